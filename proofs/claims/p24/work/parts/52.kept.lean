/-! what every call keeps -/
def LI (ξ : XiT) (σ : ZT) (τ : JT) (ns nc nl : Nat) : Prop := Wf σ ns nc nl ∧ PrOk σ ∧ Bl σ τ ns nc ∧ FlOk ξ σ ∧ ∀ j, ξ.1 j = σ 26 j
theorem li_0 {ξ : XiT} {σ : ZT} {τ : JT} {ns nc nl : Nat} {K : Int} (h : LI ξ σ τ ns nc nl) : LI ξ (zu σ 0 0 K) τ ns nc nl :=
  ⟨wf_0 (fun f hf => zu_n hf) h.1, h.2.1, h.2.2.1, h.2.2.2.1, h.2.2.2.2⟩
/-- what an hour does not touch -/
theorem cloop_o {b : Bool} {s : Int} {n k : Nat} (hn : 0 < n) (c : Nat) (hc : n ≤ c) (f : Nat) : ∀ p : ZT × Int, (cloop b s n k p).1 f c = p.1 f c := by
  induction k with
  | zero => intro p; rfl
  | succ k ih =>
    intro p
    unfold cloop
    split
    · rfl
    · rw [ih]
      have hm := Nat.mod_lt k hn
      show curZ b s (k % n) (cby b n k p) p.1 f c = _
      unfold curZ
      rw [zu_o (by omega), zu_o (by omega), zu_o (by omega), zu_o (by omega)]
theorem cur_o {b : Bool} {s y : Int} {n c : Nat} {σ : ZT} {f : Nat} (hc : n ≤ c) : cur b s n σ y f c = σ f c := by
  rcases Nat.eq_zero_or_pos n with rfl | hn
  · rfl
  · exact cloop_o hn c hc f (σ, y)
theorem lays_o {σ : ZT} {nc nl ns c f : Nat} (hc : nc ≤ c) : laysZ σ nc nl ns f c = σ f c := by
  have e1 : layN σ nc f c = σ f c := by
    by_cases h : f < 36 ∨ 39 < f
    · rw [layN_f h]
    · have v := (layN_v (σ := σ) (n := nc) (c := c)).2 hc
      have q : f = 36 ∨ f = 37 ∨ f = 38 ∨ f = 39 := by omega
      rcases q with rfl | rfl | rfl | rfl
      · exact v.1
      · exact v.2.1
      · exact v.2.2.1
      · exact v.2.2.2
  have e2 : lawC (layN σ nc) nc nl f c = layN σ nc f c := by
    unfold lawC
    split
    · rfl
    · exact cur_o hc
  unfold laysZ plaC
  split
  · rw [e2, e1]
  · rw [cur_o hc, e2, e1]
theorem setN_o {p : ZT × JT} {n c : Nat} (hc : n ≤ c) : (setN p n).1 21 c = p.1 21 c ∧ (∀ j, j < 64 → (setN p n).1 25 (64 * c + j) = p.1 25 (64 * c + j)) ∧ ∀ f, (setN p n).2 f c = p.2 f c := by
  induction n with
  | zero => exact ⟨rfl, fun _ _ => rfl, fun _ => rfl⟩
  | succ n ih =>
    have q := ih (by omega)
    refine ⟨setN_21.2 hc, fun j hj => ?_, fun f => ?_⟩
    · show zu (zu (setN p n).1 21 n _) 25 (64 * n + nowN (setN p n).1 % 64) 0 25 (64 * c + j) = _
      have hm := Nat.mod_lt (nowN (setN p n).1) (show 0 < 64 by decide)
      rw [zu_j (by omega), zu_f (by omega)]
      exact q.2.1 j hj
    · rw [← q.2.2 f]
      have hcn : c ≠ n := by omega
      have jo : ∀ (t : JT) (g : Nat) (x : Int64), ju t g n x f c = t f c := fun t g x => by
        by_cases w : f = g
        · subst w; exact ju_j hcn
        · exact ju_f w
      show ju (ju (ju (setN p n).2 22 n _) 23 n _) 24 n _ f c = _
      rw [jo, jo, jo]
theorem flows_t {x : Int} {ns f : Nat} {p : ZT × JT} (h : f ≠ 13) (h1 : f ≠ 33) (h2 : f ≠ 34) : (flowsP x ns p).2 f = p.2 f := by
  unfold flowsP
  rw [flP_t h]
  show ju (ju p.2 33 0 (p.2 33 0 + jv (if 0 < x then absZ x else 0))) 34 0 (p.2 34 0 + jv (if 0 < x then 0 else absZ x)) f = _
  rw [ju_n h2, ju_n h1]
theorem los_t {k f : Nat} {u : Int} {p : ZT × JT} (h : f ≠ 13) : (losP k u p).2 f = p.2 f := by
  unfold losP
  exact ju_n (σ := p.2) (f := 13) (i := k) (x := p.2 13 k - lossJ p.1 p.2 k u) h
theorem lst_t {k f : Nat} {u : Int} {p : ZT × JT} (h : f ≠ 13) (h' : f ≠ 35) : (lstP k u p).2 f = p.2 f := by
  unfold lstP
  show ju (losP k u p).2 35 0 (p.2 35 0 + jv u) f = _
  rw [ju_n h', los_t h]
theorem leak_t {k f : Nat} {p : ZT × JT} (h : f ≠ 13) (h' : f ≠ 35) : (leakP k p).2 f = p.2 f := by
  unfold leakP
  split
  · rw [lst_t h h', lst_t h h']
  · rw [lst_t h h']
theorem leakN_t {n f : Nat} {p : ZT × JT} (h : f ≠ 13) (h' : f ≠ 35) : (leakN p n).2 f = p.2 f := by
  induction n with
  | zero => rfl
  | succ n ih => exact (leak_t h h').trans ih
theorem dayN_t {n f : Nat} {p : ZT × JT} (h : f ≠ 13) (h' : f ≠ 35) : (dayN p n).2 f = p.2 f := by
  induction n with
  | zero => rfl
  | succ n ih =>
    have q : (dayP n (dayN p n)).2 f = (dayN p n).2 f := by
      unfold dayP
      split
      · rw [lst_t h h']
      · rfl
    exact q.trans ih
theorem bl_hour {p : ZT × JT} {ns nc nl : Nat} (h : Bl p.1 p.2 ns nc) : Bl (hourP ns nc nl p).1 (hourP ns nc nl p).2 ns nc := by
  obtain ⟨l, hl⟩ : ∃ l, l = laysZ p.1 nc nl ns := ⟨_, rfl⟩
  obtain ⟨x, hx⟩ : ∃ x, x = netZ l nc := ⟨_, rfl⟩
  obtain ⟨a, ha⟩ : ∃ a, a = setN (flowsP x ns (l, p.2)) nc := ⟨_, rfl⟩
  obtain ⟨t, ht⟩ : ∃ t, t = tickP (leakN (flgZ x a.1, a.2) ns) := ⟨_, rfl⟩
  rw [hourP_e hl hx ha ht]
  have ea : ∀ f, f ≠ 6 → f ≠ 14 → f ≠ 21 → f ≠ 25 → a.1 f = l f := fun f h1 h2 h3 h4 => by rw [ha, setN_f h3 h4]; exact flowsP_f h1 h2
  have et : ∀ f, f ≠ 1 → f ≠ 6 → f ∉ [26, 31, 32, 43, 44] → t.1 f = a.1 f := fun f h1 h2 h3 => by
    rw [ht]
    show zu (leakN (flgZ x a.1, a.2) ns).1 1 0 ((leakN (flgZ x a.1, a.2) ns).1 1 0 + 1) f = _
    rw [zu_n h1, leakN_f h2]
    exact flg_f h3
  have ett : ∀ f, f ≠ 13 → f ≠ 35 → t.2 f = a.2 f := fun f h1 h2 => by rw [ht]; exact leakN_t h1 h2
  have r : ∀ f, f ≠ 4 → f ≠ 5 → f ≠ 6 → (if t.1 1 0 % 24 = 0 then dayN t ns else t).1 f = t.1 f := fun f h1 h2 h3 => by
    split
    · exact dayN_f h1 h2 h3
    · rfl
  have r5 : ∀ k, ns ≤ k → (if t.1 1 0 % 24 = 0 then dayN t ns else t).1 5 k = t.1 5 k := fun k hk => by
    split
    · exact dayN_j hk
    · rfl
  have rt : ∀ f, f ≠ 13 → f ≠ 35 → (if t.1 1 0 % 24 = 0 then dayN t ns else t).2 f = t.2 f := fun f h1 h2 => by
    split
    · exact dayN_t h1 h2
    · rfl
  have el : ∀ f, f < 36 → l f = p.1 f := fun f h1 => by rw [hl]; exact laysZ_f (Or.inl h1)
  have elo : ∀ f c, nc ≤ c → l f c = p.1 f c := fun f c hc => by rw [hl]; exact lays_o hc
  refine ⟨fun k hk => ?_, fun c hc => ?_⟩
  · rw [r5 k hk, r 10 (by omega) (by omega) (by omega), r 11 (by omega) (by omega) (by omega), r 12 (by omega) (by omega) (by omega), et 5 (by omega) (by omega) (by decide), et 10 (by omega) (by omega) (by decide), et 11 (by omega) (by omega) (by decide), et 12 (by omega) (by omega) (by decide), ea 5 (by omega) (by omega) (by omega) (by omega), ea 10 (by omega) (by omega) (by omega) (by omega), ea 11 (by omega) (by omega) (by omega) (by omega), ea 12 (by omega) (by omega) (by omega) (by omega), el 5 (by omega), el 10 (by omega), el 11 (by omega), el 12 (by omega)]
    exact h.1 k hk
  · have so := setN_o (p := flowsP x ns (l, p.2)) (n := nc) hc
    rw [← ha] at so
    have q := h.2 c hc
    have f21 : (flowsP x ns (l, p.2)).1 21 = l 21 := flowsP_f (by omega) (by omega)
    have f25 : (flowsP x ns (l, p.2)).1 25 = l 25 := flowsP_f (by omega) (by omega)
    have ft : ∀ f, f ≠ 13 → f ≠ 33 → f ≠ 34 → (flowsP x ns (l, p.2)).2 f = p.2 f := fun f h1 h2 h3 => flows_t h1 h2 h3
    rw [r 21 (by omega) (by omega) (by omega), r 36 (by omega) (by omega) (by omega), r 37 (by omega) (by omega) (by omega), r 38 (by omega) (by omega) (by omega), r 39 (by omega) (by omega) (by omega), r 25 (by omega) (by omega) (by omega), rt 22 (by omega) (by omega), rt 23 (by omega) (by omega), rt 24 (by omega) (by omega),
      et 21 (by omega) (by omega) (by decide), et 36 (by omega) (by omega) (by decide), et 37 (by omega) (by omega) (by decide), et 38 (by omega) (by omega) (by decide), et 39 (by omega) (by omega) (by decide), et 25 (by omega) (by omega) (by decide), ett 22 (by omega) (by omega), ett 23 (by omega) (by omega), ett 24 (by omega) (by omega),
      so.1, f21, ea 36 (by omega) (by omega) (by omega) (by omega), ea 37 (by omega) (by omega) (by omega) (by omega), ea 38 (by omega) (by omega) (by omega) (by omega), ea 39 (by omega) (by omega) (by omega) (by omega), so.2.2 22, so.2.2 23, so.2.2 24, ft 22 (by omega) (by omega) (by omega), ft 23 (by omega) (by omega) (by omega), ft 24 (by omega) (by omega) (by omega), elo 21 c hc, elo 36 c hc, elo 37 c hc, elo 38 c hc, elo 39 c hc]
    refine ⟨q.1, q.2.1, q.2.2.1, q.2.2.2.1, q.2.2.2.2.1, q.2.2.2.2.2.1, q.2.2.2.2.2.2.1, q.2.2.2.2.2.2.2.1, fun j hj => ?_⟩
    rw [so.2.1 j hj, f25, el 25 (by omega)]
    exact q.2.2.2.2.2.2.2.2 j hj
theorem li_hour {ξ : XiT} {p : ZT × JT} {ns nc nl : Nat} (h : LI ξ p.1 p.2 ns nc nl) (hb : p.1 1 0 < 10000) : LI (hourX ns nc nl ξ p.1) (hourP ns nc nl p).1 (hourP ns nc nl p).2 ns nc nl := by
  obtain ⟨h1, h2, h3, h4, h5⟩ := h
  refine ⟨(wf_hour h1 hb).1, fun i hi => ?_, bl_hour h3, fl_hour h4, xi_hour h5⟩
  rw [(hour_f (p := p)).2.2.2]
  by_cases q : i = nowN p.1 % 64
  · rw [q, zu_s]; omega
  · rw [zu_j q]; exact h2 i hi
theorem li_hours {ξ : XiT} {p : ZT × JT} {ns nc nl n : Nat} (h : LI ξ p.1 p.2 ns nc nl) (hb : p.1 1 0 + n ≤ 10000) : LI (hoursX ns nc nl ξ p n) (hours ns nc nl p n).1 (hours ns nc nl p n).2 ns nc nl := by
  induction n with
  | zero => exact h
  | succ n ih =>
    have q := wf_hours (n := n) h.1 (by omega)
    exact li_hour (ih (by omega)) (by omega)
theorem li_lays {ξ : XiT} {σ : ZT} {τ : JT} {ns nc nl : Nat} (h : LI ξ σ τ ns nc nl) : LI ξ (laysZ σ nc nl ns) τ ns nc nl := by
  obtain ⟨h1, h2, h3, h4, h5⟩ := h
  have e : ∀ f, f < 36 → laysZ σ nc nl ns f = σ f := fun f hf => laysZ_f (Or.inl hf)
  refine ⟨wf_lays h1, fun i hi => by rw [e 26 (by omega)]; exact h2 i hi, ⟨fun k hk => by rw [e 5 (by omega), e 10 (by omega), e 11 (by omega), e 12 (by omega)]; exact h3.1 k hk, fun c hc => ?_⟩, fl_c (fun f hf => by rw [e f (by simp only [List.mem_cons, List.not_mem_nil, or_false] at hf; omega)]) h4, fun j => by rw [e 26 (by omega)]; exact h5 j⟩
  rw [lays_o hc, lays_o hc, lays_o hc, lays_o hc, lays_o hc, e 25 (by omega)]
  exact h3.2 c hc
/-! the calls that change a house -/
section KEPT
variable {ξ : XiT} {σ : ZT} {τ : JT} {ns nc nl : Nat}
theorem st_w {σ s : ZT} {k : Nat} {a b : Int} (h : StOk σ k) (hs : ∀ f, f < 13 → f ≠ 10 → f ≠ 11 → f ≠ 12 → s f k = σ f k) (h10 : 0 ≤ s 10 k ∧ s 10 k ≤ 100) (h11 : 0 ≤ s 11 k ∧ s 11 k ≤ 1000) (h12 : 0 ≤ s 12 k ∧ s 12 k ≤ 1000) : StOk s k := by
  unfold StOk StO0 roomZ at h ⊢
  rw [hs 3 (by omega) (by omega) (by omega) (by omega), hs 4 (by omega) (by omega) (by omega) (by omega), hs 5 (by omega) (by omega) (by omega) (by omega), hs 6 (by omega) (by omega) (by omega) (by omega), hs 7 (by omega) (by omega) (by omega) (by omega), hs 8 (by omega) (by omega) (by omega) (by omega), hs 9 (by omega) (by omega) (by omega) (by omega)]
  refine ⟨?_, h.2⟩
  have q := h.1
  omega
/-- a change of the fields that only stores have -/
theorem li_st {s : ZT} (h : LI ξ σ τ ns nc nl) (hs : ∀ f, f ∉ [4, 10, 11, 12] → s f = σ f) (hk : ∀ k, k < ns → StOk s k) (hb : ∀ k, ns ≤ k → s 10 k = 0 ∧ s 11 k = 0 ∧ s 12 k = 0) : LI ξ s τ ns nc nl := by
  obtain ⟨h1, h2, h3, h4, h5⟩ := h
  have e : ∀ f, f ∉ [4, 10, 11, 12] → s f = σ f := hs
  refine ⟨wf_g h1 (fun f hf => e f (by intro q; revert hf; simp only [List.mem_cons, List.not_mem_nil, or_false] at q; rcases q with rfl | rfl | rfl | rfl <;> decide)) (by rw [e 1 (by decide)]; exact h1.2.2.2.2.2.1.2) (fun i => by rw [e 25 (by decide)]; exact Or.inr rfl) (by rw [e 31 (by decide)]; exact h1.2.2.2.2.2.2.2.2.1) (by rw [e 32 (by decide)]; exact h1.2.2.2.2.2.2.2.2.2.1) hk (fun c hc => by rw [e 21 (by decide)]; have q := h1.2.2.2.2.2.2.2.1 c hc; unfold CuOk at q; omega), fun i hi => by rw [e 26 (by decide)]; exact h2 i hi, ⟨fun k hk9 => ⟨by rw [e 5 (by decide)]; exact (h3.1 k hk9).1, hb k hk9⟩, fun c hc => ?_⟩, fl_c (fun f hf => by rw [e f (by intro q; revert hf; simp only [List.mem_cons, List.not_mem_nil, or_false] at q; rcases q with rfl | rfl | rfl | rfl <;> decide)]) h4, fun j => by rw [e 26 (by decide)]; exact h5 j⟩
  rw [e 21 (by decide), e 36 (by decide), e 37 (by decide), e 38 (by decide), e 39 (by decide), e 25 (by decide)]
  exact h3.2 c hc
theorem li_wells {x a b : Int} (h : LI ξ σ τ ns nc nl) (hK : wlK σ x a b = 0) : LI ξ (wlS x.toNat a b σ) τ ns nc nl := by
  have hG := if1 hK
  have hG2 := (if2 hG.2).1
  have o2 := h.1.1
  have hx := hG.1
  refine li_st h (fun f hf => ?_) (fun k hk => ?_) (fun k hk => ?_)
  · unfold wlS
    simp only [List.mem_cons, List.not_mem_nil, or_false] at hf
    rw [zu_n (by omega), zu_n (by omega)]
  · have q := h.1.2.2.2.2.2.2.1 k hk
    by_cases e : k = x.toNat
    · refine st_w (a := 0) (b := 0) q (fun f h1 h2 h3 h4 => ?_) ?_ ?_ ?_
      · unfold wlS; rw [zu_f (by omega), zu_f (by omega)]
      · unfold wlS; rw [zu_f (by omega), e, zu_s]; omega
      · unfold wlS; rw [e, zu_s]; omega
      · unfold wlS; rw [zu_f (by omega), zu_f (by omega)]; have w := q.1; unfold StO0 at w; omega
    · exact st_c (fun f hf => by unfold wlS; rw [zu_o e, zu_o e]) q
  · have ne : k ≠ x.toNat := by omega
    unfold wlS
    rw [zu_o ne, zu_o ne, zu_o ne, zu_o ne, zu_o ne, zu_o ne]
    exact (h.2.2.1.1 k hk).2
theorem li_leak {x u : Int} (h : LI ξ σ τ ns nc nl) (hK : lkK σ x u = 0) : LI ξ (zu σ 12 x.toNat u) τ ns nc nl := by
  have hG := if1 hK
  have hG2 := (if2 hG.2).1
  have o2 := h.1.1
  have hx := hG.1
  refine li_st h (fun f hf => ?_) (fun k hk => ?_) (fun k hk => ?_)
  · simp only [List.mem_cons, List.not_mem_nil, or_false] at hf
    rw [zu_n (by omega)]
  · have q := h.1.2.2.2.2.2.2.1 k hk
    by_cases e : k = x.toNat
    · refine st_w (a := 0) (b := 0) q (fun f h1 h2 h3 h4 => zu_f (by omega)) ?_ ?_ ?_
      · rw [zu_f (by omega)]; have w := q.1; unfold StO0 at w; omega
      · rw [zu_f (by omega)]; have w := q.1; unfold StO0 at w; omega
      · rw [e, zu_s]; omega
    · exact st_c (fun f hf => zu_o e) q
  · have ne : k ≠ x.toNat := by omega
    rw [zu_o ne, zu_o ne, zu_o ne]
    exact (h.2.2.1.1 k hk).2
theorem li_leach {x u : Int} (h : LI ξ σ τ ns nc nl) (hK : lcK σ x u = 0) : LI ξ (zu σ 4 x.toNat (σ 4 x.toNat + u)) τ ns nc nl := by
  have hG := if1 hK
  have hG2 := if2 hG.2
  have hG3 := (if3 hG2.2).1
  have o2 := h.1.1
  have hx := hG.1
  have hu := hG2.1
  refine li_st h (fun f hf => ?_) (fun k hk => ?_) (fun k hk => ?_)
  · simp only [List.mem_cons, List.not_mem_nil, or_false] at hf
    rw [zu_n (by omega)]
  · have q := h.1.2.2.2.2.2.2.1 k hk
    by_cases e : k = x.toNat
    · rw [← e] at hG3 ⊢
      have st0 : StO0 (zu σ 4 k (σ 4 k + u)) k := by
        have w := q.1
        unfold StO0 at w ⊢
        rw [zu_s, zu_f (by omega), zu_f (by omega), zu_f (by omega), zu_f (by omega), zu_f (by omega), zu_f (by omega), zu_f (by omega), zu_f (by omega), zu_f (by omega)]
        omega
      refine ⟨st0, ?_, ?_⟩
      · have m := st_most st0
        rw [zu_f (by omega), hG3.2.1]; exact m.1
      · rw [zu_f (by omega), zu_f (by omega)]; exact q.2.2
    · exact st_c (fun f hf => zu_o e) q
  · have ne : k ≠ x.toNat := by omega
    rw [zu_o ne, zu_o ne, zu_o ne]
    exact (h.2.2.1.1 k hk).2
theorem li_heat {u : Int} (h : LI ξ σ τ ns nc nl) (hK : htK u = 0) : LI ξ (zu σ 15 0 u) τ ns nc nl := by
  have hG := (if1 hK).1
  obtain ⟨⟨a1, a2, a3, a4, a5, a6, a7, a8, a9, a10, a11⟩, h2, h3, h4, h5⟩ := h
  exact ⟨⟨a1, a2, a3, a4, a5, a6, a7, a8, a9, a10, by rw [zu_s]; omega⟩, h2, h3, h4, h5⟩
theorem li_price {t u : Int} (h : LI ξ σ τ ns nc nl) (hK : prK σ t u = 0) : LI (fun j => if j = t.toNat % 64 then u else ξ.1 j, ξ.2) (zu σ 26 (t.toNat % 64) u) τ ns nc nl := by
  have hG := (if1 hK).1
  obtain ⟨h1, h2, h3, h4, h5⟩ := h
  refine ⟨h1, fun i hi => ?_, h3, h4, fun j => ?_⟩
  · by_cases q : i = t.toNat % 64
    · rw [q, zu_s]; omega
    · rw [zu_j q]; exact h2 i hi
  · show (if j = t.toNat % 64 then u else ξ.1 j) = _
    by_cases q : j = t.toNat % 64
    · rw [if_pos q, q, zu_s]
    · rw [if_neg q, zu_j q]; exact h5 j
theorem li_nominate {x t u : Int} (h : LI ξ σ τ ns nc nl) (hK : nmK σ x t u = 0) : LI ξ (zu σ 25 (64 * x.toNat + t.toNat % 64) u) τ ns nc nl := by
  have hG := if1 hK
  have hG2 := (if2 hG.2).1
  have hx := hG.1
  have o16 := h.1.2.2.1
  have hm := Nat.mod_lt t.toNat (show 0 < 64 by decide)
  obtain ⟨⟨a1, a2, a3, a4, a5, a6, a7, a8, a9, a10, a11⟩, h2, h3, h4, h5⟩ := h
  refine ⟨⟨a1, a2, a3, a4, a5, ⟨fun i hi => ?_, a6.2⟩, a7, a8, a9, a10, a11⟩, h2, ⟨h3.1, fun c hc => ?_⟩, h4, h5⟩
  · by_cases q : i = 64 * x.toNat + t.toNat % 64
    · rw [q, zu_s]; omega
    · rw [zu_j q]; exact a6.1 i hi
  · have w := h3.2 c hc
    refine ⟨w.1, w.2.1, w.2.2.1, w.2.2.2.1, w.2.2.2.2.1, w.2.2.2.2.2.1, w.2.2.2.2.2.2.1, w.2.2.2.2.2.2.2.1, fun j hj => ?_⟩
    rw [zu_j (by omega)]
    exact w.2.2.2.2.2.2.2.2 j hj
theorem li_pass {t : Int} (h : LI ξ σ τ ns nc nl) (hK : psK σ t = 0) : LI (hoursX ns nc nl ξ (σ, τ) t.toNat) (hours ns nc nl (σ, τ) t.toNat).1 (hours ns nc nl (σ, τ) t.toNat).2 ns nc nl := by
  have hG := if1 hK
  have hG2 := if20 hG.2
  exact li_hours (p := (σ, τ)) h (by show σ 1 0 + _ ≤ _; omega)
end KEPT

