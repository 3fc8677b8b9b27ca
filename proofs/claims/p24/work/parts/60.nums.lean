/-! numbers for the law: heat, balance, an hour -/
def HtOk (p : ZT × JT) (ns : Nat) : Prop := ∀ k, k < ns → ∃ H : Int, p.2 13 k = jv H ∧ 0 ≤ H ∧ H ≤ 20000 * p.1 6 k
def BaOk (p : ZT × JT) (ns : Nat) : Prop := ∃ a b c : Int, p.2 33 0 = jv a ∧ p.2 34 0 = jv b ∧ p.2 35 0 = jv c ∧ a = b + c + sumZ (p.1 6) ns
def GaOk (p : ZT × JT) (ns : Nat) : Prop := ∀ k, k < ns → 0 ≤ p.1 6 k ∧ p.1 6 k ≤ 1000000
def GB (p : ZT × JT) (ns : Nat) : Prop := HtOk p ns ∧ BaOk p ns ∧ GaOk p ns
theorem gb_c {p q : ZT × JT} {ns : Nat} (h : GB p ns) (h6 : q.1 6 = p.1 6) (ht : ∀ f, f ∈ [13, 33, 34, 35] → q.2 f = p.2 f) : GB q ns := by
  obtain ⟨a, b, c⟩ := h
  unfold GB HtOk BaOk GaOk
  rw [h6, ht 13 (by decide), ht 33 (by decide), ht 34 (by decide), ht 35 (by decide)]
  exact ⟨a, b, c⟩
theorem loss_b {g u H : Int} (h0 : 0 ≤ u) (h1 : u ≤ g) (h2 : 1 ≤ g) (hH : 0 ≤ H) (hH2 : H ≤ 20000 * g) : 0 ≤ H - u * H / g ∧ H - u * H / g ≤ 20000 * (g - u) := by
  have e1 := Int.ediv_mul_le (u * H) (show g ≠ 0 by omega)
  have e2 := Int.lt_ediv_add_one_mul_self (u * H) (show 0 < g by omega)
  rw [Int.add_mul, Int.one_mul] at e2
  have m1 : u * H ≤ g * H := Int.mul_le_mul_of_nonneg_right h1 hH
  have m2 : H * (g - u) ≤ 20000 * g * (g - u) := Int.mul_le_mul_of_nonneg_right hH2 (by omega)
  generalize u * H / g = q at *
  constructor
  · have w : q * g ≤ H * g := by rw [Int.mul_comm H g]; omega
    have w2 := Int.le_of_mul_le_mul_right w (by omega)
    omega
  · have a1 : H * (g - u) = H * g - u * H := by rw [Int.mul_sub, Int.mul_comm H u]
    have a2 : 20000 * g * (g - u) = 20000 * (g - u) * g := by rw [Int.mul_assoc, Int.mul_assoc, Int.mul_comm g]
    have w : (H - q) * g < (20000 * (g - u) + 1) * g := by
      rw [Int.sub_mul, Int.add_mul, Int.one_mul]
      omega
    have w2 := Int.lt_of_mul_lt_mul_right w (by omega)
    omega
theorem sum_zu {σ : ZT} {f k n : Nat} {x : Int} (hk : k < n) : sumZ (zu σ f k x f) n = sumZ (σ f) n - σ f k + x := by
  rw [sumZ_u (f := σ f) hk (fun i hi => zu_j hi), zu_s]
theorem ht_los {p : ZT × JT} {k ns : Nat} {u : Int} (h : HtOk p ns) (g : GaOk p ns) (hk : k < ns) (h0 : 0 ≤ u) (h1 : u ≤ p.1 6 k) : HtOk (losP k u p) ns := by
  intro j hj
  by_cases q : j = k
  · subst q
    obtain ⟨H, a, b, c⟩ := h j hj
    have gg := g j hj
    have e13 : (losP j u p).2 13 j = p.2 13 j - lossJ p.1 p.2 j u := ju_s (σ := p.2) (f := 13) (i := j)
    have e6 : (losP j u p).1 6 j = p.1 6 j - u := zu_s (σ := p.1) (f := 6) (i := j)
    rw [e13, e6]
    unfold lossJ
    rw [a]
    by_cases z : p.1 6 j = 0
    · rw [if_pos z, jv_sub]
      exact ⟨H - 0, rfl, by omega, by omega⟩
    · rw [if_neg z, jv_mul]
      have m := mulb h0 (show u ≤ 1000000 by omega) b (show H ≤ 20000000000 by omega)
      rw [jv_div (by omega) (by omega) (by omega) (by omega), Int.tdiv_eq_ediv_of_nonneg m.1, jv_sub]
      have l := loss_b h0 h1 (by omega) b c
      exact ⟨_, rfl, l.1, l.2⟩
  · obtain ⟨H, a, b, c⟩ := h j hj
    have e13 : (losP k u p).2 13 j = p.2 13 j := ju_j (σ := p.2) (f := 13) (i := k) q
    have e6 : (losP k u p).1 6 j = p.1 6 j := zu_j (σ := p.1) (f := 6) (i := k) q
    exact ⟨H, by rw [e13]; exact a, b, by rw [e6]; exact c⟩
theorem ga_los {p : ZT × JT} {k ns : Nat} {u : Int} (g : GaOk p ns) (hk : k < ns) (h0 : 0 ≤ u) (h1 : u ≤ p.1 6 k) : GaOk (losP k u p) ns := by
  intro j hj
  have gg := g j hj
  by_cases q : j = k
  · subst q
    have e6 : (losP j u p).1 6 j = p.1 6 j - u := zu_s (σ := p.1) (f := 6) (i := j)
    rw [e6]; omega
  · have e6 : (losP k u p).1 6 j = p.1 6 j := zu_j (σ := p.1) (f := 6) (i := k) q
    rw [e6]; exact gg
theorem sum_los {p : ZT × JT} {k ns : Nat} {u : Int} (hk : k < ns) : sumZ ((losP k u p).1 6) ns = sumZ (p.1 6) ns - u := by
  have e : sumZ ((losP k u p).1 6) ns = sumZ (p.1 6) ns - p.1 6 k + (p.1 6 k - u) := sum_zu (σ := p.1) (f := 6) (x := p.1 6 k - u) hk
  omega
theorem gb_lst {p : ZT × JT} {k ns : Nat} {u : Int} (h : GB p ns) (hk : k < ns) (h0 : 0 ≤ u) (h1 : u ≤ p.1 6 k) : GB (lstP k u p) ns := by
  obtain ⟨ht, ⟨a, b, c, e1, e2, e3, e4⟩, g⟩ := h
  have t : ∀ f, f ≠ 35 → (lstP k u p).2 f = (losP k u p).2 f := fun f hf => ju_n (σ := (losP k u p).2) (f := 35) (i := 0) hf
  have z : (lstP k u p).1 = (losP k u p).1 := rfl
  refine ⟨fun j hj => ?_, ⟨a, b, c + u, ?_, ?_, ?_, ?_⟩, ?_⟩
  · rw [t 13 (by omega), z]; exact ht_los ht g hk h0 h1 j hj
  · rw [t 33 (by omega), los_t (by omega)]; exact e1
  · rw [t 34 (by omega), los_t (by omega)]; exact e2
  · have w : (lstP k u p).2 35 0 = p.2 35 0 + jv u := ju_s (σ := (losP k u p).2) (f := 35) (i := 0)
    rw [w, e3, jv_add]
  · rw [z, sum_los hk]; omega
  · exact ga_los g hk h0 h1
theorem gb_leak {p : ZT × JT} {k ns : Nat} (h : GB p ns) (hk : k < ns) (h12 : 0 ≤ p.1 12 k) (h9 : 0 ≤ p.1 9 k) : GB (leakP k p) ns := by
  have g := h.2.2 k hk
  have a := gb_lst (u := min (p.1 12 k) (p.1 6 k)) h hk (by omega) (by omega)
  unfold leakP
  split
  · rename_i q
    have e : (lstP k (min (p.1 12 k) (p.1 6 k)) p).1 6 k = p.1 6 k - min (p.1 12 k) (p.1 6 k) := zu_s (σ := p.1) (f := 6) (i := k)
    exact gb_lst a hk (by omega) (by rw [e]; omega)
  · exact a
theorem gb_leakN {p : ZT × JT} {n ns : Nat} (h : GB p ns) (hn : n ≤ ns) (hs : ∀ k, k < ns → 0 ≤ p.1 12 k ∧ 0 ≤ p.1 9 k) : GB (leakN p n) ns := by
  induction n with
  | zero => exact h
  | succ n ih =>
    have w := hs n (by omega)
    exact gb_leak (ih (by omega)) (by omega) (by rw [leakN_f (by omega)]; exact w.1) (by rw [leakN_f (by omega)]; exact w.2)
theorem gb_day {p : ZT × JT} {k ns : Nat} (h : GB p ns) (hk : k < ns) (hs : StOk p.1 k) : GB (dayP k p) ns := by
  have e6 : moveZ p.1 k 6 = p.1 6 := moveZ_f (by omega) (by omega)
  have g : GB (moveZ p.1 k, p.2) ns := gb_c h e6 (fun f _ => rfl)
  have m := st_most (moveZ_ok hs)
  unfold dayP
  split
  · rename_i q
    exact gb_lst g hk (by omega) (by show _ ≤ moveZ p.1 k 6 k; rw [e6]; omega)
  · exact g
theorem gb_dayN {p : ZT × JT} {n ns : Nat} (h : GB p ns) (hn : n ≤ ns) (hs : ∀ k, k < ns → StOk p.1 k) : GB (dayN p n) ns := by
  induction n with
  | zero => exact h
  | succ n ih => exact gb_day (ih (by omega)) (by omega) (dayN_st (hs n (by omega)))
theorem ht_get {p : ZT × JT} {k ns : Nat} {u : Int} (h : HtOk p ns) (h0 : 0 ≤ u) (h15 : 0 ≤ p.1 15 0 ∧ p.1 15 0 ≤ 20000) : HtOk (getP k u p) ns := by
  intro j hj
  obtain ⟨H, a, b, c⟩ := h j hj
  by_cases q : j = k
  · subst q
    have e13 : (getP j u p).2 13 j = p.2 13 j + jv (u * p.1 15 0) := ju_s (σ := p.2) (f := 13) (i := j)
    have e6 : (getP j u p).1 6 j = p.1 6 j + u := zu_s (σ := p.1) (f := 6) (i := j)
    have m := mulb h0 (Int.le_refl u) h15.1 h15.2
    rw [e13, e6, a, jv_add]
    exact ⟨_, rfl, by omega, by omega⟩
  · have e13 : (getP k u p).2 13 j = p.2 13 j := ju_j (σ := p.2) (f := 13) (i := k) q
    have e6 : (getP k u p).1 6 j = p.1 6 j := zu_j (σ := p.1) (f := 6) (i := k) q
    exact ⟨H, by rw [e13]; exact a, b, by rw [e6]; exact c⟩
theorem ga_get {p : ZT × JT} {k ns : Nat} {u : Int} (g : GaOk p ns) (h0 : 0 ≤ u) (h1 : u ≤ 1000000 - p.1 6 k) : GaOk (getP k u p) ns := by
  intro j hj
  have gg := g j hj
  by_cases q : j = k
  · subst q
    have e6 : (getP j u p).1 6 j = p.1 6 j + u := zu_s (σ := p.1) (f := 6) (i := j)
    rw [e6]; omega
  · have e6 : (getP k u p).1 6 j = p.1 6 j := zu_j (σ := p.1) (f := 6) (i := k) q
    rw [e6]; exact gg
theorem sum_get {p : ZT × JT} {k ns : Nat} {u : Int} (hk : k < ns) : sumZ ((getP k u p).1 6) ns = sumZ (p.1 6) ns + u := by
  have e : sumZ ((getP k u p).1 6) ns = sumZ (p.1 6) ns - p.1 6 k + (p.1 6 k + u) := sum_zu (σ := p.1) (f := 6) (x := p.1 6 k + u) hk
  omega
theorem gb_fl {b : Bool} {p : ZT × JT} {r : Int} {n ns : Nat} (hn : n ≤ ns) (h : HtOk p ns) (g : GaOk p ns) (h0 : 0 ≤ r) (hr : ∀ j, j < ns → 0 ≤ p.1 14 j) (hin : b = true → ∀ j, j < ns → p.1 14 j ≤ 1000000 - p.1 6 j) (hout : b = false → ∀ j, j < ns → p.1 14 j ≤ p.1 6 j) (h15 : 0 ≤ p.1 15 0 ∧ p.1 15 0 ≤ 20000) :
    HtOk (flP b p r n).1 ns ∧ GaOk (flP b p r n).1 ns ∧ sumZ ((flP b p r n).1.1 6) ns = sumZ (p.1 6) ns + (if b = true then r - (flP b p r n).2 else (flP b p r n).2 - r) := by
  induction n with
  | zero =>
    refine ⟨h, g, ?_⟩
    show sumZ (p.1 6) ns = sumZ (p.1 6) ns + (if b = true then r - r else r - r)
    split <;> omega
  | succ n ih =>
    obtain ⟨i1, i2, i3⟩ := ih (by omega)
    have a := flP_r (b := b) (p := p) (n := n) h0 (fun j hj => hr j (by omega))
    have q14 : (flP b p r n).1.1 14 n = p.1 14 n := by rw [flP_f (by omega)]
    have q6 : (flP b p r n).1.1 6 n = p.1 6 n := flP_6 (Nat.le_refl _)
    have q15 : (flP b p r n).1.1 15 0 = p.1 15 0 := by rw [flP_f (by omega)]
    have hrn := hr n (by omega)
    have e2 : (flP b p r (n + 1)).2 = (flP b p r n).2 - min (flP b p r n).2 ((flP b p r n).1.1 14 n) := rfl
    rw [e2]
    cases b with
    | true =>
      have hi := hin rfl n (by omega)
      have e1 : (flP true p r (n + 1)).1 = getP n (min (flP true p r n).2 ((flP true p r n).1.1 14 n)) (flP true p r n).1 := rfl
      rw [e1]
      refine ⟨ht_get i1 (by omega) (by rw [q15]; exact h15), ga_get i2 (by omega) (by omega), ?_⟩
      rw [sum_get (by omega), i3]
      simp only [if_true]
      omega
    | false =>
      have hi := hout rfl n (by omega)
      have e1 : (flP false p r (n + 1)).1 = losP n (min (flP false p r n).2 ((flP false p r n).1.1 14 n)) (flP false p r n).1 := rfl
      rw [e1]
      refine ⟨ht_los i1 i2 (by omega) (by omega) (by omega), ga_los i2 (by omega) (by omega) (by omega), ?_⟩
      rw [sum_los (by omega), i3]
      simp only [Bool.false_eq_true, if_false]
      omega
theorem gb_flows {σ : ZT} {τ : JT} {x : Int} {ns : Nat} (hst : ∀ k, k < ns → StOk σ k) (h15 : 0 ≤ σ 15 0 ∧ σ 15 0 ≤ 20000) (g : GB (σ, τ) ns) (hx : x ≠ 0 → absZ x ≤ sumZ (fun k => rateZ σ k (decide (0 < x))) ns) :
    GB (flowsP x ns (σ, τ)) ns ∧ (flowsP x ns (σ, τ)).2 33 0 = τ 33 0 + jv (if 0 < x then absZ x else 0) ∧ (flowsP x ns (σ, τ)).2 34 0 = τ 34 0 + jv (if 0 < x then 0 else absZ x) := by
  obtain ⟨p, hp⟩ : ∃ p, p = wentP x (rtN σ (decide (0 < x)) ns, τ) := ⟨_, rfl⟩
  have hF : flowsP x ns (σ, τ) = (flP (decide (0 < x)) p (absZ x) ns).1 := by rw [hp]; rfl
  have p1 : p.1 = rtN σ (decide (0 < x)) ns := by rw [hp]; rfl
  have e6 : p.1 6 = σ 6 := by rw [p1]; exact rtN_f (by omega)
  have e15 : p.1 15 = σ 15 := by rw [p1]; exact rtN_f (by omega)
  have e14 : ∀ j, j < ns → p.1 14 j = rateZ σ j (decide (0 < x)) := fun j hj => by rw [p1]; exact rtN_v.1 hj
  have w := went_v (x := x) (s := rtN σ (decide (0 < x)) ns) (τ := τ)
  rw [← hp] at w
  have p13 : p.2 13 = τ 13 := by rw [hp, went_e, ju_n (by omega), ju_n (by omega)]
  have p35 : p.2 35 = τ 35 := by rw [hp, went_e, ju_n (by omega), ju_n (by omega)]
  have p33 : p.2 33 0 = τ 33 0 + jv (if 0 < x then absZ x else 0) := by rw [w.1, ju_s]
  have p34 : p.2 34 0 = τ 34 0 + jv (if 0 < x then 0 else absZ x) := by rw [w.2, ju_s]
  obtain ⟨ht, ⟨a, b, c, b1, b2, b3, b4⟩, ga⟩ := g
  have b1 : τ 33 0 = jv a := b1
  have b2 : τ 34 0 = jv b := b2
  have b3 : τ 35 0 = jv c := b3
  have b4 : a = b + c + sumZ (σ 6) ns := b4
  have hx0 : 0 ≤ absZ x := by unfold absZ; split <;> omega
  have hrn : ∀ j, j < ns → 0 ≤ p.1 14 j := fun j hj => by rw [e14 j hj]; exact (rate_b (hst j hj)).1
  have f := gb_fl (b := decide (0 < x)) (p := p) (r := absZ x) (n := ns) (ns := ns) (Nat.le_refl _) (by unfold HtOk; rw [e6, p13]; exact ht) (by unfold GaOk; rw [e6]; exact ga) hx0 hrn (fun hb j hj => by
      rw [e14 j hj, e6]
      have r := (rate_b (b := decide (0 < x)) (hst j hj)).2.2.1 hb
      have m := st_most (hst j hj).1
      omega) (fun hb j hj => by
      rw [e14 j hj, e6]
      exact (rate_b (b := decide (0 < x)) (hst j hj)).2.2.2.1 hb) (by rw [e15]; exact h15)
  have fr := flP_r (b := decide (0 < x)) (p := p) (r := absZ x) (n := ns) hx0 hrn
  have es : sumZ (p.1 14) ns = sumZ (fun k => rateZ σ k (decide (0 < x))) ns := sumZ_c (fun i hi => e14 i hi)
  have r0 : (flP (decide (0 < x)) p (absZ x) ns).2 = 0 := by
    by_cases z : x = 0
    · have : absZ x = 0 := by rw [z]; rfl
      omega
    · have := hx z
      rw [← es] at this
      have := fr.2.2
      split at this <;> omega
  rw [r0] at f
  have sx : sumZ ((flP (decide (0 < x)) p (absZ x) ns).1.1 6) ns = sumZ (σ 6) ns + x := by
    rw [f.2.2, e6]
    by_cases z : 0 < x
    · rw [if_pos (decide_eq_true z)]; unfold absZ; rw [if_pos z]; omega
    · rw [if_neg (by rw [decide_eq_false z]; decide)]; unfold absZ; rw [if_neg z]; omega
  rw [hF]
  refine ⟨⟨f.1, ⟨a + (if 0 < x then absZ x else 0), b + (if 0 < x then 0 else absZ x), c, ?_, ?_, ?_, ?_⟩, f.2.1⟩, ?_, ?_⟩
  · rw [flP_t (by omega), p33, b1, jv_add]
  · rw [flP_t (by omega), p34, b2, jv_add]
  · rw [flP_t (by omega), p35, b3]
  · rw [sx]
    by_cases z : 0 < x
    · rw [if_pos z, if_pos z]; unfold absZ; rw [if_pos z]; omega
    · rw [if_neg z, if_neg z]; unfold absZ; rw [if_neg z]; omega
  · rw [flP_t (by omega), p33]
  · rw [flP_t (by omega), p34]
theorem setN_25v {p : ZT × JT} {n : Nat} : ∀ c j, j < 64 → (setN p n).1 25 (64 * c + j) = if c < n ∧ j = nowN p.1 % 64 then 0 else p.1 25 (64 * c + j) := by
  induction n with
  | zero => intro c j hj; rw [if_neg (by omega)]; rfl
  | succ n ih =>
    intro c j hj
    have en : nowN (setN p n).1 = nowN p.1 := by unfold nowN; rw [setN_f (by omega) (by omega)]
    have e : (setN p (n + 1)).1 25 (64 * c + j) = zu (setN p n).1 25 (64 * n + nowN (setN p n).1 % 64) 0 25 (64 * c + j) := rfl
    have hm := Nat.mod_lt (nowN p.1) (show 0 < 64 by decide)
    rw [e, en]
    by_cases q : 64 * c + j = 64 * n + nowN p.1 % 64
    · rw [q, zu_s, if_pos (by omega)]
    · rw [zu_j q, ih c j hj]
      by_cases r : c < n ∧ j = nowN p.1 % 64
      · rw [if_pos r, if_pos (by omega)]
      · rw [if_neg r, if_neg (by omega)]
theorem sum_ab {f g a b : Nat → Int} {n : Nat} (h : ∀ c, c < n → f c = g c + (a c - b c)) : sumZ f n = sumZ g n + (sumZ a n - sumZ b n) := by
  induction n with
  | zero => rfl
  | succ n ih =>
    have i := ih (fun c hc => h c (by omega))
    have e := h n (by omega)
    show sumZ f n + f n = sumZ g n + g n + (sumZ a n + a n - (sumZ b n + b n))
    omega
/-- an hour in numbers -/
theorem hour_num {p : ZT × JT} {ns nc nl : Nat} (h : Wf p.1 ns nc nl) (hb : p.1 1 0 < 10000) (g : GB p ns) {x : Int} (hx : x = netZ (laysZ p.1 nc nl ns) nc) :
    GB (hourP ns nc nl p) ns ∧ (hourP ns nc nl p).2 33 0 = p.2 33 0 + jv (if 0 < x then absZ x else 0) ∧ (hourP ns nc nl p).2 34 0 = p.2 34 0 + jv (if 0 < x then 0 else absZ x) ∧
    (∀ c, c < nc → (hourP ns nc nl p).1 21 c = p.1 21 c + (laysZ p.1 nc nl ns 36 c - laysZ p.1 nc nl ns 37 c)) ∧ (hourP ns nc nl p).1 15 = p.1 15 ∧
    (∀ c j, j < 64 → (hourP ns nc nl p).1 25 (64 * c + j) = if c < nc ∧ j = nowN p.1 % 64 then 0 else p.1 25 (64 * c + j)) := by
  obtain ⟨l, hl⟩ : ∃ l, l = laysZ p.1 nc nl ns := ⟨_, rfl⟩
  obtain ⟨a, ha⟩ : ∃ a, a = setN (flowsP x ns (l, p.2)) nc := ⟨_, rfl⟩
  obtain ⟨t, ht⟩ : ∃ t, t = tickP (leakN (flgZ x a.1, a.2) ns) := ⟨_, rfl⟩
  rw [hourP_e hl (by rw [hx, hl]) ha ht, ← hl]
  have el : ∀ f, f < 36 → l f = p.1 f := fun f hf => by rw [hl]; exact laysZ_f (Or.inl hf)
  have wl : Wf l ns nc nl := by rw [hl]; exact wf_lays h
  have cap := lays_cap h
  rw [← hl] at cap hx
  rw [← hx] at cap
  have gf := gb_flows (σ := l) (τ := p.2) (x := x) (ns := ns) (fun k hk => wl.2.2.2.2.2.2.1 k hk) wl.2.2.2.2.2.2.2.2.2.2 (gb_c g (el 6 (by omega)) (fun f _ => rfl)) cap
  have ga : GB a ns := by rw [ha]; exact gb_c gf.1 (setN_f (by omega) (by omega)) (fun f hf => by
    simp only [List.mem_cons, List.not_mem_nil, or_false] at hf
    exact setN_t (by omega) (by omega) (by omega))
  have w1 : Wf (flowsP x ns (l, p.2)).1 ns nc nl := wf_flows wl
  have w2 : Wf a.1 ns nc nl := by
    rw [ha]
    exact wf_set w1 (Nat.le_refl _) (by rw [hl]; exact lays_set h)
  have w3 : Wf (flgZ x a.1) ns nc nl := wf_flg w2
  have e6 : flgZ x a.1 6 = a.1 6 := flg_f (by decide)
  have gl : GB (leakN (flgZ x a.1, a.2) ns) ns := gb_leakN (p := (flgZ x a.1, a.2)) (gb_c ga e6 (fun f _ => rfl)) (Nat.le_refl _) (fun k hk => by
    have q := (w3.2.2.2.2.2.2.1 k hk).1
    unfold StO0 at q
    show 0 ≤ flgZ x a.1 12 k ∧ 0 ≤ flgZ x a.1 9 k
    omega)
  have w4 : Wf (leakN (flgZ x a.1, a.2) ns).1 ns nc nl := wf_leak (p := (flgZ x a.1, a.2)) w3
  have gt : GB t ns := by rw [ht]; exact gb_c gl (zu_n (σ := (leakN (flgZ x a.1, a.2) ns).1) (f := 1) (i := 0) (g := 6) (x := (leakN (flgZ x a.1, a.2) ns).1 1 0 + 1) (by omega)) (fun f _ => rfl)
  have e1 : (leakN (flgZ x a.1, a.2) ns).1 1 0 = p.1 1 0 := by
    rw [leakN_f (by omega)]
    show flgZ x a.1 1 0 = _
    rw [flg_f (by decide), ha, setN_f (by omega) (by omega), flowsP_f (by omega) (by omega)]
    show l 1 0 = _
    rw [el 1 (by omega)]
  have w5 : Wf t.1 ns nc nl := by rw [ht]; exact wf_tick w4 (by rw [e1]; exact hb)
  have tf : ∀ f, f ≠ 1 → f ≠ 6 → f ∉ [26, 31, 32, 43, 44] → t.1 f = a.1 f := fun f h1 h2 h3 => by
    rw [ht]
    show zu (leakN (flgZ x a.1, a.2) ns).1 1 0 ((leakN (flgZ x a.1, a.2) ns).1 1 0 + 1) f = _
    rw [zu_n h1, leakN_f h2]
    exact flg_f h3
  have tt : ∀ f, f ≠ 13 → f ≠ 35 → t.2 f = a.2 f := fun f h1 h2 => by rw [ht]; exact leakN_t h1 h2
  have r : ∀ f, f ≠ 4 → f ≠ 5 → f ≠ 6 → (if t.1 1 0 % 24 = 0 then dayN t ns else t).1 f = t.1 f := fun f h1 h2 h3 => by
    split
    · exact dayN_f h1 h2 h3
    · rfl
  have rt : ∀ f, f ≠ 13 → f ≠ 35 → (if t.1 1 0 % 24 = 0 then dayN t ns else t).2 f = t.2 f := fun f h1 h2 => by
    split
    · exact dayN_t h1 h2
    · rfl
  have at33 : a.2 33 = (flowsP x ns (l, p.2)).2 33 := by rw [ha]; exact setN_t (by omega) (by omega) (by omega)
  have at34 : a.2 34 = (flowsP x ns (l, p.2)).2 34 := by rw [ha]; exact setN_t (by omega) (by omega) (by omega)
  have ff : ∀ f, f ≠ 6 → f ≠ 14 → (flowsP x ns (l, p.2)).1 f = l f := fun f h1 h2 => flowsP_f h1 h2
  refine ⟨?_, ?_, ?_, fun c hc => ?_, ?_, fun c j hj => ?_⟩
  · split
    · exact gb_dayN gt (Nat.le_refl _) (fun k hk => w5.2.2.2.2.2.2.1 k hk)
    · exact gt
  · rw [rt 33 (by omega) (by omega), tt 33 (by omega) (by omega), at33]; exact gf.2.1
  · rw [rt 34 (by omega) (by omega), tt 34 (by omega) (by omega), at34]; exact gf.2.2
  · rw [r 21 (by omega) (by omega) (by omega), tf 21 (by omega) (by omega) (by decide), ha, setN_21.1 hc, ff 21 (by omega) (by omega), ff 36 (by omega) (by omega), ff 37 (by omega) (by omega), el 21 (by omega)]
  · rw [r 15 (by omega) (by omega) (by omega), tf 15 (by omega) (by omega) (by decide), ha, setN_f (by omega) (by omega), ff 15 (by omega) (by omega), el 15 (by omega)]
  · rw [r 25 (by omega) (by omega) (by omega), tf 25 (by omega) (by omega) (by decide), ha, setN_25v c j hj, ff 25 (by omega) (by omega), el 25 (by omega)]
    have en : nowN (flowsP x ns (l, p.2)).1 = nowN p.1 := by unfold nowN; rw [ff 1 (by omega) (by omega), el 1 (by omega)]
    rw [en]
