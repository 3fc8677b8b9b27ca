/-! AN HOUR keeps a house as it may be -/
theorem zu_o {σ : ZT} {f i g j : Nat} {x : Int} (h : j ≠ i) : zu σ f i x g j = σ g j := by
  by_cases q : g = f
  · subst q; exact zu_j h
  · exact zu_f q
theorem wf_g {σ s : ZT} {ns nc nl : Nat} (hw : Wf σ ns nc nl) (h : ∀ f, f ∈ [2, 15, 16, 17, 18, 19, 20, 27, 28, 29, 30] → s f = σ f) (h1 : 0 ≤ s 1 0 ∧ s 1 0 ≤ 10000) (h25 : ∀ i, s 25 i = 0 ∨ s 25 i = σ 25 i) (h31 : -1 ≤ s 31 0 ∧ s 31 0 ≤ 1) (h32 : -1 ≤ s 32 0 ∧ s 32 0 ≤ 1) (hs : ∀ k, k < ns → StOk s k) (hi : ∀ c, c < nc → 0 ≤ s 21 c ∧ s 21 c ≤ σ 17 c) : Wf s ns nc nl := by
  obtain ⟨a1, a2, a3, a4, a5, a6, a7, a8, a9, a10, a11⟩ := hw
  refine ⟨by rw [h 2 (by decide)]; exact a1, a2, by rw [h 16 (by decide)]; exact a3, a4, ?_, ⟨fun i hq => ?_, h1⟩, hs, fun c hc => ?_, h31, h32, by rw [h 15 (by decide)]; exact a11⟩
  · unfold LwOk at a5 ⊢
    rw [h 27 (by decide), h 28 (by decide), h 29 (by decide), h 30 (by decide)]; exact a5
  · have q := a6.1 i hq
    rcases h25 i with e | e <;> rw [e] <;> omega
  · have q := a8 c hc
    have r := hi c hc
    unfold CuOk at q ⊢
    rw [h 17 (by decide), h 18 (by decide), h 19 (by decide), h 20 (by decide)]; omega
theorem st_g {σ s : ZT} {k : Nat} (h : StOk σ k) (hf : ∀ f, f < 13 → f ≠ 6 → s f k = σ f k) (h0 : 0 ≤ s 6 k) (h1 : s 6 k ≤ mostZ (σ 8 k) (roomZ σ k)) : StOk s k := by
  have hm := st_most h.1
  obtain ⟨⟨g1, g2, g3, g4, g5, g6, g7, g8, g9⟩, gm, gw⟩ := h
  refine ⟨?_, ?_, ?_⟩
  · unfold StO0
    rw [hf 3 (by omega) (by omega), hf 4 (by omega) (by omega), hf 5 (by omega) (by omega), hf 7 (by omega) (by omega), hf 8 (by omega) (by omega), hf 9 (by omega) (by omega), hf 10 (by omega) (by omega), hf 11 (by omega) (by omega), hf 12 (by omega) (by omega)]
    exact ⟨g1, g2, g3, g4, g5, g6, h0, by omega, g9⟩
  · unfold roomZ at h1 ⊢
    rw [hf 4 (by omega) (by omega), hf 5 (by omega) (by omega), hf 8 (by omega) (by omega)]
    exact h1
  · rw [hf 3 (by omega) (by omega), hf 5 (by omega) (by omega)]
    exact gw
theorem cloop_mo {b : Bool} {s : Int} {n k : Nat} (hn : 0 < n) (hs : 0 ≤ s ∧ s ≤ 3) (c : Nat) : ∀ p : ZT × Int, PlOk p.1 n → (cloop b s n k p).1 36 c ≤ p.1 36 c ∧ (cloop b s n k p).1 37 c ≤ p.1 37 c := by
  induction k with
  | zero => intro p h; exact ⟨Int.le_refl _, Int.le_refl _⟩
  | succ k ih =>
    intro p h
    unfold cloop
    split
    · exact ⟨Int.le_refl _, Int.le_refl _⟩
    · have q := cby_b (b := b) (k := k) h hn (by omega)
      have z := ih (cstep b s n k p) (curZ_ok h (Nat.mod_lt _ hn) hs q.1 q.2.2.1 q.2.2.2)
      have v := curZ_v (b := b) (s := s) (y := cby b n k p) (c := k % n) (j := c) (σ := p.1)
      have v1 : (cstep b s n k p).1 36 c = _ := v.1
      have v2 : (cstep b s n k p).1 37 c = _ := v.2.1
      rw [v1, v2] at z
      by_cases e : c = k % n
      · subst e
        simp only [if_true] at z
        cases b
        · simp only [Bool.false_eq_true, if_false] at z; omega
        · simp only [if_true] at z; omega
      · simp only [e, if_false] at z; exact z
theorem cur_mo {b : Bool} {s y : Int} {n c : Nat} {σ : ZT} (hs : 0 ≤ s ∧ s ≤ 3) (h : PlOk σ n) (hc : c < n) : cur b s n σ y 36 c ≤ σ 36 c ∧ cur b s n σ y 37 c ≤ σ 37 c := cloop_mo (by omega) hs c (σ, y) h
theorem laysZ_mo {σ : ZT} {nc nl ns c : Nat} (h : ∀ c, c < nc → CuOk σ c) (hc : c < nc) : laysZ σ nc nl ns 36 c ≤ brZ σ c ∧ laysZ σ nc nl ns 37 c ≤ tkZ σ c := by
  have a := layN_ok h
  have b := lawC_ok (nl := nl) a
  have v := (layN_v (σ := σ) (n := nc) (c := c)).1 hc
  have q1 : lawC (layN σ nc) nc nl 36 c ≤ layN σ nc 36 c ∧ lawC (layN σ nc) nc nl 37 c ≤ layN σ nc 37 c := by
    unfold lawC
    split
    · exact ⟨Int.le_refl _, Int.le_refl _⟩
    · exact cur_mo (by omega) a hc
  have q2 : laysZ σ nc nl ns 36 c ≤ lawC (layN σ nc) nc nl 36 c ∧ laysZ σ nc nl ns 37 c ≤ lawC (layN σ nc) nc nl 37 c := by
    unfold laysZ plaC
    split
    · exact ⟨Int.le_refl _, Int.le_refl _⟩
    · exact cur_mo (by omega) b hc
  omega
theorem wf_lays {σ : ZT} {ns nc nl : Nat} (h : Wf σ ns nc nl) : Wf (laysZ σ nc nl ns) ns nc nl := wf_c (fun f hf => laysZ_f (Or.inl hf)) h
theorem wf_flows {σ : ZT} {τ : JT} {ns nc nl : Nat} {x : Int} (h : Wf σ ns nc nl) : Wf (flowsP x ns (σ, τ)).1 ns nc nl := by
  have e : ∀ f, f ≠ 6 → f ≠ 14 → (flowsP x ns (σ, τ)).1 f = σ f := fun f z1 z2 => flowsP_f z1 z2
  refine wf_g h (fun f hf => e f (by intro q; subst q; revert hf; decide) (by intro q; subst q; revert hf; decide)) ?_ ?_ ?_ ?_ (fun k hk => flowsP_st h.2.2.2.2.2.2.1 hk) ?_
  · rw [e 1 (by omega) (by omega)]; exact h.2.2.2.2.2.1.2
  · intro i; rw [e 25 (by omega) (by omega)]; exact Or.inr rfl
  · rw [e 31 (by omega) (by omega)]; exact h.2.2.2.2.2.2.2.2.1
  · rw [e 32 (by omega) (by omega)]; exact h.2.2.2.2.2.2.2.2.2.1
  · intro c hc; rw [e 21 (by omega) (by omega)]
    have q := h.2.2.2.2.2.2.2.1 c hc
    unfold CuOk at q; omega
theorem wf_set {p : ZT × JT} {ns nc nl n : Nat} (h : Wf p.1 ns nc nl) (hn : n ≤ nc) (hp : ∀ c, c < nc → 0 ≤ p.1 36 c ∧ 0 ≤ p.1 37 c ∧ p.1 36 c ≤ p.1 17 c - p.1 21 c ∧ p.1 37 c ≤ p.1 21 c) : Wf (setN p n).1 ns nc nl := by
  have e : ∀ f, f ≠ 21 → f ≠ 25 → (setN p n).1 f = p.1 f := fun f z1 z2 => setN_f z1 z2
  refine wf_g h (fun f hf => e f (by intro q; subst q; revert hf; decide) (by intro q; subst q; revert hf; decide)) ?_ (fun i => setN_25) ?_ ?_ (fun k hk => st_c (fun f hf => by rw [e f (by omega) (by omega)]) (h.2.2.2.2.2.2.1 k hk)) ?_
  · rw [e 1 (by omega) (by omega)]; exact h.2.2.2.2.2.1.2
  · rw [e 31 (by omega) (by omega)]; exact h.2.2.2.2.2.2.2.2.1
  · rw [e 32 (by omega) (by omega)]; exact h.2.2.2.2.2.2.2.2.2.1
  · intro c hc
    have q := h.2.2.2.2.2.2.2.1 c hc
    have r := hp c hc
    unfold CuOk at q
    rcases Nat.lt_or_ge c n with z | z
    · rw [setN_21.1 z]; omega
    · rw [setN_21.2 z]; omega
theorem sgn_b {x : Int} : -1 ≤ sgnZ x ∧ sgnZ x ≤ 1 := by unfold sgnZ; split <;> (try split) <;> omega
theorem flg_f {x : Int} {σ : ZT} {f : Nat} (h : f ∉ [26, 31, 32, 43, 44]) : flgZ x σ f = σ f := by
  simp only [List.mem_cons, List.not_mem_nil, or_false] at h
  unfold flgZ
  rw [zu_n (by omega), zu_n (by omega), zu_n (by omega), zu_n (by omega), zu_n (by omega)]
theorem wf_flg {σ : ZT} {ns nc nl : Nat} {x : Int} (h : Wf σ ns nc nl) : Wf (flgZ x σ) ns nc nl := by
  have e : ∀ f, f ∉ [26, 31, 32, 43, 44] → flgZ x σ f = σ f := fun f z => flg_f z
  refine wf_g h (fun f hf => e f (by intro q; revert hf; simp only [List.mem_cons, List.not_mem_nil, or_false] at q; rcases q with rfl | rfl | rfl | rfl | rfl <;> decide)) ?_ ?_ sgn_b h.2.2.2.2.2.2.2.2.1 (fun k hk => st_c (fun f hf => by rw [e f (by simp only [List.mem_cons, List.not_mem_nil, or_false]; omega)]) (h.2.2.2.2.2.2.1 k hk)) ?_
  · rw [e 1 (by decide)]; exact h.2.2.2.2.2.1.2
  · intro i; rw [e 25 (by decide)]; exact Or.inr rfl
  · intro c hc; rw [e 21 (by decide)]
    have q := h.2.2.2.2.2.2.2.1 c hc
    unfold CuOk at q; omega
theorem leakP_f {k f : Nat} {p : ZT × JT} (h : f ≠ 6) : (leakP k p).1 f = p.1 f := by
  unfold leakP
  split
  · show zu (zu p.1 6 k _) 6 k _ f = _
    rw [zu_n h, zu_n h]
  · exact zu_n h
theorem leakP_j {k j : Nat} {p : ZT × JT} (h : j ≠ k) : (leakP k p).1 6 j = p.1 6 j := by
  unfold leakP
  split
  · show zu (zu p.1 6 k _) 6 k _ 6 j = _
    rw [zu_j h, zu_j h]
  · show zu p.1 6 k _ 6 j = _
    exact zu_j h
theorem leakP_b {k : Nat} {p : ZT × JT} (h : StO0 p.1 k) : 0 ≤ (leakP k p).1 6 k ∧ (leakP k p).1 6 k ≤ p.1 6 k := by
  unfold StO0 at h
  unfold leakP
  split
  · rename_i q
    have e : (lstP k (p.1 6 k - min (p.1 12 k) (p.1 6 k) - p.1 9 k) (lstP k (min (p.1 12 k) (p.1 6 k)) p)).1 6 k = p.1 6 k - min (p.1 12 k) (p.1 6 k) - (p.1 6 k - min (p.1 12 k) (p.1 6 k) - p.1 9 k) := by
      show zu (zu p.1 6 k _) 6 k (zu p.1 6 k _ 6 k - _) 6 k = _
      rw [zu_s, zu_s]
    rw [e]; omega
  · have e : (lstP k (min (p.1 12 k) (p.1 6 k)) p).1 6 k = p.1 6 k - min (p.1 12 k) (p.1 6 k) := by
      show zu p.1 6 k _ 6 k = _
      exact zu_s
    rw [e]; omega
theorem leakN_f {n f : Nat} {p : ZT × JT} (h : f ≠ 6) : (leakN p n).1 f = p.1 f := by
  induction n with
  | zero => rfl
  | succ n ih => exact (leakP_f h).trans ih
theorem leakN_j {n j : Nat} {p : ZT × JT} (h : n ≤ j) : (leakN p n).1 6 j = p.1 6 j := by
  induction n with
  | zero => rfl
  | succ n ih => exact (leakP_j (by omega)).trans (ih (by omega))
theorem leakN_st {n : Nat} {p : ZT × JT} {k : Nat} (h : StOk p.1 k) : StOk (leakN p n).1 k := by
  rcases Nat.lt_or_ge k n with z | z
  · induction n with
    | zero => omega
    | succ n ih =>
      by_cases e : k = n
      · subst e
        have e6 : (leakN p k).1 6 k = p.1 6 k := leakN_j (Nat.le_refl _)
        have b := leakP_b (p := leakN p k) (k := k) (st0_c (fun f hf => by by_cases q : f = 6 <;> first | (subst q; exact e6) | rw [leakN_f q]) h.1)
        rw [e6] at b
        exact st_g h (fun f hf hq => by show (leakP k (leakN p k)).1 f k = _; rw [leakP_f hq, leakN_f hq]) b.1 (Int.le_trans b.2 h.2.1)
      · have q := ih (by omega)
        exact st_c (fun f hf => by show (leakP n (leakN p n)).1 f k = _; by_cases q : f = 6 <;> first | (subst q; exact leakP_j e) | rw [leakP_f q]) q
  · exact st_c (fun f hf => by by_cases q : f = 6 <;> first | (subst q; exact leakN_j z) | rw [leakN_f q]) h
theorem wf_leak {p : ZT × JT} {ns nc nl n : Nat} (h : Wf p.1 ns nc nl) : Wf (leakN p n).1 ns nc nl := by
  have e : ∀ f, f ≠ 6 → (leakN p n).1 f = p.1 f := fun f z1 => leakN_f z1
  refine wf_g h (fun f hf => e f (by intro q; subst q; revert hf; decide)) ?_ ?_ ?_ ?_ (fun k hk => leakN_st (h.2.2.2.2.2.2.1 k hk)) ?_
  · rw [e 1 (by omega)]; exact h.2.2.2.2.2.1.2
  · intro i; rw [e 25 (by omega)]; exact Or.inr rfl
  · rw [e 31 (by omega)]; exact h.2.2.2.2.2.2.2.2.1
  · rw [e 32 (by omega)]; exact h.2.2.2.2.2.2.2.2.2.1
  · intro c hc; rw [e 21 (by omega)]
    have q := h.2.2.2.2.2.2.2.1 c hc
    unfold CuOk at q; omega
theorem wf_tick {p : ZT × JT} {ns nc nl : Nat} (h : Wf p.1 ns nc nl) (hb : p.1 1 0 < 10000) : Wf (tickP p).1 ns nc nl := by
  have e : ∀ f, f ≠ 1 → (tickP p).1 f = p.1 f := fun f z1 => zu_n z1
  refine wf_g h (fun f hf => e f (by intro q; subst q; revert hf; decide)) ?_ ?_ h.2.2.2.2.2.2.2.2.1 h.2.2.2.2.2.2.2.2.2.1 (fun k hk => ?_) ?_
  · have q := h.2.2.2.2.2.1.2
    show 0 ≤ zu p.1 1 0 (p.1 1 0 + 1) 1 0 ∧ zu p.1 1 0 (p.1 1 0 + 1) 1 0 ≤ 10000
    rw [zu_s]; omega
  · intro i; exact Or.inr rfl
  · have hk := h.2.2.2.2.2.2.1 k hk
    exact ⟨hk.1, hk.2⟩
  · intro c hc
    have q := h.2.2.2.2.2.2.2.1 c hc
    unfold CuOk at q
    show 0 ≤ p.1 21 c ∧ p.1 21 c ≤ _
    omega
theorem moveZ_f {σ : ZT} {k f : Nat} (h : f ≠ 4) (h' : f ≠ 5) : moveZ σ k f = σ f := by
  unfold moveZ
  split
  · exact zu_n h'
  · split
    · exact zu_n h
    · rfl
theorem moveZ_j {σ : ZT} {k j f : Nat} (h : j ≠ k) : moveZ σ k f j = σ f j := by
  unfold moveZ
  split
  · exact zu_o h
  · split
    · exact zu_o h
    · rfl
theorem dayP_f {k f : Nat} {p : ZT × JT} (h : f ≠ 4) (h' : f ≠ 5) (h'' : f ≠ 6) : (dayP k p).1 f = p.1 f := by
  unfold dayP
  split
  · exact (zu_n h'').trans (moveZ_f h h')
  · exact moveZ_f h h'
theorem dayP_j {k j f : Nat} {p : ZT × JT} (h : j ≠ k) : (dayP k p).1 f j = p.1 f j := by
  unfold dayP
  split
  · show zu (moveZ p.1 k) 6 k _ f j = _
    rw [zu_o h]; exact moveZ_j h
  · exact moveZ_j h
theorem moveZ_w {σ : ZT} {k : Nat} (h : StOk σ k) : moveZ σ k 3 k = 0 ∨ moveZ σ k 5 k = 0 := by
  rw [moveZ_f (by omega) (by omega)]
  rcases h.2.2 with q | q
  · exact Or.inl q
  · by_cases e : σ 3 k = 0
    · exact Or.inl e
    · refine Or.inr ?_
      unfold moveZ
      rw [if_neg e]
      split
      · exact q
      · exact q
theorem dayP_st {k : Nat} {p : ZT × JT} (h : StOk p.1 k) : StOk (dayP k p).1 k := by
  have m := moveZ_ok h
  have mm := st_most m
  have w := moveZ_w h
  have e6 := (moveZ_6 (σ := p.1) (k := k)).1
  unfold dayP
  split
  · rename_i q
    have e : (lstP k (p.1 6 k - mostZ (moveZ p.1 k 8 k) (roomZ (moveZ p.1 k) k)) (moveZ p.1 k, p.2)).1 = zu (moveZ p.1 k) 6 k (mostZ (moveZ p.1 k 8 k) (roomZ (moveZ p.1 k) k)) := by
      show zu (moveZ p.1 k) 6 k (moveZ p.1 k 6 k - (p.1 6 k - mostZ (moveZ p.1 k 8 k) (roomZ (moveZ p.1 k) k))) = _
      rw [e6, show ∀ a b : Int, a - (a - b) = b from fun a b => by omega]
    rw [e]
    refine ⟨sto_6 m mm.1 mm.2, ?_, w⟩
    show zu (moveZ p.1 k) 6 k _ 6 k ≤ mostZ (moveZ p.1 k 8 k) (roomZ (moveZ p.1 k) k)
    rw [zu_s]; exact Int.le_refl _
  · rename_i q
    exact ⟨m, by show moveZ p.1 k 6 k ≤ _; rw [e6]; exact Int.not_lt.mp q, w⟩
theorem dayN_f {n f : Nat} {p : ZT × JT} (h : f ≠ 4) (h' : f ≠ 5) (h'' : f ≠ 6) : (dayN p n).1 f = p.1 f := by
  induction n with
  | zero => rfl
  | succ n ih => exact (dayP_f h h' h'').trans ih
theorem dayN_j {n j f : Nat} {p : ZT × JT} (h : n ≤ j) : (dayN p n).1 f j = p.1 f j := by
  induction n with
  | zero => rfl
  | succ n ih => exact (dayP_j (by omega)).trans (ih (by omega))
theorem dayN_st {n : Nat} {p : ZT × JT} {k : Nat} (h : StOk p.1 k) : StOk (dayN p n).1 k := by
  rcases Nat.lt_or_ge k n with z | z
  · induction n with
    | zero => omega
    | succ n ih =>
      by_cases e : k = n
      · subst e
        exact dayP_st (st_c (fun f hf => dayN_j (Nat.le_refl _)) h)
      · exact st_c (fun f hf => dayP_j e) (ih (by omega))
  · exact st_c (fun f hf => dayN_j z) h
theorem wf_day {p : ZT × JT} {ns nc nl n : Nat} (h : Wf p.1 ns nc nl) : Wf (dayN p n).1 ns nc nl := by
  have e : ∀ f, f ≠ 4 → f ≠ 5 → f ≠ 6 → (dayN p n).1 f = p.1 f := fun f z1 z2 z3 => dayN_f z1 z2 z3
  refine wf_g h (fun f hf => e f (by intro q; subst q; revert hf; decide) (by intro q; subst q; revert hf; decide) (by intro q; subst q; revert hf; decide)) ?_ ?_ ?_ ?_ (fun k hk => dayN_st (h.2.2.2.2.2.2.1 k hk)) ?_
  · rw [e 1 (by omega) (by omega) (by omega)]; exact h.2.2.2.2.2.1.2
  · intro i; rw [e 25 (by omega) (by omega) (by omega)]; exact Or.inr rfl
  · rw [e 31 (by omega) (by omega) (by omega)]; exact h.2.2.2.2.2.2.2.2.1
  · rw [e 32 (by omega) (by omega) (by omega)]; exact h.2.2.2.2.2.2.2.2.2.1
  · intro c hc; rw [e 21 (by omega) (by omega) (by omega)]
    have q := h.2.2.2.2.2.2.2.1 c hc
    unfold CuOk at q; omega
theorem hourP_e {ns nc nl : Nat} {p : ZT × JT} {l : ZT} {x : Int} {a t : ZT × JT} (hl : l = laysZ p.1 nc nl ns) (hx : x = netZ l nc) (ha : a = setN (flowsP x ns (l, p.2)) nc) (ht : t = tickP (leakN (flgZ x a.1, a.2) ns)) : hourP ns nc nl p = if t.1 1 0 % 24 = 0 then dayN t ns else t := by
  subst hl hx ha ht; rfl
/-- the plan of an hour that is to be settled -/
theorem lays_set {σ : ZT} {τ : JT} {ns nc nl : Nat} {x : Int} (h : Wf σ ns nc nl) : ∀ c, c < nc → 0 ≤ (flowsP x ns (laysZ σ nc nl ns, τ)).1 36 c ∧ 0 ≤ (flowsP x ns (laysZ σ nc nl ns, τ)).1 37 c ∧ (flowsP x ns (laysZ σ nc nl ns, τ)).1 36 c ≤ (flowsP x ns (laysZ σ nc nl ns, τ)).1 17 c - (flowsP x ns (laysZ σ nc nl ns, τ)).1 21 c ∧ (flowsP x ns (laysZ σ nc nl ns, τ)).1 37 c ≤ (flowsP x ns (laysZ σ nc nl ns, τ)).1 21 c := by
  intro c hc
  have hcu := h.2.2.2.2.2.2.2.1
  have m := laysZ_mo (nl := nl) (ns := ns) hcu hc
  have b := br_b (hcu c hc)
  have p := laysZ_ok (nl := nl) (ns := ns) hcu c hc
  have e : ∀ f, f ≠ 6 → f ≠ 14 → (flowsP x ns (laysZ σ nc nl ns, τ)).1 f = laysZ σ nc nl ns f := fun f z1 z2 => flowsP_f z1 z2
  rw [e 36 (by omega) (by omega), e 37 (by omega) (by omega), e 17 (by omega) (by omega), e 21 (by omega) (by omega), laysZ_f (f := 17) (by omega), laysZ_f (f := 21) (by omega)]
  omega
theorem wf_hour {p : ZT × JT} {ns nc nl : Nat} (h : Wf p.1 ns nc nl) (hb : p.1 1 0 < 10000) : Wf (hourP ns nc nl p).1 ns nc nl ∧ (hourP ns nc nl p).1 1 0 = p.1 1 0 + 1 := by
  obtain ⟨l, hl⟩ : ∃ l, l = laysZ p.1 nc nl ns := ⟨_, rfl⟩
  obtain ⟨x, hx⟩ : ∃ x, x = netZ l nc := ⟨_, rfl⟩
  obtain ⟨a, ha⟩ : ∃ a, a = setN (flowsP x ns (l, p.2)) nc := ⟨_, rfl⟩
  obtain ⟨t, ht⟩ : ∃ t, t = tickP (leakN (flgZ x a.1, a.2) ns) := ⟨_, rfl⟩
  rw [hourP_e hl hx ha ht]
  have w1 : Wf (flowsP x ns (l, p.2)).1 ns nc nl := wf_flows (by rw [hl]; exact wf_lays h)
  have w2 : Wf a.1 ns nc nl := by
    rw [ha]
    exact wf_set w1 (Nat.le_refl _) (by rw [hl]; exact lays_set h)
  have e1 : a.1 1 0 = p.1 1 0 := by
    rw [ha, setN_f (by omega) (by omega), flowsP_f (by omega) (by omega), hl]
    show laysZ p.1 nc nl ns 1 0 = _
    rw [laysZ_f (by omega)]
  have e2 : (leakN (flgZ x a.1, a.2) ns).1 1 0 = p.1 1 0 := by rw [leakN_f (by omega)]; show flgZ x a.1 1 0 = _; rw [flg_f (by decide)]; exact e1
  have w3 : Wf t.1 ns nc nl := by
    rw [ht]
    exact wf_tick (wf_leak (wf_flg w2)) (by rw [e2]; exact hb)
  have e3 : t.1 1 0 = p.1 1 0 + 1 := by rw [ht, ← e2]; exact zu_s (σ := (leakN (flgZ x a.1, a.2) ns).1) (f := 1) (i := 0)
  split
  · exact ⟨wf_day w3, by rw [dayN_f (by omega) (by omega) (by omega)]; exact e3⟩
  · exact ⟨w3, e3⟩
theorem wf_hours {p : ZT × JT} {ns nc nl n : Nat} (h : Wf p.1 ns nc nl) (hb : p.1 1 0 + n ≤ 10000) : Wf (hours ns nc nl p n).1 ns nc nl ∧ (hours ns nc nl p n).1 1 0 = p.1 1 0 + n := by
  induction n with
  | zero => exact ⟨h, by show p.1 1 0 = _; omega⟩
  | succ n ih =>
    have q := ih (by omega)
    have r := wf_hour q.1 (by omega)
    exact ⟨r.1, by rw [show hours ns nc nl p (n + 1) = hourP ns nc nl (hours ns nc nl p n) from rfl, r.2, q.2]; omega⟩
