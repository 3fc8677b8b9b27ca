/-! no more flows than the plant can do -/
theorem sumZ_c {f g : Nat → Int} {n : Nat} (h : ∀ i, i < n → f i = g i) : sumZ f n = sumZ g n := by
  induction n with
  | zero => rfl
  | succ n ih =>
    show sumZ f n + f n = sumZ g n + g n
    rw [ih (fun i hi => h i (by omega)), h n (by omega)]
theorem sumZ_u {f g : Nat → Int} {n c : Nat} (hc : c < n) (h : ∀ i, i ≠ c → g i = f i) : sumZ g n = sumZ f n - f c + g c := by
  induction n with
  | zero => omega
  | succ n ih =>
    show sumZ g n + g n = sumZ f n + f n - f c + g c
    by_cases e : c = n
    · subst e
      rw [sumZ_c (fun i hi => h i (by omega))]; omega
    · rw [ih (by omega), h n (fun q => e q.symm)]; omega
theorem sz_cur {b d : Bool} {s y : Int} {c j : Nat} {σ : ZT} : szZ (curZ b s c y σ) d j = if j = c then (if d = b then szZ σ d c - y else szZ σ d c) else szZ σ d j := by
  have v := curZ_v (b := b) (s := s) (y := y) (c := c) (j := j) (σ := σ)
  unfold szZ
  cases d <;> cases b
  · simp only [Bool.false_eq_true, if_false, if_true] at v ⊢; rw [v.2.1]
  · simp only [Bool.false_eq_true, if_false, if_true] at v ⊢; rw [v.2.1]; split <;> first | omega | rfl
  · simp only [Bool.false_eq_true, if_false, if_true] at v ⊢; rw [v.1]
    simp only [Bool.true_eq_false, if_false]
    split <;> first | omega | rfl
  · simp only [if_true] at v ⊢; rw [v.1]
theorem cby_sz {b : Bool} {n k : Nat} {p : ZT × Int} : cby b n k p = if p.1 20 (k % n) = ((k / n : Nat) : Int) then min p.2 (szZ p.1 b (k % n)) else 0 := rfl
theorem cl_sum {b : Bool} {s : Int} {n k : Nat} (hn : 0 < n) (hs : 0 ≤ s ∧ s ≤ 3) : ∀ p : ZT × Int, PlOk p.1 n → 0 ≤ p.2 → 0 ≤ (cloop b s n k p).2 ∧ sumZ (szZ (cloop b s n k p).1 b) n - (cloop b s n k p).2 = sumZ (szZ p.1 b) n - p.2 ∧ sumZ (szZ (cloop b s n k p).1 (!b)) n = sumZ (szZ p.1 (!b)) n := by
  induction k with
  | zero => intro p h h0; exact ⟨h0, rfl, rfl⟩
  | succ k ih =>
    intro p h h0
    unfold cloop
    split
    · exact ⟨h0, rfl, rfl⟩
    · have q := cby_b (b := b) (k := k) h hn (by omega)
      have hm := Nat.mod_lt k hn
      have z := ih (cstep b s n k p) (curZ_ok h hm hs q.1 q.2.2.1 q.2.2.2) (by show 0 ≤ p.2 - cby b n k p; omega)
      have e1 : sumZ (szZ (cstep b s n k p).1 b) n = sumZ (szZ p.1 b) n - cby b n k p := by
        show sumZ (szZ (curZ b s (k % n) (cby b n k p) p.1) b) n = _
        rw [sumZ_u (f := szZ p.1 b) hm (fun i hi => by rw [sz_cur, if_neg hi]), sz_cur, if_pos rfl, if_pos rfl]
        omega
      have e2 : sumZ (szZ (cstep b s n k p).1 (!b)) n = sumZ (szZ p.1 (!b)) n := by
        refine sumZ_c (fun i hi => ?_)
        show szZ (curZ b s (k % n) (cby b n k p) p.1) (!b) i = _
        by_cases w : i = k % n
        · rw [sz_cur, if_pos w, if_neg (by cases b <;> decide), w]
        · rw [sz_cur, if_neg w]
      have e3 : (cstep b s n k p).2 = p.2 - cby b n k p := rfl
      rw [e1, e2, e3] at z
      exact ⟨z.1, by omega, z.2.2⟩
theorem cl_all {b : Bool} {s : Int} {n k : Nat} (hn : 0 < n) (hs : 0 ≤ s ∧ s ≤ 3) : ∀ p : ZT × Int, PlOk p.1 n → (∀ c, c < n → 0 ≤ p.1 20 c) → (∀ c, c < n → k ≤ n * (p.1 20 c).toNat + c → szZ p.1 b c = 0) → ∀ c, c < n → szZ (cloop b s n k p).1 b c = 0 ∨ (cloop b s n k p).2 ≤ 0 := by
  induction k with
  | zero => intro p h h0 hj c hc; exact Or.inl (hj c hc (Nat.zero_le _))
  | succ k ih =>
    intro p h h0 hj
    unfold cloop
    split
    · rename_i q; exact fun c hc => Or.inr q
    · have q := cby_b (b := b) (k := k) h hn (by omega)
      have hm := Nat.mod_lt k hn
      have e20 : ∀ c, (cstep b s n k p).1 20 c = p.1 20 c := fun c => by
        show curZ b s (k % n) (cby b n k p) p.1 20 c = _
        rw [curZ_f (Or.inl (by omega))]
      by_cases r0 : (cstep b s n k p).2 ≤ 0
      · intro c hc
        rw [cloop_le r0]; exact Or.inr r0
      · refine ih (cstep b s n k p) (curZ_ok h hm hs q.1 q.2.2.1 q.2.2.2) (fun c hc => by rw [e20]; exact h0 c hc) (fun c hc hk => ?_)
        rw [e20] at hk
        show szZ (curZ b s (k % n) (cby b n k p) p.1) b c = 0
        rw [sz_cur, if_pos rfl]
        by_cases ec : c = k % n
        · rw [if_pos ec]
          have r0 : ¬ (p.2 - cby b n k p ≤ 0) := r0
          rw [cby_sz, ← ec] at r0 ⊢
          by_cases em : p.1 20 c = ((k / n : Nat) : Int)
          · rw [if_pos em] at r0 ⊢; omega
          · rw [if_neg em]
            have dm := Nat.div_add_mod k n
            rw [← ec] at dm
            have h0c := h0 c hc
            have hne : (p.1 20 c).toNat ≠ k / n := fun w => em (by omega)
            have hlt : k / n < (p.1 20 c).toNat := by
              refine Nat.lt_of_not_le (fun w => ?_)
              have w2 : (p.1 20 c).toNat + 1 ≤ k / n := by omega
              have w3 := Nat.mul_le_mul_left n w2
              rw [Nat.mul_add] at w3
              omega
            have w3 := Nat.mul_le_mul_left n (Nat.succ_le_of_lt hlt)
            rw [Nat.mul_succ] at w3
            rw [hj c hc (by omega)]; rfl
        · rw [if_neg ec]
          refine hj c hc ?_
          have : k ≠ n * (p.1 20 c).toNat + c := fun w => ec (by rw [w, Nat.mul_add_mod, Nat.mod_eq_of_lt hc])
          omega
/-- to curtail by no more than there is -/
theorem cur_sum {b : Bool} {s y : Int} {n : Nat} {σ : ZT} (hs : 0 ≤ s ∧ s ≤ 3) (h : PlOk σ n) (h2 : ∀ c, c < n → 0 ≤ σ 20 c ∧ σ 20 c ≤ 3) (h0 : 0 ≤ y) (hy : y ≤ sumZ (szZ σ b) n) : sumZ (szZ (cur b s n σ y) b) n = sumZ (szZ σ b) n - y ∧ sumZ (szZ (cur b s n σ y) (!b)) n = sumZ (szZ σ (!b)) n := by
  rcases Nat.eq_zero_or_pos n with rfl | hn
  · have : sumZ (szZ σ b) 0 = 0 := rfl
    exact ⟨by show (0 : Int) = 0 - y; omega, rfl⟩
  · have a := cl_sum (b := b) (s := s) (k := 4 * n) hn hs (σ, y) h h0
    have l := cl_all (b := b) (s := s) (k := 4 * n) hn hs (σ, y) h (fun c hc => (h2 c hc).1) (fun c hc hk => by
      have q := h2 c hc
      have w : (σ 20 c).toNat ≤ 3 := by omega
      have w3 := Nat.mul_le_mul_left n w
      have hk : 4 * n ≤ n * (σ 20 c).toNat + c := hk
      omega)
    refine ⟨?_, a.2.2⟩
    have a1 : sumZ (szZ (cloop b s n (4 * n) (σ, y)).1 b) n - (cloop b s n (4 * n) (σ, y)).2 = sumZ (szZ σ b) n - y := a.2.1
    show sumZ (szZ (cloop b s n (4 * n) (σ, y)).1 b) n = _
    by_cases r : (cloop b s n (4 * n) (σ, y)).2 ≤ 0
    · omega
    · have e : sumZ (szZ (cloop b s n (4 * n) (σ, y)).1 b) n = sumZ (fun _ => 0) n := sumZ_c (fun c hc => (l c hc).resolve_right r)
      have e0 : ∀ m : Nat, sumZ (fun _ => 0) m = 0 := fun m => by
        induction m with
        | zero => rfl
        | succ m ih => show sumZ (fun _ => 0) m + 0 = 0; rw [ih]; rfl
      rw [e0] at e
      omega
theorem net_sz {σ : ZT} {n : Nat} : netZ σ n = sumZ (szZ σ true) n - sumZ (szZ σ false) n := rfl
theorem can_le {σ : ZT} {ns : Nat} {b : Bool} (h : ∀ k, k < ns → StOk σ k) : 0 ≤ canZ σ ns b ∧ canZ σ ns b ≤ sumZ (fun k => rateZ σ k b) ns := by
  have a := sumZ_b (f := fun k => rateZ σ k b) (A := 1000000) (n := ns) (fun i hi => ⟨(rate_b (h i hi)).1, (rate_b (h i hi)).2.1⟩)
  unfold canZ
  split <;> omega
theorem sz_nn {σ : ZT} {n : Nat} {b : Bool} (h : PlOk σ n) : 0 ≤ sumZ (szZ σ b) n := (sumZ_b (A := 100000) (fun i hi => by have q := h i hi; unfold szZ; split <;> omega)).1
theorem pla_cap {w : ZT} {ns nc : Nat} (hp : PlOk w nc) (h2 : ∀ c, c < nc → 0 ≤ w 20 c ∧ w 20 c ≤ 3) (hst : ∀ k, k < ns → StOk w k) (hx : netZ (plaC w nc ns) nc ≠ 0) : absZ (netZ (plaC w nc ns) nc) ≤ sumZ (fun k => rateZ w k (decide (0 < netZ (plaC w nc ns) nc))) ns := by
  unfold plaC at hx ⊢
  split at hx
  · rename_i q; exact absurd q hx
  · rename_i q
    rw [if_neg q]
    have hc := can_le (b := decide (0 < netZ w nc)) hst
    have n1 := sz_nn (b := true) hp
    have n2 := sz_nn (b := false) hp
    have en := net_sz (σ := w) (n := nc)
    by_cases hb : 0 < netZ w nc
    · have eb : decide (0 < netZ w nc) = true := decide_eq_true hb
      rw [eb] at hc hx ⊢
      have ea : absZ (netZ w nc) = netZ w nc := if_pos hb
      have ho : 0 ≤ overZ w nc ns ∧ overZ w nc ns ≤ netZ w nc ∧ netZ w nc - overZ w nc ns ≤ canZ w ns true := by unfold overZ; rw [eb, ea]; split <;> omega
      have cs := cur_sum (b := true) (s := 3) (by omega) hp h2 ho.1 (by omega)
      have ex : netZ (cur true 3 nc w (overZ w nc ns)) nc = netZ w nc - overZ w nc ns := by
        rw [net_sz, cs.1, show sumZ (szZ (cur true 3 nc w (overZ w nc ns)) false) nc = sumZ (szZ w false) nc from cs.2]; omega
      rw [ex] at hx ⊢
      have e1 : decide (0 < netZ w nc - overZ w nc ns) = true := decide_eq_true (by omega)
      rw [e1, show absZ (netZ w nc - overZ w nc ns) = netZ w nc - overZ w nc ns from if_pos (by omega)]
      omega
    · have eb : decide (0 < netZ w nc) = false := decide_eq_false hb
      rw [eb] at hc hx ⊢
      have ea : absZ (netZ w nc) = -netZ w nc := if_neg hb
      have ho : 0 ≤ overZ w nc ns ∧ overZ w nc ns ≤ -netZ w nc ∧ -netZ w nc - overZ w nc ns ≤ canZ w ns false := by unfold overZ; rw [eb, ea]; split <;> omega
      have cs := cur_sum (b := false) (s := 3) (by omega) hp h2 ho.1 (by omega)
      have ex : netZ (cur false 3 nc w (overZ w nc ns)) nc = netZ w nc + overZ w nc ns := by
        rw [net_sz, cs.1, show sumZ (szZ (cur false 3 nc w (overZ w nc ns)) true) nc = sumZ (szZ w true) nc from cs.2]; omega
      rw [ex] at hx ⊢
      have e1 : decide (0 < netZ w nc + overZ w nc ns) = false := decide_eq_false (by omega)
      rw [e1, show absZ (netZ w nc + overZ w nc ns) = -(netZ w nc + overZ w nc ns) from if_neg (by omega)]
      omega
theorem lays_cap {σ : ZT} {ns nc nl : Nat} (h : Wf σ ns nc nl) (hx : netZ (laysZ σ nc nl ns) nc ≠ 0) : absZ (netZ (laysZ σ nc nl ns) nc) ≤ sumZ (fun k => rateZ (laysZ σ nc nl ns) k (decide (0 < netZ (laysZ σ nc nl ns) nc))) ns := by
  have hf : ∀ f, f < 36 ∨ 39 < f → lawC (layN σ nc) nc nl f = σ f := fun f hf => by rw [lawC_f hf, layN_f hf]
  have q := pla_cap (w := lawC (layN σ nc) nc nl) (ns := ns) (nc := nc) (lawC_ok (layN_ok h.2.2.2.2.2.2.2.1)) (fun c hc => by rw [hf 20 (by omega)]; have := h.2.2.2.2.2.2.2.1 c hc; unfold CuOk at this; omega) (fun k hk => st_c (fun f hf9 => by rw [hf f (by omega)]) (h.2.2.2.2.2.2.1 k hk)) hx
  have e : sumZ (fun k => rateZ (laysZ σ nc nl ns) k (decide (0 < netZ (laysZ σ nc nl ns) nc))) ns = sumZ (fun k => rateZ (lawC (layN σ nc) nc nl) k (decide (0 < netZ (plaC (lawC (layN σ nc) nc nl) nc ns) nc))) ns := sumZ_c (fun i hi => rate_c (fun f hf9 => by
    have h36 : f < 36 ∨ 39 < f := by simp only [List.mem_cons, List.not_mem_nil, or_false] at hf9; omega
    rw [laysZ_f h36, hf f h36]))
  rw [e]; exact q
theorem fl_c {ξ : XiT} {σ s : ZT} (h : ∀ f, f ∈ [1, 31, 32] → s f 0 = σ f 0) (k : FlOk ξ σ) : FlOk ξ s := by
  unfold FlOk at k ⊢
  rw [h 1 (by decide), h 31 (by decide), h 32 (by decide)]; exact k

