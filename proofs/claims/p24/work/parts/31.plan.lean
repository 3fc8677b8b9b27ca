/-! the class's plan in numbers -/
def keptB (σ : ZT) (nl : Nat) : Int := if lawI σ nl = -1 then -1 else σ 30 (lawI σ nl).toNat
def lawA (σ : ZT) (nc nl : Nat) : Int := if lawI σ nl = -1 then 0 else lawT σ nc nl
theorem keptB_b {σ : ZT} {nl : Nat} (h : LwOk σ nl) : -1 ≤ keptB σ nl ∧ keptB σ nl ≤ 10000000 ∧ (keptB σ nl = -1 ↔ lawI σ nl = -1) := by
  have b := lawI_b (σ := σ) (n := nl)
  unfold keptB
  split
  · omega
  · have q := h.2.2 (lawI σ nl).toNat (by omega)
    omega
theorem cur_0 {b : Bool} {s y : Int} {n : Nat} {σ : ZT} (h : y ≤ 0) : cur b s n σ y = σ := by
  unfold cur
  rw [cloop_le (p := (σ, y)) h]
theorem lawC_A {σ : ZT} {nc nl : Nat} : lawC σ nc nl = cur false 2 nc σ (lawA σ nc nl) := by
  unfold lawC lawA
  split
  · rw [cur_0 (Int.le_refl _)]
  · rfl
theorem plaC_A {σ : ZT} {nc ns : Nat} (h : 0 ≤ canZ σ ns (decide (0 < netZ σ nc))) : plaC σ nc ns = cur (decide (0 < netZ σ nc)) 3 nc σ (absZ (netZ σ nc) - canZ σ ns (decide (0 < netZ σ nc))) := by
  unfold plaC
  split
  · rename_i q
    have e : absZ (netZ σ nc) = 0 := by rw [q]; rfl
    rw [cur_0 (by omega)]
  · unfold overZ
    split
    · rfl
    · rw [cur_0 (by omega), cur_0 (by omega)]
/-- which way the plant ran in the last two hours, and when it last ran each way -/
def FlOk (ξ : XiT) (σ : ZT) : Prop := ξ.2.1 < σ 1 0 ∧ ξ.2.2 < σ 1 0 ∧ -1000 ≤ ξ.2.1 ∧ -1000 ≤ ξ.2.2 ∧ (σ 31 0 = 1 ↔ ξ.2.1 = σ 1 0 - 1) ∧ (σ 31 0 = -1 ↔ ξ.2.2 = σ 1 0 - 1) ∧ (σ 31 0 ≠ 1 → (σ 32 0 = 1 ↔ ξ.2.1 = σ 1 0 - 2)) ∧ (σ 31 0 ≠ -1 → (σ 32 0 = -1 ↔ ξ.2.2 = σ 1 0 - 2))
theorem fl_can {ξ : XiT} {σ : ZT} {ns : Nat} {b : Bool} (h : FlOk ξ σ) : canZ σ ns b = if σ 1 0 - (if b = true then ξ.2.2 else ξ.2.1) ≤ 2 then 0 else sumZ (fun k => rateZ σ k b) ns := by
  obtain ⟨h1, h2, -, -, h3, h4, h5, h6⟩ := h
  unfold canZ othZ
  cases b
  · simp only [Bool.false_eq_true, if_false]
    by_cases q : σ 31 0 = 1
    · rw [if_pos (Or.inl q), if_pos (by have := h3.mp q; omega)]
    · have h5 := h5 q
      by_cases r : σ 32 0 = 1
      · rw [if_pos (Or.inr r), if_pos (by have := h5.mp r; omega)]
      · rw [if_neg (by omega), if_neg (by omega)]
  · simp only [if_true]
    by_cases q : σ 31 0 = -1
    · rw [if_pos (Or.inl q), if_pos (by have := h4.mp q; omega)]
    · have h6 := h6 q
      by_cases r : σ 32 0 = -1
      · rw [if_pos (Or.inr r), if_pos (by have := h6.mp r; omega)]
      · rw [if_neg (by omega), if_neg (by omega)]
theorem cl_k {b : Bool} {s r : Int} {n k : Nat} {σ : ZT} (h : r ≤ 0) : ∀ j, cloop b s n j (σ, r) = cloop b s n k (σ, r) := fun j => by rw [cloop_le (p := (σ, r)) h, cloop_le (p := (σ, r)) h]
/-- a step of the inner loop: the customer at j, at the rank q -/
theorem cl_step {b : Bool} {s r : Int} {n q j : Nat} {σ : ZT} (hj : j < n) (hr : 0 < r) : cloop b s n (n * q + (j + 1)) (σ, r) = cloop b s n (n * q + j) (curZ b s j (if σ 20 j = (q : Int) then min r (szZ σ b j) else 0) σ, r - if σ 20 j = (q : Int) then min r (szZ σ b j) else 0) := by
  have em : (n * q + j) % n = j := by rw [Nat.mul_add_mod, Nat.mod_eq_of_lt hj]
  have ed : (n * q + j) / n = q := by rw [Nat.mul_add_div (by omega), Nat.div_eq_of_lt hj, Nat.add_zero]
  rw [show n * q + (j + 1) = (n * q + j) + 1 from rfl, cloop_st (p := (σ, r)) hr]
  unfold cstep cby
  rw [em, ed]
  rfl

