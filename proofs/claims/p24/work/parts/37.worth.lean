/-! the best of all ways, hour by hour -/
def bestV (σ : ZT) (c : Nat) : Nat → Int → Nat → Int
  | 0, _, _ => 0
  | l + 1, has, k =>
    max (max (bestV σ c l has (k + 1)) (if 0 < inZ σ c has then bestV σ c l (has + inZ σ c has) (k + 1) - inZ σ c has * pricZ σ k else bestV σ c l has (k + 1)))
      (if 0 < outZ σ c has then bestV σ c l (has - outZ σ c has) (k + 1) + outZ σ c has * pricZ σ k else bestV σ c l has (k + 1))
def sumW (σ : ZT) (c : Nat) : Nat → Int → Nat → Nat → Int
  | 0, _, _, _ => 0
  | l + 1, has, k, w => sumW σ c l (has + thingZ σ c has (w % 3)) (k + 1) (w / 3) - thingZ σ c has (w % 3) * pricZ σ k
theorem way_sum {σ : ZT} {c w l : Nat} : ∀ k, (wayN σ c w k).2.1 + sumW σ c l (wayN σ c w k).1 k (wayN σ c w k).2.2 = (wayN σ c w (k + l)).2.1 := by
  induction l with
  | zero => intro k; show _ + (0 : Int) = _; rw [Int.add_zero]; rfl
  | succ l ih =>
    intro k
    have q := ih (k + 1)
    rw [show k + 1 + l = k + (l + 1) by omega] at q
    rw [← q]
    show (wayN σ c w k).2.1 + (sumW σ c l ((wayN σ c w k).1 + thingZ σ c (wayN σ c w k).1 ((wayN σ c w k).2.2 % 3)) (k + 1) ((wayN σ c w k).2.2 / 3) - thingZ σ c (wayN σ c w k).1 ((wayN σ c w k).2.2 % 3) * pricZ σ k) = ((wayN σ c w k).2.1 - thingZ σ c (wayN σ c w k).1 ((wayN σ c w k).2.2 % 3) * pricZ σ k) + sumW σ c l ((wayN σ c w k).1 + thingZ σ c (wayN σ c w k).1 ((wayN σ c w k).2.2 % 3)) (k + 1) ((wayN σ c w k).2.2 / 3)
    omega
theorem way_W {σ : ZT} {c w t : Nat} : (wayN σ c w t).2.1 = sumW σ c t (σ 21 c) 0 w := by
  have q := way_sum (σ := σ) (c := c) (w := w) (l := t) 0
  rw [Nat.zero_add] at q
  rw [← q]
  show (0 : Int) + sumW σ c t (σ 21 c) 0 w = _
  rw [Int.zero_add]
theorem thing_012 {σ : ZT} {c : Nat} {has : Int} : thingZ σ c has 0 = 0 ∧ thingZ σ c has 1 = inZ σ c has ∧ thingZ σ c has 2 = -outZ σ c has := ⟨rfl, rfl, rfl⟩
theorem sumW_s {σ : ZT} {c l k w d : Nat} {has : Int} (hd : d < 3) : sumW σ c (l + 1) has k (3 * w + d) = sumW σ c l (has + thingZ σ c has d) (k + 1) w - thingZ σ c has d * pricZ σ k := by
  show sumW σ c l (has + thingZ σ c has ((3 * w + d) % 3)) (k + 1) ((3 * w + d) / 3) - thingZ σ c has ((3 * w + d) % 3) * pricZ σ k = _
  rw [show (3 * w + d) % 3 = d by omega, show (3 * w + d) / 3 = w by omega]
theorem sumW_le {σ : ZT} {c l : Nat} (h : CuOk σ c) : ∀ (has : Int) (k w : Nat), 0 ≤ has → has ≤ σ 17 c → sumW σ c l has k w ≤ bestV σ c l has k := by
  induction l with
  | zero => intro has k w _ _; exact Int.le_refl _
  | succ l ih =>
    intro has k w h1 h2
    have i := inz_b h h1 h2
    have o := outz_b h h1 h2
    rw [show w = 3 * (w / 3) + w % 3 by omega, sumW_s (Nat.mod_lt _ (by omega))]
    have t := thing_012 (σ := σ) (c := c) (has := has)
    show _ ≤ max (max (bestV σ c l has (k + 1)) (if 0 < inZ σ c has then bestV σ c l (has + inZ σ c has) (k + 1) - inZ σ c has * pricZ σ k else bestV σ c l has (k + 1))) (if 0 < outZ σ c has then bestV σ c l (has - outZ σ c has) (k + 1) + outZ σ c has * pricZ σ k else bestV σ c l has (k + 1))
    have a0 := ih has (k + 1) (w / 3) h1 h2
    have d : w % 3 = 0 ∨ w % 3 = 1 ∨ w % 3 = 2 := by omega
    rcases d with d | d | d
    · rw [d, t.1, Int.add_zero, Int.zero_mul, Int.sub_zero]
      omega
    · rw [d, t.2.1]
      by_cases q : 0 < inZ σ c has
      · have a1 := ih (has + inZ σ c has) (k + 1) (w / 3) (by omega) (by omega)
        rw [if_pos q]; omega
      · have e : inZ σ c has = 0 := by omega
        rw [e, Int.add_zero, Int.zero_mul, Int.sub_zero]; omega
    · rw [d, t.2.2]
      by_cases q : 0 < outZ σ c has
      · have a2 := ih (has - outZ σ c has) (k + 1) (w / 3) (by omega) (by omega)
        rw [if_pos q, ← Int.sub_eq_add_neg, Int.neg_mul, Int.sub_neg]; omega
      · have e : outZ σ c has = 0 := by omega
        rw [e, Int.neg_zero, Int.add_zero, Int.zero_mul, Int.sub_zero]; omega
theorem sumW_at {σ : ZT} {c l : Nat} (h : CuOk σ c) : ∀ (has : Int) (k : Nat), 0 ≤ has → has ≤ σ 17 c → ∃ w, w < 3 ^ l ∧ sumW σ c l has k w = bestV σ c l has k := by
  induction l with
  | zero => intro has k _ _; exact ⟨0, by decide, rfl⟩
  | succ l ih =>
    intro has k h1 h2
    have i := inz_b h h1 h2
    have o := outz_b h h1 h2
    have t := thing_012 (σ := σ) (c := c) (has := has)
    have ev : bestV σ c (l + 1) has k = max (max (bestV σ c l has (k + 1)) (if 0 < inZ σ c has then bestV σ c l (has + inZ σ c has) (k + 1) - inZ σ c has * pricZ σ k else bestV σ c l has (k + 1))) (if 0 < outZ σ c has then bestV σ c l (has - outZ σ c has) (k + 1) + outZ σ c has * pricZ σ k else bestV σ c l has (k + 1)) := rfl
    have n0 : ∃ w, w < 3 ^ (l + 1) ∧ sumW σ c (l + 1) has k w = bestV σ c l has (k + 1) := by
      obtain ⟨w, a, b⟩ := ih has (k + 1) h1 h2
      refine ⟨3 * w + 0, by rw [Nat.pow_succ]; omega, ?_⟩
      rw [sumW_s (by omega), t.1, Int.add_zero, Int.zero_mul, Int.sub_zero]; exact b
    have n1 : 0 < inZ σ c has → ∃ w, w < 3 ^ (l + 1) ∧ sumW σ c (l + 1) has k w = bestV σ c l (has + inZ σ c has) (k + 1) - inZ σ c has * pricZ σ k := fun q => by
      obtain ⟨w, a, b⟩ := ih (has + inZ σ c has) (k + 1) (by omega) (by omega)
      refine ⟨3 * w + 1, by rw [Nat.pow_succ]; omega, ?_⟩
      rw [sumW_s (by omega), t.2.1, b]
    have n2 : 0 < outZ σ c has → ∃ w, w < 3 ^ (l + 1) ∧ sumW σ c (l + 1) has k w = bestV σ c l (has - outZ σ c has) (k + 1) + outZ σ c has * pricZ σ k := fun q => by
      obtain ⟨w, a, b⟩ := ih (has - outZ σ c has) (k + 1) (by omega) (by omega)
      refine ⟨3 * w + 2, by rw [Nat.pow_succ]; omega, ?_⟩
      rw [sumW_s (by omega), t.2.2, ← Int.sub_eq_add_neg, b, Int.neg_mul, Int.sub_neg]
    have m : ∀ x y : Int, max x y = x ∨ max x y = y := fun x y => by omega
    rcases m (max (bestV σ c l has (k + 1)) (if 0 < inZ σ c has then bestV σ c l (has + inZ σ c has) (k + 1) - inZ σ c has * pricZ σ k else bestV σ c l has (k + 1))) (if 0 < outZ σ c has then bestV σ c l (has - outZ σ c has) (k + 1) + outZ σ c has * pricZ σ k else bestV σ c l has (k + 1)) with e | e
    · rw [ev, e]
      rcases m (bestV σ c l has (k + 1)) (if 0 < inZ σ c has then bestV σ c l (has + inZ σ c has) (k + 1) - inZ σ c has * pricZ σ k else bestV σ c l has (k + 1)) with e2 | e2
      · rw [e2]; exact n0
      · rw [e2]
        by_cases q : 0 < inZ σ c has
        · rw [if_pos q]; exact n1 q
        · rw [if_neg q]; exact n0
    · rw [ev, e]
      by_cases q : 0 < outZ σ c has
      · rw [if_pos q]; exact n2 q
      · rw [if_neg q]; exact n0
theorem bestN_ge {σ : ZT} {c t n : Nat} : 0 ≤ bestN σ c t n ∧ ∀ w, w < n → (wayN σ c w t).2.1 ≤ bestN σ c t n := by
  induction n with
  | zero => exact ⟨Int.le_refl _, fun w h => absurd h (by omega)⟩
  | succ n ih =>
    have e : bestN σ c t (n + 1) = max (bestN σ c t n) (wayN σ c n t).2.1 := rfl
    refine ⟨by omega, fun w hw => ?_⟩
    by_cases q : w = n
    · subst q; omega
    · have := ih.2 w (by omega); omega
theorem bestN_le {σ : ZT} {c t n : Nat} {B : Int} (h0 : 0 ≤ B) (h : ∀ w, (wayN σ c w t).2.1 ≤ B) : bestN σ c t n ≤ B := by
  induction n with
  | zero => exact h0
  | succ n ih =>
    have e : bestN σ c t (n + 1) = max (bestN σ c t n) (wayN σ c n t).2.1 := rfl
    have := h n
    omega
theorem bestV_nn {σ : ZT} {c l : Nat} : ∀ (has : Int) (k : Nat), 0 ≤ bestV σ c l has k := by
  induction l with
  | zero => intro _ _; exact Int.le_refl _
  | succ l ih =>
    intro has k
    have := ih has (k + 1)
    show 0 ≤ max (max (bestV σ c l has (k + 1)) (if 0 < inZ σ c has then bestV σ c l (has + inZ σ c has) (k + 1) - inZ σ c has * pricZ σ k else bestV σ c l has (k + 1))) (if 0 < outZ σ c has then bestV σ c l (has - outZ σ c has) (k + 1) + outZ σ c has * pricZ σ k else bestV σ c l has (k + 1))
    omega
theorem best_eq {σ : ZT} {c t : Nat} (h : CuOk σ c) : bestV σ c t (σ 21 c) 0 = bestN σ c t (3 ^ t) := by
  have q := h
  unfold CuOk at q
  have a : bestN σ c t (3 ^ t) ≤ bestV σ c t (σ 21 c) 0 := bestN_le (bestV_nn _ _) (fun w => by rw [way_W]; exact sumW_le h _ _ _ (by omega) (by omega))
  obtain ⟨w, b1, b2⟩ := sumW_at (l := t) h (σ 21 c) 0 (by omega) (by omega)
  have b := (bestN_ge (σ := σ) (c := c) (t := t) (n := 3 ^ t)).2 w b1
  rw [way_W, b2] at b
  omega
theorem bestV_b {σ : ZT} {c l : Nat} (h : CuOk σ c) (hp : PrOk σ) : ∀ (has : Int) (k : Nat), 0 ≤ has → has ≤ σ 17 c → bestV σ c l has k ≤ 100000000 * l := by
  induction l with
  | zero => intro _ _ _ _; show (0 : Int) ≤ _; omega
  | succ l ih =>
    intro has k h1 h2
    have i := inz_b h h1 h2
    have o := outz_b h h1 h2
    have p := hp ((nowN σ + k) % 64) (Nat.mod_lt _ (by omega))
    have m1 := mul_b (a := inZ σ c has) (A := 100000) (by omega) (by omega) p.1 p.2
    have m2 := mul_b (a := outZ σ c has) (A := 100000) (by omega) (by omega) p.1 p.2
    have a0 := ih has (k + 1) h1 h2
    have a1 := fun q => ih (has + inZ σ c has) (k + 1) (by omega) q
    have a2 := fun q => ih (has - outZ σ c has) (k + 1) q (by omega)
    have a1 := a1 (by omega)
    have a2 := a2 (by omega)
    show max (max (bestV σ c l has (k + 1)) (if 0 < inZ σ c has then bestV σ c l (has + inZ σ c has) (k + 1) - inZ σ c has * pricZ σ k else bestV σ c l has (k + 1))) (if 0 < outZ σ c has then bestV σ c l (has - outZ σ c has) (k + 1) + outZ σ c has * pricZ σ k else bestV σ c l has (k + 1)) ≤ _
    unfold pricZ
    split <;> split <;> omega
def XT (K : Int) (es : List (String × Int)) (B : AH → Prop) : String → AH → Prop := fun E h => ∃ k, (E, k) ∈ es ∧ K = k ∧ B h
def FK (K : Int) (v : Value) (A : AH → Prop) : Option Value → AH → Prop := fun rv h => K = 0 ∧ rv = some v ∧ A h

