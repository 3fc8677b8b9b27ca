/-! what flows, as the class counts it -/
def unw (τ t : JT) : JT := fun f => if f = 33 ∨ f = 34 then τ f else t f
theorem unw_n {τ t : JT} {f : Nat} (h : ¬ (f = 33 ∨ f = 34)) : unw τ t f = t f := if_neg h
theorem unw_ju {τ t : JT} {k : Nat} {y : Int64} : unw τ (ju t 13 k y) = ju (unw τ t) 13 k y := by
  funext a b
  by_cases q : a = 33 ∨ a = 34
  · rw [show unw τ (ju t 13 k y) a = τ a from if_pos q, ju_f (by omega), show unw τ t a = τ a from if_pos q]
  · rw [unw_n q]
    unfold ju
    rw [unw_n q]
theorem los_unw {τ t : JT} {σ : ZT} {k : Nat} {u : Int} : losP k u (σ, unw τ t) = ((losP k u (σ, t)).1, unw τ (losP k u (σ, t)).2) := by
  have e : lossJ σ (unw τ t) k u = lossJ σ t k u := rfl
  unfold losP
  show (zu σ 6 k (σ 6 k - u), ju (unw τ t) 13 k (unw τ t 13 k - lossJ σ (unw τ t) k u)) = (zu σ 6 k (σ 6 k - u), unw τ (ju t 13 k (t 13 k - lossJ σ t k u)))
  rw [e, unw_ju]
  rfl
theorem went_e {x : Int} {s : ZT} {τ : JT} : (wentP x (s, τ)).2 = ju (ju τ 33 0 (τ 33 0 + jv (if 0 < x then absZ x else 0))) 34 0 (τ 34 0 + jv (if 0 < x then 0 else absZ x)) := rfl
theorem unw_w {x : Int} {s : ZT} {τ : JT} : unw τ (wentP x (s, τ)).2 = τ := by
  funext f
  by_cases q : f = 33 ∨ f = 34
  · exact if_pos q
  · rw [unw_n q]
    rw [went_e, ju_n (by omega), ju_n (by omega)]
theorem went_v {x : Int} {s : ZT} {τ : JT} : (wentP x (s, τ)).2 33 = ju τ 33 0 (τ 33 0 + jv (if 0 < x then absZ x else 0)) 33 ∧ (wentP x (s, τ)).2 34 = ju τ 34 0 (τ 34 0 + jv (if 0 < x then 0 else absZ x)) 34 := by
  refine ⟨?_, ?_⟩
  · rw [went_e, ju_n (by omega)]
  · funext j
    rw [went_e]
    by_cases q : j = 0
    · subst q; rw [ju_s, ju_s]
    · rw [ju_j q, ju_f (by omega), ju_j q]
theorem fin_in {x : Int} {s : ZT} {τ V : JT} (hx : 0 < x) (hV : ∀ f, f ≠ 13 → V f = (wentP x (s, τ)).2 f) : ju (unw τ V) 33 0 (unw τ V 33 0 + jv x) = V := by
  have e : absZ x = x := if_pos hx
  have w := went_v (x := x) (s := s) (τ := τ)
  rw [if_pos hx, if_pos hx, e] at w
  funext a
  by_cases q : a = 33
  · subst q
    rw [hV 33 (by omega), w.1]
    funext b
    by_cases r : b = 0
    · subst r; rw [ju_s, ju_s]; rfl
    · rw [ju_j r, ju_j r]; rfl
  · rw [ju_n q]
    by_cases r : a = 34
    · subst r
      rw [hV 34 (by omega), w.2, jv_0, Int64.add_zero, ju_id rfl]; rfl
    · exact unw_n (by omega)
theorem fin_out {x : Int} {s : ZT} {τ V : JT} (hx : ¬ 0 < x) (hV : ∀ f, f ≠ 13 → V f = (wentP x (s, τ)).2 f) : ju (unw τ V) 34 0 (unw τ V 34 0 + jv (-x)) = V := by
  have e : absZ x = -x := if_neg hx
  have w := went_v (x := x) (s := s) (τ := τ)
  rw [if_neg hx, if_neg hx, e] at w
  funext a
  by_cases q : a = 34
  · subst q
    rw [hV 34 (by omega), w.2]
    funext b
    by_cases r : b = 0
    · subst r; rw [ju_s, ju_s]; rfl
    · rw [ju_j r, ju_j r]; rfl
  · rw [ju_n q]
    by_cases r : a = 33
    · subst r
      rw [hV 33 (by omega), w.1, jv_0, Int64.add_zero, ju_id rfl]; rfl
    · exact unw_n (by omega)
theorem flP_0 {p : ZT × JT} {n : Nat} (h : ∀ j, j < n → 0 ≤ p.1 14 j) : flP false p 0 n = (p, 0) := by
  induction n with
  | zero => rfl
  | succ n ih =>
    have q := h n (by omega)
    unfold flP
    rw [ih (fun j hj => h j (by omega))]
    show (losP n (min 0 (p.1 14 n)) p, 0 - min 0 (p.1 14 n)) = (p, 0)
    rw [show min 0 (p.1 14 n) = 0 by omega, losP_0]
    rfl
theorem flows_0 {σ : ZT} {τ : JT} {ns : Nat} (h : ∀ k, k < ns → StOk σ k) : (∀ f, f ≠ 14 → (flowsP 0 ns (σ, τ)).1 f = σ f) ∧ (flowsP 0 ns (σ, τ)).2 = τ := by
  have e : flowsP 0 ns (σ, τ) = wentP 0 (rtN σ false ns, τ) := by
    unfold flowsP
    show (flP false (wentP 0 (rtN σ false ns, τ)) 0 ns).1 = _
    rw [flP_0 (fun j hj => by show 0 ≤ rtN σ false ns 14 j; rw [rtN_v.1 hj]; exact (rate_b (h j hj)).1)]
  rw [e]
  refine ⟨fun f hf => rtN_f hf, ?_⟩
  funext a
  have w := went_v (x := 0) (s := rtN σ false ns) (τ := τ)
  rw [if_neg (by decide), if_neg (by decide), show absZ 0 = 0 from rfl, jv_0] at w
  by_cases q : a = 33
  · subst q; rw [w.1, Int64.add_zero, ju_id rfl]
  · by_cases r : a = 34
    · subst r; rw [w.2, Int64.add_zero, ju_id rfl]
    · rw [went_e, ju_n r, ju_n q]
/-- the prices and the last hours after an hour -/
def flowX (x : Int) (σ : ZT) (ξ : XiT) : XiT := (ξ.1, if 0 < x then σ 1 0 else ξ.2.1, if x < 0 then σ 1 0 else ξ.2.2)
def hourX (ns nc nl : Nat) (ξ : XiT) (σ : ZT) : XiT := (fun j => if j = nowN σ % 64 then 0 else ξ.1 j, (flowX (netZ (laysZ σ nc nl ns) nc) σ ξ).2)

