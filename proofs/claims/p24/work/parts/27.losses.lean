/-! what is lost, counted apart -/
theorem ju_cm {τ : JT} {f g i j : Nat} {x y : Int64} (h : f ≠ g) : ju (ju τ f i x) g j y = ju (ju τ g j y) f i x := by
  funext a b
  unfold ju
  by_cases q : a = f
  · subst q; rw [if_neg h, if_pos rfl, if_pos rfl, if_neg h]
  · by_cases r : a = g
    · subst r; rw [if_pos rfl, if_neg q, if_neg q, if_pos rfl]
    · rw [if_neg r, if_neg q, if_neg q, if_neg r]
theorem losP_35 {k : Nat} {u : Int} {σ : ZT} {τ : JT} {v : Int64} : losP k u (σ, ju τ 35 0 v) = ((losP k u (σ, τ)).1, ju (losP k u (σ, τ)).2 35 0 v) := by
  have e : lossJ σ (ju τ 35 0 v) k u = lossJ σ τ k u := rfl
  unfold losP
  show (zu σ 6 k (σ 6 k - u), ju (ju τ 35 0 v) 13 k (ju τ 35 0 v 13 k - lossJ σ (ju τ 35 0 v) k u)) = _
  rw [e, ju_cm (by omega)]
  rfl
theorem nol_j {τ t : JT} {v : Int64} (h : t 35 = τ 35) : nol τ (ju t 35 0 v) = t := by
  funext f
  unfold nol
  split
  · rename_i q; subst q; exact h.symm
  · rename_i q; exact ju_n q
theorem los_35 {k : Nat} {u : Int} {p : ZT × JT} : (losP k u p).2 35 = p.2 35 := by
  unfold losP
  exact ju_n (σ := p.2) (f := 13) (i := k) (g := 35) (x := p.2 13 k - lossJ p.1 p.2 k u) (by omega)
theorem nol_1 {k : Nat} {u : Int} {σ : ZT} {τ : JT} : nol τ (lstP k u (σ, τ)).2 = (losP k u (σ, τ)).2 := nol_j los_35
theorem lst_2 {k : Nat} {u u2 : Int} {σ : ZT} {τ : JT} : lstP k u2 (lstP k u (σ, τ)) = ((losP k u2 (losP k u (σ, τ))).1, ju (losP k u2 (losP k u (σ, τ))).2 35 0 (τ 35 0 + jv u + jv u2)) := by
  have e : lstP k u (σ, τ) = ((losP k u (σ, τ)).1, ju (losP k u (σ, τ)).2 35 0 (τ 35 0 + jv u)) := rfl
  rw [e]
  unfold lstP
  rw [losP_35]
  show ((losP k u2 (losP k u (σ, τ))).1, ju (ju (losP k u2 (losP k u (σ, τ))).2 35 0 (τ 35 0 + jv u)) 35 0 (ju (losP k u (σ, τ)).2 35 0 (τ 35 0 + jv u) 35 0 + jv u2)) = _
  rw [ju_s]
  refine congrArg (fun t => ((losP k u2 (losP k u (σ, τ))).1, t)) ?_
  funext a b
  unfold ju
  by_cases q : a = 35
  · subst q; by_cases r : b = 0
    · subst r; rfl
    · rw [if_pos rfl, if_pos rfl, if_neg r, if_neg r, if_pos rfl, if_neg r]
  · rw [if_neg q, if_neg q, if_neg q]
theorem nol_2 {k : Nat} {u u2 : Int} {σ : ZT} {τ : JT} : nol τ (lstP k u2 (lstP k u (σ, τ))).2 = (losP k u2 (losP k u (σ, τ))).2 := by
  rw [lst_2]
  exact nol_j (by rw [los_35, los_35])
/-- what a store loses in an hour; at the end of a day -/
def lkU (σ : ZT) (k : Nat) : Int := if σ 3 k = 2 ∧ σ 9 k < σ 6 k - min (σ 12 k) (σ 6 k) then min (σ 12 k) (σ 6 k) + (σ 6 k - min (σ 12 k) (σ 6 k) - σ 9 k) else min (σ 12 k) (σ 6 k)
def dyU (σ : ZT) (k : Nat) : Int := if mostZ (moveZ σ k 8 k) (roomZ (moveZ σ k) k) < σ 6 k then σ 6 k - mostZ (moveZ σ k 8 k) (roomZ (moveZ σ k) k) else 0
theorem leak_35 {k : Nat} {σ : ZT} {τ : JT} : (leakP k (σ, τ)).2 = ju (nol τ (leakP k (σ, τ)).2) 35 0 (τ 35 0 + jv (lkU σ k)) := by
  by_cases q : σ 3 k = 2 ∧ σ 9 k < σ 6 k - min (σ 12 k) (σ 6 k)
  · rw [show leakP k (σ, τ) = lstP k (σ 6 k - min (σ 12 k) (σ 6 k) - σ 9 k) (lstP k (min (σ 12 k) (σ 6 k)) (σ, τ)) from if_pos q, nol_2, show lkU σ k = _ from if_pos q, lst_2, ← jv_add, Int64.add_assoc]
  · rw [show leakP k (σ, τ) = lstP k (min (σ 12 k) (σ 6 k)) (σ, τ) from if_neg q, nol_1, show lkU σ k = _ from if_neg q]
    rfl
theorem nol_self {τ : JT} : nol τ τ = τ := funext fun f => by
  unfold nol
  split
  · rename_i z; rw [z]
  · rfl
theorem day_35 {k : Nat} {σ : ZT} {τ : JT} : (dayP k (σ, τ)).2 = ju (nol τ (dayP k (σ, τ)).2) 35 0 (τ 35 0 + jv (dyU σ k)) := by
  by_cases q : mostZ (moveZ σ k 8 k) (roomZ (moveZ σ k) k) < σ 6 k
  · rw [show dayP k (σ, τ) = lstP k (σ 6 k - mostZ (moveZ σ k 8 k) (roomZ (moveZ σ k) k)) (moveZ σ k, τ) from if_pos q, nol_1, show dyU σ k = _ from if_pos q]
    rfl
  · rw [show dayP k (σ, τ) = (moveZ σ k, τ) from if_neg q, show dyU σ k = 0 from if_neg q]
    show τ = ju (nol τ τ) 35 0 (τ 35 0 + jv 0)
    rw [nol_self, jv_0, Int64.add_zero]
    exact (ju_id rfl).symm

