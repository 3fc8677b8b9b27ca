/-! new stores, customers and laws in numbers -/
theorem LiC.en {Ω : OmT} {l e n : Nat} {el : Nat → Nat} {h : AH} (i : LiC Ω l e n el h) (hE : h (OmE Ω) = none) : e ≠ l := by
  obtain ⟨mc, cap, g, h1, h2⟩ := i
  intro q
  rcases h2 with ⟨-, e2⟩ | w
  · rw [← q, e2, hE] at h1; cases h1
  · have w4 := w.2.2.2.1
    rw [q, h1] at w4; cases w4
abbrev st1 (ns : Nat) (k v lo gr m : Int) (σ : ZT) : ZT := zu (zu (zu (zu (zu (zu σ 3 ns k) 4 ns v) 6 ns 0) 7 ns lo) 8 ns gr) 9 ns m
theorem st1_L {ns nc : Nat} {k v lo gr m : Int} {σ : ZT} {τ : JT} (hb : Bl σ τ ns nc) : StF (st1 ns k v lo gr m σ) (ju τ 13 ns (jv 0)) ns = [.int (iv k), .int (iv lo), .int (iv gr), .int (iv m), .int (iv v), .int (iv 0), .int (iv 0), .long (jv 0), .int (iv 0), .int (iv 0), .int (iv 0)] := by
  have q := hb.1 ns (Nat.le_refl _)
  have e3 : st1 ns k v lo gr m σ 3 ns = k := by unfold st1; rw [zu_f (by omega), zu_f (by omega), zu_f (by omega), zu_f (by omega), zu_f (by omega), zu_s]
  have e4 : st1 ns k v lo gr m σ 4 ns = v := by unfold st1; rw [zu_f (by omega), zu_f (by omega), zu_f (by omega), zu_f (by omega), zu_s]
  have e6 : st1 ns k v lo gr m σ 6 ns = 0 := by unfold st1; rw [zu_f (by omega), zu_f (by omega), zu_f (by omega), zu_s]
  have e7 : st1 ns k v lo gr m σ 7 ns = lo := by unfold st1; rw [zu_f (by omega), zu_f (by omega), zu_s]
  have e8 : st1 ns k v lo gr m σ 8 ns = gr := by unfold st1; rw [zu_f (by omega), zu_s]
  have e9 : st1 ns k v lo gr m σ 9 ns = m := by unfold st1; rw [zu_s]
  have e5 : st1 ns k v lo gr m σ 5 ns = 0 := q.1
  have e10 : st1 ns k v lo gr m σ 10 ns = 0 := q.2.1
  have e11 : st1 ns k v lo gr m σ 11 ns = 0 := q.2.2.1
  have e12 : st1 ns k v lo gr m σ 12 ns = 0 := q.2.2.2
  unfold StF
  rw [e3, e4, e5, e6, e7, e8, e9, e10, e11, e12, ju_s]
theorem st1_S {ns : Nat} {k v g lo gr m : Int} {σ : ZT} {τ : JT} : ∀ j, StF (stS ns k v g lo gr m (σ, τ)).1 (stS ns k v g lo gr m (σ, τ)).2 j = StF (zu (st1 ns k v lo gr m σ) 6 ns (st1 ns k v lo gr m σ 6 ns + g)) (ju (ju (ju τ 13 ns (jv 0)) 13 ns (ju τ 13 ns (jv 0) 13 ns + jv (g * st1 ns k v lo gr m σ 15 0))) 33 0 (ju (ju τ 13 ns (jv 0)) 13 ns (ju τ 13 ns (jv 0) 13 ns + jv (g * st1 ns k v lo gr m σ 15 0)) 33 0 + jv g)) j := by
  intro j
  have e6 : st1 ns k v lo gr m σ 6 ns = 0 := by unfold st1; rw [zu_f (by omega), zu_f (by omega), zu_f (by omega), zu_s]
  have e15 : st1 ns k v lo gr m σ 15 0 = σ 15 0 := rfl
  rw [e6, e15, ju_s, jv_0, Int64.zero_add, Int.zero_add]
  by_cases q : j = ns
  · subst q
    refine StF_c (fun f hf => ?_) ?_
    · unfold stS st1
      simp only [List.mem_cons, List.not_mem_nil, or_false] at hf
      rcases hf with rfl | rfl | rfl | rfl | rfl | rfl | rfl | rfl | rfl | rfl <;> simp [zu]
    · unfold stS; simp [ju]
  · refine StF_c (fun f hf => ?_) ?_
    · unfold stS st1
      simp only [List.mem_cons, List.not_mem_nil, or_false] at hf
      rcases hf with rfl | rfl | rfl | rfl | rfl | rfl | rfl | rfl | rfl | rfl <;> simp [zu, q]
    · unfold stS; simp [ju, q]
abbrev cu1 (nc : Nat) (v i o r : Int) (σ : ZT) : ZT := zu (zu (zu (zu σ 17 nc v) 18 nc i) 19 nc o) 20 nc r
theorem cu1_L {ns nc b : Nat} {v i o r : Int} {σ : ZT} {τ : JT} {la : Nat → Nat → Nat} (hb : Bl σ τ ns nc) (h3 : la 3 nc = b) : CuF la (cu1 nc v i o r σ) τ nc = [.int (iv v), .int (iv i), .int (iv o), .int (iv r), .ref b, .int (iv 0), .long (jv 0), .long (jv 0), .long (jv 0), .int (iv 0), .int (iv 0), .int (iv 0)] := by
  have q := hb.2 nc (Nat.le_refl _)
  have e17 : cu1 nc v i o r σ 17 nc = v := by unfold cu1; rw [zu_f (by omega), zu_f (by omega), zu_f (by omega), zu_s]
  have e18 : cu1 nc v i o r σ 18 nc = i := by unfold cu1; rw [zu_f (by omega), zu_f (by omega), zu_s]
  have e19 : cu1 nc v i o r σ 19 nc = o := by unfold cu1; rw [zu_f (by omega), zu_s]
  have e20 : cu1 nc v i o r σ 20 nc = r := by unfold cu1; rw [zu_s]
  have e21 : cu1 nc v i o r σ 21 nc = 0 := q.1
  have e36 : cu1 nc v i o r σ 36 nc - cu1 nc v i o r σ 37 nc = 0 := by show σ 36 nc - σ 37 nc = 0; rw [q.2.1, q.2.2.1]; rfl
  have e38 : cu1 nc v i o r σ 38 nc = 0 := q.2.2.2.1
  have e39 : cu1 nc v i o r σ 39 nc = 0 := q.2.2.2.2.1
  unfold CuF
  rw [e17, e18, e19, e20, e21, e36, e38, e39, h3, q.2.2.2.2.2.1, q.2.2.2.2.2.2.1, q.2.2.2.2.2.2.2.1, jv_0]
theorem cu1_N {Ω : OmT} {ns nc : Nat} {v i o r : Int} {σ : ZT} {τ : JT} (hb : Bl σ τ ns nc) : i64 Ω = .inl (OmI Ω, 64, .inl (fun j => iv (NF (cu1 nc v i o r σ) nc j))) := by
  have q := (hb.2 nc (Nat.le_refl _)).2.2.2.2.2.2.2.2
  unfold i64
  refine congrArg (fun f => (Sum.inl (OmI Ω, 64, Sum.inl f) : va_E)) (funext fun j => ?_)
  unfold NF
  split
  · rename_i z
    show 0 = iv (σ 25 (64 * nc + j))
    rw [q j z, iv_0]
  · exact iv_0.symm
abbrev lw1 (nl : Nat) (a b l : Int) (σ : ZT) : ZT := zu (zu (zu σ 28 nl a) 29 nl b) 30 nl l
theorem lw1_L {nl : Nat} {a b l : Int} {σ : ZT} : LwF (lw1 nl a b l σ) nl = [.int (iv a), .int (iv b), .int (iv l)] := by
  have e1 : lw1 nl a b l σ 28 nl = a := by unfold lw1; rw [zu_f (by omega), zu_f (by omega), zu_s]
  have e2 : lw1 nl a b l σ 29 nl = b := by unfold lw1; rw [zu_f (by omega), zu_s]
  have e3 : lw1 nl a b l σ 30 nl = l := by unfold lw1; rw [zu_s]
  unfold LwF
  rw [e1, e2, e3]

