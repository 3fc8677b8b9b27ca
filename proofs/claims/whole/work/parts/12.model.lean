/-! THE NUMBERS OF A HOUSE: by field and place; the reference's objects hold them -/
abbrev ZT : Type := Nat → Nat → Int
abbrev JT : Type := Nat → Nat → Int64
def zu (σ : ZT) (f i : Nat) (x : Int) : ZT := fun g j => if g = f then (if j = i then x else σ g j) else σ g j
def ju (τ : JT) (f i : Nat) (x : Int64) : JT := fun g j => if g = f then (if j = i then x else τ g j) else τ g j
theorem zu_n {σ : ZT} {f i g : Nat} {x : Int} (h : g ≠ f) : zu σ f i x g = σ g := by funext j; exact if_neg h
theorem zu_f {σ : ZT} {f i g j : Nat} {x : Int} (h : g ≠ f) : zu σ f i x g j = σ g j := if_neg h
theorem zu_s {σ : ZT} {f i : Nat} {x : Int} : zu σ f i x f i = x := by unfold zu; rw [if_pos rfl, if_pos rfl]
theorem zu_j {σ : ZT} {f i j : Nat} {x : Int} (h : j ≠ i) : zu σ f i x f j = σ f j := by unfold zu; rw [if_pos rfl, if_neg h]
theorem ju_n {σ : JT} {f i g : Nat} {x : Int64} (h : g ≠ f) : ju σ f i x g = σ g := by funext j; exact if_neg h
theorem ju_f {σ : JT} {f i g j : Nat} {x : Int64} (h : g ≠ f) : ju σ f i x g j = σ g j := if_neg h
theorem ju_s {σ : JT} {f i : Nat} {x : Int64} : ju σ f i x f i = x := by unfold ju; rw [if_pos rfl, if_pos rfl]
theorem ju_j {σ : JT} {f i j : Nat} {x : Int64} (h : j ≠ i) : ju σ f i x f j = σ f j := by unfold ju; rw [if_pos rfl, if_neg h]
theorem zu_upd {σ : ZT} {f i : Nat} {x : Int} : upd (fun k => iv (σ f k)) i (iv x) = fun k => iv (zu σ f i x f k) := by
  funext j
  unfold upd zu
  rw [if_pos rfl]
  by_cases h : j = i
  · rw [if_pos h, if_pos h]
  · rw [if_neg h, if_neg h]
theorem ju_upd {σ : JT} {f i : Nat} {x : Int64} : vp_updL (σ f) i x = ju σ f i x f := by
  funext j
  unfold vp_updL ju
  rw [if_pos rfl]
def mI (f : Nat) : Bool := decide (f ∈ [3, 4, 5, 6, 7, 8, 9, 10, 11, 12, 14, 17, 18, 19, 20, 21, 25, 26, 28, 29, 30, 36, 37, 38, 39])
def mJ (f : Nat) : Bool := decide (f ∈ [13, 22, 23, 24])
def mS (f : Nat) : Bool := decide (f ∈ [0, 1, 2, 15, 16, 27, 31, 32])
def mT (f : Nat) : Bool := decide (f ∈ [33, 34, 35])
def mlen (f : Nat) : Nat := if f = 25 then 384 else if f = 26 then 64 else if f < 15 then 5 else if 28 ≤ f ∧ f ≤ 30 then 20 else 6
theorem mI_lt {f : Nat} (h : mI f = true) : f < 40 := by
  rcases Nat.lt_or_ge f 40 with q | q
  · exact q
  · have h := of_decide_eq_true h; simp only [List.mem_cons, List.not_mem_nil, or_false] at h; omega
theorem mIS {f g : Nat} (h : mI f = true) (k : mS g = true) : f ≠ g := by
  intro e; subst e
  have h := of_decide_eq_true h; have k := of_decide_eq_true k; simp only [List.mem_cons, List.not_mem_nil, or_false] at h k; omega
theorem mIJ {f g : Nat} (h : mI f = true) (k : mJ g = true) : f ≠ g := by
  intro e; subst e
  have h := of_decide_eq_true h; have k := of_decide_eq_true k; simp only [List.mem_cons, List.not_mem_nil, or_false] at h k; omega
theorem mJT {f g : Nat} (h : mJ f = true) (k : mT g = true) : f ≠ g := by
  intro e; subst e
  have h := of_decide_eq_true h; have k := of_decide_eq_true k; simp only [List.mem_cons, List.not_mem_nil, or_false] at h k; omega
abbrev mfs (ma : Nat → Nat) (σ : ZT) (τ : JT) : List Value := [.int (iv (σ 0 0)), .int (iv (σ 1 0)), .int (iv (σ 2 0)), .ref (ma 3), .ref (ma 4), .ref (ma 5), .ref (ma 6), .ref (ma 7), .ref (ma 8), .ref (ma 9), .ref (ma 10), .ref (ma 11), .ref (ma 12), .ref (ma 13), .ref (ma 14), .int (iv (σ 15 0)), .int (iv (σ 16 0)), .ref (ma 17), .ref (ma 18), .ref (ma 19), .ref (ma 20), .ref (ma 21), .ref (ma 22), .ref (ma 23), .ref (ma 24), .ref (ma 25), .ref (ma 26), .int (iv (σ 27 0)), .ref (ma 28), .ref (ma 29), .ref (ma 30), .int (iv (σ 31 0)), .int (iv (σ 32 0)), .long (τ 33 0), .long (τ 34 0), .long (τ 35 0), .ref (ma 36), .ref (ma 37), .ref (ma 38), .ref (ma 39)]
/-- the reference at M, its rows at ma, holds σ and τ -/
def InvM (Ω : OmT) (M : Nat) (ma : Nat → Nat) (σ : ZT) (τ : JT) (h : AH) : Prop :=
  h M = some (.inr (6, mfs ma σ τ)) ∧ (∀ f, mI f = true → h (ma f) = some (.inl (OmI Ω, mlen f, .inl (fun k => iv (σ f k))))) ∧ (∀ f, mJ f = true → h (ma f) = some (.inl (OmJ Ω, mlen f, .inr (.inl (τ f))))) ∧
  (∀ f g, mI f = true → mI g = true → ma f = ma g → f = g) ∧ (∀ f g, mJ f = true → mJ g = true → ma f = ma g → f = g)
theorem va_ij {c1 c2 : ClassId} {n1 n2 : Nat} {f : Nat → Int32} {g : (Nat → Int64) ⊕ (Nat → UInt32) ⊕ (Nat → UInt64) ⊕ (Nat → Option Nat)} : (Sum.inl (c1, n1, Sum.inl f) : va_E) ≠ Sum.inl (c2, n2, Sum.inr g) := fun h => by
  have q := congrArg (fun e : va_E => match e with | .inl a => (match a.2.2 with | .inl _ => true | .inr _ => false) | .inr _ => false) h
  cases q
theorem va_ie {a : ClassId × vp_A} {b : Nat × List Value} : (Sum.inl a : va_E) ≠ Sum.inr b := fun h => by cases h
section YMODEL
variable {Ω : OmT} {κ : KxT} {hR : AH} {cs sl pc M : Nat} {ma : Nat → Nat} {σ : ZT} {τ : JT} {L : List (Nat × Value)} {st : List Value} {own : String} {cc : ByteArray} {f k : Nat} {x z : Int} {y : Int64} {h : AH}
theorem InvM.iast (hi : InvM Ω M ma σ τ h) (hf : mI f = true) : InvM Ω M ma (zu σ f k x) τ (hset h (ma f) (.inl (OmI Ω, mlen f, .inl (upd (fun k => iv (σ f k)) k (iv x))))) := by
  obtain ⟨h1, h2, h3, h4, h5⟩ := hi
  refine ⟨?_, fun g hg => ?_, fun g hg => ?_, h4, h5⟩
  · have e : mfs ma (zu σ f k x) τ = mfs ma σ τ := by
      have q : ∀ s, mS s = true → zu σ f k x s = σ s := fun s hs => zu_n (fun e => mIS hf hs e.symm)
      unfold mfs
      rw [q 0 rfl, q 1 rfl, q 2 rfl, q 15 rfl, q 16 rfl, q 27 rfl, q 31 rfl, q 32 rfl]
    rw [e]
    exact hset_d h1 (h2 f hf) (fun q => va_ie q.symm)
  · by_cases e : g = f
    · subst e; rw [hset_s, zu_upd]
    · rw [hset_n (fun q => e (h4 g f hg hf q)), zu_n e]; exact h2 g hg
  · exact hset_d (h3 g hg) (h2 f hf) va_ij.symm
theorem InvM.last (hi : InvM Ω M ma σ τ h) (hf : mJ f = true) : InvM Ω M ma σ (ju τ f k y) (hset h (ma f) (.inl (OmJ Ω, mlen f, .inr (.inl (vp_updL (τ f) k y))))) := by
  obtain ⟨h1, h2, h3, h4, h5⟩ := hi
  refine ⟨?_, fun g hg => ?_, fun g hg => ?_, h4, h5⟩
  · have e : mfs ma σ (ju τ f k y) = mfs ma σ τ := by
      have q : ∀ s, mT s = true → ju τ f k y s = τ s := fun s hs => ju_n (fun e => mJT hf hs e.symm)
      unfold mfs
      rw [q 33 rfl, q 34 rfl, q 35 rfl]
    rw [e]
    exact hset_d h1 (h3 f hf) (fun q => va_ie q.symm)
  · exact hset_d (h2 g hg) (h3 f hf) va_ij
  · by_cases e : g = f
    · subst e; rw [hset_s, ju_upd]
    · rw [hset_n (fun q => e (h5 g f hg hf q)), ju_n e]; exact h3 g hg
theorem InvM.putI (hi : InvM Ω M ma σ τ h) (hf : mS f = true) : InvM Ω M ma (zu σ f 0 x) τ (hset h M (.inr (6, (mfs ma σ τ).set f (.int (iv x))))) := by
  obtain ⟨h1, h2, h3, h4, h5⟩ := hi
  refine ⟨?_, fun g hg => ?_, fun g hg => ?_, h4, h5⟩
  · rw [hset_s]
    have k := of_decide_eq_true hf
    simp only [List.mem_cons, List.not_mem_nil, or_false] at k
    rcases k with rfl | rfl | rfl | rfl | rfl | rfl | rfl | rfl <;> rfl
  · rw [zu_n (mIS hg hf)]
    exact hset_d (h2 g hg) h1 va_ie
  · exact hset_d (h3 g hg) h1 va_ie
theorem InvM.putJ (hi : InvM Ω M ma σ τ h) (hf : mT f = true) : InvM Ω M ma σ (ju τ f 0 y) (hset h M (.inr (6, (mfs ma σ τ).set f (.long y)))) := by
  obtain ⟨h1, h2, h3, h4, h5⟩ := hi
  refine ⟨?_, fun g hg => ?_, fun g hg => ?_, h4, h5⟩
  · rw [hset_s]
    have k := of_decide_eq_true hf
    simp only [List.mem_cons, List.not_mem_nil, or_false] at k
    rcases k with rfl | rfl | rfl <;> rfl
  · exact hset_d (h2 g hg) h1 va_ie
  · rw [ju_n (mJT hg hf)]
    exact hset_d (h3 g hg) h1 va_ie
theorem m_iald (C : Cx Ω κ own cc) (f k : Nat) (hf : mI f = true) (hz : z = (k : Int)) (hk : k < mlen f) (dg : decode cc pc = .ok (.iaload, 1)) (kk : Y Ω κ (InvM Ω M ma σ τ) hR cs sl (pc + 1) L (.int (iv (σ f k)) :: st)) : Y Ω κ (InvM Ω M ma σ τ) hR cs sl pc L (.int (iv z) :: .ref (ma f) :: st) := by
  have h4 : mlen f ≤ 384 := by unfold mlen; split <;> first | omega | (split <;> first | omega | (split <;> first | omega | (split <;> omega)))
  subst hz
  exact y_iald C dg (by omega) (by omega) (fun h hi => ⟨_, _, hi.2.1 f hf, hk, rfl⟩) kk
theorem m_lald (C : Cx Ω κ own cc) (f k : Nat) (hf : mJ f = true) (hz : z = (k : Int)) (hk : k < mlen f) (dg : decode cc pc = .ok (.laload, 1)) (kk : Y Ω κ (InvM Ω M ma σ τ) hR cs sl (pc + 1) L (.long (τ f k) :: st)) : Y Ω κ (InvM Ω M ma σ τ) hR cs sl pc L (.int (iv z) :: .ref (ma f) :: st) := by
  have h4 : mlen f ≤ 384 := by unfold mlen; split <;> first | omega | (split <;> first | omega | (split <;> first | omega | (split <;> omega)))
  subst hz
  exact y_lald C dg (by omega) (by omega) (fun h hi => ⟨_, _, hi.2.2.1 f hf, hk, rfl⟩) kk
theorem m_iast (C : Cx Ω κ own cc) (f k : Nat) (hf : mI f = true) (hz : z = (k : Int)) (hk : k < mlen f) (dg : decode cc pc = .ok (.iastore, 1)) (kk : Y Ω κ (InvM Ω M ma (zu σ f k x) τ) hR cs sl (pc + 1) L st) : Y Ω κ (InvM Ω M ma σ τ) hR cs sl pc L (.int (iv x) :: .int (iv z) :: .ref (ma f) :: st) := by
  have h4 : mlen f ≤ 384 := by unfold mlen; split <;> first | omega | (split <;> first | omega | (split <;> first | omega | (split <;> omega)))
  subst hz
  exact y_iast C dg (by omega) (by omega) (fun h hi => ⟨_, _, hi.2.1 f hf, hk, hi.iast hf⟩) kk
theorem m_last (C : Cx Ω κ own cc) (f k : Nat) (hf : mJ f = true) (hz : z = (k : Int)) (hk : k < mlen f) (dg : decode cc pc = .ok (.lastore, 1)) (kk : Y Ω κ (InvM Ω M ma σ (ju τ f k y)) hR cs sl (pc + 1) L st) : Y Ω κ (InvM Ω M ma σ τ) hR cs sl pc L (.long y :: .int (iv z) :: .ref (ma f) :: st) := by
  have h4 : mlen f ≤ 384 := by unfold mlen; split <;> first | omega | (split <;> first | omega | (split <;> first | omega | (split <;> omega)))
  subst hz
  exact y_last C dg (by omega) (by omega) (fun h hi => ⟨_, _, hi.2.2.1 f hf, hk, hi.last hf⟩) kk
theorem m_putI (C : Cx Ω κ own cc) {idx : Nat} (f : Nat) (hf : mS f = true) (fp : FP own idx 6 f .int) (dg : decode cc pc = .ok (.putfield idx, 3)) (kk : Y Ω κ (InvM Ω M ma (zu σ f 0 x) τ) hR cs sl (pc + 3) L st) : Y Ω κ (InvM Ω M ma σ τ) hR cs sl pc L (.int (iv x) :: .ref M :: st) :=
  y_put C fp dg rfl rfl (fun h hi => ⟨_, hi.1, by have k := of_decide_eq_true hf; simp only [List.mem_cons, List.not_mem_nil, or_false] at k; show f < 40; omega, hi.putI hf⟩) kk
theorem m_putJ (C : Cx Ω κ own cc) {idx : Nat} (f : Nat) (hf : mT f = true) (fp : FP own idx 6 f .long) (dg : decode cc pc = .ok (.putfield idx, 3)) (kk : Y Ω κ (InvM Ω M ma σ (ju τ f 0 y)) hR cs sl (pc + 3) L st) : Y Ω κ (InvM Ω M ma σ τ) hR cs sl pc L (.long y :: .ref M :: st) :=
  y_put C fp dg rfl rfl (fun h hi => ⟨_, hi.1, by have k := of_decide_eq_true hf; simp only [List.mem_cons, List.not_mem_nil, or_false] at k; show f < 40; omega, hi.putJ hf⟩) kk
end YMODEL
