/-! THE NUMBERS OF A HOUSE: by field and place; the reference's objects hold them -/
abbrev ZT : Type := Nat → Nat → Int
abbrev JT : Type := Nat → Nat → Int64
def zu (σ : ZT) (f i : Nat) (x : Int) : ZT := fun g j => if g = f then (if j = i then x else σ g j) else σ g j
def ju (τ : JT) (f i : Nat) (x : Int64) : JT := fun g j => if g = f then (if j = i then x else τ g j) else τ g j
theorem zu_n {σ : ZT} {f i g : Nat} {x : Int} (h : g ≠ f) : zu σ f i x g = σ g := by funext j; exact if_neg h
theorem zu_f {σ : ZT} {f i g j : Nat} {x : Int} (h : g ≠ f) : zu σ f i x g j = σ g j := if_neg h
theorem zu_s {σ : ZT} {f i : Nat} {x : Int} : zu σ f i x f i = x := by unfold zu; rw [if_pos rfl, if_pos rfl]
theorem zu_j {σ : ZT} {f i j : Nat} {x : Int} (h : j ≠ i) : zu σ f i x f j = σ f j := by unfold zu; rw [if_pos rfl, if_neg h]
theorem ju_n {σ : JT} {f i g : Nat} {x : Int64} (h : g ≠ f) : ju σ f i x g = σ g := by funext j; exact if_neg h
theorem ju_f {σ : JT} {f i g j : Nat} {x : Int64} (h : g ≠ f) : ju σ f i x g j = σ g j := if_neg h
theorem ju_s {σ : JT} {f i : Nat} {x : Int64} : ju σ f i x f i = x := by unfold ju; rw [if_pos rfl, if_pos rfl]
theorem ju_j {σ : JT} {f i j : Nat} {x : Int64} (h : j ≠ i) : ju σ f i x f j = σ f j := by unfold ju; rw [if_pos rfl, if_neg h]
theorem zu_upd {σ : ZT} {f i : Nat} {x : Int} : upd (fun k => iv (σ f k)) i (iv x) = fun k => iv (zu σ f i x f k) := by
  funext j
  unfold upd zu
  rw [if_pos rfl]
  by_cases h : j = i
  · rw [if_pos h, if_pos h]
  · rw [if_neg h, if_neg h]
theorem ju_upd {σ : JT} {f i : Nat} {x : Int64} : vp_updL (σ f) i x = ju σ f i x f := by
  funext j
  unfold vp_updL ju
  rw [if_pos rfl]
def mI (f : Nat) : Bool := decide (f ∈ [3, 4, 5, 6, 7, 8, 9, 10, 11, 12, 14, 17, 18, 19, 20, 21, 25, 26, 28, 29, 30, 36, 37, 38, 39])
def mJ (f : Nat) : Bool := decide (f ∈ [13, 22, 23, 24])
def mS (f : Nat) : Bool := decide (f ∈ [0, 1, 2, 15, 16, 27, 31, 32])
def mT (f : Nat) : Bool := decide (f ∈ [33, 34, 35])
def mlen (f : Nat) : Nat := if f = 25 then 384 else if f = 26 then 64 else if f < 15 then 5 else if 28 ≤ f ∧ f ≤ 30 then 20 else 6
theorem mI_lt {f : Nat} (h : mI f = true) : f < 40 := by
  rcases Nat.lt_or_ge f 40 with q | q
  · exact q
  · have h := of_decide_eq_true h; simp only [List.mem_cons, List.not_mem_nil, or_false] at h; omega
theorem mIS {f g : Nat} (h : mI f = true) (k : mS g = true) : f ≠ g := by
  intro e; subst e
  have h := of_decide_eq_true h; have k := of_decide_eq_true k; simp only [List.mem_cons, List.not_mem_nil, or_false] at h k; omega
theorem mIJ {f g : Nat} (h : mI f = true) (k : mJ g = true) : f ≠ g := by
  intro e; subst e
  have h := of_decide_eq_true h; have k := of_decide_eq_true k; simp only [List.mem_cons, List.not_mem_nil, or_false] at h k; omega
theorem mJT {f g : Nat} (h : mJ f = true) (k : mT g = true) : f ≠ g := by
  intro e; subst e
  have h := of_decide_eq_true h; have k := of_decide_eq_true k; simp only [List.mem_cons, List.not_mem_nil, or_false] at h k; omega
abbrev mfs (ma : Nat → Nat) (σ : ZT) (τ : JT) : List Value := [.int (iv (σ 0 0)), .int (iv (σ 1 0)), .int (iv (σ 2 0)), .ref (ma 3), .ref (ma 4), .ref (ma 5), .ref (ma 6), .ref (ma 7), .ref (ma 8), .ref (ma 9), .ref (ma 10), .ref (ma 11), .ref (ma 12), .ref (ma 13), .ref (ma 14), .int (iv (σ 15 0)), .int (iv (σ 16 0)), .ref (ma 17), .ref (ma 18), .ref (ma 19), .ref (ma 20), .ref (ma 21), .ref (ma 22), .ref (ma 23), .ref (ma 24), .ref (ma 25), .ref (ma 26), .int (iv (σ 27 0)), .ref (ma 28), .ref (ma 29), .ref (ma 30), .int (iv (σ 31 0)), .int (iv (σ 32 0)), .long (τ 33 0), .long (τ 34 0), .long (τ 35 0), .ref (ma 36), .ref (ma 37), .ref (ma 38), .ref (ma 39)]
/-- the reference at M, its rows at ma, holds σ and τ -/
theorem va_ij {c1 c2 : ClassId} {n1 n2 : Nat} {f : Nat → Int32} {g : (Nat → Int64) ⊕ (Nat → UInt32) ⊕ (Nat → UInt64) ⊕ (Nat → Option Nat)} : (Sum.inl (c1, n1, Sum.inl f) : va_E) ≠ Sum.inl (c2, n2, Sum.inr g) := fun h => by
  have q := congrArg (fun e : va_E => match e with | .inl a => (match a.2.2 with | .inl _ => true | .inr _ => false) | .inr _ => false) h
  cases q
theorem va_ie {a : ClassId × vp_A} {b : Nat × List Value} : (Sum.inl a : va_E) ≠ Sum.inr b := fun h => by cases h
section YMODEL
variable {Ω : OmT} {κ : KxT} {hR : AH} {cs sl pc M : Nat} {ma : Nat → Nat} {σ : ZT} {τ : JT} {L : List (Nat × Value)} {st : List Value} {own : String} {cc : ByteArray} {f k : Nat} {x z : Int} {y : Int64} {h : AH}
end YMODEL

