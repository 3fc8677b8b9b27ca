/-! THE CLASS'S HOUSE: its objects at lay hold the same numbers -/
def kd : va_E → Nat
  | .inr (c, _) => c + 10
  | .inl (_, _, .inl _) => 0
  | .inl (_, _, .inr (.inl _)) => 1
  | _ => 2
theorem hset_k {h : AH} {a b : Nat} {e x y : va_E} (h1 : h b = some x) (h2 : h a = some y) (n : kd x ≠ kd y) : hset h a e b = some x := hset_d h1 h2 (fun q => n (by rw [q]))
/-- the prices, the last hours in and out -/
abbrev XiT : Type := (Nat → Int) × Int × Int
def GaF (lay : Nat → Nat → Nat) (ξ : XiT) (σ : ZT) (τ : JT) : List Value := [.ref (lay 0 1), .ref (lay 0 2), .ref (lay 0 3), .ref (lay 0 4), .int (iv (σ 1 0)), .int (iv (σ 15 0)), .int (iv ξ.2.1), .int (iv ξ.2.2), .long (τ 33 0), .long (τ 34 0), .long (τ 35 0)]
def StF (σ : ZT) (τ : JT) (i : Nat) : List Value := [.int (iv (σ 3 i)), .int (iv (σ 7 i)), .int (iv (σ 8 i)), .int (iv (σ 9 i)), .int (iv (σ 4 i)), .int (iv (σ 5 i)), .int (iv (σ 6 i)), .long (τ 13 i), .int (iv (σ 10 i)), .int (iv (σ 11 i)), .int (iv (σ 12 i))]
def CuF (lay : Nat → Nat → Nat) (σ : ZT) (τ : JT) (c : Nat) : List Value := [.int (iv (σ 17 c)), .int (iv (σ 18 c)), .int (iv (σ 19 c)), .int (iv (σ 20 c)), .ref (lay 3 c), .int (iv (σ 21 c)), .long (τ 22 c), .long (τ 23 c), .long (τ 24 c), .int (iv (σ 36 c - σ 37 c)), .int (iv (σ 38 c)), .int (iv (σ 39 c))]
/-- a customer's row of nominations -/
def NF (σ : ZT) (c j : Nat) : Int := if j < 64 then σ 25 (64 * c + j) else 0
def LwF (σ : ZT) (i : Nat) : List Value := [.int (iv (σ 28 i)), .int (iv (σ 29 i)), .int (iv (σ 30 i))]
theorem GaF_c {lay : Nat → Nat → Nat} {ξ : XiT} {σ s : ZT} {τ t : JT} (h : ∀ f, f ∈ [1, 15] → s f 0 = σ f 0) (ht : ∀ f, f ∈ [33, 34, 35] → t f 0 = τ f 0) : GaF lay ξ s t = GaF lay ξ σ τ := by
  unfold GaF
  rw [h 1 (by decide), h 15 (by decide), ht 33 (by decide), ht 34 (by decide), ht 35 (by decide)]
theorem StF_c {σ s : ZT} {τ t : JT} {k : Nat} (h : ∀ f, f ∈ [3, 4, 5, 6, 7, 8, 9, 10, 11, 12] → s f k = σ f k) (ht : t 13 k = τ 13 k) : StF s t k = StF σ τ k := by
  unfold StF
  rw [h 3 (by decide), h 4 (by decide), h 5 (by decide), h 6 (by decide), h 7 (by decide), h 8 (by decide), h 9 (by decide), h 10 (by decide), h 11 (by decide), h 12 (by decide), ht]
theorem CuF_c {lay : Nat → Nat → Nat} {σ s : ZT} {τ t : JT} {c : Nat} (h : ∀ f, f ∈ [17, 18, 19, 20, 21, 38, 39] → s f c = σ f c) (hp : s 36 c - s 37 c = σ 36 c - σ 37 c) (ht : ∀ f, f ∈ [22, 23, 24] → t f c = τ f c) : CuF lay s t c = CuF lay σ τ c := by
  unfold CuF
  rw [h 17 (by decide), h 18 (by decide), h 19 (by decide), h 20 (by decide), h 21 (by decide), h 38 (by decide), h 39 (by decide), hp, ht 22 (by decide), ht 23 (by decide), ht 24 (by decide)]
theorem NF_c {σ s : ZT} {c : Nat} (h : s 25 = σ 25) : NF s c = NF σ c := by funext j; unfold NF; rw [h]
theorem LwF_c {σ s : ZT} {i : Nat} (h : ∀ f, f ∈ [28, 29, 30] → s f i = σ f i) : LwF s i = LwF σ i := by
  unfold LwF
  rw [h 28 (by decide), h 29 (by decide), h 30 (by decide)]
/-- a list at l with its row at e: n elements -/
def LiC (Ω : OmT) (l e n : Nat) (el : Nat → Nat) (h : AH) : Prop := ∃ (mc : Int32) (cap : Nat) (g : Nat → Option Nat), h l = some (.inr (0, [.int mc, .ref e, .int (iv n)])) ∧
  ((n = 0 ∧ e = OmE Ω) ∨ (n ≤ cap ∧ 10 ≤ cap ∧ cap ≤ 40 ∧ h e = some (.inl (OmO Ω, cap, .inr (.inr (.inr (.inr g))))) ∧ ∀ i, i < n → g i = some (el i)))
theorem LiC.set {Ω : OmT} {l e n a : Nat} {el : Nat → Nat} {h : AH} {x y : va_E} (i : LiC Ω l e n el h) (ha : h a = some y) (k1 : kd y ≠ 10) (k2 : kd y ≠ 2) : LiC Ω l e n el (hset h a x) := by
  obtain ⟨mc, cap, g, h1, h2⟩ := i
  refine ⟨mc, cap, g, hset_k h1 ha (fun q => k1 q.symm), h2.imp id (fun q => ⟨q.1, q.2.1, q.2.2.1, hset_k q.2.2.2.1 ha (fun z => k2 z.symm), q.2.2.2.2⟩)⟩
def LayOk (lay : Nat → Nat → Nat) (ms nc : Nat) : Prop := (∀ i j, i < ms → j < ms → lay 1 i = lay 1 j → i = j) ∧ (∀ i j, i < nc → j < nc → lay 2 i = lay 2 j → i = j) ∧ (∀ i j, i < nc → j < nc → lay 4 i = lay 4 j → i = j) ∧ (∀ i, i < nc → lay 4 i ≠ lay 0 5)
/-- ms stores of which ns are in the list, nc customers, nl laws -/
def InvC (Ω : OmT) (lay : Nat → Nat → Nat) (ms ns nc nl : Nat) (ξ : XiT) (σ : ZT) (τ : JT) (h : AH) : Prop :=
  h (lay 0 0) = some (.inr (5, GaF lay ξ σ τ)) ∧ LiC Ω (lay 0 1) (lay 6 1) ns (lay 1) h ∧ LiC Ω (lay 0 2) (lay 6 2) nc (lay 2) h ∧ LiC Ω (lay 0 3) (lay 6 3) nl (lay 5) h ∧
  h (lay 0 4) = some (.inr (2, [.ref (lay 0 5)])) ∧ h (lay 0 5) = some (.inl (OmI Ω, 64, .inl (fun j => iv (ξ.1 j)))) ∧ (∀ i, i < ms → h (lay 1 i) = some (.inr (4, StF σ τ i))) ∧
  (∀ c, c < nc → h (lay 2 c) = some (.inr (1, CuF lay σ τ c))) ∧ (∀ c, c < nc → h (lay 3 c) = some (.inr (2, [.ref (lay 4 c)]))) ∧ (∀ c, c < nc → h (lay 4 c) = some (.inl (OmI Ω, 64, .inl (fun j => iv (NF σ c j))))) ∧
  (∀ i, i < nl → h (lay 5 i) = some (.inr (3, LwF σ i))) ∧ LayOk lay ms nc
section YCLASS
variable {Ω : OmT} {lay : Nat → Nat → Nat} {ξ : XiT} {ms ns nc nl : Nat} {σ s : ZT} {τ t : JT} {h : AH}
theorem InvC.gas (i : InvC Ω lay ms ns nc nl ξ σ τ h) : h (lay 0 0) = some (.inr (5, GaF lay ξ σ τ)) := i.1
theorem InvC.sto (i : InvC Ω lay ms ns nc nl ξ σ τ h) {k : Nat} (hk : k < ms) : h (lay 1 k) = some (.inr (4, StF σ τ k)) := i.2.2.2.2.2.2.1 k hk
theorem InvC.cus (i : InvC Ω lay ms ns nc nl ξ σ τ h) {c : Nat} (hc : c < nc) : h (lay 2 c) = some (.inr (1, CuF lay σ τ c)) := i.2.2.2.2.2.2.2.1 c hc
theorem InvC.law (i : InvC Ω lay ms ns nc nl ξ σ τ h) {k : Nat} (hk : k < nl) : h (lay 5 k) = some (.inr (3, LwF σ k)) := i.2.2.2.2.2.2.2.2.2.2.1 k hk
theorem InvC.c (i : InvC Ω lay ms ns nc nl ξ σ τ h) (hs : ∀ f, f ∉ [0, 2, 14, 16, 26, 27, 31, 32, 36, 37, 43, 44] → s f = σ f) (hp : ∀ c, c < nc → s 36 c - s 37 c = σ 36 c - σ 37 c) (ht : ∀ f, t f = τ f) : InvC Ω lay ms ns nc nl ξ s t h := by
  obtain ⟨h1, h2, h3, h4, h5, h6, h7, h8, h9, h10, h11, h12⟩ := i
  have e : ∀ l : List Nat, (∀ f, f ∈ l → f ∉ [0, 2, 14, 16, 26, 27, 31, 32, 36, 37, 43, 44]) → ∀ k f, f ∈ l → s f k = σ f k := fun l hl k f hf => by rw [hs f (hl f hf)]
  refine ⟨by rw [GaF_c (e [1, 15] (by decide) 0) (fun f _ => by rw [ht f])]; exact h1, h2, h3, h4, h5, h6, fun k hk => by rw [StF_c (e _ (by decide) k) (by rw [ht 13])]; exact h7 k hk, fun c hc => by rw [CuF_c (e _ (by decide) c) (hp c hc) (fun f _ => by rw [ht f])]; exact h8 c hc, h9, fun c hc => by rw [NF_c (hs 25 (by decide))]; exact h10 c hc, fun k hk => by rw [LwF_c (e _ (by decide) k)]; exact h11 k hk, h12⟩
/-- a field of a store -/
def sfo : Nat → Nat
  | 0 => 3 | 1 => 7 | 2 => 8 | 3 => 9 | 4 => 4 | 5 => 5 | 6 => 6 | 7 => 13 | 8 => 10 | 9 => 11 | _ => 12
theorem StF_s {k i : Nat} {x : Int} (hi : i < 11) (h7 : i ≠ 7) : StF (zu σ (sfo i) k x) τ k = (StF σ τ k).set i (.int (iv x)) := by
  have c : i = 0 ∨ i = 1 ∨ i = 2 ∨ i = 3 ∨ i = 4 ∨ i = 5 ∨ i = 6 ∨ i = 8 ∨ i = 9 ∨ i = 10 := by omega
  rcases c with rfl | rfl | rfl | rfl | rfl | rfl | rfl | rfl | rfl | rfl <;> simp only [StF, sfo, zu_s] <;> rfl
theorem sfo_m {i : Nat} (hi : i < 11) (h7 : i ≠ 7) : sfo i ∈ [3, 4, 5, 6, 7, 8, 9, 10, 11, 12] := by
  have c : i = 0 ∨ i = 1 ∨ i = 2 ∨ i = 3 ∨ i = 4 ∨ i = 5 ∨ i = 6 ∨ i = 8 ∨ i = 9 ∨ i = 10 := by omega
  rcases c with rfl | rfl | rfl | rfl | rfl | rfl | rfl | rfl | rfl | rfl <;> decide
theorem InvC.putS (v : InvC Ω lay ms ns nc nl ξ σ τ h) {k i : Nat} {x : Int} (hk : k < ms) (hi : i < 11) (h7 : i ≠ 7) : InvC Ω lay ms ns nc nl ξ (zu σ (sfo i) k x) τ (hset h (lay 1 k) (.inr (4, (StF σ τ k).set i (.int (iv x))))) := by
  obtain ⟨h1, h2, h3, h4, h5, h6, h7', h8, h9, h10, h11, h12⟩ := v
  have hm := sfo_m hi h7
  have nf : ∀ g, g ∉ [3, 4, 5, 6, 7, 8, 9, 10, 11, 12] → zu σ (sfo i) k x g = σ g := fun g hg => zu_n (fun e => hg (e ▸ hm))
  have e : ∀ l : List Nat, (∀ f, f ∈ l → f ∉ [3, 4, 5, 6, 7, 8, 9, 10, 11, 12]) → ∀ k' f, f ∈ l → zu σ (sfo i) k x f k' = σ f k' := fun l hl k' f hf => by rw [nf f (hl f hf)]
  have ha := h7' k hk
  refine ⟨?_, h2.set ha (by simp [kd]) (by simp [kd]), h3.set ha (by simp [kd]) (by simp [kd]), h4.set ha (by simp [kd]) (by simp [kd]), hset_k h5 ha (by simp [kd]), ?_, fun j hj => ?_, fun c hc => ?_, fun c hc => hset_k (h9 c hc) ha (by simp [kd]), fun c hc => ?_, fun j hj => ?_, h12⟩
  · rw [GaF_c (e [1, 15] (by decide) 0) (fun f _ => rfl)]; exact hset_k h1 ha (by simp [kd])
  · exact hset_k h6 ha (by simp [kd])
  · by_cases q : j = k
    · subst q; rw [hset_s, StF_s hi h7]
    · rw [hset_n (fun z => q (h12.1 j k hj hk z)), StF_c (fun f _ => zu_o q) rfl]; exact h7' j hj
  · rw [CuF_c (e _ (by decide) c) (by rw [nf 36 (by decide), nf 37 (by decide)]) (fun f _ => rfl)]; exact hset_k (h8 c hc) ha (by simp [kd])
  · rw [NF_c (nf 25 (by decide))]; exact hset_k (h10 c hc) ha (by simp [kd])
  · rw [LwF_c (e _ (by decide) j)]; exact hset_k (h11 j hj) ha (by simp [kd])
theorem InvC.putSJ (v : InvC Ω lay ms ns nc nl ξ σ τ h) {k : Nat} {x : Int64} (hk : k < ms) : InvC Ω lay ms ns nc nl ξ σ (ju τ 13 k x) (hset h (lay 1 k) (.inr (4, (StF σ τ k).set 7 (.long x)))) := by
  obtain ⟨h1, h2, h3, h4, h5, h6, h7', h8, h9, h10, h11, h12⟩ := v
  have ha := h7' k hk
  refine ⟨?_, h2.set ha (by simp [kd]) (by simp [kd]), h3.set ha (by simp [kd]) (by simp [kd]), h4.set ha (by simp [kd]) (by simp [kd]), hset_k h5 ha (by simp [kd]), hset_k h6 ha (by simp [kd]), fun j hj => ?_, fun c hc => ?_, fun c hc => hset_k (h9 c hc) ha (by simp [kd]), fun c hc => hset_k (h10 c hc) ha (by simp [kd]), fun j hj => hset_k (h11 j hj) ha (by simp [kd]), h12⟩
  · exact hset_k h1 ha (by simp [kd])
  · by_cases q : j = k
    · subst q; rw [hset_s]
      show some (Sum.inr (4, _)) = some (Sum.inr (4, StF σ (ju τ 13 j x) j))
      unfold StF
      rw [ju_s]
      rfl
    · rw [hset_n (fun z => q (h12.1 j k hj hk z)), StF_c (t := ju τ 13 k x) (fun f _ => rfl) (ju_j q)]; exact h7' j hj
  · exact hset_k (h8 c hc) ha (by simp [kd])
/-- a field of the house -/
def gfo : Nat → Nat
  | 4 => 1 | _ => 15
theorem InvC.putG (v : InvC Ω lay ms ns nc nl ξ σ τ h) {i : Nat} {x : Int} (hi : i = 4 ∨ i = 5) : InvC Ω lay ms ns nc nl ξ (zu σ (gfo i) 0 x) τ (hset h (lay 0 0) (.inr (5, (GaF lay ξ σ τ).set i (.int (iv x))))) := by
  obtain ⟨h1, h2, h3, h4, h5, h6, h7', h8, h9, h10, h11, h12⟩ := v
  have hm : gfo i ∈ [1, 15] := by rcases hi with rfl | rfl <;> decide
  have nf : ∀ g, g ∉ [1, 15] → zu σ (gfo i) 0 x g = σ g := fun g hg => zu_n (fun e => hg (e ▸ hm))
  have e : ∀ l : List Nat, (∀ f, f ∈ l → f ∉ [1, 15]) → ∀ k' f, f ∈ l → zu σ (gfo i) 0 x f k' = σ f k' := fun l hl k' f hf => by rw [nf f (hl f hf)]
  have ha := h1
  refine ⟨?_, h2.set ha (by simp [kd]) (by simp [kd]), h3.set ha (by simp [kd]) (by simp [kd]), h4.set ha (by simp [kd]) (by simp [kd]), hset_k h5 ha (by simp [kd]), ?_, fun j hj => ?_, fun c hc => ?_, fun c hc => hset_k (h9 c hc) ha (by simp [kd]), fun c hc => ?_, fun j hj => ?_, h12⟩
  · rw [hset_s]; rcases hi with rfl | rfl <;> rfl
  · exact hset_k h6 ha (by simp [kd])
  · rw [StF_c (e _ (by decide) j) rfl]; exact hset_k (h7' j hj) ha (by simp [kd])
  · rw [CuF_c (e _ (by decide) c) (by rw [nf 36 (by decide), nf 37 (by decide)]) (fun f _ => rfl)]; exact hset_k (h8 c hc) ha (by simp [kd])
  · rw [NF_c (nf 25 (by decide))]; exact hset_k (h10 c hc) ha (by simp [kd])
  · rw [LwF_c (e _ (by decide) j)]; exact hset_k (h11 j hj) ha (by simp [kd])
def xfo (ξ : XiT) (i : Nat) (x : Int) : XiT := if i = 6 then (ξ.1, x, ξ.2.2) else (ξ.1, ξ.2.1, x)
theorem InvC.putX (v : InvC Ω lay ms ns nc nl ξ σ τ h) {i : Nat} {x : Int} (hi : i = 6 ∨ i = 7) : InvC Ω lay ms ns nc nl (xfo ξ i x) σ τ (hset h (lay 0 0) (.inr (5, (GaF lay ξ σ τ).set i (.int (iv x))))) := by
  obtain ⟨h1, h2, h3, h4, h5, h6, h7', h8, h9, h10, h11, h12⟩ := v
  have ha := h1
  refine ⟨?_, h2.set ha (by simp [kd]) (by simp [kd]), h3.set ha (by simp [kd]) (by simp [kd]), h4.set ha (by simp [kd]) (by simp [kd]), hset_k h5 ha (by simp [kd]), ?_, fun j hj => hset_k (h7' j hj) ha (by simp [kd]), fun c hc => hset_k (h8 c hc) ha (by simp [kd]), fun c hc => hset_k (h9 c hc) ha (by simp [kd]), fun c hc => hset_k (h10 c hc) ha (by simp [kd]), fun j hj => hset_k (h11 j hj) ha (by simp [kd]), h12⟩
  · rw [hset_s]; rcases hi with rfl | rfl <;> rfl
  · rw [show (xfo ξ i x).1 = ξ.1 from by unfold xfo; split <;> rfl]; exact hset_k h6 ha (by simp [kd])
def gjo : Nat → Nat
  | 8 => 33 | 9 => 34 | _ => 35
theorem InvC.putGJ (v : InvC Ω lay ms ns nc nl ξ σ τ h) {i : Nat} {x : Int64} (hi : i = 8 ∨ i = 9 ∨ i = 10) : InvC Ω lay ms ns nc nl ξ σ (ju τ (gjo i) 0 x) (hset h (lay 0 0) (.inr (5, (GaF lay ξ σ τ).set i (.long x)))) := by
  obtain ⟨h1, h2, h3, h4, h5, h6, h7', h8, h9, h10, h11, h12⟩ := v
  have hm : gjo i ∈ [33, 34, 35] := by rcases hi with rfl | rfl | rfl <;> decide
  have nf : ∀ g, g ∉ [33, 34, 35] → ju τ (gjo i) 0 x g = τ g := fun g hg => ju_n (fun e => hg (e ▸ hm))
  have ha := h1
  refine ⟨?_, h2.set ha (by simp [kd]) (by simp [kd]), h3.set ha (by simp [kd]) (by simp [kd]), h4.set ha (by simp [kd]) (by simp [kd]), hset_k h5 ha (by simp [kd]), hset_k h6 ha (by simp [kd]), fun j hj => ?_, fun c hc => ?_, fun c hc => hset_k (h9 c hc) ha (by simp [kd]), fun c hc => hset_k (h10 c hc) ha (by simp [kd]), fun j hj => hset_k (h11 j hj) ha (by simp [kd]), h12⟩
  · rw [hset_s]; rcases hi with rfl | rfl | rfl <;> rfl
  · rw [StF_c (t := ju τ (gjo i) 0 x) (fun f _ => rfl) (by rw [nf 13 (by decide)])]; exact hset_k (h7' j hj) ha (by simp [kd])
  · rw [CuF_c (t := ju τ (gjo i) 0 x) (fun f _ => rfl) rfl (fun f hf => by rw [nf f (by intro q; revert hf; simp only [List.mem_cons, List.not_mem_nil, or_false] at q; rcases q with rfl | rfl | rfl <;> decide)])]; exact hset_k (h8 c hc) ha (by simp [kd])
/-- a field of a customer; the plan -/
def cfo : Nat → Nat
  | 0 => 17 | 1 => 18 | 2 => 19 | 3 => 20 | 5 => 21 | 10 => 38 | _ => 39
theorem InvC.putC (v : InvC Ω lay ms ns nc nl ξ σ τ h) {k i : Nat} {x : Int} (hk : k < nc) (hi : i = 5 ∨ i = 10 ∨ i = 11) : InvC Ω lay ms ns nc nl ξ (zu σ (cfo i) k x) τ (hset h (lay 2 k) (.inr (1, (CuF lay σ τ k).set i (.int (iv x))))) := by
  obtain ⟨h1, h2, h3, h4, h5, h6, h7', h8, h9, h10, h11, h12⟩ := v
  have hm : cfo i ∈ [21, 38, 39] := by rcases hi with rfl | rfl | rfl <;> decide
  have nf : ∀ g, g ∉ [21, 38, 39] → zu σ (cfo i) k x g = σ g := fun g hg => zu_n (fun e => hg (e ▸ hm))
  have e : ∀ l : List Nat, (∀ f, f ∈ l → f ∉ [21, 38, 39]) → ∀ k' f, f ∈ l → zu σ (cfo i) k x f k' = σ f k' := fun l hl k' f hf => by rw [nf f (hl f hf)]
  have ha := h8 k hk
  refine ⟨?_, h2.set ha (by simp [kd]) (by simp [kd]), h3.set ha (by simp [kd]) (by simp [kd]), h4.set ha (by simp [kd]) (by simp [kd]), hset_k h5 ha (by simp [kd]), ?_, fun j hj => ?_, fun c hc => ?_, fun c hc => hset_k (h9 c hc) ha (by simp [kd]), fun c hc => ?_, fun j hj => ?_, h12⟩
  · rw [GaF_c (e [1, 15] (by decide) 0) (fun f _ => rfl)]; exact hset_k h1 ha (by simp [kd])
  · exact hset_k h6 ha (by simp [kd])
  · rw [StF_c (e _ (by decide) j) rfl]; exact hset_k (h7' j hj) ha (by simp [kd])
  · by_cases q : c = k
    · subst q; rw [hset_s]
      rcases hi with rfl | rfl | rfl <;> simp only [CuF, cfo, zu_s] <;> rfl
    · rw [hset_n (fun z => q (h12.2.1 c k hc hk z)), CuF_c (fun f _ => zu_o q) (by rw [zu_o q, zu_o q]) (fun f _ => rfl)]; exact h8 c hc
  · rw [NF_c (nf 25 (by decide))]; exact hset_k (h10 c hc) ha (by simp [kd])
  · rw [LwF_c (e _ (by decide) j)]; exact hset_k (h11 j hj) ha (by simp [kd])
theorem InvC.putP (v : InvC Ω lay ms ns nc nl ξ σ τ h) {k : Nat} {x a b : Int} (hk : k < nc) (hx : x = a - b) : InvC Ω lay ms ns nc nl ξ (zu (zu σ 36 k a) 37 k b) τ (hset h (lay 2 k) (.inr (1, (CuF lay σ τ k).set 9 (.int (iv x))))) := by
  obtain ⟨h1, h2, h3, h4, h5, h6, h7', h8, h9, h10, h11, h12⟩ := v
  have nf : ∀ g, g ∉ [36, 37] → zu (zu σ 36 k a) 37 k b g = σ g := fun g hg => by rw [zu_n (fun e => hg (by rw [e]; decide)), zu_n (fun e => hg (by rw [e]; decide))]
  have e : ∀ l : List Nat, (∀ f, f ∈ l → f ∉ [36, 37]) → ∀ k' f, f ∈ l → zu (zu σ 36 k a) 37 k b f k' = σ f k' := fun l hl k' f hf => by rw [nf f (hl f hf)]
  have ha := h8 k hk
  refine ⟨?_, h2.set ha (by simp [kd]) (by simp [kd]), h3.set ha (by simp [kd]) (by simp [kd]), h4.set ha (by simp [kd]) (by simp [kd]), hset_k h5 ha (by simp [kd]), ?_, fun j hj => ?_, fun c hc => ?_, fun c hc => hset_k (h9 c hc) ha (by simp [kd]), fun c hc => ?_, fun j hj => ?_, h12⟩
  · rw [GaF_c (e [1, 15] (by decide) 0) (fun f _ => rfl)]; exact hset_k h1 ha (by simp [kd])
  · exact hset_k h6 ha (by simp [kd])
  · rw [StF_c (e _ (by decide) j) rfl]; exact hset_k (h7' j hj) ha (by simp [kd])
  · by_cases q : c = k
    · subst q; rw [hset_s, hx]
      have e36 : zu (zu σ 36 c a) 37 c b 36 c = a := by rw [zu_f (by omega), zu_s]
      have e37 : zu (zu σ 36 c a) 37 c b 37 c = b := zu_s
      unfold CuF
      rw [e36, e37]
      rfl
    · rw [hset_n (fun z => q (h12.2.1 c k hc hk z)), CuF_c (fun f _ => by rw [zu_o q, zu_o q]) (by rw [zu_o q, zu_o q, zu_o q, zu_o q]) (fun f _ => rfl)]; exact h8 c hc
  · rw [NF_c (nf 25 (by decide))]; exact hset_k (h10 c hc) ha (by simp [kd])
  · rw [LwF_c (e _ (by decide) j)]; exact hset_k (h11 j hj) ha (by simp [kd])
def cjo : Nat → Nat
  | 6 => 22 | 7 => 23 | _ => 24
theorem InvC.putCJ (v : InvC Ω lay ms ns nc nl ξ σ τ h) {k i : Nat} {x : Int64} (hk : k < nc) (hi : i = 6 ∨ i = 7 ∨ i = 8) : InvC Ω lay ms ns nc nl ξ σ (ju τ (cjo i) k x) (hset h (lay 2 k) (.inr (1, (CuF lay σ τ k).set i (.long x)))) := by
  obtain ⟨h1, h2, h3, h4, h5, h6, h7', h8, h9, h10, h11, h12⟩ := v
  have hm : cjo i ∈ [22, 23, 24] := by rcases hi with rfl | rfl | rfl <;> decide
  have nf : ∀ g, g ∉ [22, 23, 24] → ju τ (cjo i) k x g = τ g := fun g hg => ju_n (fun e => hg (e ▸ hm))
  have ha := h8 k hk
  refine ⟨?_, h2.set ha (by simp [kd]) (by simp [kd]), h3.set ha (by simp [kd]) (by simp [kd]), h4.set ha (by simp [kd]) (by simp [kd]), hset_k h5 ha (by simp [kd]), hset_k h6 ha (by simp [kd]), fun j hj => ?_, fun c hc => ?_, fun c hc => hset_k (h9 c hc) ha (by simp [kd]), fun c hc => hset_k (h10 c hc) ha (by simp [kd]), fun j hj => hset_k (h11 j hj) ha (by simp [kd]), h12⟩
  · rw [GaF_c (t := ju τ (cjo i) k x) (fun f _ => rfl) (fun f hf => by rw [nf f (by intro q; revert hf; simp only [List.mem_cons, List.not_mem_nil, or_false] at q; rcases q with rfl | rfl | rfl <;> decide)])]; exact hset_k h1 ha (by simp [kd])
  · rw [StF_c (t := ju τ (cjo i) k x) (fun f _ => rfl) (by rw [nf 13 (by decide)])]; exact hset_k (h7' j hj) ha (by simp [kd])
  · by_cases q : c = k
    · subst q; rw [hset_s]
      rcases hi with rfl | rfl | rfl <;> simp only [CuF, cjo, ju_s] <;> rfl
    · rw [hset_n (fun z => q (h12.2.1 c k hc hk z)), CuF_c (t := ju τ (cjo i) k x) (fun f _ => rfl) rfl (fun f _ => by unfold ju; split <;> first | rfl | exact if_neg q)]; exact h8 c hc
/-- a price; a nomination -/
theorem InvC.putA (v : InvC Ω lay ms ns nc nl ξ σ τ h) {k : Nat} {x : Int} : InvC Ω lay ms ns nc nl (fun j => if j = k then x else ξ.1 j, ξ.2) σ τ (hset h (lay 0 5) (.inl (OmI Ω, 64, .inl (upd (fun j => iv (ξ.1 j)) k (iv x))))) := by
  obtain ⟨h1, h2, h3, h4, h5, h6, h7', h8, h9, h10, h11, h12⟩ := v
  have ha := h6
  refine ⟨?_, h2.set ha (by simp [kd]) (by simp [kd]), h3.set ha (by simp [kd]) (by simp [kd]), h4.set ha (by simp [kd]) (by simp [kd]), hset_k h5 ha (by simp [kd]), ?_, fun j hj => hset_k (h7' j hj) ha (by simp [kd]), fun c hc => hset_k (h8 c hc) ha (by simp [kd]), fun c hc => hset_k (h9 c hc) ha (by simp [kd]), fun c hc => ?_, fun j hj => hset_k (h11 j hj) ha (by simp [kd]), h12⟩
  · exact hset_k h1 ha (by simp [kd])
  · rw [hset_s]
    refine congrArg (fun f => some (Sum.inl (OmI Ω, 64, Sum.inl f))) (funext fun j => ?_)
    unfold upd
    by_cases q : j = k
    · show (if j = k then iv x else _) = iv (if j = k then x else ξ.1 j)
      rw [if_pos q, if_pos q]
    · show (if j = k then iv x else _) = iv (if j = k then x else ξ.1 j)
      rw [if_neg q, if_neg q]
  · rw [hset_n (h12.2.2.2 c hc)]; exact h10 c hc
theorem InvC.putN (v : InvC Ω lay ms ns nc nl ξ σ τ h) {k d : Nat} {x : Int} (hd : d < nc) (hk : k < 64) : InvC Ω lay ms ns nc nl ξ (zu σ 25 (64 * d + k) x) τ (hset h (lay 4 d) (.inl (OmI Ω, 64, .inl (upd (fun j => iv (NF σ d j)) k (iv x))))) := by
  obtain ⟨h1, h2, h3, h4, h5, h6, h7', h8, h9, h10, h11, h12⟩ := v
  have nf : ∀ g, g ≠ 25 → zu σ 25 (64 * d + k) x g = σ g := fun g hg => zu_n hg
  have e : ∀ l : List Nat, (∀ f, f ∈ l → f ≠ 25) → ∀ k' f, f ∈ l → zu σ 25 (64 * d + k) x f k' = σ f k' := fun l hl k' f hf => by rw [nf f (hl f hf)]
  have ha := h10 d hd
  refine ⟨?_, h2.set ha (by simp [kd]) (by simp [kd]), h3.set ha (by simp [kd]) (by simp [kd]), h4.set ha (by simp [kd]) (by simp [kd]), hset_k h5 ha (by simp [kd]), ?_, fun j hj => ?_, fun c hc => ?_, fun c hc => hset_k (h9 c hc) ha (by simp [kd]), fun c hc => ?_, fun j hj => ?_, h12⟩
  · rw [GaF_c (e [1, 15] (by decide) 0) (fun f _ => rfl)]; exact hset_k h1 ha (by simp [kd])
  · rw [hset_n (fun z => h12.2.2.2 d hd z.symm)]; exact h6
  · rw [StF_c (e _ (by decide) j) rfl]; exact hset_k (h7' j hj) ha (by simp [kd])
  · rw [CuF_c (e _ (by decide) c) (by rw [nf 36 (by decide), nf 37 (by decide)]) (fun f _ => rfl)]; exact hset_k (h8 c hc) ha (by simp [kd])
  · by_cases q : c = d
    · subst q; rw [hset_s]
      refine congrArg (fun f => some (Sum.inl (OmI Ω, 64, Sum.inl f))) (funext fun j => ?_)
      unfold upd NF
      by_cases z : j = k
      · subst z; rw [if_pos rfl, if_pos hk, zu_s]
      · rw [if_neg z]
        show iv (if j < 64 then σ 25 (64 * c + j) else 0) = iv (if j < 64 then zu σ 25 (64 * c + k) x 25 (64 * c + j) else 0)
        rw [zu_j (by omega)]
    · rw [hset_n (fun z => q (h12.2.2.1 c d hc hd z)), show NF (zu σ 25 (64 * d + k) x) c = NF σ c from funext fun j => by
        unfold NF
        split
        · rw [zu_j (by omega)]
        · rfl]
      exact h10 c hc
  · rw [LwF_c (e _ (by decide) j)]; exact hset_k (h11 j hj) ha (by simp [kd])
end YCLASS

