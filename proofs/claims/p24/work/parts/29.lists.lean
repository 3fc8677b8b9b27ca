/-! lists; plans in numbers -/
theorem LiC.sz {Ω : OmT} {l e n : Nat} {el : Nat → Nat} {h : AH} (i : LiC Ω l e n el h) : ∃ fs, h l = some (.inr (0, fs)) ∧ fs[2]? = some (.int (iv n)) := by
  obtain ⟨mc, cap, g, h1, h2⟩ := i
  exact ⟨_, h1, rfl⟩
theorem LiC.ed {Ω : OmT} {l e n : Nat} {el : Nat → Nat} {h : AH} (i : LiC Ω l e n el h) : ∃ fs, h l = some (.inr (0, fs)) ∧ fs[1]? = some (.ref e) := by
  obtain ⟨mc, cap, g, h1, h2⟩ := i
  exact ⟨_, h1, rfl⟩
theorem LiC.obj {Ω : OmT} {l e n : Nat} {el : Nat → Nat} {h : AH} (i : LiC Ω l e n el h) : ∃ fs, h l = some (.inr (0, fs)) := by
  obtain ⟨mc, cap, g, h1, h2⟩ := i
  exact ⟨_, h1⟩
theorem LiC.at {Ω : OmT} {l e n k : Nat} {el : Nat → Nat} {h : AH} (i : LiC Ω l e n el h) (hk : k < n) : ∃ (N : Nat) (f : Nat → Option Nat), h e = some (.inl (OmO Ω, N, .inr (.inr (.inr (.inr f))))) ∧ k < N ∧ va_rf (f k) = .ref (el k) := by
  obtain ⟨mc, cap, g, h1, h2⟩ := i
  rcases h2 with q | q
  · omega
  · exact ⟨_, _, q.2.2.2.1, by omega, by rw [q.2.2.2.2 k hk]; rfl⟩
theorem InvC.hou {Ω : OmT} {lay : Nat → Nat → Nat} {ξ : XiT} {ms ns nc nl c : Nat} {σ : ZT} {τ : JT} {h : AH} (i : InvC Ω lay ms ns nc nl ξ σ τ h) (hc : c < nc) : h (lay 3 c) = some (.inr (2, [.ref (lay 4 c)])) ∧ h (lay 4 c) = some (.inl (OmI Ω, 64, .inl (fun j => iv (NF σ c j)))) := ⟨i.2.2.2.2.2.2.2.2.1 c hc, i.2.2.2.2.2.2.2.2.2.1 c hc⟩
theorem InvC.pri {Ω : OmT} {lay : Nat → Nat → Nat} {ξ : XiT} {ms ns nc nl : Nat} {σ : ZT} {τ : JT} {h : AH} (i : InvC Ω lay ms ns nc nl ξ σ τ h) : h (lay 0 4) = some (.inr (2, [.ref (lay 0 5)])) ∧ h (lay 0 5) = some (.inl (OmI Ω, 64, .inl (fun j => iv (ξ.1 j)))) := ⟨i.2.2.2.2.1, i.2.2.2.2.2.1⟩
theorem InvC.li1 {Ω : OmT} {lay : Nat → Nat → Nat} {ξ : XiT} {ms ns nc nl : Nat} {σ : ZT} {τ : JT} {h : AH} (i : InvC Ω lay ms ns nc nl ξ σ τ h) : LiC Ω (lay 0 1) (lay 6 1) ns (lay 1) h := i.2.1
theorem InvC.li2 {Ω : OmT} {lay : Nat → Nat → Nat} {ξ : XiT} {ms ns nc nl : Nat} {σ : ZT} {τ : JT} {h : AH} (i : InvC Ω lay ms ns nc nl ξ σ τ h) : LiC Ω (lay 0 2) (lay 6 2) nc (lay 2) h := i.2.2.1
theorem InvC.li3 {Ω : OmT} {lay : Nat → Nat → Nat} {ξ : XiT} {ms ns nc nl : Nat} {σ : ZT} {τ : JT} {h : AH} (i : InvC Ω lay ms ns nc nl ξ σ τ h) : LiC Ω (lay 0 3) (lay 6 3) nl (lay 5) h := i.2.2.2.1
theorem NF_n {σ : ZT} {c : Nat} : NF σ c (nowN σ % 64) = nomZ σ c := if_pos (Nat.mod_lt _ (by decide))
theorem plan_eq {σ : ZT} {c : Nat} (h : CuOk σ c) : max (-outZ σ c (σ 21 c)) (min (nomZ σ c) (inZ σ c (σ 21 c))) = brZ σ c - tkZ σ c := by
  have q := h
  unfold CuOk at q
  have i := inz_b (has := σ 21 c) h (by omega) (by omega)
  have o := outz_b (has := σ 21 c) h (by omega) (by omega)
  unfold brZ tkZ
  split <;> split <;> omega
def szZ (σ : ZT) (b : Bool) (c : Nat) : Int := if b = true then σ 36 c else σ 37 c
theorem sz_eq {σ : ZT} {b : Bool} {c n : Nat} (h : PlOk σ n) (hc : c < n) : max 0 (if b = true then σ 36 c - σ 37 c else -(σ 36 c - σ 37 c)) = szZ σ b c ∧ 0 ≤ szZ σ b c ∧ szZ σ b c ≤ 100000 := by
  have q := h c hc
  unfold szZ
  cases b
  · simp only [Bool.false_eq_true, if_false]; omega
  · simp only [if_true]; omega

