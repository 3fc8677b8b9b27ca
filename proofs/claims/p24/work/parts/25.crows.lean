/-! ROWS over the class's house -/
theorem zu_id {σ : ZT} {f i : Nat} {x : Int} (h : x = σ f i) : zu σ f i x = σ := by
  funext g j
  unfold zu
  split
  · rename_i q; subst q
    split
    · rename_i q; subst q; exact h
    · rfl
  · rfl
theorem ju_id {τ : JT} {f i : Nat} {x : Int64} (h : x = τ f i) : ju τ f i x = τ := by
  funext g j
  unfold ju
  split
  · rename_i q; subst q
    split
    · rename_i q; subst q; exact h
    · rfl
  · rfl
theorem losP_0 {k : Nat} {p : ZT × JT} : losP k 0 p = p := by
  have e : lossJ p.1 p.2 k 0 = 0 := by
    unfold lossJ
    rw [jv_0]
    split
    · rfl
    · rw [Int64.zero_mul, Int64.zero_div]
  unfold losP
  rw [zu_id (by omega), e, ju_id (by rw [Int64.sub_zero])]
theorem curZ_0 {b : Bool} {s : Int} {c : Nat} {σ : ZT} : curZ b s c 0 σ = σ := by
  unfold curZ
  rw [ite_self, zu_id (f := 36) (by omega), zu_id (f := 37) (by omega), zu_id (f := 38) (by omega), if_neg (by omega), zu_id rfl]
theorem rateBy_eq {σ : ZT} {k : Nat} {b : Bool} (h : StOk σ k) : max 0 (min ((σ 10 k * σ 11 k * byZ σ k b).tdiv 100) (mstZ σ k b)) = rateZ σ k b := by
  have hs := h.1
  unfold StO0 at hs
  have m := mulb (by omega : 0 ≤ σ 10 k) (by omega : σ 10 k ≤ 100) (by omega : 0 ≤ σ 11 k) (by omega : σ 11 k ≤ 1000)
  unfold rateZ
  split
  · rename_i q
    rcases q with q | q
    · have e : (σ 10 k * σ 11 k * byZ σ k b).tdiv 100 ≤ 0 := by
        have r := Int.mul_nonneg m.1 (by omega : 0 ≤ -byZ σ k b)
        rw [Int.mul_neg] at r
        have z := Int.tdiv_nonneg r (by decide : (0 : Int) ≤ 100)
        rw [Int.neg_tdiv] at z
        omega
      omega
    · omega
  · have r := Int.mul_nonneg m.1 (by omega : 0 ≤ byZ σ k b)
    rw [Int.tdiv_eq_ediv_of_nonneg r]
    omega
theorem ixor_nn {x y : Int} (h1 : 0 ≤ x) (h2 : x < 2147483648) (h3 : 0 ≤ y) (h4 : y < 2147483648) : 0 ≤ iv x ^^^ iv y := by
  have mb : ∀ z : Int, 0 ≤ z → z < 2147483648 → (iv z).toBitVec.msb = false := fun z a b => by
    rw [BitVec.msb_eq_toInt]
    have q : (iv z).toBitVec.toInt = z := iv_t (by omega) b
    rw [q]
    exact decide_eq_false (by omega)
  have m : (iv x ^^^ iv y).toBitVec.msb = false := by rw [Int32.toBitVec_xor, BitVec.msb_xor, mb x h1 h2, mb y h3 h4]; rfl
  rw [BitVec.msb_eq_toInt] at m
  have q := of_decide_eq_false m
  rw [Int32.le_iff_toInt_le]
  show (0 : Int) ≤ (iv x ^^^ iv y).toBitVec.toInt
  omega
/-- a method of a class that has natives, if it is none itself -/
theorem vx_ofWF {l : Launch} {y : MethodName} {ws ws' : List Cond} {rm : Room} {Pc : Array Value → State → Prop} {Qc : Array Value → State → Outcome → State → Prop} {XC : String → State → State → Prop} {mc ms : Nat} {free : Addr → Prop} {cc : ByteArray} {maxL : Nat} {ret : Option FieldType}
    (hy : plainFor y = true) (hw : ws = Cond.code y cc maxL ret :: ws')
    (body : ∀ p e s m args below meth c s₁, BodyLoose p l y (headSpec ws rm) cc maxL ret e s m args below meth c s₁ → c.maxLocals = maxL → (∀ x ∈ c.exceptionTable.toList, False) → Pc args s →
      W p l e (headSpec ws rm).room s m args below meth c s.heap [] 0 0 (vx_MQ below Qc XC args s mc ms free) (entryFrame m args maxL)) : vx_Met l y ws rm Pc Qc XC mc ms free := by
  refine MetFree.of_bodySF (code := cc) (maxLocals := maxL) (ret := ret) hy ?_ ?_
  · intro args s m h hn
    obtain ⟨meth, c, h1, h2, h3, h4, h5, h6, -, -⟩ := Cond.code_spec hn (atoms_spec (ws := ws) h _ (by rw [hw]; exact List.mem_cons_self))
    exact ⟨meth, c, h1, h2, h3, h4, h5, h6⟩
  · intro p e s m args below meth c s₁ B hml hP _
    have hh0 : s₁.heap = s.heap := by rw [B.state]; rfl
    have ht : ∀ x ∈ c.exceptionTable.toList, False := by
      obtain ⟨meth9, c9, h1, h2, -, -, -, -, h7, -⟩ := Cond.code_spec B.named (atoms_spec (ws := ws) B.pre _ (by rw [hw]; exact List.mem_cons_self))
      cases Option.some.inj (h1.symm.trans B.method)
      cases Option.some.inj (h2.symm.trans (Stand.of_body B).code)
      intro x hx
      rw [Array.isEmpty_iff.mp h7] at hx
      cases hx
    obtain ⟨t, a1, o, b1, b2, b3⟩ := body p e s m args below meth c s₁ B hml ht hP s₁ hh0 (Stand.of_body B)
    exact ⟨t, o, a1, b1, b2, b3⟩
set_option maxHeartbeats 4000000 in
theorem Ct.ofF {Ω : OmT} {y : MethodName} {own : String} {cc : ByteArray} {maxL : Nat} {ret : Option FieldType} {rm : Room} {av : List Value} {Φ : AH → Prop} {hR : AH} {Ψ : Option Value → AH → Prop} {Ξ : String → AH → Prop} {L : List (Nat × Value)}
    (hy : plainFor y = true) (ho : y.cls = own) (hn : (lg_sl av).length ≤ maxL) (hL : lv_args 0 av = L)
    (body : ∀ κ : KxT, Cx Ω κ own cc → kn κ = maxL → Ce Ω κ ret rm hR Ψ Ξ → (y.name = "<init>" → (kt κ).name = "<init>") → Y Ω κ Φ hR 0 0 0 L []) : Ct Ω y cc maxL ret rm av Φ hR Ψ Ξ := by
  refine vx_ofWF (cc := cc) (maxL := maxL) (ret := ret) hy rfl ?_
  intro p e s m args below meth c s₁ B hml hex hv
  obtain ⟨rfl, hW, h, hΦ, hRel⟩ := hv
  have hts : ∀ w ∈ AW, w.before av.toArray s = true := fun w hw => atoms_spec (ws := ws_ y cc maxL ret) B.pre w (List.mem_cons_of_mem _ hw)
  have hown : s.vm.findClass own = some m.cls := by rw [← ho]; exact findClass_of_methodNamed B.named
  have hl := lv_entry av (n := maxL) hn
  rw [lg_entry_eq]
  subst hL
  exact body ((p, e, rm, s, m, av.toArray, below, meth, c, _, maxL) : KxT) ⟨B.exec, B.bytes, hml, hown, hts, hW, B.notSynchronized⟩ rfl ⟨B.returns, rfl, hex, rfl⟩ (fun hi => (name_of_methodNamed B.named B.method).1.trans hi) h s.heap [] _ hΦ hRel va_S.rf hl
def nol (τ t : JT) : JT := fun f => if f = 35 then τ f else t f
section KROWS
variable {Ω : OmT} {κ : KxT} {hR : AH} {cs sl pc k : Nat} {lay : Nat → Nat → Nat} {ξ : XiT} {ms ns nc nl : Nat} {σ : ZT} {τ : JT} {L : List (Nat × Value)} {st : List Value} {own : String} {cc : ByteArray} {x : Int} {y : Int64} {Φ : AH → Prop}
theorem y_ixor (C : Cx Ω κ own cc) {x y : Int32} (dg : decode cc pc = .ok (.ixor, 1)) (k : Y Ω κ Φ hR cs sl (pc + 1) L (.int (x ^^^ y) :: st)) : Y Ω κ Φ hR cs sl pc L (.int y :: .int x :: st) := fun h H locs ls a b c d => lv_ixor C.1 C.2.1 dg (k h H locs ls a b c d)
theorem y_ifr_ge (C : Cx Ω κ own cc) {x : Int32} {off : Int} {tgt : Nat} (dg : decode cc pc = .ok (.ifCond .ge off, 3)) (ht : (pc : Int) + off = (tgt : Int)) (kt : 0 ≤ x → Y Ω κ Φ hR cs sl tgt L st) (kf : ¬ (0 ≤ x) → Y Ω κ Φ hR cs sl (pc + 3) L st) : Y Ω κ Φ hR cs sl pc L (.int x :: st) :=
  fun h H locs ls a b c d => lv_if_ge C.1 C.2.1 dg ht (fun q => kt q h H locs ls a b c d) (fun q => kf q h H locs ls a b c d)
theorem k_putS (C : Cx Ω κ own cc) {idx : Nat} (i f : Nat) (hf : sfo i = f) (hk : k < ms) (hi : i < 11) (h7 : i ≠ 7) (fp : FP own idx 4 i .int) (dg : decode cc pc = .ok (.putfield idx, 3)) (kk : Y Ω κ (InvC Ω lay ms ns nc nl ξ (zu σ f k x) τ) hR cs sl (pc + 3) L st) : Y Ω κ (InvC Ω lay ms ns nc nl ξ σ τ) hR cs sl pc L (.int (iv x) :: .ref (lay 1 k) :: st) := by
  subst hf
  exact y_put C fp dg rfl rfl (fun h hh => ⟨_, hh.sto hk, hi, hh.putS hk hi h7⟩) kk
theorem k_putSF (C : Cx Ω κ own cc) (hi0 : (kt κ).name = "<init>") {idx : Nat} (i f : Nat) (hf : sfo i = f) (hk : k < ms) (hi : i < 11) (h7 : i ≠ 7) (fp : FF own idx 4 i .int) (dg : decode cc pc = .ok (.putfield idx, 3)) (kk : Y Ω κ (InvC Ω lay ms ns nc nl ξ (zu σ f k x) τ) hR cs sl (pc + 3) L st) : Y Ω κ (InvC Ω lay ms ns nc nl ξ σ τ) hR cs sl pc L (.int (iv x) :: .ref (lay 1 k) :: st) := by
  subst hf
  exact y_putF C hi0 fp dg rfl rfl (fun h hh => ⟨_, hh.sto hk, hi, hh.putS hk hi h7⟩) kk
theorem k_putSJ (C : Cx Ω κ own cc) {idx : Nat} (hk : k < ms) (fp : FP own idx 4 7 .long) (dg : decode cc pc = .ok (.putfield idx, 3)) (kk : Y Ω κ (InvC Ω lay ms ns nc nl ξ σ (ju τ 13 k y)) hR cs sl (pc + 3) L st) : Y Ω κ (InvC Ω lay ms ns nc nl ξ σ τ) hR cs sl pc L (.long y :: .ref (lay 1 k) :: st) :=
  y_put C fp dg rfl rfl (fun h hh => ⟨_, hh.sto hk, by show 7 < 11; decide, hh.putSJ hk⟩) kk
theorem k_putG (C : Cx Ω κ own cc) {idx : Nat} (i f : Nat) (hf : gfo i = f) (hi : i = 4 ∨ i = 5) (fp : FP own idx 5 i .int) (dg : decode cc pc = .ok (.putfield idx, 3)) (kk : Y Ω κ (InvC Ω lay ms ns nc nl ξ (zu σ f 0 x) τ) hR cs sl (pc + 3) L st) : Y Ω κ (InvC Ω lay ms ns nc nl ξ σ τ) hR cs sl pc L (.int (iv x) :: .ref (lay 0 0) :: st) := by
  subst hf
  exact y_put C fp dg rfl rfl (fun h hh => ⟨_, hh.gas, by show i < 11; omega, hh.putG hi⟩) kk
theorem k_putX (C : Cx Ω κ own cc) {idx : Nat} (i : Nat) (hi : i = 6 ∨ i = 7) (fp : FP own idx 5 i .int) (dg : decode cc pc = .ok (.putfield idx, 3)) (kk : Y Ω κ (InvC Ω lay ms ns nc nl (xfo ξ i x) σ τ) hR cs sl (pc + 3) L st) : Y Ω κ (InvC Ω lay ms ns nc nl ξ σ τ) hR cs sl pc L (.int (iv x) :: .ref (lay 0 0) :: st) :=
  y_put C fp dg rfl rfl (fun h hh => ⟨_, hh.gas, by show i < 11; omega, hh.putX hi⟩) kk
theorem k_putGJ (C : Cx Ω κ own cc) {idx : Nat} (i f : Nat) (hf : gjo i = f) (hi : i = 8 ∨ i = 9 ∨ i = 10) (fp : FP own idx 5 i .long) (dg : decode cc pc = .ok (.putfield idx, 3)) (kk : Y Ω κ (InvC Ω lay ms ns nc nl ξ σ (ju τ f 0 y)) hR cs sl (pc + 3) L st) : Y Ω κ (InvC Ω lay ms ns nc nl ξ σ τ) hR cs sl pc L (.long y :: .ref (lay 0 0) :: st) := by
  subst hf
  exact y_put C fp dg rfl rfl (fun h hh => ⟨_, hh.gas, by show i < 11; omega, hh.putGJ hi⟩) kk
theorem k_putC (C : Cx Ω κ own cc) {idx : Nat} (i f : Nat) (hf : cfo i = f) (hk : k < nc) (hi : i = 5 ∨ i = 10 ∨ i = 11) (fp : FP own idx 1 i .int) (dg : decode cc pc = .ok (.putfield idx, 3)) (kk : Y Ω κ (InvC Ω lay ms ns nc nl ξ (zu σ f k x) τ) hR cs sl (pc + 3) L st) : Y Ω κ (InvC Ω lay ms ns nc nl ξ σ τ) hR cs sl pc L (.int (iv x) :: .ref (lay 2 k) :: st) := by
  subst hf
  exact y_put C fp dg rfl rfl (fun h hh => ⟨_, hh.cus hk, by show i < 12; omega, hh.putC hk hi⟩) kk
theorem k_putP (C : Cx Ω κ own cc) {idx : Nat} {a b : Int} (hk : k < nc) (hx : x = a - b) (fp : FP own idx 1 9 .int) (dg : decode cc pc = .ok (.putfield idx, 3)) (kk : Y Ω κ (InvC Ω lay ms ns nc nl ξ (zu (zu σ 36 k a) 37 k b) τ) hR cs sl (pc + 3) L st) : Y Ω κ (InvC Ω lay ms ns nc nl ξ σ τ) hR cs sl pc L (.int (iv x) :: .ref (lay 2 k) :: st) :=
  y_put C fp dg rfl rfl (fun h hh => ⟨_, hh.cus hk, by show 9 < 12; decide, hh.putP hk hx⟩) kk
theorem k_putCJ (C : Cx Ω κ own cc) {idx : Nat} (i f : Nat) (hf : cjo i = f) (hk : k < nc) (hi : i = 6 ∨ i = 7 ∨ i = 8) (fp : FP own idx 1 i .long) (dg : decode cc pc = .ok (.putfield idx, 3)) (kk : Y Ω κ (InvC Ω lay ms ns nc nl ξ σ (ju τ f k y)) hR cs sl (pc + 3) L st) : Y Ω κ (InvC Ω lay ms ns nc nl ξ σ τ) hR cs sl pc L (.long y :: .ref (lay 2 k) :: st) := by
  subst hf
  exact y_put C fp dg rfl rfl (fun h hh => ⟨_, hh.cus hk, by show i < 12; omega, hh.putCJ hk hi⟩) kk
end KROWS

