/-! methods that catch -/
def CeH (Ω : OmT) (κ : KxT) (ret : Option FieldType) (rm : Room) (hR : AH) (Ψ : Option Value → AH → Prop) (hh : List (Nat × Nat × Nat × Nat)) : Prop :=
  (kt κ).sig.returnType = ret ∧ kR κ = rm ∧ (kc κ).exceptionTable.toList = tableOf hh ∧ kQ κ = vx_MQ (kb κ) (QC Ω hR Ψ) (XCx Ω hR NX) (ka κ) (ks κ) rm.cells rm.slots (OmA Ω)
def CtH (Ω : OmT) (y : MethodName) (cc : ByteArray) (maxL : Nat) (ret : Option FieldType) (hh : List (Nat × Nat × Nat × Nat)) (rm : Room) (av : List Value) (Φ : AH → Prop) (hR : AH) (Ψ : Option Value → AH → Prop) : Prop :=
  vx_Met (OmL Ω) y (Cond.codeWith y cc maxL ret hh :: AW) rm (va_Pc av (fun U => WK Ω U ∧ ∃ h, Φ h ∧ Rel Ω h hR U.heap)) (QC Ω hR Ψ) (XCx Ω hR NX) rm.cells rm.slots (OmA Ω)
set_option maxHeartbeats 4000000 in
theorem CtH.of {Ω : OmT} {y : MethodName} {own : String} {cc : ByteArray} {maxL : Nat} {ret : Option FieldType} {hh : List (Nat × Nat × Nat × Nat)} {rm : Room} {av : List Value} {Φ : AH → Prop} {hR : AH} {Ψ : Option Value → AH → Prop} {L : List (Nat × Value)}
    (hy : plainName y.cls = true) (ho : y.cls = own) (hn : (lg_sl av).length ≤ maxL) (hL : lv_args 0 av = L)
    (body : ∀ κ : KxT, Cx Ω κ own cc → kn κ = maxL → CeH Ω κ ret rm hR Ψ hh → Y Ω κ Φ hR 0 0 0 L []) : CtH Ω y cc maxL ret hh rm av Φ hR Ψ := by
  refine vx_ofWH (cc := cc) (maxL := maxL) (ret := ret) (hh := hh) hy rfl ?_
  intro p e s m args below meth c s₁ B hml hv
  obtain ⟨rfl, hW, h, hΦ, hRel⟩ := hv
  have hts : ∀ w ∈ AW, w.before av.toArray s = true := fun w hw => atoms_spec (ws := Cond.codeWith y cc maxL ret hh :: AW) B.pre w (List.mem_cons_of_mem _ hw)
  have htb := vx_table (x := y) B (atoms_spec (ws := Cond.codeWith y cc maxL ret hh :: AW) B.pre _ List.mem_cons_self)
  have hown : s.vm.findClass own = some m.cls := by rw [← ho]; exact findClass_of_methodNamed B.named
  have hl := lv_entry av (n := maxL) hn
  rw [lg_entry_eq]
  subst hL
  exact body ((p, e, rm, s, m, av.toArray, below, meth, c, _, maxL) : KxT) ⟨B.exec, B.bytes, hml, hown, hts, hW, B.notSynchronized⟩ rfl ⟨B.returns, rfl, htb, rfl⟩ h s.heap [] _ hΦ hRel va_S.rf hl
section YCATCH
variable {Ω : OmT} {κ : KxT} {Φ Φ' : AH → Prop} {hR : AH} {cs sl pc : Nat} {L : List (Nat × Value)} {st : List Value} {own : String} {cc : ByteArray} {ret : Option FieldType} {rm : Room} {Ψ : Option Value → AH → Prop} {hh : List (Nat × Nat × Nat × Nat)} {E0 : String}
theorem y_iretH (C : Cx Ω κ own cc) (E : CeH Ω κ (some .int) rm hR Ψ hh) {x : Int32} (dg : decode cc pc = .ok (.ireturn, 1)) (hc : cs ≤ rm.cells) (hs : sl ≤ rm.slots) (hΨ : ∀ h, Φ h → Ψ (some (.int x)) h) : Y Ω κ Φ hR cs sl pc L [.int x] := fun h H locs ls a1 b1 c1 d1 => by
  rw [E.2.2.2]
  exact W.widen hc hs (vx_ret (W.iret (hlocks := C.2.2.2.2.2.2) C.1 C.2.1 E.1 (y_post C (hΨ h a1) b1 c1) c1.2.2 dg))
theorem y_catch (C : Cx Ω κ own cc) (E : CeH Ω κ ret rm hR Ψ hh) {name : String} (pre : List ExceptionTableEntry) (x : ExceptionTableEntry) (suf : List ExceptionTableEntry) (hsp : tableOf hh = pre ++ x :: suf) (hpass : ∀ z ∈ pre, covers z pc = false ∨ (z.catchType ≠ 0 ∧ ∃ nm : String, Cond.classLink own z.catchType nm ∈ AW ∧ (E0, nm) ∈ NCW)) (hx : covers x pc = true) (h0 : x.catchType ≠ 0) (hlink : Cond.classLink own x.catchType name ∈ AW) (hcast : Cond.castable E0 name ∈ NW) (kk : ∀ q : Nat, Y Ω κ Φ hR cs sl x.handlerPc L [.ref q]) : YX Ω κ E0 Φ hR cs sl pc L st := by
  intro h H locs ls q ce a1 b1 c1 d1 e1 e2 e3
  have hts := C.2.2.2.2.1
  have hW := C.2.2.2.2.2.1
  exact vx_catch C.2.2.2.1 pre x suf (E.2.2.1.trans hsp) (fun z hz => (hpass z hz).imp id (fun ⟨w1, nm, w2, w3⟩ => ⟨w1, nm, hts _ w2, hW.2.2.2.2.2.2.2.2.2.2.2.1 _ w3⟩)) hx h0 (hts _ hlink) (va_Nw.use (nw_on hcast) (hW.2.2.2.1 _ hcast)) e1 e2 e3 (kk q h H locs ls a1 b1 c1 d1)
theorem YX.imp (i : ∀ h, Φ h → Φ' h) (k : YX Ω κ E0 Φ' hR cs sl pc L st) : YX Ω κ E0 Φ hR cs sl pc L st := fun h H locs ls q ce a => k h H locs ls q ce (i h a)
theorem YX.and {P : Prop} (k : P → YX Ω κ E0 Φ hR cs sl pc L st) : YX Ω κ E0 (fun h => P ∧ Φ h) hR cs sl pc L st := fun h H locs ls q ce a => k a.1 h H locs ls q ce a.2
theorem YX.or (k : YX Ω κ E0 Φ hR cs sl pc L st) (k' : YX Ω κ E0 Φ' hR cs sl pc L st) : YX Ω κ E0 (fun h => Φ h ∨ Φ' h) hR cs sl pc L st := fun h H locs ls q ce a => a.elim (fun w => k h H locs ls q ce w) (fun w => k' h H locs ls q ce w)
end YCATCH
/-- what a caught call leaves: its code, and either its answer in the row at o or nothing new -/
def oO (Ω : OmT) (f : Nat → Int64) : va_E := .inl (OmJ Ω, 1, .inr (.inl f))
def OnO (Ω : OmT) (o : Nat) (f : Nat → Int64) (A : AH → Prop) : AH → Prop := fun h => ∃ h1, A h1 ∧ h1 o = none ∧ h = hset h1 o (oO Ω f)
def WR (Ω : OmT) (o : Nat) (f : Nat → Int64) (K : Int) (v : Int64) (A B : AH → Prop) : Option Value → AH → Prop := fun rv h => rv = some (.int (iv K)) ∧ ((K = 0 ∧ OnO Ω o (vp_updL f 0 v) A h) ∨ (K ≠ 0 ∧ OnO Ω o f B h))
theorem wr_x1 {Ω : OmT} {o : Nat} {f : Nat → Int64} {K : Int} {B : AH → Prop} {E1 : String} {k1 : Int} {E0 : String} {h : AH} (q : ∃ h1, XT K [(E1, k1)] B E0 h1 ∧ h1 o = none ∧ h = hset h1 o (oO Ω f)) : E0 = E1 ∧ K = k1 ∧ OnO Ω o f B h := by
  obtain ⟨h1, ⟨k, m, e, b⟩, n, rfl⟩ := q
  simp only [List.mem_cons, List.not_mem_nil, or_false, Prod.mk.injEq] at m
  exact ⟨m.1, by rw [e, m.2], h1, b, n, rfl⟩
theorem wr_x2 {Ω : OmT} {o : Nat} {f : Nat → Int64} {K : Int} {B : AH → Prop} {E1 E2 : String} {k1 k2 : Int} {E0 : String} {h : AH} (q : ∃ h1, XT K [(E1, k1), (E2, k2)] B E0 h1 ∧ h1 o = none ∧ h = hset h1 o (oO Ω f)) : (E0 = E1 ∧ K = k1 ∧ OnO Ω o f B h) ∨ (E0 = E2 ∧ K = k2 ∧ OnO Ω o f B h) := by
  obtain ⟨h1, ⟨k, m, e, b⟩, n, rfl⟩ := q
  simp only [List.mem_cons, List.not_mem_nil, or_false, Prod.mk.injEq] at m
  exact m.imp (fun w => ⟨w.1, by rw [e, w.2], h1, b, n, rfl⟩) (fun w => ⟨w.1, by rw [e, w.2], h1, b, n, rfl⟩)
theorem wr_x3 {Ω : OmT} {o : Nat} {f : Nat → Int64} {K : Int} {B : AH → Prop} {E1 E2 E3 : String} {k1 k2 k3 : Int} {E0 : String} {h : AH} (q : ∃ h1, XT K [(E1, k1), (E2, k2), (E3, k3)] B E0 h1 ∧ h1 o = none ∧ h = hset h1 o (oO Ω f)) : (E0 = E1 ∧ K = k1 ∧ OnO Ω o f B h) ∨ (E0 = E2 ∧ K = k2 ∧ OnO Ω o f B h) ∨ (E0 = E3 ∧ K = k3 ∧ OnO Ω o f B h) := by
  obtain ⟨h1, ⟨k, m, e, b⟩, n, rfl⟩ := q
  simp only [List.mem_cons, List.not_mem_nil, or_false, Prod.mk.injEq] at m
  exact m.imp (fun w => ⟨w.1, by rw [e, w.2], h1, b, n, rfl⟩) (fun w => w.imp (fun w => ⟨w.1, by rw [e, w.2], h1, b, n, rfl⟩) (fun w => ⟨w.1, by rw [e, w.2], h1, b, n, rfl⟩))
theorem wr_ok {Ω : OmT} {o : Nat} {f : Nat → Int64} {K : Int} {v : Value} {A : AH → Prop} {rv : Option Value} {h : AH} (q : ∃ h1, FK K v A rv h1 ∧ h1 o = none ∧ h = hset h1 o (oO Ω f)) : K = 0 ∧ rv = some v ∧ OnO Ω o f A h := by
  obtain ⟨h1, ⟨a, b, c⟩, n, e⟩ := q
  exact ⟨a, b, h1, c, n, e⟩
theorem ono_at {Ω : OmT} {o : Nat} {f : Nat → Int64} {A : AH → Prop} {h : AH} {v : Int64} (q : OnO Ω o f A h) : h o = some (oO Ω f) ∧ OnO Ω o (vp_updL f 0 v) A (hset h o (oO Ω (vp_updL f 0 v))) := by
  obtain ⟨h1, a, n, rfl⟩ := q
  exact ⟨hset_s, h1, a, n, by rw [hset_hset]⟩

