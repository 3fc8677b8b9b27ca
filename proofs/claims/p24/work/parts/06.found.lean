/-! THE GROUND: heaps as functions, what stays in a run, a walk's judgement Y, contracts Ct -/
abbrev AH : Type := Nat → Option va_E
def hset (h : AH) (a : Nat) (e : va_E) : AH := fun b => if b = a then some e else h b
theorem hset_s {h : AH} {a : Nat} {e : va_E} : hset h a e a = some e := if_pos rfl
theorem hset_n {h : AH} {a b : Nat} {e : va_E} (n : b ≠ a) : hset h a e b = h b := if_neg n
theorem hset_d {h : AH} {a b : Nat} {e x y : va_E} (h1 : h b = some x) (h2 : h a = some y) (n : x ≠ y) : hset h a e b = some x := by
  rw [hset_n (fun q => n (by rw [q, h2] at h1; exact (Option.some.inj h1).symm))]; exact h1
/-- launch, classes and places of fields, array classes int, long, Object; the first address of the run's own; the empty row; the mirror; strings -/
abbrev OmT : Type := Launch × va_G × ClassId × ClassId × ClassId × Nat × Nat × Nat × (String → Nat → Nat)
abbrev OmL (Ω : OmT) : Launch := Ω.1
abbrev OmD (Ω : OmT) : va_G := Ω.2.1
abbrev OmI (Ω : OmT) : ClassId := Ω.2.2.1
abbrev OmJ (Ω : OmT) : ClassId := Ω.2.2.2.1
abbrev OmO (Ω : OmT) : ClassId := Ω.2.2.2.2.1
abbrev OmB (Ω : OmT) : Nat := Ω.2.2.2.2.2.1
abbrev OmE (Ω : OmT) : Nat := Ω.2.2.2.2.2.2.1
abbrev OmM (Ω : OmT) : Nat := Ω.2.2.2.2.2.2.2.1
abbrev OmS (Ω : OmT) : String → Nat → Nat := Ω.2.2.2.2.2.2.2.2
def OmA (Ω : OmT) : Nat → Prop := fun q => OmB Ω ≤ q
abbrev OmTy (Ω : OmT) : List (ClassId × FieldType) := [(OmI Ω, .int), (OmJ Ω, .long), (OmO Ω, .object "java/lang/Object")]
def isNW : Cond → Bool
  | .castable .. | .methodLinkNest .. | .declares _ => true
  | _ => false
def NW : List Cond := lw_tbl.filter isNW
theorem nw_in {w : Cond} (h : w ∈ lw_tbl) (g : isNW w = true) : w ∈ NW := List.mem_filter.mpr ⟨h, g⟩
theorem nw_on {w : Cond} (h : w ∈ NW) : w.onTables = true := by
  have g := (List.mem_filter.mp h).2
  cases w <;> first | rfl | (simp [isNW] at g; done)
theorem nw_warm {w : Cond} (h : w ∈ NW) {s U : State} (hW : s.WarmedH U.vm) (hZ : va_Nw w s) : va_Nw w U := by
  have g := (List.mem_filter.mp h).2
  cases w <;> first | exact va_Nw.warmC hW hZ | exact va_Nw.warmM hW hZ | exact va_tabs rfl (rfl : (s.setVm U.vm).vm = U.vm) (by rw [Cond.declares_setVm hW.alike]; exact hZ) | (simp [isNW] at g; done)
/-- the texts of exceptions, by their places -/
def SW : List (String × Nat × String) := lw_tbl.filterMap fun w => match w with
  | .stringRef o k t => some (o, k, t)
  | _ => none
theorem sw_in {o t : String} {k : Nat} (h : Cond.stringRef o k t ∈ lw_tbl) : (o, k, t) ∈ SW := List.mem_filterMap.mpr ⟨_, h, rfl⟩
abbrev sIA : String := "java/lang/IllegalArgumentException"
abbrev sIS : String := "java/lang/IllegalStateException"
abbrev sIB : String := "java/lang/IndexOutOfBoundsException"
def NCW : List (String × String) := [(sIA, sIS), (sIS, sIA), (sIB, sIA), (sIB, sIS)]
abbrev tyO : FieldType := .object "java/lang/Object"
/-- what stays: the tables of a method's start, and the old part of the heap -/
def WK (Ω : OmT) (U : State) : Prop :=
  va_K (OmD Ω) vwCl (OmTy Ω) U ∧ OmB Ω ≤ U.heap.size ∧ (OmL Ω).stackTraces = false ∧ (∀ w ∈ NW, va_Nw w U) ∧ (∀ q ∈ SW, vk_R q.1 q.2.1 q.2.2 (OmS Ω q.1 q.2.1) U) ∧
  va_AO "java/lang/Object" U ∧ va_Mi "[Ljava/lang/Object;" (OmM Ω) U ∧
  vx_Zq Bundle.tN "UNASSIGNED_STACK" Bundle.steD (OmA Ω) U U.heap ∧ vx_Zq Bundle.tN "SUPPRESSED_SENTINEL" Bundle.listD (OmA Ω) U U.heap ∧
  va_Z "java/util/ArrayList" "DEFAULTCAPACITY_EMPTY_ELEMENTDATA" "[Ljava/lang/Object;" (.ref (OmE Ω)) (OmA Ω) U U.heap ∧
  va_T tyO (OmE Ω) 0 (fun _ => .null) (OmA Ω) U U.heap ∧ (∀ q ∈ NCW, va_Nc q.1 q.2 U) ∧ OmE Ω < OmB Ω
theorem WK.call {Ω : OmT} {s U : State} {H : Heap} {locs : List Loc} (h : WK Ω s) (hS : va_S (OmA Ω) s.heap H locs) (hU : U.heap = H) (hW : s.WarmedH U.vm) : WK Ω U := by
  obtain ⟨h1, h2, h3, h4, h5, h6, h7, h8, h9, h10, h11, h12, h13⟩ := h
  have hk : ∀ a : Nat, a < s.heap.size → ¬ OmA Ω a → U.heap[a]? = s.heap[a]? := fun a q1 q2 => by rw [hU]; exact hS.2.1 a q1 q2
  refine ⟨va_K.moved hW.alike h1, ?_, h3, fun w hw => nw_warm hw hW (h4 w hw), fun q hq => vk_R.warm hW (h5 q hq), va_AO.moved hW.alike h6, va_Mi.moved hW.alike h7, vx_Zq.moved hW.alike (h8.kept hk), vx_Zq.moved hW.alike (h9.kept hk), va_Z.moved hW.alike (h10.kept hk), va_T.moved hW.alike (h11.kept hk), fun q hq => va_Nc.moved hW.alike (h12 q hq), h13⟩
  rw [hU]; exact Nat.le_trans h2 hS.1
theorem WK.blind {Ω : OmT} {U : State} {g : JFrame} {mk : MethodId} {a : Array Value} (h : WK Ω U) : WK Ω (U.calling g mk a) := by
  obtain ⟨h1, h2, h3, h4, h5, h6, h7, h8, h9, h10, h11, h12, h13⟩ := h
  have hv : U.vm.Alike (U.calling g mk a).vm := Vm.Alike.refl U.vm
  exact ⟨va_K.moved hv h1, h2, h3, fun w hw => va_Nw.same (nw_on hw) (u := U) (U := U.calling g mk a) rfl (h4 w hw), fun q hq => vk_R.same (u := U) (U := U.calling g mk a) rfl (h5 q hq), va_AO.moved hv h6, va_Mi.moved hv h7, vx_Zq.moved hv h8, vx_Zq.moved hv h9, va_Z.moved hv h10, va_T.moved hv h11, fun q hq => va_Nc.moved hv (h12 q hq), h13⟩
/-- a part of the heap and the rest, as the heap has them -/
def R1 (Ω : OmT) (h : AH) (H : Heap) : Prop := ∀ (a : Nat) (e : va_E), h a = some e → OmB Ω ≤ a ∧ va_at (OmD Ω) vwCl (a, e) H
def Rel (Ω : OmT) (h hR : AH) (H : Heap) : Prop := R1 Ω h H ∧ R1 Ω hR H ∧ ∀ a : Nat, h a ≠ none → hR a = none
theorem Rel.swap {Ω : OmT} {h hR : AH} {H : Heap} (r : Rel Ω h hR H) : Rel Ω hR h H := ⟨r.2.1, r.1, fun a ha => by
  cases hq : h a with
  | none => rfl
  | some e => exact absurd (r.2.2 a (by rw [hq]; exact fun z => by cases z)) ha⟩
theorem R1.P {Ω : OmT} {h : AH} {H : Heap} (r : R1 Ω h H) {a : Nat} {e : va_E} (ha : h a = some e) : va_P (OmD Ω) vwCl [(a, e)] H := fun k q hk => by
  have hz : k < 1 := (List.getElem?_eq_some_iff.mp hk).1
  rw [show k = 0 by omega] at hk
  cases hk
  exact (r a e ha).2
theorem R1.lt {Ω : OmT} {h : AH} {H : Heap} (r : R1 Ω h H) {a : Nat} {e : va_E} (ha : h a = some e) : a < H.size := (r a e ha).2.lt
theorem R1.new {Ω : OmT} {h : AH} {H : Heap} (r : R1 Ω h H) : h H.size = none := by
  cases hq : h H.size with
  | none => rfl
  | some e => exact absurd (r.lt hq) (Nat.lt_irrefl _)
theorem R1.kept {Ω : OmT} {h : AH} {H H1 : Heap} (r : R1 Ω h H) (hk : ∀ (a : Nat) (e : va_E), h a = some e → H1[a]? = H[a]?) : R1 Ω h H1 := fun a e ha => ⟨(r a e ha).1, (r a e ha).2.kept (hk a e ha)⟩
theorem Rel.set {Ω : OmT} {h hR : AH} {H H1 : Heap} (r : Rel Ω h hR H) {a : Nat} {e0 e : va_E} (ha : h a = some e0) (he : va_at (OmD Ω) vwCl (a, e) H1) (oq : ∀ q : Nat, q ≠ a → H1[q]? = H[q]?) : Rel Ω (hset h a e) hR H1 := by
  refine ⟨fun b x hb => ?_, r.2.1.kept (fun b x hb => oq b (fun q => ?_)), fun b hb => ?_⟩
  · by_cases hq : b = a
    · subst hq; rw [hset_s] at hb; cases hb; exact ⟨(r.1 b e0 ha).1, he⟩
    · rw [hset_n hq] at hb; exact ⟨(r.1 b x hb).1, (r.1 b x hb).2.kept (oq b hq)⟩
  · have := r.2.2 a (by rw [ha]; exact fun z => by cases z)
    rw [q, this] at hb; cases hb
  · by_cases hq : b = a
    · subst hq; exact r.2.2 b (by rw [ha]; exact fun z => by cases z)
    · rw [hset_n hq] at hb; exact r.2.2 b hb
theorem Rel.push {Ω : OmT} {h hR : AH} {H H1 : Heap} (r : Rel Ω h hR H) (hB : OmB Ω ≤ H.size) {e : va_E} (he : va_at (OmD Ω) vwCl (H.size, e) H1) (oq : ∀ q : Nat, q < H.size → H1[q]? = H[q]?) : Rel Ω (hset h H.size e) hR H1 := by
  refine ⟨fun b x hb => ?_, r.2.1.kept (fun b x hb => oq b (r.2.1.lt hb)), fun b hb => ?_⟩
  · by_cases hq : b = H.size
    · subst hq; rw [hset_s] at hb; cases hb; exact ⟨hB, he⟩
    · rw [hset_n hq] at hb; exact ⟨(r.1 b x hb).1, (r.1 b x hb).2.kept (oq b (r.1.lt hb))⟩
  · by_cases hq : b = H.size
    · subst hq; exact r.2.1.new
    · rw [hset_n hq] at hb; exact r.2.2 b hb
/-- a walk's surroundings -/
abbrev KxT : Type := Program × Env × Room × State × MethodId × Array Value × List Frame × Method × Code × (State → Prop) × Nat
abbrev kp (κ : KxT) : Program := κ.1
abbrev ke (κ : KxT) : Env := κ.2.1
abbrev kR (κ : KxT) : Room := κ.2.2.1
abbrev ks (κ : KxT) : State := κ.2.2.2.1
abbrev km (κ : KxT) : MethodId := κ.2.2.2.2.1
abbrev ka (κ : KxT) : Array Value := κ.2.2.2.2.2.1
abbrev kb (κ : KxT) : List Frame := κ.2.2.2.2.2.2.1
abbrev kt (κ : KxT) : Method := κ.2.2.2.2.2.2.2.1
abbrev kc (κ : KxT) : Code := κ.2.2.2.2.2.2.2.2.1
abbrev kQ (κ : KxT) : State → Prop := κ.2.2.2.2.2.2.2.2.2.1
abbrev kn (κ : KxT) : Nat := κ.2.2.2.2.2.2.2.2.2.2
def Y (Ω : OmT) (κ : KxT) (Φ : AH → Prop) (hR : AH) (cs sl pc : Nat) (L : List (Nat × Value)) (st : List Value) : Prop :=
  ∀ (h : AH) (H : Heap) (locs : List Loc) (ls : Array Slot), Φ h → Rel Ω h hR H → va_S (OmA Ω) (ks κ).heap H locs → lv_has ls (kn κ) L → W (kp κ) (OmL Ω) (ke κ) (kR κ) (ks κ) (km κ) (ka κ) (kb κ) (kt κ) (kc κ) H locs cs sl (kQ κ) (F0 (km κ) pc ls st)
/-- an exception leaves the instruction at pc -/
def YX (Ω : OmT) (κ : KxT) (E : String) (Φ : AH → Prop) (hR : AH) (cs sl pc : Nat) (L : List (Nat × Value)) (st : List Value) : Prop :=
  ∀ (h : AH) (H : Heap) (locs : List Loc) (ls : Array Slot) (q : Addr) (ce : Cell), Φ h → Rel Ω h hR H → va_S (OmA Ω) (ks κ).heap H locs → lv_has ls (kn κ) L → H[q]? = some ce → ce.vm = .none → (ks κ).vm.findClass E = some ce.cls →
    vx_W (kp κ) (OmL Ω) (ke κ) (kR κ) (ks κ) (km κ) (ka κ) (kb κ) (kt κ) (kc κ) H locs cs sl (kQ κ) (F0 (km κ) pc ls st) q
def QC (Ω : OmT) (hR : AH) (Ψ : Option Value → AH → Prop) : Array Value → State → Outcome → State → Prop := fun _ st o t => (∃ (rv : Option Value) (h' : AH), o = .returned rv ∧ Ψ rv h' ∧ Rel Ω h' hR t.heap) ∧ va_F (OmA Ω) st t
def XCx (Ω : OmT) (hR : AH) (Ξ : String → AH → Prop) : String → State → State → Prop := fun E st t => (∃ h' : AH, Ξ E h' ∧ Rel Ω h' hR t.heap) ∧ va_F (OmA Ω) st t
abbrev ws_ (y : MethodName) (cc : ByteArray) (maxL : Nat) (ret : Option FieldType) : List Cond := Cond.code y cc maxL ret :: AW
/-- a contract: with these arguments, from a heap with Φ beside the rest hR: it returns with Ψ or throws with Ξ -/
def Ct (Ω : OmT) (y : MethodName) (cc : ByteArray) (maxL : Nat) (ret : Option FieldType) (rm : Room) (av : List Value) (Φ : AH → Prop) (hR : AH) (Ψ : Option Value → AH → Prop) (Ξ : String → AH → Prop) : Prop :=
  vx_Met (OmL Ω) y (ws_ y cc maxL ret) rm (va_Pc av (fun U => WK Ω U ∧ ∃ h, Φ h ∧ Rel Ω h hR U.heap)) (QC Ω hR Ψ) (XCx Ω hR Ξ) rm.cells rm.slots (OmA Ω)
/-- a value and a heap; nothing and a heap; no exception -/
def RV (v : Value) (Φ : AH → Prop) : Option Value → AH → Prop := fun rv h => rv = some v ∧ Φ h
def RU (Φ : AH → Prop) : Option Value → AH → Prop := fun rv h => rv = none ∧ Φ h
def NX : String → AH → Prop := fun _ _ => False
/-- what a row of a walk knows of its method -/
def Cx (Ω : OmT) (κ : KxT) (own : String) (cc : ByteArray) : Prop :=
  (kp κ).tables.exec = Jvm.exec ∧ (kc κ).code = cc ∧ (kc κ).maxLocals = kn κ ∧ (ks κ).vm.findClass own = some (km κ).cls ∧ (∀ w ∈ AW, w.before (ka κ) (ks κ) = true) ∧ WK Ω (ks κ) ∧ (kt κ).locks = false
/-- what a contract's walk knows of its end -/
def Ce (Ω : OmT) (κ : KxT) (ret : Option FieldType) (rm : Room) (hR : AH) (Ψ : Option Value → AH → Prop) (Ξ : String → AH → Prop) : Prop :=
  (kt κ).sig.returnType = ret ∧ kR κ = rm ∧ (∀ x ∈ (kc κ).exceptionTable.toList, False) ∧ kQ κ = vx_MQ (kb κ) (QC Ω hR Ψ) (XCx Ω hR Ξ) (ka κ) (ks κ) rm.cells rm.slots (OmA Ω)
set_option maxHeartbeats 4000000 in
theorem Ct.of {Ω : OmT} {y : MethodName} {own : String} {cc : ByteArray} {maxL : Nat} {ret : Option FieldType} {rm : Room} {av : List Value} {Φ : AH → Prop} {hR : AH} {Ψ : Option Value → AH → Prop} {Ξ : String → AH → Prop} {L : List (Nat × Value)}
    (hy : plainName y.cls = true) (ho : y.cls = own) (hn : (lg_sl av).length ≤ maxL) (hL : lv_args 0 av = L)
    (body : ∀ κ : KxT, Cx Ω κ own cc → kn κ = maxL → Ce Ω κ ret rm hR Ψ Ξ → (y.name = "<init>" → (kt κ).name = "<init>") → Y Ω κ Φ hR 0 0 0 L []) : Ct Ω y cc maxL ret rm av Φ hR Ψ Ξ := by
  refine vx_ofW (cc := cc) (maxL := maxL) (ret := ret) hy rfl ?_
  intro p e s m args below meth c s₁ B hml hex hv
  obtain ⟨rfl, hW, h, hΦ, hRel⟩ := hv
  have hts : ∀ w ∈ AW, w.before av.toArray s = true := fun w hw => atoms_spec (ws := ws_ y cc maxL ret) B.pre w (List.mem_cons_of_mem _ hw)
  have hown : s.vm.findClass own = some m.cls := by rw [← ho]; exact findClass_of_methodNamed B.named
  have hl := lv_entry av (n := maxL) hn
  rw [lg_entry_eq]
  subst hL
  exact body ((p, e, rm, s, m, av.toArray, below, meth, c, _, maxL) : KxT) ⟨B.exec, B.bytes, hml, hown, hts, hW, B.notSynchronized⟩ rfl ⟨B.returns, rfl, hex, rfl⟩ (fun hi => (name_of_methodNamed B.named B.method).1.trans hi) h s.heap [] _ hΦ hRel va_S.rf hl
theorem Ct.blind {Ω : OmT} {av : List Value} {Φ : AH → Prop} {hR : AH} : FrameBlind (va_Pc av (fun U => WK Ω U ∧ ∃ h, Φ h ∧ Rel Ω h hR U.heap)) := fun a U g mk q => ⟨q.1, q.2.1.blind, q.2.2⟩
theorem Y.imp {Ω : OmT} {κ : KxT} {Φ Φ' : AH → Prop} {hR : AH} {cs sl pc : Nat} {L : List (Nat × Value)} {st : List Value} (i : ∀ h, Φ h → Φ' h) (k : Y Ω κ Φ' hR cs sl pc L st) : Y Ω κ Φ hR cs sl pc L st := fun h H locs ls hh => k h H locs ls (i h hh)
theorem Y.ex {α : Sort _} {Ω : OmT} {κ : KxT} {Φ : α → AH → Prop} {hR : AH} {cs sl pc : Nat} {L : List (Nat × Value)} {st : List Value} (k : ∀ x, Y Ω κ (Φ x) hR cs sl pc L st) : Y Ω κ (fun h => ∃ x, Φ x h) hR cs sl pc L st := fun h H locs ls ⟨x, hh⟩ => k x h H locs ls hh
theorem Y.and {P : Prop} {Ω : OmT} {κ : KxT} {Φ : AH → Prop} {hR : AH} {cs sl pc : Nat} {L : List (Nat × Value)} {st : List Value} (k : P → Y Ω κ Φ hR cs sl pc L st) : Y Ω κ (fun h => P ∧ Φ h) hR cs sl pc L st := fun h H locs ls ⟨x, hh⟩ => k x h H locs ls hh
theorem Y.at {Ω : OmT} {κ : KxT} {Φ : AH → Prop} {hR : AH} {cs sl pc : Nat} {L : List (Nat × Value)} {st : List Value} (k : ∀ h0, Φ h0 → Y Ω κ (fun h => h = h0) hR cs sl pc L st) : Y Ω κ Φ hR cs sl pc L st := fun h H locs ls hh => k h hh h H locs ls rfl
theorem Y.wide {Ω : OmT} {κ : KxT} {Φ : AH → Prop} {hR : AH} {cs sl cs' sl' pc : Nat} {L : List (Nat × Value)} {st : List Value} (h1 : cs ≤ cs') (h2 : sl ≤ sl') (k : Y Ω κ Φ hR cs' sl' pc L st) : Y Ω κ Φ hR cs sl pc L st := fun h H locs ls a b c d => W.widen h1 h2 (k h H locs ls a b c d)
theorem Y.sub {Ω : OmT} {κ : KxT} {Φ : AH → Prop} {hR : AH} {cs sl pc : Nat} {L L' : List (Nat × Value)} {st : List Value} (is : List Nat) (hl : lv_pick L is = L') (k : Y Ω κ Φ hR cs sl pc L' st) : Y Ω κ Φ hR cs sl pc L st := fun h H locs ls a b c d => k h H locs ls a b c (lv_sub d is hl)
theorem Ct.pre {Ω : OmT} {y : MethodName} {cc : ByteArray} {maxL : Nat} {ret : Option FieldType} {rm : Room} {av : List Value} {Φ Φ' : AH → Prop} {hR : AH} {Ψ : Option Value → AH → Prop} {Ξ : String → AH → Prop} (i : ∀ h, Φ' h → Φ h) (c : Ct Ω y cc maxL ret rm av Φ hR Ψ Ξ) : Ct Ω y cc maxL ret rm av Φ' hR Ψ Ξ := by
  intro p e ha hc hk s m args below hf happ hP ht
  exact c p e ha hc hk s m args below hf happ ⟨hP.1, hP.2.1, by obtain ⟨h, a, b⟩ := hP.2.2; exact ⟨h, i h a, b⟩⟩ ht

