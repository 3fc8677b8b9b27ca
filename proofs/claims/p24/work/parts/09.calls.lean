/-! CALLS, ENDS, EXCEPTIONS -/
def CV (own : String) (idx : Nat) (Cn : String) (y : MethodName) (c2 : ByteArray) (mL : Nat) (ret : Option FieldType) (n : Nat) : Prop :=
  Cond.methodLink own idx y ∈ AW ∧ Cond.instanceMethod y ∈ AW ∧ Cond.selects Cn y y ∈ AW ∧ Cond.initialized Cn ∈ AW ∧ Cond.code y c2 mL ret ∈ AW ∧ y.cls = Cn ∧ y.cls ≠ "java/lang/invoke/MethodHandle" ∧ y.cls ≠ "java/lang/invoke/VarHandle" ∧ (parseMethodDescriptor y.desc).map (fun d => d.parameters.length) = some n
def CS (own : String) (idx : Nat) (y : MethodName) (c2 : ByteArray) (mL : Nat) (ret : Option FieldType) (n : Nat) : Prop :=
  Cond.methodLink own idx y ∈ AW ∧ Cond.static y ∈ AW ∧ Cond.initialized y.cls ∈ AW ∧ Cond.code y c2 mL ret ∈ AW ∧ y.cls ≠ "java/lang/invoke/MethodHandle" ∧ y.cls ≠ "java/lang/invoke/VarHandle" ∧ (parseMethodDescriptor y.desc).map (fun d => d.parameters.length) = some n
def CI (own : String) (idx : Nat) (y : MethodName) (c2 : ByteArray) (mL : Nat) (n : Nat) : Prop :=
  Cond.methodLink own idx y ∈ AW ∧ Cond.instanceMethod y ∈ AW ∧ Cond.initialized y.cls ∈ AW ∧ Cond.code y c2 mL none ∈ AW ∧ y.name = "<init>" ∧ y.cls ≠ "java/lang/invoke/MethodHandle" ∧ y.cls ≠ "java/lang/invoke/VarHandle" ∧ (parseMethodDescriptor y.desc).map (fun d => d.parameters.length) = some n
def CN (own : String) (idx : Nat) (y : MethodName) (host : String) (c2 : ByteArray) (mL : Nat) (n : Nat) : Prop :=
  Cond.methodLinkNest own idx y host ∈ NW ∧ Cond.instanceMethod y ∈ AW ∧ Cond.initialized y.cls ∈ AW ∧ Cond.code y c2 mL none ∈ AW ∧ y.name = "<init>" ∧ y.cls ≠ "java/lang/invoke/MethodHandle" ∧ y.cls ≠ "java/lang/invoke/VarHandle" ∧ (parseMethodDescriptor y.desc).map (fun d => d.parameters.length) = some n
/-- a callee's room within a caller's -/
def RmIn (rm2 : Room) (mL : Nat) (rm : Room) (cs sl : Nat) : Prop := rm2.frames + 1 ≤ rm.frames ∧ 8 + (mL + 11) + rm2.locals ≤ rm.locals ∧ cs + rm2.cells ≤ rm.cells ∧ sl + rm2.slots ≤ rm.slots
/-- rooms: k levels; with cells and slots -/
abbrev rk (k : Nat) : Room := { frames := k, cells := 0, slots := 0, locals := 40 * k }
abbrev rkc (k c s : Nat) : Room := { frames := k, cells := c, slots := s, locals := 40 * k }
theorem aw_g : GoodIn AW AW := fun w h => ⟨h, good_of_word (aw_ok w h)⟩
theorem aw_gc {w : Cond} (h : w ∈ AW) : GoodIn AW (w :: AW) := fun x hx => (List.mem_cons.mp hx).elim (fun e => by subst e; exact aw_g _ h) (fun k => aw_g _ k)
theorem aw_ga {l1 l2 : List Cond} (h1 : ∀ w ∈ l1, w ∈ AW) (h2 : GoodIn AW l2) : GoodIn AW (l1 ++ l2) := fun x hx => (List.mem_append.mp hx).elim (fun k => aw_g _ (h1 x k)) (fun k => h2 x k)
theorem Ct.met {Ω : OmT} {y : MethodName} {cc : ByteArray} {maxL : Nat} {ret : Option FieldType} {rm : Room} {av : List Value} {Φ : AH → Prop} {hR : AH} {Ψ : Option Value → AH → Prop} (c : Ct Ω y cc maxL ret rm av Φ hR Ψ NX) :
    Met (OmL Ω) y (ws_ y cc maxL ret) rm (va_Pc av (fun U => WK Ω U ∧ ∃ h, Φ h ∧ Rel Ω h hR U.heap)) (QC Ω hR Ψ) rm.cells rm.slots (OmA Ω) := by
  intro p e ha hc hk s m args below hf happ hP ht
  obtain ⟨k, o, h1, h2, h3, hQ⟩ := c p e ha hc hk s m args below hf happ hP ht
  refine ⟨k, o, h1, h2, h3, ?_⟩
  rcases hQ with h | ⟨q, _, E, ce, L, ⟨⟨h', hf, _⟩, _⟩, _⟩
  · exact h
  · exact hf.elim
section YCALL
variable {Ω : OmT} {κ : KxT} {Φ Φ' : AH → Prop} {hR : AH} {cs sl pc : Nat} {L L' : List (Nat × Value)} {st stk As : List Value} {own : String} {cc c2 : ByteArray} {idx mL n b : Nat} {v : Value} {y : MethodName} {Cn host : String} {ret ret0 : Option FieldType} {rm rm2 : Room} {Ψ Ψ' : Option Value → AH → Prop} {Ξ Ξ' : String → AH → Prop}
abbrev RunX (Ω : OmT) (κ : KxT) (H : Heap) (locs : List Loc) (ls : Array Slot) (hR : AH) (cs sl mc ms pc : Nat) (stk st : List Value) (Ψ' : Option Value → AH → Prop) (Ξ' : String → AH → Prop) (av : List Value) : Prop :=
  vx_Run (kp κ) (OmL Ω) (ke κ) (kR κ) (ks κ) (km κ) (ka κ) (kb κ) (kt κ) (kc κ) H locs cs sl mc ms (F0 (km κ) pc ls stk) st (QC Ω hR Ψ' av.toArray) (XCx Ω hR Ξ') (OmA Ω)
theorem y_runX {mc ms : Nat} {av : List Value} (hr : ∀ h H locs ls, Φ h → Rel Ω h hR H → va_S (OmA Ω) (ks κ).heap H locs → lv_has ls (kn κ) L → RunX Ω κ H locs ls hR cs sl mc ms pc stk st Ψ' Ξ' av)
    (kk : ∀ rv, Y Ω κ (Ψ' rv) hR (cs + mc) (sl + ms) (pc + 3) L (rv.toList ++ st)) (kx : ∀ E, YX Ω κ E (Ξ' E) hR (cs + mc) (sl + ms) pc L st) : Y Ω κ Φ hR cs sl pc L stk := by
  intro h H locs ls a1 b1 c1 d1 T hT X
  rcases hr h H locs ls a1 b1 c1 d1 T hT X with ⟨rv, st₀, t, T', L9, h0, X', hL, e1, e2, ⟨⟨rv', h', hv, hp, hb⟩, hF⟩, sp⟩ | ⟨q, st₀, t, T', L9, E, ce, h0, X', hL, e1, e2, ⟨⟨h', hp, hb⟩, hF⟩, hce, hcv, hcl, sp⟩
  · cases hv
    obtain ⟨k1, k2, k3⟩ := vx_keep h0 e1 c1 (fun _ _ z => z) (fun _ z => z) hL hF
    obtain ⟨t2, a2, b2⟩ := kk rv h' T'.heap (locs ++ L9) ls hp (by rw [e1]; exact hb) k3 d1 T' rfl X'
    exact ⟨t2, sp t2 a2, b2⟩
  · obtain ⟨k1, k2, k3⟩ := vx_keep h0 e1 c1 (fun _ _ z => z) (fun _ z => z) hL hF
    obtain ⟨t2, a2, b2⟩ := kx E h' T'.heap (locs ++ L9) ls q ce hp (by rw [e1]; exact hb) k3 d1 (by rw [e1]; exact hce) hcv hcl T' rfl X'
    exact ⟨t2, sp.trans a2, b2⟩
theorem y_runM {mc ms : Nat} {av : List Value} (hr : ∀ h H locs ls, Φ h → Rel Ω h hR H → va_S (OmA Ω) (ks κ).heap H locs → lv_has ls (kn κ) L → va_Run (kp κ) (OmL Ω) (ke κ) (kR κ) (ks κ) (km κ) (ka κ) (kb κ) (kt κ) (kc κ) H locs cs sl mc ms (F0 (km κ) pc ls stk) st (QC Ω hR Ψ' av.toArray) (OmA Ω))
    (kk : ∀ rv, Y Ω κ (Ψ' rv) hR (cs + mc) (sl + ms) (pc + 3) L (rv.toList ++ st)) : Y Ω κ Φ hR cs sl pc L stk := by
  intro h H locs ls a1 b1 c1 d1 T hT X
  obtain ⟨rv, st₀, t, T', L9, h0, X', hL, e1, e2, ⟨⟨rv', h', hv, hp, hb⟩, hF⟩, sp⟩ := hr h H locs ls a1 b1 c1 d1 T hT X
  cases hv
  obtain ⟨k1, k2, k3⟩ := vx_keep h0 e1 c1 (fun _ _ z => z) (fun _ z => z) hL hF
  obtain ⟨t2, a2, b2⟩ := kk rv h' T'.heap (locs ++ L9) ls hp (by rw [e1]; exact hb) k3 d1 T' rfl X'
  exact ⟨t2, sp t2 a2, b2⟩
theorem y_pre (C : Cx Ω κ own cc) {h : AH} {H : Heap} {locs : List Loc} (a1 : Φ h) (b1 : Rel Ω h hR H) (c1 : va_S (OmA Ω) (ks κ).heap H locs) {av : List Value} : ∀ U : State, U.heap = H → (ks κ).WarmedH U.vm → va_Pc av (fun U => WK Ω U ∧ ∃ h, Φ h ∧ Rel Ω h hR U.heap) av.toArray U :=
  fun U hU hW => ⟨rfl, C.2.2.2.2.2.1.call c1 hU hW, h, a1, by rw [hU]; exact b1⟩
theorem y_room (C : Cx Ω κ own cc) (hr : kR κ = rm) (hm : RmIn rm2 mL rm cs sl) (hcode : Cond.code y c2 mL ret ∈ AW) (hini : Cond.initialized y.cls ∈ AW) (hmh : y.cls ≠ "java/lang/invoke/MethodHandle" ∧ y.cls ≠ "java/lang/invoke/VarHandle" ∧ (parseMethodDescriptor y.desc).map (fun d => d.parameters.length) = some n) (hl : Cond.methodLink own idx y ∈ AW) :
    CallB (kR κ) (ks κ) (ka κ) own idx y c2 mL ret (ws_ y c2 mL ret) rm2 rm2.cells rm2.slots n :=
  callB_of n C.2.2.2.2.1 (aw_gc hcode) rfl rfl rfl (C.2.2.2.2.1 _ hini) (C.2.2.2.2.1 _ hl) hmh (by rw [hr]; exact ⟨hm.1, hm.2.1⟩)
/-- a virtual call, whatever comes of it -/
theorem y_callVX (C : Cx Ω κ own cc) (hr : kR κ = rm) (cv : CV own idx Cn y c2 mL ret n) {qc : vw_C} {ci : Nat} (hci : vwCl[ci]? = some qc) (hCn : qc.1 = Cn) (ct : Ct Ω y c2 mL ret rm2 (.ref b :: As) Φ hR Ψ' Ξ') (recv : ∀ h, Φ h → ∃ fs, h b = some (.inr (ci, fs))) (hn : As.length = n) (hst : As.reverse ++ .ref b :: st = stk) (hcat : (st.map fun v => v.category).sum ≤ 8) (hm : RmIn rm2 mL rm cs sl) (dg : decode cc pc = .ok (.invokevirtual idx, 3))
    (kk : ∀ rv, Y Ω κ (Ψ' rv) hR (cs + rm2.cells) (sl + rm2.slots) (pc + 3) L (rv.toList ++ st)) (kx : ∀ E, YX Ω κ E (Ξ' E) hR (cs + rm2.cells) (sl + rm2.slots) pc L st) : Y Ω κ Φ hR cs sl pc L stk := by
  refine y_runX (av := .ref b :: As) (fun h H locs ls a1 b1 c1 d1 => ?_) kk kx
  obtain ⟨w1, w2, w3, w4, w5, w6, w7⟩ := cv
  obtain ⟨fs, e1⟩ := recv h a1
  have hts := C.2.2.2.2.1
  exact vx_runV (As := As) (rest := st) ⟨C.1, C.2.1, C.2.2.1, C.2.2.2.1, hts⟩ ct ⟨y_room C hr hm w5 (by rw [w6]; exact w4) w7 w1, hts _ w2, hts _ w3⟩ ⟨Ct.blind, by have := va_recv C.2.2.2.2.2.1.1 (b1.1.P e1) (q0 := 0) hci rfl; rw [hCn] at this; exact this, y_pre C a1 b1 c1⟩ rfl hn d1.1 hst.symm (lv_room hcat) dg (by rw [hr]; exact ⟨hm.2.2.1, hm.2.2.2⟩)
theorem y_callSX (C : Cx Ω κ own cc) (hr : kR κ = rm) (cv : CS own idx y c2 mL ret n) (ct : Ct Ω y c2 mL ret rm2 As Φ hR Ψ' Ξ') (hn : As.length = n) (hst : As.reverse ++ st = stk) (hcat : (st.map fun v => v.category).sum ≤ 8) (hm : RmIn rm2 mL rm cs sl) (dg : decode cc pc = .ok (.invokestatic idx, 3))
    (kk : ∀ rv, Y Ω κ (Ψ' rv) hR (cs + rm2.cells) (sl + rm2.slots) (pc + 3) L (rv.toList ++ st)) (kx : ∀ E, YX Ω κ E (Ξ' E) hR (cs + rm2.cells) (sl + rm2.slots) pc L st) : Y Ω κ Φ hR cs sl pc L stk := by
  refine y_runX (av := As) (fun h H locs ls a1 b1 c1 d1 => ?_) kk kx
  obtain ⟨w1, w2, w3, w4, w5⟩ := cv
  have hts := C.2.2.2.2.1
  exact vx_runS (As := As) (rest := st) ⟨C.1, C.2.1, C.2.2.1, C.2.2.2.1, hts⟩ ct ⟨y_room C hr hm w4 w3 w5 w1, hts _ w2⟩ ⟨Ct.blind, y_pre C a1 b1 c1⟩ rfl hn d1.1 hst.symm (lv_room hcat) dg (by rw [hr]; exact ⟨hm.2.2.1, hm.2.2.2⟩)
theorem y_nx {E : String} : YX Ω κ E (NX E) hR cs sl pc L st := fun _ _ _ _ _ _ a => a.elim
/-- a virtual call that returns v -/
theorem y_callV (C : Cx Ω κ own cc) (hr : kR κ = rm) (cv : CV own idx Cn y c2 mL ret n) {qc : vw_C} {ci : Nat} (hci : vwCl[ci]? = some qc) (hCn : qc.1 = Cn) (ct : Ct Ω y c2 mL ret rm2 (.ref b :: As) Φ hR (RV v Φ') NX) (recv : ∀ h, Φ h → ∃ fs, h b = some (.inr (ci, fs))) (hn : As.length = n) (hst : As.reverse ++ .ref b :: st = stk) (hcat : (st.map fun v => v.category).sum ≤ 8) (hm : RmIn rm2 mL rm cs sl) (dg : decode cc pc = .ok (.invokevirtual idx, 3)) (h0 : rm2.cells = 0 ∧ rm2.slots = 0)
    (kk : Y Ω κ Φ' hR cs sl (pc + 3) L (v :: st)) : Y Ω κ Φ hR cs sl pc L stk :=
  y_callVX C hr cv hci hCn ct recv hn hst hcat hm dg (fun rv => Y.and (fun e => by subst e; rw [h0.1, h0.2]; exact kk)) (fun E => y_nx)
theorem y_callVv (C : Cx Ω κ own cc) (hr : kR κ = rm) (cv : CV own idx Cn y c2 mL ret n) {qc : vw_C} {ci : Nat} (hci : vwCl[ci]? = some qc) (hCn : qc.1 = Cn) (ct : Ct Ω y c2 mL ret rm2 (.ref b :: As) Φ hR (RU Φ') NX) (recv : ∀ h, Φ h → ∃ fs, h b = some (.inr (ci, fs))) (hn : As.length = n) (hst : As.reverse ++ .ref b :: st = stk) (hcat : (st.map fun v => v.category).sum ≤ 8) (hm : RmIn rm2 mL rm cs sl) (dg : decode cc pc = .ok (.invokevirtual idx, 3)) (h0 : rm2.cells = 0 ∧ rm2.slots = 0)
    (kk : Y Ω κ Φ' hR cs sl (pc + 3) L st) : Y Ω κ Φ hR cs sl pc L stk :=
  y_callVX C hr cv hci hCn ct recv hn hst hcat hm dg (fun rv => Y.and (fun e => by subst e; rw [h0.1, h0.2]; exact kk)) (fun E => y_nx)
theorem y_callS (C : Cx Ω κ own cc) (hr : kR κ = rm) (cv : CS own idx y c2 mL ret n) (ct : Ct Ω y c2 mL ret rm2 As Φ hR (RV v Φ') NX) (hn : As.length = n) (hst : As.reverse ++ st = stk) (hcat : (st.map fun v => v.category).sum ≤ 8) (hm : RmIn rm2 mL rm cs sl) (dg : decode cc pc = .ok (.invokestatic idx, 3)) (h0 : rm2.cells = 0 ∧ rm2.slots = 0)
    (kk : Y Ω κ Φ' hR cs sl (pc + 3) L (v :: st)) : Y Ω κ Φ hR cs sl pc L stk :=
  y_callSX C hr cv ct hn hst hcat hm dg (fun rv => Y.and (fun e => by subst e; rw [h0.1, h0.2]; exact kk)) (fun E => y_nx)
/-- with new cells: a virtual call that returns v -/
theorem y_callVc {cs' sl' : Nat} (C : Cx Ω κ own cc) (hr : kR κ = rm) (cv : CV own idx Cn y c2 mL ret n) {qc : vw_C} {ci : Nat} (hci : vwCl[ci]? = some qc) (hCn : qc.1 = Cn) (ct : Ct Ω y c2 mL ret rm2 (.ref b :: As) Φ hR (RV v Φ') NX) (recv : ∀ h, Φ h → ∃ fs, h b = some (.inr (ci, fs))) (hn : As.length = n) (hst : As.reverse ++ .ref b :: st = stk) (hcat : (st.map fun v => v.category).sum ≤ 8) (hm : RmIn rm2 mL rm cs sl) (dg : decode cc pc = .ok (.invokevirtual idx, 3)) (h0 : cs + rm2.cells = cs' ∧ sl + rm2.slots = sl')
    (kk : Y Ω κ Φ' hR cs' sl' (pc + 3) L (v :: st)) : Y Ω κ Φ hR cs sl pc L stk :=
  y_callVX C hr cv hci hCn ct recv hn hst hcat hm dg (fun rv => Y.and (fun e => by subst e; rw [h0.1, h0.2]; exact kk)) (fun E => y_nx)
theorem y_callSc {cs' sl' : Nat} (C : Cx Ω κ own cc) (hr : kR κ = rm) (cv : CS own idx y c2 mL ret n) (ct : Ct Ω y c2 mL ret rm2 As Φ hR (RV v Φ') NX) (hn : As.length = n) (hst : As.reverse ++ st = stk) (hcat : (st.map fun v => v.category).sum ≤ 8) (hm : RmIn rm2 mL rm cs sl) (dg : decode cc pc = .ok (.invokestatic idx, 3)) (h0 : cs + rm2.cells = cs' ∧ sl + rm2.slots = sl')
    (kk : Y Ω κ Φ' hR cs' sl' (pc + 3) L (v :: st)) : Y Ω κ Φ hR cs sl pc L stk :=
  y_callSX C hr cv ct hn hst hcat hm dg (fun rv => Y.and (fun e => by subst e; rw [h0.1, h0.2]; exact kk)) (fun E => y_nx)
/-- a constructor -/
theorem y_callI {cs' sl' : Nat} (C : Cx Ω κ own cc) (hr : kR κ = rm) (cv : CI own idx y c2 mL n) (ct : Ct Ω y c2 mL none rm2 (.ref b :: As) Φ hR (RU Φ') NX) (hn : As.length = n) (hst : As.reverse ++ .ref b :: st = stk) (hcat : (st.map fun v => v.category).sum ≤ 8) (hm : RmIn rm2 mL rm cs sl) (dg : decode cc pc = .ok (.invokespecial idx, 3)) (h0 : cs + rm2.cells = cs' ∧ sl + rm2.slots = sl')
    (kk : Y Ω κ Φ' hR cs' sl' (pc + 3) L st) : Y Ω κ Φ hR cs sl pc L stk := by
  refine y_runM (av := .ref b :: As) (st := st) (Ψ' := RU Φ') (mc := rm2.cells) (ms := rm2.slots) (fun h H locs ls a1 b1 c1 d1 => ?_) (fun rv => Y.and (fun e => by subst e; rw [h0.1, h0.2]; exact kk))
  obtain ⟨w1, w2, w3, w4, w5, w6⟩ := cv
  have hts := C.2.2.2.2.1
  exact va_runI (As := As) (rest := st) ⟨C.1, C.2.1, C.2.2.1, C.2.2.2.1, hts⟩ ct.met ⟨y_room C hr hm w4 w3 w6 w1, w5, hts _ w2⟩ ⟨Ct.blind, y_pre C a1 b1 c1⟩ rfl hn d1.1 hst.symm (lv_room hcat) dg (by rw [hr]; exact ⟨hm.2.2.1, hm.2.2.2⟩)
/-- a nest mate's private constructor -/
theorem y_callN {cs' sl' : Nat} (C : Cx Ω κ own cc) (hr : kR κ = rm) (cv : CN own idx y host c2 mL n) (ct : Ct Ω y c2 mL none rm2 (.ref b :: As) Φ hR (RU Φ') NX) (hn : As.length = n) (hst : As.reverse ++ .ref b :: st = stk) (hcat : (st.map fun v => v.category).sum ≤ 8) (hm : RmIn rm2 mL rm cs sl) (dg : decode cc pc = .ok (.invokespecial idx, 3)) (h0 : cs + rm2.cells = cs' ∧ sl + rm2.slots = sl')
    (kk : Y Ω κ Φ' hR cs' sl' (pc + 3) L st) : Y Ω κ Φ hR cs sl pc L stk := by
  refine y_runM (av := .ref b :: As) (st := st) (Ψ' := RU Φ') (mc := rm2.cells) (ms := rm2.slots) (fun h H locs ls a1 b1 c1 d1 => ?_) (fun rv => Y.and (fun e => by subst e; rw [h0.1, h0.2]; exact kk))
  obtain ⟨w1, w2, w3, w4, w5, w6⟩ := cv
  have hts := C.2.2.2.2.1
  exact va_runIN (As := As) (rest := st) ⟨C.1, C.2.1, C.2.2.1, C.2.2.2.1, hts⟩ ct.met ⟨va_cnB n hts (aw_gc w4) rfl rfl rfl (C.2.2.2.2.2.1.2.2.2.1 _ w1) (hts _ w3) w6 (by rw [hr]; exact ⟨hm.1, hm.2.1⟩), w5, hts _ w2⟩ ⟨Ct.blind, y_pre C a1 b1 c1⟩ rfl hn d1.1 hst.symm (lv_room hcat) dg (by rw [hr]; exact ⟨hm.2.2.1, hm.2.2.2⟩)
/-- Object's own constructor -/
theorem y_objI (C : Cx Ω κ own cc) (hr : kR κ = rm) (w1 : Cond.methodLink own idx objectInit ∈ AW) (w2 : Cond.instanceMethod objectInit ∈ AW) (w3 : Cond.code objectInit ⟨#[0xb1]⟩ 1 none ∈ AW) (hf : 1 ≤ rm.frames) (hl : (st.map fun v => v.category).sum + 12 ≤ rm.locals) (dg : decode cc pc = .ok (.invokespecial idx, 3)) (kk : Y Ω κ Φ hR cs sl (pc + 3) L st) : Y Ω κ Φ hR cs sl pc L (.ref b :: st) := by
  intro h H locs ls a1 b1 c1 d1
  have hts := C.2.2.2.2.1
  refine W.objInit C.1 C.2.1 C.2.2.2.1 (hts _ w1) (hts _ w2) (hts _ w3) rfl (by rw [C.2.2.1]; exact d1.1) rfl dg (by rw [hr]; exact hf) ?_ (kk h H locs ls a1 b1 c1 d1)
  rw [hr]
  show 2 * 0 + _ + 12 ≤ _
  omega
/-! the JDK's Math -/
abbrev mxI : MethodName := Lib.Math.max.name
abbrev mnI : MethodName := Lib.Math.min.name
abbrev abI : MethodName := Lib.Math.abs.name
abbrev mxL : MethodName := Lib.MathLoose.max_long.x
theorem y_max (C : Cx Ω κ own cc) {x z : Int} (hr : kR κ = rm) (w1 : Cond.methodLink own idx mxI ∈ AW) (w2 : Cond.static mxI ∈ AW) (w3 : Cond.initialized "java/lang/Math" ∈ AW) (w4 : Cond.code mxI Lib.Math.max.code 2 (some .int) ∈ AW) (hf : 1 ≤ rm.frames) (hl : (st.map fun v => v.category).sum + 13 ≤ rm.locals) (hc : cs ≤ rm.cells) (hs : sl ≤ rm.slots) (h1 : -2147483648 ≤ x) (h2 : x < 2147483648) (h3 : -2147483648 ≤ z) (h4 : z < 2147483648) (dg : decode cc pc = .ok (.invokestatic idx, 3)) (kk : Y Ω κ Φ hR cs sl (pc + 3) L (.int (iv (max x z)) :: st)) : Y Ω κ Φ hR cs sl pc L (.int (iv z) :: .int (iv x) :: st) := by
  intro h H locs ls a1 b1 c1 d1
  have hts := C.2.2.2.2.1
  refine va_mmax C.1 C.2.1 (by rw [C.2.2.1]; exact d1.1.symm) C.2.2.2.1 (hts _ w1) (hts _ w2) (hts _ w3) (hts _ w4) (by rw [hr]; exact hf) (by rw [hr]; exact hl) (by rw [hr]; exact hc) (by rw [hr]; exact hs) dg ?_
  have e : (if iv x < iv z then iv z else iv x) = iv (max x z) := by
    by_cases q : x < z
    · rw [if_pos ((iv_lt h1 h2 h3 h4).mpr q), Int.max_eq_right (by omega)]
    · rw [if_neg (fun w => q ((iv_lt h1 h2 h3 h4).mp w)), Int.max_eq_left (by omega)]
  rw [e]
  exact kk h H locs ls a1 b1 c1 d1
theorem y_min (C : Cx Ω κ own cc) {x z : Int} (hr : kR κ = rm) (w1 : Cond.methodLink own idx mnI ∈ AW) (w2 : Cond.static mnI ∈ AW) (w3 : Cond.initialized "java/lang/Math" ∈ AW) (w4 : Cond.code mnI Lib.Math.min.code 2 (some .int) ∈ AW) (hf : 1 ≤ rm.frames) (hl : (st.map fun v => v.category).sum + 13 ≤ rm.locals) (hc : cs ≤ rm.cells) (hs : sl ≤ rm.slots) (h1 : -2147483648 ≤ x) (h2 : x < 2147483648) (h3 : -2147483648 ≤ z) (h4 : z < 2147483648) (dg : decode cc pc = .ok (.invokestatic idx, 3)) (kk : Y Ω κ Φ hR cs sl (pc + 3) L (.int (iv (min x z)) :: st)) : Y Ω κ Φ hR cs sl pc L (.int (iv z) :: .int (iv x) :: st) := by
  intro h H locs ls a1 b1 c1 d1
  have hts := C.2.2.2.2.1
  refine va_mmin C.1 C.2.1 (by rw [C.2.2.1]; exact d1.1.symm) C.2.2.2.1 (hts _ w1) (hts _ w2) (hts _ w3) (hts _ w4) (by rw [hr]; exact hf) (by rw [hr]; exact hl) (by rw [hr]; exact hc) (by rw [hr]; exact hs) dg ?_
  have e : (if iv z < iv x then iv z else iv x) = iv (min x z) := by
    by_cases q : z < x
    · rw [if_pos ((iv_lt h3 h4 h1 h2).mpr q), Int.min_eq_right (by omega)]
    · rw [if_neg (fun w => q ((iv_lt h3 h4 h1 h2).mp w)), Int.min_eq_left (by omega)]
  rw [e]
  exact kk h H locs ls a1 b1 c1 d1
theorem y_abs (C : Cx Ω κ own cc) {x : Int} (hr : kR κ = rm) (w1 : Cond.methodLink own idx abI ∈ AW) (w2 : Cond.static abI ∈ AW) (w3 : Cond.initialized "java/lang/Math" ∈ AW) (w4 : Cond.code abI Lib.Math.abs.code 1 (some .int) ∈ AW) (hf : 1 ≤ rm.frames) (hl : (st.map fun v => v.category).sum + 13 ≤ rm.locals) (hc : cs ≤ rm.cells) (hs : sl ≤ rm.slots) (h1 : -2147483648 ≤ x) (h2 : x < 2147483648) (dg : decode cc pc = .ok (.invokestatic idx, 3)) (kk : Y Ω κ Φ hR cs sl (pc + 3) L (.int (iv (if 0 ≤ x then x else -x)) :: st)) : Y Ω κ Φ hR cs sl pc L (.int (iv x) :: st) := by
  intro h H locs ls a1 b1 c1 d1
  have hts := C.2.2.2.2.1
  refine va_mabs C.1 C.2.1 (by rw [C.2.2.1]; exact d1.1.symm) C.2.2.2.1 (hts _ w1) (hts _ w2) (hts _ w3) (hts _ w4) (by rw [hr]; exact hf) (by rw [hr]; exact hl) (by rw [hr]; exact hc) (by rw [hr]; exact hs) dg ?_
  have e : (if 0 ≤ iv x then iv x else 0 - iv x) = iv (if 0 ≤ x then x else -x) := by
    have w := iv_le (x := 0) (y := x) (by decide) (by decide) h1 h2
    rw [iv_0] at w
    by_cases q : 0 ≤ x
    · rw [if_pos (w.mpr q), if_pos q]
    · rw [if_neg (fun z => q (w.mp z)), if_neg q, ← iv_0, iv_sub, Int.zero_sub]
  rw [e]
  exact kk h H locs ls a1 b1 c1 d1
theorem y_maxL (C : Cx Ω κ own cc) {x z : Int} (hr : kR κ = rm) (w1 : Cond.methodLink own idx mxL ∈ AW) (w2 : Cond.static mxL ∈ AW) (w3 : Cond.initialized "java/lang/Math" ∈ AW) (w4 : Cond.code mxL Lib.MathLoose.max_long.code 4 (some .long) ∈ AW) (hf : 1 ≤ rm.frames) (hl : (st.map fun v => v.category).sum + 15 ≤ rm.locals) (hc : cs ≤ rm.cells) (hs : sl ≤ rm.slots) (h1 : -9223372036854775808 ≤ x) (h2 : x < 9223372036854775808) (h3 : -9223372036854775808 ≤ z) (h4 : z < 9223372036854775808) (dg : decode cc pc = .ok (.invokestatic idx, 3)) (kk : Y Ω κ Φ hR cs sl (pc + 3) L (.long (jv (max x z)) :: st)) : Y Ω κ Φ hR cs sl pc L (.long (jv z) :: .long (jv x) :: st) := by
  intro h H locs ls a1 b1 c1 d1
  have hts := C.2.2.2.2.1
  refine va_mmax_long C.1 C.2.1 (by rw [C.2.2.1]; exact d1.1.symm) C.2.2.2.1 (hts _ w1) (hts _ w2) (hts _ w3) (hts _ w4) (by rw [hr]; exact hf) (by rw [hr]; exact hl) (by rw [hr]; exact hc) (by rw [hr]; exact hs) dg ?_
  have e : (if jv z < jv x then jv x else jv z) = jv (max x z) := by
    by_cases q : z < x
    · rw [if_pos ((jv_lt h3 h4 h1 h2).mpr q), Int.max_eq_left (by omega)]
    · rw [if_neg (fun w => q ((jv_lt h3 h4 h1 h2).mp w)), Int.max_eq_right (by omega)]
  rw [e]
  exact kk h H locs ls a1 b1 c1 d1
/-! ends -/
theorem y_end (E : Ce Ω κ ret rm hR Ψ Ξ) {g : JFrame} {H : Heap} {locs : List Loc} (hc : cs ≤ rm.cells) (hs : sl ≤ rm.slots) (k : W (kp κ) (OmL Ω) (ke κ) (kR κ) (ks κ) (km κ) (ka κ) (kb κ) (kt κ) (kc κ) H locs rm.cells rm.slots (MQ (kb κ) (QC Ω hR Ψ) (ka κ) (ks κ) rm.cells rm.slots (OmA Ω)) g) : W (kp κ) (OmL Ω) (ke κ) (kR κ) (ks κ) (km κ) (ka κ) (kb κ) (kt κ) (kc κ) H locs cs sl (kQ κ) g := by
  rw [E.2.2.2]
  exact W.widen hc hs (vx_ret k)
theorem y_post (C : Cx Ω κ own cc) {h : AH} {H : Heap} {locs : List Loc} {rv : Option Value} (a1 : Ψ rv h) (b1 : Rel Ω h hR H) (c1 : va_S (OmA Ω) (ks κ).heap H locs) : ∀ t : State, t.heap = H → (ks κ).WarmedH t.vm → QC Ω hR Ψ (ka κ) (ks κ) (.returned rv) t :=
  fun t ht _ => ⟨⟨rv, h, rfl, a1, by rw [ht]; exact b1⟩, c1.F ht⟩
theorem y_iret (C : Cx Ω κ own cc) (E : Ce Ω κ (some .int) rm hR Ψ Ξ) {x : Int32} (dg : decode cc pc = .ok (.ireturn, 1)) (hc : cs ≤ rm.cells) (hs : sl ≤ rm.slots) (hΨ : ∀ h, Φ h → Ψ (some (.int x)) h) : Y Ω κ Φ hR cs sl pc L [.int x] :=
  fun h H locs ls a1 b1 c1 d1 => y_end E hc hs (W.iret (hlocks := C.2.2.2.2.2.2) C.1 C.2.1 E.1 (y_post C (hΨ h a1) b1 c1) c1.2.2 dg)
theorem y_zret (C : Cx Ω κ own cc) (E : Ce Ω κ (some .boolean) rm hR Ψ Ξ) {b : Bool} (dg : decode cc pc = .ok (.ireturn, 1)) (hc : cs ≤ rm.cells) (hs : sl ≤ rm.slots) (hΨ : ∀ h, Φ h → Ψ (some (.int (iv (bz b)))) h) : Y Ω κ Φ hR cs sl pc L [.int (iv (bz b))] :=
  fun h H locs ls a1 b1 c1 d1 => y_end E hc hs (W.zret (hlocks := C.2.2.2.2.2.2) C.1 C.2.1 E.1 (by cases b <;> decide) (y_post C (hΨ h a1) b1 c1) c1.2.2 dg)
theorem y_lret (C : Cx Ω κ own cc) (E : Ce Ω κ (some .long) rm hR Ψ Ξ) {x : Int64} (dg : decode cc pc = .ok (.lreturn, 1)) (hc : cs ≤ rm.cells) (hs : sl ≤ rm.slots) (hΨ : ∀ h, Φ h → Ψ (some (.long x)) h) : Y Ω κ Φ hR cs sl pc L [.long x] :=
  fun h H locs ls a1 b1 c1 d1 => y_end E hc hs (W.lret (hlocks := C.2.2.2.2.2.2) C.1 C.2.1 E.1 (y_post C (hΨ h a1) b1 c1) c1.2.2 dg)
theorem y_aret (C : Cx Ω κ own cc) {rt : FieldType} (E : Ce Ω κ (some rt) rm hR Ψ Ξ) (hrt : (∃ n, rt = .object n) ∨ ∃ t, rt = .array t) (dg : decode cc pc = .ok (.areturn, 1)) (hc : cs ≤ rm.cells) (hs : sl ≤ rm.slots) (hΨ : ∀ h, Φ h → Ψ (some (.ref b)) h) : Y Ω κ Φ hR cs sl pc L [.ref b] :=
  fun h H locs ls a1 b1 c1 d1 => y_end E hc hs (W.aret (hlocks := C.2.2.2.2.2.2) C.1 C.2.1 E.1 hrt (Or.inr ⟨b, rfl⟩) (y_post C (hΨ h a1) b1 c1) c1.2.2 dg)
theorem y_vret (C : Cx Ω κ own cc) (E : Ce Ω κ none rm hR Ψ Ξ) (dg : decode cc pc = .ok (.return_, 1)) (hc : cs ≤ rm.cells) (hs : sl ≤ rm.slots) (hΨ : ∀ h, Φ h → Ψ none h) : Y Ω κ Φ hR cs sl pc L [] :=
  fun h H locs ls a1 b1 c1 d1 => y_end E hc hs (W.vret (hlocks := C.2.2.2.2.2.2) C.1 C.2.1 E.1 (y_post C (hΨ h a1) b1 c1) c1.2.2 dg)
/-- an exception goes on to the caller -/
theorem y_out {E0 : String} (C : Cx Ω κ own cc) (E : Ce Ω κ ret rm hR Ψ Ξ) (hc : cs ≤ rm.cells) (hs : sl ≤ rm.slots) (hΞ : ∀ h, Φ h → Ξ E0 h) : YX Ω κ E0 Φ hR cs sl pc L st := by
  intro h H locs ls q ce a1 b1 c1 d1 e1 e2 e3
  rw [E.2.2.2]
  exact vx_out (fun x hx => (E.2.2.1 x hx).elim) C.2.2.2.2.2.2 e1 e2 e3 (fun t ht _ => ⟨⟨h, hΞ h a1, by rw [ht]; exact b1⟩, c1.F ht⟩) c1.2.2 hc hs
end YCALL

