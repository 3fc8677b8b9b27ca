/-! class and reference side by side -/
def LH (A B : AH → Prop) : AH → Prop := fun h => ∃ hC hM, A hC ∧ B hM ∧ Dj hC hM ∧ h = cmb hC hM
theorem LH.imp {A A' B B' : AH → Prop} {h : AH} (i : LH A B h) (a : ∀ h, A h → A' h) (b : ∀ h, B h → B' h) : LH A' B' h := by
  obtain ⟨hC, hM, h1, h2, h3, h4⟩ := i
  exact ⟨hC, hM, a _ h1, b _ h2, h3, h4⟩
/-- the law's state between two calls -/
def LW (Ω : OmT) (x M o : Nat) : AH → Prop := fun h => ∃ (lay : Nat → Nat → Nat) (ma : Nat → Nat) (σ : ZT) (τ : JT) (ξ : XiT) (ns nc nl : Nat) (f : Nat → Int64), LI ξ σ τ ns nc nl ∧ LaO Ω lay ∧ lay 0 0 = x ∧ LH (OnO Ω o f (InvC Ω lay ns ns nc nl ξ σ τ)) (InvM Ω M ma σ τ) h
section YSIDE
variable {Ω : OmT} {κ : KxT} {hR : AH} {cs sl pc : Nat} {L : List (Nat × Value)} {st stk : List Value} {own : String} {cc : ByteArray} {idx : Nat} {A B A1 B1 : AH → Prop}
theorem y_lawC (C : Cx Ω κ own cc) {rm rm2 : Room} (hr : kR κ = rm) {y : MethodName} {c2 : ByteArray} {mL n o : Nat} {f : Nat → Int64} {K : Int} {v : Int64} {ret : Option FieldType} {hh : List (Nat × Nat × Nat × Nat)} (w1 : Cond.methodLink own idx y ∈ AW) (w2 : Cond.static y ∈ AW) (w3 : Cond.initialized y.cls ∈ AW) (w4 : Cond.codeWith y c2 mL ret hh ∈ AW) (w5 : y.cls ≠ "java/lang/invoke/MethodHandle" ∧ y.cls ≠ "java/lang/invoke/VarHandle" ∧ (parseMethodDescriptor y.desc).map (fun d => d.parameters.length) = some n) {As : List Value} (ct : ∀ hR', CtH Ω y c2 mL ret hh rm2 As (OnO Ω o f A) hR' (WR Ω o f K v A1 B1)) (hn : As.length = n) (hst : As.reverse ++ st = stk) (hcat : (st.map fun v => v.category).sum ≤ 8) (hm : RmIn rm2 mL rm cs sl) (dg : decode cc pc = .ok (.invokestatic idx, 3))
    (k1 : K = 0 → Y Ω κ (LH (OnO Ω o (vp_updL f 0 v) A1) B) hR (cs + rm2.cells) (sl + rm2.slots) (pc + 3) L (.int (iv K) :: st)) (k2 : K ≠ 0 → Y Ω κ (LH (OnO Ω o f B1) B) hR (cs + rm2.cells) (sl + rm2.slots) (pc + 3) L (.int (iv K) :: st)) : Y Ω κ (LH (OnO Ω o f A) B) hR cs sl pc L stk := by
  refine Y.imp (Φ' := fun h => ∃ hM, B hM ∧ ∃ hC, OnO Ω o f A hC ∧ Dj hC hM ∧ h = cmb hC hM) (fun h ⟨hC, hM, q1, q2, q3, q4⟩ => ⟨hM, q2, hC, q1, q3, q4⟩) ?_
  refine Y.ex fun hM => Y.and fun hB => ?_
  refine y_callSW C hr w1 w2 w3 w4 w5 (CtH.frame (ct _)) hn hst hcat hm dg (fun rv => ?_)
  refine Y.imp (Φ' := fun h => (rv = some (.int (iv K)) ∧ K = 0 ∧ LH (OnO Ω o (vp_updL f 0 v) A1) B h) ∨ (rv = some (.int (iv K)) ∧ K ≠ 0 ∧ LH (OnO Ω o f B1) B h)) (fun h ⟨h1, ⟨e, q⟩, d, eh⟩ => q.imp (fun w => ⟨e, w.1, h1, hM, w.2, hB, d, eh⟩) (fun w => ⟨e, w.1, h1, hM, w.2, hB, d, eh⟩)) ?_
  refine Y.or (Y.and fun e => Y.and fun hK => ?_) (Y.and fun e => Y.and fun hK => ?_)
  · subst e; exact k1 hK
  · subst e; exact k2 hK
theorem y_lawM (C : Cx Ω κ own cc) {rm rm2 : Room} (hr : kR κ = rm) {Cn : String} {y : MethodName} {c2 : ByteArray} {mL n b ci : Nat} {ret : Option FieldType} (cv : CV own idx Cn y c2 mL ret n) {qc : vw_C} (hci : vwCl[ci]? = some qc) (hCn : qc.1 = Cn) {As : List Value} {Ψ' : Option Value → AH → Prop} (ct : ∀ hR', Ct Ω y c2 mL ret rm2 (.ref b :: As) B hR' Ψ' NX) (recv : ∀ h, B h → ∃ fs, h b = some (.inr (ci, fs))) (hn : As.length = n) (hst : As.reverse ++ .ref b :: st = stk) (hcat : (st.map fun v => v.category).sum ≤ 8) (hm : RmIn rm2 mL rm cs sl) (dg : decode cc pc = .ok (.invokevirtual idx, 3))
    (kk : ∀ rv, Y Ω κ (LH A (Ψ' rv)) hR (cs + rm2.cells) (sl + rm2.slots) (pc + 3) L (rv.toList ++ st)) : Y Ω κ (LH A B) hR cs sl pc L stk := by
  refine Y.imp (Φ' := fun h => ∃ hC, A hC ∧ ∃ hM, B hM ∧ Dj hM hC ∧ h = cmb hM hC) (fun h ⟨hC, hM, q1, q2, q3, q4⟩ => ⟨hC, q1, hM, q2, q3.sym, by rw [q4, cmb_cm q3]⟩) ?_
  refine Y.ex fun hC => Y.and fun hA => ?_
  refine y_callVX C hr cv hci hCn (Ct.frame (ct _)) (fun h ⟨hM, q1, q2, q3⟩ => ?_) hn hst hcat hm dg (fun rv => ?_) (fun E0 h H locs ls q ce a => ?_)
  · obtain ⟨fs, w⟩ := recv hM q1
    exact ⟨fs, by rw [q3]; exact cmb_1 w⟩
  · refine Y.imp (fun h ⟨hM, q1, q2, q3⟩ => ?_) (kk rv)
    exact ⟨hC, hM, hA, q1, q2.sym, by rw [q3, cmb_cm q2]⟩
  · obtain ⟨h1, w, -⟩ := a
    exact w.elim
theorem y_lawR (C : Cx Ω κ own cc) {o : Nat} {f : Nat → Int64} (dg : decode cc pc = .ok (.laload, 1)) (kk : Y Ω κ (LH (OnO Ω o f A) B) hR cs sl (pc + 1) L (.long (f 0) :: st)) : Y Ω κ (LH (OnO Ω o f A) B) hR cs sl pc L (.int (iv 0) :: .ref o :: st) :=
  y_lald C dg (by decide) (by decide) (fun h ⟨hC, hM, ⟨h1, q1, q2, q3⟩, q4, q5, q6⟩ => ⟨1, f, by rw [q6]; exact cmb_1 (by rw [q3, hset_s]; rfl), by decide, rfl⟩) kk
end YSIDE
/-- field 0 after an hour, after a plan -/
theorem lays_0 {σ : ZT} {nc nl ns : Nat} : laysZ σ nc nl ns 0 = σ 0 := laysZ_f (Or.inl (by omega))
theorem hour_0 {p : ZT × JT} {ns nc nl : Nat} : (hourP ns nc nl p).1 0 = p.1 0 := by
  obtain ⟨l, hl⟩ : ∃ l, l = laysZ p.1 nc nl ns := ⟨_, rfl⟩
  obtain ⟨x, hx⟩ : ∃ x, x = netZ l nc := ⟨_, rfl⟩
  obtain ⟨a, ha⟩ : ∃ a, a = setN (flowsP x ns (l, p.2)) nc := ⟨_, rfl⟩
  obtain ⟨t, ht⟩ : ∃ t, t = tickP (leakN (flgZ x a.1, a.2) ns) := ⟨_, rfl⟩
  rw [hourP_e hl hx ha ht]
  have e1 : t.1 0 = p.1 0 := by
    rw [ht]
    show zu (leakN (flgZ x a.1, a.2) ns).1 1 0 ((leakN (flgZ x a.1, a.2) ns).1 1 0 + 1) 0 = _
    rw [zu_n (by omega), leakN_f (by omega)]
    show flgZ x a.1 0 = _
    rw [flg_f (by decide), ha, setN_f (by omega) (by omega), flowsP_f (by omega) (by omega), hl]
    exact lays_0
  split
  · rw [dayN_f (by omega) (by omega) (by omega), e1]
  · exact e1
theorem hours_0 {p : ZT × JT} {ns nc nl n : Nat} : (hours ns nc nl p n).1 0 = p.1 0 := by
  induction n with
  | zero => rfl
  | succ n ih => exact hour_0.trans ih
theorem li_i : LI ξi σi τi 0 0 0 := by
  refine ⟨⟨rfl, by omega, rfl, by omega, ⟨rfl, by omega, fun i hi => absurd hi (by omega)⟩, ⟨fun i hi => absurd hi (by omega), by show (0 : Int) ≤ 0 ∧ (0 : Int) ≤ 10000; omega⟩, fun k hk => absurd hk (by omega), fun c hc => absurd hc (by omega), by show -1 ≤ (0 : Int) ∧ (0 : Int) ≤ 1; omega, by show -1 ≤ (0 : Int) ∧ (0 : Int) ≤ 1; omega, by show 0 ≤ (10000 : Int) ∧ (10000 : Int) ≤ 20000; omega⟩, fun i hi => by show -1000 ≤ (0 : Int) ∧ (0 : Int) ≤ 1000; omega, ⟨fun k hk => ⟨rfl, rfl, rfl, rfl⟩, fun c hc => ⟨rfl, rfl, rfl, rfl, rfl, rfl, rfl, rfl, fun j hj => rfl⟩⟩, ?_, fun j => rfl⟩
  show (-1000 : Int) < 0 ∧ (-1000 : Int) < 0 ∧ (-1000 : Int) ≤ -1000 ∧ (-1000 : Int) ≤ -1000 ∧ ((0 : Int) = 1 ↔ (-1000 : Int) = 0 - 1) ∧ ((0 : Int) = -1 ↔ (-1000 : Int) = 0 - 1) ∧ ((0 : Int) ≠ 1 → ((0 : Int) = 1 ↔ (-1000 : Int) = 0 - 2)) ∧ ((0 : Int) ≠ -1 → ((0 : Int) = -1 ↔ (-1000 : Int) = 0 - 2))
  omega
