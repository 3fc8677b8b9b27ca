/-! rows of the law's own walk -/
theorem CtH.frame {Ω : OmT} {y : MethodName} {cc : ByteArray} {maxL : Nat} {ret : Option FieldType} {hh : List (Nat × Nat × Nat × Nat)} {rm : Room} {av : List Value} {Φ : AH → Prop} {hR h2 : AH} {Ψ : Option Value → AH → Prop} (c : CtH Ω y cc maxL ret hh rm av Φ (cmb h2 hR) Ψ) :
    CtH Ω y cc maxL ret hh rm av (fun h => ∃ h1, Φ h1 ∧ Dj h1 h2 ∧ h = cmb h1 h2) hR (fun rv h => ∃ h1, Ψ rv h1 ∧ Dj h1 h2 ∧ h = cmb h1 h2) := by
  intro p e ha hc hk s m args below hf happ hP ht
  obtain ⟨hv, hW, h, ⟨h1, q1, q2, rfl⟩, hRel⟩ := hP
  have ri := rel_in hRel q2
  obtain ⟨n, o, w1, w2, w3, w4⟩ := c p e ha hc hk s m args below hf happ ⟨hv, hW, h1, q1, ri.1⟩ ht
  refine ⟨n, o, w1, w2, w3, ?_⟩
  rcases w4 with ⟨⟨⟨rv, h', o1, o2, o3⟩, o4⟩, o5⟩ | ⟨q, eo, E, ce, L, ⟨⟨h', x1, x2⟩, x3⟩, x4⟩
  · have ro := rel_out o3 ri.2
    exact Or.inl ⟨⟨⟨rv, _, o1, ⟨h', o2, ro.2, rfl⟩, ro.1⟩, o4⟩, o5⟩
  · exact x1.elim
section YLAW
variable {Ω : OmT} {κ : KxT} {Φ : AH → Prop} {hR : AH} {cs sl pc : Nat} {L : List (Nat × Value)} {st stk : List Value} {own : String} {cc : ByteArray} {idx : Nat} {b N : Nat} {xs : Nat → Int32}
theorem y_sld (C : Cx Ω κ own cc) (hX : va_X b N xs (ks κ) (ks κ).heap) (hbl : b < (ks κ).heap.size) (hbA : ¬ OmA Ω b) {z : Int} {k : Nat} (hz : z = k) (hk : k < N) (hN : N ≤ 100000) (dg : decode cc pc = .ok (.iaload, 1)) (kk : Y Ω κ Φ hR cs sl (pc + 1) L (.int (iv (xs k).toInt) :: st)) : Y Ω κ Φ hR cs sl pc L (.int (iv z) :: .ref b :: st) := by
  intro h H locs ls a1 b1 c1 d1
  subst hz
  refine va_sld C.1 C.2.1 hX hbl hbA c1 (iv_in (by omega) (by omega) (by omega)) dg ?_
  rw [iv_cl (by omega) (by omega), show ((k : Nat) : Int).toNat = k from rfl, ← iv_i (xs k)]
  exact kk h H locs ls a1 b1 c1 d1
theorem y_slen (C : Cx Ω κ own cc) (hX : va_X b N xs (ks κ) (ks κ).heap) (hbl : b < (ks κ).heap.size) (hbA : ¬ OmA Ω b) (dg : decode cc pc = .ok (.arraylength, 1)) (kk : Y Ω κ Φ hR cs sl (pc + 1) L (.int (iv N) :: st)) : Y Ω κ Φ hR cs sl pc L (.ref b :: st) := by
  intro h H locs ls a1 b1 c1 d1
  refine va_slen C.1 C.2.1 hX hbl hbA c1 dg ?_
  have q := kk h H locs ls a1 b1 c1 d1
  rw [iv_nI] at q
  exact q
theorem y_callSW (C : Cx Ω κ own cc) {rm rm2 : Room} (hr : kR κ = rm) {y : MethodName} {c2 : ByteArray} {mL n : Nat} {ret : Option FieldType} {hh : List (Nat × Nat × Nat × Nat)} (w1 : Cond.methodLink own idx y ∈ AW) (w2 : Cond.static y ∈ AW) (w3 : Cond.initialized y.cls ∈ AW) (w4 : Cond.codeWith y c2 mL ret hh ∈ AW) (w5 : y.cls ≠ "java/lang/invoke/MethodHandle" ∧ y.cls ≠ "java/lang/invoke/VarHandle" ∧ (parseMethodDescriptor y.desc).map (fun d => d.parameters.length) = some n) {As : List Value} {Ψ' : Option Value → AH → Prop} (ct : CtH Ω y c2 mL ret hh rm2 As Φ hR Ψ') (hn : As.length = n) (hst : As.reverse ++ st = stk) (hcat : (st.map fun v => v.category).sum ≤ 8) (hm : RmIn rm2 mL rm cs sl) (dg : decode cc pc = .ok (.invokestatic idx, 3))
    (kk : ∀ rv, Y Ω κ (Ψ' rv) hR (cs + rm2.cells) (sl + rm2.slots) (pc + 3) L (rv.toList ++ st)) : Y Ω κ Φ hR cs sl pc L stk := by
  refine y_runX (av := As) (Ξ' := NX) (fun h H locs ls a1 b1 c1 d1 => ?_) kk (fun E => y_nx)
  have hts := C.2.2.2.2.1
  exact vx_runSX (As := As) (rest := st) ⟨C.1, C.2.1, C.2.2.1, C.2.2.2.1, hts⟩ ct (vx_cwSW n hts (aw_ga (fun w hw => by
    simp only [List.mem_cons, List.not_mem_nil, or_false] at hw
    rcases hw with rfl | rfl | rfl
    · exact w1
    · exact w2
    · exact w3) (aw_gc w4)) rfl rfl rfl w5 (by rw [hr]; exact ⟨hm.1, hm.2.1⟩)) ⟨Ct.blind, y_pre C a1 b1 c1⟩ rfl hn d1.1 hst.symm (lv_room hcat) dg (by rw [hr]; exact ⟨hm.2.2.1, hm.2.2.2⟩)
theorem y_iand (C : Cx Ω κ own cc) {x y : Int32} (dg : decode cc pc = .ok (.iand, 1)) (k : Y Ω κ Φ hR cs sl (pc + 1) L (.int (x &&& y) :: st)) : Y Ω κ Φ hR cs sl pc L (.int y :: .int x :: st) := fun h H locs ls a b c d => lv_iand C.1 C.2.1 dg (k h H locs ls a b c d)
theorem y_lcmpE (C : Cx Ω κ own cc) {x : Int64} (dg : decode cc pc = .ok (.lcmp, 1)) (k : Y Ω κ Φ hR cs sl (pc + 1) L (.int (iv 0) :: st)) : Y Ω κ Φ hR cs sl pc L (.long x :: .long x :: st) := fun h H locs ls a b c d => W.lcmp C.1 C.2.1 dg (by
  have e : lg_cmp x x = iv 0 := by
    unfold lg_cmp
    rw [if_neg Int64.lt_irrefl, if_pos rfl]
    decide
  rw [e]; exact k h H locs ls a b c d)
end YLAW
