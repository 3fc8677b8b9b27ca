/-! THE CLASS'S OWN EXCEPTIONS -/
abbrev nmE : List String := ["java/lang/RuntimeException", "java/lang/Exception"]
def TH (own : String) (ik ic : Nat) (cls : String) : Prop := Cond.classLink own ik cls ∈ AW ∧ Cond.initialized cls ∈ AW ∧ (vx_atS own ic cls nmE).all (fun w => decide (w ∈ AW) || decide (w ∈ NW)) = true ∧ (vx_atS own ic cls nmE).all vx_ot = true ∧ vx_ot (Cond.classLink own ik cls) = true ∧ vx_ot (Cond.initialized cls) = true ∧ Bundle.fit cls = true
theorem nmE_fit : ∀ n ∈ nmE, Bundle.fit n = true := by decide +kernel
section YTHROW
variable {Ω : OmT} {κ : KxT} {Φ : AH → Prop} {hR : AH} {cs sl pc : Nat} {L : List (Nat × Value)} {st : List Value} {own : String} {cc : ByteArray} {ret : Option FieldType} {rm : Room} {Ψ : Option Value → AH → Prop} {Ξ : String → AH → Prop}
set_option maxHeartbeats 4000000 in
theorem y_throw (C : Cx Ω κ own cc) (E : Ce Ω κ ret rm hR Ψ Ξ) {cls text : String} {ik is ic : Nat} (th : TH own ik ic cls) (sw : (own, is, text) ∈ SW)
    (d0 : decode cc pc = .ok (.new ik, 3)) (d3 : decode cc (pc + 3) = .ok (.dup, 1)) (d4 : decode cc (pc + 4) = .ok (.ldc is, 2)) (d6 : decode cc (pc + 6) = .ok (.invokespecial ic, 3)) (d9 : decode cc (pc + 9) = .ok (.athrow, 1))
    (hf : 5 < rm.frames) (hl : (st.map fun v => v.category).sum + 82 ≤ rm.locals) (hc : cs + 1 ≤ rm.cells) (hs : sl + 6 ≤ rm.slots) (hΞ : ∀ h, Φ h → Ξ cls h) : Y Ω κ Φ hR cs sl pc L st := by
  intro h H locs ls a1 b1 c1 d1
  obtain ⟨t1, t2, t3, t4, t5, t6, t7⟩ := th
  have hts := C.2.2.2.2.1
  have hW := C.2.2.2.2.2.1
  rw [E.2.2.2]
  refine vx_throwS (A := OmA Ω) (own := own) (cls := cls) (text := text) (names := nmE) (ik := ik) (is := is) (ic := ic) (sa := OmS Ω own is) C.1 C.2.1 hW.2.2.1 C.2.2.2.1 t7 nmE_fit (hts _ t1) (hts _ t2) (hW.2.2.2.2.1 _ sw) (fun w hw => ?_) (fun w hw => ?_) hW.2.2.2.2.2.2.2.1 hW.2.2.2.2.2.2.2.2.1 c1 (by rw [C.2.2.1]; exact d1.1) d0 d3 d4 d6 d9 (fun x hx => (E.2.2.1 x hx).elim) (by rw [E.2.1]; exact hf) (by rw [E.2.1]; exact hl) (by rw [E.2.1]; exact hc) (by rw [E.2.1]; exact hs) C.2.2.2.2.2.2 (fun t hvm hsz hk => ⟨⟨h, hΞ h a1, ?_⟩, ?_⟩) c1.2.2 hc hs
  · have g := List.all_eq_true.mp t3 w hw
    rw [Bool.or_eq_true, decide_eq_true_eq, decide_eq_true_eq] at g
    rcases g with g | g
    · exact hts w g
    · exact va_Nw.use (nw_on g) (hW.2.2.2.1 w g)
  · rcases List.mem_cons.mp hw with rfl | hw
    · exact t5
    rcases List.mem_cons.mp hw with rfl | hw
    · exact t6
    · exact List.all_eq_true.mp t4 w hw
  · exact ⟨b1.1.kept (fun a e ha => hk a (b1.1.lt ha)), b1.2.1.kept (fun a e ha => hk a (b1.2.1.lt ha)), b1.2.2⟩
  · exact ⟨Nat.le_trans c1.1 hsz, fun q q1 q2 => (hk q (Nat.lt_of_lt_of_le q1 c1.1)).trans (c1.2.1 q q1 q2)⟩
set_option maxHeartbeats 4000000 in
theorem y_throwW (C : Cx Ω κ own cc) (E : Ce Ω κ ret rm hR Ψ Ξ) {cls text : String} {ik is ic : Nat} (th : TH own ik ic cls) (sw : (own, is, text) ∈ SW)
    (d0 : decode cc pc = .ok (.new ik, 3)) (d3 : decode cc (pc + 3) = .ok (.dup, 1)) (d4 : decode cc (pc + 4) = .ok (.ldc_w is, 3)) (d6 : decode cc (pc + 7) = .ok (.invokespecial ic, 3)) (d9 : decode cc (pc + 10) = .ok (.athrow, 1))
    (hf : 5 < rm.frames) (hl : (st.map fun v => v.category).sum + 82 ≤ rm.locals) (hc : cs + 1 ≤ rm.cells) (hs : sl + 6 ≤ rm.slots) (hΞ : ∀ h, Φ h → Ξ cls h) : Y Ω κ Φ hR cs sl pc L st := by
  intro h H locs ls a1 b1 c1 d1
  obtain ⟨t1, t2, t3, t4, t5, t6, t7⟩ := th
  have hts := C.2.2.2.2.1
  have hW := C.2.2.2.2.2.1
  rw [E.2.2.2]
  refine vx_throwSW (A := OmA Ω) (own := own) (cls := cls) (text := text) (names := nmE) (ik := ik) (is := is) (ic := ic) (sa := OmS Ω own is) C.1 C.2.1 hW.2.2.1 C.2.2.2.1 t7 nmE_fit (hts _ t1) (hts _ t2) (hW.2.2.2.2.1 _ sw) (fun w hw => ?_) (fun w hw => ?_) hW.2.2.2.2.2.2.2.1 hW.2.2.2.2.2.2.2.2.1 c1 (by rw [C.2.2.1]; exact d1.1) d0 d3 d4 d6 d9 (fun x hx => (E.2.2.1 x hx).elim) (by rw [E.2.1]; exact hf) (by rw [E.2.1]; exact hl) (by rw [E.2.1]; exact hc) (by rw [E.2.1]; exact hs) C.2.2.2.2.2.2 (fun t hvm hsz hk => ⟨⟨h, hΞ h a1, ?_⟩, ?_⟩) c1.2.2 hc hs
  · have g := List.all_eq_true.mp t3 w hw
    rw [Bool.or_eq_true, decide_eq_true_eq, decide_eq_true_eq] at g
    rcases g with g | g
    · exact hts w g
    · exact va_Nw.use (nw_on g) (hW.2.2.2.1 w g)
  · rcases List.mem_cons.mp hw with rfl | hw
    · exact t5
    rcases List.mem_cons.mp hw with rfl | hw
    · exact t6
    · exact List.all_eq_true.mp t4 w hw
  · exact ⟨b1.1.kept (fun a e ha => hk a (b1.1.lt ha)), b1.2.1.kept (fun a e ha => hk a (b1.2.1.lt ha)), b1.2.2⟩
  · exact ⟨Nat.le_trans c1.1 hsz, fun q q1 q2 => (hk q (Nat.lt_of_lt_of_le q1 c1.1)).trans (c1.2.1 q q1 q2)⟩
end YTHROW
theorem th_IA : TH RX4 67 71 sIA := ⟨aw_1_143, aw_1_12, by decide +kernel, by decide +kernel, rfl, rfl, by decide +kernel⟩
theorem th_IS : TH RX4 78 82 sIS := ⟨aw_2_1, aw_1_14, by decide +kernel, by decide +kernel, rfl, rfl, by decide +kernel⟩
theorem th_IB : TH RX4 251 255 sIB := ⟨aw_2_130, aw_1_18, by decide +kernel, by decide +kernel, rfl, rfl, by decide +kernel⟩

