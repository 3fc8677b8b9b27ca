/-! the class's heap beside the law's own rows (ints, longs) -/
def FX (X : AH) (A : AH → Prop) : AH → Prop := fun h => ∃ h1, A h1 ∧ Dj h1 X ∧ h = cmb h1 X
theorem FX.imp {X : AH} {A A' : AH → Prop} {h : AH} (i : ∀ h, A h → A' h) (q : FX X A h) : FX X A' h := by
  obtain ⟨h1, a, b⟩ := q
  exact ⟨h1, i _ a, b⟩
theorem fx_no {h1 X : AH} {a : Nat} {e : va_E} (d : Dj h1 X) (hX : X a = some e) : h1 a = none := d.sym a (by rw [hX]; exact fun z => by cases z)
theorem fx_at {X : AH} {A : AH → Prop} {h : AH} {a : Nat} {e : va_E} (q : FX X A h) (hX : X a = some e) : h a = some e := by
  obtain ⟨h1, _, d, rfl⟩ := q
  rw [cmb_2 (fx_no d hX)]; exact hX
theorem fx_cmb {h1 X : AH} {a : Nat} {e : va_E} (n : h1 a = none) (d : Dj h1 X) : Dj h1 (hset X a e) ∧ hset (cmb h1 X) a e = cmb h1 (hset X a e) := by
  refine ⟨fun b hb => ?_, ?_⟩
  · by_cases q : b = a
    · subst q; exact absurd n hb
    · rw [hset_n q]; exact d b hb
  · funext b
    by_cases q : b = a
    · subst q; rw [hset_s, cmb_2 n, hset_s]
    · rw [hset_n q]
      cases r : h1 b with
      | none => rw [cmb_2 r, cmb_2 r, hset_n q]
      | some x => rw [cmb_1 r, cmb_1 r]
theorem fx_set {X : AH} {A : AH → Prop} {h : AH} {a : Nat} {e0 e : va_E} (q : FX X A h) (hX : X a = some e0) : FX (hset X a e) A (hset h a e) := by
  obtain ⟨h1, q1, d, rfl⟩ := q
  have w := fx_cmb (e := e) (fx_no d hX) d
  exact ⟨h1, q1, w.1, w.2⟩
theorem fx_new {X : AH} {A : AH → Prop} {h : AH} {a : Nat} {e : va_E} (q : FX X A h) (hn : h a = none) : X a = none ∧ FX (hset X a e) A (hset h a e) := by
  obtain ⟨h1, q1, d, rfl⟩ := q
  have n1 : h1 a = none := by
    cases r : h1 a with
    | none => rfl
    | some x => rw [cmb_1 r] at hn; cases hn
  have w := fx_cmb (e := e) n1 d
  exact ⟨by rw [cmb_2 n1] at hn; exact hn, h1, q1, w.1, w.2⟩
section YFX
variable {Ω : OmT} {κ : KxT} {hR X : AH} {A A1 B : AH → Prop} {cs sl pc a : Nat} {L : List (Nat × Value)} {st stk As : List Value} {own : String} {cc c2 : ByteArray} {idx mL n b : Nat} {v v0 : Value} {y : MethodName} {ret : Option FieldType} {rm rm2 : Room}
theorem y_lneg (C : Cx Ω κ own cc) {Φ : AH → Prop} {x : Int} (dg : decode cc pc = .ok (.lneg, 1)) (k : Y Ω κ Φ hR cs sl (pc + 1) L (.long (jv (-x)) :: st)) : Y Ω κ Φ hR cs sl pc L (.long (jv x) :: st) :=
  fun h H locs ls a b c d => lv_lneg C.1 C.2.1 dg (by rw [show -jv x = jv (-x) from (Int64.ofInt_neg x).symm]; exact k h H locs ls a b c d)
theorem y_xald (C : Cx Ω κ own cc) {z v : Int} (k : Nat) {n : Nat} {f : Nat → Int32} (hX : X a = some (.inl (OmI Ω, n, .inl f))) (hz : z = k) (hk : k < n) (hb : n ≤ 100000) (hv : f k = iv v) (dg : decode cc pc = .ok (.iaload, 1)) (kk : Y Ω κ (FX X A) hR cs sl (pc + 1) L (.int (iv v) :: st)) : Y Ω κ (FX X A) hR cs sl pc L (.int (iv z) :: .ref a :: st) := by
  subst hz
  exact y_iald C dg (by omega) (by omega) (fun h hh => ⟨n, f, fx_at hh hX, hk, hv⟩) kk
theorem y_xlald (C : Cx Ω κ own cc) {z v : Int} (k : Nat) {n : Nat} {f : Nat → Int64} (hX : X a = some (.inl (OmJ Ω, n, .inr (.inl f)))) (hz : z = k) (hk : k < n) (hb : n ≤ 50000) (hv : f k = jv v) (dg : decode cc pc = .ok (.laload, 1)) (kk : Y Ω κ (FX X A) hR cs sl (pc + 1) L (.long (jv v) :: st)) : Y Ω κ (FX X A) hR cs sl pc L (.int (iv z) :: .ref a :: st) := by
  subst hz
  exact y_lald C dg (by omega) (by omega) (fun h hh => ⟨n, f, fx_at hh hX, hk, hv⟩) kk
theorem y_xast (C : Cx Ω κ own cc) {z : Int} {x : Int32} (k : Nat) {n : Nat} {f : Nat → Int32} (hX : X a = some (.inl (OmI Ω, n, .inl f))) (hz : z = k) (hk : k < n) (hb : n ≤ 100000) (dg : decode cc pc = .ok (.iastore, 1)) (kk : Y Ω κ (FX (hset X a (.inl (OmI Ω, n, .inl (upd f k x)))) A) hR cs sl (pc + 1) L st) : Y Ω κ (FX X A) hR cs sl pc L (.int x :: .int (iv z) :: .ref a :: st) := by
  subst hz
  exact y_iast C dg (by omega) (by omega) (fun h hh => ⟨n, f, fx_at hh hX, hk, fx_set hh hX⟩) kk
theorem y_xlast (C : Cx Ω κ own cc) {z : Int} {x : Int64} (k : Nat) {n : Nat} {f : Nat → Int64} (hX : X a = some (.inl (OmJ Ω, n, .inr (.inl f)))) (hz : z = k) (hk : k < n) (hb : n ≤ 50000) (dg : decode cc pc = .ok (.lastore, 1)) (kk : Y Ω κ (FX (hset X a (.inl (OmJ Ω, n, .inr (.inl (vp_updL f k x))))) A) hR cs sl (pc + 1) L st) : Y Ω κ (FX X A) hR cs sl pc L (.long x :: .int (iv z) :: .ref a :: st) := by
  subst hz
  exact y_last C dg (by omega) (by omega) (fun h hh => ⟨n, f, fx_at hh hX, hk, fx_set hh hX⟩) kk
theorem y_xnewI (C : Cx Ω κ own cc) {z : Int} {n cs' sl' : Nat} (w : Cond.arrayClass .int ∈ AW) (dg : decode cc pc = .ok (.newarray .int, 2)) (hz : z = n) (hb : n ≤ 100000) (hc : cs + 1 ≤ (kR κ).cells) (hs : sl + n ≤ (kR κ).slots) (h1 : cs + 1 ≤ cs') (h2 : sl + n ≤ sl')
    (kk : ∀ a : Nat, X a = none → Y Ω κ (FX (hset X a (.inl (OmI Ω, n, .inl (fun _ => 0)))) A) hR cs' sl' (pc + 2) L (.ref a :: st)) : Y Ω κ (FX X A) hR cs sl pc L (.int (iv z) :: st) := by
  refine y_newI C w dg hz hb hc hs (fun a => Y.wide h1 h2 ?_)
  exact Y.imp (Φ' := fun h => X a = none ∧ FX (hset X a (.inl (OmI Ω, n, .inl (fun _ => 0)))) A h) (fun h ⟨h0, q1, q2, q3, q4⟩ => by rw [q4]; exact fx_new q1 q2) (Y.and (kk a))
theorem y_xnewJ (C : Cx Ω κ own cc) {z : Int} {n cs' sl' : Nat} (w : Cond.arrayClass .long ∈ AW) (dg : decode cc pc = .ok (.newarray .long, 2)) (hz : z = n) (hb : n ≤ 50000) (hc : cs + 1 ≤ (kR κ).cells) (hs : sl + n ≤ (kR κ).slots) (h1 : cs + 1 ≤ cs') (h2 : sl + n ≤ sl')
    (kk : ∀ a : Nat, X a = none → Y Ω κ (FX (hset X a (.inl (OmJ Ω, n, .inr (.inl (fun _ => 0))))) A) hR cs' sl' (pc + 2) L (.ref a :: st)) : Y Ω κ (FX X A) hR cs sl pc L (.int (iv z) :: st) := by
  refine y_newJ C w dg hz hb hc hs (fun a => Y.wide h1 h2 ?_)
  exact Y.imp (Φ' := fun h => X a = none ∧ FX (hset X a (.inl (OmJ Ω, n, .inr (.inl (fun _ => 0))))) A h) (fun h ⟨h0, q1, q2, q3, q4⟩ => by rw [q4]; exact fx_new q1 q2) (Y.and (kk a))
/-- a call of the class that throws nothing -/
theorem y_cg {cs' sl' : Nat} {K : Int} {es : List (String × Int)} (C : Cx Ω κ own cc) (hr : kR κ = rm) (cv : CV own idx RX4 y c2 mL ret n) (ct : ∀ hR', Ct Ω y c2 mL ret rm2 (.ref b :: As) A hR' (FK K v0 A1) (XT K es B)) (hK : K = 0) (he : ∀ q ∈ es, q.2 ≠ 0) (self : ∀ h, A h → ∃ fs, h b = some (.inr (5, fs))) (hv : v0 = v) (hn : As.length = n) (hst : As.reverse ++ .ref b :: st = stk) (hcat : (st.map fun v => v.category).sum ≤ 8) (hm : RmIn rm2 mL rm cs sl) (h1 : cs + rm2.cells ≤ cs') (h2 : sl + rm2.slots ≤ sl') (dg : decode cc pc = .ok (.invokevirtual idx, 3))
    (kk : Y Ω κ (FX X A1) hR cs' sl' (pc + 3) L (v :: st)) : Y Ω κ (FX X A) hR cs sl pc L stk := by
  subst hv
  refine y_callVX C hr cv (ci := 5) rfl rfl (Ct.frame (h2 := X) (ct _)) (fun h ⟨h9, q1, q2, q3⟩ => ?_) hn hst hcat hm dg (fun rv => ?_) (fun E0 h H locs ls q ce a => ?_)
  · obtain ⟨fs, w⟩ := self h9 q1
    exact ⟨fs, by rw [q3]; exact cmb_1 w⟩
  · refine Y.imp (Φ' := fun h => rv = some v0 ∧ FX X A1 h) (fun h ⟨h9, q1, q2, q3⟩ => ⟨q1.2.1, h9, q1.2.2, q2, q3⟩) (Y.and fun e => ?_)
    subst e
    exact Y.wide h1 h2 kk
  · obtain ⟨h9, ⟨k, m, e, _⟩, _⟩ := a
    exact absurd (e.symm.trans hK) (he _ m)
/-- a call of the law's own method that catches -/
theorem y_cw {cs' sl' : Nat} {hh : List (Nat × Nat × Nat × Nat)} {Ψ : Option Value → AH → Prop} (C : Cx Ω κ own cc) (hr : kR κ = rm) (w1 : Cond.methodLink own idx y ∈ AW) (w2 : Cond.static y ∈ AW) (w3 : Cond.initialized y.cls ∈ AW) (w4 : Cond.codeWith y c2 mL ret hh ∈ AW) (w5 : y.cls ≠ "java/lang/invoke/MethodHandle" ∧ y.cls ≠ "java/lang/invoke/VarHandle" ∧ (parseMethodDescriptor y.desc).map (fun d => d.parameters.length) = some n) (ct : ∀ hR', CtH Ω y c2 mL ret hh rm2 As A hR' Ψ) (hn : As.length = n) (hst : As.reverse ++ st = stk) (hcat : (st.map fun v => v.category).sum ≤ 8) (hm : RmIn rm2 mL rm cs sl) (h1 : cs + rm2.cells ≤ cs') (h2 : sl + rm2.slots ≤ sl') (dg : decode cc pc = .ok (.invokestatic idx, 3))
    (kk : ∀ rv, Y Ω κ (FX X (Ψ rv)) hR cs' sl' (pc + 3) L (rv.toList ++ st)) : Y Ω κ (FX X A) hR cs sl pc L stk :=
  y_callSW C hr w1 w2 w3 w4 w5 (CtH.frame (h2 := X) (ct _)) hn hst hcat hm dg (fun rv => Y.wide h1 h2 (kk rv))
end YFX
theorem Y.fex {α : Sort _} {Ω : OmT} {κ : KxT} {X : AH} {A : α → AH → Prop} {hR : AH} {cs sl pc : Nat} {L : List (Nat × Value)} {st : List Value} (k : ∀ x, Y Ω κ (FX X (A x)) hR cs sl pc L st) : Y Ω κ (FX X (fun h => ∃ x, A x h)) hR cs sl pc L st := fun h H locs ls ⟨h1, ⟨x, q⟩, r⟩ => k x h H locs ls ⟨h1, q, r⟩
theorem Y.fand {P : Prop} {Ω : OmT} {κ : KxT} {X : AH} {A : AH → Prop} {hR : AH} {cs sl pc : Nat} {L : List (Nat × Value)} {st : List Value} (k : P → Y Ω κ (FX X A) hR cs sl pc L st) : Y Ω κ (FX X (fun h => P ∧ A h)) hR cs sl pc L st := fun h H locs ls ⟨h1, ⟨x, q⟩, r⟩ => k x h H locs ls ⟨h1, q, r⟩
theorem Y.for {Ω : OmT} {κ : KxT} {X : AH} {A A' : AH → Prop} {hR : AH} {cs sl pc : Nat} {L : List (Nat × Value)} {st : List Value} (k : Y Ω κ (FX X A) hR cs sl pc L st) (k' : Y Ω κ (FX X A') hR cs sl pc L st) : Y Ω κ (FX X (fun h => A h ∨ A' h)) hR cs sl pc L st := fun h H locs ls ⟨h1, q, r⟩ => q.elim (fun q => k h H locs ls ⟨h1, q, r⟩) (fun q => k' h H locs ls ⟨h1, q, r⟩)
