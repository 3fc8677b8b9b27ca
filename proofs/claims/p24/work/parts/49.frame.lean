/-! a contract beside more of the heap -/
def Dj (h1 h2 : AH) : Prop := ∀ a : Nat, h1 a ≠ none → h2 a = none
theorem Dj.sym {h1 h2 : AH} (d : Dj h1 h2) : Dj h2 h1 := fun a ha => by
  cases q : h1 a with
  | none => rfl
  | some e => exact absurd (d a (by rw [q]; exact fun z => by cases z)) ha
theorem cmb_1 {h1 h2 : AH} {a : Nat} {e : va_E} (h : h1 a = some e) : cmb h1 h2 a = some e := by unfold cmb; rw [h]
theorem cmb_2 {h1 h2 : AH} {a : Nat} (h : h1 a = none) : cmb h1 h2 a = h2 a := by unfold cmb; rw [h]
theorem cmb_cm {h1 h2 : AH} (d : Dj h1 h2) : cmb h1 h2 = cmb h2 h1 := by
  funext a
  cases q : h1 a with
  | none =>
    rw [cmb_2 q]
    cases r : h2 a with
    | none => rw [cmb_2 r, q]
    | some e => rw [cmb_1 r]
  | some e => rw [cmb_1 q, cmb_2 (d a (by rw [q]; exact fun z => by cases z)), q]
theorem rel_in {Ω : OmT} {h1 h2 hR : AH} {H : Heap} (r : Rel Ω (cmb h1 h2) hR H) (d : Dj h1 h2) : Rel Ω h1 (cmb h2 hR) H ∧ Dj h2 hR := by
  have d2 : Dj h2 hR := fun a ha => r.2.2 a (by
    cases q : h1 a with
    | none => rw [cmb_2 q]; exact ha
    | some e => rw [cmb_1 q]; exact fun z => by cases z)
  refine ⟨⟨fun a e ha => r.1 a e (cmb_1 ha), fun a e ha => ?_, fun a ha => ?_⟩, d2⟩
  · cases q : h2 a with
    | none => rw [cmb_2 q] at ha; exact r.2.1 a e ha
    | some x =>
      rw [cmb_1 q] at ha; cases ha
      exact r.1 a _ (by rw [cmb_cm d]; exact cmb_1 q)
  · have w := d a ha
    rw [cmb_2 w]
    exact r.2.2 a (by
      cases q : h1 a with
      | none => exact absurd q ha
      | some e => rw [cmb_1 q]; exact fun z => by cases z)
theorem rel_out {Ω : OmT} {h1 h2 hR : AH} {H : Heap} (r : Rel Ω h1 (cmb h2 hR) H) (d2 : Dj h2 hR) : Rel Ω (cmb h1 h2) hR H ∧ Dj h1 h2 := by
  have d : Dj h1 h2 := fun a ha => by
    have w := r.2.2 a ha
    cases q : h2 a with
    | none => rfl
    | some e => rw [cmb_1 q] at w; cases w
  refine ⟨⟨fun a e ha => ?_, fun a e ha => r.2.1 a e (by rw [cmb_cm d2]; exact cmb_1 ha), fun a ha => ?_⟩, d⟩
  · cases q : h1 a with
    | none => rw [cmb_2 q] at ha; exact r.2.1 a e (cmb_1 ha)
    | some x => rw [cmb_1 q] at ha; cases ha; exact r.1 a _ q
  · cases q : h1 a with
    | none => rw [cmb_2 q] at ha; exact d2 a ha
    | some x =>
      have w := r.2.2 a (by rw [q]; exact fun z => by cases z)
      have z := d a (by rw [q]; exact fun z => by cases z)
      rw [cmb_2 z] at w; exact w
theorem Ct.frame {Ω : OmT} {y : MethodName} {cc : ByteArray} {maxL : Nat} {ret : Option FieldType} {rm : Room} {av : List Value} {Φ : AH → Prop} {hR h2 : AH} {Ψ : Option Value → AH → Prop} {Ξ : String → AH → Prop} (c : Ct Ω y cc maxL ret rm av Φ (cmb h2 hR) Ψ Ξ) :
    Ct Ω y cc maxL ret rm av (fun h => ∃ h1, Φ h1 ∧ Dj h1 h2 ∧ h = cmb h1 h2) hR (fun rv h => ∃ h1, Ψ rv h1 ∧ Dj h1 h2 ∧ h = cmb h1 h2) (fun E h => ∃ h1, Ξ E h1 ∧ Dj h1 h2 ∧ h = cmb h1 h2) := by
  intro p e ha hc hk s m args below hf happ hP ht
  obtain ⟨hv, hW, h, ⟨h1, q1, q2, rfl⟩, hRel⟩ := hP
  have ri := rel_in hRel q2
  obtain ⟨n, o, w1, w2, w3, w4⟩ := c p e ha hc hk s m args below hf happ ⟨hv, hW, h1, q1, ri.1⟩ ht
  refine ⟨n, o, w1, w2, w3, ?_⟩
  rcases w4 with ⟨⟨⟨rv, h', o1, o2, o3⟩, o4⟩, o5⟩ | ⟨q, eo, E, ce, L, ⟨⟨h', x1, x2⟩, x3⟩, x4⟩
  · have ro := rel_out o3 ri.2
    exact Or.inl ⟨⟨⟨rv, _, o1, ⟨h', o2, ro.2, rfl⟩, ro.1⟩, o4⟩, o5⟩
  · have ro := rel_out x2 ri.2
    exact Or.inr ⟨q, eo, E, ce, L, ⟨⟨_, ⟨h', x1, ro.2, rfl⟩, ro.1⟩, x3⟩, x4⟩
/-- a contract beside one more cell -/
theorem Ct.frame1 {Ω : OmT} {y : MethodName} {cc : ByteArray} {maxL : Nat} {ret : Option FieldType} {rm : Room} {av : List Value} {Φ : AH → Prop} {hR : AH} {o : Nat} {x : va_E} {Ψ : Option Value → AH → Prop} {Ξ : String → AH → Prop} (c : Ct Ω y cc maxL ret rm av Φ (cmb (hset (fun _ => none) o x) hR) Ψ Ξ) :
    Ct Ω y cc maxL ret rm av (fun h => ∃ h1, Φ h1 ∧ h1 o = none ∧ h = hset h1 o x) hR (fun rv h => ∃ h1, Ψ rv h1 ∧ h1 o = none ∧ h = hset h1 o x) (fun E h => ∃ h1, Ξ E h1 ∧ h1 o = none ∧ h = hset h1 o x) := by
  have e : ∀ h1 : AH, h1 o = none → Dj h1 (hset (fun _ => none) o x) ∧ hset h1 o x = cmb h1 (hset (fun _ => none) o x) := fun h1 hn => by
    refine ⟨fun a ha => hset_n (fun q => ha (by rw [q]; exact hn)), ?_⟩
    funext a
    by_cases q : a = o
    · subst q; rw [hset_s, cmb_2 hn, hset_s]
    · rw [hset_n q]
      cases r : h1 a with
      | none => rw [cmb_2 r, hset_n q]
      | some y => rw [cmb_1 r]
  have d : ∀ h1 : AH, Dj h1 (hset (fun _ => none) o x) → h1 o = none := fun h1 dj => by
    cases q : h1 o with
    | none => rfl
    | some y => have := dj o (by rw [q]; exact fun z => by cases z); rw [hset_s] at this; cases this
  have f := Ct.frame c
  intro p e9 ha hc hk s m args below hf happ hP ht
  obtain ⟨hv, hW, h, ⟨h1, q1, q2, rfl⟩, hRel⟩ := hP
  obtain ⟨n, o9, w1, w2, w3, w4⟩ := f p e9 ha hc hk s m args below hf happ ⟨hv, hW, _, ⟨h1, q1, (e h1 q2).1, (e h1 q2).2⟩, hRel⟩ ht
  refine ⟨n, o9, w1, w2, w3, ?_⟩
  rcases w4 with ⟨⟨⟨rv, h', o1, ⟨h3, o2, o3, o6⟩, o7⟩, o4⟩, o5⟩ | ⟨q, eo, E, ce, L, ⟨⟨h', ⟨h3, x1, x5, x6⟩, x2⟩, x3⟩, x4⟩
  · exact Or.inl ⟨⟨⟨rv, h', o1, ⟨h3, o2, d h3 o3, by rw [o6]; exact (e h3 (d h3 o3)).2.symm⟩, o7⟩, o4⟩, o5⟩
  · exact Or.inr ⟨q, eo, E, ce, L, ⟨⟨h', ⟨h3, x1, d h3 x5, by rw [x6]; exact (e h3 (d h3 x5)).2.symm⟩, x2⟩, x3⟩, x4⟩

