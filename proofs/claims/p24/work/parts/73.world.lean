/-! what stands at the law's entry -/
theorem k_class {s : State} {args : Array Value} (hts : ∀ w ∈ AW, w.before args s = true) : ∀ (c : Nat) (q : vw_C), vwCl[c]? = some q → ∃ (cC : ClassId) (iS : Nat → Nat), u_Kn s q.1 q.2.1 q.2.2 cC iS := by
  intro c q hq
  match c, hq with
  | 0, hq => cases hq; exact u_known hts cl_Jx4a65c.1 (hts _ aw_1_30)
  | 1, hq => cases hq; exact u_known hts cl_X0.1 (hts _ aw_2_200)
  | 2, hq => cases hq; exact u_known hts cl_X1.1 (hts _ aw_1_56)
  | 3, hq => cases hq; exact u_known hts cl_X2.1 (hts _ aw_3_62)
  | 4, hq => cases hq; exact u_known hts cl_X3.1 (hts _ aw_2_17)
  | 5, hq => cases hq; exact u_known hts cl_X4.1 (hts _ aw_1_22)
  | k + 6, hq => cases hq
theorem k_arr {s : State} {args : Array Value} {ty : FieldType} (h : (Cond.arrayClass ty).before args s = true) (hp : ∀ c, s.vm.findClass ("[" ++ ty.toString) = some c → va_RA s c ty) : ∃ c : ClassId, ArrOfT s c ty ∧ va_RA s c ty := by
  obtain ⟨c, k, comp, h1, h2, h3⟩ := Cond.arrayClass_spec (args := args) (first := s) (o := none) (s := s) (idx := []) h
  exact ⟨c, fun n z => ⟨fun k h => (by cases h), k, h2, comp, h3⟩, hp c h1⟩
theorem k_obj {s : State} {args : Array Value} (h : (Cond.arrayOver (.object "java/lang/Object")).before args s = true) : ∃ c : ClassId, ArrOfT s c tyO ∧ va_RA s c tyO := by
  obtain ⟨comp, c, k, h1, h2, h3, h4, h5⟩ := Cond.arrayOver_spec (args := args) (first := s) (o := none) (s := s) (idx := []) h
  exact ⟨c, fun n z => ⟨fun k h => (by cases h), k, h3, comp, h4⟩, k, comp, h3, h4, h1, h5⟩
abbrev sED : Term := .static "java/util/ArrayList" "DEFAULTCAPACITY_EMPTY_ELEMENTDATA" "[Ljava/lang/Object;"
theorem k_str : ∀ q ∈ SW, Cond.exactly (.string q.1 q.2.1) "java/lang/String" ∈ flatC (Jvm.Cond.and given_1 narrow_1) := by decide +kernel
theorem k_not : ∀ q ∈ NCW, Cond.not (.castable q.1 q.2) ∈ flatC (Jvm.Cond.and given_1 narrow_1) := by decide +kernel
theorem k_ed : (Cond.arrayOf sED tyO ∈ flatC (Jvm.Cond.and given_1 narrow_1)) ∧ (Cond.eq (.length sED) (.int 0) ∈ flatC (Jvm.Cond.and given_1 narrow_1)) ∧ (Cond.isRef (.mirror "[Ljava/lang/Object;") ∈ flatC (Jvm.Cond.and given_1 narrow_1)) ∧ (Cond.isRef (.static Bundle.tN "UNASSIGNED_STACK" Bundle.steD) ∈ flatC (Jvm.Cond.and given_1 narrow_1)) ∧ (Cond.isRef (.static Bundle.tN "SUPPRESSED_SENTINEL" Bundle.listD) ∈ flatC (Jvm.Cond.and given_1 narrow_1)) := by decide +kernel
theorem sw_mem {q : String × Nat × String} (h : q ∈ SW) : Cond.stringRef q.1 q.2.1 q.2.2 ∈ lw_tbl := by
  obtain ⟨w, h1, h2⟩ := List.mem_filterMap.mp h
  split at h2
  · cases h2; exact h1
  · cases h2
def vRef (v : Option Value) : Nat := match v with
  | some (.ref a) => a
  | _ => 0
theorem wk_at {s : State} {b : Nat} (l : Launch) (hflags : l.flags = flags0) (hts : ∀ w ∈ lw_tbl, w.before #[Value.ref b] s = true) (hgv : (Jvm.Cond.and given_1 narrow_1).before #[Value.ref b] s = true) : ∃ Ω : OmT, OmL Ω = l ∧ OmB Ω = s.heap.size ∧ WK Ω s := by
  have hs := flat_of_before _ hgv
  have hA : ∀ w ∈ AW, w.before #[Value.ref b] s = true := fun w hw => hts w (aw_tb w hw)
  have hcl : ∀ c : Nat, ∃ (cC : ClassId) (iS : Nat → Nat), ∀ q, vwCl[c]? = some q → u_Kn s q.1 q.2.1 q.2.2 cC iS := fun c => by
    cases hq : vwCl[c]? with
    | none => exact ⟨0, fun _ => 0, fun q h => by cases h⟩
    | some q =>
      obtain ⟨cC, iS, h⟩ := k_class hA c q hq
      exact ⟨cC, iS, fun q h' => by cases h'; exact h⟩
  obtain ⟨cI, i1, i2⟩ := k_arr (ty := .int) (hA _ aw_1_65) (fun c h => h)
  obtain ⟨cJ, j1, j2⟩ := k_arr (ty := .long) (hA _ aw_4_12) (fun c h => h)
  obtain ⟨cO, o1, o2⟩ := k_obj (hts _ tw_2_112)
  obtain ⟨mi, hm⟩ := va_Mi.of (hs _ k_ed.2.2.1)
  have hout : ∀ a : Nat, a < s.heap.size → ¬ s.heap.size ≤ a := fun a h => Nat.not_le.mpr h
  obtain ⟨y, y1, y2⟩ := Cond.eq_one (hs _ k_ed.2.1)
  cases y2
  obtain ⟨E, e1, e2⟩ := va_Tof (A := fun q => s.heap.size ≤ q) (tm := sED) (ty := tyO) (N := 0) (f := fun _ => Value.null) (by decide) (hs _ k_ed.1) y1 (fun j hj => absurd hj (Nat.not_lt_zero _)) hout
  have hE : E < s.heap.size := by
    obtain ⟨cell, h1, -⟩ := e2
    exact (Array.getElem?_eq_some_iff.mp h1).1
  let Ω : OmT := (l, (fun c => Classical.choose (hcl c), fun c => Classical.choose (Classical.choose_spec (hcl c))), cI, cJ, cO, s.heap.size, E, mi, fun o k => vRef ((Term.string o k).eval #[Value.ref b] s none [] s))
  refine ⟨Ω, rfl, rfl, ⟨fun c q hq => Classical.choose_spec (Classical.choose_spec (hcl c)) q hq, fun k q hk => ?_⟩, Nat.le_refl _, ?_, fun w hw => va_Nw.of (nw_on hw) (hts w (List.mem_filter.mp hw).1), fun q hq => ?_, va_AO.of (hts _ tw_2_112), hm, vx_Zqof (hts _ tw_1_170) (hA _ aw_1_9) (hs _ k_ed.2.2.2.1) hout, vx_Zqof (hts _ tw_1_172) (hA _ aw_1_9) (hs _ k_ed.2.2.2.2) hout, va_Zof (hts _ tw_1_42) (hA _ aw_1_4) e1 hout, e2, fun q hq => va_Nc.of (hs _ (k_not q hq)), hE⟩
  · match k, hk with
    | 0, hk => cases hk; exact ⟨i1, i2⟩
    | 1, hk => cases hk; exact ⟨j1, j2⟩
    | 2, hk => cases hk; exact ⟨o1, o2⟩
    | k + 3, hk => cases hk
  · show l.stackTraces = false
    unfold Launch.stackTraces
    rw [hflags]
    decide +kernel
  · obtain ⟨a, c, cell, k, h1, -⟩ := Cond.exactly_spec (args := #[Value.ref b]) (first := s) (o := none) (s := s) (idx := []) (hs _ (k_str q hq))
    refine vk_R.of (A := #[Value.ref b]) (hts _ (sw_mem hq)) ?_
    show (Term.string q.1 q.2.1).eval #[Value.ref b] s none [] s = some (Value.ref (vRef ((Term.string q.1 q.2.1).eval #[Value.ref b] s none [] s)))
    rw [h1]
    rfl
