/-! ROWS THAT READ AND WRITE THE HEAP -/
def CLs (q : vw_C) : Prop := (∀ w ∈ u_ws q.1 q.2.1 q.2.2, w ∈ AW) ∧ (∃ ty0 : Nat → FieldType, ∀ k, k < q.2.2 → parseFieldDescriptor (q.2.1 k).2.2.1 = some (ty0 k)) ∧ (∀ a, a < q.2.2 → ∀ b, b < q.2.2 → a ≠ b → (q.2.1 a).2.1 ≠ (q.2.1 b).2.1)
/-- a field by its place in the pool: read; written -/
def FG (own : String) (idx ci k : Nat) : Prop := ∃ (q : vw_C) (ref : String), vwCl[ci]? = some q ∧ k < q.2.2 ∧ CLs q ∧ Cond.fieldLink own idx ref (q.2.1 k).2.1 (q.2.1 k).2.2.1 ∈ AW ∧ ((q.2.1 k).1 = ref ∨ Cond.sameField ref (q.2.1 k).1 (q.2.1 k).2.1 (q.2.1 k).2.2.1 ∈ AW)
def FP (own : String) (idx ci k : Nat) (ty : FieldType) : Prop := ∃ (q : vw_C) (ref : String), vwCl[ci]? = some q ∧ k < q.2.2 ∧ CLs q ∧ Cond.fieldLink own idx ref (q.2.1 k).2.1 (q.2.1 k).2.2.1 ∈ AW ∧ ((q.2.1 k).1 = ref ∨ Cond.sameField ref (q.2.1 k).1 (q.2.1 k).2.1 (q.2.1 k).2.2.1 ∈ AW) ∧ (q.2.1 k).2.2.2 = false ∧ parseFieldDescriptor (q.2.1 k).2.2.1 = some ty
def FF (own : String) (idx ci k : Nat) (ty : FieldType) : Prop := ∃ (q : vw_C) (ref : String), vwCl[ci]? = some q ∧ k < q.2.2 ∧ CLs q ∧ Cond.fieldLink own idx ref (q.2.1 k).2.1 (q.2.1 k).2.2.1 ∈ AW ∧ (q.2.1 k).1 = ref ∧ (q.2.1 k).2.2.2 = true ∧ (q.2.1 k).1 = own ∧ parseFieldDescriptor (q.2.1 k).2.2.1 = some ty
/-- a class by its place in the pool: made -/
def FN (own : String) (idx ci N : Nat) (fs : List Value) : Prop := ∃ (q : vw_C) (ty : Nat → FieldType), vwCl[ci]? = some q ∧ q.2.2 = N ∧ CLs q ∧ (∀ k, k < q.2.2 → parseFieldDescriptor (q.2.1 k).2.2.1 = some (ty k)) ∧ Cond.classLink own idx q.1 ∈ AW ∧ Cond.instantiable q.1 q.2.2 ∈ AW ∧ Cond.initialized q.1 ∈ AW ∧ (∀ j, j < q.2.2 → defaultValue (ty j) = vp_V fs j)
section YHEAP
variable {Ω : OmT} {κ : KxT} {Φ Φ' : AH → Prop} {hR : AH} {cs sl pc : Nat} {L L' : List (Nat × Value)} {st : List Value} {own : String} {cc : ByteArray} {idx ci k a : Nat} {v : Value} {ty : FieldType}
theorem fg_same {s : State} {args : Array Value} {ref o n d : String} (hts : ∀ w ∈ AW, w.before args s = true) (h : o = ref ∨ Cond.sameField ref o n d ∈ AW) : ∀ x, s.fieldFound? o n d = some x → s.fieldFound? ref n d = some x := by
  intro x hx
  rcases h with rfl | h
  · exact hx
  · exact u_same (hts _ h) x hx
theorem y_get (C : Cx Ω κ own cc) (fg : FG own idx ci k) (dg : decode cc pc = .ok (.getfield idx, 3)) (hΦ : ∀ h, Φ h → ∃ fs, h a = some (.inr (ci, fs)) ∧ fs[k]? = some v) (kk : Y Ω κ Φ hR cs sl (pc + 3) L (v :: st)) : Y Ω κ Φ hR cs sl pc L (.ref a :: st) := by
  intro h H locs ls a1 b1 c1 d1
  obtain ⟨fs, e1, e2⟩ := hΦ h a1
  obtain ⟨⟨Cn, T, N⟩, ref, g1, g2, g3, g4, g5⟩ := fg
  exact va_get (D := OmD Ω) C.1 C.2.1 C.2.2.2.2.1 g3.1 C.2.2.2.1 C.2.2.2.2.2.1.1 (b1.1.P e1) 0 rfl g1 k g2 (C.2.2.2.2.1 _ g4) (fg_same C.2.2.2.2.1 g5) e2 dg (kk h H locs ls a1 b1 c1 d1)
theorem y_put (C : Cx Ω κ own cc) (fp : FP own idx ci k ty) (dg : decode cc pc = .ok (.putfield idx, 3)) (hn : narrow ty v = v) (hf : fits ty v = true) (hΦ : ∀ h, Φ h → ∃ fs, h a = some (.inr (ci, fs)) ∧ k < fs.length ∧ Φ' (hset h a (.inr (ci, fs.set k v)))) (kk : Y Ω κ Φ' hR cs sl (pc + 3) L st) : Y Ω κ Φ hR cs sl pc L (v :: .ref a :: st) := by
  intro h H locs ls a1 b1 c1 d1
  obtain ⟨fs, e1, e2, e3⟩ := hΦ h a1
  obtain ⟨⟨Cn, T, N⟩, ref, g1, g2, ⟨g3, ⟨ty0, g6⟩, g7⟩, g4, g5, g8, g9⟩ := fp
  have hts := C.2.2.2.2.1
  have hK := C.2.2.2.2.2.1.1
  have hap := va_apart (own := own) hts g3 ty0 g6 g7 hK g1
  obtain ⟨r, h1, cell, q1, q2, q3, q4⟩ := (b1.1 a _ e1).2
  have hr : r = (Cn, T, N) := Option.some.inj (h1.symm.trans g1)
  subst hr
  obtain ⟨hS, hfc, kC, hkC, hkind⟩ := hK.1 ci _ g1
  obtain ⟨cf, kf, fi, f, hi, hsl⟩ := hS k g2
  have hlay := hts _ (g3 _ (u_in_lay g2))
  unfold u_lay at hlay
  rw [if_neg (by rw [g8]; decide)] at hlay
  have hst := (u_facts hfc hkC (u_lays hts g3 g2) hi).1
  have h6 := u_store hfc hkC hkind hlay hi g9 hn hf
  refine W.putK C.1 C.2.1 (f := f) ⟨C.2.2.2.1, hts _ g4, ⟨_, _, _, fg_same hts g5 _ hi⟩, hst⟩ (by rw [q2]; exact h6) q1 q3 (by rw [hsl]; exact k2_hasslot (q4 k g2)) rfl rfl dg fun H' f1 f2 f3 => ?_
  rw [hsl] at f1 ⊢
  exact kk _ H' _ _ e3 (b1.set e1 ⟨_, g1, t_OB.to (V := updV (vp_V fs) k v) ⟨_, f1, q2, q3, t_set q4 hap g2 v⟩ (fun j _ => vp_updV_set e2 v j)⟩ f3) (c1.put f2 f3 (b1.1 a _ e1).1) d1
theorem y_putF (C : Cx Ω κ own cc) (hi0 : (kt κ).name = "<init>") (ff : FF own idx ci k ty) (dg : decode cc pc = .ok (.putfield idx, 3)) (hn : narrow ty v = v) (hf : fits ty v = true) (hΦ : ∀ h, Φ h → ∃ fs, h a = some (.inr (ci, fs)) ∧ k < fs.length ∧ Φ' (hset h a (.inr (ci, fs.set k v)))) (kk : Y Ω κ Φ' hR cs sl (pc + 3) L st) : Y Ω κ Φ hR cs sl pc L (v :: .ref a :: st) := by
  intro h H locs ls a1 b1 c1 d1
  obtain ⟨fs, e1, e2, e3⟩ := hΦ h a1
  obtain ⟨⟨Cn, T, N⟩, ref, g1, g2, ⟨g3, ⟨ty0, g6⟩, g7⟩, g4, g5, g8, g10, g9⟩ := ff
  have hts := C.2.2.2.2.1
  have hK := C.2.2.2.2.2.1.1
  have hap := va_apart (own := own) hts g3 ty0 g6 g7 hK g1
  obtain ⟨r, h1, cell, q1, q2, q3, q4⟩ := (b1.1 a _ e1).2
  have hr : r = (Cn, T, N) := Option.some.inj (h1.symm.trans g1)
  subst hr
  obtain ⟨hS, hfc, kC, hkC, hkind⟩ := hK.1 ci _ g1
  obtain ⟨cf, kf, fi, f, hi, hsl⟩ := hS k g2
  have hlay := hts _ (g3 _ (u_in_lay g2))
  unfold u_lay at hlay
  rw [if_pos g8] at hlay
  have hst := (u_facts hfc hkC (u_lays hts g3 g2) hi).1
  have hcf : (km κ).cls = cf := by
    obtain ⟨_, _, c', _, _, _, -, -, hf', -, -, -, hown2, -⟩ := Cond.laysFinal_spec hlay
    have f1 : c' = cf := by have := hi.symm.trans hf'; simp at this; exact this.1.symm
    rw [g10] at hown2
    rw [← f1]; exact Option.some.inj (C.2.2.2.1.symm.trans hown2)
  have h6 := u_fits hfc hkC hkind (Or.inr hlay) hi g9 hn hf
  refine W.putFinK C.1 C.2.1 C.2.2.2.1 (hts _ g4) (fg_same hts (Or.inl g5) _ hi) hst hcf hi0 (by rw [q2]; exact h6) q1 q3 (by rw [hsl]; exact k2_hasslot (q4 k g2)) rfl rfl dg fun H' f1 f2 f3 => ?_
  rw [hsl] at f1 ⊢
  exact kk _ H' _ _ e3 (b1.set e1 ⟨_, g1, t_OB.to (V := updV (vp_V fs) k v) ⟨_, f1, q2, q3, t_set q4 hap g2 v⟩ (fun j _ => vp_updV_set e2 v j)⟩ f3) (c1.put f2 f3 (b1.1 a _ e1).1) d1
theorem y_iald (C : Cx Ω κ own cc) {z : Int} {x : Int32} (dg : decode cc pc = .ok (.iaload, 1)) (h0 : 0 ≤ z) (h1 : z < 2147483648) (hΦ : ∀ h, Φ h → ∃ (n : Nat) (f : Nat → Int32), h a = some (.inl (OmI Ω, n, .inl f)) ∧ z.toNat < n ∧ f z.toNat = x) (kk : Y Ω κ Φ hR cs sl (pc + 1) L (.int x :: st)) : Y Ω κ Φ hR cs sl pc L (.int (iv z) :: .ref a :: st) := by
  intro h H locs ls a1 b1 c1 d1
  obtain ⟨n, f, e1, e2, e3⟩ := hΦ h a1
  refine va_iald (D := OmD Ω) C.1 C.2.1 C.2.2.2.2.2.1.1 (b1.1.P e1) 0 0 rfl rfl (iv_in h0 e2 h1) dg ?_
  rw [iv_cl h0 h1, e3]
  exact kk h H locs ls a1 b1 c1 d1
theorem y_lald (C : Cx Ω κ own cc) {z : Int} {x : Int64} (dg : decode cc pc = .ok (.laload, 1)) (h0 : 0 ≤ z) (h1 : z < 2147483648) (hΦ : ∀ h, Φ h → ∃ (n : Nat) (f : Nat → Int64), h a = some (.inl (OmJ Ω, n, .inr (.inl f))) ∧ z.toNat < n ∧ f z.toNat = x) (kk : Y Ω κ Φ hR cs sl (pc + 1) L (.long x :: st)) : Y Ω κ Φ hR cs sl pc L (.int (iv z) :: .ref a :: st) := by
  intro h H locs ls a1 b1 c1 d1
  obtain ⟨n, f, e1, e2, e3⟩ := hΦ h a1
  refine va_lald (D := OmD Ω) C.1 C.2.1 C.2.2.2.2.2.1.1 (b1.1.P e1) 0 1 rfl rfl (iv_in h0 e2 h1) dg ?_
  rw [iv_cl h0 h1, e3]
  exact kk h H locs ls a1 b1 c1 d1
theorem y_aald (C : Cx Ω κ own cc) {z : Int} {x : Value} (dg : decode cc pc = .ok (.aaload, 1)) (h0 : 0 ≤ z) (h1 : z < 2147483648) (hΦ : ∀ h, Φ h → ∃ (n : Nat) (f : Nat → Option Nat), h a = some (.inl (OmO Ω, n, .inr (.inr (.inr (.inr f))))) ∧ z.toNat < n ∧ va_rf (f z.toNat) = x) (kk : Y Ω κ Φ hR cs sl (pc + 1) L (x :: st)) : Y Ω κ Φ hR cs sl pc L (.int (iv z) :: .ref a :: st) := by
  intro h H locs ls a1 b1 c1 d1
  obtain ⟨n, f, e1, e2, e3⟩ := hΦ h a1
  refine va_aldq (D := OmD Ω) C.1 C.2.1 C.2.2.2.2.2.1.1 (b1.1.P e1) 0 2 rfl rfl (iv_in h0 e2 h1) dg ?_
  rw [iv_cl h0 h1, e3]
  exact kk h H locs ls a1 b1 c1 d1
theorem y_ialen (C : Cx Ω κ own cc) {z : Int} (dg : decode cc pc = .ok (.arraylength, 1)) (hΦ : ∀ h, Φ h → ∃ (n : Nat) (f : Nat → Int32), h a = some (.inl (OmI Ω, n, .inl f)) ∧ (n : Int) = z) (kk : Y Ω κ Φ hR cs sl (pc + 1) L (.int (iv z) :: st)) : Y Ω κ Φ hR cs sl pc L (.ref a :: st) := by
  intro h H locs ls a1 b1 c1 d1
  obtain ⟨n, f, e1, e3⟩ := hΦ h a1
  exact va_alen (D := OmD Ω) C.1 C.2.1 C.2.2.2.2.2.1.1 (b1.1.P e1) 0 0 rfl rfl (v := iv z) (by rw [← e3]; exact (iv_nI n).symm) dg (kk h H locs ls a1 b1 c1 d1)
theorem y_aalen (C : Cx Ω κ own cc) {z : Int} (dg : decode cc pc = .ok (.arraylength, 1)) (hΦ : ∀ h, Φ h → ∃ (n : Nat) (f : Nat → Option Nat), h a = some (.inl (OmO Ω, n, .inr (.inr (.inr (.inr f))))) ∧ (n : Int) = z) (kk : Y Ω κ Φ hR cs sl (pc + 1) L (.int (iv z) :: st)) : Y Ω κ Φ hR cs sl pc L (.ref a :: st) := by
  intro h H locs ls a1 b1 c1 d1
  obtain ⟨n, f, e1, e3⟩ := hΦ h a1
  exact va_alen (D := OmD Ω) C.1 C.2.1 C.2.2.2.2.2.1.1 (b1.1.P e1) 0 2 rfl rfl (v := iv z) (by rw [← e3]; exact (iv_nI n).symm) dg (kk h H locs ls a1 b1 c1 d1)
/-- the length of the empty row that new lists share -/
theorem y_elen (C : Cx Ω κ own cc) (dg : decode cc pc = .ok (.arraylength, 1)) (kk : Y Ω κ Φ hR cs sl (pc + 1) L (.int (iv 0) :: st)) : Y Ω κ Φ hR cs sl pc L (.ref (OmE Ω) :: st) := by
  intro h H locs ls a1 b1 c1 d1
  obtain ⟨-, -, -, -, -, -, -, -, -, -, h11, -⟩ := C.2.2.2.2.2.1
  exact va_tlen C.1 C.2.1 h11 c1 (v := iv 0) (by decide) dg (kk h H locs ls a1 b1 c1 d1)
theorem y_iast (C : Cx Ω κ own cc) {z : Int} {x : Int32} (dg : decode cc pc = .ok (.iastore, 1)) (h0 : 0 ≤ z) (h1 : z < 2147483648) (hΦ : ∀ h, Φ h → ∃ (n : Nat) (f : Nat → Int32), h a = some (.inl (OmI Ω, n, .inl f)) ∧ z.toNat < n ∧ Φ' (hset h a (.inl (OmI Ω, n, .inl (upd f z.toNat x))))) (kk : Y Ω κ Φ' hR cs sl (pc + 1) L st) : Y Ω κ Φ hR cs sl pc L (.int x :: .int (iv z) :: .ref a :: st) := by
  intro h H locs ls a1 b1 c1 d1
  obtain ⟨n, f, e1, e2, e3⟩ := hΦ h a1
  have hin := iv_in h0 e2 h1
  refine W.iast C.1 C.2.1 (b1.1 a _ e1).2 ((C.2.2.2.2.2.1.1.2 0 _ rfl).1 n (fun j => .int (f j))) (fun q => by cases q) (by show ¬ (iv z < 0 ∨ (arrV _ _ _).slots.size ≤ _); rw [arrV_size]; exact hin) rfl rfl dg fun H1 f1 f2 f3 => ?_
  refine kk _ H1 _ _ e3 (b1.set e1 ?_ f3) (c1.put f2 f3 (b1.1 a _ e1).1) d1
  show H1[a]? = some (vp_cell _ _)
  rw [f1, vp_cell_i, vp_cell_i, arrV_store, iv_cl h0 h1]
  congr 2
  funext q
  by_cases hq : q = z.toNat
  · subst hq; simp [updV, upd]
  · simp [updV, upd, hq]
theorem y_last (C : Cx Ω κ own cc) {z : Int} {x : Int64} (dg : decode cc pc = .ok (.lastore, 1)) (h0 : 0 ≤ z) (h1 : z < 2147483648) (hΦ : ∀ h, Φ h → ∃ (n : Nat) (f : Nat → Int64), h a = some (.inl (OmJ Ω, n, .inr (.inl f))) ∧ z.toNat < n ∧ Φ' (hset h a (.inl (OmJ Ω, n, .inr (.inl (vp_updL f z.toNat x)))))) (kk : Y Ω κ Φ' hR cs sl (pc + 1) L st) : Y Ω κ Φ hR cs sl pc L (.long x :: .int (iv z) :: .ref a :: st) := by
  intro h H locs ls a1 b1 c1 d1
  obtain ⟨n, f, e1, e2, e3⟩ := hΦ h a1
  have hin := iv_in h0 e2 h1
  refine W.last C.1 C.2.1 (b1.1 a _ e1).2 ((C.2.2.2.2.2.1.1.2 1 _ rfl).1 n (fun j => .long (f j))) (fun q => by cases q) (by show ¬ (iv z < 0 ∨ (arrV _ _ _).slots.size ≤ _); rw [arrV_size]; exact hin) rfl rfl dg fun H1 f1 f2 f3 => ?_
  refine kk _ H1 _ _ e3 (b1.set e1 ?_ f3) (c1.put f2 f3 (b1.1 a _ e1).1) d1
  show H1[a]? = some (vp_cell _ _)
  rw [f1, vp_cell_l, vp_cell_l, arrV_store, iv_cl h0 h1]
  congr 2
  funext q
  by_cases hq : q = z.toNat
  · subst hq; simp [updV, vp_updL]
  · simp [updV, vp_updL, hq]
/-- an object of a class into a row of Objects -/
theorem y_aast (C : Cx Ω κ own cc) {z : Int} {o co : Nat} {qc : vw_C} (hco : vwCl[co]? = some qc) (hcast : Cond.castable qc.1 "java/lang/Object" ∈ NW) (dg : decode cc pc = .ok (.aastore, 1)) (h0 : 0 ≤ z) (h1 : z < 2147483648) (hΦ : ∀ h, Φ h → (∃ vs, h o = some (.inr (co, vs))) ∧ ∃ (n : Nat) (f : Nat → Option Nat), h a = some (.inl (OmO Ω, n, .inr (.inr (.inr (.inr f))))) ∧ z.toNat < n ∧ Φ' (hset h a (.inl (OmO Ω, n, .inr (.inr (.inr (.inr (va_up f z.toNat (some o))))))))) (kk : Y Ω κ Φ' hR cs sl (pc + 1) L st) : Y Ω κ Φ hR cs sl pc L (.ref o :: .int (iv z) :: .ref a :: st) := by
  intro h H locs ls a1 b1 c1 d1
  obtain ⟨⟨vs, e0⟩, n, f, e1, e2, e3⟩ := hΦ h a1
  have hin := iv_in h0 e2 h1
  have hK := C.2.2.2.2.2.1.1
  obtain ⟨r', hr', cellV, g1, g2, g3, -⟩ := (b1.1 o _ e0).2
  have hcls := (hK.1 co qc hco).2
  obtain ⟨kA, comp, k1, k2, k3, -⟩ := (hK.2 2 _ rfl).2
  obtain ⟨kE, hkE, -⟩ := Vm.findClass_spec k3
  obtain ⟨c0, t1, f1, f2, f3⟩ := Cond.castable_spec (va_Nw.use (A := ka κ) rfl (C.2.2.2.2.2.1.2.2.2.1 _ hcast))
  cases hcls.1.symm.trans f1
  cases k3.symm.trans f2
  obtain ⟨kC, hkC, -⟩ := hcls.2
  have g2' : cellV.cls = (OmD Ω).1 co := g2
  refine W.aast C.1 C.2.1 (b1.1 a _ e1).2 (fun q h => by cases h) (fun h => by cases h) k1 k2 rfl hkE ⟨fun q => hin (Or.inl q), by show _ < (arrV _ _ _).slots.size; rw [arrV_size]; exact Nat.not_le.mp fun q => hin (Or.inr q)⟩ g1 (fun q h => by rw [g3] at h; cases h) (by rw [g2']; exact hkC) (by rw [g2']; exact f3) rfl rfl dg fun H1 x1 x2 x3 => ?_
  refine kk _ H1 _ _ e3 (b1.set e1 ?_ x3) (c1.put x2 x3 (b1.1 a _ e1).1) d1
  show H1[a]? = some (vp_cell _ _)
  rw [x1, vp_cell_q, vp_cell_q, arrV_store, iv_cl h0 h1]
  congr 2
  funext q
  by_cases hq : q = z.toNat
  · subst hq; simp [updV, va_up, va_rf]
  · simp [updV, va_up, hq]
/-- a new object; its fields have their defaults -/
theorem y_new (C : Cx Ω κ own cc) {N : Nat} {fs : List Value} (fn : FN own idx ci N fs) (dg : decode cc pc = .ok (.new idx, 3)) (hc : cs + 1 ≤ (kR κ).cells) (hs : sl + N ≤ (kR κ).slots)
    (kk : ∀ a : Nat, Y Ω κ (fun h => ∃ h0, Φ h0 ∧ h0 a = none ∧ hR a = none ∧ h = hset h0 a (.inr (ci, fs))) hR (cs + 1) (sl + N) (pc + 3) L (.ref a :: st)) : Y Ω κ Φ hR cs sl pc L st := by
  intro h H locs ls a1 b1 c1 d1
  obtain ⟨⟨Cn, T, N'⟩, ty, g1, g2, ⟨g3, -⟩, g4, g5, g6, g7, g8⟩ := fn
  have hts := C.2.2.2.2.1
  have hKn := C.2.2.2.2.2.1.1.1 ci _ g1
  have hsz : OmB Ω ≤ H.size := Nat.le_trans C.2.2.2.2.2.1.2.1 c1.1
  subst g2
  refine W.newcK C.1 C.2.1 C.2.2.2.1 (hts _ g5) (hts _ g6) (hts _ g7) rfl dg hc hs hKn.2.1 rfl fun H1 kC hkC e1 z1 o1 => ?_
  refine kk H.size _ H1 _ _ ⟨h, a1, b1.1.new, b1.2.1.new, rfl⟩ (b1.push hsz ⟨_, g1, (u_born ty hts g3 hKn hkC e1 g4).to g8⟩ o1) ⟨Nat.le_trans c1.1 (by omega), fun x h1 h2 => (o1 x (Nat.lt_of_lt_of_le h1 c1.1)).trans (c1.2.1 x h1 h2), c1.2.2⟩ d1
theorem y_newI (C : Cx Ω κ own cc) {z : Int} {n : Nat} (w : Cond.arrayClass .int ∈ AW) (dg : decode cc pc = .ok (.newarray .int, 2)) (hz : z = n) (hb : n ≤ 100000) (hc : cs + 1 ≤ (kR κ).cells) (hs : sl + n ≤ (kR κ).slots)
    (kk : ∀ a : Nat, Y Ω κ (fun h => ∃ h0, Φ h0 ∧ h0 a = none ∧ hR a = none ∧ h = hset h0 a (.inl (OmI Ω, n, .inl (fun _ => 0)))) hR (cs + 1) (sl + n) (pc + 2) L (.ref a :: st)) : Y Ω κ Φ hR cs sl pc L (.int (iv z) :: st) := by
  intro h H locs ls a1 b1 c1 d1
  subst hz
  have hsz : OmB Ω ≤ H.size := Nat.le_trans C.2.2.2.2.2.1.2.1 c1.1
  refine va_newaK (atype := .int) C.1 C.2.1 (C.2.2.2.2.1 _ w) rfl dg rfl (by rw [iv_nI]; exact nI_pos (by omega)) (N := n) (by rw [iv_nI]; exact nI_clamp (by omega)) (by show n * 4 ≤ _; omega) hc hs rfl fun H1 cA e1 z1 o1 hAr hNm => ?_
  have hA : cA = OmI Ω := Option.some.inj (hNm.symm.trans (C.2.2.2.2.2.1.1.2 0 _ rfl).2)
  subst hA
  exact kk H.size _ H1 _ _ ⟨h, a1, b1.1.new, b1.2.1.new, rfl⟩ (b1.push hsz (e := .inl (OmI Ω, n, .inl (fun _ => 0))) e1 o1) ⟨Nat.le_trans c1.1 (by omega), fun x h1 h2 => (o1 x (Nat.lt_of_lt_of_le h1 c1.1)).trans (c1.2.1 x h1 h2), c1.2.2⟩ d1
theorem y_newJ (C : Cx Ω κ own cc) {z : Int} {n : Nat} (w : Cond.arrayClass .long ∈ AW) (dg : decode cc pc = .ok (.newarray .long, 2)) (hz : z = n) (hb : n ≤ 50000) (hc : cs + 1 ≤ (kR κ).cells) (hs : sl + n ≤ (kR κ).slots)
    (kk : ∀ a : Nat, Y Ω κ (fun h => ∃ h0, Φ h0 ∧ h0 a = none ∧ hR a = none ∧ h = hset h0 a (.inl (OmJ Ω, n, .inr (.inl (fun _ => 0))))) hR (cs + 1) (sl + n) (pc + 2) L (.ref a :: st)) : Y Ω κ Φ hR cs sl pc L (.int (iv z) :: st) := by
  intro h H locs ls a1 b1 c1 d1
  subst hz
  have hsz : OmB Ω ≤ H.size := Nat.le_trans C.2.2.2.2.2.1.2.1 c1.1
  refine va_newaK (atype := .long) C.1 C.2.1 (C.2.2.2.2.1 _ w) rfl dg rfl (by rw [iv_nI]; exact nI_pos (by omega)) (N := n) (by rw [iv_nI]; exact nI_clamp (by omega)) (by show n * 8 ≤ _; omega) hc hs rfl fun H1 cA e1 z1 o1 hAr hNm => ?_
  have hA : cA = OmJ Ω := Option.some.inj (hNm.symm.trans (C.2.2.2.2.2.1.1.2 1 _ rfl).2)
  subst hA
  exact kk H.size _ H1 _ _ ⟨h, a1, b1.1.new, b1.2.1.new, rfl⟩ (b1.push hsz (e := .inl (OmJ Ω, n, .inr (.inl (fun _ => 0)))) e1 o1) ⟨Nat.le_trans c1.1 (by omega), fun x h1 h2 => (o1 x (Nat.lt_of_lt_of_le h1 c1.1)).trans (c1.2.1 x h1 h2), c1.2.2⟩ d1
theorem y_newO (C : Cx Ω κ own cc) {z : Int} {n : Nat} (w : Cond.classLink own idx "java/lang/Object" ∈ AW) (dg : decode cc pc = .ok (.anewarray idx, 3)) (hz : z = n) (hb : n ≤ 100000) (hc : cs + 1 ≤ (kR κ).cells) (hs : sl + n ≤ (kR κ).slots)
    (kk : ∀ a : Nat, Y Ω κ (fun h => ∃ h0, Φ h0 ∧ h0 a = none ∧ hR a = none ∧ h = hset h0 a (.inl (OmO Ω, n, .inr (.inr (.inr (.inr (fun _ => none))))))) hR (cs + 1) (sl + n) (pc + 3) L (.ref a :: st)) : Y Ω κ Φ hR cs sl pc L (.int (iv z) :: st) := by
  intro h H locs ls a1 b1 c1 d1
  subst hz
  have hsz : OmB Ω ≤ H.size := Nat.le_trans C.2.2.2.2.2.1.2.1 c1.1
  have hcl : (nI n).toNatClampNeg = n := nI_clamp (by omega)
  rw [iv_nI]
  refine W.anew C.1 C.2.1 C.2.2.2.1 (C.2.2.2.2.1 _ w) (va_AO.use C.2.2.2.2.2.1.2.2.2.2.2.1) rfl dg rfl (nI_pos (by omega)) (by rw [hcl]; omega) hc (by rw [hcl]; exact hs) fun cA kA comp f1 f2 f3 f4 => ?_
  rw [hcl]
  obtain ⟨kB, cB, g1, g2, g3, g4⟩ := (C.2.2.2.2.2.1.1.2 2 _ rfl).2
  have hA : cA = OmO Ω := Option.some.inj (f1.symm.trans g4)
  subst hA
  generalize hH1 : H.push ({ cls := OmO Ω, slots := Array.replicate n .null, vm := .none } : Cell) = H1
  have z1 : H1.size = H.size + 1 := by rw [← hH1, Array.size_push]
  have e1 : H1[H.size]? = some (arrV (OmO Ω) n (fun _ => .null)) := by rw [← hH1, Array.getElem?_push_size, ← arrV_new]
  have o1 : ∀ q : Nat, q < H.size → H1[q]? = H[q]? := fun q hq => by rw [← hH1, Array.getElem?_push, if_neg (Nat.ne_of_lt hq)]
  exact kk H.size _ H1 _ _ ⟨h, a1, b1.1.new, b1.2.1.new, rfl⟩ (b1.push hsz (e := .inl (OmO Ω, n, .inr (.inr (.inr (.inr (fun _ => none)))))) e1 o1) ⟨Nat.le_trans c1.1 (by omega), fun x h1 h2 => (o1 x (Nat.lt_of_lt_of_le h1 c1.1)).trans (c1.2.1 x h1 h2), c1.2.2⟩ d1
/-- a cast to the object's own class -/
theorem y_cast (C : Cx Ω κ own cc) {qc : vw_C} (hci : vwCl[ci]? = some qc) (w : Cond.classLink own idx qc.1 ∈ AW) (dg : decode cc pc = .ok (.checkcast idx, 3)) (hΦ : ∀ h, Φ h → ∃ fs, h a = some (.inr (ci, fs))) (kk : Y Ω κ Φ hR cs sl (pc + 3) L (.ref a :: st)) : Y Ω κ Φ hR cs sl pc L (.ref a :: st) := by
  intro h H locs ls a1 b1 c1 d1
  obtain ⟨fs, e1⟩ := hΦ h a1
  have hK := C.2.2.2.2.2.1.1
  exact va_castS C.1 C.2.1 C.2.2.2.1 (C.2.2.2.2.1 _ w) (hK.1 ci qc hci).2 (va_recv hK (b1.1.P e1) (q0 := 0) hci rfl) dg (kk h H locs ls a1 b1 c1 d1)
end YHEAP

