/-! rows for the lists' own work -/
def cmb (h hR : AH) : AH := fun q => match h q with
  | some e => some e
  | none => hR q
def wsL (h hR : AH) (n : Nat) : List (Nat × va_E) := (List.range n).filterMap (fun q => (cmb h hR q).map (fun e => (q, e)))
theorem wsL_mem {h hR : AH} {n q : Nat} {e : va_E} : (q, e) ∈ wsL h hR n ↔ q < n ∧ cmb h hR q = some e := by
  unfold wsL
  rw [List.mem_filterMap]
  constructor
  · rintro ⟨p, hp, hq⟩
    rw [Option.map_eq_some_iff] at hq
    obtain ⟨x, hx, hy⟩ := hq
    cases hy
    exact ⟨List.mem_range.mp hp, hx⟩
  · rintro ⟨hp, hq⟩
    exact ⟨q, List.mem_range.mpr hp, by rw [hq]; rfl⟩
theorem wsL_pw {h hR : AH} {n : Nat} : (wsL h hR n).Pairwise (fun a b => a.1 < b.1) := by
  refine List.Pairwise.filterMap _ ?_ List.pairwise_lt_range
  intro a a' hlt b hb b' hb'
  rw [Option.map_eq_some_iff] at hb hb'
  obtain ⟨x, -, rfl⟩ := hb
  obtain ⟨y, -, rfl⟩ := hb'
  exact hlt
theorem wsL_inj {h hR : AH} {n i j : Nat} {p q : Nat × va_E} (h1 : (wsL h hR n)[i]? = some p) (h2 : (wsL h hR n)[j]? = some q) (e : p.1 = q.1) : i = j := by
  obtain ⟨i1, e1⟩ := List.getElem?_eq_some_iff.mp h1
  obtain ⟨j1, e2⟩ := List.getElem?_eq_some_iff.mp h2
  have pw := List.pairwise_iff_getElem.mp (wsL_pw (h := h) (hR := hR) (n := n))
  rcases Nat.lt_trichotomy i j with w | w | w
  · have := pw i j i1 j1 w; rw [e1, e2] at this; omega
  · exact w
  · have := pw j i j1 i1 w; rw [e1, e2] at this; omega
section YJDK
variable {Ω : OmT} {κ : KxT} {Φ Φ' : AH → Prop} {hR : AH} {cs sl pc : Nat} {L : List (Nat × Value)} {st : List Value} {own : String} {cc : ByteArray} {idx : Nat}
theorem wsL_at {h : AH} {H : Heap} (r : Rel Ω h hR H) {q : Nat} {e : va_E} (hq : h q = some e ∨ hR q = some e) : ∃ k : Nat, (wsL h hR H.size)[k]? = some (q, e) := by
  have m : (q, e) ∈ wsL h hR H.size := by
    refine wsL_mem.mpr ⟨?_, ?_⟩
    · rcases hq with w | w
      · exact r.1.lt w
      · exact r.2.1.lt w
    · unfold cmb
      rcases hq with w | w
      · rw [w]
      · cases z : h q with
        | none => exact w
        | some x => have := r.2.2 q (by rw [z]; exact fun w => by cases w); rw [w] at this; cases this
  exact List.getElem?_of_mem m
theorem wsL_P {h : AH} {H : Heap} (r : Rel Ω h hR H) : va_P (OmD Ω) vwCl (wsL h hR H.size) H ∧ va_D (OmA Ω) (wsL h hR H.size) := by
  have k : ∀ (i : Nat) (p : Nat × va_E), (wsL h hR H.size)[i]? = some p → OmB Ω ≤ p.1 ∧ va_at (OmD Ω) vwCl p H := by
    intro i p hp
    have m := (wsL_mem (h := h) (hR := hR) (n := H.size) (q := p.1) (e := p.2)).mp (List.mem_of_getElem? hp)
    have m2 := m.2
    unfold cmb at m2
    cases z : h p.1 with
    | none => rw [z] at m2; exact r.2.1 _ _ m2
    | some x => rw [z] at m2; cases m2; exact r.1 _ _ z
  exact ⟨fun i p hp => (k i p hp).2, fun i j p q hp hq e => wsL_inj hp hq e, fun i p hp => (k i p hp).1⟩
set_option maxHeartbeats 4000000 in
theorem y_copyO (C : Cx Ω κ own cc) {a0 a n co : Nat} {qc : vw_C} (w1 : Cond.methodLink own idx arraycopyName ∈ AW) (w2 : Cond.native arraycopyName ∈ AW) (w3 : Cond.static arraycopyName ∈ AW) (w4 : Cond.initialized "java/lang/System" ∈ AW) (hco : vwCl[co]? = some qc) (hcast : Cond.castable qc.1 "java/lang/Object" ∈ NW) (dg : decode cc pc = .ok (.invokestatic idx, 3)) (hf : 1 ≤ (kR κ).frames) (hl : (st.map fun v => v.category).sum + (nativeFrameWords "java/lang/System" "arraycopy" 5 + 11) ≤ (kR κ).locals) (hn : n < 2147483648)
    (hΦ : ∀ h, Φ h → ∃ (n0 n1 : Nat) (f g : Nat → Option Nat), h a0 = some (.inl (OmO Ω, n0, .inr (.inr (.inr (.inr f))))) ∧ h a = some (.inl (OmO Ω, n1, .inr (.inr (.inr (.inr g))))) ∧ n ≤ n0 ∧ n ≤ n1 ∧ (∀ i, i < n → ∀ y, f i = some y → ∃ vs, h y = some (.inr (co, vs))) ∧ Φ' (hset h a (.inl (OmO Ω, n1, .inr (.inr (.inr (.inr (va_cpy f g 0 0 n))))))))
    (kk : Y Ω κ Φ' hR cs sl (pc + 3) L st) : Y Ω κ Φ hR cs sl pc L (.int (iv n) :: .int (iv 0) :: .ref a :: .int (iv 0) :: .ref a0 :: st) := by
  intro h H locs ls a1 b1 c1 d1
  obtain ⟨n0, n1, f, g, e1, e2, e3, e4, e5, e6⟩ := hΦ h a1
  have hts := C.2.2.2.2.1
  have hK := C.2.2.2.2.2.1.1
  obtain ⟨q0, g0⟩ := wsL_at b1 (Or.inl e1)
  obtain ⟨q1, g1⟩ := wsL_at b1 (Or.inl e2)
  have PD := wsL_P b1
  have z0 : (iv 0).toNatClampNeg = 0 := iv_cl (by decide) (by decide)
  have zn : (iv n).toNatClampNeg = n := iv_cl (by omega) (by omega)
  have nn : ∀ z : Int, 0 ≤ z → z < 2147483648 → ¬ iv z < 0 := fun z h1 h2 w => by rw [← iv_0, iv_lt (by omega) h2 (by decide) (by decide)] at w; omega
  obtain ⟨c0, t1, f1, f2, f3⟩ := Cond.castable_spec (va_Nw.use (A := ka κ) rfl (C.2.2.2.2.2.1.2.2.2.1 _ hcast))
  refine va_copyq (A := OmA Ω) (C := qc.1) C.1 C.2.1 (by rw [C.2.2.1]; exact d1.1.symm) C.2.2.2.1 (hts _ w1) (hts _ w2) (hts _ w3) (hts _ w4) hK PD.1 PD.2 c1 q0 q1 2 2 g0 g1 rfl rfl (nn 0 (by decide) (by decide)) (nn 0 (by decide) (by decide)) (nn n (by omega) (by omega)) (by rw [z0, zn]; omega) (by rw [z0, zn]; omega) ?_ ?_ hf hl dg ?_
  · intro i hi y hy
    rw [zn] at hi
    rw [z0, Nat.zero_add] at hy
    obtain ⟨vs, hv⟩ := e5 i hi y hy
    obtain ⟨r', hr', cellV, k1, k2, k3, -⟩ := (b1.1 y _ hv).2
    refine ⟨cellV, k1, by rw [k3]; rfl, ?_⟩
    rw [k2]
    exact (hK.1 co qc hco).2.1
  · intro comp x0 h1 h2
    cases h1.symm.trans f2
    cases h2.symm.trans f1
    exact f3
  · intro H1 locs1 P1 D1 S1
    rw [z0, zn] at P1
    have hlt : q1 < (wsL h hR H.size).length := (List.getElem?_eq_some_iff.mp g1).1
    have at_ : ∀ b x, b ≠ a → (h b = some x ∨ hR b = some x) → va_at (OmD Ω) vwCl (b, x) H1 := by
      intro b x hb hx
      obtain ⟨k, gk⟩ := wsL_at b1 hx
      have hk : k ≠ q1 := fun w => by rw [w, g1] at gk; cases gk; exact hb rfl
      exact P1 k _ (by rw [List.getElem?_set_ne (fun w => hk w.symm)]; exact gk)
    refine kk (hset h a (.inl (OmO Ω, n1, .inr (.inr (.inr (.inr (va_cpy f g 0 0 n))))))) H1 locs1 _ e6 ⟨fun b x hb => ?_, fun b x hb => ⟨(b1.2.1 b x hb).1, at_ b x (fun w => ?_) (Or.inr hb)⟩, fun b hb => ?_⟩ S1 d1
    · by_cases w : b = a
      · subst w; rw [hset_s] at hb; cases hb
        exact ⟨(b1.1 b _ e2).1, P1 q1 _ (by rw [List.getElem?_set_self hlt])⟩
      · rw [hset_n w] at hb; exact ⟨(b1.1 b x hb).1, at_ b x w (Or.inl hb)⟩
    · have := b1.2.2 a (by rw [e2]; exact fun z => by cases z)
      rw [w, this] at hb; cases hb
    · by_cases w : b = a
      · subst w; exact b1.2.2 b (by rw [e2]; exact fun z => by cases z)
      · rw [hset_n w] at hb; exact b1.2.2 b hb
theorem y_getC (C : Cx Ω κ own cc) {a : Nat} (w1 : Cond.methodLink own idx ⟨"java/lang/Object", "getClass", "()Ljava/lang/Class;"⟩ ∈ AW) (w2 : Cond.declares ⟨"java/lang/Object", "getClass", "()Ljava/lang/Class;"⟩ ∈ NW) (w3 : Cond.selects "[Ljava/lang/Object;" ⟨"java/lang/Object", "getClass", "()Ljava/lang/Class;"⟩ ⟨"java/lang/Object", "getClass", "()Ljava/lang/Class;"⟩ ∈ AW) (w4 : Cond.instanceMethod ⟨"java/lang/Object", "getClass", "()Ljava/lang/Class;"⟩ ∈ AW) (w5 : Cond.native ⟨"java/lang/Object", "getClass", "()Ljava/lang/Class;"⟩ ∈ AW)
    (dg : decode cc pc = .ok (.invokevirtual idx, 3)) (hf : 1 ≤ (kR κ).frames) (hl : (st.map fun v => v.category).sum + 14 ≤ (kR κ).locals) (hΦ : ∀ h, Φ h → ∃ (n : Nat) (f : Nat → Option Nat), h a = some (.inl (OmO Ω, n, .inr (.inr (.inr (.inr f)))))) (kk : Y Ω κ Φ hR cs sl (pc + 3) L (.ref (OmM Ω) :: st)) : Y Ω κ Φ hR cs sl pc L (.ref a :: st) := by
  intro h H locs ls a1 b1 c1 d1
  obtain ⟨n, f, e1⟩ := hΦ h a1
  have hts := C.2.2.2.2.1
  have hW := C.2.2.2.2.2.1
  obtain ⟨kA, comp, k1, k2, k3, k4⟩ := (hW.1.2 2 _ rfl).2
  refine va_getC C.1 C.2.1 (by rw [C.2.2.1]; exact d1.1.symm) C.2.2.2.1 (hts _ w1) (va_Nw.use (nw_on w2) (hW.2.2.2.1 _ w2)) (hts _ w3) (hts _ w4) (hts _ w5) hW.2.2.2.2.2.2.1 ⟨_, (b1.1 a _ e1).2, rfl, k4⟩ hf hl dg (kk h H locs ls a1 b1 c1 d1)
theorem y_ldcM (C : Cx Ω κ own cc) (w1 : Cond.classLink own idx "[Ljava/lang/Object;" ∈ AW) (dg : decode cc pc = .ok (.ldc idx, 2)) (kk : Y Ω κ Φ hR cs sl (pc + 2) L (.ref (OmM Ω) :: st)) : Y Ω κ Φ hR cs sl pc L st := by
  intro h H locs ls a1 b1 c1 d1
  exact va_ldcM C.1 C.2.1 C.2.2.2.1 (C.2.2.2.2.1 _ w1) C.2.2.2.2.2.1.2.2.2.2.2.2.1 dg (kk h H locs ls a1 b1 c1 d1)
theorem y_empty (C : Cx Ω κ own cc) (w1 : Cond.fieldLink own idx "java/util/ArrayList" "DEFAULTCAPACITY_EMPTY_ELEMENTDATA" "[Ljava/lang/Object;" ∈ AW) (dg : decode cc pc = .ok (.getstatic idx, 3)) (kk : Y Ω κ Φ hR cs sl (pc + 3) L (.ref (OmE Ω) :: st)) : Y Ω κ Φ hR cs sl pc L st := by
  intro h H locs ls a1 b1 c1 d1
  exact va_gets C.1 C.2.1 C.2.2.2.2.2.1.2.2.2.2.2.2.2.2.2.1 c1 C.2.2.2.1 (C.2.2.2.2.1 _ w1) (fun x hx => hx) dg (kk h H locs ls a1 b1 c1 d1)
theorem y_acmp_eq (C : Cx Ω κ own cc) {x y : Nat} {off : Int} {tgt : Nat} (dg : decode cc pc = .ok (.if_acmp .eq off, 3)) (ht : (pc : Int) + off = (tgt : Int)) (kt : x = y → Y Ω κ Φ hR cs sl tgt L st) (kf : ¬ x = y → Y Ω κ Φ hR cs sl (pc + 3) L st) : Y Ω κ Φ hR cs sl pc L (.ref y :: .ref x :: st) :=
  fun h H locs ls a b c d => lv_acmp_eq (rx := some x) (ry := some y) C.1 C.2.1 dg ht (fun q => kt (Option.some.inj q) h H locs ls a b c d) (fun q => kf (fun z => q (by rw [z])) h H locs ls a b c d)
theorem y_acmp_ne (C : Cx Ω κ own cc) {x y : Nat} {off : Int} {tgt : Nat} (dg : decode cc pc = .ok (.if_acmp .ne off, 3)) (ht : (pc : Int) + off = (tgt : Int)) (kt : ¬ x = y → Y Ω κ Φ hR cs sl tgt L st) (kf : x = y → Y Ω κ Φ hR cs sl (pc + 3) L st) : Y Ω κ Φ hR cs sl pc L (.ref y :: .ref x :: st) :=
  fun h H locs ls a b c d => lv_acmp_ne (rx := some x) (ry := some y) C.1 C.2.1 dg ht (fun q => kt (fun z => q (by rw [z])) h H locs ls a b c d) (fun q => kf (Option.some.inj q) h H locs ls a b c d)
theorem y_ishr1 (C : Cx Ω κ own cc) {x : Int} (dg : decode cc pc = .ok (.ishr, 1)) (h0 : 0 ≤ x) (h1 : x < 100) (k : Y Ω κ Φ hR cs sl (pc + 1) L (.int (iv (x / 2)) :: st)) : Y Ω κ Φ hR cs sl pc L (.int (iv 1) :: .int (iv x) :: st) := by
  have e : ∀ m : Nat, m < 100 → iv m >>> (iv 1 &&& 31) = iv ((m : Int) / 2) := by decide
  obtain ⟨m, rfl⟩ := Int.eq_ofNat_of_zero_le h0
  exact fun h H locs ls a b c d => lv_ishr C.1 C.2.1 dg (by rw [e m (by omega)]; exact k h H locs ls a b c d)
end YJDK

