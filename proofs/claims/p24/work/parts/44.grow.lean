/-! the class's house grows -/
def LaO (Ω : OmT) (lay : Nat → Nat → Nat) : Prop := lay 0 1 ≠ lay 0 2 ∧ lay 0 1 ≠ lay 0 3 ∧ lay 0 2 ≠ lay 0 3 ∧ (lay 6 1 = lay 6 2 → lay 6 1 = OmE Ω) ∧ (lay 6 1 = lay 6 3 → lay 6 1 = OmE Ω) ∧ (lay 6 2 = lay 6 3 → lay 6 2 = OmE Ω)
/-- nothing is told of what isn't there yet -/
def Bl (σ : ZT) (τ : JT) (ns nc : Nat) : Prop := (∀ k, ns ≤ k → σ 5 k = 0 ∧ σ 10 k = 0 ∧ σ 11 k = 0 ∧ σ 12 k = 0) ∧ (∀ c, nc ≤ c → σ 21 c = 0 ∧ σ 36 c = 0 ∧ σ 37 c = 0 ∧ σ 38 c = 0 ∧ σ 39 c = 0 ∧ τ 22 c = 0 ∧ τ 23 c = 0 ∧ τ 24 c = 0 ∧ ∀ j, j < 64 → σ 25 (64 * c + j) = 0)
def lU (lay : Nat → Nat → Nat) (q i a : Nat) : Nat → Nat → Nat := fun p j => if p = q then (if j = i then a else lay p j) else lay p j
theorem lU_s {lay : Nat → Nat → Nat} {q i a : Nat} : lU lay q i a q i = a := by unfold lU; rw [if_pos rfl, if_pos rfl]
theorem lU_p {lay : Nat → Nat → Nat} {q i a p j : Nat} (h : p ≠ q) : lU lay q i a p j = lay p j := if_neg h
theorem lU_f {lay : Nat → Nat → Nat} {q i a p : Nat} (h : p ≠ q) : lU lay q i a p = lay p := funext fun j => if_neg h
theorem lU_j {lay : Nat → Nat → Nat} {q i a j : Nat} (h : j ≠ i) : lU lay q i a q j = lay q j := by unfold lU; rw [if_pos rfl, if_neg h]
theorem Y.nE {Ω : OmT} {κ : KxT} {Φ : AH → Prop} {hR : AH} {cs sl pc : Nat} {L : List (Nat × Value)} {st : List Value} {own : String} {cc : ByteArray} (C : Cx Ω κ own cc) (k : Y Ω κ (fun h => h (OmE Ω) = none ∧ Φ h) hR cs sl pc L st) : Y Ω κ Φ hR cs sl pc L st := fun h H locs ls a1 b1 c1 d1 => by
  refine k h H locs ls ⟨?_, a1⟩ b1 c1 d1
  cases q : h (OmE Ω) with
  | none => rfl
  | some e =>
    have w := (b1.1 _ e q).1
    have z := C.2.2.2.2.2.1.2.2.2.2.2.2.2.2.2.2.2.2
    omega
section GROW
variable {Ω : OmT} {lay : Nat → Nat → Nat} {ms ns nc nl a a1 cap : Nat} {σ s : ZT} {τ t : JT} {h : AH} {ξ : XiT}
theorem InvC.d (i : InvC Ω lay ms ns nc nl ξ σ τ h) (hg : ∀ f, f ∈ [1, 15] → s f 0 = σ f 0) (hgj : ∀ f, f ∈ [33, 34, 35] → t f 0 = τ f 0) (hs : ∀ k, k < ms → StF s t k = StF σ τ k) (hc : ∀ c, c < nc → CuF lay s t c = CuF lay σ τ c ∧ NF s c = NF σ c) (hl : ∀ k, k < nl → LwF s k = LwF σ k) : InvC Ω lay ms ns nc nl ξ s t h := by
  obtain ⟨h1, h2, h3, h4, h5, h6, h7, h8, h9, h10, h11, h12⟩ := i
  exact ⟨by rw [GaF_c hg hgj]; exact h1, h2, h3, h4, h5, h6, fun k hk => by rw [hs k hk]; exact h7 k hk, fun c hc9 => by rw [(hc c hc9).1]; exact h8 c hc9, h9, fun c hc9 => by rw [(hc c hc9).2]; exact h10 c hc9, fun k hk => by rw [hl k hk]; exact h11 k hk, h12⟩
theorem LiC.el {l e n : Nat} {el el' : Nat → Nat} (i : LiC Ω l e n el h) (q : ∀ k, k < n → el' k = el k) : LiC Ω l e n el' h := by
  obtain ⟨mc, cap, g, h1, h2⟩ := i
  exact ⟨mc, cap, g, h1, h2.imp id (fun w => ⟨w.1, w.2.1, w.2.2.1, w.2.2.2.1, fun k hk => by rw [q k hk]; exact w.2.2.2.2 k hk⟩)⟩
theorem LiC.new {l e n : Nat} {el : Nat → Nat} {x : va_E} (i : LiC Ω l e n el h) (ha : h a = none) : LiC Ω l e n el (hset h a x) := by
  obtain ⟨mc, cap, g, h1, h2⟩ := i
  exact ⟨mc, cap, g, by rw [hset_n (nn_of h1 ha)]; exact h1, h2.imp id (fun w => ⟨w.1, w.2.1, w.2.2.1, by rw [hset_n (nn_of w.2.2.2.1 ha)]; exact w.2.2.2.1, w.2.2.2.2⟩)⟩
theorem InvC.newS (v : InvC Ω lay ns ns nc nl ξ σ τ h) (ha : h a = none) (hs : ∀ f, f ∉ [3, 4, 5, 6, 7, 8, 9, 10, 11, 12] → s f = σ f) (hk : ∀ f k, k ≠ ns → s f k = σ f k) (ht : ∀ f, f ≠ 13 → t f = τ f) (htk : ∀ k, k ≠ ns → t 13 k = τ 13 k) : InvC Ω (lU lay 1 ns a) (ns + 1) ns nc nl ξ s t (hset h a (.inr (4, StF s t ns))) := by
  obtain ⟨h1, h2, h3, h4, h5, h6, h7, h8, h9, h10, h11, h12⟩ := v
  have k : ∀ {b : Nat} {e : va_E}, h b = some e → hset h a (.inr (4, StF s t ns)) b = some e := fun hb => by rw [hset_n (nn_of hb ha)]; exact hb
  have e : ∀ l : List Nat, (∀ f, f ∈ l → f ∉ [3, 4, 5, 6, 7, 8, 9, 10, 11, 12]) → ∀ k' f, f ∈ l → s f k' = σ f k' := fun l hl k' f hf => by rw [hs f (hl f hf)]
  refine ⟨?_, (h2.new ha).el (fun i hi => lU_j (by omega)), ?_, ?_, k h5, k h6, fun i hi => ?_, fun c hc => ?_, fun c hc => k (h9 c hc), fun c hc => ?_, fun i hi => ?_, fun i j hi hj e9 => ?_, h12.2.1, h12.2.2.1, h12.2.2.2⟩
  · rw [show GaF (lU lay 1 ns a) ξ s t = GaF lay ξ s t from rfl, GaF_c (e [1, 15] (by decide) 0) (fun f hf => by rw [ht f (by intro z; subst z; revert hf; decide)])]; exact k h1
  · rw [lU_f (p := 2) (by omega)]; exact h3.new ha
  · rw [lU_f (p := 5) (by omega)]; exact h4.new ha
  · by_cases q : i = ns
    · subst q; rw [lU_s, hset_s]
    · rw [lU_j q, StF_c (fun f _ => hk f i q) (htk i q)]; exact k (h7 i (by omega))
  · rw [show CuF (lU lay 1 ns a) s t c = CuF lay s t c from rfl, CuF_c (e _ (by decide) c) (by rw [hs 36 (by decide), hs 37 (by decide)]) (fun f hf => by rw [ht f (by intro z; subst z; revert hf; decide)])]; exact k (h8 c hc)
  · rw [NF_c (hs 25 (by decide))]; exact k (h10 c hc)
  · rw [LwF_c (e _ (by decide) i)]; exact k (h11 i hi)
  · by_cases q : i = ns
    · by_cases r : j = ns
      · rw [q, r]
      · subst q; rw [lU_s, lU_j r] at e9
        exact absurd e9.symm (nn_of (h7 j (by omega)) ha)
    · by_cases r : j = ns
      · subst r; rw [lU_s, lU_j q] at e9
        exact absurd e9 (nn_of (h7 i (by omega)) ha)
      · rw [lU_j q, lU_j r] at e9; exact h12.1 i j (by omega) (by omega) e9
/-- what a list's growing leaves -/
theorem hset2_k {b l1 : Nat} {y x O A : va_E} (hb : h b = some y) (k1 : kd y ≠ 10) (k2 : kd y ≠ 2) (hl : h l1 = some x) (kx : kd x = 10) (ha : h a1 = none ∨ ∃ z, h a1 = some z ∧ kd z = 2) : hset (hset h a1 A) l1 O b = some y := by
  rw [hset_n (fun q => by rw [q, hl] at hb; cases hb; exact k1 kx), hset_n (fun q => by
    rcases ha with w | ⟨z, w, kz⟩
    · rw [q, w] at hb; cases hb
    · rw [q, w] at hb; cases hb; exact k2 kz)]
  exact hb
theorem LiC.oth {l e n l1 : Nat} {el : Nat → Nat} {x O A : va_E} (i : LiC Ω l e n el h) (hE : h (OmE Ω) = none) (hll : l ≠ l1) (hl : h l1 = some x) (kx : kd x = 10) (ha : h a1 = none ∨ ∃ z, h a1 = some z ∧ kd z = 2) (hea : e = a1 → e = OmE Ω) : LiC Ω l e n el (hset (hset h a1 A) l1 O) := by
  obtain ⟨mc, cap, g, h1, h2⟩ := i
  have la : l ≠ a1 := fun q => by
    rcases ha with w | ⟨z, w, kz⟩
    · rw [q, w] at h1; cases h1
    · rw [q, w] at h1; cases h1; cases kz
  refine ⟨mc, cap, g, by rw [hset_n hll, hset_n la]; exact h1, h2.imp id (fun w => ⟨w.1, w.2.1, w.2.2.1, ?_, w.2.2.2.2⟩)⟩
  have w4 := w.2.2.2.1
  rw [hset_n (fun q => by rw [q, hl] at w4; cases w4; cases kx), hset_n (fun q => by rw [hea q, hE] at w4; cases w4)]
  exact w4
theorem LiC.add {l n b : Nat} {el : Nat → Nat} {mc : Int32} {g : Nat → Option Nat} (c1 : n + 1 ≤ cap) (c2 : 10 ≤ cap) (c3 : cap ≤ 40) (hg : ∀ i, i < n → g i = some (el i)) (hb : g n = some b) (heb : el n = b) (hal : a1 ≠ l) : LiC Ω l a1 (n + 1) el (hset (hset h a1 (oA Ω cap g)) l (lO mc a1 ((n : Int) + 1))) := by
  refine ⟨mc, cap, g, by rw [hset_s]; rfl, Or.inr ⟨c1, c2, c3, by rw [hset_n hal, hset_s]; rfl, fun i hi => ?_⟩⟩
  by_cases q : i = n
  · rw [q, hb, heb]
  · exact hg i (by omega)
/-- the list at place q grows by b -/
def AddR (hR : AH) (Ω : OmT) (l e n b : Nat) (el : Nat → Nat) (h0 h : AH) (a1 cap : Nat) (g : Nat → Option Nat) (mc : Int32) : Prop := ((a1 = e ∧ ∃ c2 g2, h0 e = some (oA Ω c2 g2)) ∨ (h0 a1 = none ∧ hR a1 = none)) ∧ n + 1 ≤ cap ∧ 10 ≤ cap ∧ cap ≤ 40 ∧ (∀ i, i < n → g i = some (el i)) ∧ g n = some b ∧ h = hset (hset h0 a1 (oA Ω cap g)) l (lO mc a1 ((n : Int) + 1))
theorem LiC.pre {l e n : Nat} {el : Nat → Nat} (i : LiC Ω l e n el h) : ∃ mc, h l = some (lO mc e n) ∧ ((n = 0 ∧ e = OmE Ω) ∨ (∃ cap f, n ≤ cap ∧ 10 ≤ cap ∧ cap ≤ 40 ∧ h e = some (oA Ω cap f) ∧ ∀ i, i < n → f i = some (el i))) := by
  obtain ⟨mc, cap, g, h1, h2⟩ := i
  exact ⟨mc, h1, h2.imp id (fun w => ⟨cap, g, w⟩)⟩
theorem addr_a {hR : AH} {l e n b : Nat} {el : Nat → Nat} {h0 : AH} {g : Nat → Option Nat} {mc m0 : Int32} (r : AddR hR Ω l e n b el h0 h a1 cap g mc) (hl : h0 l = some (lO m0 e n)) : (h0 a1 = none ∨ ∃ z, h0 a1 = some z ∧ kd z = 2) ∧ a1 ≠ l := by
  obtain ⟨r1, -⟩ := r
  rcases r1 with ⟨q, c2, g2, q2⟩ | ⟨q, -⟩
  · refine ⟨Or.inr ⟨_, by rw [q]; exact q2, rfl⟩, fun w => ?_⟩
    rw [← q, w, hl] at q2; cases q2
  · exact ⟨Or.inl q, fun w => by rw [w, hl] at q; cases q⟩
theorem lao_1 {hR : AH} {n b l e : Nat} {el : Nat → Nat} {h0 : AH} {g : Nat → Option Nat} {mc : Int32} {x : Nat} (r : AddR hR Ω l e n b el h0 h a1 cap g mc) (hE : h0 (OmE Ω) = none) {n2 : Nat} {l2 : Nat} {el2 : Nat → Nat} (i : LiC Ω l2 x n2 el2 h0) (q : e = x → e = OmE Ω) : x = a1 → x = OmE Ω := by
  intro w
  rcases r.1 with ⟨q1, c2, g2, q2⟩ | ⟨q1, -⟩
  · have e1 : e = x := by rw [w, q1]
    have e2 := q e1
    rw [e2, hE] at q2; cases q2
  · obtain ⟨mc, cap, g, h1, h2⟩ := i
    rcases h2 with ⟨-, e2⟩ | w2
    · exact e2
    · have w4 := w2.2.2.2.1
      rw [w, q1] at w4; cases w4
theorem InvC.addS {hR : AH} {g : Nat → Option Nat} {mc : Int32} {h0 : AH} (v : InvC Ω lay (ns + 1) ns nc nl ξ σ τ h0) (lo : LaO Ω lay) (hE : h0 (OmE Ω) = none) (r : AddR hR Ω (lay 0 1) (lay 6 1) ns (lay 1 ns) (lay 1) h0 h a1 cap g mc) : ∃ lay2, lay2 0 0 = lay 0 0 ∧ LaO Ω lay2 ∧ InvC Ω lay2 (ns + 1) (ns + 1) nc nl ξ σ τ h := by
  obtain ⟨h1, h2, h3, h4, h5, h6, h7, h8, h9, h10, h11, h12⟩ := v
  obtain ⟨m0, hl, -⟩ := h2.pre
  have ra := addr_a r hl
  have r0 := r
  obtain ⟨-, c1, c2, c3, hg, hb, rfl⟩ := r
  have k : ∀ {b : Nat} {y : va_E}, h0 b = some y → kd y ≠ 10 → kd y ≠ 2 → hset (hset h0 a1 (oA Ω cap g)) (lay 0 1) (lO mc a1 ((ns : Int) + 1)) b = some y := fun hb k1 k2 => hset2_k hb k1 k2 hl rfl ra.1
  have q2 := lao_1 r0 hE h3 lo.2.2.2.1
  have q3 := lao_1 r0 hE h4 lo.2.2.2.2.1
  refine ⟨lU lay 6 1 a1, rfl, ⟨lo.1, lo.2.1, lo.2.2.1, fun e => ?_, fun e => ?_, lo.2.2.2.2.2⟩, k h1 (by simp [kd]) (by simp [kd]), ?_, ?_, ?_, k h5 (by simp [kd]) (by simp [kd]), k h6 (by simp [kd]) (by simp [kd]), fun i hi => k (h7 i hi) (by simp [kd]) (by simp [kd]), fun c hc => k (h8 c hc) (by simp [kd]) (by simp [kd]), fun c hc => k (h9 c hc) (by simp [kd]) (by simp [kd]), fun c hc => k (h10 c hc) (by simp [kd]) (by simp [kd]), fun i hi => k (h11 i hi) (by simp [kd]) (by simp [kd]), h12⟩
  · have e' : a1 = lay 6 2 := e
    show a1 = OmE Ω
    rw [e']; exact q2 e'.symm
  · have e' : a1 = lay 6 3 := e
    show a1 = OmE Ω
    rw [e']; exact q3 e'.symm
  · exact LiC.add c1 c2 c3 hg hb rfl ra.2
  · exact h3.oth hE (fun q => lo.1 q.symm) hl rfl ra.1 q2
  · exact h4.oth hE (fun q => lo.2.1 q.symm) hl rfl ra.1 q3
theorem InvC.fresh (v : InvC Ω lay ms ns nc nl ξ σ τ h) (ha : h a = none) {x : va_E} : InvC Ω lay ms ns nc nl ξ σ τ (hset h a x) := by
  obtain ⟨h1, h2, h3, h4, h5, h6, h7, h8, h9, h10, h11, h12⟩ := v
  have k : ∀ {b : Nat} {e : va_E}, h b = some e → hset h a x b = some e := fun hb => by rw [hset_n (nn_of hb ha)]; exact hb
  exact ⟨k h1, h2.new ha, h3.new ha, h4.new ha, k h5, k h6, fun i hi => k (h7 i hi), fun c hc => k (h8 c hc), fun c hc => k (h9 c hc), fun c hc => k (h10 c hc), fun i hi => k (h11 i hi), h12⟩
theorem InvC.rl (v : InvC Ω lay ms ns nc nl ξ σ τ h) (hms : ns ≤ ms) {la : Nat → Nat → Nat} (e0 : la 0 = lay 0) (e6 : la 6 = lay 6) (e1 : ∀ i, i < ms → la 1 i = lay 1 i) (e2 : ∀ i, i < nc → la 2 i = lay 2 i) (e3 : ∀ i, i < nc → la 3 i = lay 3 i) (e4 : ∀ i, i < nc → la 4 i = lay 4 i) (e5 : ∀ i, i < nl → la 5 i = lay 5 i) : InvC Ω la ms ns nc nl ξ σ τ h := by
  obtain ⟨h1, h2, h3, h4, h5, h6, h7, h8, h9, h10, h11, h12⟩ := v
  refine ⟨by unfold GaF; rw [e0]; exact h1, by rw [e0, e6]; exact h2.el (fun i hi => e1 i (by omega)), by rw [e0, e6]; exact h3.el e2, by rw [e0, e6]; exact h4.el e5, by rw [e0]; exact h5, by rw [e0]; exact h6, fun i hi => by rw [e1 i hi]; exact h7 i hi, fun c hc => by unfold CuF; rw [e2 c hc, e3 c hc]; exact h8 c hc, fun c hc => by rw [e3 c hc, e4 c hc]; exact h9 c hc, fun c hc => by rw [e4 c hc]; exact h10 c hc, fun i hi => by rw [e5 i hi]; exact h11 i hi, fun i j hi hj w => ?_, fun i j hi hj w => ?_, fun i j hi hj w => ?_, fun i hi => ?_⟩
  · rw [e1 i hi, e1 j hj] at w; exact h12.1 i j hi hj w
  · rw [e2 i hi, e2 j hj] at w; exact h12.2.1 i j hi hj w
  · rw [e4 i hi, e4 j hj] at w; exact h12.2.2.1 i j hi hj w
  · rw [e4 i hi, e0]; exact h12.2.2.2 i hi
theorem InvC.addC {hR : AH} {g : Nat → Option Nat} {mc : Int32} {h0 : AH} (v : InvC Ω lay ms ns nc nl ξ σ τ h0) (lo : LaO Ω lay) (hE : h0 (OmE Ω) = none) (hc0 : h0 (lay 2 nc) = some (.inr (1, CuF lay σ τ nc))) (hh0 : h0 (lay 3 nc) = some (.inr (2, [.ref (lay 4 nc)]))) (hn0 : h0 (lay 4 nc) = some (.inl (OmI Ω, 64, .inl (fun j => iv (NF σ nc j))))) (d2 : ∀ i, i < nc → lay 2 i ≠ lay 2 nc) (d4 : ∀ i, i < nc → lay 4 i ≠ lay 4 nc) (d5 : lay 4 nc ≠ lay 0 5) (r : AddR hR Ω (lay 0 2) (lay 6 2) nc (lay 2 nc) (lay 2) h0 h a1 cap g mc) : ∃ lay2, lay2 0 0 = lay 0 0 ∧ LaO Ω lay2 ∧ InvC Ω lay2 ms ns (nc + 1) nl ξ σ τ h := by
  obtain ⟨h1, h2, h3, h4, h5, h6, h7, h8, h9, h10, h11, h12⟩ := v
  obtain ⟨m0, hl, -⟩ := h3.pre
  have ra := addr_a r hl
  have r0 := r
  obtain ⟨-, c1, c2, c3, hg, hb, rfl⟩ := r
  have k : ∀ {b : Nat} {y : va_E}, h0 b = some y → kd y ≠ 10 → kd y ≠ 2 → hset (hset h0 a1 (oA Ω cap g)) (lay 0 2) (lO mc a1 ((nc : Int) + 1)) b = some y := fun hb k1 k2 => hset2_k hb k1 k2 hl rfl ra.1
  have q1 := lao_1 r0 hE h2 (fun e => by rw [← lo.2.2.2.1 e.symm]; exact e)
  have q3 := lao_1 r0 hE h4 lo.2.2.2.2.2
  have sp : ∀ {P : Nat → Prop}, (∀ c, c < nc → P c) → P nc → ∀ c, c < nc + 1 → P c := fun a b c hc => by
    by_cases q : c = nc
    · rw [q]; exact b
    · exact a c (by omega)
  refine ⟨lU lay 6 2 a1, rfl, ⟨lo.1, lo.2.1, lo.2.2.1, fun e => ?_, lo.2.2.2.2.1, fun e => ?_⟩, k h1 (by simp [kd]) (by simp [kd]), ?_, ?_, ?_, k h5 (by simp [kd]) (by simp [kd]), k h6 (by simp [kd]) (by simp [kd]), fun i hi => k (h7 i hi) (by simp [kd]) (by simp [kd]), sp (fun c hc => k (h8 c hc) (by simp [kd]) (by simp [kd])) (k hc0 (by simp [kd]) (by simp [kd])), sp (fun c hc => k (h9 c hc) (by simp [kd]) (by simp [kd])) (k hh0 (by simp [kd]) (by simp [kd])), sp (fun c hc => k (h10 c hc) (by simp [kd]) (by simp [kd])) (k hn0 (by simp [kd]) (by simp [kd])), fun i hi => k (h11 i hi) (by simp [kd]) (by simp [kd]), h12.1, fun i j hi hj w => ?_, fun i j hi hj w => ?_, sp (fun c hc => h12.2.2.2 c hc) d5⟩
  · have e' : lay 6 1 = a1 := e
    exact q1 e'
  · have e' : a1 = lay 6 3 := e
    show a1 = OmE Ω
    rw [e']; exact q3 e'.symm
  · exact h2.oth hE lo.1 hl rfl ra.1 q1
  · exact LiC.add c1 c2 c3 hg hb rfl ra.2
  · exact h4.oth hE (fun q => lo.2.2.1 q.symm) hl rfl ra.1 q3
  · by_cases z1 : i = nc
    · by_cases z2 : j = nc
      · rw [z1, z2]
      · rw [z1] at w; exact absurd w.symm (d2 j (by omega))
    · by_cases z2 : j = nc
      · rw [z2] at w; exact absurd w (d2 i (by omega))
      · exact h12.2.1 i j (by omega) (by omega) w
  · by_cases z1 : i = nc
    · by_cases z2 : j = nc
      · rw [z1, z2]
      · rw [z1] at w; exact absurd w.symm (d4 j (by omega))
    · by_cases z2 : j = nc
      · rw [z2] at w; exact absurd w (d4 i (by omega))
      · exact h12.2.2.1 i j (by omega) (by omega) w
theorem InvC.addL {hR : AH} {g : Nat → Option Nat} {mc : Int32} {h0 : AH} (v : InvC Ω lay ms ns nc nl ξ σ τ h0) (lo : LaO Ω lay) (hE : h0 (OmE Ω) = none) (hw0 : h0 (lay 5 nl) = some (.inr (3, LwF σ nl))) (r : AddR hR Ω (lay 0 3) (lay 6 3) nl (lay 5 nl) (lay 5) h0 h a1 cap g mc) : ∃ lay2, lay2 0 0 = lay 0 0 ∧ LaO Ω lay2 ∧ InvC Ω lay2 ms ns nc (nl + 1) ξ σ τ h := by
  obtain ⟨h1, h2, h3, h4, h5, h6, h7, h8, h9, h10, h11, h12⟩ := v
  obtain ⟨m0, hl, -⟩ := h4.pre
  have ra := addr_a r hl
  have r0 := r
  obtain ⟨-, c1, c2, c3, hg, hb, rfl⟩ := r
  have k : ∀ {b : Nat} {y : va_E}, h0 b = some y → kd y ≠ 10 → kd y ≠ 2 → hset (hset h0 a1 (oA Ω cap g)) (lay 0 3) (lO mc a1 ((nl : Int) + 1)) b = some y := fun hb k1 k2 => hset2_k hb k1 k2 hl rfl ra.1
  have q1 := lao_1 r0 hE h2 (fun e => by rw [← lo.2.2.2.2.1 e.symm]; exact e)
  have q2 := lao_1 r0 hE h3 (fun e => by rw [← lo.2.2.2.2.2 e.symm]; exact e)
  refine ⟨lU lay 6 3 a1, rfl, ⟨lo.1, lo.2.1, lo.2.2.1, lo.2.2.2.1, fun e => ?_, fun e => ?_⟩, k h1 (by simp [kd]) (by simp [kd]), ?_, ?_, ?_, k h5 (by simp [kd]) (by simp [kd]), k h6 (by simp [kd]) (by simp [kd]), fun i hi => k (h7 i hi) (by simp [kd]) (by simp [kd]), fun c hc => k (h8 c hc) (by simp [kd]) (by simp [kd]), fun c hc => k (h9 c hc) (by simp [kd]) (by simp [kd]), fun c hc => k (h10 c hc) (by simp [kd]) (by simp [kd]), fun i hi => ?_, h12⟩
  · have e' : lay 6 1 = a1 := e
    exact q1 e'
  · have e' : lay 6 2 = a1 := e
    exact q2 e'
  · exact h2.oth hE lo.2.1 hl rfl ra.1 q1
  · exact h3.oth hE lo.2.2.1 hl rfl ra.1 q2
  · exact LiC.add c1 c2 c3 hg hb rfl ra.2
  · by_cases q : i = nl
    · rw [q]; exact k hw0 (by simp [kd]) (by simp [kd])
    · exact k (h11 i (by omega)) (by simp [kd]) (by simp [kd])
end GROW

