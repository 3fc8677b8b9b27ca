/-! areHours: what is foretold for an hour -/
theorem ne_ij {Ω : OmT} {X : AH} {a b : Nat} {m n : Nat} {f : Nat → Int32} {g : Nat → Int64} (h1 : X a = some (.inl (OmI Ω, m, .inl f))) (h2 : X b = some (.inl (OmJ Ω, n, .inr (.inl g)))) : a ≠ b := fun e => by
  subst e
  rw [h1] at h2
  exact va_ij (Option.some.inj h2)
theorem pf_law {σ l : ZT} {ns nc nl c : Nat} (h : Wf σ ns nc nl) (hL : l = laysZ σ nc nl ns) (hc : c < nc) : 0 ≤ l 39 c ∧ l 39 c ≤ 3 ∧ (l 39 c = 0 → l 36 c - l 37 c = nomZ σ c) ∧ (l 39 c ≠ 0 → l 36 c - l 37 c ≠ nomZ σ c) ∧ (0 ≤ nomZ σ c → 0 ≤ l 36 c - l 37 c ∧ l 36 c - l 37 c ≤ nomZ σ c) ∧ (nomZ σ c < 0 → l 36 c - l 37 c ≤ 0 ∧ nomZ σ c ≤ l 36 c - l 37 c) ∧ (l 39 c = 2 → l 36 c - l 37 c ≤ 0) ∧ -100000 ≤ l 36 c - l 37 c ∧ l 36 c - l 37 c ≤ 100000 ∧ -1000000 ≤ nomZ σ c ∧ nomZ σ c ≤ 1000000 := by
  have hcu := h.2.2.2.2.2.2.2.1
  obtain ⟨q1, q2, q3, q4, q5, q6, q7, q8, q9⟩ := lays_pf (nl := nl) (ns := ns) hcu c hc
  obtain ⟨w1, w2, w3, w4, w5, w6, w7, w8, w9⟩ := br_n (hcu c hc)
  have b := br_b (hcu c hc)
  have b1 := b.2.1
  have b2 := b.2.2.2.1
  have n := nom_b h.2.2.2.2.2.1 hc
  rw [← hL] at q1 q2 q3 q4 q5 q6 q7 q8 q9
  clear b h hcu hL
  refine ⟨q5, q6, fun e => ?_, fun e => q8 e, fun e => ?_, fun e => ?_, fun e => ?_, ?_, ?_, n.1, n.2⟩
  · have z := q7 e
    clear q7 q8 q9 w3 w4 w5 w6 w7 w8 w9
    omega
  · have z := w9 e
    rcases Int.lt_or_le 0 (nomZ σ c) with y | y
    · have z2 := w6 y
      clear q7 q8 q9 w3 w4 w5 w6 w7 w8 w9
      omega
    · have z2 := w8 y
      clear q7 q8 q9 w3 w4 w5 w6 w7 w8 w9
      omega
  · have z := w8 (Int.le_of_lt e)
    have z2 := w7 e
    clear q7 q8 q9 w3 w4 w5 w6 w7 w8 w9
    omega
  · have z := q9 e
    clear q7 q8 q9 w3 w4 w5 w6 w7 w8 w9
    omega
  · clear q7 q8 q9 w3 w4 w5 w6 w7 w8 w9
    omega
  · clear q7 q8 q9 w3 w4 w5 w6 w7 w8 w9
    omega
theorem rg_0 {fn : Nat → Int32} {σ : ZT} {c : Nat} (h : RgOk fn σ) (hc : c < 6) : fnK fn (nowN σ % 8) c (8 * c + nowN σ % 8) = iv (nomZ σ c) := by
  rw [fnK_v (Nat.mod_lt _ (by decide)) c _ (Nat.mod_lt _ (by decide)), if_neg (by omega)]
  have q := h.1 c 0 hc (by decide)
  rw [Nat.add_zero] at q
  exact q
/-- the state of the first inner loop -/
def PlS (Ω : OmT) (dA nA w v : Nat) (ξ : XiT) (σ l : ZT) (τ : JT) (ns nc nl : Nat) (fd fn : Nat → Int32) (X : AH) (s : ZT) (fw : Nat → Int32) (fv : Nat → Int64) (i : Nat) : Prop :=
  laysZ s nc nl ns = l ∧ (∀ f, f < 36 → s f = σ f) ∧ LI ξ s τ ns nc nl ∧ X dA = some (.inl (OmI Ω, 5, .inl fd)) ∧ X nA = some (.inl (OmI Ω, 48, .inl (fnK fn (nowN σ % 8) i))) ∧ X w = some (.inl (OmI Ω, 6, .inl fw)) ∧ X v = some (.inl (OmJ Ω, 6, .inr (.inl fv))) ∧ (∀ k, k < i → fw k = iv (l 36 k - l 37 k)) ∧ (∀ k, k < i → fv k = jv (σ 21 k))
theorem upd_lt {fw : Nat → Int32} {i k : Nat} {x : Int32} {g : Nat → Int32} (h : ∀ k, k < i → fw k = g k) (hx : x = g i) (hk : k < i + 1) : upd fw i x k = g k := by
  unfold upd
  by_cases q : k = i
  · rw [if_pos q, q, hx]
  · rw [if_neg q]; exact h k (by omega)
theorem updL_lt {fw : Nat → Int64} {i k : Nat} {x : Int64} {g : Nat → Int64} (h : ∀ k, k < i → fw k = g k) (hx : x = g i) (hk : k < i + 1) : vp_updL fw i x k = g k := by
  unfold vp_updL
  by_cases q : k = i
  · rw [if_pos q, q, hx]
  · rw [if_neg q]; exact h k (by omega)

set_option maxRecDepth 20000 in
set_option maxHeartbeats 1000000 in
theorem ah_plan {Ω : OmT} {κ : KxT} {hR : AH} {lay : Nat → Nat → Nat} {ξ : XiT} {σ l : ZT} {τ : JT} {ns nc nl dA nA w v c1 s1 : Nat} {fd fn : Nat → Int32} {wt hh Hn : Int} (C : Cx Ω κ RL cL_areHours) (hn : kn κ = 17) (hr : kR κ = (rkc 16 4100 25500)) (hl : LI ξ σ τ ns nc nl) (hL : l = laysZ σ nc nl ns) (hrg : RgOk fn σ) (d1 : fd 1 = iv nc) (d3 : fd 3 = iv (σ 1 0)) (hc1 : c1 ≤ 4100) (hs1 : s1 ≤ 25500)
    (kk : ∀ (X : AH) (s : ZT) (fw : Nat → Int32) (fv : Nat → Int64), PlS Ω dA nA w v ξ σ l τ ns nc nl fd fn X s fw fv nc → Y Ω κ (FX X (InvC Ω lay ns ns nc nl ξ s τ)) hR c1 s1 245 [(12, .int (iv (nc : Nat))), (11, .ref v), (10, .ref w), (8, .long (jv wt)), (6, .long (jv (sumZ (fun k => l 36 k - l 37 k) nc))), (5, .int (iv hh)), (4, .int (iv 1)), (0, .ref (lay 0 0)), (1, .ref dA), (2, .ref nA), (3, .int (iv Hn))] []) :
    ∀ (m i c sl : Nat) (X : AH) (s : ZT) (fw : Nat → Int32) (fv : Nat → Int64), i + m = nc → c + 4 * m ≤ c1 → sl + 24 * m ≤ s1 → PlS Ω dA nA w v ξ σ l τ ns nc nl fd fn X s fw fv i → Y Ω κ (FX X (InvC Ω lay ns ns nc nl ξ s τ)) hR c sl 48 [(12, .int (iv (i : Nat))), (11, .ref v), (10, .ref w), (8, .long (jv wt)), (6, .long (jv (sumZ (fun k => l 36 k - l 37 k) i))), (5, .int (iv hh)), (4, .int (iv 1)), (0, .ref (lay 0 0)), (1, .ref dA), (2, .ref nA), (3, .int (iv Hn))] [] := by
  have n6 := hl.1.2.2.2.1
  have h10 := hl.1.2.2.2.2.2.1.2
  have eN : σ 1 0 = (nowN σ : Int) := by unfold nowN; omega
  have hl1 : LI ξ l τ ns nc nl := by rw [hL]; exact li_lays hl
  have hlf : ∀ f, f < 36 → l f = σ f := fun f hf => by rw [hL]; exact laysZ_f (Or.inl hf)
  have hll : laysZ l nc nl ns = l := by rw [hL]; exact lays_lays
  have o16l := hl1.1.2.2.1
  intro m
  induction m with
  | zero =>
    intro i c sl X s fw fv h1 h2 h3 hp
    have e : i = nc := by omega
    rw [e] at hp ⊢
    have p4 := hp.2.2.2.1
    refine y_iload (pc := 48) C dL_areHours_48 0 rfl ?_
    refine y_aload_n (pc := 50) C dL_areHours_50 8 rfl ?_
    refine y_iconst (pc := 51) C dL_areHours_51 ?_
    refine y_xald (pc := 52) (v := (nc : Nat)) C 1 p4 rfl (by decide) (by decide) d1 dL_areHours_52 ?_
    refine y_icmp_ge (pc := 53) (tgt := 245) C dL_areHours_53 (by decide) (by omega) (by omega) (by omega) (by omega) (fun c53 => ?_) (fun c => absurd (by omega) c)
    exact Y.sub [0, 1, 2, 3, 4, 5, 6, 7, 8, 9, 10] rfl (Y.wide (by omega) (by omega) (kk X s fw fv hp))
  | succ m ih =>
    intro i c sl X s fw fv h1 h2 h3 hp
    have hi : i < nc := by omega
    obtain ⟨p1, p2, p3, p4, p5, p6, p7, p8, p9⟩ := hp
    have o16 := p3.1.2.2.1
    obtain ⟨f1, f2, f3, f4, f5, f6, f7, f8, f9, f10, f11⟩ := pf_law hl.1 hL hi
    have x1v : hset X w (.inl (OmI Ω, 6, .inl (upd fw i (iv (l 36 i - l 37 i))))) v = some (.inl (OmJ Ω, 6, .inr (.inl fv))) := (hset_n (ne_ij p6 p7).symm).trans p7
    obtain ⟨X2, hX2⟩ : ∃ X2, X2 = hset (hset X w (.inl (OmI Ω, 6, .inl (upd fw i (iv (l 36 i - l 37 i)))))) v (.inl (OmJ Ω, 6, .inr (.inl (vp_updL fv i (jv (σ 21 i)))))) := ⟨_, rfl⟩
    have x2d : X2 dA = some (.inl (OmI Ω, 5, .inl fd)) := by rw [hX2, hset_n (ne_ij p4 p7), hset_n (ne_dn p4 p6 (by decide))]; exact p4
    have x2n : X2 nA = some (.inl (OmI Ω, 48, .inl (fnK fn (nowN σ % 8) i))) := by rw [hX2, hset_n (ne_ij p5 p7), hset_n (ne_dn p5 p6 (by decide))]; exact p5
    have x2w : X2 w = some (.inl (OmI Ω, 6, .inl (upd fw i (iv (l 36 i - l 37 i))))) := by rw [hX2, hset_n (ne_ij p6 p7), hset_s]
    have x2v : X2 v = some (.inl (OmJ Ω, 6, .inr (.inl (vp_updL fv i (jv (σ 21 i)))))) := by rw [hX2, hset_s]
    have uw : upd fw i (iv (l 36 i - l 37 i)) i = iv (l 36 i - l 37 i) := if_pos rfl
    refine y_iload (pc := 48) C dL_areHours_48 0 rfl ?_
    refine y_aload_n (pc := 50) C dL_areHours_50 8 rfl ?_
    refine y_iconst (pc := 51) C dL_areHours_51 ?_
    refine y_xald (pc := 52) (v := (nc : Nat)) C 1 p4 rfl (by decide) (by decide) d1 dL_areHours_52 ?_
    refine y_icmp_ge (pc := 53) (tgt := 245) C dL_areHours_53 (by decide) (by omega) (by omega) (by omega) (by omega) (fun c => absurd c (by omega)) (fun c53 => ?_)
    refine y_iload (pc := 56) C dL_areHours_56 6 rfl ?_
    refine y_if_eq (pc := 58) (tgt := 245) C dL_areHours_58 (by decide) (by omega) (by omega) (fun c => absurd c (by decide)) (fun c58 => ?_)
    refine y_aload_n (pc := 61) C dL_areHours_61 9 rfl ?_
    refine y_bipush (pc := 62) (z := 8) C dL_areHours_62 (by decide) ?_
    refine y_iload (pc := 64) C dL_areHours_64 0 rfl ?_
    refine y_imul (pc := 66) C dL_areHours_66 ?_
    refine y_aload_n (pc := 67) C dL_areHours_67 8 rfl ?_
    refine y_iconst (pc := 68) C dL_areHours_68 ?_
    refine y_xald (pc := 69) (v := (σ 1 0)) C 3 p4 rfl (by decide) (by decide) d3 dL_areHours_69 ?_
    refine y_bipush (pc := 70) (z := 8) C dL_areHours_70 (by decide) ?_
    refine y_irem (pc := 72) C dL_areHours_72 (by omega) (by omega) (by omega) (by omega) ?_
    refine y_iadd (pc := 73) C dL_areHours_73 ?_
    refine y_xald (pc := 74) (v := (nomZ σ i)) C (8 * i + nowN σ % 8) p5 (by omega) (by omega) (by decide) (rg_0 hrg (by omega)) dL_areHours_74 ?_
    refine y_istore (pc := 75) (L' := [(13, _), (12, _), (11, _), (10, _), (8, _), (6, _), (5, _), (4, _), (0, _), (1, _), (2, _), (3, _)]) C dL_areHours_75 (by rw [hn]; decide) rfl ?_
    refine y_aload (pc := 77) C dL_areHours_77 3 rfl ?_
    refine y_iload (pc := 79) C dL_areHours_79 1 rfl ?_
    refine y_aload_n (pc := 81) C dL_areHours_81 8 rfl ?_
    refine y_iload (pc := 82) C dL_areHours_82 1 rfl ?_
    refine y_cg (pc := 84) (cs' := c + 1) (sl' := sl + 6) (v := .int (iv (l 36 i - l 37 i))) (As := [_]) C hr cv_L_102 (fun hR' => mg_flow p3.1 (Nat.le_refl _) ((i : Nat) : Int) ⟨by omega, by omega⟩ p3.2.2.2.1) (k_sc o16 hi) (fun q hq => by revert q; decide) (fun h q => ⟨_, q.gas⟩) (congrArg (fun z : ZT => Value.int (iv (z 36 i - z 37 i))) p1) rfl rfl (Nat.le_of_ble_eq_true rfl) ⟨by decide, by decide, (by show c + 1 ≤ 4100; omega), (by show sl + 6 ≤ 25500; omega)⟩ (by show c + 1 ≤ c + 1; omega) (by show sl + 6 ≤ sl + 6; omega) dL_areHours_84 ?_
    rw [p1]
    refine y_xast (pc := 87) C i p6 rfl (by omega) (by decide) dL_areHours_87 ?_
    refine y_aload (pc := 88) C dL_areHours_88 2 rfl ?_
    refine y_iload (pc := 90) C dL_areHours_90 1 rfl ?_
    refine y_aload_n (pc := 92) C dL_areHours_92 8 rfl ?_
    refine y_iload (pc := 93) C dL_areHours_93 1 rfl ?_
    refine y_iconst (pc := 95) C dL_areHours_95 ?_
    refine y_cg (pc := 96) (cs' := c + 3) (sl' := sl + 18) (v := .long (jv (σ 21 i))) (As := [_, _]) C hr cv_L_53 (fun hR' => mg_ofCustomer hl1.1 (Nat.le_refl _) ((i : Nat) : Int) ⟨by omega, by omega⟩ 0 (by decide)) (k_oc o16l hi (by decide) (by decide)) (fun q hq => by revert q; decide) (fun h q => ⟨_, q.gas⟩) (congrArg Value.long (show jv (l 21 i) = _ by rw [hlf 21 (by decide)])) rfl rfl (Nat.le_of_ble_eq_true rfl) ⟨by decide, by decide, (by show c + 1 + 2 ≤ 4100; omega), (by show sl + 6 + 12 ≤ 25500; omega)⟩ (by show c + 1 + 2 ≤ c + 3; omega) (by show sl + 6 + 12 ≤ sl + 18; omega) dL_areHours_96 ?_
    refine y_xlast (pc := 99) C i x1v rfl (by omega) (by decide) dL_areHours_99 ?_
    rw [← hX2]
    refine y_aload_n (pc := 100) C dL_areHours_100 8 rfl ?_
    refine y_iload (pc := 101) C dL_areHours_101 1 rfl ?_
    refine y_cg (pc := 103) (cs' := c + 4) (sl' := sl + 24) (v := .int (iv (l 39 i))) (As := [_]) C hr cv_L_105 (fun hR' => mg_why hl1.1 (Nat.le_refl _) ((i : Nat) : Int) ⟨by omega, by omega⟩ hl1.2.2.2.1) (k_sc o16l hi) (fun q hq => by revert q; decide) (fun h q => ⟨_, q.gas⟩) (congrArg (fun z : ZT => Value.int (iv (z 39 i))) hll) rfl rfl (Nat.le_of_ble_eq_true rfl) ⟨by decide, by decide, (by show c + 3 + 1 ≤ 4100; omega), (by show sl + 18 + 6 ≤ 25500; omega)⟩ (by show c + 3 + 1 ≤ c + 4; omega) (by show sl + 18 + 6 ≤ sl + 24; omega) dL_areHours_103 ?_
    rw [hll]
    refine y_istore (pc := 106) (L' := [(14, _), (13, _), (12, _), (11, _), (10, _), (8, _), (6, _), (5, _), (4, _), (0, _), (1, _), (2, _), (3, _)]) C dL_areHours_106 (by rw [hn]; decide) rfl ?_
    refine y_lload (pc := 108) C dL_areHours_108 6 rfl ?_
    refine y_aload (pc := 110) C dL_areHours_110 4 rfl ?_
    refine y_iload (pc := 112) C dL_areHours_112 2 rfl ?_
    refine y_xald (pc := 114) (v := (l 36 i - l 37 i)) C i x2w rfl (by omega) (by decide) uw dL_areHours_114 ?_
    refine y_i2l (pc := 115) C dL_areHours_115 (by omega) (by omega) ?_
    refine y_ladd (pc := 116) C dL_areHours_116 ?_
    refine y_lstore (pc := 117) (L' := [(6, _), (14, _), (13, _), (12, _), (11, _), (10, _), (8, _), (5, _), (4, _), (0, _), (1, _), (2, _), (3, _)]) C dL_areHours_117 (by rw [hn]; decide) rfl ?_
    refine y_joinI (pcj := 222) (P := fun v => v = 1) (fun v1 hv1 => ?_) (fun J1 => ?_)
    · skip
      subst hv1
      refine y_istore (pc := 222) (L' := [(4, _), (6, _), (14, _), (13, _), (12, _), (11, _), (10, _), (8, _), (5, _), (0, _), (1, _), (2, _), (3, _)]) C dL_areHours_222 (by rw [hn]; decide) rfl ?_
      refine y_aload_n (pc := 224) C dL_areHours_224 11 rfl ?_
      refine y_bipush (pc := 225) (z := 8) C dL_areHours_225 (by decide) ?_
      refine y_iload (pc := 227) C dL_areHours_227 4 rfl ?_
      refine y_imul (pc := 229) C dL_areHours_229 ?_
      refine y_aload_n (pc := 230) C dL_areHours_230 10 rfl ?_
      refine y_iconst (pc := 231) C dL_areHours_231 ?_
      refine y_xald (pc := 232) (v := (σ 1 0)) C 3 x2d rfl (by decide) (by decide) d3 dL_areHours_232 ?_
      refine y_bipush (pc := 233) (z := 8) C dL_areHours_233 (by decide) ?_
      refine y_irem (pc := 235) C dL_areHours_235 (by omega) (by omega) (by omega) (by omega) ?_
      refine y_iadd (pc := 236) C dL_areHours_236 ?_
      refine y_iconst (pc := 237) C dL_areHours_237 ?_
      refine y_xast (pc := 238) C (8 * i + nowN σ % 8) x2n (by omega) (by omega) (by decide) dL_areHours_238 ?_
      refine y_iinc (pc := 239) (L' := [(12, _), (4, _), (6, _), (14, _), (13, _), (11, _), (10, _), (8, _), (5, _), (0, _), (1, _), (2, _), (3, _)]) C dL_areHours_239 4 rfl (by rw [hn]; decide) rfl ?_
      refine y_goto (pc := 242) (tgt := 48) C dL_areHours_242 (by decide) ?_
      refine Y.sub [0, 5, 6, 7, 2, 8, 1, 9, 10, 11, 12] rfl ?_
      refine ih (i + 1) _ _ _ l _ _ (by omega) (by omega) (by omega) ⟨hll, hlf, hl1, ?_, ?_, ?_, ?_, fun k hk => upd_lt p8 rfl hk, fun k hk => updL_lt p9 rfl hk⟩
      · rw [hset_n (ne_dn x2d x2n (by decide))]; exact x2d
      · exact hset_s
      · rw [hset_n (ne_dn x2w x2n (by decide))]; exact x2w
      · rw [hset_n (ne_ij x2n x2v).symm]; exact x2v
    · skip
      refine y_iload (pc := 119) C dL_areHours_119 1 rfl ?_
      refine y_if_lt (pc := 121) (tgt := 221) C dL_areHours_121 (by decide) (by omega) (by omega) (fun c => absurd c (by omega)) (fun c121 => ?_)
      refine y_iload (pc := 124) C dL_areHours_124 1 rfl ?_
      refine y_iconst (pc := 126) C dL_areHours_126 ?_
      refine y_icmp_ge (pc := 127) (tgt := 221) C dL_areHours_127 (by decide) (by omega) (by omega) (by omega) (by omega) (fun c => absurd c (by omega)) (fun c127 => ?_)
      refine y_iload (pc := 130) C dL_areHours_130 1 rfl ?_
      refine y_if_ne (pc := 132) (tgt := 139) C dL_areHours_132 (by decide) (by omega) (by omega) (fun c132 => ?_) (fun c132 => ?_)
      · skip
        refine y_iconst (pc := 139) C dL_areHours_139 ?_
        refine y_aload (pc := 140) C dL_areHours_140 5 rfl ?_
        refine y_iload (pc := 142) C dL_areHours_142 3 rfl ?_
        refine y_xald (pc := 144) (v := (l 36 i - l 37 i)) C i x2w rfl (by omega) (by decide) uw dL_areHours_144 ?_
        refine y_iload (pc := 145) C dL_areHours_145 2 rfl ?_
        refine y_icmp_ne (pc := 147) (tgt := 154) C dL_areHours_147 (by decide) (by omega) (by omega) (by omega) (by omega) (fun c147 => ?_) (fun c => absurd c (f4 c132))
        refine y_iconst (pc := 154) C dL_areHours_154 ?_
        refine y_icmp_ne (pc := 155) (tgt := 221) C dL_areHours_155 (by decide) (by omega) (by omega) (by omega) (by omega) (fun c => absurd c (by decide)) (fun c155 => ?_)
        refine y_iload (pc := 158) C dL_areHours_158 2 rfl ?_
        refine y_if_lt (pc := 160) (tgt := 184) C dL_areHours_160 (by decide) (by omega) (by omega) (fun c160 => ?_) (fun c160 => ?_)
        · skip
          refine y_aload (pc := 184) C dL_areHours_184 5 rfl ?_
          refine y_iload (pc := 186) C dL_areHours_186 3 rfl ?_
          refine y_xald (pc := 188) (v := (l 36 i - l 37 i)) C i x2w rfl (by omega) (by decide) uw dL_areHours_188 ?_
          refine y_if_gt (pc := 189) (tgt := 221) C dL_areHours_189 (by decide) (by omega) (by omega) (fun c => absurd c (by have := f6 c160; omega)) (fun c189 => ?_)
          refine y_aload (pc := 192) C dL_areHours_192 5 rfl ?_
          refine y_iload (pc := 194) C dL_areHours_194 3 rfl ?_
          refine y_xald (pc := 196) (v := (l 36 i - l 37 i)) C i x2w rfl (by omega) (by decide) uw dL_areHours_196 ?_
          refine y_iload (pc := 197) C dL_areHours_197 2 rfl ?_
          refine y_icmp_lt (pc := 199) (tgt := 221) C dL_areHours_199 (by decide) (by omega) (by omega) (by omega) (by omega) (fun c => absurd c (by have := f6 c160; omega)) (fun c199 => ?_)
          refine y_aload (pc := 202) C dL_areHours_202 5 rfl ?_
          refine y_iload (pc := 204) C dL_areHours_204 3 rfl ?_
          refine y_xald (pc := 206) (v := (l 36 i - l 37 i)) C i x2w rfl (by omega) (by decide) uw dL_areHours_206 ?_
          refine y_iconst (pc := 207) C dL_areHours_207 ?_
          refine y_icmp_lt (pc := 208) (tgt := 217) C dL_areHours_208 (by decide) (by omega) (by omega) (by omega) (by omega) (fun c208 => ?_) (fun c208 => ?_)
          · skip
            refine y_iconst (pc := 217) C dL_areHours_217 ?_
            refine y_goto (pc := 218) (tgt := 222) C dL_areHours_218 (by decide) ?_
            exact J1 _ rfl
          · skip
            refine y_iload (pc := 211) C dL_areHours_211 1 rfl ?_
            refine y_iconst (pc := 213) C dL_areHours_213 ?_
            refine y_icmp_eq (pc := 214) (tgt := 221) C dL_areHours_214 (by decide) (by omega) (by omega) (by omega) (by omega) (fun c => absurd c (fun z => absurd (f7 z) (by omega))) (fun c214 => ?_)
            refine y_iconst (pc := 217) C dL_areHours_217 ?_
            refine y_goto (pc := 218) (tgt := 222) C dL_areHours_218 (by decide) ?_
            exact J1 _ rfl
        · skip
          refine y_aload (pc := 163) C dL_areHours_163 5 rfl ?_
          refine y_iload (pc := 165) C dL_areHours_165 3 rfl ?_
          refine y_xald (pc := 167) (v := (l 36 i - l 37 i)) C i x2w rfl (by omega) (by decide) uw dL_areHours_167 ?_
          refine y_if_lt (pc := 168) (tgt := 221) C dL_areHours_168 (by decide) (by omega) (by omega) (fun c => absurd c (by have := f5 (by omega); omega)) (fun c168 => ?_)
          refine y_aload (pc := 171) C dL_areHours_171 5 rfl ?_
          refine y_iload (pc := 173) C dL_areHours_173 3 rfl ?_
          refine y_xald (pc := 175) (v := (l 36 i - l 37 i)) C i x2w rfl (by omega) (by decide) uw dL_areHours_175 ?_
          refine y_iload (pc := 176) C dL_areHours_176 2 rfl ?_
          refine y_icmp_gt (pc := 178) (tgt := 221) C dL_areHours_178 (by decide) (by omega) (by omega) (by omega) (by omega) (fun c => absurd c (by have := f5 (by omega); omega)) (fun c178 => ?_)
          refine y_goto (pc := 181) (tgt := 202) C dL_areHours_181 (by decide) ?_
          refine y_aload (pc := 202) C dL_areHours_202 5 rfl ?_
          refine y_iload (pc := 204) C dL_areHours_204 3 rfl ?_
          refine y_xald (pc := 206) (v := (l 36 i - l 37 i)) C i x2w rfl (by omega) (by decide) uw dL_areHours_206 ?_
          refine y_iconst (pc := 207) C dL_areHours_207 ?_
          refine y_icmp_lt (pc := 208) (tgt := 217) C dL_areHours_208 (by decide) (by omega) (by omega) (by omega) (by omega) (fun c208 => ?_) (fun c208 => ?_)
          · skip
            refine y_iconst (pc := 217) C dL_areHours_217 ?_
            refine y_goto (pc := 218) (tgt := 222) C dL_areHours_218 (by decide) ?_
            exact J1 _ rfl
          · skip
            refine y_iload (pc := 211) C dL_areHours_211 1 rfl ?_
            refine y_iconst (pc := 213) C dL_areHours_213 ?_
            refine y_icmp_eq (pc := 214) (tgt := 221) C dL_areHours_214 (by decide) (by omega) (by omega) (by omega) (by omega) (fun c => absurd c (fun z => absurd (f7 z) (by omega))) (fun c214 => ?_)
            refine y_iconst (pc := 217) C dL_areHours_217 ?_
            refine y_goto (pc := 218) (tgt := 222) C dL_areHours_218 (by decide) ?_
            exact J1 _ rfl
      · skip
        refine y_iconst (pc := 135) C dL_areHours_135 ?_
        refine y_goto (pc := 136) (tgt := 140) C dL_areHours_136 (by decide) ?_
        refine y_aload (pc := 140) C dL_areHours_140 5 rfl ?_
        refine y_iload (pc := 142) C dL_areHours_142 3 rfl ?_
        refine y_xald (pc := 144) (v := (l 36 i - l 37 i)) C i x2w rfl (by omega) (by decide) uw dL_areHours_144 ?_
        refine y_iload (pc := 145) C dL_areHours_145 2 rfl ?_
        refine y_icmp_ne (pc := 147) (tgt := 154) C dL_areHours_147 (by decide) (by omega) (by omega) (by omega) (by omega) (fun c => absurd c (by have := f3 c132; omega)) (fun c147 => ?_)
        refine y_iconst (pc := 150) C dL_areHours_150 ?_
        refine y_goto (pc := 151) (tgt := 155) C dL_areHours_151 (by decide) ?_
        refine y_icmp_ne (pc := 155) (tgt := 221) C dL_areHours_155 (by decide) (by omega) (by omega) (by omega) (by omega) (fun c => absurd c (by decide)) (fun c155 => ?_)
        refine y_iload (pc := 158) C dL_areHours_158 2 rfl ?_
        refine y_if_lt (pc := 160) (tgt := 184) C dL_areHours_160 (by decide) (by omega) (by omega) (fun c160 => ?_) (fun c160 => ?_)
        · skip
          refine y_aload (pc := 184) C dL_areHours_184 5 rfl ?_
          refine y_iload (pc := 186) C dL_areHours_186 3 rfl ?_
          refine y_xald (pc := 188) (v := (l 36 i - l 37 i)) C i x2w rfl (by omega) (by decide) uw dL_areHours_188 ?_
          refine y_if_gt (pc := 189) (tgt := 221) C dL_areHours_189 (by decide) (by omega) (by omega) (fun c => absurd c (by have := f6 c160; omega)) (fun c189 => ?_)
          refine y_aload (pc := 192) C dL_areHours_192 5 rfl ?_
          refine y_iload (pc := 194) C dL_areHours_194 3 rfl ?_
          refine y_xald (pc := 196) (v := (l 36 i - l 37 i)) C i x2w rfl (by omega) (by decide) uw dL_areHours_196 ?_
          refine y_iload (pc := 197) C dL_areHours_197 2 rfl ?_
          refine y_icmp_lt (pc := 199) (tgt := 221) C dL_areHours_199 (by decide) (by omega) (by omega) (by omega) (by omega) (fun c => absurd c (by have := f6 c160; omega)) (fun c199 => ?_)
          refine y_aload (pc := 202) C dL_areHours_202 5 rfl ?_
          refine y_iload (pc := 204) C dL_areHours_204 3 rfl ?_
          refine y_xald (pc := 206) (v := (l 36 i - l 37 i)) C i x2w rfl (by omega) (by decide) uw dL_areHours_206 ?_
          refine y_iconst (pc := 207) C dL_areHours_207 ?_
          refine y_icmp_lt (pc := 208) (tgt := 217) C dL_areHours_208 (by decide) (by omega) (by omega) (by omega) (by omega) (fun c208 => ?_) (fun c208 => ?_)
          · skip
            refine y_iconst (pc := 217) C dL_areHours_217 ?_
            refine y_goto (pc := 218) (tgt := 222) C dL_areHours_218 (by decide) ?_
            exact J1 _ rfl
          · skip
            refine y_iload (pc := 211) C dL_areHours_211 1 rfl ?_
            refine y_iconst (pc := 213) C dL_areHours_213 ?_
            refine y_icmp_eq (pc := 214) (tgt := 221) C dL_areHours_214 (by decide) (by omega) (by omega) (by omega) (by omega) (fun c => absurd c (fun z => absurd (f7 z) (by omega))) (fun c214 => ?_)
            refine y_iconst (pc := 217) C dL_areHours_217 ?_
            refine y_goto (pc := 218) (tgt := 222) C dL_areHours_218 (by decide) ?_
            exact J1 _ rfl
        · skip
          refine y_aload (pc := 163) C dL_areHours_163 5 rfl ?_
          refine y_iload (pc := 165) C dL_areHours_165 3 rfl ?_
          refine y_xald (pc := 167) (v := (l 36 i - l 37 i)) C i x2w rfl (by omega) (by decide) uw dL_areHours_167 ?_
          refine y_if_lt (pc := 168) (tgt := 221) C dL_areHours_168 (by decide) (by omega) (by omega) (fun c => absurd c (by have := f5 (by omega); omega)) (fun c168 => ?_)
          refine y_aload (pc := 171) C dL_areHours_171 5 rfl ?_
          refine y_iload (pc := 173) C dL_areHours_173 3 rfl ?_
          refine y_xald (pc := 175) (v := (l 36 i - l 37 i)) C i x2w rfl (by omega) (by decide) uw dL_areHours_175 ?_
          refine y_iload (pc := 176) C dL_areHours_176 2 rfl ?_
          refine y_icmp_gt (pc := 178) (tgt := 221) C dL_areHours_178 (by decide) (by omega) (by omega) (by omega) (by omega) (fun c => absurd c (by have := f5 (by omega); omega)) (fun c178 => ?_)
          refine y_goto (pc := 181) (tgt := 202) C dL_areHours_181 (by decide) ?_
          refine y_aload (pc := 202) C dL_areHours_202 5 rfl ?_
          refine y_iload (pc := 204) C dL_areHours_204 3 rfl ?_
          refine y_xald (pc := 206) (v := (l 36 i - l 37 i)) C i x2w rfl (by omega) (by decide) uw dL_areHours_206 ?_
          refine y_iconst (pc := 207) C dL_areHours_207 ?_
          refine y_icmp_lt (pc := 208) (tgt := 217) C dL_areHours_208 (by decide) (by omega) (by omega) (by omega) (by omega) (fun c208 => ?_) (fun c208 => ?_)
          · skip
            refine y_iconst (pc := 217) C dL_areHours_217 ?_
            refine y_goto (pc := 218) (tgt := 222) C dL_areHours_218 (by decide) ?_
            exact J1 _ rfl
          · skip
            refine y_iload (pc := 211) C dL_areHours_211 1 rfl ?_
            refine y_iconst (pc := 213) C dL_areHours_213 ?_
            refine y_icmp_eq (pc := 214) (tgt := 221) C dL_areHours_214 (by decide) (by omega) (by omega) (by omega) (by omega) (fun c => absurd c (fun z => absurd (f7 z) (by omega))) (fun c214 => ?_)
            refine y_iconst (pc := 217) C dL_areHours_217 ?_
            refine y_goto (pc := 218) (tgt := 222) C dL_areHours_218 (by decide) ?_
            exact J1 _ rfl
