/-! the law's state -/
def LwSt (Ω : OmT) (x dA nA : Nat) (T : Int) : AH → Prop := fun h => ∃ (X : AH) (lay : Nat → Nat → Nat) (ξ : XiT) (σ : ZT) (τ : JT) (ns nc nl : Nat) (fd fn : Nat → Int32), (LI ξ σ τ ns nc nl ∧ GB (σ, τ) ns ∧ LaO Ω lay ∧ RgOk fn σ ∧ lay 0 0 = x ∧ X dA = some (.inl (OmI Ω, 5, .inl fd)) ∧ X nA = some (.inl (OmI Ω, 48, .inl fn)) ∧ fd 0 = iv ns ∧ fd 1 = iv nc ∧ fd 2 = iv nl ∧ fd 3 = iv (σ 1 0) ∧ fd 4 = iv (σ 15 0) ∧ σ 1 0 ≤ T) ∧ FX X (InvC Ω lay ns ns nc nl ξ σ τ) h
theorem LwSt.un {Ω : OmT} {κ : KxT} {hR : AH} {cs sl pc x dA nA : Nat} {T : Int} {L : List (Nat × Value)} {st : List Value} (k : ∀ (X : AH) (lay : Nat → Nat → Nat) (ξ : XiT) (σ : ZT) (τ : JT) (ns nc nl : Nat) (fd fn : Nat → Int32), LI ξ σ τ ns nc nl → GB (σ, τ) ns → LaO Ω lay → RgOk fn σ → lay 0 0 = x → X dA = some (.inl (OmI Ω, 5, .inl fd)) → X nA = some (.inl (OmI Ω, 48, .inl fn)) → fd 0 = iv ns → fd 1 = iv nc → fd 2 = iv nl → fd 3 = iv (σ 1 0) → fd 4 = iv (σ 15 0) → σ 1 0 ≤ T → Y Ω κ (FX X (InvC Ω lay ns ns nc nl ξ σ τ)) hR cs sl pc L st) : Y Ω κ (LwSt Ω x dA nA T) hR cs sl pc L st := by
  intro h H locs ls ⟨X, lay, ξ, σ, τ, ns, nc, nl, fd, fn, ⟨q1, q2, q3, q4, q5, q6, q7, q8, q9, q10, q11, q12, q13⟩, q14⟩
  exact k X lay ξ σ τ ns nc nl fd fn q1 q2 q3 q4 q5 q6 q7 q8 q9 q10 q11 q12 q13 h H locs ls q14
theorem LwSt.mk {Ω : OmT} {x dA nA : Nat} {T : Int} {X : AH} {lay : Nat → Nat → Nat} {ξ : XiT} {σ : ZT} {τ : JT} {ns nc nl : Nat} {fd fn : Nat → Int32} {h : AH} (q1 : LI ξ σ τ ns nc nl) (q2 : GB (σ, τ) ns) (q3 : LaO Ω lay) (q4 : RgOk fn σ) (q5 : lay 0 0 = x) (q6 : X dA = some (.inl (OmI Ω, 5, .inl fd))) (q7 : X nA = some (.inl (OmI Ω, 48, .inl fn))) (q8 : fd 0 = iv ns) (q9 : fd 1 = iv nc) (q10 : fd 2 = iv nl) (q11 : fd 3 = iv (σ 1 0)) (q12 : fd 4 = iv (σ 15 0)) (q13 : σ 1 0 ≤ T) (q : FX X (InvC Ω lay ns ns nc nl ξ σ τ) h) : LwSt Ω x dA nA T h :=
  ⟨X, lay, ξ, σ, τ, ns, nc, nl, fd, fn, ⟨q1, q2, q3, q4, q5, q6, q7, q8, q9, q10, q11, q12, q13⟩, q⟩
theorem ne_dn {Ω : OmT} {X : AH} {a b : Nat} {m n : Nat} {f g : Nat → Int32} (h1 : X a = some (.inl (OmI Ω, m, .inl f))) (h2 : X b = some (.inl (OmI Ω, n, .inl g))) (h : m ≠ n) : a ≠ b := fun e => by
  subst e
  rw [h1] at h2
  injection h2 with h2
  injection h2 with h2
  injection h2 with _ h2
  injection h2 with h2
  exact h h2
/-! a store that is taken up -/
theorem stK_2 {σ : ZT} {k v g lo hi m : Int} (h : stK σ k v g lo hi m = 2) : σ 2 0 = 5 := by
  unfold stK at h
  split at h
  · split at h
    · assumption
    · omega
  · omega
theorem stK_1 {σ : ZT} {k v g lo hi m : Int} (h : stK σ k v g lo hi m = 1) (hp : 0 ≤ k ∧ k ≤ 2 ∧ 1 ≤ v ∧ v ≤ 100000 ∧ 0 ≤ lo ∧ lo ≤ 1000 ∧ lo ≤ hi ∧ hi ≤ 1000 ∧ 0 ≤ m ∧ m ≤ 1000000 ∧ g ≤ mostZ hi v) : g < leastZ lo v := by
  unfold stK at h
  split at h
  · split at h <;> omega
  · rename_i q
    refine Int.not_le.mp (fun z => q ?_)
    exact ⟨hp.1, hp.2.1, hp.2.2.1, hp.2.2.2.1, hp.2.2.2.2.1, hp.2.2.2.2.2.1, hp.2.2.2.2.2.2.1, hp.2.2.2.2.2.2.2.1, hp.2.2.2.2.2.2.2.2.1, hp.2.2.2.2.2.2.2.2.2.1, z, hp.2.2.2.2.2.2.2.2.2.2⟩
theorem stS_v {σ : ZT} {τ : JT} {n : Nat} {k v g lo hi m : Int} {s : ZT} (hs : s = (stS n k v g lo hi m (σ, τ)).1) : s 3 n = k ∧ s 4 n = v ∧ s 6 n = g ∧ s 7 n = lo ∧ s 8 n = hi ∧ s 9 n = m ∧ s 2 0 = σ 2 0 + 1 ∧ (∀ f, f ∉ [2, 3, 4, 6, 7, 8, 9] → s f = σ f) ∧ (∀ f j, f ≠ 2 → j ≠ n → s f j = σ f j) := by
  have hs' : s = zu (zu (zu (zu (zu (zu (zu σ 3 n k) 4 n v) 6 n g) 7 n lo) 8 n hi) 9 n m) 2 0 (σ 2 0 + 1) := hs
  refine ⟨?_, ?_, ?_, ?_, ?_, ?_, ?_, fun f hf => ?_, fun f j hf hj => ?_⟩
  · rw [hs', zu_f (by omega), zu_f (by omega), zu_f (by omega), zu_f (by omega), zu_f (by omega), zu_f (by omega), zu_s]
  · rw [hs', zu_f (by omega), zu_f (by omega), zu_f (by omega), zu_f (by omega), zu_f (by omega), zu_s]
  · rw [hs', zu_f (by omega), zu_f (by omega), zu_f (by omega), zu_f (by omega), zu_s]
  · rw [hs', zu_f (by omega), zu_f (by omega), zu_f (by omega), zu_s]
  · rw [hs', zu_f (by omega), zu_f (by omega), zu_s]
  · rw [hs', zu_f (by omega), zu_s]
  · rw [hs', zu_s]
  · simp only [List.mem_cons, List.not_mem_nil, or_false] at hf
    rw [hs', zu_n (by omega), zu_n (by omega), zu_n (by omega), zu_n (by omega), zu_n (by omega), zu_n (by omega), zu_n (by omega)]
  · rw [hs', zu_f hf, zu_o hj, zu_o hj, zu_o hj, zu_o hj, zu_o hj, zu_o hj]
theorem stS_t {σ : ZT} {τ : JT} {n : Nat} {k v g lo hi m : Int} {t : JT} (ht : t = (stS n k v g lo hi m (σ, τ)).2) : t 13 n = jv (g * σ 15 0) ∧ t 33 0 = τ 33 0 + jv g ∧ (∀ f, f ≠ 13 → f ≠ 33 → t f = τ f) ∧ (∀ j, j ≠ n → t 13 j = τ 13 j) := by
  have ht' : t = ju (ju τ 13 n (jv (g * σ 15 0))) 33 0 (τ 33 0 + jv g) := ht
  refine ⟨?_, ?_, fun f h1 h2 => ?_, fun j hj => ?_⟩
  · rw [ht', ju_f (by omega), ju_s]
  · rw [ht', ju_s]
  · rw [ht', ju_n h2, ju_n h1]
  · rw [ht', ju_f (by omega), ju_j hj]
theorem gb_store {σ : ZT} {τ : JT} {n : Nat} {k v g lo hi m : Int} {s : ZT} {t : JT} (hs : s = (stS n k v g lo hi m (σ, τ)).1) (ht : t = (stS n k v g lo hi m (σ, τ)).2) (h : GB (σ, τ) n) (h15 : 0 ≤ σ 15 0 ∧ σ 15 0 ≤ 20000) (g0 : 0 ≤ g) (g1 : g ≤ 1000000) : GB (s, t) (n + 1) := by
  obtain ⟨-, -, e6, -, -, -, -, -, eo⟩ := stS_v hs
  obtain ⟨t1, t2, t3, t4⟩ := stS_t ht
  obtain ⟨h1, ⟨a, b, c, b1, b2, b3, b4⟩, h3⟩ := h
  have b1 : τ 33 0 = jv a := b1
  have b2 : τ 34 0 = jv b := b2
  have b3 : τ 35 0 = jv c := b3
  have b4 : a = b + c + sumZ (σ 6) n := b4
  refine ⟨fun j hj => ?_, ⟨a + g, b, c, ?_, ?_, ?_, ?_⟩, fun j hj => ?_⟩
  · show ∃ H : Int, t 13 j = jv H ∧ 0 ≤ H ∧ H ≤ 20000 * s 6 j
    by_cases q : j = n
    · have mm := mulb g0 (Int.le_refl g) h15.1 h15.2
      rw [q, t1, e6]
      exact ⟨_, rfl, by omega, by omega⟩
    · obtain ⟨H, x1, x2, x3⟩ := h1 j (by omega)
      rw [t4 j q, eo 6 j (by omega) q]
      exact ⟨H, x1, x2, x3⟩
  · show t 33 0 = _
    rw [t2, b1, jv_add]
  · show t 34 0 = _
    rw [t3 34 (by omega) (by omega), b2]
  · show t 35 0 = _
    rw [t3 35 (by omega) (by omega), b3]
  · show a + g = b + c + (sumZ (s 6) n + s 6 n)
    rw [e6, sumZ_c (fun i hi => eo 6 i (by omega) (show i ≠ n by omega))]
    omega
  · show 0 ≤ s 6 j ∧ s 6 j ≤ 1000000
    by_cases q : j = n
    · rw [q, e6]; exact ⟨g0, g1⟩
    · rw [eo 6 j (by omega) q]; exact h3 j (by omega)
theorem rate_0 {σ : ZT} {k : Nat} {b : Bool} (h : σ 10 k = 0) : rateZ σ k b = 0 := by
  unfold rateZ
  rw [h, Int.zero_mul, Int.zero_mul]
  split
  · rfl
  · omega

set_option maxRecDepth 20000 in
set_option maxHeartbeats 1000000 in
theorem ct_isTaken {Ω : OmT} {hR : AH} {x dA nA : Nat} {T a b : Int} (ha : 0 ≤ a ∧ a < 2147483648) (hb : 0 ≤ b ∧ b < 2147483648) : Ct Ω yL_isTaken cL_isTaken 11 (some FieldType.boolean) (rkc 14 20 200) [.ref x, .ref dA, .int (iv a), .int (iv b)] (LwSt Ω x dA nA T) hR (RV (.int (iv 1)) (LwSt Ω x dA nA T)) NX := by
  refine Ct.of (own := RL) (L := [(0, _), (1, _), (2, _), (3, _)]) (by decide +kernel) rfl (Nat.le_of_ble_eq_true rfl) rfl ?_
  intro κ C hn E hi
  refine LwSt.un (fun X lay ξ σ τ ns nc nl fd fn hl g hla hrg hx hd hf d0 d1 d2 d3 d4 hT => ?_)
  subst hx
  obtain ⟨aa, bb, cc, b1, b2, b3, b4⟩ := g.2.1
  have n5 := hl.1.2.1
  have o2 := hl.1.1
  have h15 := hl.1.2.2.2.2.2.2.2.2.2.2
  refine y_iconst (pc := 0) C dL_isTaken_0 ?_
  refine y_iload_n (pc := 1) C dL_isTaken_1 2 rfl ?_
  refine y_sipush (pc := 2) (z := 20000) C dL_isTaken_2 (by decide) ?_
  refine y_irem (pc := 5) C dL_isTaken_5 (by omega) (by omega) (by omega) (by omega) ?_
  refine y_iadd (pc := 6) C dL_isTaken_6 ?_
  refine y_istore (pc := 7) (L' := [(4, _), (0, _), (1, _), (2, _), (3, _)]) C dL_isTaken_7 (by rw [hn]; decide) rfl ?_
  obtain ⟨V, hV⟩ : ∃ V : Int, V = 1 + a % 20000 := ⟨_, rfl⟩
  rw [← hV]
  have V1 : 1 ≤ V ∧ V ≤ 20000 := by omega
  refine y_iload_n (pc := 9) C dL_isTaken_9 4 rfl ?_
  refine y_bipush (pc := 10) (z := 100) C dL_isTaken_10 (by decide) ?_
  refine y_irem (pc := 12) C dL_isTaken_12 (by omega) (by omega) (by omega) (by omega) ?_
  refine y_istore (pc := 13) (L' := [(5, _), (4, _), (0, _), (1, _), (2, _), (3, _)]) C dL_isTaken_13 (by rw [hn]; decide) rfl ?_
  obtain ⟨lo, hlo⟩ : ∃ lo : Int, lo = b % 100 := ⟨_, rfl⟩
  rw [← hlo]
  have lo1 : 0 ≤ lo ∧ lo ≤ 99 := by omega
  refine y_iload (pc := 15) C dL_isTaken_15 0 rfl ?_
  refine y_iload_n (pc := 17) C dL_isTaken_17 5 rfl ?_
  refine y_bipush (pc := 18) (z := 100) C dL_isTaken_18 (by decide) ?_
  refine y_idivP (pc := 20) C dL_isTaken_20 (by omega) (by omega) (by omega) (by omega) ?_
  refine y_sipush (pc := 21) (z := 300) C dL_isTaken_21 (by decide) ?_
  refine y_irem (pc := 24) C dL_isTaken_24 (by omega) (by omega) (by omega) (by omega) ?_
  refine y_iadd (pc := 25) C dL_isTaken_25 ?_
  refine y_istore (pc := 26) (L' := [(6, _), (5, _), (4, _), (0, _), (1, _), (2, _), (3, _)]) C dL_isTaken_26 (by rw [hn]; decide) rfl ?_
  obtain ⟨gr, hgr⟩ : ∃ gr : Int, gr = lo + b / 100 % 300 := ⟨_, rfl⟩
  rw [← hgr]
  have gr1 : lo ≤ gr ∧ gr ≤ 398 := by omega
  have m1 := mulb (by omega : 0 ≤ gr) gr1.2 (by omega : 0 ≤ V) V1.2
  have m2 := mulb lo1.1 lo1.2 (by omega : 0 ≤ V) V1.2
  refine y_aload_n (pc := 28) C dL_isTaken_28 3 rfl ?_
  refine y_iconst (pc := 29) C dL_isTaken_29 ?_
  refine y_cg (pc := 30) (cs' := 1) (sl' := 6) (v := .long (jv aa)) (As := [_]) C E.2.1 cv_L_94 (fun hR' => mg_of hl.1 (Nat.le_refl _) 1 (by decide)) (by decide) (fun q hq => by revert q; decide) (fun h q => ⟨_, q.gas⟩) (congrArg Value.long b1) rfl rfl (Nat.le_of_ble_eq_true rfl) ⟨by decide, by decide, (by decide), (by decide)⟩ (by decide) (by decide) dL_isTaken_30 ?_
  refine y_lstore (pc := 33) (L' := [(7, _), (6, _), (5, _), (4, _), (0, _), (1, _), (2, _), (3, _)]) C dL_isTaken_33 (by rw [hn]; decide) rfl ?_
  refine y_iload (pc := 35) C dL_isTaken_35 1 rfl ?_
  refine y_iload (pc := 37) C dL_isTaken_37 3 rfl ?_
  refine y_imul (pc := 39) C dL_isTaken_39 ?_
  refine y_bipush (pc := 40) (z := 100) C dL_isTaken_40 (by decide) ?_
  refine y_idivP (pc := 42) C dL_isTaken_42 (by omega) (by omega) (by omega) (by omega) ?_
  refine y_istore (pc := 43) (L' := [(9, _), (7, _), (6, _), (5, _), (4, _), (0, _), (1, _), (2, _), (3, _)]) C dL_isTaken_43 (by rw [hn]; decide) rfl ?_
  obtain ⟨G, hG⟩ : ∃ G : Int, G = gr * V / 100 := ⟨_, rfl⟩
  rw [← hG]
  have G1 : 0 ≤ G ∧ G ≤ 79600 := by omega
  refine y_aload_n (pc := 45) C dL_isTaken_45 5 rfl ?_
  refine y_iload_n (pc := 46) C dL_isTaken_46 7 rfl ?_
  refine y_iconst (pc := 47) C dL_isTaken_47 ?_
  refine y_irem (pc := 48) C dL_isTaken_48 (by omega) (by omega) (by omega) (by omega) ?_
  refine y_iload (pc := 49) C dL_isTaken_49 4 rfl ?_
  refine y_iload (pc := 51) C dL_isTaken_51 0 rfl ?_
  refine y_iload (pc := 53) C dL_isTaken_53 3 rfl ?_
  refine y_iload (pc := 55) C dL_isTaken_55 2 rfl ?_
  refine y_joinI (pcj := 86) (P := fun v => 0 ≤ v ∧ v ≤ 1000000) (fun v1 hv1 => ?_) (fun J1 => ?_)
  · skip
    obtain ⟨M, hM⟩ : ∃ M : Int, M = v1 := ⟨_, rfl⟩
    rw [← hM]
    rw [← hM] at hv1
    refine y_cw (pc := 86) (cs' := 3) (sl' := 66) (n := 7) (As := [_, _, _, _, _, _, _]) C E.2.1 aw_1_223 aw_1_224 aw_1_0 aw_1_225 ⟨by decide, by decide, by decide +kernel⟩ (fun hR' => wl_stores hl.1 (Nat.le_refl _) hla hl.2.2.1 (a % 3) ⟨by omega, by omega⟩ V ⟨by omega, by omega⟩ G ⟨by omega, by omega⟩ lo ⟨by omega, by omega⟩ gr ⟨by omega, by omega⟩ M ⟨by omega, by omega⟩) rfl rfl (Nat.le_of_ble_eq_true rfl) ⟨by decide, by decide, (by decide), (by decide)⟩ (by decide) (by decide) dL_isTaken_86 (fun rv => ?_)
    refine Y.for (Y.fand fun hK => Y.fand fun er => ?_) (Y.for (Y.fand fun hK => Y.fand fun er => ?_) (Y.fand fun hK => Y.fand fun er => ?_))
    · subst er
      refine Y.fex fun lay2 => Y.fand fun hx2 => Y.fand fun hlo2 => ?_
      obtain ⟨s2, hs2⟩ : ∃ s2, s2 = (stS ns (a % 3) V G lo gr M (σ, τ)).1 := ⟨_, rfl⟩
      obtain ⟨t2, ht2⟩ : ∃ t2, t2 = (stS ns (a % 3) V G lo gr M (σ, τ)).2 := ⟨_, rfl⟩
      have hl2 := li_store hl hK
      rw [← hs2, ← ht2] at hl2 ⊢
      obtain ⟨-, e4, e6, -, e8, -, e2, en, eo⟩ := stS_v hs2
      obtain ⟨t1, t33, tn, -⟩ := stS_t ht2
      have g2 := gb_store hs2 ht2 g h15 G1.1 (by omega)
      have bl := hl.2.2.1.1 ns (Nat.le_refl _)
      have o2' := hl2.1.1
      have e10 : s2 10 ns = 0 := by rw [en 10 (by decide)]; exact bl.2.1
      have ert : roomZ s2 ns = V := by unfold roomZ; rw [e4, en 5 (by decide), bl.1]; omega
      have ets : σ 2 0 + 1 - 1 = ((ns : Nat) : Int) := by omega
      rw [ets, ← hx2]
      have o2 := o2'
      have fx0 : hset X dA (.inl (OmI Ω, 5, .inl (upd fd 0 (iv ((ns + 1 : Nat) : Int))))) dA = some (.inl (OmI Ω, 5, .inl (upd fd 0 (iv ((ns + 1 : Nat) : Int))))) := hset_s
      have fx1 : hset X dA (.inl (OmI Ω, 5, .inl (upd fd 0 (iv ((ns + 1 : Nat) : Int))))) nA = some (.inl (OmI Ω, 48, .inl fn)) := (hset_n (ne_dn hf hd (by decide))).trans hf
      refine y_istore (pc := 89) (L' := [(10, _), (9, _), (7, _), (6, _), (5, _), (4, _), (0, _), (1, _), (2, _), (3, _)]) C dL_isTaken_89 (by rw [hn]; decide) rfl ?_
      refine y_iload (pc := 91) C dL_isTaken_91 0 rfl ?_
      refine y_if_ge (pc := 93) (tgt := 147) C dL_isTaken_93 (by decide) (by omega) (by omega) (fun c93 => ?_) (fun c => absurd (by omega) c)
      refine y_aload_n (pc := 147) C dL_isTaken_147 7 rfl ?_
      refine y_iconst (pc := 148) C dL_isTaken_148 ?_
      refine y_dup2 (pc := 149) C dL_isTaken_149 rfl rfl ?_
      refine y_xald (pc := 150) (v := (ns : Nat)) C 0 hd rfl (by decide) (by decide) d0 dL_isTaken_150 ?_
      refine y_iconst (pc := 151) C dL_isTaken_151 ?_
      refine y_iadd (pc := 152) C dL_isTaken_152 ?_
      refine y_xast (pc := 153) C 0 hd rfl (by decide) (by decide) dL_isTaken_153 ?_
      rw [show ((ns : Nat) : Int) + 1 = ((ns + 1 : Nat) : Int) by omega]
      refine y_iload (pc := 154) C dL_isTaken_154 0 rfl ?_
      refine y_aload_n (pc := 156) C dL_isTaken_156 7 rfl ?_
      refine y_iconst (pc := 157) C dL_isTaken_157 ?_
      refine y_xald (pc := 158) (v := ((ns + 1 : Nat) : Int)) C 0 fx0 rfl (by decide) (by decide) rfl dL_isTaken_158 ?_
      refine y_iconst (pc := 159) C dL_isTaken_159 ?_
      refine y_isub (pc := 160) C dL_isTaken_160 ?_
      refine y_icmp_ne (pc := 161) (tgt := 251) C dL_isTaken_161 (by decide) (by omega) (by omega) (by omega) (by omega) (fun c => absurd c (by omega)) (fun c161 => ?_)
      refine y_aload_n (pc := 164) C dL_isTaken_164 6 rfl ?_
      refine y_iconst (pc := 165) C dL_isTaken_165 ?_
      refine y_cg (pc := 166) (cs' := 4) (sl' := 72) (v := .long (jv (aa + G))) (As := [_]) C E.2.1 cv_L_94 (fun hR' => mg_of hl2.1 (Nat.le_refl _) 1 (by decide)) (by decide) (fun q hq => by revert q; decide) (fun h q => ⟨_, q.gas⟩) (congrArg Value.long (by show t2 33 0 = _; rw [t33, show τ 33 0 = jv aa from b1, jv_add])) rfl rfl (Nat.le_of_ble_eq_true rfl) ⟨by decide, by decide, (by decide), (by decide)⟩ (by decide) (by decide) dL_isTaken_166 ?_
      refine y_lload (pc := 169) C dL_isTaken_169 2 rfl ?_
      refine y_iload (pc := 171) C dL_isTaken_171 1 rfl ?_
      refine y_i2l (pc := 173) C dL_isTaken_173 (by omega) (by omega) ?_
      refine y_ladd (pc := 174) C dL_isTaken_174 ?_
      refine y_lcmpE (pc := 175) C dL_isTaken_175 ?_
      refine y_if_ne (tgt := 251) C dL_isTaken_176 (by decide) (by decide) (by decide) (fun c => absurd rfl c) (fun _ => ?_)
      refine y_aload_n (pc := 179) C dL_isTaken_179 6 rfl ?_
      refine y_iload (pc := 180) C dL_isTaken_180 0 rfl ?_
      refine y_iconst (pc := 182) C dL_isTaken_182 ?_
      refine y_cg (pc := 183) (cs' := 6) (sl' := 84) (v := .long (jv G)) (As := [_, _]) C E.2.1 cv_L_77 (fun hR' => mg_ofStore hl2.1 (Nat.le_refl _) ((ns : Nat) : Int) ⟨by omega, by omega⟩ 0 (by decide)) (k_os o2 (Nat.lt_succ_self ns) (by decide) (by decide)) (fun q hq => by revert q; decide) (fun h q => ⟨_, q.gas⟩) (congrArg Value.long (by show jv (s2 6 ns) = _; rw [e6])) rfl rfl (Nat.le_of_ble_eq_true rfl) ⟨by decide, by decide, (by decide), (by decide)⟩ (by decide) (by decide) dL_isTaken_183 ?_
      refine y_iload (pc := 186) C dL_isTaken_186 1 rfl ?_
      refine y_i2l (pc := 188) C dL_isTaken_188 (by omega) (by omega) ?_
      refine y_lcmpE (pc := 189) C dL_isTaken_189 ?_
      refine y_if_ne (tgt := 251) C dL_isTaken_190 (by decide) (by decide) (by decide) (fun c => absurd rfl c) (fun _ => ?_)
      refine y_aload_n (pc := 193) C dL_isTaken_193 6 rfl ?_
      refine y_iload (pc := 194) C dL_isTaken_194 0 rfl ?_
      refine y_bipush (pc := 196) (z := 6) C dL_isTaken_196 (by decide) ?_
      refine y_cg (pc := 198) (cs' := 8) (sl' := 96) (v := .long (jv G)) (As := [_, _]) C E.2.1 cv_L_77 (fun hR' => mg_ofStore hl2.1 (Nat.le_refl _) ((ns : Nat) : Int) ⟨by omega, by omega⟩ 6 (by decide)) (k_os o2 (Nat.lt_succ_self ns) (by decide) (by decide)) (fun q hq => by revert q; decide) (fun h q => ⟨_, q.gas⟩) (congrArg Value.long (by show jv (mostZ (s2 8 ns) (roomZ s2 ns)) = _; rw [e8, ert]; exact congrArg jv hG.symm)) rfl rfl (Nat.le_of_ble_eq_true rfl) ⟨by decide, by decide, (by decide), (by decide)⟩ (by decide) (by decide) dL_isTaken_198 ?_
      refine y_iload (pc := 201) C dL_isTaken_201 1 rfl ?_
      refine y_i2l (pc := 203) C dL_isTaken_203 (by omega) (by omega) ?_
      refine y_lcmpE (pc := 204) C dL_isTaken_204 ?_
      refine y_if_ne (tgt := 251) C dL_isTaken_205 (by decide) (by decide) (by decide) (fun c => absurd rfl c) (fun _ => ?_)
      refine y_aload_n (pc := 208) C dL_isTaken_208 6 rfl ?_
      refine y_iload (pc := 209) C dL_isTaken_209 0 rfl ?_
      refine y_iconst (pc := 211) C dL_isTaken_211 ?_
      refine y_cg (pc := 212) (cs' := 10) (sl' := 108) (v := .long (jv (G * σ 15 0))) (As := [_, _]) C E.2.1 cv_L_77 (fun hR' => mg_ofStore hl2.1 (Nat.le_refl _) ((ns : Nat) : Int) ⟨by omega, by omega⟩ 4 (by decide)) (k_os o2 (Nat.lt_succ_self ns) (by decide) (by decide)) (fun q hq => by revert q; decide) (fun h q => ⟨_, q.gas⟩) (congrArg Value.long (show t2 13 ns = _ from t1)) rfl rfl (Nat.le_of_ble_eq_true rfl) ⟨by decide, by decide, (by decide), (by decide)⟩ (by decide) (by decide) dL_isTaken_212 ?_
      refine y_iload (pc := 215) C dL_isTaken_215 1 rfl ?_
      refine y_i2l (pc := 217) C dL_isTaken_217 (by omega) (by omega) ?_
      refine y_aload_n (pc := 218) C dL_isTaken_218 7 rfl ?_
      refine y_iconst (pc := 219) C dL_isTaken_219 ?_
      refine y_xald (pc := 220) (v := (σ 15 0)) C 4 fx0 rfl (by decide) (by decide) d4 dL_isTaken_220 ?_
      refine y_i2l (pc := 221) C dL_isTaken_221 (by omega) (by omega) ?_
      refine y_lmul (pc := 222) C dL_isTaken_222 ?_
      refine y_lcmpE (pc := 223) C dL_isTaken_223 ?_
      refine y_if_ne (tgt := 251) C dL_isTaken_224 (by decide) (by decide) (by decide) (fun c => absurd rfl c) (fun _ => ?_)
      refine y_aload_n (pc := 227) C dL_isTaken_227 6 rfl ?_
      refine y_iload (pc := 228) C dL_isTaken_228 0 rfl ?_
      refine y_iconst (pc := 230) C dL_isTaken_230 ?_
      refine y_cg (pc := 231) (cs' := 11) (sl' := 114) (v := .int (iv 0)) (As := [_, _]) C E.2.1 cv_L_44 (fun hR' => mg_rate hl2.1 (Nat.le_refl _) ((ns : Nat) : Int) ⟨by omega, by omega⟩ true) (k_so o2 (Nat.lt_succ_self ns)) (fun q hq => by revert q; decide) (fun h q => ⟨_, q.gas⟩) (congrArg (fun z => Value.int (iv z)) (rate_0 e10)) rfl rfl (Nat.le_of_ble_eq_true rfl) ⟨by decide, by decide, (by decide), (by decide)⟩ (by decide) (by decide) dL_isTaken_231 ?_
      refine y_if_ne (pc := 234) (tgt := 251) C dL_isTaken_234 (by decide) (by omega) (by omega) (fun c => absurd c (by decide)) (fun c234 => ?_)
      refine y_aload_n (pc := 237) C dL_isTaken_237 6 rfl ?_
      refine y_iload (pc := 238) C dL_isTaken_238 0 rfl ?_
      refine y_iconst (pc := 240) C dL_isTaken_240 ?_
      refine y_cg (pc := 241) (cs' := 12) (sl' := 120) (v := .int (iv 0)) (As := [_, _]) C E.2.1 cv_L_44 (fun hR' => mg_rate hl2.1 (Nat.le_refl _) ((ns : Nat) : Int) ⟨by omega, by omega⟩ false) (k_so o2 (Nat.lt_succ_self ns)) (fun q hq => by revert q; decide) (fun h q => ⟨_, q.gas⟩) (congrArg (fun z => Value.int (iv z)) (rate_0 e10)) rfl rfl (Nat.le_of_ble_eq_true rfl) ⟨by decide, by decide, (by decide), (by decide)⟩ (by decide) (by decide) dL_isTaken_241 ?_
      refine y_if_ne (pc := 244) (tgt := 251) C dL_isTaken_244 (by decide) (by omega) (by omega) (fun c => absurd c (by decide)) (fun c244 => ?_)
      refine y_iconst (pc := 247) C dL_isTaken_247 ?_
      refine y_goto (pc := 248) (tgt := 252) C dL_isTaken_248 (by decide) ?_
      exact y_zret (pc := 252) (b := true) C E dL_isTaken_252 (by decide) (by decide) (fun h hh => ⟨rfl, LwSt.mk hl2 g2 hlo2 (rg_c hrg (by rw [en 1 (by decide)]) (en 25 (by decide))) hx2 fx0 fx1 rfl d1 d2 (d3.trans (by rw [en 1 (by decide)])) (d4.trans (by rw [en 15 (by decide)])) (by rw [en 1 (by decide)]; exact hT) hh⟩)
    · subst er
      refine y_istore (pc := 89) (L' := [(10, _), (9, _), (7, _), (6, _), (5, _), (4, _), (0, _), (1, _), (2, _), (3, _)]) C dL_isTaken_89 (by rw [hn]; decide) rfl ?_
      refine y_iload (pc := 91) C dL_isTaken_91 0 rfl ?_
      refine y_if_ge (pc := 93) (tgt := 147) C dL_isTaken_93 (by decide) (by omega) (by omega) (fun c => absurd c (by decide)) (fun c93 => ?_)
      refine y_aload_n (pc := 96) C dL_isTaken_96 6 rfl ?_
      refine y_iconst (pc := 97) C dL_isTaken_97 ?_
      refine y_cg (pc := 98) (cs' := 4) (sl' := 72) (v := .long (jv aa)) (As := [_]) C E.2.1 cv_L_94 (fun hR' => mg_of hl.1 (Nat.le_refl _) 1 (by decide)) (by decide) (fun q hq => by revert q; decide) (fun h q => ⟨_, q.gas⟩) (congrArg Value.long b1) rfl rfl (Nat.le_of_ble_eq_true rfl) ⟨by decide, by decide, (by decide), (by decide)⟩ (by decide) (by decide) dL_isTaken_98 ?_
      refine y_lload (pc := 101) C dL_isTaken_101 2 rfl ?_
      refine y_lcmpE (pc := 103) C dL_isTaken_103 ?_
      refine y_if_ne (tgt := 145) C dL_isTaken_104 (by decide) (by decide) (by decide) (fun c => absurd rfl c) (fun _ => ?_)
      refine y_iload (pc := 107) C dL_isTaken_107 0 rfl ?_
      refine y_sipush (pc := 109) (z := (-200)) C dL_isTaken_109 (by decide) ?_
      refine y_icmp_ne (pc := 112) (tgt := 125) C dL_isTaken_112 (by decide) (by omega) (by omega) (by omega) (by omega) (fun c => absurd c (fun z => z rfl)) (fun c112 => ?_)
      refine y_aload_n (pc := 115) C dL_isTaken_115 7 rfl ?_
      refine y_iconst (pc := 116) C dL_isTaken_116 ?_
      refine y_xald (pc := 117) (v := (ns : Nat)) C 0 hd rfl (by decide) (by decide) d0 dL_isTaken_117 ?_
      refine y_iconst (pc := 118) C dL_isTaken_118 ?_
      refine y_icmp_ne (pc := 119) (tgt := 145) C dL_isTaken_119 (by decide) (by omega) (by omega) (by omega) (by omega) (fun c => absurd c (by have := stK_2 hK; omega)) (fun c119 => ?_)
      refine y_goto (pc := 122) (tgt := 141) C dL_isTaken_122 (by decide) ?_
      refine y_iconst (pc := 141) C dL_isTaken_141 ?_
      refine y_goto (pc := 142) (tgt := 146) C dL_isTaken_142 (by decide) ?_
      exact y_zret (pc := 146) (b := true) C E dL_isTaken_146 (by decide) (by decide) (fun h hh => ⟨rfl, LwSt.mk hl g hla hrg rfl hd hf d0 d1 d2 d3 d4 hT hh⟩)
    · subst er
      have lz := stK_1 hK ⟨by omega, by omega, by omega, by omega, by omega, by omega, by omega, by omega, by omega, by omega, by unfold mostZ; omega⟩
      unfold leastZ at lz
      refine y_istore (pc := 89) (L' := [(10, _), (9, _), (7, _), (6, _), (5, _), (4, _), (0, _), (1, _), (2, _), (3, _)]) C dL_isTaken_89 (by rw [hn]; decide) rfl ?_
      refine y_iload (pc := 91) C dL_isTaken_91 0 rfl ?_
      refine y_if_ge (pc := 93) (tgt := 147) C dL_isTaken_93 (by decide) (by omega) (by omega) (fun c => absurd c (by decide)) (fun c93 => ?_)
      refine y_aload_n (pc := 96) C dL_isTaken_96 6 rfl ?_
      refine y_iconst (pc := 97) C dL_isTaken_97 ?_
      refine y_cg (pc := 98) (cs' := 4) (sl' := 72) (v := .long (jv aa)) (As := [_]) C E.2.1 cv_L_94 (fun hR' => mg_of hl.1 (Nat.le_refl _) 1 (by decide)) (by decide) (fun q hq => by revert q; decide) (fun h q => ⟨_, q.gas⟩) (congrArg Value.long b1) rfl rfl (Nat.le_of_ble_eq_true rfl) ⟨by decide, by decide, (by decide), (by decide)⟩ (by decide) (by decide) dL_isTaken_98 ?_
      refine y_lload (pc := 101) C dL_isTaken_101 2 rfl ?_
      refine y_lcmpE (pc := 103) C dL_isTaken_103 ?_
      refine y_if_ne (tgt := 145) C dL_isTaken_104 (by decide) (by decide) (by decide) (fun c => absurd rfl c) (fun _ => ?_)
      refine y_iload (pc := 107) C dL_isTaken_107 0 rfl ?_
      refine y_sipush (pc := 109) (z := (-200)) C dL_isTaken_109 (by decide) ?_
      refine y_icmp_ne (pc := 112) (tgt := 125) C dL_isTaken_112 (by decide) (by omega) (by omega) (by omega) (by omega) (fun c112 => ?_) (fun c => absurd c (by decide))
      refine y_iload (pc := 125) C dL_isTaken_125 4 rfl ?_
      refine y_iload (pc := 127) C dL_isTaken_127 5 rfl ?_
      refine y_imul (pc := 129) C dL_isTaken_129 ?_
      refine y_bipush (pc := 130) (z := 99) C dL_isTaken_130 (by decide) ?_
      refine y_iadd (pc := 132) C dL_isTaken_132 ?_
      refine y_bipush (pc := 133) (z := 100) C dL_isTaken_133 (by decide) ?_
      refine y_idivP (pc := 135) C dL_isTaken_135 (by omega) (by omega) (by omega) (by omega) ?_
      refine y_iload (pc := 136) C dL_isTaken_136 1 rfl ?_
      refine y_icmp_le (pc := 138) (tgt := 145) C dL_isTaken_138 (by decide) (by omega) (by omega) (by omega) (by omega) (fun c => absurd c (by omega)) (fun c138 => ?_)
      refine y_iconst (pc := 141) C dL_isTaken_141 ?_
      refine y_goto (pc := 142) (tgt := 146) C dL_isTaken_142 (by decide) ?_
      exact y_zret (pc := 146) (b := true) C E dL_isTaken_146 (by decide) (by decide) (fun h hh => ⟨rfl, LwSt.mk hl g hla hrg rfl hd hf d0 d1 d2 d3 d4 hT hh⟩)
  · skip
    refine y_iload_n (pc := 57) C dL_isTaken_57 7 rfl ?_
    refine y_iconst (pc := 58) C dL_isTaken_58 ?_
    refine y_irem (pc := 59) C dL_isTaken_59 (by omega) (by omega) (by omega) (by omega) ?_
    refine y_iconst (pc := 60) C dL_isTaken_60 ?_
    refine y_icmp_ne (pc := 61) (tgt := 77) C dL_isTaken_61 (by decide) (by omega) (by omega) (by omega) (by omega) (fun c61 => ?_) (fun c61 => ?_)
    · skip
      refine y_iload_n (pc := 77) C dL_isTaken_77 8 rfl ?_
      refine y_sipush (pc := 78) (z := 30000) C dL_isTaken_78 (by decide) ?_
      refine y_idivP (pc := 81) C dL_isTaken_81 (by omega) (by omega) (by omega) (by omega) ?_
      refine y_sipush (pc := 82) (z := 300) C dL_isTaken_82 (by decide) ?_
      refine y_irem (pc := 85) C dL_isTaken_85 (by omega) (by omega) (by omega) (by omega) ?_
      exact J1 _ ⟨by omega, by omega⟩
    · skip
      refine y_iload (pc := 64) C dL_isTaken_64 0 rfl ?_
      refine y_iconst (pc := 66) C dL_isTaken_66 ?_
      refine y_idivP (pc := 67) C dL_isTaken_67 (by omega) (by omega) (by omega) (by omega) ?_
      refine y_iload_n (pc := 68) C dL_isTaken_68 8 rfl ?_
      refine y_sipush (pc := 69) (z := 500) C dL_isTaken_69 (by decide) ?_
      refine y_irem (pc := 72) C dL_isTaken_72 (by omega) (by omega) (by omega) (by omega) ?_
      refine y_iadd (pc := 73) C dL_isTaken_73 ?_
      refine y_goto (pc := 74) (tgt := 86) C dL_isTaken_74 (by decide) ?_
      exact J1 _ ⟨by omega, by omega⟩
