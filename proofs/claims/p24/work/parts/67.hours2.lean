/-! areHours: an hour goes by -/
theorem k_ps {σ : ZT} (h : σ 1 0 + 1 ≤ 9900) : psK σ 1 = 0 := by
  unfold psK
  rw [if_pos ⟨by decide, by decide⟩, if_neg (by omega)]
theorem kept_c {σ s : ZT} {nl : Nat} (h : ∀ f, f < 36 → s f = σ f) : keptZ s nl = keptZ σ nl := by
  unfold keptZ
  rw [lawI_c h, h 30 (by omega)]
theorem kept_b {σ : ZT} {ns nc nl : Nat} (h : Wf σ ns nc nl) : 0 ≤ keptZ σ nl ∧ keptZ σ nl ≤ 10000000 := by
  have b := lawI_b (σ := σ) (n := nl)
  unfold keptZ
  split
  · omega
  · have q := h.2.2.2.2.1.2.2 (lawI σ nl).toNat (by omega)
    omega

set_option maxRecDepth 20000 in
theorem ah_chk {Ω : OmT} {κ : KxT} {hR X : AH} {lay : Nat → Nat → Nat} {ξ : XiT} {p : ZT × JT} {ns nc nl dA nA w v c1 s1 : Nat} {fd fw : Nat → Int32} {fv : Nat → Int64} {g dl : Nat → Int} {i0 kz wt nt hh Hn : Int} (C : Cx Ω κ RL cL_areHours) (hn : kn κ = 17) (hr : kR κ = (rkc 16 4100 25500)) (hl : LI ξ p.1 p.2 ns nc nl) (hd : X dA = some (.inl (OmI Ω, 5, .inl fd))) (d1 : fd 1 = iv nc) (hw : X w = some (.inl (OmI Ω, 6, .inl fw))) (hv : X v = some (.inl (OmJ Ω, 6, .inr (.inl fv)))) (ew : ∀ k, k < nc → fw k = iv (dl k)) (ev : ∀ k, k < nc → fv k = jv (g k)) (eb : ∀ k, k < nc → -100000 ≤ dl k ∧ dl k ≤ 100000) (e21 : ∀ k, k < nc → p.1 21 k = g k + dl k) (hc1 : c1 ≤ 4100) (hs1 : s1 ≤ 25500)
    (kk : Y Ω κ (FX X (InvC Ω lay ns ns nc nl ξ p.1 p.2)) hR c1 s1 401 [(16, .int (iv (nc : Nat))), (14, .long (jv i0)), (12, .long (jv kz)), (11, .ref v), (10, .ref w), (8, .long (jv wt)), (6, .long (jv nt)), (5, .int (iv hh)), (4, .int (iv 1)), (0, .ref (lay 0 0)), (1, .ref dA), (2, .ref nA), (3, .int (iv Hn))] []) :
    ∀ (m i c sl : Nat), i + m = nc → c + 4 * m ≤ c1 → sl + 24 * m ≤ s1 → Y Ω κ (FX X (InvC Ω lay ns ns nc nl ξ p.1 p.2)) hR c sl 340 [(16, .int (iv (i : Nat))), (14, .long (jv i0)), (12, .long (jv kz)), (11, .ref v), (10, .ref w), (8, .long (jv wt)), (6, .long (jv nt)), (5, .int (iv hh)), (4, .int (iv 1)), (0, .ref (lay 0 0)), (1, .ref dA), (2, .ref nA), (3, .int (iv Hn))] [] := by
  have n6 := hl.1.2.2.2.1
  have o16 := hl.1.2.2.1
  intro m
  induction m with
  | zero =>
    intro i c sl h1 h2 h3
    have e : i = nc := by omega
    rw [e]
    refine y_iload (pc := 340) C dL_areHours_340 0 rfl ?_
    refine y_aload_n (pc := 342) C dL_areHours_342 10 rfl ?_
    refine y_iconst (pc := 343) C dL_areHours_343 ?_
    refine y_xald (pc := 344) (v := (nc : Nat)) C 1 hd rfl (by decide) (by decide) d1 dL_areHours_344 ?_
    refine y_icmp_ge (pc := 345) (tgt := 401) C dL_areHours_345 (by decide) (by omega) (by omega) (by omega) (by omega) (fun c345 => ?_) (fun c => absurd (by omega) c)
    exact Y.sub [0, 1, 2, 3, 4, 5, 6, 7, 8, 9, 10, 11, 12] rfl (Y.wide (by omega) (by omega) kk)
  | succ m ih =>
    intro i c sl h1 h2 h3
    have hi : i < nc := by omega
    have hcu := hl.1.2.2.2.2.2.2.2.1 i hi
    have e21i := e21 i hi
    have ebi := eb i hi
    unfold CuOk at hcu
    refine y_iload (pc := 340) C dL_areHours_340 0 rfl ?_
    refine y_aload_n (pc := 342) C dL_areHours_342 10 rfl ?_
    refine y_iconst (pc := 343) C dL_areHours_343 ?_
    refine y_xald (pc := 344) (v := (nc : Nat)) C 1 hd rfl (by decide) (by decide) d1 dL_areHours_344 ?_
    refine y_icmp_ge (pc := 345) (tgt := 401) C dL_areHours_345 (by decide) (by omega) (by omega) (by omega) (by omega) (fun c => absurd c (by omega)) (fun c345 => ?_)
    refine y_iload (pc := 348) C dL_areHours_348 8 rfl ?_
    refine y_if_eq (pc := 350) (tgt := 401) C dL_areHours_350 (by decide) (by omega) (by omega) (fun c => absurd c (by decide)) (fun c350 => ?_)
    refine y_aload_n (pc := 353) C dL_areHours_353 9 rfl ?_
    refine y_iload (pc := 354) C dL_areHours_354 0 rfl ?_
    refine y_iconst (pc := 356) C dL_areHours_356 ?_
    refine y_cg (pc := 357) (cs' := c + 2) (sl' := sl + 12) (v := .long (jv (g i + dl i))) (As := [_, _]) C hr cv_L_53 (fun hR' => mg_ofCustomer hl.1 (Nat.le_refl _) ((i : Nat) : Int) ⟨by omega, by omega⟩ 0 (by decide)) (k_oc o16 hi (by decide) (by decide)) (fun q hq => by revert q; decide) (fun h q => ⟨_, q.gas⟩) (congrArg Value.long (show jv (p.1 21 i) = _ by rw [e21i])) rfl rfl (Nat.le_of_ble_eq_true rfl) ⟨by decide, by decide, (by show c + 2 ≤ 4100; omega), (by show sl + 12 ≤ 25500; omega)⟩ (by show c + 2 ≤ c + 2; omega) (by show sl + 12 ≤ sl + 12; omega) dL_areHours_357 ?_
    refine y_aload (pc := 360) C dL_areHours_360 3 rfl ?_
    refine y_iload (pc := 362) C dL_areHours_362 0 rfl ?_
    refine y_xlald (pc := 364) (v := (g i)) C i hv rfl (by omega) (by decide) (ev i hi) dL_areHours_364 ?_
    refine y_aload (pc := 365) C dL_areHours_365 4 rfl ?_
    refine y_iload (pc := 367) C dL_areHours_367 0 rfl ?_
    refine y_xald (pc := 369) (v := (dl i)) C i hw rfl (by omega) (by decide) (ew i hi) dL_areHours_369 ?_
    refine y_i2l (pc := 370) C dL_areHours_370 (by omega) (by omega) ?_
    refine y_ladd (pc := 371) C dL_areHours_371 ?_
    refine y_lcmpE (pc := 372) C dL_areHours_372 ?_
    refine y_if_ne (tgt := 392) C dL_areHours_373 (by decide) (by decide) (by decide) (fun c => absurd rfl c) (fun _ => ?_)
    refine y_aload_n (pc := 376) C dL_areHours_376 9 rfl ?_
    refine y_iload (pc := 377) C dL_areHours_377 0 rfl ?_
    refine y_iconst (pc := 379) C dL_areHours_379 ?_
    refine y_cg (pc := 380) (cs' := c + 4) (sl' := sl + 24) (v := .long (jv (p.1 21 i))) (As := [_, _]) C hr cv_L_53 (fun hR' => mg_ofCustomer hl.1 (Nat.le_refl _) ((i : Nat) : Int) ⟨by omega, by omega⟩ 0 (by decide)) (k_oc o16 hi (by decide) (by decide)) (fun q hq => by revert q; decide) (fun h q => ⟨_, q.gas⟩) rfl rfl rfl (Nat.le_of_ble_eq_true rfl) ⟨by decide, by decide, (by show c + 2 + 2 ≤ 4100; omega), (by show sl + 12 + 12 ≤ 25500; omega)⟩ (by show c + 2 + 2 ≤ c + 4; omega) (by show sl + 12 + 12 ≤ sl + 24; omega) dL_areHours_380 ?_
    refine y_lconst (pc := 383) (z := 0) C dL_areHours_383 (by decide) ?_
    refine y_lcmp_lt (pc := 384) (tgt := 392) C dL_areHours_384 dL_areHours_385 (by decide) (by omega) (by omega) (by omega) (by omega) (fun c => absurd c (by omega)) (fun c384 => ?_)
    refine y_iconst (pc := 388) C dL_areHours_388 ?_
    refine y_goto (pc := 389) (tgt := 393) C dL_areHours_389 (by decide) ?_
    refine y_istore (pc := 393) (L' := [(4, _), (16, _), (14, _), (12, _), (11, _), (10, _), (8, _), (6, _), (5, _), (0, _), (1, _), (2, _), (3, _)]) C dL_areHours_393 (by rw [hn]; decide) rfl ?_
    refine y_iinc (pc := 395) (L' := [(16, _), (4, _), (14, _), (12, _), (11, _), (10, _), (8, _), (6, _), (5, _), (0, _), (1, _), (2, _), (3, _)]) C dL_areHours_395 1 rfl (by rw [hn]; decide) rfl ?_
    refine y_goto (pc := 398) (tgt := 340) C dL_areHours_398 (by decide) ?_
    refine Y.sub [0, 2, 3, 4, 5, 6, 7, 8, 1, 9, 10, 11, 12] rfl ?_
    exact ih (i + 1) _ _ (by omega) (by omega) (by omega)

set_option maxRecDepth 20000 in
set_option maxHeartbeats 2000000 in
theorem ah_hour {Ω : OmT} {κ : KxT} {hR : AH} {x dA nA c sl : Nat} {T hh Hn : Int} (C : Cx Ω κ RL cL_areHours) (hn : kn κ = 17) (hr : kR κ = (rkc 16 4100 25500)) (hT9 : T ≤ 9000) (hc : c + 170 ≤ 4100) (hs : sl + 1060 ≤ 25500)
    (kk : Y Ω κ (LwSt Ω x dA nA (T + 1)) hR (c + 170) (sl + 1060) 459 [(5, .int (iv hh)), (4, .int (iv 1)), (0, .ref x), (1, .ref dA), (2, .ref nA), (3, .int (iv Hn))] []) : Y Ω κ (LwSt Ω x dA nA T) hR c sl 17 [(5, .int (iv hh)), (4, .int (iv 1)), (0, .ref x), (1, .ref dA), (2, .ref nA), (3, .int (iv Hn))] [] := by
  refine LwSt.un (fun X0 lay ξ σ τ ns nc nl fd fn hl g hla hrg hx hd hf d0 d1 d2 d3 d4 hT => ?_)
  subst hx
  obtain ⟨aa, bb, cc, b1, b2, b3, b4⟩ := g.2.1
  have n6 := hl.1.2.2.2.1
  have h10 := hl.1.2.2.2.2.2.1.2
  obtain ⟨l, hL⟩ : ∃ l, l = laysZ σ nc nl ns := ⟨_, rfl⟩
  refine y_lconst (pc := 17) (z := 0) C dL_areHours_17 (by decide) ?_
  refine y_lstore (pc := 18) (L' := [(6, _), (5, _), (4, _), (0, _), (1, _), (2, _), (3, _)]) C dL_areHours_18 (by rw [hn]; decide) rfl ?_
  refine y_aload_n (pc := 20) C dL_areHours_20 3 rfl ?_
  refine y_iconst (pc := 21) C dL_areHours_21 ?_
  refine y_cg (pc := 22) (cs' := c + 1) (sl' := sl + 6) (v := .long (jv aa)) (As := [_]) C hr cv_L_94 (fun hR' => mg_of hl.1 (Nat.le_refl _) 1 (by decide)) (by decide) (fun q hq => by revert q; decide) (fun h q => ⟨_, q.gas⟩) (congrArg Value.long b1) rfl rfl (Nat.le_of_ble_eq_true rfl) ⟨by decide, by decide, (by show c + 1 ≤ 4100; omega), (by show sl + 6 ≤ 25500; omega)⟩ (by show c + 1 ≤ c + 1; omega) (by show sl + 6 ≤ sl + 6; omega) dL_areHours_22 ?_
  refine y_aload_n (pc := 25) C dL_areHours_25 3 rfl ?_
  refine y_iconst (pc := 26) C dL_areHours_26 ?_
  refine y_cg (pc := 27) (cs' := c + 2) (sl' := sl + 12) (v := .long (jv bb)) (As := [_]) C hr cv_L_94 (fun hR' => mg_of hl.1 (Nat.le_refl _) 2 (by decide)) (by decide) (fun q hq => by revert q; decide) (fun h q => ⟨_, q.gas⟩) (congrArg Value.long b2) rfl rfl (Nat.le_of_ble_eq_true rfl) ⟨by decide, by decide, (by show c + 1 + 1 ≤ 4100; omega), (by show sl + 6 + 6 ≤ 25500; omega)⟩ (by show c + 1 + 1 ≤ c + 2; omega) (by show sl + 6 + 6 ≤ sl + 12; omega) dL_areHours_27 ?_
  refine y_ladd (pc := 30) C dL_areHours_30 ?_
  refine y_lstore (pc := 31) (L' := [(8, _), (6, _), (5, _), (4, _), (0, _), (1, _), (2, _), (3, _)]) C dL_areHours_31 (by rw [hn]; decide) rfl ?_
  refine y_bipush (pc := 33) (z := 6) C dL_areHours_33 (by decide) ?_
  refine y_xnewI (pc := 35) (n := 6) (cs' := c + 3) (sl' := sl + 18) C aw_1_65 dL_areHours_35 rfl (by decide) (by rw [hr]; show c + 2 + 1 ≤ 4100; omega) (by rw [hr]; show sl + 12 + 6 ≤ 25500; omega) (by omega) (by omega) (fun w hwn => ?_)
  refine y_astore (pc := 37) (L' := [(10, _), (8, _), (6, _), (5, _), (4, _), (0, _), (1, _), (2, _), (3, _)]) C dL_areHours_37 (by rw [hn]; decide) rfl ?_
  refine y_bipush (pc := 39) (z := 6) C dL_areHours_39 (by decide) ?_
  refine y_xnewJ (pc := 41) (n := 6) (cs' := c + 4) (sl' := sl + 24) C aw_4_12 dL_areHours_41 rfl (by decide) (by rw [hr]; show c + 3 + 1 ≤ 4100; omega) (by rw [hr]; show sl + 18 + 6 ≤ 25500; omega) (by omega) (by omega) (fun v hvn => ?_)
  refine y_astore (pc := 43) (L' := [(11, _), (10, _), (8, _), (6, _), (5, _), (4, _), (0, _), (1, _), (2, _), (3, _)]) C dL_areHours_43 (by rw [hn]; decide) rfl ?_
  refine y_iconst (pc := 45) C dL_areHours_45 ?_
  refine y_istore (pc := 46) (L' := [(12, _), (11, _), (10, _), (8, _), (6, _), (5, _), (4, _), (0, _), (1, _), (2, _), (3, _)]) C dL_areHours_46 (by rw [hn]; decide) rfl ?_
  refine Y.sub [0, 1, 2, 3, 4, 5, 6, 7, 8, 9, 10] rfl ?_
  have hwn := hwn
  have nwd : dA ≠ w := fun e => by rw [e, hwn] at hd; cases hd
  have nwn : nA ≠ w := fun e => by rw [e, hwn] at hf; cases hf
  have yd : hset X0 w (.inl (OmI Ω, 6, .inl fun _ => 0)) dA = some (.inl (OmI Ω, 5, .inl fd)) := (hset_n nwd).trans hd
  have yf : hset X0 w (.inl (OmI Ω, 6, .inl fun _ => 0)) nA = some (.inl (OmI Ω, 48, .inl fn)) := (hset_n nwn).trans hf
  have yw : hset X0 w (.inl (OmI Ω, 6, .inl fun _ => 0)) w = some (.inl (OmI Ω, 6, .inl fun _ => 0)) := hset_s
  have nvd : dA ≠ v := fun e => by rw [e, hvn] at yd; cases yd
  have nvn : nA ≠ v := fun e => by rw [e, hvn] at yf; cases yf
  have nvw : w ≠ v := fun e => by rw [← e, yw] at hvn; cases hvn
  refine ah_plan (l := l) (c1 := c + 28) (s1 := sl + 168) (wt := aa + bb) C hn hr hl hL hrg d1 d3 (by omega) (by omega) (fun X s fw fv hp => ?_) nc 0 _ _ _ σ _ _ (Nat.zero_add _) (by omega) (by omega) ⟨hL.symm, fun f _ => rfl, hl, (hset_n nvd).trans yd, (hset_n nvn).trans yf, (hset_n nvw).trans yw, hset_s, fun k hk => absurd hk (Nat.not_lt_zero k), fun k hk => absurd hk (Nat.not_lt_zero k)⟩
  obtain ⟨p1, p2, p3, p4, p5, p6, p7, p8, p9⟩ := hp
  have gs : GB (s, τ) ns := gb_c g (p2 6 (by decide)) (fun f _ => rfl)
  have hb : s 1 0 < 10000 := by rw [p2 1 (by decide)]; omega
  obtain ⟨x9, hx9⟩ : ∃ x9, x9 = netZ l nc := ⟨_, rfl⟩
  obtain ⟨q1, q2, q3, q4, q5, q6⟩ := hour_num (p := (s, τ)) p3.1 hb gs (x := x9) (by rw [hx9]; show netZ l nc = netZ (laysZ s nc nl ns) nc; rw [p1])
  have q7 := li_hour (p := (s, τ)) p3 hb
  have q8 := (hour_f (p := (s, τ)) (ns := ns) (nc := nc) (nl := nl)).2.2.1
  obtain ⟨ξ2, hξ2⟩ : ∃ ξ2, ξ2 = hourX ns nc nl ξ s := ⟨_, rfl⟩
  obtain ⟨pp, hpp⟩ : ∃ pp, pp = hourP ns nc nl (s, τ) := ⟨_, rfl⟩
  rw [← hpp] at q1 q2 q3 q4 q5 q6 q7 q8
  have q7 : LI ξ2 pp.1 pp.2 ns nc nl := by rw [hξ2]; exact q7
  have q2 : pp.2 33 0 = τ 33 0 + jv (if 0 < x9 then absZ x9 else 0) := q2
  have q3 : pp.2 34 0 = τ 34 0 + jv (if 0 < x9 then 0 else absZ x9) := q3
  have q4 : ∀ k, k < nc → pp.1 21 k = σ 21 k + (l 36 k - l 37 k) := fun k hk => by rw [q4 k hk]; show s 21 k + (laysZ s nc nl ns 36 k - laysZ s nc nl ns 37 k) = _; rw [p1, p2 21 (by decide)]
  have q8 : pp.1 1 0 = σ 1 0 + 1 := by rw [q8]; show s 1 0 + 1 = _; rw [p2 1 (by decide)]
  have q5 : pp.1 15 0 = σ 15 0 := by rw [q5]; show s 15 0 = _; rw [p2 15 (by decide)]
  obtain ⟨nt, hnt⟩ : ∃ nt, nt = sumZ (fun k => l 36 k - l 37 k) nc := ⟨_, rfl⟩
  have ent : nt = x9 := by rw [hnt, hx9]; have := sum_ab (f := fun k => l 36 k - l 37 k) (g := fun _ => 0) (a := l 36) (b := l 37) (n := nc) (fun k hk => by show l 36 k - l 37 k = 0 + (l 36 k - l 37 k); omega); have z : ∀ m : Nat, sumZ (fun _ => 0) m = 0 := (fun m => by induction m with | zero => rfl | succ m ih => show sumZ (fun _ => 0) m + 0 = 0; rw [ih]; rfl); rw [z] at this; rw [this]; unfold netZ; omega
  have s21 : sumZ (pp.1 21) nc = sumZ (σ 21) nc + nt := by rw [sum_ab (f := pp.1 21) (g := σ 21) (a := l 36) (b := l 37) q4, ent, hx9]; rfl
  have kl := lays_law (ns := ns) hl.1
  rw [← hL, ← hx9, ← ent] at kl
  have kb := kept_b hl.1
  obtain ⟨kz, hkz⟩ : ∃ kz, kz = keptZ σ nl := ⟨_, rfl⟩
  rw [← hkz] at kl kb
  have ib := inv_sum hl.1.2.2.2.2.2.2.2.1 n6
  obtain ⟨i0, hi0⟩ : ∃ i0, i0 = sumZ (σ 21) nc := ⟨_, rfl⟩
  rw [← hi0] at s21 kl ib
  have nb : -600000 ≤ nt ∧ nt ≤ 600000 := by rw [ent, hx9]; have := pl_sums (σ := l) (n := nc) (by rw [hL]; exact laysZ_ok hl.1.2.2.2.2.2.2.2.1) n6; unfold netZ; omega
  obtain ⟨ii, hii⟩ : ∃ ii, ii = (if 0 < x9 then absZ x9 else 0) := ⟨_, rfl⟩
  obtain ⟨oo, hoo⟩ : ∃ oo, oo = (if 0 < x9 then 0 else absZ x9) := ⟨_, rfl⟩
  obtain ⟨an, han⟩ : ∃ an, an = (if nt < 0 then -nt else nt) := ⟨_, rfl⟩
  have eio : ii + oo = an := by rw [hii, hoo, han, ent]; unfold absZ; by_cases z : 0 < x9 <;> by_cases z2 : x9 < 0 <;> simp only [z, z2, if_true, if_false] <;> omega
  rw [← hii] at q2
  rw [← hoo] at q3
  obtain ⟨fd2, hfd2⟩ : ∃ fd2, fd2 = upd fd 3 (iv (σ 1 0 + 1)) := ⟨_, rfl⟩
  obtain ⟨X2, hX2⟩ : ∃ X2, X2 = hset X dA (.inl (OmI Ω, 5, .inl (upd fd 3 (iv (σ 1 0 + 1))))) := ⟨_, rfl⟩
  have x2d : X2 dA = some (.inl (OmI Ω, 5, .inl fd2)) := by rw [hX2, hset_s, hfd2]
  have x2n : X2 nA = some (.inl (OmI Ω, 48, .inl (fnK fn (nowN σ % 8) nc))) := by rw [hX2, hset_n (ne_dn p5 p4 (by decide))]; exact p5
  have x2w : X2 w = some (.inl (OmI Ω, 6, .inl fw)) := by rw [hX2, hset_n (ne_dn p6 p4 (by decide))]; exact p6
  have x2v : X2 v = some (.inl (OmJ Ω, 6, .inr (.inl fv))) := by rw [hX2, hset_n (ne_ij p4 p7).symm]; exact p7
  have e0 : fd2 0 = iv ns := by rw [hfd2]; exact d0
  have e1 : fd2 1 = iv nc := by rw [hfd2]; exact d1
  have e2 : fd2 2 = iv nl := by rw [hfd2]; exact d2
  have e3 : fd2 3 = iv (pp.1 1 0) := by rw [hfd2, q8]; rfl
  have e4 : fd2 4 = iv (pp.1 15 0) := by rw [hfd2, q5]; exact d4
  have hrg2 : RgOk (fnK fn (nowN σ % 8) nc) pp.1 := rg_hour hrg (bl_25 hl.2.2.1) (by unfold nowN; rw [q8]; omega) (fun k j hj => by rw [q6 k j hj]; show (if k < nc ∧ j = nowN s % 64 then 0 else s 25 (64 * k + j)) = _; rw [p2 25 (by decide), show nowN s = nowN σ by unfold nowN; rw [p2 1 (by decide)]])
  rw [← hnt]
  refine y_aload_n (pc := 245) C dL_areHours_245 7 rfl ?_
  refine y_bipush (pc := 246) (z := 7) C dL_areHours_246 (by decide) ?_
  refine y_cg (pc := 248) (cs' := c + 29) (sl' := sl + 174) (v := .long (jv kz)) (As := [_]) C hr cv_L_94 (fun hR' => mg_of p3.1 (Nat.le_refl _) 7 (by decide)) (by decide) (fun q hq => by revert q; decide) (fun h q => ⟨_, q.gas⟩) (congrArg Value.long (show jv (keptZ s nl) = _ by rw [kept_c p2, hkz])) rfl rfl (Nat.le_of_ble_eq_true rfl) ⟨by decide, by decide, (by show c + 28 + 1 ≤ 4100; omega), (by show sl + 168 + 6 ≤ 25500; omega)⟩ (by show c + 28 + 1 ≤ c + 29; omega) (by show sl + 168 + 6 ≤ sl + 174; omega) dL_areHours_248 ?_
  refine y_lstore (pc := 251) (L' := [(12, _), (11, _), (10, _), (8, _), (6, _), (5, _), (4, _), (0, _), (1, _), (2, _), (3, _)]) C dL_areHours_251 (by rw [hn]; decide) rfl ?_
  refine y_aload_n (pc := 253) C dL_areHours_253 7 rfl ?_
  refine y_iconst (pc := 254) C dL_areHours_254 ?_
  refine y_cg (pc := 255) (cs' := c + 30) (sl' := sl + 180) (v := .long (jv i0)) (As := [_]) C hr cv_L_94 (fun hR' => mg_of p3.1 (Nat.le_refl _) 5 (by decide)) (by decide) (fun q hq => by revert q; decide) (fun h q => ⟨_, q.gas⟩) (congrArg Value.long (show jv (sumZ (s 21) nc) = _ by rw [p2 21 (by decide), hi0])) rfl rfl (Nat.le_of_ble_eq_true rfl) ⟨by decide, by decide, (by show c + 29 + 1 ≤ 4100; omega), (by show sl + 174 + 6 ≤ 25500; omega)⟩ (by show c + 29 + 1 ≤ c + 30; omega) (by show sl + 174 + 6 ≤ sl + 180; omega) dL_areHours_255 ?_
  refine y_lstore (pc := 258) (L' := [(14, _), (12, _), (11, _), (10, _), (8, _), (6, _), (5, _), (4, _), (0, _), (1, _), (2, _), (3, _)]) C dL_areHours_258 (by rw [hn]; decide) rfl ?_
  refine y_aload_n (pc := 260) C dL_areHours_260 9 rfl ?_
  refine y_iconst (pc := 261) C dL_areHours_261 ?_
  refine y_dup2 (pc := 262) C dL_areHours_262 rfl rfl ?_
  refine y_xald (pc := 263) (v := (σ 1 0)) C 3 p4 rfl (by decide) (by decide) d3 dL_areHours_263 ?_
  refine y_iconst (pc := 264) C dL_areHours_264 ?_
  refine y_iadd (pc := 265) C dL_areHours_265 ?_
  refine y_xast (pc := 266) C 3 p4 rfl (by decide) (by decide) dL_areHours_266 ?_
  rw [← hX2]
  refine y_iload (pc := 267) C dL_areHours_267 7 rfl ?_
  refine y_if_eq (pc := 269) (tgt := 334) C dL_areHours_269 (by decide) (by omega) (by omega) (fun c => absurd c (by decide)) (fun c269 => ?_)
  refine y_aload_n (pc := 272) C dL_areHours_272 8 rfl ?_
  refine y_iconst (pc := 273) C dL_areHours_273 ?_
  refine y_cg (pc := 274) (cs' := c + 31) (sl' := sl + 186) (v := .int (iv (σ 1 0 + 1))) (As := [_]) C hr cv_L_108 (fun hR' => mg_pass p3.1 (Nat.le_refl _) 1 (by decide) p3.2.2.2.1) (k_ps (by rw [p2 1 (by decide)]; omega)) (fun q hq => by revert q; decide) (fun h q => ⟨_, q.gas⟩) (congrArg (fun z => Value.int (iv z)) (show (hourP ns nc nl (s, τ)).1 1 0 = _ by rw [← hpp, q8])) rfl rfl (Nat.le_of_ble_eq_true rfl) ⟨by decide, by decide, (by show c + 30 + 1 ≤ 4100; omega), (by show sl + 180 + 6 ≤ 25500; omega)⟩ (by show c + 30 + 1 ≤ c + 31; omega) (by show sl + 180 + 6 ≤ sl + 186; omega) dL_areHours_274 ?_
  refine Y.imp (Φ' := FX X2 (InvC Ω lay ns ns nc nl ξ2 pp.1 pp.2)) (fun h hh => FX.imp (fun h q => by rw [hξ2, hpp]; exact q) hh) ?_
  refine y_aload_n (pc := 277) C dL_areHours_277 9 rfl ?_
  refine y_iconst (pc := 278) C dL_areHours_278 ?_
  refine y_xald (pc := 279) (v := (σ 1 0 + 1)) C 3 x2d rfl (by decide) (by decide) (by rw [e3, q8]) dL_areHours_279 ?_
  refine y_icmp_ne (pc := 280) (tgt := 334) C dL_areHours_280 (by decide) (by omega) (by omega) (by omega) (by omega) (fun c => absurd c (by omega)) (fun c280 => ?_)
  refine y_aload_n (pc := 283) C dL_areHours_283 8 rfl ?_
  refine y_iconst (pc := 284) C dL_areHours_284 ?_
  refine y_cg (pc := 285) (cs' := c + 32) (sl' := sl + 192) (v := .long (jv (aa + ii))) (As := [_]) C hr cv_L_94 (fun hR' => mg_of q7.1 (Nat.le_refl _) 1 (by decide)) (by decide) (fun q hq => by revert q; decide) (fun h q => ⟨_, q.gas⟩) (congrArg Value.long (show pp.2 33 0 = _ by rw [q2, show τ 33 0 = jv aa from b1, jv_add])) rfl rfl (Nat.le_of_ble_eq_true rfl) ⟨by decide, by decide, (by show c + 31 + 1 ≤ 4100; omega), (by show sl + 186 + 6 ≤ 25500; omega)⟩ (by show c + 31 + 1 ≤ c + 32; omega) (by show sl + 186 + 6 ≤ sl + 192; omega) dL_areHours_285 ?_
  refine y_aload_n (pc := 288) C dL_areHours_288 8 rfl ?_
  refine y_iconst (pc := 289) C dL_areHours_289 ?_
  refine y_cg (pc := 290) (cs' := c + 33) (sl' := sl + 198) (v := .long (jv (bb + oo))) (As := [_]) C hr cv_L_94 (fun hR' => mg_of q7.1 (Nat.le_refl _) 2 (by decide)) (by decide) (fun q hq => by revert q; decide) (fun h q => ⟨_, q.gas⟩) (congrArg Value.long (show pp.2 34 0 = _ by rw [q3, show τ 34 0 = jv bb from b2, jv_add])) rfl rfl (Nat.le_of_ble_eq_true rfl) ⟨by decide, by decide, (by show c + 32 + 1 ≤ 4100; omega), (by show sl + 192 + 6 ≤ 25500; omega)⟩ (by show c + 32 + 1 ≤ c + 33; omega) (by show sl + 192 + 6 ≤ sl + 198; omega) dL_areHours_290 ?_
  refine y_ladd (pc := 293) C dL_areHours_293 ?_
  rw [show aa + ii + (bb + oo) = aa + bb + an by omega]
  refine y_lload (pc := 294) C dL_areHours_294 4 rfl ?_
  refine y_joinL (pcj := 311) (P := fun v => v = an) (fun v1 hv1 => ?_) (fun J1 => ?_)
  · skip
    subst hv1
    refine y_ladd (pc := 311) C dL_areHours_311 ?_
    refine y_lcmpE (pc := 312) C dL_areHours_312 ?_
    refine y_if_ne (tgt := 334) C dL_areHours_313 (by decide) (by decide) (by decide) (fun c => absurd rfl c) (fun _ => ?_)
    refine y_aload_n (pc := 316) C dL_areHours_316 8 rfl ?_
    refine y_iconst (pc := 317) C dL_areHours_317 ?_
    refine y_cg (pc := 318) (cs' := c + 34) (sl' := sl + 204) (v := .long (jv (i0 + nt))) (As := [_]) C hr cv_L_94 (fun hR' => mg_of q7.1 (Nat.le_refl _) 5 (by decide)) (by decide) (fun q hq => by revert q; decide) (fun h q => ⟨_, q.gas⟩) (congrArg Value.long (show jv (sumZ (pp.1 21) nc) = _ by rw [s21])) rfl rfl (Nat.le_of_ble_eq_true rfl) ⟨by decide, by decide, (by show c + 33 + 1 ≤ 4100; omega), (by show sl + 198 + 6 ≤ 25500; omega)⟩ (by show c + 33 + 1 ≤ c + 34; omega) (by show sl + 198 + 6 ≤ sl + 204; omega) dL_areHours_318 ?_
    refine y_lload (pc := 321) C dL_areHours_321 0 rfl ?_
    refine y_lload (pc := 323) C dL_areHours_323 5 rfl ?_
    refine y_ladd (pc := 325) C dL_areHours_325 ?_
    refine y_lcmpE (pc := 326) C dL_areHours_326 ?_
    refine y_if_ne (tgt := 334) C dL_areHours_327 (by decide) (by decide) (by decide) (fun c => absurd rfl c) (fun _ => ?_)
    refine y_iconst (pc := 330) C dL_areHours_330 ?_
    refine y_goto (pc := 331) (tgt := 335) C dL_areHours_331 (by decide) ?_
    refine y_istore (pc := 335) (L' := [(4, _), (14, _), (12, _), (11, _), (10, _), (8, _), (6, _), (5, _), (0, _), (1, _), (2, _), (3, _)]) C dL_areHours_335 (by rw [hn]; decide) rfl ?_
    refine y_iconst (pc := 337) C dL_areHours_337 ?_
    refine y_istore (pc := 338) (L' := [(16, _), (4, _), (14, _), (12, _), (11, _), (10, _), (8, _), (6, _), (5, _), (0, _), (1, _), (2, _), (3, _)]) C dL_areHours_338 (by rw [hn]; decide) rfl ?_
    refine Y.sub [0, 2, 3, 4, 5, 6, 7, 8, 1, 9, 10, 11, 12] rfl ?_
    refine ah_chk (c1 := c + 58) (s1 := sl + 348) (g := σ 21) (dl := fun k => l 36 k - l 37 k) C hn hr q7 x2d e1 x2w x2v p8 p9 (fun k hk => by have := pf_law hl.1 hL hk; omega) q4 (by omega) (by omega) ?_ nc 0 _ _ (Nat.zero_add _) (by omega) (by omega)
    refine y_iload (pc := 401) C dL_areHours_401 8 rfl ?_
    refine y_if_eq (pc := 403) (tgt := 456) C dL_areHours_403 (by decide) (by omega) (by omega) (fun c => absurd c (by decide)) (fun c403 => ?_)
    refine y_lload (pc := 406) C dL_areHours_406 2 rfl ?_
    refine y_lconst (pc := 408) (z := 0) C dL_areHours_408 (by decide) ?_
    refine y_lcmp_eq (pc := 409) (tgt := 444) C dL_areHours_409 dL_areHours_410 (by decide) (by omega) (by omega) (by omega) (by omega) (fun c409 => ?_) (fun c409 => ?_)
    · skip
      refine y_aload_n (pc := 444) C dL_areHours_444 9 rfl ?_
      refine y_aload_n (pc := 445) C dL_areHours_445 10 rfl ?_
      refine y_callSc (pc := 446) (cs' := c + 168) (sl' := sl + 1048) (As := [_, _]) C hr cs_L_111 (ct_areStores q7 q1 x2d e0 e3) rfl rfl (Nat.le_of_ble_eq_true rfl) ⟨by decide, by decide, (by show c + 58 + 110 ≤ 4100; omega), (by show sl + 348 + 700 ≤ 25500; omega)⟩ dL_areHours_446 ⟨rfl, rfl⟩ ?_
      refine y_if_eq (pc := 449) (tgt := 456) C dL_areHours_449 (by decide) (by omega) (by omega) (fun c => absurd c (by decide)) (fun c449 => ?_)
      refine y_iconst (pc := 452) C dL_areHours_452 ?_
      refine y_goto (pc := 453) (tgt := 457) C dL_areHours_453 (by decide) ?_
      refine y_istore (pc := 457) (L' := [(4, _), (16, _), (14, _), (12, _), (11, _), (10, _), (8, _), (6, _), (5, _), (0, _), (1, _), (2, _), (3, _)]) C dL_areHours_457 (by rw [hn]; decide) rfl ?_
      refine Y.sub [8, 0, 9, 10, 11, 12] rfl ?_
      exact Y.wide (by omega) (by omega) (Y.imp (fun h hh => LwSt.mk q7 q1 hla hrg2 rfl x2d x2n e0 e1 e2 e3 e4 (by omega) hh) kk)
    · skip
      refine y_aload_n (pc := 413) C dL_areHours_413 9 rfl ?_
      refine y_iconst (pc := 414) C dL_areHours_414 ?_
      refine y_cg (pc := 415) (cs' := c + 59) (sl' := sl + 354) (v := .long (jv (i0 + nt))) (As := [_]) C hr cv_L_94 (fun hR' => mg_of q7.1 (Nat.le_refl _) 5 (by decide)) (by decide) (fun q hq => by revert q; decide) (fun h q => ⟨_, q.gas⟩) (congrArg Value.long (show jv (sumZ (pp.1 21) nc) = _ by rw [s21])) rfl rfl (Nat.le_of_ble_eq_true rfl) ⟨by decide, by decide, (by show c + 58 + 1 ≤ 4100; omega), (by show sl + 348 + 6 ≤ 25500; omega)⟩ (by show c + 58 + 1 ≤ c + 59; omega) (by show sl + 348 + 6 ≤ sl + 354; omega) dL_areHours_415 ?_
      refine y_lload (pc := 418) C dL_areHours_418 1 rfl ?_
      refine y_lload (pc := 420) C dL_areHours_420 2 rfl ?_
      refine y_lcmp_ge (pc := 422) (tgt := 431) C dL_areHours_422 dL_areHours_423 (by decide) (by omega) (by omega) (by omega) (by omega) (fun c422 => ?_) (fun c422 => ?_)
      · skip
        refine y_lload (pc := 431) C dL_areHours_431 2 rfl ?_
        refine y_lcmp_ge (pc := 433) (tgt := 444) C dL_areHours_433 dL_areHours_434 (by decide) (by omega) (by omega) (by omega) (by omega) (fun c433 => ?_) (fun c => absurd (by have := kl (by omega); split at this <;> omega) c)
        refine y_aload_n (pc := 444) C dL_areHours_444 9 rfl ?_
        refine y_aload_n (pc := 445) C dL_areHours_445 10 rfl ?_
        refine y_callSc (pc := 446) (cs' := c + 169) (sl' := sl + 1054) (As := [_, _]) C hr cs_L_111 (ct_areStores q7 q1 x2d e0 e3) rfl rfl (Nat.le_of_ble_eq_true rfl) ⟨by decide, by decide, (by show c + 59 + 110 ≤ 4100; omega), (by show sl + 354 + 700 ≤ 25500; omega)⟩ dL_areHours_446 ⟨rfl, rfl⟩ ?_
        refine y_if_eq (pc := 449) (tgt := 456) C dL_areHours_449 (by decide) (by omega) (by omega) (fun c => absurd c (by decide)) (fun c449 => ?_)
        refine y_iconst (pc := 452) C dL_areHours_452 ?_
        refine y_goto (pc := 453) (tgt := 457) C dL_areHours_453 (by decide) ?_
        refine y_istore (pc := 457) (L' := [(4, _), (16, _), (14, _), (12, _), (11, _), (10, _), (8, _), (6, _), (5, _), (0, _), (1, _), (2, _), (3, _)]) C dL_areHours_457 (by rw [hn]; decide) rfl ?_
        refine Y.sub [8, 0, 9, 10, 11, 12] rfl ?_
        exact Y.wide (by omega) (by omega) (Y.imp (fun h hh => LwSt.mk q7 q1 hla hrg2 rfl x2d x2n e0 e1 e2 e3 e4 (by omega) hh) kk)
      · skip
        refine y_lload (pc := 426) C dL_areHours_426 1 rfl ?_
        refine y_goto (pc := 428) (tgt := 433) C dL_areHours_428 (by decide) ?_
        refine y_lcmp_ge (pc := 433) (tgt := 444) C dL_areHours_433 dL_areHours_434 (by decide) (by omega) (by omega) (by omega) (by omega) (fun c433 => ?_) (fun c => absurd (by have := kl (by omega); split at this <;> omega) c)
        refine y_aload_n (pc := 444) C dL_areHours_444 9 rfl ?_
        refine y_aload_n (pc := 445) C dL_areHours_445 10 rfl ?_
        refine y_callSc (pc := 446) (cs' := c + 169) (sl' := sl + 1054) (As := [_, _]) C hr cs_L_111 (ct_areStores q7 q1 x2d e0 e3) rfl rfl (Nat.le_of_ble_eq_true rfl) ⟨by decide, by decide, (by show c + 59 + 110 ≤ 4100; omega), (by show sl + 354 + 700 ≤ 25500; omega)⟩ dL_areHours_446 ⟨rfl, rfl⟩ ?_
        refine y_if_eq (pc := 449) (tgt := 456) C dL_areHours_449 (by decide) (by omega) (by omega) (fun c => absurd c (by decide)) (fun c449 => ?_)
        refine y_iconst (pc := 452) C dL_areHours_452 ?_
        refine y_goto (pc := 453) (tgt := 457) C dL_areHours_453 (by decide) ?_
        refine y_istore (pc := 457) (L' := [(4, _), (16, _), (14, _), (12, _), (11, _), (10, _), (8, _), (6, _), (5, _), (0, _), (1, _), (2, _), (3, _)]) C dL_areHours_457 (by rw [hn]; decide) rfl ?_
        refine Y.sub [8, 0, 9, 10, 11, 12] rfl ?_
        exact Y.wide (by omega) (by omega) (Y.imp (fun h hh => LwSt.mk q7 q1 hla hrg2 rfl x2d x2n e0 e1 e2 e3 e4 (by omega) hh) kk)
  · skip
    refine y_lload (pc := 296) C dL_areHours_296 5 rfl ?_
    refine y_lconst (pc := 298) (z := 0) C dL_areHours_298 (by decide) ?_
    refine y_lcmp_ge (pc := 299) (tgt := 309) C dL_areHours_299 dL_areHours_300 (by decide) (by omega) (by omega) (by omega) (by omega) (fun c299 => ?_) (fun c299 => ?_)
    · skip
      refine y_lload (pc := 309) C dL_areHours_309 5 rfl ?_
      exact J1 _ (by rw [han]; rw [if_neg (by omega)])
    · skip
      refine y_lload (pc := 303) C dL_areHours_303 5 rfl ?_
      refine y_lneg (pc := 305) C dL_areHours_305 ?_
      refine y_goto (pc := 306) (tgt := 311) C dL_areHours_306 (by decide) ?_
      exact J1 _ (by rw [han]; rw [if_pos (by omega)])
