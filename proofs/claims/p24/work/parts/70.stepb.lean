/-! step: nominate, and what may be refused -/
theorem cuK_f {σ : ZT} {v i p r : Int} (h : 1 ≤ v ∧ v ≤ 1000000 ∧ 0 ≤ i ∧ i ≤ 100000 ∧ 0 ≤ p ∧ p ≤ 100000 ∧ 0 ≤ r ∧ r ≤ 3) : cuK σ v i p r ≠ 1 ∧ (cuK σ v i p r = 2 → σ 16 0 = 6) := by
  unfold cuK
  rw [if_pos h]
  by_cases q : σ 16 0 = 6
  · rw [if_pos q]; exact ⟨by decide, fun _ => q⟩
  · rw [if_neg q]; exact ⟨by decide, fun e => absurd e (by decide)⟩
theorem lwK_f {σ : ZT} {x y l : Int} (h : σ 1 0 ≤ x ∧ x ≤ 10000 ∧ x ≤ y ∧ y ≤ 10000 ∧ 0 ≤ l ∧ l ≤ 10000000) : lwK σ x y l ≠ 1 ∧ (lwK σ x y l = 2 → σ 27 0 = 20) := by
  unfold lwK
  rw [if_pos h]
  by_cases q : σ 27 0 = 20
  · rw [if_pos q]; exact ⟨by decide, fun _ => q⟩
  · rw [if_neg q]; exact ⟨by decide, fun e => absurd e (by decide)⟩
theorem trK_f {σ : ZT} {nc k k2 : Nat} {u : Int} (o : σ 16 0 = nc) (hk : k < nc) (hk2 : k2 < nc) (hu : 1 ≤ u ∧ u ≤ 1000000) : trK σ (k : Nat) (k2 : Nat) u ≠ 1 ∧ (trK σ (k : Nat) (k2 : Nat) u = 2 → k = k2) ∧ (trK σ (k : Nat) (k2 : Nat) u = 0 → k ≠ k2) := by
  unfold trK
  rw [if_pos ⟨⟨by omega, by omega⟩, by omega, by omega⟩]
  by_cases q : (k : Int) ≠ (k2 : Nat) ∧ 1 ≤ u ∧ u ≤ 1000000
  · rw [if_pos q]
    by_cases r : u ≤ σ 21 ((k : Nat) : Int).toNat ∧ u ≤ σ 17 ((k2 : Nat) : Int).toNat - σ 21 ((k2 : Nat) : Int).toNat
    · rw [if_pos r]; exact ⟨by decide, fun e => absurd e (by decide), fun _ e => q.1 (by rw [e])⟩
    · rw [if_neg r]; exact ⟨by decide, fun e => absurd e (by decide), fun e => absurd e (by decide)⟩
  · rw [if_neg q]
    exact ⟨by decide, fun _ => Decidable.byContradiction (fun z => q ⟨fun e => z (by omega), hu⟩), fun e => absurd e (by decide)⟩
theorem lcK_f {σ : ZT} {ns i : Nat} {u : Int} (o : σ 2 0 = ns) (hi : i < ns) (hu : 1 ≤ u ∧ u ≤ 100000) : lcK σ (i : Nat) u ≠ 1 ∧ lcK σ (i : Nat) u ≠ 2 ∧ (lcK σ (i : Nat) u = 0 → σ 6 i = 0) := by
  unfold lcK
  rw [if_pos ⟨by omega, by omega⟩, if_pos hu]
  by_cases r : σ 3 ((i : Nat) : Int).toNat = 1 ∧ σ 6 ((i : Nat) : Int).toNat = 0 ∧ σ 4 ((i : Nat) : Int).toNat + u ≤ 100000
  · rw [if_pos r]; exact ⟨by decide, by decide, fun _ => r.2.1⟩
  · rw [if_neg r]; exact ⟨by decide, by decide, fun e => absurd e (by decide)⟩
theorem cuS_v {σ s : ZT} {n : Nat} {v i p r : Int} (hs : s = cuS n v i p r σ) : s 17 n = v ∧ s 18 n = i ∧ s 19 n = p ∧ (∀ f, f ∉ [16, 17, 18, 19, 20] → s f = σ f) := by
  have hs' : s = zu (zu (zu (zu (zu σ 17 n v) 18 n i) 19 n p) 20 n r) 16 0 (σ 16 0 + 1) := hs
  refine ⟨?_, ?_, ?_, fun f hf => ?_⟩
  · rw [hs', zu_f (by omega), zu_f (by omega), zu_f (by omega), zu_f (by omega), zu_s]
  · rw [hs', zu_f (by omega), zu_f (by omega), zu_f (by omega), zu_s]
  · rw [hs', zu_f (by omega), zu_f (by omega), zu_s]
  · simp only [List.mem_cons, List.not_mem_nil, or_false] at hf
    rw [hs', zu_n (by omega), zu_n (by omega), zu_n (by omega), zu_n (by omega), zu_n (by omega)]

set_option maxRecDepth 20000 in
theorem sc_nominate {Ω : OmT} {κ : KxT} {hR X : AH} {lay : Nat → Nat → Nat} {ξ : XiT} {σ : ZT} {τ : JT} {ns nc nl dA nA : Nat} {fd fn : Nat → Int32} {T w a b s6 s7 s8 : Int} (C : Cx Ω κ RL cL_step) (hn : kn κ = 29) (E : Ce Ω κ (some FieldType.boolean) (rkc 20 4200 26000) hR (RV (.int (iv 1)) (LwSt Ω (lay 0 0) dA nA (T + 24))) NX) (hT8 : 0 ≤ T ∧ T ≤ 8900) (ha : 0 ≤ a ∧ a < 2147483648) (hb : 0 ≤ b ∧ b < 2147483648) (hl : LI ξ σ τ ns nc nl) (g : GB (σ, τ) ns) (hla : LaO Ω lay) (hrg : RgOk fn σ) (hd : X dA = some (.inl (OmI Ω, 5, .inl fd))) (hf : X nA = some (.inl (OmI Ω, 48, .inl fn))) (d0 : fd 0 = iv ns) (d1 : fd 1 = iv nc) (d2 : fd 2 = iv nl) (d3 : fd 3 = iv (σ 1 0)) (d4 : fd 4 = iv (σ 15 0)) (hT : σ 1 0 ≤ T) {k : Nat} (hk : k < nc) : Y Ω κ (FX X (InvC Ω lay ns ns nc nl ξ σ τ)) hR 0 0 367 [(8, .int (iv s8)), (7, .int (iv (k : Nat))), (6, .int (iv s6)), (0, .ref (lay 0 0)), (1, .ref dA), (2, .ref nA), (3, .int (iv w)), (4, .int (iv a)), (5, .int (iv b))] [] := by
  have n5 := hl.1.2.1
  have n6 := hl.1.2.2.2.1
  have o2 := hl.1.1
  have o16 := hl.1.2.2.1
  have h10 := hl.1.2.2.2.2.2.1.2
  have eN : σ 1 0 = (nowN σ : Int) := by unfold nowN; omega
  obtain ⟨r, hr⟩ : ∃ r : Nat, b % 5 = (r : Int) := ⟨(b % 5).toNat, by omega⟩
  obtain ⟨t, ht⟩ : ∃ t : Nat, t = nowN σ + (2 + r) := ⟨_, rfl⟩
  have et : σ 1 0 + 2 + (r : Int) = (t : Int) := by omega
  have ea : 8 * ((k : Nat) : Int) + (t : Int) % 8 = ((8 * k + t % 8 : Nat) : Int) := by omega
  have rg := hrg.1 k (2 + r) (by omega) (by omega)
  rw [← ht] at rg
  have nb := hl.1.2.2.2.2.2.1.1 (64 * k + t % 64) (by omega)
  refine y_bipush (pc := 367) (z := 8) C dL_step_367 (by decide) ?_
  refine y_iload (pc := 369) C dL_step_369 1 rfl ?_
  refine y_imul (pc := 371) C dL_step_371 ?_
  refine y_aload_n (pc := 372) C dL_step_372 4 rfl ?_
  refine y_iconst (pc := 373) C dL_step_373 ?_
  refine y_xald (pc := 374) (v := (σ 1 0)) C 3 hd rfl (by decide) (by decide) d3 dL_step_374 ?_
  refine y_iconst (pc := 375) C dL_step_375 ?_
  refine y_iadd (pc := 376) C dL_step_376 ?_
  refine y_iload (pc := 377) C dL_step_377 8 rfl ?_
  refine y_iconst (pc := 379) C dL_step_379 ?_
  refine y_irem (pc := 380) C dL_step_380 (by omega) (by omega) (by omega) (by omega) ?_
  refine y_iadd (pc := 381) C dL_step_381 ?_
  rw [hr, et]
  refine y_bipush (pc := 382) (z := 8) C dL_step_382 (by decide) ?_
  refine y_irem (pc := 384) C dL_step_384 (by omega) (by omega) (by omega) (by omega) ?_
  refine y_iadd (pc := 385) C dL_step_385 ?_
  rw [ea]
  refine y_istore (pc := 386) (L' := [(11, _), (8, _), (7, _), (6, _), (0, _), (1, _), (2, _), (3, _), (4, _), (5, _)]) C dL_step_386 (by rw [hn]; decide) rfl ?_
  refine y_aload_n (pc := 388) C dL_step_388 6 rfl ?_
  refine y_iload (pc := 389) C dL_step_389 0 rfl ?_
  refine y_xald (pc := 391) (v := (σ 25 (64 * k + t % 64))) C (8 * k + t % 8) hf rfl (by omega) (by decide) rg dL_step_391 ?_
  refine y_istore (pc := 392) (L' := [(12, _), (11, _), (8, _), (7, _), (6, _), (0, _), (1, _), (2, _), (3, _), (4, _), (5, _)]) C dL_step_392 (by rw [hn]; decide) rfl ?_
  refine y_aload_n (pc := 394) C dL_step_394 7 rfl ?_
  refine y_iload (pc := 395) C dL_step_395 1 rfl ?_
  refine y_joinI (pcj := 424) (P := fun v => -9000 ≤ v ∧ v ≤ 9000) (fun v1 hv1 => ?_) (fun J1 => ?_)
  · skip
    obtain ⟨u, hu⟩ : ∃ u : Int, u = v1 := ⟨_, rfl⟩
    rw [← hu]
    rw [← hu] at hv1
    have hK := nmK_0 (t := (t : Int)) (u := u) o16 hk (by omega) (by omega)
    obtain ⟨s2, e2⟩ : ∃ s2, s2 = zu σ 25 (64 * k + t % 64) u := ⟨_, rfl⟩
    have hl2 : LI ξ s2 τ ns nc nl := by rw [e2]; exact li_nominate hl hK
    have f2 : ∀ f, f ≠ 25 → s2 f = σ f := fun f h1 => by rw [e2, zu_n h1]
    have g2 : GB (s2, τ) ns := gb_c g (f2 6 (by decide)) (fun f _ => rfl)
    have rg2 : RgOk (upd fn (8 * k + t % 8) (iv u)) s2 := by have q := rg_nom (u := u) (c := k) hrg (show 2 + r < 8 by omega); rw [← ht] at q; rw [e2]; exact q
    have x1 : hset X nA (.inl (OmI Ω, 48, .inl (upd fn (8 * k + t % 8) (iv u)))) nA = some (.inl (OmI Ω, 48, .inl (upd fn (8 * k + t % 8) (iv u)))) := hset_s
    have x0 : hset X nA (.inl (OmI Ω, 48, .inl (upd fn (8 * k + t % 8) (iv u)))) dA = some (.inl (OmI Ω, 5, .inl fd)) := (hset_n (ne_dn hd hf (by decide))).trans hd
    have hd := x0
    have d3' : fd 3 = iv (s2 1 0) := by rw [f2 1 (by decide)]; exact d3
    have d4' : fd 4 = iv (s2 15 0) := by rw [f2 15 (by decide)]; exact d4
    refine y_xast (pc := 424) C (8 * k + t % 8) hf rfl (by omega) (by decide) dL_step_424 ?_
    refine y_aload_n (pc := 425) C dL_step_425 5 rfl ?_
    refine y_iload (pc := 426) C dL_step_426 3 rfl ?_
    refine y_aload_n (pc := 428) C dL_step_428 6 rfl ?_
    refine y_iconst (pc := 429) C dL_step_429 ?_
    refine y_xald (pc := 430) (v := (σ 1 0)) C 3 hd rfl (by decide) (by decide) d3 dL_step_430 ?_
    refine y_iconst (pc := 431) C dL_step_431 ?_
    refine y_iadd (pc := 432) C dL_step_432 ?_
    refine y_iload (pc := 433) C dL_step_433 10 rfl ?_
    refine y_iconst (pc := 435) C dL_step_435 ?_
    refine y_irem (pc := 436) C dL_step_436 (by omega) (by omega) (by omega) (by omega) ?_
    refine y_iadd (pc := 437) C dL_step_437 ?_
    rw [hr, et]
    refine y_aload_n (pc := 438) C dL_step_438 7 rfl ?_
    refine y_iload (pc := 439) C dL_step_439 1 rfl ?_
    refine y_xald (pc := 441) (v := u) C (8 * k + t % 8) x1 rfl (by omega) (by decide) (if_pos rfl) dL_step_441 ?_
    refine y_cg (pc := 442) (cs' := 2) (sl' := 12) (v := .int (iv (σ 25 (64 * k + t % 64)))) (As := [_, _, _]) C E.2.1 cv_L_57 (fun hR' => mg_nominate hl.1 (Nat.le_refl _) ((k : Nat) : Int) ⟨by omega, by omega⟩ ((t : Nat) : Int) ⟨by omega, by omega⟩ u ⟨by omega, by omega⟩) hK (fun q hq => by revert q; decide) (fun h q => ⟨_, q.gas⟩) rfl rfl rfl (Nat.le_of_ble_eq_true rfl) ⟨by decide, by decide, (by decide), (by decide)⟩ (by decide) (by decide) dL_step_442 ?_
    refine Y.imp (Φ' := FX (hset X nA (.inl (OmI Ω, 48, .inl (upd fn (8 * k + t % 8) (iv u))))) (InvC Ω lay ns ns nc nl ξ s2 τ)) (fun h hh => by rw [e2]; exact hh) ?_
    refine y_iload (pc := 445) C dL_step_445 0 rfl ?_
    refine y_icmp_ne (pc := 447) (tgt := 454) C dL_step_447 (by decide) (by omega) (by omega) (by omega) (by omega) (fun c => absurd c (fun z => z rfl)) (fun c447 => ?_)
    refine y_iconst (pc := 450) C dL_step_450 ?_
    refine y_goto (pc := 451) (tgt := 455) C dL_step_451 (by decide) ?_
    exact y_zret (pc := 455) (b := true) C E dL_step_455 (by decide) (by decide) (fun h hh => ⟨rfl, LwSt.mk hl2 g2 hla rg2 rfl x0 x1 d0 d1 d2 d3' d4' (by rw [f2 1 (by decide)]; omega) hh⟩)
  · skip
    refine y_iload (pc := 397) C dL_step_397 9 rfl ?_
    refine y_iconst (pc := 399) C dL_step_399 ?_
    refine y_irem (pc := 400) C dL_step_400 (by omega) (by omega) (by omega) (by omega) ?_
    refine y_if_ne (pc := 401) (tgt := 416) C dL_step_401 (by decide) (by omega) (by omega) (fun c401 => ?_) (fun c401 => ?_)
    · skip
      refine y_iload (pc := 416) C dL_step_416 10 rfl ?_
      refine y_iconst (pc := 418) C dL_step_418 ?_
      refine y_idivP (pc := 419) C dL_step_419 (by omega) (by omega) (by omega) (by omega) ?_
      refine y_sipush (pc := 420) (z := 9000) C dL_step_420 (by decide) ?_
      refine y_irem (pc := 423) C dL_step_423 (by omega) (by omega) (by omega) (by omega) ?_
      exact J1 _ ⟨by omega, by omega⟩
    · skip
      refine y_iload (pc := 404) C dL_step_404 10 rfl ?_
      refine y_iconst (pc := 406) C dL_step_406 ?_
      refine y_idivP (pc := 407) C dL_step_407 (by omega) (by omega) (by omega) (by omega) ?_
      refine y_sipush (pc := 408) (z := 9000) C dL_step_408 (by decide) ?_
      refine y_irem (pc := 411) C dL_step_411 (by omega) (by omega) (by omega) (by omega) ?_
      refine y_ineg (pc := 412) C dL_step_412 ?_
      refine y_goto (pc := 413) (tgt := 424) C dL_step_413 (by decide) ?_
      exact J1 _ ⟨by omega, by omega⟩

set_option maxRecDepth 20000 in
theorem sc_comes {Ω : OmT} {κ : KxT} {hR X : AH} {lay : Nat → Nat → Nat} {ξ : XiT} {σ : ZT} {τ : JT} {ns nc nl dA nA : Nat} {fd fn : Nat → Int32} {T w a b s6 s7 s8 : Int} (C : Cx Ω κ RL cL_step) (hn : kn κ = 29) (E : Ce Ω κ (some FieldType.boolean) (rkc 20 4200 26000) hR (RV (.int (iv 1)) (LwSt Ω (lay 0 0) dA nA (T + 24))) NX) (hT8 : 0 ≤ T ∧ T ≤ 8900) (ha : 0 ≤ a ∧ a < 2147483648) (hb : 0 ≤ b ∧ b < 2147483648) (hl : LI ξ σ τ ns nc nl) (g : GB (σ, τ) ns) (hla : LaO Ω lay) (hrg : RgOk fn σ) (hd : X dA = some (.inl (OmI Ω, 5, .inl fd))) (hf : X nA = some (.inl (OmI Ω, 48, .inl fn))) (d0 : fd 0 = iv ns) (d1 : fd 1 = iv nc) (d2 : fd 2 = iv nl) (d3 : fd 3 = iv (σ 1 0)) (d4 : fd 4 = iv (σ 15 0)) (hT : σ 1 0 ≤ T) : Y Ω κ (FX X (InvC Ω lay ns ns nc nl ξ σ τ)) hR 0 0 221 [(8, .int (iv s8)), (7, .int (iv s7)), (6, .int (iv s6)), (0, .ref (lay 0 0)), (1, .ref dA), (2, .ref nA), (3, .int (iv w)), (4, .int (iv a)), (5, .int (iv b))] [] := by
  have n5 := hl.1.2.1
  have n6 := hl.1.2.2.2.1
  have o2 := hl.1.1
  have o16 := hl.1.2.2.1
  have h10 := hl.1.2.2.2.2.2.1.2
  have cf := cuK_f (σ := σ) (v := 1 + a % 100000) (i := b % 5001) (p := b / 5001 % 5001) (r := a / 7 % 4) (by omega)
  refine y_aload_n (pc := 221) C dL_step_221 3 rfl ?_
  refine y_iconst (pc := 222) C dL_step_222 ?_
  refine y_iload (pc := 223) C dL_step_223 7 rfl ?_
  refine y_ldc (pc := 225) (z := 100000) C aw_2_190 (by decide) dL_step_225 ?_
  refine y_irem (pc := 227) C dL_step_227 (by omega) (by omega) (by omega) (by omega) ?_
  refine y_iadd (pc := 228) C dL_step_228 ?_
  refine y_iload (pc := 229) C dL_step_229 8 rfl ?_
  refine y_sipush (pc := 231) (z := 5001) C dL_step_231 (by decide) ?_
  refine y_irem (pc := 234) C dL_step_234 (by omega) (by omega) (by omega) (by omega) ?_
  refine y_iload (pc := 235) C dL_step_235 8 rfl ?_
  refine y_sipush (pc := 237) (z := 5001) C dL_step_237 (by decide) ?_
  refine y_idivP (pc := 240) C dL_step_240 (by omega) (by omega) (by omega) (by omega) ?_
  refine y_sipush (pc := 241) (z := 5001) C dL_step_241 (by decide) ?_
  refine y_irem (pc := 244) C dL_step_244 (by omega) (by omega) (by omega) (by omega) ?_
  refine y_iload (pc := 245) C dL_step_245 7 rfl ?_
  refine y_bipush (pc := 247) (z := 7) C dL_step_247 (by decide) ?_
  refine y_idivP (pc := 249) C dL_step_249 (by omega) (by omega) (by omega) (by omega) ?_
  refine y_iconst (pc := 250) C dL_step_250 ?_
  refine y_irem (pc := 251) C dL_step_251 (by omega) (by omega) (by omega) (by omega) ?_
  refine y_cw (pc := 252) (cs' := 4) (sl' := 160) (n := 5) (As := [_, _, _, _, _]) C E.2.1 aw_2_191 aw_2_192 aw_1_0 aw_2_193 ⟨by decide, by decide, by decide +kernel⟩ (fun hR' => wl_comes hl.1 (Nat.le_refl _) hla hl.2.2.1 (1 + a % 100000) ⟨by omega, by omega⟩ (b % 5001) ⟨by omega, by omega⟩ (b / 5001 % 5001) ⟨by omega, by omega⟩ (a / 7 % 4) ⟨by omega, by omega⟩ cf.1) rfl rfl (Nat.le_of_ble_eq_true rfl) ⟨by decide, by decide, (by decide), (by decide)⟩ (by decide) (by decide) dL_step_252 (fun rv => ?_)
  refine Y.for (Y.fand fun hK => Y.fand fun er => ?_) (Y.fand fun hK => Y.fand fun er => ?_)
  · subst er
    refine Y.fex fun lay2 => Y.fand fun hx2 => Y.fand fun hlo2 => ?_
    obtain ⟨s2, hs2⟩ : ∃ s2, s2 = cuS nc (1 + a % 100000) (b % 5001) (b / 5001 % 5001) (a / 7 % 4) σ := ⟨_, rfl⟩
    have hl2 := li_customer hl hK
    rw [← hs2] at hl2 ⊢
    obtain ⟨e17, e18, e19, en⟩ := cuS_v hs2
    have g2 : GB (s2, τ) ns := gb_c g (en 6 (by decide)) (fun f _ => rfl)
    have bl := hl.2.2.1.2 nc (Nat.le_refl _)
    have o2' := hl2.1.2.2.1
    have e21 : s2 21 nc = 0 := by rw [en 21 (by decide)]; exact bl.1
    have ets : σ 16 0 + 1 - 1 = ((nc : Nat) : Int) := by omega
    rw [ets, ← hx2]
    have x0 : hset X dA (.inl (OmI Ω, 5, .inl (upd fd 1 (iv ((nc + 1 : Nat) : Int))))) dA = some (.inl (OmI Ω, 5, .inl (upd fd 1 (iv ((nc + 1 : Nat) : Int))))) := hset_s
    have x1 : hset X dA (.inl (OmI Ω, 5, .inl (upd fd 1 (iv ((nc + 1 : Nat) : Int))))) nA = some (.inl (OmI Ω, 48, .inl fn)) := (hset_n (ne_dn hf hd (by decide))).trans hf
    refine y_istore (pc := 255) (L' := [(10, _), (8, _), (7, _), (6, _), (0, _), (1, _), (2, _), (3, _), (4, _), (5, _)]) C dL_step_255 (by rw [hn]; decide) rfl ?_
    refine y_aload_n (pc := 257) C dL_step_257 5 rfl ?_
    refine y_iconst (pc := 258) C dL_step_258 ?_
    refine y_dup2 (pc := 259) C dL_step_259 rfl rfl ?_
    refine y_xald (pc := 260) (v := (nc : Nat)) C 1 hd rfl (by decide) (by decide) d1 dL_step_260 ?_
    refine y_iload (pc := 261) C dL_step_261 0 rfl ?_
    refine y_if_ge (pc := 263) (tgt := 270) C dL_step_263 (by decide) (by omega) (by omega) (fun c263 => ?_) (fun c => absurd (by omega) c)
    refine y_iconst (pc := 270) C dL_step_270 ?_
    refine y_iadd (pc := 271) C dL_step_271 ?_
    rw [show ((nc : Nat) : Int) + 1 = ((nc + 1 : Nat) : Int) by omega]
    refine y_xast (pc := 272) C 1 hd rfl (by decide) (by decide) dL_step_272 ?_
    refine y_iload (pc := 273) C dL_step_273 0 rfl ?_
    refine y_sipush (pc := 275) (z := (-200)) C dL_step_275 (by decide) ?_
    refine y_icmp_ne (pc := 278) (tgt := 297) C dL_step_278 (by decide) (by omega) (by omega) (by omega) (by omega) (fun c278 => ?_) (fun c => absurd c (by omega))
    refine y_iload (pc := 297) C dL_step_297 0 rfl ?_
    refine y_aload_n (pc := 299) C dL_step_299 5 rfl ?_
    refine y_iconst (pc := 300) C dL_step_300 ?_
    refine y_xald (pc := 301) (v := ((nc + 1 : Nat) : Int)) C 1 x0 rfl (by decide) (by decide) rfl dL_step_301 ?_
    refine y_iconst (pc := 302) C dL_step_302 ?_
    refine y_isub (pc := 303) C dL_step_303 ?_
    refine y_icmp_ne (pc := 304) (tgt := 365) C dL_step_304 (by decide) (by omega) (by omega) (by omega) (by omega) (fun c => absurd c (by omega)) (fun c304 => ?_)
    refine y_aload_n (pc := 307) C dL_step_307 4 rfl ?_
    refine y_iload (pc := 308) C dL_step_308 0 rfl ?_
    refine y_iconst (pc := 310) C dL_step_310 ?_
    refine y_cg (pc := 311) (cs' := 6) (sl' := 172) (v := .long (jv (0))) (As := [_, _]) C E.2.1 cv_L_53 (fun hR' => mg_ofCustomer hl2.1 (Nat.le_refl _) ((nc : Nat) : Int) ⟨by omega, by omega⟩ 0 (by decide)) (k_oc o2' (Nat.lt_succ_self nc) (by decide) (by decide)) (fun q hq => by revert q; decide) (fun h q => ⟨_, q.gas⟩) (congrArg Value.long (show jv (s2 21 nc) = _ by rw [e21])) rfl rfl (Nat.le_of_ble_eq_true rfl) ⟨by decide, by decide, (by decide), (by decide)⟩ (by decide) (by decide) dL_step_311 ?_
    refine y_lconst (pc := 314) (z := 0) C dL_step_314 (by decide) ?_
    refine y_lcmpE (pc := 315) C dL_step_315 ?_
    refine y_if_ne (tgt := 365) C dL_step_316 (by decide) (by decide) (by decide) (fun c => absurd rfl c) (fun _ => ?_)
    refine y_aload_n (pc := 319) C dL_step_319 4 rfl ?_
    refine y_iload (pc := 320) C dL_step_320 0 rfl ?_
    refine y_iconst (pc := 322) C dL_step_322 ?_
    refine y_cg (pc := 323) (cs' := 8) (sl' := 184) (v := .long (jv (b % 5001))) (As := [_, _]) C E.2.1 cv_L_53 (fun hR' => mg_ofCustomer hl2.1 (Nat.le_refl _) ((nc : Nat) : Int) ⟨by omega, by omega⟩ 1 (by decide)) (k_oc o2' (Nat.lt_succ_self nc) (by decide) (by decide)) (fun q hq => by revert q; decide) (fun h q => ⟨_, q.gas⟩) (congrArg Value.long (show jv (rinZ s2 nc (s2 21 nc)) = _ by unfold rinZ; rw [e21, e17, e18, if_neg (by omega)])) rfl rfl (Nat.le_of_ble_eq_true rfl) ⟨by decide, by decide, (by decide), (by decide)⟩ (by decide) (by decide) dL_step_323 ?_
    refine y_iload (pc := 326) C dL_step_326 9 rfl ?_
    refine y_sipush (pc := 328) (z := 5001) C dL_step_328 (by decide) ?_
    refine y_irem (pc := 331) C dL_step_331 (by omega) (by omega) (by omega) (by omega) ?_
    refine y_i2l (pc := 332) C dL_step_332 (by omega) (by omega) ?_
    refine y_lcmpE (pc := 333) C dL_step_333 ?_
    refine y_if_ne (tgt := 365) C dL_step_334 (by decide) (by decide) (by decide) (fun c => absurd rfl c) (fun _ => ?_)
    refine y_aload_n (pc := 337) C dL_step_337 4 rfl ?_
    refine y_iload (pc := 338) C dL_step_338 0 rfl ?_
    refine y_iconst (pc := 340) C dL_step_340 ?_
    refine y_cg (pc := 341) (cs' := 10) (sl' := 196) (v := .long (jv (b / 5001 % 5001 / 2))) (As := [_, _]) C E.2.1 cv_L_53 (fun hR' => mg_ofCustomer hl2.1 (Nat.le_refl _) ((nc : Nat) : Int) ⟨by omega, by omega⟩ 2 (by decide)) (k_oc o2' (Nat.lt_succ_self nc) (by decide) (by decide)) (fun q hq => by revert q; decide) (fun h q => ⟨_, q.gas⟩) (congrArg Value.long (show jv (routZ s2 nc (s2 21 nc)) = _ by unfold routZ; rw [e21, e17, e19, if_pos (by omega)])) rfl rfl (Nat.le_of_ble_eq_true rfl) ⟨by decide, by decide, (by decide), (by decide)⟩ (by decide) (by decide) dL_step_341 ?_
    refine y_iload (pc := 344) C dL_step_344 9 rfl ?_
    refine y_sipush (pc := 346) (z := 5001) C dL_step_346 (by decide) ?_
    refine y_idivP (pc := 349) C dL_step_349 (by omega) (by omega) (by omega) (by omega) ?_
    refine y_sipush (pc := 350) (z := 5001) C dL_step_350 (by decide) ?_
    refine y_irem (pc := 353) C dL_step_353 (by omega) (by omega) (by omega) (by omega) ?_
    refine y_iconst (pc := 354) C dL_step_354 ?_
    refine y_idivP (pc := 355) C dL_step_355 (by omega) (by omega) (by omega) (by omega) ?_
    refine y_i2l (pc := 356) C dL_step_356 (by omega) (by omega) ?_
    refine y_lcmpE (pc := 357) C dL_step_357 ?_
    refine y_if_ne (tgt := 365) C dL_step_358 (by decide) (by decide) (by decide) (fun c => absurd rfl c) (fun _ => ?_)
    refine y_iconst (pc := 361) C dL_step_361 ?_
    refine y_goto (pc := 362) (tgt := 366) C dL_step_362 (by decide) ?_
    exact y_zret (pc := 366) (b := true) C E dL_step_366 (by decide) (by decide) (fun h hh => ⟨rfl, LwSt.mk hl2 g2 hlo2 (rg_c hrg (by rw [en 1 (by decide)]) (en 25 (by decide))) hx2 x0 x1 d0 rfl d2 (d3.trans (by rw [en 1 (by decide)])) (d4.trans (by rw [en 15 (by decide)])) (by rw [en 1 (by decide)]; omega) hh⟩)
  · subst er
    have x0 : hset X dA (.inl (OmI Ω, 5, .inl (upd fd 1 (iv ((nc : Nat) : Int))))) dA = some (.inl (OmI Ω, 5, .inl (upd fd 1 (iv ((nc : Nat) : Int))))) := hset_s
    have x1 : hset X dA (.inl (OmI Ω, 5, .inl (upd fd 1 (iv ((nc : Nat) : Int))))) nA = some (.inl (OmI Ω, 48, .inl fn)) := (hset_n (ne_dn hf hd (by decide))).trans hf
    have n66 := cf.2 hK
    refine y_istore (pc := 255) (L' := [(10, _), (8, _), (7, _), (6, _), (0, _), (1, _), (2, _), (3, _), (4, _), (5, _)]) C dL_step_255 (by rw [hn]; decide) rfl ?_
    refine y_aload_n (pc := 257) C dL_step_257 5 rfl ?_
    refine y_iconst (pc := 258) C dL_step_258 ?_
    refine y_dup2 (pc := 259) C dL_step_259 rfl rfl ?_
    refine y_xald (pc := 260) (v := (nc : Nat)) C 1 hd rfl (by decide) (by decide) d1 dL_step_260 ?_
    refine y_iload (pc := 261) C dL_step_261 0 rfl ?_
    refine y_if_ge (pc := 263) (tgt := 270) C dL_step_263 (by decide) (by omega) (by omega) (fun c => absurd c (by decide)) (fun c263 => ?_)
    refine y_iconst (pc := 266) C dL_step_266 ?_
    refine y_goto (pc := 267) (tgt := 271) C dL_step_267 (by decide) ?_
    refine y_iadd (pc := 271) C dL_step_271 ?_
    rw [show ((nc : Nat) : Int) + 0 = ((nc : Nat) : Int) by omega]
    refine y_xast (pc := 272) C 1 hd rfl (by decide) (by decide) dL_step_272 ?_
    refine y_iload (pc := 273) C dL_step_273 0 rfl ?_
    refine y_sipush (pc := 275) (z := (-200)) C dL_step_275 (by decide) ?_
    refine y_icmp_ne (pc := 278) (tgt := 297) C dL_step_278 (by decide) (by omega) (by omega) (by omega) (by omega) (fun c => absurd c (fun z => z rfl)) (fun c278 => ?_)
    refine y_aload_n (pc := 281) C dL_step_281 5 rfl ?_
    refine y_iconst (pc := 282) C dL_step_282 ?_
    refine y_xald (pc := 283) (v := ((nc : Nat) : Int)) C 1 x0 rfl (by decide) (by decide) rfl dL_step_283 ?_
    refine y_bipush (pc := 284) (z := 6) C dL_step_284 (by decide) ?_
    refine y_icmp_ne (pc := 286) (tgt := 293) C dL_step_286 (by decide) (by omega) (by omega) (by omega) (by omega) (fun c => absurd c (by omega)) (fun c286 => ?_)
    refine y_iconst (pc := 289) C dL_step_289 ?_
    refine y_goto (pc := 290) (tgt := 366) C dL_step_290 (by decide) ?_
    exact y_zret (pc := 366) (b := true) C E dL_step_366 (by decide) (by decide) (fun h hh => ⟨rfl, LwSt.mk hl g hla hrg rfl x0 x1 d0 rfl d2 d3 d4 (by omega) hh⟩)

set_option maxRecDepth 20000 in
theorem sc_laws {Ω : OmT} {κ : KxT} {hR X : AH} {lay : Nat → Nat → Nat} {ξ : XiT} {σ : ZT} {τ : JT} {ns nc nl dA nA : Nat} {fd fn : Nat → Int32} {T w a b s6 s7 s8 : Int} (C : Cx Ω κ RL cL_step) (hn : kn κ = 29) (E : Ce Ω κ (some FieldType.boolean) (rkc 20 4200 26000) hR (RV (.int (iv 1)) (LwSt Ω (lay 0 0) dA nA (T + 24))) NX) (hT8 : 0 ≤ T ∧ T ≤ 8900) (ha : 0 ≤ a ∧ a < 2147483648) (hb : 0 ≤ b ∧ b < 2147483648) (hl : LI ξ σ τ ns nc nl) (g : GB (σ, τ) ns) (hla : LaO Ω lay) (hrg : RgOk fn σ) (hd : X dA = some (.inl (OmI Ω, 5, .inl fd))) (hf : X nA = some (.inl (OmI Ω, 48, .inl fn))) (d0 : fd 0 = iv ns) (d1 : fd 1 = iv nc) (d2 : fd 2 = iv nl) (d3 : fd 3 = iv (σ 1 0)) (d4 : fd 4 = iv (σ 15 0)) (hT : σ 1 0 ≤ T) : Y Ω κ (FX X (InvC Ω lay ns ns nc nl ξ σ τ)) hR 0 0 592 [(8, .int (iv s8)), (7, .int (iv s7)), (6, .int (iv s6)), (0, .ref (lay 0 0)), (1, .ref dA), (2, .ref nA), (3, .int (iv w)), (4, .int (iv a)), (5, .int (iv b))] [] := by
  have n5 := hl.1.2.1
  have n6 := hl.1.2.2.2.1
  have o2 := hl.1.1
  have o16 := hl.1.2.2.1
  have h10 := hl.1.2.2.2.2.2.1.2
  have l27 := hl.1.2.2.2.2.1.1
  have cf := lwK_f (σ := σ) (x := σ 1 0 + a % 6) (y := σ 1 0 + a % 6 + b % 30) (l := b / 30 % 20000) (by omega)
  have n20 := hl.1.2.2.2.2.1.2.1
  refine y_aload_n (pc := 592) C dL_step_592 3 rfl ?_
  refine y_aload_n (pc := 593) C dL_step_593 4 rfl ?_
  refine y_iconst (pc := 594) C dL_step_594 ?_
  refine y_xald (pc := 595) (v := (σ 1 0)) C 3 hd rfl (by decide) (by decide) d3 dL_step_595 ?_
  refine y_iload (pc := 596) C dL_step_596 7 rfl ?_
  refine y_bipush (pc := 598) (z := 6) C dL_step_598 (by decide) ?_
  refine y_irem (pc := 600) C dL_step_600 (by omega) (by omega) (by omega) (by omega) ?_
  refine y_iadd (pc := 601) C dL_step_601 ?_
  refine y_aload_n (pc := 602) C dL_step_602 4 rfl ?_
  refine y_iconst (pc := 603) C dL_step_603 ?_
  refine y_xald (pc := 604) (v := (σ 1 0)) C 3 hd rfl (by decide) (by decide) d3 dL_step_604 ?_
  refine y_iload (pc := 605) C dL_step_605 7 rfl ?_
  refine y_bipush (pc := 607) (z := 6) C dL_step_607 (by decide) ?_
  refine y_irem (pc := 609) C dL_step_609 (by omega) (by omega) (by omega) (by omega) ?_
  refine y_iadd (pc := 610) C dL_step_610 ?_
  refine y_iload (pc := 611) C dL_step_611 8 rfl ?_
  refine y_bipush (pc := 613) (z := 30) C dL_step_613 (by decide) ?_
  refine y_irem (pc := 615) C dL_step_615 (by omega) (by omega) (by omega) (by omega) ?_
  refine y_iadd (pc := 616) C dL_step_616 ?_
  refine y_iload (pc := 617) C dL_step_617 8 rfl ?_
  refine y_bipush (pc := 619) (z := 30) C dL_step_619 (by decide) ?_
  refine y_idivP (pc := 621) C dL_step_621 (by omega) (by omega) (by omega) (by omega) ?_
  refine y_sipush (pc := 622) (z := 20000) C dL_step_622 (by decide) ?_
  refine y_irem (pc := 625) C dL_step_625 (by omega) (by omega) (by omega) (by omega) ?_
  refine y_cw (pc := 626) (cs' := 2) (sl' := 60) (n := 4) (As := [_, _, _, _]) C E.2.1 aw_3_52 aw_3_53 aw_1_0 aw_3_54 ⟨by decide, by decide, by decide +kernel⟩ (fun hR' => wl_laws hl.1 (Nat.le_refl _) hla hl.2.2.1 (σ 1 0 + a % 6) ⟨by omega, by omega⟩ (σ 1 0 + a % 6 + b % 30) ⟨by omega, by omega⟩ (b / 30 % 20000) ⟨by omega, by omega⟩ cf.1) rfl rfl (Nat.le_of_ble_eq_true rfl) ⟨by decide, by decide, (by decide), (by decide)⟩ (by decide) (by decide) dL_step_626 (fun rv => ?_)
  refine Y.for (Y.fand fun hK => Y.fand fun er => ?_) (Y.fand fun hK => Y.fand fun er => ?_)
  · subst er
    refine Y.fex fun lay2 => Y.fand fun hx2 => Y.fand fun hlo2 => ?_
    obtain ⟨s2, hs2⟩ : ∃ s2, s2 = lwS nl (σ 1 0 + a % 6) (σ 1 0 + a % 6 + b % 30) (b / 30 % 20000) σ := ⟨_, rfl⟩
    have hl2 := li_law hl hK
    rw [← hs2] at hl2 ⊢
    have en : ∀ f, f ∉ [27, 28, 29, 30] → s2 f = σ f := fun f hf => by simp only [List.mem_cons, List.not_mem_nil, or_false] at hf; rw [hs2]; unfold lwS; rw [zu_n (by omega), zu_n (by omega), zu_n (by omega), zu_n (by omega)]
    have g2 : GB (s2, τ) ns := gb_c g (en 6 (by decide)) (fun f _ => rfl)
    have ets : σ 27 0 + 1 = ((nl + 1 : Nat) : Int) := by omega
    rw [ets, ← hx2]
    have x0 : hset X dA (.inl (OmI Ω, 5, .inl (upd fd 2 (iv ((nl + 1 : Nat) : Int))))) dA = some (.inl (OmI Ω, 5, .inl (upd fd 2 (iv ((nl + 1 : Nat) : Int))))) := hset_s
    have x1 : hset X dA (.inl (OmI Ω, 5, .inl (upd fd 2 (iv ((nl + 1 : Nat) : Int))))) nA = some (.inl (OmI Ω, 48, .inl fn)) := (hset_n (ne_dn hf hd (by decide))).trans hf
    refine y_istore (pc := 629) (L' := [(18, _), (8, _), (7, _), (6, _), (0, _), (1, _), (2, _), (3, _), (4, _), (5, _)]) C dL_step_629 (by rw [hn]; decide) rfl ?_
    refine y_aload_n (pc := 631) C dL_step_631 5 rfl ?_
    refine y_iconst (pc := 632) C dL_step_632 ?_
    refine y_dup2 (pc := 633) C dL_step_633 rfl rfl ?_
    refine y_xald (pc := 634) (v := (nl : Nat)) C 2 hd rfl (by decide) (by decide) d2 dL_step_634 ?_
    refine y_iload (pc := 635) C dL_step_635 0 rfl ?_
    refine y_if_ge (pc := 637) (tgt := 644) C dL_step_637 (by decide) (by omega) (by omega) (fun c637 => ?_) (fun c => absurd (by omega) c)
    refine y_iconst (pc := 644) C dL_step_644 ?_
    refine y_iadd (pc := 645) C dL_step_645 ?_
    rw [show ((nl : Nat) : Int) + 1 = ((nl + 1 : Nat) : Int) by omega]
    refine y_xast (pc := 646) C 2 hd rfl (by decide) (by decide) dL_step_646 ?_
    refine y_iload (pc := 647) C dL_step_647 0 rfl ?_
    refine y_sipush (pc := 649) (z := (-200)) C dL_step_649 (by decide) ?_
    refine y_icmp_ne (pc := 652) (tgt := 671) C dL_step_652 (by decide) (by omega) (by omega) (by omega) (by omega) (fun c652 => ?_) (fun c => absurd c (by omega))
    refine y_iload (pc := 671) C dL_step_671 0 rfl ?_
    refine y_aload_n (pc := 673) C dL_step_673 5 rfl ?_
    refine y_iconst (pc := 674) C dL_step_674 ?_
    refine y_xald (pc := 675) (v := ((nl + 1 : Nat) : Int)) C 2 x0 rfl (by decide) (by decide) rfl dL_step_675 ?_
    refine y_icmp_ne (pc := 676) (tgt := 683) C dL_step_676 (by decide) (by omega) (by omega) (by omega) (by omega) (fun c => absurd c (fun z => z rfl)) (fun c676 => ?_)
    refine y_iconst (pc := 679) C dL_step_679 ?_
    refine y_goto (pc := 680) (tgt := 684) C dL_step_680 (by decide) ?_
    exact y_zret (pc := 684) (b := true) C E dL_step_684 (by decide) (by decide) (fun h hh => ⟨rfl, LwSt.mk hl2 g2 hlo2 (rg_c hrg (by rw [en 1 (by decide)]) (en 25 (by decide))) hx2 x0 x1 d0 d1 rfl (d3.trans (by rw [en 1 (by decide)])) (d4.trans (by rw [en 15 (by decide)])) (by rw [en 1 (by decide)]; omega) hh⟩)
  · subst er
    have x0 : hset X dA (.inl (OmI Ω, 5, .inl (upd fd 2 (iv ((nl : Nat) : Int))))) dA = some (.inl (OmI Ω, 5, .inl (upd fd 2 (iv ((nl : Nat) : Int))))) := hset_s
    have x1 : hset X dA (.inl (OmI Ω, 5, .inl (upd fd 2 (iv ((nl : Nat) : Int))))) nA = some (.inl (OmI Ω, 48, .inl fn)) := (hset_n (ne_dn hf hd (by decide))).trans hf
    have n66 := cf.2 hK
    refine y_istore (pc := 629) (L' := [(18, _), (8, _), (7, _), (6, _), (0, _), (1, _), (2, _), (3, _), (4, _), (5, _)]) C dL_step_629 (by rw [hn]; decide) rfl ?_
    refine y_aload_n (pc := 631) C dL_step_631 5 rfl ?_
    refine y_iconst (pc := 632) C dL_step_632 ?_
    refine y_dup2 (pc := 633) C dL_step_633 rfl rfl ?_
    refine y_xald (pc := 634) (v := (nl : Nat)) C 2 hd rfl (by decide) (by decide) d2 dL_step_634 ?_
    refine y_iload (pc := 635) C dL_step_635 0 rfl ?_
    refine y_if_ge (pc := 637) (tgt := 644) C dL_step_637 (by decide) (by omega) (by omega) (fun c => absurd c (by decide)) (fun c637 => ?_)
    refine y_iconst (pc := 640) C dL_step_640 ?_
    refine y_goto (pc := 641) (tgt := 645) C dL_step_641 (by decide) ?_
    refine y_iadd (pc := 645) C dL_step_645 ?_
    rw [show ((nl : Nat) : Int) + 0 = ((nl : Nat) : Int) by omega]
    refine y_xast (pc := 646) C 2 hd rfl (by decide) (by decide) dL_step_646 ?_
    refine y_iload (pc := 647) C dL_step_647 0 rfl ?_
    refine y_sipush (pc := 649) (z := (-200)) C dL_step_649 (by decide) ?_
    refine y_icmp_ne (pc := 652) (tgt := 671) C dL_step_652 (by decide) (by omega) (by omega) (by omega) (by omega) (fun c => absurd c (fun z => z rfl)) (fun c652 => ?_)
    refine y_aload_n (pc := 655) C dL_step_655 5 rfl ?_
    refine y_iconst (pc := 656) C dL_step_656 ?_
    refine y_xald (pc := 657) (v := ((nl : Nat) : Int)) C 2 x0 rfl (by decide) (by decide) rfl dL_step_657 ?_
    refine y_bipush (pc := 658) (z := 20) C dL_step_658 (by decide) ?_
    refine y_icmp_ne (pc := 660) (tgt := 667) C dL_step_660 (by decide) (by omega) (by omega) (by omega) (by omega) (fun c => absurd c (by omega)) (fun c660 => ?_)
    refine y_iconst (pc := 663) C dL_step_663 ?_
    refine y_goto (pc := 664) (tgt := 684) C dL_step_664 (by decide) ?_
    exact y_zret (pc := 684) (b := true) C E dL_step_684 (by decide) (by decide) (fun h hh => ⟨rfl, LwSt.mk hl g hla hrg rfl x0 x1 d0 d1 rfl d3 d4 (by omega) hh⟩)

set_option maxRecDepth 20000 in
theorem sc_moves {Ω : OmT} {κ : KxT} {hR X : AH} {lay : Nat → Nat → Nat} {ξ : XiT} {σ : ZT} {τ : JT} {ns nc nl dA nA : Nat} {fd fn : Nat → Int32} {T w a b s6 s7 s8 : Int} (C : Cx Ω κ RL cL_step) (hn : kn κ = 29) (E : Ce Ω κ (some FieldType.boolean) (rkc 20 4200 26000) hR (RV (.int (iv 1)) (LwSt Ω (lay 0 0) dA nA (T + 24))) NX) (hT8 : 0 ≤ T ∧ T ≤ 8900) (ha : 0 ≤ a ∧ a < 2147483648) (hb : 0 ≤ b ∧ b < 2147483648) (hl : LI ξ σ τ ns nc nl) (g : GB (σ, τ) ns) (hla : LaO Ω lay) (hrg : RgOk fn σ) (hd : X dA = some (.inl (OmI Ω, 5, .inl fd))) (hf : X nA = some (.inl (OmI Ω, 48, .inl fn))) (d0 : fd 0 = iv ns) (d1 : fd 1 = iv nc) (d2 : fd 2 = iv nl) (d3 : fd 3 = iv (σ 1 0)) (d4 : fd 4 = iv (σ 15 0)) (hT : σ 1 0 ≤ T) {k k2 : Nat} (hk : k < nc) (hk2 : k2 < nc) : Y Ω κ (FX X (InvC Ω lay ns ns nc nl ξ σ τ)) hR 0 0 456 [(8, .int (iv (k2 : Nat))), (7, .int (iv (k : Nat))), (6, .int (iv s6)), (0, .ref (lay 0 0)), (1, .ref dA), (2, .ref nA), (3, .int (iv w)), (4, .int (iv a)), (5, .int (iv b))] [] := by
  have n5 := hl.1.2.1
  have n6 := hl.1.2.2.2.1
  have o2 := hl.1.1
  have o16 := hl.1.2.2.1
  have h10 := hl.1.2.2.2.2.2.1.2
  have cf := trK_f (σ := σ) (u := 1 + b % 3000) o16 hk hk2 (by omega)
  have hcu := hl.1.2.2.2.2.2.2.2.1 k hk
  have hcu2 := hl.1.2.2.2.2.2.2.2.1 k2 hk2
  unfold CuOk at hcu hcu2
  refine y_aload_n (pc := 456) C dL_step_456 3 rfl ?_
  refine y_iload (pc := 457) C dL_step_457 1 rfl ?_
  refine y_iconst (pc := 459) C dL_step_459 ?_
  refine y_cg (pc := 460) (cs' := 2) (sl' := 12) (v := .long (jv (σ 21 k))) (As := [_, _]) C E.2.1 cv_L_53 (fun hR' => mg_ofCustomer hl.1 (Nat.le_refl _) ((k : Nat) : Int) ⟨by omega, by omega⟩ 0 (by decide)) (k_oc o16 hk (by decide) (by decide)) (fun q hq => by revert q; decide) (fun h q => ⟨_, q.gas⟩) rfl rfl rfl (Nat.le_of_ble_eq_true rfl) ⟨by decide, by decide, (by decide), (by decide)⟩ (by decide) (by decide) dL_step_460 ?_
  refine y_lstore (pc := 463) (L' := [(13, _), (8, _), (7, _), (6, _), (0, _), (1, _), (2, _), (3, _), (4, _), (5, _)]) C dL_step_463 (by rw [hn]; decide) rfl ?_
  refine y_aload_n (pc := 465) C dL_step_465 4 rfl ?_
  refine y_iload (pc := 466) C dL_step_466 1 rfl ?_
  refine y_iconst (pc := 468) C dL_step_468 ?_
  refine y_cg (pc := 469) (cs' := 4) (sl' := 24) (v := .long (jv (σ 21 k2))) (As := [_, _]) C E.2.1 cv_L_53 (fun hR' => mg_ofCustomer hl.1 (Nat.le_refl _) ((k2 : Nat) : Int) ⟨by omega, by omega⟩ 0 (by decide)) (k_oc o16 hk2 (by decide) (by decide)) (fun q hq => by revert q; decide) (fun h q => ⟨_, q.gas⟩) rfl rfl rfl (Nat.le_of_ble_eq_true rfl) ⟨by decide, by decide, (by decide), (by decide)⟩ (by decide) (by decide) dL_step_469 ?_
  refine y_lstore (pc := 472) (L' := [(15, _), (13, _), (8, _), (7, _), (6, _), (0, _), (1, _), (2, _), (3, _), (4, _), (5, _)]) C dL_step_472 (by rw [hn]; decide) rfl ?_
  refine y_aload_n (pc := 474) C dL_step_474 5 rfl ?_
  refine y_iload (pc := 475) C dL_step_475 3 rfl ?_
  refine y_iload (pc := 477) C dL_step_477 2 rfl ?_
  refine y_iconst (pc := 479) C dL_step_479 ?_
  refine y_iload (pc := 480) C dL_step_480 10 rfl ?_
  refine y_sipush (pc := 482) (z := 3000) C dL_step_482 (by decide) ?_
  refine y_irem (pc := 485) C dL_step_485 (by omega) (by omega) (by omega) (by omega) ?_
  refine y_iadd (pc := 486) C dL_step_486 ?_
  refine y_cw (pc := 487) (cs' := 7) (sl' := 42) (n := 4) (As := [_, _, _, _]) C E.2.1 aw_3_43 aw_3_44 aw_1_0 aw_3_45 ⟨by decide, by decide, by decide +kernel⟩ (fun hR' => wl_moves hl.1 (Nat.le_refl _) ((k : Nat) : Int) ⟨by omega, by omega⟩ ((k2 : Nat) : Int) ⟨by omega, by omega⟩ (1 + b % 3000) ⟨by omega, by omega⟩ cf.1) rfl rfl (Nat.le_of_ble_eq_true rfl) ⟨by decide, by decide, (by decide), (by decide)⟩ (by decide) (by decide) dL_step_487 (fun rv => ?_)
  refine Y.for (Y.fand fun hK => Y.fand fun er => ?_) (Y.for (Y.fand fun hK => Y.fand fun er => ?_) (Y.fand fun hK => Y.fand fun er => ?_))
  · subst er
    have kn := cf.2.2 hK
    obtain ⟨s2, hs2⟩ : ∃ s2, s2 = trS k k2 (1 + b % 3000) σ := ⟨_, rfl⟩
    have hl2 : LI ξ s2 τ ns nc nl := by rw [hs2]; exact li_transfer hl hK
    have en : ∀ f, f ≠ 21 → s2 f = σ f := fun f hf => by rw [hs2]; unfold trS; rw [zu_n hf, zu_n hf]
    have ek : s2 21 k = σ 21 k - 1 - b % 3000 := by rw [hs2]; unfold trS; rw [zu_j kn, zu_s]; omega
    have ek2 : trS k k2 (1 + b % 3000) σ 21 k2 = σ 21 k2 + 1 + b % 3000 := by unfold trS; rw [zu_s, zu_j (fun e => kn e.symm)]; omega
    have g2 : GB (s2, τ) ns := gb_c g (en 6 (by decide)) (fun f _ => rfl)
    have o2' := hl2.1.2.2.1
    refine Y.imp (Φ' := FX X (InvC Ω lay ns ns nc nl ξ s2 τ)) (fun h hh => by rw [hs2]; exact hh) ?_
    have e9 : (some (Value.int (iv (trS ((k : Nat) : Int).toNat ((k2 : Nat) : Int).toNat (1 + b % 3000) σ 21 ((k2 : Nat) : Int).toNat)))).toList = [Value.int (iv (σ 21 k2 + 1 + b % 3000))] := congrArg (fun z => [Value.int (iv z)]) ek2
    rw [e9]
    refine y_istore (pc := 490) (L' := [(17, _), (15, _), (13, _), (8, _), (7, _), (6, _), (0, _), (1, _), (2, _), (3, _), (4, _), (5, _)]) C dL_step_490 (by rw [hn]; decide) rfl ?_
    refine y_iload (pc := 492) C dL_step_492 0 rfl ?_
    refine y_sipush (pc := 494) (z := (-300)) C dL_step_494 (by decide) ?_
    refine y_icmp_ne (pc := 497) (tgt := 515) C dL_step_497 (by decide) (by omega) (by omega) (by omega) (by omega) (fun c497 => ?_) (fun c => absurd c (by omega))
    refine y_iload (pc := 515) C dL_step_515 0 rfl ?_
    refine y_sipush (pc := 517) (z := (-200)) C dL_step_517 (by decide) ?_
    refine y_icmp_ne (pc := 520) (tgt := 544) C dL_step_520 (by decide) (by omega) (by omega) (by omega) (by omega) (fun c520 => ?_) (fun c => absurd c (by omega))
    refine y_iload (pc := 544) C dL_step_544 0 rfl ?_
    refine y_i2l (pc := 546) C dL_step_546 (by omega) (by omega) ?_
    refine y_lload (pc := 547) C dL_step_547 1 rfl ?_
    refine y_lconst (pc := 549) (z := 1) C dL_step_549 (by decide) ?_
    refine y_ladd (pc := 550) C dL_step_550 ?_
    refine y_iload (pc := 551) C dL_step_551 11 rfl ?_
    refine y_sipush (pc := 553) (z := 3000) C dL_step_553 (by decide) ?_
    refine y_irem (pc := 556) C dL_step_556 (by omega) (by omega) (by omega) (by omega) ?_
    refine y_i2l (pc := 557) C dL_step_557 (by omega) (by omega) ?_
    refine y_ladd (pc := 558) C dL_step_558 ?_
    refine y_lcmpE (pc := 559) C dL_step_559 ?_
    refine y_if_ne (tgt := 590) C dL_step_560 (by decide) (by decide) (by decide) (fun c => absurd rfl c) (fun _ => ?_)
    refine y_aload_n (pc := 563) C dL_step_563 6 rfl ?_
    refine y_iload (pc := 564) C dL_step_564 4 rfl ?_
    refine y_iconst (pc := 566) C dL_step_566 ?_
    refine y_cg (pc := 567) (cs' := 9) (sl' := 54) (v := .long (jv (σ 21 k - 1 - b % 3000))) (As := [_, _]) C E.2.1 cv_L_53 (fun hR' => mg_ofCustomer hl2.1 (Nat.le_refl _) ((k : Nat) : Int) ⟨by omega, by omega⟩ 0 (by decide)) (k_oc o2' hk (by decide) (by decide)) (fun q hq => by revert q; decide) (fun h q => ⟨_, q.gas⟩) (congrArg Value.long (show jv (s2 21 k) = _ by rw [ek])) rfl rfl (Nat.le_of_ble_eq_true rfl) ⟨by decide, by decide, (by decide), (by decide)⟩ (by decide) (by decide) dL_step_567 ?_
    refine y_lload (pc := 570) C dL_step_570 2 rfl ?_
    refine y_lconst (pc := 572) (z := 1) C dL_step_572 (by decide) ?_
    refine y_lsub (pc := 573) C dL_step_573 ?_
    refine y_iload (pc := 574) C dL_step_574 11 rfl ?_
    refine y_sipush (pc := 576) (z := 3000) C dL_step_576 (by decide) ?_
    refine y_irem (pc := 579) C dL_step_579 (by omega) (by omega) (by omega) (by omega) ?_
    refine y_i2l (pc := 580) C dL_step_580 (by omega) (by omega) ?_
    refine y_lsub (pc := 581) C dL_step_581 ?_
    refine y_lcmpE (pc := 582) C dL_step_582 ?_
    refine y_if_ne (tgt := 590) C dL_step_583 (by decide) (by decide) (by decide) (fun c => absurd rfl c) (fun _ => ?_)
    refine y_iconst (pc := 586) C dL_step_586 ?_
    refine y_goto (pc := 587) (tgt := 591) C dL_step_587 (by decide) ?_
    exact y_zret (pc := 591) (b := true) C E dL_step_591 (by decide) (by decide) (fun h hh => ⟨rfl, LwSt.mk2 hl2 g2 hla hrg (by rw [en 1 (by decide)]) (en 25 (by decide)) (by rw [en 15 (by decide)]) hd hf d0 d1 d2 d3 d4 (by omega) hh⟩)
  · subst er
    refine y_istore (pc := 490) (L' := [(17, _), (15, _), (13, _), (8, _), (7, _), (6, _), (0, _), (1, _), (2, _), (3, _), (4, _), (5, _)]) C dL_step_490 (by rw [hn]; decide) rfl ?_
    refine y_iload (pc := 492) C dL_step_492 0 rfl ?_
    refine y_sipush (pc := 494) (z := (-300)) C dL_step_494 (by decide) ?_
    refine y_icmp_ne (pc := 497) (tgt := 515) C dL_step_497 (by decide) (by omega) (by omega) (by omega) (by omega) (fun c497 => ?_) (fun c => absurd c (by decide))
    refine y_iload (pc := 515) C dL_step_515 0 rfl ?_
    refine y_sipush (pc := 517) (z := (-200)) C dL_step_517 (by decide) ?_
    refine y_icmp_ne (pc := 520) (tgt := 544) C dL_step_520 (by decide) (by omega) (by omega) (by omega) (by omega) (fun c => absurd c (fun z => z rfl)) (fun c520 => ?_)
    refine y_aload_n (pc := 523) C dL_step_523 6 rfl ?_
    refine y_iload (pc := 524) C dL_step_524 4 rfl ?_
    refine y_iconst (pc := 526) C dL_step_526 ?_
    refine y_cg (pc := 527) (cs' := 9) (sl' := 54) (v := .long (jv (σ 21 k))) (As := [_, _]) C E.2.1 cv_L_53 (fun hR' => mg_ofCustomer hl.1 (Nat.le_refl _) ((k : Nat) : Int) ⟨by omega, by omega⟩ 0 (by decide)) (k_oc o16 hk (by decide) (by decide)) (fun q hq => by revert q; decide) (fun h q => ⟨_, q.gas⟩) rfl rfl rfl (Nat.le_of_ble_eq_true rfl) ⟨by decide, by decide, (by decide), (by decide)⟩ (by decide) (by decide) dL_step_527 ?_
    refine y_lload (pc := 530) C dL_step_530 2 rfl ?_
    refine y_lcmpE (pc := 532) C dL_step_532 ?_
    refine y_if_ne (tgt := 540) C dL_step_533 (by decide) (by decide) (by decide) (fun c => absurd rfl c) (fun _ => ?_)
    refine y_iconst (pc := 536) C dL_step_536 ?_
    refine y_goto (pc := 537) (tgt := 591) C dL_step_537 (by decide) ?_
    exact y_zret (pc := 591) (b := true) C E dL_step_591 (by decide) (by decide) (fun h hh => ⟨rfl, LwSt.mk hl g hla hrg rfl hd hf d0 d1 d2 d3 d4 (by omega) hh⟩)
  · subst er
    have kn := cf.2.1 hK
    refine y_istore (pc := 490) (L' := [(17, _), (15, _), (13, _), (8, _), (7, _), (6, _), (0, _), (1, _), (2, _), (3, _), (4, _), (5, _)]) C dL_step_490 (by rw [hn]; decide) rfl ?_
    refine y_iload (pc := 492) C dL_step_492 0 rfl ?_
    refine y_sipush (pc := 494) (z := (-300)) C dL_step_494 (by decide) ?_
    refine y_icmp_ne (pc := 497) (tgt := 515) C dL_step_497 (by decide) (by omega) (by omega) (by omega) (by omega) (fun c => absurd c (fun z => z rfl)) (fun c497 => ?_)
    refine y_iload (pc := 500) C dL_step_500 4 rfl ?_
    refine y_iload (pc := 502) C dL_step_502 3 rfl ?_
    refine y_icmp_ne (pc := 504) (tgt := 511) C dL_step_504 (by decide) (by omega) (by omega) (by omega) (by omega) (fun c => absurd c (by omega)) (fun c504 => ?_)
    refine y_iconst (pc := 507) C dL_step_507 ?_
    refine y_goto (pc := 508) (tgt := 591) C dL_step_508 (by decide) ?_
    exact y_zret (pc := 591) (b := true) C E dL_step_591 (by decide) (by decide) (fun h hh => ⟨rfl, LwSt.mk hl g hla hrg rfl hd hf d0 d1 d2 d3 d4 (by omega) hh⟩)

set_option maxRecDepth 20000 in
theorem sc_leaches {Ω : OmT} {κ : KxT} {hR X : AH} {lay : Nat → Nat → Nat} {ξ : XiT} {σ : ZT} {τ : JT} {ns nc nl dA nA : Nat} {fd fn : Nat → Int32} {T w a b s6 s7 s8 : Int} (C : Cx Ω κ RL cL_step) (hn : kn κ = 29) (E : Ce Ω κ (some FieldType.boolean) (rkc 20 4200 26000) hR (RV (.int (iv 1)) (LwSt Ω (lay 0 0) dA nA (T + 24))) NX) (hT8 : 0 ≤ T ∧ T ≤ 8900) (ha : 0 ≤ a ∧ a < 2147483648) (hb : 0 ≤ b ∧ b < 2147483648) (hl : LI ξ σ τ ns nc nl) (g : GB (σ, τ) ns) (hla : LaO Ω lay) (hrg : RgOk fn σ) (hd : X dA = some (.inl (OmI Ω, 5, .inl fd))) (hf : X nA = some (.inl (OmI Ω, 48, .inl fn))) (d0 : fd 0 = iv ns) (d1 : fd 1 = iv nc) (d2 : fd 2 = iv nl) (d3 : fd 3 = iv (σ 1 0)) (d4 : fd 4 = iv (σ 15 0)) (hT : σ 1 0 ≤ T) {i : Nat} (hi : i < ns) : Y Ω κ (FX X (InvC Ω lay ns ns nc nl ξ σ τ)) hR 0 0 886 [(8, .int (iv s8)), (7, .int (iv s7)), (6, .int (iv (i : Nat))), (0, .ref (lay 0 0)), (1, .ref dA), (2, .ref nA), (3, .int (iv w)), (4, .int (iv a)), (5, .int (iv b))] [] := by
  have n5 := hl.1.2.1
  have n6 := hl.1.2.2.2.1
  have o2 := hl.1.1
  have o16 := hl.1.2.2.1
  have h10 := hl.1.2.2.2.2.2.1.2
  have cf := lcK_f (σ := σ) (u := 1 + b % 1000) o2 hi (by omega)
  have hs := (hl.1.2.2.2.2.2.2.1 i hi).1
  unfold StO0 at hs
  refine y_aload_n (pc := 886) C dL_step_886 3 rfl ?_
  refine y_iload (pc := 887) C dL_step_887 2 rfl ?_
  refine y_iconst (pc := 889) C dL_step_889 ?_
  refine y_cg (pc := 890) (cs' := 2) (sl' := 12) (v := .long (jv (σ 4 i))) (As := [_, _]) C E.2.1 cv_L_77 (fun hR' => mg_ofStore hl.1 (Nat.le_refl _) ((i : Nat) : Int) ⟨by omega, by omega⟩ 2 (by decide)) (k_os o2 hi (by decide) (by decide)) (fun q hq => by revert q; decide) (fun h q => ⟨_, q.gas⟩) rfl rfl rfl (Nat.le_of_ble_eq_true rfl) ⟨by decide, by decide, (by decide), (by decide)⟩ (by decide) (by decide) dL_step_890 ?_
  refine y_lstore (pc := 893) (L' := [(23, _), (8, _), (7, _), (6, _), (0, _), (1, _), (2, _), (3, _), (4, _), (5, _)]) C dL_step_893 (by rw [hn]; decide) rfl ?_
  refine y_aload_n (pc := 895) C dL_step_895 4 rfl ?_
  refine y_iload (pc := 896) C dL_step_896 3 rfl ?_
  refine y_iconst (pc := 898) C dL_step_898 ?_
  refine y_iload (pc := 899) C dL_step_899 9 rfl ?_
  refine y_sipush (pc := 901) (z := 1000) C dL_step_901 (by decide) ?_
  refine y_irem (pc := 904) C dL_step_904 (by omega) (by omega) (by omega) (by omega) ?_
  refine y_iadd (pc := 905) C dL_step_905 ?_
  refine y_cw (pc := 906) (cs' := 4) (sl' := 24) (n := 3) (As := [_, _, _]) C E.2.1 aw_3_95 aw_3_96 aw_1_0 aw_3_97 ⟨by decide, by decide, by decide +kernel⟩ (fun hR' => wl_leaches hl.1 (Nat.le_refl _) ((i : Nat) : Int) ⟨by omega, by omega⟩ (1 + b % 1000) ⟨by omega, by omega⟩ cf.1 cf.2.1) rfl rfl (Nat.le_of_ble_eq_true rfl) ⟨by decide, by decide, (by decide), (by decide)⟩ (by decide) (by decide) dL_step_906 (fun rv => ?_)
  refine Y.for (Y.fand fun hK => Y.fand fun er => ?_) (Y.fand fun hK => Y.fand fun er => ?_)
  · subst er
    have z6 := cf.2.2 hK
    obtain ⟨s2, hs2⟩ : ∃ s2, s2 = zu σ 4 i (σ 4 i + (1 + b % 1000)) := ⟨_, rfl⟩
    have hl2 : LI ξ s2 τ ns nc nl := by rw [hs2]; exact li_leach hl hK
    have en : ∀ f, f ≠ 4 → s2 f = σ f := fun f hf => by rw [hs2, zu_n hf]
    have ek : zu σ 4 i (σ 4 i + (1 + b % 1000)) 4 i = σ 4 i + 1 + b % 1000 := by rw [zu_s]; omega
    have g2 : GB (s2, τ) ns := gb_c g (en 6 (by decide)) (fun f _ => rfl)
    have o2' := hl2.1.1
    refine Y.imp (Φ' := FX X (InvC Ω lay ns ns nc nl ξ s2 τ)) (fun h hh => by rw [hs2]; exact hh) ?_
    have e9 : (some (Value.int (iv (zu σ 4 ((i : Nat) : Int).toNat (σ 4 ((i : Nat) : Int).toNat + (1 + b % 1000)) 4 ((i : Nat) : Int).toNat)))).toList = [Value.int (iv (σ 4 i + 1 + b % 1000))] := congrArg (fun z => [Value.int (iv z)]) ek
    rw [e9]
    refine y_istore (pc := 909) (L' := [(25, _), (23, _), (8, _), (7, _), (6, _), (0, _), (1, _), (2, _), (3, _), (4, _), (5, _)]) C dL_step_909 (by rw [hn]; decide) rfl ?_
    refine y_iload (pc := 911) C dL_step_911 0 rfl ?_
    refine y_sipush (pc := 913) (z := (-200)) C dL_step_913 (by decide) ?_
    refine y_icmp_ne (pc := 916) (tgt := 940) C dL_step_916 (by decide) (by omega) (by omega) (by omega) (by omega) (fun c916 => ?_) (fun c => absurd c (by omega))
    refine y_iload (pc := 940) C dL_step_940 0 rfl ?_
    refine y_i2l (pc := 942) C dL_step_942 (by omega) (by omega) ?_
    refine y_lload (pc := 943) C dL_step_943 1 rfl ?_
    refine y_lconst (pc := 945) (z := 1) C dL_step_945 (by decide) ?_
    refine y_ladd (pc := 946) C dL_step_946 ?_
    refine y_iload (pc := 947) C dL_step_947 10 rfl ?_
    refine y_sipush (pc := 949) (z := 1000) C dL_step_949 (by decide) ?_
    refine y_irem (pc := 952) C dL_step_952 (by omega) (by omega) (by omega) (by omega) ?_
    refine y_i2l (pc := 953) C dL_step_953 (by omega) (by omega) ?_
    refine y_ladd (pc := 954) C dL_step_954 ?_
    refine y_lcmpE (pc := 955) C dL_step_955 ?_
    refine y_if_ne (tgt := 975) C dL_step_956 (by decide) (by decide) (by decide) (fun c => absurd rfl c) (fun _ => ?_)
    refine y_aload_n (pc := 959) C dL_step_959 5 rfl ?_
    refine y_iload (pc := 960) C dL_step_960 4 rfl ?_
    refine y_iconst (pc := 962) C dL_step_962 ?_
    refine y_cg (pc := 963) (cs' := 6) (sl' := 36) (v := .long (jv (0))) (As := [_, _]) C E.2.1 cv_L_77 (fun hR' => mg_ofStore hl2.1 (Nat.le_refl _) ((i : Nat) : Int) ⟨by omega, by omega⟩ 0 (by decide)) (k_os o2' hi (by decide) (by decide)) (fun q hq => by revert q; decide) (fun h q => ⟨_, q.gas⟩) (congrArg Value.long (show jv (s2 6 i) = _ by rw [en 6 (by decide), z6])) rfl rfl (Nat.le_of_ble_eq_true rfl) ⟨by decide, by decide, (by decide), (by decide)⟩ (by decide) (by decide) dL_step_963 ?_
    refine y_lconst (pc := 966) (z := 0) C dL_step_966 (by decide) ?_
    refine y_lcmpE (pc := 967) C dL_step_967 ?_
    refine y_if_ne (tgt := 975) C dL_step_968 (by decide) (by decide) (by decide) (fun c => absurd rfl c) (fun _ => ?_)
    refine y_iconst (pc := 971) C dL_step_971 ?_
    refine y_goto (pc := 972) (tgt := 976) C dL_step_972 (by decide) ?_
    exact y_zret (pc := 976) (b := true) C E dL_step_976 (by decide) (by decide) (fun h hh => ⟨rfl, LwSt.mk2 hl2 g2 hla hrg (by rw [en 1 (by decide)]) (en 25 (by decide)) (by rw [en 15 (by decide)]) hd hf d0 d1 d2 d3 d4 (by omega) hh⟩)
  · subst er
    refine y_istore (pc := 909) (L' := [(25, _), (23, _), (8, _), (7, _), (6, _), (0, _), (1, _), (2, _), (3, _), (4, _), (5, _)]) C dL_step_909 (by rw [hn]; decide) rfl ?_
    refine y_iload (pc := 911) C dL_step_911 0 rfl ?_
    refine y_sipush (pc := 913) (z := (-200)) C dL_step_913 (by decide) ?_
    refine y_icmp_ne (pc := 916) (tgt := 940) C dL_step_916 (by decide) (by omega) (by omega) (by omega) (by omega) (fun c => absurd c (fun z => z rfl)) (fun c916 => ?_)
    refine y_aload_n (pc := 919) C dL_step_919 5 rfl ?_
    refine y_iload (pc := 920) C dL_step_920 4 rfl ?_
    refine y_iconst (pc := 922) C dL_step_922 ?_
    refine y_cg (pc := 923) (cs' := 6) (sl' := 36) (v := .long (jv (σ 4 i))) (As := [_, _]) C E.2.1 cv_L_77 (fun hR' => mg_ofStore hl.1 (Nat.le_refl _) ((i : Nat) : Int) ⟨by omega, by omega⟩ 2 (by decide)) (k_os o2 hi (by decide) (by decide)) (fun q hq => by revert q; decide) (fun h q => ⟨_, q.gas⟩) rfl rfl rfl (Nat.le_of_ble_eq_true rfl) ⟨by decide, by decide, (by decide), (by decide)⟩ (by decide) (by decide) dL_step_923 ?_
    refine y_lload (pc := 926) C dL_step_926 1 rfl ?_
    refine y_lcmpE (pc := 928) C dL_step_928 ?_
    refine y_if_ne (tgt := 936) C dL_step_929 (by decide) (by decide) (by decide) (fun c => absurd rfl c) (fun _ => ?_)
    refine y_iconst (pc := 932) C dL_step_932 ?_
    refine y_goto (pc := 933) (tgt := 976) C dL_step_933 (by decide) ?_
    exact y_zret (pc := 976) (b := true) C E dL_step_976 (by decide) (by decide) (fun h hh => ⟨rfl, LwSt.mk hl g hla hrg rfl hd hf d0 d1 d2 d3 d4 (by omega) hh⟩)
