set_option maxRecDepth 20000 in
theorem mg_pressure {Ω : OmT} {hR : AH} {lay : Nat → Nat → Nat} {ξ : XiT} {ms ns nc nl : Nat} {σ : ZT} {τ : JT} (hwf : Wf σ ns nc nl) (hms : ns ≤ ms) (x : Int) (h_x : -2147483648 ≤ x ∧ x < 2147483648)  : Ct Ω yX4_pressure cX4_pressure 2 (some FieldType.int) (rkc 8 1 6) [.ref (lay 0 0), .int (iv x)] (InvC Ω lay ms ns nc nl ξ σ τ) hR (FK (soK σ x) (.int (iv (pressZ σ x.toNat))) (InvC Ω lay ms ns nc nl ξ σ τ)) (XT (soK σ x) [(sIB, 1)] (InvC Ω lay ms ns nc nl ξ σ τ)) := by
  refine Ct.of (own := RX4) (L := [(0, _), (1, _)]) (by decide +kernel) rfl (Nat.le_of_ble_eq_true rfl) rfl ?_
  intro κ C hn E hi
  have hs2 := hwf.2.1
  have hc2 := hwf.2.2.2.1
  have hl2 := hwf.2.2.2.2.1.2.1
  have hnow := hwf.2.2.2.2.2.1.2
  have hst := hwf.2.2.2.2.2.2.1
  have hcu := hwf.2.2.2.2.2.2.2.1
  have o2 := hwf.1
  have o16 := hwf.2.2.1
  have o27 := hwf.2.2.2.2.1.1
  refine y_aload_n (pc := 0) C dX4_pressure_0 0 rfl ?_
  refine y_iload_n (pc := 1) C dX4_pressure_1 1 rfl ?_
  refine y_callVX (pc := 2) (As := [_]) C E.2.1 cv_X4_94 (ci := 5) rfl rfl (mg_storeNumbered x h_x (by omega) hms) (fun h hh => ⟨_, hh.gas⟩) rfl rfl (Nat.le_of_ble_eq_true rfl) ⟨by decide, by decide, by decide, by decide⟩ dX4_pressure_2 (fun rv => ?_) (fun E0 => y_out C E (by decide) (by decide) (fun h hh => by obtain ⟨rfl, hn9, hh⟩ := hh; exact ⟨1, List.Mem.head _, (by unfold soK; (try simp only [Int.toNat_natCast]); split <;> (try split) <;> (try split) <;> first | rfl | omega), hh⟩))
  refine Y.and (fun hN_i => Y.and (fun e9 => ?_))
  subst e9
  obtain ⟨i, rfl⟩ : ∃ i9 : Nat, x = i9 := ⟨Int.toNat x, by omega⟩
  have hi_i : i < ns := by omega
  have hm_i : i < ms := by omega
  have hk_i := hwf.2.2.2.2.2.2.1 i hi_i
  have hu_i := hk_i.1
  unfold StO0 at hu_i
  show Y Ω κ _ hR 1 6 _ _ (.ref (lay 1 i) :: _)
  refine y_callV (pc := 5) (As := []) C E.2.1 cv_X4_178 (ci := 4) rfl rfl (mc_pressureNow _ hm_i hk_i.1) (fun h hh => ⟨_, hh.sto hm_i⟩) rfl rfl (Nat.le_of_ble_eq_true rfl) ⟨by decide, by decide, by decide, by decide⟩ dX4_pressure_5 ⟨rfl, rfl⟩ ?_
  exact y_iret (pc := 8) C E dX4_pressure_8 (by decide) (by decide) (fun h hh => ⟨(by unfold soK; (try simp only [Int.toNat_natCast]); split <;> (try split) <;> (try split) <;> first | rfl | omega), rfl, hh⟩)

set_option maxRecDepth 20000 in
theorem mg_rate {Ω : OmT} {hR : AH} {lay : Nat → Nat → Nat} {ξ : XiT} {ms ns nc nl : Nat} {σ : ZT} {τ : JT} (hwf : Wf σ ns nc nl) (hms : ns ≤ ms) (x : Int) (h_x : -2147483648 ≤ x ∧ x < 2147483648) (b : Bool) : Ct Ω yX4_rate cX4_rate 4 (some FieldType.int) (rkc 8 1 6) [.ref (lay 0 0), .int (iv x), .int (iv (bz b))] (InvC Ω lay ms ns nc nl ξ σ τ) hR (FK (soK σ x) (.int (iv (rateZ σ x.toNat b))) (InvC Ω lay ms ns nc nl ξ σ τ)) (XT (soK σ x) [(sIB, 1)] (InvC Ω lay ms ns nc nl ξ σ τ)) := by
  refine Ct.of (own := RX4) (L := [(0, _), (1, _), (2, _)]) (by decide +kernel) rfl (Nat.le_of_ble_eq_true rfl) rfl ?_
  intro κ C hn E hi
  have hs2 := hwf.2.1
  have hc2 := hwf.2.2.2.1
  have hl2 := hwf.2.2.2.2.1.2.1
  have hnow := hwf.2.2.2.2.2.1.2
  have hst := hwf.2.2.2.2.2.2.1
  have hcu := hwf.2.2.2.2.2.2.2.1
  have o2 := hwf.1
  have o16 := hwf.2.2.1
  have o27 := hwf.2.2.2.2.1.1
  refine y_aload_n (pc := 0) C dX4_rate_0 0 rfl ?_
  refine y_iload_n (pc := 1) C dX4_rate_1 1 rfl ?_
  refine y_callVX (pc := 2) (As := [_]) C E.2.1 cv_X4_94 (ci := 5) rfl rfl (mg_storeNumbered x h_x (by omega) hms) (fun h hh => ⟨_, hh.gas⟩) rfl rfl (Nat.le_of_ble_eq_true rfl) ⟨by decide, by decide, by decide, by decide⟩ dX4_rate_2 (fun rv => ?_) (fun E0 => y_out C E (by decide) (by decide) (fun h hh => by obtain ⟨rfl, hn9, hh⟩ := hh; exact ⟨1, List.Mem.head _, (by unfold soK; (try simp only [Int.toNat_natCast]); split <;> (try split) <;> (try split) <;> first | rfl | omega), hh⟩))
  refine Y.and (fun hN_i => Y.and (fun e9 => ?_))
  subst e9
  obtain ⟨i, rfl⟩ : ∃ i9 : Nat, x = i9 := ⟨Int.toNat x, by omega⟩
  have hi_i : i < ns := by omega
  have hm_i : i < ms := by omega
  have hk_i := hwf.2.2.2.2.2.2.1 i hi_i
  have hu_i := hk_i.1
  unfold StO0 at hu_i
  show Y Ω κ _ hR 1 6 _ _ (.ref (lay 1 i) :: _)
  refine y_astore_n (pc := 5) (L' := [(3, _), (0, _), (1, _), (2, _)]) C dX4_rate_5 (by rw [hn]; decide) rfl ?_
  refine y_iload_n (pc := 6) C dX4_rate_6 3 rfl ?_
  refine y_ifb_eq (pc := 7) (tgt := 17) C dX4_rate_7 (by decide) (fun c7 => ?_) (fun c7 => ?_)
  · skip
    refine y_aload_n (pc := 17) C dX4_rate_17 0 rfl ?_
    refine y_callV (pc := 18) (As := []) C E.2.1 cv_X4_106 (ci := 4) rfl rfl (mc_rateOut _ hm_i hk_i) (fun h hh => ⟨_, hh.sto hm_i⟩) rfl rfl (Nat.le_of_ble_eq_true rfl) ⟨by decide, by decide, by decide, by decide⟩ dX4_rate_18 ⟨rfl, rfl⟩ ?_
    exact y_iret (pc := 21) C E dX4_rate_21 (by decide) (by decide) (fun h hh => ⟨(by unfold soK; (try simp only [Int.toNat_natCast]); split <;> (try split) <;> (try split) <;> first | rfl | omega), by subst c7; rfl, hh⟩)
  · skip
    refine y_aload_n (pc := 10) C dX4_rate_10 0 rfl ?_
    refine y_callV (pc := 11) (As := []) C E.2.1 cv_X4_181 (ci := 4) rfl rfl (mc_rateIn _ hm_i hk_i) (fun h hh => ⟨_, hh.sto hm_i⟩) rfl rfl (Nat.le_of_ble_eq_true rfl) ⟨by decide, by decide, by decide, by decide⟩ dX4_rate_11 ⟨rfl, rfl⟩ ?_
    refine y_goto (pc := 14) (tgt := 21) C dX4_rate_14 (by decide) ?_
    exact y_iret (pc := 21) C E dX4_rate_21 (by decide) (by decide) (fun h hh => ⟨(by unfold soK; (try simp only [Int.toNat_natCast]); split <;> (try split) <;> (try split) <;> first | rfl | omega), by subst c7; rfl, hh⟩)

set_option maxRecDepth 20000 in
theorem mg_mix {Ω : OmT} {hR : AH} {lay : Nat → Nat → Nat} {ξ : XiT} {ms ns nc nl : Nat} {σ : ZT} {τ : JT} (hwf : Wf σ ns nc nl) (hms : ns ≤ ms) (x : Int) (h_x : -2147483648 ≤ x ∧ x < 2147483648)  : Ct Ω yX4_mix cX4_mix 3 (some FieldType.int) (rkc 8 1 6) [.ref (lay 0 0), .int (iv x)] (InvC Ω lay ms ns nc nl ξ σ τ) hR (FK (soK σ x) (.int (mixI σ τ x.toNat)) (InvC Ω lay ms ns nc nl ξ σ τ)) (XT (soK σ x) [(sIB, 1)] (InvC Ω lay ms ns nc nl ξ σ τ)) := by
  refine Ct.of (own := RX4) (L := [(0, _), (1, _)]) (by decide +kernel) rfl (Nat.le_of_ble_eq_true rfl) rfl ?_
  intro κ C hn E hi
  have hs2 := hwf.2.1
  have hc2 := hwf.2.2.2.1
  have hl2 := hwf.2.2.2.2.1.2.1
  have hnow := hwf.2.2.2.2.2.1.2
  have hst := hwf.2.2.2.2.2.2.1
  have hcu := hwf.2.2.2.2.2.2.2.1
  have o2 := hwf.1
  have o16 := hwf.2.2.1
  have o27 := hwf.2.2.2.2.1.1
  refine y_aload_n (pc := 0) C dX4_mix_0 0 rfl ?_
  refine y_iload_n (pc := 1) C dX4_mix_1 1 rfl ?_
  refine y_callVX (pc := 2) (As := [_]) C E.2.1 cv_X4_94 (ci := 5) rfl rfl (mg_storeNumbered x h_x (by omega) hms) (fun h hh => ⟨_, hh.gas⟩) rfl rfl (Nat.le_of_ble_eq_true rfl) ⟨by decide, by decide, by decide, by decide⟩ dX4_mix_2 (fun rv => ?_) (fun E0 => y_out C E (by decide) (by decide) (fun h hh => by obtain ⟨rfl, hn9, hh⟩ := hh; exact ⟨1, List.Mem.head _, (by unfold soK; (try simp only [Int.toNat_natCast]); split <;> (try split) <;> (try split) <;> first | rfl | omega), hh⟩))
  refine Y.and (fun hN_i => Y.and (fun e9 => ?_))
  subst e9
  obtain ⟨i, rfl⟩ : ∃ i9 : Nat, x = i9 := ⟨Int.toNat x, by omega⟩
  have hi_i : i < ns := by omega
  have hm_i : i < ms := by omega
  have hk_i := hwf.2.2.2.2.2.2.1 i hi_i
  have hu_i := hk_i.1
  unfold StO0 at hu_i
  show Y Ω κ _ hR 1 6 _ _ (.ref (lay 1 i) :: _)
  refine y_astore_n (pc := 5) (L' := [(2, _), (0, _), (1, _)]) C dX4_mix_5 (by rw [hn]; decide) rfl ?_
  refine y_aload_n (pc := 6) C dX4_mix_6 0 rfl ?_
  refine y_get (pc := 7) C fg_X4_119 dX4_mix_7 (fun h hh => ⟨_, hh.sto hm_i, rfl⟩) ?_
  refine y_if_le (pc := 10) (tgt := 28) C dX4_mix_10 (by decide) (by omega) (by omega) (fun c10 => ?_) (fun c10 => ?_)
  · skip
    refine y_iconst (pc := 28) C dX4_mix_28 ?_
    exact y_iret (pc := 29) C E dX4_mix_29 (by decide) (by decide) (fun h hh => ⟨(by (try simp only [decide_eq_true_eq, decide_eq_false_iff_not] at c10); unfold soK; (try simp only [Int.toNat_natCast]); split <;> (try split) <;> (try split) <;> first | rfl | omega), congrArg (fun v => some (Value.int v)) (show _ = mixI σ τ (Int.toNat (i : Int)) from (if_pos (by show σ 6 i = 0; omega)).symm), hh⟩)
  · skip
    have hdn : iv (σ 6 i) ≠ 0 := by rw [← iv_0]; exact fun q => absurd ((iv_eq (by omega) (by omega) (by decide) (by decide)).mp q) (by omega)
    refine y_aload_n (pc := 13) C dX4_mix_13 0 rfl ?_
    refine y_get (pc := 14) C fg_X4_184 dX4_mix_14 (fun h hh => ⟨_, hh.sto hm_i, rfl⟩) ?_
    refine y_l2f (pc := 17) C dX4_mix_17 ?_
    refine y_aload_n (pc := 18) C dX4_mix_18 0 rfl ?_
    refine y_get (pc := 19) C fg_X4_119 dX4_mix_19 (fun h hh => ⟨_, hh.sto hm_i, rfl⟩) ?_
    refine y_i2f (pc := 22) C dX4_mix_22 ?_
    refine y_fdiv (pc := 23) C dX4_mix_23 (div_n hdn) ?_
    refine y_f2i (pc := 24) C dX4_mix_24 ?_
    refine y_goto (pc := 25) (tgt := 29) C dX4_mix_25 (by decide) ?_
    exact y_iret (pc := 29) C E dX4_mix_29 (by decide) (by decide) (fun h hh => ⟨(by (try simp only [decide_eq_true_eq, decide_eq_false_iff_not] at c10); unfold soK; (try simp only [Int.toNat_natCast]); split <;> (try split) <;> (try split) <;> first | rfl | omega), congrArg (fun v => some (Value.int v)) (show _ = mixI σ τ (Int.toNat (i : Int)) from (if_neg (by show ¬ σ 6 i = 0; omega)).symm), hh⟩)

set_option maxRecDepth 20000 in
theorem mg_ofStore {Ω : OmT} {hR : AH} {lay : Nat → Nat → Nat} {ξ : XiT} {ms ns nc nl : Nat} {σ : ZT} {τ : JT} (hwf : Wf σ ns nc nl) (hms : ns ≤ ms) (x : Int) (h_x : -2147483648 ≤ x ∧ x < 2147483648) (w : Int) (h_w : -2147483648 ≤ w ∧ w < 2147483648)  : Ct Ω yX4_ofStore cX4_ofStore 4 (some FieldType.long) (rkc 8 2 12) [.ref (lay 0 0), .int (iv x), .int (iv w)] (InvC Ω lay ms ns nc nl ξ σ τ) hR (FK (osK σ x w) (.long (osR σ τ x.toNat w)) (InvC Ω lay ms ns nc nl ξ σ τ)) (XT (osK σ x w) [(sIB, 1), (sIA, 2)] (InvC Ω lay ms ns nc nl ξ σ τ)) := by
  refine Ct.of (own := RX4) (L := [(0, _), (1, _), (2, _)]) (by decide +kernel) rfl (Nat.le_of_ble_eq_true rfl) rfl ?_
  intro κ C hn E hi
  have hs2 := hwf.2.1
  have hc2 := hwf.2.2.2.1
  have hl2 := hwf.2.2.2.2.1.2.1
  have hnow := hwf.2.2.2.2.2.1.2
  have hst := hwf.2.2.2.2.2.2.1
  have hcu := hwf.2.2.2.2.2.2.2.1
  have o2 := hwf.1
  have o16 := hwf.2.2.1
  have o27 := hwf.2.2.2.2.1.1
  refine y_aload_n (pc := 0) C dX4_ofStore_0 0 rfl ?_
  refine y_iload_n (pc := 1) C dX4_ofStore_1 1 rfl ?_
  refine y_callVX (pc := 2) (As := [_]) C E.2.1 cv_X4_94 (ci := 5) rfl rfl (mg_storeNumbered x h_x (by omega) hms) (fun h hh => ⟨_, hh.gas⟩) rfl rfl (Nat.le_of_ble_eq_true rfl) ⟨by decide, by decide, by decide, by decide⟩ dX4_ofStore_2 (fun rv => ?_) (fun E0 => y_out C E (by decide) (by decide) (fun h hh => by obtain ⟨rfl, hn9, hh⟩ := hh; exact ⟨1, List.Mem.head _, (by unfold osK; (try simp only [Int.toNat_natCast]); split <;> (try split) <;> (try split) <;> first | rfl | omega), hh⟩))
  refine Y.and (fun hN_i => Y.and (fun e9 => ?_))
  subst e9
  obtain ⟨i, rfl⟩ : ∃ i9 : Nat, x = i9 := ⟨Int.toNat x, by omega⟩
  have hi_i : i < ns := by omega
  have hm_i : i < ms := by omega
  have hk_i := hwf.2.2.2.2.2.2.1 i hi_i
  have hu_i := hk_i.1
  unfold StO0 at hu_i
  show Y Ω κ _ hR 1 6 _ _ (.ref (lay 1 i) :: _)
  refine y_astore_n (pc := 5) (L' := [(3, _), (0, _), (1, _), (2, _)]) C dX4_ofStore_5 (by rw [hn]; decide) rfl ?_
  have hr9 := st_room hk_i.1
  refine y_iload_n (pc := 6) C dX4_ofStore_6 3 rfl ?_
  have hsw : w = 0 ∨ w = 1 ∨ w = 2 ∨ w = 3 ∨ w = 4 ∨ w = 5 ∨ w = 6 ∨ (w < 0 ∨ 6 < w) := by omega
  rcases hsw with rfl | rfl | rfl | rfl | rfl | rfl | rfl | hout
  · refine y_tabIn (pc := 7) (off := 41) (tgt := 48) C dX4_ofStore_7 (by decide) (by decide) (by decide) (by decide) rfl (by decide) ?_
    refine y_aload_n (pc := 48) C dX4_ofStore_48 0 rfl ?_
    refine y_get (pc := 49) C fg_X4_119 dX4_ofStore_49 (fun h hh => ⟨_, hh.sto hm_i, rfl⟩) ?_
    refine y_i2l (pc := 52) C dX4_ofStore_52 (by omega) (by omega) ?_
    exact y_lret (pc := 53) C E dX4_ofStore_53 (by decide) (by decide) (fun h hh => ⟨(by unfold osK; (try simp only [Int.toNat_natCast]); split <;> (try split) <;> (try split) <;> first | rfl | omega), rfl, hh⟩)
  · refine y_tabIn (pc := 7) (off := 47) (tgt := 54) C dX4_ofStore_7 (by decide) (by decide) (by decide) (by decide) rfl (by decide) ?_
    refine y_aload_n (pc := 54) C dX4_ofStore_54 0 rfl ?_
    refine y_callV (pc := 55) (As := []) C E.2.1 cv_X4_187 (ci := 4) rfl rfl (mc_room _ hm_i) (fun h hh => ⟨_, hh.sto hm_i⟩) rfl rfl (Nat.le_of_ble_eq_true rfl) ⟨by decide, by decide, by decide, by decide⟩ dX4_ofStore_55 ⟨rfl, rfl⟩ ?_
    refine y_i2l (pc := 58) C dX4_ofStore_58 (by omega) (by omega) ?_
    exact y_lret (pc := 59) C E dX4_ofStore_59 (by decide) (by decide) (fun h hh => ⟨(by unfold osK; (try simp only [Int.toNat_natCast]); split <;> (try split) <;> (try split) <;> first | rfl | omega), rfl, hh⟩)
  · refine y_tabIn (pc := 7) (off := 53) (tgt := 60) C dX4_ofStore_7 (by decide) (by decide) (by decide) (by decide) rfl (by decide) ?_
    refine y_aload_n (pc := 60) C dX4_ofStore_60 0 rfl ?_
    refine y_get (pc := 61) C fg_X4_122 dX4_ofStore_61 (fun h hh => ⟨_, hh.sto hm_i, rfl⟩) ?_
    refine y_i2l (pc := 64) C dX4_ofStore_64 (by omega) (by omega) ?_
    exact y_lret (pc := 65) C E dX4_ofStore_65 (by decide) (by decide) (fun h hh => ⟨(by unfold osK; (try simp only [Int.toNat_natCast]); split <;> (try split) <;> (try split) <;> first | rfl | omega), rfl, hh⟩)
  · refine y_tabIn (pc := 7) (off := 59) (tgt := 66) C dX4_ofStore_7 (by decide) (by decide) (by decide) (by decide) rfl (by decide) ?_
    refine y_aload_n (pc := 66) C dX4_ofStore_66 0 rfl ?_
    refine y_get (pc := 67) C fg_X4_190 dX4_ofStore_67 (fun h hh => ⟨_, hh.sto hm_i, rfl⟩) ?_
    refine y_i2l (pc := 70) C dX4_ofStore_70 (by omega) (by omega) ?_
    exact y_lret (pc := 71) C E dX4_ofStore_71 (by decide) (by decide) (fun h hh => ⟨(by unfold osK; (try simp only [Int.toNat_natCast]); split <;> (try split) <;> (try split) <;> first | rfl | omega), rfl, hh⟩)
  · refine y_tabIn (pc := 7) (off := 65) (tgt := 72) C dX4_ofStore_7 (by decide) (by decide) (by decide) (by decide) rfl (by decide) ?_
    refine y_aload_n (pc := 72) C dX4_ofStore_72 0 rfl ?_
    refine y_get (pc := 73) C fg_X4_184 dX4_ofStore_73 (fun h hh => ⟨_, hh.sto hm_i, rfl⟩) ?_
    exact y_lret (pc := 76) C E dX4_ofStore_76 (by decide) (by decide) (fun h hh => ⟨(by unfold osK; (try simp only [Int.toNat_natCast]); split <;> (try split) <;> (try split) <;> first | rfl | omega), rfl, hh⟩)
  · refine y_tabIn (pc := 7) (off := 70) (tgt := 77) C dX4_ofStore_7 (by decide) (by decide) (by decide) (by decide) rfl (by decide) ?_
    refine y_aload_n (pc := 77) C dX4_ofStore_77 0 rfl ?_
    refine y_callV (pc := 78) (As := []) C E.2.1 cv_X4_193 (ci := 4) rfl rfl (mc_leastGas _ hm_i hk_i.1) (fun h hh => ⟨_, hh.sto hm_i⟩) rfl rfl (Nat.le_of_ble_eq_true rfl) ⟨by decide, by decide, by decide, by decide⟩ dX4_ofStore_78 ⟨rfl, rfl⟩ ?_
    have hb9 := st_least hk_i.1
    refine y_i2l (pc := 81) C dX4_ofStore_81 (by omega) (by omega) ?_
    exact y_lret (pc := 82) C E dX4_ofStore_82 (by decide) (by decide) (fun h hh => ⟨(by unfold osK; (try simp only [Int.toNat_natCast]); split <;> (try split) <;> (try split) <;> first | rfl | omega), rfl, hh⟩)
  · refine y_tabIn (pc := 7) (off := 76) (tgt := 83) C dX4_ofStore_7 (by decide) (by decide) (by decide) (by decide) rfl (by decide) ?_
    refine y_aload_n (pc := 83) C dX4_ofStore_83 0 rfl ?_
    refine y_callV (pc := 84) (As := []) C E.2.1 cv_X4_196 (ci := 4) rfl rfl (mc_mostGas _ hm_i hk_i.1) (fun h hh => ⟨_, hh.sto hm_i⟩) rfl rfl (Nat.le_of_ble_eq_true rfl) ⟨by decide, by decide, by decide, by decide⟩ dX4_ofStore_84 ⟨rfl, rfl⟩ ?_
    have hb9 := st_most hk_i.1
    refine y_i2l (pc := 87) C dX4_ofStore_87 (by omega) (by omega) ?_
    exact y_lret (pc := 88) C E dX4_ofStore_88 (by decide) (by decide) (fun h hh => ⟨(by unfold osK; (try simp only [Int.toNat_natCast]); split <;> (try split) <;> (try split) <;> first | rfl | omega), rfl, hh⟩)
  · refine y_tabOut (pc := 7) (tgt := 89) C dX4_ofStore_7 (by omega) (by omega) hout (by decide) ?_
    exact y_throw (pc := 89) C E th_IA sw_X4_199 dX4_ofStore_89 dX4_ofStore_92 dX4_ofStore_93 dX4_ofStore_95 dX4_ofStore_98 (by decide) (Nat.le_of_ble_eq_true rfl) (by decide) (by decide) (fun h hh => ⟨2, List.Mem.tail _ (List.Mem.head _), (by unfold osK; (try simp only [Int.toNat_natCast]); split <;> (try split) <;> (try split) <;> first | rfl | omega), hh⟩)

set_option maxRecDepth 20000 in
theorem mg_ofCustomer {Ω : OmT} {hR : AH} {lay : Nat → Nat → Nat} {ξ : XiT} {ms ns nc nl : Nat} {σ : ZT} {τ : JT} (hwf : Wf σ ns nc nl) (hms : ns ≤ ms) (x : Int) (h_x : -2147483648 ≤ x ∧ x < 2147483648) (w : Int) (h_w : -2147483648 ≤ w ∧ w < 2147483648)  : Ct Ω yX4_ofCustomer cX4_ofCustomer 4 (some FieldType.long) (rkc 8 2 12) [.ref (lay 0 0), .int (iv x), .int (iv w)] (InvC Ω lay ms ns nc nl ξ σ τ) hR (FK (ocK σ x w) (.long (ocR σ τ x.toNat w)) (InvC Ω lay ms ns nc nl ξ σ τ)) (XT (ocK σ x w) [(sIB, 1), (sIA, 2)] (InvC Ω lay ms ns nc nl ξ σ τ)) := by
  refine Ct.of (own := RX4) (L := [(0, _), (1, _), (2, _)]) (by decide +kernel) rfl (Nat.le_of_ble_eq_true rfl) rfl ?_
  intro κ C hn E hi
  have hs2 := hwf.2.1
  have hc2 := hwf.2.2.2.1
  have hl2 := hwf.2.2.2.2.1.2.1
  have hnow := hwf.2.2.2.2.2.1.2
  have hst := hwf.2.2.2.2.2.2.1
  have hcu := hwf.2.2.2.2.2.2.2.1
  have o2 := hwf.1
  have o16 := hwf.2.2.1
  have o27 := hwf.2.2.2.2.1.1
  refine y_aload_n (pc := 0) C dX4_ofCustomer_0 0 rfl ?_
  refine y_iload_n (pc := 1) C dX4_ofCustomer_1 1 rfl ?_
  refine y_callVX (pc := 2) (As := [_]) C E.2.1 cv_X4_138 (ci := 5) rfl rfl (mg_customerNumbered x h_x (by omega)) (fun h hh => ⟨_, hh.gas⟩) rfl rfl (Nat.le_of_ble_eq_true rfl) ⟨by decide, by decide, by decide, by decide⟩ dX4_ofCustomer_2 (fun rv => ?_) (fun E0 => y_out C E (by decide) (by decide) (fun h hh => by obtain ⟨rfl, hn9, hh⟩ := hh; exact ⟨1, List.Mem.head _, (by unfold ocK; (try simp only [Int.toNat_natCast]); split <;> (try split) <;> (try split) <;> first | rfl | omega), hh⟩))
  refine Y.and (fun hN_i => Y.and (fun e9 => ?_))
  subst e9
  obtain ⟨i, rfl⟩ : ∃ i9 : Nat, x = i9 := ⟨Int.toNat x, by omega⟩
  have hi_i : i < nc := by omega
  have hk_i := hwf.2.2.2.2.2.2.2.1 i hi_i
  have hu_i := hk_i
  unfold CuOk at hu_i
  show Y Ω κ _ hR 1 6 _ _ (.ref (lay 2 i) :: _)
  refine y_astore_n (pc := 5) (L' := [(3, _), (0, _), (1, _), (2, _)]) C dX4_ofCustomer_5 (by rw [hn]; decide) rfl ?_
  have hr8 := rin_b (has := σ 21 i) hk_i
  have hr9 := rout_b (has := σ 21 i) hk_i
  refine y_iload_n (pc := 6) C dX4_ofCustomer_6 3 rfl ?_
  have hsw : w = 0 ∨ w = 1 ∨ w = 2 ∨ w = 3 ∨ w = 4 ∨ w = 5 ∨ (w < 0 ∨ 5 < w) := by omega
  rcases hsw with rfl | rfl | rfl | rfl | rfl | rfl | hout
  · refine y_tabIn (pc := 7) (off := 37) (tgt := 44) C dX4_ofCustomer_7 (by decide) (by decide) (by decide) (by decide) rfl (by decide) ?_
    refine y_aload_n (pc := 44) C dX4_ofCustomer_44 0 rfl ?_
    refine y_get (pc := 45) C fg_X4_153 dX4_ofCustomer_45 (fun h hh => ⟨_, hh.cus hi_i, rfl⟩) ?_
    refine y_i2l (pc := 48) C dX4_ofCustomer_48 (by omega) (by omega) ?_
    exact y_lret (pc := 49) C E dX4_ofCustomer_49 (by decide) (by decide) (fun h hh => ⟨(by unfold ocK; (try simp only [Int.toNat_natCast]); split <;> (try split) <;> (try split) <;> first | rfl | omega), rfl, hh⟩)
  · refine y_tabIn (pc := 7) (off := 43) (tgt := 50) C dX4_ofCustomer_7 (by decide) (by decide) (by decide) (by decide) rfl (by decide) ?_
    refine y_aload_n (pc := 50) C dX4_ofCustomer_50 0 rfl ?_
    refine y_aload_n (pc := 51) C dX4_ofCustomer_51 0 rfl ?_
    refine y_get (pc := 52) C fg_X4_153 dX4_ofCustomer_52 (fun h hh => ⟨_, hh.cus hi_i, rfl⟩) ?_
    refine y_callV (pc := 55) (As := [_]) C E.2.1 cv_X4_201 (ci := 1) rfl rfl (mc_rateInWith i hi_i hk_i _ ⟨by omega, by omega⟩) (fun h hh => ⟨_, hh.cus hi_i⟩) rfl rfl (Nat.le_of_ble_eq_true rfl) ⟨by decide, by decide, by decide, by decide⟩ dX4_ofCustomer_55 ⟨rfl, rfl⟩ ?_
    refine y_i2l (pc := 58) C dX4_ofCustomer_58 (by omega) (by omega) ?_
    exact y_lret (pc := 59) C E dX4_ofCustomer_59 (by decide) (by decide) (fun h hh => ⟨(by unfold ocK; (try simp only [Int.toNat_natCast]); split <;> (try split) <;> (try split) <;> first | rfl | omega), rfl, hh⟩)
  · refine y_tabIn (pc := 7) (off := 53) (tgt := 60) C dX4_ofCustomer_7 (by decide) (by decide) (by decide) (by decide) rfl (by decide) ?_
    refine y_aload_n (pc := 60) C dX4_ofCustomer_60 0 rfl ?_
    refine y_aload_n (pc := 61) C dX4_ofCustomer_61 0 rfl ?_
    refine y_get (pc := 62) C fg_X4_153 dX4_ofCustomer_62 (fun h hh => ⟨_, hh.cus hi_i, rfl⟩) ?_
    refine y_callV (pc := 65) (As := [_]) C E.2.1 cv_X4_205 (ci := 1) rfl rfl (mc_rateOutWith i hi_i hk_i _ ⟨by omega, by omega⟩) (fun h hh => ⟨_, hh.cus hi_i⟩) rfl rfl (Nat.le_of_ble_eq_true rfl) ⟨by decide, by decide, by decide, by decide⟩ dX4_ofCustomer_65 ⟨rfl, rfl⟩ ?_
    refine y_i2l (pc := 68) C dX4_ofCustomer_68 (by omega) (by omega) ?_
    exact y_lret (pc := 69) C E dX4_ofCustomer_69 (by decide) (by decide) (fun h hh => ⟨(by unfold ocK; (try simp only [Int.toNat_natCast]); split <;> (try split) <;> (try split) <;> first | rfl | omega), rfl, hh⟩)
  · refine y_tabIn (pc := 7) (off := 63) (tgt := 70) C dX4_ofCustomer_7 (by decide) (by decide) (by decide) (by decide) rfl (by decide) ?_
    refine y_aload_n (pc := 70) C dX4_ofCustomer_70 0 rfl ?_
    refine y_get (pc := 71) C fg_X4_208 dX4_ofCustomer_71 (fun h hh => ⟨_, hh.cus hi_i, rfl⟩) ?_
    exact y_lret (pc := 74) C E dX4_ofCustomer_74 (by decide) (by decide) (fun h hh => ⟨(by unfold ocK; (try simp only [Int.toNat_natCast]); split <;> (try split) <;> (try split) <;> first | rfl | omega), rfl, hh⟩)
  · refine y_tabIn (pc := 7) (off := 68) (tgt := 75) C dX4_ofCustomer_7 (by decide) (by decide) (by decide) (by decide) rfl (by decide) ?_
    refine y_aload_n (pc := 75) C dX4_ofCustomer_75 0 rfl ?_
    refine y_get (pc := 76) C fg_X4_211 dX4_ofCustomer_76 (fun h hh => ⟨_, hh.cus hi_i, rfl⟩) ?_
    exact y_lret (pc := 79) C E dX4_ofCustomer_79 (by decide) (by decide) (fun h hh => ⟨(by unfold ocK; (try simp only [Int.toNat_natCast]); split <;> (try split) <;> (try split) <;> first | rfl | omega), rfl, hh⟩)
  · refine y_tabIn (pc := 7) (off := 73) (tgt := 80) C dX4_ofCustomer_7 (by decide) (by decide) (by decide) (by decide) rfl (by decide) ?_
    refine y_aload_n (pc := 80) C dX4_ofCustomer_80 0 rfl ?_
    refine y_get (pc := 81) C fg_X4_214 dX4_ofCustomer_81 (fun h hh => ⟨_, hh.cus hi_i, rfl⟩) ?_
    exact y_lret (pc := 84) C E dX4_ofCustomer_84 (by decide) (by decide) (fun h hh => ⟨(by unfold ocK; (try simp only [Int.toNat_natCast]); split <;> (try split) <;> (try split) <;> first | rfl | omega), rfl, hh⟩)
  · refine y_tabOut (pc := 7) (tgt := 85) C dX4_ofCustomer_7 (by omega) (by omega) hout (by decide) ?_
    exact y_throw (pc := 85) C E th_IA sw_X4_199 dX4_ofCustomer_85 dX4_ofCustomer_88 dX4_ofCustomer_89 dX4_ofCustomer_91 dX4_ofCustomer_94 (by decide) (Nat.le_of_ble_eq_true rfl) (by decide) (by decide) (fun h hh => ⟨2, List.Mem.tail _ (List.Mem.head _), (by unfold ocK; (try simp only [Int.toNat_natCast]); split <;> (try split) <;> (try split) <;> first | rfl | omega), hh⟩)

set_option maxRecDepth 20000 in
theorem mg_flow {Ω : OmT} {hR : AH} {lay : Nat → Nat → Nat} {ξ : XiT} {ms ns nc nl : Nat} {σ : ZT} {τ : JT} (hwf : Wf σ ns nc nl) (hms : ns ≤ ms) (x : Int) (h_x : -2147483648 ≤ x ∧ x < 2147483648) (hf : FlOk ξ σ) : Ct Ω yX4_flow cX4_flow 3 (some FieldType.int) (rkc 8 1 6) [.ref (lay 0 0), .int (iv x)] (InvC Ω lay ms ns nc nl ξ σ τ) hR (FK (scK σ x) (.int (iv (laysZ σ nc nl ns 36 x.toNat - laysZ σ nc nl ns 37 x.toNat))) (InvC Ω lay ms ns nc nl ξ (laysZ σ nc nl ns) (τ))) (XT (scK σ x) [(sIB, 1)] (InvC Ω lay ms ns nc nl ξ σ τ)) := by
  refine Ct.of (own := RX4) (L := [(0, _), (1, _)]) (by decide +kernel) rfl (Nat.le_of_ble_eq_true rfl) rfl ?_
  intro κ C hn E hi
  have hs2 := hwf.2.1
  have hc2 := hwf.2.2.2.1
  have hl2 := hwf.2.2.2.2.1.2.1
  have hnow := hwf.2.2.2.2.2.1.2
  have hst := hwf.2.2.2.2.2.2.1
  have hcu := hwf.2.2.2.2.2.2.2.1
  have o2 := hwf.1
  have o16 := hwf.2.2.1
  have o27 := hwf.2.2.2.2.1.1
  refine y_aload_n (pc := 0) C dX4_flow_0 0 rfl ?_
  refine y_iload_n (pc := 1) C dX4_flow_1 1 rfl ?_
  refine y_callVX (pc := 2) (As := [_]) C E.2.1 cv_X4_138 (ci := 5) rfl rfl (mg_customerNumbered x h_x (by omega)) (fun h hh => ⟨_, hh.gas⟩) rfl rfl (Nat.le_of_ble_eq_true rfl) ⟨by decide, by decide, by decide, by decide⟩ dX4_flow_2 (fun rv => ?_) (fun E0 => y_out C E (by decide) (by decide) (fun h hh => by obtain ⟨rfl, hn9, hh⟩ := hh; exact ⟨1, List.Mem.head _, (by unfold scK; (try simp only [Int.toNat_natCast]); split <;> (try split) <;> (try split) <;> first | rfl | omega), hh⟩))
  refine Y.and (fun hN_i => Y.and (fun e9 => ?_))
  subst e9
  obtain ⟨i, rfl⟩ : ∃ i9 : Nat, x = i9 := ⟨Int.toNat x, by omega⟩
  have hi_i : i < nc := by omega
  have hk_i := hwf.2.2.2.2.2.2.2.1 i hi_i
  have hu_i := hk_i
  unfold CuOk at hu_i
  show Y Ω κ _ hR 1 6 _ _ (.ref (lay 2 i) :: _)
  refine y_astore_n (pc := 5) (L' := [(2, _), (0, _), (1, _)]) C dX4_flow_5 (by rw [hn]; decide) rfl ?_
  refine y_aload_n (pc := 6) C dX4_flow_6 1 rfl ?_
  refine y_callVv (pc := 7) (As := []) C E.2.1 cv_X4_217 (ci := 5) rfl rfl (mg_planTheHour hwf hms hf) (fun h hh => ⟨_, hh.gas⟩) rfl rfl (Nat.le_of_ble_eq_true rfl) ⟨by decide, by decide, by decide, by decide⟩ dX4_flow_7 ⟨rfl, rfl⟩ ?_
  refine y_aload_n (pc := 10) C dX4_flow_10 0 rfl ?_
  refine y_get (pc := 11) C fg_X4_220 dX4_flow_11 (fun h hh => ⟨_, hh.cus hi_i, rfl⟩) ?_
  exact y_iret (pc := 14) C E dX4_flow_14 (by decide) (by decide) (fun h hh => ⟨(by unfold scK; (try simp only [Int.toNat_natCast]); split <;> (try split) <;> (try split) <;> first | rfl | omega), rfl, hh⟩)

set_option maxRecDepth 20000 in
theorem mg_why {Ω : OmT} {hR : AH} {lay : Nat → Nat → Nat} {ξ : XiT} {ms ns nc nl : Nat} {σ : ZT} {τ : JT} (hwf : Wf σ ns nc nl) (hms : ns ≤ ms) (x : Int) (h_x : -2147483648 ≤ x ∧ x < 2147483648) (hf : FlOk ξ σ) : Ct Ω yX4_why cX4_why 3 (some FieldType.int) (rkc 8 1 6) [.ref (lay 0 0), .int (iv x)] (InvC Ω lay ms ns nc nl ξ σ τ) hR (FK (scK σ x) (.int (iv (laysZ σ nc nl ns 39 x.toNat))) (InvC Ω lay ms ns nc nl ξ (laysZ σ nc nl ns) (τ))) (XT (scK σ x) [(sIB, 1)] (InvC Ω lay ms ns nc nl ξ σ τ)) := by
  refine Ct.of (own := RX4) (L := [(0, _), (1, _)]) (by decide +kernel) rfl (Nat.le_of_ble_eq_true rfl) rfl ?_
  intro κ C hn E hi
  have hs2 := hwf.2.1
  have hc2 := hwf.2.2.2.1
  have hl2 := hwf.2.2.2.2.1.2.1
  have hnow := hwf.2.2.2.2.2.1.2
  have hst := hwf.2.2.2.2.2.2.1
  have hcu := hwf.2.2.2.2.2.2.2.1
  have o2 := hwf.1
  have o16 := hwf.2.2.1
  have o27 := hwf.2.2.2.2.1.1
  refine y_aload_n (pc := 0) C dX4_why_0 0 rfl ?_
  refine y_iload_n (pc := 1) C dX4_why_1 1 rfl ?_
  refine y_callVX (pc := 2) (As := [_]) C E.2.1 cv_X4_138 (ci := 5) rfl rfl (mg_customerNumbered x h_x (by omega)) (fun h hh => ⟨_, hh.gas⟩) rfl rfl (Nat.le_of_ble_eq_true rfl) ⟨by decide, by decide, by decide, by decide⟩ dX4_why_2 (fun rv => ?_) (fun E0 => y_out C E (by decide) (by decide) (fun h hh => by obtain ⟨rfl, hn9, hh⟩ := hh; exact ⟨1, List.Mem.head _, (by unfold scK; (try simp only [Int.toNat_natCast]); split <;> (try split) <;> (try split) <;> first | rfl | omega), hh⟩))
  refine Y.and (fun hN_i => Y.and (fun e9 => ?_))
  subst e9
  obtain ⟨i, rfl⟩ : ∃ i9 : Nat, x = i9 := ⟨Int.toNat x, by omega⟩
  have hi_i : i < nc := by omega
  have hk_i := hwf.2.2.2.2.2.2.2.1 i hi_i
  have hu_i := hk_i
  unfold CuOk at hu_i
  show Y Ω κ _ hR 1 6 _ _ (.ref (lay 2 i) :: _)
  refine y_astore_n (pc := 5) (L' := [(2, _), (0, _), (1, _)]) C dX4_why_5 (by rw [hn]; decide) rfl ?_
  refine y_aload_n (pc := 6) C dX4_why_6 1 rfl ?_
  refine y_callVv (pc := 7) (As := []) C E.2.1 cv_X4_217 (ci := 5) rfl rfl (mg_planTheHour hwf hms hf) (fun h hh => ⟨_, hh.gas⟩) rfl rfl (Nat.le_of_ble_eq_true rfl) ⟨by decide, by decide, by decide, by decide⟩ dX4_why_7 ⟨rfl, rfl⟩ ?_
  refine y_aload_n (pc := 10) C dX4_why_10 0 rfl ?_
  refine y_get (pc := 11) C fg_X4_223 dX4_why_11 (fun h hh => ⟨_, hh.cus hi_i, rfl⟩) ?_
  exact y_iret (pc := 14) C E dX4_why_14 (by decide) (by decide) (fun h hh => ⟨(by unfold scK; (try simp only [Int.toNat_natCast]); split <;> (try split) <;> (try split) <;> first | rfl | omega), rfl, hh⟩)

set_option maxRecDepth 20000 in
theorem mg_of {Ω : OmT} {hR : AH} {lay : Nat → Nat → Nat} {ξ : XiT} {ms ns nc nl : Nat} {σ : ZT} {τ : JT} (hwf : Wf σ ns nc nl) (hms : ns ≤ ms) (w : Int) (h_w : -2147483648 ≤ w ∧ w < 2147483648)  : Ct Ω yX4_of cX4_of 2 (some FieldType.long) (rkc 8 1 6) [.ref (lay 0 0), .int (iv w)] (InvC Ω lay ms ns nc nl ξ σ τ) hR (FK (ofK w) (.long (ofR σ τ ns nc nl w)) (InvC Ω lay ms ns nc nl ξ σ τ)) (XT (ofK w) [(sIA, 1)] (InvC Ω lay ms ns nc nl ξ σ τ)) := by
  refine Ct.of (own := RX4) (L := [(0, _), (1, _)]) (by decide +kernel) rfl (Nat.le_of_ble_eq_true rfl) rfl ?_
  intro κ C hn E hi
  have hs2 := hwf.2.1
  have hc2 := hwf.2.2.2.1
  have hl2 := hwf.2.2.2.2.1.2.1
  have hnow := hwf.2.2.2.2.2.1.2
  have hst := hwf.2.2.2.2.2.2.1
  have hcu := hwf.2.2.2.2.2.2.2.1
  have o2 := hwf.1
  have o16 := hwf.2.2.1
  have o27 := hwf.2.2.2.2.1.1
  have his := inv_sum (σ := σ) (n := nc) hcu hc2
  have hgs := sumZ_b (f := σ 6) (A := 1000000) (n := ns) (fun i hi => by have q := (hst i hi).1; unfold StO0 at q; omega)
  have hkb := keptB_b hwf.2.2.2.2.1
  refine y_iload_n (pc := 0) C dX4_of_0 1 rfl ?_
  have hsw : w = 0 ∨ w = 1 ∨ w = 2 ∨ w = 3 ∨ w = 4 ∨ w = 5 ∨ w = 6 ∨ w = 7 ∨ (w < 0 ∨ 7 < w) := by omega
  rcases hsw with rfl | rfl | rfl | rfl | rfl | rfl | rfl | rfl | hout
  · refine y_tabIn (pc := 1) (off := 47) (tgt := 48) C dX4_of_1 (by decide) (by decide) (by decide) (by decide) rfl (by decide) ?_
    refine y_aload_n (pc := 48) C dX4_of_48 0 rfl ?_
    refine y_get (pc := 49) C fg_X4_29 dX4_of_49 (fun h hh => ⟨_, hh.gas, rfl⟩) ?_
    refine y_i2l (pc := 52) C dX4_of_52 (by omega) (by omega) ?_
    exact y_lret (pc := 53) C E dX4_of_53 (by decide) (by decide) (fun h hh => ⟨(by unfold ofK; (try simp only [Int.toNat_natCast]); split <;> (try split) <;> (try split) <;> first | rfl | omega), rfl, hh⟩)
  · refine y_tabIn (pc := 1) (off := 53) (tgt := 54) C dX4_of_1 (by decide) (by decide) (by decide) (by decide) rfl (by decide) ?_
    refine y_aload_n (pc := 54) C dX4_of_54 0 rfl ?_
    refine y_get (pc := 55) C fg_X4_42 dX4_of_55 (fun h hh => ⟨_, hh.gas, rfl⟩) ?_
    exact y_lret (pc := 58) C E dX4_of_58 (by decide) (by decide) (fun h hh => ⟨(by unfold ofK; (try simp only [Int.toNat_natCast]); split <;> (try split) <;> (try split) <;> first | rfl | omega), rfl, hh⟩)
  · refine y_tabIn (pc := 1) (off := 58) (tgt := 59) C dX4_of_1 (by decide) (by decide) (by decide) (by decide) rfl (by decide) ?_
    refine y_aload_n (pc := 59) C dX4_of_59 0 rfl ?_
    refine y_get (pc := 60) C fg_X4_46 dX4_of_60 (fun h hh => ⟨_, hh.gas, rfl⟩) ?_
    exact y_lret (pc := 63) C E dX4_of_63 (by decide) (by decide) (fun h hh => ⟨(by unfold ofK; (try simp only [Int.toNat_natCast]); split <;> (try split) <;> (try split) <;> first | rfl | omega), rfl, hh⟩)
  · refine y_tabIn (pc := 1) (off := 63) (tgt := 64) C dX4_of_1 (by decide) (by decide) (by decide) (by decide) rfl (by decide) ?_
    refine y_aload_n (pc := 64) C dX4_of_64 0 rfl ?_
    refine y_get (pc := 65) C fg_X4_49 dX4_of_65 (fun h hh => ⟨_, hh.gas, rfl⟩) ?_
    exact y_lret (pc := 68) C E dX4_of_68 (by decide) (by decide) (fun h hh => ⟨(by unfold ofK; (try simp only [Int.toNat_natCast]); split <;> (try split) <;> (try split) <;> first | rfl | omega), rfl, hh⟩)
  · refine y_tabIn (pc := 1) (off := 68) (tgt := 69) C dX4_of_1 (by decide) (by decide) (by decide) (by decide) rfl (by decide) ?_
    refine y_aload_n (pc := 69) C dX4_of_69 0 rfl ?_
    refine y_callV (pc := 70) (As := []) C E.2.1 cv_X4_240 (ci := 5) rfl rfl (mg_gasInAllStores hwf hms) (fun h hh => ⟨_, hh.gas⟩) rfl rfl (Nat.le_of_ble_eq_true rfl) ⟨by decide, by decide, by decide, by decide⟩ dX4_of_70 ⟨rfl, rfl⟩ ?_
    refine y_i2l (pc := 73) C dX4_of_73 (by omega) (by omega) ?_
    exact y_lret (pc := 74) C E dX4_of_74 (by decide) (by decide) (fun h hh => ⟨(by unfold ofK; (try simp only [Int.toNat_natCast]); split <;> (try split) <;> (try split) <;> first | rfl | omega), rfl, hh⟩)
  · refine y_tabIn (pc := 1) (off := 74) (tgt := 75) C dX4_of_1 (by decide) (by decide) (by decide) (by decide) rfl (by decide) ?_
    refine y_aload_n (pc := 75) C dX4_of_75 0 rfl ?_
    refine y_callV (pc := 76) (As := []) C E.2.1 cv_X4_243 (ci := 5) rfl rfl (mg_allInventories hwf hms) (fun h hh => ⟨_, hh.gas⟩) rfl rfl (Nat.le_of_ble_eq_true rfl) ⟨by decide, by decide, by decide, by decide⟩ dX4_of_76 ⟨rfl, rfl⟩ ?_
    refine y_i2l (pc := 79) C dX4_of_79 (by omega) (by omega) ?_
    exact y_lret (pc := 80) C E dX4_of_80 (by decide) (by decide) (fun h hh => ⟨(by unfold ofK; (try simp only [Int.toNat_natCast]); split <;> (try split) <;> (try split) <;> first | rfl | omega), rfl, hh⟩)
  · refine y_tabIn (pc := 1) (off := 80) (tgt := 81) C dX4_of_1 (by decide) (by decide) (by decide) (by decide) rfl (by decide) ?_
    refine y_aload_n (pc := 81) C dX4_of_81 0 rfl ?_
    refine y_callV (pc := 82) (As := []) C E.2.1 cv_X4_240 (ci := 5) rfl rfl (mg_gasInAllStores hwf hms) (fun h hh => ⟨_, hh.gas⟩) rfl rfl (Nat.le_of_ble_eq_true rfl) ⟨by decide, by decide, by decide, by decide⟩ dX4_of_82 ⟨rfl, rfl⟩ ?_
    refine y_aload_n (pc := 85) C dX4_of_85 0 rfl ?_
    refine y_callV (pc := 86) (As := []) C E.2.1 cv_X4_243 (ci := 5) rfl rfl (mg_allInventories hwf hms) (fun h hh => ⟨_, hh.gas⟩) rfl rfl (Nat.le_of_ble_eq_true rfl) ⟨by decide, by decide, by decide, by decide⟩ dX4_of_86 ⟨rfl, rfl⟩ ?_
    refine y_isub (pc := 89) C dX4_of_89 ?_
    refine y_i2l (pc := 90) C dX4_of_90 (by omega) (by omega) ?_
    exact y_lret (pc := 91) C E dX4_of_91 (by decide) (by decide) (fun h hh => ⟨(by unfold ofK; (try simp only [Int.toNat_natCast]); split <;> (try split) <;> (try split) <;> first | rfl | omega), rfl, hh⟩)
  · refine y_tabIn (pc := 1) (off := 91) (tgt := 92) C dX4_of_1 (by decide) (by decide) (by decide) (by decide) rfl (by decide) ?_
    refine y_iconst (pc := 92) C dX4_of_92 ?_
    refine y_aload_n (pc := 93) C dX4_of_93 0 rfl ?_
    refine y_callV (pc := 94) (As := []) C E.2.1 cv_X4_246 (ci := 5) rfl rfl (mg_leastByLaw hwf hms) (fun h hh => ⟨_, hh.gas⟩) rfl rfl (Nat.le_of_ble_eq_true rfl) ⟨by decide, by decide, by decide, by decide⟩ dX4_of_94 ⟨rfl, rfl⟩ ?_
    refine y_max (pc := 97) C E.2.1 cs_X4_249.1 cs_X4_249.2.1 cs_X4_249.2.2.1 cs_X4_249.2.2.2.1 (by decide) (Nat.le_of_ble_eq_true rfl) (by decide) (by decide) (by omega) (by omega) (by omega) (by omega) dX4_of_97 ?_
    refine y_i2l (pc := 100) C dX4_of_100 (by omega) (by omega) ?_
    exact y_lret (pc := 101) C E dX4_of_101 (by decide) (by decide) (fun h hh => ⟨(by unfold ofK; (try simp only [Int.toNat_natCast]); split <;> (try split) <;> (try split) <;> first | rfl | omega), by rw [show ofR σ τ ns nc nl 7 = jv (keptZ σ nl) from rfl, show max 0 (keptB σ nl) = keptZ σ nl from by have q := hkb.2.2; unfold keptB keptZ at *; split at q <;> simp_all <;> omega], hh⟩)
  · refine y_tabOut (pc := 1) (tgt := 102) C dX4_of_1 (by omega) (by omega) hout (by decide) ?_
    exact y_throw (pc := 102) C E th_IA sw_X4_199 dX4_of_102 dX4_of_105 dX4_of_106 dX4_of_108 dX4_of_111 (by decide) (Nat.le_of_ble_eq_true rfl) (by decide) (by decide) (fun h hh => ⟨1, List.Mem.head _, (by unfold ofK; (try simp only [Int.toNat_natCast]); split <;> (try split) <;> (try split) <;> first | rfl | omega), hh⟩)

set_option maxRecDepth 20000 in
theorem mg_worth {Ω : OmT} {hR : AH} {lay : Nat → Nat → Nat} {ξ : XiT} {ms ns nc nl : Nat} {σ : ZT} {τ : JT} (hwf : Wf σ ns nc nl) (hms : ns ≤ ms) (x : Int) (h_x : -2147483648 ≤ x ∧ x < 2147483648) (t : Int) (h_t : -2147483648 ≤ t ∧ t < 2147483648) (hpr : PrOk σ) (hxi : ∀ j, ξ.1 j = σ 26 j) : Ct Ω yX4_worth cX4_worth 4 (some FieldType.long) (rkc 15 2 12) [.ref (lay 0 0), .int (iv x), .int (iv t)] (InvC Ω lay ms ns nc nl ξ σ τ) hR (FK (woK σ x t) (.long (jv (bestN σ x.toNat t.toNat (3 ^ t.toNat)))) (InvC Ω lay ms ns nc nl ξ σ τ)) (XT (woK σ x t) [(sIB, 1), (sIA, 2)] (InvC Ω lay ms ns nc nl ξ σ τ)) := by
  refine Ct.of (own := RX4) (L := [(0, _), (1, _), (2, _)]) (by decide +kernel) rfl (Nat.le_of_ble_eq_true rfl) rfl ?_
  intro κ C hn E hi
  have hs2 := hwf.2.1
  have hc2 := hwf.2.2.2.1
  have hl2 := hwf.2.2.2.2.1.2.1
  have hnow := hwf.2.2.2.2.2.1.2
  have hst := hwf.2.2.2.2.2.2.1
  have hcu := hwf.2.2.2.2.2.2.2.1
  have o2 := hwf.1
  have o16 := hwf.2.2.1
  have o27 := hwf.2.2.2.2.1.1
  refine y_aload_n (pc := 0) C dX4_worth_0 0 rfl ?_
  refine y_iload_n (pc := 1) C dX4_worth_1 1 rfl ?_
  refine y_callVX (pc := 2) (As := [_]) C E.2.1 cv_X4_138 (ci := 5) rfl rfl (mg_customerNumbered x h_x (by omega)) (fun h hh => ⟨_, hh.gas⟩) rfl rfl (Nat.le_of_ble_eq_true rfl) ⟨by decide, by decide, by decide, by decide⟩ dX4_worth_2 (fun rv => ?_) (fun E0 => y_out C E (by decide) (by decide) (fun h hh => by obtain ⟨rfl, hn9, hh⟩ := hh; exact ⟨1, List.Mem.head _, (by unfold woK; (try simp only [Int.toNat_natCast]); split <;> (try split) <;> (try split) <;> first | rfl | omega), hh⟩))
  refine Y.and (fun hN_i => Y.and (fun e9 => ?_))
  subst e9
  obtain ⟨i, rfl⟩ : ∃ i9 : Nat, x = i9 := ⟨Int.toNat x, by omega⟩
  have hi_i : i < nc := by omega
  have hk_i := hwf.2.2.2.2.2.2.2.1 i hi_i
  have hu_i := hk_i
  unfold CuOk at hu_i
  show Y Ω κ _ hR 1 6 _ _ (.ref (lay 2 i) :: _)
  refine y_astore_n (pc := 5) (L' := [(3, _), (0, _), (1, _), (2, _)]) C dX4_worth_5 (by rw [hn]; decide) rfl ?_
  refine y_iload_n (pc := 6) C dX4_worth_6 3 rfl ?_
  refine y_iconst (pc := 7) C dX4_worth_7 ?_
  refine y_bipush (pc := 8) (z := 8) C dX4_worth_8 (by decide) ?_
  refine y_callS (pc := 10) (As := [_, _, _]) C E.2.1 cs_X4_52 (mg_isWithin _ _ _ ⟨by omega, by omega⟩ ⟨by omega, by omega⟩ ⟨by omega, by omega⟩) rfl rfl (Nat.le_of_ble_eq_true rfl) ⟨by decide, by decide, by decide, by decide⟩ dX4_worth_10 ⟨rfl, rfl⟩ ?_
  refine y_ifb_ne (pc := 13) (tgt := 26) C dX4_worth_13 (by decide) (fun c13 => ?_) (fun c13 => ?_)
  · skip
    have c13a := of_decide_eq_true c13
    have ht9 : t = 1 ∨ t = 2 ∨ t = 3 ∨ t = 4 ∨ t = 5 ∨ t = 6 ∨ t = 7 ∨ t = 8 := by omega
    rcases ht9 with rfl | rfl | rfl | rfl | rfl | rfl | rfl | rfl
    · refine y_aload_n (pc := 26) C dX4_worth_26 0 rfl ?_
      refine y_aload_n (pc := 27) C dX4_worth_27 1 rfl ?_
      refine y_get (pc := 28) C fg_X4_25 dX4_worth_28 (fun h hh => ⟨_, hh.gas, rfl⟩) ?_
      refine y_aload_n (pc := 31) C dX4_worth_31 0 rfl ?_
      refine y_get (pc := 32) C fg_X4_153 dX4_worth_32 (fun h hh => ⟨_, hh.cus hi_i, rfl⟩) ?_
      refine y_aload_n (pc := 35) C dX4_worth_35 1 rfl ?_
      refine y_get (pc := 36) C fg_X4_29 dX4_worth_36 (fun h hh => ⟨_, hh.gas, rfl⟩) ?_
      refine y_iload_n (pc := 39) C dX4_worth_39 3 rfl ?_
      rw [show σ 1 0 = ((nowN σ + 0 : Nat) : Int) by unfold nowN; omega]
      refine y_callS (pc := 40) (As := [_, _, _, _, _]) C E.2.1 cs_X4_226 (mg_best1 i hi_i (σ 21 i) 0 ⟨by omega, by omega⟩ hk_i hpr hxi (by unfold nowN; omega)) rfl rfl (Nat.le_of_ble_eq_true rfl) ⟨by decide, by decide, by decide, by decide⟩ dX4_worth_40 ⟨rfl, rfl⟩ ?_
      exact y_lret (pc := 43) C E dX4_worth_43 (by decide) (by decide) (fun h hh => ⟨(by unfold woK; (try simp only [Int.toNat_natCast]); split <;> (try split) <;> (try split) <;> first | rfl | omega), by rw [best_eq hk_i]; rfl, hh⟩)
    · refine y_aload_n (pc := 26) C dX4_worth_26 0 rfl ?_
      refine y_aload_n (pc := 27) C dX4_worth_27 1 rfl ?_
      refine y_get (pc := 28) C fg_X4_25 dX4_worth_28 (fun h hh => ⟨_, hh.gas, rfl⟩) ?_
      refine y_aload_n (pc := 31) C dX4_worth_31 0 rfl ?_
      refine y_get (pc := 32) C fg_X4_153 dX4_worth_32 (fun h hh => ⟨_, hh.cus hi_i, rfl⟩) ?_
      refine y_aload_n (pc := 35) C dX4_worth_35 1 rfl ?_
      refine y_get (pc := 36) C fg_X4_29 dX4_worth_36 (fun h hh => ⟨_, hh.gas, rfl⟩) ?_
      refine y_iload_n (pc := 39) C dX4_worth_39 3 rfl ?_
      rw [show σ 1 0 = ((nowN σ + 0 : Nat) : Int) by unfold nowN; omega]
      refine y_callS (pc := 40) (As := [_, _, _, _, _]) C E.2.1 cs_X4_226 (mg_best2 i hi_i (σ 21 i) 0 ⟨by omega, by omega⟩ hk_i hpr hxi (by unfold nowN; omega)) rfl rfl (Nat.le_of_ble_eq_true rfl) ⟨by decide, by decide, by decide, by decide⟩ dX4_worth_40 ⟨rfl, rfl⟩ ?_
      exact y_lret (pc := 43) C E dX4_worth_43 (by decide) (by decide) (fun h hh => ⟨(by unfold woK; (try simp only [Int.toNat_natCast]); split <;> (try split) <;> (try split) <;> first | rfl | omega), by rw [best_eq hk_i]; rfl, hh⟩)
    · refine y_aload_n (pc := 26) C dX4_worth_26 0 rfl ?_
      refine y_aload_n (pc := 27) C dX4_worth_27 1 rfl ?_
      refine y_get (pc := 28) C fg_X4_25 dX4_worth_28 (fun h hh => ⟨_, hh.gas, rfl⟩) ?_
      refine y_aload_n (pc := 31) C dX4_worth_31 0 rfl ?_
      refine y_get (pc := 32) C fg_X4_153 dX4_worth_32 (fun h hh => ⟨_, hh.cus hi_i, rfl⟩) ?_
      refine y_aload_n (pc := 35) C dX4_worth_35 1 rfl ?_
      refine y_get (pc := 36) C fg_X4_29 dX4_worth_36 (fun h hh => ⟨_, hh.gas, rfl⟩) ?_
      refine y_iload_n (pc := 39) C dX4_worth_39 3 rfl ?_
      rw [show σ 1 0 = ((nowN σ + 0 : Nat) : Int) by unfold nowN; omega]
      refine y_callS (pc := 40) (As := [_, _, _, _, _]) C E.2.1 cs_X4_226 (mg_best3 i hi_i (σ 21 i) 0 ⟨by omega, by omega⟩ hk_i hpr hxi (by unfold nowN; omega)) rfl rfl (Nat.le_of_ble_eq_true rfl) ⟨by decide, by decide, by decide, by decide⟩ dX4_worth_40 ⟨rfl, rfl⟩ ?_
      exact y_lret (pc := 43) C E dX4_worth_43 (by decide) (by decide) (fun h hh => ⟨(by unfold woK; (try simp only [Int.toNat_natCast]); split <;> (try split) <;> (try split) <;> first | rfl | omega), by rw [best_eq hk_i]; rfl, hh⟩)
    · refine y_aload_n (pc := 26) C dX4_worth_26 0 rfl ?_
      refine y_aload_n (pc := 27) C dX4_worth_27 1 rfl ?_
      refine y_get (pc := 28) C fg_X4_25 dX4_worth_28 (fun h hh => ⟨_, hh.gas, rfl⟩) ?_
      refine y_aload_n (pc := 31) C dX4_worth_31 0 rfl ?_
      refine y_get (pc := 32) C fg_X4_153 dX4_worth_32 (fun h hh => ⟨_, hh.cus hi_i, rfl⟩) ?_
      refine y_aload_n (pc := 35) C dX4_worth_35 1 rfl ?_
      refine y_get (pc := 36) C fg_X4_29 dX4_worth_36 (fun h hh => ⟨_, hh.gas, rfl⟩) ?_
      refine y_iload_n (pc := 39) C dX4_worth_39 3 rfl ?_
      rw [show σ 1 0 = ((nowN σ + 0 : Nat) : Int) by unfold nowN; omega]
      refine y_callS (pc := 40) (As := [_, _, _, _, _]) C E.2.1 cs_X4_226 (mg_best4 i hi_i (σ 21 i) 0 ⟨by omega, by omega⟩ hk_i hpr hxi (by unfold nowN; omega)) rfl rfl (Nat.le_of_ble_eq_true rfl) ⟨by decide, by decide, by decide, by decide⟩ dX4_worth_40 ⟨rfl, rfl⟩ ?_
      exact y_lret (pc := 43) C E dX4_worth_43 (by decide) (by decide) (fun h hh => ⟨(by unfold woK; (try simp only [Int.toNat_natCast]); split <;> (try split) <;> (try split) <;> first | rfl | omega), by rw [best_eq hk_i]; rfl, hh⟩)
    · refine y_aload_n (pc := 26) C dX4_worth_26 0 rfl ?_
      refine y_aload_n (pc := 27) C dX4_worth_27 1 rfl ?_
      refine y_get (pc := 28) C fg_X4_25 dX4_worth_28 (fun h hh => ⟨_, hh.gas, rfl⟩) ?_
      refine y_aload_n (pc := 31) C dX4_worth_31 0 rfl ?_
      refine y_get (pc := 32) C fg_X4_153 dX4_worth_32 (fun h hh => ⟨_, hh.cus hi_i, rfl⟩) ?_
      refine y_aload_n (pc := 35) C dX4_worth_35 1 rfl ?_
      refine y_get (pc := 36) C fg_X4_29 dX4_worth_36 (fun h hh => ⟨_, hh.gas, rfl⟩) ?_
      refine y_iload_n (pc := 39) C dX4_worth_39 3 rfl ?_
      rw [show σ 1 0 = ((nowN σ + 0 : Nat) : Int) by unfold nowN; omega]
      refine y_callS (pc := 40) (As := [_, _, _, _, _]) C E.2.1 cs_X4_226 (mg_best5 i hi_i (σ 21 i) 0 ⟨by omega, by omega⟩ hk_i hpr hxi (by unfold nowN; omega)) rfl rfl (Nat.le_of_ble_eq_true rfl) ⟨by decide, by decide, by decide, by decide⟩ dX4_worth_40 ⟨rfl, rfl⟩ ?_
      exact y_lret (pc := 43) C E dX4_worth_43 (by decide) (by decide) (fun h hh => ⟨(by unfold woK; (try simp only [Int.toNat_natCast]); split <;> (try split) <;> (try split) <;> first | rfl | omega), by rw [best_eq hk_i]; rfl, hh⟩)
    · refine y_aload_n (pc := 26) C dX4_worth_26 0 rfl ?_
      refine y_aload_n (pc := 27) C dX4_worth_27 1 rfl ?_
      refine y_get (pc := 28) C fg_X4_25 dX4_worth_28 (fun h hh => ⟨_, hh.gas, rfl⟩) ?_
      refine y_aload_n (pc := 31) C dX4_worth_31 0 rfl ?_
      refine y_get (pc := 32) C fg_X4_153 dX4_worth_32 (fun h hh => ⟨_, hh.cus hi_i, rfl⟩) ?_
      refine y_aload_n (pc := 35) C dX4_worth_35 1 rfl ?_
      refine y_get (pc := 36) C fg_X4_29 dX4_worth_36 (fun h hh => ⟨_, hh.gas, rfl⟩) ?_
      refine y_iload_n (pc := 39) C dX4_worth_39 3 rfl ?_
      rw [show σ 1 0 = ((nowN σ + 0 : Nat) : Int) by unfold nowN; omega]
      refine y_callS (pc := 40) (As := [_, _, _, _, _]) C E.2.1 cs_X4_226 (mg_best6 i hi_i (σ 21 i) 0 ⟨by omega, by omega⟩ hk_i hpr hxi (by unfold nowN; omega)) rfl rfl (Nat.le_of_ble_eq_true rfl) ⟨by decide, by decide, by decide, by decide⟩ dX4_worth_40 ⟨rfl, rfl⟩ ?_
      exact y_lret (pc := 43) C E dX4_worth_43 (by decide) (by decide) (fun h hh => ⟨(by unfold woK; (try simp only [Int.toNat_natCast]); split <;> (try split) <;> (try split) <;> first | rfl | omega), by rw [best_eq hk_i]; rfl, hh⟩)
    · refine y_aload_n (pc := 26) C dX4_worth_26 0 rfl ?_
      refine y_aload_n (pc := 27) C dX4_worth_27 1 rfl ?_
      refine y_get (pc := 28) C fg_X4_25 dX4_worth_28 (fun h hh => ⟨_, hh.gas, rfl⟩) ?_
      refine y_aload_n (pc := 31) C dX4_worth_31 0 rfl ?_
      refine y_get (pc := 32) C fg_X4_153 dX4_worth_32 (fun h hh => ⟨_, hh.cus hi_i, rfl⟩) ?_
      refine y_aload_n (pc := 35) C dX4_worth_35 1 rfl ?_
      refine y_get (pc := 36) C fg_X4_29 dX4_worth_36 (fun h hh => ⟨_, hh.gas, rfl⟩) ?_
      refine y_iload_n (pc := 39) C dX4_worth_39 3 rfl ?_
      rw [show σ 1 0 = ((nowN σ + 0 : Nat) : Int) by unfold nowN; omega]
      refine y_callS (pc := 40) (As := [_, _, _, _, _]) C E.2.1 cs_X4_226 (mg_best7 i hi_i (σ 21 i) 0 ⟨by omega, by omega⟩ hk_i hpr hxi (by unfold nowN; omega)) rfl rfl (Nat.le_of_ble_eq_true rfl) ⟨by decide, by decide, by decide, by decide⟩ dX4_worth_40 ⟨rfl, rfl⟩ ?_
      exact y_lret (pc := 43) C E dX4_worth_43 (by decide) (by decide) (fun h hh => ⟨(by unfold woK; (try simp only [Int.toNat_natCast]); split <;> (try split) <;> (try split) <;> first | rfl | omega), by rw [best_eq hk_i]; rfl, hh⟩)
    · refine y_aload_n (pc := 26) C dX4_worth_26 0 rfl ?_
      refine y_aload_n (pc := 27) C dX4_worth_27 1 rfl ?_
      refine y_get (pc := 28) C fg_X4_25 dX4_worth_28 (fun h hh => ⟨_, hh.gas, rfl⟩) ?_
      refine y_aload_n (pc := 31) C dX4_worth_31 0 rfl ?_
      refine y_get (pc := 32) C fg_X4_153 dX4_worth_32 (fun h hh => ⟨_, hh.cus hi_i, rfl⟩) ?_
      refine y_aload_n (pc := 35) C dX4_worth_35 1 rfl ?_
      refine y_get (pc := 36) C fg_X4_29 dX4_worth_36 (fun h hh => ⟨_, hh.gas, rfl⟩) ?_
      refine y_iload_n (pc := 39) C dX4_worth_39 3 rfl ?_
      rw [show σ 1 0 = ((nowN σ + 0 : Nat) : Int) by unfold nowN; omega]
      refine y_callS (pc := 40) (As := [_, _, _, _, _]) C E.2.1 cs_X4_226 (mg_best8 i hi_i (σ 21 i) 0 ⟨by omega, by omega⟩ hk_i hpr hxi (by unfold nowN; omega)) rfl rfl (Nat.le_of_ble_eq_true rfl) ⟨by decide, by decide, by decide, by decide⟩ dX4_worth_40 ⟨rfl, rfl⟩ ?_
      exact y_lret (pc := 43) C E dX4_worth_43 (by decide) (by decide) (fun h hh => ⟨(by unfold woK; (try simp only [Int.toNat_natCast]); split <;> (try split) <;> (try split) <;> first | rfl | omega), by rw [best_eq hk_i]; rfl, hh⟩)
  · skip
    exact y_throw (pc := 16) C E th_IA sw_X4_171 dX4_worth_16 dX4_worth_19 dX4_worth_20 dX4_worth_22 dX4_worth_25 (by decide) (Nat.le_of_ble_eq_true rfl) (by decide) (by decide) (fun h hh => ⟨2, List.Mem.tail _ (List.Mem.head _), (by (try simp only [decide_eq_true_eq, decide_eq_false_iff_not] at c13); unfold woK; (try simp only [Int.toNat_natCast]); split <;> (try split) <;> (try split) <;> first | rfl | omega), hh⟩)

set_option maxRecDepth 20000 in
theorem mg_worthAnew {Ω : OmT} {hR : AH} {lay : Nat → Nat → Nat} {ξ : XiT} {ms ns nc nl : Nat} {σ : ZT} {τ : JT} (hwf : Wf σ ns nc nl) (hms : ns ≤ ms) (x : Int) (h_x : -2147483648 ≤ x ∧ x < 2147483648) (t : Int) (h_t : -2147483648 ≤ t ∧ t < 2147483648) (hpr : PrOk σ) (hxi : ∀ j, ξ.1 j = σ 26 j) : Ct Ω yX4_worthAnew cX4_worthAnew 8 (some FieldType.long) (rkc 15 2 12) [.ref (lay 0 0), .int (iv x), .int (iv t)] (InvC Ω lay ms ns nc nl ξ σ τ) hR (FK (woK σ x t) (.long (jv (bestN σ x.toNat t.toNat (3 ^ t.toNat)))) (InvC Ω lay ms ns nc nl ξ σ τ)) (XT (woK σ x t) [(sIB, 1), (sIA, 2)] (InvC Ω lay ms ns nc nl ξ σ τ)) := by
  refine Ct.of (own := RX4) (L := [(0, _), (1, _), (2, _)]) (by decide +kernel) rfl (Nat.le_of_ble_eq_true rfl) rfl ?_
  intro κ C hn E hi
  have hs2 := hwf.2.1
  have hc2 := hwf.2.2.2.1
  have hl2 := hwf.2.2.2.2.1.2.1
  have hnow := hwf.2.2.2.2.2.1.2
  have hst := hwf.2.2.2.2.2.2.1
  have hcu := hwf.2.2.2.2.2.2.2.1
  have o2 := hwf.1
  have o16 := hwf.2.2.1
  have o27 := hwf.2.2.2.2.1.1
  refine y_aload_n (pc := 0) C dX4_worthAnew_0 0 rfl ?_
  refine y_iload_n (pc := 1) C dX4_worthAnew_1 1 rfl ?_
  refine y_callVX (pc := 2) (As := [_]) C E.2.1 cv_X4_138 (ci := 5) rfl rfl (mg_customerNumbered x h_x (by omega)) (fun h hh => ⟨_, hh.gas⟩) rfl rfl (Nat.le_of_ble_eq_true rfl) ⟨by decide, by decide, by decide, by decide⟩ dX4_worthAnew_2 (fun rv => ?_) (fun E0 => y_out C E (by decide) (by decide) (fun h hh => by obtain ⟨rfl, hn9, hh⟩ := hh; exact ⟨1, List.Mem.head _, (by unfold woK; (try simp only [Int.toNat_natCast]); split <;> (try split) <;> (try split) <;> first | rfl | omega), hh⟩))
  refine Y.and (fun hN_i => Y.and (fun e9 => ?_))
  subst e9
  obtain ⟨i, rfl⟩ : ∃ i9 : Nat, x = i9 := ⟨Int.toNat x, by omega⟩
  have hi_i : i < nc := by omega
  have hk_i := hwf.2.2.2.2.2.2.2.1 i hi_i
  have hu_i := hk_i
  unfold CuOk at hu_i
  show Y Ω κ _ hR 1 6 _ _ (.ref (lay 2 i) :: _)
  refine y_astore_n (pc := 5) (L' := [(3, _), (0, _), (1, _), (2, _)]) C dX4_worthAnew_5 (by rw [hn]; decide) rfl ?_
  refine y_iload_n (pc := 6) C dX4_worthAnew_6 3 rfl ?_
  refine y_iconst (pc := 7) C dX4_worthAnew_7 ?_
  refine y_bipush (pc := 8) (z := 8) C dX4_worthAnew_8 (by decide) ?_
  refine y_callS (pc := 10) (As := [_, _, _]) C E.2.1 cs_X4_52 (mg_isWithin _ _ _ ⟨by omega, by omega⟩ ⟨by omega, by omega⟩ ⟨by omega, by omega⟩) rfl rfl (Nat.le_of_ble_eq_true rfl) ⟨by decide, by decide, by decide, by decide⟩ dX4_worthAnew_10 ⟨rfl, rfl⟩ ?_
  refine y_ifb_ne (pc := 13) (tgt := 26) C dX4_worthAnew_13 (by decide) (fun c13 => ?_) (fun c13 => ?_)
  · skip
    have c13a := of_decide_eq_true c13
    obtain ⟨y, rfl⟩ : ∃ y : Nat, t = y := ⟨t.toNat, by omega⟩
    have h3y : 3 ^ y ≤ 10000 := Nat.le_trans (Nat.pow_le_pow_right (by omega) (by omega : y ≤ 8)) (by decide)
    refine y_iconst (pc := 26) C dX4_worthAnew_26 ?_
    refine y_istore (pc := 27) (L' := [(4, _), (3, _), (0, _), (1, _), (2, _)]) C dX4_worthAnew_27 (by rw [hn]; decide) rfl ?_
    refine y_iconst (pc := 29) C dX4_worthAnew_29 ?_
    refine y_istore (pc := 30) (L' := [(5, _), (4, _), (3, _), (0, _), (1, _), (2, _)]) C dX4_worthAnew_30 (by rw [hn]; decide) rfl ?_
    have LP1 : ∀ (m1 : Nat) (m : Nat) (z q : Int), (k1 : y + 1 ≤ m + m1) → (k2 : m ≤ y) → (hz : z = m) → (hq : q = ((3 ^ m : Nat) : Int)) → Y Ω κ (InvC Ω lay ms ns nc nl ξ σ τ) hR 1 6 32 [(5, .int (iv z)), (4, .int (iv q)), (3, .ref (lay 2 i)), (0, .ref (lay 0 0)), (2, .int (iv y))] [] := by
      intro m1
      induction m1 with
      | zero => intro m z q k1 k2 hz hq; exfalso; omega
      | succ m1 ih1 =>
        intro m z q k1 k2 hz hq
        have h38 : 3 ^ m ≤ 10000 := Nat.le_trans (Nat.pow_le_pow_right (by omega) (by omega : m ≤ 8)) (by decide)
        refine y_iload (pc := 32) C dX4_worthAnew_32 0 rfl ?_
        refine y_iload_n (pc := 34) C dX4_worthAnew_34 4 rfl ?_
        refine y_icmp_ge (pc := 35) (tgt := 50) C dX4_worthAnew_35 (by decide) (by omega) (by omega) (by omega) (by omega) (fun c35 => ?_) (fun c35 => ?_)
        · skip
          have em : m = y := by omega
          rw [em] at hq
          subst hq
          refine y_lconst (pc := 50) (z := 0) C dX4_worthAnew_50 (by decide) ?_
          refine y_lstore (pc := 51) (L' := [(5, _), (4, _), (3, _), (0, _), (2, _)]) C dX4_worthAnew_51 (by rw [hn]; decide) rfl ?_
          refine y_iconst (pc := 53) C dX4_worthAnew_53 ?_
          refine y_istore (pc := 54) (L' := [(7, _), (5, _), (4, _), (3, _), (0, _), (2, _)]) C dX4_worthAnew_54 (by rw [hn]; decide) rfl ?_
          have LP2 : ∀ (m2 : Nat) (n : Nat) (z b : Int), (k1 : 3 ^ y + 1 ≤ n + m2) → (k2 : n ≤ 3 ^ y) → (hz : z = n) → (hb : b = bestN σ i y n) → Y Ω κ (InvC Ω lay ms ns nc nl ξ σ τ) hR 1 6 56 [(7, .int (iv z)), (5, .long (jv b)), (4, .int (iv ((3 ^ y : Nat) : Int))), (3, .ref (lay 2 i)), (0, .ref (lay 0 0)), (2, .int (iv y))] [] := by
            intro m2
            induction m2 with
            | zero => intro n z b k1 k2 hz hb; exfalso; omega
            | succ m2 ih2 =>
              intro n z b k1 k2 hz hb
              have hbb := best_b (n := n) hk_i hpr (t := y) (by omega)
              refine y_iload (pc := 56) C dX4_worthAnew_56 0 rfl ?_
              refine y_iload (pc := 58) C dX4_worthAnew_58 2 rfl ?_
              refine y_icmp_ge (pc := 60) (tgt := 84) C dX4_worthAnew_60 (by decide) (by omega) (by omega) (by omega) (by omega) (fun c60 => ?_) (fun c60 => ?_)
              · skip
                refine y_lload (pc := 84) C dX4_worthAnew_84 1 rfl ?_
                exact y_lret (pc := 86) C E dX4_worthAnew_86 (by decide) (by decide) (fun h hh => ⟨(by unfold woK; (try simp only [Int.toNat_natCast]); split <;> (try split) <;> (try split) <;> first | rfl | omega), by rw [hb, show n = 3 ^ y by omega]; rfl, hh⟩)
              · skip
                subst hz
                have hwb := way_b (w := n) (k := y) hk_i hpr
                refine y_lload (pc := 63) C dX4_worthAnew_63 1 rfl ?_
                refine y_aload_n (pc := 65) C dX4_worthAnew_65 4 rfl ?_
                refine y_aload_n (pc := 66) C dX4_worthAnew_66 3 rfl ?_
                refine y_iload (pc := 67) C dX4_worthAnew_67 0 rfl ?_
                refine y_iload_n (pc := 69) C dX4_worthAnew_69 5 rfl ?_
                refine y_callV (pc := 70) (As := [_, _, _]) C E.2.1 cv_X4_230 (ci := 5) rfl rfl (mg_sumOfWay i hi_i n y hk_i hpr hxi (by omega) (by omega) (by omega)) (fun h hh => ⟨_, hh.gas⟩) rfl rfl (Nat.le_of_ble_eq_true rfl) ⟨by decide, by decide, by decide, by decide⟩ dX4_worthAnew_70 ⟨rfl, rfl⟩ ?_
                refine y_maxL (pc := 73) C E.2.1 cs_X4_234.1 cs_X4_234.2.1 cs_X4_234.2.2.1 cs_X4_234.2.2.2.1 (by decide) (Nat.le_of_ble_eq_true rfl) (by decide) (by decide) (by omega) (by omega) (by omega) (by omega) dX4_worthAnew_73 ?_
                refine y_lstore (pc := 76) (L' := [(5, _), (7, _), (4, _), (3, _), (0, _), (2, _)]) C dX4_worthAnew_76 (by rw [hn]; decide) rfl ?_
                refine y_iinc (pc := 78) (L' := [(7, _), (5, _), (4, _), (3, _), (0, _), (2, _)]) C dX4_worthAnew_78 1 rfl (by rw [hn]; decide) rfl ?_
                refine y_goto (pc := 81) (tgt := 56) C dX4_worthAnew_81 (by decide) ?_
                refine Y.sub [0, 1, 2, 3, 4, 5] rfl ?_
                exact ih2 (n + 1) _ _ (by omega) (by omega) (by omega) (by rw [hb]; rfl)
          refine Y.sub [0, 1, 2, 3, 4, 5] rfl ?_
          exact LP2 (3 ^ y + 1) 0 0 0 (by omega) (Nat.zero_le _) rfl rfl
        · skip
          refine y_iload (pc := 38) C dX4_worthAnew_38 1 rfl ?_
          refine y_iconst (pc := 40) C dX4_worthAnew_40 ?_
          refine y_imul (pc := 41) C dX4_worthAnew_41 ?_
          refine y_istore (pc := 42) (L' := [(4, _), (5, _), (3, _), (0, _), (2, _)]) C dX4_worthAnew_42 (by rw [hn]; decide) rfl ?_
          refine y_iinc (pc := 44) (L' := [(5, _), (4, _), (3, _), (0, _), (2, _)]) C dX4_worthAnew_44 1 rfl (by rw [hn]; decide) rfl ?_
          refine y_goto (pc := 47) (tgt := 32) C dX4_worthAnew_47 (by decide) ?_
          refine Y.sub [0, 1, 2, 3, 4] rfl ?_
          exact ih1 (m + 1) _ _ (by omega) (by omega) (by omega) (by rw [hq, Nat.pow_succ]; omega)
    refine Y.sub [0, 1, 2, 3, 5] rfl ?_
    exact LP1 (y + 1) 0 0 1 (by omega) (by omega) rfl rfl
  · skip
    exact y_throw (pc := 16) C E th_IA sw_X4_171 dX4_worthAnew_16 dX4_worthAnew_19 dX4_worthAnew_20 dX4_worthAnew_22 dX4_worthAnew_25 (by decide) (Nat.le_of_ble_eq_true rfl) (by decide) (by decide) (fun h hh => ⟨2, List.Mem.tail _ (List.Mem.head _), (by (try simp only [decide_eq_true_eq, decide_eq_false_iff_not] at c13); unfold woK; (try simp only [Int.toNat_natCast]); split <;> (try split) <;> (try split) <;> first | rfl | omega), hh⟩)

