set_option maxRecDepth 20000 in
theorem mc_loseInAnHour {Ω : OmT} {hR : AH} {lay : Nat → Nat → Nat} {ξ : XiT} {ms ns nc nl : Nat} {σ : ZT} {τ : JT} (k : Nat) (hk : k < ms) (h2 : StOk σ k) : Ct Ω yX3_loseInAnHour cX3_loseInAnHour 2 (some FieldType.int) (rk 3) [.ref (lay 1 k)] (InvC Ω lay ms ns nc nl ξ σ τ) hR (RV (.int (iv (lkU σ k))) (InvC Ω lay ms ns nc nl ξ ((leakP k (σ, τ)).1) (nol τ (leakP k (σ, τ)).2))) NX := by
  refine Ct.of (own := RX3) (L := [(0, _)]) (by decide +kernel) rfl (Nat.le_of_ble_eq_true rfl) rfl ?_
  intro κ C hn E hi
  have hst := h2.1
  unfold StO0 at hst
  have hr := st_room h2.1
  have hp := st_press h2
  refine y_aload_n (pc := 0) C dX3_loseInAnHour_0 0 rfl ?_
  refine y_aload_n (pc := 1) C dX3_loseInAnHour_1 0 rfl ?_
  refine y_get (pc := 2) C fg_X3_28 dX3_loseInAnHour_2 (fun h hh => ⟨_, hh.sto hk, rfl⟩) ?_
  refine y_callV (pc := 5) (As := [_]) C E.2.1 cv_X3_77 (ci := 4) rfl rfl (mc_giveAway k hk _ ⟨by omega, by omega⟩ ⟨by omega, by omega⟩) (fun h hh => ⟨_, hh.sto hk⟩) rfl rfl (Nat.le_of_ble_eq_true rfl) ⟨by decide, by decide, by decide, by decide⟩ dX3_loseInAnHour_5 ⟨rfl, rfl⟩ ?_
  rw [show max 0 (min (σ 12 k) (σ 6 k)) = min (σ 12 k) (σ 6 k) by omega]
  obtain ⟨σ1, hs_1⟩ : ∃ x, x = (losP k (min (σ 12 k) (σ 6 k)) (σ, τ)).1 := ⟨_, rfl⟩
  obtain ⟨τ1, ht_1⟩ : ∃ x, x = (losP k (min (σ 12 k) (σ 6 k)) (σ, τ)).2 := ⟨_, rfl⟩
  rw [← hs_1, ← ht_1]
  have e3 : σ1 3 k = σ 3 k := by rw [hs_1]; rfl
  have e6 : σ1 6 k = σ 6 k - min (σ 12 k) (σ 6 k) := by rw [hs_1]; show zu σ 6 k (σ 6 k - min (σ 12 k) (σ 6 k)) 6 k = _; exact zu_s
  have e9 : σ1 9 k = σ 9 k := by rw [hs_1]; rfl
  have hp1 : (σ1, τ1) = losP k (min (σ 12 k) (σ 6 k)) (σ, τ) := by rw [hs_1, ht_1]
  refine y_istore_n (pc := 8) (L' := [(1, _), (0, _)]) C dX3_loseInAnHour_8 (by rw [hn]; decide) rfl ?_
  refine y_aload_n (pc := 9) C dX3_loseInAnHour_9 1 rfl ?_
  refine y_get (pc := 10) C fg_X3_31 dX3_loseInAnHour_10 (fun h hh => ⟨_, hh.sto hk, rfl⟩) ?_
  refine y_iconst (pc := 13) C dX3_loseInAnHour_13 ?_
  refine y_icmp_ne (pc := 14) (tgt := 35) C dX3_loseInAnHour_14 (by decide) (by omega) (by omega) (by omega) (by omega) (fun c14 => ?_) (fun c14 => ?_)
  · skip
    refine y_iload_n (pc := 35) C dX3_loseInAnHour_35 0 rfl ?_
    exact y_iret (pc := 36) C E dX3_loseInAnHour_36 (by decide) (by decide) (fun h hh => ⟨by rw [show lkU σ k = min (σ 12 k) (σ 6 k) from if_neg (by show ¬ (σ 3 k = 2 ∧ σ 9 k < σ 6 k - min (σ 12 k) (σ 6 k)); omega)], by rw [show leakP k (σ, τ) = lstP k (min (σ 12 k) (σ 6 k)) (σ, τ) from if_neg (by show ¬ (σ 3 k = 2 ∧ σ 9 k < σ 6 k - min (σ 12 k) (σ 6 k)); omega), nol_1, ← ht_1]; show InvC Ω lay ms ns nc nl ξ (losP k (min (σ 12 k) (σ 6 k)) (σ, τ)).1 τ1 h; rw [← hs_1]; exact hh⟩)
  · skip
    refine y_iload_n (pc := 17) C dX3_loseInAnHour_17 0 rfl ?_
    refine y_aload_n (pc := 18) C dX3_loseInAnHour_18 1 rfl ?_
    refine y_aload_n (pc := 19) C dX3_loseInAnHour_19 1 rfl ?_
    refine y_get (pc := 20) C fg_X3_15 dX3_loseInAnHour_20 (fun h hh => ⟨_, hh.sto hk, rfl⟩) ?_
    refine y_aload_n (pc := 23) C dX3_loseInAnHour_23 1 rfl ?_
    refine y_get (pc := 24) C fg_X3_43 dX3_loseInAnHour_24 (fun h hh => ⟨_, hh.sto hk, rfl⟩) ?_
    refine y_isub (pc := 27) C dX3_loseInAnHour_27 ?_
    refine y_callV (pc := 28) (As := [_]) C E.2.1 cv_X3_77 (ci := 4) rfl rfl (mc_giveAway k hk (σ1 6 k - σ1 9 k) ⟨by omega, by omega⟩ ⟨by omega, by omega⟩) (fun h hh => ⟨_, hh.sto hk⟩) rfl rfl (Nat.le_of_ble_eq_true rfl) ⟨by decide, by decide, by decide, by decide⟩ dX3_loseInAnHour_28 ⟨rfl, rfl⟩ ?_
    have hq1 := e6
    by_cases hq : σ 9 k < σ 6 k - min (σ 12 k) (σ 6 k)
    · rw [show max 0 (min (σ1 6 k - σ1 9 k) (σ1 6 k)) = σ 6 k - min (σ 12 k) (σ 6 k) - σ 9 k by omega, hp1]
      refine y_iadd (pc := 31) C dX3_loseInAnHour_31 ?_
      refine y_goto (pc := 32) (tgt := 36) C dX3_loseInAnHour_32 (by decide) ?_
      exact y_iret (pc := 36) C E dX3_loseInAnHour_36 (by decide) (by decide) (fun h hh => ⟨by rw [show lkU σ k = _ from if_pos (by show σ 3 k = 2 ∧ σ 9 k < σ 6 k - min (σ 12 k) (σ 6 k); omega)], by rw [show leakP k (σ, τ) = lstP k (σ 6 k - min (σ 12 k) (σ 6 k) - σ 9 k) (lstP k (min (σ 12 k) (σ 6 k)) (σ, τ)) from if_pos (by show σ 3 k = 2 ∧ σ 9 k < σ 6 k - min (σ 12 k) (σ 6 k); omega), nol_2]; exact hh⟩)
    rw [show max 0 (min (σ1 6 k - σ1 9 k) (σ1 6 k)) = 0 by omega, losP_0]
    refine y_iadd (pc := 31) C dX3_loseInAnHour_31 ?_
    refine y_goto (pc := 32) (tgt := 36) C dX3_loseInAnHour_32 (by decide) ?_
    exact y_iret (pc := 36) C E dX3_loseInAnHour_36 (by decide) (by decide) (fun h hh => ⟨by rw [show lkU σ k = min (σ 12 k) (σ 6 k) from if_neg (by show ¬ (σ 3 k = 2 ∧ σ 9 k < σ 6 k - min (σ 12 k) (σ 6 k)); omega), show min (σ 12 k) (σ 6 k) + 0 = min (σ 12 k) (σ 6 k) by omega], by rw [show leakP k (σ, τ) = lstP k (min (σ 12 k) (σ 6 k)) (σ, τ) from if_neg (by show ¬ (σ 3 k = 2 ∧ σ 9 k < σ 6 k - min (σ 12 k) (σ 6 k)); omega), nol_1, ← ht_1]; show InvC Ω lay ms ns nc nl ξ (losP k (min (σ 12 k) (σ 6 k)) (σ, τ)).1 τ1 h; rw [← hs_1]; exact hh⟩)

set_option maxRecDepth 20000 in
theorem mc_moveWater {Ω : OmT} {hR : AH} {lay : Nat → Nat → Nat} {ξ : XiT} {ms ns nc nl : Nat} {σ : ZT} {τ : JT} (k : Nat) (hk : k < ms) (h2 : StOk σ k) : Ct Ω yX3_moveWater cX3_moveWater 2 none (rk 3) [.ref (lay 1 k)] (InvC Ω lay ms ns nc nl ξ σ τ) hR (RU (InvC Ω lay ms ns nc nl ξ (zu σ 5 k (σ 5 k + wetZ σ k)) (τ))) NX := by
  refine Ct.of (own := RX3) (L := [(0, _)]) (by decide +kernel) rfl (Nat.le_of_ble_eq_true rfl) rfl ?_
  intro κ C hn E hi
  have hst := h2.1
  unfold StO0 at hst
  have hr := st_room h2.1
  have hp := st_press h2
  refine y_aload_n (pc := 0) C dX3_moveWater_0 0 rfl ?_
  refine y_callV (pc := 1) (As := []) C E.2.1 cv_X3_57 (ci := 4) rfl rfl (mc_pressureNow _ hk h2.1) (fun h hh => ⟨_, hh.sto hk⟩) rfl rfl (Nat.le_of_ble_eq_true rfl) ⟨by decide, by decide, by decide, by decide⟩ dX3_moveWater_1 ⟨rfl, rfl⟩ ?_
  refine y_istore_n (pc := 4) (L' := [(1, _), (0, _)]) C dX3_moveWater_4 (by rw [hn]; decide) rfl ?_
  refine y_iload_n (pc := 5) C dX3_moveWater_5 0 rfl ?_
  refine y_aload_n (pc := 6) C dX3_moveWater_6 1 rfl ?_
  refine y_get (pc := 7) C fg_X3_43 dX3_moveWater_7 (fun h hh => ⟨_, hh.sto hk, rfl⟩) ?_
  refine y_icmp_ge (pc := 10) (tgt := 33) C dX3_moveWater_10 (by decide) (by omega) (by omega) (by omega) (by omega) (fun c10 => ?_) (fun c10 => ?_)
  · skip
    refine y_iload_n (pc := 33) C dX3_moveWater_33 0 rfl ?_
    refine y_aload_n (pc := 34) C dX3_moveWater_34 1 rfl ?_
    refine y_get (pc := 35) C fg_X3_43 dX3_moveWater_35 (fun h hh => ⟨_, hh.sto hk, rfl⟩) ?_
    refine y_icmp_le (pc := 38) (tgt := 62) C dX3_moveWater_38 (by decide) (by omega) (by omega) (by omega) (by omega) (fun c38 => ?_) (fun c38 => ?_)
    · skip
      exact y_vret (pc := 62) C E dX3_moveWater_62 (by decide) (by decide) (fun h hh => ⟨rfl, by rw [show wetZ σ k = 0 from (if_neg (by omega)).trans (if_neg (by omega)), zu_id (by omega)]; exact hh⟩)
    · skip
      refine y_aload_n (pc := 41) C dX3_moveWater_41 1 rfl ?_
      refine y_dup (pc := 42) C dX3_moveWater_42 rfl ?_
      refine y_get (pc := 43) C fg_X3_9 dX3_moveWater_43 (fun h hh => ⟨_, hh.sto hk, rfl⟩) ?_
      refine y_aload_n (pc := 46) C dX3_moveWater_46 1 rfl ?_
      refine y_get (pc := 47) C fg_X3_9 dX3_moveWater_47 (fun h hh => ⟨_, hh.sto hk, rfl⟩) ?_
      refine y_sipush (pc := 50) (z := 199) C dX3_moveWater_50 (by decide) ?_
      refine y_iadd (pc := 53) C dX3_moveWater_53 ?_
      refine y_sipush (pc := 54) (z := 200) C dX3_moveWater_54 (by decide) ?_
      refine y_idivP (pc := 57) C dX3_moveWater_57 (by omega) (by omega) (by omega) (by omega) ?_
      refine y_isub (pc := 58) C dX3_moveWater_58 ?_
      refine k_putS (pc := 59) C 5 5 rfl hk (by decide) (by decide) fp_X3_9 dX3_moveWater_59 ?_
      exact y_vret (pc := 62) C E dX3_moveWater_62 (by decide) (by decide) (fun h hh => ⟨rfl, by rw [show wetZ σ k = -((σ 5 k + 199) / 200) from (if_neg (by omega)).trans (if_pos (by omega)), ← Int.sub_eq_add_neg]; exact hh⟩)
  · skip
    refine y_aload_n (pc := 13) C dX3_moveWater_13 1 rfl ?_
    refine y_dup (pc := 14) C dX3_moveWater_14 rfl ?_
    refine y_get (pc := 15) C fg_X3_9 dX3_moveWater_15 (fun h hh => ⟨_, hh.sto hk, rfl⟩) ?_
    refine y_aload_n (pc := 18) C dX3_moveWater_18 1 rfl ?_
    refine y_callV (pc := 19) (As := []) C E.2.1 cv_X3_46 (ci := 4) rfl rfl (mc_room _ hk) (fun h hh => ⟨_, hh.sto hk⟩) rfl rfl (Nat.le_of_ble_eq_true rfl) ⟨by decide, by decide, by decide, by decide⟩ dX3_moveWater_19 ⟨rfl, rfl⟩ ?_
    refine y_sipush (pc := 22) (z := 200) C dX3_moveWater_22 (by decide) ?_
    refine y_idivP (pc := 25) C dX3_moveWater_25 (by omega) (by omega) (by omega) (by omega) ?_
    refine y_iadd (pc := 26) C dX3_moveWater_26 ?_
    refine k_putS (pc := 27) C 5 5 rfl hk (by decide) (by decide) fp_X3_9 dX3_moveWater_27 ?_
    refine y_goto (pc := 30) (tgt := 62) C dX3_moveWater_30 (by decide) ?_
    exact y_vret (pc := 62) C E dX3_moveWater_62 (by decide) (by decide) (fun h hh => ⟨rfl, by rw [show wetZ σ k = roomZ σ k / 200 from if_pos (by omega)]; exact hh⟩)

set_option maxRecDepth 20000 in
theorem mc_creep {Ω : OmT} {hR : AH} {lay : Nat → Nat → Nat} {ξ : XiT} {ms ns nc nl : Nat} {σ : ZT} {τ : JT} (k : Nat) (hk : k < ms) (h2 : StOk σ k) : Ct Ω yX3_creep cX3_creep 3 none (rk 3) [.ref (lay 1 k)] (InvC Ω lay ms ns nc nl ξ σ τ) hR (RU (InvC Ω lay ms ns nc nl ξ (if pressZ σ k < σ 9 k then zu σ 4 k (volZ σ k) else σ) (τ))) NX := by
  refine Ct.of (own := RX3) (L := [(0, _)]) (by decide +kernel) rfl (Nat.le_of_ble_eq_true rfl) rfl ?_
  intro κ C hn E hi
  have hst := h2.1
  unfold StO0 at hst
  have hr := st_room h2.1
  have hp := st_press h2
  have hv := vol_b h2
  refine y_aload_n (pc := 0) C dX3_creep_0 0 rfl ?_
  refine y_get (pc := 1) C fg_X3_43 dX3_creep_1 (fun h hh => ⟨_, hh.sto hk, rfl⟩) ?_
  refine y_aload_n (pc := 4) C dX3_creep_4 0 rfl ?_
  refine y_callV (pc := 5) (As := []) C E.2.1 cv_X3_57 (ci := 4) rfl rfl (mc_pressureNow _ hk h2.1) (fun h hh => ⟨_, hh.sto hk⟩) rfl rfl (Nat.le_of_ble_eq_true rfl) ⟨by decide, by decide, by decide, by decide⟩ dX3_creep_5 ⟨rfl, rfl⟩ ?_
  refine y_isub (pc := 8) C dX3_creep_8 ?_
  refine y_i2l (pc := 9) C dX3_creep_9 (by omega) (by omega) ?_
  refine y_lstore_n (pc := 10) (L' := [(1, _), (0, _)]) C dX3_creep_10 (by rw [hn]; decide) rfl ?_
  refine y_lload_n (pc := 11) C dX3_creep_11 0 rfl ?_
  refine y_lconst (pc := 12) (z := 0) C dX3_creep_12 (by decide) ?_
  refine y_lcmp_le (pc := 13) (tgt := 43) C dX3_creep_13 dX3_creep_14 (by decide) (by omega) (by omega) (by omega) (by omega) (fun c13 => ?_) (fun c13 => ?_)
  · skip
    exact y_vret (pc := 43) C E dX3_creep_43 (by decide) (by decide) (fun h hh => ⟨rfl, by rw [if_neg (by omega)]; exact hh⟩)
  · skip
    have hv := hv (by omega)
    refine y_aload_n (pc := 17) C dX3_creep_17 1 rfl ?_
    refine y_lconst (pc := 18) (z := 1) C dX3_creep_18 (by decide) ?_
    refine y_aload_n (pc := 19) C dX3_creep_19 1 rfl ?_
    refine y_get (pc := 20) C fg_X3_34 dX3_creep_20 (fun h hh => ⟨_, hh.sto hk, rfl⟩) ?_
    refine y_i2l (pc := 23) C dX3_creep_23 (by omega) (by omega) ?_
    refine y_aload_n (pc := 24) C dX3_creep_24 1 rfl ?_
    refine y_get (pc := 25) C fg_X3_34 dX3_creep_25 (fun h hh => ⟨_, hh.sto hk, rfl⟩) ?_
    refine y_i2l (pc := 28) C dX3_creep_28 (by omega) (by omega) ?_
    refine y_lload_n (pc := 29) C dX3_creep_29 0 rfl ?_
    refine y_lmul (pc := 30) C dX3_creep_30 ?_
    refine y_ldc2 (pc := 31) (z := 100000) C aw_3_237 (by decide) dX3_creep_31 ?_
    refine y_ldivP (pc := 34) C dX3_creep_34 (by omega) (by omega) (by omega) (by omega) ?_
    refine y_lsub (pc := 35) C dX3_creep_35 ?_
    refine y_maxL (pc := 36) C E.2.1 cs_X3_89.1 cs_X3_89.2.1 cs_X3_89.2.2.1 cs_X3_89.2.2.2.1 (by decide) (Nat.le_of_ble_eq_true rfl) (by decide) (by decide) (by omega) (by omega) (by omega) (by omega) dX3_creep_36 ?_
    refine y_l2i (pc := 39) C dX3_creep_39 ?_
    refine k_putS (pc := 40) C 4 4 rfl hk (by decide) (by decide) fp_X3_34 dX3_creep_40 ?_
    exact y_vret (pc := 43) C E dX3_creep_43 (by decide) (by decide) (fun h hh => ⟨rfl, by rw [if_pos (by omega), show volZ σ k = max 1 (σ 4 k - σ 4 k * (σ 9 k - pressZ σ k) / 100000) from by unfold volZ; split <;> omega]; exact hh⟩)

set_option maxRecDepth 20000 in
theorem mc_loseAtDaysEnd {Ω : OmT} {hR : AH} {lay : Nat → Nat → Nat} {ξ : XiT} {ms ns nc nl : Nat} {σ : ZT} {τ : JT} (k : Nat) (hk : k < ms) (h2 : StOk σ k) : Ct Ω yX3_loseAtDaysEnd cX3_loseAtDaysEnd 1 (some FieldType.int) (rk 4) [.ref (lay 1 k)] (InvC Ω lay ms ns nc nl ξ σ τ) hR (RV (.int (iv (dyU σ k))) (InvC Ω lay ms ns nc nl ξ ((dayP k (σ, τ)).1) (nol τ (dayP k (σ, τ)).2))) NX := by
  refine Ct.of (own := RX3) (L := [(0, _)]) (by decide +kernel) rfl (Nat.le_of_ble_eq_true rfl) rfl ?_
  intro κ C hn E hi
  have hst := h2.1
  unfold StO0 at hst
  have hr := st_room h2.1
  have hp := st_press h2
  have hm := moveZ_ok h2
  have hmm := st_most hm
  have e6 := moveZ_6 (σ := σ) (k := k)
  obtain ⟨w, hw⟩ : ∃ w, w = moveZ σ k := ⟨_, rfl⟩
  rw [← hw] at hm hmm e6
  refine y_joinU (pcj := 26) (Φ' := InvC Ω lay ms ns nc nl ξ (w) (τ)) ?_ (fun J1 => ?_)
  · skip
    refine y_aload_n (pc := 26) C dX3_loseAtDaysEnd_26 0 rfl ?_
    refine y_aload_n (pc := 27) C dX3_loseAtDaysEnd_27 0 rfl ?_
    refine y_get (pc := 28) C fg_X3_15 dX3_loseAtDaysEnd_28 (fun h hh => ⟨_, hh.sto hk, rfl⟩) ?_
    refine y_aload_n (pc := 31) C dX3_loseAtDaysEnd_31 0 rfl ?_
    refine y_callV (pc := 32) (As := []) C E.2.1 cv_X3_60 (ci := 4) rfl rfl (mc_mostGas _ hk hm) (fun h hh => ⟨_, hh.sto hk⟩) rfl rfl (Nat.le_of_ble_eq_true rfl) ⟨by decide, by decide, by decide, by decide⟩ dX3_loseAtDaysEnd_32 ⟨rfl, rfl⟩ ?_
    refine y_isub (pc := 35) C dX3_loseAtDaysEnd_35 ?_
    refine y_callV (pc := 36) (As := [_]) C E.2.1 cv_X3_77 (ci := 4) rfl rfl (mc_giveAway k hk (w 6 k - mostZ (w 8 k) (roomZ w k)) ⟨by omega, by omega⟩ ⟨by omega, by omega⟩) (fun h hh => ⟨_, hh.sto hk⟩) rfl rfl (Nat.le_of_ble_eq_true rfl) ⟨by decide, by decide, by decide, by decide⟩ dX3_loseAtDaysEnd_36 ⟨rfl, rfl⟩ ?_
    have hD : dyU σ k = max 0 (min (w 6 k - mostZ (w 8 k) (roomZ w k)) (w 6 k)) := by unfold dyU; rw [← hw, e6.1]; split <;> omega
    have hP : ((dayP k (σ, τ)).1, nol τ (dayP k (σ, τ)).2) = losP k (max 0 (min (w 6 k - mostZ (w 8 k) (roomZ w k)) (w 6 k))) (w, τ) := by
      by_cases q : mostZ (w 8 k) (roomZ w k) < σ 6 k
      · rw [show dayP k (σ, τ) = lstP k (σ 6 k - mostZ (w 8 k) (roomZ w k)) (w, τ) from by rw [hw]; exact if_pos (by show mostZ (moveZ σ k 8 k) (roomZ (moveZ σ k) k) < σ 6 k; rw [← hw]; exact q), nol_1, show max 0 (min (w 6 k - mostZ (w 8 k) (roomZ w k)) (w 6 k)) = σ 6 k - mostZ (w 8 k) (roomZ w k) by omega]
        rfl
      · rw [show dayP k (σ, τ) = (w, τ) from by rw [hw]; exact if_neg (by show ¬ mostZ (moveZ σ k 8 k) (roomZ (moveZ σ k) k) < σ 6 k; rw [← hw]; exact q), show max 0 (min (w 6 k - mostZ (w 8 k) (roomZ w k)) (w 6 k)) = 0 by omega, losP_0, nol_self]
    exact y_iret (pc := 39) C E dX3_loseAtDaysEnd_39 (by decide) (by decide) (fun h hh => ⟨by rw [hD], by rw [← hP] at hh; exact hh⟩)
  · skip
    refine y_aload_n (pc := 0) C dX3_loseAtDaysEnd_0 0 rfl ?_
    refine y_get (pc := 1) C fg_X3_31 dX3_loseAtDaysEnd_1 (fun h hh => ⟨_, hh.sto hk, rfl⟩) ?_
    refine y_if_ne (pc := 4) (tgt := 14) C dX3_loseAtDaysEnd_4 (by decide) (by omega) (by omega) (fun c4 => ?_) (fun c4 => ?_)
    · skip
      refine y_aload_n (pc := 14) C dX3_loseAtDaysEnd_14 0 rfl ?_
      refine y_get (pc := 15) C fg_X3_31 dX3_loseAtDaysEnd_15 (fun h hh => ⟨_, hh.sto hk, rfl⟩) ?_
      refine y_iconst (pc := 18) C dX3_loseAtDaysEnd_18 ?_
      refine y_icmp_ne (pc := 19) (tgt := 26) C dX3_loseAtDaysEnd_19 (by decide) (by omega) (by omega) (by omega) (by omega) (fun c19 => ?_) (fun c19 => ?_)
      · skip
        refine Y.sub [0] rfl ?_
        refine Y.imp (fun h hh => ?_) J1
        rw [hw, show moveZ σ k = σ from (if_neg c4).trans (if_neg (by omega))]; exact hh
      · skip
        refine y_aload_n (pc := 22) C dX3_loseAtDaysEnd_22 0 rfl ?_
        refine y_callVv (pc := 23) (As := []) C E.2.1 cv_X3_84 (ci := 4) rfl rfl (mc_creep k hk h2) (fun h hh => ⟨_, hh.sto hk⟩) rfl rfl (Nat.le_of_ble_eq_true rfl) ⟨by decide, by decide, by decide, by decide⟩ dX3_loseAtDaysEnd_23 ⟨rfl, rfl⟩ ?_
        refine Y.sub [0] rfl ?_
        refine Y.imp (fun h hh => ?_) J1
        rw [hw, show moveZ σ k = (if pressZ σ k < σ 9 k then zu σ 4 k (volZ σ k) else σ) from (if_neg c4).trans (by simp only [c19, true_and])]; exact hh
    · skip
      refine y_aload_n (pc := 7) C dX3_loseAtDaysEnd_7 0 rfl ?_
      refine y_callVv (pc := 8) (As := []) C E.2.1 cv_X3_81 (ci := 4) rfl rfl (mc_moveWater k hk h2) (fun h hh => ⟨_, hh.sto hk⟩) rfl rfl (Nat.le_of_ble_eq_true rfl) ⟨by decide, by decide, by decide, by decide⟩ dX3_loseAtDaysEnd_8 ⟨rfl, rfl⟩ ?_
      refine y_goto (pc := 11) (tgt := 26) C dX3_loseAtDaysEnd_11 (by decide) ?_
      refine Y.sub [0] rfl ?_
      refine Y.imp (fun h hh => ?_) J1
      rw [hw, show moveZ σ k = zu σ 5 k (σ 5 k + wetZ σ k) from if_pos c4]; exact hh

