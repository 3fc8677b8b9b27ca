set_option maxRecDepth 20000 in
theorem mt_isIn {Ω : OmT} {hR : AH} {Φ : AH → Prop} (v a b : Int) (h1 : -2147483648 ≤ v ∧ v < 2147483648) (h2 : -2147483648 ≤ a ∧ a < 2147483648) (h3 : -2147483648 ≤ b ∧ b < 2147483648) : Ct Ω yX5_isIn cX5_isIn 3 (some FieldType.boolean) (rk 1) [.int (iv v), .int (iv a), .int (iv b)] (Φ) hR (RV (.int (iv (bz (decide (a ≤ v ∧ v ≤ b))))) (Φ)) NX := by
  refine Ct.of (own := RX5) (L := [(0, _), (1, _), (2, _)]) (by decide +kernel) rfl (Nat.le_of_ble_eq_true rfl) rfl ?_
  intro κ C hn E hi
  refine y_joinB (pcj := 15) (P := fun q => q = decide (a ≤ v ∧ v ≤ b)) (fun v1 hv1 => ?_) (fun J1 => ?_)
  · skip
    rw [hv1]
    exact y_zret (pc := 15) C E dX5_isIn_15 (by decide) (by decide) (fun h hh => ⟨rfl, hh⟩)
  · skip
    refine y_iload_n (pc := 0) C dX5_isIn_0 0 rfl ?_
    refine y_iload_n (pc := 1) C dX5_isIn_1 1 rfl ?_
    refine y_icmp_lt (pc := 2) (tgt := 14) C dX5_isIn_2 (by decide) (by omega) (by omega) (by omega) (by omega) (fun c2 => ?_) (fun c2 => ?_)
    · skip
      refine y_iconst (pc := 14) C dX5_isIn_14 ?_
      first | exact J1 true (decide_eq_true (by omega)).symm | exact J1 false (decide_eq_false (by omega)).symm
    · skip
      refine y_iload_n (pc := 5) C dX5_isIn_5 0 rfl ?_
      refine y_iload_n (pc := 6) C dX5_isIn_6 2 rfl ?_
      refine y_icmp_gt (pc := 7) (tgt := 14) C dX5_isIn_7 (by decide) (by omega) (by omega) (by omega) (by omega) (fun c7 => ?_) (fun c7 => ?_)
      · skip
        refine y_iconst (pc := 14) C dX5_isIn_14 ?_
        first | exact J1 true (decide_eq_true (by omega)).symm | exact J1 false (decide_eq_false (by omega)).symm
      · skip
        refine y_iconst (pc := 10) C dX5_isIn_10 ?_
        refine y_goto (pc := 11) (tgt := 15) C dX5_isIn_11 (by decide) ?_
        first | exact J1 true (decide_eq_true (by omega)).symm | exact J1 false (decide_eq_false (by omega)).symm

set_option maxRecDepth 20000 in
theorem mt_lesser {Ω : OmT} {hR : AH} {Φ : AH → Prop} (a b : Int) (h1 : -2147483648 ≤ a ∧ a < 2147483648) (h2 : -2147483648 ≤ b ∧ b < 2147483648) : Ct Ω yX5_lesser cX5_lesser 2 (some FieldType.int) (rk 1) [.int (iv a), .int (iv b)] (Φ) hR (RV (.int (iv (min a b))) (Φ)) NX := by
  refine Ct.of (own := RX5) (L := [(0, _), (1, _)]) (by decide +kernel) rfl (Nat.le_of_ble_eq_true rfl) rfl ?_
  intro κ C hn E hi
  refine y_joinI (pcj := 10) (P := fun q => q = min a b) (fun v1 hv1 => ?_) (fun J1 => ?_)
  · skip
    rw [hv1]
    exact y_iret (pc := 10) C E dX5_lesser_10 (by decide) (by decide) (fun h hh => ⟨rfl, hh⟩)
  · skip
    refine y_iload_n (pc := 0) C dX5_lesser_0 0 rfl ?_
    refine y_iload_n (pc := 1) C dX5_lesser_1 1 rfl ?_
    refine y_icmp_ge (pc := 2) (tgt := 9) C dX5_lesser_2 (by decide) (by omega) (by omega) (by omega) (by omega) (fun c2 => ?_) (fun c2 => ?_)
    · skip
      refine y_iload_n (pc := 9) C dX5_lesser_9 1 rfl ?_
      exact J1 _ (by omega)
    · skip
      refine y_iload_n (pc := 5) C dX5_lesser_5 0 rfl ?_
      refine y_goto (pc := 6) (tgt := 10) C dX5_lesser_6 (by decide) ?_
      exact J1 _ (by omega)

set_option maxRecDepth 20000 in
theorem mt_leastGas {Ω : OmT} {hR : AH} {Φ : AH → Prop} (p r : Int) (h1 : 0 ≤ p ∧ p ≤ 1000) (h2 : 1 ≤ r ∧ r ≤ 100000) : Ct Ω yX5_leastGas cX5_leastGas 2 (some FieldType.int) (rk 1) [.int (iv p), .int (iv r)] (Φ) hR (RV (.int (iv (leastZ p r))) (Φ)) NX := by
  refine Ct.of (own := RX5) (L := [(0, _), (1, _)]) (by decide +kernel) rfl (Nat.le_of_ble_eq_true rfl) rfl ?_
  intro κ C hn E hi
  have hb := mz_b h1.1 h1.2 h2.1 h2.2
  refine y_iload_n (pc := 0) C dX5_leastGas_0 0 rfl ?_
  refine y_iload_n (pc := 1) C dX5_leastGas_1 1 rfl ?_
  refine y_imul (pc := 2) C dX5_leastGas_2 ?_
  refine y_bipush (pc := 3) (z := 99) C dX5_leastGas_3 (by decide) ?_
  refine y_iadd (pc := 5) C dX5_leastGas_5 ?_
  refine y_bipush (pc := 6) (z := 100) C dX5_leastGas_6 (by decide) ?_
  refine y_idivP (pc := 8) C dX5_leastGas_8 (by omega) (by omega) (by omega) (by omega) ?_
  exact y_iret (pc := 9) C E dX5_leastGas_9 (by decide) (by decide) (fun h hh => ⟨rfl, hh⟩)

set_option maxRecDepth 20000 in
theorem mt_mostGas {Ω : OmT} {hR : AH} {Φ : AH → Prop} (p r : Int) (h1 : 0 ≤ p ∧ p ≤ 1000) (h2 : 1 ≤ r ∧ r ≤ 100000) : Ct Ω yX5_mostGas cX5_mostGas 2 (some FieldType.int) (rk 1) [.int (iv p), .int (iv r)] (Φ) hR (RV (.int (iv (mostZ p r))) (Φ)) NX := by
  refine Ct.of (own := RX5) (L := [(0, _), (1, _)]) (by decide +kernel) rfl (Nat.le_of_ble_eq_true rfl) rfl ?_
  intro κ C hn E hi
  have hb := mz_b h1.1 h1.2 h2.1 h2.2
  refine y_iload_n (pc := 0) C dX5_mostGas_0 0 rfl ?_
  refine y_iload_n (pc := 1) C dX5_mostGas_1 1 rfl ?_
  refine y_imul (pc := 2) C dX5_mostGas_2 ?_
  refine y_bipush (pc := 3) (z := 100) C dX5_mostGas_3 (by decide) ?_
  refine y_idivP (pc := 5) C dX5_mostGas_5 (by omega) (by omega) (by omega) (by omega) ?_
  exact y_iret (pc := 6) C E dX5_mostGas_6 (by decide) (by decide) (fun h hh => ⟨rfl, hh⟩)

set_option maxRecDepth 20000 in
theorem mt_thrown {Ω : OmT} {hR : AH} {M : Nat} {ma : Nat → Nat} {σ : ZT} {τ : JT} : Ct Ω yX5_thrown cX5_thrown 1 (some FieldType.int) (rk 1) [.ref M] (InvM Ω M ma σ τ) hR (RV (.int (iv (σ 0 0))) (InvM Ω M ma σ τ)) NX := by
  refine Ct.of (own := RX5) (L := [(0, _)]) (by decide +kernel) rfl (Nat.le_of_ble_eq_true rfl) rfl ?_
  intro κ C hn E hi
  refine y_aload_n (pc := 0) C dX5_thrown_0 0 rfl ?_
  refine y_get (pc := 1) C fg_X5_102 dX5_thrown_1 (fun h hh => ⟨_, hh.1, rfl⟩) ?_
  exact y_iret (pc := 4) C E dX5_thrown_4 (by decide) (by decide) (fun h hh => ⟨rfl, hh⟩)

set_option maxRecDepth 20000 in
theorem mt_holds {Ω : OmT} {hR : AH} {M : Nat} {ma : Nat → Nat} {σ : ZT} {τ : JT} (x : Int) (h1 : -2147483648 ≤ x ∧ x < 2147483648) : Ct Ω yX5_holds cX5_holds 2 (some FieldType.boolean) (rk 1) [.ref M, .int (iv x)] (InvM Ω M ma σ τ) hR (RV (.int (iv (bz (decide (x = 0))))) (InvM Ω M ma (zu σ 0 0 x) τ)) NX := by
  refine Ct.of (own := RX5) (L := [(0, _), (1, _)]) (by decide +kernel) rfl (Nat.le_of_ble_eq_true rfl) rfl ?_
  intro κ C hn E hi
  refine y_aload_n (pc := 0) C dX5_holds_0 0 rfl ?_
  refine y_iload_n (pc := 1) C dX5_holds_1 1 rfl ?_
  refine m_putI (pc := 2) C 0 rfl fp_X5_102 dX5_holds_2 ?_
  refine y_joinB (pcj := 14) (P := fun q => q = decide (x = 0)) (fun v1 hv1 => ?_) (fun J1 => ?_)
  · skip
    rw [hv1]
    exact y_zret (pc := 14) C E dX5_holds_14 (by decide) (by decide) (fun h hh => ⟨rfl, hh⟩)
  · skip
    refine y_iload_n (pc := 5) C dX5_holds_5 1 rfl ?_
    refine y_if_ne (pc := 6) (tgt := 13) C dX5_holds_6 (by decide) (by omega) (by omega) (fun c6 => ?_) (fun c6 => ?_)
    · skip
      refine y_iconst (pc := 13) C dX5_holds_13 ?_
      first | exact J1 true (decide_eq_true (by omega)).symm | exact J1 false (decide_eq_false (by omega)).symm
    · skip
      refine y_iconst (pc := 9) C dX5_holds_9 ?_
      refine y_goto (pc := 10) (tgt := 14) C dX5_holds_10 (by decide) ?_
      first | exact J1 true (decide_eq_true (by omega)).symm | exact J1 false (decide_eq_false (by omega)).symm

set_option maxRecDepth 20000 in
theorem mt_isStore {Ω : OmT} {hR : AH} {M : Nat} {ma : Nat → Nat} {σ : ZT} {τ : JT} (x : Int) (h1 : -2147483648 ≤ x ∧ x < 2147483648) (h2 : 0 ≤ σ 2 0 ∧ σ 2 0 ≤ 5) : Ct Ω yX5_isStore cX5_isStore 2 (some FieldType.boolean) (rk 2) [.ref M, .int (iv x)] (InvM Ω M ma σ τ) hR (RV (.int (iv (bz (decide (0 ≤ x ∧ x ≤ σ 2 0 - 1))))) (InvM Ω M ma σ τ)) NX := by
  refine Ct.of (own := RX5) (L := [(0, _), (1, _)]) (by decide +kernel) rfl (Nat.le_of_ble_eq_true rfl) rfl ?_
  intro κ C hn E hi
  refine y_iload_n (pc := 0) C dX5_isStore_0 1 rfl ?_
  refine y_iconst (pc := 1) C dX5_isStore_1 ?_
  refine y_aload_n (pc := 2) C dX5_isStore_2 0 rfl ?_
  refine y_get (pc := 3) C fg_X5_105 dX5_isStore_3 (fun h hh => ⟨_, hh.1, rfl⟩) ?_
  refine y_iconst (pc := 6) C dX5_isStore_6 ?_
  refine y_isub (pc := 7) C dX5_isStore_7 ?_
  refine y_callS (pc := 8) (As := [_, _, _]) C E.2.1 cs_X5_108 (mt_isIn _ _ _ ⟨by omega, by omega⟩ ⟨by omega, by omega⟩ ⟨by omega, by omega⟩) rfl rfl (Nat.le_of_ble_eq_true rfl) ⟨by decide, by decide, by decide, by decide⟩ dX5_isStore_8 ⟨rfl, rfl⟩ ?_
  exact y_zret (pc := 11) C E dX5_isStore_11 (by decide) (by decide) (fun h hh => ⟨rfl, hh⟩)

set_option maxRecDepth 20000 in
theorem mt_isCustomer {Ω : OmT} {hR : AH} {M : Nat} {ma : Nat → Nat} {σ : ZT} {τ : JT} (x : Int) (h1 : -2147483648 ≤ x ∧ x < 2147483648) (h2 : 0 ≤ σ 16 0 ∧ σ 16 0 ≤ 6) : Ct Ω yX5_isCustomer cX5_isCustomer 2 (some FieldType.boolean) (rk 2) [.ref M, .int (iv x)] (InvM Ω M ma σ τ) hR (RV (.int (iv (bz (decide (0 ≤ x ∧ x ≤ σ 16 0 - 1))))) (InvM Ω M ma σ τ)) NX := by
  refine Ct.of (own := RX5) (L := [(0, _), (1, _)]) (by decide +kernel) rfl (Nat.le_of_ble_eq_true rfl) rfl ?_
  intro κ C hn E hi
  refine y_iload_n (pc := 0) C dX5_isCustomer_0 1 rfl ?_
  refine y_iconst (pc := 1) C dX5_isCustomer_1 ?_
  refine y_aload_n (pc := 2) C dX5_isCustomer_2 0 rfl ?_
  refine y_get (pc := 3) C fg_X5_112 dX5_isCustomer_3 (fun h hh => ⟨_, hh.1, rfl⟩) ?_
  refine y_iconst (pc := 6) C dX5_isCustomer_6 ?_
  refine y_isub (pc := 7) C dX5_isCustomer_7 ?_
  refine y_callS (pc := 8) (As := [_, _, _]) C E.2.1 cs_X5_108 (mt_isIn _ _ _ ⟨by omega, by omega⟩ ⟨by omega, by omega⟩ ⟨by omega, by omega⟩) rfl rfl (Nat.le_of_ble_eq_true rfl) ⟨by decide, by decide, by decide, by decide⟩ dX5_isCustomer_8 ⟨rfl, rfl⟩ ?_
  exact y_zret (pc := 11) C E dX5_isCustomer_11 (by decide) (by decide) (fun h hh => ⟨rfl, hh⟩)

set_option maxRecDepth 20000 in
theorem mt_roomOf {Ω : OmT} {hR : AH} {M : Nat} {ma : Nat → Nat} {σ : ZT} {τ : JT} (k : Nat) (h1 : k < 5) : Ct Ω yX5_roomOf cX5_roomOf 2 (some FieldType.int) (rk 1) [.ref M, .int (iv k)] (InvM Ω M ma σ τ) hR (RV (.int (iv (roomZ σ k))) (InvM Ω M ma σ τ)) NX := by
  refine Ct.of (own := RX5) (L := [(0, _), (1, _)]) (by decide +kernel) rfl (Nat.le_of_ble_eq_true rfl) rfl ?_
  intro κ C hn E hi
  refine y_aload_n (pc := 0) C dX5_roomOf_0 0 rfl ?_
  refine y_get (pc := 1) C fg_X5_13 dX5_roomOf_1 (fun h hh => ⟨_, hh.1, rfl⟩) ?_
  refine y_iload_n (pc := 4) C dX5_roomOf_4 1 rfl ?_
  refine m_iald (pc := 5) C 4 _ rfl rfl (by show _ < 5; omega) dX5_roomOf_5 ?_
  refine y_aload_n (pc := 6) C dX5_roomOf_6 0 rfl ?_
  refine y_get (pc := 7) C fg_X5_16 dX5_roomOf_7 (fun h hh => ⟨_, hh.1, rfl⟩) ?_
  refine y_iload_n (pc := 10) C dX5_roomOf_10 1 rfl ?_
  refine m_iald (pc := 11) C 5 _ rfl rfl (by show _ < 5; omega) dX5_roomOf_11 ?_
  refine y_isub (pc := 12) C dX5_roomOf_12 ?_
  exact y_iret (pc := 13) C E dX5_roomOf_13 (by decide) (by decide) (fun h hh => ⟨rfl, hh⟩)

set_option maxRecDepth 20000 in
theorem mt_pressureOf {Ω : OmT} {hR : AH} {M : Nat} {ma : Nat → Nat} {σ : ZT} {τ : JT} (k : Nat) (h1 : k < 5) (h2 : StO0 σ k) : Ct Ω yX5_pressureOf cX5_pressureOf 2 (some FieldType.int) (rk 2) [.ref M, .int (iv k)] (InvM Ω M ma σ τ) hR (RV (.int (iv (pressZ σ k))) (InvM Ω M ma σ τ)) NX := by
  refine Ct.of (own := RX5) (L := [(0, _), (1, _)]) (by decide +kernel) rfl (Nat.le_of_ble_eq_true rfl) rfl ?_
  intro κ C hn E hi
  have hr := st_room h2
  have h3 : 0 ≤ σ 6 k ∧ σ 6 k ≤ 1000000 := ⟨h2.2.2.2.2.2.2.1, h2.2.2.2.2.2.2.2.1⟩
  refine y_bipush (pc := 0) (z := 100) C dX5_pressureOf_0 (by decide) ?_
  refine y_aload_n (pc := 2) C dX5_pressureOf_2 0 rfl ?_
  refine y_get (pc := 3) C fg_X5_19 dX5_pressureOf_3 (fun h hh => ⟨_, hh.1, rfl⟩) ?_
  refine y_iload_n (pc := 6) C dX5_pressureOf_6 1 rfl ?_
  refine m_iald (pc := 7) C 6 _ rfl rfl (by show _ < 5; omega) dX5_pressureOf_7 ?_
  refine y_imul (pc := 8) C dX5_pressureOf_8 ?_
  refine y_aload_n (pc := 9) C dX5_pressureOf_9 0 rfl ?_
  refine y_iload_n (pc := 10) C dX5_pressureOf_10 1 rfl ?_
  refine y_callV (pc := 11) (As := [_]) C E.2.1 cv_X5_115 (ci := 6) rfl rfl (mt_roomOf _ (by omega)) (fun h hh => ⟨_, hh.1⟩) rfl rfl (Nat.le_of_ble_eq_true rfl) ⟨by decide, by decide, by decide, by decide⟩ dX5_pressureOf_11 ⟨rfl, rfl⟩ ?_
  refine y_idivP (pc := 14) C dX5_pressureOf_14 (by omega) (by omega) (by omega) (by omega) ?_
  exact y_iret (pc := 15) C E dX5_pressureOf_15 (by decide) (by decide) (fun h hh => ⟨rfl, hh⟩)

set_option maxRecDepth 20000 in
theorem mt_rateOf {Ω : OmT} {hR : AH} {M : Nat} {ma : Nat → Nat} {σ : ZT} {τ : JT} (k : Nat) (b : Bool) (h1 : k < 5) (h2 : StOk σ k) : Ct Ω yX5_rateOf cX5_rateOf 8 (some FieldType.int) (rk 3) [.ref M, .int (iv k), .int (iv (bz b))] (InvM Ω M ma σ τ) hR (RV (.int (iv (rateZ σ k b))) (InvM Ω M ma σ τ)) NX := by
  refine Ct.of (own := RX5) (L := [(0, _), (1, _), (2, _)]) (by decide +kernel) rfl (Nat.le_of_ble_eq_true rfl) rfl ?_
  intro κ C hn E hi
  have hr := st_room h2.1
  have hp := st_press h2
  have hmo := st_most h2.1
  have hle := st_least h2.1
  have hrb := rate_b (b := b) h2
  have hst := h2.1
  unfold StO0 at hst
  refine y_aload_n (pc := 0) C dX5_rateOf_0 0 rfl ?_
  refine y_iload_n (pc := 1) C dX5_rateOf_1 1 rfl ?_
  refine y_callV (pc := 2) (As := [_]) C E.2.1 cv_X5_119 (ci := 6) rfl rfl (mt_pressureOf _ (by omega) h2.1) (fun h hh => ⟨_, hh.1⟩) rfl rfl (Nat.le_of_ble_eq_true rfl) ⟨by decide, by decide, by decide, by decide⟩ dX5_rateOf_2 ⟨rfl, rfl⟩ ?_
  refine y_istore_n (pc := 5) (L' := [(3, _), (0, _), (1, _), (2, _)]) C dX5_rateOf_5 (by rw [hn]; decide) rfl ?_
  refine y_joinI (pcj := 29) (P := fun q => q = byZ σ k b) (fun v1 hv1 => ?_) (fun J1 => ?_)
  · skip
    subst hv1
    refine y_istore (pc := 29) (L' := [(4, _), (3, _), (0, _), (1, _), (2, _)]) C dX5_rateOf_29 (by rw [hn]; decide) rfl ?_
    refine y_joinI (pcj := 80) (P := fun q => q = mstZ σ k b) (fun v2 hv2 => ?_) (fun J2 => ?_)
    · skip
      subst hv2
      refine y_istore (pc := 80) (L' := [(5, _), (4, _), (3, _), (0, _), (1, _), (2, _)]) C dX5_rateOf_80 (by rw [hn]; decide) rfl ?_
      refine y_iload (pc := 82) C dX5_rateOf_82 1 rfl ?_
      refine y_if_le (pc := 84) (tgt := 92) C dX5_rateOf_84 (by decide) (by omega) (by omega) (fun c84 => ?_) (fun c84 => ?_)
      · skip
        have e0 : rateZ σ k b = 0 := if_pos (by omega)
        refine y_iconst (pc := 92) C dX5_rateOf_92 ?_
        exact y_iret (pc := 93) C E dX5_rateOf_93 (by decide) (by decide) (fun h hh => ⟨by rw [e0], hh⟩)
      · skip
        refine y_iload (pc := 87) C dX5_rateOf_87 0 rfl ?_
        refine y_if_gt (pc := 89) (tgt := 94) C dX5_rateOf_89 (by decide) (by omega) (by omega) (fun c89 => ?_) (fun c89 => ?_)
        · skip
          have m1 := mulb (by omega : 0 ≤ σ 10 k) (by omega : σ 10 k ≤ 100) (by omega : 0 ≤ σ 11 k) (by omega : σ 11 k ≤ 1000)
          have m2 := mulb m1.1 m1.2 (by omega : 0 ≤ byZ σ k b) (by omega : byZ σ k b ≤ 1000)
          refine y_aload_n (pc := 94) C dX5_rateOf_94 3 rfl ?_
          refine y_get (pc := 95) C fg_X5_31 dX5_rateOf_95 (fun h hh => ⟨_, hh.1, rfl⟩) ?_
          refine y_iload_n (pc := 98) C dX5_rateOf_98 4 rfl ?_
          refine m_iald (pc := 99) C 10 _ rfl rfl (by show _ < 5; omega) dX5_rateOf_99 ?_
          refine y_i2l (pc := 100) C dX5_rateOf_100 (by omega) (by omega) ?_
          refine y_aload_n (pc := 101) C dX5_rateOf_101 3 rfl ?_
          refine y_get (pc := 102) C fg_X5_34 dX5_rateOf_102 (fun h hh => ⟨_, hh.1, rfl⟩) ?_
          refine y_iload_n (pc := 105) C dX5_rateOf_105 4 rfl ?_
          refine m_iald (pc := 106) C 11 _ rfl rfl (by show _ < 5; omega) dX5_rateOf_106 ?_
          refine y_i2l (pc := 107) C dX5_rateOf_107 (by omega) (by omega) ?_
          refine y_lmul (pc := 108) C dX5_rateOf_108 ?_
          refine y_iload (pc := 109) C dX5_rateOf_109 1 rfl ?_
          refine y_i2l (pc := 111) C dX5_rateOf_111 (by omega) (by omega) ?_
          refine y_lmul (pc := 112) C dX5_rateOf_112 ?_
          refine y_ldc2 (pc := 113) (z := 100) C aw_4_214 (by decide) dX5_rateOf_113 ?_
          refine y_ldivP (pc := 116) C dX5_rateOf_116 (by omega) (by omega) (by omega) (by omega) ?_
          refine y_lstore (pc := 117) (L' := [(6, _), (5, _), (4, _), (3, _), (0, _), (1, _), (2, _)]) C dX5_rateOf_117 (by rw [hn]; decide) rfl ?_
          refine y_joinI (pcj := 136) (P := fun q => q = rateZ σ k b) (fun v3 hv3 => ?_) (fun J3 => ?_)
          · skip
            subst hv3
            exact y_iret (pc := 136) C E dX5_rateOf_136 (by decide) (by decide) (fun h hh => ⟨rfl, hh⟩)
          · skip
            refine y_lload (pc := 119) C dX5_rateOf_119 0 rfl ?_
            refine y_iload (pc := 121) C dX5_rateOf_121 1 rfl ?_
            refine y_i2l (pc := 123) C dX5_rateOf_123 (by omega) (by omega) ?_
            refine y_lcmp_ge (pc := 124) (tgt := 134) C dX5_rateOf_124 dX5_rateOf_125 (by decide) (by omega) (by omega) (by omega) (by omega) (fun c124 => ?_) (fun c124 => ?_)
            · skip
              refine y_iload (pc := 134) C dX5_rateOf_134 1 rfl ?_
              exact J3 _ (by have e : rateZ σ k b = min (σ 10 k * σ 11 k * byZ σ k b / 100) (mstZ σ k b) := if_neg (by omega); omega)
            · skip
              refine y_lload (pc := 128) C dX5_rateOf_128 0 rfl ?_
              refine y_l2i (pc := 130) C dX5_rateOf_130 ?_
              refine y_goto (pc := 131) (tgt := 136) C dX5_rateOf_131 (by decide) ?_
              exact J3 _ (by have e : rateZ σ k b = min (σ 10 k * σ 11 k * byZ σ k b / 100) (mstZ σ k b) := if_neg (by omega); omega)
        · skip
          have e0 : rateZ σ k b = 0 := if_pos (by omega)
          refine y_iconst (pc := 92) C dX5_rateOf_92 ?_
          exact y_iret (pc := 93) C E dX5_rateOf_93 (by decide) (by decide) (fun h hh => ⟨by rw [e0], hh⟩)
    · skip
      refine y_iload_n (pc := 31) C dX5_rateOf_31 4 rfl ?_
      refine y_ifb_eq (pc := 32) (tgt := 59) C dX5_rateOf_32 (by decide) (fun c32 => ?_) (fun c32 => ?_)
      · skip
        refine y_aload_n (pc := 59) C dX5_rateOf_59 2 rfl ?_
        refine y_get (pc := 60) C fg_X5_19 dX5_rateOf_60 (fun h hh => ⟨_, hh.1, rfl⟩) ?_
        refine y_iload_n (pc := 63) C dX5_rateOf_63 3 rfl ?_
        refine m_iald (pc := 64) C 6 _ rfl rfl (by show _ < 5; omega) dX5_rateOf_64 ?_
        refine y_aload_n (pc := 65) C dX5_rateOf_65 2 rfl ?_
        refine y_get (pc := 66) C fg_X5_22 dX5_rateOf_66 (fun h hh => ⟨_, hh.1, rfl⟩) ?_
        refine y_iload_n (pc := 69) C dX5_rateOf_69 3 rfl ?_
        refine m_iald (pc := 70) C 7 _ rfl rfl (by show _ < 5; omega) dX5_rateOf_70 ?_
        refine y_aload_n (pc := 71) C dX5_rateOf_71 2 rfl ?_
        refine y_iload_n (pc := 72) C dX5_rateOf_72 3 rfl ?_
        refine y_callV (pc := 73) (As := [_]) C E.2.1 cv_X5_115 (ci := 6) rfl rfl (mt_roomOf _ (by omega)) (fun h hh => ⟨_, hh.1⟩) rfl rfl (Nat.le_of_ble_eq_true rfl) ⟨by decide, by decide, by decide, by decide⟩ dX5_rateOf_73 ⟨rfl, rfl⟩ ?_
        refine y_callS (pc := 76) (As := [_, _]) C E.2.1 cs_X5_126 (mt_leastGas _ _ ⟨by omega, by omega⟩ ⟨by omega, by omega⟩) rfl rfl (Nat.le_of_ble_eq_true rfl) ⟨by decide, by decide, by decide, by decide⟩ dX5_rateOf_76 ⟨rfl, rfl⟩ ?_
        refine y_isub (pc := 79) C dX5_rateOf_79 ?_
        exact J2 _ (by subst c32; rfl)
      · skip
        refine y_aload_n (pc := 35) C dX5_rateOf_35 2 rfl ?_
        refine y_get (pc := 36) C fg_X5_25 dX5_rateOf_36 (fun h hh => ⟨_, hh.1, rfl⟩) ?_
        refine y_iload_n (pc := 39) C dX5_rateOf_39 3 rfl ?_
        refine m_iald (pc := 40) C 8 _ rfl rfl (by show _ < 5; omega) dX5_rateOf_40 ?_
        refine y_aload_n (pc := 41) C dX5_rateOf_41 2 rfl ?_
        refine y_iload_n (pc := 42) C dX5_rateOf_42 3 rfl ?_
        refine y_callV (pc := 43) (As := [_]) C E.2.1 cv_X5_115 (ci := 6) rfl rfl (mt_roomOf _ (by omega)) (fun h hh => ⟨_, hh.1⟩) rfl rfl (Nat.le_of_ble_eq_true rfl) ⟨by decide, by decide, by decide, by decide⟩ dX5_rateOf_43 ⟨rfl, rfl⟩ ?_
        refine y_callS (pc := 46) (As := [_, _]) C E.2.1 cs_X5_122 (mt_mostGas _ _ ⟨by omega, by omega⟩ ⟨by omega, by omega⟩) rfl rfl (Nat.le_of_ble_eq_true rfl) ⟨by decide, by decide, by decide, by decide⟩ dX5_rateOf_46 ⟨rfl, rfl⟩ ?_
        refine y_aload_n (pc := 49) C dX5_rateOf_49 2 rfl ?_
        refine y_get (pc := 50) C fg_X5_19 dX5_rateOf_50 (fun h hh => ⟨_, hh.1, rfl⟩) ?_
        refine y_iload_n (pc := 53) C dX5_rateOf_53 3 rfl ?_
        refine m_iald (pc := 54) C 6 _ rfl rfl (by show _ < 5; omega) dX5_rateOf_54 ?_
        refine y_isub (pc := 55) C dX5_rateOf_55 ?_
        refine y_goto (pc := 56) (tgt := 80) C dX5_rateOf_56 (by decide) ?_
        exact J2 _ (by subst c32; rfl)
  · skip
    refine y_iload_n (pc := 6) C dX5_rateOf_6 3 rfl ?_
    refine y_ifb_eq (pc := 7) (tgt := 21) C dX5_rateOf_7 (by decide) (fun c7 => ?_) (fun c7 => ?_)
    · skip
      refine y_iload_n (pc := 21) C dX5_rateOf_21 0 rfl ?_
      refine y_aload_n (pc := 22) C dX5_rateOf_22 1 rfl ?_
      refine y_get (pc := 23) C fg_X5_22 dX5_rateOf_23 (fun h hh => ⟨_, hh.1, rfl⟩) ?_
      refine y_iload_n (pc := 26) C dX5_rateOf_26 2 rfl ?_
      refine m_iald (pc := 27) C 7 _ rfl rfl (by show _ < 5; omega) dX5_rateOf_27 ?_
      refine y_isub (pc := 28) C dX5_rateOf_28 ?_
      exact J1 _ (by subst c7; rfl)
    · skip
      refine y_aload_n (pc := 10) C dX5_rateOf_10 1 rfl ?_
      refine y_get (pc := 11) C fg_X5_25 dX5_rateOf_11 (fun h hh => ⟨_, hh.1, rfl⟩) ?_
      refine y_iload_n (pc := 14) C dX5_rateOf_14 2 rfl ?_
      refine m_iald (pc := 15) C 8 _ rfl rfl (by show _ < 5; omega) dX5_rateOf_15 ?_
      refine y_iload_n (pc := 16) C dX5_rateOf_16 0 rfl ?_
      refine y_isub (pc := 17) C dX5_rateOf_17 ?_
      refine y_goto (pc := 18) (tgt := 29) C dX5_rateOf_18 (by decide) ?_
      exact J1 _ (by subst c7; rfl)

set_option maxRecDepth 20000 in
theorem mt_rateWith {Ω : OmT} {hR : AH} {M : Nat} {ma : Nat → Nat} {σ : ZT} {τ : JT} (c : Nat) (has : Int) (b : Bool) (h1 : c < 6) (h2 : CuOk σ c) (h3 : 0 ≤ has ∧ has ≤ 1000000) : Ct Ω yX5_rateWith cX5_rateWith 4 (some FieldType.int) (rk 1) [.ref M, .int (iv c), .int (iv has), .int (iv (bz b))] (InvM Ω M ma σ τ) hR (RV (.int (iv (if b = true then rinZ σ c has else routZ σ c has))) (InvM Ω M ma σ τ)) NX := by
  refine Ct.of (own := RX5) (L := [(0, _), (1, _), (2, _), (3, _)]) (by decide +kernel) rfl (Nat.le_of_ble_eq_true rfl) rfl ?_
  intro κ C hn E hi
  have hc := h2
  unfold CuOk at hc
  refine y_iload_n (pc := 0) C dX5_rateWith_0 3 rfl ?_
  refine y_ifb_eq (pc := 1) (tgt := 43) C dX5_rateWith_1 (by decide) (fun c1 => ?_) (fun c1 => ?_)
  · skip
    refine y_joinI (pcj := 77) (P := fun q => q = routZ σ c has) (fun v1 hv1 => ?_) (fun J1 => ?_)
    · skip
      subst hv1
      exact y_iret (pc := 77) C E dX5_rateWith_77 (by decide) (by decide) (fun h hh => ⟨by subst c1; rfl, hh⟩)
    · skip
      refine y_ldc2 (pc := 43) (z := 3) C aw_5_33 (by decide) dX5_rateWith_43 ?_
      refine y_iload_n (pc := 46) C dX5_rateWith_46 2 rfl ?_
      refine y_i2l (pc := 47) C dX5_rateWith_47 (by omega) (by omega) ?_
      refine y_lmul (pc := 48) C dX5_rateWith_48 ?_
      refine y_aload_n (pc := 49) C dX5_rateWith_49 0 rfl ?_
      refine y_get (pc := 50) C fg_X5_51 dX5_rateWith_50 (fun h hh => ⟨_, hh.1, rfl⟩) ?_
      refine y_iload_n (pc := 53) C dX5_rateWith_53 1 rfl ?_
      refine m_iald (pc := 54) C 17 _ rfl rfl (by show _ < 6; omega) dX5_rateWith_54 ?_
      refine y_i2l (pc := 55) C dX5_rateWith_55 (by omega) (by omega) ?_
      refine y_lcmp_ge (pc := 56) (tgt := 71) C dX5_rateWith_56 dX5_rateWith_57 (by decide) (by omega) (by omega) (by omega) (by omega) (fun c56 => ?_) (fun c56 => ?_)
      · skip
        refine y_aload_n (pc := 71) C dX5_rateWith_71 0 rfl ?_
        refine y_get (pc := 72) C fg_X5_57 dX5_rateWith_72 (fun h hh => ⟨_, hh.1, rfl⟩) ?_
        refine y_iload_n (pc := 75) C dX5_rateWith_75 1 rfl ?_
        refine m_iald (pc := 76) C 19 _ rfl rfl (by show _ < 6; omega) dX5_rateWith_76 ?_
        exact J1 _ (by unfold routZ; split <;> first | rfl | (exfalso; omega))
      · skip
        refine y_aload_n (pc := 60) C dX5_rateWith_60 0 rfl ?_
        refine y_get (pc := 61) C fg_X5_57 dX5_rateWith_61 (fun h hh => ⟨_, hh.1, rfl⟩) ?_
        refine y_iload_n (pc := 64) C dX5_rateWith_64 1 rfl ?_
        refine m_iald (pc := 65) C 19 _ rfl rfl (by show _ < 6; omega) dX5_rateWith_65 ?_
        refine y_iconst (pc := 66) C dX5_rateWith_66 ?_
        refine y_idivP (pc := 67) C dX5_rateWith_67 (by omega) (by omega) (by omega) (by omega) ?_
        refine y_goto (pc := 68) (tgt := 77) C dX5_rateWith_68 (by decide) ?_
        exact J1 _ (by unfold routZ; split <;> first | rfl | (exfalso; omega))
  · skip
    refine y_joinI (pcj := 42) (P := fun q => q = rinZ σ c has) (fun v2 hv2 => ?_) (fun J2 => ?_)
    · skip
      subst hv2
      exact y_iret (pc := 42) C E dX5_rateWith_42 (by decide) (by decide) (fun h hh => ⟨by subst c1; rfl, hh⟩)
    · skip
      refine y_ldc2 (pc := 4) (z := 3) C aw_5_33 (by decide) dX5_rateWith_4 ?_
      refine y_iload_n (pc := 7) C dX5_rateWith_7 2 rfl ?_
      refine y_i2l (pc := 8) C dX5_rateWith_8 (by omega) (by omega) ?_
      refine y_lmul (pc := 9) C dX5_rateWith_9 ?_
      refine y_ldc2 (pc := 10) (z := 2) C aw_5_34 (by decide) dX5_rateWith_10 ?_
      refine y_aload_n (pc := 13) C dX5_rateWith_13 0 rfl ?_
      refine y_get (pc := 14) C fg_X5_51 dX5_rateWith_14 (fun h hh => ⟨_, hh.1, rfl⟩) ?_
      refine y_iload_n (pc := 17) C dX5_rateWith_17 1 rfl ?_
      refine m_iald (pc := 18) C 17 _ rfl rfl (by show _ < 6; omega) dX5_rateWith_18 ?_
      refine y_i2l (pc := 19) C dX5_rateWith_19 (by omega) (by omega) ?_
      refine y_lmul (pc := 20) C dX5_rateWith_20 ?_
      refine y_lcmp_le (pc := 21) (tgt := 36) C dX5_rateWith_21 dX5_rateWith_22 (by decide) (by omega) (by omega) (by omega) (by omega) (fun c21 => ?_) (fun c21 => ?_)
      · skip
        refine y_aload_n (pc := 36) C dX5_rateWith_36 0 rfl ?_
        refine y_get (pc := 37) C fg_X5_54 dX5_rateWith_37 (fun h hh => ⟨_, hh.1, rfl⟩) ?_
        refine y_iload_n (pc := 40) C dX5_rateWith_40 1 rfl ?_
        refine m_iald (pc := 41) C 18 _ rfl rfl (by show _ < 6; omega) dX5_rateWith_41 ?_
        exact J2 _ (by unfold rinZ; split <;> first | rfl | (exfalso; omega))
      · skip
        refine y_aload_n (pc := 25) C dX5_rateWith_25 0 rfl ?_
        refine y_get (pc := 26) C fg_X5_54 dX5_rateWith_26 (fun h hh => ⟨_, hh.1, rfl⟩) ?_
        refine y_iload_n (pc := 29) C dX5_rateWith_29 1 rfl ?_
        refine m_iald (pc := 30) C 18 _ rfl rfl (by show _ < 6; omega) dX5_rateWith_30 ?_
        refine y_iconst (pc := 31) C dX5_rateWith_31 ?_
        refine y_idivP (pc := 32) C dX5_rateWith_32 (by omega) (by omega) (by omega) (by omega) ?_
        refine y_goto (pc := 33) (tgt := 42) C dX5_rateWith_33 (by decide) ?_
        exact J2 _ (by unfold rinZ; split <;> first | rfl | (exfalso; omega))

set_option maxRecDepth 20000 in
theorem mt_loses {Ω : OmT} {hR : AH} {M : Nat} {ma : Nat → Nat} {σ : ZT} {τ : JT} (k : Nat) (u : Int) (h1 : k < 5) (h2 : -2147483648 ≤ u ∧ u < 2147483648) (h3 : 0 ≤ σ 6 k ∧ σ 6 k < 2147483648) : Ct Ω yX5_loses cX5_loses 3 none (rk 1) [.ref M, .int (iv k), .int (iv u)] (InvM Ω M ma σ τ) hR (RU (InvM Ω M ma (losP k u (σ, τ)).1 (losP k u (σ, τ)).2)) NX := by
  refine Ct.of (own := RX5) (L := [(0, _), (1, _), (2, _)]) (by decide +kernel) rfl (Nat.le_of_ble_eq_true rfl) rfl ?_
  intro κ C hn E hi
  refine y_aload_n (pc := 0) C dX5_loses_0 0 rfl ?_
  refine y_get (pc := 1) C fg_X5_40 dX5_loses_1 (fun h hh => ⟨_, hh.1, rfl⟩) ?_
  refine y_iload_n (pc := 4) C dX5_loses_4 1 rfl ?_
  refine y_dup2 (pc := 5) C dX5_loses_5 rfl rfl ?_
  refine m_lald (pc := 6) C 13 _ rfl rfl (by show _ < 5; omega) dX5_loses_6 ?_
  refine y_joinJ (pcj := 37) (P := fun q => q = lossJ σ τ k u) (fun v1 hv1 => ?_) (fun J1 => ?_)
  · skip
    subst hv1
    refine y_lsubR (pc := 37) C dX5_loses_37 ?_
    refine m_last (pc := 38) C 13 _ rfl rfl (by show _ < 5; omega) dX5_loses_38 ?_
    refine y_aload_n (pc := 39) C dX5_loses_39 0 rfl ?_
    refine y_get (pc := 40) C fg_X5_19 dX5_loses_40 (fun h hh => ⟨_, hh.1, rfl⟩) ?_
    refine y_iload_n (pc := 43) C dX5_loses_43 1 rfl ?_
    refine y_dup2 (pc := 44) C dX5_loses_44 rfl rfl ?_
    refine m_iald (pc := 45) C 6 _ rfl rfl (by show _ < 5; omega) dX5_loses_45 ?_
    refine y_iload_n (pc := 46) C dX5_loses_46 2 rfl ?_
    refine y_isub (pc := 47) C dX5_loses_47 ?_
    refine m_iast (pc := 48) C 6 _ rfl rfl (by show _ < 5; omega) dX5_loses_48 ?_
    exact y_vret (pc := 49) C E dX5_loses_49 (by decide) (by decide) (fun h hh => ⟨rfl, hh⟩)
  · skip
    refine y_aload_n (pc := 7) C dX5_loses_7 0 rfl ?_
    refine y_get (pc := 8) C fg_X5_19 dX5_loses_8 (fun h hh => ⟨_, hh.1, rfl⟩) ?_
    refine y_iload_n (pc := 11) C dX5_loses_11 1 rfl ?_
    refine m_iald (pc := 12) C 6 _ rfl rfl (by show _ < 5; omega) dX5_loses_12 ?_
    refine y_if_ne (pc := 13) (tgt := 20) C dX5_loses_13 (by decide) (by omega) (by omega) (fun c13 => ?_) (fun c13 => ?_)
    · skip
      refine y_iload_n (pc := 20) C dX5_loses_20 2 rfl ?_
      refine y_i2l (pc := 21) C dX5_loses_21 (by omega) (by omega) ?_
      refine y_aload_n (pc := 22) C dX5_loses_22 0 rfl ?_
      refine y_get (pc := 23) C fg_X5_40 dX5_loses_23 (fun h hh => ⟨_, hh.1, rfl⟩) ?_
      refine y_iload_n (pc := 26) C dX5_loses_26 1 rfl ?_
      refine m_lald (pc := 27) C 13 _ rfl rfl (by show _ < 5; omega) dX5_loses_27 ?_
      refine y_lmulR (pc := 28) C dX5_loses_28 ?_
      refine y_aload_n (pc := 29) C dX5_loses_29 0 rfl ?_
      refine y_get (pc := 30) C fg_X5_19 dX5_loses_30 (fun h hh => ⟨_, hh.1, rfl⟩) ?_
      refine y_iload_n (pc := 33) C dX5_loses_33 1 rfl ?_
      refine m_iald (pc := 34) C 6 _ rfl rfl (by show _ < 5; omega) dX5_loses_34 ?_
      refine y_i2l (pc := 35) C dX5_loses_35 (by omega) (by omega) ?_
      refine y_ldivR (pc := 36) C dX5_loses_36 (by rw [← jv_0, jv_eq (by omega) (by omega) (by decide) (by decide)]; exact c13) ?_
      exact J1 _ (by unfold lossJ; rw [if_neg c13])
    · skip
      refine y_lconst (pc := 16) (z := 0) C dX5_loses_16 (by decide) ?_
      refine y_goto (pc := 17) (tgt := 37) C dX5_loses_17 (by decide) ?_
      exact J1 _ (by unfold lossJ; rw [if_pos c13])

set_option maxRecDepth 20000 in
theorem mt_gets {Ω : OmT} {hR : AH} {M : Nat} {ma : Nat → Nat} {σ : ZT} {τ : JT} (k : Nat) (u : Int) (h1 : k < 5) (h2 : -2147483648 ≤ u ∧ u < 2147483648) (h3 : -2147483648 ≤ σ 15 0 ∧ σ 15 0 < 2147483648) : Ct Ω yX5_gets cX5_gets 3 none (rk 1) [.ref M, .int (iv k), .int (iv u)] (InvM Ω M ma σ τ) hR (RU (InvM Ω M ma (getP k u (σ, τ)).1 (getP k u (σ, τ)).2)) NX := by
  refine Ct.of (own := RX5) (L := [(0, _), (1, _), (2, _)]) (by decide +kernel) rfl (Nat.le_of_ble_eq_true rfl) rfl ?_
  intro κ C hn E hi
  refine y_aload_n (pc := 0) C dX5_gets_0 0 rfl ?_
  refine y_get (pc := 1) C fg_X5_19 dX5_gets_1 (fun h hh => ⟨_, hh.1, rfl⟩) ?_
  refine y_iload_n (pc := 4) C dX5_gets_4 1 rfl ?_
  refine y_dup2 (pc := 5) C dX5_gets_5 rfl rfl ?_
  refine m_iald (pc := 6) C 6 _ rfl rfl (by show _ < 5; omega) dX5_gets_6 ?_
  refine y_iload_n (pc := 7) C dX5_gets_7 2 rfl ?_
  refine y_iadd (pc := 8) C dX5_gets_8 ?_
  refine m_iast (pc := 9) C 6 _ rfl rfl (by show _ < 5; omega) dX5_gets_9 ?_
  refine y_aload_n (pc := 10) C dX5_gets_10 0 rfl ?_
  refine y_get (pc := 11) C fg_X5_40 dX5_gets_11 (fun h hh => ⟨_, hh.1, rfl⟩) ?_
  refine y_iload_n (pc := 14) C dX5_gets_14 1 rfl ?_
  refine y_dup2 (pc := 15) C dX5_gets_15 rfl rfl ?_
  refine m_lald (pc := 16) C 13 _ rfl rfl (by show _ < 5; omega) dX5_gets_16 ?_
  refine y_iload_n (pc := 17) C dX5_gets_17 2 rfl ?_
  refine y_i2l (pc := 18) C dX5_gets_18 (by omega) (by omega) ?_
  refine y_aload_n (pc := 19) C dX5_gets_19 0 rfl ?_
  refine y_get (pc := 20) C fg_X5_47 dX5_gets_20 (fun h hh => ⟨_, hh.1, rfl⟩) ?_
  refine y_i2l (pc := 23) C dX5_gets_23 (by show _ ≤ σ 15 0; omega) (by show σ 15 0 < _; omega) ?_
  refine y_lmul (pc := 24) C dX5_gets_24 ?_
  refine y_laddR (pc := 25) C dX5_gets_25 ?_
  refine m_last (pc := 26) C 13 _ rfl rfl (by show _ < 5; omega) dX5_gets_26 ?_
  exact y_vret (pc := 27) C E dX5_gets_27 (by decide) (by decide) (fun h hh => ⟨rfl, hh⟩)

set_option maxRecDepth 20000 in
theorem mt_isLost {Ω : OmT} {hR : AH} {M : Nat} {ma : Nat → Nat} {σ : ZT} {τ : JT} (k : Nat) (u : Int) (h1 : k < 5) (h2 : -2147483648 ≤ u ∧ u < 2147483648) (h3 : 0 ≤ σ 6 k ∧ σ 6 k < 2147483648) : Ct Ω yX5_isLost cX5_isLost 3 none (rk 2) [.ref M, .int (iv k), .int (iv u)] (InvM Ω M ma σ τ) hR (RU (InvM Ω M ma (lstP k u (σ, τ)).1 (lstP k u (σ, τ)).2)) NX := by
  refine Ct.of (own := RX5) (L := [(0, _), (1, _), (2, _)]) (by decide +kernel) rfl (Nat.le_of_ble_eq_true rfl) rfl ?_
  intro κ C hn E hi
  refine y_aload_n (pc := 0) C dX5_isLost_0 0 rfl ?_
  refine y_iload_n (pc := 1) C dX5_isLost_1 1 rfl ?_
  refine y_iload_n (pc := 2) C dX5_isLost_2 2 rfl ?_
  refine y_callVv (pc := 3) (As := [_, _]) C E.2.1 cv_X5_199 (ci := 6) rfl rfl (mt_loses _ _ (by omega) ⟨by omega, by omega⟩ ⟨by omega, by omega⟩) (fun h hh => ⟨_, hh.1⟩) rfl rfl (Nat.le_of_ble_eq_true rfl) ⟨by decide, by decide, by decide, by decide⟩ dX5_isLost_3 ⟨rfl, rfl⟩ ?_
  refine y_aload_n (pc := 6) C dX5_isLost_6 0 rfl ?_
  refine y_dup (pc := 7) C dX5_isLost_7 rfl ?_
  refine y_get (pc := 8) C fg_X5_203 dX5_isLost_8 (fun h hh => ⟨_, hh.1, rfl⟩) ?_
  refine y_iload_n (pc := 11) C dX5_isLost_11 2 rfl ?_
  refine y_i2l (pc := 12) C dX5_isLost_12 (by omega) (by omega) ?_
  refine y_laddR (pc := 13) C dX5_isLost_13 ?_
  refine m_putJ (pc := 14) C 35 rfl fp_X5_203 dX5_isLost_14 ?_
  exact y_vret (pc := 17) C E dX5_isLost_17 (by decide) (by decide) (fun h hh => ⟨rfl, hh⟩)

set_option maxRecDepth 20000 in
theorem mt_leaks {Ω : OmT} {hR : AH} {M : Nat} {ma : Nat → Nat} {σ : ZT} {τ : JT} (k : Nat) (h1 : k < 5) (h2 : StOk σ k) : Ct Ω yX5_leaks cX5_leaks 2 none (rk 3) [.ref M, .int (iv k)] (InvM Ω M ma σ τ) hR (RU (InvM Ω M ma (leakP k (σ, τ)).1 (leakP k (σ, τ)).2)) NX := by
  refine Ct.of (own := RX5) (L := [(0, _), (1, _)]) (by decide +kernel) rfl (Nat.le_of_ble_eq_true rfl) rfl ?_
  intro κ C hn E hi
  have hst := h2.1
  unfold StO0 at hst
  refine y_aload_n (pc := 0) C dX5_leaks_0 0 rfl ?_
  refine y_iload_n (pc := 1) C dX5_leaks_1 1 rfl ?_
  refine y_aload_n (pc := 2) C dX5_leaks_2 0 rfl ?_
  refine y_get (pc := 3) C fg_X5_37 dX5_leaks_3 (fun h hh => ⟨_, hh.1, rfl⟩) ?_
  refine y_iload_n (pc := 6) C dX5_leaks_6 1 rfl ?_
  refine m_iald (pc := 7) C 12 _ rfl rfl (by show _ < 5; omega) dX5_leaks_7 ?_
  refine y_aload_n (pc := 8) C dX5_leaks_8 0 rfl ?_
  refine y_get (pc := 9) C fg_X5_19 dX5_leaks_9 (fun h hh => ⟨_, hh.1, rfl⟩) ?_
  refine y_iload_n (pc := 12) C dX5_leaks_12 1 rfl ?_
  refine m_iald (pc := 13) C 6 _ rfl rfl (by show _ < 5; omega) dX5_leaks_13 ?_
  refine y_callS (pc := 14) (As := [_, _]) C E.2.1 cs_X5_162 (mt_lesser _ _ ⟨by omega, by omega⟩ ⟨by omega, by omega⟩) rfl rfl (Nat.le_of_ble_eq_true rfl) ⟨by decide, by decide, by decide, by decide⟩ dX5_leaks_14 ⟨rfl, rfl⟩ ?_
  refine y_callVv (pc := 17) (As := [_, _]) C E.2.1 cv_X5_212 (ci := 6) rfl rfl (mt_isLost _ _ (by omega) ⟨by omega, by omega⟩ ⟨by omega, by omega⟩) (fun h hh => ⟨_, hh.1⟩) rfl rfl (Nat.le_of_ble_eq_true rfl) ⟨by decide, by decide, by decide, by decide⟩ dX5_leaks_17 ⟨rfl, rfl⟩ ?_
  generalize hs_σ1 : (lstP k (min (σ 12 k) (σ 6 k)) (σ, τ)).1 = σ1
  generalize ht_τ1 : (lstP k (min (σ 12 k) (σ 6 k)) (σ, τ)).2 = τ1
  have e3 : σ1 3 k = σ 3 k := by rw [← hs_σ1]; rfl
  have e6 : σ1 6 k = σ 6 k - min (σ 12 k) (σ 6 k) := by rw [← hs_σ1]; show zu σ 6 k (σ 6 k - min (σ 12 k) (σ 6 k)) 6 k = _; exact zu_s
  have e9 : σ1 9 k = σ 9 k := by rw [← hs_σ1]; rfl
  have e2 : lstP k (min (σ 12 k) (σ 6 k)) (σ, τ) = (σ1, τ1) := by rw [← hs_σ1, ← ht_τ1]
  refine y_aload_n (pc := 20) C dX5_leaks_20 0 rfl ?_
  refine y_get (pc := 21) C fg_X5_7 dX5_leaks_21 (fun h hh => ⟨_, hh.1, rfl⟩) ?_
  refine y_iload_n (pc := 24) C dX5_leaks_24 1 rfl ?_
  refine m_iald (pc := 25) C 3 _ rfl rfl (by show _ < 5; omega) dX5_leaks_25 ?_
  refine y_iconst (pc := 26) C dX5_leaks_26 ?_
  refine y_icmp_ne (pc := 27) (tgt := 63) C dX5_leaks_27 (by decide) (by omega) (by omega) (by omega) (by omega) (fun c27 => ?_) (fun c27 => ?_)
  · skip
    exact y_vret (pc := 63) C E dX5_leaks_63 (by decide) (by decide) (fun h hh => ⟨rfl, by rw [show leakP k (σ, τ) = lstP k (min (σ 12 k) (σ 6 k)) (σ, τ) from if_neg (by show ¬ (σ 3 k = 2 ∧ σ 9 k < σ 6 k - min (σ 12 k) (σ 6 k)); omega), e2]; exact hh⟩)
  · skip
    refine y_aload_n (pc := 30) C dX5_leaks_30 0 rfl ?_
    refine y_get (pc := 31) C fg_X5_19 dX5_leaks_31 (fun h hh => ⟨_, hh.1, rfl⟩) ?_
    refine y_iload_n (pc := 34) C dX5_leaks_34 1 rfl ?_
    refine m_iald (pc := 35) C 6 _ rfl rfl (by show _ < 5; omega) dX5_leaks_35 ?_
    refine y_aload_n (pc := 36) C dX5_leaks_36 0 rfl ?_
    refine y_get (pc := 37) C fg_X5_28 dX5_leaks_37 (fun h hh => ⟨_, hh.1, rfl⟩) ?_
    refine y_iload_n (pc := 40) C dX5_leaks_40 1 rfl ?_
    refine m_iald (pc := 41) C 9 _ rfl rfl (by show _ < 5; omega) dX5_leaks_41 ?_
    refine y_icmp_le (pc := 42) (tgt := 63) C dX5_leaks_42 (by decide) (by omega) (by omega) (by omega) (by omega) (fun c42 => ?_) (fun c42 => ?_)
    · skip
      exact y_vret (pc := 63) C E dX5_leaks_63 (by decide) (by decide) (fun h hh => ⟨rfl, by rw [show leakP k (σ, τ) = lstP k (min (σ 12 k) (σ 6 k)) (σ, τ) from if_neg (by show ¬ (σ 3 k = 2 ∧ σ 9 k < σ 6 k - min (σ 12 k) (σ 6 k)); omega), e2]; exact hh⟩)
    · skip
      refine y_aload_n (pc := 45) C dX5_leaks_45 0 rfl ?_
      refine y_iload_n (pc := 46) C dX5_leaks_46 1 rfl ?_
      refine y_aload_n (pc := 47) C dX5_leaks_47 0 rfl ?_
      refine y_get (pc := 48) C fg_X5_19 dX5_leaks_48 (fun h hh => ⟨_, hh.1, rfl⟩) ?_
      refine y_iload_n (pc := 51) C dX5_leaks_51 1 rfl ?_
      refine m_iald (pc := 52) C 6 _ rfl rfl (by show _ < 5; omega) dX5_leaks_52 ?_
      refine y_aload_n (pc := 53) C dX5_leaks_53 0 rfl ?_
      refine y_get (pc := 54) C fg_X5_28 dX5_leaks_54 (fun h hh => ⟨_, hh.1, rfl⟩) ?_
      refine y_iload_n (pc := 57) C dX5_leaks_57 1 rfl ?_
      refine m_iald (pc := 58) C 9 _ rfl rfl (by show _ < 5; omega) dX5_leaks_58 ?_
      refine y_isub (pc := 59) C dX5_leaks_59 ?_
      refine y_callVv (pc := 60) (As := [_, _]) C E.2.1 cv_X5_212 (ci := 6) rfl rfl (mt_isLost _ _ (by omega) ⟨by omega, by omega⟩ ⟨by omega, by omega⟩) (fun h hh => ⟨_, hh.1⟩) rfl rfl (Nat.le_of_ble_eq_true rfl) ⟨by decide, by decide, by decide, by decide⟩ dX5_leaks_60 ⟨rfl, rfl⟩ ?_
      exact y_vret (pc := 63) C E dX5_leaks_63 (by decide) (by decide) (fun h hh => ⟨rfl, by rw [show leakP k (σ, τ) = lstP k (σ 6 k - min (σ 12 k) (σ 6 k) - σ 9 k) (lstP k (min (σ 12 k) (σ 6 k)) (σ, τ)) from if_pos (by show σ 3 k = 2 ∧ σ 9 k < σ 6 k - min (σ 12 k) (σ 6 k); omega), e2, ← e6, ← e9]; exact hh⟩)

set_option maxRecDepth 20000 in
theorem mt_endsDay {Ω : OmT} {hR : AH} {M : Nat} {ma : Nat → Nat} {σ : ZT} {τ : JT} (k : Nat) (h1 : k < 5) (h2 : StOk σ k) : Ct Ω yX5_endsDay cX5_endsDay 5 none (rk 3) [.ref M, .int (iv k)] (InvM Ω M ma σ τ) hR (RU (InvM Ω M ma (dayP k (σ, τ)).1 (dayP k (σ, τ)).2)) NX := by
  refine Ct.of (own := RX5) (L := [(0, _), (1, _)]) (by decide +kernel) rfl (Nat.le_of_ble_eq_true rfl) rfl ?_
  intro κ C hn E hi
  have hst := h2.1
  unfold StO0 at hst
  have hr := st_room h2.1
  have hp := st_press h2
  have hw := wet_b h2
  have hv := vol_b h2
  have hm := moveZ_ok h2
  have hrm := st_room hm
  have hmm := st_most hm
  have e6 := moveZ_6 (σ := σ) (k := k)
  have hst2 := hm
  unfold StO0 at hst2
  refine y_aload_n (pc := 0) C dX5_endsDay_0 0 rfl ?_
  refine y_iload_n (pc := 1) C dX5_endsDay_1 1 rfl ?_
  refine y_callV (pc := 2) (As := [_]) C E.2.1 cv_X5_119 (ci := 6) rfl rfl (mt_pressureOf _ (by omega) h2.1) (fun h hh => ⟨_, hh.1⟩) rfl rfl (Nat.le_of_ble_eq_true rfl) ⟨by decide, by decide, by decide, by decide⟩ dX5_endsDay_2 ⟨rfl, rfl⟩ ?_
  refine y_istore_n (pc := 5) (L' := [(2, _), (0, _), (1, _)]) C dX5_endsDay_5 (by rw [hn]; decide) rfl ?_
  refine y_joinU (pcj := 152) (Φ' := InvM Ω M ma (moveZ σ k) τ) ?_ (fun J1 => ?_)
  · skip
    refine y_aload_n (pc := 152) C dX5_endsDay_152 1 rfl ?_
    refine y_get (pc := 153) C fg_X5_25 dX5_endsDay_153 (fun h hh => ⟨_, hh.1, rfl⟩) ?_
    refine y_iload_n (pc := 156) C dX5_endsDay_156 2 rfl ?_
    refine m_iald (pc := 157) C 8 _ rfl rfl (by show _ < 5; omega) dX5_endsDay_157 ?_
    refine y_aload_n (pc := 158) C dX5_endsDay_158 1 rfl ?_
    refine y_iload_n (pc := 159) C dX5_endsDay_159 2 rfl ?_
    refine y_callV (pc := 160) (As := [_]) C E.2.1 cv_X5_115 (ci := 6) rfl rfl (mt_roomOf _ (by omega)) (fun h hh => ⟨_, hh.1⟩) rfl rfl (Nat.le_of_ble_eq_true rfl) ⟨by decide, by decide, by decide, by decide⟩ dX5_endsDay_160 ⟨rfl, rfl⟩ ?_
    refine y_callS (pc := 163) (As := [_, _]) C E.2.1 cs_X5_122 (mt_mostGas _ _ ⟨by omega, by omega⟩ ⟨by omega, by omega⟩) rfl rfl (Nat.le_of_ble_eq_true rfl) ⟨by decide, by decide, by decide, by decide⟩ dX5_endsDay_163 ⟨rfl, rfl⟩ ?_
    refine y_istore_n (pc := 166) (L' := [(3, _), (2, _), (0, _), (1, _)]) C dX5_endsDay_166 (by rw [hn]; decide) rfl ?_
    refine y_aload_n (pc := 167) C dX5_endsDay_167 2 rfl ?_
    refine y_get (pc := 168) C fg_X5_19 dX5_endsDay_168 (fun h hh => ⟨_, hh.1, rfl⟩) ?_
    refine y_iload_n (pc := 171) C dX5_endsDay_171 3 rfl ?_
    refine m_iald (pc := 172) C 6 _ rfl rfl (by show _ < 5; omega) dX5_endsDay_172 ?_
    refine y_iload_n (pc := 173) C dX5_endsDay_173 0 rfl ?_
    refine y_icmp_le (pc := 174) (tgt := 190) C dX5_endsDay_174 (by decide) (by omega) (by omega) (by omega) (by omega) (fun c174 => ?_) (fun c174 => ?_)
    · skip
      exact y_vret (pc := 190) C E dX5_endsDay_190 (by decide) (by decide) (fun h hh => ⟨rfl, by rw [show dayP k (σ, τ) = (moveZ σ k, τ) from if_neg (by show ¬ mostZ (moveZ σ k 8 k) (roomZ (moveZ σ k) k) < σ 6 k; omega)]; exact hh⟩)
    · skip
      refine y_aload_n (pc := 177) C dX5_endsDay_177 2 rfl ?_
      refine y_iload_n (pc := 178) C dX5_endsDay_178 3 rfl ?_
      refine y_aload_n (pc := 179) C dX5_endsDay_179 2 rfl ?_
      refine y_get (pc := 180) C fg_X5_19 dX5_endsDay_180 (fun h hh => ⟨_, hh.1, rfl⟩) ?_
      refine y_iload_n (pc := 183) C dX5_endsDay_183 3 rfl ?_
      refine m_iald (pc := 184) C 6 _ rfl rfl (by show _ < 5; omega) dX5_endsDay_184 ?_
      refine y_iload_n (pc := 185) C dX5_endsDay_185 0 rfl ?_
      refine y_isub (pc := 186) C dX5_endsDay_186 ?_
      refine y_callVv (pc := 187) (As := [_, _]) C E.2.1 cv_X5_212 (ci := 6) rfl rfl (mt_isLost _ _ (by omega) ⟨by omega, by omega⟩ ⟨by omega, by omega⟩) (fun h hh => ⟨_, hh.1⟩) rfl rfl (Nat.le_of_ble_eq_true rfl) ⟨by decide, by decide, by decide, by decide⟩ dX5_endsDay_187 ⟨rfl, rfl⟩ ?_
      exact y_vret (pc := 190) C E dX5_endsDay_190 (by decide) (by decide) (fun h hh => ⟨rfl, by rw [show dayP k (σ, τ) = lstP k (σ 6 k - mostZ (moveZ σ k 8 k) (roomZ (moveZ σ k) k)) (moveZ σ k, τ) from if_pos (by show mostZ (moveZ σ k 8 k) (roomZ (moveZ σ k) k) < σ 6 k; omega), ← e6.1]; exact hh⟩)
  · skip
    refine y_aload_n (pc := 6) C dX5_endsDay_6 1 rfl ?_
    refine y_get (pc := 7) C fg_X5_7 dX5_endsDay_7 (fun h hh => ⟨_, hh.1, rfl⟩) ?_
    refine y_iload_n (pc := 10) C dX5_endsDay_10 2 rfl ?_
    refine m_iald (pc := 11) C 3 _ rfl rfl (by show _ < 5; omega) dX5_endsDay_11 ?_
    refine y_if_ne (pc := 12) (tgt := 78) C dX5_endsDay_12 (by decide) (by omega) (by omega) (fun c12 => ?_) (fun c12 => ?_)
    · skip
      refine y_aload_n (pc := 78) C dX5_endsDay_78 1 rfl ?_
      refine y_get (pc := 79) C fg_X5_7 dX5_endsDay_79 (fun h hh => ⟨_, hh.1, rfl⟩) ?_
      refine y_iload_n (pc := 82) C dX5_endsDay_82 2 rfl ?_
      refine m_iald (pc := 83) C 3 _ rfl rfl (by show _ < 5; omega) dX5_endsDay_83 ?_
      refine y_iconst (pc := 84) C dX5_endsDay_84 ?_
      refine y_icmp_ne (pc := 85) (tgt := 152) C dX5_endsDay_85 (by decide) (by omega) (by omega) (by omega) (by omega) (fun c85 => ?_) (fun c85 => ?_)
      · skip
        refine Y.sub [0, 1, 2] rfl ?_
        refine Y.imp (fun h hh => ?_) J1
        rw [show moveZ σ k = σ from (if_neg c12).trans (if_neg (by omega))]; exact hh
      · skip
        refine y_iload_n (pc := 88) C dX5_endsDay_88 0 rfl ?_
        refine y_aload_n (pc := 89) C dX5_endsDay_89 1 rfl ?_
        refine y_get (pc := 90) C fg_X5_28 dX5_endsDay_90 (fun h hh => ⟨_, hh.1, rfl⟩) ?_
        refine y_iload_n (pc := 93) C dX5_endsDay_93 2 rfl ?_
        refine m_iald (pc := 94) C 9 _ rfl rfl (by show _ < 5; omega) dX5_endsDay_94 ?_
        refine y_icmp_ge (pc := 95) (tgt := 152) C dX5_endsDay_95 (by decide) (by omega) (by omega) (by omega) (by omega) (fun c95 => ?_) (fun c95 => ?_)
        · skip
          refine Y.sub [0, 1, 2] rfl ?_
          refine Y.imp (fun h hh => ?_) J1
          rw [show moveZ σ k = σ from (if_neg c12).trans (if_neg (by omega))]; exact hh
        · skip
          have hv := hv (by omega)
          refine y_aload_n (pc := 98) C dX5_endsDay_98 1 rfl ?_
          refine y_get (pc := 99) C fg_X5_13 dX5_endsDay_99 (fun h hh => ⟨_, hh.1, rfl⟩) ?_
          refine y_iload_n (pc := 102) C dX5_endsDay_102 2 rfl ?_
          refine m_iald (pc := 103) C 4 _ rfl rfl (by show _ < 5; omega) dX5_endsDay_103 ?_
          refine y_i2l (pc := 104) C dX5_endsDay_104 (by omega) (by omega) ?_
          refine y_aload_n (pc := 105) C dX5_endsDay_105 1 rfl ?_
          refine y_get (pc := 106) C fg_X5_28 dX5_endsDay_106 (fun h hh => ⟨_, hh.1, rfl⟩) ?_
          refine y_iload_n (pc := 109) C dX5_endsDay_109 2 rfl ?_
          refine m_iald (pc := 110) C 9 _ rfl rfl (by show _ < 5; omega) dX5_endsDay_110 ?_
          refine y_iload_n (pc := 111) C dX5_endsDay_111 0 rfl ?_
          refine y_isub (pc := 112) C dX5_endsDay_112 ?_
          refine y_i2l (pc := 113) C dX5_endsDay_113 (by omega) (by omega) ?_
          refine y_lmul (pc := 114) C dX5_endsDay_114 ?_
          refine y_ldc2 (pc := 115) (z := 100000) C aw_5_82 (by decide) dX5_endsDay_115 ?_
          refine y_ldivP (pc := 118) C dX5_endsDay_118 (by omega) (by omega) (by omega) (by omega) ?_
          refine y_lstore_n (pc := 119) (L' := [(3, _), (2, _), (0, _), (1, _)]) C dX5_endsDay_119 (by rw [hn]; decide) rfl ?_
          refine y_aload_n (pc := 120) C dX5_endsDay_120 2 rfl ?_
          refine y_get (pc := 121) C fg_X5_13 dX5_endsDay_121 (fun h hh => ⟨_, hh.1, rfl⟩) ?_
          refine y_iload_n (pc := 124) C dX5_endsDay_124 3 rfl ?_
          refine y_joinI (pcj := 151) (P := fun q => q = volZ σ k) (fun v2 hv2 => ?_) (fun J2 => ?_)
          · skip
            subst hv2
            refine m_iast (pc := 151) C 4 _ rfl rfl (by show _ < 5; omega) dX5_endsDay_151 ?_
            refine Y.sub [1, 2, 3] rfl ?_
            refine Y.imp (fun h hh => ?_) J1
            rw [show moveZ σ k = zu σ 4 k (volZ σ k) from (if_neg c12).trans (if_pos ⟨c85, by omega⟩)]; exact hh
          · skip
            refine y_lload_n (pc := 125) C dX5_endsDay_125 0 rfl ?_
            refine y_aload_n (pc := 126) C dX5_endsDay_126 2 rfl ?_
            refine y_get (pc := 127) C fg_X5_13 dX5_endsDay_127 (fun h hh => ⟨_, hh.1, rfl⟩) ?_
            refine y_iload_n (pc := 130) C dX5_endsDay_130 3 rfl ?_
            refine m_iald (pc := 131) C 4 _ rfl rfl (by show _ < 5; omega) dX5_endsDay_131 ?_
            refine y_i2l (pc := 132) C dX5_endsDay_132 (by omega) (by omega) ?_
            refine y_lcmp_ge (pc := 133) (tgt := 150) C dX5_endsDay_133 dX5_endsDay_134 (by decide) (by omega) (by omega) (by omega) (by omega) (fun c133 => ?_) (fun c133 => ?_)
            · skip
              refine y_iconst (pc := 150) C dX5_endsDay_150 ?_
              exact J2 _ (by unfold volZ; split <;> first | rfl | (exfalso; omega))
            · skip
              refine y_aload_n (pc := 137) C dX5_endsDay_137 2 rfl ?_
              refine y_get (pc := 138) C fg_X5_13 dX5_endsDay_138 (fun h hh => ⟨_, hh.1, rfl⟩) ?_
              refine y_iload_n (pc := 141) C dX5_endsDay_141 3 rfl ?_
              refine m_iald (pc := 142) C 4 _ rfl rfl (by show _ < 5; omega) dX5_endsDay_142 ?_
              refine y_i2l (pc := 143) C dX5_endsDay_143 (by omega) (by omega) ?_
              refine y_lload_n (pc := 144) C dX5_endsDay_144 0 rfl ?_
              refine y_lsub (pc := 145) C dX5_endsDay_145 ?_
              refine y_l2i (pc := 146) C dX5_endsDay_146 ?_
              refine y_goto (pc := 147) (tgt := 151) C dX5_endsDay_147 (by decide) ?_
              exact J2 _ (by unfold volZ; split <;> first | rfl | (exfalso; omega))
    · skip
      refine y_aload_n (pc := 15) C dX5_endsDay_15 1 rfl ?_
      refine y_get (pc := 16) C fg_X5_16 dX5_endsDay_16 (fun h hh => ⟨_, hh.1, rfl⟩) ?_
      refine y_iload_n (pc := 19) C dX5_endsDay_19 2 rfl ?_
      refine y_dup2 (pc := 20) C dX5_endsDay_20 rfl rfl ?_
      refine m_iald (pc := 21) C 5 _ rfl rfl (by show _ < 5; omega) dX5_endsDay_21 ?_
      refine y_joinI (pcj := 73) (P := fun q => q = wetZ σ k) (fun v3 hv3 => ?_) (fun J3 => ?_)
      · skip
        subst hv3
        refine y_iadd (pc := 73) C dX5_endsDay_73 ?_
        refine m_iast (pc := 74) C 5 _ rfl rfl (by show _ < 5; omega) dX5_endsDay_74 ?_
        refine y_goto (pc := 75) (tgt := 152) C dX5_endsDay_75 (by decide) ?_
        refine Y.sub [0, 1, 2] rfl ?_
        refine Y.imp (fun h hh => ?_) J1
        rw [show moveZ σ k = zu σ 5 k (σ 5 k + wetZ σ k) from if_pos c12]; exact hh
      · skip
        refine y_iload_n (pc := 22) C dX5_endsDay_22 0 rfl ?_
        refine y_aload_n (pc := 23) C dX5_endsDay_23 1 rfl ?_
        refine y_get (pc := 24) C fg_X5_28 dX5_endsDay_24 (fun h hh => ⟨_, hh.1, rfl⟩) ?_
        refine y_iload_n (pc := 27) C dX5_endsDay_27 2 rfl ?_
        refine m_iald (pc := 28) C 9 _ rfl rfl (by show _ < 5; omega) dX5_endsDay_28 ?_
        refine y_icmp_ge (pc := 29) (tgt := 44) C dX5_endsDay_29 (by decide) (by omega) (by omega) (by omega) (by omega) (fun c29 => ?_) (fun c29 => ?_)
        · skip
          refine y_iload_n (pc := 44) C dX5_endsDay_44 0 rfl ?_
          refine y_aload_n (pc := 45) C dX5_endsDay_45 1 rfl ?_
          refine y_get (pc := 46) C fg_X5_28 dX5_endsDay_46 (fun h hh => ⟨_, hh.1, rfl⟩) ?_
          refine y_iload_n (pc := 49) C dX5_endsDay_49 2 rfl ?_
          refine m_iald (pc := 50) C 9 _ rfl rfl (by show _ < 5; omega) dX5_endsDay_50 ?_
          refine y_icmp_le (pc := 51) (tgt := 72) C dX5_endsDay_51 (by decide) (by omega) (by omega) (by omega) (by omega) (fun c51 => ?_) (fun c51 => ?_)
          · skip
            refine y_iconst (pc := 72) C dX5_endsDay_72 ?_
            exact J3 _ (by unfold wetZ; split <;> first | rfl | (exfalso; omega) | (split <;> first | rfl | (exfalso; omega)))
          · skip
            refine y_aload_n (pc := 54) C dX5_endsDay_54 1 rfl ?_
            refine y_get (pc := 55) C fg_X5_16 dX5_endsDay_55 (fun h hh => ⟨_, hh.1, rfl⟩) ?_
            refine y_iload_n (pc := 58) C dX5_endsDay_58 2 rfl ?_
            refine m_iald (pc := 59) C 5 _ rfl rfl (by show _ < 5; omega) dX5_endsDay_59 ?_
            refine y_sipush (pc := 60) (z := 199) C dX5_endsDay_60 (by decide) ?_
            refine y_iadd (pc := 63) C dX5_endsDay_63 ?_
            refine y_sipush (pc := 64) (z := 200) C dX5_endsDay_64 (by decide) ?_
            refine y_idivP (pc := 67) C dX5_endsDay_67 (by omega) (by omega) (by omega) (by omega) ?_
            refine y_ineg (pc := 68) C dX5_endsDay_68 ?_
            refine y_goto (pc := 69) (tgt := 73) C dX5_endsDay_69 (by decide) ?_
            exact J3 _ (by unfold wetZ; split <;> first | rfl | (exfalso; omega) | (split <;> first | rfl | (exfalso; omega)))
        · skip
          refine y_aload_n (pc := 32) C dX5_endsDay_32 1 rfl ?_
          refine y_iload_n (pc := 33) C dX5_endsDay_33 2 rfl ?_
          refine y_callV (pc := 34) (As := [_]) C E.2.1 cv_X5_115 (ci := 6) rfl rfl (mt_roomOf _ (by omega)) (fun h hh => ⟨_, hh.1⟩) rfl rfl (Nat.le_of_ble_eq_true rfl) ⟨by decide, by decide, by decide, by decide⟩ dX5_endsDay_34 ⟨rfl, rfl⟩ ?_
          refine y_sipush (pc := 37) (z := 200) C dX5_endsDay_37 (by decide) ?_
          refine y_idivP (pc := 40) C dX5_endsDay_40 (by omega) (by omega) (by omega) (by omega) ?_
          refine y_goto (pc := 41) (tgt := 73) C dX5_endsDay_41 (by decide) ?_
          exact J3 _ (by unfold wetZ; split <;> first | rfl | (exfalso; omega) | (split <;> first | rfl | (exfalso; omega)))

set_option maxRecDepth 20000 in
theorem mt_lawNow {Ω : OmT} {hR : AH} {M : Nat} {ma : Nat → Nat} {σ : ZT} {τ : JT} (n : Nat) (h1 : LwOk σ n) (h2 : 0 ≤ σ 1 0 ∧ σ 1 0 ≤ 10000) : Ct Ω yX5_lawNow cX5_lawNow 3 (some FieldType.int) (rk 2) [.ref M] (InvM Ω M ma σ τ) hR (RV (.int (iv (lawI σ n))) (InvM Ω M ma σ τ)) NX := by
  refine Ct.of (own := RX5) (L := [(0, _)]) (by decide +kernel) rfl (Nat.le_of_ble_eq_true rfl) rfl ?_
  intro κ C hn E hi
  obtain ⟨hq, hq2, hl⟩ := h1
  refine y_iconst (pc := 0) C dX5_lawNow_0 ?_
  refine y_istore_n (pc := 1) (L' := [(1, _), (0, _)]) C dX5_lawNow_1 (by rw [hn]; decide) rfl ?_
  refine y_iconst (pc := 2) C dX5_lawNow_2 ?_
  refine y_istore_n (pc := 3) (L' := [(2, _), (1, _), (0, _)]) C dX5_lawNow_3 (by rw [hn]; decide) rfl ?_
  have LP1 : ∀ (m1 : Nat) (i : Nat) (z x : Int), (k1 : n + 1 ≤ i + m1) → (k2 : i ≤ n) → (hz : z = i) → (hx : x = lawI σ i) → Y Ω κ (InvM Ω M ma σ τ) hR 0 0 4 [(2, .int (iv z)), (1, .int (iv x)), (0, .ref M)] [] := by
    intro m1
    induction m1 with
    | zero => intro i z x k1 k2 hz hx; exfalso; omega
    | succ m1 ih1 =>
      intro i z x k1 k2 hz hx
      have lb := lawI_b (σ := σ) (n := i)
      refine y_iload_n (pc := 4) C dX5_lawNow_4 0 rfl ?_
      refine y_aload_n (pc := 5) C dX5_lawNow_5 2 rfl ?_
      refine y_get (pc := 6) C fg_X5_159 dX5_lawNow_6 (fun h hh => ⟨_, hh.1, rfl⟩) ?_
      refine y_icmp_ge (pc := 9) (tgt := 46) C dX5_lawNow_9 (by decide) (by omega) (by omega) (by omega) (by omega) (fun c9 => ?_) (fun c9 => ?_)
      · skip
        refine y_iload_n (pc := 46) C dX5_lawNow_46 1 rfl ?_
        exact y_iret (pc := 47) C E dX5_lawNow_47 (by decide) (by decide) (fun h hh => ⟨by rw [hx, show i = n by omega], hh⟩)
      · skip
        have li := hl i (by omega)
        refine y_joinI (pcj := 39) (P := fun q => q = lawI σ (i + 1)) (fun v2 hv2 => ?_) (fun J2 => ?_)
        · skip
          refine y_istore_n (pc := 39) (L' := [(1, _), (2, _), (0, _)]) C dX5_lawNow_39 (by rw [hn]; decide) rfl ?_
          refine y_iinc (pc := 40) (L' := [(2, _), (1, _), (0, _)]) C dX5_lawNow_40 1 rfl (by rw [hn]; decide) rfl ?_
          refine y_goto (pc := 43) (tgt := 4) C dX5_lawNow_43 (by decide) ?_
          refine Y.sub [0, 1, 2] rfl ?_
          exact ih1 (i + 1) _ _ (by omega) (by omega) (by omega) hv2
        · skip
          have li := hl i (by omega)
          refine y_aload_n (pc := 12) C dX5_lawNow_12 2 rfl ?_
          refine y_get (pc := 13) C fg_X5_151 dX5_lawNow_13 (fun h hh => ⟨_, hh.1, rfl⟩) ?_
          refine y_aload_n (pc := 16) C dX5_lawNow_16 2 rfl ?_
          refine y_get (pc := 17) C fg_X5_81 dX5_lawNow_17 (fun h hh => ⟨_, hh.1, rfl⟩) ?_
          refine y_iload_n (pc := 20) C dX5_lawNow_20 0 rfl ?_
          refine m_iald (pc := 21) C 28 i rfl hz (by show _ < 20; omega) dX5_lawNow_21 ?_
          refine y_aload_n (pc := 22) C dX5_lawNow_22 2 rfl ?_
          refine y_get (pc := 23) C fg_X5_84 dX5_lawNow_23 (fun h hh => ⟨_, hh.1, rfl⟩) ?_
          refine y_iload_n (pc := 26) C dX5_lawNow_26 0 rfl ?_
          refine m_iald (pc := 27) C 29 i rfl hz (by show _ < 20; omega) dX5_lawNow_27 ?_
          refine y_callS (pc := 28) (As := [_, _, _]) C E.2.1 cs_X5_108 (mt_isIn _ _ _ ⟨by omega, by omega⟩ ⟨by omega, by omega⟩ ⟨by omega, by omega⟩) rfl rfl (Nat.le_of_ble_eq_true rfl) ⟨by decide, by decide, by decide, by decide⟩ dX5_lawNow_28 ⟨rfl, rfl⟩ ?_
          refine y_ifb_eq (pc := 31) (tgt := 38) C dX5_lawNow_31 (by decide) (fun c31 => ?_) (fun c31 => ?_)
          · skip
            refine y_iload_n (pc := 38) C dX5_lawNow_38 1 rfl ?_
            exact J2 _ (by unfold lawI; split <;> first | exact hz | exact hx | (exfalso; simp only [decide_eq_true_eq, decide_eq_false_iff_not] at c31; omega))
          · skip
            refine y_iload_n (pc := 34) C dX5_lawNow_34 0 rfl ?_
            refine y_goto (pc := 35) (tgt := 39) C dX5_lawNow_35 (by decide) ?_
            exact J2 _ (by unfold lawI; split <;> first | exact hz | exact hx | (exfalso; simp only [decide_eq_true_eq, decide_eq_false_iff_not] at c31; omega))
  refine Y.sub [0, 1, 2] rfl ?_
  exact LP1 (n + 1) 0 0 (-1) (by omega) (by omega) rfl rfl

set_option maxRecDepth 20000 in
theorem mt_all {Ω : OmT} {hR : AH} {M : Nat} {ma : Nat → Nat} {σ : ZT} {τ : JT} (n : Nat) (h1 : σ 16 0 = n) (h2 : n ≤ 6) (h3 : ∀ i, i < n → 0 ≤ σ 21 i ∧ σ 21 i ≤ 1000000) : Ct Ω yX5_all cX5_all 4 (some FieldType.long) (rk 1) [.ref M] (InvM Ω M ma σ τ) hR (RV (.long (jv (sumZ (σ 21) n))) (InvM Ω M ma σ τ)) NX := by
  refine Ct.of (own := RX5) (L := [(0, _)]) (by decide +kernel) rfl (Nat.le_of_ble_eq_true rfl) rfl ?_
  intro κ C hn E hi
  refine y_lconst (pc := 0) (z := 0) C dX5_all_0 (by decide) ?_
  refine y_lstore_n (pc := 1) (L' := [(1, _), (0, _)]) C dX5_all_1 (by rw [hn]; decide) rfl ?_
  refine y_iconst (pc := 2) C dX5_all_2 ?_
  refine y_istore_n (pc := 3) (L' := [(3, _), (1, _), (0, _)]) C dX5_all_3 (by rw [hn]; decide) rfl ?_
  have LP1 : ∀ (m1 : Nat) (i : Nat) (z x : Int), (k1 : n + 1 ≤ i + m1) → (k2 : i ≤ n) → (hz : z = i) → (hx : x = sumZ (σ 21) i) → Y Ω κ (InvM Ω M ma σ τ) hR 0 0 4 [(3, .int (iv z)), (1, .long (jv x)), (0, .ref M)] [] := by
    intro m1
    induction m1 with
    | zero => intro i z x k1 k2 hz hx; exfalso; omega
    | succ m1 ih1 =>
      intro i z x k1 k2 hz hx
      refine y_iload_n (pc := 4) C dX5_all_4 0 rfl ?_
      refine y_aload_n (pc := 5) C dX5_all_5 2 rfl ?_
      refine y_get (pc := 6) C fg_X5_112 dX5_all_6 (fun h hh => ⟨_, hh.1, rfl⟩) ?_
      refine y_icmp_ge (pc := 9) (tgt := 28) C dX5_all_9 (by decide) (by omega) (by omega) (by omega) (by omega) (fun c9 => ?_) (fun c9 => ?_)
      · skip
        refine y_lload_n (pc := 28) C dX5_all_28 1 rfl ?_
        exact y_lret (pc := 29) C E dX5_all_29 (by decide) (by decide) (fun h hh => ⟨by rw [hx, show i = n by omega], hh⟩)
      · skip
        have li := h3 i (by omega)
        refine y_lload_n (pc := 12) C dX5_all_12 1 rfl ?_
        refine y_aload_n (pc := 13) C dX5_all_13 2 rfl ?_
        refine y_get (pc := 14) C fg_X5_63 dX5_all_14 (fun h hh => ⟨_, hh.1, rfl⟩) ?_
        refine y_iload_n (pc := 17) C dX5_all_17 0 rfl ?_
        refine m_iald (pc := 18) C 21 i rfl hz (by show _ < 6; omega) dX5_all_18 ?_
        refine y_i2l (pc := 19) C dX5_all_19 (by omega) (by omega) ?_
        refine y_ladd (pc := 20) C dX5_all_20 ?_
        refine y_lstore_n (pc := 21) (L' := [(1, _), (3, _), (0, _)]) C dX5_all_21 (by rw [hn]; decide) rfl ?_
        refine y_iinc (pc := 22) (L' := [(3, _), (1, _), (0, _)]) C dX5_all_22 1 rfl (by rw [hn]; decide) rfl ?_
        refine y_goto (pc := 25) (tgt := 4) C dX5_all_25 (by decide) ?_
        refine Y.sub [0, 1, 2] rfl ?_
        exact ih1 (i + 1) _ _ (by omega) (by omega) (by omega) (by rw [hx]; rfl)
  refine Y.sub [0, 1, 2] rfl ?_
  exact LP1 (n + 1) 0 0 0 (by omega) (by omega) rfl rfl

set_option maxRecDepth 20000 in
theorem mt_sum {Ω : OmT} {hR : AH} {M : Nat} {ma : Nat → Nat} {σ : ZT} {τ : JT} (n : Nat) (b : Bool) (h1 : σ 16 0 = n) (h2 : n ≤ 6) : Ct Ω yX5_sum cX5_sum 4 (some FieldType.int) (rk 1) [.ref M, .int (iv (bz b))] (InvM Ω M ma σ τ) hR (RV (.int (iv (sumZ (fun c => if b = true then σ 36 c else σ 37 c) n))) (InvM Ω M ma σ τ)) NX := by
  refine Ct.of (own := RX5) (L := [(0, _), (1, _)]) (by decide +kernel) rfl (Nat.le_of_ble_eq_true rfl) rfl ?_
  intro κ C hn E hi
  refine y_iconst (pc := 0) C dX5_sum_0 ?_
  refine y_istore_n (pc := 1) (L' := [(2, _), (0, _), (1, _)]) C dX5_sum_1 (by rw [hn]; decide) rfl ?_
  refine y_iconst (pc := 2) C dX5_sum_2 ?_
  refine y_istore_n (pc := 3) (L' := [(3, _), (2, _), (0, _), (1, _)]) C dX5_sum_3 (by rw [hn]; decide) rfl ?_
  have LP1 : ∀ (m1 : Nat) (i : Nat) (z x : Int), (k1 : n + 1 ≤ i + m1) → (k2 : i ≤ n) → (hz : z = i) → (hx : x = sumZ (fun c => if b = true then σ 36 c else σ 37 c) i) → Y Ω κ (InvM Ω M ma σ τ) hR 0 0 4 [(3, .int (iv z)), (2, .int (iv x)), (0, .ref M), (1, .int (iv (bz b)))] [] := by
    intro m1
    induction m1 with
    | zero => intro i z x k1 k2 hz hx; exfalso; omega
    | succ m1 ih1 =>
      intro i z x k1 k2 hz hx
      refine y_iload_n (pc := 4) C dX5_sum_4 0 rfl ?_
      refine y_aload_n (pc := 5) C dX5_sum_5 2 rfl ?_
      refine y_get (pc := 6) C fg_X5_112 dX5_sum_6 (fun h hh => ⟨_, hh.1, rfl⟩) ?_
      refine y_icmp_ge (pc := 9) (tgt := 40) C dX5_sum_9 (by decide) (by omega) (by omega) (by omega) (by omega) (fun c9 => ?_) (fun c9 => ?_)
      · skip
        refine y_iload_n (pc := 40) C dX5_sum_40 1 rfl ?_
        exact y_iret (pc := 41) C E dX5_sum_41 (by decide) (by decide) (fun h hh => ⟨by rw [hx, show i = n by omega], hh⟩)
      · skip
        refine y_iload_n (pc := 12) C dX5_sum_12 1 rfl ?_
        refine y_iload_n (pc := 13) C dX5_sum_13 3 rfl ?_
        refine y_ifb_eq (pc := 14) (tgt := 26) C dX5_sum_14 (by decide) (fun c14 => ?_) (fun c14 => ?_)
        · skip
          refine y_aload_n (pc := 26) C dX5_sum_26 2 rfl ?_
          refine y_get (pc := 27) C fg_X5_93 dX5_sum_27 (fun h hh => ⟨_, hh.1, rfl⟩) ?_
          refine y_iload_n (pc := 30) C dX5_sum_30 0 rfl ?_
          refine m_iald (pc := 31) C 37 i rfl hz (by show _ < 6; omega) dX5_sum_31 ?_
          refine y_iadd (pc := 32) C dX5_sum_32 ?_
          refine y_istore_n (pc := 33) (L' := [(2, _), (3, _), (0, _), (1, _)]) C dX5_sum_33 (by rw [hn]; decide) rfl ?_
          refine y_iinc (pc := 34) (L' := [(3, _), (2, _), (0, _), (1, _)]) C dX5_sum_34 1 rfl (by rw [hn]; decide) rfl ?_
          refine y_goto (pc := 37) (tgt := 4) C dX5_sum_37 (by decide) ?_
          refine Y.sub [0, 1, 2, 3] rfl ?_
          exact ih1 (i + 1) _ _ (by omega) (by omega) (by omega) (by rw [hx]; subst c14; rfl)
        · skip
          refine y_aload_n (pc := 17) C dX5_sum_17 2 rfl ?_
          refine y_get (pc := 18) C fg_X5_90 dX5_sum_18 (fun h hh => ⟨_, hh.1, rfl⟩) ?_
          refine y_iload_n (pc := 21) C dX5_sum_21 0 rfl ?_
          refine m_iald (pc := 22) C 36 i rfl hz (by show _ < 6; omega) dX5_sum_22 ?_
          refine y_goto (pc := 23) (tgt := 32) C dX5_sum_23 (by decide) ?_
          refine y_iadd (pc := 32) C dX5_sum_32 ?_
          refine y_istore_n (pc := 33) (L' := [(2, _), (3, _), (0, _), (1, _)]) C dX5_sum_33 (by rw [hn]; decide) rfl ?_
          refine y_iinc (pc := 34) (L' := [(3, _), (2, _), (0, _), (1, _)]) C dX5_sum_34 1 rfl (by rw [hn]; decide) rfl ?_
          refine y_goto (pc := 37) (tgt := 4) C dX5_sum_37 (by decide) ?_
          refine Y.sub [0, 1, 2, 3] rfl ?_
          exact ih1 (i + 1) _ _ (by omega) (by omega) (by omega) (by rw [hx]; subst c14; rfl)
  refine Y.sub [0, 1, 2, 3] rfl ?_
  exact LP1 (n + 1) 0 0 0 (by omega) (by omega) rfl rfl
