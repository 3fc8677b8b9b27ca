set_option maxRecDepth 20000 in
theorem mt_isIn {Ω : OmT} {hR : AH} {Φ : AH → Prop} (v a b : Int) (h1 : -2147483648 ≤ v ∧ v < 2147483648) (h2 : -2147483648 ≤ a ∧ a < 2147483648) (h3 : -2147483648 ≤ b ∧ b < 2147483648) : Ct Ω yX5_isIn cX5_isIn 3 (some FieldType.boolean) (rk 1) [.int (iv v), .int (iv a), .int (iv b)] (Φ) hR (RV (.int (iv (bz (decide (a ≤ v ∧ v ≤ b))))) (Φ)) NX := by
  refine Ct.of (own := RX5) (L := [(0, _), (1, _), (2, _)]) (by decide +kernel) rfl (Nat.le_of_ble_eq_true rfl) rfl ?_
  intro κ C hn E hi
  refine y_joinB (pcj := 15) (P := fun q => q = decide (a ≤ v ∧ v ≤ b)) (fun v1 hv1 => ?_) (fun J1 => ?_)
  · skip
    rw [hv1]
    exact y_zret (pc := 15) C E dX5_isIn_15 (by decide) (by decide) (fun h hh => ⟨rfl, hh⟩)
  · skip
    refine y_iload_n (pc := 0) C dX5_isIn_0 0 rfl ?_
    refine y_iload_n (pc := 1) C dX5_isIn_1 1 rfl ?_
    refine y_icmp_lt (pc := 2) (tgt := 14) C dX5_isIn_2 (by decide) (by omega) (by omega) (by omega) (by omega) (fun c2 => ?_) (fun c2 => ?_)
    · skip
      refine y_iconst (pc := 14) C dX5_isIn_14 ?_
      first | exact J1 true (decide_eq_true (by omega)).symm | exact J1 false (decide_eq_false (by omega)).symm
    · skip
      refine y_iload_n (pc := 5) C dX5_isIn_5 0 rfl ?_
      refine y_iload_n (pc := 6) C dX5_isIn_6 2 rfl ?_
      refine y_icmp_gt (pc := 7) (tgt := 14) C dX5_isIn_7 (by decide) (by omega) (by omega) (by omega) (by omega) (fun c7 => ?_) (fun c7 => ?_)
      · skip
        refine y_iconst (pc := 14) C dX5_isIn_14 ?_
        first | exact J1 true (decide_eq_true (by omega)).symm | exact J1 false (decide_eq_false (by omega)).symm
      · skip
        refine y_iconst (pc := 10) C dX5_isIn_10 ?_
        refine y_goto (pc := 11) (tgt := 15) C dX5_isIn_11 (by decide) ?_
        first | exact J1 true (decide_eq_true (by omega)).symm | exact J1 false (decide_eq_false (by omega)).symm

set_option maxRecDepth 20000 in
theorem mt_lesser {Ω : OmT} {hR : AH} {Φ : AH → Prop} (a b : Int) (h1 : -2147483648 ≤ a ∧ a < 2147483648) (h2 : -2147483648 ≤ b ∧ b < 2147483648) : Ct Ω yX5_lesser cX5_lesser 2 (some FieldType.int) (rk 1) [.int (iv a), .int (iv b)] (Φ) hR (RV (.int (iv (min a b))) (Φ)) NX := by
  refine Ct.of (own := RX5) (L := [(0, _), (1, _)]) (by decide +kernel) rfl (Nat.le_of_ble_eq_true rfl) rfl ?_
  intro κ C hn E hi
  refine y_joinI (pcj := 10) (P := fun q => q = min a b) (fun v1 hv1 => ?_) (fun J1 => ?_)
  · skip
    rw [hv1]
    exact y_iret (pc := 10) C E dX5_lesser_10 (by decide) (by decide) (fun h hh => ⟨rfl, hh⟩)
  · skip
    refine y_iload_n (pc := 0) C dX5_lesser_0 0 rfl ?_
    refine y_iload_n (pc := 1) C dX5_lesser_1 1 rfl ?_
    refine y_icmp_ge (pc := 2) (tgt := 9) C dX5_lesser_2 (by decide) (by omega) (by omega) (by omega) (by omega) (fun c2 => ?_) (fun c2 => ?_)
    · skip
      refine y_iload_n (pc := 9) C dX5_lesser_9 1 rfl ?_
      exact J1 _ (by omega)
    · skip
      refine y_iload_n (pc := 5) C dX5_lesser_5 0 rfl ?_
      refine y_goto (pc := 6) (tgt := 10) C dX5_lesser_6 (by decide) ?_
      exact J1 _ (by omega)

set_option maxRecDepth 20000 in
theorem mt_leastGas {Ω : OmT} {hR : AH} {Φ : AH → Prop} (p r : Int) (h1 : 0 ≤ p ∧ p ≤ 1000) (h2 : 1 ≤ r ∧ r ≤ 100000) : Ct Ω yX5_leastGas cX5_leastGas 2 (some FieldType.int) (rk 1) [.int (iv p), .int (iv r)] (Φ) hR (RV (.int (iv (leastZ p r))) (Φ)) NX := by
  refine Ct.of (own := RX5) (L := [(0, _), (1, _)]) (by decide +kernel) rfl (Nat.le_of_ble_eq_true rfl) rfl ?_
  intro κ C hn E hi
  have hb := mz_b h1.1 h1.2 h2.1 h2.2
  refine y_iload_n (pc := 0) C dX5_leastGas_0 0 rfl ?_
  refine y_iload_n (pc := 1) C dX5_leastGas_1 1 rfl ?_
  refine y_imul (pc := 2) C dX5_leastGas_2 ?_
  refine y_bipush (pc := 3) (z := 99) C dX5_leastGas_3 (by decide) ?_
  refine y_iadd (pc := 5) C dX5_leastGas_5 ?_
  refine y_bipush (pc := 6) (z := 100) C dX5_leastGas_6 (by decide) ?_
  refine y_idivP (pc := 8) C dX5_leastGas_8 (by omega) (by omega) (by omega) (by omega) ?_
  exact y_iret (pc := 9) C E dX5_leastGas_9 (by decide) (by decide) (fun h hh => ⟨rfl, hh⟩)

set_option maxRecDepth 20000 in
theorem mt_mostGas {Ω : OmT} {hR : AH} {Φ : AH → Prop} (p r : Int) (h1 : 0 ≤ p ∧ p ≤ 1000) (h2 : 1 ≤ r ∧ r ≤ 100000) : Ct Ω yX5_mostGas cX5_mostGas 2 (some FieldType.int) (rk 1) [.int (iv p), .int (iv r)] (Φ) hR (RV (.int (iv (mostZ p r))) (Φ)) NX := by
  refine Ct.of (own := RX5) (L := [(0, _), (1, _)]) (by decide +kernel) rfl (Nat.le_of_ble_eq_true rfl) rfl ?_
  intro κ C hn E hi
  have hb := mz_b h1.1 h1.2 h2.1 h2.2
  refine y_iload_n (pc := 0) C dX5_mostGas_0 0 rfl ?_
  refine y_iload_n (pc := 1) C dX5_mostGas_1 1 rfl ?_
  refine y_imul (pc := 2) C dX5_mostGas_2 ?_
  refine y_bipush (pc := 3) (z := 100) C dX5_mostGas_3 (by decide) ?_
  refine y_idivP (pc := 5) C dX5_mostGas_5 (by omega) (by omega) (by omega) (by omega) ?_
  exact y_iret (pc := 6) C E dX5_mostGas_6 (by decide) (by decide) (fun h hh => ⟨rfl, hh⟩)

set_option maxRecDepth 20000 in
theorem mt_thrown {Ω : OmT} {hR : AH} {M : Nat} {ma : Nat → Nat} {σ : ZT} {τ : JT} : Ct Ω yX5_thrown cX5_thrown 1 (some FieldType.int) (rk 1) [.ref M] (InvM Ω M ma σ τ) hR (RV (.int (iv (σ 0 0))) (InvM Ω M ma σ τ)) NX := by
  refine Ct.of (own := RX5) (L := [(0, _)]) (by decide +kernel) rfl (Nat.le_of_ble_eq_true rfl) rfl ?_
  intro κ C hn E hi
  refine y_aload_n (pc := 0) C dX5_thrown_0 0 rfl ?_
  refine y_get (pc := 1) C fg_X5_102 dX5_thrown_1 (fun h hh => ⟨_, hh.1, rfl⟩) ?_
  exact y_iret (pc := 4) C E dX5_thrown_4 (by decide) (by decide) (fun h hh => ⟨rfl, hh⟩)

set_option maxRecDepth 20000 in
theorem mt_holds {Ω : OmT} {hR : AH} {M : Nat} {ma : Nat → Nat} {σ : ZT} {τ : JT} (x : Int) (h1 : -2147483648 ≤ x ∧ x < 2147483648) : Ct Ω yX5_holds cX5_holds 2 (some FieldType.boolean) (rk 1) [.ref M, .int (iv x)] (InvM Ω M ma σ τ) hR (RV (.int (iv (bz (decide (x = 0))))) (InvM Ω M ma (zu σ 0 0 x) τ)) NX := by
  refine Ct.of (own := RX5) (L := [(0, _), (1, _)]) (by decide +kernel) rfl (Nat.le_of_ble_eq_true rfl) rfl ?_
  intro κ C hn E hi
  refine y_aload_n (pc := 0) C dX5_holds_0 0 rfl ?_
  refine y_iload_n (pc := 1) C dX5_holds_1 1 rfl ?_
  refine m_putI (pc := 2) C 0 rfl fp_X5_102 dX5_holds_2 ?_
  refine y_joinB (pcj := 14) (P := fun q => q = decide (x = 0)) (fun v1 hv1 => ?_) (fun J1 => ?_)
  · skip
    rw [hv1]
    exact y_zret (pc := 14) C E dX5_holds_14 (by decide) (by decide) (fun h hh => ⟨rfl, hh⟩)
  · skip
    refine y_iload_n (pc := 5) C dX5_holds_5 1 rfl ?_
    refine y_if_ne (pc := 6) (tgt := 13) C dX5_holds_6 (by decide) (by omega) (by omega) (fun c6 => ?_) (fun c6 => ?_)
    · skip
      refine y_iconst (pc := 13) C dX5_holds_13 ?_
      first | exact J1 true (decide_eq_true (by omega)).symm | exact J1 false (decide_eq_false (by omega)).symm
    · skip
      refine y_iconst (pc := 9) C dX5_holds_9 ?_
      refine y_goto (pc := 10) (tgt := 14) C dX5_holds_10 (by decide) ?_
      first | exact J1 true (decide_eq_true (by omega)).symm | exact J1 false (decide_eq_false (by omega)).symm

set_option maxRecDepth 20000 in
theorem mt_isStore {Ω : OmT} {hR : AH} {M : Nat} {ma : Nat → Nat} {σ : ZT} {τ : JT} (x : Int) (h1 : -2147483648 ≤ x ∧ x < 2147483648) (h2 : 0 ≤ σ 2 0 ∧ σ 2 0 ≤ 5) : Ct Ω yX5_isStore cX5_isStore 2 (some FieldType.boolean) (rk 2) [.ref M, .int (iv x)] (InvM Ω M ma σ τ) hR (RV (.int (iv (bz (decide (0 ≤ x ∧ x ≤ σ 2 0 - 1))))) (InvM Ω M ma σ τ)) NX := by
  refine Ct.of (own := RX5) (L := [(0, _), (1, _)]) (by decide +kernel) rfl (Nat.le_of_ble_eq_true rfl) rfl ?_
  intro κ C hn E hi
  refine y_iload_n (pc := 0) C dX5_isStore_0 1 rfl ?_
  refine y_iconst (pc := 1) C dX5_isStore_1 ?_
  refine y_aload_n (pc := 2) C dX5_isStore_2 0 rfl ?_
  refine y_get (pc := 3) C fg_X5_105 dX5_isStore_3 (fun h hh => ⟨_, hh.1, rfl⟩) ?_
  refine y_iconst (pc := 6) C dX5_isStore_6 ?_
  refine y_isub (pc := 7) C dX5_isStore_7 ?_
  refine y_callS (pc := 8) (As := [_, _, _]) C E.2.1 cs_X5_108 (mt_isIn _ _ _ ⟨by omega, by omega⟩ ⟨by omega, by omega⟩ ⟨by omega, by omega⟩) rfl rfl (Nat.le_of_ble_eq_true rfl) ⟨by decide, by decide, by decide, by decide⟩ dX5_isStore_8 ⟨rfl, rfl⟩ ?_
  exact y_zret (pc := 11) C E dX5_isStore_11 (by decide) (by decide) (fun h hh => ⟨rfl, hh⟩)

set_option maxRecDepth 20000 in
theorem mt_isCustomer {Ω : OmT} {hR : AH} {M : Nat} {ma : Nat → Nat} {σ : ZT} {τ : JT} (x : Int) (h1 : -2147483648 ≤ x ∧ x < 2147483648) (h2 : 0 ≤ σ 16 0 ∧ σ 16 0 ≤ 6) : Ct Ω yX5_isCustomer cX5_isCustomer 2 (some FieldType.boolean) (rk 2) [.ref M, .int (iv x)] (InvM Ω M ma σ τ) hR (RV (.int (iv (bz (decide (0 ≤ x ∧ x ≤ σ 16 0 - 1))))) (InvM Ω M ma σ τ)) NX := by
  refine Ct.of (own := RX5) (L := [(0, _), (1, _)]) (by decide +kernel) rfl (Nat.le_of_ble_eq_true rfl) rfl ?_
  intro κ C hn E hi
  refine y_iload_n (pc := 0) C dX5_isCustomer_0 1 rfl ?_
  refine y_iconst (pc := 1) C dX5_isCustomer_1 ?_
  refine y_aload_n (pc := 2) C dX5_isCustomer_2 0 rfl ?_
  refine y_get (pc := 3) C fg_X5_112 dX5_isCustomer_3 (fun h hh => ⟨_, hh.1, rfl⟩) ?_
  refine y_iconst (pc := 6) C dX5_isCustomer_6 ?_
  refine y_isub (pc := 7) C dX5_isCustomer_7 ?_
  refine y_callS (pc := 8) (As := [_, _, _]) C E.2.1 cs_X5_108 (mt_isIn _ _ _ ⟨by omega, by omega⟩ ⟨by omega, by omega⟩ ⟨by omega, by omega⟩) rfl rfl (Nat.le_of_ble_eq_true rfl) ⟨by decide, by decide, by decide, by decide⟩ dX5_isCustomer_8 ⟨rfl, rfl⟩ ?_
  exact y_zret (pc := 11) C E dX5_isCustomer_11 (by decide) (by decide) (fun h hh => ⟨rfl, hh⟩)

set_option maxRecDepth 20000 in
theorem mt_roomOf {Ω : OmT} {hR : AH} {M : Nat} {ma : Nat → Nat} {σ : ZT} {τ : JT} (k : Nat) (h1 : k < 5) : Ct Ω yX5_roomOf cX5_roomOf 2 (some FieldType.int) (rk 1) [.ref M, .int (iv k)] (InvM Ω M ma σ τ) hR (RV (.int (iv (roomZ σ k))) (InvM Ω M ma σ τ)) NX := by
  refine Ct.of (own := RX5) (L := [(0, _), (1, _)]) (by decide +kernel) rfl (Nat.le_of_ble_eq_true rfl) rfl ?_
  intro κ C hn E hi
  refine y_aload_n (pc := 0) C dX5_roomOf_0 0 rfl ?_
  refine y_get (pc := 1) C fg_X5_13 dX5_roomOf_1 (fun h hh => ⟨_, hh.1, rfl⟩) ?_
  refine y_iload_n (pc := 4) C dX5_roomOf_4 1 rfl ?_
  refine m_iald (pc := 5) C 4 _ rfl rfl (by show _ < 5; omega) dX5_roomOf_5 ?_
  refine y_aload_n (pc := 6) C dX5_roomOf_6 0 rfl ?_
  refine y_get (pc := 7) C fg_X5_16 dX5_roomOf_7 (fun h hh => ⟨_, hh.1, rfl⟩) ?_
  refine y_iload_n (pc := 10) C dX5_roomOf_10 1 rfl ?_
  refine m_iald (pc := 11) C 5 _ rfl rfl (by show _ < 5; omega) dX5_roomOf_11 ?_
  refine y_isub (pc := 12) C dX5_roomOf_12 ?_
  exact y_iret (pc := 13) C E dX5_roomOf_13 (by decide) (by decide) (fun h hh => ⟨rfl, hh⟩)

set_option maxRecDepth 20000 in
theorem mt_pressureOf {Ω : OmT} {hR : AH} {M : Nat} {ma : Nat → Nat} {σ : ZT} {τ : JT} (k : Nat) (h1 : k < 5) (h2 : StO0 σ k) : Ct Ω yX5_pressureOf cX5_pressureOf 2 (some FieldType.int) (rk 2) [.ref M, .int (iv k)] (InvM Ω M ma σ τ) hR (RV (.int (iv (pressZ σ k))) (InvM Ω M ma σ τ)) NX := by
  refine Ct.of (own := RX5) (L := [(0, _), (1, _)]) (by decide +kernel) rfl (Nat.le_of_ble_eq_true rfl) rfl ?_
  intro κ C hn E hi
  have hr := st_room h2
  have h3 : 0 ≤ σ 6 k ∧ σ 6 k ≤ 1000000 := ⟨h2.2.2.2.2.2.2.1, h2.2.2.2.2.2.2.2.1⟩
  refine y_bipush (pc := 0) (z := 100) C dX5_pressureOf_0 (by decide) ?_
  refine y_aload_n (pc := 2) C dX5_pressureOf_2 0 rfl ?_
  refine y_get (pc := 3) C fg_X5_19 dX5_pressureOf_3 (fun h hh => ⟨_, hh.1, rfl⟩) ?_
  refine y_iload_n (pc := 6) C dX5_pressureOf_6 1 rfl ?_
  refine m_iald (pc := 7) C 6 _ rfl rfl (by show _ < 5; omega) dX5_pressureOf_7 ?_
  refine y_imul (pc := 8) C dX5_pressureOf_8 ?_
  refine y_aload_n (pc := 9) C dX5_pressureOf_9 0 rfl ?_
  refine y_iload_n (pc := 10) C dX5_pressureOf_10 1 rfl ?_
  refine y_callV (pc := 11) (As := [_]) C E.2.1 cv_X5_115 (ci := 6) rfl rfl (mt_roomOf _ (by omega)) (fun h hh => ⟨_, hh.1⟩) rfl rfl (Nat.le_of_ble_eq_true rfl) ⟨by decide, by decide, by decide, by decide⟩ dX5_pressureOf_11 ⟨rfl, rfl⟩ ?_
  refine y_idivP (pc := 14) C dX5_pressureOf_14 (by omega) (by omega) (by omega) (by omega) ?_
  exact y_iret (pc := 15) C E dX5_pressureOf_15 (by decide) (by decide) (fun h hh => ⟨rfl, hh⟩)

set_option maxRecDepth 20000 in
theorem mt_rateOf {Ω : OmT} {hR : AH} {M : Nat} {ma : Nat → Nat} {σ : ZT} {τ : JT} (k : Nat) (b : Bool) (h1 : k < 5) (h2 : StOk σ k) : Ct Ω yX5_rateOf cX5_rateOf 8 (some FieldType.int) (rk 3) [.ref M, .int (iv k), .int (iv (bz b))] (InvM Ω M ma σ τ) hR (RV (.int (iv (rateZ σ k b))) (InvM Ω M ma σ τ)) NX := by
  refine Ct.of (own := RX5) (L := [(0, _), (1, _), (2, _)]) (by decide +kernel) rfl (Nat.le_of_ble_eq_true rfl) rfl ?_
  intro κ C hn E hi
  have hr := st_room h2.1
  have hp := st_press h2
  have hmo := st_most h2.1
  have hle := st_least h2.1
  have hrb := rate_b (b := b) h2
  have hst := h2.1
  unfold StO0 at hst
  refine y_aload_n (pc := 0) C dX5_rateOf_0 0 rfl ?_
  refine y_iload_n (pc := 1) C dX5_rateOf_1 1 rfl ?_
  refine y_callV (pc := 2) (As := [_]) C E.2.1 cv_X5_119 (ci := 6) rfl rfl (mt_pressureOf _ (by omega) h2.1) (fun h hh => ⟨_, hh.1⟩) rfl rfl (Nat.le_of_ble_eq_true rfl) ⟨by decide, by decide, by decide, by decide⟩ dX5_rateOf_2 ⟨rfl, rfl⟩ ?_
  refine y_istore_n (pc := 5) (L' := [(3, _), (0, _), (1, _), (2, _)]) C dX5_rateOf_5 (by rw [hn]; decide) rfl ?_
  refine y_joinI (pcj := 29) (P := fun q => q = byZ σ k b) (fun v1 hv1 => ?_) (fun J1 => ?_)
  · skip
    subst hv1
    refine y_istore (pc := 29) (L' := [(4, _), (3, _), (0, _), (1, _), (2, _)]) C dX5_rateOf_29 (by rw [hn]; decide) rfl ?_
    refine y_joinI (pcj := 80) (P := fun q => q = mstZ σ k b) (fun v2 hv2 => ?_) (fun J2 => ?_)
    · skip
      subst hv2
      refine y_istore (pc := 80) (L' := [(5, _), (4, _), (3, _), (0, _), (1, _), (2, _)]) C dX5_rateOf_80 (by rw [hn]; decide) rfl ?_
      refine y_iload (pc := 82) C dX5_rateOf_82 1 rfl ?_
      refine y_if_le (pc := 84) (tgt := 92) C dX5_rateOf_84 (by decide) (by omega) (by omega) (fun c84 => ?_) (fun c84 => ?_)
      · skip
        have e0 : rateZ σ k b = 0 := if_pos (by omega)
        refine y_iconst (pc := 92) C dX5_rateOf_92 ?_
        exact y_iret (pc := 93) C E dX5_rateOf_93 (by decide) (by decide) (fun h hh => ⟨by rw [e0], hh⟩)
      · skip
        refine y_iload (pc := 87) C dX5_rateOf_87 0 rfl ?_
        refine y_if_gt (pc := 89) (tgt := 94) C dX5_rateOf_89 (by decide) (by omega) (by omega) (fun c89 => ?_) (fun c89 => ?_)
        · skip
          have m1 := mulb (by omega : 0 ≤ σ 10 k) (by omega : σ 10 k ≤ 100) (by omega : 0 ≤ σ 11 k) (by omega : σ 11 k ≤ 1000)
          have m2 := mulb m1.1 m1.2 (by omega : 0 ≤ byZ σ k b) (by omega : byZ σ k b ≤ 1000)
          refine y_aload_n (pc := 94) C dX5_rateOf_94 3 rfl ?_
          refine y_get (pc := 95) C fg_X5_31 dX5_rateOf_95 (fun h hh => ⟨_, hh.1, rfl⟩) ?_
          refine y_iload_n (pc := 98) C dX5_rateOf_98 4 rfl ?_
          refine m_iald (pc := 99) C 10 _ rfl rfl (by show _ < 5; omega) dX5_rateOf_99 ?_
          refine y_i2l (pc := 100) C dX5_rateOf_100 (by omega) (by omega) ?_
          refine y_aload_n (pc := 101) C dX5_rateOf_101 3 rfl ?_
          refine y_get (pc := 102) C fg_X5_34 dX5_rateOf_102 (fun h hh => ⟨_, hh.1, rfl⟩) ?_
          refine y_iload_n (pc := 105) C dX5_rateOf_105 4 rfl ?_
          refine m_iald (pc := 106) C 11 _ rfl rfl (by show _ < 5; omega) dX5_rateOf_106 ?_
          refine y_i2l (pc := 107) C dX5_rateOf_107 (by omega) (by omega) ?_
          refine y_lmul (pc := 108) C dX5_rateOf_108 ?_
          refine y_iload (pc := 109) C dX5_rateOf_109 1 rfl ?_
          refine y_i2l (pc := 111) C dX5_rateOf_111 (by omega) (by omega) ?_
          refine y_lmul (pc := 112) C dX5_rateOf_112 ?_
          refine y_ldc2 (pc := 113) (z := 100) C aw_4_215 (by decide) dX5_rateOf_113 ?_
          refine y_ldivP (pc := 116) C dX5_rateOf_116 (by omega) (by omega) (by omega) (by omega) ?_
          refine y_lstore (pc := 117) (L' := [(6, _), (5, _), (4, _), (3, _), (0, _), (1, _), (2, _)]) C dX5_rateOf_117 (by rw [hn]; decide) rfl ?_
          refine y_joinI (pcj := 136) (P := fun q => q = rateZ σ k b) (fun v3 hv3 => ?_) (fun J3 => ?_)
          · skip
            subst hv3
            exact y_iret (pc := 136) C E dX5_rateOf_136 (by decide) (by decide) (fun h hh => ⟨rfl, hh⟩)
          · skip
            refine y_lload (pc := 119) C dX5_rateOf_119 0 rfl ?_
            refine y_iload (pc := 121) C dX5_rateOf_121 1 rfl ?_
            refine y_i2l (pc := 123) C dX5_rateOf_123 (by omega) (by omega) ?_
            refine y_lcmp_ge (pc := 124) (tgt := 134) C dX5_rateOf_124 dX5_rateOf_125 (by decide) (by omega) (by omega) (by omega) (by omega) (fun c124 => ?_) (fun c124 => ?_)
            · skip
              refine y_iload (pc := 134) C dX5_rateOf_134 1 rfl ?_
              exact J3 _ (by have e : rateZ σ k b = min (σ 10 k * σ 11 k * byZ σ k b / 100) (mstZ σ k b) := if_neg (by omega); omega)
            · skip
              refine y_lload (pc := 128) C dX5_rateOf_128 0 rfl ?_
              refine y_l2i (pc := 130) C dX5_rateOf_130 ?_
              refine y_goto (pc := 131) (tgt := 136) C dX5_rateOf_131 (by decide) ?_
              exact J3 _ (by have e : rateZ σ k b = min (σ 10 k * σ 11 k * byZ σ k b / 100) (mstZ σ k b) := if_neg (by omega); omega)
        · skip
          have e0 : rateZ σ k b = 0 := if_pos (by omega)
          refine y_iconst (pc := 92) C dX5_rateOf_92 ?_
          exact y_iret (pc := 93) C E dX5_rateOf_93 (by decide) (by decide) (fun h hh => ⟨by rw [e0], hh⟩)
    · skip
      refine y_iload_n (pc := 31) C dX5_rateOf_31 4 rfl ?_
      refine y_ifb_eq (pc := 32) (tgt := 59) C dX5_rateOf_32 (by decide) (fun c32 => ?_) (fun c32 => ?_)
      · skip
        refine y_aload_n (pc := 59) C dX5_rateOf_59 2 rfl ?_
        refine y_get (pc := 60) C fg_X5_19 dX5_rateOf_60 (fun h hh => ⟨_, hh.1, rfl⟩) ?_
        refine y_iload_n (pc := 63) C dX5_rateOf_63 3 rfl ?_
        refine m_iald (pc := 64) C 6 _ rfl rfl (by show _ < 5; omega) dX5_rateOf_64 ?_
        refine y_aload_n (pc := 65) C dX5_rateOf_65 2 rfl ?_
        refine y_get (pc := 66) C fg_X5_22 dX5_rateOf_66 (fun h hh => ⟨_, hh.1, rfl⟩) ?_
        refine y_iload_n (pc := 69) C dX5_rateOf_69 3 rfl ?_
        refine m_iald (pc := 70) C 7 _ rfl rfl (by show _ < 5; omega) dX5_rateOf_70 ?_
        refine y_aload_n (pc := 71) C dX5_rateOf_71 2 rfl ?_
        refine y_iload_n (pc := 72) C dX5_rateOf_72 3 rfl ?_
        refine y_callV (pc := 73) (As := [_]) C E.2.1 cv_X5_115 (ci := 6) rfl rfl (mt_roomOf _ (by omega)) (fun h hh => ⟨_, hh.1⟩) rfl rfl (Nat.le_of_ble_eq_true rfl) ⟨by decide, by decide, by decide, by decide⟩ dX5_rateOf_73 ⟨rfl, rfl⟩ ?_
        refine y_callS (pc := 76) (As := [_, _]) C E.2.1 cs_X5_126 (mt_leastGas _ _ ⟨by omega, by omega⟩ ⟨by omega, by omega⟩) rfl rfl (Nat.le_of_ble_eq_true rfl) ⟨by decide, by decide, by decide, by decide⟩ dX5_rateOf_76 ⟨rfl, rfl⟩ ?_
        refine y_isub (pc := 79) C dX5_rateOf_79 ?_
        exact J2 _ (by subst c32; rfl)
      · skip
        refine y_aload_n (pc := 35) C dX5_rateOf_35 2 rfl ?_
        refine y_get (pc := 36) C fg_X5_25 dX5_rateOf_36 (fun h hh => ⟨_, hh.1, rfl⟩) ?_
        refine y_iload_n (pc := 39) C dX5_rateOf_39 3 rfl ?_
        refine m_iald (pc := 40) C 8 _ rfl rfl (by show _ < 5; omega) dX5_rateOf_40 ?_
        refine y_aload_n (pc := 41) C dX5_rateOf_41 2 rfl ?_
        refine y_iload_n (pc := 42) C dX5_rateOf_42 3 rfl ?_
        refine y_callV (pc := 43) (As := [_]) C E.2.1 cv_X5_115 (ci := 6) rfl rfl (mt_roomOf _ (by omega)) (fun h hh => ⟨_, hh.1⟩) rfl rfl (Nat.le_of_ble_eq_true rfl) ⟨by decide, by decide, by decide, by decide⟩ dX5_rateOf_43 ⟨rfl, rfl⟩ ?_
        refine y_callS (pc := 46) (As := [_, _]) C E.2.1 cs_X5_122 (mt_mostGas _ _ ⟨by omega, by omega⟩ ⟨by omega, by omega⟩) rfl rfl (Nat.le_of_ble_eq_true rfl) ⟨by decide, by decide, by decide, by decide⟩ dX5_rateOf_46 ⟨rfl, rfl⟩ ?_
        refine y_aload_n (pc := 49) C dX5_rateOf_49 2 rfl ?_
        refine y_get (pc := 50) C fg_X5_19 dX5_rateOf_50 (fun h hh => ⟨_, hh.1, rfl⟩) ?_
        refine y_iload_n (pc := 53) C dX5_rateOf_53 3 rfl ?_
        refine m_iald (pc := 54) C 6 _ rfl rfl (by show _ < 5; omega) dX5_rateOf_54 ?_
        refine y_isub (pc := 55) C dX5_rateOf_55 ?_
        refine y_goto (pc := 56) (tgt := 80) C dX5_rateOf_56 (by decide) ?_
        exact J2 _ (by subst c32; rfl)
  · skip
    refine y_iload_n (pc := 6) C dX5_rateOf_6 3 rfl ?_
    refine y_ifb_eq (pc := 7) (tgt := 21) C dX5_rateOf_7 (by decide) (fun c7 => ?_) (fun c7 => ?_)
    · skip
      refine y_iload_n (pc := 21) C dX5_rateOf_21 0 rfl ?_
      refine y_aload_n (pc := 22) C dX5_rateOf_22 1 rfl ?_
      refine y_get (pc := 23) C fg_X5_22 dX5_rateOf_23 (fun h hh => ⟨_, hh.1, rfl⟩) ?_
      refine y_iload_n (pc := 26) C dX5_rateOf_26 2 rfl ?_
      refine m_iald (pc := 27) C 7 _ rfl rfl (by show _ < 5; omega) dX5_rateOf_27 ?_
      refine y_isub (pc := 28) C dX5_rateOf_28 ?_
      exact J1 _ (by subst c7; rfl)
    · skip
      refine y_aload_n (pc := 10) C dX5_rateOf_10 1 rfl ?_
      refine y_get (pc := 11) C fg_X5_25 dX5_rateOf_11 (fun h hh => ⟨_, hh.1, rfl⟩) ?_
      refine y_iload_n (pc := 14) C dX5_rateOf_14 2 rfl ?_
      refine m_iald (pc := 15) C 8 _ rfl rfl (by show _ < 5; omega) dX5_rateOf_15 ?_
      refine y_iload_n (pc := 16) C dX5_rateOf_16 0 rfl ?_
      refine y_isub (pc := 17) C dX5_rateOf_17 ?_
      refine y_goto (pc := 18) (tgt := 29) C dX5_rateOf_18 (by decide) ?_
      exact J1 _ (by subst c7; rfl)

set_option maxRecDepth 20000 in
theorem mt_rateWith {Ω : OmT} {hR : AH} {M : Nat} {ma : Nat → Nat} {σ : ZT} {τ : JT} (c : Nat) (has : Int) (b : Bool) (h1 : c < 6) (h2 : CuOk σ c) (h3 : 0 ≤ has ∧ has ≤ 1000000) : Ct Ω yX5_rateWith cX5_rateWith 4 (some FieldType.int) (rk 1) [.ref M, .int (iv c), .int (iv has), .int (iv (bz b))] (InvM Ω M ma σ τ) hR (RV (.int (iv (if b = true then rinZ σ c has else routZ σ c has))) (InvM Ω M ma σ τ)) NX := by
  refine Ct.of (own := RX5) (L := [(0, _), (1, _), (2, _), (3, _)]) (by decide +kernel) rfl (Nat.le_of_ble_eq_true rfl) rfl ?_
  intro κ C hn E hi
  have hc := h2
  unfold CuOk at hc
  refine y_iload_n (pc := 0) C dX5_rateWith_0 3 rfl ?_
  refine y_ifb_eq (pc := 1) (tgt := 43) C dX5_rateWith_1 (by decide) (fun c1 => ?_) (fun c1 => ?_)
  · skip
    refine y_joinI (pcj := 77) (P := fun q => q = routZ σ c has) (fun v1 hv1 => ?_) (fun J1 => ?_)
    · skip
      subst hv1
      exact y_iret (pc := 77) C E dX5_rateWith_77 (by decide) (by decide) (fun h hh => ⟨by subst c1; rfl, hh⟩)
    · skip
      refine y_ldc2 (pc := 43) (z := 3) C aw_5_34 (by decide) dX5_rateWith_43 ?_
      refine y_iload_n (pc := 46) C dX5_rateWith_46 2 rfl ?_
      refine y_i2l (pc := 47) C dX5_rateWith_47 (by omega) (by omega) ?_
      refine y_lmul (pc := 48) C dX5_rateWith_48 ?_
      refine y_aload_n (pc := 49) C dX5_rateWith_49 0 rfl ?_
      refine y_get (pc := 50) C fg_X5_51 dX5_rateWith_50 (fun h hh => ⟨_, hh.1, rfl⟩) ?_
      refine y_iload_n (pc := 53) C dX5_rateWith_53 1 rfl ?_
      refine m_iald (pc := 54) C 17 _ rfl rfl (by show _ < 6; omega) dX5_rateWith_54 ?_
      refine y_i2l (pc := 55) C dX5_rateWith_55 (by omega) (by omega) ?_
      refine y_lcmp_ge (pc := 56) (tgt := 71) C dX5_rateWith_56 dX5_rateWith_57 (by decide) (by omega) (by omega) (by omega) (by omega) (fun c56 => ?_) (fun c56 => ?_)
      · skip
        refine y_aload_n (pc := 71) C dX5_rateWith_71 0 rfl ?_
        refine y_get (pc := 72) C fg_X5_57 dX5_rateWith_72 (fun h hh => ⟨_, hh.1, rfl⟩) ?_
        refine y_iload_n (pc := 75) C dX5_rateWith_75 1 rfl ?_
        refine m_iald (pc := 76) C 19 _ rfl rfl (by show _ < 6; omega) dX5_rateWith_76 ?_
        exact J1 _ (by unfold routZ; split <;> first | rfl | (exfalso; omega))
      · skip
        refine y_aload_n (pc := 60) C dX5_rateWith_60 0 rfl ?_
        refine y_get (pc := 61) C fg_X5_57 dX5_rateWith_61 (fun h hh => ⟨_, hh.1, rfl⟩) ?_
        refine y_iload_n (pc := 64) C dX5_rateWith_64 1 rfl ?_
        refine m_iald (pc := 65) C 19 _ rfl rfl (by show _ < 6; omega) dX5_rateWith_65 ?_
        refine y_iconst (pc := 66) C dX5_rateWith_66 ?_
        refine y_idivP (pc := 67) C dX5_rateWith_67 (by omega) (by omega) (by omega) (by omega) ?_
        refine y_goto (pc := 68) (tgt := 77) C dX5_rateWith_68 (by decide) ?_
        exact J1 _ (by unfold routZ; split <;> first | rfl | (exfalso; omega))
  · skip
    refine y_joinI (pcj := 42) (P := fun q => q = rinZ σ c has) (fun v2 hv2 => ?_) (fun J2 => ?_)
    · skip
      subst hv2
      exact y_iret (pc := 42) C E dX5_rateWith_42 (by decide) (by decide) (fun h hh => ⟨by subst c1; rfl, hh⟩)
    · skip
      refine y_ldc2 (pc := 4) (z := 3) C aw_5_34 (by decide) dX5_rateWith_4 ?_
      refine y_iload_n (pc := 7) C dX5_rateWith_7 2 rfl ?_
      refine y_i2l (pc := 8) C dX5_rateWith_8 (by omega) (by omega) ?_
      refine y_lmul (pc := 9) C dX5_rateWith_9 ?_
      refine y_ldc2 (pc := 10) (z := 2) C aw_5_35 (by decide) dX5_rateWith_10 ?_
      refine y_aload_n (pc := 13) C dX5_rateWith_13 0 rfl ?_
      refine y_get (pc := 14) C fg_X5_51 dX5_rateWith_14 (fun h hh => ⟨_, hh.1, rfl⟩) ?_
      refine y_iload_n (pc := 17) C dX5_rateWith_17 1 rfl ?_
      refine m_iald (pc := 18) C 17 _ rfl rfl (by show _ < 6; omega) dX5_rateWith_18 ?_
      refine y_i2l (pc := 19) C dX5_rateWith_19 (by omega) (by omega) ?_
      refine y_lmul (pc := 20) C dX5_rateWith_20 ?_
      refine y_lcmp_le (pc := 21) (tgt := 36) C dX5_rateWith_21 dX5_rateWith_22 (by decide) (by omega) (by omega) (by omega) (by omega) (fun c21 => ?_) (fun c21 => ?_)
      · skip
        refine y_aload_n (pc := 36) C dX5_rateWith_36 0 rfl ?_
        refine y_get (pc := 37) C fg_X5_54 dX5_rateWith_37 (fun h hh => ⟨_, hh.1, rfl⟩) ?_
        refine y_iload_n (pc := 40) C dX5_rateWith_40 1 rfl ?_
        refine m_iald (pc := 41) C 18 _ rfl rfl (by show _ < 6; omega) dX5_rateWith_41 ?_
        exact J2 _ (by unfold rinZ; split <;> first | rfl | (exfalso; omega))
      · skip
        refine y_aload_n (pc := 25) C dX5_rateWith_25 0 rfl ?_
        refine y_get (pc := 26) C fg_X5_54 dX5_rateWith_26 (fun h hh => ⟨_, hh.1, rfl⟩) ?_
        refine y_iload_n (pc := 29) C dX5_rateWith_29 1 rfl ?_
        refine m_iald (pc := 30) C 18 _ rfl rfl (by show _ < 6; omega) dX5_rateWith_30 ?_
        refine y_iconst (pc := 31) C dX5_rateWith_31 ?_
        refine y_idivP (pc := 32) C dX5_rateWith_32 (by omega) (by omega) (by omega) (by omega) ?_
        refine y_goto (pc := 33) (tgt := 42) C dX5_rateWith_33 (by decide) ?_
        exact J2 _ (by unfold rinZ; split <;> first | rfl | (exfalso; omega))

set_option maxRecDepth 20000 in
theorem mt_loses {Ω : OmT} {hR : AH} {M : Nat} {ma : Nat → Nat} {σ : ZT} {τ : JT} (k : Nat) (u : Int) (h1 : k < 5) (h2 : -2147483648 ≤ u ∧ u < 2147483648) (h3 : 0 ≤ σ 6 k ∧ σ 6 k < 2147483648) : Ct Ω yX5_loses cX5_loses 3 none (rk 1) [.ref M, .int (iv k), .int (iv u)] (InvM Ω M ma σ τ) hR (RU (InvM Ω M ma (losP k u (σ, τ)).1 (losP k u (σ, τ)).2)) NX := by
  refine Ct.of (own := RX5) (L := [(0, _), (1, _), (2, _)]) (by decide +kernel) rfl (Nat.le_of_ble_eq_true rfl) rfl ?_
  intro κ C hn E hi
  refine y_aload_n (pc := 0) C dX5_loses_0 0 rfl ?_
  refine y_get (pc := 1) C fg_X5_40 dX5_loses_1 (fun h hh => ⟨_, hh.1, rfl⟩) ?_
  refine y_iload_n (pc := 4) C dX5_loses_4 1 rfl ?_
  refine y_dup2 (pc := 5) C dX5_loses_5 rfl rfl ?_
  refine m_lald (pc := 6) C 13 _ rfl rfl (by show _ < 5; omega) dX5_loses_6 ?_
  refine y_joinJ (pcj := 37) (P := fun q => q = lossJ σ τ k u) (fun v1 hv1 => ?_) (fun J1 => ?_)
  · skip
    subst hv1
    refine y_lsubR (pc := 37) C dX5_loses_37 ?_
    refine m_last (pc := 38) C 13 _ rfl rfl (by show _ < 5; omega) dX5_loses_38 ?_
    refine y_aload_n (pc := 39) C dX5_loses_39 0 rfl ?_
    refine y_get (pc := 40) C fg_X5_19 dX5_loses_40 (fun h hh => ⟨_, hh.1, rfl⟩) ?_
    refine y_iload_n (pc := 43) C dX5_loses_43 1 rfl ?_
    refine y_dup2 (pc := 44) C dX5_loses_44 rfl rfl ?_
    refine m_iald (pc := 45) C 6 _ rfl rfl (by show _ < 5; omega) dX5_loses_45 ?_
    refine y_iload_n (pc := 46) C dX5_loses_46 2 rfl ?_
    refine y_isub (pc := 47) C dX5_loses_47 ?_
    refine m_iast (pc := 48) C 6 _ rfl rfl (by show _ < 5; omega) dX5_loses_48 ?_
    exact y_vret (pc := 49) C E dX5_loses_49 (by decide) (by decide) (fun h hh => ⟨rfl, hh⟩)
  · skip
    refine y_aload_n (pc := 7) C dX5_loses_7 0 rfl ?_
    refine y_get (pc := 8) C fg_X5_19 dX5_loses_8 (fun h hh => ⟨_, hh.1, rfl⟩) ?_
    refine y_iload_n (pc := 11) C dX5_loses_11 1 rfl ?_
    refine m_iald (pc := 12) C 6 _ rfl rfl (by show _ < 5; omega) dX5_loses_12 ?_
    refine y_if_ne (pc := 13) (tgt := 20) C dX5_loses_13 (by decide) (by omega) (by omega) (fun c13 => ?_) (fun c13 => ?_)
    · skip
      refine y_iload_n (pc := 20) C dX5_loses_20 2 rfl ?_
      refine y_i2l (pc := 21) C dX5_loses_21 (by omega) (by omega) ?_
      refine y_aload_n (pc := 22) C dX5_loses_22 0 rfl ?_
      refine y_get (pc := 23) C fg_X5_40 dX5_loses_23 (fun h hh => ⟨_, hh.1, rfl⟩) ?_
      refine y_iload_n (pc := 26) C dX5_loses_26 1 rfl ?_
      refine m_lald (pc := 27) C 13 _ rfl rfl (by show _ < 5; omega) dX5_loses_27 ?_
      refine y_lmulR (pc := 28) C dX5_loses_28 ?_
      refine y_aload_n (pc := 29) C dX5_loses_29 0 rfl ?_
      refine y_get (pc := 30) C fg_X5_19 dX5_loses_30 (fun h hh => ⟨_, hh.1, rfl⟩) ?_
      refine y_iload_n (pc := 33) C dX5_loses_33 1 rfl ?_
      refine m_iald (pc := 34) C 6 _ rfl rfl (by show _ < 5; omega) dX5_loses_34 ?_
      refine y_i2l (pc := 35) C dX5_loses_35 (by omega) (by omega) ?_
      refine y_ldivR (pc := 36) C dX5_loses_36 (by rw [← jv_0, jv_eq (by omega) (by omega) (by decide) (by decide)]; exact c13) ?_
      exact J1 _ (by unfold lossJ; rw [if_neg c13])
    · skip
      refine y_lconst (pc := 16) (z := 0) C dX5_loses_16 (by decide) ?_
      refine y_goto (pc := 17) (tgt := 37) C dX5_loses_17 (by decide) ?_
      exact J1 _ (by unfold lossJ; rw [if_pos c13])

set_option maxRecDepth 20000 in
theorem mt_gets {Ω : OmT} {hR : AH} {M : Nat} {ma : Nat → Nat} {σ : ZT} {τ : JT} (k : Nat) (u : Int) (h1 : k < 5) (h2 : -2147483648 ≤ u ∧ u < 2147483648) (h3 : -2147483648 ≤ σ 15 0 ∧ σ 15 0 < 2147483648) : Ct Ω yX5_gets cX5_gets 3 none (rk 1) [.ref M, .int (iv k), .int (iv u)] (InvM Ω M ma σ τ) hR (RU (InvM Ω M ma (getP k u (σ, τ)).1 (getP k u (σ, τ)).2)) NX := by
  refine Ct.of (own := RX5) (L := [(0, _), (1, _), (2, _)]) (by decide +kernel) rfl (Nat.le_of_ble_eq_true rfl) rfl ?_
  intro κ C hn E hi
  refine y_aload_n (pc := 0) C dX5_gets_0 0 rfl ?_
  refine y_get (pc := 1) C fg_X5_19 dX5_gets_1 (fun h hh => ⟨_, hh.1, rfl⟩) ?_
  refine y_iload_n (pc := 4) C dX5_gets_4 1 rfl ?_
  refine y_dup2 (pc := 5) C dX5_gets_5 rfl rfl ?_
  refine m_iald (pc := 6) C 6 _ rfl rfl (by show _ < 5; omega) dX5_gets_6 ?_
  refine y_iload_n (pc := 7) C dX5_gets_7 2 rfl ?_
  refine y_iadd (pc := 8) C dX5_gets_8 ?_
  refine m_iast (pc := 9) C 6 _ rfl rfl (by show _ < 5; omega) dX5_gets_9 ?_
  refine y_aload_n (pc := 10) C dX5_gets_10 0 rfl ?_
  refine y_get (pc := 11) C fg_X5_40 dX5_gets_11 (fun h hh => ⟨_, hh.1, rfl⟩) ?_
  refine y_iload_n (pc := 14) C dX5_gets_14 1 rfl ?_
  refine y_dup2 (pc := 15) C dX5_gets_15 rfl rfl ?_
  refine m_lald (pc := 16) C 13 _ rfl rfl (by show _ < 5; omega) dX5_gets_16 ?_
  refine y_iload_n (pc := 17) C dX5_gets_17 2 rfl ?_
  refine y_i2l (pc := 18) C dX5_gets_18 (by omega) (by omega) ?_
  refine y_aload_n (pc := 19) C dX5_gets_19 0 rfl ?_
  refine y_get (pc := 20) C fg_X5_47 dX5_gets_20 (fun h hh => ⟨_, hh.1, rfl⟩) ?_
  refine y_i2l (pc := 23) C dX5_gets_23 (by show _ ≤ σ 15 0; omega) (by show σ 15 0 < _; omega) ?_
  refine y_lmul (pc := 24) C dX5_gets_24 ?_
  refine y_laddR (pc := 25) C dX5_gets_25 ?_
  refine m_last (pc := 26) C 13 _ rfl rfl (by show _ < 5; omega) dX5_gets_26 ?_
  exact y_vret (pc := 27) C E dX5_gets_27 (by decide) (by decide) (fun h hh => ⟨rfl, hh⟩)

set_option maxRecDepth 20000 in
theorem mt_isLost {Ω : OmT} {hR : AH} {M : Nat} {ma : Nat → Nat} {σ : ZT} {τ : JT} (k : Nat) (u : Int) (h1 : k < 5) (h2 : -2147483648 ≤ u ∧ u < 2147483648) (h3 : 0 ≤ σ 6 k ∧ σ 6 k < 2147483648) : Ct Ω yX5_isLost cX5_isLost 3 none (rk 2) [.ref M, .int (iv k), .int (iv u)] (InvM Ω M ma σ τ) hR (RU (InvM Ω M ma (lstP k u (σ, τ)).1 (lstP k u (σ, τ)).2)) NX := by
  refine Ct.of (own := RX5) (L := [(0, _), (1, _), (2, _)]) (by decide +kernel) rfl (Nat.le_of_ble_eq_true rfl) rfl ?_
  intro κ C hn E hi
  refine y_aload_n (pc := 0) C dX5_isLost_0 0 rfl ?_
  refine y_iload_n (pc := 1) C dX5_isLost_1 1 rfl ?_
  refine y_iload_n (pc := 2) C dX5_isLost_2 2 rfl ?_
  refine y_callVv (pc := 3) (As := [_, _]) C E.2.1 cv_X5_199 (ci := 6) rfl rfl (mt_loses _ _ (by omega) ⟨by omega, by omega⟩ ⟨by omega, by omega⟩) (fun h hh => ⟨_, hh.1⟩) rfl rfl (Nat.le_of_ble_eq_true rfl) ⟨by decide, by decide, by decide, by decide⟩ dX5_isLost_3 ⟨rfl, rfl⟩ ?_
  refine y_aload_n (pc := 6) C dX5_isLost_6 0 rfl ?_
  refine y_dup (pc := 7) C dX5_isLost_7 rfl ?_
  refine y_get (pc := 8) C fg_X5_203 dX5_isLost_8 (fun h hh => ⟨_, hh.1, rfl⟩) ?_
  refine y_iload_n (pc := 11) C dX5_isLost_11 2 rfl ?_
  refine y_i2l (pc := 12) C dX5_isLost_12 (by omega) (by omega) ?_
  refine y_laddR (pc := 13) C dX5_isLost_13 ?_
  refine m_putJ (pc := 14) C 35 rfl fp_X5_203 dX5_isLost_14 ?_
  exact y_vret (pc := 17) C E dX5_isLost_17 (by decide) (by decide) (fun h hh => ⟨rfl, hh⟩)
