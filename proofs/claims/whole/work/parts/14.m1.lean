set_option maxRecDepth 20000 in
theorem mt_isIn {Ω : OmT} {hR : AH} {Φ : AH → Prop} (v a b : Int) (h1 : -2147483648 ≤ v ∧ v < 2147483648) (h2 : -2147483648 ≤ a ∧ a < 2147483648) (h3 : -2147483648 ≤ b ∧ b < 2147483648) : Ct Ω yX5_isIn cX5_isIn 3 (some FieldType.boolean) (rk 1) [.int (iv v), .int (iv a), .int (iv b)] (Φ) hR (RV (.int (iv (bz (decide (a ≤ v ∧ v ≤ b))))) (Φ)) NX := by
  refine Ct.of (own := RX5) (L := [(0, _), (1, _), (2, _)]) (by decide +kernel) rfl (Nat.le_of_ble_eq_true rfl) rfl ?_
  intro κ C hn E hi
  refine y_joinB (pcj := 15) (P := fun q => q = decide (a ≤ v ∧ v ≤ b)) (fun v1 hv1 => ?_) (fun J1 => ?_)
  · skip
    rw [hv1]
    exact y_zret C E dX5_isIn_15 (by decide) (by decide) (fun h hh => ⟨rfl, hh⟩)
  · skip
    refine y_iload_n C dX5_isIn_0 0 rfl ?_
    refine y_iload_n C dX5_isIn_1 1 rfl ?_
    refine y_icmp_lt (tgt := 14) C dX5_isIn_2 (by decide) (by omega) (by omega) (by omega) (by omega) (fun c2 => ?_) (fun c2 => ?_)
    · skip
      refine y_iconst C dX5_isIn_14 ?_
      exact J1 false (by first | (exact (decide_eq_true (by omega)).symm) | (exact (decide_eq_false (by omega)).symm))
    · skip
      refine y_iload_n C dX5_isIn_5 0 rfl ?_
      refine y_iload_n C dX5_isIn_6 2 rfl ?_
      refine y_icmp_gt (tgt := 14) C dX5_isIn_7 (by decide) (by omega) (by omega) (by omega) (by omega) (fun c7 => ?_) (fun c7 => ?_)
      · skip
        refine y_iconst C dX5_isIn_14 ?_
        exact J1 false (by first | (exact (decide_eq_true (by omega)).symm) | (exact (decide_eq_false (by omega)).symm))
      · skip
        refine y_iconst C dX5_isIn_10 ?_
        refine y_goto (tgt := 15) C dX5_isIn_11 (by decide) ?_
        exact J1 false (by first | (exact (decide_eq_true (by omega)).symm) | (exact (decide_eq_false (by omega)).symm))

set_option maxRecDepth 20000 in
theorem mt_lesser {Ω : OmT} {hR : AH} {Φ : AH → Prop} (a b : Int) (h1 : -2147483648 ≤ a ∧ a < 2147483648) (h2 : -2147483648 ≤ b ∧ b < 2147483648) : Ct Ω yX5_lesser cX5_lesser 2 (some FieldType.int) (rk 1) [.int (iv a), .int (iv b)] (Φ) hR (RV (.int (iv (min a b))) (Φ)) NX := by
  refine Ct.of (own := RX5) (L := [(0, _), (1, _)]) (by decide +kernel) rfl (Nat.le_of_ble_eq_true rfl) rfl ?_
  intro κ C hn E hi
  refine y_joinI (pcj := 10) (P := fun q => q = min a b) (fun v1 hv1 => ?_) (fun J1 => ?_)
  · skip
    rw [hv1]
    exact y_iret C E dX5_lesser_10 (by decide) (by decide) (fun h hh => ⟨rfl, hh⟩)
  · skip
    refine y_iload_n C dX5_lesser_0 0 rfl ?_
    refine y_iload_n C dX5_lesser_1 1 rfl ?_
    refine y_icmp_ge (tgt := 9) C dX5_lesser_2 (by decide) (by omega) (by omega) (by omega) (by omega) (fun c2 => ?_) (fun c2 => ?_)
    · skip
      refine y_iload_n C dX5_lesser_9 1 rfl ?_
      exact J1 _ (by omega)
    · skip
      refine y_iload_n C dX5_lesser_5 0 rfl ?_
      refine y_goto (tgt := 10) C dX5_lesser_6 (by decide) ?_
      exact J1 _ (by omega)

set_option maxRecDepth 20000 in
theorem mt_leastGas {Ω : OmT} {hR : AH} {Φ : AH → Prop} (p r : Int) (h1 : 0 ≤ p ∧ p ≤ 1000) (h2 : 1 ≤ r ∧ r ≤ 100000) : Ct Ω yX5_leastGas cX5_leastGas 2 (some FieldType.int) (rk 1) [.int (iv p), .int (iv r)] (Φ) hR (RV (.int (iv (leastZ p r))) (Φ)) NX := by
  refine Ct.of (own := RX5) (L := [(0, _), (1, _)]) (by decide +kernel) rfl (Nat.le_of_ble_eq_true rfl) rfl ?_
  intro κ C hn E hi
  have hb := mz_b h1.1 h1.2 h2.1 h2.2
  refine y_iload_n C dX5_leastGas_0 0 rfl ?_
  refine y_iload_n C dX5_leastGas_1 1 rfl ?_
  refine y_imul C dX5_leastGas_2 ?_
  refine y_bipush (z := 99) C dX5_leastGas_3 (by decide) ?_
  refine y_iadd C dX5_leastGas_5 ?_
  refine y_bipush (z := 100) C dX5_leastGas_6 (by decide) ?_
  refine y_idivP C dX5_leastGas_8 (by omega) (by omega) (by omega) (by omega) ?_
  exact y_iret C E dX5_leastGas_9 (by decide) (by decide) (fun h hh => ⟨rfl, hh⟩)

set_option maxRecDepth 20000 in
theorem mt_mostGas {Ω : OmT} {hR : AH} {Φ : AH → Prop} (p r : Int) (h1 : 0 ≤ p ∧ p ≤ 1000) (h2 : 1 ≤ r ∧ r ≤ 100000) : Ct Ω yX5_mostGas cX5_mostGas 2 (some FieldType.int) (rk 1) [.int (iv p), .int (iv r)] (Φ) hR (RV (.int (iv (mostZ p r))) (Φ)) NX := by
  refine Ct.of (own := RX5) (L := [(0, _), (1, _)]) (by decide +kernel) rfl (Nat.le_of_ble_eq_true rfl) rfl ?_
  intro κ C hn E hi
  have hb := mz_b h1.1 h1.2 h2.1 h2.2
  refine y_iload_n C dX5_mostGas_0 0 rfl ?_
  refine y_iload_n C dX5_mostGas_1 1 rfl ?_
  refine y_imul C dX5_mostGas_2 ?_
  refine y_bipush (z := 100) C dX5_mostGas_3 (by decide) ?_
  refine y_idivP C dX5_mostGas_5 (by omega) (by omega) (by omega) (by omega) ?_
  exact y_iret C E dX5_mostGas_6 (by decide) (by decide) (fun h hh => ⟨rfl, hh⟩)

set_option maxRecDepth 20000 in
theorem mt_thrown {Ω : OmT} {hR : AH} {M : Nat} {ma : Nat → Nat} {σ : ZT} {τ : JT} : Ct Ω yX5_thrown cX5_thrown 1 (some FieldType.int) (rk 1) [.ref M] (InvM Ω M ma σ τ) hR (RV (.int (iv (σ 0 0))) (InvM Ω M ma σ τ)) NX := by
  refine Ct.of (own := RX5) (L := [(0, _)]) (by decide +kernel) rfl (Nat.le_of_ble_eq_true rfl) rfl ?_
  intro κ C hn E hi
  refine y_aload_n C dX5_thrown_0 0 rfl ?_
  refine y_get C fg_X5_102 dX5_thrown_1 (fun h hh => ⟨_, hh.1, rfl⟩) ?_
  exact y_iret C E dX5_thrown_4 (by decide) (by decide) (fun h hh => ⟨rfl, hh⟩)

set_option maxRecDepth 20000 in
theorem mt_holds {Ω : OmT} {hR : AH} {M : Nat} {ma : Nat → Nat} {σ : ZT} {τ : JT} (x : Int) (h1 : -2147483648 ≤ x ∧ x < 2147483648) : Ct Ω yX5_holds cX5_holds 2 (some FieldType.boolean) (rk 1) [.ref M, .int (iv x)] (InvM Ω M ma σ τ) hR (RV (.int (iv (bz (decide (x = 0))))) (InvM Ω M ma (zu σ 0 0 x) τ)) NX := by
  refine Ct.of (own := RX5) (L := [(0, _), (1, _)]) (by decide +kernel) rfl (Nat.le_of_ble_eq_true rfl) rfl ?_
  intro κ C hn E hi
  refine y_aload_n C dX5_holds_0 0 rfl ?_
  refine y_iload_n C dX5_holds_1 1 rfl ?_
  refine m_putI C 0 rfl fp_X5_102 dX5_holds_2 ?_
  refine y_joinB (pcj := 14) (P := fun q => q = decide (x = 0)) (fun v1 hv1 => ?_) (fun J1 => ?_)
  · skip
    rw [hv1]
    exact y_zret C E dX5_holds_14 (by decide) (by decide) (fun h hh => ⟨rfl, hh⟩)
  · skip
    refine y_iload_n C dX5_holds_5 1 rfl ?_
    refine y_if_ne (tgt := 13) C dX5_holds_6 (by decide) (by omega) (by omega) (fun c6 => ?_) (fun c6 => ?_)
    · skip
      refine y_iconst C dX5_holds_13 ?_
      exact J1 false (by first | (exact (decide_eq_true (by omega)).symm) | (exact (decide_eq_false (by omega)).symm))
    · skip
      refine y_iconst C dX5_holds_9 ?_
      refine y_goto (tgt := 14) C dX5_holds_10 (by decide) ?_
      exact J1 true (by first | (exact (decide_eq_true (by omega)).symm) | (exact (decide_eq_false (by omega)).symm))

set_option maxRecDepth 20000 in
theorem mt_isStore {Ω : OmT} {hR : AH} {M : Nat} {ma : Nat → Nat} {σ : ZT} {τ : JT} (x : Int) (h1 : -2147483648 ≤ x ∧ x < 2147483648) (h2 : 0 ≤ σ 2 0 ∧ σ 2 0 ≤ 5) : Ct Ω yX5_isStore cX5_isStore 2 (some FieldType.boolean) (rk 2) [.ref M, .int (iv x)] (InvM Ω M ma σ τ) hR (RV (.int (iv (bz (decide (0 ≤ x ∧ x ≤ σ 2 0 - 1))))) (InvM Ω M ma σ τ)) NX := by
  refine Ct.of (own := RX5) (L := [(0, _), (1, _)]) (by decide +kernel) rfl (Nat.le_of_ble_eq_true rfl) rfl ?_
  intro κ C hn E hi
  refine y_iload_n C dX5_isStore_0 1 rfl ?_
  refine y_iconst C dX5_isStore_1 ?_
  refine y_aload_n C dX5_isStore_2 0 rfl ?_
  refine y_get C fg_X5_105 dX5_isStore_3 (fun h hh => ⟨_, hh.1, rfl⟩) ?_
  refine y_iconst C dX5_isStore_6 ?_
  refine y_isub C dX5_isStore_7 ?_
  refine y_callS (As := [_, _, _]) C E.2.1 cs_X5_108 (mt_isIn _ _ _ ⟨by omega, by omega⟩ ⟨by omega, by omega⟩ ⟨by omega, by omega⟩) rfl rfl (Nat.le_of_ble_eq_true rfl) ⟨by decide, by decide, by decide, by decide⟩ dX5_isStore_8 ⟨rfl, rfl⟩ ?_
  exact y_zret C E dX5_isStore_11 (by decide) (by decide) (fun h hh => ⟨rfl, hh⟩)

set_option maxRecDepth 20000 in
theorem mt_isCustomer {Ω : OmT} {hR : AH} {M : Nat} {ma : Nat → Nat} {σ : ZT} {τ : JT} (x : Int) (h1 : -2147483648 ≤ x ∧ x < 2147483648) (h2 : 0 ≤ σ 16 0 ∧ σ 16 0 ≤ 6) : Ct Ω yX5_isCustomer cX5_isCustomer 2 (some FieldType.boolean) (rk 2) [.ref M, .int (iv x)] (InvM Ω M ma σ τ) hR (RV (.int (iv (bz (decide (0 ≤ x ∧ x ≤ σ 16 0 - 1))))) (InvM Ω M ma σ τ)) NX := by
  refine Ct.of (own := RX5) (L := [(0, _), (1, _)]) (by decide +kernel) rfl (Nat.le_of_ble_eq_true rfl) rfl ?_
  intro κ C hn E hi
  refine y_iload_n C dX5_isCustomer_0 1 rfl ?_
  refine y_iconst C dX5_isCustomer_1 ?_
  refine y_aload_n C dX5_isCustomer_2 0 rfl ?_
  refine y_get C fg_X5_112 dX5_isCustomer_3 (fun h hh => ⟨_, hh.1, rfl⟩) ?_
  refine y_iconst C dX5_isCustomer_6 ?_
  refine y_isub C dX5_isCustomer_7 ?_
  refine y_callS (As := [_, _, _]) C E.2.1 cs_X5_108 (mt_isIn _ _ _ ⟨by omega, by omega⟩ ⟨by omega, by omega⟩ ⟨by omega, by omega⟩) rfl rfl (Nat.le_of_ble_eq_true rfl) ⟨by decide, by decide, by decide, by decide⟩ dX5_isCustomer_8 ⟨rfl, rfl⟩ ?_
  exact y_zret C E dX5_isCustomer_11 (by decide) (by decide) (fun h hh => ⟨rfl, hh⟩)

set_option maxRecDepth 20000 in
theorem mt_roomOf {Ω : OmT} {hR : AH} {M : Nat} {ma : Nat → Nat} {σ : ZT} {τ : JT} (k : Nat) (h1 : k < 5) : Ct Ω yX5_roomOf cX5_roomOf 2 (some FieldType.int) (rk 1) [.ref M, .int (iv k)] (InvM Ω M ma σ τ) hR (RV (.int (iv (roomZ σ k))) (InvM Ω M ma σ τ)) NX := by
  refine Ct.of (own := RX5) (L := [(0, _), (1, _)]) (by decide +kernel) rfl (Nat.le_of_ble_eq_true rfl) rfl ?_
  intro κ C hn E hi
  refine y_aload_n C dX5_roomOf_0 0 rfl ?_
  refine y_get C fg_X5_13 dX5_roomOf_1 (fun h hh => ⟨_, hh.1, rfl⟩) ?_
  refine y_iload_n C dX5_roomOf_4 1 rfl ?_
  refine m_iald C 4 _ rfl rfl (by show _ < 5; omega) dX5_roomOf_5 ?_
  refine y_aload_n C dX5_roomOf_6 0 rfl ?_
  refine y_get C fg_X5_16 dX5_roomOf_7 (fun h hh => ⟨_, hh.1, rfl⟩) ?_
  refine y_iload_n C dX5_roomOf_10 1 rfl ?_
  refine m_iald C 5 _ rfl rfl (by show _ < 5; omega) dX5_roomOf_11 ?_
  refine y_isub C dX5_roomOf_12 ?_
  exact y_iret C E dX5_roomOf_13 (by decide) (by decide) (fun h hh => ⟨rfl, hh⟩)

set_option maxRecDepth 20000 in
theorem mt_pressureOf {Ω : OmT} {hR : AH} {M : Nat} {ma : Nat → Nat} {σ : ZT} {τ : JT} (k : Nat) (h1 : k < 5) (h2 : StO0 σ k) : Ct Ω yX5_pressureOf cX5_pressureOf 2 (some FieldType.int) (rk 2) [.ref M, .int (iv k)] (InvM Ω M ma σ τ) hR (RV (.int (iv (pressZ σ k))) (InvM Ω M ma σ τ)) NX := by
  refine Ct.of (own := RX5) (L := [(0, _), (1, _)]) (by decide +kernel) rfl (Nat.le_of_ble_eq_true rfl) rfl ?_
  intro κ C hn E hi
  have hr := st_room h2
  have h3 : 0 ≤ σ 6 k ∧ σ 6 k ≤ 1000000 := ⟨h2.2.2.2.2.2.2.1, h2.2.2.2.2.2.2.2.1⟩
  refine y_bipush (z := 100) C dX5_pressureOf_0 (by decide) ?_
  refine y_aload_n C dX5_pressureOf_2 0 rfl ?_
  refine y_get C fg_X5_19 dX5_pressureOf_3 (fun h hh => ⟨_, hh.1, rfl⟩) ?_
  refine y_iload_n C dX5_pressureOf_6 1 rfl ?_
  refine m_iald C 6 _ rfl rfl (by show _ < 5; omega) dX5_pressureOf_7 ?_
  refine y_imul C dX5_pressureOf_8 ?_
  refine y_aload_n C dX5_pressureOf_9 0 rfl ?_
  refine y_iload_n C dX5_pressureOf_10 1 rfl ?_
  refine y_callV (As := [_]) C E.2.1 cv_X5_115 (ci := 6) rfl rfl (mt_roomOf _ (by omega)) (fun h hh => ⟨_, hh.1⟩) rfl rfl (Nat.le_of_ble_eq_true rfl) ⟨by decide, by decide, by decide, by decide⟩ dX5_pressureOf_11 ⟨rfl, rfl⟩ ?_
  refine y_idivP C dX5_pressureOf_14 (by omega) (by omega) (by omega) (by omega) ?_
  exact y_iret C E dX5_pressureOf_15 (by decide) (by decide) (fun h hh => ⟨rfl, hh⟩)
