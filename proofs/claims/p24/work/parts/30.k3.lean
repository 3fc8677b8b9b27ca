set_option maxRecDepth 20000 in
theorem mc_checkIndex3 {Ω : OmT} {hR : AH} {Φ : AH → Prop} (i n : Int) (h1 : 0 ≤ i ∧ i < n) (h2 : n < 2147483648) : Ct Ω yJ3_checkIndex_8e157 cJ3_checkIndex_8e157 3 (some FieldType.int) (rk 1) [.int (iv i), .int (iv n), .null] (Φ) hR (RV (.int (iv i)) (Φ)) NX := by
  refine Ct.of (own := RJ3) (L := [(0, _), (1, _), (2, _)]) (by decide +kernel) rfl (Nat.le_of_ble_eq_true rfl) rfl ?_
  intro κ C hn E hi
  refine y_iload_n (pc := 0) C dJ3_checkIndex_8e157_0 0 rfl ?_
  refine y_if_lt (pc := 1) (tgt := 9) C dJ3_checkIndex_8e157_1 (by decide) (by omega) (by omega) (fun c1 => ?_) (fun c1 => ?_)
  · exact absurd c1 (by omega)
  · skip
    refine y_iload_n (pc := 4) C dJ3_checkIndex_8e157_4 0 rfl ?_
    refine y_iload_n (pc := 5) C dJ3_checkIndex_8e157_5 1 rfl ?_
    refine y_icmp_lt (pc := 6) (tgt := 16) C dJ3_checkIndex_8e157_6 (by decide) (by omega) (by omega) (by omega) (by omega) (fun c6 => ?_) (fun c6 => ?_)
    · skip
      refine y_iload_n (pc := 16) C dJ3_checkIndex_8e157_16 0 rfl ?_
      exact y_iret (pc := 17) C E dJ3_checkIndex_8e157_17 (by decide) (by decide) (fun h hh => ⟨rfl, hh⟩)
    · exact absurd h1.2 c6

set_option maxRecDepth 20000 in
theorem mc_checkIndex {Ω : OmT} {hR : AH} {Φ : AH → Prop} (i n : Int) (h1 : 0 ≤ i ∧ i < n) (h2 : n < 2147483648) : Ct Ω yJ15_checkIndex_7cf53 cJ15_checkIndex_7cf53 2 (some FieldType.int) (rk 2) [.int (iv i), .int (iv n)] (Φ) hR (RV (.int (iv i)) (Φ)) NX := by
  refine Ct.of (own := RJ15) (L := [(0, _), (1, _)]) (by decide +kernel) rfl (Nat.le_of_ble_eq_true rfl) rfl ?_
  intro κ C hn E hi
  refine y_iload_n (pc := 0) C dJ15_checkIndex_7cf53_0 0 rfl ?_
  refine y_iload_n (pc := 1) C dJ15_checkIndex_7cf53_1 1 rfl ?_
  refine y_null (pc := 2) C dJ15_checkIndex_7cf53_2 ?_
  refine y_callS (pc := 3) (As := [_, _, _]) C E.2.1 cs_J15_105 (mc_checkIndex3 i n h1 h2) rfl rfl (Nat.le_of_ble_eq_true rfl) ⟨by decide, by decide, by decide, by decide⟩ dJ15_checkIndex_7cf53_3 ⟨rfl, rfl⟩ ?_
  exact y_iret (pc := 6) C E dJ15_checkIndex_7cf53_6 (by decide) (by decide) (fun h hh => ⟨rfl, hh⟩)

set_option maxRecDepth 20000 in
theorem mc_size {Ω : OmT} {hR : AH} {Φ : AH → Prop} (l e n : Nat) (el : Nat → Nat) (hn40 : n ≤ 40) (hΦ : ∀ h, Φ h → LiC Ω l e n el h) : Ct Ω yJx4a65c_size_8abf5 cJx4a65c_size_8abf5 1 (some FieldType.int) (rk 1) [.ref l] (Φ) hR (RV (.int (iv n)) (Φ)) NX := by
  refine Ct.of (own := RJx4a65c) (L := [(0, _)]) (by decide +kernel) rfl (Nat.le_of_ble_eq_true rfl) rfl ?_
  intro κ C hn E hi
  refine y_aload_n (pc := 0) C dJx4a65c_size_8abf5_0 0 rfl ?_
  refine y_get (pc := 1) C fg_Jx4a65c_48 dJx4a65c_size_8abf5_1 (fun h hh => (hΦ h hh).sz) ?_
  exact y_iret (pc := 4) C E dJx4a65c_size_8abf5_4 (by decide) (by decide) (fun h hh => ⟨rfl, hh⟩)

set_option maxRecDepth 20000 in
theorem mc_elementData {Ω : OmT} {hR : AH} {Φ : AH → Prop} (l e n : Nat) (el : Nat → Nat) (hn40 : n ≤ 40) (hΦ : ∀ h, Φ h → LiC Ω l e n el h) (i : Nat) (hik : i < n) : Ct Ω yJx4a65c_elementData_915e3 cJx4a65c_elementData_915e3 2 (some (FieldType.object "java/lang/Object")) (rk 1) [.ref l, .int (iv i)] (Φ) hR (RV (.ref (el i)) (Φ)) NX := by
  refine Ct.of (own := RJx4a65c) (L := [(0, _), (1, _)]) (by decide +kernel) rfl (Nat.le_of_ble_eq_true rfl) rfl ?_
  intro κ C hn E hi
  refine y_aload_n (pc := 0) C dJx4a65c_elementData_915e3_0 0 rfl ?_
  refine y_get (pc := 1) C fg_Jx4a65c_9 dJx4a65c_elementData_915e3_1 (fun h hh => (hΦ h hh).ed) ?_
  refine y_iload_n (pc := 4) C dJx4a65c_elementData_915e3_4 1 rfl ?_
  refine y_aald (pc := 5) (x := .ref (el i)) C dJx4a65c_elementData_915e3_5 (by omega) (by omega) (fun h hh => (hΦ h hh).at hik) ?_
  exact y_aret (pc := 6) C E (by first | exact Or.inl ⟨_, rfl⟩ | exact Or.inr ⟨_, rfl⟩) dJx4a65c_elementData_915e3_6 (by decide) (by decide) (fun h hh => ⟨rfl, hh⟩)

set_option maxRecDepth 20000 in
theorem mc_get {Ω : OmT} {hR : AH} {Φ : AH → Prop} (l e n : Nat) (el : Nat → Nat) (hn40 : n ≤ 40) (hΦ : ∀ h, Φ h → LiC Ω l e n el h) (i : Nat) (hik : i < n) : Ct Ω yJx4a65c_get_915e3 cJx4a65c_get_915e3 2 (some (FieldType.object "java/lang/Object")) (rk 3) [.ref l, .int (iv i)] (Φ) hR (RV (.ref (el i)) (Φ)) NX := by
  refine Ct.of (own := RJx4a65c) (L := [(0, _), (1, _)]) (by decide +kernel) rfl (Nat.le_of_ble_eq_true rfl) rfl ?_
  intro κ C hn E hi
  refine y_iload_n (pc := 0) C dJx4a65c_get_915e3_0 1 rfl ?_
  refine y_aload_n (pc := 1) C dJx4a65c_get_915e3_1 0 rfl ?_
  refine y_get (pc := 2) C fg_Jx4a65c_48 dJx4a65c_get_915e3_2 (fun h hh => (hΦ h hh).sz) ?_
  refine y_callS (pc := 5) (As := [_, _]) C E.2.1 cs_Jx4a65c_118 (mc_checkIndex _ _ (by omega) (by omega)) rfl rfl (Nat.le_of_ble_eq_true rfl) ⟨by decide, by decide, by decide, by decide⟩ dJx4a65c_get_915e3_5 ⟨rfl, rfl⟩ ?_
  refine y_pop (pc := 8) C dJx4a65c_get_915e3_8 rfl ?_
  refine y_aload_n (pc := 9) C dJx4a65c_get_915e3_9 0 rfl ?_
  refine y_iload_n (pc := 10) C dJx4a65c_get_915e3_10 1 rfl ?_
  refine y_callV (pc := 11) (As := [_]) C E.2.1 cv_Jx4a65c_123 (ci := 0) rfl rfl (mc_elementData l e n el hn40 hΦ i hik) (fun h hh => (hΦ h hh).obj) rfl rfl (Nat.le_of_ble_eq_true rfl) ⟨by decide, by decide, by decide, by decide⟩ dJx4a65c_get_915e3_11 ⟨rfl, rfl⟩ ?_
  exact y_aret (pc := 14) C E (by first | exact Or.inl ⟨_, rfl⟩ | exact Or.inr ⟨_, rfl⟩) dJx4a65c_get_915e3_14 (by decide) (by decide) (fun h hh => ⟨rfl, hh⟩)

set_option maxRecDepth 20000 in
theorem mc_rateInWith {Ω : OmT} {hR : AH} {lay : Nat → Nat → Nat} {ξ : XiT} {ms ns nc nl : Nat} {σ : ZT} {τ : JT} (c : Nat) (hc : c < nc) (h2 : CuOk σ c) (has : Int) (h3 : 0 ≤ has ∧ has ≤ σ 17 c) : Ct Ω yX0_rateInWith cX0_rateInWith 2 (some FieldType.int) (rk 1) [.ref (lay 2 c), .int (iv has)] (InvC Ω lay ms ns nc nl ξ σ τ) hR (RV (.int (iv (rinZ σ c has))) (InvC Ω lay ms ns nc nl ξ σ τ)) NX := by
  refine Ct.of (own := RX0) (L := [(0, _), (1, _)]) (by decide +kernel) rfl (Nat.le_of_ble_eq_true rfl) rfl ?_
  intro κ C hn E hi
  have hcu := h2
  unfold CuOk at hcu
  refine y_iconst (pc := 0) C dX0_rateInWith_0 ?_
  refine y_iload_n (pc := 1) C dX0_rateInWith_1 1 rfl ?_
  refine y_imul (pc := 2) C dX0_rateInWith_2 ?_
  refine y_iconst (pc := 3) C dX0_rateInWith_3 ?_
  refine y_aload_n (pc := 4) C dX0_rateInWith_4 0 rfl ?_
  refine y_get (pc := 5) C fg_X0_41 dX0_rateInWith_5 (fun h hh => ⟨_, hh.cus hc, rfl⟩) ?_
  refine y_imul (pc := 8) C dX0_rateInWith_8 ?_
  refine y_icmp_le (pc := 9) (tgt := 21) C dX0_rateInWith_9 (by decide) (by omega) (by omega) (by omega) (by omega) (fun c9 => ?_) (fun c9 => ?_)
  · skip
    refine y_aload_n (pc := 21) C dX0_rateInWith_21 0 rfl ?_
    refine y_get (pc := 22) C fg_X0_44 dX0_rateInWith_22 (fun h hh => ⟨_, hh.cus hc, rfl⟩) ?_
    exact y_iret (pc := 25) C E dX0_rateInWith_25 (by decide) (by decide) (fun h hh => ⟨by rw [show rinZ σ c has = σ 18 c from if_neg (by omega)], hh⟩)
  · skip
    refine y_aload_n (pc := 12) C dX0_rateInWith_12 0 rfl ?_
    refine y_get (pc := 13) C fg_X0_44 dX0_rateInWith_13 (fun h hh => ⟨_, hh.cus hc, rfl⟩) ?_
    refine y_iconst (pc := 16) C dX0_rateInWith_16 ?_
    refine y_idivP (pc := 17) C dX0_rateInWith_17 (by omega) (by omega) (by omega) (by omega) ?_
    refine y_goto (pc := 18) (tgt := 25) C dX0_rateInWith_18 (by decide) ?_
    exact y_iret (pc := 25) C E dX0_rateInWith_25 (by decide) (by decide) (fun h hh => ⟨by rw [show rinZ σ c has = σ 18 c / 2 from if_pos (by omega)], hh⟩)

set_option maxRecDepth 20000 in
theorem mc_rateOutWith {Ω : OmT} {hR : AH} {lay : Nat → Nat → Nat} {ξ : XiT} {ms ns nc nl : Nat} {σ : ZT} {τ : JT} (c : Nat) (hc : c < nc) (h2 : CuOk σ c) (has : Int) (h3 : 0 ≤ has ∧ has ≤ σ 17 c) : Ct Ω yX0_rateOutWith cX0_rateOutWith 2 (some FieldType.int) (rk 1) [.ref (lay 2 c), .int (iv has)] (InvC Ω lay ms ns nc nl ξ σ τ) hR (RV (.int (iv (routZ σ c has))) (InvC Ω lay ms ns nc nl ξ σ τ)) NX := by
  refine Ct.of (own := RX0) (L := [(0, _), (1, _)]) (by decide +kernel) rfl (Nat.le_of_ble_eq_true rfl) rfl ?_
  intro κ C hn E hi
  have hcu := h2
  unfold CuOk at hcu
  refine y_iconst (pc := 0) C dX0_rateOutWith_0 ?_
  refine y_iload_n (pc := 1) C dX0_rateOutWith_1 1 rfl ?_
  refine y_imul (pc := 2) C dX0_rateOutWith_2 ?_
  refine y_aload_n (pc := 3) C dX0_rateOutWith_3 0 rfl ?_
  refine y_get (pc := 4) C fg_X0_41 dX0_rateOutWith_4 (fun h hh => ⟨_, hh.cus hc, rfl⟩) ?_
  refine y_icmp_ge (pc := 7) (tgt := 19) C dX0_rateOutWith_7 (by decide) (by omega) (by omega) (by omega) (by omega) (fun c7 => ?_) (fun c7 => ?_)
  · skip
    refine y_aload_n (pc := 19) C dX0_rateOutWith_19 0 rfl ?_
    refine y_get (pc := 20) C fg_X0_47 dX0_rateOutWith_20 (fun h hh => ⟨_, hh.cus hc, rfl⟩) ?_
    exact y_iret (pc := 23) C E dX0_rateOutWith_23 (by decide) (by decide) (fun h hh => ⟨by rw [show routZ σ c has = σ 19 c from if_neg (by omega)], hh⟩)
  · skip
    refine y_aload_n (pc := 10) C dX0_rateOutWith_10 0 rfl ?_
    refine y_get (pc := 11) C fg_X0_47 dX0_rateOutWith_11 (fun h hh => ⟨_, hh.cus hc, rfl⟩) ?_
    refine y_iconst (pc := 14) C dX0_rateOutWith_14 ?_
    refine y_idivP (pc := 15) C dX0_rateOutWith_15 (by omega) (by omega) (by omega) (by omega) ?_
    refine y_goto (pc := 16) (tgt := 23) C dX0_rateOutWith_16 (by decide) ?_
    exact y_iret (pc := 23) C E dX0_rateOutWith_23 (by decide) (by decide) (fun h hh => ⟨by rw [show routZ σ c has = σ 19 c / 2 from if_pos (by omega)], hh⟩)

set_option maxRecDepth 20000 in
theorem mc_mostIn {Ω : OmT} {hR : AH} {lay : Nat → Nat → Nat} {ξ : XiT} {ms ns nc nl : Nat} {σ : ZT} {τ : JT} (c : Nat) (hc : c < nc) (h2 : CuOk σ c) (has : Int) (h3 : 0 ≤ has ∧ has ≤ σ 17 c) : Ct Ω yX0_mostIn cX0_mostIn 2 (some FieldType.int) (rk 2) [.ref (lay 2 c), .int (iv has)] (InvC Ω lay ms ns nc nl ξ σ τ) hR (RV (.int (iv (inZ σ c has))) (InvC Ω lay ms ns nc nl ξ σ τ)) NX := by
  refine Ct.of (own := RX0) (L := [(0, _), (1, _)]) (by decide +kernel) rfl (Nat.le_of_ble_eq_true rfl) rfl ?_
  intro κ C hn E hi
  have hcu := h2
  unfold CuOk at hcu
  have hri := rin_b (has := has) h2
  refine y_aload_n (pc := 0) C dX0_mostIn_0 0 rfl ?_
  refine y_iload_n (pc := 1) C dX0_mostIn_1 1 rfl ?_
  refine y_callV (pc := 2) (As := [_]) C E.2.1 cv_X0_53 (ci := 1) rfl rfl (mc_rateInWith c hc h2 _ h3) (fun h hh => ⟨_, hh.cus hc⟩) rfl rfl (Nat.le_of_ble_eq_true rfl) ⟨by decide, by decide, by decide, by decide⟩ dX0_mostIn_2 ⟨rfl, rfl⟩ ?_
  refine y_aload_n (pc := 5) C dX0_mostIn_5 0 rfl ?_
  refine y_get (pc := 6) C fg_X0_41 dX0_mostIn_6 (fun h hh => ⟨_, hh.cus hc, rfl⟩) ?_
  refine y_iload_n (pc := 9) C dX0_mostIn_9 1 rfl ?_
  refine y_isub (pc := 10) C dX0_mostIn_10 ?_
  refine y_min (pc := 11) C E.2.1 cs_X0_57.1 cs_X0_57.2.1 cs_X0_57.2.2.1 cs_X0_57.2.2.2.1 (by decide) (Nat.le_of_ble_eq_true rfl) (by decide) (by decide) (by omega) (by omega) (by omega) (by omega) dX0_mostIn_11 ?_
  exact y_iret (pc := 14) C E dX0_mostIn_14 (by decide) (by decide) (fun h hh => ⟨rfl, hh⟩)

set_option maxRecDepth 20000 in
theorem mc_mostOut {Ω : OmT} {hR : AH} {lay : Nat → Nat → Nat} {ξ : XiT} {ms ns nc nl : Nat} {σ : ZT} {τ : JT} (c : Nat) (hc : c < nc) (h2 : CuOk σ c) (has : Int) (h3 : 0 ≤ has ∧ has ≤ σ 17 c) : Ct Ω yX0_mostOut cX0_mostOut 2 (some FieldType.int) (rk 2) [.ref (lay 2 c), .int (iv has)] (InvC Ω lay ms ns nc nl ξ σ τ) hR (RV (.int (iv (outZ σ c has))) (InvC Ω lay ms ns nc nl ξ σ τ)) NX := by
  refine Ct.of (own := RX0) (L := [(0, _), (1, _)]) (by decide +kernel) rfl (Nat.le_of_ble_eq_true rfl) rfl ?_
  intro κ C hn E hi
  have hcu := h2
  unfold CuOk at hcu
  have hri := rout_b (has := has) h2
  refine y_aload_n (pc := 0) C dX0_mostOut_0 0 rfl ?_
  refine y_iload_n (pc := 1) C dX0_mostOut_1 1 rfl ?_
  refine y_callV (pc := 2) (As := [_]) C E.2.1 cv_X0_63 (ci := 1) rfl rfl (mc_rateOutWith c hc h2 _ h3) (fun h hh => ⟨_, hh.cus hc⟩) rfl rfl (Nat.le_of_ble_eq_true rfl) ⟨by decide, by decide, by decide, by decide⟩ dX0_mostOut_2 ⟨rfl, rfl⟩ ?_
  refine y_iload_n (pc := 5) C dX0_mostOut_5 1 rfl ?_
  refine y_min (pc := 6) C E.2.1 cs_X0_57.1 cs_X0_57.2.1 cs_X0_57.2.2.1 cs_X0_57.2.2.2.1 (by decide) (Nat.le_of_ble_eq_true rfl) (by decide) (by decide) (by omega) (by omega) (by omega) (by omega) dX0_mostOut_6 ?_
  exact y_iret (pc := 9) C E dX0_mostOut_9 (by decide) (by decide) (fun h hh => ⟨rfl, hh⟩)

set_option maxRecDepth 20000 in
theorem mc_planByRates {Ω : OmT} {hR : AH} {lay : Nat → Nat → Nat} {ξ : XiT} {ms ns nc nl : Nat} {σ : ZT} {τ : JT} (c : Nat) (hc : c < nc) (h2 : CuOk σ c) (h4 : NmOk σ nc) : Ct Ω yX0_planByRates cX0_planByRates 3 none (rk 3) [.ref (lay 2 c), .int (iv (σ 1 0))] (InvC Ω lay ms ns nc nl ξ σ τ) hR (RU (InvC Ω lay ms ns nc nl ξ (lay1 σ c) (τ))) NX := by
  refine Ct.of (own := RX0) (L := [(0, _), (1, _)]) (by decide +kernel) rfl (Nat.le_of_ble_eq_true rfl) rfl ?_
  intro κ C hn E hi
  have hcu := h2
  unfold CuOk at hcu
  have hn0 := h4.2
  have hN : σ 1 0 = ((nowN σ : Nat) : Int) := by unfold nowN; omega
  have hNl : nowN σ < 2147483648 := by omega
  have hnb := nom_b h4 hc
  have hbr := br_b h2
  have hin := inz_b (has := σ 21 c) h2 (by omega) (by omega)
  have hou := outz_b (has := σ 21 c) h2 (by omega) (by omega)
  refine y_aload_n (pc := 0) C dX0_planByRates_0 0 rfl ?_
  refine y_get (pc := 1) C fg_X0_12 dX0_planByRates_1 (fun h hh => ⟨_, hh.cus hc, rfl⟩) ?_
  refine y_iload_n (pc := 4) C dX0_planByRates_4 1 rfl ?_
  rw [hN]
  refine y_callV (pc := 5) (As := [_]) C E.2.1 cv_X0_66 (ci := 2) rfl rfl (mc_at (lay 3 c) (lay 4 c) (NF σ c) (nowN σ) hNl (fun h hh => hh.hou hc)) (fun h hh => ⟨_, (hh.hou hc).1⟩) rfl rfl (Nat.le_of_ble_eq_true rfl) ⟨by decide, by decide, by decide, by decide⟩ dX0_planByRates_5 ⟨rfl, rfl⟩ ?_
  rw [NF_n]
  refine y_istore_n (pc := 8) (L' := [(2, _), (0, _), (1, _)]) C dX0_planByRates_8 (by rw [hn]; decide) rfl ?_
  refine y_aload_n (pc := 9) C dX0_planByRates_9 1 rfl ?_
  refine y_aload_n (pc := 10) C dX0_planByRates_10 1 rfl ?_
  refine y_aload_n (pc := 11) C dX0_planByRates_11 1 rfl ?_
  refine y_get (pc := 12) C fg_X0_18 dX0_planByRates_12 (fun h hh => ⟨_, hh.cus hc, rfl⟩) ?_
  refine y_callV (pc := 15) (As := [_]) C E.2.1 cv_X0_69 (ci := 1) rfl rfl (mc_mostOut c hc h2 _ ⟨by omega, by omega⟩) (fun h hh => ⟨_, hh.cus hc⟩) rfl rfl (Nat.le_of_ble_eq_true rfl) ⟨by decide, by decide, by decide, by decide⟩ dX0_planByRates_15 ⟨rfl, rfl⟩ ?_
  refine y_ineg (pc := 18) C dX0_planByRates_18 ?_
  refine y_iload_n (pc := 19) C dX0_planByRates_19 0 rfl ?_
  refine y_aload_n (pc := 20) C dX0_planByRates_20 1 rfl ?_
  refine y_aload_n (pc := 21) C dX0_planByRates_21 1 rfl ?_
  refine y_get (pc := 22) C fg_X0_18 dX0_planByRates_22 (fun h hh => ⟨_, hh.cus hc, rfl⟩) ?_
  refine y_callV (pc := 25) (As := [_]) C E.2.1 cv_X0_72 (ci := 1) rfl rfl (mc_mostIn c hc h2 _ ⟨by omega, by omega⟩) (fun h hh => ⟨_, hh.cus hc⟩) rfl rfl (Nat.le_of_ble_eq_true rfl) ⟨by decide, by decide, by decide, by decide⟩ dX0_planByRates_25 ⟨rfl, rfl⟩ ?_
  refine y_min (pc := 28) C E.2.1 cs_X0_57.1 cs_X0_57.2.1 cs_X0_57.2.2.1 cs_X0_57.2.2.2.1 (by decide) (Nat.le_of_ble_eq_true rfl) (by decide) (by decide) (by omega) (by omega) (by omega) (by omega) dX0_planByRates_28 ?_
  refine y_max (pc := 31) C E.2.1 cs_X0_75.1 cs_X0_75.2.1 cs_X0_75.2.2.1 cs_X0_75.2.2.2.1 (by decide) (Nat.le_of_ble_eq_true rfl) (by decide) (by decide) (by omega) (by omega) (by omega) (by omega) dX0_planByRates_31 ?_
  refine k_putP (pc := 34) (a := brZ σ c) (b := tkZ σ c) C hc (plan_eq h2) fp_X0_32 dX0_planByRates_34 ?_
  refine y_aload_n (pc := 37) C dX0_planByRates_37 1 rfl ?_
  refine y_iconst (pc := 38) C dX0_planByRates_38 ?_
  refine k_putC (pc := 39) C 10 38 rfl hc (by omega) fp_X0_35 dX0_planByRates_39 ?_
  refine y_aload_n (pc := 42) C dX0_planByRates_42 1 rfl ?_
  refine y_joinI (pcj := 56) (P := fun q => q = caZ σ c) (fun v1 hv1 => ?_) (fun J1 => ?_)
  · skip
    subst hv1
    refine k_putC (pc := 56) C 11 39 rfl hc (by omega) fp_X0_38 dX0_planByRates_56 ?_
    exact y_vret (pc := 59) C E dX0_planByRates_59 (by decide) (by decide) (fun h hh => ⟨rfl, hh⟩)
  · skip
    refine y_aload_n (pc := 43) C dX0_planByRates_43 1 rfl ?_
    refine y_get (pc := 44) C fg_X0_32 dX0_planByRates_44 (fun h hh => ⟨_, hh.cus hc, rfl⟩) ?_
    rw [show zu (zu (zu σ 36 c (brZ σ c)) 37 c (tkZ σ c)) 38 c 0 36 c = brZ σ c from zu_s (σ := σ) (f := 36), show zu (zu (zu σ 36 c (brZ σ c)) 37 c (tkZ σ c)) 38 c 0 37 c = tkZ σ c from zu_s (σ := zu σ 36 c (brZ σ c)) (f := 37)]
    refine y_iload_n (pc := 47) C dX0_planByRates_47 0 rfl ?_
    refine y_icmp_ne (pc := 48) (tgt := 55) C dX0_planByRates_48 (by decide) (by omega) (by omega) (by omega) (by omega) (fun c48 => ?_) (fun c48 => ?_)
    · skip
      refine y_iconst (pc := 55) C dX0_planByRates_55 ?_
      exact J1 _ (by unfold caZ; split <;> first | rfl | (exfalso; omega))
    · skip
      refine y_iconst (pc := 51) C dX0_planByRates_51 ?_
      refine y_goto (pc := 52) (tgt := 56) C dX0_planByRates_52 (by decide) ?_
      exact J1 _ (by unfold caZ; split <;> first | rfl | (exfalso; omega))

set_option maxRecDepth 20000 in
theorem mc_sizeOfPlan {Ω : OmT} {hR : AH} {lay : Nat → Nat → Nat} {ξ : XiT} {ms ns nc nl : Nat} {σ : ZT} {τ : JT} (c : Nat) (hc : c < nc) (b : Bool) (hp : PlOk σ nc) : Ct Ω yX0_sizeOfPlan cX0_sizeOfPlan 2 (some FieldType.int) (rk 2) [.ref (lay 2 c), .int (iv (bz b))] (InvC Ω lay ms ns nc nl ξ σ τ) hR (RV (.int (iv (szZ σ b c))) (InvC Ω lay ms ns nc nl ξ σ τ)) NX := by
  refine Ct.of (own := RX0) (L := [(0, _), (1, _)]) (by decide +kernel) rfl (Nat.le_of_ble_eq_true rfl) rfl ?_
  intro κ C hn E hi
  have hq := hp c hc
  have hs := sz_eq (b := b) hp hc
  refine y_iconst (pc := 0) C dX0_sizeOfPlan_0 ?_
  refine y_joinI (pcj := 17) (P := fun q => q = if b = true then σ 36 c - σ 37 c else -(σ 36 c - σ 37 c)) (fun v1 hv1 => ?_) (fun J1 => ?_)
  · skip
    have hv9 : -100000 ≤ v1 ∧ v1 ≤ 100000 := by rw [hv1]; split <;> omega
    have hs9 := hs.1
    rw [← hv1] at hs9
    refine y_max (pc := 17) C E.2.1 cs_X0_75.1 cs_X0_75.2.1 cs_X0_75.2.2.1 cs_X0_75.2.2.2.1 (by decide) (Nat.le_of_ble_eq_true rfl) (by decide) (by decide) (by omega) (by omega) (by omega) (by omega) dX0_sizeOfPlan_17 ?_
    exact y_iret (pc := 20) C E dX0_sizeOfPlan_20 (by decide) (by decide) (fun h hh => ⟨by rw [hs9], hh⟩)
  · skip
    refine y_iload_n (pc := 1) C dX0_sizeOfPlan_1 1 rfl ?_
    refine y_ifb_eq (pc := 2) (tgt := 12) C dX0_sizeOfPlan_2 (by decide) (fun c2 => ?_) (fun c2 => ?_)
    · skip
      refine y_aload_n (pc := 12) C dX0_sizeOfPlan_12 0 rfl ?_
      refine y_get (pc := 13) C fg_X0_32 dX0_sizeOfPlan_13 (fun h hh => ⟨_, hh.cus hc, rfl⟩) ?_
      refine y_ineg (pc := 16) C dX0_sizeOfPlan_16 ?_
      exact J1 _ (by subst c2; rfl)
    · skip
      refine y_aload_n (pc := 5) C dX0_sizeOfPlan_5 0 rfl ?_
      refine y_get (pc := 6) C fg_X0_32 dX0_sizeOfPlan_6 (fun h hh => ⟨_, hh.cus hc, rfl⟩) ?_
      refine y_goto (pc := 9) (tgt := 17) C dX0_sizeOfPlan_9 (by decide) ?_
      exact J1 _ (by subst c2; rfl)

set_option maxRecDepth 20000 in
theorem mc_cutBack {Ω : OmT} {hR : AH} {lay : Nat → Nat → Nat} {ξ : XiT} {ms ns nc nl : Nat} {σ : ZT} {τ : JT} (c : Nat) (hc : c < nc) (b : Bool) (r s : Int) (hp : PlOk σ nc) (h5 : -2147483648 ≤ r ∧ r < 2147483648) (h6 : 0 ≤ s ∧ s ≤ 3) : Ct Ω yX0_cutBack cX0_cutBack 5 (some FieldType.int) (rk 3) [.ref (lay 2 c), .int (iv (bz b)), .int (iv r), .int (iv s)] (InvC Ω lay ms ns nc nl ξ σ τ) hR (RV (.int (iv (max 0 (min (szZ σ b c) r)))) (InvC Ω lay ms ns nc nl ξ (curZ b s c (max 0 (min (szZ σ b c) r)) σ) (τ))) NX := by
  refine Ct.of (own := RX0) (L := [(0, _), (1, _), (2, _), (3, _)]) (by decide +kernel) rfl (Nat.le_of_ble_eq_true rfl) rfl ?_
  intro κ C hn E hi
  have hq := hp c hc
  have hs := (sz_eq (b := b) hp hc).2
  refine y_aload_n (pc := 0) C dX0_cutBack_0 0 rfl ?_
  refine y_iload_n (pc := 1) C dX0_cutBack_1 1 rfl ?_
  refine y_callV (pc := 2) (As := [_]) C E.2.1 cv_X0_78 (ci := 1) rfl rfl (mc_sizeOfPlan c hc _ hp) (fun h hh => ⟨_, hh.cus hc⟩) rfl rfl (Nat.le_of_ble_eq_true rfl) ⟨by decide, by decide, by decide, by decide⟩ dX0_cutBack_2 ⟨rfl, rfl⟩ ?_
  refine y_iload_n (pc := 5) C dX0_cutBack_5 2 rfl ?_
  refine y_min (pc := 6) C E.2.1 cs_X0_57.1 cs_X0_57.2.1 cs_X0_57.2.2.1 cs_X0_57.2.2.2.1 (by decide) (Nat.le_of_ble_eq_true rfl) (by decide) (by decide) (by omega) (by omega) (by omega) (by omega) dX0_cutBack_6 ?_
  refine y_istore (pc := 9) (L' := [(4, _), (0, _), (1, _), (2, _), (3, _)]) C dX0_cutBack_9 (by rw [hn]; decide) rfl ?_
  refine y_iload (pc := 11) C dX0_cutBack_11 0 rfl ?_
  refine y_if_gt (pc := 13) (tgt := 18) C dX0_cutBack_13 (by decide) (by omega) (by omega) (fun c13 => ?_) (fun c13 => ?_)
  · skip
    have hy9 : max 0 (min (szZ σ b c) r) = min (szZ σ b c) r := by omega
    refine y_aload_n (pc := 18) C dX0_cutBack_18 1 rfl ?_
    refine y_dup (pc := 19) C dX0_cutBack_19 rfl ?_
    refine y_get (pc := 20) C fg_X0_32 dX0_cutBack_20 (fun h hh => ⟨_, hh.cus hc, rfl⟩) ?_
    refine y_joinI (pcj := 35) (P := fun q => q = if b = true then -(min (szZ σ b c) r) else min (szZ σ b c) r) (fun v1 hv1 => ?_) (fun J1 => ?_)
    · skip
      subst hv1
      refine y_iadd (pc := 35) C dX0_cutBack_35 ?_
      refine k_putP (pc := 36) (a := σ 36 c - if b = true then min (szZ σ b c) r else 0) (b := σ 37 c - if b = true then 0 else min (szZ σ b c) r) C hc (by cases b <;> simp only [if_true, Bool.false_eq_true, if_false] <;> omega) fp_X0_32 dX0_cutBack_36 ?_
      refine y_aload_n (pc := 39) C dX0_cutBack_39 1 rfl ?_
      refine y_dup (pc := 40) C dX0_cutBack_40 rfl ?_
      refine y_get (pc := 41) C fg_X0_35 dX0_cutBack_41 (fun h hh => ⟨_, hh.cus hc, rfl⟩) ?_
      refine y_iload (pc := 44) C dX0_cutBack_44 0 rfl ?_
      refine y_iadd (pc := 46) C dX0_cutBack_46 ?_
      refine k_putC (pc := 47) C 10 38 rfl hc (by omega) fp_X0_35 dX0_cutBack_47 ?_
      refine y_aload_n (pc := 50) C dX0_cutBack_50 1 rfl ?_
      refine y_get (pc := 51) C fg_X0_38 dX0_cutBack_51 (fun h hh => ⟨_, hh.cus hc, rfl⟩) ?_
      refine y_if_ne (pc := 54) (tgt := 62) C dX0_cutBack_54 (by decide) (by show -2147483648 ≤ σ 39 c; omega) (by show σ 39 c < 2147483648; omega) (fun c54 => ?_) (fun c54 => ?_)
      · skip
        refine y_iload (pc := 62) C dX0_cutBack_62 0 rfl ?_
        exact y_iret (pc := 64) C E dX0_cutBack_64 (by decide) (by decide) (fun h hh => ⟨by rw [hy9], by rw [hy9]; unfold curZ; rw [show (if 0 < min (szZ σ b c) r ∧ σ 39 c = 0 then s else σ 39 c) = σ 39 c from if_neg (by have q : ¬ σ 39 c = 0 := c54; omega), zu_id (f := 39) (by rfl)]; exact hh⟩)
      · skip
        refine y_aload_n (pc := 57) C dX0_cutBack_57 1 rfl ?_
        refine y_iload_n (pc := 58) C dX0_cutBack_58 4 rfl ?_
        refine k_putC (pc := 59) C 11 39 rfl hc (by omega) fp_X0_38 dX0_cutBack_59 ?_
        refine y_iload (pc := 62) C dX0_cutBack_62 0 rfl ?_
        exact y_iret (pc := 64) C E dX0_cutBack_64 (by decide) (by decide) (fun h hh => ⟨by rw [hy9], by rw [hy9]; unfold curZ; rw [show (if 0 < min (szZ σ b c) r ∧ σ 39 c = 0 then s else σ 39 c) = s from if_pos (by have q : σ 39 c = 0 := c54; omega)]; exact hh⟩)
    · skip
      refine y_iload_n (pc := 23) C dX0_cutBack_23 2 rfl ?_
      refine y_ifb_eq (pc := 24) (tgt := 33) C dX0_cutBack_24 (by decide) (fun c24 => ?_) (fun c24 => ?_)
      · skip
        refine y_iload (pc := 33) C dX0_cutBack_33 0 rfl ?_
        exact J1 _ (by subst c24; rfl)
      · skip
        refine y_iload (pc := 27) C dX0_cutBack_27 0 rfl ?_
        refine y_ineg (pc := 29) C dX0_cutBack_29 ?_
        refine y_goto (pc := 30) (tgt := 35) C dX0_cutBack_30 (by decide) ?_
        exact J1 _ (by subst c24; rfl)
  · skip
    refine y_iconst (pc := 16) C dX0_cutBack_16 ?_
    exact y_iret (pc := 17) C E dX0_cutBack_17 (by decide) (by decide) (fun h hh => ⟨by rw [show max 0 (min (szZ σ b c) r) = 0 by omega], by rw [show max 0 (min (szZ σ b c) r) = 0 by omega, curZ_0]; exact hh⟩)

set_option maxRecDepth 20000 in
theorem mc_settle {Ω : OmT} {hR : AH} {lay : Nat → Nat → Nat} {ξ : XiT} {ms ns nc nl : Nat} {σ : ZT} {τ : JT} (c : Nat) (hc : c < nc) (hp : PlOk σ nc) (h4 : NmOk σ nc) : Ct Ω yX0_settle cX0_settle 2 none (rk 3) [.ref (lay 2 c), .int (iv (σ 1 0))] (InvC Ω lay ms ns nc nl ξ σ τ) hR (RU (InvC Ω lay ms ns nc nl ξ ((set1 c (σ, τ)).1) ((set1 c (σ, τ)).2))) NX := by
  refine Ct.of (own := RX0) (L := [(0, _), (1, _)]) (by decide +kernel) rfl (Nat.le_of_ble_eq_true rfl) rfl ?_
  intro κ C hn E hi
  have hn0 := h4.2
  have hN : σ 1 0 = ((nowN σ : Nat) : Int) := by unfold nowN; omega
  have hNl : nowN σ < 2147483648 := by omega
  have hq := hp c hc
  refine y_aload_n (pc := 0) C dX0_settle_0 0 rfl ?_
  refine y_dup (pc := 1) C dX0_settle_1 rfl ?_
  refine y_get (pc := 2) C fg_X0_18 dX0_settle_2 (fun h hh => ⟨_, hh.cus hc, rfl⟩) ?_
  refine y_aload_n (pc := 5) C dX0_settle_5 0 rfl ?_
  refine y_get (pc := 6) C fg_X0_32 dX0_settle_6 (fun h hh => ⟨_, hh.cus hc, rfl⟩) ?_
  refine y_iadd (pc := 9) C dX0_settle_9 ?_
  refine k_putC (pc := 10) C 5 21 rfl hc (by omega) fp_X0_18 dX0_settle_10 ?_
  refine y_aload_n (pc := 13) C dX0_settle_13 0 rfl ?_
  refine y_dup (pc := 14) C dX0_settle_14 rfl ?_
  refine y_get (pc := 15) C fg_X0_22 dX0_settle_15 (fun h hh => ⟨_, hh.cus hc, rfl⟩) ?_
  refine y_aload_n (pc := 18) C dX0_settle_18 0 rfl ?_
  refine y_iconst (pc := 19) C dX0_settle_19 ?_
  refine y_callV (pc := 20) (As := [_]) C E.2.1 cv_X0_78 (ci := 1) rfl rfl (mc_sizeOfPlan c hc true (by exact hp)) (fun h hh => ⟨_, hh.cus hc⟩) rfl rfl (Nat.le_of_ble_eq_true rfl) ⟨by decide, by decide, by decide, by decide⟩ dX0_settle_20 ⟨rfl, rfl⟩ ?_
  show Y Ω κ _ hR _ _ _ _ (.int (iv (σ 36 c)) :: _)
  refine y_i2l (pc := 23) C dX0_settle_23 (by omega) (by omega) ?_
  refine y_laddR (pc := 24) C dX0_settle_24 ?_
  refine k_putCJ (pc := 25) C 6 22 rfl hc (by omega) fp_X0_22 dX0_settle_25 ?_
  refine y_aload_n (pc := 28) C dX0_settle_28 0 rfl ?_
  refine y_dup (pc := 29) C dX0_settle_29 rfl ?_
  refine y_get (pc := 30) C fg_X0_26 dX0_settle_30 (fun h hh => ⟨_, hh.cus hc, rfl⟩) ?_
  refine y_aload_n (pc := 33) C dX0_settle_33 0 rfl ?_
  refine y_iconst (pc := 34) C dX0_settle_34 ?_
  refine y_callV (pc := 35) (As := [_]) C E.2.1 cv_X0_78 (ci := 1) rfl rfl (mc_sizeOfPlan c hc false (by exact hp)) (fun h hh => ⟨_, hh.cus hc⟩) rfl rfl (Nat.le_of_ble_eq_true rfl) ⟨by decide, by decide, by decide, by decide⟩ dX0_settle_35 ⟨rfl, rfl⟩ ?_
  show Y Ω κ _ hR _ _ _ _ (.int (iv (σ 37 c)) :: _)
  refine y_i2l (pc := 38) C dX0_settle_38 (by omega) (by omega) ?_
  refine y_laddR (pc := 39) C dX0_settle_39 ?_
  refine k_putCJ (pc := 40) C 7 23 rfl hc (by omega) fp_X0_26 dX0_settle_40 ?_
  refine y_aload_n (pc := 43) C dX0_settle_43 0 rfl ?_
  refine y_dup (pc := 44) C dX0_settle_44 rfl ?_
  refine y_get (pc := 45) C fg_X0_29 dX0_settle_45 (fun h hh => ⟨_, hh.cus hc, rfl⟩) ?_
  refine y_aload_n (pc := 48) C dX0_settle_48 0 rfl ?_
  refine y_get (pc := 49) C fg_X0_35 dX0_settle_49 (fun h hh => ⟨_, hh.cus hc, rfl⟩) ?_
  refine y_i2l (pc := 52) C dX0_settle_52 (by show -2147483648 ≤ σ 38 c; omega) (by show σ 38 c < 2147483648; omega) ?_
  refine y_laddR (pc := 53) C dX0_settle_53 ?_
  refine k_putCJ (pc := 54) C 8 24 rfl hc (by omega) fp_X0_29 dX0_settle_54 ?_
  refine y_aload_n (pc := 57) C dX0_settle_57 0 rfl ?_
  refine y_get (pc := 58) C fg_X0_12 dX0_settle_58 (fun h hh => ⟨_, hh.cus hc, rfl⟩) ?_
  refine y_iload_n (pc := 61) C dX0_settle_61 1 rfl ?_
  refine y_iconst (pc := 62) C dX0_settle_62 ?_
  rw [hN]
  refine y_callV (pc := 63) (As := [_, _]) C E.2.1 cv_X0_82 (ci := 2) rfl rfl (mc_put (lay 3 c) (lay 4 c) _ (nowN σ) 0 hNl (fun h hh => hh.hou hc) (fun h hh => hh.putN hc (Nat.mod_lt _ (by decide)))) (fun h hh => ⟨_, (hh.hou hc).1⟩) rfl rfl (Nat.le_of_ble_eq_true rfl) ⟨by decide, by decide, by decide, by decide⟩ dX0_settle_63 ⟨rfl, rfl⟩ ?_
  refine y_pop (pc := 66) C dX0_settle_66 rfl ?_
  exact y_vret (pc := 67) C E dX0_settle_67 (by decide) (by decide) (fun h hh => ⟨rfl, hh⟩)

