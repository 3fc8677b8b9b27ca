set_option maxRecDepth 20000 in
theorem mg_isWithin {Ω : OmT} {hR : AH} {Φ : AH → Prop} (v a b : Int) (h1 : -2147483648 ≤ v ∧ v < 2147483648) (h2 : -2147483648 ≤ a ∧ a < 2147483648) (h3 : -2147483648 ≤ b ∧ b < 2147483648) : Ct Ω yX4_isWithin cX4_isWithin 3 (some FieldType.boolean) (rk 1) [.int (iv v), .int (iv a), .int (iv b)] (Φ) hR (RV (.int (iv (bz (decide (a ≤ v ∧ v ≤ b))))) (Φ)) NX := by
  refine Ct.of (own := RX4) (L := [(0, _), (1, _), (2, _)]) (by decide +kernel) rfl (Nat.le_of_ble_eq_true rfl) rfl ?_
  intro κ C hn E hi
  refine y_joinB (pcj := 15) (P := fun q => q = decide (a ≤ v ∧ v ≤ b)) (fun v1 hv1 => ?_) (fun J1 => ?_)
  · skip
    rw [hv1]
    exact y_zret (pc := 15) C E dX4_isWithin_15 (by decide) (by decide) (fun h hh => ⟨rfl, hh⟩)
  · skip
    refine y_iload_n (pc := 0) C dX4_isWithin_0 0 rfl ?_
    refine y_iload_n (pc := 1) C dX4_isWithin_1 1 rfl ?_
    refine y_icmp_lt (pc := 2) (tgt := 14) C dX4_isWithin_2 (by decide) (by omega) (by omega) (by omega) (by omega) (fun c2 => ?_) (fun c2 => ?_)
    · skip
      refine y_iconst (pc := 14) C dX4_isWithin_14 ?_
      first | exact J1 true (decide_eq_true (by omega)).symm | exact J1 false (decide_eq_false (by omega)).symm
    · skip
      refine y_iload_n (pc := 5) C dX4_isWithin_5 0 rfl ?_
      refine y_iload_n (pc := 6) C dX4_isWithin_6 2 rfl ?_
      refine y_icmp_gt (pc := 7) (tgt := 14) C dX4_isWithin_7 (by decide) (by omega) (by omega) (by omega) (by omega) (fun c7 => ?_) (fun c7 => ?_)
      · skip
        refine y_iconst (pc := 14) C dX4_isWithin_14 ?_
        first | exact J1 true (decide_eq_true (by omega)).symm | exact J1 false (decide_eq_false (by omega)).symm
      · skip
        refine y_iconst (pc := 10) C dX4_isWithin_10 ?_
        refine y_goto (pc := 11) (tgt := 15) C dX4_isWithin_11 (by decide) ?_
        first | exact J1 true (decide_eq_true (by omega)).symm | exact J1 false (decide_eq_false (by omega)).symm

set_option maxRecDepth 20000 in
theorem mg_gasInAllStores {Ω : OmT} {hR : AH} {lay : Nat → Nat → Nat} {ξ : XiT} {ms ns nc nl : Nat} {σ : ZT} {τ : JT} (hwf : Wf σ ns nc nl) (hms : ns ≤ ms)  : Ct Ω yX4_gasInAllStores cX4_gasInAllStores 3 (some FieldType.int) (rk 4) [.ref (lay 0 0)] (InvC Ω lay ms ns nc nl ξ σ τ) hR (RV (.int (iv (sumZ (σ 6) ns))) (InvC Ω lay ms ns nc nl ξ σ τ)) NX := by
  refine Ct.of (own := RX4) (L := [(0, _)]) (by decide +kernel) rfl (Nat.le_of_ble_eq_true rfl) rfl ?_
  intro κ C hn E hi
  have hs2 := hwf.2.1
  have hc2 := hwf.2.2.2.1
  have hl2 := hwf.2.2.2.2.1.2.1
  have hnow := hwf.2.2.2.2.2.1.2
  have hst := hwf.2.2.2.2.2.2.1
  have hcu := hwf.2.2.2.2.2.2.2.1
  refine y_iconst (pc := 0) C dX4_gasInAllStores_0 ?_
  refine y_istore_n (pc := 1) (L' := [(1, _), (0, _)]) C dX4_gasInAllStores_1 (by rw [hn]; decide) rfl ?_
  refine y_iconst (pc := 2) C dX4_gasInAllStores_2 ?_
  refine y_istore_n (pc := 3) (L' := [(2, _), (1, _), (0, _)]) C dX4_gasInAllStores_3 (by rw [hn]; decide) rfl ?_
  have LP1 : ∀ (m1 : Nat) (i : Nat) (z x : Int), (k1 : ns + 1 ≤ i + m1) → (k2 : i ≤ ns) → (hz : z = i) → (hx : x = sumZ (σ 6) i) → Y Ω κ (InvC Ω lay ms ns nc nl ξ σ τ) hR 0 0 4 [(2, .int (iv z)), (1, .int (iv x)), (0, .ref (lay 0 0))] [] := by
    intro m1
    induction m1 with
    | zero => intro i z x k1 k2 hz hx; exfalso; omega
    | succ m1 ih1 =>
      intro i z x k1 k2 hz hx
      refine y_iload_n (pc := 4) C dX4_gasInAllStores_4 0 rfl ?_
      refine y_aload_n (pc := 5) C dX4_gasInAllStores_5 2 rfl ?_
      refine y_get (pc := 6) C fg_X4_10 dX4_gasInAllStores_6 (fun h hh => ⟨_, hh.gas, rfl⟩) ?_
      refine y_callV (pc := 9) (As := []) C E.2.1 cv_X4_74 (ci := 0) rfl rfl (mc_size (lay 0 1) (lay 6 1) ns (lay 1) (by omega) (fun h hh => hh.li1)) (fun h hh => hh.li1.obj) rfl rfl (Nat.le_of_ble_eq_true rfl) ⟨by decide, by decide, by decide, by decide⟩ dX4_gasInAllStores_9 ⟨rfl, rfl⟩ ?_
      refine y_icmp_ge (pc := 12) (tgt := 38) C dX4_gasInAllStores_12 (by decide) (by omega) (by omega) (by omega) (by omega) (fun c12 => ?_) (fun c12 => ?_)
      · skip
        refine y_iload_n (pc := 38) C dX4_gasInAllStores_38 1 rfl ?_
        exact y_iret (pc := 39) C E dX4_gasInAllStores_39 (by decide) (by decide) (fun h hh => ⟨by rw [hx, show i = ns by omega], hh⟩)
      · skip
        subst hz
        have hi9 : i < ns := by omega
        have hm9 : i < ms := by omega
        refine y_iload_n (pc := 15) C dX4_gasInAllStores_15 1 rfl ?_
        refine y_aload_n (pc := 16) C dX4_gasInAllStores_16 2 rfl ?_
        refine y_get (pc := 17) C fg_X4_10 dX4_gasInAllStores_17 (fun h hh => ⟨_, hh.gas, rfl⟩) ?_
        refine y_iload_n (pc := 20) C dX4_gasInAllStores_20 0 rfl ?_
        refine y_callV (pc := 21) (As := [_]) C E.2.1 cv_X4_256 (ci := 0) rfl rfl (mc_get (lay 0 1) (lay 6 1) ns (lay 1) (by omega) (fun h hh => hh.li1) i hi9) (fun h hh => hh.li1.obj) rfl rfl (Nat.le_of_ble_eq_true rfl) ⟨by decide, by decide, by decide, by decide⟩ dX4_gasInAllStores_21 ⟨rfl, rfl⟩ ?_
        refine y_cast (pc := 24) C (ci := 4) (qc := (RX3, TX3, 11)) rfl aw_1_126 dX4_gasInAllStores_24 (fun h hh => ⟨_, hh.sto hm9⟩) ?_
        refine y_get (pc := 27) C fg_X4_119 dX4_gasInAllStores_27 (fun h hh => ⟨_, hh.sto hm9, rfl⟩) ?_
        refine y_iadd (pc := 30) C dX4_gasInAllStores_30 ?_
        refine y_istore_n (pc := 31) (L' := [(1, _), (2, _), (0, _)]) C dX4_gasInAllStores_31 (by rw [hn]; decide) rfl ?_
        refine y_iinc (pc := 32) (L' := [(2, _), (1, _), (0, _)]) C dX4_gasInAllStores_32 1 rfl (by rw [hn]; decide) rfl ?_
        refine y_goto (pc := 35) (tgt := 4) C dX4_gasInAllStores_35 (by decide) ?_
        refine Y.sub [0, 1, 2] rfl ?_
        exact ih1 (i + 1) _ _ (by omega) (by omega) (by omega) (by rw [hx]; rfl)
  refine Y.sub [0, 1, 2] rfl ?_
  exact LP1 (ns + 1) 0 0 0 (by omega) (by omega) rfl rfl

set_option maxRecDepth 20000 in
theorem mg_allInventories {Ω : OmT} {hR : AH} {lay : Nat → Nat → Nat} {ξ : XiT} {ms ns nc nl : Nat} {σ : ZT} {τ : JT} (hwf : Wf σ ns nc nl) (hms : ns ≤ ms)  : Ct Ω yX4_allInventories cX4_allInventories 3 (some FieldType.int) (rk 4) [.ref (lay 0 0)] (InvC Ω lay ms ns nc nl ξ σ τ) hR (RV (.int (iv (sumZ (σ 21) nc))) (InvC Ω lay ms ns nc nl ξ σ τ)) NX := by
  refine Ct.of (own := RX4) (L := [(0, _)]) (by decide +kernel) rfl (Nat.le_of_ble_eq_true rfl) rfl ?_
  intro κ C hn E hi
  have hs2 := hwf.2.1
  have hc2 := hwf.2.2.2.1
  have hl2 := hwf.2.2.2.2.1.2.1
  have hnow := hwf.2.2.2.2.2.1.2
  have hst := hwf.2.2.2.2.2.2.1
  have hcu := hwf.2.2.2.2.2.2.2.1
  refine y_iconst (pc := 0) C dX4_allInventories_0 ?_
  refine y_istore_n (pc := 1) (L' := [(1, _), (0, _)]) C dX4_allInventories_1 (by rw [hn]; decide) rfl ?_
  refine y_iconst (pc := 2) C dX4_allInventories_2 ?_
  refine y_istore_n (pc := 3) (L' := [(2, _), (1, _), (0, _)]) C dX4_allInventories_3 (by rw [hn]; decide) rfl ?_
  have LP1 : ∀ (m1 : Nat) (i : Nat) (z x : Int), (k1 : nc + 1 ≤ i + m1) → (k2 : i ≤ nc) → (hz : z = i) → (hx : x = sumZ (σ 21) i) → Y Ω κ (InvC Ω lay ms ns nc nl ξ σ τ) hR 0 0 4 [(2, .int (iv z)), (1, .int (iv x)), (0, .ref (lay 0 0))] [] := by
    intro m1
    induction m1 with
    | zero => intro i z x k1 k2 hz hx; exfalso; omega
    | succ m1 ih1 =>
      intro i z x k1 k2 hz hx
      refine y_iload_n (pc := 4) C dX4_allInventories_4 0 rfl ?_
      refine y_aload_n (pc := 5) C dX4_allInventories_5 2 rfl ?_
      refine y_get (pc := 6) C fg_X4_16 dX4_allInventories_6 (fun h hh => ⟨_, hh.gas, rfl⟩) ?_
      refine y_callV (pc := 9) (As := []) C E.2.1 cv_X4_74 (ci := 0) rfl rfl (mc_size (lay 0 2) (lay 6 2) nc (lay 2) (by omega) (fun h hh => hh.li2)) (fun h hh => hh.li2.obj) rfl rfl (Nat.le_of_ble_eq_true rfl) ⟨by decide, by decide, by decide, by decide⟩ dX4_allInventories_9 ⟨rfl, rfl⟩ ?_
      refine y_icmp_ge (pc := 12) (tgt := 38) C dX4_allInventories_12 (by decide) (by omega) (by omega) (by omega) (by omega) (fun c12 => ?_) (fun c12 => ?_)
      · skip
        refine y_iload_n (pc := 38) C dX4_allInventories_38 1 rfl ?_
        exact y_iret (pc := 39) C E dX4_allInventories_39 (by decide) (by decide) (fun h hh => ⟨by rw [hx, show i = nc by omega], hh⟩)
      · skip
        subst hz
        have hi9 : i < nc := by omega
        refine y_iload_n (pc := 15) C dX4_allInventories_15 1 rfl ?_
        refine y_aload_n (pc := 16) C dX4_allInventories_16 2 rfl ?_
        refine y_get (pc := 17) C fg_X4_16 dX4_allInventories_17 (fun h hh => ⟨_, hh.gas, rfl⟩) ?_
        refine y_iload_n (pc := 20) C dX4_allInventories_20 0 rfl ?_
        refine y_callV (pc := 21) (As := [_]) C E.2.1 cv_X4_256 (ci := 0) rfl rfl (mc_get (lay 0 2) (lay 6 2) nc (lay 2) (by omega) (fun h hh => hh.li2) i hi9) (fun h hh => hh.li2.obj) rfl rfl (Nat.le_of_ble_eq_true rfl) ⟨by decide, by decide, by decide, by decide⟩ dX4_allInventories_21 ⟨rfl, rfl⟩ ?_
        refine y_cast (pc := 24) C (ci := 1) (qc := (RX0, TX0, 12)) rfl aw_1_131 dX4_allInventories_24 (fun h hh => ⟨_, hh.cus hi9⟩) ?_
        refine y_get (pc := 27) C fg_X4_153 dX4_allInventories_27 (fun h hh => ⟨_, hh.cus hi9, rfl⟩) ?_
        refine y_iadd (pc := 30) C dX4_allInventories_30 ?_
        refine y_istore_n (pc := 31) (L' := [(1, _), (2, _), (0, _)]) C dX4_allInventories_31 (by rw [hn]; decide) rfl ?_
        refine y_iinc (pc := 32) (L' := [(2, _), (1, _), (0, _)]) C dX4_allInventories_32 1 rfl (by rw [hn]; decide) rfl ?_
        refine y_goto (pc := 35) (tgt := 4) C dX4_allInventories_35 (by decide) ?_
        refine Y.sub [0, 1, 2] rfl ?_
        exact ih1 (i + 1) _ _ (by omega) (by omega) (by omega) (by rw [hx]; rfl)
  refine Y.sub [0, 1, 2] rfl ?_
  exact LP1 (nc + 1) 0 0 0 (by omega) (by omega) rfl rfl

set_option maxRecDepth 20000 in
theorem mg_plannedNet {Ω : OmT} {hR : AH} {lay : Nat → Nat → Nat} {ξ : XiT} {ms ns nc nl : Nat} {σ : ZT} {τ : JT} (hwf : Wf σ ns nc nl) (hms : ns ≤ ms)  : Ct Ω yX4_plannedNet cX4_plannedNet 3 (some FieldType.int) (rk 4) [.ref (lay 0 0)] (InvC Ω lay ms ns nc nl ξ σ τ) hR (RV (.int (iv (netZ σ nc))) (InvC Ω lay ms ns nc nl ξ σ τ)) NX := by
  refine Ct.of (own := RX4) (L := [(0, _)]) (by decide +kernel) rfl (Nat.le_of_ble_eq_true rfl) rfl ?_
  intro κ C hn E hi
  have hs2 := hwf.2.1
  have hc2 := hwf.2.2.2.1
  have hl2 := hwf.2.2.2.2.1.2.1
  have hnow := hwf.2.2.2.2.2.1.2
  have hst := hwf.2.2.2.2.2.2.1
  have hcu := hwf.2.2.2.2.2.2.2.1
  refine y_iconst (pc := 0) C dX4_plannedNet_0 ?_
  refine y_istore_n (pc := 1) (L' := [(1, _), (0, _)]) C dX4_plannedNet_1 (by rw [hn]; decide) rfl ?_
  refine y_iconst (pc := 2) C dX4_plannedNet_2 ?_
  refine y_istore_n (pc := 3) (L' := [(2, _), (1, _), (0, _)]) C dX4_plannedNet_3 (by rw [hn]; decide) rfl ?_
  have LP1 : ∀ (m1 : Nat) (i : Nat) (z x : Int), (k1 : nc + 1 ≤ i + m1) → (k2 : i ≤ nc) → (hz : z = i) → (hx : x = sumZ (σ 36) i - sumZ (σ 37) i) → Y Ω κ (InvC Ω lay ms ns nc nl ξ σ τ) hR 0 0 4 [(2, .int (iv z)), (1, .int (iv x)), (0, .ref (lay 0 0))] [] := by
    intro m1
    induction m1 with
    | zero => intro i z x k1 k2 hz hx; exfalso; omega
    | succ m1 ih1 =>
      intro i z x k1 k2 hz hx
      refine y_iload_n (pc := 4) C dX4_plannedNet_4 0 rfl ?_
      refine y_aload_n (pc := 5) C dX4_plannedNet_5 2 rfl ?_
      refine y_get (pc := 6) C fg_X4_16 dX4_plannedNet_6 (fun h hh => ⟨_, hh.gas, rfl⟩) ?_
      refine y_callV (pc := 9) (As := []) C E.2.1 cv_X4_74 (ci := 0) rfl rfl (mc_size (lay 0 2) (lay 6 2) nc (lay 2) (by omega) (fun h hh => hh.li2)) (fun h hh => hh.li2.obj) rfl rfl (Nat.le_of_ble_eq_true rfl) ⟨by decide, by decide, by decide, by decide⟩ dX4_plannedNet_9 ⟨rfl, rfl⟩ ?_
      refine y_icmp_ge (pc := 12) (tgt := 38) C dX4_plannedNet_12 (by decide) (by omega) (by omega) (by omega) (by omega) (fun c12 => ?_) (fun c12 => ?_)
      · skip
        refine y_iload_n (pc := 38) C dX4_plannedNet_38 1 rfl ?_
        exact y_iret (pc := 39) C E dX4_plannedNet_39 (by decide) (by decide) (fun h hh => ⟨by rw [hx, show i = nc by omega]; rfl, hh⟩)
      · skip
        subst hz
        have hi9 : i < nc := by omega
        refine y_iload_n (pc := 15) C dX4_plannedNet_15 1 rfl ?_
        refine y_aload_n (pc := 16) C dX4_plannedNet_16 2 rfl ?_
        refine y_get (pc := 17) C fg_X4_16 dX4_plannedNet_17 (fun h hh => ⟨_, hh.gas, rfl⟩) ?_
        refine y_iload_n (pc := 20) C dX4_plannedNet_20 0 rfl ?_
        refine y_callV (pc := 21) (As := [_]) C E.2.1 cv_X4_256 (ci := 0) rfl rfl (mc_get (lay 0 2) (lay 6 2) nc (lay 2) (by omega) (fun h hh => hh.li2) i hi9) (fun h hh => hh.li2.obj) rfl rfl (Nat.le_of_ble_eq_true rfl) ⟨by decide, by decide, by decide, by decide⟩ dX4_plannedNet_21 ⟨rfl, rfl⟩ ?_
        refine y_cast (pc := 24) C (ci := 1) (qc := (RX0, TX0, 12)) rfl aw_1_131 dX4_plannedNet_24 (fun h hh => ⟨_, hh.cus hi9⟩) ?_
        refine y_get (pc := 27) C fg_X4_220 dX4_plannedNet_27 (fun h hh => ⟨_, hh.cus hi9, rfl⟩) ?_
        refine y_iadd (pc := 30) C dX4_plannedNet_30 ?_
        refine y_istore_n (pc := 31) (L' := [(1, _), (2, _), (0, _)]) C dX4_plannedNet_31 (by rw [hn]; decide) rfl ?_
        refine y_iinc (pc := 32) (L' := [(2, _), (1, _), (0, _)]) C dX4_plannedNet_32 1 rfl (by rw [hn]; decide) rfl ?_
        refine y_goto (pc := 35) (tgt := 4) C dX4_plannedNet_35 (by decide) ?_
        refine Y.sub [0, 1, 2] rfl ?_
        exact ih1 (i + 1) _ _ (by omega) (by omega) (by omega) (by rw [hx]; show _ = (sumZ (σ 36) i + σ 36 i) - (sumZ (σ 37) i + σ 37 i); omega)
  refine Y.sub [0, 1, 2] rfl ?_
  exact LP1 (nc + 1) 0 0 0 (by omega) (by omega) rfl rfl

set_option maxRecDepth 20000 in
theorem mg_leastByLaw {Ω : OmT} {hR : AH} {lay : Nat → Nat → Nat} {ξ : XiT} {ms ns nc nl : Nat} {σ : ZT} {τ : JT} (hwf : Wf σ ns nc nl) (hms : ns ≤ ms) : Ct Ω yX4_leastByLaw cX4_leastByLaw 3 (some FieldType.int) (rk 4) [.ref (lay 0 0)] (InvC Ω lay ms ns nc nl ξ σ τ) hR (RV (.int (iv (keptB σ nl))) (InvC Ω lay ms ns nc nl ξ σ τ)) NX := by
  refine Ct.of (own := RX4) (L := [(0, _)]) (by decide +kernel) rfl (Nat.le_of_ble_eq_true rfl) rfl ?_
  intro κ C hn E hi
  have hs2 := hwf.2.1
  have hc2 := hwf.2.2.2.1
  have hl2 := hwf.2.2.2.2.1.2.1
  have hnow := hwf.2.2.2.2.2.1.2
  have hst := hwf.2.2.2.2.2.2.1
  have hcu := hwf.2.2.2.2.2.2.2.1
  refine y_aload_n (pc := 0) C dX4_leastByLaw_0 0 rfl ?_
  refine y_get (pc := 1) C fg_X4_19 dX4_leastByLaw_1 (fun h hh => ⟨_, hh.gas, rfl⟩) ?_
  refine y_callV (pc := 4) (As := []) C E.2.1 cv_X4_74 (ci := 0) rfl rfl (mc_size (lay 0 3) (lay 6 3) nl (lay 5) (by omega) (fun h hh => hh.li3)) (fun h hh => hh.li3.obj) rfl rfl (Nat.le_of_ble_eq_true rfl) ⟨by decide, by decide, by decide, by decide⟩ dX4_leastByLaw_4 ⟨rfl, rfl⟩ ?_
  refine y_iconst (pc := 7) C dX4_leastByLaw_7 ?_
  refine y_isub (pc := 8) C dX4_leastByLaw_8 ?_
  refine y_istore_n (pc := 9) (L' := [(1, _), (0, _)]) C dX4_leastByLaw_9 (by rw [hn]; decide) rfl ?_
  have LP1 : ∀ (m1 : Nat) (i : Nat) (z : Int), (k1 : i + 1 ≤ m1) → (k2 : i ≤ nl) → (hz : z = (i : Int) - 1) → (hq : lawI σ nl = lawI σ i) → Y Ω κ (InvC Ω lay ms ns nc nl ξ σ τ) hR 0 0 10 [(1, .int (iv z)), (0, .ref (lay 0 0))] [] := by
    intro m1
    induction m1 with
    | zero => intro i z k1 k2 hz hq; exfalso; omega
    | succ m1 ih1 =>
      intro i z k1 k2 hz hq
      refine y_iload_n (pc := 10) C dX4_leastByLaw_10 0 rfl ?_
      refine y_if_lt (pc := 11) (tgt := 55) C dX4_leastByLaw_11 (by decide) (by omega) (by omega) (fun c11 => ?_) (fun c11 => ?_)
      · skip
        refine y_iconst (pc := 55) C dX4_leastByLaw_55 ?_
        exact y_iret (pc := 56) C E dX4_leastByLaw_56 (by decide) (by decide) (fun h hh => ⟨by have e : lawI σ nl = -1 := hq.trans (by have e0 : i = 0 := (by omega); subst e0; exact (show lawI σ 0 = -1 from rfl)); rw [show keptB σ nl = -1 from if_pos e], hh⟩)
      · skip
        obtain ⟨j, rfl⟩ : ∃ j, i = j + 1 := ⟨i - 1, by omega⟩
        have ez : z = (j : Int) := by omega
        subst ez
        have hw9 : j < nl := by omega
        have hlw := hwf.2.2.2.2.1.2.2 j hw9
        refine y_aload_n (pc := 14) C dX4_leastByLaw_14 1 rfl ?_
        refine y_get (pc := 15) C fg_X4_19 dX4_leastByLaw_15 (fun h hh => ⟨_, hh.gas, rfl⟩) ?_
        refine y_iload_n (pc := 18) C dX4_leastByLaw_18 0 rfl ?_
        refine y_callV (pc := 19) (As := [_]) C E.2.1 cv_X4_256 (ci := 0) rfl rfl (mc_get (lay 0 3) (lay 6 3) nl (lay 5) (by omega) (fun h hh => hh.li3) j hw9) (fun h hh => hh.li3.obj) rfl rfl (Nat.le_of_ble_eq_true rfl) ⟨by decide, by decide, by decide, by decide⟩ dX4_leastByLaw_19 ⟨rfl, rfl⟩ ?_
        refine y_cast (pc := 22) C (ci := 3) (qc := (RX2, TX2, 3)) rfl aw_1_136 dX4_leastByLaw_22 (fun h hh => ⟨_, hh.law hw9⟩) ?_
        refine y_astore_n (pc := 25) (L' := [(2, _), (1, _), (0, _)]) C dX4_leastByLaw_25 (by rw [hn]; decide) rfl ?_
        refine y_aload_n (pc := 26) C dX4_leastByLaw_26 2 rfl ?_
        refine y_get (pc := 27) C fg_X4_29 dX4_leastByLaw_27 (fun h hh => ⟨_, hh.gas, rfl⟩) ?_
        refine y_aload_n (pc := 30) C dX4_leastByLaw_30 0 rfl ?_
        refine y_get (pc := 31) C fg_X4_262 dX4_leastByLaw_31 (fun h hh => ⟨_, hh.law hw9, rfl⟩) ?_
        refine y_aload_n (pc := 34) C dX4_leastByLaw_34 0 rfl ?_
        refine y_get (pc := 35) C fg_X4_265 dX4_leastByLaw_35 (fun h hh => ⟨_, hh.law hw9, rfl⟩) ?_
        refine y_callS (pc := 38) (As := [_, _, _]) C E.2.1 cs_X4_52 (mg_isWithin _ _ _ ⟨by omega, by omega⟩ ⟨by omega, by omega⟩ ⟨by omega, by omega⟩) rfl rfl (Nat.le_of_ble_eq_true rfl) ⟨by decide, by decide, by decide, by decide⟩ dX4_leastByLaw_38 ⟨rfl, rfl⟩ ?_
        refine y_ifb_eq (pc := 41) (tgt := 49) C dX4_leastByLaw_41 (by decide) (fun c41 => ?_) (fun c41 => ?_)
        · skip
          refine y_iinc (pc := 49) (L' := [(1, _), (2, _), (0, _)]) C dX4_leastByLaw_49 1 rfl (by rw [hn]; decide) rfl ?_
          refine y_goto (pc := 52) (tgt := 10) C dX4_leastByLaw_52 (by decide) ?_
          refine Y.sub [0, 2] rfl ?_
          exact ih1 j _ (by omega) (by omega) (by omega) (hq.trans (if_neg (by simp only [decide_eq_false_iff_not] at c41; exact c41)))
        · skip
          refine y_aload_n (pc := 44) C dX4_leastByLaw_44 0 rfl ?_
          refine y_get (pc := 45) C fg_X4_268 dX4_leastByLaw_45 (fun h hh => ⟨_, hh.law hw9, rfl⟩) ?_
          exact y_iret (pc := 48) C E dX4_leastByLaw_48 (by decide) (by decide) (fun h hh => ⟨by have e : lawI σ nl = (j : Int) := hq.trans (if_pos (of_decide_eq_true c41)); rw [show keptB σ nl = σ 30 j from by unfold keptB; rw [e, if_neg (by omega)]; rfl], hh⟩)
  refine Y.sub [0, 1] rfl ?_
  exact LP1 (nl + 1) nl _ (by omega) (by omega) rfl rfl

set_option maxRecDepth 20000 in
theorem mg_plannedAboveTheLaw {Ω : OmT} {hR : AH} {lay : Nat → Nat → Nat} {ξ : XiT} {ms ns nc nl : Nat} {σ : ZT} {τ : JT} (hwf : Wf σ ns nc nl) (hms : ns ≤ ms) (hp : PlOk σ nc) : Ct Ω yX4_plannedAboveTheLaw cX4_plannedAboveTheLaw 4 (some FieldType.int) (rk 5) [.ref (lay 0 0)] (InvC Ω lay ms ns nc nl ξ σ τ) hR (RV (.int (iv (lawA σ nc nl))) (InvC Ω lay ms ns nc nl ξ σ τ)) NX := by
  refine Ct.of (own := RX4) (L := [(0, _)]) (by decide +kernel) rfl (Nat.le_of_ble_eq_true rfl) rfl ?_
  intro κ C hn E hi
  have hs2 := hwf.2.1
  have hc2 := hwf.2.2.2.1
  have hl2 := hwf.2.2.2.2.1.2.1
  have hnow := hwf.2.2.2.2.2.1.2
  have hst := hwf.2.2.2.2.2.2.1
  have hcu := hwf.2.2.2.2.2.2.2.1
  have hkb := keptB_b hwf.2.2.2.2.1
  have his := inv_sum (σ := σ) (n := nc) hcu hc2
  have hps := pl_sums hp hc2
  refine y_aload_n (pc := 0) C dX4_plannedAboveTheLaw_0 0 rfl ?_
  refine y_callV (pc := 1) (As := []) C E.2.1 cv_X4_246 (ci := 5) rfl rfl (mg_leastByLaw hwf hms) (fun h hh => ⟨_, hh.gas⟩) rfl rfl (Nat.le_of_ble_eq_true rfl) ⟨by decide, by decide, by decide, by decide⟩ dX4_plannedAboveTheLaw_1 ⟨rfl, rfl⟩ ?_
  refine y_istore_n (pc := 4) (L' := [(1, _), (0, _)]) C dX4_plannedAboveTheLaw_4 (by rw [hn]; decide) rfl ?_
  refine y_iload_n (pc := 5) C dX4_plannedAboveTheLaw_5 0 rfl ?_
  refine y_iconst (pc := 6) C dX4_plannedAboveTheLaw_6 ?_
  refine y_icmp_ne (pc := 7) (tgt := 12) C dX4_plannedAboveTheLaw_7 (by decide) (by omega) (by omega) (by omega) (by omega) (fun c7 => ?_) (fun c7 => ?_)
  · skip
    refine y_iconst (pc := 12) C dX4_plannedAboveTheLaw_12 ?_
    refine y_istore_n (pc := 13) (L' := [(2, _), (1, _), (0, _)]) C dX4_plannedAboveTheLaw_13 (by rw [hn]; decide) rfl ?_
    refine y_iconst (pc := 14) C dX4_plannedAboveTheLaw_14 ?_
    refine y_istore_n (pc := 15) (L' := [(3, _), (2, _), (1, _), (0, _)]) C dX4_plannedAboveTheLaw_15 (by rw [hn]; decide) rfl ?_
    have LP1 : ∀ (m1 : Nat) (i : Nat) (z x : Int), (k1 : nc + 1 ≤ i + m1) → (k2 : i ≤ nc) → (hz : z = i) → (hx : x = sumZ (σ 37) i) → Y Ω κ (InvC Ω lay ms ns nc nl ξ σ τ) hR 0 0 16 [(3, .int (iv z)), (2, .int (iv x)), (1, .int (iv (keptB σ nl))), (0, .ref (lay 0 0))] [] := by
      intro m1
      induction m1 with
      | zero => intro i z x k1 k2 hz hx; exfalso; omega
      | succ m1 ih1 =>
        intro i z x k1 k2 hz hx
        refine y_iload_n (pc := 16) C dX4_plannedAboveTheLaw_16 0 rfl ?_
        refine y_aload_n (pc := 17) C dX4_plannedAboveTheLaw_17 3 rfl ?_
        refine y_get (pc := 18) C fg_X4_16 dX4_plannedAboveTheLaw_18 (fun h hh => ⟨_, hh.gas, rfl⟩) ?_
        refine y_callV (pc := 21) (As := []) C E.2.1 cv_X4_74 (ci := 0) rfl rfl (mc_size (lay 0 2) (lay 6 2) nc (lay 2) (by omega) (fun h hh => hh.li2)) (fun h hh => hh.li2.obj) rfl rfl (Nat.le_of_ble_eq_true rfl) ⟨by decide, by decide, by decide, by decide⟩ dX4_plannedAboveTheLaw_21 ⟨rfl, rfl⟩ ?_
        refine y_icmp_ge (pc := 24) (tgt := 51) C dX4_plannedAboveTheLaw_24 (by decide) (by omega) (by omega) (by omega) (by omega) (fun c24 => ?_) (fun c24 => ?_)
        · skip
          refine y_iload_n (pc := 51) C dX4_plannedAboveTheLaw_51 1 rfl ?_
          refine y_iconst (pc := 52) C dX4_plannedAboveTheLaw_52 ?_
          refine y_aload_n (pc := 53) C dX4_plannedAboveTheLaw_53 3 rfl ?_
          refine y_callV (pc := 54) (As := []) C E.2.1 cv_X4_243 (ci := 5) rfl rfl (mg_allInventories hwf hms) (fun h hh => ⟨_, hh.gas⟩) rfl rfl (Nat.le_of_ble_eq_true rfl) ⟨by decide, by decide, by decide, by decide⟩ dX4_plannedAboveTheLaw_54 ⟨rfl, rfl⟩ ?_
          refine y_iload_n (pc := 57) C dX4_plannedAboveTheLaw_57 2 rfl ?_
          refine y_isub (pc := 58) C dX4_plannedAboveTheLaw_58 ?_
          refine y_max (pc := 59) C E.2.1 cs_X4_249.1 cs_X4_249.2.1 cs_X4_249.2.2.1 cs_X4_249.2.2.2.1 (by decide) (Nat.le_of_ble_eq_true rfl) (by decide) (by decide) (by omega) (by omega) (by omega) (by omega) dX4_plannedAboveTheLaw_59 ?_
          refine y_isub (pc := 62) C dX4_plannedAboveTheLaw_62 ?_
          exact y_iret (pc := 63) C E dX4_plannedAboveTheLaw_63 (by decide) (by decide) (fun h hh => ⟨by have e : ¬ lawI σ nl = -1 := fun q => c7 (hkb.2.2.mpr q); rw [show lawA σ nc nl = lawT σ nc nl from if_neg e, hx, show i = nc by omega]; unfold lawT; rw [show keptB σ nl = σ 30 (lawI σ nl).toNat from if_neg e]; refine congrArg (fun v => some (Value.int (iv (_ - v)))) ?_; split <;> omega, hh⟩)
        · skip
          subst hz
          have hi9 : i < nc := by omega
          refine y_iload_n (pc := 27) C dX4_plannedAboveTheLaw_27 1 rfl ?_
          refine y_aload_n (pc := 28) C dX4_plannedAboveTheLaw_28 3 rfl ?_
          refine y_get (pc := 29) C fg_X4_16 dX4_plannedAboveTheLaw_29 (fun h hh => ⟨_, hh.gas, rfl⟩) ?_
          refine y_iload_n (pc := 32) C dX4_plannedAboveTheLaw_32 0 rfl ?_
          refine y_callV (pc := 33) (As := [_]) C E.2.1 cv_X4_256 (ci := 0) rfl rfl (mc_get (lay 0 2) (lay 6 2) nc (lay 2) (by omega) (fun h hh => hh.li2) i hi9) (fun h hh => hh.li2.obj) rfl rfl (Nat.le_of_ble_eq_true rfl) ⟨by decide, by decide, by decide, by decide⟩ dX4_plannedAboveTheLaw_33 ⟨rfl, rfl⟩ ?_
          refine y_cast (pc := 36) C (ci := 1) (qc := (RX0, TX0, 12)) rfl aw_1_131 dX4_plannedAboveTheLaw_36 (fun h hh => ⟨_, hh.cus hi9⟩) ?_
          refine y_iconst (pc := 39) C dX4_plannedAboveTheLaw_39 ?_
          refine y_callV (pc := 40) (As := [_]) C E.2.1 cv_X4_292 (ci := 1) rfl rfl (mc_sizeOfPlan i hi9 false hp) (fun h hh => ⟨_, hh.cus hi9⟩) rfl rfl (Nat.le_of_ble_eq_true rfl) ⟨by decide, by decide, by decide, by decide⟩ dX4_plannedAboveTheLaw_40 ⟨rfl, rfl⟩ ?_
          show Y Ω κ _ hR _ _ _ _ (.int (iv (σ 37 i)) :: _)
          refine y_iadd (pc := 43) C dX4_plannedAboveTheLaw_43 ?_
          refine y_istore_n (pc := 44) (L' := [(2, _), (3, _), (1, _), (0, _)]) C dX4_plannedAboveTheLaw_44 (by rw [hn]; decide) rfl ?_
          refine y_iinc (pc := 45) (L' := [(3, _), (2, _), (1, _), (0, _)]) C dX4_plannedAboveTheLaw_45 1 rfl (by rw [hn]; decide) rfl ?_
          refine y_goto (pc := 48) (tgt := 16) C dX4_plannedAboveTheLaw_48 (by decide) ?_
          refine Y.sub [0, 1, 2, 3] rfl ?_
          exact ih1 (i + 1) _ _ (by omega) (by omega) (by omega) (by rw [hx]; rfl)
    refine Y.sub [0, 1, 2, 3] rfl ?_
    exact LP1 (nc + 1) 0 0 0 (by omega) (by omega) rfl rfl
  · skip
    refine y_iconst (pc := 10) C dX4_plannedAboveTheLaw_10 ?_
    exact y_iret (pc := 11) C E dX4_plannedAboveTheLaw_11 (by decide) (by decide) (fun h hh => ⟨by rw [show lawA σ nc nl = 0 from if_pos (hkb.2.2.mp c7)], hh⟩)

set_option maxRecDepth 20000 in
theorem mg_capacityOfPlant {Ω : OmT} {hR : AH} {lay : Nat → Nat → Nat} {ξ : XiT} {ms ns nc nl : Nat} {σ : ZT} {τ : JT} (hwf : Wf σ ns nc nl) (hms : ns ≤ ms) (b : Bool) (hf : FlOk ξ σ) : Ct Ω yX4_capacityOfPlant cX4_capacityOfPlant 6 (some FieldType.int) (rk 5) [.ref (lay 0 0), .int (iv (bz b))] (InvC Ω lay ms ns nc nl ξ σ τ) hR (RV (.int (iv (canZ σ ns b))) (InvC Ω lay ms ns nc nl ξ σ τ)) NX := by
  refine Ct.of (own := RX4) (L := [(0, _), (1, _)]) (by decide +kernel) rfl (Nat.le_of_ble_eq_true rfl) rfl ?_
  intro κ C hn E hi
  have hs2 := hwf.2.1
  have hc2 := hwf.2.2.2.1
  have hl2 := hwf.2.2.2.2.1.2.1
  have hnow := hwf.2.2.2.2.2.1.2
  have hst := hwf.2.2.2.2.2.2.1
  have hcu := hwf.2.2.2.2.2.2.2.1
  have hfc := fl_can (ns := ns) (b := b) hf
  have hf0 := hf
  unfold FlOk at hf0
  refine y_joinI (pcj := 15) (P := fun q => q = if b = true then ξ.2.2 else ξ.2.1) (fun v1 hv1 => ?_) (fun J1 => ?_)
  · skip
    rw [← hv1] at hfc
    have hv9 : -1000 ≤ v1 ∧ v1 < σ 1 0 := by rw [hv1]; split <;> omega
    refine y_istore_n (pc := 15) (L' := [(2, _), (0, _), (1, _)]) C dX4_capacityOfPlant_15 (by rw [hn]; decide) rfl ?_
    refine y_aload_n (pc := 16) C dX4_capacityOfPlant_16 1 rfl ?_
    refine y_get (pc := 17) C fg_X4_29 dX4_capacityOfPlant_17 (fun h hh => ⟨_, hh.gas, rfl⟩) ?_
    refine y_iload_n (pc := 20) C dX4_capacityOfPlant_20 0 rfl ?_
    refine y_isub (pc := 21) C dX4_capacityOfPlant_21 ?_
    refine y_iconst (pc := 22) C dX4_capacityOfPlant_22 ?_
    refine y_icmp_gt (pc := 23) (tgt := 28) C dX4_capacityOfPlant_23 (by decide) (by omega) (by omega) (by omega) (by omega) (fun c23 => ?_) (fun c23 => ?_)
    · skip
      refine y_iconst (pc := 28) C dX4_capacityOfPlant_28 ?_
      refine y_istore_n (pc := 29) (L' := [(3, _), (2, _), (0, _), (1, _)]) C dX4_capacityOfPlant_29 (by rw [hn]; decide) rfl ?_
      refine y_iconst (pc := 30) C dX4_capacityOfPlant_30 ?_
      refine y_istore (pc := 31) (L' := [(4, _), (3, _), (2, _), (0, _), (1, _)]) C dX4_capacityOfPlant_31 (by rw [hn]; decide) rfl ?_
      have LP2 : ∀ (m2 : Nat) (i : Nat) (z x : Int), (k1 : ns + 1 ≤ i + m2) → (k2 : i ≤ ns) → (hz : z = i) → (hx : x = sumZ (fun k => rateZ σ k b) i) → Y Ω κ (InvC Ω lay ms ns nc nl ξ σ τ) hR 0 0 33 [(4, .int (iv z)), (3, .int (iv x)), (1, .int (iv (bz b))), (0, .ref (lay 0 0))] [] := by
        intro m2
        induction m2 with
        | zero => intro i z x k1 k2 hz hx; exfalso; omega
        | succ m2 ih2 =>
          intro i z x k1 k2 hz hx
          refine y_iload (pc := 33) C dX4_capacityOfPlant_33 0 rfl ?_
          refine y_aload_n (pc := 35) C dX4_capacityOfPlant_35 3 rfl ?_
          refine y_get (pc := 36) C fg_X4_10 dX4_capacityOfPlant_36 (fun h hh => ⟨_, hh.gas, rfl⟩) ?_
          refine y_callV (pc := 39) (As := []) C E.2.1 cv_X4_74 (ci := 0) rfl rfl (mc_size (lay 0 1) (lay 6 1) ns (lay 1) (by omega) (fun h hh => hh.li1)) (fun h hh => hh.li1.obj) rfl rfl (Nat.le_of_ble_eq_true rfl) ⟨by decide, by decide, by decide, by decide⟩ dX4_capacityOfPlant_39 ⟨rfl, rfl⟩ ?_
          refine y_icmp_ge (pc := 42) (tgt := 85) C dX4_capacityOfPlant_42 (by decide) (by omega) (by omega) (by omega) (by omega) (fun c42 => ?_) (fun c42 => ?_)
          · skip
            refine y_iload_n (pc := 85) C dX4_capacityOfPlant_85 1 rfl ?_
            exact y_iret (pc := 86) C E dX4_capacityOfPlant_86 (by decide) (by decide) (fun h hh => ⟨by rw [hfc, if_neg (by omega), hx, show i = ns by omega], hh⟩)
          · skip
            subst hz
            have hi9 : i < ns := by omega
            have hm9 : i < ms := by omega
            have hsi := hst i hi9
            refine y_aload_n (pc := 45) C dX4_capacityOfPlant_45 3 rfl ?_
            refine y_get (pc := 46) C fg_X4_10 dX4_capacityOfPlant_46 (fun h hh => ⟨_, hh.gas, rfl⟩) ?_
            refine y_iload (pc := 49) C dX4_capacityOfPlant_49 0 rfl ?_
            refine y_callV (pc := 51) (As := [_]) C E.2.1 cv_X4_256 (ci := 0) rfl rfl (mc_get (lay 0 1) (lay 6 1) ns (lay 1) (by omega) (fun h hh => hh.li1) i hi9) (fun h hh => hh.li1.obj) rfl rfl (Nat.le_of_ble_eq_true rfl) ⟨by decide, by decide, by decide, by decide⟩ dX4_capacityOfPlant_51 ⟨rfl, rfl⟩ ?_
            refine y_cast (pc := 54) C (ci := 4) (qc := (RX3, TX3, 11)) rfl aw_1_126 dX4_capacityOfPlant_54 (fun h hh => ⟨_, hh.sto hm9⟩) ?_
            refine y_astore (pc := 57) (L' := [(5, _), (4, _), (3, _), (1, _), (0, _)]) C dX4_capacityOfPlant_57 (by rw [hn]; decide) rfl ?_
            refine y_iload_n (pc := 59) C dX4_capacityOfPlant_59 2 rfl ?_
            refine y_joinI (pcj := 77) (P := fun q => q = rateZ σ i b) (fun v3 hv3 => ?_) (fun J3 => ?_)
            · skip
              subst hv3
              refine y_iadd (pc := 77) C dX4_capacityOfPlant_77 ?_
              refine y_istore_n (pc := 78) (L' := [(3, _), (5, _), (4, _), (1, _), (0, _)]) C dX4_capacityOfPlant_78 (by rw [hn]; decide) rfl ?_
              refine y_iinc (pc := 79) (L' := [(4, _), (3, _), (5, _), (1, _), (0, _)]) C dX4_capacityOfPlant_79 2 rfl (by rw [hn]; decide) rfl ?_
              refine y_goto (pc := 82) (tgt := 33) C dX4_capacityOfPlant_82 (by decide) ?_
              refine Y.sub [0, 1, 3, 4] rfl ?_
              exact ih2 (i + 1) _ _ (by omega) (by omega) (by omega) (by rw [hx]; rfl)
            · skip
              refine y_iload_n (pc := 60) C dX4_capacityOfPlant_60 3 rfl ?_
              refine y_ifb_eq (pc := 61) (tgt := 72) C dX4_capacityOfPlant_61 (by decide) (fun c61 => ?_) (fun c61 => ?_)
              · skip
                refine y_aload (pc := 72) C dX4_capacityOfPlant_72 0 rfl ?_
                refine y_callV (pc := 74) (As := []) C E.2.1 cv_X4_106 (ci := 4) rfl rfl (mc_rateOut _ hm9 hsi) (fun h hh => ⟨_, hh.sto hm9⟩) rfl rfl (Nat.le_of_ble_eq_true rfl) ⟨by decide, by decide, by decide, by decide⟩ dX4_capacityOfPlant_74 ⟨rfl, rfl⟩ ?_
                exact J3 _ (by subst c61; rfl)
              · skip
                refine y_aload (pc := 64) C dX4_capacityOfPlant_64 0 rfl ?_
                refine y_callV (pc := 66) (As := []) C E.2.1 cv_X4_181 (ci := 4) rfl rfl (mc_rateIn _ hm9 hsi) (fun h hh => ⟨_, hh.sto hm9⟩) rfl rfl (Nat.le_of_ble_eq_true rfl) ⟨by decide, by decide, by decide, by decide⟩ dX4_capacityOfPlant_66 ⟨rfl, rfl⟩ ?_
                refine y_goto (pc := 69) (tgt := 77) C dX4_capacityOfPlant_69 (by decide) ?_
                exact J3 _ (by subst c61; rfl)
      refine Y.sub [0, 1, 4, 3] rfl ?_
      exact LP2 (ns + 1) 0 0 0 (by omega) (by omega) rfl rfl
    · skip
      refine y_iconst (pc := 26) C dX4_capacityOfPlant_26 ?_
      exact y_iret (pc := 27) C E dX4_capacityOfPlant_27 (by decide) (by decide) (fun h hh => ⟨by rw [hfc, if_pos (by omega)], hh⟩)
  · skip
    refine y_iload_n (pc := 0) C dX4_capacityOfPlant_0 1 rfl ?_
    refine y_ifb_eq (pc := 1) (tgt := 11) C dX4_capacityOfPlant_1 (by decide) (fun c1 => ?_) (fun c1 => ?_)
    · skip
      refine y_aload_n (pc := 11) C dX4_capacityOfPlant_11 0 rfl ?_
      refine y_get (pc := 12) C fg_X4_36 dX4_capacityOfPlant_12 (fun h hh => ⟨_, hh.gas, rfl⟩) ?_
      exact J1 _ (by subst c1; rfl)
    · skip
      refine y_aload_n (pc := 4) C dX4_capacityOfPlant_4 0 rfl ?_
      refine y_get (pc := 5) C fg_X4_39 dX4_capacityOfPlant_5 (fun h hh => ⟨_, hh.gas, rfl⟩) ?_
      refine y_goto (pc := 8) (tgt := 15) C dX4_capacityOfPlant_8 (by decide) ?_
      exact J1 _ (by subst c1; rfl)

set_option maxRecDepth 20000 in
theorem mg_curtail {Ω : OmT} {hR : AH} {lay : Nat → Nat → Nat} {ξ : XiT} {ms ns nc nl : Nat} {σ : ZT} {τ : JT} (b : Bool) (y s : Int) (hc2 : nc ≤ 6) (hp0 : PlOk σ nc) (h4 : ∀ c, c < nc → 0 ≤ σ 20 c ∧ σ 20 c ≤ 3) (h5 : -2147483648 ≤ y ∧ y < 2147483648) (h6 : 0 ≤ s ∧ s ≤ 3) : Ct Ω yX4_curtail cX4_curtail 8 none (rk 5) [.ref (lay 0 0), .int (iv (bz b)), .int (iv y), .int (iv s)] (InvC Ω lay ms ns nc nl ξ σ τ) hR (RU (InvC Ω lay ms ns nc nl ξ (cur b s nc σ y) (τ))) NX := by
  refine Ct.of (own := RX4) (L := [(0, _), (1, _), (2, _), (3, _)]) (by decide +kernel) rfl (Nat.le_of_ble_eq_true rfl) rfl ?_
  intro κ C hn E hi
  refine y_iload_n (pc := 0) C dX4_curtail_0 2 rfl ?_
  refine y_istore (pc := 1) (L' := [(4, _), (0, _), (1, _), (2, _), (3, _)]) C dX4_curtail_1 (by rw [hn]; decide) rfl ?_
  refine y_iconst (pc := 3) C dX4_curtail_3 ?_
  refine y_istore (pc := 4) (L' := [(5, _), (4, _), (0, _), (1, _), (2, _), (3, _)]) C dX4_curtail_4 (by rw [hn]; decide) rfl ?_
  have LP1 : ∀ (m1 : Nat) (R : Nat) (z5 r : Int) (w : ZT), (k1 : R + 1 ≤ m1) → (k2 : R ≤ 4) → (hz5 : z5 = (R : Int) - 1) → (hw : cloop b s nc (nc * R) (w, r) = cloop b s nc (4 * nc) (σ, y)) → (hp : PlOk w nc) → (hf : ∀ f, f < 36 → w f = σ f) → (hr : -2147483648 ≤ r ∧ r < 2147483648) → Y Ω κ (InvC Ω lay ms ns nc nl ξ (w) (τ)) hR 0 0 6 [(5, .int (iv z5)), (4, .int (iv r)), (0, .ref (lay 0 0)), (1, .int (iv (bz b))), (2, .int (iv y)), (3, .int (iv s))] [] := by
    intro m1
    induction m1 with
    | zero => intro R z5 r w k1 k2 hz5 hw hp hf hr; exfalso; omega
    | succ m1 ih1 =>
      intro R z5 r w k1 k2 hz5 hw hp hf hr
      refine y_iload (pc := 6) C dX4_curtail_6 0 rfl ?_
      refine y_if_lt (pc := 8) (tgt := 82) C dX4_curtail_8 (by decide) (by omega) (by omega) (fun c8 => ?_) (fun c8 => ?_)
      · skip
        exact y_vret (pc := 82) C E dX4_curtail_82 (by decide) (by decide) (fun h hh => ⟨rfl, by have e : R = 0 := (by omega); subst e; rw [show cur b s nc σ y = w from (congrArg Prod.fst hw).symm]; exact hh⟩)
      · skip
        obtain ⟨R, rfl⟩ : ∃ R9, R = R9 + 1 := ⟨R - 1, by omega⟩
        have ez5 : z5 = (R : Int) := by omega
        rw [Nat.mul_succ] at hw
        refine y_aload_n (pc := 11) C dX4_curtail_11 2 rfl ?_
        refine y_get (pc := 12) C fg_X4_16 dX4_curtail_12 (fun h hh => ⟨_, hh.gas, rfl⟩) ?_
        refine y_callV (pc := 15) (As := []) C E.2.1 cv_X4_74 (ci := 0) rfl rfl (mc_size (lay 0 2) (lay 6 2) nc (lay 2) (by omega) (fun h hh => hh.li2)) (fun h hh => hh.li2.obj) rfl rfl (Nat.le_of_ble_eq_true rfl) ⟨by decide, by decide, by decide, by decide⟩ dX4_curtail_15 ⟨rfl, rfl⟩ ?_
        refine y_iconst (pc := 18) C dX4_curtail_18 ?_
        refine y_isub (pc := 19) C dX4_curtail_19 ?_
        refine y_istore (pc := 20) (L' := [(6, _), (5, _), (4, _), (0, _), (1, _), (2, _), (3, _)]) C dX4_curtail_20 (by rw [hn]; decide) rfl ?_
        have LP2 : ∀ (m2 : Nat) (i : Nat) (z6 r : Int) (w : ZT), (q1 : i + 1 ≤ m2) → (q2 : i ≤ nc) → (hz6 : z6 = (i : Int) - 1) → (hw : cloop b s nc (nc * R + i) (w, r) = cloop b s nc (4 * nc) (σ, y)) → (hp : PlOk w nc) → (hf : ∀ f, f < 36 → w f = σ f) → (hr : -2147483648 ≤ r ∧ r < 2147483648) → Y Ω κ (InvC Ω lay ms ns nc nl ξ (w) (τ)) hR 0 0 22 [(6, .int (iv z6)), (4, .int (iv r)), (5, .int (iv z5)), (0, .ref (lay 0 0)), (1, .int (iv (bz b))), (2, .int (iv y)), (3, .int (iv s))] [] := by
          intro m2
          induction m2 with
          | zero => intro i z6 r w q1 q2 hz6 hw hp hf hr; exfalso; omega
          | succ m2 ih2 =>
            intro i z6 r w q1 q2 hz6 hw hp hf hr
            refine y_iload (pc := 22) C dX4_curtail_22 0 rfl ?_
            refine y_if_lt (pc := 24) (tgt := 76) C dX4_curtail_24 (by decide) (by omega) (by omega) (fun c24 => ?_) (fun c24 => ?_)
            · skip
              have hwR : cloop b s nc (nc * R) (w, r) = cloop b s nc (4 * nc) (σ, y) := by first | (rw [← hw, show i = 0 by omega, Nat.add_zero]) | (rw [← hw]; exact cl_k (by omega) _)
              refine y_iinc (pc := 76) (L' := [(5, _), (6, _), (4, _), (0, _), (1, _), (2, _), (3, _)]) C dX4_curtail_76 2 rfl (by rw [hn]; decide) rfl ?_
              refine y_goto (pc := 79) (tgt := 6) C dX4_curtail_79 (by decide) ?_
              refine Y.sub [0, 2, 3, 4, 5, 6] rfl ?_
              exact ih1 R _ _ _ (by omega) (by omega) (by omega) hwR hp hf hr
            · skip
              refine y_iload (pc := 27) C dX4_curtail_27 1 rfl ?_
              refine y_if_le (pc := 29) (tgt := 76) C dX4_curtail_29 (by decide) (by omega) (by omega) (fun c29 => ?_) (fun c29 => ?_)
              · skip
                have hwR : cloop b s nc (nc * R) (w, r) = cloop b s nc (4 * nc) (σ, y) := by first | (rw [← hw, show i = 0 by omega, Nat.add_zero]) | (rw [← hw]; exact cl_k (by omega) _)
                refine y_iinc (pc := 76) (L' := [(5, _), (6, _), (4, _), (0, _), (1, _), (2, _), (3, _)]) C dX4_curtail_76 2 rfl (by rw [hn]; decide) rfl ?_
                refine y_goto (pc := 79) (tgt := 6) C dX4_curtail_79 (by decide) ?_
                refine Y.sub [0, 2, 3, 4, 5, 6] rfl ?_
                exact ih1 R _ _ _ (by omega) (by omega) (by omega) hwR hp hf hr
              · skip
                obtain ⟨j, rfl⟩ : ∃ j, i = j + 1 := ⟨i - 1, by omega⟩
                have ez6 : z6 = (j : Int) := by omega
                subst ez6
                have hw9 : j < nc := by omega
                have h20 : 0 ≤ w 20 j ∧ w 20 j ≤ 3 := by rw [hf 20 (by omega)]; exact h4 j hw9
                have hcs := cl_step (b := b) (s := s) (q := R) (σ := w) hw9 (show 0 < r by omega)
                have hsz := (sz_eq (b := b) hp hw9).2
                refine y_aload_n (pc := 32) C dX4_curtail_32 3 rfl ?_
                refine y_get (pc := 33) C fg_X4_16 dX4_curtail_33 (fun h hh => ⟨_, hh.gas, rfl⟩) ?_
                refine y_iload (pc := 36) C dX4_curtail_36 0 rfl ?_
                refine y_callV (pc := 38) (As := [_]) C E.2.1 cv_X4_256 (ci := 0) rfl rfl (mc_get (lay 0 2) (lay 6 2) nc (lay 2) (by omega) (fun h hh => hh.li2) j hw9) (fun h hh => hh.li2.obj) rfl rfl (Nat.le_of_ble_eq_true rfl) ⟨by decide, by decide, by decide, by decide⟩ dX4_curtail_38 ⟨rfl, rfl⟩ ?_
                refine y_cast (pc := 41) C (ci := 1) (qc := (RX0, TX0, 12)) rfl aw_1_131 dX4_curtail_41 (fun h hh => ⟨_, hh.cus hw9⟩) ?_
                refine y_astore (pc := 44) (L' := [(7, _), (6, _), (4, _), (5, _), (0, _), (1, _), (2, _), (3, _)]) C dX4_curtail_44 (by rw [hn]; decide) rfl ?_
                refine y_aload (pc := 46) C dX4_curtail_46 0 rfl ?_
                refine y_get (pc := 48) C fg_X4_295 dX4_curtail_48 (fun h hh => ⟨_, hh.cus hw9, rfl⟩) ?_
                refine y_iload (pc := 51) C dX4_curtail_51 3 rfl ?_
                refine y_icmp_ne (pc := 53) (tgt := 70) C dX4_curtail_53 (by decide) (by omega) (by omega) (by omega) (by omega) (fun c53 => ?_) (fun c53 => ?_)
                · skip
                  have hm9 : ¬ w 20 j = (R : Int) := by rw [← ez5]; exact c53
                  have hwj : cloop b s nc (nc * R + j) (w, r) = cloop b s nc (4 * nc) (σ, y) := by rw [← hw, hcs, if_neg hm9, curZ_0, Int.sub_zero]
                  have hpj := hp
                  have hfj := hf
                  have hrj := hr
                  refine y_iinc (pc := 70) (L' := [(6, _), (7, _), (4, _), (5, _), (0, _), (1, _), (2, _), (3, _)]) C dX4_curtail_70 1 rfl (by rw [hn]; decide) rfl ?_
                  refine y_goto (pc := 73) (tgt := 22) C dX4_curtail_73 (by decide) ?_
                  refine Y.sub [0, 2, 3, 4, 5, 6, 7] rfl ?_
                  exact ih2 j _ _ _ (by omega) (by omega) (by omega) hwj hpj hfj hrj
                · skip
                  refine y_iload (pc := 56) C dX4_curtail_56 2 rfl ?_
                  refine y_aload (pc := 58) C dX4_curtail_58 0 rfl ?_
                  refine y_iload_n (pc := 60) C dX4_curtail_60 5 rfl ?_
                  refine y_iload (pc := 61) C dX4_curtail_61 2 rfl ?_
                  refine y_iload_n (pc := 63) C dX4_curtail_63 7 rfl ?_
                  refine y_callV (pc := 64) (As := [_, _, _]) C E.2.1 cv_X4_298 (ci := 1) rfl rfl (mc_cutBack j hw9 b r s hp hr h6) (fun h hh => ⟨_, hh.cus hw9⟩) rfl rfl (Nat.le_of_ble_eq_true rfl) ⟨by decide, by decide, by decide, by decide⟩ dX4_curtail_64 ⟨rfl, rfl⟩ ?_
                  refine y_isub (pc := 67) C dX4_curtail_67 ?_
                  refine y_istore (pc := 68) (L' := [(4, _), (7, _), (6, _), (5, _), (0, _), (1, _), (2, _), (3, _)]) C dX4_curtail_68 (by rw [hn]; decide) rfl ?_
                  have hm9 : w 20 j = (R : Int) := by rw [← ez5]; exact c53
                  have ey : max 0 (min (szZ w b j) r) = min r (szZ w b j) := by omega
                  rw [ey]
                  have hwj : cloop b s nc (nc * R + j) (curZ b s j (min r (szZ w b j)) w, r - min r (szZ w b j)) = cloop b s nc (4 * nc) (σ, y) := by rw [← hw, hcs, if_pos hm9]
                  have hpj : PlOk (curZ b s j (min r (szZ w b j)) w) nc := curZ_ok hp hw9 h6 (by omega) (fun e => by subst e; have : szZ w true j = w 36 j := rfl; omega) (fun e => by subst e; have : szZ w false j = w 37 j := rfl; omega)
                  have hfj : ∀ f, f < 36 → curZ b s j (min r (szZ w b j)) w f = σ f := fun f hf9 => (curZ_f (Or.inl hf9)).trans (hf f hf9)
                  have hrj : -2147483648 ≤ r - min r (szZ w b j) ∧ r - min r (szZ w b j) < 2147483648 := by omega
                  refine y_iinc (pc := 70) (L' := [(6, _), (4, _), (7, _), (5, _), (0, _), (1, _), (2, _), (3, _)]) C dX4_curtail_70 2 rfl (by rw [hn]; decide) rfl ?_
                  refine y_goto (pc := 73) (tgt := 22) C dX4_curtail_73 (by decide) ?_
                  refine Y.sub [0, 1, 3, 4, 5, 6, 7] rfl ?_
                  exact ih2 j _ _ _ (by omega) (by omega) (by omega) hwj hpj hfj hrj
        refine Y.sub [0, 2, 1, 3, 4, 5, 6] rfl ?_
        exact LP2 (nc + 1) nc _ _ _ (by omega) (by omega) rfl hw hp hf hr
  refine Y.sub [0, 1, 2, 3, 4, 5] rfl ?_
  exact LP1 5 4 _ _ σ (by omega) (by omega) rfl (by rw [Nat.mul_comm]) hp0 (fun _ _ => rfl) h5

