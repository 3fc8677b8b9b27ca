/-! how objects are made -/

set_option maxRecDepth 20000 in
theorem mc_sinit {Ω : OmT} {hR : AH} (h0 : AH) (a : Nat) (k v lo gr m : Int) : Ct Ω yX3_init cX3_init 6 none (rk 2) [.ref a, .int (iv k), .int (iv v), .int (iv lo), .int (iv gr), .int (iv m)] (fun h => h = hset h0 a (.inr (4, [.int 0, .int 0, .int 0, .int 0, .int 0, .int 0, .int 0, .long 0, .int 0, .int 0, .int 0]))) hR (RU (fun h => h = hset h0 a (.inr (4, [.int (iv k), .int (iv lo), .int (iv gr), .int (iv m), .int (iv v), .int (iv 0), .int (iv 0), .long (jv 0), .int (iv 0), .int (iv 0), .int (iv 0)])))) NX := by
  refine Ct.of (own := RX3) (L := [(0, _), (1, _), (2, _), (3, _), (4, _), (5, _)]) (by decide +kernel) rfl (Nat.le_of_ble_eq_true rfl) rfl ?_
  intro κ C hn E hi
  have hi0 := hi rfl
  refine y_aload_n (pc := 0) C dX3_init_0 0 rfl ?_
  refine y_objI (pc := 1) C E.2.1 aw_2_21 aw_1_27 aw_1_28 (by decide) (by decide) dX3_init_1 ?_
  refine y_aload_n (pc := 4) C dX3_init_4 0 rfl ?_
  refine y_iconst (pc := 5) C dX3_init_5 ?_
  refine y_put (pc := 6) (Φ' := fun h => h = hset h0 a (.inr (4, [.int 0, .int 0, .int 0, .int 0, .int 0, .int (iv 0), .int 0, .long 0, .int 0, .int 0, .int 0]))) C fp_X3_9 dX3_init_6 rfl rfl (fun h hh => ⟨_, (congrFun hh a).trans hset_s, Nat.le_of_ble_eq_true rfl, by rw [hh, hset_hset]; rfl⟩) ?_
  refine y_aload_n (pc := 9) C dX3_init_9 0 rfl ?_
  refine y_iconst (pc := 10) C dX3_init_10 ?_
  refine y_put (pc := 11) (Φ' := fun h => h = hset h0 a (.inr (4, [.int 0, .int 0, .int 0, .int 0, .int 0, .int (iv 0), .int (iv 0), .long 0, .int 0, .int 0, .int 0]))) C fp_X3_15 dX3_init_11 rfl rfl (fun h hh => ⟨_, (congrFun hh a).trans hset_s, Nat.le_of_ble_eq_true rfl, by rw [hh, hset_hset]; rfl⟩) ?_
  refine y_aload_n (pc := 14) C dX3_init_14 0 rfl ?_
  refine y_lconst (pc := 15) (z := 0) C dX3_init_15 (by decide) ?_
  refine y_put (pc := 16) (Φ' := fun h => h = hset h0 a (.inr (4, [.int 0, .int 0, .int 0, .int 0, .int 0, .int (iv 0), .int (iv 0), .long (jv 0), .int 0, .int 0, .int 0]))) C fp_X3_18 dX3_init_16 rfl rfl (fun h hh => ⟨_, (congrFun hh a).trans hset_s, Nat.le_of_ble_eq_true rfl, by rw [hh, hset_hset]; rfl⟩) ?_
  refine y_aload_n (pc := 19) C dX3_init_19 0 rfl ?_
  refine y_iconst (pc := 20) C dX3_init_20 ?_
  refine y_put (pc := 21) (Φ' := fun h => h = hset h0 a (.inr (4, [.int 0, .int 0, .int 0, .int 0, .int 0, .int (iv 0), .int (iv 0), .long (jv 0), .int (iv 0), .int 0, .int 0]))) C fp_X3_22 dX3_init_21 rfl rfl (fun h hh => ⟨_, (congrFun hh a).trans hset_s, Nat.le_of_ble_eq_true rfl, by rw [hh, hset_hset]; rfl⟩) ?_
  refine y_aload_n (pc := 24) C dX3_init_24 0 rfl ?_
  refine y_iconst (pc := 25) C dX3_init_25 ?_
  refine y_put (pc := 26) (Φ' := fun h => h = hset h0 a (.inr (4, [.int 0, .int 0, .int 0, .int 0, .int 0, .int (iv 0), .int (iv 0), .long (jv 0), .int (iv 0), .int (iv 0), .int 0]))) C fp_X3_25 dX3_init_26 rfl rfl (fun h hh => ⟨_, (congrFun hh a).trans hset_s, Nat.le_of_ble_eq_true rfl, by rw [hh, hset_hset]; rfl⟩) ?_
  refine y_aload_n (pc := 29) C dX3_init_29 0 rfl ?_
  refine y_iconst (pc := 30) C dX3_init_30 ?_
  refine y_put (pc := 31) (Φ' := fun h => h = hset h0 a (.inr (4, [.int 0, .int 0, .int 0, .int 0, .int 0, .int (iv 0), .int (iv 0), .long (jv 0), .int (iv 0), .int (iv 0), .int (iv 0)]))) C fp_X3_28 dX3_init_31 rfl rfl (fun h hh => ⟨_, (congrFun hh a).trans hset_s, Nat.le_of_ble_eq_true rfl, by rw [hh, hset_hset]; rfl⟩) ?_
  refine y_aload_n (pc := 34) C dX3_init_34 0 rfl ?_
  refine y_iload_n (pc := 35) C dX3_init_35 1 rfl ?_
  refine y_putF (pc := 36) (Φ' := fun h => h = hset h0 a (.inr (4, [.int (iv k), .int 0, .int 0, .int 0, .int 0, .int (iv 0), .int (iv 0), .long (jv 0), .int (iv 0), .int (iv 0), .int (iv 0)]))) C hi0 ff_X3_31 dX3_init_36 rfl rfl (fun h hh => ⟨_, (congrFun hh a).trans hset_s, Nat.le_of_ble_eq_true rfl, by rw [hh, hset_hset]; rfl⟩) ?_
  refine y_aload_n (pc := 39) C dX3_init_39 0 rfl ?_
  refine y_iload_n (pc := 40) C dX3_init_40 2 rfl ?_
  refine y_put (pc := 41) (Φ' := fun h => h = hset h0 a (.inr (4, [.int (iv k), .int 0, .int 0, .int 0, .int (iv v), .int (iv 0), .int (iv 0), .long (jv 0), .int (iv 0), .int (iv 0), .int (iv 0)]))) C fp_X3_34 dX3_init_41 rfl rfl (fun h hh => ⟨_, (congrFun hh a).trans hset_s, Nat.le_of_ble_eq_true rfl, by rw [hh, hset_hset]; rfl⟩) ?_
  refine y_aload_n (pc := 44) C dX3_init_44 0 rfl ?_
  refine y_iload_n (pc := 45) C dX3_init_45 3 rfl ?_
  refine y_putF (pc := 46) (Φ' := fun h => h = hset h0 a (.inr (4, [.int (iv k), .int (iv lo), .int 0, .int 0, .int (iv v), .int (iv 0), .int (iv 0), .long (jv 0), .int (iv 0), .int (iv 0), .int (iv 0)]))) C hi0 ff_X3_37 dX3_init_46 rfl rfl (fun h hh => ⟨_, (congrFun hh a).trans hset_s, Nat.le_of_ble_eq_true rfl, by rw [hh, hset_hset]; rfl⟩) ?_
  refine y_aload_n (pc := 49) C dX3_init_49 0 rfl ?_
  refine y_iload (pc := 50) C dX3_init_50 4 rfl ?_
  refine y_putF (pc := 52) (Φ' := fun h => h = hset h0 a (.inr (4, [.int (iv k), .int (iv lo), .int (iv gr), .int 0, .int (iv v), .int (iv 0), .int (iv 0), .long (jv 0), .int (iv 0), .int (iv 0), .int (iv 0)]))) C hi0 ff_X3_40 dX3_init_52 rfl rfl (fun h hh => ⟨_, (congrFun hh a).trans hset_s, Nat.le_of_ble_eq_true rfl, by rw [hh, hset_hset]; rfl⟩) ?_
  refine y_aload_n (pc := 55) C dX3_init_55 0 rfl ?_
  refine y_iload (pc := 56) C dX3_init_56 5 rfl ?_
  refine y_putF (pc := 58) (Φ' := fun h => h = hset h0 a (.inr (4, [.int (iv k), .int (iv lo), .int (iv gr), .int (iv m), .int (iv v), .int (iv 0), .int (iv 0), .long (jv 0), .int (iv 0), .int (iv 0), .int (iv 0)]))) C hi0 ff_X3_43 dX3_init_58 rfl rfl (fun h hh => ⟨_, (congrFun hh a).trans hset_s, Nat.le_of_ble_eq_true rfl, by rw [hh, hset_hset]; rfl⟩) ?_
  exact y_vret (pc := 61) C E dX3_init_61 (by decide) (by decide) (fun h hh => ⟨rfl, hh⟩)

set_option maxRecDepth 20000 in
theorem mc_linit {Ω : OmT} {hR : AH} (h0 : AH) (a : Nat) (p q r : Int) : Ct Ω yX2_init cX2_init 4 none (rk 2) [.ref a, .int (iv p), .int (iv q), .int (iv r)] (fun h => h = hset h0 a (.inr (3, [.int 0, .int 0, .int 0]))) hR (RU (fun h => h = hset h0 a (.inr (3, [.int (iv p), .int (iv q), .int (iv r)])))) NX := by
  refine Ct.of (own := RX2) (L := [(0, _), (1, _), (2, _), (3, _)]) (by decide +kernel) rfl (Nat.le_of_ble_eq_true rfl) rfl ?_
  intro κ C hn E hi
  have hi0 := hi rfl
  refine y_aload_n (pc := 0) C dX2_init_0 0 rfl ?_
  refine y_objI (pc := 1) C E.2.1 aw_3_66 aw_1_27 aw_1_28 (by decide) (by decide) dX2_init_1 ?_
  refine y_aload_n (pc := 4) C dX2_init_4 0 rfl ?_
  refine y_iload_n (pc := 5) C dX2_init_5 1 rfl ?_
  refine y_putF (pc := 6) (Φ' := fun h => h = hset h0 a (.inr (3, [.int (iv p), .int 0, .int 0]))) C hi0 ff_X2_7 dX2_init_6 rfl rfl (fun h hh => ⟨_, (congrFun hh a).trans hset_s, Nat.le_of_ble_eq_true rfl, by rw [hh, hset_hset]; rfl⟩) ?_
  refine y_aload_n (pc := 9) C dX2_init_9 0 rfl ?_
  refine y_iload_n (pc := 10) C dX2_init_10 2 rfl ?_
  refine y_putF (pc := 11) (Φ' := fun h => h = hset h0 a (.inr (3, [.int (iv p), .int (iv q), .int 0]))) C hi0 ff_X2_13 dX2_init_11 rfl rfl (fun h hh => ⟨_, (congrFun hh a).trans hset_s, Nat.le_of_ble_eq_true rfl, by rw [hh, hset_hset]; rfl⟩) ?_
  refine y_aload_n (pc := 14) C dX2_init_14 0 rfl ?_
  refine y_iload_n (pc := 15) C dX2_init_15 3 rfl ?_
  refine y_putF (pc := 16) (Φ' := fun h => h = hset h0 a (.inr (3, [.int (iv p), .int (iv q), .int (iv r)]))) C hi0 ff_X2_16 dX2_init_16 rfl rfl (fun h hh => ⟨_, (congrFun hh a).trans hset_s, Nat.le_of_ble_eq_true rfl, by rw [hh, hset_hset]; rfl⟩) ?_
  exact y_vret (pc := 19) C E dX2_init_19 (by decide) (by decide) (fun h hh => ⟨rfl, hh⟩)


theorem mc_acol {Ω : OmT} {hR : AH} {Φ : AH → Prop} (a : Nat) : Ct Ω yJxa1e45_init_da8c8 cJxa1e45_init_da8c8 1 none (rk 2) [.ref a] Φ hR (RU Φ) NX := by
  refine Ct.of (own := RJxa1e45) (L := [(0, _)]) (by decide +kernel) rfl (Nat.le_of_ble_eq_true rfl) rfl ?_
  intro κ C hn E hi
  refine y_aload_n (pc := 0) C dJxa1e45_init_da8c8_0 0 rfl ?_
  refine y_objI (pc := 1) C E.2.1 aw_1_40 aw_1_27 aw_1_28 (by decide) (by decide) dJxa1e45_init_da8c8_1 ?_
  exact y_vret (pc := 4) C E dJxa1e45_init_da8c8_4 (by decide) (by decide) (fun h hh => ⟨rfl, hh⟩)
theorem mc_alst {Ω : OmT} {hR : AH} (h0 : AH) (a : Nat) : Ct Ω yJxc12de_init_da8c8 cJxc12de_init_da8c8 1 none (rk 3) [.ref a] (fun h => h = hset h0 a (.inr (0, [.int 0, .null, .int 0]))) hR (RU (fun h => h = hset h0 a (.inr (0, [.int (iv 0), .null, .int 0])))) NX := by
  refine Ct.of (own := RJxc12de) (L := [(0, _)]) (by decide +kernel) rfl (Nat.le_of_ble_eq_true rfl) rfl ?_
  intro κ C hn E hi
  refine y_aload_n (pc := 0) C dJxc12de_init_da8c8_0 0 rfl ?_
  refine y_callI (pc := 1) (As := []) C E.2.1 ci_Jxc12de_1 (mc_acol a) rfl rfl (Nat.le_of_ble_eq_true rfl) ⟨by decide, by decide, by decide, by decide⟩ dJxc12de_init_da8c8_1 ⟨rfl, rfl⟩ ?_
  refine y_aload_n (pc := 4) C dJxc12de_init_da8c8_4 0 rfl ?_
  refine y_iconst (pc := 5) C dJxc12de_init_da8c8_5 ?_
  refine y_put (pc := 6) (Φ' := fun h => h = hset h0 a (.inr (0, [.int (iv 0), .null, .int 0]))) C fp_Jxc12de_7 dJxc12de_init_da8c8_6 rfl rfl (fun h hh => ⟨_, (congrFun hh a).trans hset_s, Nat.le_of_ble_eq_true rfl, by rw [hh, hset_hset]; rfl⟩) ?_
  exact y_vret (pc := 9) C E dJxc12de_init_da8c8_9 (by decide) (by decide) (fun h hh => ⟨rfl, hh⟩)
theorem mc_list {Ω : OmT} {hR : AH} (h0 : AH) (a : Nat) : Ct Ω yJx4a65c_init_da8c8 cJx4a65c_init_da8c8 1 none (rk 4) [.ref a] (fun h => h = hset h0 a (.inr (0, [.int 0, .null, .int 0]))) hR (RU (fun h => h = hset h0 a (lO (iv 0) (OmE Ω) 0))) NX := by
  refine Ct.of (own := RJx4a65c) (L := [(0, _)]) (by decide +kernel) rfl (Nat.le_of_ble_eq_true rfl) rfl ?_
  intro κ C hn E hi
  refine y_aload_n (pc := 0) C dJx4a65c_init_da8c8_0 0 rfl ?_
  refine y_callI (pc := 1) (As := []) C E.2.1 ci_Jx4a65c_1 (mc_alst h0 a) rfl rfl (Nat.le_of_ble_eq_true rfl) ⟨by decide, by decide, by decide, by decide⟩ dJx4a65c_init_da8c8_1 ⟨rfl, rfl⟩ ?_
  refine y_aload_n (pc := 4) C dJx4a65c_init_da8c8_4 0 rfl ?_
  refine y_empty (pc := 5) C aw_1_41 dJx4a65c_init_da8c8_5 ?_
  refine y_put (pc := 8) (Φ' := fun h => h = hset h0 a (lO (iv 0) (OmE Ω) 0)) C fp_Jx4a65c_9 dJx4a65c_init_da8c8_8 rfl rfl (fun h hh => ⟨_, (congrFun hh a).trans hset_s, Nat.le_of_ble_eq_true rfl, by rw [hh, hset_hset]; unfold lO; rw [iv_0]; rfl⟩) ?_
  exact y_vret (pc := 11) C E dJx4a65c_init_da8c8_11 (by decide) (by decide) (fun h hh => ⟨rfl, hh⟩)
def i64 (Ω : OmT) : va_E := .inl (OmI Ω, 64, .inl (fun _ => 0))
theorem mc_hinit {Ω : OmT} {hR : AH} (h0 : AH) (b : Nat) : Ct Ω yX1_init cX1_init 1 none (rkc 2 1 64) [.ref b] (fun h => h = hset h0 b (.inr (2, [.null]))) hR (RU (fun h => ∃ v, h0 v = none ∧ hR v = none ∧ v ≠ b ∧ h = hset (hset h0 v (i64 Ω)) b (.inr (2, [.ref v])))) NX := by
  refine Ct.of (own := RX1) (L := [(0, _)]) (by decide +kernel) rfl (Nat.le_of_ble_eq_true rfl) rfl ?_
  intro κ C hn E hi
  have hi0 := hi rfl
  refine y_aload_n (pc := 0) C dX1_init_0 0 rfl ?_
  refine y_objI (pc := 1) C E.2.1 aw_1_60 aw_1_27 aw_1_28 (by decide) (by decide) dX1_init_1 ?_
  refine y_aload_n (pc := 4) C dX1_init_4 0 rfl ?_
  refine y_bipush (pc := 5) (z := 64) C dX1_init_5 (by decide) ?_
  refine y_newI (pc := 7) (n := 64) C aw_1_65 dX1_init_7 rfl (by decide) (by rw [E.2.1]; decide) (by rw [E.2.1]; decide) (fun v => ?_)
  refine Y.imp (Φ' := fun h => ((hset h0 b (.inr (2, [.null]))) v = none ∧ hR v = none) ∧ h = hset (hset h0 b (.inr (2, [.null]))) v (i64 Ω)) (fun h ⟨h', e1, e2, e3, e4⟩ => by subst e1; exact ⟨⟨e2, e3⟩, e4⟩) ?_
  refine Y.and (fun hfr => ?_)
  have hvb : v ≠ b := fun q => by have w := hfr.1; rw [q, hset_s] at w; cases w
  have h0v : h0 v = none := by have w := hfr.1; rw [hset_n hvb] at w; exact w
  refine y_putF (pc := 9) (Φ' := fun h => h = hset (hset h0 v (i64 Ω)) b (.inr (2, [.ref v]))) C hi0 ff_X1_9 dX1_init_9 rfl rfl (fun h hh => ⟨_, (congrFun hh b).trans ((hset_n (fun q => hvb q.symm)).trans hset_s), Nat.le_of_ble_eq_true rfl, by rw [hh, hset_cm (a := b) (b := v) (fun q => hvb q.symm), hset_hset]; rfl⟩) ?_
  exact y_vret (pc := 12) C E dX1_init_12 (by decide) (by decide) (fun h hh => ⟨rfl, v, h0v, hfr.2, hvb, hh⟩)

set_option maxRecDepth 20000 in
theorem mc_cinit {Ω : OmT} {hR : AH} (h0 : AH) (a : Nat) (v0 i0 o0 r0 : Int) : Ct Ω yX0_init cX0_init 5 none (rkc 4 2 65) [.ref a, .int (iv v0), .int (iv i0), .int (iv o0), .int (iv r0)] (fun h => h = hset h0 a (.inr (1, [.int 0, .int 0, .int 0, .int 0, .null, .int 0, .long 0, .long 0, .long 0, .int 0, .int 0, .int 0]))) hR (RU (fun h => ∃ b v, h0 b = none ∧ h0 v = none ∧ hR b = none ∧ hR v = none ∧ b ≠ a ∧ v ≠ a ∧ v ≠ b ∧ h = hset (hset (hset h0 v (i64 Ω)) b (.inr (2, [.ref v]))) a (.inr (1, [.int (iv v0), .int (iv i0), .int (iv o0), .int (iv r0), .ref b, .int (iv 0), .long (jv 0), .long (jv 0), .long (jv 0), .int (iv 0), .int (iv 0), .int (iv 0)])))) NX := by
  refine Ct.of (own := RX0) (L := [(0, _), (1, _), (2, _), (3, _), (4, _)]) (by decide +kernel) rfl (Nat.le_of_ble_eq_true rfl) rfl ?_
  intro κ C hn E hi
  have hi0 := hi rfl
  refine y_aload_n (pc := 0) C dX0_init_0 0 rfl ?_
  refine y_objI (pc := 1) C E.2.1 aw_2_204 aw_1_27 aw_1_28 (by decide) (by decide) dX0_init_1 ?_
  refine y_aload_n (pc := 4) C dX0_init_4 0 rfl ?_
  refine y_new (pc := 5) C fn_X0_9 dX0_init_5 (by rw [E.2.1]; decide) (by rw [E.2.1]; decide) (fun b => ?_)
  refine Y.imp (Φ' := fun h => ((hset h0 a (.inr (1, [.int 0, .int 0, .int 0, .int 0, .null, .int 0, .long 0, .long 0, .long 0, .int 0, .int 0, .int 0]))) b = none ∧ hR b = none) ∧ h = hset (hset h0 a (.inr (1, [.int 0, .int 0, .int 0, .int 0, .null, .int 0, .long 0, .long 0, .long 0, .int 0, .int 0, .int 0]))) b (.inr (2, [.null]))) (fun h ⟨h', e1, e2, e3, e4⟩ => by subst e1; exact ⟨⟨e2, e3⟩, e4⟩) ?_
  refine Y.and (fun hfr => ?_)
  have hba : b ≠ a := fun q => by have w := hfr.1; rw [q, hset_s] at w; cases w
  have h0b : h0 b = none := by have w := hfr.1; rw [hset_n hba] at w; exact w
  refine y_dup (pc := 8) C dX0_init_8 rfl ?_
  refine y_callN (pc := 9) (As := []) C E.2.1 cn_X0_11 (mc_hinit (hset h0 a (.inr (1, [.int 0, .int 0, .int 0, .int 0, .null, .int 0, .long 0, .long 0, .long 0, .int 0, .int 0, .int 0]))) b) rfl rfl (Nat.le_of_ble_eq_true rfl) ⟨by decide, by decide, by decide, by decide⟩ dX0_init_9 ⟨rfl, rfl⟩ ?_
  refine Y.ex fun v => Y.and fun f1 => Y.and fun f2 => Y.and fun hvb => ?_
  have hva : v ≠ a := fun q => by rw [q, hset_s] at f1; cases f1
  have h0v : h0 v = none := by rw [hset_n hva] at f1; exact f1
  obtain ⟨K, hK⟩ : ∃ K, K = hset (hset h0 v (i64 Ω)) b (.inr (2, [.ref v])) := ⟨_, rfl⟩
  refine Y.imp (Φ' := fun h => h = hset K a (.inr (1, [.int 0, .int 0, .int 0, .int 0, .null, .int 0, .long 0, .long 0, .long 0, .int 0, .int 0, .int 0]))) (fun h hh => by rw [hh, hK, hset_cm (a := a) (b := v) (fun q => hva q.symm), hset_cm (a := a) (b := b) (fun q => hba q.symm)]) ?_
  refine y_putF (pc := 12) (Φ' := fun h => h = hset K a (.inr (1, [.int 0, .int 0, .int 0, .int 0, .ref b, .int 0, .long 0, .long 0, .long 0, .int 0, .int 0, .int 0]))) C hi0 ff_X0_12 dX0_init_12 rfl rfl (fun h hh => ⟨_, (congrFun hh a).trans hset_s, Nat.le_of_ble_eq_true rfl, by rw [hh, hset_hset]; rfl⟩) ?_
  refine y_aload_n (pc := 15) C dX0_init_15 0 rfl ?_
  refine y_iconst (pc := 16) C dX0_init_16 ?_
  refine y_put (pc := 17) (Φ' := fun h => h = hset K a (.inr (1, [.int 0, .int 0, .int 0, .int 0, .ref b, .int (iv 0), .long 0, .long 0, .long 0, .int 0, .int 0, .int 0]))) C fp_X0_18 dX0_init_17 rfl rfl (fun h hh => ⟨_, (congrFun hh a).trans hset_s, Nat.le_of_ble_eq_true rfl, by rw [hh, hset_hset]; rfl⟩) ?_
  refine y_aload_n (pc := 20) C dX0_init_20 0 rfl ?_
  refine y_lconst (pc := 21) (z := 0) C dX0_init_21 (by decide) ?_
  refine y_put (pc := 22) (Φ' := fun h => h = hset K a (.inr (1, [.int 0, .int 0, .int 0, .int 0, .ref b, .int (iv 0), .long (jv 0), .long 0, .long 0, .int 0, .int 0, .int 0]))) C fp_X0_22 dX0_init_22 rfl rfl (fun h hh => ⟨_, (congrFun hh a).trans hset_s, Nat.le_of_ble_eq_true rfl, by rw [hh, hset_hset]; rfl⟩) ?_
  refine y_aload_n (pc := 25) C dX0_init_25 0 rfl ?_
  refine y_lconst (pc := 26) (z := 0) C dX0_init_26 (by decide) ?_
  refine y_put (pc := 27) (Φ' := fun h => h = hset K a (.inr (1, [.int 0, .int 0, .int 0, .int 0, .ref b, .int (iv 0), .long (jv 0), .long (jv 0), .long 0, .int 0, .int 0, .int 0]))) C fp_X0_26 dX0_init_27 rfl rfl (fun h hh => ⟨_, (congrFun hh a).trans hset_s, Nat.le_of_ble_eq_true rfl, by rw [hh, hset_hset]; rfl⟩) ?_
  refine y_aload_n (pc := 30) C dX0_init_30 0 rfl ?_
  refine y_lconst (pc := 31) (z := 0) C dX0_init_31 (by decide) ?_
  refine y_put (pc := 32) (Φ' := fun h => h = hset K a (.inr (1, [.int 0, .int 0, .int 0, .int 0, .ref b, .int (iv 0), .long (jv 0), .long (jv 0), .long (jv 0), .int 0, .int 0, .int 0]))) C fp_X0_29 dX0_init_32 rfl rfl (fun h hh => ⟨_, (congrFun hh a).trans hset_s, Nat.le_of_ble_eq_true rfl, by rw [hh, hset_hset]; rfl⟩) ?_
  refine y_aload_n (pc := 35) C dX0_init_35 0 rfl ?_
  refine y_iconst (pc := 36) C dX0_init_36 ?_
  refine y_put (pc := 37) (Φ' := fun h => h = hset K a (.inr (1, [.int 0, .int 0, .int 0, .int 0, .ref b, .int (iv 0), .long (jv 0), .long (jv 0), .long (jv 0), .int (iv 0), .int 0, .int 0]))) C fp_X0_32 dX0_init_37 rfl rfl (fun h hh => ⟨_, (congrFun hh a).trans hset_s, Nat.le_of_ble_eq_true rfl, by rw [hh, hset_hset]; rfl⟩) ?_
  refine y_aload_n (pc := 40) C dX0_init_40 0 rfl ?_
  refine y_iconst (pc := 41) C dX0_init_41 ?_
  refine y_put (pc := 42) (Φ' := fun h => h = hset K a (.inr (1, [.int 0, .int 0, .int 0, .int 0, .ref b, .int (iv 0), .long (jv 0), .long (jv 0), .long (jv 0), .int (iv 0), .int (iv 0), .int 0]))) C fp_X0_35 dX0_init_42 rfl rfl (fun h hh => ⟨_, (congrFun hh a).trans hset_s, Nat.le_of_ble_eq_true rfl, by rw [hh, hset_hset]; rfl⟩) ?_
  refine y_aload_n (pc := 45) C dX0_init_45 0 rfl ?_
  refine y_iconst (pc := 46) C dX0_init_46 ?_
  refine y_put (pc := 47) (Φ' := fun h => h = hset K a (.inr (1, [.int 0, .int 0, .int 0, .int 0, .ref b, .int (iv 0), .long (jv 0), .long (jv 0), .long (jv 0), .int (iv 0), .int (iv 0), .int (iv 0)]))) C fp_X0_38 dX0_init_47 rfl rfl (fun h hh => ⟨_, (congrFun hh a).trans hset_s, Nat.le_of_ble_eq_true rfl, by rw [hh, hset_hset]; rfl⟩) ?_
  refine y_aload_n (pc := 50) C dX0_init_50 0 rfl ?_
  refine y_iload_n (pc := 51) C dX0_init_51 1 rfl ?_
  refine y_putF (pc := 52) (Φ' := fun h => h = hset K a (.inr (1, [.int (iv v0), .int 0, .int 0, .int 0, .ref b, .int (iv 0), .long (jv 0), .long (jv 0), .long (jv 0), .int (iv 0), .int (iv 0), .int (iv 0)]))) C hi0 ff_X0_41 dX0_init_52 rfl rfl (fun h hh => ⟨_, (congrFun hh a).trans hset_s, Nat.le_of_ble_eq_true rfl, by rw [hh, hset_hset]; rfl⟩) ?_
  refine y_aload_n (pc := 55) C dX0_init_55 0 rfl ?_
  refine y_iload_n (pc := 56) C dX0_init_56 2 rfl ?_
  refine y_putF (pc := 57) (Φ' := fun h => h = hset K a (.inr (1, [.int (iv v0), .int (iv i0), .int 0, .int 0, .ref b, .int (iv 0), .long (jv 0), .long (jv 0), .long (jv 0), .int (iv 0), .int (iv 0), .int (iv 0)]))) C hi0 ff_X0_44 dX0_init_57 rfl rfl (fun h hh => ⟨_, (congrFun hh a).trans hset_s, Nat.le_of_ble_eq_true rfl, by rw [hh, hset_hset]; rfl⟩) ?_
  refine y_aload_n (pc := 60) C dX0_init_60 0 rfl ?_
  refine y_iload_n (pc := 61) C dX0_init_61 3 rfl ?_
  refine y_putF (pc := 62) (Φ' := fun h => h = hset K a (.inr (1, [.int (iv v0), .int (iv i0), .int (iv o0), .int 0, .ref b, .int (iv 0), .long (jv 0), .long (jv 0), .long (jv 0), .int (iv 0), .int (iv 0), .int (iv 0)]))) C hi0 ff_X0_47 dX0_init_62 rfl rfl (fun h hh => ⟨_, (congrFun hh a).trans hset_s, Nat.le_of_ble_eq_true rfl, by rw [hh, hset_hset]; rfl⟩) ?_
  refine y_aload_n (pc := 65) C dX0_init_65 0 rfl ?_
  refine y_iload (pc := 66) C dX0_init_66 4 rfl ?_
  refine y_putF (pc := 68) (Φ' := fun h => h = hset K a (.inr (1, [.int (iv v0), .int (iv i0), .int (iv o0), .int (iv r0), .ref b, .int (iv 0), .long (jv 0), .long (jv 0), .long (jv 0), .int (iv 0), .int (iv 0), .int (iv 0)]))) C hi0 ff_X0_50 dX0_init_68 rfl rfl (fun h hh => ⟨_, (congrFun hh a).trans hset_s, Nat.le_of_ble_eq_true rfl, by rw [hh, hset_hset]; rfl⟩) ?_
  exact y_vret (pc := 71) C E dX0_init_71 (by decide) (by decide) (fun h hh => ⟨rfl, b, v, h0b, h0v, hfr.2, f2, hba, hva, hvb, by rw [← hK]; exact hh⟩)

