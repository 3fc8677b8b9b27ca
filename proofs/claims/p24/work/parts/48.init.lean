/-! the house is made -/
def ξi : XiT := (fun _ => 0, -1000, -1000)
set_option maxRecDepth 20000 in
theorem mg_init {Ω : OmT} {hR : AH} (h0 : AH) (x : Nat) : Ct Ω yX4_init cX4_init 1 none (rkc 6 5 74) [.ref x] (fun h => h = hset h0 x (.inr (5, [.null, .null, .null, .null, .int 0, .int 0, .int 0, .int 0, .long 0, .long 0, .long 0]))) hR (RU (fun h => ∃ lay, lay 0 0 = x ∧ LaO Ω lay ∧ InvC Ω lay 0 0 0 0 ξi σi τi h)) NX := by
  refine Ct.of (own := RX4) (L := [(0, _)]) (by decide +kernel) rfl (Nat.le_of_ble_eq_true rfl) rfl ?_
  intro κ C hn E hi
  have hi0 := hi rfl
  refine y_aload_n (pc := 0) C dX4_init_0 0 rfl ?_
  refine y_objI (pc := 1) C E.2.1 aw_1_26 aw_1_27 aw_1_28 (by decide) (by decide) dX4_init_1 ?_
  refine y_aload_n (pc := 4) C dX4_init_4 0 rfl ?_
  refine y_new (pc := 5) C fn_X4_7 dX4_init_5 (by rw [E.2.1]; decide) (by rw [E.2.1]; decide) (fun a1 => ?_)
  refine Y.imp (Φ' := fun h => (hset h0 x (.inr (5, [.null, .null, .null, .null, .int 0, .int 0, .int 0, .int 0, .long 0, .long 0, .long 0]))) a1 = none ∧ h = hset (hset h0 x (.inr (5, [.null, .null, .null, .null, .int 0, .int 0, .int 0, .int 0, .long 0, .long 0, .long 0]))) a1 (.inr (0, [.int 0, .null, .int 0]))) (fun h ⟨h', e1, e2, e3, e4⟩ => by subst e1; exact ⟨e2, e4⟩) ?_
  refine Y.and (fun f1 => ?_)
  have x1 : a1 ≠ x := fun q => by rw [q, hset_s] at f1; cases f1
  have n1 : h0 a1 = none := by rw [hset_n x1] at f1; exact f1
  refine y_dup (pc := 8) C dX4_init_8 rfl ?_
  refine y_callI (pc := 9) (As := []) C E.2.1 ci_X4_9 (mc_list (hset h0 x (.inr (5, [.null, .null, .null, .null, .int 0, .int 0, .int 0, .int 0, .long 0, .long 0, .long 0]))) a1) rfl rfl (Nat.le_of_ble_eq_true rfl) ⟨by decide, by decide, by decide, by decide⟩ dX4_init_9 ⟨rfl, rfl⟩ ?_
  obtain ⟨K1, hK1⟩ : ∃ K, K = hset h0 a1 (lO (iv 0) (OmE Ω) 0) := ⟨_, rfl⟩
  refine Y.imp (Φ' := fun h => h = hset K1 x (.inr (5, [.null, .null, .null, .null, .int 0, .int 0, .int 0, .int 0, .long 0, .long 0, .long 0]))) (fun h hh => by rw [hh, hK1, hset_cm (a := x) (b := a1) (fun q => x1 q.symm)]) ?_
  refine y_putF (pc := 12) (Φ' := fun h => h = hset K1 x (.inr (5, [.ref a1, .null, .null, .null, .int 0, .int 0, .int 0, .int 0, .long 0, .long 0, .long 0]))) C hi0 ff_X4_10 dX4_init_12 rfl rfl (fun h hh => ⟨_, (congrFun hh x).trans hset_s, Nat.le_of_ble_eq_true rfl, by rw [hh, hset_hset]; rfl⟩) ?_
  refine y_aload_n (pc := 15) C dX4_init_15 0 rfl ?_
  refine y_new (pc := 16) C fn_X4_7 dX4_init_16 (by rw [E.2.1]; decide) (by rw [E.2.1]; decide) (fun a2 => ?_)
  refine Y.imp (Φ' := fun h => (hset K1 x (.inr (5, [.ref a1, .null, .null, .null, .int 0, .int 0, .int 0, .int 0, .long 0, .long 0, .long 0]))) a2 = none ∧ h = hset (hset K1 x (.inr (5, [.ref a1, .null, .null, .null, .int 0, .int 0, .int 0, .int 0, .long 0, .long 0, .long 0]))) a2 (.inr (0, [.int 0, .null, .int 0]))) (fun h ⟨h', e1, e2, e3, e4⟩ => by subst e1; exact ⟨e2, e4⟩) ?_
  refine Y.and (fun f2 => ?_)
  have x2 : a2 ≠ x := fun q => by rw [q, hset_s] at f2; cases f2
  have n2 : K1 a2 = none := by rw [hset_n x2] at f2; exact f2
  refine y_dup (pc := 19) C dX4_init_19 rfl ?_
  refine y_callI (pc := 20) (As := []) C E.2.1 ci_X4_9 (mc_list (hset K1 x (.inr (5, [.ref a1, .null, .null, .null, .int 0, .int 0, .int 0, .int 0, .long 0, .long 0, .long 0]))) a2) rfl rfl (Nat.le_of_ble_eq_true rfl) ⟨by decide, by decide, by decide, by decide⟩ dX4_init_20 ⟨rfl, rfl⟩ ?_
  obtain ⟨K2, hK2⟩ : ∃ K, K = hset K1 a2 (lO (iv 0) (OmE Ω) 0) := ⟨_, rfl⟩
  refine Y.imp (Φ' := fun h => h = hset K2 x (.inr (5, [.ref a1, .null, .null, .null, .int 0, .int 0, .int 0, .int 0, .long 0, .long 0, .long 0]))) (fun h hh => by rw [hh, hK2, hset_cm (a := x) (b := a2) (fun q => x2 q.symm)]) ?_
  refine y_putF (pc := 23) (Φ' := fun h => h = hset K2 x (.inr (5, [.ref a1, .ref a2, .null, .null, .int 0, .int 0, .int 0, .int 0, .long 0, .long 0, .long 0]))) C hi0 ff_X4_16 dX4_init_23 rfl rfl (fun h hh => ⟨_, (congrFun hh x).trans hset_s, Nat.le_of_ble_eq_true rfl, by rw [hh, hset_hset]; rfl⟩) ?_
  refine y_aload_n (pc := 26) C dX4_init_26 0 rfl ?_
  refine y_new (pc := 27) C fn_X4_7 dX4_init_27 (by rw [E.2.1]; decide) (by rw [E.2.1]; decide) (fun a3 => ?_)
  refine Y.imp (Φ' := fun h => (hset K2 x (.inr (5, [.ref a1, .ref a2, .null, .null, .int 0, .int 0, .int 0, .int 0, .long 0, .long 0, .long 0]))) a3 = none ∧ h = hset (hset K2 x (.inr (5, [.ref a1, .ref a2, .null, .null, .int 0, .int 0, .int 0, .int 0, .long 0, .long 0, .long 0]))) a3 (.inr (0, [.int 0, .null, .int 0]))) (fun h ⟨h', e1, e2, e3, e4⟩ => by subst e1; exact ⟨e2, e4⟩) ?_
  refine Y.and (fun f3 => ?_)
  have x3 : a3 ≠ x := fun q => by rw [q, hset_s] at f3; cases f3
  have n3 : K2 a3 = none := by rw [hset_n x3] at f3; exact f3
  refine y_dup (pc := 30) C dX4_init_30 rfl ?_
  refine y_callI (pc := 31) (As := []) C E.2.1 ci_X4_9 (mc_list (hset K2 x (.inr (5, [.ref a1, .ref a2, .null, .null, .int 0, .int 0, .int 0, .int 0, .long 0, .long 0, .long 0]))) a3) rfl rfl (Nat.le_of_ble_eq_true rfl) ⟨by decide, by decide, by decide, by decide⟩ dX4_init_31 ⟨rfl, rfl⟩ ?_
  obtain ⟨K3, hK3⟩ : ∃ K, K = hset K2 a3 (lO (iv 0) (OmE Ω) 0) := ⟨_, rfl⟩
  refine Y.imp (Φ' := fun h => h = hset K3 x (.inr (5, [.ref a1, .ref a2, .null, .null, .int 0, .int 0, .int 0, .int 0, .long 0, .long 0, .long 0]))) (fun h hh => by rw [hh, hK3, hset_cm (a := x) (b := a3) (fun q => x3 q.symm)]) ?_
  refine y_putF (pc := 34) (Φ' := fun h => h = hset K3 x (.inr (5, [.ref a1, .ref a2, .ref a3, .null, .int 0, .int 0, .int 0, .int 0, .long 0, .long 0, .long 0]))) C hi0 ff_X4_19 dX4_init_34 rfl rfl (fun h hh => ⟨_, (congrFun hh x).trans hset_s, Nat.le_of_ble_eq_true rfl, by rw [hh, hset_hset]; rfl⟩) ?_
  refine y_aload_n (pc := 37) C dX4_init_37 0 rfl ?_
  refine y_new (pc := 38) C fn_X4_22 dX4_init_38 (by rw [E.2.1]; decide) (by rw [E.2.1]; decide) (fun b => ?_)
  refine Y.imp (Φ' := fun h => (hset K3 x (.inr (5, [.ref a1, .ref a2, .ref a3, .null, .int 0, .int 0, .int 0, .int 0, .long 0, .long 0, .long 0]))) b = none ∧ h = hset (hset K3 x (.inr (5, [.ref a1, .ref a2, .ref a3, .null, .int 0, .int 0, .int 0, .int 0, .long 0, .long 0, .long 0]))) b (.inr (2, [.null]))) (fun h ⟨h', e1, e2, e3, e4⟩ => by subst e1; exact ⟨e2, e4⟩) ?_
  refine Y.and (fun f4 => ?_)
  have x4 : b ≠ x := fun q => by rw [q, hset_s] at f4; cases f4
  have n4 : K3 b = none := by rw [hset_n x4] at f4; exact f4
  refine y_dup (pc := 41) C dX4_init_41 rfl ?_
  refine y_callN (pc := 42) (As := []) C E.2.1 cn_X4_24 (mc_hinit (hset K3 x (.inr (5, [.ref a1, .ref a2, .ref a3, .null, .int 0, .int 0, .int 0, .int 0, .long 0, .long 0, .long 0]))) b) rfl rfl (Nat.le_of_ble_eq_true rfl) ⟨by decide, by decide, by decide, by decide⟩ dX4_init_42 ⟨rfl, rfl⟩ ?_
  refine Y.ex fun v => Y.and fun f5 => Y.and fun _ => Y.and fun hvb => ?_
  have x5 : v ≠ x := fun q => by rw [q, hset_s] at f5; cases f5
  have n5 : K3 v = none := by rw [hset_n x5] at f5; exact f5
  obtain ⟨K4, hK4⟩ : ∃ K, K = hset (hset K3 v (i64 Ω)) b (.inr (2, [.ref v])) := ⟨_, rfl⟩
  refine Y.imp (Φ' := fun h => h = hset K4 x (.inr (5, [.ref a1, .ref a2, .ref a3, .null, .int 0, .int 0, .int 0, .int 0, .long 0, .long 0, .long 0]))) (fun h hh => by rw [hh, hK4, hset_cm (a := x) (b := v) (fun q => x5 q.symm), hset_cm (a := x) (b := b) (fun q => x4 q.symm)]) ?_
  refine y_putF (pc := 45) (Φ' := fun h => h = hset K4 x (.inr (5, [.ref a1, .ref a2, .ref a3, .ref b, .int 0, .int 0, .int 0, .int 0, .long 0, .long 0, .long 0]))) C hi0 ff_X4_25 dX4_init_45 rfl rfl (fun h hh => ⟨_, (congrFun hh x).trans hset_s, Nat.le_of_ble_eq_true rfl, by rw [hh, hset_hset]; rfl⟩) ?_
  refine y_aload_n (pc := 48) C dX4_init_48 0 rfl ?_
  refine y_iconst (pc := 49) C dX4_init_49 ?_
  refine y_put (pc := 50) (Φ' := fun h => h = hset K4 x (.inr (5, [.ref a1, .ref a2, .ref a3, .ref b, .int (iv 0), .int 0, .int 0, .int 0, .long 0, .long 0, .long 0]))) C fp_X4_29 dX4_init_50 rfl rfl (fun h hh => ⟨_, (congrFun hh x).trans hset_s, Nat.le_of_ble_eq_true rfl, by rw [hh, hset_hset]; rfl⟩) ?_
  refine y_aload_n (pc := 53) C dX4_init_53 0 rfl ?_
  refine y_sipush (pc := 54) (z := 10000) C dX4_init_54 (by decide) ?_
  refine y_put (pc := 57) (Φ' := fun h => h = hset K4 x (.inr (5, [.ref a1, .ref a2, .ref a3, .ref b, .int (iv 0), .int (iv 10000), .int 0, .int 0, .long 0, .long 0, .long 0]))) C fp_X4_33 dX4_init_57 rfl rfl (fun h hh => ⟨_, (congrFun hh x).trans hset_s, Nat.le_of_ble_eq_true rfl, by rw [hh, hset_hset]; rfl⟩) ?_
  refine y_aload_n (pc := 60) C dX4_init_60 0 rfl ?_
  refine y_sipush (pc := 61) (z := (-1000)) C dX4_init_61 (by decide) ?_
  refine y_put (pc := 64) (Φ' := fun h => h = hset K4 x (.inr (5, [.ref a1, .ref a2, .ref a3, .ref b, .int (iv 0), .int (iv 10000), .int (iv (-1000)), .int 0, .long 0, .long 0, .long 0]))) C fp_X4_36 dX4_init_64 rfl rfl (fun h hh => ⟨_, (congrFun hh x).trans hset_s, Nat.le_of_ble_eq_true rfl, by rw [hh, hset_hset]; rfl⟩) ?_
  refine y_aload_n (pc := 67) C dX4_init_67 0 rfl ?_
  refine y_sipush (pc := 68) (z := (-1000)) C dX4_init_68 (by decide) ?_
  refine y_put (pc := 71) (Φ' := fun h => h = hset K4 x (.inr (5, [.ref a1, .ref a2, .ref a3, .ref b, .int (iv 0), .int (iv 10000), .int (iv (-1000)), .int (iv (-1000)), .long 0, .long 0, .long 0]))) C fp_X4_39 dX4_init_71 rfl rfl (fun h hh => ⟨_, (congrFun hh x).trans hset_s, Nat.le_of_ble_eq_true rfl, by rw [hh, hset_hset]; rfl⟩) ?_
  refine y_aload_n (pc := 74) C dX4_init_74 0 rfl ?_
  refine y_lconst (pc := 75) (z := 0) C dX4_init_75 (by decide) ?_
  refine y_put (pc := 76) (Φ' := fun h => h = hset K4 x (.inr (5, [.ref a1, .ref a2, .ref a3, .ref b, .int (iv 0), .int (iv 10000), .int (iv (-1000)), .int (iv (-1000)), .long (jv 0), .long 0, .long 0]))) C fp_X4_42 dX4_init_76 rfl rfl (fun h hh => ⟨_, (congrFun hh x).trans hset_s, Nat.le_of_ble_eq_true rfl, by rw [hh, hset_hset]; rfl⟩) ?_
  refine y_aload_n (pc := 79) C dX4_init_79 0 rfl ?_
  refine y_lconst (pc := 80) (z := 0) C dX4_init_80 (by decide) ?_
  refine y_put (pc := 81) (Φ' := fun h => h = hset K4 x (.inr (5, [.ref a1, .ref a2, .ref a3, .ref b, .int (iv 0), .int (iv 10000), .int (iv (-1000)), .int (iv (-1000)), .long (jv 0), .long (jv 0), .long 0]))) C fp_X4_46 dX4_init_81 rfl rfl (fun h hh => ⟨_, (congrFun hh x).trans hset_s, Nat.le_of_ble_eq_true rfl, by rw [hh, hset_hset]; rfl⟩) ?_
  refine y_aload_n (pc := 84) C dX4_init_84 0 rfl ?_
  refine y_lconst (pc := 85) (z := 0) C dX4_init_85 (by decide) ?_
  refine y_put (pc := 86) (Φ' := fun h => h = hset K4 x (.inr (5, [.ref a1, .ref a2, .ref a3, .ref b, .int (iv 0), .int (iv 10000), .int (iv (-1000)), .int (iv (-1000)), .long (jv 0), .long (jv 0), .long (jv 0)]))) C fp_X4_49 dX4_init_86 rfl rfl (fun h hh => ⟨_, (congrFun hh x).trans hset_s, Nat.le_of_ble_eq_true rfl, by rw [hh, hset_hset]; rfl⟩) ?_
  have k1 : K1 a1 = some (lO (iv 0) (OmE Ω) 0) := by rw [hK1, hset_s]
  have k2 : K2 a1 = some (lO (iv 0) (OmE Ω) 0) ∧ K2 a2 = some (lO (iv 0) (OmE Ω) 0) := by rw [hK2, hset_n (nn_of k1 n2), hset_s]; exact ⟨k1, rfl⟩
  have k3 : K3 a1 = some (lO (iv 0) (OmE Ω) 0) ∧ K3 a2 = some (lO (iv 0) (OmE Ω) 0) ∧ K3 a3 = some (lO (iv 0) (OmE Ω) 0) := by rw [hK3, hset_n (nn_of k2.1 n3), hset_n (nn_of k2.2 n3), hset_s]; exact ⟨k2.1, k2.2, rfl⟩
  have kp : ∀ {p : Nat} {y : va_E}, K3 p = some y → K4 p = some y := fun hp => by rw [hK4, hset_n (nn_of hp n4), hset_n (nn_of hp n5)]; exact hp
  have lc : ∀ {p : Nat} (el : Nat → Nat), p ≠ x → K3 p = some (lO (iv 0) (OmE Ω) 0) → LiC Ω p (OmE Ω) 0 el (hset K4 x (.inr (5, [.ref a1, .ref a2, .ref a3, .ref b, .int (iv 0), .int (iv 10000), .int (iv (-1000)), .int (iv (-1000)), .long (jv 0), .long (jv 0), .long (jv 0)]))) := fun {p} el hpx hp => ⟨iv 0, 0, fun _ => none, by rw [hset_n hpx]; exact kp hp, Or.inl ⟨rfl, rfl⟩⟩
  exact y_vret (pc := 89) C E dX4_init_89 (by decide) (by decide) (fun h hh => ⟨rfl, fun p j => if p = 0 then (if j = 0 then x else if j = 1 then a1 else if j = 2 then a2 else if j = 3 then a3 else if j = 4 then b else v) else OmE Ω, rfl, ⟨nn_of k1 n2, nn_of k2.1 n3, nn_of k2.2 n3, fun _ => rfl, fun _ => rfl, fun _ => rfl⟩, by rw [hh]; exact ⟨by rw [show (fun p j : Nat => if p = 0 then (if j = 0 then x else if j = 1 then a1 else if j = 2 then a2 else if j = 3 then a3 else if j = 4 then b else v) else OmE Ω) 0 0 = x from rfl, hset_s]; rfl, lc _ x1 k3.1, lc _ x2 k3.2.1, lc _ x3 k3.2.2, by show hset K4 x _ b = _; rw [hset_n x4, hK4, hset_s]; rfl, by show hset K4 x _ v = _; rw [hset_n x5, hK4, hset_n hvb, hset_s]; unfold i64; rw [← iv_0]; rfl, fun i hi => absurd hi (by omega), fun i hi => absurd hi (by omega), fun i hi => absurd hi (by omega), fun i hi => absurd hi (by omega), fun i hi => absurd hi (by omega), fun i j hi => absurd hi (by omega), fun i j hi => absurd hi (by omega), fun i j hi => absurd hi (by omega), fun i hi => absurd hi (by omega)⟩⟩)

