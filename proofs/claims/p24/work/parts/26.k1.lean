set_option maxRecDepth 20000 in
theorem mc_floorMod {Ω : OmT} {hR : AH} {Φ : AH → Prop} (x : Int) (h1 : 0 ≤ x ∧ x < 2147483648) : Ct Ω yJ9_floorMod_7cf53 cJ9_floorMod_7cf53 3 (some FieldType.int) (rk 1) [.int (iv x), .int (iv 64)] (Φ) hR (RV (.int (iv (x % 64))) (Φ)) NX := by
  refine Ct.ofF (own := RJ9) (L := [(0, _), (1, _)]) (by decide +kernel) rfl (Nat.le_of_ble_eq_true rfl) rfl ?_
  intro κ C hn E hi
  refine y_iload_n (pc := 0) C dJ9_floorMod_7cf53_0 0 rfl ?_
  refine y_iload_n (pc := 1) C dJ9_floorMod_7cf53_1 1 rfl ?_
  refine y_irem (pc := 2) C dJ9_floorMod_7cf53_2 (by omega) (by omega) (by omega) (by omega) ?_
  refine y_istore_n (pc := 3) (L' := [(2, _), (0, _), (1, _)]) C dJ9_floorMod_7cf53_3 (by rw [hn]; decide) rfl ?_
  refine y_iload_n (pc := 4) C dJ9_floorMod_7cf53_4 1 rfl ?_
  refine y_iload_n (pc := 5) C dJ9_floorMod_7cf53_5 2 rfl ?_
  refine y_ixor (pc := 6) C dJ9_floorMod_7cf53_6 ?_
  refine y_ifr_ge (pc := 7) (tgt := 18) C dJ9_floorMod_7cf53_7 (by decide) (fun _ => ?_) (fun q => absurd (ixor_nn h1.1 h1.2 (by decide) (by decide)) q)
  refine y_iload_n (pc := 18) C dJ9_floorMod_7cf53_18 0 rfl ?_
  exact y_iret (pc := 19) C E dJ9_floorMod_7cf53_19 (by decide) (by decide) (fun h hh => ⟨rfl, hh⟩)

set_option maxRecDepth 20000 in
theorem mc_at {Ω : OmT} {hR : AH} {Φ : AH → Prop} (b v : Nat) (g : Nat → Int) (t : Nat) (ht : t < 2147483648) (hΦ : ∀ h, Φ h → h b = some (.inr (2, [.ref v])) ∧ h v = some (.inl (OmI Ω, 64, .inl (fun j => iv (g j))))) : Ct Ω yX1_at cX1_at 2 (some FieldType.int) (rk 2) [.ref b, .int (iv t)] (Φ) hR (RV (.int (iv (g (t % 64)))) (Φ)) NX := by
  refine Ct.of (own := RX1) (L := [(0, _), (1, _)]) (by decide +kernel) rfl (Nat.le_of_ble_eq_true rfl) rfl ?_
  intro κ C hn E hi
  refine y_aload_n (pc := 0) C dX1_at_0 0 rfl ?_
  refine y_get (pc := 1) C fg_X1_9 dX1_at_1 (fun h hh => ⟨_, (hΦ h hh).1, rfl⟩) ?_
  refine y_iload_n (pc := 4) C dX1_at_4 1 rfl ?_
  refine y_bipush (pc := 5) (z := 64) C dX1_at_5 (by decide) ?_
  refine y_callS (pc := 7) (As := [_, _]) C E.2.1 cs_X1_13 (mc_floorMod _ ⟨by omega, by omega⟩) rfl rfl (Nat.le_of_ble_eq_true rfl) ⟨by decide, by decide, by decide, by decide⟩ dX1_at_7 ⟨rfl, rfl⟩ ?_
  rw [show ((t : Int) % 64) = ((t % 64 : Nat) : Int) from rfl]
  refine y_iald (pc := 10) C dX1_at_10 (by omega) (by omega) (fun h hh => ⟨_, _, (hΦ h hh).2, by omega, rfl⟩) ?_
  exact y_iret (pc := 11) C E dX1_at_11 (by decide) (by decide) (fun h hh => ⟨rfl, hh⟩)

set_option maxRecDepth 20000 in
theorem mc_put {Ω : OmT} {hR : AH} {Φ Φ' : AH → Prop} (b v : Nat) (g : Nat → Int) (t : Nat) (u : Int) (ht : t < 2147483648) (hΦ : ∀ h, Φ h → h b = some (.inr (2, [.ref v])) ∧ h v = some (.inl (OmI Ω, 64, .inl (fun j => iv (g j))))) (hU : ∀ h, Φ h → Φ' (hset h v (.inl (OmI Ω, 64, .inl (upd (fun j => iv (g j)) (t % 64) (iv u)))))) : Ct Ω yX1_put cX1_put 5 (some FieldType.int) (rk 2) [.ref b, .int (iv t), .int (iv u)] (Φ) hR (RV (.int (iv (g (t % 64)))) (Φ')) NX := by
  refine Ct.of (own := RX1) (L := [(0, _), (1, _), (2, _)]) (by decide +kernel) rfl (Nat.le_of_ble_eq_true rfl) rfl ?_
  intro κ C hn E hi
  refine y_iload_n (pc := 0) C dX1_put_0 1 rfl ?_
  refine y_bipush (pc := 1) (z := 64) C dX1_put_1 (by decide) ?_
  refine y_callS (pc := 3) (As := [_, _]) C E.2.1 cs_X1_13 (mc_floorMod _ ⟨by omega, by omega⟩) rfl rfl (Nat.le_of_ble_eq_true rfl) ⟨by decide, by decide, by decide, by decide⟩ dX1_put_3 ⟨rfl, rfl⟩ ?_
  refine y_istore_n (pc := 6) (L' := [(3, _), (0, _), (1, _), (2, _)]) C dX1_put_6 (by rw [hn]; decide) rfl ?_
  rw [show ((t : Int) % 64) = ((t % 64 : Nat) : Int) from rfl]
  refine y_aload_n (pc := 7) C dX1_put_7 1 rfl ?_
  refine y_get (pc := 8) C fg_X1_9 dX1_put_8 (fun h hh => ⟨_, (hΦ h hh).1, rfl⟩) ?_
  refine y_iload_n (pc := 11) C dX1_put_11 0 rfl ?_
  refine y_iald (pc := 12) C dX1_put_12 (by omega) (by omega) (fun h hh => ⟨_, _, (hΦ h hh).2, by omega, rfl⟩) ?_
  refine y_istore (pc := 13) (L' := [(4, _), (3, _), (0, _), (1, _), (2, _)]) C dX1_put_13 (by rw [hn]; decide) rfl ?_
  refine y_aload_n (pc := 15) C dX1_put_15 2 rfl ?_
  refine y_get (pc := 16) C fg_X1_9 dX1_put_16 (fun h hh => ⟨_, (hΦ h hh).1, rfl⟩) ?_
  refine y_iload_n (pc := 19) C dX1_put_19 1 rfl ?_
  refine y_iload_n (pc := 20) C dX1_put_20 4 rfl ?_
  refine y_iast (pc := 21) (Φ' := Φ') C dX1_put_21 (by omega) (by omega) (fun h hh => ⟨_, _, (hΦ h hh).2, by omega, hU h hh⟩) ?_
  refine y_iload (pc := 22) C dX1_put_22 0 rfl ?_
  exact y_iret (pc := 24) C E dX1_put_24 (by decide) (by decide) (fun h hh => ⟨rfl, hh⟩)

set_option maxRecDepth 20000 in
theorem mc_room {Ω : OmT} {hR : AH} {lay : Nat → Nat → Nat} {ξ : XiT} {ms ns nc nl : Nat} {σ : ZT} {τ : JT} (k : Nat) (hk : k < ms) : Ct Ω yX3_room cX3_room 1 (some FieldType.int) (rk 1) [.ref (lay 1 k)] (InvC Ω lay ms ns nc nl ξ σ τ) hR (RV (.int (iv (roomZ σ k))) (InvC Ω lay ms ns nc nl ξ σ τ)) NX := by
  refine Ct.of (own := RX3) (L := [(0, _)]) (by decide +kernel) rfl (Nat.le_of_ble_eq_true rfl) rfl ?_
  intro κ C hn E hi
  refine y_aload_n (pc := 0) C dX3_room_0 0 rfl ?_
  refine y_get (pc := 1) C fg_X3_34 dX3_room_1 (fun h hh => ⟨_, hh.sto hk, rfl⟩) ?_
  refine y_aload_n (pc := 4) C dX3_room_4 0 rfl ?_
  refine y_get (pc := 5) C fg_X3_9 dX3_room_5 (fun h hh => ⟨_, hh.sto hk, rfl⟩) ?_
  refine y_isub (pc := 8) C dX3_room_8 ?_
  exact y_iret (pc := 9) C E dX3_room_9 (by decide) (by decide) (fun h hh => ⟨rfl, hh⟩)

set_option maxRecDepth 20000 in
theorem mc_leastGasFor {Ω : OmT} {hR : AH} {Φ : AH → Prop} (p r : Int) (h1 : 0 ≤ p ∧ p ≤ 1000) (h2 : 1 ≤ r ∧ r ≤ 100000) : Ct Ω yX3_leastGasFor cX3_leastGasFor 2 (some FieldType.int) (rk 1) [.int (iv p), .int (iv r)] (Φ) hR (RV (.int (iv (leastZ p r))) (Φ)) NX := by
  refine Ct.of (own := RX3) (L := [(0, _), (1, _)]) (by decide +kernel) rfl (Nat.le_of_ble_eq_true rfl) rfl ?_
  intro κ C hn E hi
  have hb := mz_b h1.1 h1.2 h2.1 h2.2
  refine y_iload_n (pc := 0) C dX3_leastGasFor_0 0 rfl ?_
  refine y_iload_n (pc := 1) C dX3_leastGasFor_1 1 rfl ?_
  refine y_imul (pc := 2) C dX3_leastGasFor_2 ?_
  refine y_bipush (pc := 3) (z := 99) C dX3_leastGasFor_3 (by decide) ?_
  refine y_iadd (pc := 5) C dX3_leastGasFor_5 ?_
  refine y_bipush (pc := 6) (z := 100) C dX3_leastGasFor_6 (by decide) ?_
  refine y_idivP (pc := 8) C dX3_leastGasFor_8 (by omega) (by omega) (by omega) (by omega) ?_
  exact y_iret (pc := 9) C E dX3_leastGasFor_9 (by decide) (by decide) (fun h hh => ⟨rfl, hh⟩)

set_option maxRecDepth 20000 in
theorem mc_mostGasFor {Ω : OmT} {hR : AH} {Φ : AH → Prop} (p r : Int) (h1 : 0 ≤ p ∧ p ≤ 1000) (h2 : 1 ≤ r ∧ r ≤ 100000) : Ct Ω yX3_mostGasFor cX3_mostGasFor 2 (some FieldType.int) (rk 1) [.int (iv p), .int (iv r)] (Φ) hR (RV (.int (iv (mostZ p r))) (Φ)) NX := by
  refine Ct.of (own := RX3) (L := [(0, _), (1, _)]) (by decide +kernel) rfl (Nat.le_of_ble_eq_true rfl) rfl ?_
  intro κ C hn E hi
  have hb := mz_b h1.1 h1.2 h2.1 h2.2
  refine y_iload_n (pc := 0) C dX3_mostGasFor_0 0 rfl ?_
  refine y_iload_n (pc := 1) C dX3_mostGasFor_1 1 rfl ?_
  refine y_imul (pc := 2) C dX3_mostGasFor_2 ?_
  refine y_bipush (pc := 3) (z := 100) C dX3_mostGasFor_3 (by decide) ?_
  refine y_idivP (pc := 5) C dX3_mostGasFor_5 (by omega) (by omega) (by omega) (by omega) ?_
  exact y_iret (pc := 6) C E dX3_mostGasFor_6 (by decide) (by decide) (fun h hh => ⟨rfl, hh⟩)

set_option maxRecDepth 20000 in
theorem mc_pressureNow {Ω : OmT} {hR : AH} {lay : Nat → Nat → Nat} {ξ : XiT} {ms ns nc nl : Nat} {σ : ZT} {τ : JT} (k : Nat) (hk : k < ms) (h2 : StO0 σ k) : Ct Ω yX3_pressureNow cX3_pressureNow 2 (some FieldType.int) (rk 2) [.ref (lay 1 k)] (InvC Ω lay ms ns nc nl ξ σ τ) hR (RV (.int (iv (pressZ σ k))) (InvC Ω lay ms ns nc nl ξ σ τ)) NX := by
  refine Ct.of (own := RX3) (L := [(0, _)]) (by decide +kernel) rfl (Nat.le_of_ble_eq_true rfl) rfl ?_
  intro κ C hn E hi
  have hr := st_room h2
  have hst := h2
  unfold StO0 at hst
  refine y_aload_n (pc := 0) C dX3_pressureNow_0 0 rfl ?_
  refine y_callV (pc := 1) (As := []) C E.2.1 cv_X3_46 (ci := 4) rfl rfl (mc_room _ hk) (fun h hh => ⟨_, hh.sto hk⟩) rfl rfl (Nat.le_of_ble_eq_true rfl) ⟨by decide, by decide, by decide, by decide⟩ dX3_pressureNow_1 ⟨rfl, rfl⟩ ?_
  refine y_istore_n (pc := 4) (L' := [(1, _), (0, _)]) C dX3_pressureNow_4 (by rw [hn]; decide) rfl ?_
  refine y_iload_n (pc := 5) C dX3_pressureNow_5 0 rfl ?_
  refine y_if_le (pc := 6) (tgt := 21) C dX3_pressureNow_6 (by decide) (by omega) (by omega) (fun c6 => ?_) (fun c6 => ?_)
  · exact absurd c6 (by omega)
  · skip
    refine y_bipush (pc := 9) (z := 100) C dX3_pressureNow_9 (by decide) ?_
    refine y_aload_n (pc := 11) C dX3_pressureNow_11 1 rfl ?_
    refine y_get (pc := 12) C fg_X3_15 dX3_pressureNow_12 (fun h hh => ⟨_, hh.sto hk, rfl⟩) ?_
    refine y_imul (pc := 15) C dX3_pressureNow_15 ?_
    refine y_iload_n (pc := 16) C dX3_pressureNow_16 0 rfl ?_
    refine y_idivP (pc := 17) C dX3_pressureNow_17 (by omega) (by omega) (by omega) (by omega) ?_
    refine y_goto (pc := 18) (tgt := 22) C dX3_pressureNow_18 (by decide) ?_
    exact y_iret (pc := 22) C E dX3_pressureNow_22 (by decide) (by decide) (fun h hh => ⟨rfl, hh⟩)

set_option maxRecDepth 20000 in
theorem mc_leastGas {Ω : OmT} {hR : AH} {lay : Nat → Nat → Nat} {ξ : XiT} {ms ns nc nl : Nat} {σ : ZT} {τ : JT} (k : Nat) (hk : k < ms) (h2 : StO0 σ k) : Ct Ω yX3_leastGas cX3_leastGas 1 (some FieldType.int) (rk 2) [.ref (lay 1 k)] (InvC Ω lay ms ns nc nl ξ σ τ) hR (RV (.int (iv (leastZ (σ 7 k) (roomZ σ k)))) (InvC Ω lay ms ns nc nl ξ σ τ)) NX := by
  refine Ct.of (own := RX3) (L := [(0, _)]) (by decide +kernel) rfl (Nat.le_of_ble_eq_true rfl) rfl ?_
  intro κ C hn E hi
  have hr := st_room h2
  have hst := h2
  unfold StO0 at hst
  refine y_aload_n (pc := 0) C dX3_leastGas_0 0 rfl ?_
  refine y_get (pc := 1) C fg_X3_37 dX3_leastGas_1 (fun h hh => ⟨_, hh.sto hk, rfl⟩) ?_
  refine y_aload_n (pc := 4) C dX3_leastGas_4 0 rfl ?_
  refine y_callV (pc := 5) (As := []) C E.2.1 cv_X3_46 (ci := 4) rfl rfl (mc_room _ hk) (fun h hh => ⟨_, hh.sto hk⟩) rfl rfl (Nat.le_of_ble_eq_true rfl) ⟨by decide, by decide, by decide, by decide⟩ dX3_leastGas_5 ⟨rfl, rfl⟩ ?_
  refine y_callS (pc := 8) (As := [_, _]) C E.2.1 cs_X3_50 (mc_leastGasFor _ _ ⟨by omega, by omega⟩ ⟨by omega, by omega⟩) rfl rfl (Nat.le_of_ble_eq_true rfl) ⟨by decide, by decide, by decide, by decide⟩ dX3_leastGas_8 ⟨rfl, rfl⟩ ?_
  exact y_iret (pc := 11) C E dX3_leastGas_11 (by decide) (by decide) (fun h hh => ⟨rfl, hh⟩)

set_option maxRecDepth 20000 in
theorem mc_mostGas {Ω : OmT} {hR : AH} {lay : Nat → Nat → Nat} {ξ : XiT} {ms ns nc nl : Nat} {σ : ZT} {τ : JT} (k : Nat) (hk : k < ms) (h2 : StO0 σ k) : Ct Ω yX3_mostGas cX3_mostGas 1 (some FieldType.int) (rk 2) [.ref (lay 1 k)] (InvC Ω lay ms ns nc nl ξ σ τ) hR (RV (.int (iv (mostZ (σ 8 k) (roomZ σ k)))) (InvC Ω lay ms ns nc nl ξ σ τ)) NX := by
  refine Ct.of (own := RX3) (L := [(0, _)]) (by decide +kernel) rfl (Nat.le_of_ble_eq_true rfl) rfl ?_
  intro κ C hn E hi
  have hr := st_room h2
  have hst := h2
  unfold StO0 at hst
  refine y_aload_n (pc := 0) C dX3_mostGas_0 0 rfl ?_
  refine y_get (pc := 1) C fg_X3_40 dX3_mostGas_1 (fun h hh => ⟨_, hh.sto hk, rfl⟩) ?_
  refine y_aload_n (pc := 4) C dX3_mostGas_4 0 rfl ?_
  refine y_callV (pc := 5) (As := []) C E.2.1 cv_X3_46 (ci := 4) rfl rfl (mc_room _ hk) (fun h hh => ⟨_, hh.sto hk⟩) rfl rfl (Nat.le_of_ble_eq_true rfl) ⟨by decide, by decide, by decide, by decide⟩ dX3_mostGas_5 ⟨rfl, rfl⟩ ?_
  refine y_callS (pc := 8) (As := [_, _]) C E.2.1 cs_X3_54 (mc_mostGasFor _ _ ⟨by omega, by omega⟩ ⟨by omega, by omega⟩) rfl rfl (Nat.le_of_ble_eq_true rfl) ⟨by decide, by decide, by decide, by decide⟩ dX3_mostGas_8 ⟨rfl, rfl⟩ ?_
  exact y_iret (pc := 11) C E dX3_mostGas_11 (by decide) (by decide) (fun h hh => ⟨rfl, hh⟩)

set_option maxRecDepth 20000 in
theorem mc_rateBy {Ω : OmT} {hR : AH} {lay : Nat → Nat → Nat} {ξ : XiT} {ms ns nc nl : Nat} {σ : ZT} {τ : JT} (k : Nat) (hk : k < ms) (d m : Int) (h1 : -1000 ≤ d ∧ d ≤ 1000) (h3 : -1000000 ≤ m ∧ m ≤ 1000000) (h2 : StO0 σ k) : Ct Ω yX3_rateBy cX3_rateBy 3 (some FieldType.int) (rk 2) [.ref (lay 1 k), .int (iv d), .int (iv m)] (InvC Ω lay ms ns nc nl ξ σ τ) hR (RV (.int (iv (max 0 (min ((σ 10 k * σ 11 k * d).tdiv 100) m)))) (InvC Ω lay ms ns nc nl ξ σ τ)) NX := by
  refine Ct.of (own := RX3) (L := [(0, _), (1, _), (2, _)]) (by decide +kernel) rfl (Nat.le_of_ble_eq_true rfl) rfl ?_
  intro κ C hn E hi
  have hst := h2
  unfold StO0 at hst
  have m1 := mulb (by omega : 0 ≤ σ 10 k) (by omega : σ 10 k ≤ 100) (by omega : 0 ≤ σ 11 k) (by omega : σ 11 k ≤ 1000)
  have m2 := mul_b (by omega : -(100 * 1000) ≤ σ 10 k * σ 11 k) m1.2 h1.1 h1.2
  have td : -1000000 ≤ (σ 10 k * σ 11 k * d).tdiv 100 ∧ (σ 10 k * σ 11 k * d).tdiv 100 ≤ 1000000 := (Int.le_total 0 (σ 10 k * σ 11 k * d)).elim (fun q => by rw [Int.tdiv_eq_ediv_of_nonneg q]; omega) (fun q => by have z := Int.neg_tdiv (σ 10 k * σ 11 k * d) 100; rw [Int.tdiv_eq_ediv_of_nonneg (by omega)] at z; omega)
  refine y_iconst (pc := 0) C dX3_rateBy_0 ?_
  refine y_aload_n (pc := 1) C dX3_rateBy_1 0 rfl ?_
  refine y_get (pc := 2) C fg_X3_22 dX3_rateBy_2 (fun h hh => ⟨_, hh.sto hk, rfl⟩) ?_
  refine y_aload_n (pc := 5) C dX3_rateBy_5 0 rfl ?_
  refine y_get (pc := 6) C fg_X3_25 dX3_rateBy_6 (fun h hh => ⟨_, hh.sto hk, rfl⟩) ?_
  refine y_imul (pc := 9) C dX3_rateBy_9 ?_
  refine y_iload_n (pc := 10) C dX3_rateBy_10 1 rfl ?_
  refine y_imul (pc := 11) C dX3_rateBy_11 ?_
  refine y_bipush (pc := 12) (z := 100) C dX3_rateBy_12 (by decide) ?_
  refine y_idiv (pc := 14) C dX3_rateBy_14 (by omega) (by omega) (by omega) (by omega) (by omega) ?_
  refine y_iload_n (pc := 15) C dX3_rateBy_15 2 rfl ?_
  refine y_min (pc := 16) C E.2.1 cs_X3_69.1 cs_X3_69.2.1 cs_X3_69.2.2.1 cs_X3_69.2.2.2.1 (by decide) (Nat.le_of_ble_eq_true rfl) (by decide) (by decide) (by omega) (by omega) (by omega) (by omega) dX3_rateBy_16 ?_
  refine y_max (pc := 19) C E.2.1 cs_X3_74.1 cs_X3_74.2.1 cs_X3_74.2.2.1 cs_X3_74.2.2.2.1 (by decide) (Nat.le_of_ble_eq_true rfl) (by decide) (by decide) (by omega) (by omega) (by omega) (by omega) dX3_rateBy_19 ?_
  exact y_iret (pc := 22) C E dX3_rateBy_22 (by decide) (by decide) (fun h hh => ⟨rfl, hh⟩)

set_option maxRecDepth 20000 in
theorem mc_rateIn {Ω : OmT} {hR : AH} {lay : Nat → Nat → Nat} {ξ : XiT} {ms ns nc nl : Nat} {σ : ZT} {τ : JT} (k : Nat) (hk : k < ms) (h2 : StOk σ k) : Ct Ω yX3_rateIn cX3_rateIn 1 (some FieldType.int) (rk 3) [.ref (lay 1 k)] (InvC Ω lay ms ns nc nl ξ σ τ) hR (RV (.int (iv (rateZ σ k true))) (InvC Ω lay ms ns nc nl ξ σ τ)) NX := by
  refine Ct.of (own := RX3) (L := [(0, _)]) (by decide +kernel) rfl (Nat.le_of_ble_eq_true rfl) rfl ?_
  intro κ C hn E hi
  have hr := st_room h2.1
  have hp := st_press h2
  have hmo := st_most h2.1
  have hle := st_least h2.1
  have hst := h2.1
  unfold StO0 at hst
  refine y_aload_n (pc := 0) C dX3_rateIn_0 0 rfl ?_
  refine y_aload_n (pc := 1) C dX3_rateIn_1 0 rfl ?_
  refine y_get (pc := 2) C fg_X3_40 dX3_rateIn_2 (fun h hh => ⟨_, hh.sto hk, rfl⟩) ?_
  refine y_aload_n (pc := 5) C dX3_rateIn_5 0 rfl ?_
  refine y_callV (pc := 6) (As := []) C E.2.1 cv_X3_57 (ci := 4) rfl rfl (mc_pressureNow _ hk h2.1) (fun h hh => ⟨_, hh.sto hk⟩) rfl rfl (Nat.le_of_ble_eq_true rfl) ⟨by decide, by decide, by decide, by decide⟩ dX3_rateIn_6 ⟨rfl, rfl⟩ ?_
  refine y_isub (pc := 9) C dX3_rateIn_9 ?_
  refine y_aload_n (pc := 10) C dX3_rateIn_10 0 rfl ?_
  refine y_callV (pc := 11) (As := []) C E.2.1 cv_X3_60 (ci := 4) rfl rfl (mc_mostGas _ hk h2.1) (fun h hh => ⟨_, hh.sto hk⟩) rfl rfl (Nat.le_of_ble_eq_true rfl) ⟨by decide, by decide, by decide, by decide⟩ dX3_rateIn_11 ⟨rfl, rfl⟩ ?_
  refine y_aload_n (pc := 14) C dX3_rateIn_14 0 rfl ?_
  refine y_get (pc := 15) C fg_X3_15 dX3_rateIn_15 (fun h hh => ⟨_, hh.sto hk, rfl⟩) ?_
  refine y_isub (pc := 18) C dX3_rateIn_18 ?_
  refine y_callV (pc := 19) (As := [_, _]) C E.2.1 cv_X3_63 (ci := 4) rfl rfl (mc_rateBy _ hk _ _ ⟨by omega, by omega⟩ ⟨by omega, by omega⟩ h2.1) (fun h hh => ⟨_, hh.sto hk⟩) rfl rfl (Nat.le_of_ble_eq_true rfl) ⟨by decide, by decide, by decide, by decide⟩ dX3_rateIn_19 ⟨rfl, rfl⟩ ?_
  exact y_iret (pc := 22) C E dX3_rateIn_22 (by decide) (by decide) (fun h hh => ⟨by rw [← rateBy_eq h2]; rfl, hh⟩)

set_option maxRecDepth 20000 in
theorem mc_rateOut {Ω : OmT} {hR : AH} {lay : Nat → Nat → Nat} {ξ : XiT} {ms ns nc nl : Nat} {σ : ZT} {τ : JT} (k : Nat) (hk : k < ms) (h2 : StOk σ k) : Ct Ω yX3_rateOut cX3_rateOut 1 (some FieldType.int) (rk 3) [.ref (lay 1 k)] (InvC Ω lay ms ns nc nl ξ σ τ) hR (RV (.int (iv (rateZ σ k false))) (InvC Ω lay ms ns nc nl ξ σ τ)) NX := by
  refine Ct.of (own := RX3) (L := [(0, _)]) (by decide +kernel) rfl (Nat.le_of_ble_eq_true rfl) rfl ?_
  intro κ C hn E hi
  have hr := st_room h2.1
  have hp := st_press h2
  have hmo := st_most h2.1
  have hle := st_least h2.1
  have hst := h2.1
  unfold StO0 at hst
  refine y_aload_n (pc := 0) C dX3_rateOut_0 0 rfl ?_
  refine y_aload_n (pc := 1) C dX3_rateOut_1 0 rfl ?_
  refine y_callV (pc := 2) (As := []) C E.2.1 cv_X3_57 (ci := 4) rfl rfl (mc_pressureNow _ hk h2.1) (fun h hh => ⟨_, hh.sto hk⟩) rfl rfl (Nat.le_of_ble_eq_true rfl) ⟨by decide, by decide, by decide, by decide⟩ dX3_rateOut_2 ⟨rfl, rfl⟩ ?_
  refine y_aload_n (pc := 5) C dX3_rateOut_5 0 rfl ?_
  refine y_get (pc := 6) C fg_X3_37 dX3_rateOut_6 (fun h hh => ⟨_, hh.sto hk, rfl⟩) ?_
  refine y_isub (pc := 9) C dX3_rateOut_9 ?_
  refine y_aload_n (pc := 10) C dX3_rateOut_10 0 rfl ?_
  refine y_get (pc := 11) C fg_X3_15 dX3_rateOut_11 (fun h hh => ⟨_, hh.sto hk, rfl⟩) ?_
  refine y_aload_n (pc := 14) C dX3_rateOut_14 0 rfl ?_
  refine y_callV (pc := 15) (As := []) C E.2.1 cv_X3_66 (ci := 4) rfl rfl (mc_leastGas _ hk h2.1) (fun h hh => ⟨_, hh.sto hk⟩) rfl rfl (Nat.le_of_ble_eq_true rfl) ⟨by decide, by decide, by decide, by decide⟩ dX3_rateOut_15 ⟨rfl, rfl⟩ ?_
  refine y_isub (pc := 18) C dX3_rateOut_18 ?_
  refine y_callV (pc := 19) (As := [_, _]) C E.2.1 cv_X3_63 (ci := 4) rfl rfl (mc_rateBy _ hk _ _ ⟨by omega, by omega⟩ ⟨by omega, by omega⟩ h2.1) (fun h hh => ⟨_, hh.sto hk⟩) rfl rfl (Nat.le_of_ble_eq_true rfl) ⟨by decide, by decide, by decide, by decide⟩ dX3_rateOut_19 ⟨rfl, rfl⟩ ?_
  exact y_iret (pc := 22) C E dX3_rateOut_22 (by decide) (by decide) (fun h hh => ⟨by rw [← rateBy_eq h2]; rfl, hh⟩)

set_option maxRecDepth 20000 in
theorem mc_takeIn {Ω : OmT} {hR : AH} {lay : Nat → Nat → Nat} {ξ : XiT} {ms ns nc nl : Nat} {σ : ZT} {τ : JT} (k : Nat) (hk : k < ms) (u e : Int) (h1 : -2147483648 ≤ u ∧ u < 2147483648) (h3 : -2147483648 ≤ e ∧ e < 2147483648) : Ct Ω yX3_takeIn cX3_takeIn 3 none (rk 1) [.ref (lay 1 k), .int (iv u), .int (iv e)] (InvC Ω lay ms ns nc nl ξ σ τ) hR (RU (InvC Ω lay ms ns nc nl ξ (zu σ 6 k (σ 6 k + u)) (ju τ 13 k (τ 13 k + jv (u * e))))) NX := by
  refine Ct.of (own := RX3) (L := [(0, _), (1, _), (2, _)]) (by decide +kernel) rfl (Nat.le_of_ble_eq_true rfl) rfl ?_
  intro κ C hn E hi
  refine y_aload_n (pc := 0) C dX3_takeIn_0 0 rfl ?_
  refine y_dup (pc := 1) C dX3_takeIn_1 rfl ?_
  refine y_get (pc := 2) C fg_X3_15 dX3_takeIn_2 (fun h hh => ⟨_, hh.sto hk, rfl⟩) ?_
  refine y_iload_n (pc := 5) C dX3_takeIn_5 1 rfl ?_
  refine y_iadd (pc := 6) C dX3_takeIn_6 ?_
  refine k_putS (pc := 7) C 6 6 rfl hk (by decide) (by decide) fp_X3_15 dX3_takeIn_7 ?_
  refine y_aload_n (pc := 10) C dX3_takeIn_10 0 rfl ?_
  refine y_dup (pc := 11) C dX3_takeIn_11 rfl ?_
  refine y_get (pc := 12) C fg_X3_18 dX3_takeIn_12 (fun h hh => ⟨_, hh.sto hk, rfl⟩) ?_
  refine y_iload_n (pc := 15) C dX3_takeIn_15 1 rfl ?_
  refine y_i2l (pc := 16) C dX3_takeIn_16 (by omega) (by omega) ?_
  refine y_iload_n (pc := 17) C dX3_takeIn_17 2 rfl ?_
  refine y_i2l (pc := 18) C dX3_takeIn_18 (by omega) (by omega) ?_
  refine y_lmul (pc := 19) C dX3_takeIn_19 ?_
  refine y_laddR (pc := 20) C dX3_takeIn_20 ?_
  refine k_putSJ (pc := 21) C hk fp_X3_18 dX3_takeIn_21 ?_
  exact y_vret (pc := 24) C E dX3_takeIn_24 (by decide) (by decide) (fun h hh => ⟨rfl, hh⟩)

set_option maxRecDepth 20000 in
theorem mc_giveAway {Ω : OmT} {hR : AH} {lay : Nat → Nat → Nat} {ξ : XiT} {ms ns nc nl : Nat} {σ : ZT} {τ : JT} (k : Nat) (hk : k < ms) (u : Int) (h1 : -2147483648 ≤ u ∧ u < 2147483648) (h3 : 0 ≤ σ 6 k ∧ σ 6 k < 2147483648) : Ct Ω yX3_giveAway cX3_giveAway 3 (some FieldType.int) (rk 2) [.ref (lay 1 k), .int (iv u)] (InvC Ω lay ms ns nc nl ξ σ τ) hR (RV (.int (iv (max 0 (min u (σ 6 k))))) (InvC Ω lay ms ns nc nl ξ ((losP k (max 0 (min u (σ 6 k))) (σ, τ)).1) ((losP k (max 0 (min u (σ 6 k))) (σ, τ)).2))) NX := by
  refine Ct.of (own := RX3) (L := [(0, _), (1, _)]) (by decide +kernel) rfl (Nat.le_of_ble_eq_true rfl) rfl ?_
  intro κ C hn E hi
  refine y_iload_n (pc := 0) C dX3_giveAway_0 1 rfl ?_
  refine y_aload_n (pc := 1) C dX3_giveAway_1 0 rfl ?_
  refine y_get (pc := 2) C fg_X3_15 dX3_giveAway_2 (fun h hh => ⟨_, hh.sto hk, rfl⟩) ?_
  refine y_min (pc := 5) C E.2.1 cs_X3_69.1 cs_X3_69.2.1 cs_X3_69.2.2.1 cs_X3_69.2.2.2.1 (by decide) (Nat.le_of_ble_eq_true rfl) (by decide) (by decide) (by omega) (by omega) (by omega) (by omega) dX3_giveAway_5 ?_
  refine y_istore_n (pc := 8) (L' := [(2, _), (0, _), (1, _)]) C dX3_giveAway_8 (by rw [hn]; decide) rfl ?_
  refine y_iload_n (pc := 9) C dX3_giveAway_9 0 rfl ?_
  refine y_if_gt (pc := 10) (tgt := 15) C dX3_giveAway_10 (by decide) (by omega) (by omega) (fun c10 => ?_) (fun c10 => ?_)
  · skip
    have hg : max 0 (min u (σ 6 k)) = min u (σ 6 k) := by omega
    refine y_aload_n (pc := 15) C dX3_giveAway_15 1 rfl ?_
    refine y_dup (pc := 16) C dX3_giveAway_16 rfl ?_
    refine y_get (pc := 17) C fg_X3_18 dX3_giveAway_17 (fun h hh => ⟨_, hh.sto hk, rfl⟩) ?_
    refine y_iload_n (pc := 20) C dX3_giveAway_20 0 rfl ?_
    refine y_i2l (pc := 21) C dX3_giveAway_21 (by omega) (by omega) ?_
    refine y_aload_n (pc := 22) C dX3_giveAway_22 1 rfl ?_
    refine y_get (pc := 23) C fg_X3_18 dX3_giveAway_23 (fun h hh => ⟨_, hh.sto hk, rfl⟩) ?_
    refine y_lmulR (pc := 26) C dX3_giveAway_26 ?_
    refine y_aload_n (pc := 27) C dX3_giveAway_27 1 rfl ?_
    refine y_get (pc := 28) C fg_X3_15 dX3_giveAway_28 (fun h hh => ⟨_, hh.sto hk, rfl⟩) ?_
    refine y_i2l (pc := 31) C dX3_giveAway_31 (by omega) (by omega) ?_
    refine y_ldivR (pc := 32) C dX3_giveAway_32 (fun q => absurd ((jv_eq (by omega) (by omega) (by decide) (by decide)).mp (q.trans jv_0.symm)) (by omega)) ?_
    refine y_lsubR (pc := 33) C dX3_giveAway_33 ?_
    refine k_putSJ (pc := 34) C hk fp_X3_18 dX3_giveAway_34 ?_
    refine y_aload_n (pc := 37) C dX3_giveAway_37 1 rfl ?_
    refine y_dup (pc := 38) C dX3_giveAway_38 rfl ?_
    refine y_get (pc := 39) C fg_X3_15 dX3_giveAway_39 (fun h hh => ⟨_, hh.sto hk, rfl⟩) ?_
    refine y_iload_n (pc := 42) C dX3_giveAway_42 0 rfl ?_
    refine y_isub (pc := 43) C dX3_giveAway_43 ?_
    refine k_putS (pc := 44) C 6 6 rfl hk (by decide) (by decide) fp_X3_15 dX3_giveAway_44 ?_
    refine y_iload_n (pc := 47) C dX3_giveAway_47 0 rfl ?_
    exact y_iret (pc := 48) C E dX3_giveAway_48 (by decide) (by decide) (fun h hh => ⟨by rw [hg], by rw [hg, show losP k (min u (σ 6 k)) (σ, τ) = (zu σ 6 k (σ 6 k - min u (σ 6 k)), ju τ 13 k (τ 13 k - jv (min u (σ 6 k)) * τ 13 k / jv (σ 6 k))) from by unfold losP lossJ; rw [if_neg (by show ¬ σ 6 k = 0; omega)]]; exact hh⟩)
  · skip
    refine y_iconst (pc := 13) C dX3_giveAway_13 ?_
    exact y_iret (pc := 14) C E dX3_giveAway_14 (by decide) (by decide) (fun h hh => ⟨by rw [show max 0 (min u (σ 6 k)) = 0 by omega], by rw [show max 0 (min u (σ 6 k)) = 0 by omega, losP_0]; exact hh⟩)

