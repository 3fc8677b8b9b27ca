/-! the calls as the law makes them -/

theorem y_i2lR {Ω : OmT} {κ : KxT} {Φ : AH → Prop} {hR : AH} {cs sl pc : Nat} {L : List (Nat × Value)} {st : List Value} {own : String} {cc : ByteArray} (C : Cx Ω κ own cc) {x : Int32} (dg : decode cc pc = .ok (.i2l, 1)) (k : Y Ω κ Φ hR cs sl (pc + 1) L (.long x.toInt64 :: st)) : Y Ω κ Φ hR cs sl pc L (.int x :: st) := fun h H locs ls a b c d => lv_i2l C.1 C.2.1 dg rfl (k h H locs ls a b c d)

set_option maxRecDepth 20000 in
theorem wl_store {Ω : OmT} {hR : AH} {lay : Nat → Nat → Nat} {ξ : XiT} {ns nc nl : Nat} {σ : ZT} {τ : JT} (hwf : Wf σ ns nc nl) (hms : ns ≤ ns) (hlo : LaO Ω lay) (hbl : Bl σ τ ns nc) (k : Int) (h_k : -2147483648 ≤ k ∧ k < 2147483648) (v : Int) (h_v : -2147483648 ≤ v ∧ v < 2147483648) (g : Int) (h_g : -2147483648 ≤ g ∧ g < 2147483648) (lo : Int) (h_lo : -2147483648 ≤ lo ∧ lo < 2147483648) (gr : Int) (h_gr : -2147483648 ≤ gr ∧ gr < 2147483648) (m : Int) (h_m : -2147483648 ≤ m ∧ m < 2147483648)  (o : Nat) (f : Nat → Int64) : CtH Ω yL_store cL_store 9 (some .int) [(0, 18, 21, 13), (0, 18, 25, 15)] (rkc 12 2 60) [.ref (lay 0 0), .int (iv k), .int (iv v), .int (iv g), .int (iv lo), .int (iv gr), .int (iv m), .ref o] (OnO Ω o f (InvC Ω lay ns ns nc nl ξ σ τ)) hR (WR Ω o f (stK σ k v g lo gr m) ((iv (σ 2 0 + 1 - 1)).toInt64) (fun h => ∃ lay2, lay2 0 0 = lay 0 0 ∧ LaO Ω lay2 ∧ InvC Ω lay2 (ns + 1) (ns + 1) nc nl ξ ((stS ns k v g lo gr m (σ, τ)).1) ((stS ns k v g lo gr m (σ, τ)).2) h) (InvC Ω lay ns ns nc nl ξ σ τ)) := by
  refine CtH.of (own := RL) (L := [(0, _), (1, _), (2, _), (3, _), (4, _), (5, _), (6, _), (7, _)]) (by decide +kernel) rfl (Nat.le_of_ble_eq_true rfl) rfl ?_
  intro κ C hn E
  refine y_aload (pc := 0) C dL_store_0 7 rfl ?_
  refine y_iconst (pc := 2) C dL_store_2 ?_
  refine y_aload_n (pc := 3) C dL_store_3 0 rfl ?_
  refine y_iload_n (pc := 4) C dL_store_4 1 rfl ?_
  refine y_iload_n (pc := 5) C dL_store_5 2 rfl ?_
  refine y_iload_n (pc := 6) C dL_store_6 3 rfl ?_
  refine y_iload (pc := 7) C dL_store_7 4 rfl ?_
  refine y_iload (pc := 9) C dL_store_9 5 rfl ?_
  refine y_iload (pc := 11) C dL_store_11 6 rfl ?_
  refine y_callVX (pc := 13) (As := [_, _, _, _, _, _]) C E.2.1 cv_L_7 (ci := 5) rfl rfl (Ct.frame1 (x := oO Ω f) (mg_store hwf hms k h_k v h_v g h_g lo h_lo gr h_gr m h_m hlo hbl)) (fun h9 ⟨h1, q1, q2, q3⟩ => ⟨_, (congrFun q3 _).trans ((hset_n (nn_of q1.gas q2)).trans q1.gas)⟩) rfl rfl (Nat.le_of_ble_eq_true rfl) ⟨by decide, by decide, by decide, by decide⟩ dL_store_13 (fun rv => Y.imp (fun h hh => wr_ok hh) ?_) (fun E0 => YX.imp (fun h hh => wr_x2 hh) ?_)
  · refine Y.and fun hK => Y.and fun er => ?_
    subst er
    refine y_i2lR (pc := 16) C dL_store_16 ?_
    refine y_last (pc := 17) (Φ' := OnO Ω o (vp_updL f 0 _) (fun h => ∃ lay2, lay2 0 0 = lay 0 0 ∧ LaO Ω lay2 ∧ InvC Ω lay2 (ns + 1) (ns + 1) nc nl ξ ((stS ns k v g lo gr m (σ, τ)).1) ((stS ns k v g lo gr m (σ, τ)).2) h)) C dL_store_17 (by decide) (by decide) (fun h hh => ⟨1, f, (ono_at (v := 0) hh).1, by decide, (ono_at hh).2⟩) ?_
    refine y_goto (pc := 18) (tgt := 29) C dL_store_18 (by decide) ?_
    refine y_iconst (pc := 29) C dL_store_29 ?_
    exact y_iretH (pc := 30) C E dL_store_30 (by decide) (by decide) (fun h hh => ⟨by rw [hK], Or.inl ⟨hK, hh⟩⟩)
  · refine YX.or ?_ ?_
    · refine YX.and fun eE => YX.and fun hK => ?_
      subst eE
      refine y_catch (pc := 13) C E [] ⟨0, 18, 21, 13⟩ [⟨0, 18, 25, 15⟩] rfl (fun z hz => by cases hz) (by decide) (by decide) aw_1_104 (nw_in nw_1_123 rfl) (fun q => ?_)
      refine y_astore (pc := 21) (L' := [(8, _), (0, _), (1, _), (2, _), (3, _), (4, _), (5, _), (6, _), (7, _)]) C dL_store_21 (by rw [hn]; decide) rfl ?_
      refine y_iconst (pc := 23) C dL_store_23 ?_
      exact y_iretH (pc := 24) C E dL_store_24 (by decide) (by decide) (fun h hh => ⟨by rw [hK], Or.inr ⟨by rw [hK]; decide, hh⟩⟩)
    · refine YX.and fun eE => YX.and fun hK => ?_
      subst eE
      refine y_catch (pc := 13) C E [⟨0, 18, 21, 13⟩] ⟨0, 18, 25, 15⟩ [] rfl (fun z hz => by rw [List.mem_singleton] at hz; subst hz; exact Or.inr ⟨by decide, _, aw_1_104, by decide⟩) (by decide) (by decide) aw_1_105 (nw_in nw_1_195 rfl) (fun q => ?_)
      refine y_astore (pc := 25) (L' := [(8, _), (0, _), (1, _), (2, _), (3, _), (4, _), (5, _), (6, _), (7, _)]) C dL_store_25 (by rw [hn]; decide) rfl ?_
      refine y_iconst (pc := 27) C dL_store_27 ?_
      exact y_iretH (pc := 28) C E dL_store_28 (by decide) (by decide) (fun h hh => ⟨by rw [hK], Or.inr ⟨by rw [hK]; decide, hh⟩⟩)

set_option maxRecDepth 20000 in
theorem wl_wells {Ω : OmT} {hR : AH} {lay : Nat → Nat → Nat} {ξ : XiT} {ms ns nc nl : Nat} {σ : ZT} {τ : JT} (hwf : Wf σ ns nc nl) (hms : ns ≤ ms) (x : Int) (h_x : -2147483648 ≤ x ∧ x < 2147483648) (a : Int) (h_a : -2147483648 ≤ a ∧ a < 2147483648) (b : Int) (h_b : -2147483648 ≤ b ∧ b < 2147483648)  (o : Nat) (f : Nat → Int64) : CtH Ω yL_wells cL_wells 6 (some .int) [(0, 12, 15, 21), (0, 12, 19, 13)] (rkc 9 2 12) [.ref (lay 0 0), .int (iv x), .int (iv a), .int (iv b), .ref o] (OnO Ω o f (InvC Ω lay ms ns nc nl ξ σ τ)) hR (WR Ω o f (wlK σ x a b) ((iv (rateZ (wlS x.toNat a b σ) x.toNat false)).toInt64) (InvC Ω lay ms ns nc nl ξ (wlS x.toNat a b σ) (τ)) (InvC Ω lay ms ns nc nl ξ σ τ)) := by
  refine CtH.of (own := RL) (L := [(0, _), (1, _), (2, _), (3, _), (4, _)]) (by decide +kernel) rfl (Nat.le_of_ble_eq_true rfl) rfl ?_
  intro κ C hn E
  refine y_aload (pc := 0) C dL_wells_0 4 rfl ?_
  refine y_iconst (pc := 2) C dL_wells_2 ?_
  refine y_aload_n (pc := 3) C dL_wells_3 0 rfl ?_
  refine y_iload_n (pc := 4) C dL_wells_4 1 rfl ?_
  refine y_iload_n (pc := 5) C dL_wells_5 2 rfl ?_
  refine y_iload_n (pc := 6) C dL_wells_6 3 rfl ?_
  refine y_callVX (pc := 7) (As := [_, _, _]) C E.2.1 cv_L_17 (ci := 5) rfl rfl (Ct.frame1 (x := oO Ω f) (mg_wells hwf hms x h_x a h_a b h_b)) (fun h9 ⟨h1, q1, q2, q3⟩ => ⟨_, (congrFun q3 _).trans ((hset_n (nn_of q1.gas q2)).trans q1.gas)⟩) rfl rfl (Nat.le_of_ble_eq_true rfl) ⟨by decide, by decide, by decide, by decide⟩ dL_wells_7 (fun rv => Y.imp (fun h hh => wr_ok hh) ?_) (fun E0 => YX.imp (fun h hh => wr_x2 hh) ?_)
  · refine Y.and fun hK => Y.and fun er => ?_
    subst er
    refine y_i2lR (pc := 10) C dL_wells_10 ?_
    refine y_last (pc := 11) (Φ' := OnO Ω o (vp_updL f 0 _) (InvC Ω lay ms ns nc nl ξ (wlS x.toNat a b σ) (τ))) C dL_wells_11 (by decide) (by decide) (fun h hh => ⟨1, f, (ono_at (v := 0) hh).1, by decide, (ono_at hh).2⟩) ?_
    refine y_goto (pc := 12) (tgt := 23) C dL_wells_12 (by decide) ?_
    refine y_iconst (pc := 23) C dL_wells_23 ?_
    exact y_iretH (pc := 24) C E dL_wells_24 (by decide) (by decide) (fun h hh => ⟨by rw [hK], Or.inl ⟨hK, hh⟩⟩)
  · refine YX.or ?_ ?_
    · refine YX.and fun eE => YX.and fun hK => ?_
      subst eE
      refine y_catch (pc := 7) C E [] ⟨0, 12, 15, 21⟩ [⟨0, 12, 19, 13⟩] rfl (fun z hz => by cases hz) (by decide) (by decide) aw_2_81 (nw_in nw_2_92 rfl) (fun q => ?_)
      refine y_astore (pc := 15) (L' := [(5, _), (0, _), (1, _), (2, _), (3, _), (4, _)]) C dL_wells_15 (by rw [hn]; decide) rfl ?_
      refine y_iconst (pc := 17) C dL_wells_17 ?_
      exact y_iretH (pc := 18) C E dL_wells_18 (by decide) (by decide) (fun h hh => ⟨by rw [hK], Or.inr ⟨by rw [hK]; decide, hh⟩⟩)
    · refine YX.and fun eE => YX.and fun hK => ?_
      subst eE
      refine y_catch (pc := 7) C E [⟨0, 12, 15, 21⟩] ⟨0, 12, 19, 13⟩ [] rfl (fun z hz => by rw [List.mem_singleton] at hz; subst hz; exact Or.inr ⟨by decide, _, aw_2_81, by decide⟩) (by decide) (by decide) aw_1_104 (nw_in nw_1_123 rfl) (fun q => ?_)
      refine y_astore (pc := 19) (L' := [(5, _), (0, _), (1, _), (2, _), (3, _), (4, _)]) C dL_wells_19 (by rw [hn]; decide) rfl ?_
      refine y_iconst (pc := 21) C dL_wells_21 ?_
      exact y_iretH (pc := 22) C E dL_wells_22 (by decide) (by decide) (fun h hh => ⟨by rw [hK], Or.inr ⟨by rw [hK]; decide, hh⟩⟩)

set_option maxRecDepth 20000 in
theorem wl_leak {Ω : OmT} {hR : AH} {lay : Nat → Nat → Nat} {ξ : XiT} {ms ns nc nl : Nat} {σ : ZT} {τ : JT} (hwf : Wf σ ns nc nl) (hms : ns ≤ ms) (x : Int) (h_x : -2147483648 ≤ x ∧ x < 2147483648) (u : Int) (h_u : -2147483648 ≤ u ∧ u < 2147483648)  (o : Nat) (f : Nat → Int64) : CtH Ω yL_leak cL_leak 5 (some .int) [(0, 10, 13, 21), (0, 10, 17, 13)] (rkc 9 2 12) [.ref (lay 0 0), .int (iv x), .int (iv u), .ref o] (OnO Ω o f (InvC Ω lay ms ns nc nl ξ σ τ)) hR (WR Ω o f (lkK σ x u) ((iv (σ 12 x.toNat)).toInt64) (InvC Ω lay ms ns nc nl ξ (zu σ 12 x.toNat u) (τ)) (InvC Ω lay ms ns nc nl ξ σ τ)) := by
  refine CtH.of (own := RL) (L := [(0, _), (1, _), (2, _), (3, _)]) (by decide +kernel) rfl (Nat.le_of_ble_eq_true rfl) rfl ?_
  intro κ C hn E
  refine y_aload_n (pc := 0) C dL_leak_0 3 rfl ?_
  refine y_iconst (pc := 1) C dL_leak_1 ?_
  refine y_aload_n (pc := 2) C dL_leak_2 0 rfl ?_
  refine y_iload_n (pc := 3) C dL_leak_3 1 rfl ?_
  refine y_iload_n (pc := 4) C dL_leak_4 2 rfl ?_
  refine y_callVX (pc := 5) (As := [_, _]) C E.2.1 cv_L_23 (ci := 5) rfl rfl (Ct.frame1 (x := oO Ω f) (mg_leak hwf hms x h_x u h_u)) (fun h9 ⟨h1, q1, q2, q3⟩ => ⟨_, (congrFun q3 _).trans ((hset_n (nn_of q1.gas q2)).trans q1.gas)⟩) rfl rfl (Nat.le_of_ble_eq_true rfl) ⟨by decide, by decide, by decide, by decide⟩ dL_leak_5 (fun rv => Y.imp (fun h hh => wr_ok hh) ?_) (fun E0 => YX.imp (fun h hh => wr_x2 hh) ?_)
  · refine Y.and fun hK => Y.and fun er => ?_
    subst er
    refine y_i2lR (pc := 8) C dL_leak_8 ?_
    refine y_last (pc := 9) (Φ' := OnO Ω o (vp_updL f 0 _) (InvC Ω lay ms ns nc nl ξ (zu σ 12 x.toNat u) (τ))) C dL_leak_9 (by decide) (by decide) (fun h hh => ⟨1, f, (ono_at (v := 0) hh).1, by decide, (ono_at hh).2⟩) ?_
    refine y_goto (pc := 10) (tgt := 21) C dL_leak_10 (by decide) ?_
    refine y_iconst (pc := 21) C dL_leak_21 ?_
    exact y_iretH (pc := 22) C E dL_leak_22 (by decide) (by decide) (fun h hh => ⟨by rw [hK], Or.inl ⟨hK, hh⟩⟩)
  · refine YX.or ?_ ?_
    · refine YX.and fun eE => YX.and fun hK => ?_
      subst eE
      refine y_catch (pc := 5) C E [] ⟨0, 10, 13, 21⟩ [⟨0, 10, 17, 13⟩] rfl (fun z hz => by cases hz) (by decide) (by decide) aw_2_81 (nw_in nw_2_92 rfl) (fun q => ?_)
      refine y_astore (pc := 13) (L' := [(4, _), (0, _), (1, _), (2, _), (3, _)]) C dL_leak_13 (by rw [hn]; decide) rfl ?_
      refine y_iconst (pc := 15) C dL_leak_15 ?_
      exact y_iretH (pc := 16) C E dL_leak_16 (by decide) (by decide) (fun h hh => ⟨by rw [hK], Or.inr ⟨by rw [hK]; decide, hh⟩⟩)
    · refine YX.and fun eE => YX.and fun hK => ?_
      subst eE
      refine y_catch (pc := 5) C E [⟨0, 10, 13, 21⟩] ⟨0, 10, 17, 13⟩ [] rfl (fun z hz => by rw [List.mem_singleton] at hz; subst hz; exact Or.inr ⟨by decide, _, aw_2_81, by decide⟩) (by decide) (by decide) aw_1_104 (nw_in nw_1_123 rfl) (fun q => ?_)
      refine y_astore (pc := 17) (L' := [(4, _), (0, _), (1, _), (2, _), (3, _)]) C dL_leak_17 (by rw [hn]; decide) rfl ?_
      refine y_iconst (pc := 19) C dL_leak_19 ?_
      exact y_iretH (pc := 20) C E dL_leak_20 (by decide) (by decide) (fun h hh => ⟨by rw [hK], Or.inr ⟨by rw [hK]; decide, hh⟩⟩)

set_option maxRecDepth 20000 in
theorem wl_leach {Ω : OmT} {hR : AH} {lay : Nat → Nat → Nat} {ξ : XiT} {ms ns nc nl : Nat} {σ : ZT} {τ : JT} (hwf : Wf σ ns nc nl) (hms : ns ≤ ms) (x : Int) (h_x : -2147483648 ≤ x ∧ x < 2147483648) (u : Int) (h_u : -2147483648 ≤ u ∧ u < 2147483648)  (o : Nat) (f : Nat → Int64) : CtH Ω yL_leach cL_leach 5 (some .int) [(0, 10, 13, 21), (0, 10, 17, 13), (0, 10, 21, 15)] (rkc 9 2 12) [.ref (lay 0 0), .int (iv x), .int (iv u), .ref o] (OnO Ω o f (InvC Ω lay ms ns nc nl ξ σ τ)) hR (WR Ω o f (lcK σ x u) ((iv (zu σ 4 x.toNat (σ 4 x.toNat + u) 4 x.toNat)).toInt64) (InvC Ω lay ms ns nc nl ξ (zu σ 4 x.toNat (σ 4 x.toNat + u)) (τ)) (InvC Ω lay ms ns nc nl ξ σ τ)) := by
  refine CtH.of (own := RL) (L := [(0, _), (1, _), (2, _), (3, _)]) (by decide +kernel) rfl (Nat.le_of_ble_eq_true rfl) rfl ?_
  intro κ C hn E
  refine y_aload_n (pc := 0) C dL_leach_0 3 rfl ?_
  refine y_iconst (pc := 1) C dL_leach_1 ?_
  refine y_aload_n (pc := 2) C dL_leach_2 0 rfl ?_
  refine y_iload_n (pc := 3) C dL_leach_3 1 rfl ?_
  refine y_iload_n (pc := 4) C dL_leach_4 2 rfl ?_
  refine y_callVX (pc := 5) (As := [_, _]) C E.2.1 cv_L_27 (ci := 5) rfl rfl (Ct.frame1 (x := oO Ω f) (mg_leach hwf hms x h_x u h_u)) (fun h9 ⟨h1, q1, q2, q3⟩ => ⟨_, (congrFun q3 _).trans ((hset_n (nn_of q1.gas q2)).trans q1.gas)⟩) rfl rfl (Nat.le_of_ble_eq_true rfl) ⟨by decide, by decide, by decide, by decide⟩ dL_leach_5 (fun rv => Y.imp (fun h hh => wr_ok hh) ?_) (fun E0 => YX.imp (fun h hh => wr_x3 hh) ?_)
  · refine Y.and fun hK => Y.and fun er => ?_
    subst er
    refine y_i2lR (pc := 8) C dL_leach_8 ?_
    refine y_last (pc := 9) (Φ' := OnO Ω o (vp_updL f 0 _) (InvC Ω lay ms ns nc nl ξ (zu σ 4 x.toNat (σ 4 x.toNat + u)) (τ))) C dL_leach_9 (by decide) (by decide) (fun h hh => ⟨1, f, (ono_at (v := 0) hh).1, by decide, (ono_at hh).2⟩) ?_
    refine y_goto (pc := 10) (tgt := 25) C dL_leach_10 (by decide) ?_
    refine y_iconst (pc := 25) C dL_leach_25 ?_
    exact y_iretH (pc := 26) C E dL_leach_26 (by decide) (by decide) (fun h hh => ⟨by rw [hK], Or.inl ⟨hK, hh⟩⟩)
  · refine YX.or ?_ (YX.or ?_ ?_)
    · refine YX.and fun eE => YX.and fun hK => ?_
      subst eE
      refine y_catch (pc := 5) C E [] ⟨0, 10, 13, 21⟩ [⟨0, 10, 17, 13⟩, ⟨0, 10, 21, 15⟩] rfl (fun z hz => by cases hz) (by decide) (by decide) aw_2_81 (nw_in nw_2_92 rfl) (fun q => ?_)
      refine y_astore (pc := 13) (L' := [(4, _), (0, _), (1, _), (2, _), (3, _)]) C dL_leach_13 (by rw [hn]; decide) rfl ?_
      refine y_iconst (pc := 15) C dL_leach_15 ?_
      exact y_iretH (pc := 16) C E dL_leach_16 (by decide) (by decide) (fun h hh => ⟨by rw [hK], Or.inr ⟨by rw [hK]; decide, hh⟩⟩)
    · refine YX.and fun eE => YX.and fun hK => ?_
      subst eE
      refine y_catch (pc := 5) C E [⟨0, 10, 13, 21⟩] ⟨0, 10, 17, 13⟩ [⟨0, 10, 21, 15⟩] rfl (fun z hz => by rw [List.mem_singleton] at hz; subst hz; exact Or.inr ⟨by decide, _, aw_2_81, by decide⟩) (by decide) (by decide) aw_1_104 (nw_in nw_1_123 rfl) (fun q => ?_)
      refine y_astore (pc := 17) (L' := [(4, _), (0, _), (1, _), (2, _), (3, _)]) C dL_leach_17 (by rw [hn]; decide) rfl ?_
      refine y_iconst (pc := 19) C dL_leach_19 ?_
      exact y_iretH (pc := 20) C E dL_leach_20 (by decide) (by decide) (fun h hh => ⟨by rw [hK], Or.inr ⟨by rw [hK]; decide, hh⟩⟩)
    · refine YX.and fun eE => YX.and fun hK => ?_
      subst eE
      refine y_catch (pc := 5) C E [⟨0, 10, 13, 21⟩, ⟨0, 10, 17, 13⟩] ⟨0, 10, 21, 15⟩ [] rfl (fun z hz => by simp only [List.mem_cons, List.not_mem_nil, or_false] at hz; rcases hz with rfl | rfl; exact Or.inr ⟨by decide, _, aw_2_81, by decide⟩; exact Or.inr ⟨by decide, _, aw_1_104, by decide⟩) (by decide) (by decide) aw_1_105 (nw_in nw_1_195 rfl) (fun q => ?_)
      refine y_astore (pc := 21) (L' := [(4, _), (0, _), (1, _), (2, _), (3, _)]) C dL_leach_21 (by rw [hn]; decide) rfl ?_
      refine y_iconst (pc := 23) C dL_leach_23 ?_
      exact y_iretH (pc := 24) C E dL_leach_24 (by decide) (by decide) (fun h hh => ⟨by rw [hK], Or.inr ⟨by rw [hK]; decide, hh⟩⟩)

set_option maxRecDepth 20000 in
theorem wl_heat {Ω : OmT} {hR : AH} {lay : Nat → Nat → Nat} {ξ : XiT} {ms ns nc nl : Nat} {σ : ZT} {τ : JT} (hwf : Wf σ ns nc nl) (hms : ns ≤ ms) (u : Int) (h_u : -2147483648 ≤ u ∧ u < 2147483648)  (o : Nat) (f : Nat → Int64) : CtH Ω yL_heat cL_heat 4 (some .int) [(0, 9, 12, 13)] (rkc 9 1 6) [.ref (lay 0 0), .int (iv u), .ref o] (OnO Ω o f (InvC Ω lay ms ns nc nl ξ σ τ)) hR (WR Ω o f (htK u) ((iv (σ 15 0)).toInt64) (InvC Ω lay ms ns nc nl ξ (zu σ 15 0 u) (τ)) (InvC Ω lay ms ns nc nl ξ σ τ)) := by
  refine CtH.of (own := RL) (L := [(0, _), (1, _), (2, _)]) (by decide +kernel) rfl (Nat.le_of_ble_eq_true rfl) rfl ?_
  intro κ C hn E
  refine y_aload_n (pc := 0) C dL_heat_0 2 rfl ?_
  refine y_iconst (pc := 1) C dL_heat_1 ?_
  refine y_aload_n (pc := 2) C dL_heat_2 0 rfl ?_
  refine y_iload_n (pc := 3) C dL_heat_3 1 rfl ?_
  refine y_callVX (pc := 4) (As := [_]) C E.2.1 cv_L_30 (ci := 5) rfl rfl (Ct.frame1 (x := oO Ω f) (mg_heat hwf hms u h_u)) (fun h9 ⟨h1, q1, q2, q3⟩ => ⟨_, (congrFun q3 _).trans ((hset_n (nn_of q1.gas q2)).trans q1.gas)⟩) rfl rfl (Nat.le_of_ble_eq_true rfl) ⟨by decide, by decide, by decide, by decide⟩ dL_heat_4 (fun rv => Y.imp (fun h hh => wr_ok hh) ?_) (fun E0 => YX.imp (fun h hh => wr_x1 hh) ?_)
  · refine Y.and fun hK => Y.and fun er => ?_
    subst er
    refine y_i2lR (pc := 7) C dL_heat_7 ?_
    refine y_last (pc := 8) (Φ' := OnO Ω o (vp_updL f 0 _) (InvC Ω lay ms ns nc nl ξ (zu σ 15 0 u) (τ))) C dL_heat_8 (by decide) (by decide) (fun h hh => ⟨1, f, (ono_at (v := 0) hh).1, by decide, (ono_at hh).2⟩) ?_
    refine y_goto (pc := 9) (tgt := 15) C dL_heat_9 (by decide) ?_
    refine y_iconst (pc := 15) C dL_heat_15 ?_
    exact y_iretH (pc := 16) C E dL_heat_16 (by decide) (by decide) (fun h hh => ⟨by rw [hK], Or.inl ⟨hK, hh⟩⟩)
  · refine YX.and fun eE => YX.and fun hK => ?_
    subst eE
    refine y_catch (pc := 4) C E [] ⟨0, 9, 12, 13⟩ [] rfl (fun z hz => by cases hz) (by decide) (by decide) aw_1_104 (nw_in nw_1_123 rfl) (fun q => ?_)
    refine y_astore_n (pc := 12) (L' := [(3, _), (0, _), (1, _), (2, _)]) C dL_heat_12 (by rw [hn]; decide) rfl ?_
    refine y_iconst (pc := 13) C dL_heat_13 ?_
    exact y_iretH (pc := 14) C E dL_heat_14 (by decide) (by decide) (fun h hh => ⟨by rw [hK], Or.inr ⟨by rw [hK]; decide, hh⟩⟩)

set_option maxRecDepth 20000 in
theorem wl_customer {Ω : OmT} {hR : AH} {lay : Nat → Nat → Nat} {ξ : XiT} {ns nc nl : Nat} {σ : ZT} {τ : JT} (hwf : Wf σ ns nc nl) (hms : ns ≤ ns) (hlo : LaO Ω lay) (hbl : Bl σ τ ns nc) (v : Int) (h_v : -2147483648 ≤ v ∧ v < 2147483648) (i : Int) (h_i : -2147483648 ≤ i ∧ i < 2147483648) (p : Int) (h_p : -2147483648 ≤ p ∧ p < 2147483648) (r : Int) (h_r : -2147483648 ≤ r ∧ r < 2147483648)  (o : Nat) (f : Nat → Int64) : CtH Ω yL_customer cL_customer 7 (some .int) [(0, 14, 17, 13), (0, 14, 21, 15)] (rkc 12 4 160) [.ref (lay 0 0), .int (iv v), .int (iv i), .int (iv p), .int (iv r), .ref o] (OnO Ω o f (InvC Ω lay ns ns nc nl ξ σ τ)) hR (WR Ω o f (cuK σ v i p r) ((iv (σ 16 0 + 1 - 1)).toInt64) (fun h => ∃ lay2, lay2 0 0 = lay 0 0 ∧ LaO Ω lay2 ∧ InvC Ω lay2 ns ns (nc + 1) nl ξ (cuS nc v i p r σ) (τ) h) (InvC Ω lay ns ns nc nl ξ σ τ)) := by
  refine CtH.of (own := RL) (L := [(0, _), (1, _), (2, _), (3, _), (4, _), (5, _)]) (by decide +kernel) rfl (Nat.le_of_ble_eq_true rfl) rfl ?_
  intro κ C hn E
  refine y_aload (pc := 0) C dL_customer_0 5 rfl ?_
  refine y_iconst (pc := 2) C dL_customer_2 ?_
  refine y_aload_n (pc := 3) C dL_customer_3 0 rfl ?_
  refine y_iload_n (pc := 4) C dL_customer_4 1 rfl ?_
  refine y_iload_n (pc := 5) C dL_customer_5 2 rfl ?_
  refine y_iload_n (pc := 6) C dL_customer_6 3 rfl ?_
  refine y_iload (pc := 7) C dL_customer_7 4 rfl ?_
  refine y_callVX (pc := 9) (As := [_, _, _, _]) C E.2.1 cv_L_34 (ci := 5) rfl rfl (Ct.frame1 (x := oO Ω f) (mg_customer hwf hms v h_v i h_i p h_p r h_r hlo hbl)) (fun h9 ⟨h1, q1, q2, q3⟩ => ⟨_, (congrFun q3 _).trans ((hset_n (nn_of q1.gas q2)).trans q1.gas)⟩) rfl rfl (Nat.le_of_ble_eq_true rfl) ⟨by decide, by decide, by decide, by decide⟩ dL_customer_9 (fun rv => Y.imp (fun h hh => wr_ok hh) ?_) (fun E0 => YX.imp (fun h hh => wr_x2 hh) ?_)
  · refine Y.and fun hK => Y.and fun er => ?_
    subst er
    refine y_i2lR (pc := 12) C dL_customer_12 ?_
    refine y_last (pc := 13) (Φ' := OnO Ω o (vp_updL f 0 _) (fun h => ∃ lay2, lay2 0 0 = lay 0 0 ∧ LaO Ω lay2 ∧ InvC Ω lay2 ns ns (nc + 1) nl ξ (cuS nc v i p r σ) (τ) h)) C dL_customer_13 (by decide) (by decide) (fun h hh => ⟨1, f, (ono_at (v := 0) hh).1, by decide, (ono_at hh).2⟩) ?_
    refine y_goto (pc := 14) (tgt := 25) C dL_customer_14 (by decide) ?_
    refine y_iconst (pc := 25) C dL_customer_25 ?_
    exact y_iretH (pc := 26) C E dL_customer_26 (by decide) (by decide) (fun h hh => ⟨by rw [hK], Or.inl ⟨hK, hh⟩⟩)
  · refine YX.or ?_ ?_
    · refine YX.and fun eE => YX.and fun hK => ?_
      subst eE
      refine y_catch (pc := 9) C E [] ⟨0, 14, 17, 13⟩ [⟨0, 14, 21, 15⟩] rfl (fun z hz => by cases hz) (by decide) (by decide) aw_1_104 (nw_in nw_1_123 rfl) (fun q => ?_)
      refine y_astore (pc := 17) (L' := [(6, _), (0, _), (1, _), (2, _), (3, _), (4, _), (5, _)]) C dL_customer_17 (by rw [hn]; decide) rfl ?_
      refine y_iconst (pc := 19) C dL_customer_19 ?_
      exact y_iretH (pc := 20) C E dL_customer_20 (by decide) (by decide) (fun h hh => ⟨by rw [hK], Or.inr ⟨by rw [hK]; decide, hh⟩⟩)
    · refine YX.and fun eE => YX.and fun hK => ?_
      subst eE
      refine y_catch (pc := 9) C E [⟨0, 14, 17, 13⟩] ⟨0, 14, 21, 15⟩ [] rfl (fun z hz => by rw [List.mem_singleton] at hz; subst hz; exact Or.inr ⟨by decide, _, aw_1_104, by decide⟩) (by decide) (by decide) aw_1_105 (nw_in nw_1_195 rfl) (fun q => ?_)
      refine y_astore (pc := 21) (L' := [(6, _), (0, _), (1, _), (2, _), (3, _), (4, _), (5, _)]) C dL_customer_21 (by rw [hn]; decide) rfl ?_
      refine y_iconst (pc := 23) C dL_customer_23 ?_
      exact y_iretH (pc := 24) C E dL_customer_24 (by decide) (by decide) (fun h hh => ⟨by rw [hK], Or.inr ⟨by rw [hK]; decide, hh⟩⟩)

set_option maxRecDepth 20000 in
theorem wl_nominate {Ω : OmT} {hR : AH} {lay : Nat → Nat → Nat} {ξ : XiT} {ms ns nc nl : Nat} {σ : ZT} {τ : JT} (hwf : Wf σ ns nc nl) (hms : ns ≤ ms) (x : Int) (h_x : -2147483648 ≤ x ∧ x < 2147483648) (t : Int) (h_t : -2147483648 ≤ t ∧ t < 2147483648) (u : Int) (h_u : -2147483648 ≤ u ∧ u < 2147483648)  (o : Nat) (f : Nat → Int64) : CtH Ω yL_nominate cL_nominate 6 (some .int) [(0, 12, 15, 21), (0, 12, 19, 13)] (rkc 9 2 12) [.ref (lay 0 0), .int (iv x), .int (iv t), .int (iv u), .ref o] (OnO Ω o f (InvC Ω lay ms ns nc nl ξ σ τ)) hR (WR Ω o f (nmK σ x t u) ((iv (σ 25 (64 * x.toNat + t.toNat % 64))).toInt64) (InvC Ω lay ms ns nc nl ξ (zu σ 25 (64 * x.toNat + t.toNat % 64) u) (τ)) (InvC Ω lay ms ns nc nl ξ σ τ)) := by
  refine CtH.of (own := RL) (L := [(0, _), (1, _), (2, _), (3, _), (4, _)]) (by decide +kernel) rfl (Nat.le_of_ble_eq_true rfl) rfl ?_
  intro κ C hn E
  refine y_aload (pc := 0) C dL_nominate_0 4 rfl ?_
  refine y_iconst (pc := 2) C dL_nominate_2 ?_
  refine y_aload_n (pc := 3) C dL_nominate_3 0 rfl ?_
  refine y_iload_n (pc := 4) C dL_nominate_4 1 rfl ?_
  refine y_iload_n (pc := 5) C dL_nominate_5 2 rfl ?_
  refine y_iload_n (pc := 6) C dL_nominate_6 3 rfl ?_
  refine y_callVX (pc := 7) (As := [_, _, _]) C E.2.1 cv_L_38 (ci := 5) rfl rfl (Ct.frame1 (x := oO Ω f) (mg_nominate hwf hms x h_x t h_t u h_u)) (fun h9 ⟨h1, q1, q2, q3⟩ => ⟨_, (congrFun q3 _).trans ((hset_n (nn_of q1.gas q2)).trans q1.gas)⟩) rfl rfl (Nat.le_of_ble_eq_true rfl) ⟨by decide, by decide, by decide, by decide⟩ dL_nominate_7 (fun rv => Y.imp (fun h hh => wr_ok hh) ?_) (fun E0 => YX.imp (fun h hh => wr_x2 hh) ?_)
  · refine Y.and fun hK => Y.and fun er => ?_
    subst er
    refine y_i2lR (pc := 10) C dL_nominate_10 ?_
    refine y_last (pc := 11) (Φ' := OnO Ω o (vp_updL f 0 _) (InvC Ω lay ms ns nc nl ξ (zu σ 25 (64 * x.toNat + t.toNat % 64) u) (τ))) C dL_nominate_11 (by decide) (by decide) (fun h hh => ⟨1, f, (ono_at (v := 0) hh).1, by decide, (ono_at hh).2⟩) ?_
    refine y_goto (pc := 12) (tgt := 23) C dL_nominate_12 (by decide) ?_
    refine y_iconst (pc := 23) C dL_nominate_23 ?_
    exact y_iretH (pc := 24) C E dL_nominate_24 (by decide) (by decide) (fun h hh => ⟨by rw [hK], Or.inl ⟨hK, hh⟩⟩)
  · refine YX.or ?_ ?_
    · refine YX.and fun eE => YX.and fun hK => ?_
      subst eE
      refine y_catch (pc := 7) C E [] ⟨0, 12, 15, 21⟩ [⟨0, 12, 19, 13⟩] rfl (fun z hz => by cases hz) (by decide) (by decide) aw_2_81 (nw_in nw_2_92 rfl) (fun q => ?_)
      refine y_astore (pc := 15) (L' := [(5, _), (0, _), (1, _), (2, _), (3, _), (4, _)]) C dL_nominate_15 (by rw [hn]; decide) rfl ?_
      refine y_iconst (pc := 17) C dL_nominate_17 ?_
      exact y_iretH (pc := 18) C E dL_nominate_18 (by decide) (by decide) (fun h hh => ⟨by rw [hK], Or.inr ⟨by rw [hK]; decide, hh⟩⟩)
    · refine YX.and fun eE => YX.and fun hK => ?_
      subst eE
      refine y_catch (pc := 7) C E [⟨0, 12, 15, 21⟩] ⟨0, 12, 19, 13⟩ [] rfl (fun z hz => by rw [List.mem_singleton] at hz; subst hz; exact Or.inr ⟨by decide, _, aw_2_81, by decide⟩) (by decide) (by decide) aw_1_104 (nw_in nw_1_123 rfl) (fun q => ?_)
      refine y_astore (pc := 19) (L' := [(5, _), (0, _), (1, _), (2, _), (3, _), (4, _)]) C dL_nominate_19 (by rw [hn]; decide) rfl ?_
      refine y_iconst (pc := 21) C dL_nominate_21 ?_
      exact y_iretH (pc := 22) C E dL_nominate_22 (by decide) (by decide) (fun h hh => ⟨by rw [hK], Or.inr ⟨by rw [hK]; decide, hh⟩⟩)

set_option maxRecDepth 20000 in
theorem wl_transfer {Ω : OmT} {hR : AH} {lay : Nat → Nat → Nat} {ξ : XiT} {ms ns nc nl : Nat} {σ : ZT} {τ : JT} (hwf : Wf σ ns nc nl) (hms : ns ≤ ms) (a : Int) (h_a : -2147483648 ≤ a ∧ a < 2147483648) (b : Int) (h_b : -2147483648 ≤ b ∧ b < 2147483648) (u : Int) (h_u : -2147483648 ≤ u ∧ u < 2147483648)  (o : Nat) (f : Nat → Int64) : CtH Ω yL_transfer cL_transfer 6 (some .int) [(0, 12, 15, 21), (0, 12, 19, 13), (0, 12, 23, 15)] (rkc 9 3 18) [.ref (lay 0 0), .int (iv a), .int (iv b), .int (iv u), .ref o] (OnO Ω o f (InvC Ω lay ms ns nc nl ξ σ τ)) hR (WR Ω o f (trK σ a b u) ((iv (trS a.toNat b.toNat u σ 21 b.toNat)).toInt64) (InvC Ω lay ms ns nc nl ξ (trS a.toNat b.toNat u σ) (τ)) (InvC Ω lay ms ns nc nl ξ σ τ)) := by
  refine CtH.of (own := RL) (L := [(0, _), (1, _), (2, _), (3, _), (4, _)]) (by decide +kernel) rfl (Nat.le_of_ble_eq_true rfl) rfl ?_
  intro κ C hn E
  refine y_aload (pc := 0) C dL_transfer_0 4 rfl ?_
  refine y_iconst (pc := 2) C dL_transfer_2 ?_
  refine y_aload_n (pc := 3) C dL_transfer_3 0 rfl ?_
  refine y_iload_n (pc := 4) C dL_transfer_4 1 rfl ?_
  refine y_iload_n (pc := 5) C dL_transfer_5 2 rfl ?_
  refine y_iload_n (pc := 6) C dL_transfer_6 3 rfl ?_
  refine y_callVX (pc := 7) (As := [_, _, _]) C E.2.1 cv_L_41 (ci := 5) rfl rfl (Ct.frame1 (x := oO Ω f) (mg_transfer hwf hms a h_a b h_b u h_u)) (fun h9 ⟨h1, q1, q2, q3⟩ => ⟨_, (congrFun q3 _).trans ((hset_n (nn_of q1.gas q2)).trans q1.gas)⟩) rfl rfl (Nat.le_of_ble_eq_true rfl) ⟨by decide, by decide, by decide, by decide⟩ dL_transfer_7 (fun rv => Y.imp (fun h hh => wr_ok hh) ?_) (fun E0 => YX.imp (fun h hh => wr_x3 hh) ?_)
  · refine Y.and fun hK => Y.and fun er => ?_
    subst er
    refine y_i2lR (pc := 10) C dL_transfer_10 ?_
    refine y_last (pc := 11) (Φ' := OnO Ω o (vp_updL f 0 _) (InvC Ω lay ms ns nc nl ξ (trS a.toNat b.toNat u σ) (τ))) C dL_transfer_11 (by decide) (by decide) (fun h hh => ⟨1, f, (ono_at (v := 0) hh).1, by decide, (ono_at hh).2⟩) ?_
    refine y_goto (pc := 12) (tgt := 27) C dL_transfer_12 (by decide) ?_
    refine y_iconst (pc := 27) C dL_transfer_27 ?_
    exact y_iretH (pc := 28) C E dL_transfer_28 (by decide) (by decide) (fun h hh => ⟨by rw [hK], Or.inl ⟨hK, hh⟩⟩)
  · refine YX.or ?_ (YX.or ?_ ?_)
    · refine YX.and fun eE => YX.and fun hK => ?_
      subst eE
      refine y_catch (pc := 7) C E [] ⟨0, 12, 15, 21⟩ [⟨0, 12, 19, 13⟩, ⟨0, 12, 23, 15⟩] rfl (fun z hz => by cases hz) (by decide) (by decide) aw_2_81 (nw_in nw_2_92 rfl) (fun q => ?_)
      refine y_astore (pc := 15) (L' := [(5, _), (0, _), (1, _), (2, _), (3, _), (4, _)]) C dL_transfer_15 (by rw [hn]; decide) rfl ?_
      refine y_iconst (pc := 17) C dL_transfer_17 ?_
      exact y_iretH (pc := 18) C E dL_transfer_18 (by decide) (by decide) (fun h hh => ⟨by rw [hK], Or.inr ⟨by rw [hK]; decide, hh⟩⟩)
    · refine YX.and fun eE => YX.and fun hK => ?_
      subst eE
      refine y_catch (pc := 7) C E [⟨0, 12, 15, 21⟩] ⟨0, 12, 19, 13⟩ [⟨0, 12, 23, 15⟩] rfl (fun z hz => by rw [List.mem_singleton] at hz; subst hz; exact Or.inr ⟨by decide, _, aw_2_81, by decide⟩) (by decide) (by decide) aw_1_104 (nw_in nw_1_123 rfl) (fun q => ?_)
      refine y_astore (pc := 19) (L' := [(5, _), (0, _), (1, _), (2, _), (3, _), (4, _)]) C dL_transfer_19 (by rw [hn]; decide) rfl ?_
      refine y_iconst (pc := 21) C dL_transfer_21 ?_
      exact y_iretH (pc := 22) C E dL_transfer_22 (by decide) (by decide) (fun h hh => ⟨by rw [hK], Or.inr ⟨by rw [hK]; decide, hh⟩⟩)
    · refine YX.and fun eE => YX.and fun hK => ?_
      subst eE
      refine y_catch (pc := 7) C E [⟨0, 12, 15, 21⟩, ⟨0, 12, 19, 13⟩] ⟨0, 12, 23, 15⟩ [] rfl (fun z hz => by simp only [List.mem_cons, List.not_mem_nil, or_false] at hz; rcases hz with rfl | rfl; exact Or.inr ⟨by decide, _, aw_2_81, by decide⟩; exact Or.inr ⟨by decide, _, aw_1_104, by decide⟩) (by decide) (by decide) aw_1_105 (nw_in nw_1_195 rfl) (fun q => ?_)
      refine y_astore (pc := 23) (L' := [(5, _), (0, _), (1, _), (2, _), (3, _), (4, _)]) C dL_transfer_23 (by rw [hn]; decide) rfl ?_
      refine y_iconst (pc := 25) C dL_transfer_25 ?_
      exact y_iretH (pc := 26) C E dL_transfer_26 (by decide) (by decide) (fun h hh => ⟨by rw [hK], Or.inr ⟨by rw [hK]; decide, hh⟩⟩)

set_option maxRecDepth 20000 in
theorem wl_law {Ω : OmT} {hR : AH} {lay : Nat → Nat → Nat} {ξ : XiT} {ns nc nl : Nat} {σ : ZT} {τ : JT} (hwf : Wf σ ns nc nl) (hms : ns ≤ ns) (hlo : LaO Ω lay) (hbl : Bl σ τ ns nc) (a : Int) (h_a : -2147483648 ≤ a ∧ a < 2147483648) (b : Int) (h_b : -2147483648 ≤ b ∧ b < 2147483648) (l : Int) (h_l : -2147483648 ≤ l ∧ l < 2147483648)  (o : Nat) (f : Nat → Int64) : CtH Ω yL_law cL_law 6 (some .int) [(0, 12, 15, 13), (0, 12, 19, 15)] (rkc 12 2 60) [.ref (lay 0 0), .int (iv a), .int (iv b), .int (iv l), .ref o] (OnO Ω o f (InvC Ω lay ns ns nc nl ξ σ τ)) hR (WR Ω o f (lwK σ a b l) ((iv (σ 27 0 + 1)).toInt64) (fun h => ∃ lay2, lay2 0 0 = lay 0 0 ∧ LaO Ω lay2 ∧ InvC Ω lay2 ns ns nc (nl + 1) ξ (lwS nl a b l σ) (τ) h) (InvC Ω lay ns ns nc nl ξ σ τ)) := by
  refine CtH.of (own := RL) (L := [(0, _), (1, _), (2, _), (3, _), (4, _)]) (by decide +kernel) rfl (Nat.le_of_ble_eq_true rfl) rfl ?_
  intro κ C hn E
  refine y_aload (pc := 0) C dL_law_0 4 rfl ?_
  refine y_iconst (pc := 2) C dL_law_2 ?_
  refine y_aload_n (pc := 3) C dL_law_3 0 rfl ?_
  refine y_iload_n (pc := 4) C dL_law_4 1 rfl ?_
  refine y_iload_n (pc := 5) C dL_law_5 2 rfl ?_
  refine y_iload_n (pc := 6) C dL_law_6 3 rfl ?_
  refine y_callVX (pc := 7) (As := [_, _, _]) C E.2.1 cv_L_44 (ci := 5) rfl rfl (Ct.frame1 (x := oO Ω f) (mg_law hwf hms a h_a b h_b l h_l hlo hbl)) (fun h9 ⟨h1, q1, q2, q3⟩ => ⟨_, (congrFun q3 _).trans ((hset_n (nn_of q1.gas q2)).trans q1.gas)⟩) rfl rfl (Nat.le_of_ble_eq_true rfl) ⟨by decide, by decide, by decide, by decide⟩ dL_law_7 (fun rv => Y.imp (fun h hh => wr_ok hh) ?_) (fun E0 => YX.imp (fun h hh => wr_x2 hh) ?_)
  · refine Y.and fun hK => Y.and fun er => ?_
    subst er
    refine y_i2lR (pc := 10) C dL_law_10 ?_
    refine y_last (pc := 11) (Φ' := OnO Ω o (vp_updL f 0 _) (fun h => ∃ lay2, lay2 0 0 = lay 0 0 ∧ LaO Ω lay2 ∧ InvC Ω lay2 ns ns nc (nl + 1) ξ (lwS nl a b l σ) (τ) h)) C dL_law_11 (by decide) (by decide) (fun h hh => ⟨1, f, (ono_at (v := 0) hh).1, by decide, (ono_at hh).2⟩) ?_
    refine y_goto (pc := 12) (tgt := 23) C dL_law_12 (by decide) ?_
    refine y_iconst (pc := 23) C dL_law_23 ?_
    exact y_iretH (pc := 24) C E dL_law_24 (by decide) (by decide) (fun h hh => ⟨by rw [hK], Or.inl ⟨hK, hh⟩⟩)
  · refine YX.or ?_ ?_
    · refine YX.and fun eE => YX.and fun hK => ?_
      subst eE
      refine y_catch (pc := 7) C E [] ⟨0, 12, 15, 13⟩ [⟨0, 12, 19, 15⟩] rfl (fun z hz => by cases hz) (by decide) (by decide) aw_1_104 (nw_in nw_1_123 rfl) (fun q => ?_)
      refine y_astore (pc := 15) (L' := [(5, _), (0, _), (1, _), (2, _), (3, _), (4, _)]) C dL_law_15 (by rw [hn]; decide) rfl ?_
      refine y_iconst (pc := 17) C dL_law_17 ?_
      exact y_iretH (pc := 18) C E dL_law_18 (by decide) (by decide) (fun h hh => ⟨by rw [hK], Or.inr ⟨by rw [hK]; decide, hh⟩⟩)
    · refine YX.and fun eE => YX.and fun hK => ?_
      subst eE
      refine y_catch (pc := 7) C E [⟨0, 12, 15, 13⟩] ⟨0, 12, 19, 15⟩ [] rfl (fun z hz => by rw [List.mem_singleton] at hz; subst hz; exact Or.inr ⟨by decide, _, aw_1_104, by decide⟩) (by decide) (by decide) aw_1_105 (nw_in nw_1_195 rfl) (fun q => ?_)
      refine y_astore (pc := 19) (L' := [(5, _), (0, _), (1, _), (2, _), (3, _), (4, _)]) C dL_law_19 (by rw [hn]; decide) rfl ?_
      refine y_iconst (pc := 21) C dL_law_21 ?_
      exact y_iretH (pc := 22) C E dL_law_22 (by decide) (by decide) (fun h hh => ⟨by rw [hK], Or.inr ⟨by rw [hK]; decide, hh⟩⟩)

set_option maxRecDepth 20000 in
theorem wl_price {Ω : OmT} {hR : AH} {lay : Nat → Nat → Nat} {ξ : XiT} {ms ns nc nl : Nat} {σ : ZT} {τ : JT} (hwf : Wf σ ns nc nl) (hms : ns ≤ ms) (t : Int) (h_t : -2147483648 ≤ t ∧ t < 2147483648) (u : Int) (h_u : -2147483648 ≤ u ∧ u < 2147483648)  (o : Nat) (f : Nat → Int64) : CtH Ω yL_price cL_price 5 (some .int) [(0, 10, 13, 13)] (rkc 9 1 6) [.ref (lay 0 0), .int (iv t), .int (iv u), .ref o] (OnO Ω o f (InvC Ω lay ms ns nc nl ξ σ τ)) hR (WR Ω o f (prK σ t u) ((iv (ξ.1 (t.toNat % 64))).toInt64) (InvC Ω lay ms ns nc nl (fun j => if j = t.toNat % 64 then u else ξ.1 j, ξ.2) σ τ) (InvC Ω lay ms ns nc nl ξ σ τ)) := by
  refine CtH.of (own := RL) (L := [(0, _), (1, _), (2, _), (3, _)]) (by decide +kernel) rfl (Nat.le_of_ble_eq_true rfl) rfl ?_
  intro κ C hn E
  refine y_aload_n (pc := 0) C dL_price_0 3 rfl ?_
  refine y_iconst (pc := 1) C dL_price_1 ?_
  refine y_aload_n (pc := 2) C dL_price_2 0 rfl ?_
  refine y_iload_n (pc := 3) C dL_price_3 1 rfl ?_
  refine y_iload_n (pc := 4) C dL_price_4 2 rfl ?_
  refine y_callVX (pc := 5) (As := [_, _]) C E.2.1 cv_L_47 (ci := 5) rfl rfl (Ct.frame1 (x := oO Ω f) (mg_price hwf hms t h_t u h_u)) (fun h9 ⟨h1, q1, q2, q3⟩ => ⟨_, (congrFun q3 _).trans ((hset_n (nn_of q1.gas q2)).trans q1.gas)⟩) rfl rfl (Nat.le_of_ble_eq_true rfl) ⟨by decide, by decide, by decide, by decide⟩ dL_price_5 (fun rv => Y.imp (fun h hh => wr_ok hh) ?_) (fun E0 => YX.imp (fun h hh => wr_x1 hh) ?_)
  · refine Y.and fun hK => Y.and fun er => ?_
    subst er
    refine y_i2lR (pc := 8) C dL_price_8 ?_
    refine y_last (pc := 9) (Φ' := OnO Ω o (vp_updL f 0 _) (InvC Ω lay ms ns nc nl (fun j => if j = t.toNat % 64 then u else ξ.1 j, ξ.2) σ τ)) C dL_price_9 (by decide) (by decide) (fun h hh => ⟨1, f, (ono_at (v := 0) hh).1, by decide, (ono_at hh).2⟩) ?_
    refine y_goto (pc := 10) (tgt := 17) C dL_price_10 (by decide) ?_
    refine y_iconst (pc := 17) C dL_price_17 ?_
    exact y_iretH (pc := 18) C E dL_price_18 (by decide) (by decide) (fun h hh => ⟨by rw [hK], Or.inl ⟨hK, hh⟩⟩)
  · refine YX.and fun eE => YX.and fun hK => ?_
    subst eE
    refine y_catch (pc := 5) C E [] ⟨0, 10, 13, 13⟩ [] rfl (fun z hz => by cases hz) (by decide) (by decide) aw_1_104 (nw_in nw_1_123 rfl) (fun q => ?_)
    refine y_astore (pc := 13) (L' := [(4, _), (0, _), (1, _), (2, _), (3, _)]) C dL_price_13 (by rw [hn]; decide) rfl ?_
    refine y_iconst (pc := 15) C dL_price_15 ?_
    exact y_iretH (pc := 16) C E dL_price_16 (by decide) (by decide) (fun h hh => ⟨by rw [hK], Or.inr ⟨by rw [hK]; decide, hh⟩⟩)

set_option maxRecDepth 20000 in
theorem wl_pass {Ω : OmT} {hR : AH} {lay : Nat → Nat → Nat} {ξ : XiT} {ms ns nc nl : Nat} {σ : ZT} {τ : JT} (hwf : Wf σ ns nc nl) (hms : ns ≤ ms) (t : Int) (h_t : -2147483648 ≤ t ∧ t < 2147483648) (hf : FlOk ξ σ) (o : Nat) (f : Nat → Int64) : CtH Ω yL_pass cL_pass 4 (some .int) [(0, 9, 12, 13), (0, 9, 15, 15)] (rkc 9 1 6) [.ref (lay 0 0), .int (iv t), .ref o] (OnO Ω o f (InvC Ω lay ms ns nc nl ξ σ τ)) hR (WR Ω o f (psK σ t) ((iv ((hours ns nc nl (σ, τ) t.toNat).1 1 0)).toInt64) (InvC Ω lay ms ns nc nl (hoursX ns nc nl ξ (σ, τ) t.toNat) (hours ns nc nl (σ, τ) t.toNat).1 (hours ns nc nl (σ, τ) t.toNat).2) (InvC Ω lay ms ns nc nl ξ σ τ)) := by
  refine CtH.of (own := RL) (L := [(0, _), (1, _), (2, _)]) (by decide +kernel) rfl (Nat.le_of_ble_eq_true rfl) rfl ?_
  intro κ C hn E
  refine y_aload_n (pc := 0) C dL_pass_0 2 rfl ?_
  refine y_iconst (pc := 1) C dL_pass_1 ?_
  refine y_aload_n (pc := 2) C dL_pass_2 0 rfl ?_
  refine y_iload_n (pc := 3) C dL_pass_3 1 rfl ?_
  refine y_callVX (pc := 4) (As := [_]) C E.2.1 cv_L_50 (ci := 5) rfl rfl (Ct.frame1 (x := oO Ω f) (mg_pass hwf hms t h_t hf)) (fun h9 ⟨h1, q1, q2, q3⟩ => ⟨_, (congrFun q3 _).trans ((hset_n (nn_of q1.gas q2)).trans q1.gas)⟩) rfl rfl (Nat.le_of_ble_eq_true rfl) ⟨by decide, by decide, by decide, by decide⟩ dL_pass_4 (fun rv => Y.imp (fun h hh => wr_ok hh) ?_) (fun E0 => YX.imp (fun h hh => wr_x2 hh) ?_)
  · refine Y.and fun hK => Y.and fun er => ?_
    subst er
    refine y_i2lR (pc := 7) C dL_pass_7 ?_
    refine y_last (pc := 8) (Φ' := OnO Ω o (vp_updL f 0 _) (InvC Ω lay ms ns nc nl (hoursX ns nc nl ξ (σ, τ) t.toNat) (hours ns nc nl (σ, τ) t.toNat).1 (hours ns nc nl (σ, τ) t.toNat).2)) C dL_pass_8 (by decide) (by decide) (fun h hh => ⟨1, f, (ono_at (v := 0) hh).1, by decide, (ono_at hh).2⟩) ?_
    refine y_goto (pc := 9) (tgt := 18) C dL_pass_9 (by decide) ?_
    refine y_iconst (pc := 18) C dL_pass_18 ?_
    exact y_iretH (pc := 19) C E dL_pass_19 (by decide) (by decide) (fun h hh => ⟨by rw [hK], Or.inl ⟨hK, hh⟩⟩)
  · refine YX.or ?_ ?_
    · refine YX.and fun eE => YX.and fun hK => ?_
      subst eE
      refine y_catch (pc := 4) C E [] ⟨0, 9, 12, 13⟩ [⟨0, 9, 15, 15⟩] rfl (fun z hz => by cases hz) (by decide) (by decide) aw_1_104 (nw_in nw_1_123 rfl) (fun q => ?_)
      refine y_astore_n (pc := 12) (L' := [(3, _), (0, _), (1, _), (2, _)]) C dL_pass_12 (by rw [hn]; decide) rfl ?_
      refine y_iconst (pc := 13) C dL_pass_13 ?_
      exact y_iretH (pc := 14) C E dL_pass_14 (by decide) (by decide) (fun h hh => ⟨by rw [hK], Or.inr ⟨by rw [hK]; decide, hh⟩⟩)
    · refine YX.and fun eE => YX.and fun hK => ?_
      subst eE
      refine y_catch (pc := 4) C E [⟨0, 9, 12, 13⟩] ⟨0, 9, 15, 15⟩ [] rfl (fun z hz => by rw [List.mem_singleton] at hz; subst hz; exact Or.inr ⟨by decide, _, aw_1_104, by decide⟩) (by decide) (by decide) aw_1_105 (nw_in nw_1_195 rfl) (fun q => ?_)
      refine y_astore_n (pc := 15) (L' := [(3, _), (0, _), (1, _), (2, _)]) C dL_pass_15 (by rw [hn]; decide) rfl ?_
      refine y_iconst (pc := 16) C dL_pass_16 ?_
      exact y_iretH (pc := 17) C E dL_pass_17 (by decide) (by decide) (fun h hh => ⟨by rw [hK], Or.inr ⟨by rw [hK]; decide, hh⟩⟩)

set_option maxRecDepth 20000 in
theorem wl_pressure {Ω : OmT} {hR : AH} {lay : Nat → Nat → Nat} {ξ : XiT} {ms ns nc nl : Nat} {σ : ZT} {τ : JT} (hwf : Wf σ ns nc nl) (hms : ns ≤ ms) (x : Int) (h_x : -2147483648 ≤ x ∧ x < 2147483648)  (o : Nat) (f : Nat → Int64) : CtH Ω yL_pressure cL_pressure 4 (some .int) [(0, 9, 12, 21)] (rkc 9 1 6) [.ref (lay 0 0), .int (iv x), .ref o] (OnO Ω o f (InvC Ω lay ms ns nc nl ξ σ τ)) hR (WR Ω o f (soK σ x) ((iv (pressZ σ x.toNat)).toInt64) (InvC Ω lay ms ns nc nl ξ σ τ) (InvC Ω lay ms ns nc nl ξ σ τ)) := by
  refine CtH.of (own := RL) (L := [(0, _), (1, _), (2, _)]) (by decide +kernel) rfl (Nat.le_of_ble_eq_true rfl) rfl ?_
  intro κ C hn E
  refine y_aload_n (pc := 0) C dL_pressure_0 2 rfl ?_
  refine y_iconst (pc := 1) C dL_pressure_1 ?_
  refine y_aload_n (pc := 2) C dL_pressure_2 0 rfl ?_
  refine y_iload_n (pc := 3) C dL_pressure_3 1 rfl ?_
  refine y_callVX (pc := 4) (As := [_]) C E.2.1 cv_L_53 (ci := 5) rfl rfl (Ct.frame1 (x := oO Ω f) (mg_pressure hwf hms x h_x)) (fun h9 ⟨h1, q1, q2, q3⟩ => ⟨_, (congrFun q3 _).trans ((hset_n (nn_of q1.gas q2)).trans q1.gas)⟩) rfl rfl (Nat.le_of_ble_eq_true rfl) ⟨by decide, by decide, by decide, by decide⟩ dL_pressure_4 (fun rv => Y.imp (fun h hh => wr_ok hh) ?_) (fun E0 => YX.imp (fun h hh => wr_x1 hh) ?_)
  · refine Y.and fun hK => Y.and fun er => ?_
    subst er
    refine y_i2lR (pc := 7) C dL_pressure_7 ?_
    refine y_last (pc := 8) (Φ' := OnO Ω o (vp_updL f 0 _) (InvC Ω lay ms ns nc nl ξ σ τ)) C dL_pressure_8 (by decide) (by decide) (fun h hh => ⟨1, f, (ono_at (v := 0) hh).1, by decide, (ono_at hh).2⟩) ?_
    refine y_goto (pc := 9) (tgt := 15) C dL_pressure_9 (by decide) ?_
    refine y_iconst (pc := 15) C dL_pressure_15 ?_
    exact y_iretH (pc := 16) C E dL_pressure_16 (by decide) (by decide) (fun h hh => ⟨by rw [hK], Or.inl ⟨hK, hh⟩⟩)
  · refine YX.and fun eE => YX.and fun hK => ?_
    subst eE
    refine y_catch (pc := 4) C E [] ⟨0, 9, 12, 21⟩ [] rfl (fun z hz => by cases hz) (by decide) (by decide) aw_2_81 (nw_in nw_2_92 rfl) (fun q => ?_)
    refine y_astore_n (pc := 12) (L' := [(3, _), (0, _), (1, _), (2, _)]) C dL_pressure_12 (by rw [hn]; decide) rfl ?_
    refine y_iconst (pc := 13) C dL_pressure_13 ?_
    exact y_iretH (pc := 14) C E dL_pressure_14 (by decide) (by decide) (fun h hh => ⟨by rw [hK], Or.inr ⟨by rw [hK]; decide, hh⟩⟩)

set_option maxRecDepth 20000 in
theorem wl_rate {Ω : OmT} {hR : AH} {lay : Nat → Nat → Nat} {ξ : XiT} {ms ns nc nl : Nat} {σ : ZT} {τ : JT} (hwf : Wf σ ns nc nl) (hms : ns ≤ ms) (x : Int) (h_x : -2147483648 ≤ x ∧ x < 2147483648) (b : Bool) (o : Nat) (f : Nat → Int64) : CtH Ω yL_rate cL_rate 5 (some .int) [(0, 10, 13, 21)] (rkc 9 1 6) [.ref (lay 0 0), .int (iv x), .int (iv (bz b)), .ref o] (OnO Ω o f (InvC Ω lay ms ns nc nl ξ σ τ)) hR (WR Ω o f (soK σ x) ((iv (rateZ σ x.toNat b)).toInt64) (InvC Ω lay ms ns nc nl ξ σ τ) (InvC Ω lay ms ns nc nl ξ σ τ)) := by
  refine CtH.of (own := RL) (L := [(0, _), (1, _), (2, _), (3, _)]) (by decide +kernel) rfl (Nat.le_of_ble_eq_true rfl) rfl ?_
  intro κ C hn E
  refine y_aload_n (pc := 0) C dL_rate_0 3 rfl ?_
  refine y_iconst (pc := 1) C dL_rate_1 ?_
  refine y_aload_n (pc := 2) C dL_rate_2 0 rfl ?_
  refine y_iload_n (pc := 3) C dL_rate_3 1 rfl ?_
  refine y_iload_n (pc := 4) C dL_rate_4 2 rfl ?_
  refine y_callVX (pc := 5) (As := [_, _]) C E.2.1 cv_L_56 (ci := 5) rfl rfl (Ct.frame1 (x := oO Ω f) (mg_rate hwf hms x h_x b)) (fun h9 ⟨h1, q1, q2, q3⟩ => ⟨_, (congrFun q3 _).trans ((hset_n (nn_of q1.gas q2)).trans q1.gas)⟩) rfl rfl (Nat.le_of_ble_eq_true rfl) ⟨by decide, by decide, by decide, by decide⟩ dL_rate_5 (fun rv => Y.imp (fun h hh => wr_ok hh) ?_) (fun E0 => YX.imp (fun h hh => wr_x1 hh) ?_)
  · refine Y.and fun hK => Y.and fun er => ?_
    subst er
    refine y_i2lR (pc := 8) C dL_rate_8 ?_
    refine y_last (pc := 9) (Φ' := OnO Ω o (vp_updL f 0 _) (InvC Ω lay ms ns nc nl ξ σ τ)) C dL_rate_9 (by decide) (by decide) (fun h hh => ⟨1, f, (ono_at (v := 0) hh).1, by decide, (ono_at hh).2⟩) ?_
    refine y_goto (pc := 10) (tgt := 17) C dL_rate_10 (by decide) ?_
    refine y_iconst (pc := 17) C dL_rate_17 ?_
    exact y_iretH (pc := 18) C E dL_rate_18 (by decide) (by decide) (fun h hh => ⟨by rw [hK], Or.inl ⟨hK, hh⟩⟩)
  · refine YX.and fun eE => YX.and fun hK => ?_
    subst eE
    refine y_catch (pc := 5) C E [] ⟨0, 10, 13, 21⟩ [] rfl (fun z hz => by cases hz) (by decide) (by decide) aw_2_81 (nw_in nw_2_92 rfl) (fun q => ?_)
    refine y_astore (pc := 13) (L' := [(4, _), (0, _), (1, _), (2, _), (3, _)]) C dL_rate_13 (by rw [hn]; decide) rfl ?_
    refine y_iconst (pc := 15) C dL_rate_15 ?_
    exact y_iretH (pc := 16) C E dL_rate_16 (by decide) (by decide) (fun h hh => ⟨by rw [hK], Or.inr ⟨by rw [hK]; decide, hh⟩⟩)

set_option maxRecDepth 20000 in
theorem wl_mix {Ω : OmT} {hR : AH} {lay : Nat → Nat → Nat} {ξ : XiT} {ms ns nc nl : Nat} {σ : ZT} {τ : JT} (hwf : Wf σ ns nc nl) (hms : ns ≤ ms) (x : Int) (h_x : -2147483648 ≤ x ∧ x < 2147483648)  (o : Nat) (f : Nat → Int64) : CtH Ω yL_mix cL_mix 4 (some .int) [(0, 9, 12, 21)] (rkc 9 1 6) [.ref (lay 0 0), .int (iv x), .ref o] (OnO Ω o f (InvC Ω lay ms ns nc nl ξ σ τ)) hR (WR Ω o f (soK σ x) ((mixI σ τ x.toNat).toInt64) (InvC Ω lay ms ns nc nl ξ σ τ) (InvC Ω lay ms ns nc nl ξ σ τ)) := by
  refine CtH.of (own := RL) (L := [(0, _), (1, _), (2, _)]) (by decide +kernel) rfl (Nat.le_of_ble_eq_true rfl) rfl ?_
  intro κ C hn E
  refine y_aload_n (pc := 0) C dL_mix_0 2 rfl ?_
  refine y_iconst (pc := 1) C dL_mix_1 ?_
  refine y_aload_n (pc := 2) C dL_mix_2 0 rfl ?_
  refine y_iload_n (pc := 3) C dL_mix_3 1 rfl ?_
  refine y_callVX (pc := 4) (As := [_]) C E.2.1 cv_L_60 (ci := 5) rfl rfl (Ct.frame1 (x := oO Ω f) (mg_mix hwf hms x h_x)) (fun h9 ⟨h1, q1, q2, q3⟩ => ⟨_, (congrFun q3 _).trans ((hset_n (nn_of q1.gas q2)).trans q1.gas)⟩) rfl rfl (Nat.le_of_ble_eq_true rfl) ⟨by decide, by decide, by decide, by decide⟩ dL_mix_4 (fun rv => Y.imp (fun h hh => wr_ok hh) ?_) (fun E0 => YX.imp (fun h hh => wr_x1 hh) ?_)
  · refine Y.and fun hK => Y.and fun er => ?_
    subst er
    refine y_i2lR (pc := 7) C dL_mix_7 ?_
    refine y_last (pc := 8) (Φ' := OnO Ω o (vp_updL f 0 _) (InvC Ω lay ms ns nc nl ξ σ τ)) C dL_mix_8 (by decide) (by decide) (fun h hh => ⟨1, f, (ono_at (v := 0) hh).1, by decide, (ono_at hh).2⟩) ?_
    refine y_goto (pc := 9) (tgt := 15) C dL_mix_9 (by decide) ?_
    refine y_iconst (pc := 15) C dL_mix_15 ?_
    exact y_iretH (pc := 16) C E dL_mix_16 (by decide) (by decide) (fun h hh => ⟨by rw [hK], Or.inl ⟨hK, hh⟩⟩)
  · refine YX.and fun eE => YX.and fun hK => ?_
    subst eE
    refine y_catch (pc := 4) C E [] ⟨0, 9, 12, 21⟩ [] rfl (fun z hz => by cases hz) (by decide) (by decide) aw_2_81 (nw_in nw_2_92 rfl) (fun q => ?_)
    refine y_astore_n (pc := 12) (L' := [(3, _), (0, _), (1, _), (2, _)]) C dL_mix_12 (by rw [hn]; decide) rfl ?_
    refine y_iconst (pc := 13) C dL_mix_13 ?_
    exact y_iretH (pc := 14) C E dL_mix_14 (by decide) (by decide) (fun h hh => ⟨by rw [hK], Or.inr ⟨by rw [hK]; decide, hh⟩⟩)

set_option maxRecDepth 20000 in
theorem wl_ofStore {Ω : OmT} {hR : AH} {lay : Nat → Nat → Nat} {ξ : XiT} {ms ns nc nl : Nat} {σ : ZT} {τ : JT} (hwf : Wf σ ns nc nl) (hms : ns ≤ ms) (x : Int) (h_x : -2147483648 ≤ x ∧ x < 2147483648) (w : Int) (h_w : -2147483648 ≤ w ∧ w < 2147483648)  (o : Nat) (f : Nat → Int64) : CtH Ω yL_ofStore cL_ofStore 5 (some .int) [(0, 9, 12, 21), (0, 9, 16, 13)] (rkc 9 2 12) [.ref (lay 0 0), .int (iv x), .int (iv w), .ref o] (OnO Ω o f (InvC Ω lay ms ns nc nl ξ σ τ)) hR (WR Ω o f (osK σ x w) (osR σ τ x.toNat w) (InvC Ω lay ms ns nc nl ξ σ τ) (InvC Ω lay ms ns nc nl ξ σ τ)) := by
  refine CtH.of (own := RL) (L := [(0, _), (1, _), (2, _), (3, _)]) (by decide +kernel) rfl (Nat.le_of_ble_eq_true rfl) rfl ?_
  intro κ C hn E
  refine y_aload_n (pc := 0) C dL_ofStore_0 3 rfl ?_
  refine y_iconst (pc := 1) C dL_ofStore_1 ?_
  refine y_aload_n (pc := 2) C dL_ofStore_2 0 rfl ?_
  refine y_iload_n (pc := 3) C dL_ofStore_3 1 rfl ?_
  refine y_iload_n (pc := 4) C dL_ofStore_4 2 rfl ?_
  refine y_callVX (pc := 5) (As := [_, _]) C E.2.1 cv_L_63 (ci := 5) rfl rfl (Ct.frame1 (x := oO Ω f) (mg_ofStore hwf hms x h_x w h_w)) (fun h9 ⟨h1, q1, q2, q3⟩ => ⟨_, (congrFun q3 _).trans ((hset_n (nn_of q1.gas q2)).trans q1.gas)⟩) rfl rfl (Nat.le_of_ble_eq_true rfl) ⟨by decide, by decide, by decide, by decide⟩ dL_ofStore_5 (fun rv => Y.imp (fun h hh => wr_ok hh) ?_) (fun E0 => YX.imp (fun h hh => wr_x2 hh) ?_)
  · refine Y.and fun hK => Y.and fun er => ?_
    subst er
    refine y_last (pc := 8) (Φ' := OnO Ω o (vp_updL f 0 _) (InvC Ω lay ms ns nc nl ξ σ τ)) C dL_ofStore_8 (by decide) (by decide) (fun h hh => ⟨1, f, (ono_at (v := 0) hh).1, by decide, (ono_at hh).2⟩) ?_
    refine y_goto (pc := 9) (tgt := 20) C dL_ofStore_9 (by decide) ?_
    refine y_iconst (pc := 20) C dL_ofStore_20 ?_
    exact y_iretH (pc := 21) C E dL_ofStore_21 (by decide) (by decide) (fun h hh => ⟨by rw [hK], Or.inl ⟨hK, hh⟩⟩)
  · refine YX.or ?_ ?_
    · refine YX.and fun eE => YX.and fun hK => ?_
      subst eE
      refine y_catch (pc := 5) C E [] ⟨0, 9, 12, 21⟩ [⟨0, 9, 16, 13⟩] rfl (fun z hz => by cases hz) (by decide) (by decide) aw_2_81 (nw_in nw_2_92 rfl) (fun q => ?_)
      refine y_astore (pc := 12) (L' := [(4, _), (0, _), (1, _), (2, _), (3, _)]) C dL_ofStore_12 (by rw [hn]; decide) rfl ?_
      refine y_iconst (pc := 14) C dL_ofStore_14 ?_
      exact y_iretH (pc := 15) C E dL_ofStore_15 (by decide) (by decide) (fun h hh => ⟨by rw [hK], Or.inr ⟨by rw [hK]; decide, hh⟩⟩)
    · refine YX.and fun eE => YX.and fun hK => ?_
      subst eE
      refine y_catch (pc := 5) C E [⟨0, 9, 12, 21⟩] ⟨0, 9, 16, 13⟩ [] rfl (fun z hz => by rw [List.mem_singleton] at hz; subst hz; exact Or.inr ⟨by decide, _, aw_2_81, by decide⟩) (by decide) (by decide) aw_1_104 (nw_in nw_1_123 rfl) (fun q => ?_)
      refine y_astore (pc := 16) (L' := [(4, _), (0, _), (1, _), (2, _), (3, _)]) C dL_ofStore_16 (by rw [hn]; decide) rfl ?_
      refine y_iconst (pc := 18) C dL_ofStore_18 ?_
      exact y_iretH (pc := 19) C E dL_ofStore_19 (by decide) (by decide) (fun h hh => ⟨by rw [hK], Or.inr ⟨by rw [hK]; decide, hh⟩⟩)

set_option maxRecDepth 20000 in
theorem wl_ofCustomer {Ω : OmT} {hR : AH} {lay : Nat → Nat → Nat} {ξ : XiT} {ms ns nc nl : Nat} {σ : ZT} {τ : JT} (hwf : Wf σ ns nc nl) (hms : ns ≤ ms) (x : Int) (h_x : -2147483648 ≤ x ∧ x < 2147483648) (w : Int) (h_w : -2147483648 ≤ w ∧ w < 2147483648)  (o : Nat) (f : Nat → Int64) : CtH Ω yL_ofCustomer cL_ofCustomer 5 (some .int) [(0, 9, 12, 21), (0, 9, 16, 13)] (rkc 9 2 12) [.ref (lay 0 0), .int (iv x), .int (iv w), .ref o] (OnO Ω o f (InvC Ω lay ms ns nc nl ξ σ τ)) hR (WR Ω o f (ocK σ x w) (ocR σ τ x.toNat w) (InvC Ω lay ms ns nc nl ξ σ τ) (InvC Ω lay ms ns nc nl ξ σ τ)) := by
  refine CtH.of (own := RL) (L := [(0, _), (1, _), (2, _), (3, _)]) (by decide +kernel) rfl (Nat.le_of_ble_eq_true rfl) rfl ?_
  intro κ C hn E
  refine y_aload_n (pc := 0) C dL_ofCustomer_0 3 rfl ?_
  refine y_iconst (pc := 1) C dL_ofCustomer_1 ?_
  refine y_aload_n (pc := 2) C dL_ofCustomer_2 0 rfl ?_
  refine y_iload_n (pc := 3) C dL_ofCustomer_3 1 rfl ?_
  refine y_iload_n (pc := 4) C dL_ofCustomer_4 2 rfl ?_
  refine y_callVX (pc := 5) (As := [_, _]) C E.2.1 cv_L_67 (ci := 5) rfl rfl (Ct.frame1 (x := oO Ω f) (mg_ofCustomer hwf hms x h_x w h_w)) (fun h9 ⟨h1, q1, q2, q3⟩ => ⟨_, (congrFun q3 _).trans ((hset_n (nn_of q1.gas q2)).trans q1.gas)⟩) rfl rfl (Nat.le_of_ble_eq_true rfl) ⟨by decide, by decide, by decide, by decide⟩ dL_ofCustomer_5 (fun rv => Y.imp (fun h hh => wr_ok hh) ?_) (fun E0 => YX.imp (fun h hh => wr_x2 hh) ?_)
  · refine Y.and fun hK => Y.and fun er => ?_
    subst er
    refine y_last (pc := 8) (Φ' := OnO Ω o (vp_updL f 0 _) (InvC Ω lay ms ns nc nl ξ σ τ)) C dL_ofCustomer_8 (by decide) (by decide) (fun h hh => ⟨1, f, (ono_at (v := 0) hh).1, by decide, (ono_at hh).2⟩) ?_
    refine y_goto (pc := 9) (tgt := 20) C dL_ofCustomer_9 (by decide) ?_
    refine y_iconst (pc := 20) C dL_ofCustomer_20 ?_
    exact y_iretH (pc := 21) C E dL_ofCustomer_21 (by decide) (by decide) (fun h hh => ⟨by rw [hK], Or.inl ⟨hK, hh⟩⟩)
  · refine YX.or ?_ ?_
    · refine YX.and fun eE => YX.and fun hK => ?_
      subst eE
      refine y_catch (pc := 5) C E [] ⟨0, 9, 12, 21⟩ [⟨0, 9, 16, 13⟩] rfl (fun z hz => by cases hz) (by decide) (by decide) aw_2_81 (nw_in nw_2_92 rfl) (fun q => ?_)
      refine y_astore (pc := 12) (L' := [(4, _), (0, _), (1, _), (2, _), (3, _)]) C dL_ofCustomer_12 (by rw [hn]; decide) rfl ?_
      refine y_iconst (pc := 14) C dL_ofCustomer_14 ?_
      exact y_iretH (pc := 15) C E dL_ofCustomer_15 (by decide) (by decide) (fun h hh => ⟨by rw [hK], Or.inr ⟨by rw [hK]; decide, hh⟩⟩)
    · refine YX.and fun eE => YX.and fun hK => ?_
      subst eE
      refine y_catch (pc := 5) C E [⟨0, 9, 12, 21⟩] ⟨0, 9, 16, 13⟩ [] rfl (fun z hz => by rw [List.mem_singleton] at hz; subst hz; exact Or.inr ⟨by decide, _, aw_2_81, by decide⟩) (by decide) (by decide) aw_1_104 (nw_in nw_1_123 rfl) (fun q => ?_)
      refine y_astore (pc := 16) (L' := [(4, _), (0, _), (1, _), (2, _), (3, _)]) C dL_ofCustomer_16 (by rw [hn]; decide) rfl ?_
      refine y_iconst (pc := 18) C dL_ofCustomer_18 ?_
      exact y_iretH (pc := 19) C E dL_ofCustomer_19 (by decide) (by decide) (fun h hh => ⟨by rw [hK], Or.inr ⟨by rw [hK]; decide, hh⟩⟩)

set_option maxRecDepth 20000 in
theorem wl_flow {Ω : OmT} {hR : AH} {lay : Nat → Nat → Nat} {ξ : XiT} {ms ns nc nl : Nat} {σ : ZT} {τ : JT} (hwf : Wf σ ns nc nl) (hms : ns ≤ ms) (x : Int) (h_x : -2147483648 ≤ x ∧ x < 2147483648) (hf : FlOk ξ σ) (o : Nat) (f : Nat → Int64) : CtH Ω yL_flow cL_flow 4 (some .int) [(0, 9, 12, 21)] (rkc 9 1 6) [.ref (lay 0 0), .int (iv x), .ref o] (OnO Ω o f (InvC Ω lay ms ns nc nl ξ σ τ)) hR (WR Ω o f (scK σ x) ((iv (laysZ σ nc nl ns 36 x.toNat - laysZ σ nc nl ns 37 x.toNat)).toInt64) (InvC Ω lay ms ns nc nl ξ (laysZ σ nc nl ns) (τ)) (InvC Ω lay ms ns nc nl ξ σ τ)) := by
  refine CtH.of (own := RL) (L := [(0, _), (1, _), (2, _)]) (by decide +kernel) rfl (Nat.le_of_ble_eq_true rfl) rfl ?_
  intro κ C hn E
  refine y_aload_n (pc := 0) C dL_flow_0 2 rfl ?_
  refine y_iconst (pc := 1) C dL_flow_1 ?_
  refine y_aload_n (pc := 2) C dL_flow_2 0 rfl ?_
  refine y_iload_n (pc := 3) C dL_flow_3 1 rfl ?_
  refine y_callVX (pc := 4) (As := [_]) C E.2.1 cv_L_70 (ci := 5) rfl rfl (Ct.frame1 (x := oO Ω f) (mg_flow hwf hms x h_x hf)) (fun h9 ⟨h1, q1, q2, q3⟩ => ⟨_, (congrFun q3 _).trans ((hset_n (nn_of q1.gas q2)).trans q1.gas)⟩) rfl rfl (Nat.le_of_ble_eq_true rfl) ⟨by decide, by decide, by decide, by decide⟩ dL_flow_4 (fun rv => Y.imp (fun h hh => wr_ok hh) ?_) (fun E0 => YX.imp (fun h hh => wr_x1 hh) ?_)
  · refine Y.and fun hK => Y.and fun er => ?_
    subst er
    refine y_i2lR (pc := 7) C dL_flow_7 ?_
    refine y_last (pc := 8) (Φ' := OnO Ω o (vp_updL f 0 _) (InvC Ω lay ms ns nc nl ξ (laysZ σ nc nl ns) (τ))) C dL_flow_8 (by decide) (by decide) (fun h hh => ⟨1, f, (ono_at (v := 0) hh).1, by decide, (ono_at hh).2⟩) ?_
    refine y_goto (pc := 9) (tgt := 15) C dL_flow_9 (by decide) ?_
    refine y_iconst (pc := 15) C dL_flow_15 ?_
    exact y_iretH (pc := 16) C E dL_flow_16 (by decide) (by decide) (fun h hh => ⟨by rw [hK], Or.inl ⟨hK, hh⟩⟩)
  · refine YX.and fun eE => YX.and fun hK => ?_
    subst eE
    refine y_catch (pc := 4) C E [] ⟨0, 9, 12, 21⟩ [] rfl (fun z hz => by cases hz) (by decide) (by decide) aw_2_81 (nw_in nw_2_92 rfl) (fun q => ?_)
    refine y_astore_n (pc := 12) (L' := [(3, _), (0, _), (1, _), (2, _)]) C dL_flow_12 (by rw [hn]; decide) rfl ?_
    refine y_iconst (pc := 13) C dL_flow_13 ?_
    exact y_iretH (pc := 14) C E dL_flow_14 (by decide) (by decide) (fun h hh => ⟨by rw [hK], Or.inr ⟨by rw [hK]; decide, hh⟩⟩)

set_option maxRecDepth 20000 in
theorem wl_why {Ω : OmT} {hR : AH} {lay : Nat → Nat → Nat} {ξ : XiT} {ms ns nc nl : Nat} {σ : ZT} {τ : JT} (hwf : Wf σ ns nc nl) (hms : ns ≤ ms) (x : Int) (h_x : -2147483648 ≤ x ∧ x < 2147483648) (hf : FlOk ξ σ) (o : Nat) (f : Nat → Int64) : CtH Ω yL_why cL_why 4 (some .int) [(0, 9, 12, 21)] (rkc 9 1 6) [.ref (lay 0 0), .int (iv x), .ref o] (OnO Ω o f (InvC Ω lay ms ns nc nl ξ σ τ)) hR (WR Ω o f (scK σ x) ((iv (laysZ σ nc nl ns 39 x.toNat)).toInt64) (InvC Ω lay ms ns nc nl ξ (laysZ σ nc nl ns) (τ)) (InvC Ω lay ms ns nc nl ξ σ τ)) := by
  refine CtH.of (own := RL) (L := [(0, _), (1, _), (2, _)]) (by decide +kernel) rfl (Nat.le_of_ble_eq_true rfl) rfl ?_
  intro κ C hn E
  refine y_aload_n (pc := 0) C dL_why_0 2 rfl ?_
  refine y_iconst (pc := 1) C dL_why_1 ?_
  refine y_aload_n (pc := 2) C dL_why_2 0 rfl ?_
  refine y_iload_n (pc := 3) C dL_why_3 1 rfl ?_
  refine y_callVX (pc := 4) (As := [_]) C E.2.1 cv_L_73 (ci := 5) rfl rfl (Ct.frame1 (x := oO Ω f) (mg_why hwf hms x h_x hf)) (fun h9 ⟨h1, q1, q2, q3⟩ => ⟨_, (congrFun q3 _).trans ((hset_n (nn_of q1.gas q2)).trans q1.gas)⟩) rfl rfl (Nat.le_of_ble_eq_true rfl) ⟨by decide, by decide, by decide, by decide⟩ dL_why_4 (fun rv => Y.imp (fun h hh => wr_ok hh) ?_) (fun E0 => YX.imp (fun h hh => wr_x1 hh) ?_)
  · refine Y.and fun hK => Y.and fun er => ?_
    subst er
    refine y_i2lR (pc := 7) C dL_why_7 ?_
    refine y_last (pc := 8) (Φ' := OnO Ω o (vp_updL f 0 _) (InvC Ω lay ms ns nc nl ξ (laysZ σ nc nl ns) (τ))) C dL_why_8 (by decide) (by decide) (fun h hh => ⟨1, f, (ono_at (v := 0) hh).1, by decide, (ono_at hh).2⟩) ?_
    refine y_goto (pc := 9) (tgt := 15) C dL_why_9 (by decide) ?_
    refine y_iconst (pc := 15) C dL_why_15 ?_
    exact y_iretH (pc := 16) C E dL_why_16 (by decide) (by decide) (fun h hh => ⟨by rw [hK], Or.inl ⟨hK, hh⟩⟩)
  · refine YX.and fun eE => YX.and fun hK => ?_
    subst eE
    refine y_catch (pc := 4) C E [] ⟨0, 9, 12, 21⟩ [] rfl (fun z hz => by cases hz) (by decide) (by decide) aw_2_81 (nw_in nw_2_92 rfl) (fun q => ?_)
    refine y_astore_n (pc := 12) (L' := [(3, _), (0, _), (1, _), (2, _)]) C dL_why_12 (by rw [hn]; decide) rfl ?_
    refine y_iconst (pc := 13) C dL_why_13 ?_
    exact y_iretH (pc := 14) C E dL_why_14 (by decide) (by decide) (fun h hh => ⟨by rw [hK], Or.inr ⟨by rw [hK]; decide, hh⟩⟩)

set_option maxRecDepth 20000 in
theorem wl_worth {Ω : OmT} {hR : AH} {lay : Nat → Nat → Nat} {ξ : XiT} {ms ns nc nl : Nat} {σ : ZT} {τ : JT} (hwf : Wf σ ns nc nl) (hms : ns ≤ ms) (x : Int) (h_x : -2147483648 ≤ x ∧ x < 2147483648) (t : Int) (h_t : -2147483648 ≤ t ∧ t < 2147483648) (hpr : PrOk σ) (hxi : ∀ j, ξ.1 j = σ 26 j) (o : Nat) (f : Nat → Int64) : CtH Ω yL_worth cL_worth 5 (some .int) [(0, 9, 12, 21), (0, 9, 16, 13)] (rkc 16 2 12) [.ref (lay 0 0), .int (iv x), .int (iv t), .ref o] (OnO Ω o f (InvC Ω lay ms ns nc nl ξ σ τ)) hR (WR Ω o f (woK σ x t) (jv (bestN σ x.toNat t.toNat (3 ^ t.toNat))) (InvC Ω lay ms ns nc nl ξ σ τ) (InvC Ω lay ms ns nc nl ξ σ τ)) := by
  refine CtH.of (own := RL) (L := [(0, _), (1, _), (2, _), (3, _)]) (by decide +kernel) rfl (Nat.le_of_ble_eq_true rfl) rfl ?_
  intro κ C hn E
  refine y_aload_n (pc := 0) C dL_worth_0 3 rfl ?_
  refine y_iconst (pc := 1) C dL_worth_1 ?_
  refine y_aload_n (pc := 2) C dL_worth_2 0 rfl ?_
  refine y_iload_n (pc := 3) C dL_worth_3 1 rfl ?_
  refine y_iload_n (pc := 4) C dL_worth_4 2 rfl ?_
  refine y_callVX (pc := 5) (As := [_, _]) C E.2.1 cv_L_76 (ci := 5) rfl rfl (Ct.frame1 (x := oO Ω f) (mg_worth hwf hms x h_x t h_t hpr hxi)) (fun h9 ⟨h1, q1, q2, q3⟩ => ⟨_, (congrFun q3 _).trans ((hset_n (nn_of q1.gas q2)).trans q1.gas)⟩) rfl rfl (Nat.le_of_ble_eq_true rfl) ⟨by decide, by decide, by decide, by decide⟩ dL_worth_5 (fun rv => Y.imp (fun h hh => wr_ok hh) ?_) (fun E0 => YX.imp (fun h hh => wr_x2 hh) ?_)
  · refine Y.and fun hK => Y.and fun er => ?_
    subst er
    refine y_last (pc := 8) (Φ' := OnO Ω o (vp_updL f 0 _) (InvC Ω lay ms ns nc nl ξ σ τ)) C dL_worth_8 (by decide) (by decide) (fun h hh => ⟨1, f, (ono_at (v := 0) hh).1, by decide, (ono_at hh).2⟩) ?_
    refine y_goto (pc := 9) (tgt := 20) C dL_worth_9 (by decide) ?_
    refine y_iconst (pc := 20) C dL_worth_20 ?_
    exact y_iretH (pc := 21) C E dL_worth_21 (by decide) (by decide) (fun h hh => ⟨by rw [hK], Or.inl ⟨hK, hh⟩⟩)
  · refine YX.or ?_ ?_
    · refine YX.and fun eE => YX.and fun hK => ?_
      subst eE
      refine y_catch (pc := 5) C E [] ⟨0, 9, 12, 21⟩ [⟨0, 9, 16, 13⟩] rfl (fun z hz => by cases hz) (by decide) (by decide) aw_2_81 (nw_in nw_2_92 rfl) (fun q => ?_)
      refine y_astore (pc := 12) (L' := [(4, _), (0, _), (1, _), (2, _), (3, _)]) C dL_worth_12 (by rw [hn]; decide) rfl ?_
      refine y_iconst (pc := 14) C dL_worth_14 ?_
      exact y_iretH (pc := 15) C E dL_worth_15 (by decide) (by decide) (fun h hh => ⟨by rw [hK], Or.inr ⟨by rw [hK]; decide, hh⟩⟩)
    · refine YX.and fun eE => YX.and fun hK => ?_
      subst eE
      refine y_catch (pc := 5) C E [⟨0, 9, 12, 21⟩] ⟨0, 9, 16, 13⟩ [] rfl (fun z hz => by rw [List.mem_singleton] at hz; subst hz; exact Or.inr ⟨by decide, _, aw_2_81, by decide⟩) (by decide) (by decide) aw_1_104 (nw_in nw_1_123 rfl) (fun q => ?_)
      refine y_astore (pc := 16) (L' := [(4, _), (0, _), (1, _), (2, _), (3, _)]) C dL_worth_16 (by rw [hn]; decide) rfl ?_
      refine y_iconst (pc := 18) C dL_worth_18 ?_
      exact y_iretH (pc := 19) C E dL_worth_19 (by decide) (by decide) (fun h hh => ⟨by rw [hK], Or.inr ⟨by rw [hK]; decide, hh⟩⟩)

set_option maxRecDepth 20000 in
theorem wl_worthAnew {Ω : OmT} {hR : AH} {lay : Nat → Nat → Nat} {ξ : XiT} {ms ns nc nl : Nat} {σ : ZT} {τ : JT} (hwf : Wf σ ns nc nl) (hms : ns ≤ ms) (x : Int) (h_x : -2147483648 ≤ x ∧ x < 2147483648) (t : Int) (h_t : -2147483648 ≤ t ∧ t < 2147483648) (hpr : PrOk σ) (hxi : ∀ j, ξ.1 j = σ 26 j) (o : Nat) (f : Nat → Int64) : CtH Ω yL_worthAnew cL_worthAnew 5 (some .int) [(0, 9, 12, 21), (0, 9, 16, 13)] (rkc 16 2 12) [.ref (lay 0 0), .int (iv x), .int (iv t), .ref o] (OnO Ω o f (InvC Ω lay ms ns nc nl ξ σ τ)) hR (WR Ω o f (woK σ x t) (jv (bestN σ x.toNat t.toNat (3 ^ t.toNat))) (InvC Ω lay ms ns nc nl ξ σ τ) (InvC Ω lay ms ns nc nl ξ σ τ)) := by
  refine CtH.of (own := RL) (L := [(0, _), (1, _), (2, _), (3, _)]) (by decide +kernel) rfl (Nat.le_of_ble_eq_true rfl) rfl ?_
  intro κ C hn E
  refine y_aload_n (pc := 0) C dL_worthAnew_0 3 rfl ?_
  refine y_iconst (pc := 1) C dL_worthAnew_1 ?_
  refine y_aload_n (pc := 2) C dL_worthAnew_2 0 rfl ?_
  refine y_iload_n (pc := 3) C dL_worthAnew_3 1 rfl ?_
  refine y_iload_n (pc := 4) C dL_worthAnew_4 2 rfl ?_
  refine y_callVX (pc := 5) (As := [_, _]) C E.2.1 cv_L_79 (ci := 5) rfl rfl (Ct.frame1 (x := oO Ω f) (mg_worthAnew hwf hms x h_x t h_t hpr hxi)) (fun h9 ⟨h1, q1, q2, q3⟩ => ⟨_, (congrFun q3 _).trans ((hset_n (nn_of q1.gas q2)).trans q1.gas)⟩) rfl rfl (Nat.le_of_ble_eq_true rfl) ⟨by decide, by decide, by decide, by decide⟩ dL_worthAnew_5 (fun rv => Y.imp (fun h hh => wr_ok hh) ?_) (fun E0 => YX.imp (fun h hh => wr_x2 hh) ?_)
  · refine Y.and fun hK => Y.and fun er => ?_
    subst er
    refine y_last (pc := 8) (Φ' := OnO Ω o (vp_updL f 0 _) (InvC Ω lay ms ns nc nl ξ σ τ)) C dL_worthAnew_8 (by decide) (by decide) (fun h hh => ⟨1, f, (ono_at (v := 0) hh).1, by decide, (ono_at hh).2⟩) ?_
    refine y_goto (pc := 9) (tgt := 20) C dL_worthAnew_9 (by decide) ?_
    refine y_iconst (pc := 20) C dL_worthAnew_20 ?_
    exact y_iretH (pc := 21) C E dL_worthAnew_21 (by decide) (by decide) (fun h hh => ⟨by rw [hK], Or.inl ⟨hK, hh⟩⟩)
  · refine YX.or ?_ ?_
    · refine YX.and fun eE => YX.and fun hK => ?_
      subst eE
      refine y_catch (pc := 5) C E [] ⟨0, 9, 12, 21⟩ [⟨0, 9, 16, 13⟩] rfl (fun z hz => by cases hz) (by decide) (by decide) aw_2_81 (nw_in nw_2_92 rfl) (fun q => ?_)
      refine y_astore (pc := 12) (L' := [(4, _), (0, _), (1, _), (2, _), (3, _)]) C dL_worthAnew_12 (by rw [hn]; decide) rfl ?_
      refine y_iconst (pc := 14) C dL_worthAnew_14 ?_
      exact y_iretH (pc := 15) C E dL_worthAnew_15 (by decide) (by decide) (fun h hh => ⟨by rw [hK], Or.inr ⟨by rw [hK]; decide, hh⟩⟩)
    · refine YX.and fun eE => YX.and fun hK => ?_
      subst eE
      refine y_catch (pc := 5) C E [⟨0, 9, 12, 21⟩] ⟨0, 9, 16, 13⟩ [] rfl (fun z hz => by rw [List.mem_singleton] at hz; subst hz; exact Or.inr ⟨by decide, _, aw_2_81, by decide⟩) (by decide) (by decide) aw_1_104 (nw_in nw_1_123 rfl) (fun q => ?_)
      refine y_astore (pc := 16) (L' := [(4, _), (0, _), (1, _), (2, _), (3, _)]) C dL_worthAnew_16 (by rw [hn]; decide) rfl ?_
      refine y_iconst (pc := 18) C dL_worthAnew_18 ?_
      exact y_iretH (pc := 19) C E dL_worthAnew_19 (by decide) (by decide) (fun h hh => ⟨by rw [hK], Or.inr ⟨by rw [hK]; decide, hh⟩⟩)

set_option maxRecDepth 20000 in
theorem wl_of {Ω : OmT} {hR : AH} {lay : Nat → Nat → Nat} {ξ : XiT} {ms ns nc nl : Nat} {σ : ZT} {τ : JT} (hwf : Wf σ ns nc nl) (hms : ns ≤ ms) (w : Int) (h_w : -2147483648 ≤ w ∧ w < 2147483648)  (o : Nat) (f : Nat → Int64) : CtH Ω yL_of cL_of 4 (some .int) [(0, 8, 11, 13)] (rkc 9 1 6) [.ref (lay 0 0), .int (iv w), .ref o] (OnO Ω o f (InvC Ω lay ms ns nc nl ξ σ τ)) hR (WR Ω o f (ofK w) (ofR σ τ ns nc nl w) (InvC Ω lay ms ns nc nl ξ σ τ) (InvC Ω lay ms ns nc nl ξ σ τ)) := by
  refine CtH.of (own := RL) (L := [(0, _), (1, _), (2, _)]) (by decide +kernel) rfl (Nat.le_of_ble_eq_true rfl) rfl ?_
  intro κ C hn E
  refine y_aload_n (pc := 0) C dL_of_0 2 rfl ?_
  refine y_iconst (pc := 1) C dL_of_1 ?_
  refine y_aload_n (pc := 2) C dL_of_2 0 rfl ?_
  refine y_iload_n (pc := 3) C dL_of_3 1 rfl ?_
  refine y_callVX (pc := 4) (As := [_]) C E.2.1 cv_L_82 (ci := 5) rfl rfl (Ct.frame1 (x := oO Ω f) (mg_of hwf hms w h_w)) (fun h9 ⟨h1, q1, q2, q3⟩ => ⟨_, (congrFun q3 _).trans ((hset_n (nn_of q1.gas q2)).trans q1.gas)⟩) rfl rfl (Nat.le_of_ble_eq_true rfl) ⟨by decide, by decide, by decide, by decide⟩ dL_of_4 (fun rv => Y.imp (fun h hh => wr_ok hh) ?_) (fun E0 => YX.imp (fun h hh => wr_x1 hh) ?_)
  · refine Y.and fun hK => Y.and fun er => ?_
    subst er
    refine y_last (pc := 7) (Φ' := OnO Ω o (vp_updL f 0 _) (InvC Ω lay ms ns nc nl ξ σ τ)) C dL_of_7 (by decide) (by decide) (fun h hh => ⟨1, f, (ono_at (v := 0) hh).1, by decide, (ono_at hh).2⟩) ?_
    refine y_goto (pc := 8) (tgt := 14) C dL_of_8 (by decide) ?_
    refine y_iconst (pc := 14) C dL_of_14 ?_
    exact y_iretH (pc := 15) C E dL_of_15 (by decide) (by decide) (fun h hh => ⟨by rw [hK], Or.inl ⟨hK, hh⟩⟩)
  · refine YX.and fun eE => YX.and fun hK => ?_
    subst eE
    refine y_catch (pc := 4) C E [] ⟨0, 8, 11, 13⟩ [] rfl (fun z hz => by cases hz) (by decide) (by decide) aw_1_104 (nw_in nw_1_123 rfl) (fun q => ?_)
    refine y_astore_n (pc := 11) (L' := [(3, _), (0, _), (1, _), (2, _)]) C dL_of_11 (by rw [hn]; decide) rfl ?_
    refine y_iconst (pc := 12) C dL_of_12 ?_
    exact y_iretH (pc := 13) C E dL_of_13 (by decide) (by decide) (fun h hh => ⟨by rw [hK], Or.inr ⟨by rw [hK]; decide, hh⟩⟩)
