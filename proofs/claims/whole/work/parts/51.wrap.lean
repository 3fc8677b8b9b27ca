/-! the calls as the law makes them -/

theorem y_i2lR {Ω : OmT} {κ : KxT} {Φ : AH → Prop} {hR : AH} {cs sl pc : Nat} {L : List (Nat × Value)} {st : List Value} {own : String} {cc : ByteArray} (C : Cx Ω κ own cc) {x : Int32} (dg : decode cc pc = .ok (.i2l, 1)) (k : Y Ω κ Φ hR cs sl (pc + 1) L (.long x.toInt64 :: st)) : Y Ω κ Φ hR cs sl pc L (.int x :: st) := fun h H locs ls a b c d => lv_i2l C.1 C.2.1 dg rfl (k h H locs ls a b c d)

set_option maxRecDepth 20000 in
theorem wl_wells {Ω : OmT} {hR : AH} {lay : Nat → Nat → Nat} {ξ : XiT} {ms ns nc nl : Nat} {σ : ZT} {τ : JT} (hwf : Wf σ ns nc nl) (hms : ns ≤ ms) (x : Int) (h_x : -2147483648 ≤ x ∧ x < 2147483648) (a : Int) (h_a : -2147483648 ≤ a ∧ a < 2147483648) (b : Int) (h_b : -2147483648 ≤ b ∧ b < 2147483648)  (o : Nat) (f : Nat → Int64) : CtH Ω yL_wells cL_wells 6 (some .int) [(0, 12, 15, 21), (0, 12, 19, 13)] (rkc 9 3 18) [.ref (lay 0 0), .int (iv x), .int (iv a), .int (iv b), .ref o] (OnO Ω o f (InvC Ω lay ms ns nc nl ξ σ τ)) hR (WR Ω o f (wlK σ x a b) ((iv (rateZ (wlS x.toNat a b σ) x.toNat false)).toInt64) (InvC Ω lay ms ns nc nl ξ (wlS x.toNat a b σ) (τ)) (InvC Ω lay ms ns nc nl ξ σ τ)) := by
  refine CtH.of (own := RL) (L := [(0, _), (1, _), (2, _), (3, _), (4, _)]) (by decide +kernel) rfl (Nat.le_of_ble_eq_true rfl) rfl ?_
  intro κ C hn E
  refine y_aload (pc := 0) C dL_wells_0 4 rfl ?_
  refine y_iconst (pc := 2) C dL_wells_2 ?_
  refine y_aload_n (pc := 3) C dL_wells_3 0 rfl ?_
  refine y_iload_n (pc := 4) C dL_wells_4 1 rfl ?_
  refine y_iload_n (pc := 5) C dL_wells_5 2 rfl ?_
  refine y_iload_n (pc := 6) C dL_wells_6 3 rfl ?_
  refine y_callVX (pc := 7) (As := [_, _, _]) C E.2.1 cv_L_17 (ci := 5) rfl rfl (Ct.frame1 (x := oO Ω f) (mg_wells hwf hms x h_x a h_a b h_b)) (fun h ⟨h1, a, b, c⟩ => ⟨_, by rw [c, hset_n (nn_of a.gas b)]; exact a.gas⟩) rfl rfl (Nat.le_of_ble_eq_true rfl) ⟨by decide, by decide, by decide, by decide⟩ dL_wells_7 (fun rv => Y.imp (fun h hh => wr_ok hh) ?_) (fun E0 => YX.imp (fun h hh => wr_x2 hh) ?_)
  · refine Y.and fun hK => Y.and fun er => ?_
    subst er
    refine y_i2lR (pc := 10) C dL_wells_10 ?_
    refine y_last (pc := 11) (Φ' := OnO Ω o (vp_updL f 0 _) (InvC Ω lay ms ns nc nl ξ (wlS x.toNat a b σ) (τ))) C dL_wells_11 (by decide) (by decide) (fun h hh => ⟨1, f, (ono_at (v := 0) hh).1, by decide, (ono_at hh).2⟩) ?_
    refine y_goto (pc := 12) (tgt := 23) C dL_wells_12 (by decide) ?_
    refine y_iconst (pc := 23) C dL_wells_23 ?_
    exact y_iretH (pc := 24) C E dL_wells_24 (by decide) (by decide) (fun h hh => ⟨by rw [hK], Or.inl ⟨hK, hh⟩⟩)
  · refine YX.or ?_ ?_
    · refine YX.and fun eE => YX.and fun hK => ?_
      subst eE
      refine y_catch (pc := 7) C E [] ⟨0, 12, 15, 21⟩ [⟨0, 12, 19, 13⟩] rfl (fun z hz => by cases hz) (by decide) (by decide) aw_2_81 (nw_in nw_2_92 rfl) (fun q => ?_)
      refine y_astore (pc := 15) (L' := [(5, _), (0, _), (1, _), (2, _), (3, _), (4, _)]) C dL_wells_15 (by rw [hn]; decide) rfl ?_
      refine y_iconst (pc := 17) C dL_wells_17 ?_
      exact y_iretH (pc := 18) C E dL_wells_18 (by decide) (by decide) (fun h hh => ⟨by rw [hK], Or.inr ⟨by rw [hK]; decide, hh⟩⟩)
    · refine YX.and fun eE => YX.and fun hK => ?_
      subst eE
      refine y_catch (pc := 7) C E [⟨0, 12, 15, 21⟩] ⟨0, 12, 19, 13⟩ [] rfl (fun z hz => by rw [List.mem_singleton] at hz; subst hz; exact Or.inr ⟨by decide, _, aw_2_81, by decide⟩) (by decide) (by decide) aw_1_104 (nw_in nw_1_123 rfl) (fun q => ?_)
      refine y_astore (pc := 19) (L' := [(5, _), (0, _), (1, _), (2, _), (3, _), (4, _)]) C dL_wells_19 (by rw [hn]; decide) rfl ?_
      refine y_iconst (pc := 21) C dL_wells_21 ?_
      exact y_iretH (pc := 22) C E dL_wells_22 (by decide) (by decide) (fun h hh => ⟨by rw [hK], Or.inr ⟨by rw [hK]; decide, hh⟩⟩)

set_option maxRecDepth 20000 in
theorem wl_store {Ω : OmT} {hR : AH} {lay : Nat → Nat → Nat} {ξ : XiT} {ns nc nl : Nat} {σ : ZT} {τ : JT} (hwf : Wf σ ns nc nl) (hms : ns ≤ ns) (hlo : LaO Ω lay) (hbl : Bl σ τ ns nc) (k : Int) (h_k : -2147483648 ≤ k ∧ k < 2147483648) (v : Int) (h_v : -2147483648 ≤ v ∧ v < 2147483648) (g : Int) (h_g : -2147483648 ≤ g ∧ g < 2147483648) (lo : Int) (h_lo : -2147483648 ≤ lo ∧ lo < 2147483648) (gr : Int) (h_gr : -2147483648 ≤ gr ∧ gr < 2147483648) (m : Int) (h_m : -2147483648 ≤ m ∧ m < 2147483648)  (o : Nat) (f : Nat → Int64) : CtH Ω yL_store cL_store 9 (some .int) [(0, 18, 21, 13), (0, 18, 25, 15)] (rkc 12 3 70) [.ref (lay 0 0), .int (iv k), .int (iv v), .int (iv g), .int (iv lo), .int (iv gr), .int (iv m), .ref o] (OnO Ω o f (InvC Ω lay ns ns nc nl ξ σ τ)) hR (WR Ω o f (stK σ k v g lo gr m) ((iv (σ 2 0 + 1 - 1)).toInt64) (fun h => ∃ lay2, lay2 0 0 = lay 0 0 ∧ LaO Ω lay2 ∧ InvC Ω lay2 (ns + 1) (ns + 1) nc nl ξ ((stS ns k v g lo gr m (σ, τ)).1) ((stS ns k v g lo gr m (σ, τ)).2) h) (InvC Ω lay ns ns nc nl ξ σ τ)) := by
  refine CtH.of (own := RL) (L := [(0, _), (1, _), (2, _), (3, _), (4, _), (5, _), (6, _), (7, _)]) (by decide +kernel) rfl (Nat.le_of_ble_eq_true rfl) rfl ?_
  intro κ C hn E
  refine y_aload (pc := 0) C dL_store_0 7 rfl ?_
  refine y_iconst (pc := 2) C dL_store_2 ?_
  refine y_aload_n (pc := 3) C dL_store_3 0 rfl ?_
  refine y_iload_n (pc := 4) C dL_store_4 1 rfl ?_
  refine y_iload_n (pc := 5) C dL_store_5 2 rfl ?_
  refine y_iload_n (pc := 6) C dL_store_6 3 rfl ?_
  refine y_iload (pc := 7) C dL_store_7 4 rfl ?_
  refine y_iload (pc := 9) C dL_store_9 5 rfl ?_
  refine y_iload (pc := 11) C dL_store_11 6 rfl ?_
  refine y_callVX (pc := 13) (As := [_, _, _, _, _, _]) C E.2.1 cv_L_7 (ci := 5) rfl rfl (Ct.frame1 (x := oO Ω f) (mg_store hwf hms k h_k v h_v g h_g lo h_lo gr h_gr m h_m hlo hbl)) (fun h ⟨h1, a, b, c⟩ => ⟨_, by rw [c, hset_n (nn_of a.gas b)]; exact a.gas⟩) rfl rfl (Nat.le_of_ble_eq_true rfl) ⟨by decide, by decide, by decide, by decide⟩ dL_store_13 (fun rv => Y.imp (fun h hh => wr_ok hh) ?_) (fun E0 => YX.imp (fun h hh => wr_x2 hh) ?_)
  · refine Y.and fun hK => Y.and fun er => ?_
    subst er
    refine y_i2lR (pc := 16) C dL_store_16 ?_
    refine y_last (pc := 17) (Φ' := OnO Ω o (vp_updL f 0 _) (fun h => ∃ lay2, lay2 0 0 = lay 0 0 ∧ LaO Ω lay2 ∧ InvC Ω lay2 (ns + 1) (ns + 1) nc nl ξ ((stS ns k v g lo gr m (σ, τ)).1) ((stS ns k v g lo gr m (σ, τ)).2) h)) C dL_store_17 (by decide) (by decide) (fun h hh => ⟨1, f, (ono_at (v := 0) hh).1, by decide, (ono_at hh).2⟩) ?_
    refine y_goto (pc := 18) (tgt := 29) C dL_store_18 (by decide) ?_
    refine y_iconst (pc := 29) C dL_store_29 ?_
    exact y_iretH (pc := 30) C E dL_store_30 (by decide) (by decide) (fun h hh => ⟨by rw [hK], Or.inl ⟨hK, hh⟩⟩)
  · refine YX.or ?_ ?_
    · refine YX.and fun eE => YX.and fun hK => ?_
      subst eE
      refine y_catch (pc := 13) C E [] ⟨0, 18, 21, 13⟩ [⟨0, 18, 25, 15⟩] rfl (fun z hz => by cases hz) (by decide) (by decide) aw_1_104 (nw_in nw_1_123 rfl) (fun q => ?_)
      refine y_astore (pc := 21) (L' := [(8, _), (0, _), (1, _), (2, _), (3, _), (4, _), (5, _), (6, _), (7, _)]) C dL_store_21 (by rw [hn]; decide) rfl ?_
      refine y_iconst (pc := 23) C dL_store_23 ?_
      exact y_iretH (pc := 24) C E dL_store_24 (by decide) (by decide) (fun h hh => ⟨by rw [hK], Or.inr ⟨by rw [hK]; decide, hh⟩⟩)
    · refine YX.and fun eE => YX.and fun hK => ?_
      subst eE
      refine y_catch (pc := 13) C E [⟨0, 18, 21, 13⟩] ⟨0, 18, 25, 15⟩ [] rfl (fun z hz => by rw [List.mem_singleton] at hz; subst hz; exact Or.inr ⟨by decide, _, aw_1_104, by decide⟩) (by decide) (by decide) aw_1_105 (nw_in nw_1_195 rfl) (fun q => ?_)
      refine y_astore (pc := 25) (L' := [(8, _), (0, _), (1, _), (2, _), (3, _), (4, _), (5, _), (6, _), (7, _)]) C dL_store_25 (by rw [hn]; decide) rfl ?_
      refine y_iconst (pc := 27) C dL_store_27 ?_
      exact y_iretH (pc := 28) C E dL_store_28 (by decide) (by decide) (fun h hh => ⟨by rw [hK], Or.inr ⟨by rw [hK]; decide, hh⟩⟩)
