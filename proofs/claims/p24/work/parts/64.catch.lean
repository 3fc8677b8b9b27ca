/-! the law's methods that catch -/
def WQ1 (K : Int) (v : Value) (A B : AH → Prop) (ks : Int) : Option Value → AH → Prop := fun rv h => (K = 0 ∧ rv = some v ∧ A h) ∨ (K = ks ∧ rv = some (.int (iv (-200))) ∧ B h)
def WQ2 (K : Int) (v : Value) (A B : AH → Prop) (ks ka : Int) : Option Value → AH → Prop := fun rv h => (K = 0 ∧ rv = some v ∧ A h) ∨ (K = ks ∧ rv = some (.int (iv (-200))) ∧ B h) ∨ (K = ka ∧ rv = some (.int (iv (-300))) ∧ B h)
theorem xt2 {K k1 k2 : Int} {B : AH → Prop} {E0 E1 E2 : String} {h : AH} (q : XT K [(E1, k1), (E2, k2)] B E0 h) : (E0 = E1 ∧ K = k1 ∧ B h) ∨ (E0 = E2 ∧ K = k2 ∧ B h) := by
  obtain ⟨k, m, e, b⟩ := q
  simp only [List.mem_cons, List.not_mem_nil, or_false, Prod.mk.injEq] at m
  exact m.imp (fun w => ⟨w.1, by rw [e, w.2], b⟩) (fun w => ⟨w.1, by rw [e, w.2], b⟩)
theorem xt3 {K k1 k2 k3 : Int} {B : AH → Prop} {E0 E1 E2 E3 : String} {h : AH} (q : XT K [(E1, k1), (E2, k2), (E3, k3)] B E0 h) : (E0 = E1 ∧ K = k1 ∧ B h) ∨ (E0 = E2 ∧ K = k2 ∧ B h) ∨ (E0 = E3 ∧ K = k3 ∧ B h) := by
  obtain ⟨k, m, e, b⟩ := q
  simp only [List.mem_cons, List.not_mem_nil, or_false, Prod.mk.injEq] at m
  exact m.imp (fun w => ⟨w.1, by rw [e, w.2], b⟩) (fun w => w.imp (fun w => ⟨w.1, by rw [e, w.2], b⟩) (fun w => ⟨w.1, by rw [e, w.2], b⟩))

set_option maxRecDepth 20000 in
theorem wl_stores {Ω : OmT} {hR : AH} {lay : Nat → Nat → Nat} {ξ : XiT} {ns nc nl : Nat} {σ : ZT} {τ : JT} (hwf : Wf σ ns nc nl) (hms : ns ≤ ns) (hlo : LaO Ω lay) (hbl : Bl σ τ ns nc) (k : Int) (h_k : -2147483648 ≤ k ∧ k < 2147483648) (v : Int) (h_v : -2147483648 ≤ v ∧ v < 2147483648) (g : Int) (h_g : -2147483648 ≤ g ∧ g < 2147483648) (lo : Int) (h_lo : -2147483648 ≤ lo ∧ lo < 2147483648) (gr : Int) (h_gr : -2147483648 ≤ gr ∧ gr < 2147483648) (m : Int) (h_m : -2147483648 ≤ m ∧ m < 2147483648) : CtH Ω yL_stores cL_stores 8 (some .int) [(0, 13, 14, 16), (0, 13, 20, 18)] (rkc 12 2 60) [.ref (lay 0 0), .int (iv k), .int (iv v), .int (iv g), .int (iv lo), .int (iv gr), .int (iv m)] (InvC Ω lay ns ns nc nl ξ σ τ) hR (WQ2 (stK σ k v g lo gr m) (.int (iv (σ 2 0 + 1 - 1))) (fun h => ∃ lay2, lay2 0 0 = lay 0 0 ∧ LaO Ω lay2 ∧ InvC Ω lay2 (ns + 1) (ns + 1) nc nl ξ ((stS ns k v g lo gr m (σ, τ)).1) ((stS ns k v g lo gr m (σ, τ)).2) h) (InvC Ω lay ns ns nc nl ξ σ τ) 2 1) := by
  refine CtH.of (own := RL) (L := [(0, _), (1, _), (2, _), (3, _), (4, _), (5, _), (6, _)]) (by decide +kernel) rfl (Nat.le_of_ble_eq_true rfl) rfl ?_
  intro κ C hn E
  refine y_aload_n (pc := 0) C dL_stores_0 0 rfl ?_
  refine y_iload_n (pc := 1) C dL_stores_1 1 rfl ?_
  refine y_iload_n (pc := 2) C dL_stores_2 2 rfl ?_
  refine y_iload_n (pc := 3) C dL_stores_3 3 rfl ?_
  refine y_iload (pc := 4) C dL_stores_4 4 rfl ?_
  refine y_iload (pc := 6) C dL_stores_6 5 rfl ?_
  refine y_iload (pc := 8) C dL_stores_8 6 rfl ?_
  refine y_callVX (pc := 10) (As := [_, _, _, _, _, _]) C E.2.1 cv_L_10 (ci := 5) rfl rfl (mg_store hwf hms k h_k v h_v g h_g lo h_lo gr h_gr m h_m hlo hbl) (fun h q => ⟨_, q.gas⟩) rfl rfl (Nat.le_of_ble_eq_true rfl) ⟨by decide, by decide, by decide, by decide⟩ dL_stores_10 (fun rv => Y.and fun hK => Y.and fun er => ?_) (fun E0 => YX.imp (fun h hh => xt2 hh) ?_)
  · subst er
    exact y_iretH (pc := 13) C E dL_stores_13 (by decide) (by decide) (fun h hh => Or.inl ⟨hK, rfl, hh⟩)
  · refine YX.or ?_ ?_
    · refine YX.and fun eE => YX.and fun hK => ?_
      subst eE
      refine y_catch (pc := 10) C E [⟨0, 13, 14, 16⟩] ⟨0, 13, 20, 18⟩ [] rfl (fun z hz => by rw [List.mem_singleton] at hz; subst hz; exact Or.inr ⟨by decide, _, aw_1_226, by decide⟩) (by decide) (by decide) aw_1_227 (nw_in nw_1_145 rfl) (fun q => ?_)
      refine y_astore (pc := 20) (L' := [(7, _), (0, _), (1, _), (2, _), (3, _), (4, _), (5, _), (6, _)]) C dL_stores_20 (by rw [hn]; decide) rfl ?_
      refine y_sipush (pc := 22) (z := (-300)) C dL_stores_22 (by decide) ?_
      exact y_iretH (pc := 25) C E dL_stores_25 (by decide) (by decide) (fun h hh => Or.inr (Or.inr ⟨hK, rfl, hh⟩))
    · refine YX.and fun eE => YX.and fun hK => ?_
      subst eE
      refine y_catch (pc := 10) C E [] ⟨0, 13, 14, 16⟩ [⟨0, 13, 20, 18⟩] rfl (fun z hz => by cases hz) (by decide) (by decide) aw_1_226 (nw_in nw_2_3 rfl) (fun q => ?_)
      refine y_astore (pc := 14) (L' := [(7, _), (0, _), (1, _), (2, _), (3, _), (4, _), (5, _), (6, _)]) C dL_stores_14 (by rw [hn]; decide) rfl ?_
      refine y_sipush (pc := 16) (z := (-200)) C dL_stores_16 (by decide) ?_
      exact y_iretH (pc := 19) C E dL_stores_19 (by decide) (by decide) (fun h hh => Or.inr (Or.inl ⟨hK, rfl, hh⟩))

set_option maxRecDepth 20000 in
theorem wl_comes {Ω : OmT} {hR : AH} {lay : Nat → Nat → Nat} {ξ : XiT} {ns nc nl : Nat} {σ : ZT} {τ : JT} (hwf : Wf σ ns nc nl) (hms : ns ≤ ns) (hlo : LaO Ω lay) (hbl : Bl σ τ ns nc) (v : Int) (h_v : -2147483648 ≤ v ∧ v < 2147483648) (i : Int) (h_i : -2147483648 ≤ i ∧ i < 2147483648) (p : Int) (h_p : -2147483648 ≤ p ∧ p < 2147483648) (r : Int) (h_r : -2147483648 ≤ r ∧ r < 2147483648) (hk1 : cuK σ v i p r ≠ 1) : CtH Ω yL_comes cL_comes 6 (some .int) [(0, 9, 10, 16)] (rkc 12 4 160) [.ref (lay 0 0), .int (iv v), .int (iv i), .int (iv p), .int (iv r)] (InvC Ω lay ns ns nc nl ξ σ τ) hR (WQ1 (cuK σ v i p r) (.int (iv (σ 16 0 + 1 - 1))) (fun h => ∃ lay2, lay2 0 0 = lay 0 0 ∧ LaO Ω lay2 ∧ InvC Ω lay2 ns ns (nc + 1) nl ξ (cuS nc v i p r σ) (τ) h) (InvC Ω lay ns ns nc nl ξ σ τ) 2) := by
  refine CtH.of (own := RL) (L := [(0, _), (1, _), (2, _), (3, _), (4, _)]) (by decide +kernel) rfl (Nat.le_of_ble_eq_true rfl) rfl ?_
  intro κ C hn E
  refine y_aload_n (pc := 0) C dL_comes_0 0 rfl ?_
  refine y_iload_n (pc := 1) C dL_comes_1 1 rfl ?_
  refine y_iload_n (pc := 2) C dL_comes_2 2 rfl ?_
  refine y_iload_n (pc := 3) C dL_comes_3 3 rfl ?_
  refine y_iload (pc := 4) C dL_comes_4 4 rfl ?_
  refine y_callVX (pc := 6) (As := [_, _, _, _]) C E.2.1 cv_L_20 (ci := 5) rfl rfl (mg_customer hwf hms v h_v i h_i p h_p r h_r hlo hbl) (fun h q => ⟨_, q.gas⟩) rfl rfl (Nat.le_of_ble_eq_true rfl) ⟨by decide, by decide, by decide, by decide⟩ dL_comes_6 (fun rv => Y.and fun hK => Y.and fun er => ?_) (fun E0 => YX.imp (fun h hh => xt2 hh) ?_)
  · subst er
    exact y_iretH (pc := 9) C E dL_comes_9 (by decide) (by decide) (fun h hh => Or.inl ⟨hK, rfl, hh⟩)
  · refine YX.or ?_ ?_
    · refine YX.and fun eE => YX.and fun hK => ?_
      exact absurd hK hk1
    · refine YX.and fun eE => YX.and fun hK => ?_
      subst eE
      refine y_catch (pc := 6) C E [] ⟨0, 9, 10, 16⟩ [] rfl (fun z hz => by cases hz) (by decide) (by decide) aw_1_226 (nw_in nw_2_3 rfl) (fun q => ?_)
      refine y_astore (pc := 10) (L' := [(5, _), (0, _), (1, _), (2, _), (3, _), (4, _)]) C dL_comes_10 (by rw [hn]; decide) rfl ?_
      refine y_sipush (pc := 12) (z := (-200)) C dL_comes_12 (by decide) ?_
      exact y_iretH (pc := 15) C E dL_comes_15 (by decide) (by decide) (fun h hh => Or.inr ⟨hK, rfl, hh⟩)

set_option maxRecDepth 20000 in
theorem wl_moves {Ω : OmT} {hR : AH} {lay : Nat → Nat → Nat} {ξ : XiT} {ms ns nc nl : Nat} {σ : ZT} {τ : JT} (hwf : Wf σ ns nc nl) (hms : ns ≤ ms) (a : Int) (h_a : -2147483648 ≤ a ∧ a < 2147483648) (b : Int) (h_b : -2147483648 ≤ b ∧ b < 2147483648) (u : Int) (h_u : -2147483648 ≤ u ∧ u < 2147483648) (hk1 : trK σ a b u ≠ 1) : CtH Ω yL_moves cL_moves 5 (some .int) [(0, 7, 8, 16), (0, 7, 14, 18)] (rkc 9 3 18) [.ref (lay 0 0), .int (iv a), .int (iv b), .int (iv u)] (InvC Ω lay ms ns nc nl ξ σ τ) hR (WQ2 (trK σ a b u) (.int (iv (trS a.toNat b.toNat u σ 21 b.toNat))) (InvC Ω lay ms ns nc nl ξ (trS a.toNat b.toNat u σ) (τ)) (InvC Ω lay ms ns nc nl ξ σ τ) 3 2) := by
  refine CtH.of (own := RL) (L := [(0, _), (1, _), (2, _), (3, _)]) (by decide +kernel) rfl (Nat.le_of_ble_eq_true rfl) rfl ?_
  intro κ C hn E
  refine y_aload_n (pc := 0) C dL_moves_0 0 rfl ?_
  refine y_iload_n (pc := 1) C dL_moves_1 1 rfl ?_
  refine y_iload_n (pc := 2) C dL_moves_2 2 rfl ?_
  refine y_iload_n (pc := 3) C dL_moves_3 3 rfl ?_
  refine y_callVX (pc := 4) (As := [_, _, _]) C E.2.1 cv_L_24 (ci := 5) rfl rfl (mg_transfer hwf hms a h_a b h_b u h_u) (fun h q => ⟨_, q.gas⟩) rfl rfl (Nat.le_of_ble_eq_true rfl) ⟨by decide, by decide, by decide, by decide⟩ dL_moves_4 (fun rv => Y.and fun hK => Y.and fun er => ?_) (fun E0 => YX.imp (fun h hh => xt3 hh) ?_)
  · subst er
    exact y_iretH (pc := 7) C E dL_moves_7 (by decide) (by decide) (fun h hh => Or.inl ⟨hK, rfl, hh⟩)
  · refine YX.or ?_ (YX.or ?_ ?_)
    · refine YX.and fun eE => YX.and fun hK => ?_
      exact absurd hK hk1
    · refine YX.and fun eE => YX.and fun hK => ?_
      subst eE
      refine y_catch (pc := 4) C E [⟨0, 7, 8, 16⟩] ⟨0, 7, 14, 18⟩ [] rfl (fun z hz => by rw [List.mem_singleton] at hz; subst hz; exact Or.inr ⟨by decide, _, aw_1_226, by decide⟩) (by decide) (by decide) aw_1_227 (nw_in nw_1_145 rfl) (fun q => ?_)
      refine y_astore (pc := 14) (L' := [(4, _), (0, _), (1, _), (2, _), (3, _)]) C dL_moves_14 (by rw [hn]; decide) rfl ?_
      refine y_sipush (pc := 16) (z := (-300)) C dL_moves_16 (by decide) ?_
      exact y_iretH (pc := 19) C E dL_moves_19 (by decide) (by decide) (fun h hh => Or.inr (Or.inr ⟨hK, rfl, hh⟩))
    · refine YX.and fun eE => YX.and fun hK => ?_
      subst eE
      refine y_catch (pc := 4) C E [] ⟨0, 7, 8, 16⟩ [⟨0, 7, 14, 18⟩] rfl (fun z hz => by cases hz) (by decide) (by decide) aw_1_226 (nw_in nw_2_3 rfl) (fun q => ?_)
      refine y_astore (pc := 8) (L' := [(4, _), (0, _), (1, _), (2, _), (3, _)]) C dL_moves_8 (by rw [hn]; decide) rfl ?_
      refine y_sipush (pc := 10) (z := (-200)) C dL_moves_10 (by decide) ?_
      exact y_iretH (pc := 13) C E dL_moves_13 (by decide) (by decide) (fun h hh => Or.inr (Or.inl ⟨hK, rfl, hh⟩))

set_option maxRecDepth 20000 in
theorem wl_leaches {Ω : OmT} {hR : AH} {lay : Nat → Nat → Nat} {ξ : XiT} {ms ns nc nl : Nat} {σ : ZT} {τ : JT} (hwf : Wf σ ns nc nl) (hms : ns ≤ ms) (x : Int) (h_x : -2147483648 ≤ x ∧ x < 2147483648) (u : Int) (h_u : -2147483648 ≤ u ∧ u < 2147483648) (hk1 : lcK σ x u ≠ 1) (hk2 : lcK σ x u ≠ 2) : CtH Ω yL_leaches cL_leaches 4 (some .int) [(0, 6, 7, 16)] (rkc 9 2 12) [.ref (lay 0 0), .int (iv x), .int (iv u)] (InvC Ω lay ms ns nc nl ξ σ τ) hR (WQ1 (lcK σ x u) (.int (iv (zu σ 4 x.toNat (σ 4 x.toNat + u) 4 x.toNat))) (InvC Ω lay ms ns nc nl ξ (zu σ 4 x.toNat (σ 4 x.toNat + u)) (τ)) (InvC Ω lay ms ns nc nl ξ σ τ) 3) := by
  refine CtH.of (own := RL) (L := [(0, _), (1, _), (2, _)]) (by decide +kernel) rfl (Nat.le_of_ble_eq_true rfl) rfl ?_
  intro κ C hn E
  refine y_aload_n (pc := 0) C dL_leaches_0 0 rfl ?_
  refine y_iload_n (pc := 1) C dL_leaches_1 1 rfl ?_
  refine y_iload_n (pc := 2) C dL_leaches_2 2 rfl ?_
  refine y_callVX (pc := 3) (As := [_, _]) C E.2.1 cv_L_28 (ci := 5) rfl rfl (mg_leach hwf hms x h_x u h_u) (fun h q => ⟨_, q.gas⟩) rfl rfl (Nat.le_of_ble_eq_true rfl) ⟨by decide, by decide, by decide, by decide⟩ dL_leaches_3 (fun rv => Y.and fun hK => Y.and fun er => ?_) (fun E0 => YX.imp (fun h hh => xt3 hh) ?_)
  · subst er
    exact y_iretH (pc := 6) C E dL_leaches_6 (by decide) (by decide) (fun h hh => Or.inl ⟨hK, rfl, hh⟩)
  · refine YX.or ?_ (YX.or ?_ ?_)
    · refine YX.and fun eE => YX.and fun hK => ?_
      exact absurd hK hk1
    · refine YX.and fun eE => YX.and fun hK => ?_
      exact absurd hK hk2
    · refine YX.and fun eE => YX.and fun hK => ?_
      subst eE
      refine y_catch (pc := 3) C E [] ⟨0, 6, 7, 16⟩ [] rfl (fun z hz => by cases hz) (by decide) (by decide) aw_1_226 (nw_in nw_2_3 rfl) (fun q => ?_)
      refine y_astore_n (pc := 7) (L' := [(3, _), (0, _), (1, _), (2, _)]) C dL_leaches_7 (by rw [hn]; decide) rfl ?_
      refine y_sipush (pc := 8) (z := (-200)) C dL_leaches_8 (by decide) ?_
      exact y_iretH (pc := 11) C E dL_leaches_11 (by decide) (by decide) (fun h hh => Or.inr ⟨hK, rfl, hh⟩)

set_option maxRecDepth 20000 in
theorem wl_laws {Ω : OmT} {hR : AH} {lay : Nat → Nat → Nat} {ξ : XiT} {ns nc nl : Nat} {σ : ZT} {τ : JT} (hwf : Wf σ ns nc nl) (hms : ns ≤ ns) (hlo : LaO Ω lay) (hbl : Bl σ τ ns nc) (a : Int) (h_a : -2147483648 ≤ a ∧ a < 2147483648) (b : Int) (h_b : -2147483648 ≤ b ∧ b < 2147483648) (l : Int) (h_l : -2147483648 ≤ l ∧ l < 2147483648) (hk1 : lwK σ a b l ≠ 1) : CtH Ω yL_laws cL_laws 5 (some .int) [(0, 7, 8, 16)] (rkc 12 2 60) [.ref (lay 0 0), .int (iv a), .int (iv b), .int (iv l)] (InvC Ω lay ns ns nc nl ξ σ τ) hR (WQ1 (lwK σ a b l) (.int (iv (σ 27 0 + 1))) (fun h => ∃ lay2, lay2 0 0 = lay 0 0 ∧ LaO Ω lay2 ∧ InvC Ω lay2 ns ns nc (nl + 1) ξ (lwS nl a b l σ) (τ) h) (InvC Ω lay ns ns nc nl ξ σ τ) 2) := by
  refine CtH.of (own := RL) (L := [(0, _), (1, _), (2, _), (3, _)]) (by decide +kernel) rfl (Nat.le_of_ble_eq_true rfl) rfl ?_
  intro κ C hn E
  refine y_aload_n (pc := 0) C dL_laws_0 0 rfl ?_
  refine y_iload_n (pc := 1) C dL_laws_1 1 rfl ?_
  refine y_iload_n (pc := 2) C dL_laws_2 2 rfl ?_
  refine y_iload_n (pc := 3) C dL_laws_3 3 rfl ?_
  refine y_callVX (pc := 4) (As := [_, _, _]) C E.2.1 cv_L_32 (ci := 5) rfl rfl (mg_law hwf hms a h_a b h_b l h_l hlo hbl) (fun h q => ⟨_, q.gas⟩) rfl rfl (Nat.le_of_ble_eq_true rfl) ⟨by decide, by decide, by decide, by decide⟩ dL_laws_4 (fun rv => Y.and fun hK => Y.and fun er => ?_) (fun E0 => YX.imp (fun h hh => xt2 hh) ?_)
  · subst er
    exact y_iretH (pc := 7) C E dL_laws_7 (by decide) (by decide) (fun h hh => Or.inl ⟨hK, rfl, hh⟩)
  · refine YX.or ?_ ?_
    · refine YX.and fun eE => YX.and fun hK => ?_
      exact absurd hK hk1
    · refine YX.and fun eE => YX.and fun hK => ?_
      subst eE
      refine y_catch (pc := 4) C E [] ⟨0, 7, 8, 16⟩ [] rfl (fun z hz => by cases hz) (by decide) (by decide) aw_1_226 (nw_in nw_2_3 rfl) (fun q => ?_)
      refine y_astore (pc := 8) (L' := [(4, _), (0, _), (1, _), (2, _), (3, _)]) C dL_laws_8 (by rw [hn]; decide) rfl ?_
      refine y_sipush (pc := 10) (z := (-200)) C dL_laws_10 (by decide) ?_
      exact y_iretH (pc := 13) C E dL_laws_13 (by decide) (by decide) (fun h hh => Or.inr ⟨hK, rfl, hh⟩)
