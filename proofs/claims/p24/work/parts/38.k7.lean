set_option maxRecDepth 20000 in
theorem mg_best0 {Ω : OmT} {hR : AH} {lay : Nat → Nat → Nat} {ξ : XiT} {ms ns nc nl : Nat} {σ : ZT} {τ : JT} (c : Nat) (hc : c < nc) (has : Int) (k : Nat) (h1 : 0 ≤ has ∧ has ≤ σ 17 c) (h2 : CuOk σ c) (h3 : PrOk σ) (hxi : ∀ j, ξ.1 j = σ 26 j) (hNk : nowN σ + k + 0 ≤ 20000) : Ct Ω yX4_bestSum cX4_bestSum 11 (some FieldType.long) (rk 5) [.ref (lay 2 c), .ref (lay 0 4), .int (iv has), .int (iv ((nowN σ + k : Nat) : Int)), .int (iv 0)] (InvC Ω lay ms ns nc nl ξ σ τ) hR (RV (.long (jv (bestV σ c 0 has k))) (InvC Ω lay ms ns nc nl ξ σ τ)) NX := by
  refine Ct.of (own := RX4) (L := [(0, _), (1, _), (2, _), (3, _), (4, _)]) (by decide +kernel) rfl (Nat.le_of_ble_eq_true rfl) rfl ?_
  intro κ C hn E hi
  refine y_iload (pc := 0) C dX4_bestSum_0 4 rfl ?_
  refine y_if_le (pc := 2) (tgt := 12) C dX4_bestSum_2 (by decide) (by omega) (by omega) (fun c2 => ?_) (fun c2 => ?_)
  · skip
    refine y_lconst (pc := 12) (z := 0) C dX4_bestSum_12 (by decide) ?_
    exact y_lret (pc := 13) C E dX4_bestSum_13 (by decide) (by decide) (fun h hh => ⟨rfl, hh⟩)
  · exact absurd (by decide) c2

set_option maxRecDepth 20000 in
theorem mg_best1 {Ω : OmT} {hR : AH} {lay : Nat → Nat → Nat} {ξ : XiT} {ms ns nc nl : Nat} {σ : ZT} {τ : JT} (c : Nat) (hc : c < nc) (has : Int) (k : Nat) (h1 : 0 ≤ has ∧ has ≤ σ 17 c) (h2 : CuOk σ c) (h3 : PrOk σ) (hxi : ∀ j, ξ.1 j = σ 26 j) (hNk : nowN σ + k + 1 ≤ 20000) : Ct Ω yX4_bestSum cX4_bestSum 11 (some FieldType.long) (rk 6) [.ref (lay 2 c), .ref (lay 0 4), .int (iv has), .int (iv ((nowN σ + k : Nat) : Int)), .int (iv 1)] (InvC Ω lay ms ns nc nl ξ σ τ) hR (RV (.long (jv (bestV σ c 1 has k))) (InvC Ω lay ms ns nc nl ξ σ τ)) NX := by
  refine Ct.of (own := RX4) (L := [(0, _), (1, _), (2, _), (3, _), (4, _)]) (by decide +kernel) rfl (Nat.le_of_ble_eq_true rfl) rfl ?_
  intro κ C hn E hi
  have hV : bestV σ c 1 has k = max (max (bestV σ c 0 has (k + 1)) (if 0 < inZ σ c has then bestV σ c 0 (has + inZ σ c has) (k + 1) - inZ σ c has * pricZ σ k else bestV σ c 0 has (k + 1))) (if 0 < outZ σ c has then bestV σ c 0 (has - outZ σ c has) (k + 1) + outZ σ c has * pricZ σ k else bestV σ c 0 has (k + 1)) := rfl
  have hcu := h2
  unfold CuOk at hcu
  have hin := inz_b h2 h1.1 h1.2
  have hou := outz_b h2 h1.1 h1.2
  have hpk : -1000 ≤ pricZ σ k ∧ pricZ σ k ≤ 1000 := h3 _ (Nat.mod_lt _ (by decide))
  have hm1 := mul_b (a := inZ σ c has) (A := 100000) (by omega) (by omega) hpk.1 hpk.2
  have hm2 := mul_b (a := outZ σ c has) (A := 100000) (by omega) (by omega) hpk.1 hpk.2
  have hb0 := bestV_b (l := 0) h2 h3 has (k + 1) h1.1 h1.2
  have hb1 := bestV_b (l := 0) h2 h3 (has + inZ σ c has) (k + 1) (by omega) (by omega)
  have hb2 := bestV_b (l := 0) h2 h3 (has - outZ σ c has) (k + 1) (by omega) (by omega)
  have hn0 := bestV_nn (σ := σ) (c := c) (l := 0) has (k + 1)
  have hn1 := bestV_nn (σ := σ) (c := c) (l := 0) (has + inZ σ c has) (k + 1)
  have hn2 := bestV_nn (σ := σ) (c := c) (l := 0) (has - outZ σ c has) (k + 1)
  refine y_iload (pc := 0) C dX4_bestSum_0 4 rfl ?_
  refine y_if_le (pc := 2) (tgt := 12) C dX4_bestSum_2 (by decide) (by omega) (by omega) (fun c2 => ?_) (fun c2 => ?_)
  · exact absurd c2 (by decide)
  · skip
    refine y_iload (pc := 5) C dX4_bestSum_5 4 rfl ?_
    refine y_bipush (pc := 7) (z := 8) C dX4_bestSum_7 (by decide) ?_
    refine y_icmp_le (pc := 9) (tgt := 14) C dX4_bestSum_9 (by decide) (by omega) (by omega) (by omega) (by omega) (fun c9 => ?_) (fun c9 => ?_)
    · skip
      refine y_aload_n (pc := 14) C dX4_bestSum_14 0 rfl ?_
      refine y_aload_n (pc := 15) C dX4_bestSum_15 1 rfl ?_
      refine y_iload_n (pc := 16) C dX4_bestSum_16 2 rfl ?_
      refine y_iload_n (pc := 17) C dX4_bestSum_17 3 rfl ?_
      refine y_iconst (pc := 18) C dX4_bestSum_18 ?_
      refine y_iadd (pc := 19) C dX4_bestSum_19 ?_
      refine y_iload (pc := 20) C dX4_bestSum_20 4 rfl ?_
      refine y_iconst (pc := 22) C dX4_bestSum_22 ?_
      refine y_isub (pc := 23) C dX4_bestSum_23 ?_
      rw [show ((1 : Int) - 1) = 0 from rfl, show (((nowN σ + k : Nat) : Int) + 1) = ((nowN σ + (k + 1) : Nat) : Int) from rfl]
      refine y_callS (pc := 24) (As := [_, _, _, _, _]) C E.2.1 cs_X4_226 (mg_best0 c hc has (k + 1) h1 h2 h3 hxi (by omega)) rfl rfl (Nat.le_of_ble_eq_true rfl) ⟨by decide, by decide, by decide, by decide⟩ dX4_bestSum_24 ⟨rfl, rfl⟩ ?_
      refine y_lstore (pc := 27) (L' := [(5, _), (0, _), (1, _), (2, _), (3, _), (4, _)]) C dX4_bestSum_27 (by rw [hn]; decide) rfl ?_
      refine y_aload_n (pc := 29) C dX4_bestSum_29 2 rfl ?_
      refine y_iload_n (pc := 30) C dX4_bestSum_30 4 rfl ?_
      refine y_callV (pc := 31) (As := [_]) C E.2.1 cv_X4_326 (ci := 2) rfl rfl (mc_at (lay 0 4) (lay 0 5) ξ.1 (nowN σ + k) (by omega) (fun h hh => hh.pri)) (fun h hh => ⟨_, hh.pri.1⟩) rfl rfl (Nat.le_of_ble_eq_true rfl) ⟨by decide, by decide, by decide, by decide⟩ dX4_bestSum_31 ⟨rfl, rfl⟩ ?_
      rw [show ξ.1 ((nowN σ + k) % 64) = pricZ σ k from hxi _]
      refine y_i2l (pc := 34) C dX4_bestSum_34 (by omega) (by omega) ?_
      refine y_lstore (pc := 35) (L' := [(7, _), (5, _), (0, _), (1, _), (2, _), (3, _), (4, _)]) C dX4_bestSum_35 (by rw [hn]; decide) rfl ?_
      refine y_aload_n (pc := 37) C dX4_bestSum_37 2 rfl ?_
      refine y_iload_n (pc := 38) C dX4_bestSum_38 4 rfl ?_
      refine y_callV (pc := 39) (As := [_]) C E.2.1 cv_X4_329 (ci := 1) rfl rfl (mc_mostIn c hc h2 _ h1) (fun h hh => ⟨_, hh.cus hc⟩) rfl rfl (Nat.le_of_ble_eq_true rfl) ⟨by decide, by decide, by decide, by decide⟩ dX4_bestSum_39 ⟨rfl, rfl⟩ ?_
      refine y_istore (pc := 42) (L' := [(9, _), (7, _), (5, _), (0, _), (1, _), (2, _), (3, _), (4, _)]) C dX4_bestSum_42 (by rw [hn]; decide) rfl ?_
      refine y_iload (pc := 44) C dX4_bestSum_44 0 rfl ?_
      refine y_if_le (pc := 46) (tgt := 79) C dX4_bestSum_46 (by decide) (by omega) (by omega) (fun c46 => ?_) (fun c46 => ?_)
      · skip
        refine y_aload_n (pc := 79) C dX4_bestSum_79 3 rfl ?_
        refine y_iload_n (pc := 80) C dX4_bestSum_80 5 rfl ?_
        refine y_callV (pc := 81) (As := [_]) C E.2.1 cv_X4_332 (ci := 1) rfl rfl (mc_mostOut c hc h2 _ h1) (fun h hh => ⟨_, hh.cus hc⟩) rfl rfl (Nat.le_of_ble_eq_true rfl) ⟨by decide, by decide, by decide, by decide⟩ dX4_bestSum_81 ⟨rfl, rfl⟩ ?_
        refine y_istore (pc := 84) (L' := [(10, _), (9, _), (7, _), (5, _), (0, _), (1, _), (2, _), (3, _), (4, _)]) C dX4_bestSum_84 (by rw [hn]; decide) rfl ?_
        refine y_iload (pc := 86) C dX4_bestSum_86 0 rfl ?_
        refine y_if_le (pc := 88) (tgt := 121) C dX4_bestSum_88 (by decide) (by omega) (by omega) (fun c88 => ?_) (fun c88 => ?_)
        · skip
          refine y_lload (pc := 121) C dX4_bestSum_121 3 rfl ?_
          exact y_lret (pc := 123) C E dX4_bestSum_123 (by decide) (by decide) (fun h hh => ⟨by rw [hV]; refine congrArg (fun v => some (Value.long (jv v))) ?_; split <;> split <;> omega, hh⟩)
        · skip
          refine y_lload (pc := 91) C dX4_bestSum_91 3 rfl ?_
          refine y_aload_n (pc := 93) C dX4_bestSum_93 4 rfl ?_
          refine y_aload_n (pc := 94) C dX4_bestSum_94 5 rfl ?_
          refine y_iload_n (pc := 95) C dX4_bestSum_95 6 rfl ?_
          refine y_iload (pc := 96) C dX4_bestSum_96 0 rfl ?_
          refine y_isub (pc := 98) C dX4_bestSum_98 ?_
          refine y_iload_n (pc := 99) C dX4_bestSum_99 7 rfl ?_
          refine y_iconst (pc := 100) C dX4_bestSum_100 ?_
          refine y_iadd (pc := 101) C dX4_bestSum_101 ?_
          refine y_iload (pc := 102) C dX4_bestSum_102 8 rfl ?_
          refine y_iconst (pc := 104) C dX4_bestSum_104 ?_
          refine y_isub (pc := 105) C dX4_bestSum_105 ?_
          rw [show ((1 : Int) - 1) = 0 from rfl, show (((nowN σ + k : Nat) : Int) + 1) = ((nowN σ + (k + 1) : Nat) : Int) from rfl]
          refine y_callS (pc := 106) (As := [_, _, _, _, _]) C E.2.1 cs_X4_226 (mg_best0 c hc (has - outZ σ c has) (k + 1) ⟨by omega, by omega⟩ h2 h3 hxi (by omega)) rfl rfl (Nat.le_of_ble_eq_true rfl) ⟨by decide, by decide, by decide, by decide⟩ dX4_bestSum_106 ⟨rfl, rfl⟩ ?_
          refine y_iload (pc := 109) C dX4_bestSum_109 0 rfl ?_
          refine y_i2l (pc := 111) C dX4_bestSum_111 (by omega) (by omega) ?_
          refine y_lload (pc := 112) C dX4_bestSum_112 2 rfl ?_
          refine y_lmul (pc := 114) C dX4_bestSum_114 ?_
          refine y_ladd (pc := 115) C dX4_bestSum_115 ?_
          refine y_maxL (pc := 116) C E.2.1 cs_X4_234.1 cs_X4_234.2.1 cs_X4_234.2.2.1 cs_X4_234.2.2.2.1 (by decide) (Nat.le_of_ble_eq_true rfl) (by decide) (by decide) (by omega) (by omega) (by omega) (by omega) dX4_bestSum_116 ?_
          refine y_lstore (pc := 119) (L' := [(5, _), (10, _), (9, _), (7, _), (0, _), (1, _), (2, _), (3, _), (4, _)]) C dX4_bestSum_119 (by rw [hn]; decide) rfl ?_
          refine y_lload (pc := 121) C dX4_bestSum_121 0 rfl ?_
          exact y_lret (pc := 123) C E dX4_bestSum_123 (by decide) (by decide) (fun h hh => ⟨by rw [hV]; refine congrArg (fun v => some (Value.long (jv v))) ?_; split <;> split <;> omega, hh⟩)
      · skip
        refine y_lload (pc := 49) C dX4_bestSum_49 2 rfl ?_
        refine y_aload_n (pc := 51) C dX4_bestSum_51 3 rfl ?_
        refine y_aload_n (pc := 52) C dX4_bestSum_52 4 rfl ?_
        refine y_iload_n (pc := 53) C dX4_bestSum_53 5 rfl ?_
        refine y_iload (pc := 54) C dX4_bestSum_54 0 rfl ?_
        refine y_iadd (pc := 56) C dX4_bestSum_56 ?_
        refine y_iload_n (pc := 57) C dX4_bestSum_57 6 rfl ?_
        refine y_iconst (pc := 58) C dX4_bestSum_58 ?_
        refine y_iadd (pc := 59) C dX4_bestSum_59 ?_
        refine y_iload (pc := 60) C dX4_bestSum_60 7 rfl ?_
        refine y_iconst (pc := 62) C dX4_bestSum_62 ?_
        refine y_isub (pc := 63) C dX4_bestSum_63 ?_
        rw [show ((1 : Int) - 1) = 0 from rfl, show (((nowN σ + k : Nat) : Int) + 1) = ((nowN σ + (k + 1) : Nat) : Int) from rfl]
        refine y_callS (pc := 64) (As := [_, _, _, _, _]) C E.2.1 cs_X4_226 (mg_best0 c hc (has + inZ σ c has) (k + 1) ⟨by omega, by omega⟩ h2 h3 hxi (by omega)) rfl rfl (Nat.le_of_ble_eq_true rfl) ⟨by decide, by decide, by decide, by decide⟩ dX4_bestSum_64 ⟨rfl, rfl⟩ ?_
        refine y_iload (pc := 67) C dX4_bestSum_67 0 rfl ?_
        refine y_i2l (pc := 69) C dX4_bestSum_69 (by omega) (by omega) ?_
        refine y_lload (pc := 70) C dX4_bestSum_70 1 rfl ?_
        refine y_lmul (pc := 72) C dX4_bestSum_72 ?_
        refine y_lsub (pc := 73) C dX4_bestSum_73 ?_
        refine y_maxL (pc := 74) C E.2.1 cs_X4_234.1 cs_X4_234.2.1 cs_X4_234.2.2.1 cs_X4_234.2.2.2.1 (by decide) (Nat.le_of_ble_eq_true rfl) (by decide) (by decide) (by omega) (by omega) (by omega) (by omega) dX4_bestSum_74 ?_
        refine y_lstore (pc := 77) (L' := [(5, _), (9, _), (7, _), (0, _), (1, _), (2, _), (3, _), (4, _)]) C dX4_bestSum_77 (by rw [hn]; decide) rfl ?_
        refine y_aload_n (pc := 79) C dX4_bestSum_79 3 rfl ?_
        refine y_iload_n (pc := 80) C dX4_bestSum_80 5 rfl ?_
        refine y_callV (pc := 81) (As := [_]) C E.2.1 cv_X4_332 (ci := 1) rfl rfl (mc_mostOut c hc h2 _ h1) (fun h hh => ⟨_, hh.cus hc⟩) rfl rfl (Nat.le_of_ble_eq_true rfl) ⟨by decide, by decide, by decide, by decide⟩ dX4_bestSum_81 ⟨rfl, rfl⟩ ?_
        refine y_istore (pc := 84) (L' := [(10, _), (5, _), (9, _), (7, _), (0, _), (1, _), (2, _), (3, _), (4, _)]) C dX4_bestSum_84 (by rw [hn]; decide) rfl ?_
        refine y_iload (pc := 86) C dX4_bestSum_86 0 rfl ?_
        refine y_if_le (pc := 88) (tgt := 121) C dX4_bestSum_88 (by decide) (by omega) (by omega) (fun c88 => ?_) (fun c88 => ?_)
        · skip
          refine y_lload (pc := 121) C dX4_bestSum_121 1 rfl ?_
          exact y_lret (pc := 123) C E dX4_bestSum_123 (by decide) (by decide) (fun h hh => ⟨by rw [hV]; refine congrArg (fun v => some (Value.long (jv v))) ?_; split <;> split <;> omega, hh⟩)
        · skip
          refine y_lload (pc := 91) C dX4_bestSum_91 1 rfl ?_
          refine y_aload_n (pc := 93) C dX4_bestSum_93 4 rfl ?_
          refine y_aload_n (pc := 94) C dX4_bestSum_94 5 rfl ?_
          refine y_iload_n (pc := 95) C dX4_bestSum_95 6 rfl ?_
          refine y_iload (pc := 96) C dX4_bestSum_96 0 rfl ?_
          refine y_isub (pc := 98) C dX4_bestSum_98 ?_
          refine y_iload_n (pc := 99) C dX4_bestSum_99 7 rfl ?_
          refine y_iconst (pc := 100) C dX4_bestSum_100 ?_
          refine y_iadd (pc := 101) C dX4_bestSum_101 ?_
          refine y_iload (pc := 102) C dX4_bestSum_102 8 rfl ?_
          refine y_iconst (pc := 104) C dX4_bestSum_104 ?_
          refine y_isub (pc := 105) C dX4_bestSum_105 ?_
          rw [show ((1 : Int) - 1) = 0 from rfl, show (((nowN σ + k : Nat) : Int) + 1) = ((nowN σ + (k + 1) : Nat) : Int) from rfl]
          refine y_callS (pc := 106) (As := [_, _, _, _, _]) C E.2.1 cs_X4_226 (mg_best0 c hc (has - outZ σ c has) (k + 1) ⟨by omega, by omega⟩ h2 h3 hxi (by omega)) rfl rfl (Nat.le_of_ble_eq_true rfl) ⟨by decide, by decide, by decide, by decide⟩ dX4_bestSum_106 ⟨rfl, rfl⟩ ?_
          refine y_iload (pc := 109) C dX4_bestSum_109 0 rfl ?_
          refine y_i2l (pc := 111) C dX4_bestSum_111 (by omega) (by omega) ?_
          refine y_lload (pc := 112) C dX4_bestSum_112 3 rfl ?_
          refine y_lmul (pc := 114) C dX4_bestSum_114 ?_
          refine y_ladd (pc := 115) C dX4_bestSum_115 ?_
          refine y_maxL (pc := 116) C E.2.1 cs_X4_234.1 cs_X4_234.2.1 cs_X4_234.2.2.1 cs_X4_234.2.2.2.1 (by decide) (Nat.le_of_ble_eq_true rfl) (by decide) (by decide) (by omega) (by omega) (by omega) (by omega) dX4_bestSum_116 ?_
          refine y_lstore (pc := 119) (L' := [(5, _), (10, _), (9, _), (7, _), (0, _), (1, _), (2, _), (3, _), (4, _)]) C dX4_bestSum_119 (by rw [hn]; decide) rfl ?_
          refine y_lload (pc := 121) C dX4_bestSum_121 0 rfl ?_
          exact y_lret (pc := 123) C E dX4_bestSum_123 (by decide) (by decide) (fun h hh => ⟨by rw [hV]; refine congrArg (fun v => some (Value.long (jv v))) ?_; split <;> split <;> omega, hh⟩)
    · exact absurd (by decide) c9

set_option maxRecDepth 20000 in
theorem mg_best2 {Ω : OmT} {hR : AH} {lay : Nat → Nat → Nat} {ξ : XiT} {ms ns nc nl : Nat} {σ : ZT} {τ : JT} (c : Nat) (hc : c < nc) (has : Int) (k : Nat) (h1 : 0 ≤ has ∧ has ≤ σ 17 c) (h2 : CuOk σ c) (h3 : PrOk σ) (hxi : ∀ j, ξ.1 j = σ 26 j) (hNk : nowN σ + k + 2 ≤ 20000) : Ct Ω yX4_bestSum cX4_bestSum 11 (some FieldType.long) (rk 7) [.ref (lay 2 c), .ref (lay 0 4), .int (iv has), .int (iv ((nowN σ + k : Nat) : Int)), .int (iv 2)] (InvC Ω lay ms ns nc nl ξ σ τ) hR (RV (.long (jv (bestV σ c 2 has k))) (InvC Ω lay ms ns nc nl ξ σ τ)) NX := by
  refine Ct.of (own := RX4) (L := [(0, _), (1, _), (2, _), (3, _), (4, _)]) (by decide +kernel) rfl (Nat.le_of_ble_eq_true rfl) rfl ?_
  intro κ C hn E hi
  have hV : bestV σ c 2 has k = max (max (bestV σ c 1 has (k + 1)) (if 0 < inZ σ c has then bestV σ c 1 (has + inZ σ c has) (k + 1) - inZ σ c has * pricZ σ k else bestV σ c 1 has (k + 1))) (if 0 < outZ σ c has then bestV σ c 1 (has - outZ σ c has) (k + 1) + outZ σ c has * pricZ σ k else bestV σ c 1 has (k + 1)) := rfl
  have hcu := h2
  unfold CuOk at hcu
  have hin := inz_b h2 h1.1 h1.2
  have hou := outz_b h2 h1.1 h1.2
  have hpk : -1000 ≤ pricZ σ k ∧ pricZ σ k ≤ 1000 := h3 _ (Nat.mod_lt _ (by decide))
  have hm1 := mul_b (a := inZ σ c has) (A := 100000) (by omega) (by omega) hpk.1 hpk.2
  have hm2 := mul_b (a := outZ σ c has) (A := 100000) (by omega) (by omega) hpk.1 hpk.2
  have hb0 := bestV_b (l := 1) h2 h3 has (k + 1) h1.1 h1.2
  have hb1 := bestV_b (l := 1) h2 h3 (has + inZ σ c has) (k + 1) (by omega) (by omega)
  have hb2 := bestV_b (l := 1) h2 h3 (has - outZ σ c has) (k + 1) (by omega) (by omega)
  have hn0 := bestV_nn (σ := σ) (c := c) (l := 1) has (k + 1)
  have hn1 := bestV_nn (σ := σ) (c := c) (l := 1) (has + inZ σ c has) (k + 1)
  have hn2 := bestV_nn (σ := σ) (c := c) (l := 1) (has - outZ σ c has) (k + 1)
  refine y_iload (pc := 0) C dX4_bestSum_0 4 rfl ?_
  refine y_if_le (pc := 2) (tgt := 12) C dX4_bestSum_2 (by decide) (by omega) (by omega) (fun c2 => ?_) (fun c2 => ?_)
  · exact absurd c2 (by decide)
  · skip
    refine y_iload (pc := 5) C dX4_bestSum_5 4 rfl ?_
    refine y_bipush (pc := 7) (z := 8) C dX4_bestSum_7 (by decide) ?_
    refine y_icmp_le (pc := 9) (tgt := 14) C dX4_bestSum_9 (by decide) (by omega) (by omega) (by omega) (by omega) (fun c9 => ?_) (fun c9 => ?_)
    · skip
      refine y_aload_n (pc := 14) C dX4_bestSum_14 0 rfl ?_
      refine y_aload_n (pc := 15) C dX4_bestSum_15 1 rfl ?_
      refine y_iload_n (pc := 16) C dX4_bestSum_16 2 rfl ?_
      refine y_iload_n (pc := 17) C dX4_bestSum_17 3 rfl ?_
      refine y_iconst (pc := 18) C dX4_bestSum_18 ?_
      refine y_iadd (pc := 19) C dX4_bestSum_19 ?_
      refine y_iload (pc := 20) C dX4_bestSum_20 4 rfl ?_
      refine y_iconst (pc := 22) C dX4_bestSum_22 ?_
      refine y_isub (pc := 23) C dX4_bestSum_23 ?_
      rw [show ((2 : Int) - 1) = 1 from rfl, show (((nowN σ + k : Nat) : Int) + 1) = ((nowN σ + (k + 1) : Nat) : Int) from rfl]
      refine y_callS (pc := 24) (As := [_, _, _, _, _]) C E.2.1 cs_X4_226 (mg_best1 c hc has (k + 1) h1 h2 h3 hxi (by omega)) rfl rfl (Nat.le_of_ble_eq_true rfl) ⟨by decide, by decide, by decide, by decide⟩ dX4_bestSum_24 ⟨rfl, rfl⟩ ?_
      refine y_lstore (pc := 27) (L' := [(5, _), (0, _), (1, _), (2, _), (3, _), (4, _)]) C dX4_bestSum_27 (by rw [hn]; decide) rfl ?_
      refine y_aload_n (pc := 29) C dX4_bestSum_29 2 rfl ?_
      refine y_iload_n (pc := 30) C dX4_bestSum_30 4 rfl ?_
      refine y_callV (pc := 31) (As := [_]) C E.2.1 cv_X4_326 (ci := 2) rfl rfl (mc_at (lay 0 4) (lay 0 5) ξ.1 (nowN σ + k) (by omega) (fun h hh => hh.pri)) (fun h hh => ⟨_, hh.pri.1⟩) rfl rfl (Nat.le_of_ble_eq_true rfl) ⟨by decide, by decide, by decide, by decide⟩ dX4_bestSum_31 ⟨rfl, rfl⟩ ?_
      rw [show ξ.1 ((nowN σ + k) % 64) = pricZ σ k from hxi _]
      refine y_i2l (pc := 34) C dX4_bestSum_34 (by omega) (by omega) ?_
      refine y_lstore (pc := 35) (L' := [(7, _), (5, _), (0, _), (1, _), (2, _), (3, _), (4, _)]) C dX4_bestSum_35 (by rw [hn]; decide) rfl ?_
      refine y_aload_n (pc := 37) C dX4_bestSum_37 2 rfl ?_
      refine y_iload_n (pc := 38) C dX4_bestSum_38 4 rfl ?_
      refine y_callV (pc := 39) (As := [_]) C E.2.1 cv_X4_329 (ci := 1) rfl rfl (mc_mostIn c hc h2 _ h1) (fun h hh => ⟨_, hh.cus hc⟩) rfl rfl (Nat.le_of_ble_eq_true rfl) ⟨by decide, by decide, by decide, by decide⟩ dX4_bestSum_39 ⟨rfl, rfl⟩ ?_
      refine y_istore (pc := 42) (L' := [(9, _), (7, _), (5, _), (0, _), (1, _), (2, _), (3, _), (4, _)]) C dX4_bestSum_42 (by rw [hn]; decide) rfl ?_
      refine y_iload (pc := 44) C dX4_bestSum_44 0 rfl ?_
      refine y_if_le (pc := 46) (tgt := 79) C dX4_bestSum_46 (by decide) (by omega) (by omega) (fun c46 => ?_) (fun c46 => ?_)
      · skip
        refine y_aload_n (pc := 79) C dX4_bestSum_79 3 rfl ?_
        refine y_iload_n (pc := 80) C dX4_bestSum_80 5 rfl ?_
        refine y_callV (pc := 81) (As := [_]) C E.2.1 cv_X4_332 (ci := 1) rfl rfl (mc_mostOut c hc h2 _ h1) (fun h hh => ⟨_, hh.cus hc⟩) rfl rfl (Nat.le_of_ble_eq_true rfl) ⟨by decide, by decide, by decide, by decide⟩ dX4_bestSum_81 ⟨rfl, rfl⟩ ?_
        refine y_istore (pc := 84) (L' := [(10, _), (9, _), (7, _), (5, _), (0, _), (1, _), (2, _), (3, _), (4, _)]) C dX4_bestSum_84 (by rw [hn]; decide) rfl ?_
        refine y_iload (pc := 86) C dX4_bestSum_86 0 rfl ?_
        refine y_if_le (pc := 88) (tgt := 121) C dX4_bestSum_88 (by decide) (by omega) (by omega) (fun c88 => ?_) (fun c88 => ?_)
        · skip
          refine y_lload (pc := 121) C dX4_bestSum_121 3 rfl ?_
          exact y_lret (pc := 123) C E dX4_bestSum_123 (by decide) (by decide) (fun h hh => ⟨by rw [hV]; refine congrArg (fun v => some (Value.long (jv v))) ?_; split <;> split <;> omega, hh⟩)
        · skip
          refine y_lload (pc := 91) C dX4_bestSum_91 3 rfl ?_
          refine y_aload_n (pc := 93) C dX4_bestSum_93 4 rfl ?_
          refine y_aload_n (pc := 94) C dX4_bestSum_94 5 rfl ?_
          refine y_iload_n (pc := 95) C dX4_bestSum_95 6 rfl ?_
          refine y_iload (pc := 96) C dX4_bestSum_96 0 rfl ?_
          refine y_isub (pc := 98) C dX4_bestSum_98 ?_
          refine y_iload_n (pc := 99) C dX4_bestSum_99 7 rfl ?_
          refine y_iconst (pc := 100) C dX4_bestSum_100 ?_
          refine y_iadd (pc := 101) C dX4_bestSum_101 ?_
          refine y_iload (pc := 102) C dX4_bestSum_102 8 rfl ?_
          refine y_iconst (pc := 104) C dX4_bestSum_104 ?_
          refine y_isub (pc := 105) C dX4_bestSum_105 ?_
          rw [show ((2 : Int) - 1) = 1 from rfl, show (((nowN σ + k : Nat) : Int) + 1) = ((nowN σ + (k + 1) : Nat) : Int) from rfl]
          refine y_callS (pc := 106) (As := [_, _, _, _, _]) C E.2.1 cs_X4_226 (mg_best1 c hc (has - outZ σ c has) (k + 1) ⟨by omega, by omega⟩ h2 h3 hxi (by omega)) rfl rfl (Nat.le_of_ble_eq_true rfl) ⟨by decide, by decide, by decide, by decide⟩ dX4_bestSum_106 ⟨rfl, rfl⟩ ?_
          refine y_iload (pc := 109) C dX4_bestSum_109 0 rfl ?_
          refine y_i2l (pc := 111) C dX4_bestSum_111 (by omega) (by omega) ?_
          refine y_lload (pc := 112) C dX4_bestSum_112 2 rfl ?_
          refine y_lmul (pc := 114) C dX4_bestSum_114 ?_
          refine y_ladd (pc := 115) C dX4_bestSum_115 ?_
          refine y_maxL (pc := 116) C E.2.1 cs_X4_234.1 cs_X4_234.2.1 cs_X4_234.2.2.1 cs_X4_234.2.2.2.1 (by decide) (Nat.le_of_ble_eq_true rfl) (by decide) (by decide) (by omega) (by omega) (by omega) (by omega) dX4_bestSum_116 ?_
          refine y_lstore (pc := 119) (L' := [(5, _), (10, _), (9, _), (7, _), (0, _), (1, _), (2, _), (3, _), (4, _)]) C dX4_bestSum_119 (by rw [hn]; decide) rfl ?_
          refine y_lload (pc := 121) C dX4_bestSum_121 0 rfl ?_
          exact y_lret (pc := 123) C E dX4_bestSum_123 (by decide) (by decide) (fun h hh => ⟨by rw [hV]; refine congrArg (fun v => some (Value.long (jv v))) ?_; split <;> split <;> omega, hh⟩)
      · skip
        refine y_lload (pc := 49) C dX4_bestSum_49 2 rfl ?_
        refine y_aload_n (pc := 51) C dX4_bestSum_51 3 rfl ?_
        refine y_aload_n (pc := 52) C dX4_bestSum_52 4 rfl ?_
        refine y_iload_n (pc := 53) C dX4_bestSum_53 5 rfl ?_
        refine y_iload (pc := 54) C dX4_bestSum_54 0 rfl ?_
        refine y_iadd (pc := 56) C dX4_bestSum_56 ?_
        refine y_iload_n (pc := 57) C dX4_bestSum_57 6 rfl ?_
        refine y_iconst (pc := 58) C dX4_bestSum_58 ?_
        refine y_iadd (pc := 59) C dX4_bestSum_59 ?_
        refine y_iload (pc := 60) C dX4_bestSum_60 7 rfl ?_
        refine y_iconst (pc := 62) C dX4_bestSum_62 ?_
        refine y_isub (pc := 63) C dX4_bestSum_63 ?_
        rw [show ((2 : Int) - 1) = 1 from rfl, show (((nowN σ + k : Nat) : Int) + 1) = ((nowN σ + (k + 1) : Nat) : Int) from rfl]
        refine y_callS (pc := 64) (As := [_, _, _, _, _]) C E.2.1 cs_X4_226 (mg_best1 c hc (has + inZ σ c has) (k + 1) ⟨by omega, by omega⟩ h2 h3 hxi (by omega)) rfl rfl (Nat.le_of_ble_eq_true rfl) ⟨by decide, by decide, by decide, by decide⟩ dX4_bestSum_64 ⟨rfl, rfl⟩ ?_
        refine y_iload (pc := 67) C dX4_bestSum_67 0 rfl ?_
        refine y_i2l (pc := 69) C dX4_bestSum_69 (by omega) (by omega) ?_
        refine y_lload (pc := 70) C dX4_bestSum_70 1 rfl ?_
        refine y_lmul (pc := 72) C dX4_bestSum_72 ?_
        refine y_lsub (pc := 73) C dX4_bestSum_73 ?_
        refine y_maxL (pc := 74) C E.2.1 cs_X4_234.1 cs_X4_234.2.1 cs_X4_234.2.2.1 cs_X4_234.2.2.2.1 (by decide) (Nat.le_of_ble_eq_true rfl) (by decide) (by decide) (by omega) (by omega) (by omega) (by omega) dX4_bestSum_74 ?_
        refine y_lstore (pc := 77) (L' := [(5, _), (9, _), (7, _), (0, _), (1, _), (2, _), (3, _), (4, _)]) C dX4_bestSum_77 (by rw [hn]; decide) rfl ?_
        refine y_aload_n (pc := 79) C dX4_bestSum_79 3 rfl ?_
        refine y_iload_n (pc := 80) C dX4_bestSum_80 5 rfl ?_
        refine y_callV (pc := 81) (As := [_]) C E.2.1 cv_X4_332 (ci := 1) rfl rfl (mc_mostOut c hc h2 _ h1) (fun h hh => ⟨_, hh.cus hc⟩) rfl rfl (Nat.le_of_ble_eq_true rfl) ⟨by decide, by decide, by decide, by decide⟩ dX4_bestSum_81 ⟨rfl, rfl⟩ ?_
        refine y_istore (pc := 84) (L' := [(10, _), (5, _), (9, _), (7, _), (0, _), (1, _), (2, _), (3, _), (4, _)]) C dX4_bestSum_84 (by rw [hn]; decide) rfl ?_
        refine y_iload (pc := 86) C dX4_bestSum_86 0 rfl ?_
        refine y_if_le (pc := 88) (tgt := 121) C dX4_bestSum_88 (by decide) (by omega) (by omega) (fun c88 => ?_) (fun c88 => ?_)
        · skip
          refine y_lload (pc := 121) C dX4_bestSum_121 1 rfl ?_
          exact y_lret (pc := 123) C E dX4_bestSum_123 (by decide) (by decide) (fun h hh => ⟨by rw [hV]; refine congrArg (fun v => some (Value.long (jv v))) ?_; split <;> split <;> omega, hh⟩)
        · skip
          refine y_lload (pc := 91) C dX4_bestSum_91 1 rfl ?_
          refine y_aload_n (pc := 93) C dX4_bestSum_93 4 rfl ?_
          refine y_aload_n (pc := 94) C dX4_bestSum_94 5 rfl ?_
          refine y_iload_n (pc := 95) C dX4_bestSum_95 6 rfl ?_
          refine y_iload (pc := 96) C dX4_bestSum_96 0 rfl ?_
          refine y_isub (pc := 98) C dX4_bestSum_98 ?_
          refine y_iload_n (pc := 99) C dX4_bestSum_99 7 rfl ?_
          refine y_iconst (pc := 100) C dX4_bestSum_100 ?_
          refine y_iadd (pc := 101) C dX4_bestSum_101 ?_
          refine y_iload (pc := 102) C dX4_bestSum_102 8 rfl ?_
          refine y_iconst (pc := 104) C dX4_bestSum_104 ?_
          refine y_isub (pc := 105) C dX4_bestSum_105 ?_
          rw [show ((2 : Int) - 1) = 1 from rfl, show (((nowN σ + k : Nat) : Int) + 1) = ((nowN σ + (k + 1) : Nat) : Int) from rfl]
          refine y_callS (pc := 106) (As := [_, _, _, _, _]) C E.2.1 cs_X4_226 (mg_best1 c hc (has - outZ σ c has) (k + 1) ⟨by omega, by omega⟩ h2 h3 hxi (by omega)) rfl rfl (Nat.le_of_ble_eq_true rfl) ⟨by decide, by decide, by decide, by decide⟩ dX4_bestSum_106 ⟨rfl, rfl⟩ ?_
          refine y_iload (pc := 109) C dX4_bestSum_109 0 rfl ?_
          refine y_i2l (pc := 111) C dX4_bestSum_111 (by omega) (by omega) ?_
          refine y_lload (pc := 112) C dX4_bestSum_112 3 rfl ?_
          refine y_lmul (pc := 114) C dX4_bestSum_114 ?_
          refine y_ladd (pc := 115) C dX4_bestSum_115 ?_
          refine y_maxL (pc := 116) C E.2.1 cs_X4_234.1 cs_X4_234.2.1 cs_X4_234.2.2.1 cs_X4_234.2.2.2.1 (by decide) (Nat.le_of_ble_eq_true rfl) (by decide) (by decide) (by omega) (by omega) (by omega) (by omega) dX4_bestSum_116 ?_
          refine y_lstore (pc := 119) (L' := [(5, _), (10, _), (9, _), (7, _), (0, _), (1, _), (2, _), (3, _), (4, _)]) C dX4_bestSum_119 (by rw [hn]; decide) rfl ?_
          refine y_lload (pc := 121) C dX4_bestSum_121 0 rfl ?_
          exact y_lret (pc := 123) C E dX4_bestSum_123 (by decide) (by decide) (fun h hh => ⟨by rw [hV]; refine congrArg (fun v => some (Value.long (jv v))) ?_; split <;> split <;> omega, hh⟩)
    · exact absurd (by decide) c9

set_option maxRecDepth 20000 in
theorem mg_best3 {Ω : OmT} {hR : AH} {lay : Nat → Nat → Nat} {ξ : XiT} {ms ns nc nl : Nat} {σ : ZT} {τ : JT} (c : Nat) (hc : c < nc) (has : Int) (k : Nat) (h1 : 0 ≤ has ∧ has ≤ σ 17 c) (h2 : CuOk σ c) (h3 : PrOk σ) (hxi : ∀ j, ξ.1 j = σ 26 j) (hNk : nowN σ + k + 3 ≤ 20000) : Ct Ω yX4_bestSum cX4_bestSum 11 (some FieldType.long) (rk 8) [.ref (lay 2 c), .ref (lay 0 4), .int (iv has), .int (iv ((nowN σ + k : Nat) : Int)), .int (iv 3)] (InvC Ω lay ms ns nc nl ξ σ τ) hR (RV (.long (jv (bestV σ c 3 has k))) (InvC Ω lay ms ns nc nl ξ σ τ)) NX := by
  refine Ct.of (own := RX4) (L := [(0, _), (1, _), (2, _), (3, _), (4, _)]) (by decide +kernel) rfl (Nat.le_of_ble_eq_true rfl) rfl ?_
  intro κ C hn E hi
  have hV : bestV σ c 3 has k = max (max (bestV σ c 2 has (k + 1)) (if 0 < inZ σ c has then bestV σ c 2 (has + inZ σ c has) (k + 1) - inZ σ c has * pricZ σ k else bestV σ c 2 has (k + 1))) (if 0 < outZ σ c has then bestV σ c 2 (has - outZ σ c has) (k + 1) + outZ σ c has * pricZ σ k else bestV σ c 2 has (k + 1)) := rfl
  have hcu := h2
  unfold CuOk at hcu
  have hin := inz_b h2 h1.1 h1.2
  have hou := outz_b h2 h1.1 h1.2
  have hpk : -1000 ≤ pricZ σ k ∧ pricZ σ k ≤ 1000 := h3 _ (Nat.mod_lt _ (by decide))
  have hm1 := mul_b (a := inZ σ c has) (A := 100000) (by omega) (by omega) hpk.1 hpk.2
  have hm2 := mul_b (a := outZ σ c has) (A := 100000) (by omega) (by omega) hpk.1 hpk.2
  have hb0 := bestV_b (l := 2) h2 h3 has (k + 1) h1.1 h1.2
  have hb1 := bestV_b (l := 2) h2 h3 (has + inZ σ c has) (k + 1) (by omega) (by omega)
  have hb2 := bestV_b (l := 2) h2 h3 (has - outZ σ c has) (k + 1) (by omega) (by omega)
  have hn0 := bestV_nn (σ := σ) (c := c) (l := 2) has (k + 1)
  have hn1 := bestV_nn (σ := σ) (c := c) (l := 2) (has + inZ σ c has) (k + 1)
  have hn2 := bestV_nn (σ := σ) (c := c) (l := 2) (has - outZ σ c has) (k + 1)
  refine y_iload (pc := 0) C dX4_bestSum_0 4 rfl ?_
  refine y_if_le (pc := 2) (tgt := 12) C dX4_bestSum_2 (by decide) (by omega) (by omega) (fun c2 => ?_) (fun c2 => ?_)
  · exact absurd c2 (by decide)
  · skip
    refine y_iload (pc := 5) C dX4_bestSum_5 4 rfl ?_
    refine y_bipush (pc := 7) (z := 8) C dX4_bestSum_7 (by decide) ?_
    refine y_icmp_le (pc := 9) (tgt := 14) C dX4_bestSum_9 (by decide) (by omega) (by omega) (by omega) (by omega) (fun c9 => ?_) (fun c9 => ?_)
    · skip
      refine y_aload_n (pc := 14) C dX4_bestSum_14 0 rfl ?_
      refine y_aload_n (pc := 15) C dX4_bestSum_15 1 rfl ?_
      refine y_iload_n (pc := 16) C dX4_bestSum_16 2 rfl ?_
      refine y_iload_n (pc := 17) C dX4_bestSum_17 3 rfl ?_
      refine y_iconst (pc := 18) C dX4_bestSum_18 ?_
      refine y_iadd (pc := 19) C dX4_bestSum_19 ?_
      refine y_iload (pc := 20) C dX4_bestSum_20 4 rfl ?_
      refine y_iconst (pc := 22) C dX4_bestSum_22 ?_
      refine y_isub (pc := 23) C dX4_bestSum_23 ?_
      rw [show ((3 : Int) - 1) = 2 from rfl, show (((nowN σ + k : Nat) : Int) + 1) = ((nowN σ + (k + 1) : Nat) : Int) from rfl]
      refine y_callS (pc := 24) (As := [_, _, _, _, _]) C E.2.1 cs_X4_226 (mg_best2 c hc has (k + 1) h1 h2 h3 hxi (by omega)) rfl rfl (Nat.le_of_ble_eq_true rfl) ⟨by decide, by decide, by decide, by decide⟩ dX4_bestSum_24 ⟨rfl, rfl⟩ ?_
      refine y_lstore (pc := 27) (L' := [(5, _), (0, _), (1, _), (2, _), (3, _), (4, _)]) C dX4_bestSum_27 (by rw [hn]; decide) rfl ?_
      refine y_aload_n (pc := 29) C dX4_bestSum_29 2 rfl ?_
      refine y_iload_n (pc := 30) C dX4_bestSum_30 4 rfl ?_
      refine y_callV (pc := 31) (As := [_]) C E.2.1 cv_X4_326 (ci := 2) rfl rfl (mc_at (lay 0 4) (lay 0 5) ξ.1 (nowN σ + k) (by omega) (fun h hh => hh.pri)) (fun h hh => ⟨_, hh.pri.1⟩) rfl rfl (Nat.le_of_ble_eq_true rfl) ⟨by decide, by decide, by decide, by decide⟩ dX4_bestSum_31 ⟨rfl, rfl⟩ ?_
      rw [show ξ.1 ((nowN σ + k) % 64) = pricZ σ k from hxi _]
      refine y_i2l (pc := 34) C dX4_bestSum_34 (by omega) (by omega) ?_
      refine y_lstore (pc := 35) (L' := [(7, _), (5, _), (0, _), (1, _), (2, _), (3, _), (4, _)]) C dX4_bestSum_35 (by rw [hn]; decide) rfl ?_
      refine y_aload_n (pc := 37) C dX4_bestSum_37 2 rfl ?_
      refine y_iload_n (pc := 38) C dX4_bestSum_38 4 rfl ?_
      refine y_callV (pc := 39) (As := [_]) C E.2.1 cv_X4_329 (ci := 1) rfl rfl (mc_mostIn c hc h2 _ h1) (fun h hh => ⟨_, hh.cus hc⟩) rfl rfl (Nat.le_of_ble_eq_true rfl) ⟨by decide, by decide, by decide, by decide⟩ dX4_bestSum_39 ⟨rfl, rfl⟩ ?_
      refine y_istore (pc := 42) (L' := [(9, _), (7, _), (5, _), (0, _), (1, _), (2, _), (3, _), (4, _)]) C dX4_bestSum_42 (by rw [hn]; decide) rfl ?_
      refine y_iload (pc := 44) C dX4_bestSum_44 0 rfl ?_
      refine y_if_le (pc := 46) (tgt := 79) C dX4_bestSum_46 (by decide) (by omega) (by omega) (fun c46 => ?_) (fun c46 => ?_)
      · skip
        refine y_aload_n (pc := 79) C dX4_bestSum_79 3 rfl ?_
        refine y_iload_n (pc := 80) C dX4_bestSum_80 5 rfl ?_
        refine y_callV (pc := 81) (As := [_]) C E.2.1 cv_X4_332 (ci := 1) rfl rfl (mc_mostOut c hc h2 _ h1) (fun h hh => ⟨_, hh.cus hc⟩) rfl rfl (Nat.le_of_ble_eq_true rfl) ⟨by decide, by decide, by decide, by decide⟩ dX4_bestSum_81 ⟨rfl, rfl⟩ ?_
        refine y_istore (pc := 84) (L' := [(10, _), (9, _), (7, _), (5, _), (0, _), (1, _), (2, _), (3, _), (4, _)]) C dX4_bestSum_84 (by rw [hn]; decide) rfl ?_
        refine y_iload (pc := 86) C dX4_bestSum_86 0 rfl ?_
        refine y_if_le (pc := 88) (tgt := 121) C dX4_bestSum_88 (by decide) (by omega) (by omega) (fun c88 => ?_) (fun c88 => ?_)
        · skip
          refine y_lload (pc := 121) C dX4_bestSum_121 3 rfl ?_
          exact y_lret (pc := 123) C E dX4_bestSum_123 (by decide) (by decide) (fun h hh => ⟨by rw [hV]; refine congrArg (fun v => some (Value.long (jv v))) ?_; split <;> split <;> omega, hh⟩)
        · skip
          refine y_lload (pc := 91) C dX4_bestSum_91 3 rfl ?_
          refine y_aload_n (pc := 93) C dX4_bestSum_93 4 rfl ?_
          refine y_aload_n (pc := 94) C dX4_bestSum_94 5 rfl ?_
          refine y_iload_n (pc := 95) C dX4_bestSum_95 6 rfl ?_
          refine y_iload (pc := 96) C dX4_bestSum_96 0 rfl ?_
          refine y_isub (pc := 98) C dX4_bestSum_98 ?_
          refine y_iload_n (pc := 99) C dX4_bestSum_99 7 rfl ?_
          refine y_iconst (pc := 100) C dX4_bestSum_100 ?_
          refine y_iadd (pc := 101) C dX4_bestSum_101 ?_
          refine y_iload (pc := 102) C dX4_bestSum_102 8 rfl ?_
          refine y_iconst (pc := 104) C dX4_bestSum_104 ?_
          refine y_isub (pc := 105) C dX4_bestSum_105 ?_
          rw [show ((3 : Int) - 1) = 2 from rfl, show (((nowN σ + k : Nat) : Int) + 1) = ((nowN σ + (k + 1) : Nat) : Int) from rfl]
          refine y_callS (pc := 106) (As := [_, _, _, _, _]) C E.2.1 cs_X4_226 (mg_best2 c hc (has - outZ σ c has) (k + 1) ⟨by omega, by omega⟩ h2 h3 hxi (by omega)) rfl rfl (Nat.le_of_ble_eq_true rfl) ⟨by decide, by decide, by decide, by decide⟩ dX4_bestSum_106 ⟨rfl, rfl⟩ ?_
          refine y_iload (pc := 109) C dX4_bestSum_109 0 rfl ?_
          refine y_i2l (pc := 111) C dX4_bestSum_111 (by omega) (by omega) ?_
          refine y_lload (pc := 112) C dX4_bestSum_112 2 rfl ?_
          refine y_lmul (pc := 114) C dX4_bestSum_114 ?_
          refine y_ladd (pc := 115) C dX4_bestSum_115 ?_
          refine y_maxL (pc := 116) C E.2.1 cs_X4_234.1 cs_X4_234.2.1 cs_X4_234.2.2.1 cs_X4_234.2.2.2.1 (by decide) (Nat.le_of_ble_eq_true rfl) (by decide) (by decide) (by omega) (by omega) (by omega) (by omega) dX4_bestSum_116 ?_
          refine y_lstore (pc := 119) (L' := [(5, _), (10, _), (9, _), (7, _), (0, _), (1, _), (2, _), (3, _), (4, _)]) C dX4_bestSum_119 (by rw [hn]; decide) rfl ?_
          refine y_lload (pc := 121) C dX4_bestSum_121 0 rfl ?_
          exact y_lret (pc := 123) C E dX4_bestSum_123 (by decide) (by decide) (fun h hh => ⟨by rw [hV]; refine congrArg (fun v => some (Value.long (jv v))) ?_; split <;> split <;> omega, hh⟩)
      · skip
        refine y_lload (pc := 49) C dX4_bestSum_49 2 rfl ?_
        refine y_aload_n (pc := 51) C dX4_bestSum_51 3 rfl ?_
        refine y_aload_n (pc := 52) C dX4_bestSum_52 4 rfl ?_
        refine y_iload_n (pc := 53) C dX4_bestSum_53 5 rfl ?_
        refine y_iload (pc := 54) C dX4_bestSum_54 0 rfl ?_
        refine y_iadd (pc := 56) C dX4_bestSum_56 ?_
        refine y_iload_n (pc := 57) C dX4_bestSum_57 6 rfl ?_
        refine y_iconst (pc := 58) C dX4_bestSum_58 ?_
        refine y_iadd (pc := 59) C dX4_bestSum_59 ?_
        refine y_iload (pc := 60) C dX4_bestSum_60 7 rfl ?_
        refine y_iconst (pc := 62) C dX4_bestSum_62 ?_
        refine y_isub (pc := 63) C dX4_bestSum_63 ?_
        rw [show ((3 : Int) - 1) = 2 from rfl, show (((nowN σ + k : Nat) : Int) + 1) = ((nowN σ + (k + 1) : Nat) : Int) from rfl]
        refine y_callS (pc := 64) (As := [_, _, _, _, _]) C E.2.1 cs_X4_226 (mg_best2 c hc (has + inZ σ c has) (k + 1) ⟨by omega, by omega⟩ h2 h3 hxi (by omega)) rfl rfl (Nat.le_of_ble_eq_true rfl) ⟨by decide, by decide, by decide, by decide⟩ dX4_bestSum_64 ⟨rfl, rfl⟩ ?_
        refine y_iload (pc := 67) C dX4_bestSum_67 0 rfl ?_
        refine y_i2l (pc := 69) C dX4_bestSum_69 (by omega) (by omega) ?_
        refine y_lload (pc := 70) C dX4_bestSum_70 1 rfl ?_
        refine y_lmul (pc := 72) C dX4_bestSum_72 ?_
        refine y_lsub (pc := 73) C dX4_bestSum_73 ?_
        refine y_maxL (pc := 74) C E.2.1 cs_X4_234.1 cs_X4_234.2.1 cs_X4_234.2.2.1 cs_X4_234.2.2.2.1 (by decide) (Nat.le_of_ble_eq_true rfl) (by decide) (by decide) (by omega) (by omega) (by omega) (by omega) dX4_bestSum_74 ?_
        refine y_lstore (pc := 77) (L' := [(5, _), (9, _), (7, _), (0, _), (1, _), (2, _), (3, _), (4, _)]) C dX4_bestSum_77 (by rw [hn]; decide) rfl ?_
        refine y_aload_n (pc := 79) C dX4_bestSum_79 3 rfl ?_
        refine y_iload_n (pc := 80) C dX4_bestSum_80 5 rfl ?_
        refine y_callV (pc := 81) (As := [_]) C E.2.1 cv_X4_332 (ci := 1) rfl rfl (mc_mostOut c hc h2 _ h1) (fun h hh => ⟨_, hh.cus hc⟩) rfl rfl (Nat.le_of_ble_eq_true rfl) ⟨by decide, by decide, by decide, by decide⟩ dX4_bestSum_81 ⟨rfl, rfl⟩ ?_
        refine y_istore (pc := 84) (L' := [(10, _), (5, _), (9, _), (7, _), (0, _), (1, _), (2, _), (3, _), (4, _)]) C dX4_bestSum_84 (by rw [hn]; decide) rfl ?_
        refine y_iload (pc := 86) C dX4_bestSum_86 0 rfl ?_
        refine y_if_le (pc := 88) (tgt := 121) C dX4_bestSum_88 (by decide) (by omega) (by omega) (fun c88 => ?_) (fun c88 => ?_)
        · skip
          refine y_lload (pc := 121) C dX4_bestSum_121 1 rfl ?_
          exact y_lret (pc := 123) C E dX4_bestSum_123 (by decide) (by decide) (fun h hh => ⟨by rw [hV]; refine congrArg (fun v => some (Value.long (jv v))) ?_; split <;> split <;> omega, hh⟩)
        · skip
          refine y_lload (pc := 91) C dX4_bestSum_91 1 rfl ?_
          refine y_aload_n (pc := 93) C dX4_bestSum_93 4 rfl ?_
          refine y_aload_n (pc := 94) C dX4_bestSum_94 5 rfl ?_
          refine y_iload_n (pc := 95) C dX4_bestSum_95 6 rfl ?_
          refine y_iload (pc := 96) C dX4_bestSum_96 0 rfl ?_
          refine y_isub (pc := 98) C dX4_bestSum_98 ?_
          refine y_iload_n (pc := 99) C dX4_bestSum_99 7 rfl ?_
          refine y_iconst (pc := 100) C dX4_bestSum_100 ?_
          refine y_iadd (pc := 101) C dX4_bestSum_101 ?_
          refine y_iload (pc := 102) C dX4_bestSum_102 8 rfl ?_
          refine y_iconst (pc := 104) C dX4_bestSum_104 ?_
          refine y_isub (pc := 105) C dX4_bestSum_105 ?_
          rw [show ((3 : Int) - 1) = 2 from rfl, show (((nowN σ + k : Nat) : Int) + 1) = ((nowN σ + (k + 1) : Nat) : Int) from rfl]
          refine y_callS (pc := 106) (As := [_, _, _, _, _]) C E.2.1 cs_X4_226 (mg_best2 c hc (has - outZ σ c has) (k + 1) ⟨by omega, by omega⟩ h2 h3 hxi (by omega)) rfl rfl (Nat.le_of_ble_eq_true rfl) ⟨by decide, by decide, by decide, by decide⟩ dX4_bestSum_106 ⟨rfl, rfl⟩ ?_
          refine y_iload (pc := 109) C dX4_bestSum_109 0 rfl ?_
          refine y_i2l (pc := 111) C dX4_bestSum_111 (by omega) (by omega) ?_
          refine y_lload (pc := 112) C dX4_bestSum_112 3 rfl ?_
          refine y_lmul (pc := 114) C dX4_bestSum_114 ?_
          refine y_ladd (pc := 115) C dX4_bestSum_115 ?_
          refine y_maxL (pc := 116) C E.2.1 cs_X4_234.1 cs_X4_234.2.1 cs_X4_234.2.2.1 cs_X4_234.2.2.2.1 (by decide) (Nat.le_of_ble_eq_true rfl) (by decide) (by decide) (by omega) (by omega) (by omega) (by omega) dX4_bestSum_116 ?_
          refine y_lstore (pc := 119) (L' := [(5, _), (10, _), (9, _), (7, _), (0, _), (1, _), (2, _), (3, _), (4, _)]) C dX4_bestSum_119 (by rw [hn]; decide) rfl ?_
          refine y_lload (pc := 121) C dX4_bestSum_121 0 rfl ?_
          exact y_lret (pc := 123) C E dX4_bestSum_123 (by decide) (by decide) (fun h hh => ⟨by rw [hV]; refine congrArg (fun v => some (Value.long (jv v))) ?_; split <;> split <;> omega, hh⟩)
    · exact absurd (by decide) c9

set_option maxRecDepth 20000 in
theorem mg_best4 {Ω : OmT} {hR : AH} {lay : Nat → Nat → Nat} {ξ : XiT} {ms ns nc nl : Nat} {σ : ZT} {τ : JT} (c : Nat) (hc : c < nc) (has : Int) (k : Nat) (h1 : 0 ≤ has ∧ has ≤ σ 17 c) (h2 : CuOk σ c) (h3 : PrOk σ) (hxi : ∀ j, ξ.1 j = σ 26 j) (hNk : nowN σ + k + 4 ≤ 20000) : Ct Ω yX4_bestSum cX4_bestSum 11 (some FieldType.long) (rk 9) [.ref (lay 2 c), .ref (lay 0 4), .int (iv has), .int (iv ((nowN σ + k : Nat) : Int)), .int (iv 4)] (InvC Ω lay ms ns nc nl ξ σ τ) hR (RV (.long (jv (bestV σ c 4 has k))) (InvC Ω lay ms ns nc nl ξ σ τ)) NX := by
  refine Ct.of (own := RX4) (L := [(0, _), (1, _), (2, _), (3, _), (4, _)]) (by decide +kernel) rfl (Nat.le_of_ble_eq_true rfl) rfl ?_
  intro κ C hn E hi
  have hV : bestV σ c 4 has k = max (max (bestV σ c 3 has (k + 1)) (if 0 < inZ σ c has then bestV σ c 3 (has + inZ σ c has) (k + 1) - inZ σ c has * pricZ σ k else bestV σ c 3 has (k + 1))) (if 0 < outZ σ c has then bestV σ c 3 (has - outZ σ c has) (k + 1) + outZ σ c has * pricZ σ k else bestV σ c 3 has (k + 1)) := rfl
  have hcu := h2
  unfold CuOk at hcu
  have hin := inz_b h2 h1.1 h1.2
  have hou := outz_b h2 h1.1 h1.2
  have hpk : -1000 ≤ pricZ σ k ∧ pricZ σ k ≤ 1000 := h3 _ (Nat.mod_lt _ (by decide))
  have hm1 := mul_b (a := inZ σ c has) (A := 100000) (by omega) (by omega) hpk.1 hpk.2
  have hm2 := mul_b (a := outZ σ c has) (A := 100000) (by omega) (by omega) hpk.1 hpk.2
  have hb0 := bestV_b (l := 3) h2 h3 has (k + 1) h1.1 h1.2
  have hb1 := bestV_b (l := 3) h2 h3 (has + inZ σ c has) (k + 1) (by omega) (by omega)
  have hb2 := bestV_b (l := 3) h2 h3 (has - outZ σ c has) (k + 1) (by omega) (by omega)
  have hn0 := bestV_nn (σ := σ) (c := c) (l := 3) has (k + 1)
  have hn1 := bestV_nn (σ := σ) (c := c) (l := 3) (has + inZ σ c has) (k + 1)
  have hn2 := bestV_nn (σ := σ) (c := c) (l := 3) (has - outZ σ c has) (k + 1)
  refine y_iload (pc := 0) C dX4_bestSum_0 4 rfl ?_
  refine y_if_le (pc := 2) (tgt := 12) C dX4_bestSum_2 (by decide) (by omega) (by omega) (fun c2 => ?_) (fun c2 => ?_)
  · exact absurd c2 (by decide)
  · skip
    refine y_iload (pc := 5) C dX4_bestSum_5 4 rfl ?_
    refine y_bipush (pc := 7) (z := 8) C dX4_bestSum_7 (by decide) ?_
    refine y_icmp_le (pc := 9) (tgt := 14) C dX4_bestSum_9 (by decide) (by omega) (by omega) (by omega) (by omega) (fun c9 => ?_) (fun c9 => ?_)
    · skip
      refine y_aload_n (pc := 14) C dX4_bestSum_14 0 rfl ?_
      refine y_aload_n (pc := 15) C dX4_bestSum_15 1 rfl ?_
      refine y_iload_n (pc := 16) C dX4_bestSum_16 2 rfl ?_
      refine y_iload_n (pc := 17) C dX4_bestSum_17 3 rfl ?_
      refine y_iconst (pc := 18) C dX4_bestSum_18 ?_
      refine y_iadd (pc := 19) C dX4_bestSum_19 ?_
      refine y_iload (pc := 20) C dX4_bestSum_20 4 rfl ?_
      refine y_iconst (pc := 22) C dX4_bestSum_22 ?_
      refine y_isub (pc := 23) C dX4_bestSum_23 ?_
      rw [show ((4 : Int) - 1) = 3 from rfl, show (((nowN σ + k : Nat) : Int) + 1) = ((nowN σ + (k + 1) : Nat) : Int) from rfl]
      refine y_callS (pc := 24) (As := [_, _, _, _, _]) C E.2.1 cs_X4_226 (mg_best3 c hc has (k + 1) h1 h2 h3 hxi (by omega)) rfl rfl (Nat.le_of_ble_eq_true rfl) ⟨by decide, by decide, by decide, by decide⟩ dX4_bestSum_24 ⟨rfl, rfl⟩ ?_
      refine y_lstore (pc := 27) (L' := [(5, _), (0, _), (1, _), (2, _), (3, _), (4, _)]) C dX4_bestSum_27 (by rw [hn]; decide) rfl ?_
      refine y_aload_n (pc := 29) C dX4_bestSum_29 2 rfl ?_
      refine y_iload_n (pc := 30) C dX4_bestSum_30 4 rfl ?_
      refine y_callV (pc := 31) (As := [_]) C E.2.1 cv_X4_326 (ci := 2) rfl rfl (mc_at (lay 0 4) (lay 0 5) ξ.1 (nowN σ + k) (by omega) (fun h hh => hh.pri)) (fun h hh => ⟨_, hh.pri.1⟩) rfl rfl (Nat.le_of_ble_eq_true rfl) ⟨by decide, by decide, by decide, by decide⟩ dX4_bestSum_31 ⟨rfl, rfl⟩ ?_
      rw [show ξ.1 ((nowN σ + k) % 64) = pricZ σ k from hxi _]
      refine y_i2l (pc := 34) C dX4_bestSum_34 (by omega) (by omega) ?_
      refine y_lstore (pc := 35) (L' := [(7, _), (5, _), (0, _), (1, _), (2, _), (3, _), (4, _)]) C dX4_bestSum_35 (by rw [hn]; decide) rfl ?_
      refine y_aload_n (pc := 37) C dX4_bestSum_37 2 rfl ?_
      refine y_iload_n (pc := 38) C dX4_bestSum_38 4 rfl ?_
      refine y_callV (pc := 39) (As := [_]) C E.2.1 cv_X4_329 (ci := 1) rfl rfl (mc_mostIn c hc h2 _ h1) (fun h hh => ⟨_, hh.cus hc⟩) rfl rfl (Nat.le_of_ble_eq_true rfl) ⟨by decide, by decide, by decide, by decide⟩ dX4_bestSum_39 ⟨rfl, rfl⟩ ?_
      refine y_istore (pc := 42) (L' := [(9, _), (7, _), (5, _), (0, _), (1, _), (2, _), (3, _), (4, _)]) C dX4_bestSum_42 (by rw [hn]; decide) rfl ?_
      refine y_iload (pc := 44) C dX4_bestSum_44 0 rfl ?_
      refine y_if_le (pc := 46) (tgt := 79) C dX4_bestSum_46 (by decide) (by omega) (by omega) (fun c46 => ?_) (fun c46 => ?_)
      · skip
        refine y_aload_n (pc := 79) C dX4_bestSum_79 3 rfl ?_
        refine y_iload_n (pc := 80) C dX4_bestSum_80 5 rfl ?_
        refine y_callV (pc := 81) (As := [_]) C E.2.1 cv_X4_332 (ci := 1) rfl rfl (mc_mostOut c hc h2 _ h1) (fun h hh => ⟨_, hh.cus hc⟩) rfl rfl (Nat.le_of_ble_eq_true rfl) ⟨by decide, by decide, by decide, by decide⟩ dX4_bestSum_81 ⟨rfl, rfl⟩ ?_
        refine y_istore (pc := 84) (L' := [(10, _), (9, _), (7, _), (5, _), (0, _), (1, _), (2, _), (3, _), (4, _)]) C dX4_bestSum_84 (by rw [hn]; decide) rfl ?_
        refine y_iload (pc := 86) C dX4_bestSum_86 0 rfl ?_
        refine y_if_le (pc := 88) (tgt := 121) C dX4_bestSum_88 (by decide) (by omega) (by omega) (fun c88 => ?_) (fun c88 => ?_)
        · skip
          refine y_lload (pc := 121) C dX4_bestSum_121 3 rfl ?_
          exact y_lret (pc := 123) C E dX4_bestSum_123 (by decide) (by decide) (fun h hh => ⟨by rw [hV]; refine congrArg (fun v => some (Value.long (jv v))) ?_; split <;> split <;> omega, hh⟩)
        · skip
          refine y_lload (pc := 91) C dX4_bestSum_91 3 rfl ?_
          refine y_aload_n (pc := 93) C dX4_bestSum_93 4 rfl ?_
          refine y_aload_n (pc := 94) C dX4_bestSum_94 5 rfl ?_
          refine y_iload_n (pc := 95) C dX4_bestSum_95 6 rfl ?_
          refine y_iload (pc := 96) C dX4_bestSum_96 0 rfl ?_
          refine y_isub (pc := 98) C dX4_bestSum_98 ?_
          refine y_iload_n (pc := 99) C dX4_bestSum_99 7 rfl ?_
          refine y_iconst (pc := 100) C dX4_bestSum_100 ?_
          refine y_iadd (pc := 101) C dX4_bestSum_101 ?_
          refine y_iload (pc := 102) C dX4_bestSum_102 8 rfl ?_
          refine y_iconst (pc := 104) C dX4_bestSum_104 ?_
          refine y_isub (pc := 105) C dX4_bestSum_105 ?_
          rw [show ((4 : Int) - 1) = 3 from rfl, show (((nowN σ + k : Nat) : Int) + 1) = ((nowN σ + (k + 1) : Nat) : Int) from rfl]
          refine y_callS (pc := 106) (As := [_, _, _, _, _]) C E.2.1 cs_X4_226 (mg_best3 c hc (has - outZ σ c has) (k + 1) ⟨by omega, by omega⟩ h2 h3 hxi (by omega)) rfl rfl (Nat.le_of_ble_eq_true rfl) ⟨by decide, by decide, by decide, by decide⟩ dX4_bestSum_106 ⟨rfl, rfl⟩ ?_
          refine y_iload (pc := 109) C dX4_bestSum_109 0 rfl ?_
          refine y_i2l (pc := 111) C dX4_bestSum_111 (by omega) (by omega) ?_
          refine y_lload (pc := 112) C dX4_bestSum_112 2 rfl ?_
          refine y_lmul (pc := 114) C dX4_bestSum_114 ?_
          refine y_ladd (pc := 115) C dX4_bestSum_115 ?_
          refine y_maxL (pc := 116) C E.2.1 cs_X4_234.1 cs_X4_234.2.1 cs_X4_234.2.2.1 cs_X4_234.2.2.2.1 (by decide) (Nat.le_of_ble_eq_true rfl) (by decide) (by decide) (by omega) (by omega) (by omega) (by omega) dX4_bestSum_116 ?_
          refine y_lstore (pc := 119) (L' := [(5, _), (10, _), (9, _), (7, _), (0, _), (1, _), (2, _), (3, _), (4, _)]) C dX4_bestSum_119 (by rw [hn]; decide) rfl ?_
          refine y_lload (pc := 121) C dX4_bestSum_121 0 rfl ?_
          exact y_lret (pc := 123) C E dX4_bestSum_123 (by decide) (by decide) (fun h hh => ⟨by rw [hV]; refine congrArg (fun v => some (Value.long (jv v))) ?_; split <;> split <;> omega, hh⟩)
      · skip
        refine y_lload (pc := 49) C dX4_bestSum_49 2 rfl ?_
        refine y_aload_n (pc := 51) C dX4_bestSum_51 3 rfl ?_
        refine y_aload_n (pc := 52) C dX4_bestSum_52 4 rfl ?_
        refine y_iload_n (pc := 53) C dX4_bestSum_53 5 rfl ?_
        refine y_iload (pc := 54) C dX4_bestSum_54 0 rfl ?_
        refine y_iadd (pc := 56) C dX4_bestSum_56 ?_
        refine y_iload_n (pc := 57) C dX4_bestSum_57 6 rfl ?_
        refine y_iconst (pc := 58) C dX4_bestSum_58 ?_
        refine y_iadd (pc := 59) C dX4_bestSum_59 ?_
        refine y_iload (pc := 60) C dX4_bestSum_60 7 rfl ?_
        refine y_iconst (pc := 62) C dX4_bestSum_62 ?_
        refine y_isub (pc := 63) C dX4_bestSum_63 ?_
        rw [show ((4 : Int) - 1) = 3 from rfl, show (((nowN σ + k : Nat) : Int) + 1) = ((nowN σ + (k + 1) : Nat) : Int) from rfl]
        refine y_callS (pc := 64) (As := [_, _, _, _, _]) C E.2.1 cs_X4_226 (mg_best3 c hc (has + inZ σ c has) (k + 1) ⟨by omega, by omega⟩ h2 h3 hxi (by omega)) rfl rfl (Nat.le_of_ble_eq_true rfl) ⟨by decide, by decide, by decide, by decide⟩ dX4_bestSum_64 ⟨rfl, rfl⟩ ?_
        refine y_iload (pc := 67) C dX4_bestSum_67 0 rfl ?_
        refine y_i2l (pc := 69) C dX4_bestSum_69 (by omega) (by omega) ?_
        refine y_lload (pc := 70) C dX4_bestSum_70 1 rfl ?_
        refine y_lmul (pc := 72) C dX4_bestSum_72 ?_
        refine y_lsub (pc := 73) C dX4_bestSum_73 ?_
        refine y_maxL (pc := 74) C E.2.1 cs_X4_234.1 cs_X4_234.2.1 cs_X4_234.2.2.1 cs_X4_234.2.2.2.1 (by decide) (Nat.le_of_ble_eq_true rfl) (by decide) (by decide) (by omega) (by omega) (by omega) (by omega) dX4_bestSum_74 ?_
        refine y_lstore (pc := 77) (L' := [(5, _), (9, _), (7, _), (0, _), (1, _), (2, _), (3, _), (4, _)]) C dX4_bestSum_77 (by rw [hn]; decide) rfl ?_
        refine y_aload_n (pc := 79) C dX4_bestSum_79 3 rfl ?_
        refine y_iload_n (pc := 80) C dX4_bestSum_80 5 rfl ?_
        refine y_callV (pc := 81) (As := [_]) C E.2.1 cv_X4_332 (ci := 1) rfl rfl (mc_mostOut c hc h2 _ h1) (fun h hh => ⟨_, hh.cus hc⟩) rfl rfl (Nat.le_of_ble_eq_true rfl) ⟨by decide, by decide, by decide, by decide⟩ dX4_bestSum_81 ⟨rfl, rfl⟩ ?_
        refine y_istore (pc := 84) (L' := [(10, _), (5, _), (9, _), (7, _), (0, _), (1, _), (2, _), (3, _), (4, _)]) C dX4_bestSum_84 (by rw [hn]; decide) rfl ?_
        refine y_iload (pc := 86) C dX4_bestSum_86 0 rfl ?_
        refine y_if_le (pc := 88) (tgt := 121) C dX4_bestSum_88 (by decide) (by omega) (by omega) (fun c88 => ?_) (fun c88 => ?_)
        · skip
          refine y_lload (pc := 121) C dX4_bestSum_121 1 rfl ?_
          exact y_lret (pc := 123) C E dX4_bestSum_123 (by decide) (by decide) (fun h hh => ⟨by rw [hV]; refine congrArg (fun v => some (Value.long (jv v))) ?_; split <;> split <;> omega, hh⟩)
        · skip
          refine y_lload (pc := 91) C dX4_bestSum_91 1 rfl ?_
          refine y_aload_n (pc := 93) C dX4_bestSum_93 4 rfl ?_
          refine y_aload_n (pc := 94) C dX4_bestSum_94 5 rfl ?_
          refine y_iload_n (pc := 95) C dX4_bestSum_95 6 rfl ?_
          refine y_iload (pc := 96) C dX4_bestSum_96 0 rfl ?_
          refine y_isub (pc := 98) C dX4_bestSum_98 ?_
          refine y_iload_n (pc := 99) C dX4_bestSum_99 7 rfl ?_
          refine y_iconst (pc := 100) C dX4_bestSum_100 ?_
          refine y_iadd (pc := 101) C dX4_bestSum_101 ?_
          refine y_iload (pc := 102) C dX4_bestSum_102 8 rfl ?_
          refine y_iconst (pc := 104) C dX4_bestSum_104 ?_
          refine y_isub (pc := 105) C dX4_bestSum_105 ?_
          rw [show ((4 : Int) - 1) = 3 from rfl, show (((nowN σ + k : Nat) : Int) + 1) = ((nowN σ + (k + 1) : Nat) : Int) from rfl]
          refine y_callS (pc := 106) (As := [_, _, _, _, _]) C E.2.1 cs_X4_226 (mg_best3 c hc (has - outZ σ c has) (k + 1) ⟨by omega, by omega⟩ h2 h3 hxi (by omega)) rfl rfl (Nat.le_of_ble_eq_true rfl) ⟨by decide, by decide, by decide, by decide⟩ dX4_bestSum_106 ⟨rfl, rfl⟩ ?_
          refine y_iload (pc := 109) C dX4_bestSum_109 0 rfl ?_
          refine y_i2l (pc := 111) C dX4_bestSum_111 (by omega) (by omega) ?_
          refine y_lload (pc := 112) C dX4_bestSum_112 3 rfl ?_
          refine y_lmul (pc := 114) C dX4_bestSum_114 ?_
          refine y_ladd (pc := 115) C dX4_bestSum_115 ?_
          refine y_maxL (pc := 116) C E.2.1 cs_X4_234.1 cs_X4_234.2.1 cs_X4_234.2.2.1 cs_X4_234.2.2.2.1 (by decide) (Nat.le_of_ble_eq_true rfl) (by decide) (by decide) (by omega) (by omega) (by omega) (by omega) dX4_bestSum_116 ?_
          refine y_lstore (pc := 119) (L' := [(5, _), (10, _), (9, _), (7, _), (0, _), (1, _), (2, _), (3, _), (4, _)]) C dX4_bestSum_119 (by rw [hn]; decide) rfl ?_
          refine y_lload (pc := 121) C dX4_bestSum_121 0 rfl ?_
          exact y_lret (pc := 123) C E dX4_bestSum_123 (by decide) (by decide) (fun h hh => ⟨by rw [hV]; refine congrArg (fun v => some (Value.long (jv v))) ?_; split <;> split <;> omega, hh⟩)
    · exact absurd (by decide) c9

set_option maxRecDepth 20000 in
theorem mg_best5 {Ω : OmT} {hR : AH} {lay : Nat → Nat → Nat} {ξ : XiT} {ms ns nc nl : Nat} {σ : ZT} {τ : JT} (c : Nat) (hc : c < nc) (has : Int) (k : Nat) (h1 : 0 ≤ has ∧ has ≤ σ 17 c) (h2 : CuOk σ c) (h3 : PrOk σ) (hxi : ∀ j, ξ.1 j = σ 26 j) (hNk : nowN σ + k + 5 ≤ 20000) : Ct Ω yX4_bestSum cX4_bestSum 11 (some FieldType.long) (rk 10) [.ref (lay 2 c), .ref (lay 0 4), .int (iv has), .int (iv ((nowN σ + k : Nat) : Int)), .int (iv 5)] (InvC Ω lay ms ns nc nl ξ σ τ) hR (RV (.long (jv (bestV σ c 5 has k))) (InvC Ω lay ms ns nc nl ξ σ τ)) NX := by
  refine Ct.of (own := RX4) (L := [(0, _), (1, _), (2, _), (3, _), (4, _)]) (by decide +kernel) rfl (Nat.le_of_ble_eq_true rfl) rfl ?_
  intro κ C hn E hi
  have hV : bestV σ c 5 has k = max (max (bestV σ c 4 has (k + 1)) (if 0 < inZ σ c has then bestV σ c 4 (has + inZ σ c has) (k + 1) - inZ σ c has * pricZ σ k else bestV σ c 4 has (k + 1))) (if 0 < outZ σ c has then bestV σ c 4 (has - outZ σ c has) (k + 1) + outZ σ c has * pricZ σ k else bestV σ c 4 has (k + 1)) := rfl
  have hcu := h2
  unfold CuOk at hcu
  have hin := inz_b h2 h1.1 h1.2
  have hou := outz_b h2 h1.1 h1.2
  have hpk : -1000 ≤ pricZ σ k ∧ pricZ σ k ≤ 1000 := h3 _ (Nat.mod_lt _ (by decide))
  have hm1 := mul_b (a := inZ σ c has) (A := 100000) (by omega) (by omega) hpk.1 hpk.2
  have hm2 := mul_b (a := outZ σ c has) (A := 100000) (by omega) (by omega) hpk.1 hpk.2
  have hb0 := bestV_b (l := 4) h2 h3 has (k + 1) h1.1 h1.2
  have hb1 := bestV_b (l := 4) h2 h3 (has + inZ σ c has) (k + 1) (by omega) (by omega)
  have hb2 := bestV_b (l := 4) h2 h3 (has - outZ σ c has) (k + 1) (by omega) (by omega)
  have hn0 := bestV_nn (σ := σ) (c := c) (l := 4) has (k + 1)
  have hn1 := bestV_nn (σ := σ) (c := c) (l := 4) (has + inZ σ c has) (k + 1)
  have hn2 := bestV_nn (σ := σ) (c := c) (l := 4) (has - outZ σ c has) (k + 1)
  refine y_iload (pc := 0) C dX4_bestSum_0 4 rfl ?_
  refine y_if_le (pc := 2) (tgt := 12) C dX4_bestSum_2 (by decide) (by omega) (by omega) (fun c2 => ?_) (fun c2 => ?_)
  · exact absurd c2 (by decide)
  · skip
    refine y_iload (pc := 5) C dX4_bestSum_5 4 rfl ?_
    refine y_bipush (pc := 7) (z := 8) C dX4_bestSum_7 (by decide) ?_
    refine y_icmp_le (pc := 9) (tgt := 14) C dX4_bestSum_9 (by decide) (by omega) (by omega) (by omega) (by omega) (fun c9 => ?_) (fun c9 => ?_)
    · skip
      refine y_aload_n (pc := 14) C dX4_bestSum_14 0 rfl ?_
      refine y_aload_n (pc := 15) C dX4_bestSum_15 1 rfl ?_
      refine y_iload_n (pc := 16) C dX4_bestSum_16 2 rfl ?_
      refine y_iload_n (pc := 17) C dX4_bestSum_17 3 rfl ?_
      refine y_iconst (pc := 18) C dX4_bestSum_18 ?_
      refine y_iadd (pc := 19) C dX4_bestSum_19 ?_
      refine y_iload (pc := 20) C dX4_bestSum_20 4 rfl ?_
      refine y_iconst (pc := 22) C dX4_bestSum_22 ?_
      refine y_isub (pc := 23) C dX4_bestSum_23 ?_
      rw [show ((5 : Int) - 1) = 4 from rfl, show (((nowN σ + k : Nat) : Int) + 1) = ((nowN σ + (k + 1) : Nat) : Int) from rfl]
      refine y_callS (pc := 24) (As := [_, _, _, _, _]) C E.2.1 cs_X4_226 (mg_best4 c hc has (k + 1) h1 h2 h3 hxi (by omega)) rfl rfl (Nat.le_of_ble_eq_true rfl) ⟨by decide, by decide, by decide, by decide⟩ dX4_bestSum_24 ⟨rfl, rfl⟩ ?_
      refine y_lstore (pc := 27) (L' := [(5, _), (0, _), (1, _), (2, _), (3, _), (4, _)]) C dX4_bestSum_27 (by rw [hn]; decide) rfl ?_
      refine y_aload_n (pc := 29) C dX4_bestSum_29 2 rfl ?_
      refine y_iload_n (pc := 30) C dX4_bestSum_30 4 rfl ?_
      refine y_callV (pc := 31) (As := [_]) C E.2.1 cv_X4_326 (ci := 2) rfl rfl (mc_at (lay 0 4) (lay 0 5) ξ.1 (nowN σ + k) (by omega) (fun h hh => hh.pri)) (fun h hh => ⟨_, hh.pri.1⟩) rfl rfl (Nat.le_of_ble_eq_true rfl) ⟨by decide, by decide, by decide, by decide⟩ dX4_bestSum_31 ⟨rfl, rfl⟩ ?_
      rw [show ξ.1 ((nowN σ + k) % 64) = pricZ σ k from hxi _]
      refine y_i2l (pc := 34) C dX4_bestSum_34 (by omega) (by omega) ?_
      refine y_lstore (pc := 35) (L' := [(7, _), (5, _), (0, _), (1, _), (2, _), (3, _), (4, _)]) C dX4_bestSum_35 (by rw [hn]; decide) rfl ?_
      refine y_aload_n (pc := 37) C dX4_bestSum_37 2 rfl ?_
      refine y_iload_n (pc := 38) C dX4_bestSum_38 4 rfl ?_
      refine y_callV (pc := 39) (As := [_]) C E.2.1 cv_X4_329 (ci := 1) rfl rfl (mc_mostIn c hc h2 _ h1) (fun h hh => ⟨_, hh.cus hc⟩) rfl rfl (Nat.le_of_ble_eq_true rfl) ⟨by decide, by decide, by decide, by decide⟩ dX4_bestSum_39 ⟨rfl, rfl⟩ ?_
      refine y_istore (pc := 42) (L' := [(9, _), (7, _), (5, _), (0, _), (1, _), (2, _), (3, _), (4, _)]) C dX4_bestSum_42 (by rw [hn]; decide) rfl ?_
      refine y_iload (pc := 44) C dX4_bestSum_44 0 rfl ?_
      refine y_if_le (pc := 46) (tgt := 79) C dX4_bestSum_46 (by decide) (by omega) (by omega) (fun c46 => ?_) (fun c46 => ?_)
      · skip
        refine y_aload_n (pc := 79) C dX4_bestSum_79 3 rfl ?_
        refine y_iload_n (pc := 80) C dX4_bestSum_80 5 rfl ?_
        refine y_callV (pc := 81) (As := [_]) C E.2.1 cv_X4_332 (ci := 1) rfl rfl (mc_mostOut c hc h2 _ h1) (fun h hh => ⟨_, hh.cus hc⟩) rfl rfl (Nat.le_of_ble_eq_true rfl) ⟨by decide, by decide, by decide, by decide⟩ dX4_bestSum_81 ⟨rfl, rfl⟩ ?_
        refine y_istore (pc := 84) (L' := [(10, _), (9, _), (7, _), (5, _), (0, _), (1, _), (2, _), (3, _), (4, _)]) C dX4_bestSum_84 (by rw [hn]; decide) rfl ?_
        refine y_iload (pc := 86) C dX4_bestSum_86 0 rfl ?_
        refine y_if_le (pc := 88) (tgt := 121) C dX4_bestSum_88 (by decide) (by omega) (by omega) (fun c88 => ?_) (fun c88 => ?_)
        · skip
          refine y_lload (pc := 121) C dX4_bestSum_121 3 rfl ?_
          exact y_lret (pc := 123) C E dX4_bestSum_123 (by decide) (by decide) (fun h hh => ⟨by rw [hV]; refine congrArg (fun v => some (Value.long (jv v))) ?_; split <;> split <;> omega, hh⟩)
        · skip
          refine y_lload (pc := 91) C dX4_bestSum_91 3 rfl ?_
          refine y_aload_n (pc := 93) C dX4_bestSum_93 4 rfl ?_
          refine y_aload_n (pc := 94) C dX4_bestSum_94 5 rfl ?_
          refine y_iload_n (pc := 95) C dX4_bestSum_95 6 rfl ?_
          refine y_iload (pc := 96) C dX4_bestSum_96 0 rfl ?_
          refine y_isub (pc := 98) C dX4_bestSum_98 ?_
          refine y_iload_n (pc := 99) C dX4_bestSum_99 7 rfl ?_
          refine y_iconst (pc := 100) C dX4_bestSum_100 ?_
          refine y_iadd (pc := 101) C dX4_bestSum_101 ?_
          refine y_iload (pc := 102) C dX4_bestSum_102 8 rfl ?_
          refine y_iconst (pc := 104) C dX4_bestSum_104 ?_
          refine y_isub (pc := 105) C dX4_bestSum_105 ?_
          rw [show ((5 : Int) - 1) = 4 from rfl, show (((nowN σ + k : Nat) : Int) + 1) = ((nowN σ + (k + 1) : Nat) : Int) from rfl]
          refine y_callS (pc := 106) (As := [_, _, _, _, _]) C E.2.1 cs_X4_226 (mg_best4 c hc (has - outZ σ c has) (k + 1) ⟨by omega, by omega⟩ h2 h3 hxi (by omega)) rfl rfl (Nat.le_of_ble_eq_true rfl) ⟨by decide, by decide, by decide, by decide⟩ dX4_bestSum_106 ⟨rfl, rfl⟩ ?_
          refine y_iload (pc := 109) C dX4_bestSum_109 0 rfl ?_
          refine y_i2l (pc := 111) C dX4_bestSum_111 (by omega) (by omega) ?_
          refine y_lload (pc := 112) C dX4_bestSum_112 2 rfl ?_
          refine y_lmul (pc := 114) C dX4_bestSum_114 ?_
          refine y_ladd (pc := 115) C dX4_bestSum_115 ?_
          refine y_maxL (pc := 116) C E.2.1 cs_X4_234.1 cs_X4_234.2.1 cs_X4_234.2.2.1 cs_X4_234.2.2.2.1 (by decide) (Nat.le_of_ble_eq_true rfl) (by decide) (by decide) (by omega) (by omega) (by omega) (by omega) dX4_bestSum_116 ?_
          refine y_lstore (pc := 119) (L' := [(5, _), (10, _), (9, _), (7, _), (0, _), (1, _), (2, _), (3, _), (4, _)]) C dX4_bestSum_119 (by rw [hn]; decide) rfl ?_
          refine y_lload (pc := 121) C dX4_bestSum_121 0 rfl ?_
          exact y_lret (pc := 123) C E dX4_bestSum_123 (by decide) (by decide) (fun h hh => ⟨by rw [hV]; refine congrArg (fun v => some (Value.long (jv v))) ?_; split <;> split <;> omega, hh⟩)
      · skip
        refine y_lload (pc := 49) C dX4_bestSum_49 2 rfl ?_
        refine y_aload_n (pc := 51) C dX4_bestSum_51 3 rfl ?_
        refine y_aload_n (pc := 52) C dX4_bestSum_52 4 rfl ?_
        refine y_iload_n (pc := 53) C dX4_bestSum_53 5 rfl ?_
        refine y_iload (pc := 54) C dX4_bestSum_54 0 rfl ?_
        refine y_iadd (pc := 56) C dX4_bestSum_56 ?_
        refine y_iload_n (pc := 57) C dX4_bestSum_57 6 rfl ?_
        refine y_iconst (pc := 58) C dX4_bestSum_58 ?_
        refine y_iadd (pc := 59) C dX4_bestSum_59 ?_
        refine y_iload (pc := 60) C dX4_bestSum_60 7 rfl ?_
        refine y_iconst (pc := 62) C dX4_bestSum_62 ?_
        refine y_isub (pc := 63) C dX4_bestSum_63 ?_
        rw [show ((5 : Int) - 1) = 4 from rfl, show (((nowN σ + k : Nat) : Int) + 1) = ((nowN σ + (k + 1) : Nat) : Int) from rfl]
        refine y_callS (pc := 64) (As := [_, _, _, _, _]) C E.2.1 cs_X4_226 (mg_best4 c hc (has + inZ σ c has) (k + 1) ⟨by omega, by omega⟩ h2 h3 hxi (by omega)) rfl rfl (Nat.le_of_ble_eq_true rfl) ⟨by decide, by decide, by decide, by decide⟩ dX4_bestSum_64 ⟨rfl, rfl⟩ ?_
        refine y_iload (pc := 67) C dX4_bestSum_67 0 rfl ?_
        refine y_i2l (pc := 69) C dX4_bestSum_69 (by omega) (by omega) ?_
        refine y_lload (pc := 70) C dX4_bestSum_70 1 rfl ?_
        refine y_lmul (pc := 72) C dX4_bestSum_72 ?_
        refine y_lsub (pc := 73) C dX4_bestSum_73 ?_
        refine y_maxL (pc := 74) C E.2.1 cs_X4_234.1 cs_X4_234.2.1 cs_X4_234.2.2.1 cs_X4_234.2.2.2.1 (by decide) (Nat.le_of_ble_eq_true rfl) (by decide) (by decide) (by omega) (by omega) (by omega) (by omega) dX4_bestSum_74 ?_
        refine y_lstore (pc := 77) (L' := [(5, _), (9, _), (7, _), (0, _), (1, _), (2, _), (3, _), (4, _)]) C dX4_bestSum_77 (by rw [hn]; decide) rfl ?_
        refine y_aload_n (pc := 79) C dX4_bestSum_79 3 rfl ?_
        refine y_iload_n (pc := 80) C dX4_bestSum_80 5 rfl ?_
        refine y_callV (pc := 81) (As := [_]) C E.2.1 cv_X4_332 (ci := 1) rfl rfl (mc_mostOut c hc h2 _ h1) (fun h hh => ⟨_, hh.cus hc⟩) rfl rfl (Nat.le_of_ble_eq_true rfl) ⟨by decide, by decide, by decide, by decide⟩ dX4_bestSum_81 ⟨rfl, rfl⟩ ?_
        refine y_istore (pc := 84) (L' := [(10, _), (5, _), (9, _), (7, _), (0, _), (1, _), (2, _), (3, _), (4, _)]) C dX4_bestSum_84 (by rw [hn]; decide) rfl ?_
        refine y_iload (pc := 86) C dX4_bestSum_86 0 rfl ?_
        refine y_if_le (pc := 88) (tgt := 121) C dX4_bestSum_88 (by decide) (by omega) (by omega) (fun c88 => ?_) (fun c88 => ?_)
        · skip
          refine y_lload (pc := 121) C dX4_bestSum_121 1 rfl ?_
          exact y_lret (pc := 123) C E dX4_bestSum_123 (by decide) (by decide) (fun h hh => ⟨by rw [hV]; refine congrArg (fun v => some (Value.long (jv v))) ?_; split <;> split <;> omega, hh⟩)
        · skip
          refine y_lload (pc := 91) C dX4_bestSum_91 1 rfl ?_
          refine y_aload_n (pc := 93) C dX4_bestSum_93 4 rfl ?_
          refine y_aload_n (pc := 94) C dX4_bestSum_94 5 rfl ?_
          refine y_iload_n (pc := 95) C dX4_bestSum_95 6 rfl ?_
          refine y_iload (pc := 96) C dX4_bestSum_96 0 rfl ?_
          refine y_isub (pc := 98) C dX4_bestSum_98 ?_
          refine y_iload_n (pc := 99) C dX4_bestSum_99 7 rfl ?_
          refine y_iconst (pc := 100) C dX4_bestSum_100 ?_
          refine y_iadd (pc := 101) C dX4_bestSum_101 ?_
          refine y_iload (pc := 102) C dX4_bestSum_102 8 rfl ?_
          refine y_iconst (pc := 104) C dX4_bestSum_104 ?_
          refine y_isub (pc := 105) C dX4_bestSum_105 ?_
          rw [show ((5 : Int) - 1) = 4 from rfl, show (((nowN σ + k : Nat) : Int) + 1) = ((nowN σ + (k + 1) : Nat) : Int) from rfl]
          refine y_callS (pc := 106) (As := [_, _, _, _, _]) C E.2.1 cs_X4_226 (mg_best4 c hc (has - outZ σ c has) (k + 1) ⟨by omega, by omega⟩ h2 h3 hxi (by omega)) rfl rfl (Nat.le_of_ble_eq_true rfl) ⟨by decide, by decide, by decide, by decide⟩ dX4_bestSum_106 ⟨rfl, rfl⟩ ?_
          refine y_iload (pc := 109) C dX4_bestSum_109 0 rfl ?_
          refine y_i2l (pc := 111) C dX4_bestSum_111 (by omega) (by omega) ?_
          refine y_lload (pc := 112) C dX4_bestSum_112 3 rfl ?_
          refine y_lmul (pc := 114) C dX4_bestSum_114 ?_
          refine y_ladd (pc := 115) C dX4_bestSum_115 ?_
          refine y_maxL (pc := 116) C E.2.1 cs_X4_234.1 cs_X4_234.2.1 cs_X4_234.2.2.1 cs_X4_234.2.2.2.1 (by decide) (Nat.le_of_ble_eq_true rfl) (by decide) (by decide) (by omega) (by omega) (by omega) (by omega) dX4_bestSum_116 ?_
          refine y_lstore (pc := 119) (L' := [(5, _), (10, _), (9, _), (7, _), (0, _), (1, _), (2, _), (3, _), (4, _)]) C dX4_bestSum_119 (by rw [hn]; decide) rfl ?_
          refine y_lload (pc := 121) C dX4_bestSum_121 0 rfl ?_
          exact y_lret (pc := 123) C E dX4_bestSum_123 (by decide) (by decide) (fun h hh => ⟨by rw [hV]; refine congrArg (fun v => some (Value.long (jv v))) ?_; split <;> split <;> omega, hh⟩)
    · exact absurd (by decide) c9

set_option maxRecDepth 20000 in
theorem mg_best6 {Ω : OmT} {hR : AH} {lay : Nat → Nat → Nat} {ξ : XiT} {ms ns nc nl : Nat} {σ : ZT} {τ : JT} (c : Nat) (hc : c < nc) (has : Int) (k : Nat) (h1 : 0 ≤ has ∧ has ≤ σ 17 c) (h2 : CuOk σ c) (h3 : PrOk σ) (hxi : ∀ j, ξ.1 j = σ 26 j) (hNk : nowN σ + k + 6 ≤ 20000) : Ct Ω yX4_bestSum cX4_bestSum 11 (some FieldType.long) (rk 11) [.ref (lay 2 c), .ref (lay 0 4), .int (iv has), .int (iv ((nowN σ + k : Nat) : Int)), .int (iv 6)] (InvC Ω lay ms ns nc nl ξ σ τ) hR (RV (.long (jv (bestV σ c 6 has k))) (InvC Ω lay ms ns nc nl ξ σ τ)) NX := by
  refine Ct.of (own := RX4) (L := [(0, _), (1, _), (2, _), (3, _), (4, _)]) (by decide +kernel) rfl (Nat.le_of_ble_eq_true rfl) rfl ?_
  intro κ C hn E hi
  have hV : bestV σ c 6 has k = max (max (bestV σ c 5 has (k + 1)) (if 0 < inZ σ c has then bestV σ c 5 (has + inZ σ c has) (k + 1) - inZ σ c has * pricZ σ k else bestV σ c 5 has (k + 1))) (if 0 < outZ σ c has then bestV σ c 5 (has - outZ σ c has) (k + 1) + outZ σ c has * pricZ σ k else bestV σ c 5 has (k + 1)) := rfl
  have hcu := h2
  unfold CuOk at hcu
  have hin := inz_b h2 h1.1 h1.2
  have hou := outz_b h2 h1.1 h1.2
  have hpk : -1000 ≤ pricZ σ k ∧ pricZ σ k ≤ 1000 := h3 _ (Nat.mod_lt _ (by decide))
  have hm1 := mul_b (a := inZ σ c has) (A := 100000) (by omega) (by omega) hpk.1 hpk.2
  have hm2 := mul_b (a := outZ σ c has) (A := 100000) (by omega) (by omega) hpk.1 hpk.2
  have hb0 := bestV_b (l := 5) h2 h3 has (k + 1) h1.1 h1.2
  have hb1 := bestV_b (l := 5) h2 h3 (has + inZ σ c has) (k + 1) (by omega) (by omega)
  have hb2 := bestV_b (l := 5) h2 h3 (has - outZ σ c has) (k + 1) (by omega) (by omega)
  have hn0 := bestV_nn (σ := σ) (c := c) (l := 5) has (k + 1)
  have hn1 := bestV_nn (σ := σ) (c := c) (l := 5) (has + inZ σ c has) (k + 1)
  have hn2 := bestV_nn (σ := σ) (c := c) (l := 5) (has - outZ σ c has) (k + 1)
  refine y_iload (pc := 0) C dX4_bestSum_0 4 rfl ?_
  refine y_if_le (pc := 2) (tgt := 12) C dX4_bestSum_2 (by decide) (by omega) (by omega) (fun c2 => ?_) (fun c2 => ?_)
  · exact absurd c2 (by decide)
  · skip
    refine y_iload (pc := 5) C dX4_bestSum_5 4 rfl ?_
    refine y_bipush (pc := 7) (z := 8) C dX4_bestSum_7 (by decide) ?_
    refine y_icmp_le (pc := 9) (tgt := 14) C dX4_bestSum_9 (by decide) (by omega) (by omega) (by omega) (by omega) (fun c9 => ?_) (fun c9 => ?_)
    · skip
      refine y_aload_n (pc := 14) C dX4_bestSum_14 0 rfl ?_
      refine y_aload_n (pc := 15) C dX4_bestSum_15 1 rfl ?_
      refine y_iload_n (pc := 16) C dX4_bestSum_16 2 rfl ?_
      refine y_iload_n (pc := 17) C dX4_bestSum_17 3 rfl ?_
      refine y_iconst (pc := 18) C dX4_bestSum_18 ?_
      refine y_iadd (pc := 19) C dX4_bestSum_19 ?_
      refine y_iload (pc := 20) C dX4_bestSum_20 4 rfl ?_
      refine y_iconst (pc := 22) C dX4_bestSum_22 ?_
      refine y_isub (pc := 23) C dX4_bestSum_23 ?_
      rw [show ((6 : Int) - 1) = 5 from rfl, show (((nowN σ + k : Nat) : Int) + 1) = ((nowN σ + (k + 1) : Nat) : Int) from rfl]
      refine y_callS (pc := 24) (As := [_, _, _, _, _]) C E.2.1 cs_X4_226 (mg_best5 c hc has (k + 1) h1 h2 h3 hxi (by omega)) rfl rfl (Nat.le_of_ble_eq_true rfl) ⟨by decide, by decide, by decide, by decide⟩ dX4_bestSum_24 ⟨rfl, rfl⟩ ?_
      refine y_lstore (pc := 27) (L' := [(5, _), (0, _), (1, _), (2, _), (3, _), (4, _)]) C dX4_bestSum_27 (by rw [hn]; decide) rfl ?_
      refine y_aload_n (pc := 29) C dX4_bestSum_29 2 rfl ?_
      refine y_iload_n (pc := 30) C dX4_bestSum_30 4 rfl ?_
      refine y_callV (pc := 31) (As := [_]) C E.2.1 cv_X4_326 (ci := 2) rfl rfl (mc_at (lay 0 4) (lay 0 5) ξ.1 (nowN σ + k) (by omega) (fun h hh => hh.pri)) (fun h hh => ⟨_, hh.pri.1⟩) rfl rfl (Nat.le_of_ble_eq_true rfl) ⟨by decide, by decide, by decide, by decide⟩ dX4_bestSum_31 ⟨rfl, rfl⟩ ?_
      rw [show ξ.1 ((nowN σ + k) % 64) = pricZ σ k from hxi _]
      refine y_i2l (pc := 34) C dX4_bestSum_34 (by omega) (by omega) ?_
      refine y_lstore (pc := 35) (L' := [(7, _), (5, _), (0, _), (1, _), (2, _), (3, _), (4, _)]) C dX4_bestSum_35 (by rw [hn]; decide) rfl ?_
      refine y_aload_n (pc := 37) C dX4_bestSum_37 2 rfl ?_
      refine y_iload_n (pc := 38) C dX4_bestSum_38 4 rfl ?_
      refine y_callV (pc := 39) (As := [_]) C E.2.1 cv_X4_329 (ci := 1) rfl rfl (mc_mostIn c hc h2 _ h1) (fun h hh => ⟨_, hh.cus hc⟩) rfl rfl (Nat.le_of_ble_eq_true rfl) ⟨by decide, by decide, by decide, by decide⟩ dX4_bestSum_39 ⟨rfl, rfl⟩ ?_
      refine y_istore (pc := 42) (L' := [(9, _), (7, _), (5, _), (0, _), (1, _), (2, _), (3, _), (4, _)]) C dX4_bestSum_42 (by rw [hn]; decide) rfl ?_
      refine y_iload (pc := 44) C dX4_bestSum_44 0 rfl ?_
      refine y_if_le (pc := 46) (tgt := 79) C dX4_bestSum_46 (by decide) (by omega) (by omega) (fun c46 => ?_) (fun c46 => ?_)
      · skip
        refine y_aload_n (pc := 79) C dX4_bestSum_79 3 rfl ?_
        refine y_iload_n (pc := 80) C dX4_bestSum_80 5 rfl ?_
        refine y_callV (pc := 81) (As := [_]) C E.2.1 cv_X4_332 (ci := 1) rfl rfl (mc_mostOut c hc h2 _ h1) (fun h hh => ⟨_, hh.cus hc⟩) rfl rfl (Nat.le_of_ble_eq_true rfl) ⟨by decide, by decide, by decide, by decide⟩ dX4_bestSum_81 ⟨rfl, rfl⟩ ?_
        refine y_istore (pc := 84) (L' := [(10, _), (9, _), (7, _), (5, _), (0, _), (1, _), (2, _), (3, _), (4, _)]) C dX4_bestSum_84 (by rw [hn]; decide) rfl ?_
        refine y_iload (pc := 86) C dX4_bestSum_86 0 rfl ?_
        refine y_if_le (pc := 88) (tgt := 121) C dX4_bestSum_88 (by decide) (by omega) (by omega) (fun c88 => ?_) (fun c88 => ?_)
        · skip
          refine y_lload (pc := 121) C dX4_bestSum_121 3 rfl ?_
          exact y_lret (pc := 123) C E dX4_bestSum_123 (by decide) (by decide) (fun h hh => ⟨by rw [hV]; refine congrArg (fun v => some (Value.long (jv v))) ?_; split <;> split <;> omega, hh⟩)
        · skip
          refine y_lload (pc := 91) C dX4_bestSum_91 3 rfl ?_
          refine y_aload_n (pc := 93) C dX4_bestSum_93 4 rfl ?_
          refine y_aload_n (pc := 94) C dX4_bestSum_94 5 rfl ?_
          refine y_iload_n (pc := 95) C dX4_bestSum_95 6 rfl ?_
          refine y_iload (pc := 96) C dX4_bestSum_96 0 rfl ?_
          refine y_isub (pc := 98) C dX4_bestSum_98 ?_
          refine y_iload_n (pc := 99) C dX4_bestSum_99 7 rfl ?_
          refine y_iconst (pc := 100) C dX4_bestSum_100 ?_
          refine y_iadd (pc := 101) C dX4_bestSum_101 ?_
          refine y_iload (pc := 102) C dX4_bestSum_102 8 rfl ?_
          refine y_iconst (pc := 104) C dX4_bestSum_104 ?_
          refine y_isub (pc := 105) C dX4_bestSum_105 ?_
          rw [show ((6 : Int) - 1) = 5 from rfl, show (((nowN σ + k : Nat) : Int) + 1) = ((nowN σ + (k + 1) : Nat) : Int) from rfl]
          refine y_callS (pc := 106) (As := [_, _, _, _, _]) C E.2.1 cs_X4_226 (mg_best5 c hc (has - outZ σ c has) (k + 1) ⟨by omega, by omega⟩ h2 h3 hxi (by omega)) rfl rfl (Nat.le_of_ble_eq_true rfl) ⟨by decide, by decide, by decide, by decide⟩ dX4_bestSum_106 ⟨rfl, rfl⟩ ?_
          refine y_iload (pc := 109) C dX4_bestSum_109 0 rfl ?_
          refine y_i2l (pc := 111) C dX4_bestSum_111 (by omega) (by omega) ?_
          refine y_lload (pc := 112) C dX4_bestSum_112 2 rfl ?_
          refine y_lmul (pc := 114) C dX4_bestSum_114 ?_
          refine y_ladd (pc := 115) C dX4_bestSum_115 ?_
          refine y_maxL (pc := 116) C E.2.1 cs_X4_234.1 cs_X4_234.2.1 cs_X4_234.2.2.1 cs_X4_234.2.2.2.1 (by decide) (Nat.le_of_ble_eq_true rfl) (by decide) (by decide) (by omega) (by omega) (by omega) (by omega) dX4_bestSum_116 ?_
          refine y_lstore (pc := 119) (L' := [(5, _), (10, _), (9, _), (7, _), (0, _), (1, _), (2, _), (3, _), (4, _)]) C dX4_bestSum_119 (by rw [hn]; decide) rfl ?_
          refine y_lload (pc := 121) C dX4_bestSum_121 0 rfl ?_
          exact y_lret (pc := 123) C E dX4_bestSum_123 (by decide) (by decide) (fun h hh => ⟨by rw [hV]; refine congrArg (fun v => some (Value.long (jv v))) ?_; split <;> split <;> omega, hh⟩)
      · skip
        refine y_lload (pc := 49) C dX4_bestSum_49 2 rfl ?_
        refine y_aload_n (pc := 51) C dX4_bestSum_51 3 rfl ?_
        refine y_aload_n (pc := 52) C dX4_bestSum_52 4 rfl ?_
        refine y_iload_n (pc := 53) C dX4_bestSum_53 5 rfl ?_
        refine y_iload (pc := 54) C dX4_bestSum_54 0 rfl ?_
        refine y_iadd (pc := 56) C dX4_bestSum_56 ?_
        refine y_iload_n (pc := 57) C dX4_bestSum_57 6 rfl ?_
        refine y_iconst (pc := 58) C dX4_bestSum_58 ?_
        refine y_iadd (pc := 59) C dX4_bestSum_59 ?_
        refine y_iload (pc := 60) C dX4_bestSum_60 7 rfl ?_
        refine y_iconst (pc := 62) C dX4_bestSum_62 ?_
        refine y_isub (pc := 63) C dX4_bestSum_63 ?_
        rw [show ((6 : Int) - 1) = 5 from rfl, show (((nowN σ + k : Nat) : Int) + 1) = ((nowN σ + (k + 1) : Nat) : Int) from rfl]
        refine y_callS (pc := 64) (As := [_, _, _, _, _]) C E.2.1 cs_X4_226 (mg_best5 c hc (has + inZ σ c has) (k + 1) ⟨by omega, by omega⟩ h2 h3 hxi (by omega)) rfl rfl (Nat.le_of_ble_eq_true rfl) ⟨by decide, by decide, by decide, by decide⟩ dX4_bestSum_64 ⟨rfl, rfl⟩ ?_
        refine y_iload (pc := 67) C dX4_bestSum_67 0 rfl ?_
        refine y_i2l (pc := 69) C dX4_bestSum_69 (by omega) (by omega) ?_
        refine y_lload (pc := 70) C dX4_bestSum_70 1 rfl ?_
        refine y_lmul (pc := 72) C dX4_bestSum_72 ?_
        refine y_lsub (pc := 73) C dX4_bestSum_73 ?_
        refine y_maxL (pc := 74) C E.2.1 cs_X4_234.1 cs_X4_234.2.1 cs_X4_234.2.2.1 cs_X4_234.2.2.2.1 (by decide) (Nat.le_of_ble_eq_true rfl) (by decide) (by decide) (by omega) (by omega) (by omega) (by omega) dX4_bestSum_74 ?_
        refine y_lstore (pc := 77) (L' := [(5, _), (9, _), (7, _), (0, _), (1, _), (2, _), (3, _), (4, _)]) C dX4_bestSum_77 (by rw [hn]; decide) rfl ?_
        refine y_aload_n (pc := 79) C dX4_bestSum_79 3 rfl ?_
        refine y_iload_n (pc := 80) C dX4_bestSum_80 5 rfl ?_
        refine y_callV (pc := 81) (As := [_]) C E.2.1 cv_X4_332 (ci := 1) rfl rfl (mc_mostOut c hc h2 _ h1) (fun h hh => ⟨_, hh.cus hc⟩) rfl rfl (Nat.le_of_ble_eq_true rfl) ⟨by decide, by decide, by decide, by decide⟩ dX4_bestSum_81 ⟨rfl, rfl⟩ ?_
        refine y_istore (pc := 84) (L' := [(10, _), (5, _), (9, _), (7, _), (0, _), (1, _), (2, _), (3, _), (4, _)]) C dX4_bestSum_84 (by rw [hn]; decide) rfl ?_
        refine y_iload (pc := 86) C dX4_bestSum_86 0 rfl ?_
        refine y_if_le (pc := 88) (tgt := 121) C dX4_bestSum_88 (by decide) (by omega) (by omega) (fun c88 => ?_) (fun c88 => ?_)
        · skip
          refine y_lload (pc := 121) C dX4_bestSum_121 1 rfl ?_
          exact y_lret (pc := 123) C E dX4_bestSum_123 (by decide) (by decide) (fun h hh => ⟨by rw [hV]; refine congrArg (fun v => some (Value.long (jv v))) ?_; split <;> split <;> omega, hh⟩)
        · skip
          refine y_lload (pc := 91) C dX4_bestSum_91 1 rfl ?_
          refine y_aload_n (pc := 93) C dX4_bestSum_93 4 rfl ?_
          refine y_aload_n (pc := 94) C dX4_bestSum_94 5 rfl ?_
          refine y_iload_n (pc := 95) C dX4_bestSum_95 6 rfl ?_
          refine y_iload (pc := 96) C dX4_bestSum_96 0 rfl ?_
          refine y_isub (pc := 98) C dX4_bestSum_98 ?_
          refine y_iload_n (pc := 99) C dX4_bestSum_99 7 rfl ?_
          refine y_iconst (pc := 100) C dX4_bestSum_100 ?_
          refine y_iadd (pc := 101) C dX4_bestSum_101 ?_
          refine y_iload (pc := 102) C dX4_bestSum_102 8 rfl ?_
          refine y_iconst (pc := 104) C dX4_bestSum_104 ?_
          refine y_isub (pc := 105) C dX4_bestSum_105 ?_
          rw [show ((6 : Int) - 1) = 5 from rfl, show (((nowN σ + k : Nat) : Int) + 1) = ((nowN σ + (k + 1) : Nat) : Int) from rfl]
          refine y_callS (pc := 106) (As := [_, _, _, _, _]) C E.2.1 cs_X4_226 (mg_best5 c hc (has - outZ σ c has) (k + 1) ⟨by omega, by omega⟩ h2 h3 hxi (by omega)) rfl rfl (Nat.le_of_ble_eq_true rfl) ⟨by decide, by decide, by decide, by decide⟩ dX4_bestSum_106 ⟨rfl, rfl⟩ ?_
          refine y_iload (pc := 109) C dX4_bestSum_109 0 rfl ?_
          refine y_i2l (pc := 111) C dX4_bestSum_111 (by omega) (by omega) ?_
          refine y_lload (pc := 112) C dX4_bestSum_112 3 rfl ?_
          refine y_lmul (pc := 114) C dX4_bestSum_114 ?_
          refine y_ladd (pc := 115) C dX4_bestSum_115 ?_
          refine y_maxL (pc := 116) C E.2.1 cs_X4_234.1 cs_X4_234.2.1 cs_X4_234.2.2.1 cs_X4_234.2.2.2.1 (by decide) (Nat.le_of_ble_eq_true rfl) (by decide) (by decide) (by omega) (by omega) (by omega) (by omega) dX4_bestSum_116 ?_
          refine y_lstore (pc := 119) (L' := [(5, _), (10, _), (9, _), (7, _), (0, _), (1, _), (2, _), (3, _), (4, _)]) C dX4_bestSum_119 (by rw [hn]; decide) rfl ?_
          refine y_lload (pc := 121) C dX4_bestSum_121 0 rfl ?_
          exact y_lret (pc := 123) C E dX4_bestSum_123 (by decide) (by decide) (fun h hh => ⟨by rw [hV]; refine congrArg (fun v => some (Value.long (jv v))) ?_; split <;> split <;> omega, hh⟩)
    · exact absurd (by decide) c9

set_option maxRecDepth 20000 in
theorem mg_best7 {Ω : OmT} {hR : AH} {lay : Nat → Nat → Nat} {ξ : XiT} {ms ns nc nl : Nat} {σ : ZT} {τ : JT} (c : Nat) (hc : c < nc) (has : Int) (k : Nat) (h1 : 0 ≤ has ∧ has ≤ σ 17 c) (h2 : CuOk σ c) (h3 : PrOk σ) (hxi : ∀ j, ξ.1 j = σ 26 j) (hNk : nowN σ + k + 7 ≤ 20000) : Ct Ω yX4_bestSum cX4_bestSum 11 (some FieldType.long) (rk 12) [.ref (lay 2 c), .ref (lay 0 4), .int (iv has), .int (iv ((nowN σ + k : Nat) : Int)), .int (iv 7)] (InvC Ω lay ms ns nc nl ξ σ τ) hR (RV (.long (jv (bestV σ c 7 has k))) (InvC Ω lay ms ns nc nl ξ σ τ)) NX := by
  refine Ct.of (own := RX4) (L := [(0, _), (1, _), (2, _), (3, _), (4, _)]) (by decide +kernel) rfl (Nat.le_of_ble_eq_true rfl) rfl ?_
  intro κ C hn E hi
  have hV : bestV σ c 7 has k = max (max (bestV σ c 6 has (k + 1)) (if 0 < inZ σ c has then bestV σ c 6 (has + inZ σ c has) (k + 1) - inZ σ c has * pricZ σ k else bestV σ c 6 has (k + 1))) (if 0 < outZ σ c has then bestV σ c 6 (has - outZ σ c has) (k + 1) + outZ σ c has * pricZ σ k else bestV σ c 6 has (k + 1)) := rfl
  have hcu := h2
  unfold CuOk at hcu
  have hin := inz_b h2 h1.1 h1.2
  have hou := outz_b h2 h1.1 h1.2
  have hpk : -1000 ≤ pricZ σ k ∧ pricZ σ k ≤ 1000 := h3 _ (Nat.mod_lt _ (by decide))
  have hm1 := mul_b (a := inZ σ c has) (A := 100000) (by omega) (by omega) hpk.1 hpk.2
  have hm2 := mul_b (a := outZ σ c has) (A := 100000) (by omega) (by omega) hpk.1 hpk.2
  have hb0 := bestV_b (l := 6) h2 h3 has (k + 1) h1.1 h1.2
  have hb1 := bestV_b (l := 6) h2 h3 (has + inZ σ c has) (k + 1) (by omega) (by omega)
  have hb2 := bestV_b (l := 6) h2 h3 (has - outZ σ c has) (k + 1) (by omega) (by omega)
  have hn0 := bestV_nn (σ := σ) (c := c) (l := 6) has (k + 1)
  have hn1 := bestV_nn (σ := σ) (c := c) (l := 6) (has + inZ σ c has) (k + 1)
  have hn2 := bestV_nn (σ := σ) (c := c) (l := 6) (has - outZ σ c has) (k + 1)
  refine y_iload (pc := 0) C dX4_bestSum_0 4 rfl ?_
  refine y_if_le (pc := 2) (tgt := 12) C dX4_bestSum_2 (by decide) (by omega) (by omega) (fun c2 => ?_) (fun c2 => ?_)
  · exact absurd c2 (by decide)
  · skip
    refine y_iload (pc := 5) C dX4_bestSum_5 4 rfl ?_
    refine y_bipush (pc := 7) (z := 8) C dX4_bestSum_7 (by decide) ?_
    refine y_icmp_le (pc := 9) (tgt := 14) C dX4_bestSum_9 (by decide) (by omega) (by omega) (by omega) (by omega) (fun c9 => ?_) (fun c9 => ?_)
    · skip
      refine y_aload_n (pc := 14) C dX4_bestSum_14 0 rfl ?_
      refine y_aload_n (pc := 15) C dX4_bestSum_15 1 rfl ?_
      refine y_iload_n (pc := 16) C dX4_bestSum_16 2 rfl ?_
      refine y_iload_n (pc := 17) C dX4_bestSum_17 3 rfl ?_
      refine y_iconst (pc := 18) C dX4_bestSum_18 ?_
      refine y_iadd (pc := 19) C dX4_bestSum_19 ?_
      refine y_iload (pc := 20) C dX4_bestSum_20 4 rfl ?_
      refine y_iconst (pc := 22) C dX4_bestSum_22 ?_
      refine y_isub (pc := 23) C dX4_bestSum_23 ?_
      rw [show ((7 : Int) - 1) = 6 from rfl, show (((nowN σ + k : Nat) : Int) + 1) = ((nowN σ + (k + 1) : Nat) : Int) from rfl]
      refine y_callS (pc := 24) (As := [_, _, _, _, _]) C E.2.1 cs_X4_226 (mg_best6 c hc has (k + 1) h1 h2 h3 hxi (by omega)) rfl rfl (Nat.le_of_ble_eq_true rfl) ⟨by decide, by decide, by decide, by decide⟩ dX4_bestSum_24 ⟨rfl, rfl⟩ ?_
      refine y_lstore (pc := 27) (L' := [(5, _), (0, _), (1, _), (2, _), (3, _), (4, _)]) C dX4_bestSum_27 (by rw [hn]; decide) rfl ?_
      refine y_aload_n (pc := 29) C dX4_bestSum_29 2 rfl ?_
      refine y_iload_n (pc := 30) C dX4_bestSum_30 4 rfl ?_
      refine y_callV (pc := 31) (As := [_]) C E.2.1 cv_X4_326 (ci := 2) rfl rfl (mc_at (lay 0 4) (lay 0 5) ξ.1 (nowN σ + k) (by omega) (fun h hh => hh.pri)) (fun h hh => ⟨_, hh.pri.1⟩) rfl rfl (Nat.le_of_ble_eq_true rfl) ⟨by decide, by decide, by decide, by decide⟩ dX4_bestSum_31 ⟨rfl, rfl⟩ ?_
      rw [show ξ.1 ((nowN σ + k) % 64) = pricZ σ k from hxi _]
      refine y_i2l (pc := 34) C dX4_bestSum_34 (by omega) (by omega) ?_
      refine y_lstore (pc := 35) (L' := [(7, _), (5, _), (0, _), (1, _), (2, _), (3, _), (4, _)]) C dX4_bestSum_35 (by rw [hn]; decide) rfl ?_
      refine y_aload_n (pc := 37) C dX4_bestSum_37 2 rfl ?_
      refine y_iload_n (pc := 38) C dX4_bestSum_38 4 rfl ?_
      refine y_callV (pc := 39) (As := [_]) C E.2.1 cv_X4_329 (ci := 1) rfl rfl (mc_mostIn c hc h2 _ h1) (fun h hh => ⟨_, hh.cus hc⟩) rfl rfl (Nat.le_of_ble_eq_true rfl) ⟨by decide, by decide, by decide, by decide⟩ dX4_bestSum_39 ⟨rfl, rfl⟩ ?_
      refine y_istore (pc := 42) (L' := [(9, _), (7, _), (5, _), (0, _), (1, _), (2, _), (3, _), (4, _)]) C dX4_bestSum_42 (by rw [hn]; decide) rfl ?_
      refine y_iload (pc := 44) C dX4_bestSum_44 0 rfl ?_
      refine y_if_le (pc := 46) (tgt := 79) C dX4_bestSum_46 (by decide) (by omega) (by omega) (fun c46 => ?_) (fun c46 => ?_)
      · skip
        refine y_aload_n (pc := 79) C dX4_bestSum_79 3 rfl ?_
        refine y_iload_n (pc := 80) C dX4_bestSum_80 5 rfl ?_
        refine y_callV (pc := 81) (As := [_]) C E.2.1 cv_X4_332 (ci := 1) rfl rfl (mc_mostOut c hc h2 _ h1) (fun h hh => ⟨_, hh.cus hc⟩) rfl rfl (Nat.le_of_ble_eq_true rfl) ⟨by decide, by decide, by decide, by decide⟩ dX4_bestSum_81 ⟨rfl, rfl⟩ ?_
        refine y_istore (pc := 84) (L' := [(10, _), (9, _), (7, _), (5, _), (0, _), (1, _), (2, _), (3, _), (4, _)]) C dX4_bestSum_84 (by rw [hn]; decide) rfl ?_
        refine y_iload (pc := 86) C dX4_bestSum_86 0 rfl ?_
        refine y_if_le (pc := 88) (tgt := 121) C dX4_bestSum_88 (by decide) (by omega) (by omega) (fun c88 => ?_) (fun c88 => ?_)
        · skip
          refine y_lload (pc := 121) C dX4_bestSum_121 3 rfl ?_
          exact y_lret (pc := 123) C E dX4_bestSum_123 (by decide) (by decide) (fun h hh => ⟨by rw [hV]; refine congrArg (fun v => some (Value.long (jv v))) ?_; split <;> split <;> omega, hh⟩)
        · skip
          refine y_lload (pc := 91) C dX4_bestSum_91 3 rfl ?_
          refine y_aload_n (pc := 93) C dX4_bestSum_93 4 rfl ?_
          refine y_aload_n (pc := 94) C dX4_bestSum_94 5 rfl ?_
          refine y_iload_n (pc := 95) C dX4_bestSum_95 6 rfl ?_
          refine y_iload (pc := 96) C dX4_bestSum_96 0 rfl ?_
          refine y_isub (pc := 98) C dX4_bestSum_98 ?_
          refine y_iload_n (pc := 99) C dX4_bestSum_99 7 rfl ?_
          refine y_iconst (pc := 100) C dX4_bestSum_100 ?_
          refine y_iadd (pc := 101) C dX4_bestSum_101 ?_
          refine y_iload (pc := 102) C dX4_bestSum_102 8 rfl ?_
          refine y_iconst (pc := 104) C dX4_bestSum_104 ?_
          refine y_isub (pc := 105) C dX4_bestSum_105 ?_
          rw [show ((7 : Int) - 1) = 6 from rfl, show (((nowN σ + k : Nat) : Int) + 1) = ((nowN σ + (k + 1) : Nat) : Int) from rfl]
          refine y_callS (pc := 106) (As := [_, _, _, _, _]) C E.2.1 cs_X4_226 (mg_best6 c hc (has - outZ σ c has) (k + 1) ⟨by omega, by omega⟩ h2 h3 hxi (by omega)) rfl rfl (Nat.le_of_ble_eq_true rfl) ⟨by decide, by decide, by decide, by decide⟩ dX4_bestSum_106 ⟨rfl, rfl⟩ ?_
          refine y_iload (pc := 109) C dX4_bestSum_109 0 rfl ?_
          refine y_i2l (pc := 111) C dX4_bestSum_111 (by omega) (by omega) ?_
          refine y_lload (pc := 112) C dX4_bestSum_112 2 rfl ?_
          refine y_lmul (pc := 114) C dX4_bestSum_114 ?_
          refine y_ladd (pc := 115) C dX4_bestSum_115 ?_
          refine y_maxL (pc := 116) C E.2.1 cs_X4_234.1 cs_X4_234.2.1 cs_X4_234.2.2.1 cs_X4_234.2.2.2.1 (by decide) (Nat.le_of_ble_eq_true rfl) (by decide) (by decide) (by omega) (by omega) (by omega) (by omega) dX4_bestSum_116 ?_
          refine y_lstore (pc := 119) (L' := [(5, _), (10, _), (9, _), (7, _), (0, _), (1, _), (2, _), (3, _), (4, _)]) C dX4_bestSum_119 (by rw [hn]; decide) rfl ?_
          refine y_lload (pc := 121) C dX4_bestSum_121 0 rfl ?_
          exact y_lret (pc := 123) C E dX4_bestSum_123 (by decide) (by decide) (fun h hh => ⟨by rw [hV]; refine congrArg (fun v => some (Value.long (jv v))) ?_; split <;> split <;> omega, hh⟩)
      · skip
        refine y_lload (pc := 49) C dX4_bestSum_49 2 rfl ?_
        refine y_aload_n (pc := 51) C dX4_bestSum_51 3 rfl ?_
        refine y_aload_n (pc := 52) C dX4_bestSum_52 4 rfl ?_
        refine y_iload_n (pc := 53) C dX4_bestSum_53 5 rfl ?_
        refine y_iload (pc := 54) C dX4_bestSum_54 0 rfl ?_
        refine y_iadd (pc := 56) C dX4_bestSum_56 ?_
        refine y_iload_n (pc := 57) C dX4_bestSum_57 6 rfl ?_
        refine y_iconst (pc := 58) C dX4_bestSum_58 ?_
        refine y_iadd (pc := 59) C dX4_bestSum_59 ?_
        refine y_iload (pc := 60) C dX4_bestSum_60 7 rfl ?_
        refine y_iconst (pc := 62) C dX4_bestSum_62 ?_
        refine y_isub (pc := 63) C dX4_bestSum_63 ?_
        rw [show ((7 : Int) - 1) = 6 from rfl, show (((nowN σ + k : Nat) : Int) + 1) = ((nowN σ + (k + 1) : Nat) : Int) from rfl]
        refine y_callS (pc := 64) (As := [_, _, _, _, _]) C E.2.1 cs_X4_226 (mg_best6 c hc (has + inZ σ c has) (k + 1) ⟨by omega, by omega⟩ h2 h3 hxi (by omega)) rfl rfl (Nat.le_of_ble_eq_true rfl) ⟨by decide, by decide, by decide, by decide⟩ dX4_bestSum_64 ⟨rfl, rfl⟩ ?_
        refine y_iload (pc := 67) C dX4_bestSum_67 0 rfl ?_
        refine y_i2l (pc := 69) C dX4_bestSum_69 (by omega) (by omega) ?_
        refine y_lload (pc := 70) C dX4_bestSum_70 1 rfl ?_
        refine y_lmul (pc := 72) C dX4_bestSum_72 ?_
        refine y_lsub (pc := 73) C dX4_bestSum_73 ?_
        refine y_maxL (pc := 74) C E.2.1 cs_X4_234.1 cs_X4_234.2.1 cs_X4_234.2.2.1 cs_X4_234.2.2.2.1 (by decide) (Nat.le_of_ble_eq_true rfl) (by decide) (by decide) (by omega) (by omega) (by omega) (by omega) dX4_bestSum_74 ?_
        refine y_lstore (pc := 77) (L' := [(5, _), (9, _), (7, _), (0, _), (1, _), (2, _), (3, _), (4, _)]) C dX4_bestSum_77 (by rw [hn]; decide) rfl ?_
        refine y_aload_n (pc := 79) C dX4_bestSum_79 3 rfl ?_
        refine y_iload_n (pc := 80) C dX4_bestSum_80 5 rfl ?_
        refine y_callV (pc := 81) (As := [_]) C E.2.1 cv_X4_332 (ci := 1) rfl rfl (mc_mostOut c hc h2 _ h1) (fun h hh => ⟨_, hh.cus hc⟩) rfl rfl (Nat.le_of_ble_eq_true rfl) ⟨by decide, by decide, by decide, by decide⟩ dX4_bestSum_81 ⟨rfl, rfl⟩ ?_
        refine y_istore (pc := 84) (L' := [(10, _), (5, _), (9, _), (7, _), (0, _), (1, _), (2, _), (3, _), (4, _)]) C dX4_bestSum_84 (by rw [hn]; decide) rfl ?_
        refine y_iload (pc := 86) C dX4_bestSum_86 0 rfl ?_
        refine y_if_le (pc := 88) (tgt := 121) C dX4_bestSum_88 (by decide) (by omega) (by omega) (fun c88 => ?_) (fun c88 => ?_)
        · skip
          refine y_lload (pc := 121) C dX4_bestSum_121 1 rfl ?_
          exact y_lret (pc := 123) C E dX4_bestSum_123 (by decide) (by decide) (fun h hh => ⟨by rw [hV]; refine congrArg (fun v => some (Value.long (jv v))) ?_; split <;> split <;> omega, hh⟩)
        · skip
          refine y_lload (pc := 91) C dX4_bestSum_91 1 rfl ?_
          refine y_aload_n (pc := 93) C dX4_bestSum_93 4 rfl ?_
          refine y_aload_n (pc := 94) C dX4_bestSum_94 5 rfl ?_
          refine y_iload_n (pc := 95) C dX4_bestSum_95 6 rfl ?_
          refine y_iload (pc := 96) C dX4_bestSum_96 0 rfl ?_
          refine y_isub (pc := 98) C dX4_bestSum_98 ?_
          refine y_iload_n (pc := 99) C dX4_bestSum_99 7 rfl ?_
          refine y_iconst (pc := 100) C dX4_bestSum_100 ?_
          refine y_iadd (pc := 101) C dX4_bestSum_101 ?_
          refine y_iload (pc := 102) C dX4_bestSum_102 8 rfl ?_
          refine y_iconst (pc := 104) C dX4_bestSum_104 ?_
          refine y_isub (pc := 105) C dX4_bestSum_105 ?_
          rw [show ((7 : Int) - 1) = 6 from rfl, show (((nowN σ + k : Nat) : Int) + 1) = ((nowN σ + (k + 1) : Nat) : Int) from rfl]
          refine y_callS (pc := 106) (As := [_, _, _, _, _]) C E.2.1 cs_X4_226 (mg_best6 c hc (has - outZ σ c has) (k + 1) ⟨by omega, by omega⟩ h2 h3 hxi (by omega)) rfl rfl (Nat.le_of_ble_eq_true rfl) ⟨by decide, by decide, by decide, by decide⟩ dX4_bestSum_106 ⟨rfl, rfl⟩ ?_
          refine y_iload (pc := 109) C dX4_bestSum_109 0 rfl ?_
          refine y_i2l (pc := 111) C dX4_bestSum_111 (by omega) (by omega) ?_
          refine y_lload (pc := 112) C dX4_bestSum_112 3 rfl ?_
          refine y_lmul (pc := 114) C dX4_bestSum_114 ?_
          refine y_ladd (pc := 115) C dX4_bestSum_115 ?_
          refine y_maxL (pc := 116) C E.2.1 cs_X4_234.1 cs_X4_234.2.1 cs_X4_234.2.2.1 cs_X4_234.2.2.2.1 (by decide) (Nat.le_of_ble_eq_true rfl) (by decide) (by decide) (by omega) (by omega) (by omega) (by omega) dX4_bestSum_116 ?_
          refine y_lstore (pc := 119) (L' := [(5, _), (10, _), (9, _), (7, _), (0, _), (1, _), (2, _), (3, _), (4, _)]) C dX4_bestSum_119 (by rw [hn]; decide) rfl ?_
          refine y_lload (pc := 121) C dX4_bestSum_121 0 rfl ?_
          exact y_lret (pc := 123) C E dX4_bestSum_123 (by decide) (by decide) (fun h hh => ⟨by rw [hV]; refine congrArg (fun v => some (Value.long (jv v))) ?_; split <;> split <;> omega, hh⟩)
    · exact absurd (by decide) c9

set_option maxRecDepth 20000 in
theorem mg_best8 {Ω : OmT} {hR : AH} {lay : Nat → Nat → Nat} {ξ : XiT} {ms ns nc nl : Nat} {σ : ZT} {τ : JT} (c : Nat) (hc : c < nc) (has : Int) (k : Nat) (h1 : 0 ≤ has ∧ has ≤ σ 17 c) (h2 : CuOk σ c) (h3 : PrOk σ) (hxi : ∀ j, ξ.1 j = σ 26 j) (hNk : nowN σ + k + 8 ≤ 20000) : Ct Ω yX4_bestSum cX4_bestSum 11 (some FieldType.long) (rk 13) [.ref (lay 2 c), .ref (lay 0 4), .int (iv has), .int (iv ((nowN σ + k : Nat) : Int)), .int (iv 8)] (InvC Ω lay ms ns nc nl ξ σ τ) hR (RV (.long (jv (bestV σ c 8 has k))) (InvC Ω lay ms ns nc nl ξ σ τ)) NX := by
  refine Ct.of (own := RX4) (L := [(0, _), (1, _), (2, _), (3, _), (4, _)]) (by decide +kernel) rfl (Nat.le_of_ble_eq_true rfl) rfl ?_
  intro κ C hn E hi
  have hV : bestV σ c 8 has k = max (max (bestV σ c 7 has (k + 1)) (if 0 < inZ σ c has then bestV σ c 7 (has + inZ σ c has) (k + 1) - inZ σ c has * pricZ σ k else bestV σ c 7 has (k + 1))) (if 0 < outZ σ c has then bestV σ c 7 (has - outZ σ c has) (k + 1) + outZ σ c has * pricZ σ k else bestV σ c 7 has (k + 1)) := rfl
  have hcu := h2
  unfold CuOk at hcu
  have hin := inz_b h2 h1.1 h1.2
  have hou := outz_b h2 h1.1 h1.2
  have hpk : -1000 ≤ pricZ σ k ∧ pricZ σ k ≤ 1000 := h3 _ (Nat.mod_lt _ (by decide))
  have hm1 := mul_b (a := inZ σ c has) (A := 100000) (by omega) (by omega) hpk.1 hpk.2
  have hm2 := mul_b (a := outZ σ c has) (A := 100000) (by omega) (by omega) hpk.1 hpk.2
  have hb0 := bestV_b (l := 7) h2 h3 has (k + 1) h1.1 h1.2
  have hb1 := bestV_b (l := 7) h2 h3 (has + inZ σ c has) (k + 1) (by omega) (by omega)
  have hb2 := bestV_b (l := 7) h2 h3 (has - outZ σ c has) (k + 1) (by omega) (by omega)
  have hn0 := bestV_nn (σ := σ) (c := c) (l := 7) has (k + 1)
  have hn1 := bestV_nn (σ := σ) (c := c) (l := 7) (has + inZ σ c has) (k + 1)
  have hn2 := bestV_nn (σ := σ) (c := c) (l := 7) (has - outZ σ c has) (k + 1)
  refine y_iload (pc := 0) C dX4_bestSum_0 4 rfl ?_
  refine y_if_le (pc := 2) (tgt := 12) C dX4_bestSum_2 (by decide) (by omega) (by omega) (fun c2 => ?_) (fun c2 => ?_)
  · exact absurd c2 (by decide)
  · skip
    refine y_iload (pc := 5) C dX4_bestSum_5 4 rfl ?_
    refine y_bipush (pc := 7) (z := 8) C dX4_bestSum_7 (by decide) ?_
    refine y_icmp_le (pc := 9) (tgt := 14) C dX4_bestSum_9 (by decide) (by omega) (by omega) (by omega) (by omega) (fun c9 => ?_) (fun c9 => ?_)
    · skip
      refine y_aload_n (pc := 14) C dX4_bestSum_14 0 rfl ?_
      refine y_aload_n (pc := 15) C dX4_bestSum_15 1 rfl ?_
      refine y_iload_n (pc := 16) C dX4_bestSum_16 2 rfl ?_
      refine y_iload_n (pc := 17) C dX4_bestSum_17 3 rfl ?_
      refine y_iconst (pc := 18) C dX4_bestSum_18 ?_
      refine y_iadd (pc := 19) C dX4_bestSum_19 ?_
      refine y_iload (pc := 20) C dX4_bestSum_20 4 rfl ?_
      refine y_iconst (pc := 22) C dX4_bestSum_22 ?_
      refine y_isub (pc := 23) C dX4_bestSum_23 ?_
      rw [show ((8 : Int) - 1) = 7 from rfl, show (((nowN σ + k : Nat) : Int) + 1) = ((nowN σ + (k + 1) : Nat) : Int) from rfl]
      refine y_callS (pc := 24) (As := [_, _, _, _, _]) C E.2.1 cs_X4_226 (mg_best7 c hc has (k + 1) h1 h2 h3 hxi (by omega)) rfl rfl (Nat.le_of_ble_eq_true rfl) ⟨by decide, by decide, by decide, by decide⟩ dX4_bestSum_24 ⟨rfl, rfl⟩ ?_
      refine y_lstore (pc := 27) (L' := [(5, _), (0, _), (1, _), (2, _), (3, _), (4, _)]) C dX4_bestSum_27 (by rw [hn]; decide) rfl ?_
      refine y_aload_n (pc := 29) C dX4_bestSum_29 2 rfl ?_
      refine y_iload_n (pc := 30) C dX4_bestSum_30 4 rfl ?_
      refine y_callV (pc := 31) (As := [_]) C E.2.1 cv_X4_326 (ci := 2) rfl rfl (mc_at (lay 0 4) (lay 0 5) ξ.1 (nowN σ + k) (by omega) (fun h hh => hh.pri)) (fun h hh => ⟨_, hh.pri.1⟩) rfl rfl (Nat.le_of_ble_eq_true rfl) ⟨by decide, by decide, by decide, by decide⟩ dX4_bestSum_31 ⟨rfl, rfl⟩ ?_
      rw [show ξ.1 ((nowN σ + k) % 64) = pricZ σ k from hxi _]
      refine y_i2l (pc := 34) C dX4_bestSum_34 (by omega) (by omega) ?_
      refine y_lstore (pc := 35) (L' := [(7, _), (5, _), (0, _), (1, _), (2, _), (3, _), (4, _)]) C dX4_bestSum_35 (by rw [hn]; decide) rfl ?_
      refine y_aload_n (pc := 37) C dX4_bestSum_37 2 rfl ?_
      refine y_iload_n (pc := 38) C dX4_bestSum_38 4 rfl ?_
      refine y_callV (pc := 39) (As := [_]) C E.2.1 cv_X4_329 (ci := 1) rfl rfl (mc_mostIn c hc h2 _ h1) (fun h hh => ⟨_, hh.cus hc⟩) rfl rfl (Nat.le_of_ble_eq_true rfl) ⟨by decide, by decide, by decide, by decide⟩ dX4_bestSum_39 ⟨rfl, rfl⟩ ?_
      refine y_istore (pc := 42) (L' := [(9, _), (7, _), (5, _), (0, _), (1, _), (2, _), (3, _), (4, _)]) C dX4_bestSum_42 (by rw [hn]; decide) rfl ?_
      refine y_iload (pc := 44) C dX4_bestSum_44 0 rfl ?_
      refine y_if_le (pc := 46) (tgt := 79) C dX4_bestSum_46 (by decide) (by omega) (by omega) (fun c46 => ?_) (fun c46 => ?_)
      · skip
        refine y_aload_n (pc := 79) C dX4_bestSum_79 3 rfl ?_
        refine y_iload_n (pc := 80) C dX4_bestSum_80 5 rfl ?_
        refine y_callV (pc := 81) (As := [_]) C E.2.1 cv_X4_332 (ci := 1) rfl rfl (mc_mostOut c hc h2 _ h1) (fun h hh => ⟨_, hh.cus hc⟩) rfl rfl (Nat.le_of_ble_eq_true rfl) ⟨by decide, by decide, by decide, by decide⟩ dX4_bestSum_81 ⟨rfl, rfl⟩ ?_
        refine y_istore (pc := 84) (L' := [(10, _), (9, _), (7, _), (5, _), (0, _), (1, _), (2, _), (3, _), (4, _)]) C dX4_bestSum_84 (by rw [hn]; decide) rfl ?_
        refine y_iload (pc := 86) C dX4_bestSum_86 0 rfl ?_
        refine y_if_le (pc := 88) (tgt := 121) C dX4_bestSum_88 (by decide) (by omega) (by omega) (fun c88 => ?_) (fun c88 => ?_)
        · skip
          refine y_lload (pc := 121) C dX4_bestSum_121 3 rfl ?_
          exact y_lret (pc := 123) C E dX4_bestSum_123 (by decide) (by decide) (fun h hh => ⟨by rw [hV]; refine congrArg (fun v => some (Value.long (jv v))) ?_; split <;> split <;> omega, hh⟩)
        · skip
          refine y_lload (pc := 91) C dX4_bestSum_91 3 rfl ?_
          refine y_aload_n (pc := 93) C dX4_bestSum_93 4 rfl ?_
          refine y_aload_n (pc := 94) C dX4_bestSum_94 5 rfl ?_
          refine y_iload_n (pc := 95) C dX4_bestSum_95 6 rfl ?_
          refine y_iload (pc := 96) C dX4_bestSum_96 0 rfl ?_
          refine y_isub (pc := 98) C dX4_bestSum_98 ?_
          refine y_iload_n (pc := 99) C dX4_bestSum_99 7 rfl ?_
          refine y_iconst (pc := 100) C dX4_bestSum_100 ?_
          refine y_iadd (pc := 101) C dX4_bestSum_101 ?_
          refine y_iload (pc := 102) C dX4_bestSum_102 8 rfl ?_
          refine y_iconst (pc := 104) C dX4_bestSum_104 ?_
          refine y_isub (pc := 105) C dX4_bestSum_105 ?_
          rw [show ((8 : Int) - 1) = 7 from rfl, show (((nowN σ + k : Nat) : Int) + 1) = ((nowN σ + (k + 1) : Nat) : Int) from rfl]
          refine y_callS (pc := 106) (As := [_, _, _, _, _]) C E.2.1 cs_X4_226 (mg_best7 c hc (has - outZ σ c has) (k + 1) ⟨by omega, by omega⟩ h2 h3 hxi (by omega)) rfl rfl (Nat.le_of_ble_eq_true rfl) ⟨by decide, by decide, by decide, by decide⟩ dX4_bestSum_106 ⟨rfl, rfl⟩ ?_
          refine y_iload (pc := 109) C dX4_bestSum_109 0 rfl ?_
          refine y_i2l (pc := 111) C dX4_bestSum_111 (by omega) (by omega) ?_
          refine y_lload (pc := 112) C dX4_bestSum_112 2 rfl ?_
          refine y_lmul (pc := 114) C dX4_bestSum_114 ?_
          refine y_ladd (pc := 115) C dX4_bestSum_115 ?_
          refine y_maxL (pc := 116) C E.2.1 cs_X4_234.1 cs_X4_234.2.1 cs_X4_234.2.2.1 cs_X4_234.2.2.2.1 (by decide) (Nat.le_of_ble_eq_true rfl) (by decide) (by decide) (by omega) (by omega) (by omega) (by omega) dX4_bestSum_116 ?_
          refine y_lstore (pc := 119) (L' := [(5, _), (10, _), (9, _), (7, _), (0, _), (1, _), (2, _), (3, _), (4, _)]) C dX4_bestSum_119 (by rw [hn]; decide) rfl ?_
          refine y_lload (pc := 121) C dX4_bestSum_121 0 rfl ?_
          exact y_lret (pc := 123) C E dX4_bestSum_123 (by decide) (by decide) (fun h hh => ⟨by rw [hV]; refine congrArg (fun v => some (Value.long (jv v))) ?_; split <;> split <;> omega, hh⟩)
      · skip
        refine y_lload (pc := 49) C dX4_bestSum_49 2 rfl ?_
        refine y_aload_n (pc := 51) C dX4_bestSum_51 3 rfl ?_
        refine y_aload_n (pc := 52) C dX4_bestSum_52 4 rfl ?_
        refine y_iload_n (pc := 53) C dX4_bestSum_53 5 rfl ?_
        refine y_iload (pc := 54) C dX4_bestSum_54 0 rfl ?_
        refine y_iadd (pc := 56) C dX4_bestSum_56 ?_
        refine y_iload_n (pc := 57) C dX4_bestSum_57 6 rfl ?_
        refine y_iconst (pc := 58) C dX4_bestSum_58 ?_
        refine y_iadd (pc := 59) C dX4_bestSum_59 ?_
        refine y_iload (pc := 60) C dX4_bestSum_60 7 rfl ?_
        refine y_iconst (pc := 62) C dX4_bestSum_62 ?_
        refine y_isub (pc := 63) C dX4_bestSum_63 ?_
        rw [show ((8 : Int) - 1) = 7 from rfl, show (((nowN σ + k : Nat) : Int) + 1) = ((nowN σ + (k + 1) : Nat) : Int) from rfl]
        refine y_callS (pc := 64) (As := [_, _, _, _, _]) C E.2.1 cs_X4_226 (mg_best7 c hc (has + inZ σ c has) (k + 1) ⟨by omega, by omega⟩ h2 h3 hxi (by omega)) rfl rfl (Nat.le_of_ble_eq_true rfl) ⟨by decide, by decide, by decide, by decide⟩ dX4_bestSum_64 ⟨rfl, rfl⟩ ?_
        refine y_iload (pc := 67) C dX4_bestSum_67 0 rfl ?_
        refine y_i2l (pc := 69) C dX4_bestSum_69 (by omega) (by omega) ?_
        refine y_lload (pc := 70) C dX4_bestSum_70 1 rfl ?_
        refine y_lmul (pc := 72) C dX4_bestSum_72 ?_
        refine y_lsub (pc := 73) C dX4_bestSum_73 ?_
        refine y_maxL (pc := 74) C E.2.1 cs_X4_234.1 cs_X4_234.2.1 cs_X4_234.2.2.1 cs_X4_234.2.2.2.1 (by decide) (Nat.le_of_ble_eq_true rfl) (by decide) (by decide) (by omega) (by omega) (by omega) (by omega) dX4_bestSum_74 ?_
        refine y_lstore (pc := 77) (L' := [(5, _), (9, _), (7, _), (0, _), (1, _), (2, _), (3, _), (4, _)]) C dX4_bestSum_77 (by rw [hn]; decide) rfl ?_
        refine y_aload_n (pc := 79) C dX4_bestSum_79 3 rfl ?_
        refine y_iload_n (pc := 80) C dX4_bestSum_80 5 rfl ?_
        refine y_callV (pc := 81) (As := [_]) C E.2.1 cv_X4_332 (ci := 1) rfl rfl (mc_mostOut c hc h2 _ h1) (fun h hh => ⟨_, hh.cus hc⟩) rfl rfl (Nat.le_of_ble_eq_true rfl) ⟨by decide, by decide, by decide, by decide⟩ dX4_bestSum_81 ⟨rfl, rfl⟩ ?_
        refine y_istore (pc := 84) (L' := [(10, _), (5, _), (9, _), (7, _), (0, _), (1, _), (2, _), (3, _), (4, _)]) C dX4_bestSum_84 (by rw [hn]; decide) rfl ?_
        refine y_iload (pc := 86) C dX4_bestSum_86 0 rfl ?_
        refine y_if_le (pc := 88) (tgt := 121) C dX4_bestSum_88 (by decide) (by omega) (by omega) (fun c88 => ?_) (fun c88 => ?_)
        · skip
          refine y_lload (pc := 121) C dX4_bestSum_121 1 rfl ?_
          exact y_lret (pc := 123) C E dX4_bestSum_123 (by decide) (by decide) (fun h hh => ⟨by rw [hV]; refine congrArg (fun v => some (Value.long (jv v))) ?_; split <;> split <;> omega, hh⟩)
        · skip
          refine y_lload (pc := 91) C dX4_bestSum_91 1 rfl ?_
          refine y_aload_n (pc := 93) C dX4_bestSum_93 4 rfl ?_
          refine y_aload_n (pc := 94) C dX4_bestSum_94 5 rfl ?_
          refine y_iload_n (pc := 95) C dX4_bestSum_95 6 rfl ?_
          refine y_iload (pc := 96) C dX4_bestSum_96 0 rfl ?_
          refine y_isub (pc := 98) C dX4_bestSum_98 ?_
          refine y_iload_n (pc := 99) C dX4_bestSum_99 7 rfl ?_
          refine y_iconst (pc := 100) C dX4_bestSum_100 ?_
          refine y_iadd (pc := 101) C dX4_bestSum_101 ?_
          refine y_iload (pc := 102) C dX4_bestSum_102 8 rfl ?_
          refine y_iconst (pc := 104) C dX4_bestSum_104 ?_
          refine y_isub (pc := 105) C dX4_bestSum_105 ?_
          rw [show ((8 : Int) - 1) = 7 from rfl, show (((nowN σ + k : Nat) : Int) + 1) = ((nowN σ + (k + 1) : Nat) : Int) from rfl]
          refine y_callS (pc := 106) (As := [_, _, _, _, _]) C E.2.1 cs_X4_226 (mg_best7 c hc (has - outZ σ c has) (k + 1) ⟨by omega, by omega⟩ h2 h3 hxi (by omega)) rfl rfl (Nat.le_of_ble_eq_true rfl) ⟨by decide, by decide, by decide, by decide⟩ dX4_bestSum_106 ⟨rfl, rfl⟩ ?_
          refine y_iload (pc := 109) C dX4_bestSum_109 0 rfl ?_
          refine y_i2l (pc := 111) C dX4_bestSum_111 (by omega) (by omega) ?_
          refine y_lload (pc := 112) C dX4_bestSum_112 3 rfl ?_
          refine y_lmul (pc := 114) C dX4_bestSum_114 ?_
          refine y_ladd (pc := 115) C dX4_bestSum_115 ?_
          refine y_maxL (pc := 116) C E.2.1 cs_X4_234.1 cs_X4_234.2.1 cs_X4_234.2.2.1 cs_X4_234.2.2.2.1 (by decide) (Nat.le_of_ble_eq_true rfl) (by decide) (by decide) (by omega) (by omega) (by omega) (by omega) dX4_bestSum_116 ?_
          refine y_lstore (pc := 119) (L' := [(5, _), (10, _), (9, _), (7, _), (0, _), (1, _), (2, _), (3, _), (4, _)]) C dX4_bestSum_119 (by rw [hn]; decide) rfl ?_
          refine y_lload (pc := 121) C dX4_bestSum_121 0 rfl ?_
          exact y_lret (pc := 123) C E dX4_bestSum_123 (by decide) (by decide) (fun h hh => ⟨by rw [hV]; refine congrArg (fun v => some (Value.long (jv v))) ?_; split <;> split <;> omega, hh⟩)
    · exact absurd (by decide) c9

set_option maxRecDepth 20000 in
theorem mg_sumOfWay {Ω : OmT} {hR : AH} {lay : Nat → Nat → Nat} {ξ : XiT} {ms ns nc nl : Nat} {σ : ZT} {τ : JT} (c : Nat) (hc : c < nc) (w t : Nat) (h2 : CuOk σ c) (h3 : PrOk σ) (hxi : ∀ j, ξ.1 j = σ 26 j) (h4 : t ≤ 8) (h5 : w ≤ 10000) (h6 : 0 ≤ σ 1 0 ∧ σ 1 0 ≤ 10000) : Ct Ω yX4_sumOfWay cX4_sumOfWay 11 (some FieldType.long) (rk 4) [.ref (lay 0 0), .ref (lay 2 c), .int (iv w), .int (iv t)] (InvC Ω lay ms ns nc nl ξ σ τ) hR (RV (.long (jv (wayN σ c w t).2.1)) (InvC Ω lay ms ns nc nl ξ σ τ)) NX := by
  refine Ct.of (own := RX4) (L := [(0, _), (1, _), (2, _), (3, _)]) (by decide +kernel) rfl (Nat.le_of_ble_eq_true rfl) rfl ?_
  intro κ C hn E hi
  have hcu := h2
  unfold CuOk at hcu
  have ew : ((wayN σ c w 0).2.2 : Int) = w := rfl
  refine y_aload_n (pc := 0) C dX4_sumOfWay_0 1 rfl ?_
  refine y_get (pc := 1) C fg_X4_153 dX4_sumOfWay_1 (fun h hh => ⟨_, hh.cus hc, rfl⟩) ?_
  refine y_istore (pc := 4) (L' := [(4, _), (0, _), (1, _), (2, _), (3, _)]) C dX4_sumOfWay_4 (by rw [hn]; decide) rfl ?_
  refine y_iload_n (pc := 6) C dX4_sumOfWay_6 3 rfl ?_
  refine y_istore (pc := 7) (L' := [(5, _), (4, _), (0, _), (1, _), (2, _), (3, _)]) C dX4_sumOfWay_7 (by rw [hn]; decide) rfl ?_
  refine y_lconst (pc := 9) (z := 0) C dX4_sumOfWay_9 (by decide) ?_
  refine y_lstore (pc := 10) (L' := [(6, _), (5, _), (4, _), (0, _), (1, _), (2, _), (3, _)]) C dX4_sumOfWay_10 (by rw [hn]; decide) rfl ?_
  refine y_iconst (pc := 12) C dX4_sumOfWay_12 ?_
  refine y_istore (pc := 13) (L' := [(8, _), (6, _), (5, _), (4, _), (0, _), (1, _), (2, _), (3, _)]) C dX4_sumOfWay_13 (by rw [hn]; decide) rfl ?_
  have LP1 : ∀ (m1 : Nat) (k : Nat) (zk has sum rs : Int), (p1 : t + 1 ≤ k + m1) → (p2 : k ≤ t) → (hzk : zk = k) → (hh1 : has = (wayN σ c w k).1) → (hh2 : sum = (wayN σ c w k).2.1) → (hh3 : rs = ((wayN σ c w k).2.2 : Nat)) → Y Ω κ (InvC Ω lay ms ns nc nl ξ σ τ) hR 0 0 15 [(8, .int (iv zk)), (6, .long (jv sum)), (5, .int (iv rs)), (4, .int (iv has)), (0, .ref (lay 0 0)), (1, .ref (lay 2 c)), (2, .int (iv w)), (3, .int (iv t))] [] := by
    intro m1
    induction m1 with
    | zero => intro k zk has sum rs p1 p2 hzk hh1 hh2 hh3; exfalso; omega
    | succ m1 ih1 =>
      intro k zk has sum rs p1 p2 hzk hh1 hh2 hh3
      have hwb := way_b (w := w) (k := k) h2 h3
      rw [← hh1, ← hh2] at hwb
      have hin := inz_b (has := has) h2 (by omega) (by omega)
      have hou := outz_b (has := has) h2 (by omega) (by omega)
      have htb := thing_b (d := (wayN σ c w k).2.2 % 3) h2 hwb.1 hwb.2.1
      have hpk : -1000 ≤ pricZ σ k ∧ pricZ σ k ≤ 1000 := h3 _ (Nat.mod_lt _ (by decide))
      have hml := mul_b htb.1 htb.2.1 hpk.1 hpk.2
      refine y_iload (pc := 15) C dX4_sumOfWay_15 0 rfl ?_
      refine y_iload_n (pc := 17) C dX4_sumOfWay_17 7 rfl ?_
      refine y_icmp_ge (pc := 18) (tgt := 104) C dX4_sumOfWay_18 (by decide) (by omega) (by omega) (by omega) (by omega) (fun c18 => ?_) (fun c18 => ?_)
      · skip
        refine y_lload (pc := 104) C dX4_sumOfWay_104 1 rfl ?_
        exact y_lret (pc := 106) C E dX4_sumOfWay_106 (by decide) (by decide) (fun h hh => ⟨by rw [hh2, show k = t by omega], hh⟩)
      · skip
        refine y_iload (pc := 21) C dX4_sumOfWay_21 2 rfl ?_
        refine y_iconst (pc := 23) C dX4_sumOfWay_23 ?_
        refine y_irem (pc := 24) C dX4_sumOfWay_24 (by omega) (by omega) (by omega) (by omega) ?_
        refine y_istore (pc := 25) (L' := [(9, _), (8, _), (6, _), (5, _), (4, _), (0, _), (1, _), (2, _), (3, _)]) C dX4_sumOfWay_25 (by rw [hn]; decide) rfl ?_
        refine y_iload (pc := 27) C dX4_sumOfWay_27 3 rfl ?_
        refine y_iconst (pc := 29) C dX4_sumOfWay_29 ?_
        refine y_idivP (pc := 30) C dX4_sumOfWay_30 (by omega) (by omega) (by omega) (by omega) ?_
        refine y_istore (pc := 31) (L' := [(5, _), (9, _), (8, _), (6, _), (4, _), (0, _), (1, _), (2, _), (3, _)]) C dX4_sumOfWay_31 (by rw [hn]; decide) rfl ?_
        refine y_joinI (pcj := 65) (P := fun q => q = thingZ σ c has ((wayN σ c w k).2.2 % 3)) (fun v2 hv2 => ?_) (fun J2 => ?_)
        · skip
          subst hv2
          refine y_istore (pc := 65) (L' := [(10, _), (5, _), (9, _), (8, _), (6, _), (4, _), (0, _), (1, _), (2, _), (3, _)]) C dX4_sumOfWay_65 (by rw [hn]; decide) rfl ?_
          refine y_iload (pc := 67) C dX4_sumOfWay_67 5 rfl ?_
          refine y_iload (pc := 69) C dX4_sumOfWay_69 0 rfl ?_
          refine y_iadd (pc := 71) C dX4_sumOfWay_71 ?_
          refine y_istore (pc := 72) (L' := [(4, _), (10, _), (5, _), (9, _), (8, _), (6, _), (0, _), (1, _), (2, _), (3, _)]) C dX4_sumOfWay_72 (by rw [hn]; decide) rfl ?_
          refine y_lload (pc := 74) C dX4_sumOfWay_74 5 rfl ?_
          refine y_iload (pc := 76) C dX4_sumOfWay_76 1 rfl ?_
          refine y_i2l (pc := 78) C dX4_sumOfWay_78 (by omega) (by omega) ?_
          refine y_aload_n (pc := 79) C dX4_sumOfWay_79 6 rfl ?_
          refine y_get (pc := 80) C fg_X4_25 dX4_sumOfWay_80 (fun h hh => ⟨_, hh.gas, rfl⟩) ?_
          refine y_aload_n (pc := 83) C dX4_sumOfWay_83 6 rfl ?_
          refine y_get (pc := 84) C fg_X4_29 dX4_sumOfWay_84 (fun h hh => ⟨_, hh.gas, rfl⟩) ?_
          refine y_iload (pc := 87) C dX4_sumOfWay_87 4 rfl ?_
          refine y_iadd (pc := 89) C dX4_sumOfWay_89 ?_
          rw [show σ 1 0 + zk = ((nowN σ + k : Nat) : Int) by unfold nowN; omega]
          refine y_callV (pc := 90) (As := [_]) C E.2.1 cv_X4_326 (ci := 2) rfl rfl (mc_at (lay 0 4) (lay 0 5) ξ.1 (nowN σ + k) (by unfold nowN; omega) (fun h hh => hh.pri)) (fun h hh => ⟨_, hh.pri.1⟩) rfl rfl (Nat.le_of_ble_eq_true rfl) ⟨by decide, by decide, by decide, by decide⟩ dX4_sumOfWay_90 ⟨rfl, rfl⟩ ?_
          rw [show ξ.1 ((nowN σ + k) % 64) = pricZ σ k from hxi _]
          refine y_i2l (pc := 93) C dX4_sumOfWay_93 (by omega) (by omega) ?_
          refine y_lmul (pc := 94) C dX4_sumOfWay_94 ?_
          refine y_lsub (pc := 95) C dX4_sumOfWay_95 ?_
          refine y_lstore (pc := 96) (L' := [(6, _), (4, _), (10, _), (5, _), (9, _), (8, _), (0, _), (1, _), (2, _), (3, _)]) C dX4_sumOfWay_96 (by rw [hn]; decide) rfl ?_
          refine y_iinc (pc := 98) (L' := [(8, _), (6, _), (4, _), (10, _), (5, _), (9, _), (0, _), (1, _), (2, _), (3, _)]) C dX4_sumOfWay_98 5 rfl (by rw [hn]; decide) rfl ?_
          refine y_goto (pc := 101) (tgt := 15) C dX4_sumOfWay_101 (by decide) ?_
          refine Y.sub [0, 1, 4, 2, 6, 7, 8, 9] rfl ?_
          exact ih1 (k + 1) _ _ _ _ (by omega) (by omega) (by omega) (by rw [hh1]; rfl) (by rw [hh2, hh1]; rfl) (by show _ = (((wayN σ c w k).2.2 / 3 : Nat) : Int); omega)
        · skip
          refine y_iload (pc := 33) C dX4_sumOfWay_33 1 rfl ?_
          refine y_iconst (pc := 35) C dX4_sumOfWay_35 ?_
          refine y_icmp_ne (pc := 36) (tgt := 48) C dX4_sumOfWay_36 (by decide) (by omega) (by omega) (by omega) (by omega) (fun c36 => ?_) (fun c36 => ?_)
          · skip
            refine y_iload (pc := 48) C dX4_sumOfWay_48 1 rfl ?_
            refine y_iconst (pc := 50) C dX4_sumOfWay_50 ?_
            refine y_icmp_ne (pc := 51) (tgt := 64) C dX4_sumOfWay_51 (by decide) (by omega) (by omega) (by omega) (by omega) (fun c51 => ?_) (fun c51 => ?_)
            · skip
              refine y_iconst (pc := 64) C dX4_sumOfWay_64 ?_
              exact J2 _ (by unfold thingZ; split <;> first | rfl | (exfalso; omega) | (split <;> first | rfl | (exfalso; omega)))
            · skip
              refine y_aload_n (pc := 54) C dX4_sumOfWay_54 6 rfl ?_
              refine y_iload (pc := 55) C dX4_sumOfWay_55 4 rfl ?_
              refine y_callV (pc := 57) (As := [_]) C E.2.1 cv_X4_332 (ci := 1) rfl rfl (mc_mostOut c hc h2 _ ⟨by omega, by omega⟩) (fun h hh => ⟨_, hh.cus hc⟩) rfl rfl (Nat.le_of_ble_eq_true rfl) ⟨by decide, by decide, by decide, by decide⟩ dX4_sumOfWay_57 ⟨rfl, rfl⟩ ?_
              refine y_ineg (pc := 60) C dX4_sumOfWay_60 ?_
              refine y_goto (pc := 61) (tgt := 65) C dX4_sumOfWay_61 (by decide) ?_
              exact J2 _ (by unfold thingZ; split <;> first | rfl | (exfalso; omega) | (split <;> first | rfl | (exfalso; omega)))
          · skip
            refine y_aload_n (pc := 39) C dX4_sumOfWay_39 6 rfl ?_
            refine y_iload (pc := 40) C dX4_sumOfWay_40 4 rfl ?_
            refine y_callV (pc := 42) (As := [_]) C E.2.1 cv_X4_329 (ci := 1) rfl rfl (mc_mostIn c hc h2 _ ⟨by omega, by omega⟩) (fun h hh => ⟨_, hh.cus hc⟩) rfl rfl (Nat.le_of_ble_eq_true rfl) ⟨by decide, by decide, by decide, by decide⟩ dX4_sumOfWay_42 ⟨rfl, rfl⟩ ?_
            refine y_goto (pc := 45) (tgt := 65) C dX4_sumOfWay_45 (by decide) ?_
            exact J2 _ (by unfold thingZ; split <;> first | rfl | (exfalso; omega) | (split <;> first | rfl | (exfalso; omega)))
  refine Y.sub [0, 1, 2, 3, 4, 5, 6, 7] rfl ?_
  exact LP1 (t + 1) 0 0 _ 0 _ (by omega) (by omega) rfl rfl rfl (by omega)

set_option maxRecDepth 20000 in
theorem mg_storeNumbered {Ω : OmT} {hR : AH} {lay : Nat → Nat → Nat} {ξ : XiT} {ms ns nc nl : Nat} {σ : ZT} {τ : JT} (x : Int) (h_x : -2147483648 ≤ x ∧ x < 2147483648) (h40 : ns ≤ 6) (hms : ns ≤ ms) : Ct Ω yX4_storeNumbered cX4_storeNumbered 2 (some (FieldType.object "Gasvault$Store")) (rkc 6 1 6) [.ref (lay 0 0), .int (iv x)] (InvC Ω lay ms ns nc nl ξ σ τ) hR (fun rv h => isN ns x ∧ rv = some (.ref (lay 1 x.toNat)) ∧ InvC Ω lay ms ns nc nl ξ σ τ h) (fun E h => E = sIB ∧ ¬ isN ns x ∧ InvC Ω lay ms ns nc nl ξ σ τ h) := by
  refine Ct.of (own := RX4) (L := [(0, _), (1, _)]) (by decide +kernel) rfl (Nat.le_of_ble_eq_true rfl) rfl ?_
  intro κ C hn E hi
  refine y_iload_n (pc := 0) C dX4_storeNumbered_0 1 rfl ?_
  refine y_if_lt (pc := 1) (tgt := 15) C dX4_storeNumbered_1 (by decide) (by omega) (by omega) (fun c1 => ?_) (fun c1 => ?_)
  · skip
    exact y_throw (pc := 15) C E th_IB sw_X4_253 dX4_storeNumbered_15 dX4_storeNumbered_18 dX4_storeNumbered_19 dX4_storeNumbered_21 dX4_storeNumbered_24 (by decide) (Nat.le_of_ble_eq_true rfl) (by decide) (by decide) (fun h hh => ⟨rfl, by omega, hh⟩)
  · skip
    refine y_iload_n (pc := 4) C dX4_storeNumbered_4 1 rfl ?_
    refine y_aload_n (pc := 5) C dX4_storeNumbered_5 0 rfl ?_
    refine y_get (pc := 6) C fg_X4_10 dX4_storeNumbered_6 (fun h hh => ⟨_, hh.gas, rfl⟩) ?_
    refine y_callV (pc := 9) (As := []) C E.2.1 cv_X4_74 (ci := 0) rfl rfl (mc_size (lay 0 1) (lay 6 1) ns (lay 1) (by omega) (fun h hh => hh.li1)) (fun h hh => hh.li1.obj) rfl rfl (Nat.le_of_ble_eq_true rfl) ⟨by decide, by decide, by decide, by decide⟩ dX4_storeNumbered_9 ⟨rfl, rfl⟩ ?_
    refine y_icmp_lt (pc := 12) (tgt := 25) C dX4_storeNumbered_12 (by decide) (by omega) (by omega) (by omega) (by omega) (fun c12 => ?_) (fun c12 => ?_)
    · skip
      have hx9 : isN ns x := ⟨by omega, by omega⟩
      obtain ⟨i, rfl⟩ : ∃ i : Nat, x = i := ⟨x.toNat, by omega⟩
      have hi9 : i < ns := by omega
      have hm9 : i < ms := by omega
      refine y_aload_n (pc := 25) C dX4_storeNumbered_25 0 rfl ?_
      refine y_get (pc := 26) C fg_X4_10 dX4_storeNumbered_26 (fun h hh => ⟨_, hh.gas, rfl⟩) ?_
      refine y_iload_n (pc := 29) C dX4_storeNumbered_29 1 rfl ?_
      refine y_callV (pc := 30) (As := [_]) C E.2.1 cv_X4_256 (ci := 0) rfl rfl (mc_get (lay 0 1) (lay 6 1) ns (lay 1) (by omega) (fun h hh => hh.li1) i hi9) (fun h hh => hh.li1.obj) rfl rfl (Nat.le_of_ble_eq_true rfl) ⟨by decide, by decide, by decide, by decide⟩ dX4_storeNumbered_30 ⟨rfl, rfl⟩ ?_
      refine y_cast (pc := 33) C (ci := 4) (qc := (RX3, TX3, 11)) rfl aw_1_126 dX4_storeNumbered_33 (fun h hh => ⟨_, hh.sto hm9⟩) ?_
      exact y_aret (pc := 36) C E (by first | exact Or.inl ⟨_, rfl⟩ | exact Or.inr ⟨_, rfl⟩) dX4_storeNumbered_36 (by decide) (by decide) (fun h hh => ⟨hx9, rfl, hh⟩)
    · skip
      exact y_throw (pc := 15) C E th_IB sw_X4_253 dX4_storeNumbered_15 dX4_storeNumbered_18 dX4_storeNumbered_19 dX4_storeNumbered_21 dX4_storeNumbered_24 (by decide) (Nat.le_of_ble_eq_true rfl) (by decide) (by decide) (fun h hh => ⟨rfl, by omega, hh⟩)

set_option maxRecDepth 20000 in
theorem mg_customerNumbered {Ω : OmT} {hR : AH} {lay : Nat → Nat → Nat} {ξ : XiT} {ms ns nc nl : Nat} {σ : ZT} {τ : JT} (x : Int) (h_x : -2147483648 ≤ x ∧ x < 2147483648) (h40 : nc ≤ 6) : Ct Ω yX4_customerNumbered cX4_customerNumbered 2 (some (FieldType.object "Gasvault$Customer")) (rkc 6 1 6) [.ref (lay 0 0), .int (iv x)] (InvC Ω lay ms ns nc nl ξ σ τ) hR (fun rv h => isN nc x ∧ rv = some (.ref (lay 2 x.toNat)) ∧ InvC Ω lay ms ns nc nl ξ σ τ h) (fun E h => E = sIB ∧ ¬ isN nc x ∧ InvC Ω lay ms ns nc nl ξ σ τ h) := by
  refine Ct.of (own := RX4) (L := [(0, _), (1, _)]) (by decide +kernel) rfl (Nat.le_of_ble_eq_true rfl) rfl ?_
  intro κ C hn E hi
  refine y_iload_n (pc := 0) C dX4_customerNumbered_0 1 rfl ?_
  refine y_if_lt (pc := 1) (tgt := 15) C dX4_customerNumbered_1 (by decide) (by omega) (by omega) (fun c1 => ?_) (fun c1 => ?_)
  · skip
    exact y_throwW (pc := 15) C E th_IB sw_X4_260 dX4_customerNumbered_15 dX4_customerNumbered_18 dX4_customerNumbered_19 dX4_customerNumbered_22 dX4_customerNumbered_25 (by decide) (Nat.le_of_ble_eq_true rfl) (by decide) (by decide) (fun h hh => ⟨rfl, by omega, hh⟩)
  · skip
    refine y_iload_n (pc := 4) C dX4_customerNumbered_4 1 rfl ?_
    refine y_aload_n (pc := 5) C dX4_customerNumbered_5 0 rfl ?_
    refine y_get (pc := 6) C fg_X4_16 dX4_customerNumbered_6 (fun h hh => ⟨_, hh.gas, rfl⟩) ?_
    refine y_callV (pc := 9) (As := []) C E.2.1 cv_X4_74 (ci := 0) rfl rfl (mc_size (lay 0 2) (lay 6 2) nc (lay 2) (by omega) (fun h hh => hh.li2)) (fun h hh => hh.li2.obj) rfl rfl (Nat.le_of_ble_eq_true rfl) ⟨by decide, by decide, by decide, by decide⟩ dX4_customerNumbered_9 ⟨rfl, rfl⟩ ?_
    refine y_icmp_lt (pc := 12) (tgt := 26) C dX4_customerNumbered_12 (by decide) (by omega) (by omega) (by omega) (by omega) (fun c12 => ?_) (fun c12 => ?_)
    · skip
      have hx9 : isN nc x := ⟨by omega, by omega⟩
      obtain ⟨i, rfl⟩ : ∃ i : Nat, x = i := ⟨x.toNat, by omega⟩
      have hi9 : i < nc := by omega
      refine y_aload_n (pc := 26) C dX4_customerNumbered_26 0 rfl ?_
      refine y_get (pc := 27) C fg_X4_16 dX4_customerNumbered_27 (fun h hh => ⟨_, hh.gas, rfl⟩) ?_
      refine y_iload_n (pc := 30) C dX4_customerNumbered_30 1 rfl ?_
      refine y_callV (pc := 31) (As := [_]) C E.2.1 cv_X4_256 (ci := 0) rfl rfl (mc_get (lay 0 2) (lay 6 2) nc (lay 2) (by omega) (fun h hh => hh.li2) i hi9) (fun h hh => hh.li2.obj) rfl rfl (Nat.le_of_ble_eq_true rfl) ⟨by decide, by decide, by decide, by decide⟩ dX4_customerNumbered_31 ⟨rfl, rfl⟩ ?_
      refine y_cast (pc := 34) C (ci := 1) (qc := (RX0, TX0, 12)) rfl aw_1_131 dX4_customerNumbered_34 (fun h hh => ⟨_, hh.cus hi9⟩) ?_
      exact y_aret (pc := 37) C E (by first | exact Or.inl ⟨_, rfl⟩ | exact Or.inr ⟨_, rfl⟩) dX4_customerNumbered_37 (by decide) (by decide) (fun h hh => ⟨hx9, rfl, hh⟩)
    · skip
      exact y_throwW (pc := 15) C E th_IB sw_X4_260 dX4_customerNumbered_15 dX4_customerNumbered_18 dX4_customerNumbered_19 dX4_customerNumbered_22 dX4_customerNumbered_25 (by decide) (Nat.le_of_ble_eq_true rfl) (by decide) (by decide) (fun h hh => ⟨rfl, by omega, hh⟩)

