/-! step -/
set_option maxRecDepth 20000 in
set_option maxHeartbeats 1000000 in
theorem ct_step {Ω : OmT} {hR : AH} {x dA nA : Nat} {T w a b : Int} (hT8 : 0 ≤ T ∧ T ≤ 8900) (hw : 0 ≤ w ∧ w < 2147483648) (ha : 0 ≤ a ∧ a < 2147483648) (hb : 0 ≤ b ∧ b < 2147483648) : Ct Ω yL_step cL_step 29 (some FieldType.boolean) (rkc 20 4200 26000) [.ref x, .ref dA, .ref nA, .int (iv w), .int (iv a), .int (iv b)] (LwSt Ω x dA nA T) hR (RV (.int (iv 1)) (LwSt Ω x dA nA (T + 24))) NX := by
  refine Ct.of (own := RL) (L := [(0, _), (1, _), (2, _), (3, _), (4, _), (5, _)]) (by decide +kernel) rfl (Nat.le_of_ble_eq_true rfl) rfl ?_
  intro κ C hn E hi
  refine LwSt.un (fun X lay ξ σ τ ns nc nl fd fn hl g hla hrg hx hd hf d0 d1 d2 d3 d4 hT => ?_)
  subst hx
  have n5 := hl.1.2.1
  have n6 := hl.1.2.2.2.1
  refine y_joinI (pcj := 16) (P := fun v => (ns = 0 ∧ v = 0) ∨ (0 < ns ∧ 0 ≤ v ∧ v < (ns : Int))) (fun v1 hv1 => ?_) (fun J1 => ?_)
  · skip
    obtain ⟨s6, hs6⟩ : ∃ z : Int, z = v1 := ⟨_, rfl⟩
    rw [← hs6]
    rw [← hs6] at hv1
    have qs6 := hv1
    refine y_istore (pc := 16) (L' := [(6, _), (0, _), (1, _), (2, _), (3, _), (4, _), (5, _)]) C dL_step_16 (by rw [hn]; decide) rfl ?_
    refine y_joinI (pcj := 34) (P := fun v => (nc = 0 ∧ v = 0) ∨ (0 < nc ∧ 0 ≤ v ∧ v < (nc : Int))) (fun v2 hv2 => ?_) (fun J2 => ?_)
    · skip
      obtain ⟨s7, hs7⟩ : ∃ z : Int, z = v2 := ⟨_, rfl⟩
      rw [← hs7]
      rw [← hs7] at hv2
      have qs7 := hv2
      refine y_istore (pc := 34) (L' := [(7, _), (6, _), (0, _), (1, _), (2, _), (3, _), (4, _), (5, _)]) C dL_step_34 (by rw [hn]; decide) rfl ?_
      refine y_joinI (pcj := 52) (P := fun v => (nc = 0 ∧ v = 0) ∨ (0 < nc ∧ 0 ≤ v ∧ v < (nc : Int))) (fun v3 hv3 => ?_) (fun J3 => ?_)
      · skip
        obtain ⟨s8, hs8⟩ : ∃ z : Int, z = v3 := ⟨_, rfl⟩
        rw [← hs8]
        rw [← hs8] at hv3
        have qs8 := hv3
        refine y_istore (pc := 52) (L' := [(8, _), (7, _), (6, _), (0, _), (1, _), (2, _), (3, _), (4, _), (5, _)]) C dL_step_52 (by rw [hn]; decide) rfl ?_
        refine y_joinI (pcj := 78) (P := fun v => v = 0 ∨ (0 < ns ∧ v = 3) ∨ (0 < ns ∧ 0 < nc ∧ 0 ≤ v ∧ v ≤ 21)) (fun v4 hv4 => ?_) (fun J4 => ?_)
        · skip
          obtain ⟨z9, hz9⟩ : ∃ z : Int, z = v4 := ⟨_, rfl⟩
          rw [← hz9]
          rw [← hz9] at hv4
          have qz9 := hv4
          refine Y.sub [0, 1, 2, 3, 4, 5, 6, 7, 8] rfl ?_
          by_cases w0 : z9 = 0
          · rw [w0]
            exact y_tabIn (pc := 78) (off := 78) (tgt := 156) C dL_step_78 (by decide) (by decide) (by decide) (by decide) rfl (by decide) (sc_taken C hn E hT8 ha hb hl g hla hrg hd hf d0 d1 d2 d3 d4 hT)
          by_cases w3 : z9 = 3
          · rw [w3]
            exact y_tabIn (pc := 78) (off := 143) (tgt := 221) C dL_step_78 (by decide) (by decide) (by decide) (by decide) rfl (by decide) (sc_comes C hn E hT8 ha hb hl g hla hrg hd hf d0 d1 d2 d3 d4 hT)
          have hnn : 0 < ns ∧ 0 < nc := by omega
          obtain ⟨i, ei⟩ : ∃ m : Nat, s6 = (m : Int) := ⟨s6.toNat, by omega⟩
          have hi9 : i < ns := by omega
          obtain ⟨k, ek⟩ : ∃ m : Nat, s7 = (m : Int) := ⟨s7.toNat, by omega⟩
          have hk9 : k < nc := by omega
          obtain ⟨k2, ek2⟩ : ∃ m : Nat, s8 = (m : Int) := ⟨s8.toNat, by omega⟩
          have hk29 : k2 < nc := by omega
          rw [ei, ek, ek2]
          by_cases w1 : z9 = 1
          · rw [w1]
            exact y_tabIn (pc := 78) (off := 78) (tgt := 156) C dL_step_78 (by decide) (by decide) (by decide) (by decide) rfl (by decide) (sc_taken C hn E hT8 ha hb hl g hla hrg hd hf d0 d1 d2 d3 d4 hT)
          by_cases w2 : z9 = 2
          · rw [w2]
            exact y_tabIn (pc := 78) (off := 88) (tgt := 166) C dL_step_78 (by decide) (by decide) (by decide) (by decide) rfl (by decide) (sc_wells (s6 := 0) C hn E hT8 ha hb hl g hla hrg hd hf d0 d1 d2 d3 d4 hT hi9)
          by_cases w4 : z9 = 4
          · rw [w4]
            exact y_tabIn (pc := 78) (off := 289) (tgt := 367) C dL_step_78 (by decide) (by decide) (by decide) (by decide) rfl (by decide) (sc_nominate (s7 := 0) C hn E hT8 ha hb hl g hla hrg hd hf d0 d1 d2 d3 d4 hT hk9)
          by_cases w5 : z9 = 5
          · rw [w5]
            exact y_tabIn (pc := 78) (off := 289) (tgt := 367) C dL_step_78 (by decide) (by decide) (by decide) (by decide) rfl (by decide) (sc_nominate (s7 := 0) C hn E hT8 ha hb hl g hla hrg hd hf d0 d1 d2 d3 d4 hT hk9)
          by_cases w6 : z9 = 6
          · rw [w6]
            exact y_tabIn (pc := 78) (off := 289) (tgt := 367) C dL_step_78 (by decide) (by decide) (by decide) (by decide) rfl (by decide) (sc_nominate (s7 := 0) C hn E hT8 ha hb hl g hla hrg hd hf d0 d1 d2 d3 d4 hT hk9)
          by_cases w7 : z9 = 7
          · rw [w7]
            exact y_tabIn (pc := 78) (off := 289) (tgt := 367) C dL_step_78 (by decide) (by decide) (by decide) (by decide) rfl (by decide) (sc_nominate (s7 := 0) C hn E hT8 ha hb hl g hla hrg hd hf d0 d1 d2 d3 d4 hT hk9)
          by_cases w8 : z9 = 8
          · rw [w8]
            exact y_tabIn (pc := 78) (off := 289) (tgt := 367) C dL_step_78 (by decide) (by decide) (by decide) (by decide) rfl (by decide) (sc_nominate (s7 := 0) C hn E hT8 ha hb hl g hla hrg hd hf d0 d1 d2 d3 d4 hT hk9)
          by_cases w9 : z9 = 9
          · rw [w9]
            exact y_tabIn (pc := 78) (off := 378) (tgt := 456) C dL_step_78 (by decide) (by decide) (by decide) (by decide) rfl (by decide) (sc_moves (s7 := 0) (s8 := 0) C hn E hT8 ha hb hl g hla hrg hd hf d0 d1 d2 d3 d4 hT hk9 hk29)
          by_cases w10 : z9 = 10
          · rw [w10]
            exact y_tabIn (pc := 78) (off := 514) (tgt := 592) C dL_step_78 (by decide) (by decide) (by decide) (by decide) rfl (by decide) (sc_laws C hn E hT8 ha hb hl g hla hrg hd hf d0 d1 d2 d3 d4 hT)
          by_cases w11 : z9 = 11
          · rw [w11]
            exact y_tabIn (pc := 78) (off := 607) (tgt := 685) C dL_step_78 (by decide) (by decide) (by decide) (by decide) rfl (by decide) (sc_price C hn E hT8 ha hb hl g hla hrg hd hf d0 d1 d2 d3 d4 hT)
          by_cases w12 : z9 = 12
          · rw [w12]
            exact y_tabIn (pc := 78) (off := 666) (tgt := 744) C dL_step_78 (by decide) (by decide) (by decide) (by decide) rfl (by decide) (sc_leak (s6 := 0) C hn E hT8 ha hb hl g hla hrg hd hf d0 d1 d2 d3 d4 hT hi9)
          by_cases w13 : z9 = 13
          · rw [w13]
            exact y_tabIn (pc := 78) (off := 769) (tgt := 847) C dL_step_78 (by decide) (by decide) (by decide) (by decide) rfl (by decide) (sc_heat C hn E hT8 ha hb hl g hla hrg hd hf d0 d1 d2 d3 d4 hT)
          by_cases w14 : z9 = 14
          · rw [w14]
            exact y_tabIn (pc := 78) (off := 808) (tgt := 886) C dL_step_78 (by decide) (by decide) (by decide) (by decide) rfl (by decide) (sc_leaches (s6 := 0) C hn E hT8 ha hb hl g hla hrg hd hf d0 d1 d2 d3 d4 hT hi9)
          by_cases w15 : z9 = 15
          · rw [w15]
            exact y_tabIn (pc := 78) (off := 899) (tgt := 977) C dL_step_78 (by decide) (by decide) (by decide) (by decide) rfl (by decide) (sc_worth (s7 := 0) C hn E hT8 ha hb hl g hla hrg hd hf d0 d1 d2 d3 d4 hT hk9)
          exact y_tabOut (pc := 78) (tgt := 1038) C dL_step_78 (by omega) (by omega) (Or.inr (by omega)) (by decide) (sc_hours C hn E hT8 ha hb hl g hla hrg hd hf d0 d1 d2 d3 d4 hT)
        · skip
          refine y_aload_n (pc := 54) C dL_step_54 4 rfl ?_
          refine y_iconst (pc := 55) C dL_step_55 ?_
          refine y_xald (pc := 56) (v := (ns : Nat)) C 0 hd rfl (by decide) (by decide) d0 dL_step_56 ?_
          refine y_if_ne (pc := 57) (tgt := 64) C dL_step_57 (by decide) (by omega) (by omega) (fun c57 => ?_) (fun c57 => ?_)
          · skip
            refine y_aload_n (pc := 64) C dL_step_64 4 rfl ?_
            refine y_iconst (pc := 65) C dL_step_65 ?_
            refine y_xald (pc := 66) (v := (nc : Nat)) C 1 hd rfl (by decide) (by decide) d1 dL_step_66 ?_
            refine y_if_ne (pc := 67) (tgt := 74) C dL_step_67 (by decide) (by omega) (by omega) (fun c67 => ?_) (fun c67 => ?_)
            · skip
              refine y_iload_n (pc := 74) C dL_step_74 6 rfl ?_
              refine y_bipush (pc := 75) (z := 22) C dL_step_75 (by decide) ?_
              refine y_irem (pc := 77) C dL_step_77 (by omega) (by omega) (by omega) (by omega) ?_
              exact J4 _ (by omega)
            · skip
              refine y_iconst (pc := 70) C dL_step_70 ?_
              refine y_goto (pc := 71) (tgt := 78) C dL_step_71 (by decide) ?_
              exact J4 _ (by omega)
          · skip
            refine y_iconst (pc := 60) C dL_step_60 ?_
            refine y_goto (pc := 61) (tgt := 78) C dL_step_61 (by decide) ?_
            exact J4 _ (by omega)
      · skip
        refine y_aload_n (pc := 36) C dL_step_36 3 rfl ?_
        refine y_iconst (pc := 37) C dL_step_37 ?_
        refine y_xald (pc := 38) (v := (nc : Nat)) C 1 hd rfl (by decide) (by decide) d1 dL_step_38 ?_
        refine y_if_ne (pc := 39) (tgt := 46) C dL_step_39 (by decide) (by omega) (by omega) (fun c39 => ?_) (fun c39 => ?_)
        · skip
          refine y_iload (pc := 46) C dL_step_46 7 rfl ?_
          refine y_aload_n (pc := 48) C dL_step_48 3 rfl ?_
          refine y_iconst (pc := 49) C dL_step_49 ?_
          refine y_xald (pc := 50) (v := (nc : Nat)) C 1 hd rfl (by decide) (by decide) d1 dL_step_50 ?_
          refine y_irem (pc := 51) C dL_step_51 (by omega) (by omega) (by omega) (by omega) ?_
          exact J3 _ (Or.inr ⟨by omega, Int.emod_nonneg _ (by omega), Int.emod_lt_of_pos _ (by omega)⟩)
        · skip
          refine y_iconst (pc := 42) C dL_step_42 ?_
          refine y_goto (pc := 43) (tgt := 52) C dL_step_43 (by decide) ?_
          exact J3 _ (Or.inl ⟨by omega, rfl⟩)
    · skip
      refine y_aload_n (pc := 18) C dL_step_18 2 rfl ?_
      refine y_iconst (pc := 19) C dL_step_19 ?_
      refine y_xald (pc := 20) (v := (nc : Nat)) C 1 hd rfl (by decide) (by decide) d1 dL_step_20 ?_
      refine y_if_ne (pc := 21) (tgt := 28) C dL_step_21 (by decide) (by omega) (by omega) (fun c21 => ?_) (fun c21 => ?_)
      · skip
        refine y_iload (pc := 28) C dL_step_28 5 rfl ?_
        refine y_aload_n (pc := 30) C dL_step_30 2 rfl ?_
        refine y_iconst (pc := 31) C dL_step_31 ?_
        refine y_xald (pc := 32) (v := (nc : Nat)) C 1 hd rfl (by decide) (by decide) d1 dL_step_32 ?_
        refine y_irem (pc := 33) C dL_step_33 (by omega) (by omega) (by omega) (by omega) ?_
        exact J2 _ (Or.inr ⟨by omega, Int.emod_nonneg _ (by omega), Int.emod_lt_of_pos _ (by omega)⟩)
      · skip
        refine y_iconst (pc := 24) C dL_step_24 ?_
        refine y_goto (pc := 25) (tgt := 34) C dL_step_25 (by decide) ?_
        exact J2 _ (Or.inl ⟨by omega, rfl⟩)
  · skip
    refine y_aload_n (pc := 0) C dL_step_0 1 rfl ?_
    refine y_iconst (pc := 1) C dL_step_1 ?_
    refine y_xald (pc := 2) (v := (ns : Nat)) C 0 hd rfl (by decide) (by decide) d0 dL_step_2 ?_
    refine y_if_ne (pc := 3) (tgt := 10) C dL_step_3 (by decide) (by omega) (by omega) (fun c3 => ?_) (fun c3 => ?_)
    · skip
      refine y_iload (pc := 10) C dL_step_10 4 rfl ?_
      refine y_aload_n (pc := 12) C dL_step_12 1 rfl ?_
      refine y_iconst (pc := 13) C dL_step_13 ?_
      refine y_xald (pc := 14) (v := (ns : Nat)) C 0 hd rfl (by decide) (by decide) d0 dL_step_14 ?_
      refine y_irem (pc := 15) C dL_step_15 (by omega) (by omega) (by omega) (by omega) ?_
      exact J1 _ (Or.inr ⟨by omega, Int.emod_nonneg _ (by omega), Int.emod_lt_of_pos _ (by omega)⟩)
    · skip
      refine y_iconst (pc := 6) C dL_step_6 ?_
      refine y_goto (pc := 7) (tgt := 16) C dL_step_7 (by decide) ?_
      exact J1 _ (Or.inl ⟨by omega, rfl⟩)
