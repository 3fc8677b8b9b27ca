set_option maxRecDepth 20000 in
theorem mt_can {Ω : OmT} {hR : AH} {M : Nat} {ma : Nat → Nat} {σ : ZT} {τ : JT} (ns : Nat) (b : Bool) (h1 : σ 2 0 = ns) (h2 : ns ≤ 5) (h3 : ∀ k, k < ns → StOk σ k) (h4 : -1 ≤ σ 31 0 ∧ σ 31 0 ≤ 1) (h5 : -1 ≤ σ 32 0 ∧ σ 32 0 ≤ 1) : Ct Ω yX5_can cX5_can 6 (some FieldType.long) (rk 4) [.ref M, .int (iv (bz b))] (InvM Ω M ma σ τ) hR (RV (.long (jv (canZ σ ns b))) (InvM Ω M ma σ τ)) NX := by
  refine Ct.of (own := RX5) (L := [(0, _), (1, _)]) (by decide +kernel) rfl (Nat.le_of_ble_eq_true rfl) rfl ?_
  intro κ C hn E hi
  have ho : -1 ≤ othZ b ∧ othZ b ≤ 1 := by cases b <;> decide
  refine y_joinI (pcj := 9) (P := fun q => q = othZ b) (fun v1 hv1 => ?_) (fun J1 => ?_)
  · skip
    subst hv1
    refine y_istore_n (pc := 9) (L' := [(2, _), (0, _), (1, _)]) C dX5_can_9 (by rw [hn]; decide) rfl ?_
    refine y_aload_n (pc := 10) C dX5_can_10 1 rfl ?_
    refine y_get (pc := 11) C fg_X5_169 dX5_can_11 (fun h hh => ⟨_, hh.1, rfl⟩) ?_
    refine y_iload_n (pc := 14) C dX5_can_14 0 rfl ?_
    refine y_icmp_eq (pc := 15) (tgt := 26) C dX5_can_15 (by decide) (by omega) (by omega) (by omega) (by omega) (fun c15 => ?_) (fun c15 => ?_)
    · skip
      refine y_lconst (pc := 26) (z := 0) C dX5_can_26 (by decide) ?_
      exact y_lret (pc := 27) C E dX5_can_27 (by decide) (by decide) (fun h hh => ⟨by rw [show canZ σ ns b = 0 from if_pos (by omega)], hh⟩)
    · skip
      refine y_aload_n (pc := 18) C dX5_can_18 1 rfl ?_
      refine y_get (pc := 19) C fg_X5_172 dX5_can_19 (fun h hh => ⟨_, hh.1, rfl⟩) ?_
      refine y_iload_n (pc := 22) C dX5_can_22 0 rfl ?_
      refine y_icmp_ne (pc := 23) (tgt := 28) C dX5_can_23 (by decide) (by omega) (by omega) (by omega) (by omega) (fun c23 => ?_) (fun c23 => ?_)
      · skip
        have hc0 : canZ σ ns b = sumZ (fun k => rateZ σ k b) ns := if_neg (by omega)
        refine y_lconst (pc := 28) (z := 0) C dX5_can_28 (by decide) ?_
        refine y_lstore_n (pc := 29) (L' := [(3, _), (2, _), (0, _), (1, _)]) C dX5_can_29 (by rw [hn]; decide) rfl ?_
        refine y_iconst (pc := 30) C dX5_can_30 ?_
        refine y_istore (pc := 31) (L' := [(5, _), (3, _), (2, _), (0, _), (1, _)]) C dX5_can_31 (by rw [hn]; decide) rfl ?_
        have LP2 : ∀ (m2 : Nat) (i : Nat) (z x : Int), (k1 : ns + 1 ≤ i + m2) → (k2 : i ≤ ns) → (hz : z = i) → (hx : x = sumZ (fun k => rateZ σ k b) i) → Y Ω κ (InvM Ω M ma σ τ) hR 0 0 33 [(5, .int (iv z)), (3, .long (jv x)), (0, .ref M), (1, .int (iv (bz b)))] [] := by
          intro m2
          induction m2 with
          | zero => intro i z x k1 k2 hz hx; exfalso; omega
          | succ m2 ih2 =>
            intro i z x k1 k2 hz hx
            refine y_iload (pc := 33) C dX5_can_33 0 rfl ?_
            refine y_aload_n (pc := 35) C dX5_can_35 2 rfl ?_
            refine y_get (pc := 36) C fg_X5_105 dX5_can_36 (fun h hh => ⟨_, hh.1, rfl⟩) ?_
            refine y_icmp_ge (pc := 39) (tgt := 59) C dX5_can_39 (by decide) (by omega) (by omega) (by omega) (by omega) (fun c39 => ?_) (fun c39 => ?_)
            · skip
              refine y_lload_n (pc := 59) C dX5_can_59 1 rfl ?_
              exact y_lret (pc := 60) C E dX5_can_60 (by decide) (by decide) (fun h hh => ⟨by rw [hc0, hx, show i = ns by omega], hh⟩)
            · skip
              have hr := rate_b (b := b) (h3 i (by omega))
              refine y_lload_n (pc := 42) C dX5_can_42 1 rfl ?_
              refine y_aload_n (pc := 43) C dX5_can_43 2 rfl ?_
              refine y_iload (pc := 44) C dX5_can_44 0 rfl ?_
              refine y_iload_n (pc := 46) C dX5_can_46 3 rfl ?_
              subst hz
              refine y_callV (pc := 47) (As := [_, _]) C E.2.1 cv_X5_143 (ci := 6) rfl rfl (mt_rateOf i b (by omega) (h3 i (by omega))) (fun h hh => ⟨_, hh.1⟩) rfl rfl (Nat.le_of_ble_eq_true rfl) ⟨by decide, by decide, by decide, by decide⟩ dX5_can_47 ⟨rfl, rfl⟩ ?_
              refine y_i2l (pc := 50) C dX5_can_50 (by omega) (by omega) ?_
              refine y_ladd (pc := 51) C dX5_can_51 ?_
              refine y_lstore_n (pc := 52) (L' := [(3, _), (5, _), (0, _), (1, _)]) C dX5_can_52 (by rw [hn]; decide) rfl ?_
              refine y_iinc (pc := 53) (L' := [(5, _), (3, _), (0, _), (1, _)]) C dX5_can_53 1 rfl (by rw [hn]; decide) rfl ?_
              refine y_goto (pc := 56) (tgt := 33) C dX5_can_56 (by decide) ?_
              refine Y.sub [0, 1, 2, 3] rfl ?_
              exact ih2 (i + 1) _ _ (by omega) (by omega) (by omega) (by rw [hx]; rfl)
        refine Y.sub [0, 1, 3, 4] rfl ?_
        exact LP2 (ns + 1) 0 0 0 (by omega) (by omega) rfl rfl
      · skip
        refine y_lconst (pc := 26) (z := 0) C dX5_can_26 (by decide) ?_
        exact y_lret (pc := 27) C E dX5_can_27 (by decide) (by decide) (fun h hh => ⟨by rw [show canZ σ ns b = 0 from if_pos (by omega)], hh⟩)
  · skip
    refine y_iload_n (pc := 0) C dX5_can_0 1 rfl ?_
    refine y_ifb_eq (pc := 1) (tgt := 8) C dX5_can_1 (by decide) (fun c1 => ?_) (fun c1 => ?_)
    · skip
      refine y_iconst (pc := 8) C dX5_can_8 ?_
      exact J1 _ (by subst c1; rfl)
    · skip
      refine y_iconst (pc := 4) C dX5_can_4 ?_
      refine y_goto (pc := 5) (tgt := 9) C dX5_can_5 (by decide) ?_
      exact J1 _ (by subst c1; rfl)

set_option maxRecDepth 20000 in
theorem mt_laysFirst {Ω : OmT} {hR : AH} {M : Nat} {ma : Nat → Nat} {σ : ZT} {τ : JT} (c n : Nat) (h1 : c < n) (h2 : n ≤ 6) (h3 : CuOk σ c) (h4 : NmOk σ n) : Ct Ω yX5_laysFirst cX5_laysFirst 5 none (rk 2) [.ref M, .int (iv c)] (InvM Ω M ma σ τ) hR (RU (InvM Ω M ma (lay1 σ c) τ)) NX := by
  refine Ct.of (own := RX5) (L := [(0, _), (1, _)]) (by decide +kernel) rfl (Nat.le_of_ble_eq_true rfl) rfl ?_
  intro κ C hn E hi
  have hnb := nom_b h4 h1
  have hc := h3
  unfold CuOk at hc
  have hin := inz_b (has := σ 21 c) h3 (by omega) (by omega)
  have hout := outz_b (has := σ 21 c) h3 (by omega) (by omega)
  have hri := rin_b (has := σ 21 c) h3
  have hro := rout_b (has := σ 21 c) h3
  have hbr := br_b h3
  have hn0 := h4.2
  have eN : ((nowN σ % 64 : Nat) : Int) = σ 1 0 % 64 := by unfold nowN; omega
  refine y_aload_n (pc := 0) C dX5_laysFirst_0 0 rfl ?_
  refine y_get (pc := 1) C fg_X5_75 dX5_laysFirst_1 (fun h hh => ⟨_, hh.1, rfl⟩) ?_
  refine y_bipush (pc := 4) (z := 64) C dX5_laysFirst_4 (by decide) ?_
  refine y_iload_n (pc := 6) C dX5_laysFirst_6 1 rfl ?_
  refine y_imul (pc := 7) C dX5_laysFirst_7 ?_
  refine y_aload_n (pc := 8) C dX5_laysFirst_8 0 rfl ?_
  refine y_get (pc := 9) C fg_X5_151 dX5_laysFirst_9 (fun h hh => ⟨_, hh.1, rfl⟩) ?_
  refine y_bipush (pc := 12) (z := 64) C dX5_laysFirst_12 (by decide) ?_
  refine y_irem (pc := 14) C dX5_laysFirst_14 (by omega) (by omega) (by omega) (by omega) ?_
  refine y_iadd (pc := 15) C dX5_laysFirst_15 ?_
  refine m_iald (pc := 16) C 25 (64 * c + nowN σ % 64) rfl (by omega) (by show _ < 384; omega) dX5_laysFirst_16 ?_
  show Y Ω κ _ hR _ _ _ _ (.int (iv (nomZ σ c)) :: _)
  refine y_istore_n (pc := 17) (L' := [(2, _), (0, _), (1, _)]) C dX5_laysFirst_17 (by rw [hn]; decide) rfl ?_
  refine y_aload_n (pc := 18) C dX5_laysFirst_18 1 rfl ?_
  refine y_iload_n (pc := 19) C dX5_laysFirst_19 2 rfl ?_
  refine y_aload_n (pc := 20) C dX5_laysFirst_20 1 rfl ?_
  refine y_get (pc := 21) C fg_X5_63 dX5_laysFirst_21 (fun h hh => ⟨_, hh.1, rfl⟩) ?_
  refine y_iload_n (pc := 24) C dX5_laysFirst_24 2 rfl ?_
  refine m_iald (pc := 25) C 21 _ rfl rfl (by show _ < 6; omega) dX5_laysFirst_25 ?_
  refine y_iconst (pc := 26) C dX5_laysFirst_26 ?_
  refine y_callV (pc := 27) (As := [_, _, _]) C E.2.1 cv_X5_165 (ci := 6) rfl rfl (mt_rateWith _ _ true (by omega) h3 ⟨by omega, by omega⟩) (fun h hh => ⟨_, hh.1⟩) rfl rfl (Nat.le_of_ble_eq_true rfl) ⟨by decide, by decide, by decide, by decide⟩ dX5_laysFirst_27 ⟨rfl, rfl⟩ ?_
  show Y Ω κ _ hR _ _ _ _ (.int (iv (rinZ σ c (σ 21 c))) :: _)
  refine y_aload_n (pc := 30) C dX5_laysFirst_30 1 rfl ?_
  refine y_get (pc := 31) C fg_X5_51 dX5_laysFirst_31 (fun h hh => ⟨_, hh.1, rfl⟩) ?_
  refine y_iload_n (pc := 34) C dX5_laysFirst_34 2 rfl ?_
  refine m_iald (pc := 35) C 17 _ rfl rfl (by show _ < 6; omega) dX5_laysFirst_35 ?_
  refine y_aload_n (pc := 36) C dX5_laysFirst_36 1 rfl ?_
  refine y_get (pc := 37) C fg_X5_63 dX5_laysFirst_37 (fun h hh => ⟨_, hh.1, rfl⟩) ?_
  refine y_iload_n (pc := 40) C dX5_laysFirst_40 2 rfl ?_
  refine m_iald (pc := 41) C 21 _ rfl rfl (by show _ < 6; omega) dX5_laysFirst_41 ?_
  refine y_isub (pc := 42) C dX5_laysFirst_42 ?_
  refine y_callS (pc := 43) (As := [_, _]) C E.2.1 cs_X5_162 (mt_lesser _ _ ⟨by omega, by omega⟩ ⟨by omega, by omega⟩) rfl rfl (Nat.le_of_ble_eq_true rfl) ⟨by decide, by decide, by decide, by decide⟩ dX5_laysFirst_43 ⟨rfl, rfl⟩ ?_
  show Y Ω κ _ hR _ _ _ _ (.int (iv (inZ σ c (σ 21 c))) :: _)
  refine y_istore_n (pc := 46) (L' := [(3, _), (2, _), (0, _), (1, _)]) C dX5_laysFirst_46 (by rw [hn]; decide) rfl ?_
  refine y_aload_n (pc := 47) C dX5_laysFirst_47 2 rfl ?_
  refine y_iload_n (pc := 48) C dX5_laysFirst_48 3 rfl ?_
  refine y_aload_n (pc := 49) C dX5_laysFirst_49 2 rfl ?_
  refine y_get (pc := 50) C fg_X5_63 dX5_laysFirst_50 (fun h hh => ⟨_, hh.1, rfl⟩) ?_
  refine y_iload_n (pc := 53) C dX5_laysFirst_53 3 rfl ?_
  refine m_iald (pc := 54) C 21 _ rfl rfl (by show _ < 6; omega) dX5_laysFirst_54 ?_
  refine y_iconst (pc := 55) C dX5_laysFirst_55 ?_
  refine y_callV (pc := 56) (As := [_, _, _]) C E.2.1 cv_X5_165 (ci := 6) rfl rfl (mt_rateWith _ _ false (by omega) h3 ⟨by omega, by omega⟩) (fun h hh => ⟨_, hh.1⟩) rfl rfl (Nat.le_of_ble_eq_true rfl) ⟨by decide, by decide, by decide, by decide⟩ dX5_laysFirst_56 ⟨rfl, rfl⟩ ?_
  show Y Ω κ _ hR _ _ _ _ (.int (iv (routZ σ c (σ 21 c))) :: _)
  refine y_aload_n (pc := 59) C dX5_laysFirst_59 2 rfl ?_
  refine y_get (pc := 60) C fg_X5_63 dX5_laysFirst_60 (fun h hh => ⟨_, hh.1, rfl⟩) ?_
  refine y_iload_n (pc := 63) C dX5_laysFirst_63 3 rfl ?_
  refine m_iald (pc := 64) C 21 _ rfl rfl (by show _ < 6; omega) dX5_laysFirst_64 ?_
  refine y_callS (pc := 65) (As := [_, _]) C E.2.1 cs_X5_162 (mt_lesser _ _ ⟨by omega, by omega⟩ ⟨by omega, by omega⟩) rfl rfl (Nat.le_of_ble_eq_true rfl) ⟨by decide, by decide, by decide, by decide⟩ dX5_laysFirst_65 ⟨rfl, rfl⟩ ?_
  show Y Ω κ _ hR _ _ _ _ (.int (iv (outZ σ c (σ 21 c))) :: _)
  refine y_istore (pc := 68) (L' := [(4, _), (3, _), (2, _), (0, _), (1, _)]) C dX5_laysFirst_68 (by rw [hn]; decide) rfl ?_
  refine y_aload_n (pc := 70) C dX5_laysFirst_70 3 rfl ?_
  refine y_get (pc := 71) C fg_X5_90 dX5_laysFirst_71 (fun h hh => ⟨_, hh.1, rfl⟩) ?_
  refine y_iload_n (pc := 74) C dX5_laysFirst_74 4 rfl ?_
  refine y_joinI (pcj := 88) (P := fun q => q = brZ σ c) (fun v1 hv1 => ?_) (fun J1 => ?_)
  · skip
    subst hv1
    refine m_iast (pc := 88) C 36 _ rfl rfl (by show _ < 6; omega) dX5_laysFirst_88 ?_
    refine y_aload_n (pc := 89) C dX5_laysFirst_89 3 rfl ?_
    refine y_get (pc := 90) C fg_X5_93 dX5_laysFirst_90 (fun h hh => ⟨_, hh.1, rfl⟩) ?_
    refine y_iload_n (pc := 93) C dX5_laysFirst_93 4 rfl ?_
    refine y_joinI (pcj := 109) (P := fun q => q = tkZ σ c) (fun v2 hv2 => ?_) (fun J2 => ?_)
    · skip
      subst hv2
      refine m_iast (pc := 109) C 37 _ rfl rfl (by show _ < 6; omega) dX5_laysFirst_109 ?_
      refine y_aload_n (pc := 110) C dX5_laysFirst_110 3 rfl ?_
      refine y_get (pc := 111) C fg_X5_96 dX5_laysFirst_111 (fun h hh => ⟨_, hh.1, rfl⟩) ?_
      refine y_iload_n (pc := 114) C dX5_laysFirst_114 4 rfl ?_
      refine y_iconst (pc := 115) C dX5_laysFirst_115 ?_
      refine m_iast (pc := 116) C 38 _ rfl rfl (by show _ < 6; omega) dX5_laysFirst_116 ?_
      refine y_aload_n (pc := 117) C dX5_laysFirst_117 3 rfl ?_
      refine y_get (pc := 118) C fg_X5_99 dX5_laysFirst_118 (fun h hh => ⟨_, hh.1, rfl⟩) ?_
      refine y_iload_n (pc := 121) C dX5_laysFirst_121 4 rfl ?_
      refine y_joinI (pcj := 144) (P := fun q => q = caZ σ c) (fun v3 hv3 => ?_) (fun J3 => ?_)
      · skip
        subst hv3
        refine m_iast (pc := 144) C 39 _ rfl rfl (by show _ < 6; omega) dX5_laysFirst_144 ?_
        exact y_vret (pc := 145) C E dX5_laysFirst_145 (by decide) (by decide) (fun h hh => ⟨rfl, hh⟩)
      · skip
        refine y_iload_n (pc := 122) C dX5_laysFirst_122 2 rfl ?_
        refine y_aload_n (pc := 123) C dX5_laysFirst_123 3 rfl ?_
        refine y_get (pc := 124) C fg_X5_90 dX5_laysFirst_124 (fun h hh => ⟨_, hh.1, rfl⟩) ?_
        refine y_iload_n (pc := 127) C dX5_laysFirst_127 4 rfl ?_
        refine m_iald (pc := 128) C 36 c rfl rfl (by show _ < 6; omega) dX5_laysFirst_128 ?_
        refine y_aload_n (pc := 129) C dX5_laysFirst_129 3 rfl ?_
        refine y_get (pc := 130) C fg_X5_93 dX5_laysFirst_130 (fun h hh => ⟨_, hh.1, rfl⟩) ?_
        refine y_iload_n (pc := 133) C dX5_laysFirst_133 4 rfl ?_
        refine m_iald (pc := 134) C 37 c rfl rfl (by show _ < 6; omega) dX5_laysFirst_134 ?_
        rw [show zu (zu (zu σ 36 c (brZ σ c)) 37 c (tkZ σ c)) 38 c 0 36 c = brZ σ c from zu_s (σ := σ) (f := 36), show zu (zu (zu σ 36 c (brZ σ c)) 37 c (tkZ σ c)) 38 c 0 37 c = tkZ σ c from zu_s (σ := zu σ 36 c (brZ σ c)) (f := 37)]
        refine y_isub (pc := 135) C dX5_laysFirst_135 ?_
        refine y_icmp_eq (pc := 136) (tgt := 143) C dX5_laysFirst_136 (by decide) (by omega) (by omega) (by omega) (by omega) (fun c136 => ?_) (fun c136 => ?_)
        · skip
          refine y_iconst (pc := 143) C dX5_laysFirst_143 ?_
          exact J3 _ (by unfold caZ; split <;> first | rfl | (exfalso; omega))
        · skip
          refine y_iconst (pc := 139) C dX5_laysFirst_139 ?_
          refine y_goto (pc := 140) (tgt := 144) C dX5_laysFirst_140 (by decide) ?_
          exact J3 _ (by unfold caZ; split <;> first | rfl | (exfalso; omega))
    · skip
      refine y_iload_n (pc := 94) C dX5_laysFirst_94 2 rfl ?_
      refine y_if_ge (pc := 95) (tgt := 108) C dX5_laysFirst_95 (by decide) (by omega) (by omega) (fun c95 => ?_) (fun c95 => ?_)
      · skip
        refine y_iconst (pc := 108) C dX5_laysFirst_108 ?_
        exact J2 _ (by unfold tkZ; split <;> first | rfl | (exfalso; omega))
      · skip
        refine y_iload_n (pc := 98) C dX5_laysFirst_98 2 rfl ?_
        refine y_ineg (pc := 99) C dX5_laysFirst_99 ?_
        refine y_iload (pc := 100) C dX5_laysFirst_100 0 rfl ?_
        refine y_callS (pc := 102) (As := [_, _]) C E.2.1 cs_X5_162 (mt_lesser _ _ ⟨by omega, by omega⟩ ⟨by omega, by omega⟩) rfl rfl (Nat.le_of_ble_eq_true rfl) ⟨by decide, by decide, by decide, by decide⟩ dX5_laysFirst_102 ⟨rfl, rfl⟩ ?_
        refine y_goto (pc := 105) (tgt := 109) C dX5_laysFirst_105 (by decide) ?_
        exact J2 _ (by unfold tkZ; split <;> first | rfl | (exfalso; omega))
  · skip
    refine y_iload_n (pc := 75) C dX5_laysFirst_75 2 rfl ?_
    refine y_if_le (pc := 76) (tgt := 87) C dX5_laysFirst_76 (by decide) (by omega) (by omega) (fun c76 => ?_) (fun c76 => ?_)
    · skip
      refine y_iconst (pc := 87) C dX5_laysFirst_87 ?_
      exact J1 _ (by unfold brZ; split <;> first | rfl | (exfalso; omega))
    · skip
      refine y_iload_n (pc := 79) C dX5_laysFirst_79 2 rfl ?_
      refine y_iload_n (pc := 80) C dX5_laysFirst_80 1 rfl ?_
      refine y_callS (pc := 81) (As := [_, _]) C E.2.1 cs_X5_162 (mt_lesser _ _ ⟨by omega, by omega⟩ ⟨by omega, by omega⟩) rfl rfl (Nat.le_of_ble_eq_true rfl) ⟨by decide, by decide, by decide, by decide⟩ dX5_laysFirst_81 ⟨rfl, rfl⟩ ?_
      refine y_goto (pc := 84) (tgt := 88) C dX5_laysFirst_84 (by decide) ?_
      exact J1 _ (by unfold brZ; split <;> first | rfl | (exfalso; omega))

set_option maxRecDepth 20000 in
theorem mt_curtails {Ω : OmT} {hR : AH} {M : Nat} {ma : Nat → Nat} {σ : ZT} {τ : JT} (n : Nat) (b : Bool) (y s : Int) (h1 : σ 16 0 = n) (h2 : n ≤ 6) (h3 : PlOk σ n) (h4 : ∀ c, c < n → 0 ≤ σ 20 c ∧ σ 20 c ≤ 3) (h5 : -2147483648 ≤ y ∧ y < 2147483648) (h6 : 0 ≤ s ∧ s ≤ 3) : Ct Ω yX5_curtails cX5_curtails 8 none (rk 2) [.ref M, .int (iv (bz b)), .int (iv y), .int (iv s)] (InvM Ω M ma σ τ) hR (RU (InvM Ω M ma (cur b s n σ y) τ)) NX := by
  refine Ct.of (own := RX5) (L := [(0, _), (1, _), (2, _), (3, _)]) (by decide +kernel) rfl (Nat.le_of_ble_eq_true rfl) rfl ?_
  intro κ C hn E hi
  refine y_iload_n (pc := 0) C dX5_curtails_0 2 rfl ?_
  refine y_istore (pc := 1) (L' := [(4, _), (0, _), (1, _), (2, _), (3, _)]) C dX5_curtails_1 (by rw [hn]; decide) rfl ?_
  refine y_iconst (pc := 3) C dX5_curtails_3 ?_
  refine y_aload_n (pc := 4) C dX5_curtails_4 1 rfl ?_
  refine y_get (pc := 5) C fg_X5_112 dX5_curtails_5 (fun h hh => ⟨_, hh.1, rfl⟩) ?_
  refine y_imul (pc := 8) C dX5_curtails_8 ?_
  refine y_iconst (pc := 9) C dX5_curtails_9 ?_
  refine y_isub (pc := 10) C dX5_curtails_10 ?_
  refine y_istore (pc := 11) (L' := [(5, _), (4, _), (0, _), (1, _), (2, _), (3, _)]) C dX5_curtails_11 (by rw [hn]; decide) rfl ?_
  have LP1 : ∀ (m1 : Nat) (j : Nat) (z r : Int) (w : ZT), (k1 : j + 1 ≤ m1) → (k2 : j ≤ 4 * n) → (hz : z = (j : Int) - 1) → (hw : cloop b s n j (w, r) = cloop b s n (4 * n) (σ, y)) → (hp : PlOk w n) → (hf : ∀ f, f < 36 → w f = σ f) → (hr : -2147483648 ≤ r ∧ r < 2147483648) → Y Ω κ (InvM Ω M ma w τ) hR 0 0 13 [(5, .int (iv z)), (4, .int (iv r)), (0, .ref M), (1, .int (iv (bz b))), (2, .int (iv y)), (3, .int (iv s))] [] := by
    intro m1
    induction m1 with
    | zero => intro j z r w k1 k2 hz hw hp hf hr; exfalso; omega
    | succ m1 ih1 =>
      intro j z r w k1 k2 hz hw hp hf hr
      refine y_iload (pc := 13) C dX5_curtails_13 0 rfl ?_
      refine y_if_lt (pc := 15) (tgt := 179) C dX5_curtails_15 (by decide) (by omega) (by omega) (fun c15 => ?_) (fun c15 => ?_)
      · skip
        exact y_vret (pc := 179) C E dX5_curtails_179 (by decide) (by decide) (fun h hh => ⟨rfl, by have e : j = 0 := (by omega); subst e; rw [show cur b s n σ y = w from congrArg Prod.fst hw.symm]; exact hh⟩)
      · skip
        refine y_iload (pc := 18) C dX5_curtails_18 1 rfl ?_
        refine y_if_le (pc := 20) (tgt := 179) C dX5_curtails_20 (by decide) (by omega) (by omega) (fun c20 => ?_) (fun c20 => ?_)
        · skip
          exact y_vret (pc := 179) C E dX5_curtails_179 (by decide) (by decide) (fun h hh => ⟨rfl, by rw [show cur b s n σ y = w from (congrArg Prod.fst hw.symm).trans (congrArg Prod.fst (cloop_le (p := (w, r)) (by show r ≤ 0; omega)))]; exact hh⟩)
        · skip
          have h16 : w 16 0 = n := by rw [hf 16 (by omega)]; exact h1
          obtain ⟨j9, rfl⟩ : ∃ j9, j = j9 + 1 := ⟨j - 1, by omega⟩
          have hn0 : 0 < n := by omega
          have hm9 : j9 % n < n := Nat.mod_lt _ hn0
          have hd9 : j9 / n < 4 := (Nat.div_lt_iff_lt_mul hn0).mpr (by omega)
          have ez : z = (j9 : Int) := by omega
          have em : z % w 16 0 = ((j9 % n : Nat) : Int) := by rw [ez, h16]; rfl
          have ed : z / w 16 0 = ((j9 / n : Nat) : Int) := by rw [ez, h16]; rfl
          have hb9 : 0 ≤ z / w 16 0 ∧ z / w 16 0 < 4 := by rw [ed]; exact ⟨Int.natCast_nonneg _, Int.ofNat_lt.mpr hd9⟩
          have hpc := hp _ hm9
          have h20 : 0 ≤ w 20 (j9 % n) ∧ w 20 (j9 % n) ≤ 3 := by rw [hf 20 (by omega)]; exact h4 _ hm9
          have hy9 := cby_b (b := b) (k := j9) (p := (w, r)) hp hn0 (by show 0 < r; omega)
          have hyr : cby b n j9 (w, r) ≤ r := hy9.2.1
          refine y_iload (pc := 23) C dX5_curtails_23 0 rfl ?_
          refine y_aload_n (pc := 25) C dX5_curtails_25 2 rfl ?_
          refine y_get (pc := 26) C fg_X5_112 dX5_curtails_26 (fun h hh => ⟨_, hh.1, rfl⟩) ?_
          refine y_irem (pc := 29) C dX5_curtails_29 (by omega) (by omega) (by omega) (by omega) ?_
          refine y_istore (pc := 30) (L' := [(6, _), (5, _), (4, _), (0, _), (1, _), (2, _), (3, _)]) C dX5_curtails_30 (by rw [hn]; decide) rfl ?_
          refine y_joinI (pcj := 79) (P := fun q => q = cby b n j9 (w, r)) (fun v2 hv2 => ?_) (fun J2 => ?_)
          · skip
            subst hv2
            refine y_istore (pc := 79) (L' := [(7, _), (6, _), (5, _), (4, _), (0, _), (1, _), (2, _), (3, _)]) C dX5_curtails_79 (by rw [hn]; decide) rfl ?_
            refine y_aload_n (pc := 81) C dX5_curtails_81 4 rfl ?_
            refine y_get (pc := 82) C fg_X5_90 dX5_curtails_82 (fun h hh => ⟨_, hh.1, rfl⟩) ?_
            refine y_iload (pc := 85) C dX5_curtails_85 1 rfl ?_
            refine y_dup2 (pc := 87) C dX5_curtails_87 rfl rfl ?_
            refine m_iald (pc := 88) C 36 (j9 % n) rfl em (by show _ < 6; omega) dX5_curtails_88 ?_
            refine y_joinI (pcj := 99) (P := fun q => q = if b = true then cby b n j9 (w, r) else 0) (fun v3 hv3 => ?_) (fun J3 => ?_)
            · skip
              subst hv3
              refine y_isub (pc := 99) C dX5_curtails_99 ?_
              refine m_iast (pc := 100) C 36 (j9 % n) rfl em (by show _ < 6; omega) dX5_curtails_100 ?_
              refine y_aload_n (pc := 101) C dX5_curtails_101 4 rfl ?_
              refine y_get (pc := 102) C fg_X5_93 dX5_curtails_102 (fun h hh => ⟨_, hh.1, rfl⟩) ?_
              refine y_iload (pc := 105) C dX5_curtails_105 1 rfl ?_
              refine y_dup2 (pc := 107) C dX5_curtails_107 rfl rfl ?_
              refine m_iald (pc := 108) C 37 (j9 % n) rfl em (by show _ < 6; omega) dX5_curtails_108 ?_
              refine y_joinI (pcj := 119) (P := fun q => q = if b = true then 0 else cby b n j9 (w, r)) (fun v4 hv4 => ?_) (fun J4 => ?_)
              · skip
                subst hv4
                refine y_isub (pc := 119) C dX5_curtails_119 ?_
                refine m_iast (pc := 120) C 37 (j9 % n) rfl em (by show _ < 6; omega) dX5_curtails_120 ?_
                refine y_aload_n (pc := 121) C dX5_curtails_121 4 rfl ?_
                refine y_get (pc := 122) C fg_X5_96 dX5_curtails_122 (fun h hh => ⟨_, hh.1, rfl⟩) ?_
                refine y_iload (pc := 125) C dX5_curtails_125 1 rfl ?_
                refine y_dup2 (pc := 127) C dX5_curtails_127 rfl rfl ?_
                refine m_iald (pc := 128) C 38 (j9 % n) rfl em (by show _ < 6; omega) dX5_curtails_128 ?_
                refine y_iload (pc := 129) C dX5_curtails_129 0 rfl ?_
                refine y_iadd (pc := 131) C dX5_curtails_131 ?_
                refine m_iast (pc := 132) C 38 (j9 % n) rfl em (by show _ < 6; omega) dX5_curtails_132 ?_
                refine y_aload_n (pc := 133) C dX5_curtails_133 4 rfl ?_
                refine y_get (pc := 134) C fg_X5_99 dX5_curtails_134 (fun h hh => ⟨_, hh.1, rfl⟩) ?_
                refine y_iload (pc := 137) C dX5_curtails_137 1 rfl ?_
                refine y_joinI (pcj := 165) (P := fun q => q = if 0 < cby b n j9 (w, r) ∧ w 39 (j9 % n) = 0 then s else w 39 (j9 % n)) (fun v5 hv5 => ?_) (fun J5 => ?_)
                · skip
                  subst hv5
                  refine m_iast (pc := 165) C 39 (j9 % n) rfl em (by show _ < 6; omega) dX5_curtails_165 ?_
                  refine y_iload (pc := 166) C dX5_curtails_166 3 rfl ?_
                  refine y_iload (pc := 168) C dX5_curtails_168 0 rfl ?_
                  refine y_isub (pc := 170) C dX5_curtails_170 ?_
                  refine y_istore (pc := 171) (L' := [(4, _), (7, _), (6, _), (5, _), (0, _), (1, _), (2, _), (3, _)]) C dX5_curtails_171 (by rw [hn]; decide) rfl ?_
                  refine y_iinc (pc := 173) (L' := [(5, _), (4, _), (7, _), (6, _), (0, _), (1, _), (2, _), (3, _)]) C dX5_curtails_173 3 rfl (by rw [hn]; decide) rfl ?_
                  refine y_goto (pc := 176) (tgt := 13) C dX5_curtails_176 (by decide) ?_
                  refine Y.sub [0, 1, 4, 5, 6, 7] rfl ?_
                  exact ih1 j9 _ _ _ (by omega) (by omega) (by omega) ((cloop_st (p := (w, r)) (by omega)).symm.trans hw) (curZ_ok hp hm9 h6 hy9.1 hy9.2.2.1 hy9.2.2.2) (fun f hf9 => (curZ_f (Or.inl hf9)).trans (hf f hf9)) (by omega)
                · skip
                  refine y_iload (pc := 139) C dX5_curtails_139 0 rfl ?_
                  refine y_if_le (pc := 141) (tgt := 158) C dX5_curtails_141 (by decide) (by omega) (by omega) (fun c141 => ?_) (fun c141 => ?_)
                  · skip
                    refine y_aload_n (pc := 158) C dX5_curtails_158 4 rfl ?_
                    refine y_get (pc := 159) C fg_X5_99 dX5_curtails_159 (fun h hh => ⟨_, hh.1, rfl⟩) ?_
                    refine y_iload (pc := 162) C dX5_curtails_162 1 rfl ?_
                    refine m_iald (pc := 164) C 39 (j9 % n) rfl em (by show _ < 6; omega) dX5_curtails_164 ?_
                    exact J5 _ (by first | exact (if_neg (by have q : ¬ w 39 (j9 % n) = 0 := c151; omega)).symm | exact (if_pos (by have q : w 39 (j9 % n) = 0 := c151; omega)).symm | exact (if_neg (by omega)).symm)
                  · skip
                    refine y_aload_n (pc := 144) C dX5_curtails_144 4 rfl ?_
                    refine y_get (pc := 145) C fg_X5_99 dX5_curtails_145 (fun h hh => ⟨_, hh.1, rfl⟩) ?_
                    refine y_iload (pc := 148) C dX5_curtails_148 1 rfl ?_
                    refine m_iald (pc := 150) C 39 (j9 % n) rfl em (by show _ < 6; omega) dX5_curtails_150 ?_
                    refine y_if_ne (pc := 151) (tgt := 158) C dX5_curtails_151 (by decide) (by show -2147483648 ≤ w 39 (j9 % n); omega) (by show w 39 (j9 % n) < 2147483648; omega) (fun c151 => ?_) (fun c151 => ?_)
                    · skip
                      refine y_aload_n (pc := 158) C dX5_curtails_158 4 rfl ?_
                      refine y_get (pc := 159) C fg_X5_99 dX5_curtails_159 (fun h hh => ⟨_, hh.1, rfl⟩) ?_
                      refine y_iload (pc := 162) C dX5_curtails_162 1 rfl ?_
                      refine m_iald (pc := 164) C 39 (j9 % n) rfl em (by show _ < 6; omega) dX5_curtails_164 ?_
                      exact J5 _ (by first | exact (if_neg (by have q : ¬ w 39 (j9 % n) = 0 := c151; omega)).symm | exact (if_pos (by have q : w 39 (j9 % n) = 0 := c151; omega)).symm | exact (if_neg (by omega)).symm)
                    · skip
                      refine y_iload_n (pc := 154) C dX5_curtails_154 7 rfl ?_
                      refine y_goto (pc := 155) (tgt := 165) C dX5_curtails_155 (by decide) ?_
                      exact J5 _ (by first | exact (if_neg (by have q : ¬ w 39 (j9 % n) = 0 := c151; omega)).symm | exact (if_pos (by have q : w 39 (j9 % n) = 0 := c151; omega)).symm | exact (if_neg (by omega)).symm)
              · skip
                refine y_iload_n (pc := 109) C dX5_curtails_109 5 rfl ?_
                refine y_ifb_eq (pc := 110) (tgt := 117) C dX5_curtails_110 (by decide) (fun c110 => ?_) (fun c110 => ?_)
                · skip
                  refine y_iload (pc := 117) C dX5_curtails_117 0 rfl ?_
                  exact J4 _ (by subst c110; rfl)
                · skip
                  refine y_iconst (pc := 113) C dX5_curtails_113 ?_
                  refine y_goto (pc := 114) (tgt := 119) C dX5_curtails_114 (by decide) ?_
                  exact J4 _ (by subst c110; rfl)
            · skip
              refine y_iload_n (pc := 89) C dX5_curtails_89 5 rfl ?_
              refine y_ifb_eq (pc := 90) (tgt := 98) C dX5_curtails_90 (by decide) (fun c90 => ?_) (fun c90 => ?_)
              · skip
                refine y_iconst (pc := 98) C dX5_curtails_98 ?_
                exact J3 _ (by subst c90; rfl)
              · skip
                refine y_iload (pc := 93) C dX5_curtails_93 0 rfl ?_
                refine y_goto (pc := 95) (tgt := 99) C dX5_curtails_95 (by decide) ?_
                exact J3 _ (by subst c90; rfl)
          · skip
            refine y_aload_n (pc := 32) C dX5_curtails_32 3 rfl ?_
            refine y_get (pc := 33) C fg_X5_60 dX5_curtails_33 (fun h hh => ⟨_, hh.1, rfl⟩) ?_
            refine y_iload (pc := 36) C dX5_curtails_36 0 rfl ?_
            refine m_iald (pc := 38) C 20 (j9 % n) rfl em (by show _ < 6; omega) dX5_curtails_38 ?_
            refine y_iload (pc := 39) C dX5_curtails_39 1 rfl ?_
            refine y_aload_n (pc := 41) C dX5_curtails_41 3 rfl ?_
            refine y_get (pc := 42) C fg_X5_112 dX5_curtails_42 (fun h hh => ⟨_, hh.1, rfl⟩) ?_
            refine y_idivP (pc := 45) C dX5_curtails_45 (by omega) (by omega) (by omega) (by omega) ?_
            refine y_icmp_ne (pc := 46) (tgt := 78) C dX5_curtails_46 (by decide) (by omega) (by omega) (by omega) (by omega) (fun c46 => ?_) (fun c46 => ?_)
            · skip
              refine y_iconst (pc := 78) C dX5_curtails_78 ?_
              exact J2 _ (by unfold cby; first | exact (if_pos (by show w 20 (j9 % n) = _; rw [← ed]; exact c46)).symm | exact (if_neg (by show ¬ w 20 (j9 % n) = _; rw [← ed]; exact c46)).symm)
            · skip
              refine y_iload (pc := 49) C dX5_curtails_49 2 rfl ?_
              refine y_joinI (pcj := 72) (P := fun q => q = if b = true then w 36 (j9 % n) else w 37 (j9 % n)) (fun v6 hv6 => ?_) (fun J6 => ?_)
              · skip
                have hv2 : -2147483648 ≤ v6 ∧ v6 < 2147483648 := by rw [hv6]; split <;> omega
                subst hv6
                refine y_callS (pc := 72) (As := [_, _]) C E.2.1 cs_X5_162 (mt_lesser _ _ ⟨by omega, by omega⟩ ⟨by omega, by omega⟩) rfl rfl (Nat.le_of_ble_eq_true rfl) ⟨by decide, by decide, by decide, by decide⟩ dX5_curtails_72 ⟨rfl, rfl⟩ ?_
                refine y_goto (pc := 75) (tgt := 79) C dX5_curtails_75 (by decide) ?_
                exact J2 _ (by unfold cby; first | exact (if_pos (by show w 20 (j9 % n) = _; rw [← ed]; exact c46)).symm | exact (if_neg (by show ¬ w 20 (j9 % n) = _; rw [← ed]; exact c46)).symm)
              · skip
                refine y_iload_n (pc := 51) C dX5_curtails_51 4 rfl ?_
                refine y_ifb_eq (pc := 52) (tgt := 65) C dX5_curtails_52 (by decide) (fun c52 => ?_) (fun c52 => ?_)
                · skip
                  refine y_aload_n (pc := 65) C dX5_curtails_65 3 rfl ?_
                  refine y_get (pc := 66) C fg_X5_93 dX5_curtails_66 (fun h hh => ⟨_, hh.1, rfl⟩) ?_
                  refine y_iload (pc := 69) C dX5_curtails_69 0 rfl ?_
                  refine m_iald (pc := 71) C 37 (j9 % n) rfl em (by show _ < 6; omega) dX5_curtails_71 ?_
                  exact J6 _ (by subst c52; rfl)
                · skip
                  refine y_aload_n (pc := 55) C dX5_curtails_55 3 rfl ?_
                  refine y_get (pc := 56) C fg_X5_90 dX5_curtails_56 (fun h hh => ⟨_, hh.1, rfl⟩) ?_
                  refine y_iload (pc := 59) C dX5_curtails_59 0 rfl ?_
                  refine m_iald (pc := 61) C 36 (j9 % n) rfl em (by show _ < 6; omega) dX5_curtails_61 ?_
                  refine y_goto (pc := 62) (tgt := 72) C dX5_curtails_62 (by decide) ?_
                  exact J6 _ (by subst c52; rfl)
  refine Y.sub [0, 1, 2, 3, 4, 5] rfl ?_
  exact LP1 (4 * n + 1) (4 * n) _ _ σ (by omega) (by omega) (by omega) rfl h3 (fun _ _ => rfl) h5
