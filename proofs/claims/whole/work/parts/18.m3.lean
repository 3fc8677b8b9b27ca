set_option maxRecDepth 20000 in
theorem mt_lays {Ω : OmT} {hR : AH} {M : Nat} {ma : Nat → Nat} {σ : ZT} {τ : JT} (ns nc nl : Nat) (hwf : Wf σ ns nc nl) : Ct Ω yX5_lays cX5_lays 5 none (rk 5) [.ref M] (InvM Ω M ma σ τ) hR (RU (InvM Ω M ma (laysZ σ nc nl ns) τ)) NX := by
  refine Ct.of (own := RX5) (L := [(0, _)]) (by decide +kernel) rfl (Nat.le_of_ble_eq_true rfl) rfl ?_
  intro κ C hn E hi
  have hwf0 := hwf
  obtain ⟨hs1, hs2, hc1, hc2, hlw, hnm, hst, hcu, hf1, hf2, hcm⟩ := hwf
  have hnow := hnm.2
  have hl2 := hlw.2.1
  refine y_iconst (pc := 0) C dX5_lays_0 ?_
  refine y_istore_n (pc := 1) (L' := [(1, _), (0, _)]) C dX5_lays_1 (by rw [hn]; decide) rfl ?_
  have LP1 : ∀ (m1 : Nat) (i : Nat) (z : Int), (k1 : nc + 1 ≤ i + m1) → (k2 : i ≤ nc) → (hz : z = i) → Y Ω κ (InvM Ω M ma (layN σ i) τ) hR 0 0 2 [(1, .int (iv z)), (0, .ref M)] [] := by
    intro m1
    induction m1 with
    | zero => intro i z k1 k2 hz; exfalso; omega
    | succ m1 ih1 =>
      intro i z k1 k2 hz
      have e16 : layN σ i 16 0 = nc := by rw [layN_f (by omega)]; exact hc1
      refine y_iload_n (pc := 2) C dX5_lays_2 0 rfl ?_
      refine y_aload_n (pc := 3) C dX5_lays_3 1 rfl ?_
      refine y_get (pc := 4) C fg_X5_112 dX5_lays_4 (fun h hh => ⟨_, hh.1, rfl⟩) ?_
      refine y_icmp_ge (pc := 7) (tgt := 21) C dX5_lays_7 (by decide) (by omega) (by omega) (by omega) (by omega) (fun c7 => ?_) (fun c7 => ?_)
      · skip
        have ei : i = nc := by omega
        subst ei
        obtain ⟨s, hs⟩ : ∃ s, s = layN σ i := ⟨_, rfl⟩
        rw [← hs]
        have hsf : ∀ f, f < 36 ∨ 39 < f → s f = σ f := fun f hf => by rw [hs]; exact layN_f hf
        have hsp : PlOk s i := by rw [hs]; exact layN_ok hcu
        have hsw : Wf s ns i nl := wf_c (fun f hf => hsf f (Or.inl hf)) hwf0
        have hsl := hsw.2.2.2.2.1
        have hsn := hsw.2.2.2.2.2.1.2
        have hlb := lawI_b (σ := s) (n := nl)
        have his := inv_sum (σ := s) (n := i) hsw.2.2.2.2.2.2.2.1 hc2
        have hps := pl_sums hsp hc2
        refine y_aload_n (pc := 21) C dX5_lays_21 1 rfl ?_
        refine y_callV (pc := 22) (As := []) C E.2.1 cv_X5_179 (ci := 6) rfl rfl (mt_lawNow _ hsl hsn) (fun h hh => ⟨_, hh.1⟩) rfl rfl (Nat.le_of_ble_eq_true rfl) ⟨by decide, by decide, by decide, by decide⟩ dX5_lays_22 ⟨rfl, rfl⟩ ?_
        refine y_istore_n (pc := 25) (L' := [(1, _), (0, _)]) C dX5_lays_25 (by rw [hn]; decide) rfl ?_
        refine y_joinU (pcj := 72) (Φ' := InvM Ω M ma (lawC s i nl) τ) ?_ (fun J2 => ?_)
        · skip
          obtain ⟨w, hw⟩ : ∃ w, w = lawC s i nl := ⟨_, rfl⟩
          rw [← hw]
          have hwf9 : ∀ f, f < 36 ∨ 39 < f → w f = σ f := fun f hf => by rw [hw, lawC_f hf]; exact hsf f hf
          have hwp : PlOk w i := by rw [hw]; exact lawC_ok hsp
          have hww : Wf w ns i nl := wf_c (fun f hf => hwf9 f (Or.inl hf)) hwf0
          have hwps := pl_sums hwp hc2
          have hcb : ∀ b, 0 ≤ canZ w ns b ∧ canZ w ns b ≤ 5000000 := fun b => can_b hww.2.2.2.2.2.2.1 hs2
          have hcb0 := hcb (decide (0 < netZ w i))
          have hnz : -600000 ≤ netZ w i ∧ netZ w i ≤ 600000 := by unfold netZ; omega
          have hab : 0 ≤ absZ (netZ w i) ∧ absZ (netZ w i) ≤ 600000 := by unfold absZ; split <;> omega
          have hov : 0 ≤ overZ w i ns ∧ overZ w i ns ≤ 600000 := by unfold overZ; split <;> omega
          refine y_aload_n (pc := 72) C dX5_lays_72 1 rfl ?_
          refine y_iconst (pc := 73) C dX5_lays_73 ?_
          refine y_callV (pc := 74) (As := [_]) C E.2.1 cv_X5_187 (ci := 6) rfl rfl (mt_sum _ true hww.2.2.1 hc2) (fun h hh => ⟨_, hh.1⟩) rfl rfl (Nat.le_of_ble_eq_true rfl) ⟨by decide, by decide, by decide, by decide⟩ dX5_lays_74 ⟨rfl, rfl⟩ ?_
          show Y Ω κ _ hR _ _ _ _ (.int (iv (sumZ (w 36) i)) :: _)
          refine y_aload_n (pc := 77) C dX5_lays_77 1 rfl ?_
          refine y_iconst (pc := 78) C dX5_lays_78 ?_
          refine y_callV (pc := 79) (As := [_]) C E.2.1 cv_X5_187 (ci := 6) rfl rfl (mt_sum _ false hww.2.2.1 hc2) (fun h hh => ⟨_, hh.1⟩) rfl rfl (Nat.le_of_ble_eq_true rfl) ⟨by decide, by decide, by decide, by decide⟩ dX5_lays_79 ⟨rfl, rfl⟩ ?_
          show Y Ω κ _ hR _ _ _ _ (.int (iv (sumZ (w 37) i)) :: _)
          refine y_isub (pc := 82) C dX5_lays_82 ?_
          show Y Ω κ _ hR _ _ _ _ (.int (iv (netZ w i)) :: _)
          refine y_istore_n (pc := 83) (L' := [(2, _), (1, _), (0, _)]) C dX5_lays_83 (by rw [hn]; decide) rfl ?_
          refine y_iload_n (pc := 84) C dX5_lays_84 0 rfl ?_
          refine y_if_eq (pc := 85) (tgt := 140) C dX5_lays_85 (by decide) (by omega) (by omega) (fun c85 => ?_) (fun c85 => ?_)
          · skip
            exact y_vret (pc := 140) C E dX5_lays_140 (by decide) (by decide) (fun h hh => ⟨rfl, by rw [show laysZ σ i nl ns = plaC w i ns from by rw [hw, hs]; rfl, show plaC w i ns = w from if_pos c85]; exact hh⟩)
          · skip
            refine y_joinI (pcj := 98) (P := fun q => q = absZ (netZ w i)) (fun v3 hv3 => ?_) (fun J3 => ?_)
            · skip
              subst hv3
              refine y_i2l (pc := 98) C dX5_lays_98 (by omega) (by omega) ?_
              refine y_aload_n (pc := 99) C dX5_lays_99 2 rfl ?_
              refine y_joinB (pcj := 109) (P := fun q => q = decide (0 < netZ w i)) (fun v4 hv4 => ?_) (fun J4 => ?_)
              · skip
                subst hv4
                refine y_callV (pc := 109) (As := [_]) C E.2.1 cv_X5_195 (ci := 6) rfl rfl (mt_can _ _ hww.1 hs2 hww.2.2.2.2.2.2.1 hww.2.2.2.2.2.2.2.2.1 hww.2.2.2.2.2.2.2.2.2.1) (fun h hh => ⟨_, hh.1⟩) rfl rfl (Nat.le_of_ble_eq_true rfl) ⟨by decide, by decide, by decide, by decide⟩ dX5_lays_109 ⟨rfl, rfl⟩ ?_
                refine y_lsub (pc := 112) C dX5_lays_112 ?_
                refine y_lstore_n (pc := 113) (L' := [(3, _), (2, _), (1, _), (0, _)]) C dX5_lays_113 (by rw [hn]; decide) rfl ?_
                refine y_aload_n (pc := 114) C dX5_lays_114 3 rfl ?_
                refine y_joinB (pcj := 124) (P := fun q => q = decide (0 < netZ w i)) (fun v5 hv5 => ?_) (fun J5 => ?_)
                · skip
                  subst hv5
                  refine y_joinI (pcj := 136) (P := fun q => q = overZ w i ns) (fun v6 hv6 => ?_) (fun J6 => ?_)
                  · skip
                    subst hv6
                    refine y_iconst (pc := 136) C dX5_lays_136 ?_
                    refine y_callVv (pc := 137) (As := [_, _, _]) C E.2.1 cv_X5_191 (ci := 6) rfl rfl (mt_curtails i (decide (0 < netZ w i)) _ 3 hww.2.2.1 hc2 hwp (fun c hc => by have q := hww.2.2.2.2.2.2.2.1 c hc; unfold CuOk at q; omega) (by omega) (by omega)) (fun h hh => ⟨_, hh.1⟩) rfl rfl (Nat.le_of_ble_eq_true rfl) ⟨by decide, by decide, by decide, by decide⟩ dX5_lays_137 ⟨rfl, rfl⟩ ?_
                    exact y_vret (pc := 140) C E dX5_lays_140 (by decide) (by decide) (fun h hh => ⟨rfl, by rw [show laysZ σ i nl ns = plaC w i ns from by rw [hw, hs]; rfl, show plaC w i ns = cur (decide (0 < netZ w i)) 3 i w (overZ w i ns) from if_neg c85]; exact hh⟩)
                  · skip
                    refine y_lload_n (pc := 124) C dX5_lays_124 0 rfl ?_
                    refine y_lconst (pc := 125) (z := 0) C dX5_lays_125 (by decide) ?_
                    refine y_lcmp_le (pc := 126) (tgt := 135) C dX5_lays_126 dX5_lays_127 (by decide) (by omega) (by omega) (by omega) (by omega) (fun c126 => ?_) (fun c126 => ?_)
                    · skip
                      refine y_iconst (pc := 135) C dX5_lays_135 ?_
                      exact J6 _ (by unfold overZ; split <;> first | rfl | (exfalso; omega))
                    · skip
                      refine y_lload_n (pc := 130) C dX5_lays_130 0 rfl ?_
                      refine y_l2i (pc := 131) C dX5_lays_131 ?_
                      refine y_goto (pc := 132) (tgt := 136) C dX5_lays_132 (by decide) ?_
                      exact J6 _ (by unfold overZ; split <;> first | rfl | (exfalso; omega))
                · skip
                  refine y_iload_n (pc := 115) C dX5_lays_115 1 rfl ?_
                  refine y_if_le (pc := 116) (tgt := 123) C dX5_lays_116 (by decide) (by omega) (by omega) (fun c116 => ?_) (fun c116 => ?_)
                  · skip
                    refine y_iconst (pc := 123) C dX5_lays_123 ?_
                    first | exact J5 true (decide_eq_true (by omega)).symm | exact J5 false (decide_eq_false (by omega)).symm
                  · skip
                    refine y_iconst (pc := 119) C dX5_lays_119 ?_
                    refine y_goto (pc := 120) (tgt := 124) C dX5_lays_120 (by decide) ?_
                    first | exact J5 true (decide_eq_true (by omega)).symm | exact J5 false (decide_eq_false (by omega)).symm
              · skip
                refine y_iload_n (pc := 100) C dX5_lays_100 0 rfl ?_
                refine y_if_le (pc := 101) (tgt := 108) C dX5_lays_101 (by decide) (by omega) (by omega) (fun c101 => ?_) (fun c101 => ?_)
                · skip
                  refine y_iconst (pc := 108) C dX5_lays_108 ?_
                  first | exact J4 true (decide_eq_true (by omega)).symm | exact J4 false (decide_eq_false (by omega)).symm
                · skip
                  refine y_iconst (pc := 104) C dX5_lays_104 ?_
                  refine y_goto (pc := 105) (tgt := 109) C dX5_lays_105 (by decide) ?_
                  first | exact J4 true (decide_eq_true (by omega)).symm | exact J4 false (decide_eq_false (by omega)).symm
            · skip
              refine y_iload_n (pc := 88) C dX5_lays_88 0 rfl ?_
              refine y_if_le (pc := 89) (tgt := 96) C dX5_lays_89 (by decide) (by omega) (by omega) (fun c89 => ?_) (fun c89 => ?_)
              · skip
                refine y_iload_n (pc := 96) C dX5_lays_96 0 rfl ?_
                refine y_ineg (pc := 97) C dX5_lays_97 ?_
                exact J3 _ (by unfold absZ; split <;> first | rfl | (exfalso; omega))
              · skip
                refine y_iload_n (pc := 92) C dX5_lays_92 0 rfl ?_
                refine y_goto (pc := 93) (tgt := 98) C dX5_lays_93 (by decide) ?_
                exact J3 _ (by unfold absZ; split <;> first | rfl | (exfalso; omega))
        · skip
          refine y_iload_n (pc := 26) C dX5_lays_26 0 rfl ?_
          refine y_iconst (pc := 27) C dX5_lays_27 ?_
          refine y_icmp_eq (pc := 28) (tgt := 72) C dX5_lays_28 (by decide) (by omega) (by omega) (by omega) (by omega) (fun c28 => ?_) (fun c28 => ?_)
          · skip
            refine Y.sub [0, 1] rfl ?_
            refine Y.imp (fun h hh => ?_) J2
            rw [show lawC s i nl = s from if_pos c28]; exact hh
          · skip
            have h30 := hsl.2.2 (lawI s nl).toNat (by omega)
            refine y_aload_n (pc := 31) C dX5_lays_31 1 rfl ?_
            refine y_callV (pc := 32) (As := []) C E.2.1 cv_X5_183 (ci := 6) rfl rfl (mt_all _ hsw.2.2.1 hc2 his.2.2) (fun h hh => ⟨_, hh.1⟩) rfl rfl (Nat.le_of_ble_eq_true rfl) ⟨by decide, by decide, by decide, by decide⟩ dX5_lays_32 ⟨rfl, rfl⟩ ?_
            refine y_aload_n (pc := 35) C dX5_lays_35 1 rfl ?_
            refine y_get (pc := 36) C fg_X5_87 dX5_lays_36 (fun h hh => ⟨_, hh.1, rfl⟩) ?_
            refine y_iload_n (pc := 39) C dX5_lays_39 0 rfl ?_
            refine m_iald (pc := 40) C 30 (lawI s nl).toNat rfl (by omega) (by show _ < 20; omega) dX5_lays_40 ?_
            refine y_i2l (pc := 41) C dX5_lays_41 (by omega) (by omega) ?_
            refine y_lsub (pc := 42) C dX5_lays_42 ?_
            refine y_lstore_n (pc := 43) (L' := [(2, _), (1, _), (0, _)]) C dX5_lays_43 (by rw [hn]; decide) rfl ?_
            refine y_joinI (pcj := 56) (P := fun q => q = if sumZ (s 21) i - s 30 (lawI s nl).toNat < 0 then 0 else sumZ (s 21) i - s 30 (lawI s nl).toNat) (fun v7 hv7 => ?_) (fun J7 => ?_)
            · skip
              subst hv7
              refine y_istore (pc := 56) (L' := [(4, _), (2, _), (1, _), (0, _)]) C dX5_lays_56 (by rw [hn]; decide) rfl ?_
              refine y_aload_n (pc := 58) C dX5_lays_58 3 rfl ?_
              refine y_iconst (pc := 59) C dX5_lays_59 ?_
              refine y_aload_n (pc := 60) C dX5_lays_60 3 rfl ?_
              refine y_iconst (pc := 61) C dX5_lays_61 ?_
              refine y_callV (pc := 62) (As := [_]) C E.2.1 cv_X5_187 (ci := 6) rfl rfl (mt_sum _ false hsw.2.2.1 hc2) (fun h hh => ⟨_, hh.1⟩) rfl rfl (Nat.le_of_ble_eq_true rfl) ⟨by decide, by decide, by decide, by decide⟩ dX5_lays_62 ⟨rfl, rfl⟩ ?_
              show Y Ω κ _ hR _ _ _ _ (.int (iv (sumZ (s 37) i)) :: _)
              refine y_iload (pc := 65) C dX5_lays_65 0 rfl ?_
              refine y_isub (pc := 67) C dX5_lays_67 ?_
              refine y_iconst (pc := 68) C dX5_lays_68 ?_
              refine y_callVv (pc := 69) (As := [_, _, _]) C E.2.1 cv_X5_191 (ci := 6) rfl rfl (mt_curtails i false _ 2 hsw.2.2.1 hc2 hsp (fun c hc => by have q := hsw.2.2.2.2.2.2.2.1 c hc; unfold CuOk at q; omega) (by split <;> omega) (by omega)) (fun h hh => ⟨_, hh.1⟩) rfl rfl (Nat.le_of_ble_eq_true rfl) ⟨by decide, by decide, by decide, by decide⟩ dX5_lays_69 ⟨rfl, rfl⟩ ?_
              refine Y.sub [2, 3] rfl ?_
              refine Y.imp (fun h hh => ?_) J2
              rw [show lawC s i nl = cur false 2 i s (lawT s i nl) from if_neg c28]; exact hh
            · skip
              refine y_lload_n (pc := 44) C dX5_lays_44 0 rfl ?_
              refine y_lconst (pc := 45) (z := 0) C dX5_lays_45 (by decide) ?_
              refine y_lcmp_ge (pc := 46) (tgt := 54) C dX5_lays_46 dX5_lays_47 (by decide) (by omega) (by omega) (by omega) (by omega) (fun c46 => ?_) (fun c46 => ?_)
              · skip
                refine y_lload_n (pc := 54) C dX5_lays_54 0 rfl ?_
                refine y_l2i (pc := 55) C dX5_lays_55 ?_
                exact J7 _ (by split <;> first | rfl | (exfalso; omega))
              · skip
                refine y_iconst (pc := 50) C dX5_lays_50 ?_
                refine y_goto (pc := 51) (tgt := 56) C dX5_lays_51 (by decide) ?_
                exact J7 _ (by split <;> first | rfl | (exfalso; omega))
      · skip
        refine y_aload_n (pc := 10) C dX5_lays_10 1 rfl ?_
        refine y_iload_n (pc := 11) C dX5_lays_11 0 rfl ?_
        subst hz
        refine y_callVv (pc := 12) (As := [_]) C E.2.1 cv_X5_175 (ci := 6) rfl rfl (mt_laysFirst i nc (by omega) (by omega) (cu_c (fun f hf => layN_f (Or.inl hf)) (hcu i (by omega))) (nm_c (fun f hf => layN_f (Or.inl hf)) hnm)) (fun h hh => ⟨_, hh.1⟩) rfl rfl (Nat.le_of_ble_eq_true rfl) ⟨by decide, by decide, by decide, by decide⟩ dX5_lays_12 ⟨rfl, rfl⟩ ?_
        refine y_iinc (pc := 15) (L' := [(1, _), (0, _)]) C dX5_lays_15 0 rfl (by rw [hn]; decide) rfl ?_
        refine y_goto (pc := 18) (tgt := 2) C dX5_lays_18 (by decide) ?_
        refine Y.sub [0, 1] rfl ?_
        exact ih1 (i + 1) _ (by omega) (by omega) (by omega)
  refine Y.sub [0, 1] rfl ?_
  exact LP1 (nc + 1) 0 0 (by omega) (by omega) rfl

set_option maxRecDepth 20000 in
theorem mt_flows {Ω : OmT} {hR : AH} {M : Nat} {ma : Nat → Nat} {σ : ZT} {τ : JT} (ns nc nl : Nat) (hwf : Wf σ ns nc nl) (x : Int) (hx : -600000 ≤ x ∧ x ≤ 600000) : Ct Ω yX5_flows cX5_flows 5 none (rk 5) [.ref M, .int (iv x)] (InvM Ω M ma σ τ) hR (RU (InvM Ω M ma (flowsP x ns (σ, τ)).1 (flowsP x ns (σ, τ)).2)) NX := by
  refine Ct.of (own := RX5) (L := [(0, _), (1, _)]) (by decide +kernel) rfl (Nat.le_of_ble_eq_true rfl) rfl ?_
  intro κ C hn E hi
  have hwf0 := hwf
  obtain ⟨hs1, hs2, hc1, hc2, hlw, hnm, hst, hcu, hf1, hf2, hcm⟩ := hwf
  have hnow := hnm.2
  have hl2 := hlw.2.1
  have hab : 0 ≤ absZ x ∧ absZ x ≤ 600000 := by unfold absZ; split <;> omega
  refine y_iconst (pc := 0) C dX5_flows_0 ?_
  refine y_istore_n (pc := 1) (L' := [(2, _), (0, _), (1, _)]) C dX5_flows_1 (by rw [hn]; decide) rfl ?_
  have LP1 : ∀ (m1 : Nat) (i : Nat) (z : Int), (k1 : ns + 1 ≤ i + m1) → (k2 : i ≤ ns) → (hz : z = i) → Y Ω κ (InvM Ω M ma (rtN σ (decide (0 < x)) i) τ) hR 0 0 2 [(2, .int (iv z)), (0, .ref M), (1, .int (iv x))] [] := by
    intro m1
    induction m1 with
    | zero => intro i z k1 k2 hz; exfalso; omega
    | succ m1 ih1 =>
      intro i z k1 k2 hz
      have e2 : rtN σ (decide (0 < x)) i 2 0 = ns := by rw [rtN_f (by omega)]; exact hs1
      refine y_iload_n (pc := 2) C dX5_flows_2 0 rfl ?_
      refine y_aload_n (pc := 3) C dX5_flows_3 1 rfl ?_
      refine y_get (pc := 4) C fg_X5_105 dX5_flows_4 (fun h hh => ⟨_, hh.1, rfl⟩) ?_
      refine y_icmp_ge (pc := 7) (tgt := 36) C dX5_flows_7 (by decide) (by omega) (by omega) (by omega) (by omega) (fun c7 => ?_) (fun c7 => ?_)
      · skip
        have ei : i = ns := by omega
        refine y_joinI (pcj := 46) (P := fun q => q = absZ x) (fun v2 hv2 => ?_) (fun J2 => ?_)
        · skip
          subst hv2
          refine y_istore_n (pc := 46) (L' := [(2, _), (0, _), (1, _)]) C dX5_flows_46 (by rw [hn]; decide) rfl ?_
          refine y_aload_n (pc := 47) C dX5_flows_47 1 rfl ?_
          refine y_dup (pc := 48) C dX5_flows_48 rfl ?_
          refine y_get (pc := 49) C fg_X5_136 dX5_flows_49 (fun h hh => ⟨_, hh.1, rfl⟩) ?_
          refine y_joinL (pcj := 62) (P := fun q => q = if 0 < x then absZ x else 0) (fun v3 hv3 => ?_) (fun J3 => ?_)
          · skip
            subst hv3
            refine y_laddR (pc := 62) C dX5_flows_62 ?_
            refine m_putJ (pc := 63) C 33 rfl fp_X5_136 dX5_flows_63 ?_
            refine y_aload_n (pc := 66) C dX5_flows_66 1 rfl ?_
            refine y_dup (pc := 67) C dX5_flows_67 rfl ?_
            refine y_get (pc := 68) C fg_X5_206 dX5_flows_68 (fun h hh => ⟨_, hh.1, rfl⟩) ?_
            refine y_joinL (pcj := 81) (P := fun q => q = if 0 < x then 0 else absZ x) (fun v4 hv4 => ?_) (fun J4 => ?_)
            · skip
              subst hv4
              refine y_laddR (pc := 81) C dX5_flows_81 ?_
              refine m_putJ (pc := 82) C 34 rfl fp_X5_206 dX5_flows_82 ?_
              refine y_iconst (pc := 85) C dX5_flows_85 ?_
              refine y_istore_n (pc := 86) (L' := [(3, _), (2, _), (0, _), (1, _)]) C dX5_flows_86 (by rw [hn]; decide) rfl ?_
              obtain ⟨P, hP⟩ : ∃ P, P = wentP x (rtN σ (decide (0 < x)) ns, τ) := ⟨_, rfl⟩
              have hP14 : ∀ j, j < ns → 0 ≤ P.1 14 j ∧ P.1 14 j ≤ 1000000 := fun j hj => by have q := rate_b (b := decide (0 < x)) (hst j hj); rw [hP]; show 0 ≤ rtN _ _ _ 14 j ∧ rtN _ _ _ 14 j ≤ _; rw [rtN_v.1 hj]; omega
              have hPf : ∀ f, f ≠ 14 → P.1 f = σ f := fun f hf => by rw [hP]; exact rtN_f hf
              have LP5 : ∀ (m5 : Nat) (i : Nat) (z r : Int) (w : ZT) (v : JT), (k1 : ns + 1 ≤ i + m5) → (k2 : i ≤ ns) → (hz : z = i) → (hw : ((w, v), r) = flP (decide (0 < x)) P (absZ x) i) → Y Ω κ (InvM Ω M ma w v) hR 0 0 87 [(3, .int (iv z)), (2, .int (iv r)), (0, .ref M), (1, .int (iv x))] [] := by
                intro m5
                induction m5 with
                | zero => intro i z r w v k1 k2 hz hw; exfalso; omega
                | succ m5 ih5 =>
                  intro i z r w v k1 k2 hz hw
                  have hwr := flP_r (b := decide (0 < x)) (p := P) (r := absZ x) (n := i) (by omega) (fun j hj => (hP14 j (by omega)).1)
                  rw [← hw] at hwr
                  have hr9 : 0 ≤ r ∧ r ≤ 600000 := ⟨hwr.1, by have := hwr.2.1; omega⟩
                  have hwf9 : ∀ f, f ≠ 6 → w f = P.1 f := fun f hf => by have q := flP_f (b := decide (0 < x)) (p := P) (r := absZ x) (n := i) (f := f) hf; rw [← hw] at q; exact q
                  have hw6 : w 6 i = P.1 6 i := by have q := flP_6 (b := decide (0 < x)) (p := P) (r := absZ x) (n := i) (j := i) (Nat.le_refl _); rw [← hw] at q; exact q
                  have e2 : w 2 0 = ns := by rw [hwf9 2 (by omega), hPf 2 (by omega)]; exact hs1
                  refine y_iload_n (pc := 87) C dX5_flows_87 0 rfl ?_
                  refine y_aload_n (pc := 88) C dX5_flows_88 2 rfl ?_
                  refine y_get (pc := 89) C fg_X5_105 dX5_flows_89 (fun h hh => ⟨_, hh.1, rfl⟩) ?_
                  refine y_icmp_ge (pc := 92) (tgt := 139) C dX5_flows_92 (by decide) (by omega) (by omega) (by omega) (by omega) (fun c92 => ?_) (fun c92 => ?_)
                  · skip
                    have ei : ns = i := by omega
                    subst ei
                    exact y_vret (pc := 139) C E dX5_flows_139 (by decide) (by decide) (fun h hh => ⟨rfl, by rw [show flowsP x ns (σ, τ) = (w, v) from by unfold flowsP; rw [← hP, ← hw]]; exact hh⟩)
                  · skip
                    have h14 := hP14 i (by omega)
                    have h14w : w 14 i = P.1 14 i := by rw [hwf9 14 (by omega)]
                    have h15w : w 15 0 = σ 15 0 := by rw [hwf9 15 (by omega), hPf 15 (by omega)]
                    have h6w : w 6 i = σ 6 i := by rw [hw6, hPf 6 (by omega)]
                    have hst9 := (hst i (by omega)).1
                    unfold StO0 at hst9
                    subst hz
                    refine y_iload_n (pc := 95) C dX5_flows_95 1 rfl ?_
                    refine y_aload_n (pc := 96) C dX5_flows_96 2 rfl ?_
                    refine y_get (pc := 97) C fg_X5_44 dX5_flows_97 (fun h hh => ⟨_, hh.1, rfl⟩) ?_
                    refine y_iload_n (pc := 100) C dX5_flows_100 0 rfl ?_
                    refine m_iald (pc := 101) C 14 i rfl rfl (by show _ < 5; omega) dX5_flows_101 ?_
                    refine y_callS (pc := 102) (As := [_, _]) C E.2.1 cs_X5_162 (mt_lesser _ _ ⟨by omega, by omega⟩ ⟨by omega, by omega⟩) rfl rfl (Nat.le_of_ble_eq_true rfl) ⟨by decide, by decide, by decide, by decide⟩ dX5_flows_102 ⟨rfl, rfl⟩ ?_
                    refine y_istore (pc := 105) (L' := [(4, _), (3, _), (2, _), (0, _), (1, _)]) C dX5_flows_105 (by rw [hn]; decide) rfl ?_
                    refine y_iload_n (pc := 107) C dX5_flows_107 4 rfl ?_
                    refine y_if_le (pc := 108) (tgt := 121) C dX5_flows_108 (by decide) (by omega) (by omega) (fun c108 => ?_) (fun c108 => ?_)
                    · skip
                      refine y_aload_n (pc := 121) C dX5_flows_121 3 rfl ?_
                      refine y_iload_n (pc := 122) C dX5_flows_122 1 rfl ?_
                      refine y_iload (pc := 123) C dX5_flows_123 0 rfl ?_
                      refine y_callVv (pc := 125) (As := [_, _]) C E.2.1 cv_X5_199 (ci := 6) rfl rfl (mt_loses _ _ (by omega) ⟨by omega, by omega⟩ ⟨by omega, by omega⟩) (fun h hh => ⟨_, hh.1⟩) rfl rfl (Nat.le_of_ble_eq_true rfl) ⟨by decide, by decide, by decide, by decide⟩ dX5_flows_125 ⟨rfl, rfl⟩ ?_
                      have hb9 : decide (0 < x) = false := decide_eq_false (by omega)
                      refine y_iload_n (pc := 128) C dX5_flows_128 2 rfl ?_
                      refine y_iload (pc := 129) C dX5_flows_129 0 rfl ?_
                      refine y_isub (pc := 131) C dX5_flows_131 ?_
                      refine y_istore_n (pc := 132) (L' := [(2, _), (4, _), (3, _), (0, _), (1, _)]) C dX5_flows_132 (by rw [hn]; decide) rfl ?_
                      refine y_iinc (pc := 133) (L' := [(3, _), (2, _), (4, _), (0, _), (1, _)]) C dX5_flows_133 2 rfl (by rw [hn]; decide) rfl ?_
                      refine y_goto (pc := 136) (tgt := 87) C dX5_flows_136 (by decide) ?_
                      refine Y.sub [0, 1, 3, 4] rfl ?_
                      exact ih5 (i + 1) _ _ _ _ (by omega) (by omega) (by omega) (by unfold flP; rw [← hw, hb9]; rfl)
                    · skip
                      refine y_aload_n (pc := 111) C dX5_flows_111 3 rfl ?_
                      refine y_iload_n (pc := 112) C dX5_flows_112 1 rfl ?_
                      refine y_iload (pc := 113) C dX5_flows_113 0 rfl ?_
                      refine y_callVv (pc := 115) (As := [_, _]) C E.2.1 cv_X5_209 (ci := 6) rfl rfl (mt_gets _ _ (by omega) ⟨by omega, by omega⟩ ⟨by omega, by omega⟩) (fun h hh => ⟨_, hh.1⟩) rfl rfl (Nat.le_of_ble_eq_true rfl) ⟨by decide, by decide, by decide, by decide⟩ dX5_flows_115 ⟨rfl, rfl⟩ ?_
                      have hb9 : decide (0 < x) = true := decide_eq_true (by omega)
                      refine y_goto (pc := 118) (tgt := 128) C dX5_flows_118 (by decide) ?_
                      refine y_iload_n (pc := 128) C dX5_flows_128 2 rfl ?_
                      refine y_iload (pc := 129) C dX5_flows_129 0 rfl ?_
                      refine y_isub (pc := 131) C dX5_flows_131 ?_
                      refine y_istore_n (pc := 132) (L' := [(2, _), (4, _), (3, _), (0, _), (1, _)]) C dX5_flows_132 (by rw [hn]; decide) rfl ?_
                      refine y_iinc (pc := 133) (L' := [(3, _), (2, _), (4, _), (0, _), (1, _)]) C dX5_flows_133 2 rfl (by rw [hn]; decide) rfl ?_
                      refine y_goto (pc := 136) (tgt := 87) C dX5_flows_136 (by decide) ?_
                      refine Y.sub [0, 1, 3, 4] rfl ?_
                      exact ih5 (i + 1) _ _ _ _ (by omega) (by omega) (by omega) (by unfold flP; rw [← hw, hb9]; rfl)
              refine Y.sub [0, 1, 2, 3] rfl ?_
              exact LP5 (ns + 1) 0 0 _ _ _ (by omega) (by omega) rfl (by rw [hP, ← ei]; rfl)
            · skip
              refine y_iload_n (pc := 71) C dX5_flows_71 2 rfl ?_
              refine y_if_le (pc := 72) (tgt := 79) C dX5_flows_72 (by decide) (by omega) (by omega) (fun c72 => ?_) (fun c72 => ?_)
              · skip
                refine y_iload_n (pc := 79) C dX5_flows_79 0 rfl ?_
                refine y_i2l (pc := 80) C dX5_flows_80 (by omega) (by omega) ?_
                exact J4 _ (by split <;> first | rfl | (exfalso; omega))
              · skip
                refine y_lconst (pc := 75) (z := 0) C dX5_flows_75 (by decide) ?_
                refine y_goto (pc := 76) (tgt := 81) C dX5_flows_76 (by decide) ?_
                exact J4 _ (by split <;> first | rfl | (exfalso; omega))
          · skip
            refine y_iload_n (pc := 52) C dX5_flows_52 2 rfl ?_
            refine y_if_le (pc := 53) (tgt := 61) C dX5_flows_53 (by decide) (by omega) (by omega) (fun c53 => ?_) (fun c53 => ?_)
            · skip
              refine y_lconst (pc := 61) (z := 0) C dX5_flows_61 (by decide) ?_
              exact J3 _ (by split <;> first | rfl | (exfalso; omega))
            · skip
              refine y_iload_n (pc := 56) C dX5_flows_56 0 rfl ?_
              refine y_i2l (pc := 57) C dX5_flows_57 (by omega) (by omega) ?_
              refine y_goto (pc := 58) (tgt := 62) C dX5_flows_58 (by decide) ?_
              exact J3 _ (by split <;> first | rfl | (exfalso; omega))
        · skip
          have ei : i = ns := by omega
          refine y_iload_n (pc := 36) C dX5_flows_36 2 rfl ?_
          refine y_if_le (pc := 37) (tgt := 44) C dX5_flows_37 (by decide) (by omega) (by omega) (fun c37 => ?_) (fun c37 => ?_)
          · skip
            refine y_iload_n (pc := 44) C dX5_flows_44 2 rfl ?_
            refine y_ineg (pc := 45) C dX5_flows_45 ?_
            exact J2 _ (by unfold absZ; split <;> first | rfl | (exfalso; omega))
          · skip
            refine y_iload_n (pc := 40) C dX5_flows_40 2 rfl ?_
            refine y_goto (pc := 41) (tgt := 46) C dX5_flows_41 (by decide) ?_
            exact J2 _ (by unfold absZ; split <;> first | rfl | (exfalso; omega))
      · skip
        subst hz
        refine y_aload_n (pc := 10) C dX5_flows_10 1 rfl ?_
        refine y_get (pc := 11) C fg_X5_44 dX5_flows_11 (fun h hh => ⟨_, hh.1, rfl⟩) ?_
        refine y_iload_n (pc := 14) C dX5_flows_14 0 rfl ?_
        refine y_aload_n (pc := 15) C dX5_flows_15 1 rfl ?_
        refine y_iload_n (pc := 16) C dX5_flows_16 0 rfl ?_
        refine y_joinB (pcj := 26) (P := fun q => q = decide (0 < x)) (fun v6 hv6 => ?_) (fun J6 => ?_)
        · skip
          subst hv6
          refine y_callV (pc := 26) (As := [_, _]) C E.2.1 cv_X5_143 (ci := 6) rfl rfl (mt_rateOf i _ (by omega) (st_c (fun f hf => by rw [rtN_f (by omega)]) (hst i (by omega)))) (fun h hh => ⟨_, hh.1⟩) rfl rfl (Nat.le_of_ble_eq_true rfl) ⟨by decide, by decide, by decide, by decide⟩ dX5_flows_26 ⟨rfl, rfl⟩ ?_
          rw [show rateZ (rtN σ (decide (0 < x)) i) i (decide (0 < x)) = rateZ σ i (decide (0 < x)) from rate_c (fun f hf => by rw [rtN_f (by intro e; subst e; revert hf; decide)])]
          refine m_iast (pc := 29) C 14 i rfl rfl (by show _ < 5; omega) dX5_flows_29 ?_
          refine y_iinc (pc := 30) (L' := [(2, _), (0, _), (1, _)]) C dX5_flows_30 0 rfl (by rw [hn]; decide) rfl ?_
          refine y_goto (pc := 33) (tgt := 2) C dX5_flows_33 (by decide) ?_
          refine Y.sub [0, 1, 2] rfl ?_
          exact ih1 (i + 1) _ (by omega) (by omega) (by omega)
        · skip
          refine y_iload_n (pc := 17) C dX5_flows_17 2 rfl ?_
          refine y_if_le (pc := 18) (tgt := 25) C dX5_flows_18 (by decide) (by omega) (by omega) (fun c18 => ?_) (fun c18 => ?_)
          · skip
            refine y_iconst (pc := 25) C dX5_flows_25 ?_
            first | exact J6 true (decide_eq_true (by omega)).symm | exact J6 false (decide_eq_false (by omega)).symm
          · skip
            refine y_iconst (pc := 21) C dX5_flows_21 ?_
            refine y_goto (pc := 22) (tgt := 26) C dX5_flows_22 (by decide) ?_
            first | exact J6 true (decide_eq_true (by omega)).symm | exact J6 false (decide_eq_false (by omega)).symm
  refine Y.sub [0, 1, 2] rfl ?_
  exact LP1 (ns + 1) 0 0 (by omega) (by omega) rfl
