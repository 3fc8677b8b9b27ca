set_option maxRecDepth 20000 in
theorem mg_planTheHour {Ω : OmT} {hR : AH} {lay : Nat → Nat → Nat} {ξ : XiT} {ms ns nc nl : Nat} {σ : ZT} {τ : JT} (hwf : Wf σ ns nc nl) (hms : ns ≤ ms) (hf : FlOk ξ σ) : Ct Ω yX4_planTheHour cX4_planTheHour 3 none (rk 6) [.ref (lay 0 0)] (InvC Ω lay ms ns nc nl ξ σ τ) hR (RU (InvC Ω lay ms ns nc nl ξ (laysZ σ nc nl ns) (τ))) NX := by
  refine Ct.of (own := RX4) (L := [(0, _)]) (by decide +kernel) rfl (Nat.le_of_ble_eq_true rfl) rfl ?_
  intro κ C hn E hi
  have hs2 := hwf.2.1
  have hc2 := hwf.2.2.2.1
  have hl2 := hwf.2.2.2.2.1.2.1
  have hnow := hwf.2.2.2.2.2.1.2
  have hst := hwf.2.2.2.2.2.2.1
  have hcu := hwf.2.2.2.2.2.2.2.1
  refine y_iconst (pc := 0) C dX4_planTheHour_0 ?_
  refine y_istore_n (pc := 1) (L' := [(1, _), (0, _)]) C dX4_planTheHour_1 (by rw [hn]; decide) rfl ?_
  have LP1 : ∀ (m1 : Nat) (i : Nat) (z : Int), (k1 : nc + 1 ≤ i + m1) → (k2 : i ≤ nc) → (hz : z = i) → Y Ω κ (InvC Ω lay ms ns nc nl ξ (layN σ i) (τ)) hR 0 0 2 [(1, .int (iv z)), (0, .ref (lay 0 0))] [] := by
    intro m1
    induction m1 with
    | zero => intro i z k1 k2 hz; exfalso; omega
    | succ m1 ih1 =>
      intro i z k1 k2 hz
      refine y_iload_n (pc := 2) C dX4_planTheHour_2 0 rfl ?_
      refine y_aload_n (pc := 3) C dX4_planTheHour_3 1 rfl ?_
      refine y_get (pc := 4) C fg_X4_16 dX4_planTheHour_4 (fun h hh => ⟨_, hh.gas, rfl⟩) ?_
      refine y_callV (pc := 7) (As := []) C E.2.1 cv_X4_74 (ci := 0) rfl rfl (mc_size (lay 0 2) (lay 6 2) nc (lay 2) (by omega) (fun h hh => hh.li2)) (fun h hh => hh.li2.obj) rfl rfl (Nat.le_of_ble_eq_true rfl) ⟨by decide, by decide, by decide, by decide⟩ dX4_planTheHour_7 ⟨rfl, rfl⟩ ?_
      refine y_icmp_ge (pc := 10) (tgt := 37) C dX4_planTheHour_10 (by decide) (by omega) (by omega) (by omega) (by omega) (fun c10 => ?_) (fun c10 => ?_)
      · skip
        have ei : i = nc := by omega
        rw [ei]
        obtain ⟨s, hs⟩ : ∃ s, s = layN σ nc := ⟨_, rfl⟩
        rw [← hs]
        have hsf : ∀ f, f < 36 ∨ 39 < f → s f = σ f := fun f hf => by rw [hs]; exact layN_f hf
        have hsp : PlOk s nc := by rw [hs]; exact layN_ok hcu
        have hsw : Wf s ns nc nl := wf_c (fun f hf => hsf f (Or.inl hf)) hwf
        have his := inv_sum (σ := s) (n := nc) hsw.2.2.2.2.2.2.2.1 hc2
        have hps := pl_sums hsp hc2
        have hlb := lawI_b (σ := s) (n := nl)
        have hla : -20000000 ≤ lawA s nc nl ∧ lawA s nc nl ≤ 20000000 := by
          unfold lawA lawT
          split
          · omega
          · have h30 := hsw.2.2.2.2.1.2.2 (lawI s nl).toNat (by omega)
            split <;> omega
        refine y_aload_n (pc := 37) C dX4_planTheHour_37 1 rfl ?_
        refine y_iconst (pc := 38) C dX4_planTheHour_38 ?_
        refine y_aload_n (pc := 39) C dX4_planTheHour_39 1 rfl ?_
        refine y_callV (pc := 40) (As := []) C E.2.1 cv_X4_275 (ci := 5) rfl rfl (mg_plannedAboveTheLaw hsw hms hsp) (fun h hh => ⟨_, hh.gas⟩) rfl rfl (Nat.le_of_ble_eq_true rfl) ⟨by decide, by decide, by decide, by decide⟩ dX4_planTheHour_40 ⟨rfl, rfl⟩ ?_
        refine y_iconst (pc := 43) C dX4_planTheHour_43 ?_
        refine y_callVv (pc := 44) (As := [_, _, _]) C E.2.1 cv_X4_278 (ci := 5) rfl rfl (mg_curtail false (lawA s nc nl) 2 hc2 hsp (fun c hc => by have q := hsw.2.2.2.2.2.2.2.1 c hc; unfold CuOk at q; omega) (by omega) (by omega)) (fun h hh => ⟨_, hh.gas⟩) rfl rfl (Nat.le_of_ble_eq_true rfl) ⟨by decide, by decide, by decide, by decide⟩ dX4_planTheHour_44 ⟨rfl, rfl⟩ ?_
        rw [← lawC_A]
        obtain ⟨w, hw⟩ : ∃ w, w = lawC s nc nl := ⟨_, rfl⟩
        rw [← hw]
        have hwf9 : ∀ f, f < 36 ∨ 39 < f → w f = σ f := fun f hf => by rw [hw, lawC_f hf]; exact hsf f hf
        have hwp : PlOk w nc := by rw [hw]; exact lawC_ok hsp
        have hww : Wf w ns nc nl := wf_c (fun f hf => hwf9 f (Or.inl hf)) hwf
        have hwps := pl_sums hwp hc2
        have hcb : ∀ b, 0 ≤ canZ w ns b ∧ canZ w ns b ≤ 5000000 := fun b => can_b hww.2.2.2.2.2.2.1 hs2
        have hcb0 := hcb (decide (0 < netZ w nc))
        have hnz : -600000 ≤ netZ w nc ∧ netZ w nc ≤ 600000 := by unfold netZ; omega
        have hab : 0 ≤ absZ (netZ w nc) ∧ absZ (netZ w nc) ≤ 600000 := by unfold absZ; split <;> omega
        refine y_aload_n (pc := 47) C dX4_planTheHour_47 1 rfl ?_
        refine y_callV (pc := 48) (As := []) C E.2.1 cv_X4_282 (ci := 5) rfl rfl (mg_plannedNet hww hms) (fun h hh => ⟨_, hh.gas⟩) rfl rfl (Nat.le_of_ble_eq_true rfl) ⟨by decide, by decide, by decide, by decide⟩ dX4_planTheHour_48 ⟨rfl, rfl⟩ ?_
        refine y_istore_n (pc := 51) (L' := [(1, _), (0, _)]) C dX4_planTheHour_51 (by rw [hn]; decide) rfl ?_
        refine y_joinB (pcj := 61) (P := fun q => q = decide (0 < netZ w nc)) (fun v2 hv2 => ?_) (fun J2 => ?_)
        · skip
          subst hv2
          refine y_istore_n (pc := 61) (L' := [(2, _), (1, _), (0, _)]) C dX4_planTheHour_61 (by rw [hn]; decide) rfl ?_
          refine y_aload_n (pc := 62) C dX4_planTheHour_62 2 rfl ?_
          refine y_iload_n (pc := 63) C dX4_planTheHour_63 0 rfl ?_
          refine y_iload_n (pc := 64) C dX4_planTheHour_64 1 rfl ?_
          refine y_abs (pc := 65) C E.2.1 cs_X4_285.1 cs_X4_285.2.1 cs_X4_285.2.2.1 cs_X4_285.2.2.2.1 (by decide) (Nat.le_of_ble_eq_true rfl) (by decide) (by decide) (by omega) (by omega) dX4_planTheHour_65 ?_
          rw [show (if 0 ≤ netZ w nc then netZ w nc else -netZ w nc) = absZ (netZ w nc) by unfold absZ; split <;> split <;> omega]
          refine y_aload_n (pc := 68) C dX4_planTheHour_68 2 rfl ?_
          refine y_iload_n (pc := 69) C dX4_planTheHour_69 0 rfl ?_
          refine y_callV (pc := 70) (As := [_]) C E.2.1 cv_X4_288 (ci := 5) rfl rfl (mg_capacityOfPlant hww hms (decide (0 < netZ w nc)) (fl_c (fun f hf9 => by rw [hwf9 f (by simp only [List.mem_cons, List.not_mem_nil, or_false] at hf9; omega)]) hf)) (fun h hh => ⟨_, hh.gas⟩) rfl rfl (Nat.le_of_ble_eq_true rfl) ⟨by decide, by decide, by decide, by decide⟩ dX4_planTheHour_70 ⟨rfl, rfl⟩ ?_
          refine y_isub (pc := 73) C dX4_planTheHour_73 ?_
          refine y_iconst (pc := 74) C dX4_planTheHour_74 ?_
          refine y_callVv (pc := 75) (As := [_, _, _]) C E.2.1 cv_X4_278 (ci := 5) rfl rfl (mg_curtail (decide (0 < netZ w nc)) _ 3 hc2 hwp (fun c hc => by have q := hww.2.2.2.2.2.2.2.1 c hc; unfold CuOk at q; omega) (by omega) (by omega)) (fun h hh => ⟨_, hh.gas⟩) rfl rfl (Nat.le_of_ble_eq_true rfl) ⟨by decide, by decide, by decide, by decide⟩ dX4_planTheHour_75 ⟨rfl, rfl⟩ ?_
          rw [← plaC_A hcb0.1]
          exact y_vret (pc := 78) C E dX4_planTheHour_78 (by decide) (by decide) (fun h hh => ⟨rfl, by rw [show laysZ σ nc nl ns = plaC w nc ns from by rw [hw, hs]; rfl]; exact hh⟩)
        · skip
          refine y_iload_n (pc := 52) C dX4_planTheHour_52 0 rfl ?_
          refine y_if_le (pc := 53) (tgt := 60) C dX4_planTheHour_53 (by decide) (by omega) (by omega) (fun c53 => ?_) (fun c53 => ?_)
          · skip
            refine y_iconst (pc := 60) C dX4_planTheHour_60 ?_
            first | exact J2 true (decide_eq_true (by omega)).symm | exact J2 false (decide_eq_false (by omega)).symm
          · skip
            refine y_iconst (pc := 56) C dX4_planTheHour_56 ?_
            refine y_goto (pc := 57) (tgt := 61) C dX4_planTheHour_57 (by decide) ?_
            first | exact J2 true (decide_eq_true (by omega)).symm | exact J2 false (decide_eq_false (by omega)).symm
      · skip
        subst hz
        have hi9 : i < nc := by omega
        refine y_aload_n (pc := 13) C dX4_planTheHour_13 1 rfl ?_
        refine y_get (pc := 14) C fg_X4_16 dX4_planTheHour_14 (fun h hh => ⟨_, hh.gas, rfl⟩) ?_
        refine y_iload_n (pc := 17) C dX4_planTheHour_17 0 rfl ?_
        refine y_callV (pc := 18) (As := [_]) C E.2.1 cv_X4_256 (ci := 0) rfl rfl (mc_get (lay 0 2) (lay 6 2) nc (lay 2) (by omega) (fun h hh => hh.li2) i hi9) (fun h hh => hh.li2.obj) rfl rfl (Nat.le_of_ble_eq_true rfl) ⟨by decide, by decide, by decide, by decide⟩ dX4_planTheHour_18 ⟨rfl, rfl⟩ ?_
        refine y_cast (pc := 21) C (ci := 1) (qc := (RX0, TX0, 12)) rfl aw_1_131 dX4_planTheHour_21 (fun h hh => ⟨_, hh.cus hi9⟩) ?_
        refine y_aload_n (pc := 24) C dX4_planTheHour_24 1 rfl ?_
        refine y_get (pc := 25) C fg_X4_29 dX4_planTheHour_25 (fun h hh => ⟨_, hh.gas, rfl⟩) ?_
        refine y_callVv (pc := 28) (As := [_]) C E.2.1 cv_X4_271 (ci := 1) rfl rfl (mc_planByRates i hi9 (cu_c (fun f hf => layN_f (Or.inl hf)) (hcu i hi9)) (nm_c (fun f hf => layN_f (Or.inl hf)) hwf.2.2.2.2.2.1)) (fun h hh => ⟨_, hh.cus hi9⟩) rfl rfl (Nat.le_of_ble_eq_true rfl) ⟨by decide, by decide, by decide, by decide⟩ dX4_planTheHour_28 ⟨rfl, rfl⟩ ?_
        refine y_iinc (pc := 31) (L' := [(1, _), (0, _)]) C dX4_planTheHour_31 0 rfl (by rw [hn]; decide) rfl ?_
        refine y_goto (pc := 34) (tgt := 2) C dX4_planTheHour_34 (by decide) ?_
        refine Y.sub [0, 1] rfl ?_
        exact ih1 (i + 1) _ (by omega) (by omega) (by omega)
  refine Y.sub [0, 1] rfl ?_
  exact LP1 (nc + 1) 0 0 (by omega) (by omega) rfl

set_option maxRecDepth 20000 in
theorem mg_flowIn {Ω : OmT} {hR : AH} {lay : Nat → Nat → Nat} {ξ : XiT} {ms ns nc nl : Nat} {σ : ZT} {τ : JT} (hwf : Wf σ ns nc nl) (hms : ns ≤ ms) (u : Int) (hu : 0 < u ∧ u ≤ 600000) (hcap : u ≤ sumZ (fun k => rateZ σ k true) ns) : Ct Ω yX4_flowIn cX4_flowIn 6 none (rk 5) [.ref (lay 0 0), .int (iv u)] (InvC Ω lay ms ns nc nl ξ σ τ) hR (RU (InvC Ω lay ms ns nc nl (xfo ξ 6 (σ 1 0)) ((flowsP (u) ns (σ, τ)).1) ((flowsP (u) ns (σ, τ)).2))) NX := by
  refine Ct.of (own := RX4) (L := [(0, _), (1, _)]) (by decide +kernel) rfl (Nat.le_of_ble_eq_true rfl) rfl ?_
  intro κ C hn E hi
  have hs2 := hwf.2.1
  have hc2 := hwf.2.2.2.1
  have hl2 := hwf.2.2.2.2.1.2.1
  have hnow := hwf.2.2.2.2.2.1.2
  have hst := hwf.2.2.2.2.2.2.1
  have hcu := hwf.2.2.2.2.2.2.2.1
  obtain ⟨P, hP⟩ : ∃ P, P = wentP (u) (rtN σ true ns, τ) := ⟨_, rfl⟩
  have hP14 : ∀ j, j < ns → 0 ≤ P.1 14 j ∧ P.1 14 j ≤ 1000000 := fun j hj => by have q := rate_b (b := true) (hst j hj); rw [hP]; show 0 ≤ rtN _ _ _ 14 j ∧ rtN _ _ _ 14 j ≤ _; rw [rtN_v.1 hj]; omega
  have hPf : ∀ f, f ≠ 14 → P.1 f = σ f := fun f hf => by rw [hP]; exact rtN_f hf
  refine y_iload_n (pc := 0) C dX4_flowIn_0 1 rfl ?_
  refine y_istore_n (pc := 1) (L' := [(2, _), (0, _), (1, _)]) C dX4_flowIn_1 (by rw [hn]; decide) rfl ?_
  refine y_iconst (pc := 2) C dX4_flowIn_2 ?_
  refine y_istore_n (pc := 3) (L' := [(3, _), (2, _), (0, _), (1, _)]) C dX4_flowIn_3 (by rw [hn]; decide) rfl ?_
  refine Y.imp (Φ' := InvC Ω lay ms ns nc nl ξ (P.1) (unw τ P.2)) (fun h hh => hh.c (fun f hf9 => by rw [hPf f (by intro e; subst e; revert hf9; decide)]) (fun c hc => by rw [hPf 36 (by omega), hPf 37 (by omega)]) (fun f => by rw [hP, unw_w])) ?_
  have LP1 : ∀ (m1 : Nat) (i : Nat) (z r : Int) (w : ZT) (v : JT), (k1 : ns + 1 ≤ i + m1) → (k2 : i ≤ ns) → (hz : z = i) → (hw : ((w, v), r) = flP true P u i) → Y Ω κ (InvC Ω lay ms ns nc nl ξ (w) (unw τ v)) hR 0 0 4 [(3, .int (iv z)), (2, .int (iv r)), (0, .ref (lay 0 0)), (1, .int (iv u))] [] := by
    intro m1
    induction m1 with
    | zero => intro i z r w v k1 k2 hz hw; exfalso; omega
    | succ m1 ih1 =>
      intro i z r w v k1 k2 hz hw
      have hwr := flP_r (b := true) (p := P) (r := u) (n := i) (by omega) (fun j hj => (hP14 j (by omega)).1)
      rw [← hw] at hwr
      have hr9 : 0 ≤ r ∧ r ≤ 600000 := ⟨hwr.1, by have := hwr.2.1; omega⟩
      have hwf9 : ∀ f, f ≠ 6 → w f = P.1 f := fun f hf => by have q := flP_f (b := true) (p := P) (r := u) (n := i) (f := f) hf; rw [← hw] at q; exact q
      have hw6 : w 6 i = P.1 6 i := by have q := flP_6 (b := true) (p := P) (r := u) (n := i) (j := i) (Nat.le_refl _); rw [← hw] at q; exact q
      have hvf : ∀ f, f ≠ 13 → v f = P.2 f := fun f hf => by have q := flP_t (b := true) (p := P) (r := u) (n := i) (f := f) hf; rw [← hw] at q; exact q
      refine y_iload_n (pc := 4) C dX4_flowIn_4 0 rfl ?_
      refine y_aload_n (pc := 5) C dX4_flowIn_5 2 rfl ?_
      refine y_get (pc := 6) C fg_X4_10 dX4_flowIn_6 (fun h hh => ⟨_, hh.gas, rfl⟩) ?_
      refine y_callV (pc := 9) (As := []) C E.2.1 cv_X4_74 (ci := 0) rfl rfl (mc_size (lay 0 1) (lay 6 1) ns (lay 1) (by omega) (fun h hh => hh.li1)) (fun h hh => hh.li1.obj) rfl rfl (Nat.le_of_ble_eq_true rfl) ⟨by decide, by decide, by decide, by decide⟩ dX4_flowIn_9 ⟨rfl, rfl⟩ ?_
      refine y_icmp_ge (pc := 12) (tgt := 61) C dX4_flowIn_12 (by decide) (by omega) (by omega) (by omega) (by omega) (fun c12 => ?_) (fun c12 => ?_)
      · skip
        have ei : i = ns := by omega
        have hsum : sumZ (P.1 14) ns = sumZ (fun k => rateZ σ k true) ns := sumZ_c (fun j hj => by rw [hP]; exact rtN_v.1 hj)
        have hr0 : r = 0 := by have q := hwr.2.2; rw [ei, hsum] at q; split at q <;> omega
        have e1w : w 1 0 = σ 1 0 := by rw [hwf9 1 (by omega), hPf 1 (by omega)]
        refine y_aload_n (pc := 61) C dX4_flowIn_61 2 rfl ?_
        refine y_dup (pc := 62) C dX4_flowIn_62 rfl ?_
        refine y_get (pc := 63) C fg_X4_42 dX4_flowIn_63 (fun h hh => ⟨_, hh.gas, rfl⟩) ?_
        refine y_iload_n (pc := 66) C dX4_flowIn_66 3 rfl ?_
        refine y_iload_n (pc := 67) C dX4_flowIn_67 1 rfl ?_
        refine y_isub (pc := 68) C dX4_flowIn_68 ?_
        refine y_i2l (pc := 69) C dX4_flowIn_69 (by omega) (by omega) ?_
        refine y_laddR (pc := 70) C dX4_flowIn_70 ?_
        refine k_putGJ (pc := 71) C 8 33 rfl (by omega) fp_X4_42 dX4_flowIn_71 ?_
        rw [show u - r = u by omega, fin_in (s := rtN σ true ns) (x := u) (by omega) (fun f hf => by rw [hvf f hf, hP])]
        refine y_iload_n (pc := 74) C dX4_flowIn_74 1 rfl ?_
        refine y_iload_n (pc := 75) C dX4_flowIn_75 3 rfl ?_
        refine y_icmp_ge (pc := 76) (tgt := 87) C dX4_flowIn_76 (by decide) (by omega) (by omega) (by omega) (by omega) (fun c76 => ?_) (fun c76 => ?_)
        · exact absurd c76 (by omega)
        · skip
          refine y_aload_n (pc := 79) C dX4_flowIn_79 2 rfl ?_
          refine y_aload_n (pc := 80) C dX4_flowIn_80 2 rfl ?_
          refine y_get (pc := 81) C fg_X4_29 dX4_flowIn_81 (fun h hh => ⟨_, hh.gas, rfl⟩) ?_
          refine k_putX (pc := 84) C 6 (by omega) fp_X4_36 dX4_flowIn_84 ?_
          exact y_vret (pc := 87) C E dX4_flowIn_87 (by decide) (by decide) (fun h hh => ⟨rfl, by rw [show flowsP (u) ns (σ, τ) = (w, v) from by unfold flowsP; rw [show decide (0 < u) = true from decide_eq_true (by omega), show absZ (u) = u from by unfold absZ; split <;> omega, ← hP, ← ei, ← hw], ← e1w]; exact hh⟩)
      · skip
        subst hz
        have hi9 : i < ns := by omega
        have hm9 : i < ms := by omega
        have hsw : StOk w i := st_c (fun f hf => by by_cases q : f = 6 <;> first | (subst q; rw [hw6, hPf 6 (by omega)]) | rw [hwf9 f q, hPf f (by omega)]) (hst i hi9)
        have e14 : w 14 i = rateZ σ i true := by rw [hwf9 14 (by omega), hP]; exact rtN_v.1 hi9
        have hrt : rateZ w i true = w 14 i := by rw [e14]; exact rate_c (fun f hf9 => by by_cases q : f = 6 <;> first | (subst q; rw [hw6, hPf 6 (by omega)]) | rw [hwf9 f q, hPf f (by intro e; subst e; revert hf9; decide)])
        have hrb := rate_b (b := true) hsw
        rw [hrt] at hrb
        have h15w := hwf.2.2.2.2.2.2.2.2.2.2
        rw [← hPf 15 (by omega), ← hwf9 15 (by omega)] at h15w
        have hs6 := hsw.1
        unfold StO0 at hs6
        refine y_aload_n (pc := 15) C dX4_flowIn_15 2 rfl ?_
        refine y_get (pc := 16) C fg_X4_10 dX4_flowIn_16 (fun h hh => ⟨_, hh.gas, rfl⟩) ?_
        refine y_iload_n (pc := 19) C dX4_flowIn_19 0 rfl ?_
        refine y_callV (pc := 20) (As := [_]) C E.2.1 cv_X4_256 (ci := 0) rfl rfl (mc_get (lay 0 1) (lay 6 1) ns (lay 1) (by omega) (fun h hh => hh.li1) i hi9) (fun h hh => hh.li1.obj) rfl rfl (Nat.le_of_ble_eq_true rfl) ⟨by decide, by decide, by decide, by decide⟩ dX4_flowIn_20 ⟨rfl, rfl⟩ ?_
        refine y_cast (pc := 23) C (ci := 4) (qc := (RX3, TX3, 11)) rfl aw_1_126 dX4_flowIn_23 (fun h hh => ⟨_, hh.sto hm9⟩) ?_
        refine y_astore (pc := 26) (L' := [(4, _), (3, _), (2, _), (0, _), (1, _)]) C dX4_flowIn_26 (by rw [hn]; decide) rfl ?_
        refine y_iload_n (pc := 28) C dX4_flowIn_28 2 rfl ?_
        refine y_aload (pc := 29) C dX4_flowIn_29 0 rfl ?_
        refine y_callV (pc := 31) (As := []) C E.2.1 cv_X4_181 (ci := 4) rfl rfl (mc_rateIn _ hm9 hsw) (fun h hh => ⟨_, hh.sto hm9⟩) rfl rfl (Nat.le_of_ble_eq_true rfl) ⟨by decide, by decide, by decide, by decide⟩ dX4_flowIn_31 ⟨rfl, rfl⟩ ?_
        rw [hrt]
        refine y_min (pc := 34) C E.2.1 cs_X4_317.1 cs_X4_317.2.1 cs_X4_317.2.2.1 cs_X4_317.2.2.2.1 (by decide) (Nat.le_of_ble_eq_true rfl) (by decide) (by decide) (by omega) (by omega) (by omega) (by omega) dX4_flowIn_34 ?_
        refine y_istore (pc := 37) (L' := [(5, _), (4, _), (3, _), (2, _), (0, _), (1, _)]) C dX4_flowIn_37 (by rw [hn]; decide) rfl ?_
        refine y_aload (pc := 39) C dX4_flowIn_39 1 rfl ?_
        refine y_iload (pc := 41) C dX4_flowIn_41 0 rfl ?_
        refine y_aload_n (pc := 43) C dX4_flowIn_43 4 rfl ?_
        refine y_get (pc := 44) C fg_X4_33 dX4_flowIn_44 (fun h hh => ⟨_, hh.gas, rfl⟩) ?_
        refine y_callVv (pc := 47) (As := [_, _]) C E.2.1 cv_X4_86 (ci := 4) rfl rfl (mc_takeIn i hm9 _ _ ⟨by omega, by omega⟩ ⟨by omega, by omega⟩) (fun h hh => ⟨_, hh.sto hm9⟩) rfl rfl (Nat.le_of_ble_eq_true rfl) ⟨by decide, by decide, by decide, by decide⟩ dX4_flowIn_47 ⟨rfl, rfl⟩ ?_
        rw [show unw τ v 13 i = v 13 i from rfl, ← unw_ju]
        refine y_iload_n (pc := 50) C dX4_flowIn_50 3 rfl ?_
        refine y_iload (pc := 51) C dX4_flowIn_51 0 rfl ?_
        refine y_isub (pc := 53) C dX4_flowIn_53 ?_
        refine y_istore_n (pc := 54) (L' := [(2, _), (5, _), (4, _), (3, _), (0, _), (1, _)]) C dX4_flowIn_54 (by rw [hn]; decide) rfl ?_
        refine y_iinc (pc := 55) (L' := [(3, _), (2, _), (5, _), (4, _), (0, _), (1, _)]) C dX4_flowIn_55 3 rfl (by rw [hn]; decide) rfl ?_
        refine y_goto (pc := 58) (tgt := 4) C dX4_flowIn_58 (by decide) ?_
        refine Y.sub [0, 1, 4, 5] rfl ?_
        exact ih1 (i + 1) _ _ _ _ (by omega) (by omega) (by omega) (by unfold flP; rw [← hw]; rfl)
  refine Y.sub [0, 1, 2, 3] rfl ?_
  exact LP1 (ns + 1) 0 0 _ _ _ (by omega) (by omega) rfl rfl

set_option maxRecDepth 20000 in
theorem mg_flowOut {Ω : OmT} {hR : AH} {lay : Nat → Nat → Nat} {ξ : XiT} {ms ns nc nl : Nat} {σ : ZT} {τ : JT} (hwf : Wf σ ns nc nl) (hms : ns ≤ ms) (u : Int) (hu : 0 < u ∧ u ≤ 600000) (hcap : u ≤ sumZ (fun k => rateZ σ k false) ns) : Ct Ω yX4_flowOut cX4_flowOut 5 none (rk 5) [.ref (lay 0 0), .int (iv u)] (InvC Ω lay ms ns nc nl ξ σ τ) hR (RU (InvC Ω lay ms ns nc nl (xfo ξ 7 (σ 1 0)) ((flowsP (-u) ns (σ, τ)).1) ((flowsP (-u) ns (σ, τ)).2))) NX := by
  refine Ct.of (own := RX4) (L := [(0, _), (1, _)]) (by decide +kernel) rfl (Nat.le_of_ble_eq_true rfl) rfl ?_
  intro κ C hn E hi
  have hs2 := hwf.2.1
  have hc2 := hwf.2.2.2.1
  have hl2 := hwf.2.2.2.2.1.2.1
  have hnow := hwf.2.2.2.2.2.1.2
  have hst := hwf.2.2.2.2.2.2.1
  have hcu := hwf.2.2.2.2.2.2.2.1
  obtain ⟨P, hP⟩ : ∃ P, P = wentP (-u) (rtN σ false ns, τ) := ⟨_, rfl⟩
  have hP14 : ∀ j, j < ns → 0 ≤ P.1 14 j ∧ P.1 14 j ≤ 1000000 := fun j hj => by have q := rate_b (b := false) (hst j hj); rw [hP]; show 0 ≤ rtN _ _ _ 14 j ∧ rtN _ _ _ 14 j ≤ _; rw [rtN_v.1 hj]; omega
  have hPf : ∀ f, f ≠ 14 → P.1 f = σ f := fun f hf => by rw [hP]; exact rtN_f hf
  refine y_iload_n (pc := 0) C dX4_flowOut_0 1 rfl ?_
  refine y_istore_n (pc := 1) (L' := [(2, _), (0, _), (1, _)]) C dX4_flowOut_1 (by rw [hn]; decide) rfl ?_
  refine y_iconst (pc := 2) C dX4_flowOut_2 ?_
  refine y_istore_n (pc := 3) (L' := [(3, _), (2, _), (0, _), (1, _)]) C dX4_flowOut_3 (by rw [hn]; decide) rfl ?_
  refine Y.imp (Φ' := InvC Ω lay ms ns nc nl ξ (P.1) (unw τ P.2)) (fun h hh => hh.c (fun f hf9 => by rw [hPf f (by intro e; subst e; revert hf9; decide)]) (fun c hc => by rw [hPf 36 (by omega), hPf 37 (by omega)]) (fun f => by rw [hP, unw_w])) ?_
  have LP1 : ∀ (m1 : Nat) (i : Nat) (z r : Int) (w : ZT) (v : JT), (k1 : ns + 1 ≤ i + m1) → (k2 : i ≤ ns) → (hz : z = i) → (hw : ((w, v), r) = flP false P u i) → Y Ω κ (InvC Ω lay ms ns nc nl ξ (w) (unw τ v)) hR 0 0 4 [(3, .int (iv z)), (2, .int (iv r)), (0, .ref (lay 0 0)), (1, .int (iv u))] [] := by
    intro m1
    induction m1 with
    | zero => intro i z r w v k1 k2 hz hw; exfalso; omega
    | succ m1 ih1 =>
      intro i z r w v k1 k2 hz hw
      have hwr := flP_r (b := false) (p := P) (r := u) (n := i) (by omega) (fun j hj => (hP14 j (by omega)).1)
      rw [← hw] at hwr
      have hr9 : 0 ≤ r ∧ r ≤ 600000 := ⟨hwr.1, by have := hwr.2.1; omega⟩
      have hwf9 : ∀ f, f ≠ 6 → w f = P.1 f := fun f hf => by have q := flP_f (b := false) (p := P) (r := u) (n := i) (f := f) hf; rw [← hw] at q; exact q
      have hw6 : w 6 i = P.1 6 i := by have q := flP_6 (b := false) (p := P) (r := u) (n := i) (j := i) (Nat.le_refl _); rw [← hw] at q; exact q
      have hvf : ∀ f, f ≠ 13 → v f = P.2 f := fun f hf => by have q := flP_t (b := false) (p := P) (r := u) (n := i) (f := f) hf; rw [← hw] at q; exact q
      refine y_iload_n (pc := 4) C dX4_flowOut_4 0 rfl ?_
      refine y_aload_n (pc := 5) C dX4_flowOut_5 2 rfl ?_
      refine y_get (pc := 6) C fg_X4_10 dX4_flowOut_6 (fun h hh => ⟨_, hh.gas, rfl⟩) ?_
      refine y_callV (pc := 9) (As := []) C E.2.1 cv_X4_74 (ci := 0) rfl rfl (mc_size (lay 0 1) (lay 6 1) ns (lay 1) (by omega) (fun h hh => hh.li1)) (fun h hh => hh.li1.obj) rfl rfl (Nat.le_of_ble_eq_true rfl) ⟨by decide, by decide, by decide, by decide⟩ dX4_flowOut_9 ⟨rfl, rfl⟩ ?_
      refine y_icmp_ge (pc := 12) (tgt := 51) C dX4_flowOut_12 (by decide) (by omega) (by omega) (by omega) (by omega) (fun c12 => ?_) (fun c12 => ?_)
      · skip
        have ei : i = ns := by omega
        have hsum : sumZ (P.1 14) ns = sumZ (fun k => rateZ σ k false) ns := sumZ_c (fun j hj => by rw [hP]; exact rtN_v.1 hj)
        have hr0 : r = 0 := by have q := hwr.2.2; rw [ei, hsum] at q; split at q <;> omega
        have e1w : w 1 0 = σ 1 0 := by rw [hwf9 1 (by omega), hPf 1 (by omega)]
        refine y_aload_n (pc := 51) C dX4_flowOut_51 2 rfl ?_
        refine y_dup (pc := 52) C dX4_flowOut_52 rfl ?_
        refine y_get (pc := 53) C fg_X4_46 dX4_flowOut_53 (fun h hh => ⟨_, hh.gas, rfl⟩) ?_
        refine y_iload_n (pc := 56) C dX4_flowOut_56 3 rfl ?_
        refine y_iload_n (pc := 57) C dX4_flowOut_57 1 rfl ?_
        refine y_isub (pc := 58) C dX4_flowOut_58 ?_
        refine y_i2l (pc := 59) C dX4_flowOut_59 (by omega) (by omega) ?_
        refine y_laddR (pc := 60) C dX4_flowOut_60 ?_
        refine k_putGJ (pc := 61) C 9 34 rfl (by omega) fp_X4_46 dX4_flowOut_61 ?_
        rw [show u - r = -(-u) by omega, fin_out (s := rtN σ false ns) (x := -u) (by omega) (fun f hf => by rw [hvf f hf, hP])]
        refine y_iload_n (pc := 64) C dX4_flowOut_64 1 rfl ?_
        refine y_iload_n (pc := 65) C dX4_flowOut_65 3 rfl ?_
        refine y_icmp_ge (pc := 66) (tgt := 77) C dX4_flowOut_66 (by decide) (by omega) (by omega) (by omega) (by omega) (fun c66 => ?_) (fun c66 => ?_)
        · exact absurd c66 (by omega)
        · skip
          refine y_aload_n (pc := 69) C dX4_flowOut_69 2 rfl ?_
          refine y_aload_n (pc := 70) C dX4_flowOut_70 2 rfl ?_
          refine y_get (pc := 71) C fg_X4_29 dX4_flowOut_71 (fun h hh => ⟨_, hh.gas, rfl⟩) ?_
          refine k_putX (pc := 74) C 7 (by omega) fp_X4_39 dX4_flowOut_74 ?_
          exact y_vret (pc := 77) C E dX4_flowOut_77 (by decide) (by decide) (fun h hh => ⟨rfl, by rw [show flowsP (-u) ns (σ, τ) = (w, v) from by unfold flowsP; rw [show decide (0 < -u) = false from decide_eq_false (by omega), show absZ (-u) = u from by unfold absZ; split <;> omega, ← hP, ← ei, ← hw], ← e1w]; exact hh⟩)
      · skip
        subst hz
        have hi9 : i < ns := by omega
        have hm9 : i < ms := by omega
        have hsw : StOk w i := st_c (fun f hf => by by_cases q : f = 6 <;> first | (subst q; rw [hw6, hPf 6 (by omega)]) | rw [hwf9 f q, hPf f (by omega)]) (hst i hi9)
        have e14 : w 14 i = rateZ σ i false := by rw [hwf9 14 (by omega), hP]; exact rtN_v.1 hi9
        have hrt : rateZ w i false = w 14 i := by rw [e14]; exact rate_c (fun f hf9 => by by_cases q : f = 6 <;> first | (subst q; rw [hw6, hPf 6 (by omega)]) | rw [hwf9 f q, hPf f (by intro e; subst e; revert hf9; decide)])
        have hrb := rate_b (b := false) hsw
        rw [hrt] at hrb
        have h15w := hwf.2.2.2.2.2.2.2.2.2.2
        rw [← hPf 15 (by omega), ← hwf9 15 (by omega)] at h15w
        have hs6 := hsw.1
        unfold StO0 at hs6
        refine y_aload_n (pc := 15) C dX4_flowOut_15 2 rfl ?_
        refine y_get (pc := 16) C fg_X4_10 dX4_flowOut_16 (fun h hh => ⟨_, hh.gas, rfl⟩) ?_
        refine y_iload_n (pc := 19) C dX4_flowOut_19 0 rfl ?_
        refine y_callV (pc := 20) (As := [_]) C E.2.1 cv_X4_256 (ci := 0) rfl rfl (mc_get (lay 0 1) (lay 6 1) ns (lay 1) (by omega) (fun h hh => hh.li1) i hi9) (fun h hh => hh.li1.obj) rfl rfl (Nat.le_of_ble_eq_true rfl) ⟨by decide, by decide, by decide, by decide⟩ dX4_flowOut_20 ⟨rfl, rfl⟩ ?_
        refine y_cast (pc := 23) C (ci := 4) (qc := (RX3, TX3, 11)) rfl aw_1_126 dX4_flowOut_23 (fun h hh => ⟨_, hh.sto hm9⟩) ?_
        refine y_astore (pc := 26) (L' := [(4, _), (3, _), (2, _), (0, _), (1, _)]) C dX4_flowOut_26 (by rw [hn]; decide) rfl ?_
        refine y_iload_n (pc := 28) C dX4_flowOut_28 2 rfl ?_
        refine y_aload (pc := 29) C dX4_flowOut_29 0 rfl ?_
        refine y_iload_n (pc := 31) C dX4_flowOut_31 2 rfl ?_
        refine y_aload (pc := 32) C dX4_flowOut_32 0 rfl ?_
        refine y_callV (pc := 34) (As := []) C E.2.1 cv_X4_106 (ci := 4) rfl rfl (mc_rateOut _ hm9 hsw) (fun h hh => ⟨_, hh.sto hm9⟩) rfl rfl (Nat.le_of_ble_eq_true rfl) ⟨by decide, by decide, by decide, by decide⟩ dX4_flowOut_34 ⟨rfl, rfl⟩ ?_
        rw [hrt]
        refine y_min (pc := 37) C E.2.1 cs_X4_317.1 cs_X4_317.2.1 cs_X4_317.2.2.1 cs_X4_317.2.2.2.1 (by decide) (Nat.le_of_ble_eq_true rfl) (by decide) (by decide) (by omega) (by omega) (by omega) (by omega) dX4_flowOut_37 ?_
        refine y_callV (pc := 40) (As := [_]) C E.2.1 cv_X4_320 (ci := 4) rfl rfl (mc_giveAway i hm9 _ ⟨by omega, by omega⟩ ⟨by omega, by omega⟩) (fun h hh => ⟨_, hh.sto hm9⟩) rfl rfl (Nat.le_of_ble_eq_true rfl) ⟨by decide, by decide, by decide, by decide⟩ dX4_flowOut_40 ⟨rfl, rfl⟩ ?_
        have hr6 := hrb.2.2.2.1 rfl
        rw [show max 0 (min (min r (w 14 i)) (w 6 i)) = min r (w 14 i) by omega, los_unw]
        refine y_isub (pc := 43) C dX4_flowOut_43 ?_
        refine y_istore_n (pc := 44) (L' := [(2, _), (4, _), (3, _), (0, _), (1, _)]) C dX4_flowOut_44 (by rw [hn]; decide) rfl ?_
        refine y_iinc (pc := 45) (L' := [(3, _), (2, _), (4, _), (0, _), (1, _)]) C dX4_flowOut_45 2 rfl (by rw [hn]; decide) rfl ?_
        refine y_goto (pc := 48) (tgt := 4) C dX4_flowOut_48 (by decide) ?_
        refine Y.sub [0, 1, 3, 4] rfl ?_
        exact ih1 (i + 1) _ _ _ _ (by omega) (by omega) (by omega) (by unfold flP; rw [← hw]; rfl)
  refine Y.sub [0, 1, 2, 3] rfl ?_
  exact LP1 (ns + 1) 0 0 _ _ _ (by omega) (by omega) rfl rfl

