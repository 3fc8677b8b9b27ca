set_option maxRecDepth 20000 in
theorem mg_endTheDay {Ω : OmT} {hR : AH} {lay : Nat → Nat → Nat} {ξ : XiT} {ms ns nc nl : Nat} {σ : ZT} {τ : JT} (hwf : Wf σ ns nc nl) (hms : ns ≤ ms) : Ct Ω yX4_endTheDay cX4_endTheDay 2 none (rk 5) [.ref (lay 0 0)] (InvC Ω lay ms ns nc nl ξ σ τ) hR (RU (InvC Ω lay ms ns nc nl ξ ((dayN (σ, τ) ns).1) ((dayN (σ, τ) ns).2))) NX := by
  refine Ct.of (own := RX4) (L := [(0, _)]) (by decide +kernel) rfl (Nat.le_of_ble_eq_true rfl) rfl ?_
  intro κ C hn E hi
  have hs2 := hwf.2.1
  have hc2 := hwf.2.2.2.1
  have hl2 := hwf.2.2.2.2.1.2.1
  have hnow := hwf.2.2.2.2.2.1.2
  have hst := hwf.2.2.2.2.2.2.1
  have hcu := hwf.2.2.2.2.2.2.2.1
  refine y_iconst (pc := 0) C dX4_endTheDay_0 ?_
  refine y_istore_n (pc := 1) (L' := [(1, _), (0, _)]) C dX4_endTheDay_1 (by rw [hn]; decide) rfl ?_
  have LP1 : ∀ (m1 : Nat) (i : Nat) (z : Int) (w : ZT) (v : JT), (k1 : ns + 1 ≤ i + m1) → (k2 : i ≤ ns) → (hz : z = i) → (hw : (w, v) = dayN (σ, τ) i) → Y Ω κ (InvC Ω lay ms ns nc nl ξ (w) (v)) hR 0 0 2 [(1, .int (iv z)), (0, .ref (lay 0 0))] [] := by
    intro m1
    induction m1 with
    | zero => intro i z w v k1 k2 hz hw; exfalso; omega
    | succ m1 ih1 =>
      intro i z w v k1 k2 hz hw
      have hws : Wf w ns nc nl := by have q := wf_day (p := (σ, τ)) (n := i) hwf; rw [← hw] at q; exact q
      have hwk := fun hi => hws.2.2.2.2.2.2.1 i hi
      refine y_iload_n (pc := 2) C dX4_endTheDay_2 0 rfl ?_
      refine y_aload_n (pc := 3) C dX4_endTheDay_3 1 rfl ?_
      refine y_get (pc := 4) C fg_X4_10 dX4_endTheDay_4 (fun h hh => ⟨_, hh.gas, rfl⟩) ?_
      refine y_callV (pc := 7) (As := []) C E.2.1 cv_X4_74 (ci := 0) rfl rfl (mc_size (lay 0 1) (lay 6 1) ns (lay 1) (by omega) (fun h hh => hh.li1)) (fun h hh => hh.li1.obj) rfl rfl (Nat.le_of_ble_eq_true rfl) ⟨by decide, by decide, by decide, by decide⟩ dX4_endTheDay_7 ⟨rfl, rfl⟩ ?_
      refine y_icmp_ge (pc := 10) (tgt := 43) C dX4_endTheDay_10 (by decide) (by omega) (by omega) (by omega) (by omega) (fun c10 => ?_) (fun c10 => ?_)
      · skip
        exact y_vret (pc := 43) C E dX4_endTheDay_43 (by decide) (by decide) (fun h hh => ⟨rfl, by rw [show dayN (σ, τ) ns = (w, v) from by rw [hw, show i = ns by omega]]; exact hh⟩)
      · skip
        subst hz
        have hi9 : i < ns := by omega
        have hm9 : i < ms := by omega
        have hdb : 0 ≤ dyU w i ∧ dyU w i ≤ 1000000 := by have q1 := moveZ_ok (hwk hi9); have q2 := st_most q1; have q3 := (hwk hi9).1; unfold StO0 at q3; unfold dyU; split <;> omega
        refine y_aload_n (pc := 13) C dX4_endTheDay_13 1 rfl ?_
        refine y_dup (pc := 14) C dX4_endTheDay_14 rfl ?_
        refine y_get (pc := 15) C fg_X4_49 dX4_endTheDay_15 (fun h hh => ⟨_, hh.gas, rfl⟩) ?_
        refine y_aload_n (pc := 18) C dX4_endTheDay_18 1 rfl ?_
        refine y_get (pc := 19) C fg_X4_10 dX4_endTheDay_19 (fun h hh => ⟨_, hh.gas, rfl⟩) ?_
        refine y_iload_n (pc := 22) C dX4_endTheDay_22 0 rfl ?_
        refine y_callV (pc := 23) (As := [_]) C E.2.1 cv_X4_256 (ci := 0) rfl rfl (mc_get (lay 0 1) (lay 6 1) ns (lay 1) (by omega) (fun h hh => hh.li1) i hi9) (fun h hh => hh.li1.obj) rfl rfl (Nat.le_of_ble_eq_true rfl) ⟨by decide, by decide, by decide, by decide⟩ dX4_endTheDay_23 ⟨rfl, rfl⟩ ?_
        refine y_cast (pc := 26) C (ci := 4) (qc := (RX3, TX3, 11)) rfl aw_1_126 dX4_endTheDay_26 (fun h hh => ⟨_, hh.sto hm9⟩) ?_
        refine y_callV (pc := 29) (As := []) C E.2.1 cv_X4_323 (ci := 4) rfl rfl (mc_loseAtDaysEnd i hm9 (hwk hi9)) (fun h hh => ⟨_, hh.sto hm9⟩) rfl rfl (Nat.le_of_ble_eq_true rfl) ⟨by decide, by decide, by decide, by decide⟩ dX4_endTheDay_29 ⟨rfl, rfl⟩ ?_
        refine y_i2l (pc := 32) C dX4_endTheDay_32 (by omega) (by omega) ?_
        refine y_laddR (pc := 33) C dX4_endTheDay_33 ?_
        refine k_putGJ (pc := 34) C 10 35 rfl (by omega) fp_X4_49 dX4_endTheDay_34 ?_
        rw [← day_35]
        refine y_iinc (pc := 37) (L' := [(1, _), (0, _)]) C dX4_endTheDay_37 0 rfl (by rw [hn]; decide) rfl ?_
        refine y_goto (pc := 40) (tgt := 2) C dX4_endTheDay_40 (by decide) ?_
        refine Y.sub [0, 1] rfl ?_
        exact ih1 (i + 1) _ _ _ (by omega) (by omega) (by omega) (by show _ = dayP i (dayN (σ, τ) i); rw [← hw])
  refine Y.sub [0, 1] rfl ?_
  exact LP1 (ns + 1) 0 0 _ _ (by omega) (by omega) rfl rfl

set_option maxRecDepth 20000 in
theorem mg_goOneHour {Ω : OmT} {hR : AH} {lay : Nat → Nat → Nat} {ξ : XiT} {ms ns nc nl : Nat} {σ : ZT} {τ : JT} (hwf : Wf σ ns nc nl) (hms : ns ≤ ms) (hf : FlOk ξ σ) (hb : σ 1 0 < 10000) : Ct Ω yX4_goOneHour cX4_goOneHour 3 none (rk 7) [.ref (lay 0 0)] (InvC Ω lay ms ns nc nl ξ σ τ) hR (RU (InvC Ω lay ms ns nc nl (hourX ns nc nl ξ σ) ((hourP ns nc nl (σ, τ)).1) ((hourP ns nc nl (σ, τ)).2))) NX := by
  refine Ct.of (own := RX4) (L := [(0, _)]) (by decide +kernel) rfl (Nat.le_of_ble_eq_true rfl) rfl ?_
  intro κ C hn E hi
  have hs2 := hwf.2.1
  have hc2 := hwf.2.2.2.1
  have hl2 := hwf.2.2.2.2.1.2.1
  have hnow := hwf.2.2.2.2.2.1.2
  have hst := hwf.2.2.2.2.2.2.1
  have hcu := hwf.2.2.2.2.2.2.2.1
  have hcap := lays_cap hwf
  obtain ⟨l, hl⟩ : ∃ l, l = laysZ σ nc nl ns := ⟨_, rfl⟩
  rw [← hl] at hcap
  obtain ⟨x, hx⟩ : ∃ x, x = netZ l nc := ⟨_, rfl⟩
  rw [← hx] at hcap
  have hwl : Wf l ns nc nl := by rw [hl]; exact wf_lays hwf
  have hpl : PlOk l nc := by rw [hl]; exact laysZ_ok hwf.2.2.2.2.2.2.2.1
  have hps := pl_sums hpl hwf.2.2.2.1
  have hxb : -600000 ≤ x ∧ x ≤ 600000 := by rw [hx]; unfold netZ; omega
  obtain ⟨P, hP⟩ : ∃ P, P = flowsP x ns (l, τ) := ⟨_, rfl⟩
  have hwP : Wf P.1 ns nc nl := by rw [hP]; exact wf_flows hwl
  have hpP : PlOk P.1 nc := by intro c hc; rw [hP, flowsP_f (f := 36) (by omega) (by omega), flowsP_f (f := 37) (by omega) (by omega), flowsP_f (f := 38) (by omega) (by omega), flowsP_f (f := 39) (by omega) (by omega)]; exact hpl c hc
  have hsP : ∀ c, c < nc → 0 ≤ P.1 36 c ∧ 0 ≤ P.1 37 c ∧ P.1 36 c ≤ P.1 17 c - P.1 21 c ∧ P.1 37 c ≤ P.1 21 c := by rw [hP, hl]; exact lays_set hwf
  obtain ⟨A, hA⟩ : ∃ A, A = setN P nc := ⟨_, rfl⟩
  have hwA : Wf A.1 ns nc nl := by rw [hA]; exact wf_set hwP (Nat.le_refl _) hsP
  have e1l : l 1 0 = σ 1 0 := by rw [hl, laysZ_f (by omega)]
  have e1P : P.1 1 0 = σ 1 0 := by rw [hP, flowsP_f (by omega) (by omega)]; exact e1l
  have e1A : A.1 1 0 = σ 1 0 := by rw [hA, setN_f (by omega) (by omega)]; exact e1P
  obtain ⟨B, hB⟩ : ∃ B, B = (flgZ x A.1, A.2) := ⟨_, rfl⟩
  have hwB : Wf B.1 ns nc nl := by rw [hB]; exact wf_flg hwA
  have e1B : B.1 1 0 = σ 1 0 := by rw [hB]; show flgZ x A.1 1 0 = _; rw [flg_f (by decide)]; exact e1A
  obtain ⟨D, hD⟩ : ∃ D, D = leakN B ns := ⟨_, rfl⟩
  have hwD : Wf D.1 ns nc nl := by rw [hD]; exact wf_leak hwB
  have e1D : D.1 1 0 = σ 1 0 := by rw [hD, leakN_f (by omega)]; exact e1B
  obtain ⟨T, hT⟩ : ∃ T, T = tickP D := ⟨_, rfl⟩
  have hwT : Wf T.1 ns nc nl := by rw [hT]; exact wf_tick hwD (by rw [e1D]; exact hb)
  have hfin := hourP_e (p := (σ, τ)) hl hx (hA.trans (by rw [hP])) (hT.trans (by rw [hD, hB]))
  have e1T : T.1 1 0 = σ 1 0 + 1 := by rw [hT, ← e1D]; exact zu_s (σ := D.1) (f := 1) (i := 0)
  have eN : nowN D.1 = nowN σ := by unfold nowN; rw [e1D]
  have hN : D.1 1 0 = ((nowN D.1 : Nat) : Int) := by unfold nowN; omega
  have hNl : nowN D.1 < 2147483648 := by omega
  have hX : ((fun j => if j = nowN D.1 % 64 then 0 else (flowX x l ξ).1 j, (flowX x l ξ).2) : XiT) = hourX ns nc nl ξ σ := by unfold hourX flowX; rw [eN, e1l, ← hl, ← hx]
  refine y_aload_n (pc := 0) C dX4_goOneHour_0 0 rfl ?_
  refine y_callVv (pc := 1) (As := []) C E.2.1 cv_X4_217 (ci := 5) rfl rfl (mg_planTheHour hwf hms hf) (fun h hh => ⟨_, hh.gas⟩) rfl rfl (Nat.le_of_ble_eq_true rfl) ⟨by decide, by decide, by decide, by decide⟩ dX4_goOneHour_1 ⟨rfl, rfl⟩ ?_
  rw [← hl]
  refine y_aload_n (pc := 4) C dX4_goOneHour_4 0 rfl ?_
  refine y_callV (pc := 5) (As := []) C E.2.1 cv_X4_282 (ci := 5) rfl rfl (mg_plannedNet hwl hms) (fun h hh => ⟨_, hh.gas⟩) rfl rfl (Nat.le_of_ble_eq_true rfl) ⟨by decide, by decide, by decide, by decide⟩ dX4_goOneHour_5 ⟨rfl, rfl⟩ ?_
  rw [← hx]
  refine y_istore_n (pc := 8) (L' := [(1, _), (0, _)]) C dX4_goOneHour_8 (by rw [hn]; decide) rfl ?_
  refine y_joinU (pcj := 31) (Φ' := InvC Ω lay ms ns nc nl (flowX x l ξ) (P.1) (P.2)) ?_ (fun J1 => ?_)
  · skip
    refine y_iconst (pc := 31) C dX4_goOneHour_31 ?_
    refine y_istore_n (pc := 32) (L' := [(2, _), (1, _), (0, _)]) C dX4_goOneHour_32 (by rw [hn]; decide) rfl ?_
    have LP2 : ∀ (m2 : Nat) (i : Nat) (z : Int) (w : ZT) (v : JT), (k1 : nc + 1 ≤ i + m2) → (k2 : i ≤ nc) → (hz : z = i) → (hw : (w, v) = setN P i) → Y Ω κ (InvC Ω lay ms ns nc nl (flowX x l ξ) (w) (v)) hR 0 0 33 [(2, .int (iv z)), (1, .int (iv x)), (0, .ref (lay 0 0))] [] := by
      intro m2
      induction m2 with
      | zero => intro i z w v k1 k2 hz hw; exfalso; omega
      | succ m2 ih2 =>
        intro i z w v k1 k2 hz hw
        have hws : Wf w ns nc nl := by have q := wf_set (n := i) hwP k2 hsP; rw [← hw] at q; exact q
        refine y_iload_n (pc := 33) C dX4_goOneHour_33 0 rfl ?_
        refine y_aload_n (pc := 34) C dX4_goOneHour_34 2 rfl ?_
        refine y_get (pc := 35) C fg_X4_16 dX4_goOneHour_35 (fun h hh => ⟨_, hh.gas, rfl⟩) ?_
        refine y_callV (pc := 38) (As := []) C E.2.1 cv_X4_74 (ci := 0) rfl rfl (mc_size (lay 0 2) (lay 6 2) nc (lay 2) (by omega) (fun h hh => hh.li2)) (fun h hh => hh.li2.obj) rfl rfl (Nat.le_of_ble_eq_true rfl) ⟨by decide, by decide, by decide, by decide⟩ dX4_goOneHour_38 ⟨rfl, rfl⟩ ?_
        refine y_icmp_ge (pc := 41) (tgt := 68) C dX4_goOneHour_41 (by decide) (by omega) (by omega) (by omega) (by omega) (fun c41 => ?_) (fun c41 => ?_)
        · skip
          have ei : i = nc := by omega
          have eA : (w, v) = A := by rw [hA, ← ei]; exact hw
          have eA1 : w = A.1 := by rw [← eA]
          have eA2 : v = A.2 := by rw [← eA]
          rw [eA1, eA2]
          refine Y.imp (Φ' := InvC Ω lay ms ns nc nl (flowX x l ξ) (B.1) (B.2)) (fun h hh => by rw [hB]; exact hh.c (fun f hf9 => flg_f (by intro e; revert hf9; simp only [List.mem_cons, List.not_mem_nil, or_false] at e; rcases e with rfl | rfl | rfl | rfl | rfl <;> decide)) (fun c hc => by show flgZ x A.1 36 c - flgZ x A.1 37 c = _; rw [flg_f (f := 36) (by decide), flg_f (f := 37) (by decide)]) (fun f => rfl)) ?_
          refine y_iconst (pc := 68) C dX4_goOneHour_68 ?_
          refine y_istore_n (pc := 69) (L' := [(2, _), (1, _), (0, _)]) C dX4_goOneHour_69 (by rw [hn]; decide) rfl ?_
          have LP3 : ∀ (m3 : Nat) (i : Nat) (z : Int) (w : ZT) (v : JT), (k1 : ns + 1 ≤ i + m3) → (k2 : i ≤ ns) → (hz : z = i) → (hw : (w, v) = leakN B i) → Y Ω κ (InvC Ω lay ms ns nc nl (flowX x l ξ) (w) (v)) hR 0 0 70 [(2, .int (iv z)), (1, .int (iv x)), (0, .ref (lay 0 0))] [] := by
            intro m3
            induction m3 with
            | zero => intro i z w v k1 k2 hz hw; exfalso; omega
            | succ m3 ih3 =>
              intro i z w v k1 k2 hz hw
              have hws : Wf w ns nc nl := by have q := wf_leak (n := i) hwB; rw [← hw] at q; exact q
              have hwk := fun hi => hws.2.2.2.2.2.2.1 i hi
              refine y_iload_n (pc := 70) C dX4_goOneHour_70 0 rfl ?_
              refine y_aload_n (pc := 71) C dX4_goOneHour_71 2 rfl ?_
              refine y_get (pc := 72) C fg_X4_10 dX4_goOneHour_72 (fun h hh => ⟨_, hh.gas, rfl⟩) ?_
              refine y_callV (pc := 75) (As := []) C E.2.1 cv_X4_74 (ci := 0) rfl rfl (mc_size (lay 0 1) (lay 6 1) ns (lay 1) (by omega) (fun h hh => hh.li1)) (fun h hh => hh.li1.obj) rfl rfl (Nat.le_of_ble_eq_true rfl) ⟨by decide, by decide, by decide, by decide⟩ dX4_goOneHour_75 ⟨rfl, rfl⟩ ?_
              refine y_icmp_ge (pc := 78) (tgt := 111) C dX4_goOneHour_78 (by decide) (by omega) (by omega) (by omega) (by omega) (fun c78 => ?_) (fun c78 => ?_)
              · skip
                have ei : i = ns := by omega
                have eD : (w, v) = D := by rw [hD, ← ei]; exact hw
                have eD1 : w = D.1 := by rw [← eD]
                have eD2 : v = D.2 := by rw [← eD]
                rw [eD1, eD2]
                refine y_aload_n (pc := 111) C dX4_goOneHour_111 2 rfl ?_
                refine y_get (pc := 112) C fg_X4_25 dX4_goOneHour_112 (fun h hh => ⟨_, hh.gas, rfl⟩) ?_
                refine y_aload_n (pc := 115) C dX4_goOneHour_115 2 rfl ?_
                refine y_get (pc := 116) C fg_X4_29 dX4_goOneHour_116 (fun h hh => ⟨_, hh.gas, rfl⟩) ?_
                refine y_iconst (pc := 119) C dX4_goOneHour_119 ?_
                rw [hN]
                refine y_callV (pc := 120) (As := [_, _]) C E.2.1 cv_X4_148 (ci := 2) rfl rfl (mc_put (lay 0 4) (lay 0 5) _ (nowN D.1) 0 hNl (fun h hh => hh.pri) (fun h hh => hh.putA)) (fun h hh => ⟨_, hh.pri.1⟩) rfl rfl (Nat.le_of_ble_eq_true rfl) ⟨by decide, by decide, by decide, by decide⟩ dX4_goOneHour_120 ⟨rfl, rfl⟩ ?_
                refine y_pop (pc := 123) C dX4_goOneHour_123 rfl ?_
                rw [hX]
                refine y_aload_n (pc := 124) C dX4_goOneHour_124 2 rfl ?_
                refine y_dup (pc := 125) C dX4_goOneHour_125 rfl ?_
                refine y_get (pc := 126) C fg_X4_29 dX4_goOneHour_126 (fun h hh => ⟨_, hh.gas, rfl⟩) ?_
                refine y_iconst (pc := 129) C dX4_goOneHour_129 ?_
                refine y_iadd (pc := 130) C dX4_goOneHour_130 ?_
                refine k_putG (pc := 131) C 4 1 rfl (by omega) fp_X4_29 dX4_goOneHour_131 ?_
                refine Y.imp (Φ' := InvC Ω lay ms ns nc nl (hourX ns nc nl ξ σ) (T.1) (T.2)) (fun h hh => by rw [hT]; exact hh) ?_
                refine y_aload_n (pc := 134) C dX4_goOneHour_134 2 rfl ?_
                refine y_get (pc := 135) C fg_X4_29 dX4_goOneHour_135 (fun h hh => ⟨_, hh.gas, rfl⟩) ?_
                refine y_bipush (pc := 138) (z := 24) C dX4_goOneHour_138 (by decide) ?_
                refine y_irem (pc := 140) C dX4_goOneHour_140 (by omega) (by omega) (by omega) (by omega) ?_
                refine y_if_ne (pc := 141) (tgt := 148) C dX4_goOneHour_141 (by decide) (by omega) (by omega) (fun c141 => ?_) (fun c141 => ?_)
                · skip
                  exact y_vret (pc := 148) C E dX4_goOneHour_148 (by decide) (by decide) (fun h hh => ⟨rfl, by rw [hfin, if_neg c141]; exact hh⟩)
                · skip
                  refine y_aload_n (pc := 144) C dX4_goOneHour_144 2 rfl ?_
                  refine y_callVv (pc := 145) (As := []) C E.2.1 cv_X4_314 (ci := 5) rfl rfl (mg_endTheDay hwT hms) (fun h hh => ⟨_, hh.gas⟩) rfl rfl (Nat.le_of_ble_eq_true rfl) ⟨by decide, by decide, by decide, by decide⟩ dX4_goOneHour_145 ⟨rfl, rfl⟩ ?_
                  exact y_vret (pc := 148) C E dX4_goOneHour_148 (by decide) (by decide) (fun h hh => ⟨rfl, by rw [hfin, if_pos c141]; exact hh⟩)
              · skip
                subst hz
                have hi9 : i < ns := by omega
                have hm9 : i < ms := by omega
                have hdb : 0 ≤ lkU w i ∧ lkU w i ≤ 2000000 := by have q3 := (hwk hi9).1; unfold StO0 at q3; unfold lkU; split <;> omega
                refine y_aload_n (pc := 81) C dX4_goOneHour_81 2 rfl ?_
                refine y_dup (pc := 82) C dX4_goOneHour_82 rfl ?_
                refine y_get (pc := 83) C fg_X4_49 dX4_goOneHour_83 (fun h hh => ⟨_, hh.gas, rfl⟩) ?_
                refine y_aload_n (pc := 86) C dX4_goOneHour_86 2 rfl ?_
                refine y_get (pc := 87) C fg_X4_10 dX4_goOneHour_87 (fun h hh => ⟨_, hh.gas, rfl⟩) ?_
                refine y_iload_n (pc := 90) C dX4_goOneHour_90 0 rfl ?_
                refine y_callV (pc := 91) (As := [_]) C E.2.1 cv_X4_256 (ci := 0) rfl rfl (mc_get (lay 0 1) (lay 6 1) ns (lay 1) (by omega) (fun h hh => hh.li1) i hi9) (fun h hh => hh.li1.obj) rfl rfl (Nat.le_of_ble_eq_true rfl) ⟨by decide, by decide, by decide, by decide⟩ dX4_goOneHour_91 ⟨rfl, rfl⟩ ?_
                refine y_cast (pc := 94) C (ci := 4) (qc := (RX3, TX3, 11)) rfl aw_1_126 dX4_goOneHour_94 (fun h hh => ⟨_, hh.sto hm9⟩) ?_
                refine y_callV (pc := 97) (As := []) C E.2.1 cv_X4_311 (ci := 4) rfl rfl (mc_loseInAnHour i hm9 (hwk hi9)) (fun h hh => ⟨_, hh.sto hm9⟩) rfl rfl (Nat.le_of_ble_eq_true rfl) ⟨by decide, by decide, by decide, by decide⟩ dX4_goOneHour_97 ⟨rfl, rfl⟩ ?_
                refine y_i2l (pc := 100) C dX4_goOneHour_100 (by omega) (by omega) ?_
                refine y_laddR (pc := 101) C dX4_goOneHour_101 ?_
                refine k_putGJ (pc := 102) C 10 35 rfl (by omega) fp_X4_49 dX4_goOneHour_102 ?_
                rw [← leak_35]
                refine y_iinc (pc := 105) (L' := [(2, _), (1, _), (0, _)]) C dX4_goOneHour_105 0 rfl (by rw [hn]; decide) rfl ?_
                refine y_goto (pc := 108) (tgt := 70) C dX4_goOneHour_108 (by decide) ?_
                refine Y.sub [0, 1, 2] rfl ?_
                exact ih3 (i + 1) _ _ _ (by omega) (by omega) (by omega) (by show _ = leakP i (leakN B i); rw [← hw])
          refine Y.sub [0, 1, 2] rfl ?_
          exact LP3 (ns + 1) 0 0 B.1 B.2 (by omega) (by omega) rfl rfl
        · skip
          subst hz
          have hi9 : i < nc := by omega
          have hA9 : ∀ f, f ≠ 21 → f ≠ 25 → w f = P.1 f := fun f z1 z2 => by have q := setN_f (p := P) (n := i) z1 z2; rw [← hw] at q; exact q
          have hpw : PlOk w nc := by intro c hc; rw [hA9 36 (by omega) (by omega), hA9 37 (by omega) (by omega), hA9 38 (by omega) (by omega), hA9 39 (by omega) (by omega)]; exact hpP c hc
          refine y_aload_n (pc := 44) C dX4_goOneHour_44 2 rfl ?_
          refine y_get (pc := 45) C fg_X4_16 dX4_goOneHour_45 (fun h hh => ⟨_, hh.gas, rfl⟩) ?_
          refine y_iload_n (pc := 48) C dX4_goOneHour_48 0 rfl ?_
          refine y_callV (pc := 49) (As := [_]) C E.2.1 cv_X4_256 (ci := 0) rfl rfl (mc_get (lay 0 2) (lay 6 2) nc (lay 2) (by omega) (fun h hh => hh.li2) i hi9) (fun h hh => hh.li2.obj) rfl rfl (Nat.le_of_ble_eq_true rfl) ⟨by decide, by decide, by decide, by decide⟩ dX4_goOneHour_49 ⟨rfl, rfl⟩ ?_
          refine y_cast (pc := 52) C (ci := 1) (qc := (RX0, TX0, 12)) rfl aw_1_131 dX4_goOneHour_52 (fun h hh => ⟨_, hh.cus hi9⟩) ?_
          refine y_aload_n (pc := 55) C dX4_goOneHour_55 2 rfl ?_
          refine y_get (pc := 56) C fg_X4_29 dX4_goOneHour_56 (fun h hh => ⟨_, hh.gas, rfl⟩) ?_
          refine y_callVv (pc := 59) (As := [_]) C E.2.1 cv_X4_308 (ci := 1) rfl rfl (mc_settle i hi9 hpw hws.2.2.2.2.2.1) (fun h hh => ⟨_, hh.cus hi9⟩) rfl rfl (Nat.le_of_ble_eq_true rfl) ⟨by decide, by decide, by decide, by decide⟩ dX4_goOneHour_59 ⟨rfl, rfl⟩ ?_
          refine y_iinc (pc := 62) (L' := [(2, _), (1, _), (0, _)]) C dX4_goOneHour_62 0 rfl (by rw [hn]; decide) rfl ?_
          refine y_goto (pc := 65) (tgt := 33) C dX4_goOneHour_65 (by decide) ?_
          refine Y.sub [0, 1, 2] rfl ?_
          exact ih2 (i + 1) _ _ _ (by omega) (by omega) (by omega) (by show _ = set1 i (setN P i); rw [← hw])
    refine Y.sub [0, 1, 2] rfl ?_
    exact LP2 (nc + 1) 0 0 P.1 P.2 (by omega) (by omega) rfl rfl
  · skip
    refine y_iload_n (pc := 9) C dX4_goOneHour_9 0 rfl ?_
    refine y_if_le (pc := 10) (tgt := 21) C dX4_goOneHour_10 (by decide) (by omega) (by omega) (fun c10 => ?_) (fun c10 => ?_)
    · skip
      refine y_iload_n (pc := 21) C dX4_goOneHour_21 0 rfl ?_
      refine y_if_ge (pc := 22) (tgt := 31) C dX4_goOneHour_22 (by decide) (by omega) (by omega) (fun c22 => ?_) (fun c22 => ?_)
      · skip
        refine Y.sub [0, 1] rfl ?_
        refine Y.imp (fun h hh => ?_) J1
        have x0 : x = 0 := by omega
        have hq := flows_0 (τ := τ) hwl.2.2.2.2.2.2.1
        rw [hP, x0, hq.2, show flowX 0 l ξ = ξ from rfl]
        exact hh.c (fun f hf9 => hq.1 f (by intro e; subst e; revert hf9; decide)) (fun c hc => by rw [hq.1 36 (by omega), hq.1 37 (by omega)]) (fun f => rfl)
      · skip
        refine y_aload_n (pc := 25) C dX4_goOneHour_25 1 rfl ?_
        refine y_iload_n (pc := 26) C dX4_goOneHour_26 0 rfl ?_
        refine y_ineg (pc := 27) C dX4_goOneHour_27 ?_
        refine y_callVv (pc := 28) (As := [_]) C E.2.1 cv_X4_305 (ci := 5) rfl rfl (mg_flowOut hwl hms (-x) ⟨by omega, by omega⟩ (by have q := hcap (by omega); rw [show absZ x = -x from if_neg (by omega), show decide (0 < x) = false from decide_eq_false (by omega)] at q; exact q)) (fun h hh => ⟨_, hh.gas⟩) rfl rfl (Nat.le_of_ble_eq_true rfl) ⟨by decide, by decide, by decide, by decide⟩ dX4_goOneHour_28 ⟨rfl, rfl⟩ ?_
        refine Y.sub [0, 1] rfl ?_
        refine Y.imp (fun h hh => ?_) J1
        rw [hP, show flowX x l ξ = xfo ξ 7 (l 1 0) from by unfold flowX xfo; rw [if_neg (by omega), if_pos (by omega), if_neg (by omega)]]; rw [Int.neg_neg] at hh; exact hh
    · skip
      refine y_aload_n (pc := 13) C dX4_goOneHour_13 1 rfl ?_
      refine y_iload_n (pc := 14) C dX4_goOneHour_14 0 rfl ?_
      refine y_callVv (pc := 15) (As := [_]) C E.2.1 cv_X4_302 (ci := 5) rfl rfl (mg_flowIn hwl hms x ⟨by omega, by omega⟩ (by have q := hcap (by omega); rw [show absZ x = x from if_pos (by omega), show decide (0 < x) = true from decide_eq_true (by omega)] at q; exact q)) (fun h hh => ⟨_, hh.gas⟩) rfl rfl (Nat.le_of_ble_eq_true rfl) ⟨by decide, by decide, by decide, by decide⟩ dX4_goOneHour_15 ⟨rfl, rfl⟩ ?_
      refine y_goto (pc := 18) (tgt := 31) C dX4_goOneHour_18 (by decide) ?_
      refine Y.sub [0, 1] rfl ?_
      refine Y.imp (fun h hh => ?_) J1
      rw [hP, show flowX x l ξ = xfo ξ 6 (l 1 0) from by unfold flowX xfo; rw [if_pos (by omega), if_neg (by omega), if_pos rfl]]; exact hh

