set_option maxRecDepth 20000 in
theorem mg_wells {Ω : OmT} {hR : AH} {lay : Nat → Nat → Nat} {ξ : XiT} {ms ns nc nl : Nat} {σ : ZT} {τ : JT} (hwf : Wf σ ns nc nl) (hms : ns ≤ ms) (x : Int) (h_x : -2147483648 ≤ x ∧ x < 2147483648) (a : Int) (h_a : -2147483648 ≤ a ∧ a < 2147483648) (b : Int) (h_b : -2147483648 ≤ b ∧ b < 2147483648)  : Ct Ω yX4_wells cX4_wells 5 (some FieldType.int) (rkc 8 2 12) [.ref (lay 0 0), .int (iv x), .int (iv a), .int (iv b)] (InvC Ω lay ms ns nc nl ξ σ τ) hR (FK (wlK σ x a b) (.int (iv (rateZ (wlS x.toNat a b σ) x.toNat false))) (InvC Ω lay ms ns nc nl ξ (wlS x.toNat a b σ) (τ))) (XT (wlK σ x a b) [(sIB, 1), (sIA, 2)] (InvC Ω lay ms ns nc nl ξ σ τ)) := by
  refine Ct.of (own := RX4) (L := [(0, _), (1, _), (2, _), (3, _)]) (by decide +kernel) rfl (Nat.le_of_ble_eq_true rfl) rfl ?_
  intro κ C hn E hi
  have hs2 := hwf.2.1
  have hc2 := hwf.2.2.2.1
  have hl2 := hwf.2.2.2.2.1.2.1
  have hnow := hwf.2.2.2.2.2.1.2
  have hst := hwf.2.2.2.2.2.2.1
  have hcu := hwf.2.2.2.2.2.2.2.1
  have o2 := hwf.1
  have o16 := hwf.2.2.1
  have o27 := hwf.2.2.2.2.1.1
  refine y_aload_n (pc := 0) C dX4_wells_0 0 rfl ?_
  refine y_iload_n (pc := 1) C dX4_wells_1 1 rfl ?_
  refine y_callVX (pc := 2) (As := [_]) C E.2.1 cv_X4_94 (ci := 5) rfl rfl (mg_storeNumbered x h_x (by omega) hms) (fun h hh => ⟨_, hh.gas⟩) rfl rfl (Nat.le_of_ble_eq_true rfl) ⟨by decide, by decide, by decide, by decide⟩ dX4_wells_2 (fun rv => ?_) (fun E0 => y_out C E (by decide) (by decide) (fun h hh => by obtain ⟨rfl, hn9, hh⟩ := hh; exact ⟨1, List.Mem.head _, (by unfold wlK; (try simp only [Int.toNat_natCast]); split <;> (try split) <;> (try split) <;> first | rfl | omega), hh⟩))
  refine Y.and (fun hN_i => Y.and (fun e9 => ?_))
  subst e9
  obtain ⟨i, rfl⟩ : ∃ i9 : Nat, x = i9 := ⟨Int.toNat x, by omega⟩
  have hi_i : i < ns := by omega
  have hm_i : i < ms := by omega
  have hk_i := hwf.2.2.2.2.2.2.1 i hi_i
  have hu_i := hk_i.1
  unfold StO0 at hu_i
  show Y Ω κ _ hR 1 6 _ _ (.ref (lay 1 i) :: _)
  refine y_astore (pc := 5) (L' := [(4, _), (0, _), (1, _), (2, _), (3, _)]) C dX4_wells_5 (by rw [hn]; decide) rfl ?_
  refine y_iload_n (pc := 7) C dX4_wells_7 3 rfl ?_
  refine y_iconst (pc := 8) C dX4_wells_8 ?_
  refine y_bipush (pc := 9) (z := 100) C dX4_wells_9 (by decide) ?_
  refine y_callS (pc := 11) (As := [_, _, _]) C E.2.1 cs_X4_52 (mg_isWithin _ _ _ ⟨by omega, by omega⟩ ⟨by omega, by omega⟩ ⟨by omega, by omega⟩) rfl rfl (Nat.le_of_ble_eq_true rfl) ⟨by decide, by decide, by decide, by decide⟩ dX4_wells_11 ⟨rfl, rfl⟩ ?_
  refine y_ifb_eq (pc := 14) (tgt := 28) C dX4_wells_14 (by decide) (fun c14 => ?_) (fun c14 => ?_)
  · skip
    exact y_throw (pc := 28) C E th_IA sw_X4_98 dX4_wells_28 dX4_wells_31 dX4_wells_32 dX4_wells_34 dX4_wells_37 (by decide) (Nat.le_of_ble_eq_true rfl) (by decide) (by decide) (fun h hh => ⟨2, List.Mem.tail _ (List.Mem.head _), (by (try simp only [decide_eq_true_eq, decide_eq_false_iff_not] at c14); unfold wlK; (try simp only [Int.toNat_natCast]); split <;> (try split) <;> (try split) <;> first | rfl | omega), hh⟩)
  · skip
    refine y_iload_n (pc := 17) C dX4_wells_17 4 rfl ?_
    refine y_iconst (pc := 18) C dX4_wells_18 ?_
    refine y_sipush (pc := 19) (z := 1000) C dX4_wells_19 (by decide) ?_
    refine y_callS (pc := 22) (As := [_, _, _]) C E.2.1 cs_X4_52 (mg_isWithin _ _ _ ⟨by omega, by omega⟩ ⟨by omega, by omega⟩ ⟨by omega, by omega⟩) rfl rfl (Nat.le_of_ble_eq_true rfl) ⟨by decide, by decide, by decide, by decide⟩ dX4_wells_22 ⟨rfl, rfl⟩ ?_
    refine y_ifb_ne (pc := 25) (tgt := 38) C dX4_wells_25 (by decide) (fun c25 => ?_) (fun c25 => ?_)
    · skip
      refine y_aload (pc := 38) C dX4_wells_38 0 rfl ?_
      refine y_iload_n (pc := 40) C dX4_wells_40 3 rfl ?_
      refine k_putS (pc := 41) C 8 10 rfl hm_i (by decide) (by decide) fp_X4_100 dX4_wells_41 ?_
      refine y_aload (pc := 44) C dX4_wells_44 0 rfl ?_
      refine y_iload_n (pc := 46) C dX4_wells_46 4 rfl ?_
      refine k_putS (pc := 47) C 9 11 rfl hm_i (by decide) (by decide) fp_X4_103 dX4_wells_47 ?_
      refine y_aload (pc := 50) C dX4_wells_50 0 rfl ?_
      have hst2 : StOk (wlS i a b σ) i := ⟨by have q := hk_i.1; unfold StO0 at q ⊢; unfold wlS; rw [zu_s (f := 11), zu_f (f := 11) (g := 10) (by omega), zu_s]; simp only [decide_eq_true_eq] at c14 c25; exact ⟨q.1, q.2.1, q.2.2.1, q.2.2.2.1, q.2.2.2.2.1, q.2.2.2.2.2.1, q.2.2.2.2.2.2.1, q.2.2.2.2.2.2.2.1, q.2.2.2.2.2.2.2.2.1, q.2.2.2.2.2.2.2.2.2.1, q.2.2.2.2.2.2.2.2.2.2.1, q.2.2.2.2.2.2.2.2.2.2.2.1, q.2.2.2.2.2.2.2.2.2.2.2.2.1, by omega, by omega, by omega, by omega, q.2.2.2.2.2.2.2.2.2.2.2.2.2.2.2.2.2⟩, hk_i.2⟩
      refine y_callV (pc := 52) (As := []) C E.2.1 cv_X4_106 (ci := 4) rfl rfl (mc_rateOut _ hm_i hst2) (fun h hh => ⟨_, hh.sto hm_i⟩) rfl rfl (Nat.le_of_ble_eq_true rfl) ⟨by decide, by decide, by decide, by decide⟩ dX4_wells_52 ⟨rfl, rfl⟩ ?_
      exact y_iret (pc := 55) C E dX4_wells_55 (by decide) (by decide) (fun h hh => ⟨(by (try simp only [decide_eq_true_eq, decide_eq_false_iff_not] at c14 c25); unfold wlK; (try simp only [Int.toNat_natCast]); split <;> (try split) <;> (try split) <;> first | rfl | omega), rfl, hh⟩)
    · skip
      exact y_throw (pc := 28) C E th_IA sw_X4_98 dX4_wells_28 dX4_wells_31 dX4_wells_32 dX4_wells_34 dX4_wells_37 (by decide) (Nat.le_of_ble_eq_true rfl) (by decide) (by decide) (fun h hh => ⟨2, List.Mem.tail _ (List.Mem.head _), (by (try simp only [decide_eq_true_eq, decide_eq_false_iff_not] at c14 c25); unfold wlK; (try simp only [Int.toNat_natCast]); split <;> (try split) <;> (try split) <;> first | rfl | omega), hh⟩)

set_option maxRecDepth 20000 in
theorem mg_leak {Ω : OmT} {hR : AH} {lay : Nat → Nat → Nat} {ξ : XiT} {ms ns nc nl : Nat} {σ : ZT} {τ : JT} (hwf : Wf σ ns nc nl) (hms : ns ≤ ms) (x : Int) (h_x : -2147483648 ≤ x ∧ x < 2147483648) (u : Int) (h_u : -2147483648 ≤ u ∧ u < 2147483648)  : Ct Ω yX4_leak cX4_leak 5 (some FieldType.int) (rkc 8 2 12) [.ref (lay 0 0), .int (iv x), .int (iv u)] (InvC Ω lay ms ns nc nl ξ σ τ) hR (FK (lkK σ x u) (.int (iv (σ 12 x.toNat))) (InvC Ω lay ms ns nc nl ξ (zu σ 12 x.toNat u) (τ))) (XT (lkK σ x u) [(sIB, 1), (sIA, 2)] (InvC Ω lay ms ns nc nl ξ σ τ)) := by
  refine Ct.of (own := RX4) (L := [(0, _), (1, _), (2, _)]) (by decide +kernel) rfl (Nat.le_of_ble_eq_true rfl) rfl ?_
  intro κ C hn E hi
  have hs2 := hwf.2.1
  have hc2 := hwf.2.2.2.1
  have hl2 := hwf.2.2.2.2.1.2.1
  have hnow := hwf.2.2.2.2.2.1.2
  have hst := hwf.2.2.2.2.2.2.1
  have hcu := hwf.2.2.2.2.2.2.2.1
  have o2 := hwf.1
  have o16 := hwf.2.2.1
  have o27 := hwf.2.2.2.2.1.1
  refine y_aload_n (pc := 0) C dX4_leak_0 0 rfl ?_
  refine y_iload_n (pc := 1) C dX4_leak_1 1 rfl ?_
  refine y_callVX (pc := 2) (As := [_]) C E.2.1 cv_X4_94 (ci := 5) rfl rfl (mg_storeNumbered x h_x (by omega) hms) (fun h hh => ⟨_, hh.gas⟩) rfl rfl (Nat.le_of_ble_eq_true rfl) ⟨by decide, by decide, by decide, by decide⟩ dX4_leak_2 (fun rv => ?_) (fun E0 => y_out C E (by decide) (by decide) (fun h hh => by obtain ⟨rfl, hn9, hh⟩ := hh; exact ⟨1, List.Mem.head _, (by unfold lkK; (try simp only [Int.toNat_natCast]); split <;> (try split) <;> (try split) <;> first | rfl | omega), hh⟩))
  refine Y.and (fun hN_i => Y.and (fun e9 => ?_))
  subst e9
  obtain ⟨i, rfl⟩ : ∃ i9 : Nat, x = i9 := ⟨Int.toNat x, by omega⟩
  have hi_i : i < ns := by omega
  have hm_i : i < ms := by omega
  have hk_i := hwf.2.2.2.2.2.2.1 i hi_i
  have hu_i := hk_i.1
  unfold StO0 at hu_i
  show Y Ω κ _ hR 1 6 _ _ (.ref (lay 1 i) :: _)
  refine y_astore_n (pc := 5) (L' := [(3, _), (0, _), (1, _), (2, _)]) C dX4_leak_5 (by rw [hn]; decide) rfl ?_
  refine y_iload_n (pc := 6) C dX4_leak_6 3 rfl ?_
  refine y_iconst (pc := 7) C dX4_leak_7 ?_
  refine y_sipush (pc := 8) (z := 1000) C dX4_leak_8 (by decide) ?_
  refine y_callS (pc := 11) (As := [_, _, _]) C E.2.1 cs_X4_52 (mg_isWithin _ _ _ ⟨by omega, by omega⟩ ⟨by omega, by omega⟩ ⟨by omega, by omega⟩) rfl rfl (Nat.le_of_ble_eq_true rfl) ⟨by decide, by decide, by decide, by decide⟩ dX4_leak_11 ⟨rfl, rfl⟩ ?_
  refine y_ifb_ne (pc := 14) (tgt := 27) C dX4_leak_14 (by decide) (fun c14 => ?_) (fun c14 => ?_)
  · skip
    refine y_aload_n (pc := 27) C dX4_leak_27 0 rfl ?_
    refine y_get (pc := 28) C fg_X4_111 dX4_leak_28 (fun h hh => ⟨_, hh.sto hm_i, rfl⟩) ?_
    refine y_istore (pc := 31) (L' := [(4, _), (3, _), (0, _), (1, _), (2, _)]) C dX4_leak_31 (by rw [hn]; decide) rfl ?_
    refine y_aload_n (pc := 33) C dX4_leak_33 1 rfl ?_
    refine y_iload_n (pc := 34) C dX4_leak_34 4 rfl ?_
    refine k_putS (pc := 35) C 10 12 rfl hm_i (by decide) (by decide) fp_X4_111 dX4_leak_35 ?_
    refine y_iload (pc := 38) C dX4_leak_38 0 rfl ?_
    exact y_iret (pc := 40) C E dX4_leak_40 (by decide) (by decide) (fun h hh => ⟨(by (try simp only [decide_eq_true_eq, decide_eq_false_iff_not] at c14); unfold lkK; (try simp only [Int.toNat_natCast]); split <;> (try split) <;> (try split) <;> first | rfl | omega), rfl, hh⟩)
  · skip
    exact y_throw (pc := 17) C E th_IA sw_X4_109 dX4_leak_17 dX4_leak_20 dX4_leak_21 dX4_leak_23 dX4_leak_26 (by decide) (Nat.le_of_ble_eq_true rfl) (by decide) (by decide) (fun h hh => ⟨2, List.Mem.tail _ (List.Mem.head _), (by (try simp only [decide_eq_true_eq, decide_eq_false_iff_not] at c14); unfold lkK; (try simp only [Int.toNat_natCast]); split <;> (try split) <;> (try split) <;> first | rfl | omega), hh⟩)

set_option maxRecDepth 20000 in
theorem mg_leach {Ω : OmT} {hR : AH} {lay : Nat → Nat → Nat} {ξ : XiT} {ms ns nc nl : Nat} {σ : ZT} {τ : JT} (hwf : Wf σ ns nc nl) (hms : ns ≤ ms) (x : Int) (h_x : -2147483648 ≤ x ∧ x < 2147483648) (u : Int) (h_u : -2147483648 ≤ u ∧ u < 2147483648)  : Ct Ω yX4_leach cX4_leach 4 (some FieldType.int) (rkc 8 2 12) [.ref (lay 0 0), .int (iv x), .int (iv u)] (InvC Ω lay ms ns nc nl ξ σ τ) hR (FK (lcK σ x u) (.int (iv (zu σ 4 x.toNat (σ 4 x.toNat + u) 4 x.toNat))) (InvC Ω lay ms ns nc nl ξ (zu σ 4 x.toNat (σ 4 x.toNat + u)) (τ))) (XT (lcK σ x u) [(sIB, 1), (sIA, 2), (sIS, 3)] (InvC Ω lay ms ns nc nl ξ σ τ)) := by
  refine Ct.of (own := RX4) (L := [(0, _), (1, _), (2, _)]) (by decide +kernel) rfl (Nat.le_of_ble_eq_true rfl) rfl ?_
  intro κ C hn E hi
  have hs2 := hwf.2.1
  have hc2 := hwf.2.2.2.1
  have hl2 := hwf.2.2.2.2.1.2.1
  have hnow := hwf.2.2.2.2.2.1.2
  have hst := hwf.2.2.2.2.2.2.1
  have hcu := hwf.2.2.2.2.2.2.2.1
  have o2 := hwf.1
  have o16 := hwf.2.2.1
  have o27 := hwf.2.2.2.2.1.1
  refine y_aload_n (pc := 0) C dX4_leach_0 0 rfl ?_
  refine y_iload_n (pc := 1) C dX4_leach_1 1 rfl ?_
  refine y_callVX (pc := 2) (As := [_]) C E.2.1 cv_X4_94 (ci := 5) rfl rfl (mg_storeNumbered x h_x (by omega) hms) (fun h hh => ⟨_, hh.gas⟩) rfl rfl (Nat.le_of_ble_eq_true rfl) ⟨by decide, by decide, by decide, by decide⟩ dX4_leach_2 (fun rv => ?_) (fun E0 => y_out C E (by decide) (by decide) (fun h hh => by obtain ⟨rfl, hn9, hh⟩ := hh; exact ⟨1, List.Mem.head _, (by unfold lcK; (try simp only [Int.toNat_natCast]); split <;> (try split) <;> (try split) <;> first | rfl | omega), hh⟩))
  refine Y.and (fun hN_i => Y.and (fun e9 => ?_))
  subst e9
  obtain ⟨i, rfl⟩ : ∃ i9 : Nat, x = i9 := ⟨Int.toNat x, by omega⟩
  have hi_i : i < ns := by omega
  have hm_i : i < ms := by omega
  have hk_i := hwf.2.2.2.2.2.2.1 i hi_i
  have hu_i := hk_i.1
  unfold StO0 at hu_i
  show Y Ω κ _ hR 1 6 _ _ (.ref (lay 1 i) :: _)
  refine y_astore_n (pc := 5) (L' := [(3, _), (0, _), (1, _), (2, _)]) C dX4_leach_5 (by rw [hn]; decide) rfl ?_
  refine y_iload_n (pc := 6) C dX4_leach_6 3 rfl ?_
  refine y_iconst (pc := 7) C dX4_leach_7 ?_
  refine y_ldc (pc := 8) (z := 100000) C aw_1_232 (by decide) dX4_leach_8 ?_
  refine y_callS (pc := 10) (As := [_, _, _]) C E.2.1 cs_X4_52 (mg_isWithin _ _ _ ⟨by omega, by omega⟩ ⟨by omega, by omega⟩ ⟨by omega, by omega⟩) rfl rfl (Nat.le_of_ble_eq_true rfl) ⟨by decide, by decide, by decide, by decide⟩ dX4_leach_10 ⟨rfl, rfl⟩ ?_
  refine y_ifb_ne (pc := 13) (tgt := 26) C dX4_leach_13 (by decide) (fun c13 => ?_) (fun c13 => ?_)
  · skip
    have c13a := of_decide_eq_true c13
    refine y_aload_n (pc := 26) C dX4_leach_26 0 rfl ?_
    refine y_get (pc := 27) C fg_X4_116 dX4_leach_27 (fun h hh => ⟨_, hh.sto hm_i, rfl⟩) ?_
    refine y_iconst (pc := 30) C dX4_leach_30 ?_
    refine y_icmp_ne (pc := 31) (tgt := 52) C dX4_leach_31 (by decide) (by omega) (by omega) (by omega) (by omega) (fun c31 => ?_) (fun c31 => ?_)
    · skip
      exact y_throw (pc := 52) C E th_IS sw_X4_125 dX4_leach_52 dX4_leach_55 dX4_leach_56 dX4_leach_58 dX4_leach_61 (by decide) (Nat.le_of_ble_eq_true rfl) (by decide) (by decide) (fun h hh => ⟨3, List.Mem.tail _ (List.Mem.tail _ (List.Mem.head _)), (by (try simp only [decide_eq_true_eq, decide_eq_false_iff_not] at c13 c31); unfold lcK; (try simp only [Int.toNat_natCast]); split <;> (try split) <;> (try split) <;> first | rfl | omega), hh⟩)
    · skip
      refine y_aload_n (pc := 34) C dX4_leach_34 0 rfl ?_
      refine y_get (pc := 35) C fg_X4_119 dX4_leach_35 (fun h hh => ⟨_, hh.sto hm_i, rfl⟩) ?_
      refine y_if_gt (pc := 38) (tgt := 52) C dX4_leach_38 (by decide) (by omega) (by omega) (fun c38 => ?_) (fun c38 => ?_)
      · skip
        exact y_throw (pc := 52) C E th_IS sw_X4_125 dX4_leach_52 dX4_leach_55 dX4_leach_56 dX4_leach_58 dX4_leach_61 (by decide) (Nat.le_of_ble_eq_true rfl) (by decide) (by decide) (fun h hh => ⟨3, List.Mem.tail _ (List.Mem.tail _ (List.Mem.head _)), (by (try simp only [decide_eq_true_eq, decide_eq_false_iff_not] at c13 c31 c38); unfold lcK; (try simp only [Int.toNat_natCast]); split <;> (try split) <;> (try split) <;> first | rfl | omega), hh⟩)
      · skip
        refine y_aload_n (pc := 41) C dX4_leach_41 0 rfl ?_
        refine y_get (pc := 42) C fg_X4_122 dX4_leach_42 (fun h hh => ⟨_, hh.sto hm_i, rfl⟩) ?_
        refine y_iload_n (pc := 45) C dX4_leach_45 3 rfl ?_
        refine y_iadd (pc := 46) C dX4_leach_46 ?_
        refine y_ldc (pc := 47) (z := 100000) C aw_1_232 (by decide) dX4_leach_47 ?_
        refine y_icmp_le (pc := 49) (tgt := 62) C dX4_leach_49 (by decide) (by omega) (by omega) (by omega) (by omega) (fun c49 => ?_) (fun c49 => ?_)
        · skip
          refine y_aload_n (pc := 62) C dX4_leach_62 0 rfl ?_
          refine y_dup (pc := 63) C dX4_leach_63 rfl ?_
          refine y_get (pc := 64) C fg_X4_122 dX4_leach_64 (fun h hh => ⟨_, hh.sto hm_i, rfl⟩) ?_
          refine y_iload_n (pc := 67) C dX4_leach_67 3 rfl ?_
          refine y_iadd (pc := 68) C dX4_leach_68 ?_
          refine k_putS (pc := 69) C 4 4 rfl hm_i (by decide) (by decide) fp_X4_122 dX4_leach_69 ?_
          refine y_aload_n (pc := 72) C dX4_leach_72 0 rfl ?_
          refine y_get (pc := 73) C fg_X4_122 dX4_leach_73 (fun h hh => ⟨_, hh.sto hm_i, rfl⟩) ?_
          exact y_iret (pc := 76) C E dX4_leach_76 (by decide) (by decide) (fun h hh => ⟨(by (try simp only [decide_eq_true_eq, decide_eq_false_iff_not] at c13 c31 c38 c49); unfold lcK; (try simp only [Int.toNat_natCast]); split <;> (try split) <;> (try split) <;> first | rfl | omega), rfl, hh⟩)
        · skip
          exact y_throw (pc := 52) C E th_IS sw_X4_125 dX4_leach_52 dX4_leach_55 dX4_leach_56 dX4_leach_58 dX4_leach_61 (by decide) (Nat.le_of_ble_eq_true rfl) (by decide) (by decide) (fun h hh => ⟨3, List.Mem.tail _ (List.Mem.tail _ (List.Mem.head _)), (by (try simp only [decide_eq_true_eq, decide_eq_false_iff_not] at c13 c31 c38 c49); unfold lcK; (try simp only [Int.toNat_natCast]); split <;> (try split) <;> (try split) <;> first | rfl | omega), hh⟩)
  · skip
    exact y_throw (pc := 16) C E th_IA sw_X4_114 dX4_leach_16 dX4_leach_19 dX4_leach_20 dX4_leach_22 dX4_leach_25 (by decide) (Nat.le_of_ble_eq_true rfl) (by decide) (by decide) (fun h hh => ⟨2, List.Mem.tail _ (List.Mem.head _), (by (try simp only [decide_eq_true_eq, decide_eq_false_iff_not] at c13); unfold lcK; (try simp only [Int.toNat_natCast]); split <;> (try split) <;> (try split) <;> first | rfl | omega), hh⟩)

set_option maxRecDepth 20000 in
theorem mg_heat {Ω : OmT} {hR : AH} {lay : Nat → Nat → Nat} {ξ : XiT} {ms ns nc nl : Nat} {σ : ZT} {τ : JT} (hwf : Wf σ ns nc nl) (hms : ns ≤ ms) (u : Int) (h_u : -2147483648 ≤ u ∧ u < 2147483648)  : Ct Ω yX4_heat cX4_heat 3 (some FieldType.int) (rkc 8 1 6) [.ref (lay 0 0), .int (iv u)] (InvC Ω lay ms ns nc nl ξ σ τ) hR (FK (htK u) (.int (iv (σ 15 0))) (InvC Ω lay ms ns nc nl ξ (zu σ 15 0 u) (τ))) (XT (htK u) [(sIA, 1)] (InvC Ω lay ms ns nc nl ξ σ τ)) := by
  refine Ct.of (own := RX4) (L := [(0, _), (1, _)]) (by decide +kernel) rfl (Nat.le_of_ble_eq_true rfl) rfl ?_
  intro κ C hn E hi
  have hs2 := hwf.2.1
  have hc2 := hwf.2.2.2.1
  have hl2 := hwf.2.2.2.2.1.2.1
  have hnow := hwf.2.2.2.2.2.1.2
  have hst := hwf.2.2.2.2.2.2.1
  have hcu := hwf.2.2.2.2.2.2.2.1
  have o2 := hwf.1
  have o16 := hwf.2.2.1
  have o27 := hwf.2.2.2.2.1.1
  refine y_iload_n (pc := 0) C dX4_heat_0 1 rfl ?_
  refine y_iconst (pc := 1) C dX4_heat_1 ?_
  refine y_sipush (pc := 2) (z := 20000) C dX4_heat_2 (by decide) ?_
  refine y_callS (pc := 5) (As := [_, _, _]) C E.2.1 cs_X4_52 (mg_isWithin _ _ _ ⟨by omega, by omega⟩ ⟨by omega, by omega⟩ ⟨by omega, by omega⟩) rfl rfl (Nat.le_of_ble_eq_true rfl) ⟨by decide, by decide, by decide, by decide⟩ dX4_heat_5 ⟨rfl, rfl⟩ ?_
  refine y_ifb_ne (pc := 8) (tgt := 21) C dX4_heat_8 (by decide) (fun c8 => ?_) (fun c8 => ?_)
  · skip
    refine y_aload_n (pc := 21) C dX4_heat_21 0 rfl ?_
    refine y_get (pc := 22) C fg_X4_33 dX4_heat_22 (fun h hh => ⟨_, hh.gas, rfl⟩) ?_
    refine y_istore_n (pc := 25) (L' := [(2, _), (0, _), (1, _)]) C dX4_heat_25 (by rw [hn]; decide) rfl ?_
    refine y_aload_n (pc := 26) C dX4_heat_26 1 rfl ?_
    refine y_iload_n (pc := 27) C dX4_heat_27 2 rfl ?_
    refine k_putG (pc := 28) C 5 15 rfl (by omega) fp_X4_33 dX4_heat_28 ?_
    refine y_iload_n (pc := 31) C dX4_heat_31 0 rfl ?_
    exact y_iret (pc := 32) C E dX4_heat_32 (by decide) (by decide) (fun h hh => ⟨(by (try simp only [decide_eq_true_eq, decide_eq_false_iff_not] at c8); unfold htK; (try simp only [Int.toNat_natCast]); split <;> (try split) <;> (try split) <;> first | rfl | omega), rfl, hh⟩)
  · skip
    exact y_throw (pc := 11) C E th_IA sw_X4_127 dX4_heat_11 dX4_heat_14 dX4_heat_15 dX4_heat_17 dX4_heat_20 (by decide) (Nat.le_of_ble_eq_true rfl) (by decide) (by decide) (fun h hh => ⟨1, List.Mem.head _, (by (try simp only [decide_eq_true_eq, decide_eq_false_iff_not] at c8); unfold htK; (try simp only [Int.toNat_natCast]); split <;> (try split) <;> (try split) <;> first | rfl | omega), hh⟩)

set_option maxRecDepth 20000 in
theorem mg_nominate {Ω : OmT} {hR : AH} {lay : Nat → Nat → Nat} {ξ : XiT} {ms ns nc nl : Nat} {σ : ZT} {τ : JT} (hwf : Wf σ ns nc nl) (hms : ns ≤ ms) (x : Int) (h_x : -2147483648 ≤ x ∧ x < 2147483648) (t : Int) (h_t : -2147483648 ≤ t ∧ t < 2147483648) (u : Int) (h_u : -2147483648 ≤ u ∧ u < 2147483648)  : Ct Ω yX4_nominate cX4_nominate 5 (some FieldType.int) (rkc 8 2 12) [.ref (lay 0 0), .int (iv x), .int (iv t), .int (iv u)] (InvC Ω lay ms ns nc nl ξ σ τ) hR (FK (nmK σ x t u) (.int (iv (σ 25 (64 * x.toNat + t.toNat % 64)))) (InvC Ω lay ms ns nc nl ξ (zu σ 25 (64 * x.toNat + t.toNat % 64) u) (τ))) (XT (nmK σ x t u) [(sIB, 1), (sIA, 2)] (InvC Ω lay ms ns nc nl ξ σ τ)) := by
  refine Ct.of (own := RX4) (L := [(0, _), (1, _), (2, _), (3, _)]) (by decide +kernel) rfl (Nat.le_of_ble_eq_true rfl) rfl ?_
  intro κ C hn E hi
  have hs2 := hwf.2.1
  have hc2 := hwf.2.2.2.1
  have hl2 := hwf.2.2.2.2.1.2.1
  have hnow := hwf.2.2.2.2.2.1.2
  have hst := hwf.2.2.2.2.2.2.1
  have hcu := hwf.2.2.2.2.2.2.2.1
  have o2 := hwf.1
  have o16 := hwf.2.2.1
  have o27 := hwf.2.2.2.2.1.1
  refine y_aload_n (pc := 0) C dX4_nominate_0 0 rfl ?_
  refine y_iload_n (pc := 1) C dX4_nominate_1 1 rfl ?_
  refine y_callVX (pc := 2) (As := [_]) C E.2.1 cv_X4_138 (ci := 5) rfl rfl (mg_customerNumbered x h_x (by omega)) (fun h hh => ⟨_, hh.gas⟩) rfl rfl (Nat.le_of_ble_eq_true rfl) ⟨by decide, by decide, by decide, by decide⟩ dX4_nominate_2 (fun rv => ?_) (fun E0 => y_out C E (by decide) (by decide) (fun h hh => by obtain ⟨rfl, hn9, hh⟩ := hh; exact ⟨1, List.Mem.head _, (by unfold nmK; (try simp only [Int.toNat_natCast]); split <;> (try split) <;> (try split) <;> first | rfl | omega), hh⟩))
  refine Y.and (fun hN_i => Y.and (fun e9 => ?_))
  subst e9
  obtain ⟨i, rfl⟩ : ∃ i9 : Nat, x = i9 := ⟨Int.toNat x, by omega⟩
  have hi_i : i < nc := by omega
  have hk_i := hwf.2.2.2.2.2.2.2.1 i hi_i
  have hu_i := hk_i
  unfold CuOk at hu_i
  show Y Ω κ _ hR 1 6 _ _ (.ref (lay 2 i) :: _)
  refine y_astore (pc := 5) (L' := [(4, _), (0, _), (1, _), (2, _), (3, _)]) C dX4_nominate_5 (by rw [hn]; decide) rfl ?_
  refine y_iload_n (pc := 7) C dX4_nominate_7 3 rfl ?_
  refine y_aload_n (pc := 8) C dX4_nominate_8 1 rfl ?_
  refine y_get (pc := 9) C fg_X4_29 dX4_nominate_9 (fun h hh => ⟨_, hh.gas, rfl⟩) ?_
  refine y_iconst (pc := 12) C dX4_nominate_12 ?_
  refine y_iadd (pc := 13) C dX4_nominate_13 ?_
  refine y_aload_n (pc := 14) C dX4_nominate_14 1 rfl ?_
  refine y_get (pc := 15) C fg_X4_29 dX4_nominate_15 (fun h hh => ⟨_, hh.gas, rfl⟩) ?_
  refine y_bipush (pc := 18) (z := 60) C dX4_nominate_18 (by decide) ?_
  refine y_iadd (pc := 20) C dX4_nominate_20 ?_
  refine y_callS (pc := 21) (As := [_, _, _]) C E.2.1 cs_X4_52 (mg_isWithin _ _ _ ⟨by omega, by omega⟩ ⟨by omega, by omega⟩ ⟨by omega, by omega⟩) rfl rfl (Nat.le_of_ble_eq_true rfl) ⟨by decide, by decide, by decide, by decide⟩ dX4_nominate_21 ⟨rfl, rfl⟩ ?_
  refine y_ifb_eq (pc := 24) (tgt := 38) C dX4_nominate_24 (by decide) (fun c24 => ?_) (fun c24 => ?_)
  · skip
    exact y_throw (pc := 38) C E th_IA sw_X4_143 dX4_nominate_38 dX4_nominate_41 dX4_nominate_42 dX4_nominate_44 dX4_nominate_47 (by decide) (Nat.le_of_ble_eq_true rfl) (by decide) (by decide) (fun h hh => ⟨2, List.Mem.tail _ (List.Mem.head _), (by (try simp only [decide_eq_true_eq, decide_eq_false_iff_not] at c24); unfold nmK; (try simp only [Int.toNat_natCast]); split <;> (try split) <;> (try split) <;> first | rfl | omega), hh⟩)
  · skip
    refine y_iload_n (pc := 27) C dX4_nominate_27 4 rfl ?_
    refine y_ldc (pc := 28) (z := -1000000) C aw_3_34 (by decide) dX4_nominate_28 ?_
    refine y_ldc (pc := 30) (z := 1000000) C aw_1_233 (by decide) dX4_nominate_30 ?_
    refine y_callS (pc := 32) (As := [_, _, _]) C E.2.1 cs_X4_52 (mg_isWithin _ _ _ ⟨by omega, by omega⟩ ⟨by omega, by omega⟩ ⟨by omega, by omega⟩) rfl rfl (Nat.le_of_ble_eq_true rfl) ⟨by decide, by decide, by decide, by decide⟩ dX4_nominate_32 ⟨rfl, rfl⟩ ?_
    refine y_ifb_ne (pc := 35) (tgt := 48) C dX4_nominate_35 (by decide) (fun c35 => ?_) (fun c35 => ?_)
    · skip
      have c24a := of_decide_eq_true c24
      obtain ⟨t, rfl⟩ : ∃ t9 : Nat, t = t9 := ⟨t.toNat, by omega⟩
      refine y_aload (pc := 48) C dX4_nominate_48 0 rfl ?_
      refine y_get (pc := 50) C fg_X4_145 dX4_nominate_50 (fun h hh => ⟨_, hh.cus hi_i, rfl⟩) ?_
      refine y_iload_n (pc := 53) C dX4_nominate_53 3 rfl ?_
      refine y_iload_n (pc := 54) C dX4_nominate_54 4 rfl ?_
      refine y_callV (pc := 55) (As := [_, _]) C E.2.1 cv_X4_148 (ci := 2) rfl rfl (mc_put (lay 3 i) (lay 4 i) _ t u (by omega) (fun h hh => hh.hou hi_i) (fun h hh => hh.putN hi_i (Nat.mod_lt _ (by decide)))) (fun h hh => ⟨_, (hh.hou hi_i).1⟩) rfl rfl (Nat.le_of_ble_eq_true rfl) ⟨by decide, by decide, by decide, by decide⟩ dX4_nominate_55 ⟨rfl, rfl⟩ ?_
      rw [show NF σ i (t % 64) = σ 25 (64 * i + t % 64) from if_pos (Nat.mod_lt _ (by decide))]
      exact y_iret (pc := 58) C E dX4_nominate_58 (by decide) (by decide) (fun h hh => ⟨(by (try simp only [decide_eq_true_eq, decide_eq_false_iff_not] at c24 c35); unfold nmK; (try simp only [Int.toNat_natCast]); split <;> (try split) <;> (try split) <;> first | rfl | omega), rfl, hh⟩)
    · skip
      exact y_throw (pc := 38) C E th_IA sw_X4_143 dX4_nominate_38 dX4_nominate_41 dX4_nominate_42 dX4_nominate_44 dX4_nominate_47 (by decide) (Nat.le_of_ble_eq_true rfl) (by decide) (by decide) (fun h hh => ⟨2, List.Mem.tail _ (List.Mem.head _), (by (try simp only [decide_eq_true_eq, decide_eq_false_iff_not] at c24 c35); unfold nmK; (try simp only [Int.toNat_natCast]); split <;> (try split) <;> (try split) <;> first | rfl | omega), hh⟩)

set_option maxRecDepth 20000 in
theorem mg_transfer {Ω : OmT} {hR : AH} {lay : Nat → Nat → Nat} {ξ : XiT} {ms ns nc nl : Nat} {σ : ZT} {τ : JT} (hwf : Wf σ ns nc nl) (hms : ns ≤ ms) (a : Int) (h_a : -2147483648 ≤ a ∧ a < 2147483648) (b : Int) (h_b : -2147483648 ≤ b ∧ b < 2147483648) (u : Int) (h_u : -2147483648 ≤ u ∧ u < 2147483648)  : Ct Ω yX4_transfer cX4_transfer 6 (some FieldType.int) (rkc 8 3 18) [.ref (lay 0 0), .int (iv a), .int (iv b), .int (iv u)] (InvC Ω lay ms ns nc nl ξ σ τ) hR (FK (trK σ a b u) (.int (iv (trS a.toNat b.toNat u σ 21 b.toNat))) (InvC Ω lay ms ns nc nl ξ (trS a.toNat b.toNat u σ) (τ))) (XT (trK σ a b u) [(sIB, 1), (sIA, 2), (sIS, 3)] (InvC Ω lay ms ns nc nl ξ σ τ)) := by
  refine Ct.of (own := RX4) (L := [(0, _), (1, _), (2, _), (3, _)]) (by decide +kernel) rfl (Nat.le_of_ble_eq_true rfl) rfl ?_
  intro κ C hn E hi
  have hs2 := hwf.2.1
  have hc2 := hwf.2.2.2.1
  have hl2 := hwf.2.2.2.2.1.2.1
  have hnow := hwf.2.2.2.2.2.1.2
  have hst := hwf.2.2.2.2.2.2.1
  have hcu := hwf.2.2.2.2.2.2.2.1
  have o2 := hwf.1
  have o16 := hwf.2.2.1
  have o27 := hwf.2.2.2.2.1.1
  refine y_aload_n (pc := 0) C dX4_transfer_0 0 rfl ?_
  refine y_iload_n (pc := 1) C dX4_transfer_1 1 rfl ?_
  refine y_callVX (pc := 2) (As := [_]) C E.2.1 cv_X4_138 (ci := 5) rfl rfl (mg_customerNumbered a h_a (by omega)) (fun h hh => ⟨_, hh.gas⟩) rfl rfl (Nat.le_of_ble_eq_true rfl) ⟨by decide, by decide, by decide, by decide⟩ dX4_transfer_2 (fun rv => ?_) (fun E0 => y_out C E (by decide) (by decide) (fun h hh => by obtain ⟨rfl, hn9, hh⟩ := hh; exact ⟨1, List.Mem.head _, (by unfold trK; (try simp only [Int.toNat_natCast]); split <;> (try split) <;> (try split) <;> first | rfl | omega), hh⟩))
  refine Y.and (fun hN_i => Y.and (fun e9 => ?_))
  subst e9
  obtain ⟨i, rfl⟩ : ∃ i9 : Nat, a = i9 := ⟨Int.toNat a, by omega⟩
  have hi_i : i < nc := by omega
  have hk_i := hwf.2.2.2.2.2.2.2.1 i hi_i
  have hu_i := hk_i
  unfold CuOk at hu_i
  show Y Ω κ _ hR 1 6 _ _ (.ref (lay 2 i) :: _)
  refine y_astore (pc := 5) (L' := [(4, _), (0, _), (1, _), (2, _), (3, _)]) C dX4_transfer_5 (by rw [hn]; decide) rfl ?_
  refine y_aload_n (pc := 7) C dX4_transfer_7 1 rfl ?_
  refine y_iload_n (pc := 8) C dX4_transfer_8 3 rfl ?_
  refine y_callVX (pc := 9) (As := [_]) C E.2.1 cv_X4_138 (ci := 5) rfl rfl (mg_customerNumbered b h_b (by omega)) (fun h hh => ⟨_, hh.gas⟩) rfl rfl (Nat.le_of_ble_eq_true rfl) ⟨by decide, by decide, by decide, by decide⟩ dX4_transfer_9 (fun rv => ?_) (fun E0 => y_out C E (by decide) (by decide) (fun h hh => by obtain ⟨rfl, hn9, hh⟩ := hh; exact ⟨1, List.Mem.head _, (by unfold trK; (try simp only [Int.toNat_natCast]); split <;> (try split) <;> (try split) <;> first | rfl | omega), hh⟩))
  refine Y.and (fun hN_j => Y.and (fun e9 => ?_))
  subst e9
  obtain ⟨j, rfl⟩ : ∃ i9 : Nat, b = i9 := ⟨Int.toNat b, by omega⟩
  have hi_j : j < nc := by omega
  have hk_j := hwf.2.2.2.2.2.2.2.1 j hi_j
  have hu_j := hk_j
  unfold CuOk at hu_j
  show Y Ω κ _ hR 2 12 _ _ (.ref (lay 2 j) :: _)
  refine y_astore (pc := 12) (L' := [(5, _), (4, _), (0, _), (1, _), (2, _), (3, _)]) C dX4_transfer_12 (by rw [hn]; decide) rfl ?_
  refine y_iload_n (pc := 14) C dX4_transfer_14 3 rfl ?_
  refine y_iload_n (pc := 15) C dX4_transfer_15 4 rfl ?_
  refine y_icmp_eq (pc := 16) (tgt := 29) C dX4_transfer_16 (by decide) (by omega) (by omega) (by omega) (by omega) (fun c16 => ?_) (fun c16 => ?_)
  · skip
    exact y_throw (pc := 29) C E th_IA sw_X4_151 dX4_transfer_29 dX4_transfer_32 dX4_transfer_33 dX4_transfer_35 dX4_transfer_38 (by decide) (Nat.le_of_ble_eq_true rfl) (by decide) (by decide) (fun h hh => ⟨2, List.Mem.tail _ (List.Mem.head _), (by (try simp only [decide_eq_true_eq, decide_eq_false_iff_not] at c16); unfold trK; (try simp only [Int.toNat_natCast]); split <;> (try split) <;> (try split) <;> first | rfl | omega), hh⟩)
  · skip
    refine y_iload_n (pc := 19) C dX4_transfer_19 5 rfl ?_
    refine y_iconst (pc := 20) C dX4_transfer_20 ?_
    refine y_ldc (pc := 21) (z := 1000000) C aw_1_233 (by decide) dX4_transfer_21 ?_
    refine y_callS (pc := 23) (As := [_, _, _]) C E.2.1 cs_X4_52 (mg_isWithin _ _ _ ⟨by omega, by omega⟩ ⟨by omega, by omega⟩ ⟨by omega, by omega⟩) rfl rfl (Nat.le_of_ble_eq_true rfl) ⟨by decide, by decide, by decide, by decide⟩ dX4_transfer_23 ⟨rfl, rfl⟩ ?_
    refine y_ifb_ne (pc := 26) (tgt := 39) C dX4_transfer_26 (by decide) (fun c26 => ?_) (fun c26 => ?_)
    · skip
      refine y_aload (pc := 39) C dX4_transfer_39 1 rfl ?_
      refine y_get (pc := 41) C fg_X4_153 dX4_transfer_41 (fun h hh => ⟨_, hh.cus hi_i, rfl⟩) ?_
      refine y_iload_n (pc := 44) C dX4_transfer_44 5 rfl ?_
      refine y_icmp_lt (pc := 45) (tgt := 63) C dX4_transfer_45 (by decide) (by omega) (by omega) (by omega) (by omega) (fun c45 => ?_) (fun c45 => ?_)
      · skip
        exact y_throw (pc := 63) C E th_IS sw_X4_157 dX4_transfer_63 dX4_transfer_66 dX4_transfer_67 dX4_transfer_69 dX4_transfer_72 (by decide) (Nat.le_of_ble_eq_true rfl) (by decide) (by decide) (fun h hh => ⟨3, List.Mem.tail _ (List.Mem.tail _ (List.Mem.head _)), (by (try simp only [decide_eq_true_eq, decide_eq_false_iff_not] at c16 c26 c45); unfold trK; (try simp only [Int.toNat_natCast]); split <;> (try split) <;> (try split) <;> first | rfl | omega), hh⟩)
      · skip
        refine y_aload (pc := 48) C dX4_transfer_48 0 rfl ?_
        refine y_get (pc := 50) C fg_X4_156 dX4_transfer_50 (fun h hh => ⟨_, hh.cus hi_j, rfl⟩) ?_
        refine y_aload (pc := 53) C dX4_transfer_53 0 rfl ?_
        refine y_get (pc := 55) C fg_X4_153 dX4_transfer_55 (fun h hh => ⟨_, hh.cus hi_j, rfl⟩) ?_
        refine y_isub (pc := 58) C dX4_transfer_58 ?_
        refine y_iload_n (pc := 59) C dX4_transfer_59 5 rfl ?_
        refine y_icmp_ge (pc := 60) (tgt := 73) C dX4_transfer_60 (by decide) (by omega) (by omega) (by omega) (by omega) (fun c60 => ?_) (fun c60 => ?_)
        · skip
          refine y_aload (pc := 73) C dX4_transfer_73 1 rfl ?_
          refine y_dup (pc := 75) C dX4_transfer_75 rfl ?_
          refine y_get (pc := 76) C fg_X4_153 dX4_transfer_76 (fun h hh => ⟨_, hh.cus hi_i, rfl⟩) ?_
          refine y_iload_n (pc := 79) C dX4_transfer_79 5 rfl ?_
          refine y_isub (pc := 80) C dX4_transfer_80 ?_
          refine k_putC (pc := 81) C 5 21 rfl hi_i (by omega) fp_X4_153 dX4_transfer_81 ?_
          refine y_aload (pc := 84) C dX4_transfer_84 0 rfl ?_
          refine y_dup (pc := 86) C dX4_transfer_86 rfl ?_
          refine y_get (pc := 87) C fg_X4_153 dX4_transfer_87 (fun h hh => ⟨_, hh.cus hi_j, rfl⟩) ?_
          refine y_iload_n (pc := 90) C dX4_transfer_90 5 rfl ?_
          refine y_iadd (pc := 91) C dX4_transfer_91 ?_
          refine k_putC (pc := 92) C 5 21 rfl hi_j (by omega) fp_X4_153 dX4_transfer_92 ?_
          refine y_aload (pc := 95) C dX4_transfer_95 0 rfl ?_
          refine y_get (pc := 97) C fg_X4_153 dX4_transfer_97 (fun h hh => ⟨_, hh.cus hi_j, rfl⟩) ?_
          exact y_iret (pc := 100) C E dX4_transfer_100 (by decide) (by decide) (fun h hh => ⟨(by (try simp only [decide_eq_true_eq, decide_eq_false_iff_not] at c16 c26 c45 c60); unfold trK; (try simp only [Int.toNat_natCast]); split <;> (try split) <;> (try split) <;> first | rfl | omega), rfl, hh⟩)
        · skip
          exact y_throw (pc := 63) C E th_IS sw_X4_157 dX4_transfer_63 dX4_transfer_66 dX4_transfer_67 dX4_transfer_69 dX4_transfer_72 (by decide) (Nat.le_of_ble_eq_true rfl) (by decide) (by decide) (fun h hh => ⟨3, List.Mem.tail _ (List.Mem.tail _ (List.Mem.head _)), (by (try simp only [decide_eq_true_eq, decide_eq_false_iff_not] at c16 c26 c45 c60); unfold trK; (try simp only [Int.toNat_natCast]); split <;> (try split) <;> (try split) <;> first | rfl | omega), hh⟩)
    · skip
      exact y_throw (pc := 29) C E th_IA sw_X4_151 dX4_transfer_29 dX4_transfer_32 dX4_transfer_33 dX4_transfer_35 dX4_transfer_38 (by decide) (Nat.le_of_ble_eq_true rfl) (by decide) (by decide) (fun h hh => ⟨2, List.Mem.tail _ (List.Mem.head _), (by (try simp only [decide_eq_true_eq, decide_eq_false_iff_not] at c16 c26); unfold trK; (try simp only [Int.toNat_natCast]); split <;> (try split) <;> (try split) <;> first | rfl | omega), hh⟩)

set_option maxRecDepth 20000 in
theorem mg_price {Ω : OmT} {hR : AH} {lay : Nat → Nat → Nat} {ξ : XiT} {ms ns nc nl : Nat} {σ : ZT} {τ : JT} (hwf : Wf σ ns nc nl) (hms : ns ≤ ms) (t : Int) (h_t : -2147483648 ≤ t ∧ t < 2147483648) (u : Int) (h_u : -2147483648 ≤ u ∧ u < 2147483648)  : Ct Ω yX4_price cX4_price 3 (some FieldType.int) (rkc 8 1 6) [.ref (lay 0 0), .int (iv t), .int (iv u)] (InvC Ω lay ms ns nc nl ξ σ τ) hR (FK (prK σ t u) (.int (iv (ξ.1 (t.toNat % 64)))) (InvC Ω lay ms ns nc nl (fun j => if j = t.toNat % 64 then u else ξ.1 j, ξ.2) σ τ)) (XT (prK σ t u) [(sIA, 1)] (InvC Ω lay ms ns nc nl ξ σ τ)) := by
  refine Ct.of (own := RX4) (L := [(0, _), (1, _), (2, _)]) (by decide +kernel) rfl (Nat.le_of_ble_eq_true rfl) rfl ?_
  intro κ C hn E hi
  have hs2 := hwf.2.1
  have hc2 := hwf.2.2.2.1
  have hl2 := hwf.2.2.2.2.1.2.1
  have hnow := hwf.2.2.2.2.2.1.2
  have hst := hwf.2.2.2.2.2.2.1
  have hcu := hwf.2.2.2.2.2.2.2.1
  have o2 := hwf.1
  have o16 := hwf.2.2.1
  have o27 := hwf.2.2.2.2.1.1
  refine y_iload_n (pc := 0) C dX4_price_0 1 rfl ?_
  refine y_aload_n (pc := 1) C dX4_price_1 0 rfl ?_
  refine y_get (pc := 2) C fg_X4_29 dX4_price_2 (fun h hh => ⟨_, hh.gas, rfl⟩) ?_
  refine y_aload_n (pc := 5) C dX4_price_5 0 rfl ?_
  refine y_get (pc := 6) C fg_X4_29 dX4_price_6 (fun h hh => ⟨_, hh.gas, rfl⟩) ?_
  refine y_bipush (pc := 9) (z := 60) C dX4_price_9 (by decide) ?_
  refine y_iadd (pc := 11) C dX4_price_11 ?_
  refine y_callS (pc := 12) (As := [_, _, _]) C E.2.1 cs_X4_52 (mg_isWithin _ _ _ ⟨by omega, by omega⟩ ⟨by omega, by omega⟩ ⟨by omega, by omega⟩) rfl rfl (Nat.le_of_ble_eq_true rfl) ⟨by decide, by decide, by decide, by decide⟩ dX4_price_12 ⟨rfl, rfl⟩ ?_
  refine y_ifb_eq (pc := 15) (tgt := 31) C dX4_price_15 (by decide) (fun c15 => ?_) (fun c15 => ?_)
  · skip
    exact y_throw (pc := 31) C E th_IA sw_X4_169 dX4_price_31 dX4_price_34 dX4_price_35 dX4_price_37 dX4_price_40 (by decide) (Nat.le_of_ble_eq_true rfl) (by decide) (by decide) (fun h hh => ⟨1, List.Mem.head _, (by (try simp only [decide_eq_true_eq, decide_eq_false_iff_not] at c15); unfold prK; (try simp only [Int.toNat_natCast]); split <;> (try split) <;> (try split) <;> first | rfl | omega), hh⟩)
  · skip
    refine y_iload_n (pc := 18) C dX4_price_18 2 rfl ?_
    refine y_sipush (pc := 19) (z := (-1000)) C dX4_price_19 (by decide) ?_
    refine y_sipush (pc := 22) (z := 1000) C dX4_price_22 (by decide) ?_
    refine y_callS (pc := 25) (As := [_, _, _]) C E.2.1 cs_X4_52 (mg_isWithin _ _ _ ⟨by omega, by omega⟩ ⟨by omega, by omega⟩ ⟨by omega, by omega⟩) rfl rfl (Nat.le_of_ble_eq_true rfl) ⟨by decide, by decide, by decide, by decide⟩ dX4_price_25 ⟨rfl, rfl⟩ ?_
    refine y_ifb_ne (pc := 28) (tgt := 41) C dX4_price_28 (by decide) (fun c28 => ?_) (fun c28 => ?_)
    · skip
      have c15a := of_decide_eq_true c15
      obtain ⟨t, rfl⟩ : ∃ t9 : Nat, t = t9 := ⟨t.toNat, by omega⟩
      refine y_aload_n (pc := 41) C dX4_price_41 0 rfl ?_
      refine y_get (pc := 42) C fg_X4_25 dX4_price_42 (fun h hh => ⟨_, hh.gas, rfl⟩) ?_
      refine y_iload_n (pc := 45) C dX4_price_45 1 rfl ?_
      refine y_iload_n (pc := 46) C dX4_price_46 2 rfl ?_
      refine y_callV (pc := 47) (As := [_, _]) C E.2.1 cv_X4_148 (ci := 2) rfl rfl (mc_put (lay 0 4) (lay 0 5) _ t u (by omega) (fun h hh => hh.pri) (fun h hh => hh.putA)) (fun h hh => ⟨_, hh.pri.1⟩) rfl rfl (Nat.le_of_ble_eq_true rfl) ⟨by decide, by decide, by decide, by decide⟩ dX4_price_47 ⟨rfl, rfl⟩ ?_
      exact y_iret (pc := 50) C E dX4_price_50 (by decide) (by decide) (fun h hh => ⟨(by (try simp only [decide_eq_true_eq, decide_eq_false_iff_not] at c15 c28); unfold prK; (try simp only [Int.toNat_natCast]); split <;> (try split) <;> (try split) <;> first | rfl | omega), rfl, hh⟩)
    · skip
      exact y_throw (pc := 31) C E th_IA sw_X4_169 dX4_price_31 dX4_price_34 dX4_price_35 dX4_price_37 dX4_price_40 (by decide) (Nat.le_of_ble_eq_true rfl) (by decide) (by decide) (fun h hh => ⟨1, List.Mem.head _, (by (try simp only [decide_eq_true_eq, decide_eq_false_iff_not] at c15 c28); unfold prK; (try simp only [Int.toNat_natCast]); split <;> (try split) <;> (try split) <;> first | rfl | omega), hh⟩)

set_option maxRecDepth 20000 in
theorem mg_pass {Ω : OmT} {hR : AH} {lay : Nat → Nat → Nat} {ξ : XiT} {ms ns nc nl : Nat} {σ : ZT} {τ : JT} (hwf : Wf σ ns nc nl) (hms : ns ≤ ms) (t : Int) (h_t : -2147483648 ≤ t ∧ t < 2147483648) (hf : FlOk ξ σ) : Ct Ω yX4_pass cX4_pass 3 (some FieldType.int) (rkc 8 1 6) [.ref (lay 0 0), .int (iv t)] (InvC Ω lay ms ns nc nl ξ σ τ) hR (FK (psK σ t) (.int (iv ((hours ns nc nl (σ, τ) t.toNat).1 1 0))) (InvC Ω lay ms ns nc nl (hoursX ns nc nl ξ (σ, τ) t.toNat) (hours ns nc nl (σ, τ) t.toNat).1 (hours ns nc nl (σ, τ) t.toNat).2)) (XT (psK σ t) [(sIA, 1), (sIS, 2)] (InvC Ω lay ms ns nc nl ξ σ τ)) := by
  refine Ct.of (own := RX4) (L := [(0, _), (1, _)]) (by decide +kernel) rfl (Nat.le_of_ble_eq_true rfl) rfl ?_
  intro κ C hn E hi
  have hs2 := hwf.2.1
  have hc2 := hwf.2.2.2.1
  have hl2 := hwf.2.2.2.2.1.2.1
  have hnow := hwf.2.2.2.2.2.1.2
  have hst := hwf.2.2.2.2.2.2.1
  have hcu := hwf.2.2.2.2.2.2.2.1
  have o2 := hwf.1
  have o16 := hwf.2.2.1
  have o27 := hwf.2.2.2.2.1.1
  refine y_iload_n (pc := 0) C dX4_pass_0 1 rfl ?_
  refine y_iconst (pc := 1) C dX4_pass_1 ?_
  refine y_sipush (pc := 2) (z := 240) C dX4_pass_2 (by decide) ?_
  refine y_callS (pc := 5) (As := [_, _, _]) C E.2.1 cs_X4_52 (mg_isWithin _ _ _ ⟨by omega, by omega⟩ ⟨by omega, by omega⟩ ⟨by omega, by omega⟩) rfl rfl (Nat.le_of_ble_eq_true rfl) ⟨by decide, by decide, by decide, by decide⟩ dX4_pass_5 ⟨rfl, rfl⟩ ?_
  refine y_ifb_ne (pc := 8) (tgt := 21) C dX4_pass_8 (by decide) (fun c8 => ?_) (fun c8 => ?_)
  · skip
    have c8a := of_decide_eq_true c8
    refine y_aload_n (pc := 21) C dX4_pass_21 0 rfl ?_
    refine y_get (pc := 22) C fg_X4_29 dX4_pass_22 (fun h hh => ⟨_, hh.gas, rfl⟩) ?_
    refine y_iload_n (pc := 25) C dX4_pass_25 1 rfl ?_
    refine y_iadd (pc := 26) C dX4_pass_26 ?_
    refine y_sipush (pc := 27) (z := 9900) C dX4_pass_27 (by decide) ?_
    refine y_icmp_le (pc := 30) (tgt := 43) C dX4_pass_30 (by decide) (by omega) (by omega) (by omega) (by omega) (fun c30 => ?_) (fun c30 => ?_)
    · skip
      refine y_iconst (pc := 43) C dX4_pass_43 ?_
      refine y_istore_n (pc := 44) (L' := [(2, _), (0, _), (1, _)]) C dX4_pass_44 (by rw [hn]; decide) rfl ?_
      have LP1 : ∀ (m1 : Nat) (i : Nat) (z : Int) (w : ZT) (v : JT), (k1 : t.toNat + 1 ≤ i + m1) → (k2 : i ≤ t.toNat) → (hz : z = i) → (hw : (w, v) = hours ns nc nl (σ, τ) i) → Y Ω κ (InvC Ω lay ms ns nc nl (hoursX ns nc nl ξ (σ, τ) i) w v) hR 0 0 45 [(2, .int (iv z)), (0, .ref (lay 0 0)), (1, .int (iv t))] [] := by
        intro m1
        induction m1 with
        | zero => intro i z w v k1 k2 hz hw; exfalso; omega
        | succ m1 ih1 =>
          intro i z w v k1 k2 hz hw
          have hh9 := wf_hours (p := (σ, τ)) (n := i) hwf (by show σ 1 0 + _ ≤ _; omega)
          rw [← hw] at hh9
          have hw1 : w 1 0 = σ 1 0 + i := hh9.2
          have hf9 := fl_hours (ξ := ξ) (p := (σ, τ)) (ns := ns) (nc := nc) (nl := nl) (n := i) hf
          rw [← hw] at hf9
          refine y_iload_n (pc := 45) C dX4_pass_45 0 rfl ?_
          refine y_iload_n (pc := 46) C dX4_pass_46 2 rfl ?_
          refine y_icmp_ge (pc := 47) (tgt := 60) C dX4_pass_47 (by decide) (by omega) (by omega) (by omega) (by omega) (fun c47 => ?_) (fun c47 => ?_)
          · skip
            have ei : i = t.toNat := by omega
            have eH : hours ns nc nl (σ, τ) t.toNat = (w, v) := by rw [hw, ei]
            refine y_aload_n (pc := 60) C dX4_pass_60 1 rfl ?_
            refine y_get (pc := 61) C fg_X4_29 dX4_pass_61 (fun h hh => ⟨_, hh.gas, rfl⟩) ?_
            exact y_iret (pc := 64) C E dX4_pass_64 (by decide) (by decide) (fun h hh => ⟨(by (try simp only [decide_eq_true_eq, decide_eq_false_iff_not] at c8 c30 c47); unfold psK; (try simp only [Int.toNat_natCast]); split <;> (try split) <;> (try split) <;> first | rfl | omega), by rw [eH], by rw [eH, ← ei]; exact hh⟩)
          · skip
            refine y_aload_n (pc := 50) C dX4_pass_50 1 rfl ?_
            refine y_callVv (pc := 51) (As := []) C E.2.1 cv_X4_175 (ci := 5) rfl rfl (mg_goOneHour hh9.1 hms hf9 (by show w 1 0 < _; omega)) (fun h hh => ⟨_, hh.gas⟩) rfl rfl (Nat.le_of_ble_eq_true rfl) ⟨by decide, by decide, by decide, by decide⟩ dX4_pass_51 ⟨rfl, rfl⟩ ?_
            rw [show hourX ns nc nl (hoursX ns nc nl ξ (σ, τ) i) w = hoursX ns nc nl ξ (σ, τ) (i + 1) from by show _ = hourX ns nc nl (hoursX ns nc nl ξ (σ, τ) i) (hours ns nc nl (σ, τ) i).1; rw [← hw]]
            refine y_iinc (pc := 54) (L' := [(2, _), (0, _), (1, _)]) C dX4_pass_54 0 rfl (by rw [hn]; decide) rfl ?_
            refine y_goto (pc := 57) (tgt := 45) C dX4_pass_57 (by decide) ?_
            refine Y.sub [0, 1, 2] rfl ?_
            exact ih1 (i + 1) _ _ _ (by omega) (by omega) (by omega) (by show _ = hourP ns nc nl (hours ns nc nl (σ, τ) i); rw [← hw])
      refine Y.sub [0, 1, 2] rfl ?_
      exact LP1 (t.toNat + 1) 0 0 σ τ (by omega) (by omega) rfl rfl
    · skip
      exact y_throw (pc := 33) C E th_IS sw_X4_173 dX4_pass_33 dX4_pass_36 dX4_pass_37 dX4_pass_39 dX4_pass_42 (by decide) (Nat.le_of_ble_eq_true rfl) (by decide) (by decide) (fun h hh => ⟨2, List.Mem.tail _ (List.Mem.head _), (by (try simp only [decide_eq_true_eq, decide_eq_false_iff_not] at c8 c30); unfold psK; (try simp only [Int.toNat_natCast]); split <;> (try split) <;> (try split) <;> first | rfl | omega), hh⟩)
  · skip
    exact y_throw (pc := 11) C E th_IA sw_X4_171 dX4_pass_11 dX4_pass_14 dX4_pass_15 dX4_pass_17 dX4_pass_20 (by decide) (Nat.le_of_ble_eq_true rfl) (by decide) (by decide) (fun h hh => ⟨1, List.Mem.head _, (by (try simp only [decide_eq_true_eq, decide_eq_false_iff_not] at c8); unfold psK; (try simp only [Int.toNat_natCast]); split <;> (try split) <;> (try split) <;> first | rfl | omega), hh⟩)

