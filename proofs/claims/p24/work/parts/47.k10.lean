set_option maxRecDepth 20000 in
theorem mg_store {Ω : OmT} {hR : AH} {lay : Nat → Nat → Nat} {ξ : XiT} {ns nc nl : Nat} {σ : ZT} {τ : JT} (hwf : Wf σ ns nc nl) (hms : ns ≤ ns) (k : Int) (h_k : -2147483648 ≤ k ∧ k < 2147483648) (v : Int) (h_v : -2147483648 ≤ v ∧ v < 2147483648) (g : Int) (h_g : -2147483648 ≤ g ∧ g < 2147483648) (lo : Int) (h_lo : -2147483648 ≤ lo ∧ lo < 2147483648) (gr : Int) (h_gr : -2147483648 ≤ gr ∧ gr < 2147483648) (m : Int) (h_m : -2147483648 ≤ m ∧ m < 2147483648) (hlo : LaO Ω lay) (hbl : Bl σ τ ns nc) : Ct Ω yX4_store cX4_store 8 (some FieldType.int) (rkc 11 2 60) [.ref (lay 0 0), .int (iv k), .int (iv v), .int (iv g), .int (iv lo), .int (iv gr), .int (iv m)] (InvC Ω lay ns ns nc nl ξ σ τ) hR (FK (stK σ k v g lo gr m) (.int (iv (σ 2 0 + 1 - 1))) (fun h => ∃ lay2, lay2 0 0 = lay 0 0 ∧ LaO Ω lay2 ∧ InvC Ω lay2 (ns + 1) (ns + 1) nc nl ξ ((stS ns k v g lo gr m (σ, τ)).1) ((stS ns k v g lo gr m (σ, τ)).2) h)) (XT (stK σ k v g lo gr m) [(sIA, 1), (sIS, 2)] (InvC Ω lay ns ns nc nl ξ σ τ)) := by
  refine Ct.of (own := RX4) (L := [(0, _), (1, _), (2, _), (3, _), (4, _), (5, _), (6, _)]) (by decide +kernel) rfl (Nat.le_of_ble_eq_true rfl) rfl ?_
  intro κ C hn E hi
  have hs2 := hwf.2.1
  have hc2 := hwf.2.2.2.1
  have hl2 := hwf.2.2.2.2.1.2.1
  have hnow := hwf.2.2.2.2.2.1.2
  have hst := hwf.2.2.2.2.2.2.1
  have hcu := hwf.2.2.2.2.2.2.2.1
  have o2 := hwf.1
  have o16 := hwf.2.2.1
  have o27 := hwf.2.2.2.2.1.1
  refine y_iload_n (pc := 0) C dX4_store_0 1 rfl ?_
  refine y_iconst (pc := 1) C dX4_store_1 ?_
  refine y_iconst (pc := 2) C dX4_store_2 ?_
  refine y_callS (pc := 3) (As := [_, _, _]) C E.2.1 cs_X4_52 (mg_isWithin _ _ _ ⟨by omega, by omega⟩ ⟨by omega, by omega⟩ ⟨by omega, by omega⟩) rfl rfl (Nat.le_of_ble_eq_true rfl) ⟨by decide, by decide, by decide, by decide⟩ dX4_store_3 ⟨rfl, rfl⟩ ?_
  refine y_ifb_eq (pc := 6) (tgt := 74) C dX4_store_6 (by decide) (fun c6 => ?_) (fun c6 => ?_)
  · skip
    exact y_throw (pc := 74) C E th_IA sw_X4_69 dX4_store_74 dX4_store_77 dX4_store_78 dX4_store_80 dX4_store_83 (by decide) (Nat.le_of_ble_eq_true rfl) (by decide) (by decide) (fun h hh => ⟨1, List.Mem.head _, (by (try simp only [decide_eq_true_eq, decide_eq_false_iff_not] at c6); unfold stK; (try simp only [Int.toNat_natCast]); split <;> (try split) <;> (try split) <;> first | rfl | omega), hh⟩)
  · skip
    refine y_iload_n (pc := 9) C dX4_store_9 2 rfl ?_
    refine y_iconst (pc := 10) C dX4_store_10 ?_
    refine y_ldc (pc := 11) (z := 100000) C aw_1_232 (by decide) dX4_store_11 ?_
    refine y_callS (pc := 13) (As := [_, _, _]) C E.2.1 cs_X4_52 (mg_isWithin _ _ _ ⟨by omega, by omega⟩ ⟨by omega, by omega⟩ ⟨by omega, by omega⟩) rfl rfl (Nat.le_of_ble_eq_true rfl) ⟨by decide, by decide, by decide, by decide⟩ dX4_store_13 ⟨rfl, rfl⟩ ?_
    refine y_ifb_eq (pc := 16) (tgt := 74) C dX4_store_16 (by decide) (fun c16 => ?_) (fun c16 => ?_)
    · skip
      exact y_throw (pc := 74) C E th_IA sw_X4_69 dX4_store_74 dX4_store_77 dX4_store_78 dX4_store_80 dX4_store_83 (by decide) (Nat.le_of_ble_eq_true rfl) (by decide) (by decide) (fun h hh => ⟨1, List.Mem.head _, (by (try simp only [decide_eq_true_eq, decide_eq_false_iff_not] at c6 c16); unfold stK; (try simp only [Int.toNat_natCast]); split <;> (try split) <;> (try split) <;> first | rfl | omega), hh⟩)
    · skip
      refine y_iload (pc := 19) C dX4_store_19 4 rfl ?_
      refine y_iconst (pc := 21) C dX4_store_21 ?_
      refine y_sipush (pc := 22) (z := 1000) C dX4_store_22 (by decide) ?_
      refine y_callS (pc := 25) (As := [_, _, _]) C E.2.1 cs_X4_52 (mg_isWithin _ _ _ ⟨by omega, by omega⟩ ⟨by omega, by omega⟩ ⟨by omega, by omega⟩) rfl rfl (Nat.le_of_ble_eq_true rfl) ⟨by decide, by decide, by decide, by decide⟩ dX4_store_25 ⟨rfl, rfl⟩ ?_
      refine y_ifb_eq (pc := 28) (tgt := 74) C dX4_store_28 (by decide) (fun c28 => ?_) (fun c28 => ?_)
      · skip
        exact y_throw (pc := 74) C E th_IA sw_X4_69 dX4_store_74 dX4_store_77 dX4_store_78 dX4_store_80 dX4_store_83 (by decide) (Nat.le_of_ble_eq_true rfl) (by decide) (by decide) (fun h hh => ⟨1, List.Mem.head _, (by (try simp only [decide_eq_true_eq, decide_eq_false_iff_not] at c6 c16 c28); unfold stK; (try simp only [Int.toNat_natCast]); split <;> (try split) <;> (try split) <;> first | rfl | omega), hh⟩)
      · skip
        refine y_iload (pc := 31) C dX4_store_31 5 rfl ?_
        refine y_iload (pc := 33) C dX4_store_33 4 rfl ?_
        refine y_sipush (pc := 35) (z := 1000) C dX4_store_35 (by decide) ?_
        refine y_callS (pc := 38) (As := [_, _, _]) C E.2.1 cs_X4_52 (mg_isWithin _ _ _ ⟨by omega, by omega⟩ ⟨by omega, by omega⟩ ⟨by omega, by omega⟩) rfl rfl (Nat.le_of_ble_eq_true rfl) ⟨by decide, by decide, by decide, by decide⟩ dX4_store_38 ⟨rfl, rfl⟩ ?_
        refine y_ifb_eq (pc := 41) (tgt := 74) C dX4_store_41 (by decide) (fun c41 => ?_) (fun c41 => ?_)
        · skip
          exact y_throw (pc := 74) C E th_IA sw_X4_69 dX4_store_74 dX4_store_77 dX4_store_78 dX4_store_80 dX4_store_83 (by decide) (Nat.le_of_ble_eq_true rfl) (by decide) (by decide) (fun h hh => ⟨1, List.Mem.head _, (by (try simp only [decide_eq_true_eq, decide_eq_false_iff_not] at c6 c16 c28 c41); unfold stK; (try simp only [Int.toNat_natCast]); split <;> (try split) <;> (try split) <;> first | rfl | omega), hh⟩)
        · skip
          refine y_iload (pc := 44) C dX4_store_44 6 rfl ?_
          refine y_iconst (pc := 46) C dX4_store_46 ?_
          refine y_ldc (pc := 47) (z := 1000000) C aw_1_233 (by decide) dX4_store_47 ?_
          refine y_callS (pc := 49) (As := [_, _, _]) C E.2.1 cs_X4_52 (mg_isWithin _ _ _ ⟨by omega, by omega⟩ ⟨by omega, by omega⟩ ⟨by omega, by omega⟩) rfl rfl (Nat.le_of_ble_eq_true rfl) ⟨by decide, by decide, by decide, by decide⟩ dX4_store_49 ⟨rfl, rfl⟩ ?_
          refine y_ifb_eq (pc := 52) (tgt := 74) C dX4_store_52 (by decide) (fun c52 => ?_) (fun c52 => ?_)
          · skip
            exact y_throw (pc := 74) C E th_IA sw_X4_69 dX4_store_74 dX4_store_77 dX4_store_78 dX4_store_80 dX4_store_83 (by decide) (Nat.le_of_ble_eq_true rfl) (by decide) (by decide) (fun h hh => ⟨1, List.Mem.head _, (by (try simp only [decide_eq_true_eq, decide_eq_false_iff_not] at c6 c16 c28 c41 c52); unfold stK; (try simp only [Int.toNat_natCast]); split <;> (try split) <;> (try split) <;> first | rfl | omega), hh⟩)
          · skip
            have c16a := of_decide_eq_true c16
            have c28a := of_decide_eq_true c28
            have c41a := of_decide_eq_true c41
            have hm1 := mz_b (p := lo) (r := v) (by omega) (by omega) (by omega) (by omega)
            have hm2 := mz_b (p := gr) (r := v) (by omega) (by omega) (by omega) (by omega)
            refine y_iload_n (pc := 55) C dX4_store_55 3 rfl ?_
            refine y_iload (pc := 56) C dX4_store_56 4 rfl ?_
            refine y_iload_n (pc := 58) C dX4_store_58 2 rfl ?_
            refine y_callS (pc := 59) (As := [_, _]) C E.2.1 cs_X4_58 (mc_leastGasFor _ _ ⟨by omega, by omega⟩ ⟨by omega, by omega⟩) rfl rfl (Nat.le_of_ble_eq_true rfl) ⟨by decide, by decide, by decide, by decide⟩ dX4_store_59 ⟨rfl, rfl⟩ ?_
            refine y_iload (pc := 62) C dX4_store_62 5 rfl ?_
            refine y_iload_n (pc := 64) C dX4_store_64 2 rfl ?_
            refine y_callS (pc := 65) (As := [_, _]) C E.2.1 cs_X4_64 (mc_mostGasFor _ _ ⟨by omega, by omega⟩ ⟨by omega, by omega⟩) rfl rfl (Nat.le_of_ble_eq_true rfl) ⟨by decide, by decide, by decide, by decide⟩ dX4_store_65 ⟨rfl, rfl⟩ ?_
            refine y_callS (pc := 68) (As := [_, _, _]) C E.2.1 cs_X4_52 (mg_isWithin _ _ _ ⟨by omega, by omega⟩ ⟨by omega, by omega⟩ ⟨by omega, by omega⟩) rfl rfl (Nat.le_of_ble_eq_true rfl) ⟨by decide, by decide, by decide, by decide⟩ dX4_store_68 ⟨rfl, rfl⟩ ?_
            refine y_ifb_ne (pc := 71) (tgt := 84) C dX4_store_71 (by decide) (fun c71 => ?_) (fun c71 => ?_)
            · skip
              have c71a := of_decide_eq_true c71
              have c6a := of_decide_eq_true c6
              have c52a := of_decide_eq_true c52
              refine y_aload_n (pc := 84) C dX4_store_84 0 rfl ?_
              refine y_get (pc := 85) C fg_X4_10 dX4_store_85 (fun h hh => ⟨_, hh.gas, rfl⟩) ?_
              refine y_callV (pc := 88) (As := []) C E.2.1 cv_X4_74 (ci := 0) rfl rfl (mc_size (lay 0 1) (lay 6 1) ns (lay 1) (by omega) (fun h hh => hh.li1)) (fun h hh => hh.li1.obj) rfl rfl (Nat.le_of_ble_eq_true rfl) ⟨by decide, by decide, by decide, by decide⟩ dX4_store_88 ⟨rfl, rfl⟩ ?_
              refine y_iconst (pc := 91) C dX4_store_91 ?_
              refine y_icmp_lt (pc := 92) (tgt := 105) C dX4_store_92 (by decide) (by omega) (by omega) (by omega) (by omega) (fun c92 => ?_) (fun c92 => ?_)
              · skip
                refine y_new (pc := 105) C fn_X4_59 dX4_store_105 (by rw [E.2.1]; decide) (by rw [E.2.1]; decide) (fun a => ?_)
                refine Y.ex fun h0 => Y.and fun hv0 => Y.and fun ha => Y.and fun ha2 => ?_
                refine y_dup (pc := 108) C dX4_store_108 rfl ?_
                refine y_iload_n (pc := 109) C dX4_store_109 1 rfl ?_
                refine y_iload_n (pc := 110) C dX4_store_110 2 rfl ?_
                refine y_iload (pc := 111) C dX4_store_111 4 rfl ?_
                refine y_iload (pc := 113) C dX4_store_113 5 rfl ?_
                refine y_iload (pc := 115) C dX4_store_115 6 rfl ?_
                refine y_callI (pc := 117) (As := [_, _, _, _, _]) C E.2.1 ci_X4_83 (mc_sinit h0 a k v lo gr m) rfl rfl (Nat.le_of_ble_eq_true rfl) ⟨by decide, by decide, by decide, by decide⟩ dX4_store_117 ⟨rfl, rfl⟩ ?_
                refine y_astore (pc := 120) (L' := [(7, _), (0, _), (1, _), (2, _), (3, _), (4, _), (5, _), (6, _)]) C dX4_store_120 (by rw [hn]; decide) rfl ?_
                have hv1 := hv0.newS (s := st1 ns k v lo gr m σ) (t := ju τ 13 ns (jv 0)) ha (fun f hf => by simp only [List.mem_cons, List.not_mem_nil, or_false] at hf; unfold st1; rw [zu_n (by omega), zu_n (by omega), zu_n (by omega), zu_n (by omega), zu_n (by omega), zu_n (by omega)]) (fun f j hj => by unfold st1; rw [zu_o hj, zu_o hj, zu_o hj, zu_o hj, zu_o hj, zu_o hj]) (fun f hf => ju_n hf) (fun j hj => ju_j hj)
                rw [st1_L hbl] at hv1
                obtain ⟨la, hla⟩ : ∃ la, la = lU lay 1 ns a := ⟨_, rfl⟩
                have e00 : la 0 0 = lay 0 0 := by rw [hla]; rfl
                have hlo1 : LaO Ω la := by rw [hla]; exact hlo
                have ea : la 1 ns = a := by rw [hla]; exact lU_s
                rw [← hla] at hv1
                rw [← e00, ← ea]
                rw [← ea] at hv1
                refine Y.imp (Φ' := InvC Ω la (ns + 1) ns nc nl ξ (st1 ns k v lo gr m σ) (ju τ 13 ns (jv 0))) (fun h hh => by rw [hh]; exact hv1) ?_
                refine y_aload (pc := 122) C dX4_store_122 0 rfl ?_
                refine y_iload_n (pc := 124) C dX4_store_124 4 rfl ?_
                refine y_aload_n (pc := 125) C dX4_store_125 1 rfl ?_
                refine y_get (pc := 126) C fg_X4_33 dX4_store_126 (fun h hh => ⟨_, hh.gas, rfl⟩) ?_
                have h15 := hwf.2.2.2.2.2.2.2.2.2.2
                refine y_callVv (pc := 129) (As := [_, _]) C E.2.1 cv_X4_86 (ci := 4) rfl rfl (mc_takeIn ns (by omega) g _ ⟨by omega, by omega⟩ ⟨by show -2147483648 ≤ σ 15 0; omega, by show σ 15 0 < 2147483648; omega⟩) (fun h hh => ⟨_, hh.sto (by omega)⟩) rfl rfl (Nat.le_of_ble_eq_true rfl) ⟨by decide, by decide, by decide, by decide⟩ dX4_store_129 ⟨rfl, rfl⟩ ?_
                refine y_aload_n (pc := 132) C dX4_store_132 1 rfl ?_
                refine y_get (pc := 133) C fg_X4_10 dX4_store_133 (fun h hh => ⟨_, hh.gas, rfl⟩) ?_
                refine y_aload (pc := 136) C dX4_store_136 0 rfl ?_
                refine Y.nE C ?_
                refine Y.at (fun h1 hh1 => ?_)
                obtain ⟨mc9, hl9, hd9⟩ := hh1.2.li1.pre
                refine y_callVX (pc := 138) (As := [_]) C E.2.1 cv_X4_90 (ci := 0) rfl rfl (mc_add h1 (la 0 1) (la 6 1) ns (la 1 ns) 4 mc9 (la 1) (RX3, TX3, 11) rfl (nw_in nw_4_19 rfl) hl9 ⟨_, hh1.2.sto (k := ns) (by omega)⟩ (by omega) (hd9.imp id (fun ⟨cap9, f9, d1, d2, d3, d4, d5⟩ => ⟨cap9, f9, d1, d2, d3, d4, d5, fun i9 hi9 => ⟨_, hh1.2.sto (k := i9) (by omega)⟩⟩)) (by decide) (hh1.2.li1.en hh1.1) (fun i9 hi9 q9 => by have w9 := hh1.2.sto (k := i9) (by omega); rw [q9, hl9] at w9; cases w9)) (fun h hh => ⟨_, (congrFun hh _).trans hl9⟩) rfl rfl (Nat.le_of_ble_eq_true rfl) ⟨by decide, by decide, by decide, by decide⟩ dX4_store_138 (fun rv => ?_) (fun E0 => y_nx)
                refine Y.and fun er => ?_
                subst er
                refine Y.imp (Φ' := fun h => ∃ lay2, lay2 0 0 = la 0 0 ∧ LaO Ω lay2 ∧ InvC Ω lay2 (ns + 1) (ns + 1) nc nl ξ _ _ h) (fun h hh => by obtain ⟨mc8, a8, cap8, g8, hh⟩ := hh; exact hh1.2.addS hlo1 hh1.1 hh) ?_
                refine Y.ex fun lay2 => Y.and fun e2 => Y.and fun lo2 => ?_
                rw [← e2]
                refine y_pop (pc := 141) C dX4_store_141 rfl ?_
                refine y_aload_n (pc := 142) C dX4_store_142 1 rfl ?_
                refine y_dup (pc := 143) C dX4_store_143 rfl ?_
                refine y_get (pc := 144) C fg_X4_42 dX4_store_144 (fun h hh => ⟨_, hh.gas, rfl⟩) ?_
                refine y_iload_n (pc := 147) C dX4_store_147 4 rfl ?_
                refine y_i2l (pc := 148) C dX4_store_148 (by omega) (by omega) ?_
                refine y_laddR (pc := 149) C dX4_store_149 ?_
                refine k_putGJ (pc := 150) C 8 33 rfl (by omega) fp_X4_42 dX4_store_150 ?_
                refine y_aload_n (pc := 153) C dX4_store_153 1 rfl ?_
                refine y_get (pc := 154) C fg_X4_10 dX4_store_154 (fun h hh => ⟨_, hh.gas, rfl⟩) ?_
                refine y_callV (pc := 157) (As := []) C E.2.1 cv_X4_74 (ci := 0) rfl rfl (mc_size (lay2 0 1) (lay2 6 1) (ns + 1) (lay2 1) (by omega) (fun h hh => hh.li1)) (fun h hh => hh.li1.obj) rfl rfl (Nat.le_of_ble_eq_true rfl) ⟨by decide, by decide, by decide, by decide⟩ dX4_store_157 ⟨rfl, rfl⟩ ?_
                refine y_iconst (pc := 160) C dX4_store_160 ?_
                refine y_isub (pc := 161) C dX4_store_161 ?_
                exact y_iret (pc := 162) C E dX4_store_162 (by decide) (by decide) (fun h hh => ⟨(by (try simp only [decide_eq_true_eq, decide_eq_false_iff_not] at c6 c16 c28 c41 c52 c71 c92); unfold stK; (try simp only [Int.toNat_natCast]); split <;> (try split) <;> (try split) <;> first | rfl | omega), by rw [o2, show (((ns + 1 : Nat) : Int) - 1) = (ns : Int) + 1 - 1 by omega], lay2, e2.trans e00, lo2, hh.d (fun f hf => by simp only [List.mem_cons, List.not_mem_nil, or_false] at hf; rcases hf with rfl | rfl <;> rfl) (fun f hf => by simp only [List.mem_cons, List.not_mem_nil, or_false] at hf; rcases hf with rfl | rfl | rfl <;> rfl) (fun j _ => st1_S j) (fun c _ => ⟨rfl, rfl⟩) (fun j _ => rfl)⟩)
              · skip
                exact y_throw (pc := 95) C E th_IS sw_X4_80 dX4_store_95 dX4_store_98 dX4_store_99 dX4_store_101 dX4_store_104 (by decide) (Nat.le_of_ble_eq_true rfl) (by decide) (by decide) (fun h hh => ⟨2, List.Mem.tail _ (List.Mem.head _), (by (try simp only [decide_eq_true_eq, decide_eq_false_iff_not] at c6 c16 c28 c41 c52 c71 c92); unfold stK; (try simp only [Int.toNat_natCast]); split <;> (try split) <;> (try split) <;> first | rfl | omega), hh⟩)
            · skip
              exact y_throw (pc := 74) C E th_IA sw_X4_69 dX4_store_74 dX4_store_77 dX4_store_78 dX4_store_80 dX4_store_83 (by decide) (Nat.le_of_ble_eq_true rfl) (by decide) (by decide) (fun h hh => ⟨1, List.Mem.head _, (by (try simp only [decide_eq_true_eq, decide_eq_false_iff_not] at c6 c16 c28 c41 c52 c71); unfold stK; (try simp only [Int.toNat_natCast]); split <;> (try split) <;> (try split) <;> first | rfl | omega), hh⟩)

set_option maxRecDepth 20000 in
theorem mg_customer {Ω : OmT} {hR : AH} {lay : Nat → Nat → Nat} {ξ : XiT} {ns nc nl : Nat} {σ : ZT} {τ : JT} (hwf : Wf σ ns nc nl) (hms : ns ≤ ns) (v : Int) (h_v : -2147483648 ≤ v ∧ v < 2147483648) (i : Int) (h_i : -2147483648 ≤ i ∧ i < 2147483648) (o : Int) (h_o : -2147483648 ≤ o ∧ o < 2147483648) (r : Int) (h_r : -2147483648 ≤ r ∧ r < 2147483648) (hlo : LaO Ω lay) (hbl : Bl σ τ ns nc) : Ct Ω yX4_customer cX4_customer 5 (some FieldType.int) (rkc 11 4 160) [.ref (lay 0 0), .int (iv v), .int (iv i), .int (iv o), .int (iv r)] (InvC Ω lay ns ns nc nl ξ σ τ) hR (FK (cuK σ v i o r) (.int (iv (σ 16 0 + 1 - 1))) (fun h => ∃ lay2, lay2 0 0 = lay 0 0 ∧ LaO Ω lay2 ∧ InvC Ω lay2 ns ns (nc + 1) nl ξ (cuS nc v i o r σ) (τ) h)) (XT (cuK σ v i o r) [(sIA, 1), (sIS, 2)] (InvC Ω lay ns ns nc nl ξ σ τ)) := by
  refine Ct.of (own := RX4) (L := [(0, _), (1, _), (2, _), (3, _), (4, _)]) (by decide +kernel) rfl (Nat.le_of_ble_eq_true rfl) rfl ?_
  intro κ C hn E hi
  have hs2 := hwf.2.1
  have hc2 := hwf.2.2.2.1
  have hl2 := hwf.2.2.2.2.1.2.1
  have hnow := hwf.2.2.2.2.2.1.2
  have hst := hwf.2.2.2.2.2.2.1
  have hcu := hwf.2.2.2.2.2.2.2.1
  have o2 := hwf.1
  have o16 := hwf.2.2.1
  have o27 := hwf.2.2.2.2.1.1
  refine y_iload_n (pc := 0) C dX4_customer_0 1 rfl ?_
  refine y_iconst (pc := 1) C dX4_customer_1 ?_
  refine y_ldc (pc := 2) (z := 1000000) C aw_1_233 (by decide) dX4_customer_2 ?_
  refine y_callS (pc := 4) (As := [_, _, _]) C E.2.1 cs_X4_52 (mg_isWithin _ _ _ ⟨by omega, by omega⟩ ⟨by omega, by omega⟩ ⟨by omega, by omega⟩) rfl rfl (Nat.le_of_ble_eq_true rfl) ⟨by decide, by decide, by decide, by decide⟩ dX4_customer_4 ⟨rfl, rfl⟩ ?_
  refine y_ifb_eq (pc := 7) (tgt := 40) C dX4_customer_7 (by decide) (fun c7 => ?_) (fun c7 => ?_)
  · skip
    exact y_throw (pc := 40) C E th_IA sw_X4_129 dX4_customer_40 dX4_customer_43 dX4_customer_44 dX4_customer_46 dX4_customer_49 (by decide) (Nat.le_of_ble_eq_true rfl) (by decide) (by decide) (fun h hh => ⟨1, List.Mem.head _, (by (try simp only [decide_eq_true_eq, decide_eq_false_iff_not] at c7); unfold cuK; (try simp only [Int.toNat_natCast]); split <;> (try split) <;> (try split) <;> first | rfl | omega), hh⟩)
  · skip
    refine y_iload_n (pc := 10) C dX4_customer_10 2 rfl ?_
    refine y_iconst (pc := 11) C dX4_customer_11 ?_
    refine y_ldc (pc := 12) (z := 100000) C aw_1_232 (by decide) dX4_customer_12 ?_
    refine y_callS (pc := 14) (As := [_, _, _]) C E.2.1 cs_X4_52 (mg_isWithin _ _ _ ⟨by omega, by omega⟩ ⟨by omega, by omega⟩ ⟨by omega, by omega⟩) rfl rfl (Nat.le_of_ble_eq_true rfl) ⟨by decide, by decide, by decide, by decide⟩ dX4_customer_14 ⟨rfl, rfl⟩ ?_
    refine y_ifb_eq (pc := 17) (tgt := 40) C dX4_customer_17 (by decide) (fun c17 => ?_) (fun c17 => ?_)
    · skip
      exact y_throw (pc := 40) C E th_IA sw_X4_129 dX4_customer_40 dX4_customer_43 dX4_customer_44 dX4_customer_46 dX4_customer_49 (by decide) (Nat.le_of_ble_eq_true rfl) (by decide) (by decide) (fun h hh => ⟨1, List.Mem.head _, (by (try simp only [decide_eq_true_eq, decide_eq_false_iff_not] at c7 c17); unfold cuK; (try simp only [Int.toNat_natCast]); split <;> (try split) <;> (try split) <;> first | rfl | omega), hh⟩)
    · skip
      refine y_iload_n (pc := 20) C dX4_customer_20 3 rfl ?_
      refine y_iconst (pc := 21) C dX4_customer_21 ?_
      refine y_ldc (pc := 22) (z := 100000) C aw_1_232 (by decide) dX4_customer_22 ?_
      refine y_callS (pc := 24) (As := [_, _, _]) C E.2.1 cs_X4_52 (mg_isWithin _ _ _ ⟨by omega, by omega⟩ ⟨by omega, by omega⟩ ⟨by omega, by omega⟩) rfl rfl (Nat.le_of_ble_eq_true rfl) ⟨by decide, by decide, by decide, by decide⟩ dX4_customer_24 ⟨rfl, rfl⟩ ?_
      refine y_ifb_eq (pc := 27) (tgt := 40) C dX4_customer_27 (by decide) (fun c27 => ?_) (fun c27 => ?_)
      · skip
        exact y_throw (pc := 40) C E th_IA sw_X4_129 dX4_customer_40 dX4_customer_43 dX4_customer_44 dX4_customer_46 dX4_customer_49 (by decide) (Nat.le_of_ble_eq_true rfl) (by decide) (by decide) (fun h hh => ⟨1, List.Mem.head _, (by (try simp only [decide_eq_true_eq, decide_eq_false_iff_not] at c7 c17 c27); unfold cuK; (try simp only [Int.toNat_natCast]); split <;> (try split) <;> (try split) <;> first | rfl | omega), hh⟩)
      · skip
        refine y_iload (pc := 30) C dX4_customer_30 4 rfl ?_
        refine y_iconst (pc := 32) C dX4_customer_32 ?_
        refine y_iconst (pc := 33) C dX4_customer_33 ?_
        refine y_callS (pc := 34) (As := [_, _, _]) C E.2.1 cs_X4_52 (mg_isWithin _ _ _ ⟨by omega, by omega⟩ ⟨by omega, by omega⟩ ⟨by omega, by omega⟩) rfl rfl (Nat.le_of_ble_eq_true rfl) ⟨by decide, by decide, by decide, by decide⟩ dX4_customer_34 ⟨rfl, rfl⟩ ?_
        refine y_ifb_ne (pc := 37) (tgt := 50) C dX4_customer_37 (by decide) (fun c37 => ?_) (fun c37 => ?_)
        · skip
          refine y_aload_n (pc := 50) C dX4_customer_50 0 rfl ?_
          refine y_get (pc := 51) C fg_X4_16 dX4_customer_51 (fun h hh => ⟨_, hh.gas, rfl⟩) ?_
          refine y_callV (pc := 54) (As := []) C E.2.1 cv_X4_74 (ci := 0) rfl rfl (mc_size (lay 0 2) (lay 6 2) nc (lay 2) (by omega) (fun h hh => hh.li2)) (fun h hh => hh.li2.obj) rfl rfl (Nat.le_of_ble_eq_true rfl) ⟨by decide, by decide, by decide, by decide⟩ dX4_customer_54 ⟨rfl, rfl⟩ ?_
          refine y_bipush (pc := 57) (z := 6) C dX4_customer_57 (by decide) ?_
          refine y_icmp_lt (pc := 59) (tgt := 72) C dX4_customer_59 (by decide) (by omega) (by omega) (by omega) (by omega) (fun c59 => ?_) (fun c59 => ?_)
          · skip
            refine y_aload_n (pc := 72) C dX4_customer_72 0 rfl ?_
            refine y_get (pc := 73) C fg_X4_16 dX4_customer_73 (fun h hh => ⟨_, hh.gas, rfl⟩) ?_
            refine y_new (pc := 76) C fn_X4_133 dX4_customer_76 (by rw [E.2.1]; decide) (by rw [E.2.1]; decide) (fun a => ?_)
            refine Y.ex fun h0 => Y.and fun hv0 => Y.and fun ha => Y.and fun ha2 => ?_
            refine y_dup (pc := 79) C dX4_customer_79 rfl ?_
            refine y_iload_n (pc := 80) C dX4_customer_80 1 rfl ?_
            refine y_iload_n (pc := 81) C dX4_customer_81 2 rfl ?_
            refine y_iload_n (pc := 82) C dX4_customer_82 3 rfl ?_
            refine y_iload (pc := 83) C dX4_customer_83 4 rfl ?_
            refine y_callI (pc := 85) (As := [_, _, _, _]) C E.2.1 ci_X4_135 (mc_cinit h0 a v i o r) rfl rfl (Nat.le_of_ble_eq_true rfl) ⟨by decide, by decide, by decide, by decide⟩ dX4_customer_85 ⟨rfl, rfl⟩ ?_
            refine Y.ex fun b9 => Y.ex fun v9 => Y.and fun f1 => Y.and fun f2 => Y.and fun f3 => Y.and fun f4 => Y.and fun f5 => Y.and fun f6 => Y.and fun f7 => ?_
            have hv1 := ((hv0.fresh f2 (x := i64 Ω)).fresh (a := b9) (x := .inr (2, [.ref v9])) (by rw [hset_n (fun q => f7 q.symm)]; exact f1)).fresh (a := a) (x := .inr (1, [.int (iv v), .int (iv i), .int (iv o), .int (iv r), .ref b9, .int (iv 0), .long (jv 0), .long (jv 0), .long (jv 0), .int (iv 0), .int (iv 0), .int (iv 0)])) (by rw [hset_n (fun q => f5 q.symm), hset_n (fun q => f6 q.symm)]; exact ha)
            obtain ⟨la, hla⟩ : ∃ la, la = lU (lU (lU lay 2 nc a) 3 nc b9) 4 nc v9 := ⟨_, rfl⟩
            have e00 : la 0 0 = lay 0 0 := by rw [hla]; rfl
            have hlo1 : LaO Ω la := by rw [hla]; exact hlo
            have ea : la 2 nc = a := by rw [hla, lU_p (by omega), lU_p (by omega), lU_s]
            have eb : la 3 nc = b9 := by rw [hla, lU_p (by omega), lU_s]
            have ev : la 4 nc = v9 := by rw [hla, lU_s]
            have hv2 := hv1.rl (Nat.le_refl _) (la := la) (by rw [hla]; rfl) (by rw [hla]; rfl) (fun j _ => by rw [hla]; rfl) (fun j hj => by rw [hla, lU_p (by omega), lU_p (by omega), lU_j (by omega)]) (fun j hj => by rw [hla, lU_p (by omega), lU_j (by omega), lU_p (by omega)]) (fun j hj => by rw [hla, lU_j (by omega), lU_p (by omega), lU_p (by omega)]) (fun j _ => by rw [hla]; rfl)
            have hv3 := hv2.d (s := cu1 nc v i o r σ) (t := τ) (fun f hf => by simp only [List.mem_cons, List.not_mem_nil, or_false] at hf; rcases hf with rfl | rfl <;> rfl) (fun f hf => rfl) (fun j _ => StF_c (fun f hf => by simp only [List.mem_cons, List.not_mem_nil, or_false] at hf; rcases hf with rfl | rfl | rfl | rfl | rfl | rfl | rfl | rfl | rfl | rfl <;> rfl) rfl) (fun c hc => ⟨CuF_c (fun f hf => by unfold cu1; rw [zu_o (by omega), zu_o (by omega), zu_o (by omega), zu_o (by omega)]) rfl (fun f hf => rfl), rfl⟩) (fun j _ => rfl)
            obtain ⟨h2, hh2⟩ : ∃ h2, h2 = hset (hset (hset h0 v9 (i64 Ω)) b9 (.inr (2, [.ref v9]))) a (.inr (1, [.int (iv v), .int (iv i), .int (iv o), .int (iv r), .ref b9, .int (iv 0), .long (jv 0), .long (jv 0), .long (jv 0), .int (iv 0), .int (iv 0), .int (iv 0)])) := ⟨_, rfl⟩
            rw [← hh2] at hv3
            have hc0 : h2 (la 2 nc) = some (.inr (1, CuF la (cu1 nc v i o r σ) τ nc)) := by rw [cu1_L hbl eb, ea, hh2, hset_s]
            have hq0 : h2 (la 3 nc) = some (.inr (2, [.ref (la 4 nc)])) := by rw [eb, ev, hh2, hset_n f5, hset_s]
            have hn0 : h2 (la 4 nc) = some (.inl (OmI Ω, 64, .inl (fun j => iv (NF (cu1 nc v i o r σ) nc j)))) := by rw [ev, hh2, hset_n f6, hset_n f7, hset_s]; exact congrArg some (cu1_N hbl)
            have d2 : ∀ j, j < nc → la 2 j ≠ la 2 nc := fun j hj q => by have w := hv0.cus hj; have e9 : la 2 j = lay 2 j := (by rw [hla, lU_p (by omega), lU_p (by omega), lU_j (by omega)]); rw [← e9, q, ea, ha] at w; cases w
            have d4 : ∀ j, j < nc → la 4 j ≠ la 4 nc := fun j hj q => by have w := (hv0.hou hj).2; have e9 : la 4 j = lay 4 j := (by rw [hla, lU_j (by omega), lU_p (by omega), lU_p (by omega)]); rw [← e9, q, ev, f2] at w; cases w
            have d5 : la 4 nc ≠ la 0 5 := fun q => by have w := hv0.pri.2; have e9 : la 0 5 = lay 0 5 := (by rw [hla]; rfl); rw [← e9, ← q, ev, f2] at w; cases w
            rw [← e00, show lay 0 2 = la 0 2 from by rw [hla]; rfl, ← ea]
            rw [← ea] at hh2
            refine Y.imp (Φ' := fun h => InvC Ω la ns ns nc nl ξ (cu1 nc v i o r σ) τ h ∧ h = h2) (fun h hh => by rw [show h = h2 from hh.trans (by rw [hh2, ea])]; exact ⟨hv3, rfl⟩) ?_
            refine Y.nE C ?_
            refine Y.at (fun h1 hh1 => ?_)
            obtain ⟨mc9, hl9, hd9⟩ := hh1.2.1.li2.pre
            have hc9 := hc0
            have hq9 := hq0
            have hn9 := hn0
            rw [← hh1.2.2] at hc9 hq9 hn9
            refine y_callVX (pc := 88) (As := [_]) C E.2.1 cv_X4_90 (ci := 0) rfl rfl (mc_add h1 (la 0 2) (la 6 2) nc (la 2 nc) 1 mc9 (la 2) (RX0, TX0, 12) rfl (nw_in nw_4_21 rfl) hl9 ⟨_, hc9⟩ (by omega) (hd9.imp id (fun ⟨cap9, f9, d1, d2, d3, d4, d5⟩ => ⟨cap9, f9, d1, d2, d3, d4, d5, fun i9 hi9 => ⟨_, hh1.2.1.cus (c := i9) (by omega)⟩⟩)) (by decide) (hh1.2.1.li2.en hh1.1) (fun i9 hi9 q9 => by have w9 := hh1.2.1.cus (c := i9) (by omega); rw [q9, hl9] at w9; cases w9)) (fun h hh => ⟨_, (congrFun hh _).trans hl9⟩) rfl rfl (Nat.le_of_ble_eq_true rfl) ⟨by decide, by decide, by decide, by decide⟩ dX4_customer_88 (fun rv => ?_) (fun E0 => y_nx)
            refine Y.and fun er => ?_
            subst er
            refine Y.imp (Φ' := fun h => ∃ lay2, lay2 0 0 = la 0 0 ∧ LaO Ω lay2 ∧ InvC Ω lay2 ns ns (nc + 1) nl ξ _ _ h) (fun h hh => by obtain ⟨mc8, a8, cap8, g8, hh⟩ := hh; exact hh1.2.1.addC hlo1 hh1.1 hc9 hq9 hn9 d2 d4 d5 hh) ?_
            refine Y.ex fun lay2 => Y.and fun e2 => Y.and fun lo2 => ?_
            rw [← e2]
            refine y_pop (pc := 91) C dX4_customer_91 rfl ?_
            refine y_aload_n (pc := 92) C dX4_customer_92 0 rfl ?_
            refine y_get (pc := 93) C fg_X4_16 dX4_customer_93 (fun h hh => ⟨_, hh.gas, rfl⟩) ?_
            refine y_callV (pc := 96) (As := []) C E.2.1 cv_X4_74 (ci := 0) rfl rfl (mc_size (lay2 0 2) (lay2 6 2) (nc + 1) (lay2 2) (by omega) (fun h hh => hh.li2)) (fun h hh => hh.li2.obj) rfl rfl (Nat.le_of_ble_eq_true rfl) ⟨by decide, by decide, by decide, by decide⟩ dX4_customer_96 ⟨rfl, rfl⟩ ?_
            refine y_iconst (pc := 99) C dX4_customer_99 ?_
            refine y_isub (pc := 100) C dX4_customer_100 ?_
            exact y_iret (pc := 101) C E dX4_customer_101 (by decide) (by decide) (fun h hh => ⟨(by (try simp only [decide_eq_true_eq, decide_eq_false_iff_not] at c7 c17 c27 c37 c59); unfold cuK; (try simp only [Int.toNat_natCast]); split <;> (try split) <;> (try split) <;> first | rfl | omega), by rw [o16, show (((nc + 1 : Nat) : Int) - 1) = (nc : Int) + 1 - 1 by omega], lay2, e2.trans e00, lo2, hh.c (fun f hf => by unfold cuS; rw [zu_n (by intro q; subst q; revert hf; decide)]) (fun c _ => rfl) (fun f => rfl)⟩)
          · skip
            exact y_throw (pc := 62) C E th_IS sw_X4_131 dX4_customer_62 dX4_customer_65 dX4_customer_66 dX4_customer_68 dX4_customer_71 (by decide) (Nat.le_of_ble_eq_true rfl) (by decide) (by decide) (fun h hh => ⟨2, List.Mem.tail _ (List.Mem.head _), (by (try simp only [decide_eq_true_eq, decide_eq_false_iff_not] at c7 c17 c27 c37 c59); unfold cuK; (try simp only [Int.toNat_natCast]); split <;> (try split) <;> (try split) <;> first | rfl | omega), hh⟩)
        · skip
          exact y_throw (pc := 40) C E th_IA sw_X4_129 dX4_customer_40 dX4_customer_43 dX4_customer_44 dX4_customer_46 dX4_customer_49 (by decide) (Nat.le_of_ble_eq_true rfl) (by decide) (by decide) (fun h hh => ⟨1, List.Mem.head _, (by (try simp only [decide_eq_true_eq, decide_eq_false_iff_not] at c7 c17 c27 c37); unfold cuK; (try simp only [Int.toNat_natCast]); split <;> (try split) <;> (try split) <;> first | rfl | omega), hh⟩)

set_option maxRecDepth 20000 in
theorem mg_law {Ω : OmT} {hR : AH} {lay : Nat → Nat → Nat} {ξ : XiT} {ns nc nl : Nat} {σ : ZT} {τ : JT} (hwf : Wf σ ns nc nl) (hms : ns ≤ ns) (a : Int) (h_a : -2147483648 ≤ a ∧ a < 2147483648) (b : Int) (h_b : -2147483648 ≤ b ∧ b < 2147483648) (l : Int) (h_l : -2147483648 ≤ l ∧ l < 2147483648) (hlo : LaO Ω lay) (hbl : Bl σ τ ns nc) : Ct Ω yX4_law cX4_law 4 (some FieldType.int) (rkc 11 2 60) [.ref (lay 0 0), .int (iv a), .int (iv b), .int (iv l)] (InvC Ω lay ns ns nc nl ξ σ τ) hR (FK (lwK σ a b l) (.int (iv (σ 27 0 + 1))) (fun h => ∃ lay2, lay2 0 0 = lay 0 0 ∧ LaO Ω lay2 ∧ InvC Ω lay2 ns ns nc (nl + 1) ξ (lwS nl a b l σ) (τ) h)) (XT (lwK σ a b l) [(sIA, 1), (sIS, 2)] (InvC Ω lay ns ns nc nl ξ σ τ)) := by
  refine Ct.of (own := RX4) (L := [(0, _), (1, _), (2, _), (3, _)]) (by decide +kernel) rfl (Nat.le_of_ble_eq_true rfl) rfl ?_
  intro κ C hn E hi
  have hs2 := hwf.2.1
  have hc2 := hwf.2.2.2.1
  have hl2 := hwf.2.2.2.2.1.2.1
  have hnow := hwf.2.2.2.2.2.1.2
  have hst := hwf.2.2.2.2.2.2.1
  have hcu := hwf.2.2.2.2.2.2.2.1
  have o2 := hwf.1
  have o16 := hwf.2.2.1
  have o27 := hwf.2.2.2.2.1.1
  refine y_iload_n (pc := 0) C dX4_law_0 1 rfl ?_
  refine y_aload_n (pc := 1) C dX4_law_1 0 rfl ?_
  refine y_get (pc := 2) C fg_X4_29 dX4_law_2 (fun h hh => ⟨_, hh.gas, rfl⟩) ?_
  refine y_sipush (pc := 5) (z := 10000) C dX4_law_5 (by decide) ?_
  refine y_callS (pc := 8) (As := [_, _, _]) C E.2.1 cs_X4_52 (mg_isWithin _ _ _ ⟨by omega, by omega⟩ ⟨by omega, by omega⟩ ⟨by omega, by omega⟩) rfl rfl (Nat.le_of_ble_eq_true rfl) ⟨by decide, by decide, by decide, by decide⟩ dX4_law_8 ⟨rfl, rfl⟩ ?_
  refine y_ifb_eq (pc := 11) (tgt := 35) C dX4_law_11 (by decide) (fun c11 => ?_) (fun c11 => ?_)
  · skip
    exact y_throw (pc := 35) C E th_IA sw_X4_160 dX4_law_35 dX4_law_38 dX4_law_39 dX4_law_41 dX4_law_44 (by decide) (Nat.le_of_ble_eq_true rfl) (by decide) (by decide) (fun h hh => ⟨1, List.Mem.head _, (by (try simp only [decide_eq_true_eq, decide_eq_false_iff_not] at c11); unfold lwK; (try simp only [Int.toNat_natCast]); split <;> (try split) <;> (try split) <;> first | rfl | omega), hh⟩)
  · skip
    refine y_iload_n (pc := 14) C dX4_law_14 2 rfl ?_
    refine y_iload_n (pc := 15) C dX4_law_15 1 rfl ?_
    refine y_sipush (pc := 16) (z := 10000) C dX4_law_16 (by decide) ?_
    refine y_callS (pc := 19) (As := [_, _, _]) C E.2.1 cs_X4_52 (mg_isWithin _ _ _ ⟨by omega, by omega⟩ ⟨by omega, by omega⟩ ⟨by omega, by omega⟩) rfl rfl (Nat.le_of_ble_eq_true rfl) ⟨by decide, by decide, by decide, by decide⟩ dX4_law_19 ⟨rfl, rfl⟩ ?_
    refine y_ifb_eq (pc := 22) (tgt := 35) C dX4_law_22 (by decide) (fun c22 => ?_) (fun c22 => ?_)
    · skip
      exact y_throw (pc := 35) C E th_IA sw_X4_160 dX4_law_35 dX4_law_38 dX4_law_39 dX4_law_41 dX4_law_44 (by decide) (Nat.le_of_ble_eq_true rfl) (by decide) (by decide) (fun h hh => ⟨1, List.Mem.head _, (by (try simp only [decide_eq_true_eq, decide_eq_false_iff_not] at c11 c22); unfold lwK; (try simp only [Int.toNat_natCast]); split <;> (try split) <;> (try split) <;> first | rfl | omega), hh⟩)
    · skip
      refine y_iload_n (pc := 25) C dX4_law_25 3 rfl ?_
      refine y_iconst (pc := 26) C dX4_law_26 ?_
      refine y_ldc (pc := 27) (z := 10000000) C aw_3_59 (by decide) dX4_law_27 ?_
      refine y_callS (pc := 29) (As := [_, _, _]) C E.2.1 cs_X4_52 (mg_isWithin _ _ _ ⟨by omega, by omega⟩ ⟨by omega, by omega⟩ ⟨by omega, by omega⟩) rfl rfl (Nat.le_of_ble_eq_true rfl) ⟨by decide, by decide, by decide, by decide⟩ dX4_law_29 ⟨rfl, rfl⟩ ?_
      refine y_ifb_ne (pc := 32) (tgt := 45) C dX4_law_32 (by decide) (fun c32 => ?_) (fun c32 => ?_)
      · skip
        refine y_aload_n (pc := 45) C dX4_law_45 0 rfl ?_
        refine y_get (pc := 46) C fg_X4_19 dX4_law_46 (fun h hh => ⟨_, hh.gas, rfl⟩) ?_
        refine y_callV (pc := 49) (As := []) C E.2.1 cv_X4_74 (ci := 0) rfl rfl (mc_size (lay 0 3) (lay 6 3) nl (lay 5) (by omega) (fun h hh => hh.li3)) (fun h hh => hh.li3.obj) rfl rfl (Nat.le_of_ble_eq_true rfl) ⟨by decide, by decide, by decide, by decide⟩ dX4_law_49 ⟨rfl, rfl⟩ ?_
        refine y_bipush (pc := 52) (z := 20) C dX4_law_52 (by decide) ?_
        refine y_icmp_lt (pc := 54) (tgt := 67) C dX4_law_54 (by decide) (by omega) (by omega) (by omega) (by omega) (fun c54 => ?_) (fun c54 => ?_)
        · skip
          refine y_aload_n (pc := 67) C dX4_law_67 0 rfl ?_
          refine y_get (pc := 68) C fg_X4_19 dX4_law_68 (fun h hh => ⟨_, hh.gas, rfl⟩) ?_
          refine y_new (pc := 71) C fn_X4_164 dX4_law_71 (by rw [E.2.1]; decide) (by rw [E.2.1]; decide) (fun x9 => ?_)
          refine Y.ex fun h0 => Y.and fun hv0 => Y.and fun ha => Y.and fun ha2 => ?_
          refine y_dup (pc := 74) C dX4_law_74 rfl ?_
          refine y_iload_n (pc := 75) C dX4_law_75 1 rfl ?_
          refine y_iload_n (pc := 76) C dX4_law_76 2 rfl ?_
          refine y_iload_n (pc := 77) C dX4_law_77 3 rfl ?_
          refine y_callI (pc := 78) (As := [_, _, _]) C E.2.1 ci_X4_166 (mc_linit h0 x9 a b l) rfl rfl (Nat.le_of_ble_eq_true rfl) ⟨by decide, by decide, by decide, by decide⟩ dX4_law_78 ⟨rfl, rfl⟩ ?_
          have hv1 := hv0.fresh ha (x := .inr (3, [.int (iv a), .int (iv b), .int (iv l)]))
          obtain ⟨la, hla⟩ : ∃ la, la = lU lay 5 nl x9 := ⟨_, rfl⟩
          have e00 : la 0 0 = lay 0 0 := by rw [hla]; rfl
          have hlo1 : LaO Ω la := by rw [hla]; exact hlo
          have ea : la 5 nl = x9 := by rw [hla, lU_s]
          have hv2 := hv1.rl (Nat.le_refl _) (la := la) (by rw [hla]; rfl) (by rw [hla]; rfl) (fun j _ => by rw [hla]; rfl) (fun j _ => by rw [hla]; rfl) (fun j _ => by rw [hla]; rfl) (fun j _ => by rw [hla]; rfl) (fun j hj => by rw [hla, lU_j (by omega)])
          have hv3 := hv2.d (s := lw1 nl a b l σ) (t := τ) (fun f hf => by simp only [List.mem_cons, List.not_mem_nil, or_false] at hf; rcases hf with rfl | rfl <;> rfl) (fun f hf => rfl) (fun j _ => StF_c (fun f hf => by simp only [List.mem_cons, List.not_mem_nil, or_false] at hf; rcases hf with rfl | rfl | rfl | rfl | rfl | rfl | rfl | rfl | rfl | rfl <;> rfl) rfl) (fun c hc => ⟨CuF_c (fun f hf => by simp only [List.mem_cons, List.not_mem_nil, or_false] at hf; rcases hf with rfl | rfl | rfl | rfl | rfl | rfl | rfl <;> rfl) rfl (fun f hf => rfl), rfl⟩) (fun j hj => LwF_c (fun f hf => by unfold lw1; rw [zu_o (by omega), zu_o (by omega), zu_o (by omega)]))
          obtain ⟨h2, hh2⟩ : ∃ h2, h2 = hset h0 x9 (.inr (3, [.int (iv a), .int (iv b), .int (iv l)])) := ⟨_, rfl⟩
          rw [← hh2] at hv3
          have hc0 : h2 (la 5 nl) = some (.inr (3, LwF (lw1 nl a b l σ) nl)) := by rw [lw1_L, ea, hh2, hset_s]
          rw [← e00, show lay 0 3 = la 0 3 from by rw [hla]; rfl, ← ea]
          rw [← ea] at hh2
          refine Y.imp (Φ' := fun h => InvC Ω la ns ns nc nl ξ (lw1 nl a b l σ) τ h ∧ h = h2) (fun h hh => by rw [show h = h2 from hh.trans (by rw [hh2, ea])]; exact ⟨hv3, rfl⟩) ?_
          refine Y.nE C ?_
          refine Y.at (fun h1 hh1 => ?_)
          obtain ⟨mc9, hl9, hd9⟩ := hh1.2.1.li3.pre
          have hc9 := hc0
          rw [← hh1.2.2] at hc9
          refine y_callVX (pc := 81) (As := [_]) C E.2.1 cv_X4_90 (ci := 0) rfl rfl (mc_add h1 (la 0 3) (la 6 3) nl (la 5 nl) 3 mc9 (la 5) (RX2, TX2, 3) rfl (nw_in nw_4_22 rfl) hl9 ⟨_, hc9⟩ (by omega) (hd9.imp id (fun ⟨cap9, f9, d1, d2, d3, d4, d5⟩ => ⟨cap9, f9, d1, d2, d3, d4, d5, fun i9 hi9 => ⟨_, hh1.2.1.law (k := i9) (by omega)⟩⟩)) (by decide) (hh1.2.1.li3.en hh1.1) (fun i9 hi9 q9 => by have w9 := hh1.2.1.law (k := i9) (by omega); rw [q9, hl9] at w9; cases w9)) (fun h hh => ⟨_, (congrFun hh _).trans hl9⟩) rfl rfl (Nat.le_of_ble_eq_true rfl) ⟨by decide, by decide, by decide, by decide⟩ dX4_law_81 (fun rv => ?_) (fun E0 => y_nx)
          refine Y.and fun er => ?_
          subst er
          refine Y.imp (Φ' := fun h => ∃ lay2, lay2 0 0 = la 0 0 ∧ LaO Ω lay2 ∧ InvC Ω lay2 ns ns nc (nl + 1) ξ _ _ h) (fun h hh => by obtain ⟨mc8, a8, cap8, g8, hh⟩ := hh; exact hh1.2.1.addL hlo1 hh1.1 hc9 hh) ?_
          refine Y.ex fun lay2 => Y.and fun e2 => Y.and fun lo2 => ?_
          rw [← e2]
          refine y_pop (pc := 84) C dX4_law_84 rfl ?_
          refine y_aload_n (pc := 85) C dX4_law_85 0 rfl ?_
          refine y_get (pc := 86) C fg_X4_19 dX4_law_86 (fun h hh => ⟨_, hh.gas, rfl⟩) ?_
          refine y_callV (pc := 89) (As := []) C E.2.1 cv_X4_74 (ci := 0) rfl rfl (mc_size (lay2 0 3) (lay2 6 3) (nl + 1) (lay2 5) (by omega) (fun h hh => hh.li3)) (fun h hh => hh.li3.obj) rfl rfl (Nat.le_of_ble_eq_true rfl) ⟨by decide, by decide, by decide, by decide⟩ dX4_law_89 ⟨rfl, rfl⟩ ?_
          exact y_iret (pc := 92) C E dX4_law_92 (by decide) (by decide) (fun h hh => ⟨(by (try simp only [decide_eq_true_eq, decide_eq_false_iff_not] at c11 c22 c32 c54); unfold lwK; (try simp only [Int.toNat_natCast]); split <;> (try split) <;> (try split) <;> first | rfl | omega), by rw [o27]; rfl, lay2, e2.trans e00, lo2, hh.c (fun f hf => by unfold lwS; rw [zu_n (by intro q; subst q; revert hf; decide)]) (fun c _ => rfl) (fun f => rfl)⟩)
        · skip
          exact y_throw (pc := 57) C E th_IS sw_X4_162 dX4_law_57 dX4_law_60 dX4_law_61 dX4_law_63 dX4_law_66 (by decide) (Nat.le_of_ble_eq_true rfl) (by decide) (by decide) (fun h hh => ⟨2, List.Mem.tail _ (List.Mem.head _), (by (try simp only [decide_eq_true_eq, decide_eq_false_iff_not] at c11 c22 c32 c54); unfold lwK; (try simp only [Int.toNat_natCast]); split <;> (try split) <;> (try split) <;> first | rfl | omega), hh⟩)
      · skip
        exact y_throw (pc := 35) C E th_IA sw_X4_160 dX4_law_35 dX4_law_38 dX4_law_39 dX4_law_41 dX4_law_44 (by decide) (Nat.le_of_ble_eq_true rfl) (by decide) (by decide) (fun h hh => ⟨1, List.Mem.head _, (by (try simp only [decide_eq_true_eq, decide_eq_false_iff_not] at c11 c22 c32); unfold lwK; (try simp only [Int.toNat_natCast]); split <;> (try split) <;> (try split) <;> first | rfl | omega), hh⟩)

