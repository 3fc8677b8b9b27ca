set_option maxRecDepth 20000 in
theorem mt_store {Ω : OmT} {hR : AH} {M : Nat} {ma : Nat → Nat} {σ : ZT} {τ : JT} (ns nc nl : Nat) (hwf : Wf σ ns nc nl) (s : ZT) (hs : s = zu σ 0 0 0) (k : Int) (h_k : -2147483648 ≤ k ∧ k < 2147483648) (v : Int) (h_v : -2147483648 ≤ v ∧ v < 2147483648) (g : Int) (h_g : -2147483648 ≤ g ∧ g < 2147483648) (lo : Int) (h_lo : -2147483648 ≤ lo ∧ lo < 2147483648) (gr : Int) (h_gr : -2147483648 ≤ gr ∧ gr < 2147483648) (m : Int) (h_m : -2147483648 ≤ m ∧ m < 2147483648)  : Ct Ω yX5_store cX5_store 9 (some FieldType.int) (rk 2) [.ref M, .int (iv k), .int (iv v), .int (iv g), .int (iv lo), .int (iv gr), .int (iv m)] (InvM Ω M ma σ τ) hR (FR (stK σ k v g lo gr m) (.int (iv (s 2 0 + 1 - 1))) (.int (iv 0)) (InvM Ω M ma ((stS ns k v g lo gr m (s, τ)).1) ((stS ns k v g lo gr m (s, τ)).2)) (InvM Ω M ma (zu σ 0 0 (stK σ k v g lo gr m)) τ)) NX := by
  refine Ct.of (own := RX5) (L := [(0, _), (1, _), (2, _), (3, _), (4, _), (5, _), (6, _)]) (by decide +kernel) rfl (Nat.le_of_ble_eq_true rfl) rfl ?_
  intro κ C hn E hi
  have hsf : ∀ f, f ≠ 0 → s f = σ f := fun f hf => by rw [hs, zu_n hf]
  have hws := wf_0 hsf hwf
  have e2 := hws.1
  have e16 := hws.2.2.1
  have e27 := hws.2.2.2.2.1.1
  have o2 := hwf.1
  have o16 := hwf.2.2.1
  have o27 := hwf.2.2.2.2.1.1
  have hnow := hwf.2.2.2.2.2.1.2
  have e1 : s 1 0 = σ 1 0 := by rw [hsf 1 (by omega)]
  have hs2 := hwf.2.1
  have hc2 := hwf.2.2.2.1
  have hl2 := hwf.2.2.2.2.1.2.1
  have hKb : 0 ≤ stK σ k v g lo gr m ∧ stK σ k v g lo gr m ≤ 3 := by unfold stK; split <;> (try split) <;> (try split) <;> omega
  refine y_joinB (pcj := 60) (P := fun q => q = decide (0 ≤ k ∧ k ≤ 2 ∧ 1 ≤ v ∧ v ≤ 100000 ∧ 0 ≤ lo ∧ lo ≤ 1000 ∧ lo ≤ gr ∧ gr ≤ 1000 ∧ 0 ≤ m ∧ m ≤ 1000000)) (fun v1 hv1 => ?_) (fun J1 => ?_)
  · skip
    subst hv1
    refine y_istore (pc := 60) (L' := [(7, _), (0, _), (1, _), (2, _), (3, _), (4, _), (5, _), (6, _)]) C dX5_store_60 (by rw [hn]; decide) rfl ?_
    refine y_joinB (pcj := 91) (P := fun q => q = decide ((0 ≤ k ∧ k ≤ 2 ∧ 1 ≤ v ∧ v ≤ 100000 ∧ 0 ≤ lo ∧ lo ≤ 1000 ∧ lo ≤ gr ∧ gr ≤ 1000 ∧ 0 ≤ m ∧ m ≤ 1000000) ∧ leastZ lo v ≤ g ∧ g ≤ mostZ gr v)) (fun v2 hv2 => ?_) (fun J2 => ?_)
    · skip
      subst hv2
      refine y_istore (pc := 91) (L' := [(8, _), (7, _), (0, _), (1, _), (2, _), (3, _), (4, _), (5, _), (6, _)]) C dX5_store_91 (by rw [hn]; decide) rfl ?_
      refine y_aload_n (pc := 93) C dX5_store_93 2 rfl ?_
      refine y_joinI (pcj := 116) (P := fun q => q = stK σ k v g lo gr m) (fun v3 hv3 => ?_) (fun J3 => ?_)
      · skip
        subst hv3
        refine y_callV (pc := 116) (As := [_]) C E.2.1 cv_X5_133 (ci := 6) rfl rfl (mt_holds _ ⟨by omega, by omega⟩) (fun h hh => ⟨_, hh.1⟩) rfl rfl (Nat.le_of_ble_eq_true rfl) ⟨by decide, by decide, by decide, by decide⟩ dX5_store_116 ⟨rfl, rfl⟩ ?_
        refine y_ifb_ne (pc := 119) (tgt := 124) C dX5_store_119 (by decide) (fun c119 => ?_) (fun c119 => ?_)
        · skip
          have hK : stK σ k v g lo gr m = 0 := of_decide_eq_true c119
          rw [hK, ← hs]
          have hG := (if1 hK)
          have hG2 := if20 hG.2
          have h15 := hws.2.2.2.2.2.2.2.2.2.2
          refine y_aload_n (pc := 124) C dX5_store_124 2 rfl ?_
          refine y_get (pc := 125) C fg_X5_7 dX5_store_125 (fun h hh => ⟨_, hh.1, rfl⟩) ?_
          refine y_aload_n (pc := 128) C dX5_store_128 2 rfl ?_
          refine y_get (pc := 129) C fg_X5_105 dX5_store_129 (fun h hh => ⟨_, hh.1, rfl⟩) ?_
          refine y_iload_n (pc := 132) C dX5_store_132 3 rfl ?_
          refine m_iast (pc := 133) C 3 ns rfl e2 (by show _ < 5; omega) dX5_store_133 ?_
          refine y_aload_n (pc := 134) C dX5_store_134 2 rfl ?_
          refine y_get (pc := 135) C fg_X5_13 dX5_store_135 (fun h hh => ⟨_, hh.1, rfl⟩) ?_
          refine y_aload_n (pc := 138) C dX5_store_138 2 rfl ?_
          refine y_get (pc := 139) C fg_X5_105 dX5_store_139 (fun h hh => ⟨_, hh.1, rfl⟩) ?_
          refine y_iload_n (pc := 142) C dX5_store_142 4 rfl ?_
          refine m_iast (pc := 143) C 4 ns rfl e2 (by show _ < 5; omega) dX5_store_143 ?_
          refine y_aload_n (pc := 144) C dX5_store_144 2 rfl ?_
          refine y_get (pc := 145) C fg_X5_19 dX5_store_145 (fun h hh => ⟨_, hh.1, rfl⟩) ?_
          refine y_aload_n (pc := 148) C dX5_store_148 2 rfl ?_
          refine y_get (pc := 149) C fg_X5_105 dX5_store_149 (fun h hh => ⟨_, hh.1, rfl⟩) ?_
          refine y_iload_n (pc := 152) C dX5_store_152 5 rfl ?_
          refine m_iast (pc := 153) C 6 ns rfl e2 (by show _ < 5; omega) dX5_store_153 ?_
          refine y_aload_n (pc := 154) C dX5_store_154 2 rfl ?_
          refine y_get (pc := 155) C fg_X5_22 dX5_store_155 (fun h hh => ⟨_, hh.1, rfl⟩) ?_
          refine y_aload_n (pc := 158) C dX5_store_158 2 rfl ?_
          refine y_get (pc := 159) C fg_X5_105 dX5_store_159 (fun h hh => ⟨_, hh.1, rfl⟩) ?_
          refine y_iload (pc := 162) C dX5_store_162 6 rfl ?_
          refine m_iast (pc := 164) C 7 ns rfl e2 (by show _ < 5; omega) dX5_store_164 ?_
          refine y_aload_n (pc := 165) C dX5_store_165 2 rfl ?_
          refine y_get (pc := 166) C fg_X5_25 dX5_store_166 (fun h hh => ⟨_, hh.1, rfl⟩) ?_
          refine y_aload_n (pc := 169) C dX5_store_169 2 rfl ?_
          refine y_get (pc := 170) C fg_X5_105 dX5_store_170 (fun h hh => ⟨_, hh.1, rfl⟩) ?_
          refine y_iload (pc := 173) C dX5_store_173 7 rfl ?_
          refine m_iast (pc := 175) C 8 ns rfl e2 (by show _ < 5; omega) dX5_store_175 ?_
          refine y_aload_n (pc := 176) C dX5_store_176 2 rfl ?_
          refine y_get (pc := 177) C fg_X5_28 dX5_store_177 (fun h hh => ⟨_, hh.1, rfl⟩) ?_
          refine y_aload_n (pc := 180) C dX5_store_180 2 rfl ?_
          refine y_get (pc := 181) C fg_X5_105 dX5_store_181 (fun h hh => ⟨_, hh.1, rfl⟩) ?_
          refine y_iload (pc := 184) C dX5_store_184 8 rfl ?_
          refine m_iast (pc := 186) C 9 ns rfl e2 (by show _ < 5; omega) dX5_store_186 ?_
          refine y_aload_n (pc := 187) C dX5_store_187 2 rfl ?_
          refine y_get (pc := 188) C fg_X5_40 dX5_store_188 (fun h hh => ⟨_, hh.1, rfl⟩) ?_
          refine y_aload_n (pc := 191) C dX5_store_191 2 rfl ?_
          refine y_get (pc := 192) C fg_X5_105 dX5_store_192 (fun h hh => ⟨_, hh.1, rfl⟩) ?_
          refine y_iload_n (pc := 195) C dX5_store_195 5 rfl ?_
          refine y_i2l (pc := 196) C dX5_store_196 (by omega) (by omega) ?_
          refine y_aload_n (pc := 197) C dX5_store_197 2 rfl ?_
          refine y_get (pc := 198) C fg_X5_47 dX5_store_198 (fun h hh => ⟨_, hh.1, rfl⟩) ?_
          refine y_i2l (pc := 201) C dX5_store_201 (by show -2147483648 ≤ s 15 0; omega) (by show s 15 0 < 2147483648; omega) ?_
          refine y_lmul (pc := 202) C dX5_store_202 ?_
          refine m_last (pc := 203) C 13 ns rfl e2 (by show _ < 5; omega) dX5_store_203 ?_
          refine y_aload_n (pc := 204) C dX5_store_204 2 rfl ?_
          refine y_dup (pc := 205) C dX5_store_205 rfl ?_
          refine y_get (pc := 206) C fg_X5_136 dX5_store_206 (fun h hh => ⟨_, hh.1, rfl⟩) ?_
          refine y_iload_n (pc := 209) C dX5_store_209 5 rfl ?_
          refine y_i2l (pc := 210) C dX5_store_210 (by omega) (by omega) ?_
          refine y_laddR (pc := 211) C dX5_store_211 ?_
          refine m_putJ (pc := 212) C 33 rfl fp_X5_136 dX5_store_212 ?_
          refine y_aload_n (pc := 215) C dX5_store_215 2 rfl ?_
          refine y_dup (pc := 216) C dX5_store_216 rfl ?_
          refine y_get (pc := 217) C fg_X5_105 dX5_store_217 (fun h hh => ⟨_, hh.1, rfl⟩) ?_
          refine y_iconst (pc := 220) C dX5_store_220 ?_
          refine y_iadd (pc := 221) C dX5_store_221 ?_
          refine m_putI (pc := 222) C 2 rfl fp_X5_105 dX5_store_222 ?_
          refine y_aload_n (pc := 225) C dX5_store_225 2 rfl ?_
          refine y_get (pc := 226) C fg_X5_105 dX5_store_226 (fun h hh => ⟨_, hh.1, rfl⟩) ?_
          refine y_iconst (pc := 229) C dX5_store_229 ?_
          refine y_isub (pc := 230) C dX5_store_230 ?_
          exact y_iret (pc := 231) C E dX5_store_231 (by decide) (by decide) (fun h hh => Or.inl ⟨hK, rfl, hh⟩)
        · skip
          have hK9 : ¬ stK σ k v g lo gr m = 0 := of_decide_eq_false c119
          refine y_iconst (pc := 122) C dX5_store_122 ?_
          exact y_iret (pc := 123) C E dX5_store_123 (by decide) (by decide) (fun h hh => Or.inr ⟨hK9, rfl, hh⟩)
      · skip
        refine y_iload (pc := 94) C dX5_store_94 0 rfl ?_
        refine y_ifb_ne (pc := 96) (tgt := 103) C dX5_store_96 (by decide) (fun c96 => ?_) (fun c96 => ?_)
        · skip
          refine y_aload_n (pc := 103) C dX5_store_103 2 rfl ?_
          refine y_get (pc := 104) C fg_X5_105 dX5_store_104 (fun h hh => ⟨_, hh.1, rfl⟩) ?_
          refine y_iconst (pc := 107) C dX5_store_107 ?_
          refine y_icmp_ne (pc := 108) (tgt := 115) C dX5_store_108 (by decide) (by omega) (by omega) (by omega) (by omega) (fun c108 => ?_) (fun c108 => ?_)
          · skip
            refine y_iconst (pc := 115) C dX5_store_115 ?_
            exact J3 _ (by (try simp only [decide_eq_true_eq, decide_eq_false_iff_not] at c96 c108); unfold stK; split <;> (try split) <;> (try split) <;> omega)
          · skip
            refine y_iconst (pc := 111) C dX5_store_111 ?_
            refine y_goto (pc := 112) (tgt := 116) C dX5_store_112 (by decide) ?_
            exact J3 _ (by (try simp only [decide_eq_true_eq, decide_eq_false_iff_not] at c96 c108); unfold stK; split <;> (try split) <;> (try split) <;> omega)
        · skip
          refine y_iconst (pc := 99) C dX5_store_99 ?_
          refine y_goto (pc := 100) (tgt := 116) C dX5_store_100 (by decide) ?_
          exact J3 _ (by (try simp only [decide_eq_true_eq, decide_eq_false_iff_not] at c96); unfold stK; split <;> (try split) <;> (try split) <;> omega)
    · skip
      refine y_iload (pc := 62) C dX5_store_62 0 rfl ?_
      refine y_ifb_eq (pc := 64) (tgt := 90) C dX5_store_64 (by decide) (fun c64 => ?_) (fun c64 => ?_)
      · skip
        refine y_iconst (pc := 90) C dX5_store_90 ?_
        first | exact J2 true (decide_eq_true (by (try simp only [decide_eq_true_eq, decide_eq_false_iff_not] at c64); omega)).symm | exact J2 false (decide_eq_false (by (try simp only [decide_eq_true_eq, decide_eq_false_iff_not] at c64); omega)).symm
      · skip
        have A9 := of_decide_eq_true c64
        have hm1 := mz_b (p := lo) (r := v) (by omega) (by omega) (by omega) (by omega)
        have hm2 := mz_b (p := gr) (r := v) (by omega) (by omega) (by omega) (by omega)
        refine y_iload_n (pc := 67) C dX5_store_67 4 rfl ?_
        refine y_iload (pc := 68) C dX5_store_68 5 rfl ?_
        refine y_iload_n (pc := 70) C dX5_store_70 3 rfl ?_
        refine y_callS (pc := 71) (As := [_, _]) C E.2.1 cs_X5_126 (mt_leastGas _ _ ⟨by omega, by omega⟩ ⟨by omega, by omega⟩) rfl rfl (Nat.le_of_ble_eq_true rfl) ⟨by decide, by decide, by decide, by decide⟩ dX5_store_71 ⟨rfl, rfl⟩ ?_
        refine y_iload (pc := 74) C dX5_store_74 6 rfl ?_
        refine y_iload_n (pc := 76) C dX5_store_76 3 rfl ?_
        refine y_callS (pc := 77) (As := [_, _]) C E.2.1 cs_X5_122 (mt_mostGas _ _ ⟨by omega, by omega⟩ ⟨by omega, by omega⟩) rfl rfl (Nat.le_of_ble_eq_true rfl) ⟨by decide, by decide, by decide, by decide⟩ dX5_store_77 ⟨rfl, rfl⟩ ?_
        refine y_callS (pc := 80) (As := [_, _, _]) C E.2.1 cs_X5_108 (mt_isIn _ _ _ ⟨by omega, by omega⟩ ⟨by omega, by omega⟩ ⟨by omega, by omega⟩) rfl rfl (Nat.le_of_ble_eq_true rfl) ⟨by decide, by decide, by decide, by decide⟩ dX5_store_80 ⟨rfl, rfl⟩ ?_
        refine y_ifb_eq (pc := 83) (tgt := 90) C dX5_store_83 (by decide) (fun c83 => ?_) (fun c83 => ?_)
        · skip
          refine y_iconst (pc := 90) C dX5_store_90 ?_
          first | exact J2 true (decide_eq_true (by (try simp only [decide_eq_true_eq, decide_eq_false_iff_not] at c64 c83); omega)).symm | exact J2 false (decide_eq_false (by (try simp only [decide_eq_true_eq, decide_eq_false_iff_not] at c64 c83); omega)).symm
        · skip
          refine y_iconst (pc := 86) C dX5_store_86 ?_
          refine y_goto (pc := 87) (tgt := 91) C dX5_store_87 (by decide) ?_
          first | exact J2 true (decide_eq_true (by (try simp only [decide_eq_true_eq, decide_eq_false_iff_not] at c64 c83); omega)).symm | exact J2 false (decide_eq_false (by (try simp only [decide_eq_true_eq, decide_eq_false_iff_not] at c64 c83); omega)).symm
  · skip
    refine y_iload_n (pc := 0) C dX5_store_0 1 rfl ?_
    refine y_iconst (pc := 1) C dX5_store_1 ?_
    refine y_iconst (pc := 2) C dX5_store_2 ?_
    refine y_callS (pc := 3) (As := [_, _, _]) C E.2.1 cs_X5_108 (mt_isIn _ _ _ ⟨by omega, by omega⟩ ⟨by omega, by omega⟩ ⟨by omega, by omega⟩) rfl rfl (Nat.le_of_ble_eq_true rfl) ⟨by decide, by decide, by decide, by decide⟩ dX5_store_3 ⟨rfl, rfl⟩ ?_
    refine y_ifb_eq (pc := 6) (tgt := 59) C dX5_store_6 (by decide) (fun c6 => ?_) (fun c6 => ?_)
    · skip
      refine y_iconst (pc := 59) C dX5_store_59 ?_
      first | exact J1 true (decide_eq_true (by (try simp only [decide_eq_true_eq, decide_eq_false_iff_not] at c6); omega)).symm | exact J1 false (decide_eq_false (by (try simp only [decide_eq_true_eq, decide_eq_false_iff_not] at c6); omega)).symm
    · skip
      refine y_iload_n (pc := 9) C dX5_store_9 2 rfl ?_
      refine y_iconst (pc := 10) C dX5_store_10 ?_
      refine y_ldc (pc := 11) (z := 100000) C aw_4_182 (by decide) dX5_store_11 ?_
      refine y_callS (pc := 13) (As := [_, _, _]) C E.2.1 cs_X5_108 (mt_isIn _ _ _ ⟨by omega, by omega⟩ ⟨by omega, by omega⟩ ⟨by omega, by omega⟩) rfl rfl (Nat.le_of_ble_eq_true rfl) ⟨by decide, by decide, by decide, by decide⟩ dX5_store_13 ⟨rfl, rfl⟩ ?_
      refine y_ifb_eq (pc := 16) (tgt := 59) C dX5_store_16 (by decide) (fun c16 => ?_) (fun c16 => ?_)
      · skip
        refine y_iconst (pc := 59) C dX5_store_59 ?_
        first | exact J1 true (decide_eq_true (by (try simp only [decide_eq_true_eq, decide_eq_false_iff_not] at c6 c16); omega)).symm | exact J1 false (decide_eq_false (by (try simp only [decide_eq_true_eq, decide_eq_false_iff_not] at c6 c16); omega)).symm
      · skip
        refine y_iload (pc := 19) C dX5_store_19 4 rfl ?_
        refine y_iconst (pc := 21) C dX5_store_21 ?_
        refine y_sipush (pc := 22) (z := 1000) C dX5_store_22 (by decide) ?_
        refine y_callS (pc := 25) (As := [_, _, _]) C E.2.1 cs_X5_108 (mt_isIn _ _ _ ⟨by omega, by omega⟩ ⟨by omega, by omega⟩ ⟨by omega, by omega⟩) rfl rfl (Nat.le_of_ble_eq_true rfl) ⟨by decide, by decide, by decide, by decide⟩ dX5_store_25 ⟨rfl, rfl⟩ ?_
        refine y_ifb_eq (pc := 28) (tgt := 59) C dX5_store_28 (by decide) (fun c28 => ?_) (fun c28 => ?_)
        · skip
          refine y_iconst (pc := 59) C dX5_store_59 ?_
          first | exact J1 true (decide_eq_true (by (try simp only [decide_eq_true_eq, decide_eq_false_iff_not] at c6 c16 c28); omega)).symm | exact J1 false (decide_eq_false (by (try simp only [decide_eq_true_eq, decide_eq_false_iff_not] at c6 c16 c28); omega)).symm
        · skip
          refine y_iload (pc := 31) C dX5_store_31 5 rfl ?_
          refine y_iload (pc := 33) C dX5_store_33 4 rfl ?_
          refine y_sipush (pc := 35) (z := 1000) C dX5_store_35 (by decide) ?_
          refine y_callS (pc := 38) (As := [_, _, _]) C E.2.1 cs_X5_108 (mt_isIn _ _ _ ⟨by omega, by omega⟩ ⟨by omega, by omega⟩ ⟨by omega, by omega⟩) rfl rfl (Nat.le_of_ble_eq_true rfl) ⟨by decide, by decide, by decide, by decide⟩ dX5_store_38 ⟨rfl, rfl⟩ ?_
          refine y_ifb_eq (pc := 41) (tgt := 59) C dX5_store_41 (by decide) (fun c41 => ?_) (fun c41 => ?_)
          · skip
            refine y_iconst (pc := 59) C dX5_store_59 ?_
            first | exact J1 true (decide_eq_true (by (try simp only [decide_eq_true_eq, decide_eq_false_iff_not] at c6 c16 c28 c41); omega)).symm | exact J1 false (decide_eq_false (by (try simp only [decide_eq_true_eq, decide_eq_false_iff_not] at c6 c16 c28 c41); omega)).symm
          · skip
            refine y_iload (pc := 44) C dX5_store_44 6 rfl ?_
            refine y_iconst (pc := 46) C dX5_store_46 ?_
            refine y_ldc (pc := 47) (z := 1000000) C aw_4_183 (by decide) dX5_store_47 ?_
            refine y_callS (pc := 49) (As := [_, _, _]) C E.2.1 cs_X5_108 (mt_isIn _ _ _ ⟨by omega, by omega⟩ ⟨by omega, by omega⟩ ⟨by omega, by omega⟩) rfl rfl (Nat.le_of_ble_eq_true rfl) ⟨by decide, by decide, by decide, by decide⟩ dX5_store_49 ⟨rfl, rfl⟩ ?_
            refine y_ifb_eq (pc := 52) (tgt := 59) C dX5_store_52 (by decide) (fun c52 => ?_) (fun c52 => ?_)
            · skip
              refine y_iconst (pc := 59) C dX5_store_59 ?_
              first | exact J1 true (decide_eq_true (by (try simp only [decide_eq_true_eq, decide_eq_false_iff_not] at c6 c16 c28 c41 c52); omega)).symm | exact J1 false (decide_eq_false (by (try simp only [decide_eq_true_eq, decide_eq_false_iff_not] at c6 c16 c28 c41 c52); omega)).symm
            · skip
              refine y_iconst (pc := 55) C dX5_store_55 ?_
              refine y_goto (pc := 56) (tgt := 60) C dX5_store_56 (by decide) ?_
              first | exact J1 true (decide_eq_true (by (try simp only [decide_eq_true_eq, decide_eq_false_iff_not] at c6 c16 c28 c41 c52); omega)).symm | exact J1 false (decide_eq_false (by (try simp only [decide_eq_true_eq, decide_eq_false_iff_not] at c6 c16 c28 c41 c52); omega)).symm

set_option maxRecDepth 20000 in
theorem mt_wells {Ω : OmT} {hR : AH} {M : Nat} {ma : Nat → Nat} {σ : ZT} {τ : JT} (ns nc nl : Nat) (hwf : Wf σ ns nc nl) (s : ZT) (hs : s = zu σ 0 0 0) (x : Int) (h_x : -2147483648 ≤ x ∧ x < 2147483648) (a : Int) (h_a : -2147483648 ≤ a ∧ a < 2147483648) (b : Int) (h_b : -2147483648 ≤ b ∧ b < 2147483648)  : Ct Ω yX5_wells cX5_wells 5 (some FieldType.int) (rk 4) [.ref M, .int (iv x), .int (iv a), .int (iv b)] (InvM Ω M ma σ τ) hR (FR (wlK σ x a b) (.int (iv (rateZ (wlS x.toNat a b s) x.toNat false))) (.int (iv 0)) (InvM Ω M ma (wlS x.toNat a b s) (τ)) (InvM Ω M ma (zu σ 0 0 (wlK σ x a b)) τ)) NX := by
  refine Ct.of (own := RX5) (L := [(0, _), (1, _), (2, _), (3, _)]) (by decide +kernel) rfl (Nat.le_of_ble_eq_true rfl) rfl ?_
  intro κ C hn E hi
  have hsf : ∀ f, f ≠ 0 → s f = σ f := fun f hf => by rw [hs, zu_n hf]
  have hws := wf_0 hsf hwf
  have e2 := hws.1
  have e16 := hws.2.2.1
  have e27 := hws.2.2.2.2.1.1
  have o2 := hwf.1
  have o16 := hwf.2.2.1
  have o27 := hwf.2.2.2.2.1.1
  have hnow := hwf.2.2.2.2.2.1.2
  have e1 : s 1 0 = σ 1 0 := by rw [hsf 1 (by omega)]
  have hs2 := hwf.2.1
  have hc2 := hwf.2.2.2.1
  have hl2 := hwf.2.2.2.2.1.2.1
  have hKb : 0 ≤ wlK σ x a b ∧ wlK σ x a b ≤ 3 := by unfold wlK; split <;> (try split) <;> (try split) <;> omega
  refine y_joinB (pcj := 26) (P := fun q => q = decide (0 ≤ a ∧ a ≤ 100 ∧ 0 ≤ b ∧ b ≤ 1000)) (fun v1 hv1 => ?_) (fun J1 => ?_)
  · skip
    subst hv1
    refine y_istore (pc := 26) (L' := [(4, _), (0, _), (1, _), (2, _), (3, _)]) C dX5_wells_26 (by rw [hn]; decide) rfl ?_
    refine y_aload_n (pc := 28) C dX5_wells_28 1 rfl ?_
    refine y_joinI (pcj := 51) (P := fun q => q = wlK σ x a b) (fun v2 hv2 => ?_) (fun J2 => ?_)
    · skip
      subst hv2
      refine y_callV (pc := 51) (As := [_]) C E.2.1 cv_X5_133 (ci := 6) rfl rfl (mt_holds _ ⟨by omega, by omega⟩) (fun h hh => ⟨_, hh.1⟩) rfl rfl (Nat.le_of_ble_eq_true rfl) ⟨by decide, by decide, by decide, by decide⟩ dX5_wells_51 ⟨rfl, rfl⟩ ?_
      refine y_ifb_ne (pc := 54) (tgt := 59) C dX5_wells_54 (by decide) (fun c54 => ?_) (fun c54 => ?_)
      · skip
        have hK : wlK σ x a b = 0 := of_decide_eq_true c54
        rw [hK, ← hs]
        have hG := (if1 hK)
        have hG2 := (if2 hG.2).1
        have hG1 := hG.1
        obtain ⟨k, rfl⟩ : ∃ k : Nat, x = k := ⟨x.toNat, by omega⟩
        have hsk := hws.2.2.2.2.2.2.1 k (by omega)
        have hst2 : StOk (wlS k a b s) k := ⟨by have q := hsk.1; unfold StO0 at q ⊢; unfold wlS; rw [zu_s (f := 11), zu_f (f := 11) (g := 10) (by omega), zu_s]; exact ⟨q.1, q.2.1, q.2.2.1, q.2.2.2.1, q.2.2.2.2.1, q.2.2.2.2.2.1, q.2.2.2.2.2.2.1, q.2.2.2.2.2.2.2.1, q.2.2.2.2.2.2.2.2.1, q.2.2.2.2.2.2.2.2.2.1, q.2.2.2.2.2.2.2.2.2.2.1, q.2.2.2.2.2.2.2.2.2.2.2.1, q.2.2.2.2.2.2.2.2.2.2.2.2.1, by omega, by omega, by omega, by omega, q.2.2.2.2.2.2.2.2.2.2.2.2.2.2.2.2.2⟩, hsk.2⟩
        refine y_aload_n (pc := 59) C dX5_wells_59 1 rfl ?_
        refine y_get (pc := 60) C fg_X5_31 dX5_wells_60 (fun h hh => ⟨_, hh.1, rfl⟩) ?_
        refine y_iload_n (pc := 63) C dX5_wells_63 2 rfl ?_
        refine y_iload_n (pc := 64) C dX5_wells_64 3 rfl ?_
        refine m_iast (pc := 65) C 10 k rfl rfl (by show _ < 5; omega) dX5_wells_65 ?_
        refine y_aload_n (pc := 66) C dX5_wells_66 1 rfl ?_
        refine y_get (pc := 67) C fg_X5_34 dX5_wells_67 (fun h hh => ⟨_, hh.1, rfl⟩) ?_
        refine y_iload_n (pc := 70) C dX5_wells_70 2 rfl ?_
        refine y_iload_n (pc := 71) C dX5_wells_71 4 rfl ?_
        refine m_iast (pc := 72) C 11 k rfl rfl (by show _ < 5; omega) dX5_wells_72 ?_
        refine y_aload_n (pc := 73) C dX5_wells_73 1 rfl ?_
        refine y_iload_n (pc := 74) C dX5_wells_74 2 rfl ?_
        refine y_iconst (pc := 75) C dX5_wells_75 ?_
        refine y_callV (pc := 76) (As := [_, _]) C E.2.1 cv_X5_143 (ci := 6) rfl rfl (mt_rateOf k false (by omega) hst2) (fun h hh => ⟨_, hh.1⟩) rfl rfl (Nat.le_of_ble_eq_true rfl) ⟨by decide, by decide, by decide, by decide⟩ dX5_wells_76 ⟨rfl, rfl⟩ ?_
        exact y_iret (pc := 79) C E dX5_wells_79 (by decide) (by decide) (fun h hh => Or.inl ⟨hK, rfl, hh⟩)
      · skip
        have hK9 : ¬ wlK σ x a b = 0 := of_decide_eq_false c54
        refine y_iconst (pc := 57) C dX5_wells_57 ?_
        exact y_iret (pc := 58) C E dX5_wells_58 (by decide) (by decide) (fun h hh => Or.inr ⟨hK9, rfl, hh⟩)
    · skip
      refine y_aload_n (pc := 29) C dX5_wells_29 1 rfl ?_
      refine y_iload_n (pc := 30) C dX5_wells_30 2 rfl ?_
      refine y_callV (pc := 31) (As := [_]) C E.2.1 cv_X5_140 (ci := 6) rfl rfl (mt_isStore _ ⟨by omega, by omega⟩ ⟨by omega, by omega⟩) (fun h hh => ⟨_, hh.1⟩) rfl rfl (Nat.le_of_ble_eq_true rfl) ⟨by decide, by decide, by decide, by decide⟩ dX5_wells_31 ⟨rfl, rfl⟩ ?_
      refine y_ifb_ne (pc := 34) (tgt := 41) C dX5_wells_34 (by decide) (fun c34 => ?_) (fun c34 => ?_)
      · skip
        refine y_iload (pc := 41) C dX5_wells_41 0 rfl ?_
        refine y_ifb_eq (pc := 43) (tgt := 50) C dX5_wells_43 (by decide) (fun c43 => ?_) (fun c43 => ?_)
        · skip
          refine y_iconst (pc := 50) C dX5_wells_50 ?_
          exact J2 _ (by (try simp only [decide_eq_true_eq, decide_eq_false_iff_not] at c34 c43); unfold wlK; split <;> (try split) <;> (try split) <;> omega)
        · skip
          refine y_iconst (pc := 46) C dX5_wells_46 ?_
          refine y_goto (pc := 47) (tgt := 51) C dX5_wells_47 (by decide) ?_
          exact J2 _ (by (try simp only [decide_eq_true_eq, decide_eq_false_iff_not] at c34 c43); unfold wlK; split <;> (try split) <;> (try split) <;> omega)
      · skip
        refine y_iconst (pc := 37) C dX5_wells_37 ?_
        refine y_goto (pc := 38) (tgt := 51) C dX5_wells_38 (by decide) ?_
        exact J2 _ (by (try simp only [decide_eq_true_eq, decide_eq_false_iff_not] at c34); unfold wlK; split <;> (try split) <;> (try split) <;> omega)
  · skip
    refine y_iload_n (pc := 0) C dX5_wells_0 2 rfl ?_
    refine y_iconst (pc := 1) C dX5_wells_1 ?_
    refine y_bipush (pc := 2) (z := 100) C dX5_wells_2 (by decide) ?_
    refine y_callS (pc := 4) (As := [_, _, _]) C E.2.1 cs_X5_108 (mt_isIn _ _ _ ⟨by omega, by omega⟩ ⟨by omega, by omega⟩ ⟨by omega, by omega⟩) rfl rfl (Nat.le_of_ble_eq_true rfl) ⟨by decide, by decide, by decide, by decide⟩ dX5_wells_4 ⟨rfl, rfl⟩ ?_
    refine y_ifb_eq (pc := 7) (tgt := 25) C dX5_wells_7 (by decide) (fun c7 => ?_) (fun c7 => ?_)
    · skip
      refine y_iconst (pc := 25) C dX5_wells_25 ?_
      first | exact J1 true (decide_eq_true (by (try simp only [decide_eq_true_eq, decide_eq_false_iff_not] at c7); omega)).symm | exact J1 false (decide_eq_false (by (try simp only [decide_eq_true_eq, decide_eq_false_iff_not] at c7); omega)).symm
    · skip
      refine y_iload_n (pc := 10) C dX5_wells_10 3 rfl ?_
      refine y_iconst (pc := 11) C dX5_wells_11 ?_
      refine y_sipush (pc := 12) (z := 1000) C dX5_wells_12 (by decide) ?_
      refine y_callS (pc := 15) (As := [_, _, _]) C E.2.1 cs_X5_108 (mt_isIn _ _ _ ⟨by omega, by omega⟩ ⟨by omega, by omega⟩ ⟨by omega, by omega⟩) rfl rfl (Nat.le_of_ble_eq_true rfl) ⟨by decide, by decide, by decide, by decide⟩ dX5_wells_15 ⟨rfl, rfl⟩ ?_
      refine y_ifb_eq (pc := 18) (tgt := 25) C dX5_wells_18 (by decide) (fun c18 => ?_) (fun c18 => ?_)
      · skip
        refine y_iconst (pc := 25) C dX5_wells_25 ?_
        first | exact J1 true (decide_eq_true (by (try simp only [decide_eq_true_eq, decide_eq_false_iff_not] at c7 c18); omega)).symm | exact J1 false (decide_eq_false (by (try simp only [decide_eq_true_eq, decide_eq_false_iff_not] at c7 c18); omega)).symm
      · skip
        refine y_iconst (pc := 21) C dX5_wells_21 ?_
        refine y_goto (pc := 22) (tgt := 26) C dX5_wells_22 (by decide) ?_
        first | exact J1 true (decide_eq_true (by (try simp only [decide_eq_true_eq, decide_eq_false_iff_not] at c7 c18); omega)).symm | exact J1 false (decide_eq_false (by (try simp only [decide_eq_true_eq, decide_eq_false_iff_not] at c7 c18); omega)).symm

set_option maxRecDepth 20000 in
theorem mt_leak {Ω : OmT} {hR : AH} {M : Nat} {ma : Nat → Nat} {σ : ZT} {τ : JT} (ns nc nl : Nat) (hwf : Wf σ ns nc nl) (s : ZT) (hs : s = zu σ 0 0 0) (x : Int) (h_x : -2147483648 ≤ x ∧ x < 2147483648) (u : Int) (h_u : -2147483648 ≤ u ∧ u < 2147483648)  : Ct Ω yX5_leak cX5_leak 4 (some FieldType.int) (rk 3) [.ref M, .int (iv x), .int (iv u)] (InvM Ω M ma σ τ) hR (FR (lkK σ x u) (.int (iv (s 12 x.toNat))) (.int (iv 0)) (InvM Ω M ma (zu s 12 x.toNat u) (τ)) (InvM Ω M ma (zu σ 0 0 (lkK σ x u)) τ)) NX := by
  refine Ct.of (own := RX5) (L := [(0, _), (1, _), (2, _)]) (by decide +kernel) rfl (Nat.le_of_ble_eq_true rfl) rfl ?_
  intro κ C hn E hi
  have hsf : ∀ f, f ≠ 0 → s f = σ f := fun f hf => by rw [hs, zu_n hf]
  have hws := wf_0 hsf hwf
  have e2 := hws.1
  have e16 := hws.2.2.1
  have e27 := hws.2.2.2.2.1.1
  have o2 := hwf.1
  have o16 := hwf.2.2.1
  have o27 := hwf.2.2.2.2.1.1
  have hnow := hwf.2.2.2.2.2.1.2
  have e1 : s 1 0 = σ 1 0 := by rw [hsf 1 (by omega)]
  have hs2 := hwf.2.1
  have hc2 := hwf.2.2.2.1
  have hl2 := hwf.2.2.2.2.1.2.1
  have hKb : 0 ≤ lkK σ x u ∧ lkK σ x u ≤ 3 := by unfold lkK; split <;> (try split) <;> (try split) <;> omega
  refine y_aload_n (pc := 0) C dX5_leak_0 0 rfl ?_
  refine y_joinI (pcj := 29) (P := fun q => q = lkK σ x u) (fun v1 hv1 => ?_) (fun J1 => ?_)
  · skip
    subst hv1
    refine y_callV (pc := 29) (As := [_]) C E.2.1 cv_X5_133 (ci := 6) rfl rfl (mt_holds _ ⟨by omega, by omega⟩) (fun h hh => ⟨_, hh.1⟩) rfl rfl (Nat.le_of_ble_eq_true rfl) ⟨by decide, by decide, by decide, by decide⟩ dX5_leak_29 ⟨rfl, rfl⟩ ?_
    refine y_ifb_ne (pc := 32) (tgt := 37) C dX5_leak_32 (by decide) (fun c32 => ?_) (fun c32 => ?_)
    · skip
      have hK : lkK σ x u = 0 := of_decide_eq_true c32
      rw [hK, ← hs]
      have hG := (if1 hK)
      have hG2 := (if2 hG.2).1
      have hG1 := hG.1
      obtain ⟨k, rfl⟩ : ∃ k : Nat, x = k := ⟨x.toNat, by omega⟩
      refine y_aload_n (pc := 37) C dX5_leak_37 0 rfl ?_
      refine y_get (pc := 38) C fg_X5_37 dX5_leak_38 (fun h hh => ⟨_, hh.1, rfl⟩) ?_
      refine y_iload_n (pc := 41) C dX5_leak_41 1 rfl ?_
      refine m_iald (pc := 42) C 12 k rfl rfl (by show _ < 5; omega) dX5_leak_42 ?_
      refine y_istore_n (pc := 43) (L' := [(3, _), (0, _), (1, _), (2, _)]) C dX5_leak_43 (by rw [hn]; decide) rfl ?_
      refine y_aload_n (pc := 44) C dX5_leak_44 1 rfl ?_
      refine y_get (pc := 45) C fg_X5_37 dX5_leak_45 (fun h hh => ⟨_, hh.1, rfl⟩) ?_
      refine y_iload_n (pc := 48) C dX5_leak_48 2 rfl ?_
      refine y_iload_n (pc := 49) C dX5_leak_49 3 rfl ?_
      refine m_iast (pc := 50) C 12 k rfl rfl (by show _ < 5; omega) dX5_leak_50 ?_
      refine y_iload_n (pc := 51) C dX5_leak_51 0 rfl ?_
      exact y_iret (pc := 52) C E dX5_leak_52 (by decide) (by decide) (fun h hh => Or.inl ⟨hK, rfl, hh⟩)
    · skip
      have hK9 : ¬ lkK σ x u = 0 := of_decide_eq_false c32
      refine y_iconst (pc := 35) C dX5_leak_35 ?_
      exact y_iret (pc := 36) C E dX5_leak_36 (by decide) (by decide) (fun h hh => Or.inr ⟨hK9, rfl, hh⟩)
  · skip
    refine y_aload_n (pc := 1) C dX5_leak_1 0 rfl ?_
    refine y_iload_n (pc := 2) C dX5_leak_2 1 rfl ?_
    refine y_callV (pc := 3) (As := [_]) C E.2.1 cv_X5_140 (ci := 6) rfl rfl (mt_isStore _ ⟨by omega, by omega⟩ ⟨by omega, by omega⟩) (fun h hh => ⟨_, hh.1⟩) rfl rfl (Nat.le_of_ble_eq_true rfl) ⟨by decide, by decide, by decide, by decide⟩ dX5_leak_3 ⟨rfl, rfl⟩ ?_
    refine y_ifb_ne (pc := 6) (tgt := 13) C dX5_leak_6 (by decide) (fun c6 => ?_) (fun c6 => ?_)
    · skip
      refine y_iload_n (pc := 13) C dX5_leak_13 2 rfl ?_
      refine y_iconst (pc := 14) C dX5_leak_14 ?_
      refine y_sipush (pc := 15) (z := 1000) C dX5_leak_15 (by decide) ?_
      refine y_callS (pc := 18) (As := [_, _, _]) C E.2.1 cs_X5_108 (mt_isIn _ _ _ ⟨by omega, by omega⟩ ⟨by omega, by omega⟩ ⟨by omega, by omega⟩) rfl rfl (Nat.le_of_ble_eq_true rfl) ⟨by decide, by decide, by decide, by decide⟩ dX5_leak_18 ⟨rfl, rfl⟩ ?_
      refine y_ifb_eq (pc := 21) (tgt := 28) C dX5_leak_21 (by decide) (fun c21 => ?_) (fun c21 => ?_)
      · skip
        refine y_iconst (pc := 28) C dX5_leak_28 ?_
        exact J1 _ (by (try simp only [decide_eq_true_eq, decide_eq_false_iff_not] at c6 c21); unfold lkK; split <;> (try split) <;> (try split) <;> omega)
      · skip
        refine y_iconst (pc := 24) C dX5_leak_24 ?_
        refine y_goto (pc := 25) (tgt := 29) C dX5_leak_25 (by decide) ?_
        exact J1 _ (by (try simp only [decide_eq_true_eq, decide_eq_false_iff_not] at c6 c21); unfold lkK; split <;> (try split) <;> (try split) <;> omega)
    · skip
      refine y_iconst (pc := 9) C dX5_leak_9 ?_
      refine y_goto (pc := 10) (tgt := 29) C dX5_leak_10 (by decide) ?_
      exact J1 _ (by (try simp only [decide_eq_true_eq, decide_eq_false_iff_not] at c6); unfold lkK; split <;> (try split) <;> (try split) <;> omega)

set_option maxRecDepth 20000 in
theorem mt_leach {Ω : OmT} {hR : AH} {M : Nat} {ma : Nat → Nat} {σ : ZT} {τ : JT} (ns nc nl : Nat) (hwf : Wf σ ns nc nl) (s : ZT) (hs : s = zu σ 0 0 0) (x : Int) (h_x : -2147483648 ≤ x ∧ x < 2147483648) (u : Int) (h_u : -2147483648 ≤ u ∧ u < 2147483648)  : Ct Ω yX5_leach cX5_leach 6 (some FieldType.int) (rk 3) [.ref M, .int (iv x), .int (iv u)] (InvM Ω M ma σ τ) hR (FR (lcK σ x u) (.int (iv (zu s 4 x.toNat (s 4 x.toNat + u) 4 x.toNat))) (.int (iv 0)) (InvM Ω M ma (zu s 4 x.toNat (s 4 x.toNat + u)) (τ)) (InvM Ω M ma (zu σ 0 0 (lcK σ x u)) τ)) NX := by
  refine Ct.of (own := RX5) (L := [(0, _), (1, _), (2, _)]) (by decide +kernel) rfl (Nat.le_of_ble_eq_true rfl) rfl ?_
  intro κ C hn E hi
  have hsf : ∀ f, f ≠ 0 → s f = σ f := fun f hf => by rw [hs, zu_n hf]
  have hws := wf_0 hsf hwf
  have e2 := hws.1
  have e16 := hws.2.2.1
  have e27 := hws.2.2.2.2.1.1
  have o2 := hwf.1
  have o16 := hwf.2.2.1
  have o27 := hwf.2.2.2.2.1.1
  have hnow := hwf.2.2.2.2.2.1.2
  have e1 : s 1 0 = σ 1 0 := by rw [hsf 1 (by omega)]
  have hs2 := hwf.2.1
  have hc2 := hwf.2.2.2.1
  have hl2 := hwf.2.2.2.2.1.2.1
  have hKb : 0 ≤ lcK σ x u ∧ lcK σ x u ≤ 3 := by unfold lcK; split <;> (try split) <;> (try split) <;> omega
  refine y_aload_n (pc := 0) C dX5_leach_0 0 rfl ?_
  refine y_iload_n (pc := 1) C dX5_leach_1 1 rfl ?_
  refine y_callV (pc := 2) (As := [_]) C E.2.1 cv_X5_140 (ci := 6) rfl rfl (mt_isStore _ ⟨by omega, by omega⟩ ⟨by omega, by omega⟩) (fun h hh => ⟨_, hh.1⟩) rfl rfl (Nat.le_of_ble_eq_true rfl) ⟨by decide, by decide, by decide, by decide⟩ dX5_leach_2 ⟨rfl, rfl⟩ ?_
  refine y_istore_n (pc := 5) (L' := [(3, _), (0, _), (1, _), (2, _)]) C dX5_leach_5 (by rw [hn]; decide) rfl ?_
  refine y_iload_n (pc := 6) C dX5_leach_6 3 rfl ?_
  refine y_iconst (pc := 7) C dX5_leach_7 ?_
  refine y_ldc (pc := 8) (z := 100000) C aw_4_182 (by decide) dX5_leach_8 ?_
  refine y_callS (pc := 10) (As := [_, _, _]) C E.2.1 cs_X5_108 (mt_isIn _ _ _ ⟨by omega, by omega⟩ ⟨by omega, by omega⟩ ⟨by omega, by omega⟩) rfl rfl (Nat.le_of_ble_eq_true rfl) ⟨by decide, by decide, by decide, by decide⟩ dX5_leach_10 ⟨rfl, rfl⟩ ?_
  refine y_istore (pc := 13) (L' := [(4, _), (3, _), (0, _), (1, _), (2, _)]) C dX5_leach_13 (by rw [hn]; decide) rfl ?_
  refine y_joinB (pcj := 61) (P := fun q => q = decide (isN (σ 2 0) x ∧ (1 ≤ u ∧ u ≤ 100000) ∧ σ 3 x.toNat = 1 ∧ σ 6 x.toNat = 0 ∧ σ 4 x.toNat + u ≤ 100000)) (fun v1 hv1 => ?_) (fun J1 => ?_)
  · skip
    subst hv1
    refine y_istore (pc := 61) (L' := [(5, _), (4, _), (3, _), (0, _), (1, _), (2, _)]) C dX5_leach_61 (by rw [hn]; decide) rfl ?_
    refine y_aload_n (pc := 63) C dX5_leach_63 3 rfl ?_
    refine y_joinI (pcj := 91) (P := fun q => q = lcK σ x u) (fun v2 hv2 => ?_) (fun J2 => ?_)
    · skip
      subst hv2
      refine y_callV (pc := 91) (As := [_]) C E.2.1 cv_X5_133 (ci := 6) rfl rfl (mt_holds _ ⟨by omega, by omega⟩) (fun h hh => ⟨_, hh.1⟩) rfl rfl (Nat.le_of_ble_eq_true rfl) ⟨by decide, by decide, by decide, by decide⟩ dX5_leach_91 ⟨rfl, rfl⟩ ?_
      refine y_ifb_ne (pc := 94) (tgt := 99) C dX5_leach_94 (by decide) (fun c94 => ?_) (fun c94 => ?_)
      · skip
        have hK : lcK σ x u = 0 := of_decide_eq_true c94
        rw [hK, ← hs]
        have hG := (if1 hK)
        have hG2 := (if2 hG.2)
        have hG3 := (if3 hG2.2)
        have hG1 := hG.1
        obtain ⟨k, rfl⟩ : ∃ k : Nat, x = k := ⟨x.toNat, by omega⟩
        refine y_aload_n (pc := 99) C dX5_leach_99 3 rfl ?_
        refine y_get (pc := 100) C fg_X5_13 dX5_leach_100 (fun h hh => ⟨_, hh.1, rfl⟩) ?_
        refine y_iload_n (pc := 103) C dX5_leach_103 4 rfl ?_
        refine y_dup2 (pc := 104) C dX5_leach_104 rfl rfl ?_
        refine m_iald (pc := 105) C 4 k rfl rfl (by show _ < 5; omega) dX5_leach_105 ?_
        refine y_iload_n (pc := 106) C dX5_leach_106 5 rfl ?_
        refine y_iadd (pc := 107) C dX5_leach_107 ?_
        refine m_iast (pc := 108) C 4 k rfl rfl (by show _ < 5; omega) dX5_leach_108 ?_
        refine y_aload_n (pc := 109) C dX5_leach_109 3 rfl ?_
        refine y_get (pc := 110) C fg_X5_13 dX5_leach_110 (fun h hh => ⟨_, hh.1, rfl⟩) ?_
        refine y_iload_n (pc := 113) C dX5_leach_113 4 rfl ?_
        refine m_iald (pc := 114) C 4 k rfl rfl (by show _ < 5; omega) dX5_leach_114 ?_
        exact y_iret (pc := 115) C E dX5_leach_115 (by decide) (by decide) (fun h hh => Or.inl ⟨hK, rfl, hh⟩)
      · skip
        have hK9 : ¬ lcK σ x u = 0 := of_decide_eq_false c94
        refine y_iconst (pc := 97) C dX5_leach_97 ?_
        exact y_iret (pc := 98) C E dX5_leach_98 (by decide) (by decide) (fun h hh => Or.inr ⟨hK9, rfl, hh⟩)
    · skip
      refine y_iload_n (pc := 64) C dX5_leach_64 2 rfl ?_
      refine y_ifb_ne (pc := 65) (tgt := 72) C dX5_leach_65 (by decide) (fun c65 => ?_) (fun c65 => ?_)
      · skip
        refine y_iload (pc := 72) C dX5_leach_72 1 rfl ?_
        refine y_ifb_ne (pc := 74) (tgt := 81) C dX5_leach_74 (by decide) (fun c74 => ?_) (fun c74 => ?_)
        · skip
          refine y_iload (pc := 81) C dX5_leach_81 0 rfl ?_
          refine y_ifb_eq (pc := 83) (tgt := 90) C dX5_leach_83 (by decide) (fun c83 => ?_) (fun c83 => ?_)
          · skip
            refine y_iconst (pc := 90) C dX5_leach_90 ?_
            exact J2 _ (by (try simp only [decide_eq_true_eq, decide_eq_false_iff_not] at c65 c74 c83); unfold lcK; split <;> (try split) <;> (try split) <;> omega)
          · skip
            refine y_iconst (pc := 86) C dX5_leach_86 ?_
            refine y_goto (pc := 87) (tgt := 91) C dX5_leach_87 (by decide) ?_
            exact J2 _ (by (try simp only [decide_eq_true_eq, decide_eq_false_iff_not] at c65 c74 c83); unfold lcK; split <;> (try split) <;> (try split) <;> omega)
        · skip
          refine y_iconst (pc := 77) C dX5_leach_77 ?_
          refine y_goto (pc := 78) (tgt := 91) C dX5_leach_78 (by decide) ?_
          exact J2 _ (by (try simp only [decide_eq_true_eq, decide_eq_false_iff_not] at c65 c74); unfold lcK; split <;> (try split) <;> (try split) <;> omega)
      · skip
        refine y_iconst (pc := 68) C dX5_leach_68 ?_
        refine y_goto (pc := 69) (tgt := 91) C dX5_leach_69 (by decide) ?_
        exact J2 _ (by (try simp only [decide_eq_true_eq, decide_eq_false_iff_not] at c65); unfold lcK; split <;> (try split) <;> (try split) <;> omega)
  · skip
    refine y_iload_n (pc := 15) C dX5_leach_15 1 rfl ?_
    refine y_ifb_eq (pc := 16) (tgt := 60) C dX5_leach_16 (by decide) (fun c16 => ?_) (fun c16 => ?_)
    · skip
      refine y_iconst (pc := 60) C dX5_leach_60 ?_
      first | exact J1 true (decide_eq_true (by (try simp only [decide_eq_true_eq, decide_eq_false_iff_not] at c16); omega)).symm | exact J1 false (decide_eq_false (by (try simp only [decide_eq_true_eq, decide_eq_false_iff_not] at c16); omega)).symm
    · skip
      refine y_iload (pc := 19) C dX5_leach_19 0 rfl ?_
      refine y_ifb_eq (pc := 21) (tgt := 60) C dX5_leach_21 (by decide) (fun c21 => ?_) (fun c21 => ?_)
      · skip
        refine y_iconst (pc := 60) C dX5_leach_60 ?_
        first | exact J1 true (decide_eq_true (by (try simp only [decide_eq_true_eq, decide_eq_false_iff_not] at c16 c21); omega)).symm | exact J1 false (decide_eq_false (by (try simp only [decide_eq_true_eq, decide_eq_false_iff_not] at c16 c21); omega)).symm
      · skip
        have c16a := of_decide_eq_true c16
        have c21a := of_decide_eq_true c21
        have hsk := (hwf.2.2.2.2.2.2.1 x.toNat (by omega)).1
        unfold StO0 at hsk
        refine y_aload_n (pc := 24) C dX5_leach_24 2 rfl ?_
        refine y_get (pc := 25) C fg_X5_7 dX5_leach_25 (fun h hh => ⟨_, hh.1, rfl⟩) ?_
        refine y_iload_n (pc := 28) C dX5_leach_28 3 rfl ?_
        refine m_iald (pc := 29) C 3 x.toNat rfl (by omega) (by show _ < 5; omega) dX5_leach_29 ?_
        refine y_iconst (pc := 30) C dX5_leach_30 ?_
        refine y_icmp_ne (pc := 31) (tgt := 60) C dX5_leach_31 (by decide) (by omega) (by omega) (by omega) (by omega) (fun c31 => ?_) (fun c31 => ?_)
        · skip
          refine y_iconst (pc := 60) C dX5_leach_60 ?_
          first | exact J1 true (decide_eq_true (by (try simp only [decide_eq_true_eq, decide_eq_false_iff_not] at c16 c21 c31); omega)).symm | exact J1 false (decide_eq_false (by (try simp only [decide_eq_true_eq, decide_eq_false_iff_not] at c16 c21 c31); omega)).symm
        · skip
          refine y_aload_n (pc := 34) C dX5_leach_34 2 rfl ?_
          refine y_get (pc := 35) C fg_X5_19 dX5_leach_35 (fun h hh => ⟨_, hh.1, rfl⟩) ?_
          refine y_iload_n (pc := 38) C dX5_leach_38 3 rfl ?_
          refine m_iald (pc := 39) C 6 x.toNat rfl (by omega) (by show _ < 5; omega) dX5_leach_39 ?_
          refine y_if_ne (pc := 40) (tgt := 60) C dX5_leach_40 (by decide) (by omega) (by omega) (fun c40 => ?_) (fun c40 => ?_)
          · skip
            refine y_iconst (pc := 60) C dX5_leach_60 ?_
            first | exact J1 true (decide_eq_true (by (try simp only [decide_eq_true_eq, decide_eq_false_iff_not] at c16 c21 c31 c40); omega)).symm | exact J1 false (decide_eq_false (by (try simp only [decide_eq_true_eq, decide_eq_false_iff_not] at c16 c21 c31 c40); omega)).symm
          · skip
            refine y_aload_n (pc := 43) C dX5_leach_43 2 rfl ?_
            refine y_get (pc := 44) C fg_X5_13 dX5_leach_44 (fun h hh => ⟨_, hh.1, rfl⟩) ?_
            refine y_iload_n (pc := 47) C dX5_leach_47 3 rfl ?_
            refine m_iald (pc := 48) C 4 x.toNat rfl (by omega) (by show _ < 5; omega) dX5_leach_48 ?_
            refine y_iload_n (pc := 49) C dX5_leach_49 4 rfl ?_
            refine y_iadd (pc := 50) C dX5_leach_50 ?_
            refine y_ldc (pc := 51) (z := 100000) C aw_4_182 (by decide) dX5_leach_51 ?_
            refine y_icmp_gt (pc := 53) (tgt := 60) C dX5_leach_53 (by decide) (by omega) (by omega) (by omega) (by omega) (fun c53 => ?_) (fun c53 => ?_)
            · skip
              refine y_iconst (pc := 60) C dX5_leach_60 ?_
              first | exact J1 true (decide_eq_true (by (try simp only [decide_eq_true_eq, decide_eq_false_iff_not] at c16 c21 c31 c40 c53); omega)).symm | exact J1 false (decide_eq_false (by (try simp only [decide_eq_true_eq, decide_eq_false_iff_not] at c16 c21 c31 c40 c53); omega)).symm
            · skip
              refine y_iconst (pc := 56) C dX5_leach_56 ?_
              refine y_goto (pc := 57) (tgt := 61) C dX5_leach_57 (by decide) ?_
              first | exact J1 true (decide_eq_true (by (try simp only [decide_eq_true_eq, decide_eq_false_iff_not] at c16 c21 c31 c40 c53); omega)).symm | exact J1 false (decide_eq_false (by (try simp only [decide_eq_true_eq, decide_eq_false_iff_not] at c16 c21 c31 c40 c53); omega)).symm

set_option maxRecDepth 20000 in
theorem mt_heat {Ω : OmT} {hR : AH} {M : Nat} {ma : Nat → Nat} {σ : ZT} {τ : JT} (ns nc nl : Nat) (hwf : Wf σ ns nc nl) (s : ZT) (hs : s = zu σ 0 0 0) (u : Int) (h_u : -2147483648 ≤ u ∧ u < 2147483648)  : Ct Ω yX5_heat cX5_heat 3 (some FieldType.int) (rk 2) [.ref M, .int (iv u)] (InvM Ω M ma σ τ) hR (FR (htK u) (.int (iv (s 15 0))) (.int (iv 0)) (InvM Ω M ma (zu s 15 0 u) (τ)) (InvM Ω M ma (zu σ 0 0 (htK u)) τ)) NX := by
  refine Ct.of (own := RX5) (L := [(0, _), (1, _)]) (by decide +kernel) rfl (Nat.le_of_ble_eq_true rfl) rfl ?_
  intro κ C hn E hi
  have hsf : ∀ f, f ≠ 0 → s f = σ f := fun f hf => by rw [hs, zu_n hf]
  have hws := wf_0 hsf hwf
  have e2 := hws.1
  have e16 := hws.2.2.1
  have e27 := hws.2.2.2.2.1.1
  have o2 := hwf.1
  have o16 := hwf.2.2.1
  have o27 := hwf.2.2.2.2.1.1
  have hnow := hwf.2.2.2.2.2.1.2
  have e1 : s 1 0 = σ 1 0 := by rw [hsf 1 (by omega)]
  have hs2 := hwf.2.1
  have hc2 := hwf.2.2.2.1
  have hl2 := hwf.2.2.2.2.1.2.1
  have hKb : 0 ≤ htK u ∧ htK u ≤ 3 := by unfold htK; split <;> (try split) <;> (try split) <;> omega
  refine y_aload_n (pc := 0) C dX5_heat_0 0 rfl ?_
  refine y_joinI (pcj := 17) (P := fun q => q = htK u) (fun v1 hv1 => ?_) (fun J1 => ?_)
  · skip
    subst hv1
    refine y_callV (pc := 17) (As := [_]) C E.2.1 cv_X5_133 (ci := 6) rfl rfl (mt_holds _ ⟨by omega, by omega⟩) (fun h hh => ⟨_, hh.1⟩) rfl rfl (Nat.le_of_ble_eq_true rfl) ⟨by decide, by decide, by decide, by decide⟩ dX5_heat_17 ⟨rfl, rfl⟩ ?_
    refine y_ifb_ne (pc := 20) (tgt := 25) C dX5_heat_20 (by decide) (fun c20 => ?_) (fun c20 => ?_)
    · skip
      have hK : htK u = 0 := of_decide_eq_true c20
      rw [hK, ← hs]
      refine y_aload_n (pc := 25) C dX5_heat_25 0 rfl ?_
      refine y_get (pc := 26) C fg_X5_47 dX5_heat_26 (fun h hh => ⟨_, hh.1, rfl⟩) ?_
      refine y_istore_n (pc := 29) (L' := [(2, _), (0, _), (1, _)]) C dX5_heat_29 (by rw [hn]; decide) rfl ?_
      refine y_aload_n (pc := 30) C dX5_heat_30 1 rfl ?_
      refine y_iload_n (pc := 31) C dX5_heat_31 2 rfl ?_
      refine m_putI (pc := 32) C 15 rfl fp_X5_47 dX5_heat_32 ?_
      refine y_iload_n (pc := 35) C dX5_heat_35 0 rfl ?_
      exact y_iret (pc := 36) C E dX5_heat_36 (by decide) (by decide) (fun h hh => Or.inl ⟨hK, rfl, hh⟩)
    · skip
      have hK9 : ¬ htK u = 0 := of_decide_eq_false c20
      refine y_iconst (pc := 23) C dX5_heat_23 ?_
      exact y_iret (pc := 24) C E dX5_heat_24 (by decide) (by decide) (fun h hh => Or.inr ⟨hK9, rfl, hh⟩)
  · skip
    refine y_iload_n (pc := 1) C dX5_heat_1 1 rfl ?_
    refine y_iconst (pc := 2) C dX5_heat_2 ?_
    refine y_sipush (pc := 3) (z := 20000) C dX5_heat_3 (by decide) ?_
    refine y_callS (pc := 6) (As := [_, _, _]) C E.2.1 cs_X5_108 (mt_isIn _ _ _ ⟨by omega, by omega⟩ ⟨by omega, by omega⟩ ⟨by omega, by omega⟩) rfl rfl (Nat.le_of_ble_eq_true rfl) ⟨by decide, by decide, by decide, by decide⟩ dX5_heat_6 ⟨rfl, rfl⟩ ?_
    refine y_ifb_eq (pc := 9) (tgt := 16) C dX5_heat_9 (by decide) (fun c9 => ?_) (fun c9 => ?_)
    · skip
      refine y_iconst (pc := 16) C dX5_heat_16 ?_
      exact J1 _ (by (try simp only [decide_eq_true_eq, decide_eq_false_iff_not] at c9); unfold htK; split <;> (try split) <;> (try split) <;> omega)
    · skip
      refine y_iconst (pc := 12) C dX5_heat_12 ?_
      refine y_goto (pc := 13) (tgt := 17) C dX5_heat_13 (by decide) ?_
      exact J1 _ (by (try simp only [decide_eq_true_eq, decide_eq_false_iff_not] at c9); unfold htK; split <;> (try split) <;> (try split) <;> omega)

set_option maxRecDepth 20000 in
theorem mt_customer {Ω : OmT} {hR : AH} {M : Nat} {ma : Nat → Nat} {σ : ZT} {τ : JT} (ns nc nl : Nat) (hwf : Wf σ ns nc nl) (s : ZT) (hs : s = zu σ 0 0 0) (v : Int) (h_v : -2147483648 ≤ v ∧ v < 2147483648) (i : Int) (h_i : -2147483648 ≤ i ∧ i < 2147483648) (o : Int) (h_o : -2147483648 ≤ o ∧ o < 2147483648) (r : Int) (h_r : -2147483648 ≤ r ∧ r < 2147483648)  : Ct Ω yX5_customer cX5_customer 6 (some FieldType.int) (rk 2) [.ref M, .int (iv v), .int (iv i), .int (iv o), .int (iv r)] (InvM Ω M ma σ τ) hR (FR (cuK σ v i o r) (.int (iv (s 16 0 + 1 - 1))) (.int (iv 0)) (InvM Ω M ma (cuS nc v i o r s) (τ)) (InvM Ω M ma (zu σ 0 0 (cuK σ v i o r)) τ)) NX := by
  refine Ct.of (own := RX5) (L := [(0, _), (1, _), (2, _), (3, _), (4, _)]) (by decide +kernel) rfl (Nat.le_of_ble_eq_true rfl) rfl ?_
  intro κ C hn E hi
  have hsf : ∀ f, f ≠ 0 → s f = σ f := fun f hf => by rw [hs, zu_n hf]
  have hws := wf_0 hsf hwf
  have e2 := hws.1
  have e16 := hws.2.2.1
  have e27 := hws.2.2.2.2.1.1
  have o2 := hwf.1
  have o16 := hwf.2.2.1
  have o27 := hwf.2.2.2.2.1.1
  have hnow := hwf.2.2.2.2.2.1.2
  have e1 : s 1 0 = σ 1 0 := by rw [hsf 1 (by omega)]
  have hs2 := hwf.2.1
  have hc2 := hwf.2.2.2.1
  have hl2 := hwf.2.2.2.2.1.2.1
  have hKb : 0 ≤ cuK σ v i o r ∧ cuK σ v i o r ≤ 3 := by unfold cuK; split <;> (try split) <;> (try split) <;> omega
  refine y_joinB (pcj := 45) (P := fun q => q = decide (1 ≤ v ∧ v ≤ 1000000 ∧ 0 ≤ i ∧ i ≤ 100000 ∧ 0 ≤ o ∧ o ≤ 100000 ∧ 0 ≤ r ∧ r ≤ 3)) (fun v1 hv1 => ?_) (fun J1 => ?_)
  · skip
    subst hv1
    refine y_istore (pc := 45) (L' := [(5, _), (0, _), (1, _), (2, _), (3, _), (4, _)]) C dX5_customer_45 (by rw [hn]; decide) rfl ?_
    refine y_aload_n (pc := 47) C dX5_customer_47 1 rfl ?_
    refine y_joinI (pcj := 71) (P := fun q => q = cuK σ v i o r) (fun v2 hv2 => ?_) (fun J2 => ?_)
    · skip
      subst hv2
      refine y_callV (pc := 71) (As := [_]) C E.2.1 cv_X5_133 (ci := 6) rfl rfl (mt_holds _ ⟨by omega, by omega⟩) (fun h hh => ⟨_, hh.1⟩) rfl rfl (Nat.le_of_ble_eq_true rfl) ⟨by decide, by decide, by decide, by decide⟩ dX5_customer_71 ⟨rfl, rfl⟩ ?_
      refine y_ifb_ne (pc := 74) (tgt := 79) C dX5_customer_74 (by decide) (fun c74 => ?_) (fun c74 => ?_)
      · skip
        have hK : cuK σ v i o r = 0 := of_decide_eq_true c74
        rw [hK, ← hs]
        have hG := (if1 hK)
        have hG2 := if20 hG.2
        refine y_aload_n (pc := 79) C dX5_customer_79 1 rfl ?_
        refine y_get (pc := 80) C fg_X5_51 dX5_customer_80 (fun h hh => ⟨_, hh.1, rfl⟩) ?_
        refine y_aload_n (pc := 83) C dX5_customer_83 1 rfl ?_
        refine y_get (pc := 84) C fg_X5_112 dX5_customer_84 (fun h hh => ⟨_, hh.1, rfl⟩) ?_
        refine y_iload_n (pc := 87) C dX5_customer_87 2 rfl ?_
        refine m_iast (pc := 88) C 17 nc rfl e16 (by show _ < 6; omega) dX5_customer_88 ?_
        refine y_aload_n (pc := 89) C dX5_customer_89 1 rfl ?_
        refine y_get (pc := 90) C fg_X5_54 dX5_customer_90 (fun h hh => ⟨_, hh.1, rfl⟩) ?_
        refine y_aload_n (pc := 93) C dX5_customer_93 1 rfl ?_
        refine y_get (pc := 94) C fg_X5_112 dX5_customer_94 (fun h hh => ⟨_, hh.1, rfl⟩) ?_
        refine y_iload_n (pc := 97) C dX5_customer_97 3 rfl ?_
        refine m_iast (pc := 98) C 18 nc rfl e16 (by show _ < 6; omega) dX5_customer_98 ?_
        refine y_aload_n (pc := 99) C dX5_customer_99 1 rfl ?_
        refine y_get (pc := 100) C fg_X5_57 dX5_customer_100 (fun h hh => ⟨_, hh.1, rfl⟩) ?_
        refine y_aload_n (pc := 103) C dX5_customer_103 1 rfl ?_
        refine y_get (pc := 104) C fg_X5_112 dX5_customer_104 (fun h hh => ⟨_, hh.1, rfl⟩) ?_
        refine y_iload_n (pc := 107) C dX5_customer_107 4 rfl ?_
        refine m_iast (pc := 108) C 19 nc rfl e16 (by show _ < 6; omega) dX5_customer_108 ?_
        refine y_aload_n (pc := 109) C dX5_customer_109 1 rfl ?_
        refine y_get (pc := 110) C fg_X5_60 dX5_customer_110 (fun h hh => ⟨_, hh.1, rfl⟩) ?_
        refine y_aload_n (pc := 113) C dX5_customer_113 1 rfl ?_
        refine y_get (pc := 114) C fg_X5_112 dX5_customer_114 (fun h hh => ⟨_, hh.1, rfl⟩) ?_
        refine y_iload (pc := 117) C dX5_customer_117 5 rfl ?_
        refine m_iast (pc := 119) C 20 nc rfl e16 (by show _ < 6; omega) dX5_customer_119 ?_
        refine y_aload_n (pc := 120) C dX5_customer_120 1 rfl ?_
        refine y_dup (pc := 121) C dX5_customer_121 rfl ?_
        refine y_get (pc := 122) C fg_X5_112 dX5_customer_122 (fun h hh => ⟨_, hh.1, rfl⟩) ?_
        refine y_iconst (pc := 125) C dX5_customer_125 ?_
        refine y_iadd (pc := 126) C dX5_customer_126 ?_
        refine m_putI (pc := 127) C 16 rfl fp_X5_112 dX5_customer_127 ?_
        refine y_aload_n (pc := 130) C dX5_customer_130 1 rfl ?_
        refine y_get (pc := 131) C fg_X5_112 dX5_customer_131 (fun h hh => ⟨_, hh.1, rfl⟩) ?_
        refine y_iconst (pc := 134) C dX5_customer_134 ?_
        refine y_isub (pc := 135) C dX5_customer_135 ?_
        exact y_iret (pc := 136) C E dX5_customer_136 (by decide) (by decide) (fun h hh => Or.inl ⟨hK, rfl, hh⟩)
      · skip
        have hK9 : ¬ cuK σ v i o r = 0 := of_decide_eq_false c74
        refine y_iconst (pc := 77) C dX5_customer_77 ?_
        exact y_iret (pc := 78) C E dX5_customer_78 (by decide) (by decide) (fun h hh => Or.inr ⟨hK9, rfl, hh⟩)
    · skip
      refine y_iload (pc := 48) C dX5_customer_48 0 rfl ?_
      refine y_ifb_ne (pc := 50) (tgt := 57) C dX5_customer_50 (by decide) (fun c50 => ?_) (fun c50 => ?_)
      · skip
        refine y_aload_n (pc := 57) C dX5_customer_57 1 rfl ?_
        refine y_get (pc := 58) C fg_X5_112 dX5_customer_58 (fun h hh => ⟨_, hh.1, rfl⟩) ?_
        refine y_bipush (pc := 61) (z := 6) C dX5_customer_61 (by decide) ?_
        refine y_icmp_ne (pc := 63) (tgt := 70) C dX5_customer_63 (by decide) (by omega) (by omega) (by omega) (by omega) (fun c63 => ?_) (fun c63 => ?_)
        · skip
          refine y_iconst (pc := 70) C dX5_customer_70 ?_
          exact J2 _ (by (try simp only [decide_eq_true_eq, decide_eq_false_iff_not] at c50 c63); unfold cuK; split <;> (try split) <;> (try split) <;> omega)
        · skip
          refine y_iconst (pc := 66) C dX5_customer_66 ?_
          refine y_goto (pc := 67) (tgt := 71) C dX5_customer_67 (by decide) ?_
          exact J2 _ (by (try simp only [decide_eq_true_eq, decide_eq_false_iff_not] at c50 c63); unfold cuK; split <;> (try split) <;> (try split) <;> omega)
      · skip
        refine y_iconst (pc := 53) C dX5_customer_53 ?_
        refine y_goto (pc := 54) (tgt := 71) C dX5_customer_54 (by decide) ?_
        exact J2 _ (by (try simp only [decide_eq_true_eq, decide_eq_false_iff_not] at c50); unfold cuK; split <;> (try split) <;> (try split) <;> omega)
  · skip
    refine y_iload_n (pc := 0) C dX5_customer_0 1 rfl ?_
    refine y_iconst (pc := 1) C dX5_customer_1 ?_
    refine y_ldc (pc := 2) (z := 1000000) C aw_4_183 (by decide) dX5_customer_2 ?_
    refine y_callS (pc := 4) (As := [_, _, _]) C E.2.1 cs_X5_108 (mt_isIn _ _ _ ⟨by omega, by omega⟩ ⟨by omega, by omega⟩ ⟨by omega, by omega⟩) rfl rfl (Nat.le_of_ble_eq_true rfl) ⟨by decide, by decide, by decide, by decide⟩ dX5_customer_4 ⟨rfl, rfl⟩ ?_
    refine y_ifb_eq (pc := 7) (tgt := 44) C dX5_customer_7 (by decide) (fun c7 => ?_) (fun c7 => ?_)
    · skip
      refine y_iconst (pc := 44) C dX5_customer_44 ?_
      first | exact J1 true (decide_eq_true (by (try simp only [decide_eq_true_eq, decide_eq_false_iff_not] at c7); omega)).symm | exact J1 false (decide_eq_false (by (try simp only [decide_eq_true_eq, decide_eq_false_iff_not] at c7); omega)).symm
    · skip
      refine y_iload_n (pc := 10) C dX5_customer_10 2 rfl ?_
      refine y_iconst (pc := 11) C dX5_customer_11 ?_
      refine y_ldc (pc := 12) (z := 100000) C aw_4_182 (by decide) dX5_customer_12 ?_
      refine y_callS (pc := 14) (As := [_, _, _]) C E.2.1 cs_X5_108 (mt_isIn _ _ _ ⟨by omega, by omega⟩ ⟨by omega, by omega⟩ ⟨by omega, by omega⟩) rfl rfl (Nat.le_of_ble_eq_true rfl) ⟨by decide, by decide, by decide, by decide⟩ dX5_customer_14 ⟨rfl, rfl⟩ ?_
      refine y_ifb_eq (pc := 17) (tgt := 44) C dX5_customer_17 (by decide) (fun c17 => ?_) (fun c17 => ?_)
      · skip
        refine y_iconst (pc := 44) C dX5_customer_44 ?_
        first | exact J1 true (decide_eq_true (by (try simp only [decide_eq_true_eq, decide_eq_false_iff_not] at c7 c17); omega)).symm | exact J1 false (decide_eq_false (by (try simp only [decide_eq_true_eq, decide_eq_false_iff_not] at c7 c17); omega)).symm
      · skip
        refine y_iload_n (pc := 20) C dX5_customer_20 3 rfl ?_
        refine y_iconst (pc := 21) C dX5_customer_21 ?_
        refine y_ldc (pc := 22) (z := 100000) C aw_4_182 (by decide) dX5_customer_22 ?_
        refine y_callS (pc := 24) (As := [_, _, _]) C E.2.1 cs_X5_108 (mt_isIn _ _ _ ⟨by omega, by omega⟩ ⟨by omega, by omega⟩ ⟨by omega, by omega⟩) rfl rfl (Nat.le_of_ble_eq_true rfl) ⟨by decide, by decide, by decide, by decide⟩ dX5_customer_24 ⟨rfl, rfl⟩ ?_
        refine y_ifb_eq (pc := 27) (tgt := 44) C dX5_customer_27 (by decide) (fun c27 => ?_) (fun c27 => ?_)
        · skip
          refine y_iconst (pc := 44) C dX5_customer_44 ?_
          first | exact J1 true (decide_eq_true (by (try simp only [decide_eq_true_eq, decide_eq_false_iff_not] at c7 c17 c27); omega)).symm | exact J1 false (decide_eq_false (by (try simp only [decide_eq_true_eq, decide_eq_false_iff_not] at c7 c17 c27); omega)).symm
        · skip
          refine y_iload (pc := 30) C dX5_customer_30 4 rfl ?_
          refine y_iconst (pc := 32) C dX5_customer_32 ?_
          refine y_iconst (pc := 33) C dX5_customer_33 ?_
          refine y_callS (pc := 34) (As := [_, _, _]) C E.2.1 cs_X5_108 (mt_isIn _ _ _ ⟨by omega, by omega⟩ ⟨by omega, by omega⟩ ⟨by omega, by omega⟩) rfl rfl (Nat.le_of_ble_eq_true rfl) ⟨by decide, by decide, by decide, by decide⟩ dX5_customer_34 ⟨rfl, rfl⟩ ?_
          refine y_ifb_eq (pc := 37) (tgt := 44) C dX5_customer_37 (by decide) (fun c37 => ?_) (fun c37 => ?_)
          · skip
            refine y_iconst (pc := 44) C dX5_customer_44 ?_
            first | exact J1 true (decide_eq_true (by (try simp only [decide_eq_true_eq, decide_eq_false_iff_not] at c7 c17 c27 c37); omega)).symm | exact J1 false (decide_eq_false (by (try simp only [decide_eq_true_eq, decide_eq_false_iff_not] at c7 c17 c27 c37); omega)).symm
          · skip
            refine y_iconst (pc := 40) C dX5_customer_40 ?_
            refine y_goto (pc := 41) (tgt := 45) C dX5_customer_41 (by decide) ?_
            first | exact J1 true (decide_eq_true (by (try simp only [decide_eq_true_eq, decide_eq_false_iff_not] at c7 c17 c27 c37); omega)).symm | exact J1 false (decide_eq_false (by (try simp only [decide_eq_true_eq, decide_eq_false_iff_not] at c7 c17 c27 c37); omega)).symm

set_option maxRecDepth 20000 in
theorem mt_nominate {Ω : OmT} {hR : AH} {M : Nat} {ma : Nat → Nat} {σ : ZT} {τ : JT} (ns nc nl : Nat) (hwf : Wf σ ns nc nl) (s : ZT) (hs : s = zu σ 0 0 0) (x : Int) (h_x : -2147483648 ≤ x ∧ x < 2147483648) (t : Int) (h_t : -2147483648 ≤ t ∧ t < 2147483648) (u : Int) (h_u : -2147483648 ≤ u ∧ u < 2147483648)  : Ct Ω yX5_nominate cX5_nominate 7 (some FieldType.int) (rk 3) [.ref M, .int (iv x), .int (iv t), .int (iv u)] (InvM Ω M ma σ τ) hR (FR (nmK σ x t u) (.int (iv (s 25 (64 * x.toNat + t.toNat % 64)))) (.int (iv 0)) (InvM Ω M ma (zu s 25 (64 * x.toNat + t.toNat % 64) u) (τ)) (InvM Ω M ma (zu σ 0 0 (nmK σ x t u)) τ)) NX := by
  refine Ct.of (own := RX5) (L := [(0, _), (1, _), (2, _), (3, _)]) (by decide +kernel) rfl (Nat.le_of_ble_eq_true rfl) rfl ?_
  intro κ C hn E hi
  have hsf : ∀ f, f ≠ 0 → s f = σ f := fun f hf => by rw [hs, zu_n hf]
  have hws := wf_0 hsf hwf
  have e2 := hws.1
  have e16 := hws.2.2.1
  have e27 := hws.2.2.2.2.1.1
  have o2 := hwf.1
  have o16 := hwf.2.2.1
  have o27 := hwf.2.2.2.2.1.1
  have hnow := hwf.2.2.2.2.2.1.2
  have e1 : s 1 0 = σ 1 0 := by rw [hsf 1 (by omega)]
  have hs2 := hwf.2.1
  have hc2 := hwf.2.2.2.1
  have hl2 := hwf.2.2.2.2.1.2.1
  have hKb : 0 ≤ nmK σ x t u ∧ nmK σ x t u ≤ 3 := by unfold nmK; split <;> (try split) <;> (try split) <;> omega
  refine y_joinB (pcj := 37) (P := fun q => q = decide (σ 1 0 + 2 ≤ t ∧ t ≤ σ 1 0 + 60 ∧ -1000000 ≤ u ∧ u ≤ 1000000)) (fun v1 hv1 => ?_) (fun J1 => ?_)
  · skip
    subst hv1
    refine y_istore (pc := 37) (L' := [(4, _), (0, _), (1, _), (2, _), (3, _)]) C dX5_nominate_37 (by rw [hn]; decide) rfl ?_
    refine y_aload_n (pc := 39) C dX5_nominate_39 1 rfl ?_
    refine y_joinI (pcj := 62) (P := fun q => q = nmK σ x t u) (fun v2 hv2 => ?_) (fun J2 => ?_)
    · skip
      subst hv2
      refine y_callV (pc := 62) (As := [_]) C E.2.1 cv_X5_133 (ci := 6) rfl rfl (mt_holds _ ⟨by omega, by omega⟩) (fun h hh => ⟨_, hh.1⟩) rfl rfl (Nat.le_of_ble_eq_true rfl) ⟨by decide, by decide, by decide, by decide⟩ dX5_nominate_62 ⟨rfl, rfl⟩ ?_
      refine y_ifb_ne (pc := 65) (tgt := 70) C dX5_nominate_65 (by decide) (fun c65 => ?_) (fun c65 => ?_)
      · skip
        have hK : nmK σ x t u = 0 := of_decide_eq_true c65
        rw [hK, ← hs]
        have hG := (if1 hK)
        have hG1 := hG.1
        have hG2 := (if2 hG.2).1
        refine y_bipush (pc := 70) (z := 64) C dX5_nominate_70 (by decide) ?_
        refine y_iload_n (pc := 72) C dX5_nominate_72 2 rfl ?_
        refine y_imul (pc := 73) C dX5_nominate_73 ?_
        refine y_iload_n (pc := 74) C dX5_nominate_74 3 rfl ?_
        refine y_bipush (pc := 75) (z := 64) C dX5_nominate_75 (by decide) ?_
        refine y_irem (pc := 77) C dX5_nominate_77 (by omega) (by omega) (by omega) (by omega) ?_
        refine y_iadd (pc := 78) C dX5_nominate_78 ?_
        refine y_istore (pc := 79) (L' := [(5, _), (4, _), (0, _), (1, _), (2, _), (3, _)]) C dX5_nominate_79 (by rw [hn]; decide) rfl ?_
        refine y_aload_n (pc := 81) C dX5_nominate_81 2 rfl ?_
        refine y_get (pc := 82) C fg_X5_75 dX5_nominate_82 (fun h hh => ⟨_, hh.1, rfl⟩) ?_
        refine y_iload (pc := 85) C dX5_nominate_85 0 rfl ?_
        refine m_iald (pc := 87) C 25 (64 * x.toNat + t.toNat % 64) rfl (by omega) (by show _ < 384; omega) dX5_nominate_87 ?_
        refine y_istore (pc := 88) (L' := [(6, _), (5, _), (4, _), (0, _), (1, _), (2, _), (3, _)]) C dX5_nominate_88 (by rw [hn]; decide) rfl ?_
        refine y_aload_n (pc := 90) C dX5_nominate_90 3 rfl ?_
        refine y_get (pc := 91) C fg_X5_75 dX5_nominate_91 (fun h hh => ⟨_, hh.1, rfl⟩) ?_
        refine y_iload (pc := 94) C dX5_nominate_94 1 rfl ?_
        refine y_iload_n (pc := 96) C dX5_nominate_96 6 rfl ?_
        refine m_iast (pc := 97) C 25 (64 * x.toNat + t.toNat % 64) rfl (by omega) (by show _ < 384; omega) dX5_nominate_97 ?_
        refine y_iload (pc := 98) C dX5_nominate_98 0 rfl ?_
        exact y_iret (pc := 100) C E dX5_nominate_100 (by decide) (by decide) (fun h hh => Or.inl ⟨hK, rfl, hh⟩)
      · skip
        have hK9 : ¬ nmK σ x t u = 0 := of_decide_eq_false c65
        refine y_iconst (pc := 68) C dX5_nominate_68 ?_
        exact y_iret (pc := 69) C E dX5_nominate_69 (by decide) (by decide) (fun h hh => Or.inr ⟨hK9, rfl, hh⟩)
    · skip
      refine y_aload_n (pc := 40) C dX5_nominate_40 1 rfl ?_
      refine y_iload_n (pc := 41) C dX5_nominate_41 2 rfl ?_
      refine y_callV (pc := 42) (As := [_]) C E.2.1 cv_X5_155 (ci := 6) rfl rfl (mt_isCustomer _ ⟨by omega, by omega⟩ ⟨by omega, by omega⟩) (fun h hh => ⟨_, hh.1⟩) rfl rfl (Nat.le_of_ble_eq_true rfl) ⟨by decide, by decide, by decide, by decide⟩ dX5_nominate_42 ⟨rfl, rfl⟩ ?_
      refine y_ifb_ne (pc := 45) (tgt := 52) C dX5_nominate_45 (by decide) (fun c45 => ?_) (fun c45 => ?_)
      · skip
        refine y_iload (pc := 52) C dX5_nominate_52 0 rfl ?_
        refine y_ifb_eq (pc := 54) (tgt := 61) C dX5_nominate_54 (by decide) (fun c54 => ?_) (fun c54 => ?_)
        · skip
          refine y_iconst (pc := 61) C dX5_nominate_61 ?_
          exact J2 _ (by (try simp only [decide_eq_true_eq, decide_eq_false_iff_not] at c45 c54); unfold nmK; split <;> (try split) <;> (try split) <;> omega)
        · skip
          refine y_iconst (pc := 57) C dX5_nominate_57 ?_
          refine y_goto (pc := 58) (tgt := 62) C dX5_nominate_58 (by decide) ?_
          exact J2 _ (by (try simp only [decide_eq_true_eq, decide_eq_false_iff_not] at c45 c54); unfold nmK; split <;> (try split) <;> (try split) <;> omega)
      · skip
        refine y_iconst (pc := 48) C dX5_nominate_48 ?_
        refine y_goto (pc := 49) (tgt := 62) C dX5_nominate_49 (by decide) ?_
        exact J2 _ (by (try simp only [decide_eq_true_eq, decide_eq_false_iff_not] at c45); unfold nmK; split <;> (try split) <;> (try split) <;> omega)
  · skip
    refine y_iload_n (pc := 0) C dX5_nominate_0 2 rfl ?_
    refine y_aload_n (pc := 1) C dX5_nominate_1 0 rfl ?_
    refine y_get (pc := 2) C fg_X5_151 dX5_nominate_2 (fun h hh => ⟨_, hh.1, rfl⟩) ?_
    refine y_iconst (pc := 5) C dX5_nominate_5 ?_
    refine y_iadd (pc := 6) C dX5_nominate_6 ?_
    refine y_icmp_lt (pc := 7) (tgt := 36) C dX5_nominate_7 (by decide) (by omega) (by omega) (by omega) (by omega) (fun c7 => ?_) (fun c7 => ?_)
    · skip
      refine y_iconst (pc := 36) C dX5_nominate_36 ?_
      first | exact J1 true (decide_eq_true (by (try simp only [decide_eq_true_eq, decide_eq_false_iff_not] at c7); omega)).symm | exact J1 false (decide_eq_false (by (try simp only [decide_eq_true_eq, decide_eq_false_iff_not] at c7); omega)).symm
    · skip
      refine y_iload_n (pc := 10) C dX5_nominate_10 2 rfl ?_
      refine y_aload_n (pc := 11) C dX5_nominate_11 0 rfl ?_
      refine y_get (pc := 12) C fg_X5_151 dX5_nominate_12 (fun h hh => ⟨_, hh.1, rfl⟩) ?_
      refine y_bipush (pc := 15) (z := 60) C dX5_nominate_15 (by decide) ?_
      refine y_iadd (pc := 17) C dX5_nominate_17 ?_
      refine y_icmp_gt (pc := 18) (tgt := 36) C dX5_nominate_18 (by decide) (by omega) (by omega) (by omega) (by omega) (fun c18 => ?_) (fun c18 => ?_)
      · skip
        refine y_iconst (pc := 36) C dX5_nominate_36 ?_
        first | exact J1 true (decide_eq_true (by (try simp only [decide_eq_true_eq, decide_eq_false_iff_not] at c7 c18); omega)).symm | exact J1 false (decide_eq_false (by (try simp only [decide_eq_true_eq, decide_eq_false_iff_not] at c7 c18); omega)).symm
      · skip
        refine y_iload_n (pc := 21) C dX5_nominate_21 3 rfl ?_
        refine y_ldc (pc := 22) (z := -1000000) C aw_4_235 (by decide) dX5_nominate_22 ?_
        refine y_ldc (pc := 24) (z := 1000000) C aw_4_183 (by decide) dX5_nominate_24 ?_
        refine y_callS (pc := 26) (As := [_, _, _]) C E.2.1 cs_X5_108 (mt_isIn _ _ _ ⟨by omega, by omega⟩ ⟨by omega, by omega⟩ ⟨by omega, by omega⟩) rfl rfl (Nat.le_of_ble_eq_true rfl) ⟨by decide, by decide, by decide, by decide⟩ dX5_nominate_26 ⟨rfl, rfl⟩ ?_
        refine y_ifb_eq (pc := 29) (tgt := 36) C dX5_nominate_29 (by decide) (fun c29 => ?_) (fun c29 => ?_)
        · skip
          refine y_iconst (pc := 36) C dX5_nominate_36 ?_
          first | exact J1 true (decide_eq_true (by (try simp only [decide_eq_true_eq, decide_eq_false_iff_not] at c7 c18 c29); omega)).symm | exact J1 false (decide_eq_false (by (try simp only [decide_eq_true_eq, decide_eq_false_iff_not] at c7 c18 c29); omega)).symm
        · skip
          refine y_iconst (pc := 32) C dX5_nominate_32 ?_
          refine y_goto (pc := 33) (tgt := 37) C dX5_nominate_33 (by decide) ?_
          first | exact J1 true (decide_eq_true (by (try simp only [decide_eq_true_eq, decide_eq_false_iff_not] at c7 c18 c29); omega)).symm | exact J1 false (decide_eq_false (by (try simp only [decide_eq_true_eq, decide_eq_false_iff_not] at c7 c18 c29); omega)).symm

set_option maxRecDepth 20000 in
theorem mt_transfer {Ω : OmT} {hR : AH} {M : Nat} {ma : Nat → Nat} {σ : ZT} {τ : JT} (ns nc nl : Nat) (hwf : Wf σ ns nc nl) (s : ZT) (hs : s = zu σ 0 0 0) (a : Int) (h_a : -2147483648 ≤ a ∧ a < 2147483648) (b : Int) (h_b : -2147483648 ≤ b ∧ b < 2147483648) (u : Int) (h_u : -2147483648 ≤ u ∧ u < 2147483648)  : Ct Ω yX5_transfer cX5_transfer 7 (some FieldType.int) (rk 3) [.ref M, .int (iv a), .int (iv b), .int (iv u)] (InvM Ω M ma σ τ) hR (FR (trK σ a b u) (.int (iv (trS a.toNat b.toNat u s 21 b.toNat))) (.int (iv 0)) (InvM Ω M ma (trS a.toNat b.toNat u s) (τ)) (InvM Ω M ma (zu σ 0 0 (trK σ a b u)) τ)) NX := by
  refine Ct.of (own := RX5) (L := [(0, _), (1, _), (2, _), (3, _)]) (by decide +kernel) rfl (Nat.le_of_ble_eq_true rfl) rfl ?_
  intro κ C hn E hi
  have hsf : ∀ f, f ≠ 0 → s f = σ f := fun f hf => by rw [hs, zu_n hf]
  have hws := wf_0 hsf hwf
  have e2 := hws.1
  have e16 := hws.2.2.1
  have e27 := hws.2.2.2.2.1.1
  have o2 := hwf.1
  have o16 := hwf.2.2.1
  have o27 := hwf.2.2.2.2.1.1
  have hnow := hwf.2.2.2.2.2.1.2
  have e1 : s 1 0 = σ 1 0 := by rw [hsf 1 (by omega)]
  have hs2 := hwf.2.1
  have hc2 := hwf.2.2.2.1
  have hl2 := hwf.2.2.2.2.1.2.1
  have hKb : 0 ≤ trK σ a b u ∧ trK σ a b u ≤ 3 := by unfold trK; split <;> (try split) <;> (try split) <;> omega
  refine y_joinB (pcj := 21) (P := fun q => q = decide (isN (σ 16 0) a ∧ isN (σ 16 0) b)) (fun v1 hv1 => ?_) (fun J1 => ?_)
  · skip
    subst hv1
    refine y_istore (pc := 21) (L' := [(4, _), (0, _), (1, _), (2, _), (3, _)]) C dX5_transfer_21 (by rw [hn]; decide) rfl ?_
    refine y_joinB (pcj := 43) (P := fun q => q = decide (a ≠ b ∧ 1 ≤ u ∧ u ≤ 1000000)) (fun v2 hv2 => ?_) (fun J2 => ?_)
    · skip
      subst hv2
      refine y_istore (pc := 43) (L' := [(5, _), (4, _), (0, _), (1, _), (2, _), (3, _)]) C dX5_transfer_43 (by rw [hn]; decide) rfl ?_
      refine y_joinB (pcj := 82) (P := fun q => q = decide ((isN (σ 16 0) a ∧ isN (σ 16 0) b) ∧ u ≤ σ 21 a.toNat ∧ u ≤ σ 17 b.toNat - σ 21 b.toNat)) (fun v3 hv3 => ?_) (fun J3 => ?_)
      · skip
        subst hv3
        refine y_istore (pc := 82) (L' := [(6, _), (5, _), (4, _), (0, _), (1, _), (2, _), (3, _)]) C dX5_transfer_82 (by rw [hn]; decide) rfl ?_
        refine y_aload_n (pc := 84) C dX5_transfer_84 3 rfl ?_
        refine y_joinI (pcj := 113) (P := fun q => q = trK σ a b u) (fun v4 hv4 => ?_) (fun J4 => ?_)
        · skip
          subst hv4
          refine y_callV (pc := 113) (As := [_]) C E.2.1 cv_X5_133 (ci := 6) rfl rfl (mt_holds _ ⟨by omega, by omega⟩) (fun h hh => ⟨_, hh.1⟩) rfl rfl (Nat.le_of_ble_eq_true rfl) ⟨by decide, by decide, by decide, by decide⟩ dX5_transfer_113 ⟨rfl, rfl⟩ ?_
          refine y_ifb_ne (pc := 116) (tgt := 121) C dX5_transfer_116 (by decide) (fun c116 => ?_) (fun c116 => ?_)
          · skip
            have hK : trK σ a b u = 0 := of_decide_eq_true c116
            rw [hK, ← hs]
            have hG := (if1 hK)
            have hG2 := (if2 hG.2)
            have hG3 := (if3 hG2.2)
            have hG1 := hG.1
            obtain ⟨i, rfl⟩ : ∃ i : Nat, a = i := ⟨a.toNat, by omega⟩
            obtain ⟨j, rfl⟩ : ∃ j : Nat, b = j := ⟨b.toNat, by omega⟩
            refine y_aload_n (pc := 121) C dX5_transfer_121 3 rfl ?_
            refine y_get (pc := 122) C fg_X5_63 dX5_transfer_122 (fun h hh => ⟨_, hh.1, rfl⟩) ?_
            refine y_iload_n (pc := 125) C dX5_transfer_125 4 rfl ?_
            refine y_dup2 (pc := 126) C dX5_transfer_126 rfl rfl ?_
            refine m_iald (pc := 127) C 21 i rfl rfl (by show _ < 6; omega) dX5_transfer_127 ?_
            refine y_iload_n (pc := 128) C dX5_transfer_128 6 rfl ?_
            refine y_isub (pc := 129) C dX5_transfer_129 ?_
            refine m_iast (pc := 130) C 21 i rfl rfl (by show _ < 6; omega) dX5_transfer_130 ?_
            refine y_aload_n (pc := 131) C dX5_transfer_131 3 rfl ?_
            refine y_get (pc := 132) C fg_X5_63 dX5_transfer_132 (fun h hh => ⟨_, hh.1, rfl⟩) ?_
            refine y_iload_n (pc := 135) C dX5_transfer_135 5 rfl ?_
            refine y_dup2 (pc := 136) C dX5_transfer_136 rfl rfl ?_
            refine m_iald (pc := 137) C 21 j rfl rfl (by show _ < 6; omega) dX5_transfer_137 ?_
            refine y_iload_n (pc := 138) C dX5_transfer_138 6 rfl ?_
            refine y_iadd (pc := 139) C dX5_transfer_139 ?_
            refine m_iast (pc := 140) C 21 j rfl rfl (by show _ < 6; omega) dX5_transfer_140 ?_
            refine y_aload_n (pc := 141) C dX5_transfer_141 3 rfl ?_
            refine y_get (pc := 142) C fg_X5_63 dX5_transfer_142 (fun h hh => ⟨_, hh.1, rfl⟩) ?_
            refine y_iload_n (pc := 145) C dX5_transfer_145 5 rfl ?_
            refine m_iald (pc := 146) C 21 j rfl rfl (by show _ < 6; omega) dX5_transfer_146 ?_
            exact y_iret (pc := 147) C E dX5_transfer_147 (by decide) (by decide) (fun h hh => Or.inl ⟨hK, rfl, hh⟩)
          · skip
            have hK9 : ¬ trK σ a b u = 0 := of_decide_eq_false c116
            refine y_iconst (pc := 119) C dX5_transfer_119 ?_
            exact y_iret (pc := 120) C E dX5_transfer_120 (by decide) (by decide) (fun h hh => Or.inr ⟨hK9, rfl, hh⟩)
        · skip
          refine y_iload (pc := 85) C dX5_transfer_85 2 rfl ?_
          refine y_ifb_ne (pc := 87) (tgt := 94) C dX5_transfer_87 (by decide) (fun c87 => ?_) (fun c87 => ?_)
          · skip
            refine y_iload (pc := 94) C dX5_transfer_94 1 rfl ?_
            refine y_ifb_ne (pc := 96) (tgt := 103) C dX5_transfer_96 (by decide) (fun c96 => ?_) (fun c96 => ?_)
            · skip
              refine y_iload (pc := 103) C dX5_transfer_103 0 rfl ?_
              refine y_ifb_eq (pc := 105) (tgt := 112) C dX5_transfer_105 (by decide) (fun c105 => ?_) (fun c105 => ?_)
              · skip
                refine y_iconst (pc := 112) C dX5_transfer_112 ?_
                exact J4 _ (by (try simp only [decide_eq_true_eq, decide_eq_false_iff_not] at c87 c96 c105); unfold trK; split <;> (try split) <;> (try split) <;> omega)
              · skip
                refine y_iconst (pc := 108) C dX5_transfer_108 ?_
                refine y_goto (pc := 109) (tgt := 113) C dX5_transfer_109 (by decide) ?_
                exact J4 _ (by (try simp only [decide_eq_true_eq, decide_eq_false_iff_not] at c87 c96 c105); unfold trK; split <;> (try split) <;> (try split) <;> omega)
            · skip
              refine y_iconst (pc := 99) C dX5_transfer_99 ?_
              refine y_goto (pc := 100) (tgt := 113) C dX5_transfer_100 (by decide) ?_
              exact J4 _ (by (try simp only [decide_eq_true_eq, decide_eq_false_iff_not] at c87 c96); unfold trK; split <;> (try split) <;> (try split) <;> omega)
          · skip
            refine y_iconst (pc := 90) C dX5_transfer_90 ?_
            refine y_goto (pc := 91) (tgt := 113) C dX5_transfer_91 (by decide) ?_
            exact J4 _ (by (try simp only [decide_eq_true_eq, decide_eq_false_iff_not] at c87); unfold trK; split <;> (try split) <;> (try split) <;> omega)
      · skip
        refine y_iload (pc := 45) C dX5_transfer_45 1 rfl ?_
        refine y_ifb_eq (pc := 47) (tgt := 81) C dX5_transfer_47 (by decide) (fun c47 => ?_) (fun c47 => ?_)
        · skip
          refine y_iconst (pc := 81) C dX5_transfer_81 ?_
          first | exact J3 true (decide_eq_true (by (try simp only [decide_eq_true_eq, decide_eq_false_iff_not] at c47); omega)).symm | exact J3 false (decide_eq_false (by (try simp only [decide_eq_true_eq, decide_eq_false_iff_not] at c47); omega)).symm
        · skip
          have c47a := of_decide_eq_true c47
          have hca := hwf.2.2.2.2.2.2.2.1 a.toNat (by omega)
          have hcb := hwf.2.2.2.2.2.2.2.1 b.toNat (by omega)
          unfold CuOk at hca hcb
          refine y_aload_n (pc := 50) C dX5_transfer_50 2 rfl ?_
          refine y_get (pc := 51) C fg_X5_63 dX5_transfer_51 (fun h hh => ⟨_, hh.1, rfl⟩) ?_
          refine y_iload_n (pc := 54) C dX5_transfer_54 3 rfl ?_
          refine m_iald (pc := 55) C 21 a.toNat rfl (by omega) (by show _ < 6; omega) dX5_transfer_55 ?_
          refine y_iload_n (pc := 56) C dX5_transfer_56 5 rfl ?_
          refine y_icmp_lt (pc := 57) (tgt := 81) C dX5_transfer_57 (by decide) (by omega) (by omega) (by omega) (by omega) (fun c57 => ?_) (fun c57 => ?_)
          · skip
            refine y_iconst (pc := 81) C dX5_transfer_81 ?_
            first | exact J3 true (decide_eq_true (by (try simp only [decide_eq_true_eq, decide_eq_false_iff_not] at c47 c57); omega)).symm | exact J3 false (decide_eq_false (by (try simp only [decide_eq_true_eq, decide_eq_false_iff_not] at c47 c57); omega)).symm
          · skip
            refine y_aload_n (pc := 60) C dX5_transfer_60 2 rfl ?_
            refine y_get (pc := 61) C fg_X5_51 dX5_transfer_61 (fun h hh => ⟨_, hh.1, rfl⟩) ?_
            refine y_iload_n (pc := 64) C dX5_transfer_64 4 rfl ?_
            refine m_iald (pc := 65) C 17 b.toNat rfl (by omega) (by show _ < 6; omega) dX5_transfer_65 ?_
            refine y_aload_n (pc := 66) C dX5_transfer_66 2 rfl ?_
            refine y_get (pc := 67) C fg_X5_63 dX5_transfer_67 (fun h hh => ⟨_, hh.1, rfl⟩) ?_
            refine y_iload_n (pc := 70) C dX5_transfer_70 4 rfl ?_
            refine m_iald (pc := 71) C 21 b.toNat rfl (by omega) (by show _ < 6; omega) dX5_transfer_71 ?_
            refine y_isub (pc := 72) C dX5_transfer_72 ?_
            refine y_iload_n (pc := 73) C dX5_transfer_73 5 rfl ?_
            refine y_icmp_lt (pc := 74) (tgt := 81) C dX5_transfer_74 (by decide) (by omega) (by omega) (by omega) (by omega) (fun c74 => ?_) (fun c74 => ?_)
            · skip
              refine y_iconst (pc := 81) C dX5_transfer_81 ?_
              first | exact J3 true (decide_eq_true (by (try simp only [decide_eq_true_eq, decide_eq_false_iff_not] at c47 c57 c74); omega)).symm | exact J3 false (decide_eq_false (by (try simp only [decide_eq_true_eq, decide_eq_false_iff_not] at c47 c57 c74); omega)).symm
            · skip
              refine y_iconst (pc := 77) C dX5_transfer_77 ?_
              refine y_goto (pc := 78) (tgt := 82) C dX5_transfer_78 (by decide) ?_
              first | exact J3 true (decide_eq_true (by (try simp only [decide_eq_true_eq, decide_eq_false_iff_not] at c47 c57 c74); omega)).symm | exact J3 false (decide_eq_false (by (try simp only [decide_eq_true_eq, decide_eq_false_iff_not] at c47 c57 c74); omega)).symm
    · skip
      refine y_iload_n (pc := 23) C dX5_transfer_23 2 rfl ?_
      refine y_iload_n (pc := 24) C dX5_transfer_24 3 rfl ?_
      refine y_icmp_eq (pc := 25) (tgt := 42) C dX5_transfer_25 (by decide) (by omega) (by omega) (by omega) (by omega) (fun c25 => ?_) (fun c25 => ?_)
      · skip
        refine y_iconst (pc := 42) C dX5_transfer_42 ?_
        first | exact J2 true (decide_eq_true (by (try simp only [decide_eq_true_eq, decide_eq_false_iff_not] at c25); omega)).symm | exact J2 false (decide_eq_false (by (try simp only [decide_eq_true_eq, decide_eq_false_iff_not] at c25); omega)).symm
      · skip
        refine y_iload_n (pc := 28) C dX5_transfer_28 4 rfl ?_
        refine y_iconst (pc := 29) C dX5_transfer_29 ?_
        refine y_ldc (pc := 30) (z := 1000000) C aw_4_183 (by decide) dX5_transfer_30 ?_
        refine y_callS (pc := 32) (As := [_, _, _]) C E.2.1 cs_X5_108 (mt_isIn _ _ _ ⟨by omega, by omega⟩ ⟨by omega, by omega⟩ ⟨by omega, by omega⟩) rfl rfl (Nat.le_of_ble_eq_true rfl) ⟨by decide, by decide, by decide, by decide⟩ dX5_transfer_32 ⟨rfl, rfl⟩ ?_
        refine y_ifb_eq (pc := 35) (tgt := 42) C dX5_transfer_35 (by decide) (fun c35 => ?_) (fun c35 => ?_)
        · skip
          refine y_iconst (pc := 42) C dX5_transfer_42 ?_
          first | exact J2 true (decide_eq_true (by (try simp only [decide_eq_true_eq, decide_eq_false_iff_not] at c25 c35); omega)).symm | exact J2 false (decide_eq_false (by (try simp only [decide_eq_true_eq, decide_eq_false_iff_not] at c25 c35); omega)).symm
        · skip
          refine y_iconst (pc := 38) C dX5_transfer_38 ?_
          refine y_goto (pc := 39) (tgt := 43) C dX5_transfer_39 (by decide) ?_
          first | exact J2 true (decide_eq_true (by (try simp only [decide_eq_true_eq, decide_eq_false_iff_not] at c25 c35); omega)).symm | exact J2 false (decide_eq_false (by (try simp only [decide_eq_true_eq, decide_eq_false_iff_not] at c25 c35); omega)).symm
  · skip
    refine y_aload_n (pc := 0) C dX5_transfer_0 0 rfl ?_
    refine y_iload_n (pc := 1) C dX5_transfer_1 1 rfl ?_
    refine y_callV (pc := 2) (As := [_]) C E.2.1 cv_X5_155 (ci := 6) rfl rfl (mt_isCustomer _ ⟨by omega, by omega⟩ ⟨by omega, by omega⟩) (fun h hh => ⟨_, hh.1⟩) rfl rfl (Nat.le_of_ble_eq_true rfl) ⟨by decide, by decide, by decide, by decide⟩ dX5_transfer_2 ⟨rfl, rfl⟩ ?_
    refine y_ifb_eq (pc := 5) (tgt := 20) C dX5_transfer_5 (by decide) (fun c5 => ?_) (fun c5 => ?_)
    · skip
      refine y_iconst (pc := 20) C dX5_transfer_20 ?_
      first | exact J1 true (decide_eq_true (by (try simp only [decide_eq_true_eq, decide_eq_false_iff_not] at c5); omega)).symm | exact J1 false (decide_eq_false (by (try simp only [decide_eq_true_eq, decide_eq_false_iff_not] at c5); omega)).symm
    · skip
      refine y_aload_n (pc := 8) C dX5_transfer_8 0 rfl ?_
      refine y_iload_n (pc := 9) C dX5_transfer_9 2 rfl ?_
      refine y_callV (pc := 10) (As := [_]) C E.2.1 cv_X5_155 (ci := 6) rfl rfl (mt_isCustomer _ ⟨by omega, by omega⟩ ⟨by omega, by omega⟩) (fun h hh => ⟨_, hh.1⟩) rfl rfl (Nat.le_of_ble_eq_true rfl) ⟨by decide, by decide, by decide, by decide⟩ dX5_transfer_10 ⟨rfl, rfl⟩ ?_
      refine y_ifb_eq (pc := 13) (tgt := 20) C dX5_transfer_13 (by decide) (fun c13 => ?_) (fun c13 => ?_)
      · skip
        refine y_iconst (pc := 20) C dX5_transfer_20 ?_
        first | exact J1 true (decide_eq_true (by (try simp only [decide_eq_true_eq, decide_eq_false_iff_not] at c5 c13); omega)).symm | exact J1 false (decide_eq_false (by (try simp only [decide_eq_true_eq, decide_eq_false_iff_not] at c5 c13); omega)).symm
      · skip
        refine y_iconst (pc := 16) C dX5_transfer_16 ?_
        refine y_goto (pc := 17) (tgt := 21) C dX5_transfer_17 (by decide) ?_
        first | exact J1 true (decide_eq_true (by (try simp only [decide_eq_true_eq, decide_eq_false_iff_not] at c5 c13); omega)).symm | exact J1 false (decide_eq_false (by (try simp only [decide_eq_true_eq, decide_eq_false_iff_not] at c5 c13); omega)).symm

set_option maxRecDepth 20000 in
theorem mt_law {Ω : OmT} {hR : AH} {M : Nat} {ma : Nat → Nat} {σ : ZT} {τ : JT} (ns nc nl : Nat) (hwf : Wf σ ns nc nl) (s : ZT) (hs : s = zu σ 0 0 0) (a : Int) (h_a : -2147483648 ≤ a ∧ a < 2147483648) (b : Int) (h_b : -2147483648 ≤ b ∧ b < 2147483648) (l : Int) (h_l : -2147483648 ≤ l ∧ l < 2147483648)  : Ct Ω yX5_law cX5_law 5 (some FieldType.int) (rk 2) [.ref M, .int (iv a), .int (iv b), .int (iv l)] (InvM Ω M ma σ τ) hR (FR (lwK σ a b l) (.int (iv (s 27 0 + 1))) (.int (iv 0)) (InvM Ω M ma (lwS nl a b l s) (τ)) (InvM Ω M ma (zu σ 0 0 (lwK σ a b l)) τ)) NX := by
  refine Ct.of (own := RX5) (L := [(0, _), (1, _), (2, _), (3, _)]) (by decide +kernel) rfl (Nat.le_of_ble_eq_true rfl) rfl ?_
  intro κ C hn E hi
  have hsf : ∀ f, f ≠ 0 → s f = σ f := fun f hf => by rw [hs, zu_n hf]
  have hws := wf_0 hsf hwf
  have e2 := hws.1
  have e16 := hws.2.2.1
  have e27 := hws.2.2.2.2.1.1
  have o2 := hwf.1
  have o16 := hwf.2.2.1
  have o27 := hwf.2.2.2.2.1.1
  have hnow := hwf.2.2.2.2.2.1.2
  have e1 : s 1 0 = σ 1 0 := by rw [hsf 1 (by omega)]
  have hs2 := hwf.2.1
  have hc2 := hwf.2.2.2.1
  have hl2 := hwf.2.2.2.2.1.2.1
  have hKb : 0 ≤ lwK σ a b l ∧ lwK σ a b l ≤ 3 := by unfold lwK; split <;> (try split) <;> (try split) <;> omega
  refine y_joinB (pcj := 40) (P := fun q => q = decide (σ 1 0 ≤ a ∧ a ≤ 10000 ∧ a ≤ b ∧ b ≤ 10000 ∧ 0 ≤ l ∧ l ≤ 10000000)) (fun v1 hv1 => ?_) (fun J1 => ?_)
  · skip
    subst hv1
    refine y_istore (pc := 40) (L' := [(4, _), (0, _), (1, _), (2, _), (3, _)]) C dX5_law_40 (by rw [hn]; decide) rfl ?_
    refine y_aload_n (pc := 42) C dX5_law_42 1 rfl ?_
    refine y_joinI (pcj := 66) (P := fun q => q = lwK σ a b l) (fun v2 hv2 => ?_) (fun J2 => ?_)
    · skip
      subst hv2
      refine y_callV (pc := 66) (As := [_]) C E.2.1 cv_X5_133 (ci := 6) rfl rfl (mt_holds _ ⟨by omega, by omega⟩) (fun h hh => ⟨_, hh.1⟩) rfl rfl (Nat.le_of_ble_eq_true rfl) ⟨by decide, by decide, by decide, by decide⟩ dX5_law_66 ⟨rfl, rfl⟩ ?_
      refine y_ifb_ne (pc := 69) (tgt := 74) C dX5_law_69 (by decide) (fun c69 => ?_) (fun c69 => ?_)
      · skip
        have hK : lwK σ a b l = 0 := of_decide_eq_true c69
        rw [hK, ← hs]
        have hG := (if1 hK)
        have hG2 := if20 hG.2
        refine y_aload_n (pc := 74) C dX5_law_74 1 rfl ?_
        refine y_get (pc := 75) C fg_X5_81 dX5_law_75 (fun h hh => ⟨_, hh.1, rfl⟩) ?_
        refine y_aload_n (pc := 78) C dX5_law_78 1 rfl ?_
        refine y_get (pc := 79) C fg_X5_159 dX5_law_79 (fun h hh => ⟨_, hh.1, rfl⟩) ?_
        refine y_iload_n (pc := 82) C dX5_law_82 2 rfl ?_
        refine m_iast (pc := 83) C 28 nl rfl e27 (by show _ < 20; omega) dX5_law_83 ?_
        refine y_aload_n (pc := 84) C dX5_law_84 1 rfl ?_
        refine y_get (pc := 85) C fg_X5_84 dX5_law_85 (fun h hh => ⟨_, hh.1, rfl⟩) ?_
        refine y_aload_n (pc := 88) C dX5_law_88 1 rfl ?_
        refine y_get (pc := 89) C fg_X5_159 dX5_law_89 (fun h hh => ⟨_, hh.1, rfl⟩) ?_
        refine y_iload_n (pc := 92) C dX5_law_92 3 rfl ?_
        refine m_iast (pc := 93) C 29 nl rfl e27 (by show _ < 20; omega) dX5_law_93 ?_
        refine y_aload_n (pc := 94) C dX5_law_94 1 rfl ?_
        refine y_get (pc := 95) C fg_X5_87 dX5_law_95 (fun h hh => ⟨_, hh.1, rfl⟩) ?_
        refine y_aload_n (pc := 98) C dX5_law_98 1 rfl ?_
        refine y_get (pc := 99) C fg_X5_159 dX5_law_99 (fun h hh => ⟨_, hh.1, rfl⟩) ?_
        refine y_iload_n (pc := 102) C dX5_law_102 4 rfl ?_
        refine m_iast (pc := 103) C 30 nl rfl e27 (by show _ < 20; omega) dX5_law_103 ?_
        refine y_aload_n (pc := 104) C dX5_law_104 1 rfl ?_
        refine y_dup (pc := 105) C dX5_law_105 rfl ?_
        refine y_get (pc := 106) C fg_X5_159 dX5_law_106 (fun h hh => ⟨_, hh.1, rfl⟩) ?_
        refine y_iconst (pc := 109) C dX5_law_109 ?_
        refine y_iadd (pc := 110) C dX5_law_110 ?_
        refine m_putI (pc := 111) C 27 rfl fp_X5_159 dX5_law_111 ?_
        refine y_aload_n (pc := 114) C dX5_law_114 1 rfl ?_
        refine y_get (pc := 115) C fg_X5_159 dX5_law_115 (fun h hh => ⟨_, hh.1, rfl⟩) ?_
        exact y_iret (pc := 118) C E dX5_law_118 (by decide) (by decide) (fun h hh => Or.inl ⟨hK, rfl, hh⟩)
      · skip
        have hK9 : ¬ lwK σ a b l = 0 := of_decide_eq_false c69
        refine y_iconst (pc := 72) C dX5_law_72 ?_
        exact y_iret (pc := 73) C E dX5_law_73 (by decide) (by decide) (fun h hh => Or.inr ⟨hK9, rfl, hh⟩)
    · skip
      refine y_iload (pc := 43) C dX5_law_43 0 rfl ?_
      refine y_ifb_ne (pc := 45) (tgt := 52) C dX5_law_45 (by decide) (fun c45 => ?_) (fun c45 => ?_)
      · skip
        refine y_aload_n (pc := 52) C dX5_law_52 1 rfl ?_
        refine y_get (pc := 53) C fg_X5_159 dX5_law_53 (fun h hh => ⟨_, hh.1, rfl⟩) ?_
        refine y_bipush (pc := 56) (z := 20) C dX5_law_56 (by decide) ?_
        refine y_icmp_ne (pc := 58) (tgt := 65) C dX5_law_58 (by decide) (by omega) (by omega) (by omega) (by omega) (fun c58 => ?_) (fun c58 => ?_)
        · skip
          refine y_iconst (pc := 65) C dX5_law_65 ?_
          exact J2 _ (by (try simp only [decide_eq_true_eq, decide_eq_false_iff_not] at c45 c58); unfold lwK; split <;> (try split) <;> (try split) <;> omega)
        · skip
          refine y_iconst (pc := 61) C dX5_law_61 ?_
          refine y_goto (pc := 62) (tgt := 66) C dX5_law_62 (by decide) ?_
          exact J2 _ (by (try simp only [decide_eq_true_eq, decide_eq_false_iff_not] at c45 c58); unfold lwK; split <;> (try split) <;> (try split) <;> omega)
      · skip
        refine y_iconst (pc := 48) C dX5_law_48 ?_
        refine y_goto (pc := 49) (tgt := 66) C dX5_law_49 (by decide) ?_
        exact J2 _ (by (try simp only [decide_eq_true_eq, decide_eq_false_iff_not] at c45); unfold lwK; split <;> (try split) <;> (try split) <;> omega)
  · skip
    refine y_iload_n (pc := 0) C dX5_law_0 1 rfl ?_
    refine y_aload_n (pc := 1) C dX5_law_1 0 rfl ?_
    refine y_get (pc := 2) C fg_X5_151 dX5_law_2 (fun h hh => ⟨_, hh.1, rfl⟩) ?_
    refine y_sipush (pc := 5) (z := 10000) C dX5_law_5 (by decide) ?_
    refine y_callS (pc := 8) (As := [_, _, _]) C E.2.1 cs_X5_108 (mt_isIn _ _ _ ⟨by omega, by omega⟩ ⟨by omega, by omega⟩ ⟨by omega, by omega⟩) rfl rfl (Nat.le_of_ble_eq_true rfl) ⟨by decide, by decide, by decide, by decide⟩ dX5_law_8 ⟨rfl, rfl⟩ ?_
    refine y_ifb_eq (pc := 11) (tgt := 39) C dX5_law_11 (by decide) (fun c11 => ?_) (fun c11 => ?_)
    · skip
      refine y_iconst (pc := 39) C dX5_law_39 ?_
      first | exact J1 true (decide_eq_true (by (try simp only [decide_eq_true_eq, decide_eq_false_iff_not] at c11); omega)).symm | exact J1 false (decide_eq_false (by (try simp only [decide_eq_true_eq, decide_eq_false_iff_not] at c11); omega)).symm
    · skip
      refine y_iload_n (pc := 14) C dX5_law_14 2 rfl ?_
      refine y_iload_n (pc := 15) C dX5_law_15 1 rfl ?_
      refine y_sipush (pc := 16) (z := 10000) C dX5_law_16 (by decide) ?_
      refine y_callS (pc := 19) (As := [_, _, _]) C E.2.1 cs_X5_108 (mt_isIn _ _ _ ⟨by omega, by omega⟩ ⟨by omega, by omega⟩ ⟨by omega, by omega⟩) rfl rfl (Nat.le_of_ble_eq_true rfl) ⟨by decide, by decide, by decide, by decide⟩ dX5_law_19 ⟨rfl, rfl⟩ ?_
      refine y_ifb_eq (pc := 22) (tgt := 39) C dX5_law_22 (by decide) (fun c22 => ?_) (fun c22 => ?_)
      · skip
        refine y_iconst (pc := 39) C dX5_law_39 ?_
        first | exact J1 true (decide_eq_true (by (try simp only [decide_eq_true_eq, decide_eq_false_iff_not] at c11 c22); omega)).symm | exact J1 false (decide_eq_false (by (try simp only [decide_eq_true_eq, decide_eq_false_iff_not] at c11 c22); omega)).symm
      · skip
        refine y_iload_n (pc := 25) C dX5_law_25 3 rfl ?_
        refine y_iconst (pc := 26) C dX5_law_26 ?_
        refine y_ldc (pc := 27) (z := 10000000) C aw_5_8 (by decide) dX5_law_27 ?_
        refine y_callS (pc := 29) (As := [_, _, _]) C E.2.1 cs_X5_108 (mt_isIn _ _ _ ⟨by omega, by omega⟩ ⟨by omega, by omega⟩ ⟨by omega, by omega⟩) rfl rfl (Nat.le_of_ble_eq_true rfl) ⟨by decide, by decide, by decide, by decide⟩ dX5_law_29 ⟨rfl, rfl⟩ ?_
        refine y_ifb_eq (pc := 32) (tgt := 39) C dX5_law_32 (by decide) (fun c32 => ?_) (fun c32 => ?_)
        · skip
          refine y_iconst (pc := 39) C dX5_law_39 ?_
          first | exact J1 true (decide_eq_true (by (try simp only [decide_eq_true_eq, decide_eq_false_iff_not] at c11 c22 c32); omega)).symm | exact J1 false (decide_eq_false (by (try simp only [decide_eq_true_eq, decide_eq_false_iff_not] at c11 c22 c32); omega)).symm
        · skip
          refine y_iconst (pc := 35) C dX5_law_35 ?_
          refine y_goto (pc := 36) (tgt := 40) C dX5_law_36 (by decide) ?_
          first | exact J1 true (decide_eq_true (by (try simp only [decide_eq_true_eq, decide_eq_false_iff_not] at c11 c22 c32); omega)).symm | exact J1 false (decide_eq_false (by (try simp only [decide_eq_true_eq, decide_eq_false_iff_not] at c11 c22 c32); omega)).symm

set_option maxRecDepth 20000 in
theorem mt_price {Ω : OmT} {hR : AH} {M : Nat} {ma : Nat → Nat} {σ : ZT} {τ : JT} (ns nc nl : Nat) (hwf : Wf σ ns nc nl) (s : ZT) (hs : s = zu σ 0 0 0) (t : Int) (h_t : -2147483648 ≤ t ∧ t < 2147483648) (u : Int) (h_u : -2147483648 ≤ u ∧ u < 2147483648)  : Ct Ω yX5_price cX5_price 5 (some FieldType.int) (rk 2) [.ref M, .int (iv t), .int (iv u)] (InvM Ω M ma σ τ) hR (FR (prK σ t u) (.int (iv (s 26 (t.toNat % 64)))) (.int (iv 0)) (InvM Ω M ma (zu s 26 (t.toNat % 64) u) (τ)) (InvM Ω M ma (zu σ 0 0 (prK σ t u)) τ)) NX := by
  refine Ct.of (own := RX5) (L := [(0, _), (1, _), (2, _)]) (by decide +kernel) rfl (Nat.le_of_ble_eq_true rfl) rfl ?_
  intro κ C hn E hi
  have hsf : ∀ f, f ≠ 0 → s f = σ f := fun f hf => by rw [hs, zu_n hf]
  have hws := wf_0 hsf hwf
  have e2 := hws.1
  have e16 := hws.2.2.1
  have e27 := hws.2.2.2.2.1.1
  have o2 := hwf.1
  have o16 := hwf.2.2.1
  have o27 := hwf.2.2.2.2.1.1
  have hnow := hwf.2.2.2.2.2.1.2
  have e1 : s 1 0 = σ 1 0 := by rw [hsf 1 (by omega)]
  have hs2 := hwf.2.1
  have hc2 := hwf.2.2.2.1
  have hl2 := hwf.2.2.2.2.1.2.1
  have hKb : 0 ≤ prK σ t u ∧ prK σ t u ≤ 3 := by unfold prK; split <;> (try split) <;> (try split) <;> omega
  refine y_joinB (pcj := 37) (P := fun q => q = decide (σ 1 0 ≤ t ∧ t ≤ σ 1 0 + 60 ∧ -1000 ≤ u ∧ u ≤ 1000)) (fun v1 hv1 => ?_) (fun J1 => ?_)
  · skip
    subst hv1
    refine y_istore_n (pc := 37) (L' := [(3, _), (0, _), (1, _), (2, _)]) C dX5_price_37 (by rw [hn]; decide) rfl ?_
    refine y_aload_n (pc := 38) C dX5_price_38 1 rfl ?_
    refine y_joinI (pcj := 48) (P := fun q => q = prK σ t u) (fun v2 hv2 => ?_) (fun J2 => ?_)
    · skip
      subst hv2
      refine y_callV (pc := 48) (As := [_]) C E.2.1 cv_X5_133 (ci := 6) rfl rfl (mt_holds _ ⟨by omega, by omega⟩) (fun h hh => ⟨_, hh.1⟩) rfl rfl (Nat.le_of_ble_eq_true rfl) ⟨by decide, by decide, by decide, by decide⟩ dX5_price_48 ⟨rfl, rfl⟩ ?_
      refine y_ifb_ne (pc := 51) (tgt := 56) C dX5_price_51 (by decide) (fun c51 => ?_) (fun c51 => ?_)
      · skip
        have hK : prK σ t u = 0 := of_decide_eq_true c51
        rw [hK, ← hs]
        have hG := (if1 hK).1
        refine y_aload_n (pc := 56) C dX5_price_56 1 rfl ?_
        refine y_get (pc := 57) C fg_X5_78 dX5_price_57 (fun h hh => ⟨_, hh.1, rfl⟩) ?_
        refine y_iload_n (pc := 60) C dX5_price_60 2 rfl ?_
        refine y_bipush (pc := 61) (z := 64) C dX5_price_61 (by decide) ?_
        refine y_irem (pc := 63) C dX5_price_63 (by omega) (by omega) (by omega) (by omega) ?_
        refine m_iald (pc := 64) C 26 (t.toNat % 64) rfl (by omega) (by show _ < 64; omega) dX5_price_64 ?_
        refine y_istore (pc := 65) (L' := [(4, _), (3, _), (0, _), (1, _), (2, _)]) C dX5_price_65 (by rw [hn]; decide) rfl ?_
        refine y_aload_n (pc := 67) C dX5_price_67 2 rfl ?_
        refine y_get (pc := 68) C fg_X5_78 dX5_price_68 (fun h hh => ⟨_, hh.1, rfl⟩) ?_
        refine y_iload_n (pc := 71) C dX5_price_71 3 rfl ?_
        refine y_bipush (pc := 72) (z := 64) C dX5_price_72 (by decide) ?_
        refine y_irem (pc := 74) C dX5_price_74 (by omega) (by omega) (by omega) (by omega) ?_
        refine y_iload_n (pc := 75) C dX5_price_75 4 rfl ?_
        refine m_iast (pc := 76) C 26 (t.toNat % 64) rfl (by omega) (by show _ < 64; omega) dX5_price_76 ?_
        refine y_iload (pc := 77) C dX5_price_77 0 rfl ?_
        exact y_iret (pc := 79) C E dX5_price_79 (by decide) (by decide) (fun h hh => Or.inl ⟨hK, rfl, hh⟩)
      · skip
        have hK9 : ¬ prK σ t u = 0 := of_decide_eq_false c51
        refine y_iconst (pc := 54) C dX5_price_54 ?_
        exact y_iret (pc := 55) C E dX5_price_55 (by decide) (by decide) (fun h hh => Or.inr ⟨hK9, rfl, hh⟩)
    · skip
      refine y_iload_n (pc := 39) C dX5_price_39 0 rfl ?_
      refine y_ifb_eq (pc := 40) (tgt := 47) C dX5_price_40 (by decide) (fun c40 => ?_) (fun c40 => ?_)
      · skip
        refine y_iconst (pc := 47) C dX5_price_47 ?_
        exact J2 _ (by (try simp only [decide_eq_true_eq, decide_eq_false_iff_not] at c40); unfold prK; split <;> (try split) <;> (try split) <;> omega)
      · skip
        refine y_iconst (pc := 43) C dX5_price_43 ?_
        refine y_goto (pc := 44) (tgt := 48) C dX5_price_44 (by decide) ?_
        exact J2 _ (by (try simp only [decide_eq_true_eq, decide_eq_false_iff_not] at c40); unfold prK; split <;> (try split) <;> (try split) <;> omega)
  · skip
    refine y_iload_n (pc := 0) C dX5_price_0 1 rfl ?_
    refine y_aload_n (pc := 1) C dX5_price_1 0 rfl ?_
    refine y_get (pc := 2) C fg_X5_151 dX5_price_2 (fun h hh => ⟨_, hh.1, rfl⟩) ?_
    refine y_icmp_lt (pc := 5) (tgt := 36) C dX5_price_5 (by decide) (by omega) (by omega) (by omega) (by omega) (fun c5 => ?_) (fun c5 => ?_)
    · skip
      refine y_iconst (pc := 36) C dX5_price_36 ?_
      first | exact J1 true (decide_eq_true (by (try simp only [decide_eq_true_eq, decide_eq_false_iff_not] at c5); omega)).symm | exact J1 false (decide_eq_false (by (try simp only [decide_eq_true_eq, decide_eq_false_iff_not] at c5); omega)).symm
    · skip
      refine y_iload_n (pc := 8) C dX5_price_8 1 rfl ?_
      refine y_aload_n (pc := 9) C dX5_price_9 0 rfl ?_
      refine y_get (pc := 10) C fg_X5_151 dX5_price_10 (fun h hh => ⟨_, hh.1, rfl⟩) ?_
      refine y_bipush (pc := 13) (z := 60) C dX5_price_13 (by decide) ?_
      refine y_iadd (pc := 15) C dX5_price_15 ?_
      refine y_icmp_gt (pc := 16) (tgt := 36) C dX5_price_16 (by decide) (by omega) (by omega) (by omega) (by omega) (fun c16 => ?_) (fun c16 => ?_)
      · skip
        refine y_iconst (pc := 36) C dX5_price_36 ?_
        first | exact J1 true (decide_eq_true (by (try simp only [decide_eq_true_eq, decide_eq_false_iff_not] at c5 c16); omega)).symm | exact J1 false (decide_eq_false (by (try simp only [decide_eq_true_eq, decide_eq_false_iff_not] at c5 c16); omega)).symm
      · skip
        refine y_iload_n (pc := 19) C dX5_price_19 2 rfl ?_
        refine y_sipush (pc := 20) (z := (-1000)) C dX5_price_20 (by decide) ?_
        refine y_sipush (pc := 23) (z := 1000) C dX5_price_23 (by decide) ?_
        refine y_callS (pc := 26) (As := [_, _, _]) C E.2.1 cs_X5_108 (mt_isIn _ _ _ ⟨by omega, by omega⟩ ⟨by omega, by omega⟩ ⟨by omega, by omega⟩) rfl rfl (Nat.le_of_ble_eq_true rfl) ⟨by decide, by decide, by decide, by decide⟩ dX5_price_26 ⟨rfl, rfl⟩ ?_
        refine y_ifb_eq (pc := 29) (tgt := 36) C dX5_price_29 (by decide) (fun c29 => ?_) (fun c29 => ?_)
        · skip
          refine y_iconst (pc := 36) C dX5_price_36 ?_
          first | exact J1 true (decide_eq_true (by (try simp only [decide_eq_true_eq, decide_eq_false_iff_not] at c5 c16 c29); omega)).symm | exact J1 false (decide_eq_false (by (try simp only [decide_eq_true_eq, decide_eq_false_iff_not] at c5 c16 c29); omega)).symm
        · skip
          refine y_iconst (pc := 32) C dX5_price_32 ?_
          refine y_goto (pc := 33) (tgt := 37) C dX5_price_33 (by decide) ?_
          first | exact J1 true (decide_eq_true (by (try simp only [decide_eq_true_eq, decide_eq_false_iff_not] at c5 c16 c29); omega)).symm | exact J1 false (decide_eq_false (by (try simp only [decide_eq_true_eq, decide_eq_false_iff_not] at c5 c16 c29); omega)).symm

set_option maxRecDepth 20000 in
theorem mt_pass {Ω : OmT} {hR : AH} {M : Nat} {ma : Nat → Nat} {σ : ZT} {τ : JT} (ns nc nl : Nat) (hwf : Wf σ ns nc nl) (s : ZT) (hs : s = zu σ 0 0 0) (t : Int) (h_t : -2147483648 ≤ t ∧ t < 2147483648)  : Ct Ω yX5_pass cX5_pass 3 (some FieldType.int) (rk 7) [.ref M, .int (iv t)] (InvM Ω M ma σ τ) hR (FR (psK σ t) (.int (iv ((hours ns nc nl (s, τ) t.toNat).1 1 0))) (.int (iv 0)) (InvM Ω M ma ((hours ns nc nl (s, τ) t.toNat).1) ((hours ns nc nl (s, τ) t.toNat).2)) (InvM Ω M ma (zu σ 0 0 (psK σ t)) τ)) NX := by
  refine Ct.of (own := RX5) (L := [(0, _), (1, _)]) (by decide +kernel) rfl (Nat.le_of_ble_eq_true rfl) rfl ?_
  intro κ C hn E hi
  have hsf : ∀ f, f ≠ 0 → s f = σ f := fun f hf => by rw [hs, zu_n hf]
  have hws := wf_0 hsf hwf
  have e2 := hws.1
  have e16 := hws.2.2.1
  have e27 := hws.2.2.2.2.1.1
  have o2 := hwf.1
  have o16 := hwf.2.2.1
  have o27 := hwf.2.2.2.2.1.1
  have hnow := hwf.2.2.2.2.2.1.2
  have e1 : s 1 0 = σ 1 0 := by rw [hsf 1 (by omega)]
  have hs2 := hwf.2.1
  have hc2 := hwf.2.2.2.1
  have hl2 := hwf.2.2.2.2.1.2.1
  have hKb : 0 ≤ psK σ t ∧ psK σ t ≤ 3 := by unfold psK; split <;> (try split) <;> (try split) <;> omega
  refine y_aload_n (pc := 0) C dX5_pass_0 0 rfl ?_
  refine y_joinI (pcj := 33) (P := fun q => q = psK σ t) (fun v1 hv1 => ?_) (fun J1 => ?_)
  · skip
    subst hv1
    refine y_callV (pc := 33) (As := [_]) C E.2.1 cv_X5_133 (ci := 6) rfl rfl (mt_holds _ ⟨by omega, by omega⟩) (fun h hh => ⟨_, hh.1⟩) rfl rfl (Nat.le_of_ble_eq_true rfl) ⟨by decide, by decide, by decide, by decide⟩ dX5_pass_33 ⟨rfl, rfl⟩ ?_
    refine y_ifb_ne (pc := 36) (tgt := 41) C dX5_pass_36 (by decide) (fun c36 => ?_) (fun c36 => ?_)
    · skip
      have hK : psK σ t = 0 := of_decide_eq_true c36
      rw [hK, ← hs]
      have hG := (if1 hK)
      have hG2 := if20 hG.2
      refine y_iconst (pc := 41) C dX5_pass_41 ?_
      refine y_istore_n (pc := 42) (L' := [(2, _), (0, _), (1, _)]) C dX5_pass_42 (by rw [hn]; decide) rfl ?_
      have LP2 : ∀ (m2 : Nat) (i : Nat) (z : Int) (w : ZT) (v : JT), (k1 : t.toNat + 1 ≤ i + m2) → (k2 : i ≤ t.toNat) → (hz : z = i) → (hw : (w, v) = hours ns nc nl (s, τ) i) → Y Ω κ (InvM Ω M ma w v) hR 0 0 43 [(2, .int (iv z)), (0, .ref M), (1, .int (iv t))] [] := by
        intro m2
        induction m2 with
        | zero => intro i z w v k1 k2 hz hw; exfalso; omega
        | succ m2 ih2 =>
          intro i z w v k1 k2 hz hw
          have hh9 := wf_hours (p := (s, τ)) (n := i) hws (by show s 1 0 + _ ≤ _; omega)
          rw [← hw] at hh9
          have hw1 : w 1 0 = s 1 0 + i := hh9.2
          refine y_iload_n (pc := 43) C dX5_pass_43 0 rfl ?_
          refine y_iload_n (pc := 44) C dX5_pass_44 2 rfl ?_
          refine y_icmp_ge (pc := 45) (tgt := 58) C dX5_pass_45 (by decide) (by omega) (by omega) (by omega) (by omega) (fun c45 => ?_) (fun c45 => ?_)
          · skip
            have ei : i = t.toNat := by omega
            have eH : hours ns nc nl (s, τ) t.toNat = (w, v) := by rw [hw, ei]
            refine y_aload_n (pc := 58) C dX5_pass_58 1 rfl ?_
            refine y_get (pc := 59) C fg_X5_151 dX5_pass_59 (fun h hh => ⟨_, hh.1, rfl⟩) ?_
            exact y_iret (pc := 62) C E dX5_pass_62 (by decide) (by decide) (fun h hh => Or.inl ⟨hK, by rw [eH], by rw [eH]; exact hh⟩)
          · skip
            refine y_aload_n (pc := 48) C dX5_pass_48 1 rfl ?_
            refine y_callVv (pc := 49) (As := []) C E.2.1 cv_X5_229 (ci := 6) rfl rfl (mt_goesBy ns nc nl hh9.1 (by show w 1 0 < _; omega)) (fun h hh => ⟨_, hh.1⟩) rfl rfl (Nat.le_of_ble_eq_true rfl) ⟨by decide, by decide, by decide, by decide⟩ dX5_pass_49 ⟨rfl, rfl⟩ ?_
            refine y_iinc (pc := 52) (L' := [(2, _), (0, _), (1, _)]) C dX5_pass_52 0 rfl (by rw [hn]; decide) rfl ?_
            refine y_goto (pc := 55) (tgt := 43) C dX5_pass_55 (by decide) ?_
            refine Y.sub [0, 1, 2] rfl ?_
            exact ih2 (i + 1) _ _ _ (by omega) (by omega) (by omega) (by show _ = hourP ns nc nl (hours ns nc nl (s, τ) i); rw [← hw])
      refine Y.sub [0, 1, 2] rfl ?_
      exact LP2 (t.toNat + 1) 0 0 s τ (by omega) (by omega) rfl rfl
    · skip
      have hK9 : ¬ psK σ t = 0 := of_decide_eq_false c36
      refine y_iconst (pc := 39) C dX5_pass_39 ?_
      exact y_iret (pc := 40) C E dX5_pass_40 (by decide) (by decide) (fun h hh => Or.inr ⟨hK9, rfl, hh⟩)
  · skip
    refine y_iload_n (pc := 1) C dX5_pass_1 1 rfl ?_
    refine y_iconst (pc := 2) C dX5_pass_2 ?_
    refine y_sipush (pc := 3) (z := 240) C dX5_pass_3 (by decide) ?_
    refine y_callS (pc := 6) (As := [_, _, _]) C E.2.1 cs_X5_108 (mt_isIn _ _ _ ⟨by omega, by omega⟩ ⟨by omega, by omega⟩ ⟨by omega, by omega⟩) rfl rfl (Nat.le_of_ble_eq_true rfl) ⟨by decide, by decide, by decide, by decide⟩ dX5_pass_6 ⟨rfl, rfl⟩ ?_
    refine y_ifb_ne (pc := 9) (tgt := 16) C dX5_pass_9 (by decide) (fun c9 => ?_) (fun c9 => ?_)
    · skip
      have c9a := of_decide_eq_true c9
      refine y_aload_n (pc := 16) C dX5_pass_16 0 rfl ?_
      refine y_get (pc := 17) C fg_X5_151 dX5_pass_17 (fun h hh => ⟨_, hh.1, rfl⟩) ?_
      refine y_iload_n (pc := 20) C dX5_pass_20 1 rfl ?_
      refine y_iadd (pc := 21) C dX5_pass_21 ?_
      refine y_sipush (pc := 22) (z := 9900) C dX5_pass_22 (by decide) ?_
      refine y_icmp_le (pc := 25) (tgt := 32) C dX5_pass_25 (by decide) (by omega) (by omega) (by omega) (by omega) (fun c25 => ?_) (fun c25 => ?_)
      · skip
        refine y_iconst (pc := 32) C dX5_pass_32 ?_
        exact J1 _ (by (try simp only [decide_eq_true_eq, decide_eq_false_iff_not] at c9 c25); unfold psK; split <;> (try split) <;> (try split) <;> omega)
      · skip
        refine y_iconst (pc := 28) C dX5_pass_28 ?_
        refine y_goto (pc := 29) (tgt := 33) C dX5_pass_29 (by decide) ?_
        exact J1 _ (by (try simp only [decide_eq_true_eq, decide_eq_false_iff_not] at c9 c25); unfold psK; split <;> (try split) <;> (try split) <;> omega)
    · skip
      refine y_iconst (pc := 12) C dX5_pass_12 ?_
      refine y_goto (pc := 13) (tgt := 33) C dX5_pass_13 (by decide) ?_
      exact J1 _ (by (try simp only [decide_eq_true_eq, decide_eq_false_iff_not] at c9); unfold psK; split <;> (try split) <;> (try split) <;> omega)

set_option maxRecDepth 20000 in
theorem mt_pressure {Ω : OmT} {hR : AH} {M : Nat} {ma : Nat → Nat} {σ : ZT} {τ : JT} (ns nc nl : Nat) (hwf : Wf σ ns nc nl) (s : ZT) (hs : s = zu σ 0 0 0) (x : Int) (h_x : -2147483648 ≤ x ∧ x < 2147483648)  : Ct Ω yX5_pressure cX5_pressure 2 (some FieldType.int) (rk 3) [.ref M, .int (iv x)] (InvM Ω M ma σ τ) hR (FR (soK σ x) (.int (iv (pressZ s x.toNat))) (.int (iv 0)) (InvM Ω M ma (s) (τ)) (InvM Ω M ma (zu σ 0 0 (soK σ x)) τ)) NX := by
  refine Ct.of (own := RX5) (L := [(0, _), (1, _)]) (by decide +kernel) rfl (Nat.le_of_ble_eq_true rfl) rfl ?_
  intro κ C hn E hi
  have hsf : ∀ f, f ≠ 0 → s f = σ f := fun f hf => by rw [hs, zu_n hf]
  have hws := wf_0 hsf hwf
  have e2 := hws.1
  have e16 := hws.2.2.1
  have e27 := hws.2.2.2.2.1.1
  have o2 := hwf.1
  have o16 := hwf.2.2.1
  have o27 := hwf.2.2.2.2.1.1
  have hnow := hwf.2.2.2.2.2.1.2
  have e1 : s 1 0 = σ 1 0 := by rw [hsf 1 (by omega)]
  have hs2 := hwf.2.1
  have hc2 := hwf.2.2.2.1
  have hl2 := hwf.2.2.2.2.1.2.1
  have hKb : 0 ≤ soK σ x ∧ soK σ x ≤ 3 := by unfold soK; split <;> (try split) <;> (try split) <;> omega
  refine y_aload_n (pc := 0) C dX5_pressure_0 0 rfl ?_
  refine y_joinI (pcj := 14) (P := fun q => q = soK σ x) (fun v1 hv1 => ?_) (fun J1 => ?_)
  · skip
    subst hv1
    refine y_callV (pc := 14) (As := [_]) C E.2.1 cv_X5_133 (ci := 6) rfl rfl (mt_holds _ ⟨by omega, by omega⟩) (fun h hh => ⟨_, hh.1⟩) rfl rfl (Nat.le_of_ble_eq_true rfl) ⟨by decide, by decide, by decide, by decide⟩ dX5_pressure_14 ⟨rfl, rfl⟩ ?_
    refine y_ifb_eq (pc := 17) (tgt := 28) C dX5_pressure_17 (by decide) (fun c17 => ?_) (fun c17 => ?_)
    · skip
      have hK9 : ¬ soK σ x = 0 := of_decide_eq_false c17
      refine y_iconst (pc := 28) C dX5_pressure_28 ?_
      exact y_iret (pc := 29) C E dX5_pressure_29 (by decide) (by decide) (fun h hh => Or.inr ⟨hK9, rfl, hh⟩)
    · skip
      have hK : soK σ x = 0 := of_decide_eq_true c17
      rw [hK, ← hs]
      have hG := if1 hK
      have hG1 := hG.1
      obtain ⟨k, rfl⟩ : ∃ k : Nat, x = k := ⟨x.toNat, by omega⟩
      have hsk := hws.2.2.2.2.2.2.1 k (by omega)
      have hst0 := hsk.1
      unfold StO0 at hst0
      have hrm := st_room hsk.1
      refine y_aload_n (pc := 20) C dX5_pressure_20 0 rfl ?_
      refine y_iload_n (pc := 21) C dX5_pressure_21 1 rfl ?_
      refine y_callV (pc := 22) (As := [_]) C E.2.1 cv_X5_119 (ci := 6) rfl rfl (mt_pressureOf k (by omega) hsk.1) (fun h hh => ⟨_, hh.1⟩) rfl rfl (Nat.le_of_ble_eq_true rfl) ⟨by decide, by decide, by decide, by decide⟩ dX5_pressure_22 ⟨rfl, rfl⟩ ?_
      refine y_goto (pc := 25) (tgt := 29) C dX5_pressure_25 (by decide) ?_
      exact y_iret (pc := 29) C E dX5_pressure_29 (by decide) (by decide) (fun h hh => Or.inl ⟨hK, rfl, hh⟩)
  · skip
    refine y_aload_n (pc := 1) C dX5_pressure_1 0 rfl ?_
    refine y_iload_n (pc := 2) C dX5_pressure_2 1 rfl ?_
    refine y_callV (pc := 3) (As := [_]) C E.2.1 cv_X5_140 (ci := 6) rfl rfl (mt_isStore _ ⟨by omega, by omega⟩ ⟨by omega, by omega⟩) (fun h hh => ⟨_, hh.1⟩) rfl rfl (Nat.le_of_ble_eq_true rfl) ⟨by decide, by decide, by decide, by decide⟩ dX5_pressure_3 ⟨rfl, rfl⟩ ?_
    refine y_ifb_eq (pc := 6) (tgt := 13) C dX5_pressure_6 (by decide) (fun c6 => ?_) (fun c6 => ?_)
    · skip
      refine y_iconst (pc := 13) C dX5_pressure_13 ?_
      exact J1 _ (by (try simp only [decide_eq_true_eq, decide_eq_false_iff_not] at c6); unfold soK; split <;> (try split) <;> (try split) <;> omega)
    · skip
      refine y_iconst (pc := 9) C dX5_pressure_9 ?_
      refine y_goto (pc := 10) (tgt := 14) C dX5_pressure_10 (by decide) ?_
      exact J1 _ (by (try simp only [decide_eq_true_eq, decide_eq_false_iff_not] at c6); unfold soK; split <;> (try split) <;> (try split) <;> omega)

set_option maxRecDepth 20000 in
theorem mt_rate {Ω : OmT} {hR : AH} {M : Nat} {ma : Nat → Nat} {σ : ZT} {τ : JT} (ns nc nl : Nat) (hwf : Wf σ ns nc nl) (s : ZT) (hs : s = zu σ 0 0 0) (x : Int) (h_x : -2147483648 ≤ x ∧ x < 2147483648) (b : Bool) : Ct Ω yX5_rate cX5_rate 3 (some FieldType.int) (rk 4) [.ref M, .int (iv x), .int (iv (bz b))] (InvM Ω M ma σ τ) hR (FR (soK σ x) (.int (iv (rateZ s x.toNat b))) (.int (iv 0)) (InvM Ω M ma (s) (τ)) (InvM Ω M ma (zu σ 0 0 (soK σ x)) τ)) NX := by
  refine Ct.of (own := RX5) (L := [(0, _), (1, _), (2, _)]) (by decide +kernel) rfl (Nat.le_of_ble_eq_true rfl) rfl ?_
  intro κ C hn E hi
  have hsf : ∀ f, f ≠ 0 → s f = σ f := fun f hf => by rw [hs, zu_n hf]
  have hws := wf_0 hsf hwf
  have e2 := hws.1
  have e16 := hws.2.2.1
  have e27 := hws.2.2.2.2.1.1
  have o2 := hwf.1
  have o16 := hwf.2.2.1
  have o27 := hwf.2.2.2.2.1.1
  have hnow := hwf.2.2.2.2.2.1.2
  have e1 : s 1 0 = σ 1 0 := by rw [hsf 1 (by omega)]
  have hs2 := hwf.2.1
  have hc2 := hwf.2.2.2.1
  have hl2 := hwf.2.2.2.2.1.2.1
  have hKb : 0 ≤ soK σ x ∧ soK σ x ≤ 3 := by unfold soK; split <;> (try split) <;> (try split) <;> omega
  refine y_aload_n (pc := 0) C dX5_rate_0 0 rfl ?_
  refine y_joinI (pcj := 14) (P := fun q => q = soK σ x) (fun v1 hv1 => ?_) (fun J1 => ?_)
  · skip
    subst hv1
    refine y_callV (pc := 14) (As := [_]) C E.2.1 cv_X5_133 (ci := 6) rfl rfl (mt_holds _ ⟨by omega, by omega⟩) (fun h hh => ⟨_, hh.1⟩) rfl rfl (Nat.le_of_ble_eq_true rfl) ⟨by decide, by decide, by decide, by decide⟩ dX5_rate_14 ⟨rfl, rfl⟩ ?_
    refine y_ifb_eq (pc := 17) (tgt := 29) C dX5_rate_17 (by decide) (fun c17 => ?_) (fun c17 => ?_)
    · skip
      have hK9 : ¬ soK σ x = 0 := of_decide_eq_false c17
      refine y_iconst (pc := 29) C dX5_rate_29 ?_
      exact y_iret (pc := 30) C E dX5_rate_30 (by decide) (by decide) (fun h hh => Or.inr ⟨hK9, rfl, hh⟩)
    · skip
      have hK : soK σ x = 0 := of_decide_eq_true c17
      rw [hK, ← hs]
      have hG := if1 hK
      have hG1 := hG.1
      obtain ⟨k, rfl⟩ : ∃ k : Nat, x = k := ⟨x.toNat, by omega⟩
      have hsk := hws.2.2.2.2.2.2.1 k (by omega)
      have hst0 := hsk.1
      unfold StO0 at hst0
      have hrm := st_room hsk.1
      refine y_aload_n (pc := 20) C dX5_rate_20 0 rfl ?_
      refine y_iload_n (pc := 21) C dX5_rate_21 1 rfl ?_
      refine y_iload_n (pc := 22) C dX5_rate_22 2 rfl ?_
      refine y_callV (pc := 23) (As := [_, _]) C E.2.1 cv_X5_143 (ci := 6) rfl rfl (mt_rateOf k b (by omega) hsk) (fun h hh => ⟨_, hh.1⟩) rfl rfl (Nat.le_of_ble_eq_true rfl) ⟨by decide, by decide, by decide, by decide⟩ dX5_rate_23 ⟨rfl, rfl⟩ ?_
      refine y_goto (pc := 26) (tgt := 30) C dX5_rate_26 (by decide) ?_
      exact y_iret (pc := 30) C E dX5_rate_30 (by decide) (by decide) (fun h hh => Or.inl ⟨hK, rfl, hh⟩)
  · skip
    refine y_aload_n (pc := 1) C dX5_rate_1 0 rfl ?_
    refine y_iload_n (pc := 2) C dX5_rate_2 1 rfl ?_
    refine y_callV (pc := 3) (As := [_]) C E.2.1 cv_X5_140 (ci := 6) rfl rfl (mt_isStore _ ⟨by omega, by omega⟩ ⟨by omega, by omega⟩) (fun h hh => ⟨_, hh.1⟩) rfl rfl (Nat.le_of_ble_eq_true rfl) ⟨by decide, by decide, by decide, by decide⟩ dX5_rate_3 ⟨rfl, rfl⟩ ?_
    refine y_ifb_eq (pc := 6) (tgt := 13) C dX5_rate_6 (by decide) (fun c6 => ?_) (fun c6 => ?_)
    · skip
      refine y_iconst (pc := 13) C dX5_rate_13 ?_
      exact J1 _ (by (try simp only [decide_eq_true_eq, decide_eq_false_iff_not] at c6); unfold soK; split <;> (try split) <;> (try split) <;> omega)
    · skip
      refine y_iconst (pc := 9) C dX5_rate_9 ?_
      refine y_goto (pc := 10) (tgt := 14) C dX5_rate_10 (by decide) ?_
      exact J1 _ (by (try simp only [decide_eq_true_eq, decide_eq_false_iff_not] at c6); unfold soK; split <;> (try split) <;> (try split) <;> omega)

set_option maxRecDepth 20000 in
theorem mt_ofStore {Ω : OmT} {hR : AH} {M : Nat} {ma : Nat → Nat} {σ : ZT} {τ : JT} (ns nc nl : Nat) (hwf : Wf σ ns nc nl) (s : ZT) (hs : s = zu σ 0 0 0) (x : Int) (h_x : -2147483648 ≤ x ∧ x < 2147483648) (w : Int) (h_w : -2147483648 ≤ w ∧ w < 2147483648)  : Ct Ω yX5_ofStore cX5_ofStore 3 (some FieldType.long) (rk 3) [.ref M, .int (iv x), .int (iv w)] (InvM Ω M ma σ τ) hR (FR (osK σ x w) (.long (osR s τ x.toNat w)) (.long (jv 0)) (InvM Ω M ma (s) (τ)) (InvM Ω M ma (zu σ 0 0 (osK σ x w)) τ)) NX := by
  refine Ct.of (own := RX5) (L := [(0, _), (1, _), (2, _)]) (by decide +kernel) rfl (Nat.le_of_ble_eq_true rfl) rfl ?_
  intro κ C hn E hi
  have hsf : ∀ f, f ≠ 0 → s f = σ f := fun f hf => by rw [hs, zu_n hf]
  have hws := wf_0 hsf hwf
  have e2 := hws.1
  have e16 := hws.2.2.1
  have e27 := hws.2.2.2.2.1.1
  have o2 := hwf.1
  have o16 := hwf.2.2.1
  have o27 := hwf.2.2.2.2.1.1
  have hnow := hwf.2.2.2.2.2.1.2
  have e1 : s 1 0 = σ 1 0 := by rw [hsf 1 (by omega)]
  have hs2 := hwf.2.1
  have hc2 := hwf.2.2.2.1
  have hl2 := hwf.2.2.2.2.1.2.1
  have hKb : 0 ≤ osK σ x w ∧ osK σ x w ≤ 3 := by unfold osK; split <;> (try split) <;> (try split) <;> omega
  refine y_aload_n (pc := 0) C dX5_ofStore_0 0 rfl ?_
  refine y_joinI (pcj := 28) (P := fun q => q = osK σ x w) (fun v1 hv1 => ?_) (fun J1 => ?_)
  · skip
    subst hv1
    refine y_callV (pc := 28) (As := [_]) C E.2.1 cv_X5_133 (ci := 6) rfl rfl (mt_holds _ ⟨by omega, by omega⟩) (fun h hh => ⟨_, hh.1⟩) rfl rfl (Nat.le_of_ble_eq_true rfl) ⟨by decide, by decide, by decide, by decide⟩ dX5_ofStore_28 ⟨rfl, rfl⟩ ?_
    refine y_ifb_ne (pc := 31) (tgt := 36) C dX5_ofStore_31 (by decide) (fun c31 => ?_) (fun c31 => ?_)
    · skip
      have hK : osK σ x w = 0 := of_decide_eq_true c31
      rw [hK, ← hs]
      have hG := if1 hK
      have hG1 := hG.1
      obtain ⟨k, rfl⟩ : ∃ k : Nat, x = k := ⟨x.toNat, by omega⟩
      have hsk := hws.2.2.2.2.2.2.1 k (by omega)
      have hst0 := hsk.1
      unfold StO0 at hst0
      have hrm := st_room hsk.1
      have hG2 := (if2 hG.2).1
      refine y_iload_n (pc := 36) C dX5_ofStore_36 2 rfl ?_
      refine y_iconst (pc := 37) C dX5_ofStore_37 ?_
      refine y_icmp_ge (pc := 38) (tgt := 92) C dX5_ofStore_38 (by decide) (by omega) (by omega) (by omega) (by omega) (fun c38 => ?_) (fun c38 => ?_)
      · skip
        refine y_joinJ (pcj := 144) (P := fun q => q = osR s τ k w) (fun v2 hv2 => ?_) (fun J2 => ?_)
        · skip
          subst hv2
          exact y_lret (pc := 144) C E dX5_ofStore_144 (by decide) (by decide) (fun h hh => Or.inl ⟨hK, rfl, hh⟩)
        · skip
          refine y_iload_n (pc := 92) C dX5_ofStore_92 2 rfl ?_
          refine y_iconst (pc := 93) C dX5_ofStore_93 ?_
          refine y_icmp_ne (pc := 94) (tgt := 106) C dX5_ofStore_94 (by decide) (by omega) (by omega) (by omega) (by omega) (fun c94 => ?_) (fun c94 => ?_)
          · skip
            refine y_iload_n (pc := 106) C dX5_ofStore_106 2 rfl ?_
            refine y_iconst (pc := 107) C dX5_ofStore_107 ?_
            refine y_icmp_ne (pc := 108) (tgt := 129) C dX5_ofStore_108 (by decide) (by omega) (by omega) (by omega) (by omega) (fun c108 => ?_) (fun c108 => ?_)
            · skip
              refine y_aload_n (pc := 129) C dX5_ofStore_129 0 rfl ?_
              refine y_get (pc := 130) C fg_X5_25 dX5_ofStore_130 (fun h hh => ⟨_, hh.1, rfl⟩) ?_
              refine y_iload_n (pc := 133) C dX5_ofStore_133 1 rfl ?_
              refine m_iald (pc := 134) C 8 k rfl rfl (by show _ < 5; omega) dX5_ofStore_134 ?_
              refine y_aload_n (pc := 135) C dX5_ofStore_135 0 rfl ?_
              refine y_iload_n (pc := 136) C dX5_ofStore_136 1 rfl ?_
              refine y_callV (pc := 137) (As := [_]) C E.2.1 cv_X5_115 (ci := 6) rfl rfl (mt_roomOf k (by omega)) (fun h hh => ⟨_, hh.1⟩) rfl rfl (Nat.le_of_ble_eq_true rfl) ⟨by decide, by decide, by decide, by decide⟩ dX5_ofStore_137 ⟨rfl, rfl⟩ ?_
              refine y_callS (pc := 140) (As := [_, _]) C E.2.1 cs_X5_122 (mt_mostGas _ _ ⟨by omega, by omega⟩ ⟨by omega, by omega⟩) rfl rfl (Nat.le_of_ble_eq_true rfl) ⟨by decide, by decide, by decide, by decide⟩ dX5_ofStore_140 ⟨rfl, rfl⟩ ?_
              have hmo := st_most hsk.1
              refine y_i2l (pc := 143) C dX5_ofStore_143 (by omega) (by omega) ?_
              exact J2 _ (by unfold osR; split <;> first | rfl | (exfalso; omega) | (split <;> first | rfl | (exfalso; omega) | (split <;> first | rfl | (exfalso; omega) | (split <;> first | rfl | (exfalso; omega) | (split <;> first | rfl | (exfalso; omega) | (split <;> first | rfl | (exfalso; omega)))))))
            · skip
              refine y_aload_n (pc := 111) C dX5_ofStore_111 0 rfl ?_
              refine y_get (pc := 112) C fg_X5_22 dX5_ofStore_112 (fun h hh => ⟨_, hh.1, rfl⟩) ?_
              refine y_iload_n (pc := 115) C dX5_ofStore_115 1 rfl ?_
              refine m_iald (pc := 116) C 7 k rfl rfl (by show _ < 5; omega) dX5_ofStore_116 ?_
              refine y_aload_n (pc := 117) C dX5_ofStore_117 0 rfl ?_
              refine y_iload_n (pc := 118) C dX5_ofStore_118 1 rfl ?_
              refine y_callV (pc := 119) (As := [_]) C E.2.1 cv_X5_115 (ci := 6) rfl rfl (mt_roomOf k (by omega)) (fun h hh => ⟨_, hh.1⟩) rfl rfl (Nat.le_of_ble_eq_true rfl) ⟨by decide, by decide, by decide, by decide⟩ dX5_ofStore_119 ⟨rfl, rfl⟩ ?_
              refine y_callS (pc := 122) (As := [_, _]) C E.2.1 cs_X5_126 (mt_leastGas _ _ ⟨by omega, by omega⟩ ⟨by omega, by omega⟩) rfl rfl (Nat.le_of_ble_eq_true rfl) ⟨by decide, by decide, by decide, by decide⟩ dX5_ofStore_122 ⟨rfl, rfl⟩ ?_
              have hle := st_least hsk.1
              refine y_i2l (pc := 125) C dX5_ofStore_125 (by omega) (by omega) ?_
              refine y_goto (pc := 126) (tgt := 144) C dX5_ofStore_126 (by decide) ?_
              exact J2 _ (by unfold osR; split <;> first | rfl | (exfalso; omega) | (split <;> first | rfl | (exfalso; omega) | (split <;> first | rfl | (exfalso; omega) | (split <;> first | rfl | (exfalso; omega) | (split <;> first | rfl | (exfalso; omega) | (split <;> first | rfl | (exfalso; omega)))))))
          · skip
            refine y_aload_n (pc := 97) C dX5_ofStore_97 0 rfl ?_
            refine y_get (pc := 98) C fg_X5_40 dX5_ofStore_98 (fun h hh => ⟨_, hh.1, rfl⟩) ?_
            refine y_iload_n (pc := 101) C dX5_ofStore_101 1 rfl ?_
            refine m_lald (pc := 102) C 13 k rfl rfl (by show _ < 5; omega) dX5_ofStore_102 ?_
            refine y_goto (pc := 103) (tgt := 144) C dX5_ofStore_103 (by decide) ?_
            exact J2 _ (by unfold osR; split <;> first | rfl | (exfalso; omega) | (split <;> first | rfl | (exfalso; omega) | (split <;> first | rfl | (exfalso; omega) | (split <;> first | rfl | (exfalso; omega) | (split <;> first | rfl | (exfalso; omega) | (split <;> first | rfl | (exfalso; omega)))))))
      · skip
        refine y_joinJ (pcj := 91) (P := fun q => q = osR s τ k w) (fun v3 hv3 => ?_) (fun J3 => ?_)
        · skip
          subst hv3
          exact y_lret (pc := 91) C E dX5_ofStore_91 (by decide) (by decide) (fun h hh => Or.inl ⟨hK, rfl, hh⟩)
        · skip
          refine y_iload_n (pc := 41) C dX5_ofStore_41 2 rfl ?_
          refine y_if_ne (pc := 42) (tgt := 55) C dX5_ofStore_42 (by decide) (by omega) (by omega) (fun c42 => ?_) (fun c42 => ?_)
          · skip
            refine y_iload_n (pc := 55) C dX5_ofStore_55 2 rfl ?_
            refine y_iconst (pc := 56) C dX5_ofStore_56 ?_
            refine y_icmp_ne (pc := 57) (tgt := 69) C dX5_ofStore_57 (by decide) (by omega) (by omega) (by omega) (by omega) (fun c57 => ?_) (fun c57 => ?_)
            · skip
              refine y_iload_n (pc := 69) C dX5_ofStore_69 2 rfl ?_
              refine y_iconst (pc := 70) C dX5_ofStore_70 ?_
              refine y_icmp_ne (pc := 71) (tgt := 84) C dX5_ofStore_71 (by decide) (by omega) (by omega) (by omega) (by omega) (fun c71 => ?_) (fun c71 => ?_)
              · skip
                refine y_aload_n (pc := 84) C dX5_ofStore_84 0 rfl ?_
                refine y_get (pc := 85) C fg_X5_16 dX5_ofStore_85 (fun h hh => ⟨_, hh.1, rfl⟩) ?_
                refine y_iload_n (pc := 88) C dX5_ofStore_88 1 rfl ?_
                refine m_iald (pc := 89) C 5 k rfl rfl (by show _ < 5; omega) dX5_ofStore_89 ?_
                refine y_i2l (pc := 90) C dX5_ofStore_90 (by omega) (by omega) ?_
                exact J3 _ (by unfold osR; split <;> first | rfl | (exfalso; omega) | (split <;> first | rfl | (exfalso; omega) | (split <;> first | rfl | (exfalso; omega) | (split <;> first | rfl | (exfalso; omega) | (split <;> first | rfl | (exfalso; omega) | (split <;> first | rfl | (exfalso; omega)))))))
              · skip
                refine y_aload_n (pc := 74) C dX5_ofStore_74 0 rfl ?_
                refine y_get (pc := 75) C fg_X5_13 dX5_ofStore_75 (fun h hh => ⟨_, hh.1, rfl⟩) ?_
                refine y_iload_n (pc := 78) C dX5_ofStore_78 1 rfl ?_
                refine m_iald (pc := 79) C 4 k rfl rfl (by show _ < 5; omega) dX5_ofStore_79 ?_
                refine y_i2l (pc := 80) C dX5_ofStore_80 (by omega) (by omega) ?_
                refine y_goto (pc := 81) (tgt := 91) C dX5_ofStore_81 (by decide) ?_
                exact J3 _ (by unfold osR; split <;> first | rfl | (exfalso; omega) | (split <;> first | rfl | (exfalso; omega) | (split <;> first | rfl | (exfalso; omega) | (split <;> first | rfl | (exfalso; omega) | (split <;> first | rfl | (exfalso; omega) | (split <;> first | rfl | (exfalso; omega)))))))
            · skip
              refine y_aload_n (pc := 60) C dX5_ofStore_60 0 rfl ?_
              refine y_iload_n (pc := 61) C dX5_ofStore_61 1 rfl ?_
              refine y_callV (pc := 62) (As := [_]) C E.2.1 cv_X5_115 (ci := 6) rfl rfl (mt_roomOf k (by omega)) (fun h hh => ⟨_, hh.1⟩) rfl rfl (Nat.le_of_ble_eq_true rfl) ⟨by decide, by decide, by decide, by decide⟩ dX5_ofStore_62 ⟨rfl, rfl⟩ ?_
              refine y_i2l (pc := 65) C dX5_ofStore_65 (by omega) (by omega) ?_
              refine y_goto (pc := 66) (tgt := 91) C dX5_ofStore_66 (by decide) ?_
              exact J3 _ (by unfold osR; split <;> first | rfl | (exfalso; omega) | (split <;> first | rfl | (exfalso; omega) | (split <;> first | rfl | (exfalso; omega) | (split <;> first | rfl | (exfalso; omega) | (split <;> first | rfl | (exfalso; omega) | (split <;> first | rfl | (exfalso; omega)))))))
          · skip
            refine y_aload_n (pc := 45) C dX5_ofStore_45 0 rfl ?_
            refine y_get (pc := 46) C fg_X5_19 dX5_ofStore_46 (fun h hh => ⟨_, hh.1, rfl⟩) ?_
            refine y_iload_n (pc := 49) C dX5_ofStore_49 1 rfl ?_
            refine m_iald (pc := 50) C 6 k rfl rfl (by show _ < 5; omega) dX5_ofStore_50 ?_
            refine y_i2l (pc := 51) C dX5_ofStore_51 (by omega) (by omega) ?_
            refine y_goto (pc := 52) (tgt := 91) C dX5_ofStore_52 (by decide) ?_
            exact J3 _ (by unfold osR; split <;> first | rfl | (exfalso; omega) | (split <;> first | rfl | (exfalso; omega) | (split <;> first | rfl | (exfalso; omega) | (split <;> first | rfl | (exfalso; omega) | (split <;> first | rfl | (exfalso; omega) | (split <;> first | rfl | (exfalso; omega)))))))
    · skip
      have hK9 : ¬ osK σ x w = 0 := of_decide_eq_false c31
      refine y_lconst (pc := 34) (z := 0) C dX5_ofStore_34 (by decide) ?_
      exact y_lret (pc := 35) C E dX5_ofStore_35 (by decide) (by decide) (fun h hh => Or.inr ⟨hK9, rfl, hh⟩)
  · skip
    refine y_aload_n (pc := 1) C dX5_ofStore_1 0 rfl ?_
    refine y_iload_n (pc := 2) C dX5_ofStore_2 1 rfl ?_
    refine y_callV (pc := 3) (As := [_]) C E.2.1 cv_X5_140 (ci := 6) rfl rfl (mt_isStore _ ⟨by omega, by omega⟩ ⟨by omega, by omega⟩) (fun h hh => ⟨_, hh.1⟩) rfl rfl (Nat.le_of_ble_eq_true rfl) ⟨by decide, by decide, by decide, by decide⟩ dX5_ofStore_3 ⟨rfl, rfl⟩ ?_
    refine y_ifb_ne (pc := 6) (tgt := 13) C dX5_ofStore_6 (by decide) (fun c6 => ?_) (fun c6 => ?_)
    · skip
      refine y_iload_n (pc := 13) C dX5_ofStore_13 2 rfl ?_
      refine y_iconst (pc := 14) C dX5_ofStore_14 ?_
      refine y_bipush (pc := 15) (z := 6) C dX5_ofStore_15 (by decide) ?_
      refine y_callS (pc := 17) (As := [_, _, _]) C E.2.1 cs_X5_108 (mt_isIn _ _ _ ⟨by omega, by omega⟩ ⟨by omega, by omega⟩ ⟨by omega, by omega⟩) rfl rfl (Nat.le_of_ble_eq_true rfl) ⟨by decide, by decide, by decide, by decide⟩ dX5_ofStore_17 ⟨rfl, rfl⟩ ?_
      refine y_ifb_eq (pc := 20) (tgt := 27) C dX5_ofStore_20 (by decide) (fun c20 => ?_) (fun c20 => ?_)
      · skip
        refine y_iconst (pc := 27) C dX5_ofStore_27 ?_
        exact J1 _ (by (try simp only [decide_eq_true_eq, decide_eq_false_iff_not] at c6 c20); unfold osK; split <;> (try split) <;> (try split) <;> omega)
      · skip
        refine y_iconst (pc := 23) C dX5_ofStore_23 ?_
        refine y_goto (pc := 24) (tgt := 28) C dX5_ofStore_24 (by decide) ?_
        exact J1 _ (by (try simp only [decide_eq_true_eq, decide_eq_false_iff_not] at c6 c20); unfold osK; split <;> (try split) <;> (try split) <;> omega)
    · skip
      refine y_iconst (pc := 9) C dX5_ofStore_9 ?_
      refine y_goto (pc := 10) (tgt := 28) C dX5_ofStore_10 (by decide) ?_
      exact J1 _ (by (try simp only [decide_eq_true_eq, decide_eq_false_iff_not] at c6); unfold osK; split <;> (try split) <;> (try split) <;> omega)

set_option maxRecDepth 20000 in
theorem mt_ofCustomer {Ω : OmT} {hR : AH} {M : Nat} {ma : Nat → Nat} {σ : ZT} {τ : JT} (ns nc nl : Nat) (hwf : Wf σ ns nc nl) (s : ZT) (hs : s = zu σ 0 0 0) (x : Int) (h_x : -2147483648 ≤ x ∧ x < 2147483648) (w : Int) (h_w : -2147483648 ≤ w ∧ w < 2147483648)  : Ct Ω yX5_ofCustomer cX5_ofCustomer 3 (some FieldType.long) (rk 3) [.ref M, .int (iv x), .int (iv w)] (InvM Ω M ma σ τ) hR (FR (ocK σ x w) (.long (ocR s τ x.toNat w)) (.long (jv 0)) (InvM Ω M ma (s) (τ)) (InvM Ω M ma (zu σ 0 0 (ocK σ x w)) τ)) NX := by
  refine Ct.of (own := RX5) (L := [(0, _), (1, _), (2, _)]) (by decide +kernel) rfl (Nat.le_of_ble_eq_true rfl) rfl ?_
  intro κ C hn E hi
  have hsf : ∀ f, f ≠ 0 → s f = σ f := fun f hf => by rw [hs, zu_n hf]
  have hws := wf_0 hsf hwf
  have e2 := hws.1
  have e16 := hws.2.2.1
  have e27 := hws.2.2.2.2.1.1
  have o2 := hwf.1
  have o16 := hwf.2.2.1
  have o27 := hwf.2.2.2.2.1.1
  have hnow := hwf.2.2.2.2.2.1.2
  have e1 : s 1 0 = σ 1 0 := by rw [hsf 1 (by omega)]
  have hs2 := hwf.2.1
  have hc2 := hwf.2.2.2.1
  have hl2 := hwf.2.2.2.2.1.2.1
  have hKb : 0 ≤ ocK σ x w ∧ ocK σ x w ≤ 3 := by unfold ocK; split <;> (try split) <;> (try split) <;> omega
  refine y_aload_n (pc := 0) C dX5_ofCustomer_0 0 rfl ?_
  refine y_joinI (pcj := 27) (P := fun q => q = ocK σ x w) (fun v1 hv1 => ?_) (fun J1 => ?_)
  · skip
    subst hv1
    refine y_callV (pc := 27) (As := [_]) C E.2.1 cv_X5_133 (ci := 6) rfl rfl (mt_holds _ ⟨by omega, by omega⟩) (fun h hh => ⟨_, hh.1⟩) rfl rfl (Nat.le_of_ble_eq_true rfl) ⟨by decide, by decide, by decide, by decide⟩ dX5_ofCustomer_27 ⟨rfl, rfl⟩ ?_
    refine y_ifb_ne (pc := 30) (tgt := 35) C dX5_ofCustomer_30 (by decide) (fun c30 => ?_) (fun c30 => ?_)
    · skip
      have hK : ocK σ x w = 0 := of_decide_eq_true c30
      rw [hK, ← hs]
      have hG := if1 hK
      have hG1 := hG.1
      obtain ⟨k, rfl⟩ : ∃ k : Nat, x = k := ⟨x.toNat, by omega⟩
      have hck := hws.2.2.2.2.2.2.2.1 k (by omega)
      have hcu0 := hck
      unfold CuOk at hcu0
      have hG2 := (if2 hG.2).1
      have hri := rin_b (has := s 21 k) hck
      have hro := rout_b (has := s 21 k) hck
      refine y_iload_n (pc := 35) C dX5_ofCustomer_35 2 rfl ?_
      refine y_iconst (pc := 36) C dX5_ofCustomer_36 ?_
      refine y_icmp_ge (pc := 37) (tgt := 77) C dX5_ofCustomer_37 (by decide) (by omega) (by omega) (by omega) (by omega) (fun c37 => ?_) (fun c37 => ?_)
      · skip
        refine y_joinJ (pcj := 111) (P := fun q => q = ocR s τ k w) (fun v2 hv2 => ?_) (fun J2 => ?_)
        · skip
          subst hv2
          exact y_lret (pc := 111) C E dX5_ofCustomer_111 (by decide) (by decide) (fun h hh => Or.inl ⟨hK, rfl, hh⟩)
        · skip
          refine y_iload_n (pc := 77) C dX5_ofCustomer_77 2 rfl ?_
          refine y_iconst (pc := 78) C dX5_ofCustomer_78 ?_
          refine y_icmp_ne (pc := 79) (tgt := 91) C dX5_ofCustomer_79 (by decide) (by omega) (by omega) (by omega) (by omega) (fun c79 => ?_) (fun c79 => ?_)
          · skip
            refine y_iload_n (pc := 91) C dX5_ofCustomer_91 2 rfl ?_
            refine y_iconst (pc := 92) C dX5_ofCustomer_92 ?_
            refine y_icmp_ne (pc := 93) (tgt := 105) C dX5_ofCustomer_93 (by decide) (by omega) (by omega) (by omega) (by omega) (fun c93 => ?_) (fun c93 => ?_)
            · skip
              refine y_aload_n (pc := 105) C dX5_ofCustomer_105 0 rfl ?_
              refine y_get (pc := 106) C fg_X5_72 dX5_ofCustomer_106 (fun h hh => ⟨_, hh.1, rfl⟩) ?_
              refine y_iload_n (pc := 109) C dX5_ofCustomer_109 1 rfl ?_
              refine m_lald (pc := 110) C 24 k rfl rfl (by show _ < 6; omega) dX5_ofCustomer_110 ?_
              exact J2 _ (by unfold ocR; split <;> first | rfl | (exfalso; omega) | (split <;> first | rfl | (exfalso; omega) | (split <;> first | rfl | (exfalso; omega) | (split <;> first | rfl | (exfalso; omega) | (split <;> first | rfl | (exfalso; omega) | (split <;> first | rfl | (exfalso; omega)))))))
            · skip
              refine y_aload_n (pc := 96) C dX5_ofCustomer_96 0 rfl ?_
              refine y_get (pc := 97) C fg_X5_69 dX5_ofCustomer_97 (fun h hh => ⟨_, hh.1, rfl⟩) ?_
              refine y_iload_n (pc := 100) C dX5_ofCustomer_100 1 rfl ?_
              refine m_lald (pc := 101) C 23 k rfl rfl (by show _ < 6; omega) dX5_ofCustomer_101 ?_
              refine y_goto (pc := 102) (tgt := 111) C dX5_ofCustomer_102 (by decide) ?_
              exact J2 _ (by unfold ocR; split <;> first | rfl | (exfalso; omega) | (split <;> first | rfl | (exfalso; omega) | (split <;> first | rfl | (exfalso; omega) | (split <;> first | rfl | (exfalso; omega) | (split <;> first | rfl | (exfalso; omega) | (split <;> first | rfl | (exfalso; omega)))))))
          · skip
            refine y_aload_n (pc := 82) C dX5_ofCustomer_82 0 rfl ?_
            refine y_get (pc := 83) C fg_X5_66 dX5_ofCustomer_83 (fun h hh => ⟨_, hh.1, rfl⟩) ?_
            refine y_iload_n (pc := 86) C dX5_ofCustomer_86 1 rfl ?_
            refine m_lald (pc := 87) C 22 k rfl rfl (by show _ < 6; omega) dX5_ofCustomer_87 ?_
            refine y_goto (pc := 88) (tgt := 111) C dX5_ofCustomer_88 (by decide) ?_
            exact J2 _ (by unfold ocR; split <;> first | rfl | (exfalso; omega) | (split <;> first | rfl | (exfalso; omega) | (split <;> first | rfl | (exfalso; omega) | (split <;> first | rfl | (exfalso; omega) | (split <;> first | rfl | (exfalso; omega) | (split <;> first | rfl | (exfalso; omega)))))))
      · skip
        refine y_joinJ (pcj := 76) (P := fun q => q = ocR s τ k w) (fun v3 hv3 => ?_) (fun J3 => ?_)
        · skip
          subst hv3
          exact y_lret (pc := 76) C E dX5_ofCustomer_76 (by decide) (by decide) (fun h hh => Or.inl ⟨hK, rfl, hh⟩)
        · skip
          refine y_iload_n (pc := 40) C dX5_ofCustomer_40 2 rfl ?_
          refine y_if_ne (pc := 41) (tgt := 54) C dX5_ofCustomer_41 (by decide) (by omega) (by omega) (fun c41 => ?_) (fun c41 => ?_)
          · skip
            refine y_aload_n (pc := 54) C dX5_ofCustomer_54 0 rfl ?_
            refine y_iload_n (pc := 55) C dX5_ofCustomer_55 1 rfl ?_
            refine y_aload_n (pc := 56) C dX5_ofCustomer_56 0 rfl ?_
            refine y_get (pc := 57) C fg_X5_63 dX5_ofCustomer_57 (fun h hh => ⟨_, hh.1, rfl⟩) ?_
            refine y_iload_n (pc := 60) C dX5_ofCustomer_60 1 rfl ?_
            refine m_iald (pc := 61) C 21 k rfl rfl (by show _ < 6; omega) dX5_ofCustomer_61 ?_
            refine y_joinB (pcj := 72) (P := fun q => q = decide (w = 1)) (fun v4 hv4 => ?_) (fun J4 => ?_)
            · skip
              subst hv4
              refine y_callV (pc := 72) (As := [_, _, _]) C E.2.1 cv_X5_165 (ci := 6) rfl rfl (mt_rateWith k (s 21 k) (decide (w = 1)) (by omega) hck ⟨by omega, by omega⟩) (fun h hh => ⟨_, hh.1⟩) rfl rfl (Nat.le_of_ble_eq_true rfl) ⟨by decide, by decide, by decide, by decide⟩ dX5_ofCustomer_72 ⟨rfl, rfl⟩ ?_
              have eR : (if decide (w = 1) = true then rinZ s k (s 21 k) else routZ s k (s 21 k)) = (if w = 1 then rinZ s k (s 21 k) else routZ s k (s 21 k)) := by by_cases q : w = 1 <;> simp [q]
              rw [eR]
              have eB : 0 ≤ (if w = 1 then rinZ s k (s 21 k) else routZ s k (s 21 k)) ∧ (if w = 1 then rinZ s k (s 21 k) else routZ s k (s 21 k)) ≤ 100000 := by split <;> omega
              refine y_i2l (pc := 75) C dX5_ofCustomer_75 (by omega) (by omega) ?_
              exact J3 _ (by unfold ocR; split <;> first | rfl | (exfalso; omega) | (split <;> first | rfl | (exfalso; omega) | (split <;> first | rfl | (exfalso; omega) | (split <;> first | rfl | (exfalso; omega) | (split <;> first | rfl | (exfalso; omega) | (split <;> first | rfl | (exfalso; omega)))))))
            · skip
              refine y_iload_n (pc := 62) C dX5_ofCustomer_62 2 rfl ?_
              refine y_iconst (pc := 63) C dX5_ofCustomer_63 ?_
              refine y_icmp_ne (pc := 64) (tgt := 71) C dX5_ofCustomer_64 (by decide) (by omega) (by omega) (by omega) (by omega) (fun c64 => ?_) (fun c64 => ?_)
              · skip
                refine y_iconst (pc := 71) C dX5_ofCustomer_71 ?_
                first | exact J4 true (decide_eq_true (by (try simp only [decide_eq_true_eq, decide_eq_false_iff_not] at c30 c37 c41 c64); omega)).symm | exact J4 false (decide_eq_false (by (try simp only [decide_eq_true_eq, decide_eq_false_iff_not] at c30 c37 c41 c64); omega)).symm
              · skip
                refine y_iconst (pc := 67) C dX5_ofCustomer_67 ?_
                refine y_goto (pc := 68) (tgt := 72) C dX5_ofCustomer_68 (by decide) ?_
                first | exact J4 true (decide_eq_true (by (try simp only [decide_eq_true_eq, decide_eq_false_iff_not] at c30 c37 c41 c64); omega)).symm | exact J4 false (decide_eq_false (by (try simp only [decide_eq_true_eq, decide_eq_false_iff_not] at c30 c37 c41 c64); omega)).symm
          · skip
            refine y_aload_n (pc := 44) C dX5_ofCustomer_44 0 rfl ?_
            refine y_get (pc := 45) C fg_X5_63 dX5_ofCustomer_45 (fun h hh => ⟨_, hh.1, rfl⟩) ?_
            refine y_iload_n (pc := 48) C dX5_ofCustomer_48 1 rfl ?_
            refine m_iald (pc := 49) C 21 k rfl rfl (by show _ < 6; omega) dX5_ofCustomer_49 ?_
            refine y_i2l (pc := 50) C dX5_ofCustomer_50 (by omega) (by omega) ?_
            refine y_goto (pc := 51) (tgt := 76) C dX5_ofCustomer_51 (by decide) ?_
            exact J3 _ (by unfold ocR; split <;> first | rfl | (exfalso; omega) | (split <;> first | rfl | (exfalso; omega) | (split <;> first | rfl | (exfalso; omega) | (split <;> first | rfl | (exfalso; omega) | (split <;> first | rfl | (exfalso; omega) | (split <;> first | rfl | (exfalso; omega)))))))
    · skip
      have hK9 : ¬ ocK σ x w = 0 := of_decide_eq_false c30
      refine y_lconst (pc := 33) (z := 0) C dX5_ofCustomer_33 (by decide) ?_
      exact y_lret (pc := 34) C E dX5_ofCustomer_34 (by decide) (by decide) (fun h hh => Or.inr ⟨hK9, rfl, hh⟩)
  · skip
    refine y_aload_n (pc := 1) C dX5_ofCustomer_1 0 rfl ?_
    refine y_iload_n (pc := 2) C dX5_ofCustomer_2 1 rfl ?_
    refine y_callV (pc := 3) (As := [_]) C E.2.1 cv_X5_155 (ci := 6) rfl rfl (mt_isCustomer _ ⟨by omega, by omega⟩ ⟨by omega, by omega⟩) (fun h hh => ⟨_, hh.1⟩) rfl rfl (Nat.le_of_ble_eq_true rfl) ⟨by decide, by decide, by decide, by decide⟩ dX5_ofCustomer_3 ⟨rfl, rfl⟩ ?_
    refine y_ifb_ne (pc := 6) (tgt := 13) C dX5_ofCustomer_6 (by decide) (fun c6 => ?_) (fun c6 => ?_)
    · skip
      refine y_iload_n (pc := 13) C dX5_ofCustomer_13 2 rfl ?_
      refine y_iconst (pc := 14) C dX5_ofCustomer_14 ?_
      refine y_iconst (pc := 15) C dX5_ofCustomer_15 ?_
      refine y_callS (pc := 16) (As := [_, _, _]) C E.2.1 cs_X5_108 (mt_isIn _ _ _ ⟨by omega, by omega⟩ ⟨by omega, by omega⟩ ⟨by omega, by omega⟩) rfl rfl (Nat.le_of_ble_eq_true rfl) ⟨by decide, by decide, by decide, by decide⟩ dX5_ofCustomer_16 ⟨rfl, rfl⟩ ?_
      refine y_ifb_eq (pc := 19) (tgt := 26) C dX5_ofCustomer_19 (by decide) (fun c19 => ?_) (fun c19 => ?_)
      · skip
        refine y_iconst (pc := 26) C dX5_ofCustomer_26 ?_
        exact J1 _ (by (try simp only [decide_eq_true_eq, decide_eq_false_iff_not] at c6 c19); unfold ocK; split <;> (try split) <;> (try split) <;> omega)
      · skip
        refine y_iconst (pc := 22) C dX5_ofCustomer_22 ?_
        refine y_goto (pc := 23) (tgt := 27) C dX5_ofCustomer_23 (by decide) ?_
        exact J1 _ (by (try simp only [decide_eq_true_eq, decide_eq_false_iff_not] at c6 c19); unfold ocK; split <;> (try split) <;> (try split) <;> omega)
    · skip
      refine y_iconst (pc := 9) C dX5_ofCustomer_9 ?_
      refine y_goto (pc := 10) (tgt := 27) C dX5_ofCustomer_10 (by decide) ?_
      exact J1 _ (by (try simp only [decide_eq_true_eq, decide_eq_false_iff_not] at c6); unfold ocK; split <;> (try split) <;> (try split) <;> omega)

set_option maxRecDepth 20000 in
theorem mt_flow {Ω : OmT} {hR : AH} {M : Nat} {ma : Nat → Nat} {σ : ZT} {τ : JT} (ns nc nl : Nat) (hwf : Wf σ ns nc nl) (s : ZT) (hs : s = zu σ 0 0 0) (x : Int) (h_x : -2147483648 ≤ x ∧ x < 2147483648)  : Ct Ω yX5_flow cX5_flow 2 (some FieldType.int) (rk 6) [.ref M, .int (iv x)] (InvM Ω M ma σ τ) hR (FR (scK σ x) (.int (iv (laysZ s nc nl ns 36 x.toNat - laysZ s nc nl ns 37 x.toNat))) (.int (iv 0)) (InvM Ω M ma (laysZ s nc nl ns) (τ)) (InvM Ω M ma (zu σ 0 0 (scK σ x)) τ)) NX := by
  refine Ct.of (own := RX5) (L := [(0, _), (1, _)]) (by decide +kernel) rfl (Nat.le_of_ble_eq_true rfl) rfl ?_
  intro κ C hn E hi
  have hsf : ∀ f, f ≠ 0 → s f = σ f := fun f hf => by rw [hs, zu_n hf]
  have hws := wf_0 hsf hwf
  have e2 := hws.1
  have e16 := hws.2.2.1
  have e27 := hws.2.2.2.2.1.1
  have o2 := hwf.1
  have o16 := hwf.2.2.1
  have o27 := hwf.2.2.2.2.1.1
  have hnow := hwf.2.2.2.2.2.1.2
  have e1 : s 1 0 = σ 1 0 := by rw [hsf 1 (by omega)]
  have hs2 := hwf.2.1
  have hc2 := hwf.2.2.2.1
  have hl2 := hwf.2.2.2.2.1.2.1
  have hKb : 0 ≤ scK σ x ∧ scK σ x ≤ 3 := by unfold scK; split <;> (try split) <;> (try split) <;> omega
  refine y_aload_n (pc := 0) C dX5_flow_0 0 rfl ?_
  refine y_joinI (pcj := 14) (P := fun q => q = scK σ x) (fun v1 hv1 => ?_) (fun J1 => ?_)
  · skip
    subst hv1
    refine y_callV (pc := 14) (As := [_]) C E.2.1 cv_X5_133 (ci := 6) rfl rfl (mt_holds _ ⟨by omega, by omega⟩) (fun h hh => ⟨_, hh.1⟩) rfl rfl (Nat.le_of_ble_eq_true rfl) ⟨by decide, by decide, by decide, by decide⟩ dX5_flow_14 ⟨rfl, rfl⟩ ?_
    refine y_ifb_ne (pc := 17) (tgt := 22) C dX5_flow_17 (by decide) (fun c17 => ?_) (fun c17 => ?_)
    · skip
      have hK : scK σ x = 0 := of_decide_eq_true c17
      rw [hK, ← hs]
      have hG := if1 hK
      have hG1 := hG.1
      obtain ⟨k, rfl⟩ : ∃ k : Nat, x = k := ⟨x.toNat, by omega⟩
      refine y_aload_n (pc := 22) C dX5_flow_22 0 rfl ?_
      refine y_callVv (pc := 23) (As := []) C E.2.1 cv_X5_217 (ci := 6) rfl rfl (mt_lays ns nc nl hws) (fun h hh => ⟨_, hh.1⟩) rfl rfl (Nat.le_of_ble_eq_true rfl) ⟨by decide, by decide, by decide, by decide⟩ dX5_flow_23 ⟨rfl, rfl⟩ ?_
      refine y_aload_n (pc := 26) C dX5_flow_26 0 rfl ?_
      refine y_get (pc := 27) C fg_X5_90 dX5_flow_27 (fun h hh => ⟨_, hh.1, rfl⟩) ?_
      refine y_iload_n (pc := 30) C dX5_flow_30 1 rfl ?_
      refine m_iald (pc := 31) C 36 k rfl rfl (by show _ < 6; omega) dX5_flow_31 ?_
      refine y_aload_n (pc := 32) C dX5_flow_32 0 rfl ?_
      refine y_get (pc := 33) C fg_X5_93 dX5_flow_33 (fun h hh => ⟨_, hh.1, rfl⟩) ?_
      refine y_iload_n (pc := 36) C dX5_flow_36 1 rfl ?_
      refine m_iald (pc := 37) C 37 k rfl rfl (by show _ < 6; omega) dX5_flow_37 ?_
      refine y_isub (pc := 38) C dX5_flow_38 ?_
      exact y_iret (pc := 39) C E dX5_flow_39 (by decide) (by decide) (fun h hh => Or.inl ⟨hK, rfl, hh⟩)
    · skip
      have hK9 : ¬ scK σ x = 0 := of_decide_eq_false c17
      refine y_iconst (pc := 20) C dX5_flow_20 ?_
      exact y_iret (pc := 21) C E dX5_flow_21 (by decide) (by decide) (fun h hh => Or.inr ⟨hK9, rfl, hh⟩)
  · skip
    refine y_aload_n (pc := 1) C dX5_flow_1 0 rfl ?_
    refine y_iload_n (pc := 2) C dX5_flow_2 1 rfl ?_
    refine y_callV (pc := 3) (As := [_]) C E.2.1 cv_X5_155 (ci := 6) rfl rfl (mt_isCustomer _ ⟨by omega, by omega⟩ ⟨by omega, by omega⟩) (fun h hh => ⟨_, hh.1⟩) rfl rfl (Nat.le_of_ble_eq_true rfl) ⟨by decide, by decide, by decide, by decide⟩ dX5_flow_3 ⟨rfl, rfl⟩ ?_
    refine y_ifb_eq (pc := 6) (tgt := 13) C dX5_flow_6 (by decide) (fun c6 => ?_) (fun c6 => ?_)
    · skip
      refine y_iconst (pc := 13) C dX5_flow_13 ?_
      exact J1 _ (by (try simp only [decide_eq_true_eq, decide_eq_false_iff_not] at c6); unfold scK; split <;> (try split) <;> (try split) <;> omega)
    · skip
      refine y_iconst (pc := 9) C dX5_flow_9 ?_
      refine y_goto (pc := 10) (tgt := 14) C dX5_flow_10 (by decide) ?_
      exact J1 _ (by (try simp only [decide_eq_true_eq, decide_eq_false_iff_not] at c6); unfold scK; split <;> (try split) <;> (try split) <;> omega)

set_option maxRecDepth 20000 in
theorem mt_why {Ω : OmT} {hR : AH} {M : Nat} {ma : Nat → Nat} {σ : ZT} {τ : JT} (ns nc nl : Nat) (hwf : Wf σ ns nc nl) (s : ZT) (hs : s = zu σ 0 0 0) (x : Int) (h_x : -2147483648 ≤ x ∧ x < 2147483648)  : Ct Ω yX5_why cX5_why 2 (some FieldType.int) (rk 6) [.ref M, .int (iv x)] (InvM Ω M ma σ τ) hR (FR (scK σ x) (.int (iv (laysZ s nc nl ns 39 x.toNat))) (.int (iv 0)) (InvM Ω M ma (laysZ s nc nl ns) (τ)) (InvM Ω M ma (zu σ 0 0 (scK σ x)) τ)) NX := by
  refine Ct.of (own := RX5) (L := [(0, _), (1, _)]) (by decide +kernel) rfl (Nat.le_of_ble_eq_true rfl) rfl ?_
  intro κ C hn E hi
  have hsf : ∀ f, f ≠ 0 → s f = σ f := fun f hf => by rw [hs, zu_n hf]
  have hws := wf_0 hsf hwf
  have e2 := hws.1
  have e16 := hws.2.2.1
  have e27 := hws.2.2.2.2.1.1
  have o2 := hwf.1
  have o16 := hwf.2.2.1
  have o27 := hwf.2.2.2.2.1.1
  have hnow := hwf.2.2.2.2.2.1.2
  have e1 : s 1 0 = σ 1 0 := by rw [hsf 1 (by omega)]
  have hs2 := hwf.2.1
  have hc2 := hwf.2.2.2.1
  have hl2 := hwf.2.2.2.2.1.2.1
  have hKb : 0 ≤ scK σ x ∧ scK σ x ≤ 3 := by unfold scK; split <;> (try split) <;> (try split) <;> omega
  refine y_aload_n (pc := 0) C dX5_why_0 0 rfl ?_
  refine y_joinI (pcj := 14) (P := fun q => q = scK σ x) (fun v1 hv1 => ?_) (fun J1 => ?_)
  · skip
    subst hv1
    refine y_callV (pc := 14) (As := [_]) C E.2.1 cv_X5_133 (ci := 6) rfl rfl (mt_holds _ ⟨by omega, by omega⟩) (fun h hh => ⟨_, hh.1⟩) rfl rfl (Nat.le_of_ble_eq_true rfl) ⟨by decide, by decide, by decide, by decide⟩ dX5_why_14 ⟨rfl, rfl⟩ ?_
    refine y_ifb_ne (pc := 17) (tgt := 22) C dX5_why_17 (by decide) (fun c17 => ?_) (fun c17 => ?_)
    · skip
      have hK : scK σ x = 0 := of_decide_eq_true c17
      rw [hK, ← hs]
      have hG := if1 hK
      have hG1 := hG.1
      obtain ⟨k, rfl⟩ : ∃ k : Nat, x = k := ⟨x.toNat, by omega⟩
      refine y_aload_n (pc := 22) C dX5_why_22 0 rfl ?_
      refine y_callVv (pc := 23) (As := []) C E.2.1 cv_X5_217 (ci := 6) rfl rfl (mt_lays ns nc nl hws) (fun h hh => ⟨_, hh.1⟩) rfl rfl (Nat.le_of_ble_eq_true rfl) ⟨by decide, by decide, by decide, by decide⟩ dX5_why_23 ⟨rfl, rfl⟩ ?_
      refine y_aload_n (pc := 26) C dX5_why_26 0 rfl ?_
      refine y_get (pc := 27) C fg_X5_99 dX5_why_27 (fun h hh => ⟨_, hh.1, rfl⟩) ?_
      refine y_iload_n (pc := 30) C dX5_why_30 1 rfl ?_
      refine m_iald (pc := 31) C 39 k rfl rfl (by show _ < 6; omega) dX5_why_31 ?_
      exact y_iret (pc := 32) C E dX5_why_32 (by decide) (by decide) (fun h hh => Or.inl ⟨hK, rfl, hh⟩)
    · skip
      have hK9 : ¬ scK σ x = 0 := of_decide_eq_false c17
      refine y_iconst (pc := 20) C dX5_why_20 ?_
      exact y_iret (pc := 21) C E dX5_why_21 (by decide) (by decide) (fun h hh => Or.inr ⟨hK9, rfl, hh⟩)
  · skip
    refine y_aload_n (pc := 1) C dX5_why_1 0 rfl ?_
    refine y_iload_n (pc := 2) C dX5_why_2 1 rfl ?_
    refine y_callV (pc := 3) (As := [_]) C E.2.1 cv_X5_155 (ci := 6) rfl rfl (mt_isCustomer _ ⟨by omega, by omega⟩ ⟨by omega, by omega⟩) (fun h hh => ⟨_, hh.1⟩) rfl rfl (Nat.le_of_ble_eq_true rfl) ⟨by decide, by decide, by decide, by decide⟩ dX5_why_3 ⟨rfl, rfl⟩ ?_
    refine y_ifb_eq (pc := 6) (tgt := 13) C dX5_why_6 (by decide) (fun c6 => ?_) (fun c6 => ?_)
    · skip
      refine y_iconst (pc := 13) C dX5_why_13 ?_
      exact J1 _ (by (try simp only [decide_eq_true_eq, decide_eq_false_iff_not] at c6); unfold scK; split <;> (try split) <;> (try split) <;> omega)
    · skip
      refine y_iconst (pc := 9) C dX5_why_9 ?_
      refine y_goto (pc := 10) (tgt := 14) C dX5_why_10 (by decide) ?_
      exact J1 _ (by (try simp only [decide_eq_true_eq, decide_eq_false_iff_not] at c6); unfold scK; split <;> (try split) <;> (try split) <;> omega)

set_option maxRecDepth 20000 in
theorem mt_bestOf {Ω : OmT} {hR : AH} {M : Nat} {ma : Nat → Nat} {σ : ZT} {τ : JT} (c t W : Nat) (h1 : c < 6) (h2 : CuOk σ c) (h3 : PrOk σ) (h4 : t ≤ 8) (h5 : W ≤ 10000) (h6 : 0 ≤ σ 1 0 ∧ σ 1 0 ≤ 10000) : Ct Ω yX5_bestOf cX5_bestOf 16 (some FieldType.long) (rk 3) [.ref M, .int (iv c), .int (iv t), .int (iv W)] (InvM Ω M ma σ τ) hR (RV (.long (jv (bestN σ c t W))) (InvM Ω M ma σ τ)) NX := by
  refine Ct.of (own := RX5) (L := [(0, _), (1, _), (2, _), (3, _)]) (by decide +kernel) rfl (Nat.le_of_ble_eq_true rfl) rfl ?_
  intro κ C hn E hi
  have hcu := h2
  unfold CuOk at hcu
  refine y_lconst (pc := 0) (z := 0) C dX5_bestOf_0 (by decide) ?_
  refine y_lstore (pc := 1) (L' := [(4, _), (0, _), (1, _), (2, _), (3, _)]) C dX5_bestOf_1 (by rw [hn]; decide) rfl ?_
  refine y_iconst (pc := 3) C dX5_bestOf_3 ?_
  refine y_istore (pc := 4) (L' := [(6, _), (4, _), (0, _), (1, _), (2, _), (3, _)]) C dX5_bestOf_4 (by rw [hn]; decide) rfl ?_
  have LP1 : ∀ (m1 : Nat) (n : Nat) (z b : Int), (k1 : W + 1 ≤ n + m1) → (k2 : n ≤ W) → (hz : z = n) → (hb : b = bestN σ c t n) → Y Ω κ (InvM Ω M ma σ τ) hR 0 0 6 [(6, .int (iv z)), (4, .long (jv b)), (0, .ref M), (1, .int (iv c)), (2, .int (iv t)), (3, .int (iv W))] [] := by
    intro m1
    induction m1 with
    | zero => intro n z b k1 k2 hz hb; exfalso; omega
    | succ m1 ih1 =>
      intro n z b k1 k2 hz hb
      have hbb := best_b (n := n) h2 h3 h4
      have ew : ((wayN σ c n 0).2.2 : Int) = n := rfl
      refine y_iload (pc := 6) C dX5_bestOf_6 0 rfl ?_
      refine y_iload_n (pc := 8) C dX5_bestOf_8 5 rfl ?_
      refine y_icmp_ge (pc := 9) (tgt := 172) C dX5_bestOf_9 (by decide) (by omega) (by omega) (by omega) (by omega) (fun c9 => ?_) (fun c9 => ?_)
      · skip
        have en : n = W := by omega
        subst en
        refine y_lload (pc := 172) C dX5_bestOf_172 1 rfl ?_
        exact y_lret (pc := 174) C E dX5_bestOf_174 (by decide) (by decide) (fun h hh => ⟨by rw [hb], hh⟩)
      · skip
        refine y_aload_n (pc := 12) C dX5_bestOf_12 2 rfl ?_
        refine y_get (pc := 13) C fg_X5_63 dX5_bestOf_13 (fun h hh => ⟨_, hh.1, rfl⟩) ?_
        refine y_iload_n (pc := 16) C dX5_bestOf_16 3 rfl ?_
        refine m_iald (pc := 17) C 21 c rfl rfl (by show _ < 6; omega) dX5_bestOf_17 ?_
        refine y_istore (pc := 18) (L' := [(7, _), (6, _), (4, _), (0, _), (1, _), (2, _), (3, _)]) C dX5_bestOf_18 (by rw [hn]; decide) rfl ?_
        refine y_lconst (pc := 20) (z := 0) C dX5_bestOf_20 (by decide) ?_
        refine y_lstore (pc := 21) (L' := [(8, _), (7, _), (6, _), (4, _), (0, _), (1, _), (2, _), (3, _)]) C dX5_bestOf_21 (by rw [hn]; decide) rfl ?_
        refine y_iload (pc := 23) C dX5_bestOf_23 2 rfl ?_
        refine y_istore (pc := 25) (L' := [(10, _), (8, _), (7, _), (6, _), (4, _), (0, _), (1, _), (2, _), (3, _)]) C dX5_bestOf_25 (by rw [hn]; decide) rfl ?_
        refine y_iconst (pc := 27) C dX5_bestOf_27 ?_
        refine y_istore (pc := 28) (L' := [(11, _), (10, _), (8, _), (7, _), (6, _), (4, _), (0, _), (1, _), (2, _), (3, _)]) C dX5_bestOf_28 (by rw [hn]; decide) rfl ?_
        have LP2 : ∀ (m2 : Nat) (k : Nat) (zk has sum rs : Int), (p1 : t + 1 ≤ k + m2) → (p2 : k ≤ t) → (hzk : zk = k) → (hh1 : has = (wayN σ c n k).1) → (hh2 : sum = (wayN σ c n k).2.1) → (hh3 : rs = ((wayN σ c n k).2.2 : Nat)) → Y Ω κ (InvM Ω M ma σ τ) hR 0 0 30 [(11, .int (iv zk)), (10, .int (iv rs)), (8, .long (jv sum)), (7, .int (iv has)), (6, .int (iv z)), (4, .long (jv b)), (0, .ref M), (1, .int (iv c)), (2, .int (iv t)), (3, .int (iv W))] [] := by
          intro m2
          induction m2 with
          | zero => intro k zk has sum rs p1 p2 hzk hh1 hh2 hh3; exfalso; omega
          | succ m2 ih2 =>
            intro k zk has sum rs p1 p2 hzk hh1 hh2 hh3
            have hwb := way_b (w := n) (k := k) h2 h3
            rw [← hh1, ← hh2] at hwb
            have hri := rin_b (has := has) h2
            have hro := rout_b (has := has) h2
            have hin := inz_b (has := has) h2 (by omega) (by omega)
            have hou := outz_b (has := has) h2 (by omega) (by omega)
            have htb := thing_b (d := (wayN σ c n k).2.2 % 3) h2 hwb.1 hwb.2.1
            have hpk := h3 ((nowN σ + k) % 64) (Nat.mod_lt _ (by omega))
            have hml := mul_b htb.1 htb.2.1 hpk.1 hpk.2
            refine y_iload (pc := 30) C dX5_bestOf_30 0 rfl ?_
            refine y_iload_n (pc := 32) C dX5_bestOf_32 8 rfl ?_
            refine y_icmp_ge (pc := 33) (tgt := 149) C dX5_bestOf_33 (by decide) (by omega) (by omega) (by omega) (by omega) (fun c33 => ?_) (fun c33 => ?_)
            · skip
              have hh9 : sum = (wayN σ c n t).2.1 := by rw [hh2, show k = t by omega]
              refine y_joinL (pcj := 164) (P := fun q => q = bestN σ c t (n + 1)) (fun v3 hv3 => ?_) (fun J3 => ?_)
              · skip
                subst hv3
                refine y_lstore (pc := 164) (L' := [(4, _), (11, _), (10, _), (8, _), (7, _), (6, _), (0, _), (1, _), (2, _), (3, _)]) C dX5_bestOf_164 (by rw [hn]; decide) rfl ?_
                refine y_iinc (pc := 166) (L' := [(6, _), (4, _), (11, _), (10, _), (8, _), (7, _), (0, _), (1, _), (2, _), (3, _)]) C dX5_bestOf_166 5 rfl (by rw [hn]; decide) rfl ?_
                refine y_goto (pc := 169) (tgt := 6) C dX5_bestOf_169 (by decide) ?_
                refine Y.sub [0, 1, 6, 7, 8, 9] rfl ?_
                exact ih1 (n + 1) _ _ (by omega) (by omega) (by omega) rfl
              · skip
                have hh9 : sum = (wayN σ c n t).2.1 := by rw [hh2, show k = t by omega]
                refine y_lload (pc := 149) C dX5_bestOf_149 2 rfl ?_
                refine y_lload (pc := 151) C dX5_bestOf_151 5 rfl ?_
                refine y_lcmp_le (pc := 153) (tgt := 162) C dX5_bestOf_153 dX5_bestOf_154 (by decide) (by omega) (by omega) (by omega) (by omega) (fun c153 => ?_) (fun c153 => ?_)
                · skip
                  refine y_lload (pc := 162) C dX5_bestOf_162 5 rfl ?_
                  exact J3 _ (by show _ = max (bestN σ c t n) (wayN σ c n t).2.1; omega)
                · skip
                  refine y_lload (pc := 157) C dX5_bestOf_157 2 rfl ?_
                  refine y_goto (pc := 159) (tgt := 164) C dX5_bestOf_159 (by decide) ?_
                  exact J3 _ (by show _ = max (bestN σ c t n) (wayN σ c n t).2.1; omega)
            · skip
              refine y_iload (pc := 36) C dX5_bestOf_36 1 rfl ?_
              refine y_iconst (pc := 38) C dX5_bestOf_38 ?_
              refine y_irem (pc := 39) C dX5_bestOf_39 (by omega) (by omega) (by omega) (by omega) ?_
              refine y_istore (pc := 40) (L' := [(12, _), (11, _), (10, _), (8, _), (7, _), (6, _), (4, _), (0, _), (1, _), (2, _), (3, _)]) C dX5_bestOf_40 (by rw [hn]; decide) rfl ?_
              refine y_iload (pc := 42) C dX5_bestOf_42 2 rfl ?_
              refine y_iconst (pc := 44) C dX5_bestOf_44 ?_
              refine y_idivP (pc := 45) C dX5_bestOf_45 (by omega) (by omega) (by omega) (by omega) ?_
              refine y_istore (pc := 46) (L' := [(10, _), (12, _), (11, _), (8, _), (7, _), (6, _), (4, _), (0, _), (1, _), (2, _), (3, _)]) C dX5_bestOf_46 (by rw [hn]; decide) rfl ?_
              refine y_aload_n (pc := 48) C dX5_bestOf_48 7 rfl ?_
              refine y_iload_n (pc := 49) C dX5_bestOf_49 8 rfl ?_
              refine y_iload (pc := 50) C dX5_bestOf_50 4 rfl ?_
              refine y_iconst (pc := 52) C dX5_bestOf_52 ?_
              refine y_callV (pc := 53) (As := [_, _, _]) C E.2.1 cv_X5_165 (ci := 6) rfl rfl (mt_rateWith _ _ true (by omega) h2 ⟨by omega, by omega⟩) (fun h hh => ⟨_, hh.1⟩) rfl rfl (Nat.le_of_ble_eq_true rfl) ⟨by decide, by decide, by decide, by decide⟩ dX5_bestOf_53 ⟨rfl, rfl⟩ ?_
              show Y Ω κ _ hR _ _ _ _ (.int (iv (rinZ σ c has)) :: _)
              refine y_aload_n (pc := 56) C dX5_bestOf_56 7 rfl ?_
              refine y_get (pc := 57) C fg_X5_51 dX5_bestOf_57 (fun h hh => ⟨_, hh.1, rfl⟩) ?_
              refine y_iload_n (pc := 60) C dX5_bestOf_60 8 rfl ?_
              refine m_iald (pc := 61) C 17 c rfl rfl (by show _ < 6; omega) dX5_bestOf_61 ?_
              refine y_iload (pc := 62) C dX5_bestOf_62 4 rfl ?_
              refine y_isub (pc := 64) C dX5_bestOf_64 ?_
              refine y_callS (pc := 65) (As := [_, _]) C E.2.1 cs_X5_162 (mt_lesser _ _ ⟨by omega, by omega⟩ ⟨by omega, by omega⟩) rfl rfl (Nat.le_of_ble_eq_true rfl) ⟨by decide, by decide, by decide, by decide⟩ dX5_bestOf_65 ⟨rfl, rfl⟩ ?_
              show Y Ω κ _ hR _ _ _ _ (.int (iv (inZ σ c has)) :: _)
              refine y_istore (pc := 68) (L' := [(13, _), (10, _), (12, _), (11, _), (8, _), (7, _), (6, _), (4, _), (0, _), (1, _), (2, _), (3, _)]) C dX5_bestOf_68 (by rw [hn]; decide) rfl ?_
              refine y_aload_n (pc := 70) C dX5_bestOf_70 8 rfl ?_
              refine y_iload_n (pc := 71) C dX5_bestOf_71 9 rfl ?_
              refine y_iload (pc := 72) C dX5_bestOf_72 5 rfl ?_
              refine y_iconst (pc := 74) C dX5_bestOf_74 ?_
              refine y_callV (pc := 75) (As := [_, _, _]) C E.2.1 cv_X5_165 (ci := 6) rfl rfl (mt_rateWith _ _ false (by omega) h2 ⟨by omega, by omega⟩) (fun h hh => ⟨_, hh.1⟩) rfl rfl (Nat.le_of_ble_eq_true rfl) ⟨by decide, by decide, by decide, by decide⟩ dX5_bestOf_75 ⟨rfl, rfl⟩ ?_
              show Y Ω κ _ hR _ _ _ _ (.int (iv (routZ σ c has)) :: _)
              refine y_iload (pc := 78) C dX5_bestOf_78 5 rfl ?_
              refine y_callS (pc := 80) (As := [_, _]) C E.2.1 cs_X5_162 (mt_lesser _ _ ⟨by omega, by omega⟩ ⟨by omega, by omega⟩) rfl rfl (Nat.le_of_ble_eq_true rfl) ⟨by decide, by decide, by decide, by decide⟩ dX5_bestOf_80 ⟨rfl, rfl⟩ ?_
              show Y Ω κ _ hR _ _ _ _ (.int (iv (outZ σ c has)) :: _)
              refine y_istore (pc := 83) (L' := [(14, _), (13, _), (10, _), (12, _), (11, _), (8, _), (7, _), (6, _), (4, _), (0, _), (1, _), (2, _), (3, _)]) C dX5_bestOf_83 (by rw [hn]; decide) rfl ?_
              refine y_joinI (pcj := 109) (P := fun q => q = thingZ σ c has ((wayN σ c n k).2.2 % 3)) (fun v4 hv4 => ?_) (fun J4 => ?_)
              · skip
                subst hv4
                refine y_istore (pc := 109) (L' := [(15, _), (14, _), (13, _), (10, _), (12, _), (11, _), (8, _), (7, _), (6, _), (4, _), (0, _), (1, _), (2, _), (3, _)]) C dX5_bestOf_109 (by rw [hn]; decide) rfl ?_
                refine y_iload (pc := 111) C dX5_bestOf_111 7 rfl ?_
                refine y_iload (pc := 113) C dX5_bestOf_113 0 rfl ?_
                refine y_iadd (pc := 115) C dX5_bestOf_115 ?_
                refine y_istore (pc := 116) (L' := [(7, _), (15, _), (14, _), (13, _), (10, _), (12, _), (11, _), (8, _), (6, _), (4, _), (0, _), (1, _), (2, _), (3, _)]) C dX5_bestOf_116 (by rw [hn]; decide) rfl ?_
                refine y_lload (pc := 118) C dX5_bestOf_118 7 rfl ?_
                refine y_iload (pc := 120) C dX5_bestOf_120 1 rfl ?_
                refine y_i2l (pc := 122) C dX5_bestOf_122 (by omega) (by omega) ?_
                refine y_aload_n (pc := 123) C dX5_bestOf_123 10 rfl ?_
                refine y_get (pc := 124) C fg_X5_78 dX5_bestOf_124 (fun h hh => ⟨_, hh.1, rfl⟩) ?_
                refine y_aload_n (pc := 127) C dX5_bestOf_127 10 rfl ?_
                refine y_get (pc := 128) C fg_X5_151 dX5_bestOf_128 (fun h hh => ⟨_, hh.1, rfl⟩) ?_
                refine y_iload (pc := 131) C dX5_bestOf_131 6 rfl ?_
                refine y_iadd (pc := 133) C dX5_bestOf_133 ?_
                refine y_bipush (pc := 134) (z := 64) C dX5_bestOf_134 (by decide) ?_
                refine y_irem (pc := 136) C dX5_bestOf_136 (by omega) (by omega) (by omega) (by omega) ?_
                refine m_iald (pc := 137) C 26 ((nowN σ + k) % 64) rfl (by unfold nowN; omega) (by show _ < 64; omega) dX5_bestOf_137 ?_
                refine y_i2l (pc := 138) C dX5_bestOf_138 (by omega) (by omega) ?_
                refine y_lmul (pc := 139) C dX5_bestOf_139 ?_
                refine y_lsub (pc := 140) C dX5_bestOf_140 ?_
                refine y_lstore (pc := 141) (L' := [(8, _), (7, _), (15, _), (14, _), (13, _), (10, _), (12, _), (11, _), (6, _), (4, _), (0, _), (1, _), (2, _), (3, _)]) C dX5_bestOf_141 (by rw [hn]; decide) rfl ?_
                refine y_iinc (pc := 143) (L' := [(11, _), (8, _), (7, _), (15, _), (14, _), (13, _), (10, _), (12, _), (6, _), (4, _), (0, _), (1, _), (2, _), (3, _)]) C dX5_bestOf_143 7 rfl (by rw [hn]; decide) rfl ?_
                refine y_goto (pc := 146) (tgt := 30) C dX5_bestOf_146 (by decide) ?_
                refine Y.sub [0, 6, 1, 2, 8, 9, 10, 11, 12, 13] rfl ?_
                exact ih2 (k + 1) _ _ _ _ (by omega) (by omega) (by omega) (by rw [hh1]; rfl) (by rw [hh2, hh1]; rfl) (by show _ = (((wayN σ c n k).2.2 / 3 : Nat) : Int); omega)
              · skip
                refine y_iload (pc := 85) C dX5_bestOf_85 3 rfl ?_
                refine y_iconst (pc := 87) C dX5_bestOf_87 ?_
                refine y_icmp_ne (pc := 88) (tgt := 96) C dX5_bestOf_88 (by decide) (by omega) (by omega) (by omega) (by omega) (fun c88 => ?_) (fun c88 => ?_)
                · skip
                  refine y_iload (pc := 96) C dX5_bestOf_96 3 rfl ?_
                  refine y_iconst (pc := 98) C dX5_bestOf_98 ?_
                  refine y_icmp_ne (pc := 99) (tgt := 108) C dX5_bestOf_99 (by decide) (by omega) (by omega) (by omega) (by omega) (fun c99 => ?_) (fun c99 => ?_)
                  · skip
                    refine y_iconst (pc := 108) C dX5_bestOf_108 ?_
                    exact J4 _ (by unfold thingZ; split <;> first | rfl | (exfalso; omega) | (split <;> first | rfl | (exfalso; omega)))
                  · skip
                    refine y_iload (pc := 102) C dX5_bestOf_102 0 rfl ?_
                    refine y_ineg (pc := 104) C dX5_bestOf_104 ?_
                    refine y_goto (pc := 105) (tgt := 109) C dX5_bestOf_105 (by decide) ?_
                    exact J4 _ (by unfold thingZ; split <;> first | rfl | (exfalso; omega) | (split <;> first | rfl | (exfalso; omega)))
                · skip
                  refine y_iload (pc := 91) C dX5_bestOf_91 1 rfl ?_
                  refine y_goto (pc := 93) (tgt := 109) C dX5_bestOf_93 (by decide) ?_
                  exact J4 _ (by unfold thingZ; split <;> first | rfl | (exfalso; omega) | (split <;> first | rfl | (exfalso; omega)))
        refine Y.sub [0, 1, 2, 3, 4, 5, 6, 7, 8, 9] rfl ?_
        exact LP2 (t + 1) 0 0 _ 0 _ (by omega) (by omega) rfl rfl rfl (by omega)
  refine Y.sub [0, 1, 2, 3, 4, 5] rfl ?_
  exact LP1 (W + 1) 0 0 0 (by omega) (by omega) rfl rfl

set_option maxRecDepth 20000 in
theorem mt_worth {Ω : OmT} {hR : AH} {M : Nat} {ma : Nat → Nat} {σ : ZT} {τ : JT} (ns nc nl : Nat) (hwf : Wf σ ns nc nl) (s : ZT) (hs : s = zu σ 0 0 0) (x : Int) (h_x : -2147483648 ≤ x ∧ x < 2147483648) (t : Int) (h_t : -2147483648 ≤ t ∧ t < 2147483648) (hpr : PrOk σ) : Ct Ω yX5_worth cX5_worth 5 (some FieldType.long) (rk 4) [.ref M, .int (iv x), .int (iv t)] (InvM Ω M ma σ τ) hR (FR (woK σ x t) (.long (jv (bestN s x.toNat t.toNat (3 ^ t.toNat)))) (.long (jv 0)) (InvM Ω M ma (s) (τ)) (InvM Ω M ma (zu σ 0 0 (woK σ x t)) τ)) NX := by
  refine Ct.of (own := RX5) (L := [(0, _), (1, _), (2, _)]) (by decide +kernel) rfl (Nat.le_of_ble_eq_true rfl) rfl ?_
  intro κ C hn E hi
  have hsf : ∀ f, f ≠ 0 → s f = σ f := fun f hf => by rw [hs, zu_n hf]
  have hws := wf_0 hsf hwf
  have e2 := hws.1
  have e16 := hws.2.2.1
  have e27 := hws.2.2.2.2.1.1
  have o2 := hwf.1
  have o16 := hwf.2.2.1
  have o27 := hwf.2.2.2.2.1.1
  have hnow := hwf.2.2.2.2.2.1.2
  have e1 : s 1 0 = σ 1 0 := by rw [hsf 1 (by omega)]
  have hs2 := hwf.2.1
  have hc2 := hwf.2.2.2.1
  have hl2 := hwf.2.2.2.2.1.2.1
  have hKb : 0 ≤ woK σ x t ∧ woK σ x t ≤ 3 := by unfold woK; split <;> (try split) <;> (try split) <;> omega
  refine y_aload_n (pc := 0) C dX5_worth_0 0 rfl ?_
  refine y_joinI (pcj := 28) (P := fun q => q = woK σ x t) (fun v1 hv1 => ?_) (fun J1 => ?_)
  · skip
    subst hv1
    refine y_callV (pc := 28) (As := [_]) C E.2.1 cv_X5_133 (ci := 6) rfl rfl (mt_holds _ ⟨by omega, by omega⟩) (fun h hh => ⟨_, hh.1⟩) rfl rfl (Nat.le_of_ble_eq_true rfl) ⟨by decide, by decide, by decide, by decide⟩ dX5_worth_28 ⟨rfl, rfl⟩ ?_
    refine y_ifb_ne (pc := 31) (tgt := 36) C dX5_worth_31 (by decide) (fun c31 => ?_) (fun c31 => ?_)
    · skip
      have hK : woK σ x t = 0 := of_decide_eq_true c31
      rw [hK, ← hs]
      have hG := if1 hK
      have hG1 := hG.1
      obtain ⟨k, rfl⟩ : ∃ k : Nat, x = k := ⟨x.toNat, by omega⟩
      have hck := hws.2.2.2.2.2.2.2.1 k (by omega)
      have hcu0 := hck
      unfold CuOk at hcu0
      have hG2 := (if2 hG.2).1
      have hprs := pr_0 hsf hpr
      obtain ⟨y, rfl⟩ : ∃ y : Nat, t = y := ⟨t.toNat, by omega⟩
      refine y_iconst (pc := 36) C dX5_worth_36 ?_
      refine y_istore_n (pc := 37) (L' := [(3, _), (0, _), (1, _), (2, _)]) C dX5_worth_37 (by rw [hn]; decide) rfl ?_
      refine y_iconst (pc := 38) C dX5_worth_38 ?_
      refine y_istore (pc := 39) (L' := [(4, _), (3, _), (0, _), (1, _), (2, _)]) C dX5_worth_39 (by rw [hn]; decide) rfl ?_
      have LP2 : ∀ (m2 : Nat) (i : Nat) (z q : Int), (k1 : y + 1 ≤ i + m2) → (k2 : i ≤ y) → (hz : z = i) → (hq : q = ((3 ^ i : Nat) : Int)) → Y Ω κ (InvM Ω M ma s τ) hR 0 0 41 [(4, .int (iv z)), (3, .int (iv q)), (0, .ref M), (1, .int (iv k)), (2, .int (iv y))] [] := by
        intro m2
        induction m2 with
        | zero => intro i z q k1 k2 hz hq; exfalso; omega
        | succ m2 ih2 =>
          intro i z q k1 k2 hz hq
          refine y_iload (pc := 41) C dX5_worth_41 0 rfl ?_
          refine y_iload_n (pc := 43) C dX5_worth_43 4 rfl ?_
          refine y_icmp_ge (pc := 44) (tgt := 57) C dX5_worth_44 (by decide) (by omega) (by omega) (by omega) (by omega) (fun c44 => ?_) (fun c44 => ?_)
          · skip
            have ei : i = y := by omega
            subst ei
            subst hq
            have h38 : 3 ^ i ≤ 10000 := Nat.le_trans (Nat.pow_le_pow_right (by omega) (by omega : i ≤ 8)) (by decide)
            refine y_aload_n (pc := 57) C dX5_worth_57 2 rfl ?_
            refine y_iload_n (pc := 58) C dX5_worth_58 3 rfl ?_
            refine y_iload_n (pc := 59) C dX5_worth_59 4 rfl ?_
            refine y_iload_n (pc := 60) C dX5_worth_60 1 rfl ?_
            refine y_callV (pc := 61) (As := [_, _, _]) C E.2.1 cv_X5_232 (ci := 6) rfl rfl (mt_bestOf k i (3 ^ i) (by omega) hck hprs (by omega) h38 (by omega)) (fun h hh => ⟨_, hh.1⟩) rfl rfl (Nat.le_of_ble_eq_true rfl) ⟨by decide, by decide, by decide, by decide⟩ dX5_worth_61 ⟨rfl, rfl⟩ ?_
            exact y_lret (pc := 64) C E dX5_worth_64 (by decide) (by decide) (fun h hh => Or.inl ⟨hK, rfl, hh⟩)
          · skip
            refine y_iload_n (pc := 47) C dX5_worth_47 1 rfl ?_
            refine y_iconst (pc := 48) C dX5_worth_48 ?_
            refine y_imul (pc := 49) C dX5_worth_49 ?_
            refine y_istore_n (pc := 50) (L' := [(3, _), (4, _), (0, _), (1, _), (2, _)]) C dX5_worth_50 (by rw [hn]; decide) rfl ?_
            refine y_iinc (pc := 51) (L' := [(4, _), (3, _), (0, _), (1, _), (2, _)]) C dX5_worth_51 1 rfl (by rw [hn]; decide) rfl ?_
            refine y_goto (pc := 54) (tgt := 41) C dX5_worth_54 (by decide) ?_
            refine Y.sub [0, 1, 2, 3, 4] rfl ?_
            exact ih2 (i + 1) _ _ (by omega) (by omega) (by omega) (by rw [hq, Nat.pow_succ]; omega)
      refine Y.sub [0, 1, 2, 3, 4] rfl ?_
      exact LP2 (y + 1) 0 0 1 (by omega) (by omega) rfl rfl
    · skip
      have hK9 : ¬ woK σ x t = 0 := of_decide_eq_false c31
      refine y_lconst (pc := 34) (z := 0) C dX5_worth_34 (by decide) ?_
      exact y_lret (pc := 35) C E dX5_worth_35 (by decide) (by decide) (fun h hh => Or.inr ⟨hK9, rfl, hh⟩)
  · skip
    refine y_aload_n (pc := 1) C dX5_worth_1 0 rfl ?_
    refine y_iload_n (pc := 2) C dX5_worth_2 1 rfl ?_
    refine y_callV (pc := 3) (As := [_]) C E.2.1 cv_X5_155 (ci := 6) rfl rfl (mt_isCustomer _ ⟨by omega, by omega⟩ ⟨by omega, by omega⟩) (fun h hh => ⟨_, hh.1⟩) rfl rfl (Nat.le_of_ble_eq_true rfl) ⟨by decide, by decide, by decide, by decide⟩ dX5_worth_3 ⟨rfl, rfl⟩ ?_
    refine y_ifb_ne (pc := 6) (tgt := 13) C dX5_worth_6 (by decide) (fun c6 => ?_) (fun c6 => ?_)
    · skip
      refine y_iload_n (pc := 13) C dX5_worth_13 2 rfl ?_
      refine y_iconst (pc := 14) C dX5_worth_14 ?_
      refine y_bipush (pc := 15) (z := 8) C dX5_worth_15 (by decide) ?_
      refine y_callS (pc := 17) (As := [_, _, _]) C E.2.1 cs_X5_108 (mt_isIn _ _ _ ⟨by omega, by omega⟩ ⟨by omega, by omega⟩ ⟨by omega, by omega⟩) rfl rfl (Nat.le_of_ble_eq_true rfl) ⟨by decide, by decide, by decide, by decide⟩ dX5_worth_17 ⟨rfl, rfl⟩ ?_
      refine y_ifb_eq (pc := 20) (tgt := 27) C dX5_worth_20 (by decide) (fun c20 => ?_) (fun c20 => ?_)
      · skip
        refine y_iconst (pc := 27) C dX5_worth_27 ?_
        exact J1 _ (by (try simp only [decide_eq_true_eq, decide_eq_false_iff_not] at c6 c20); unfold woK; split <;> (try split) <;> (try split) <;> omega)
      · skip
        refine y_iconst (pc := 23) C dX5_worth_23 ?_
        refine y_goto (pc := 24) (tgt := 28) C dX5_worth_24 (by decide) ?_
        exact J1 _ (by (try simp only [decide_eq_true_eq, decide_eq_false_iff_not] at c6 c20); unfold woK; split <;> (try split) <;> (try split) <;> omega)
    · skip
      refine y_iconst (pc := 9) C dX5_worth_9 ?_
      refine y_goto (pc := 10) (tgt := 28) C dX5_worth_10 (by decide) ?_
      exact J1 _ (by (try simp only [decide_eq_true_eq, decide_eq_false_iff_not] at c6); unfold woK; split <;> (try split) <;> (try split) <;> omega)

set_option maxRecDepth 20000 in
theorem mt_of {Ω : OmT} {hR : AH} {M : Nat} {ma : Nat → Nat} {σ : ZT} {τ : JT} (ns nc nl : Nat) (hwf : Wf σ ns nc nl) (s : ZT) (hs : s = zu σ 0 0 0) (w : Int) (h_w : -2147483648 ≤ w ∧ w < 2147483648)  : Ct Ω yX5_of cX5_of 5 (some FieldType.long) (rk 4) [.ref M, .int (iv w)] (InvM Ω M ma σ τ) hR (FR (ofK w) (.long (ofR s τ ns nc nl w)) (.long (jv 0)) (InvM Ω M ma (s) (τ)) (InvM Ω M ma (zu σ 0 0 (ofK w)) τ)) NX := by
  refine Ct.of (own := RX5) (L := [(0, _), (1, _)]) (by decide +kernel) rfl (Nat.le_of_ble_eq_true rfl) rfl ?_
  intro κ C hn E hi
  have hsf : ∀ f, f ≠ 0 → s f = σ f := fun f hf => by rw [hs, zu_n hf]
  have hws := wf_0 hsf hwf
  have e2 := hws.1
  have e16 := hws.2.2.1
  have e27 := hws.2.2.2.2.1.1
  have o2 := hwf.1
  have o16 := hwf.2.2.1
  have o27 := hwf.2.2.2.2.1.1
  have hnow := hwf.2.2.2.2.2.1.2
  have e1 : s 1 0 = σ 1 0 := by rw [hsf 1 (by omega)]
  have hs2 := hwf.2.1
  have hc2 := hwf.2.2.2.1
  have hl2 := hwf.2.2.2.2.1.2.1
  have hKb : 0 ≤ ofK w ∧ ofK w ≤ 3 := by unfold ofK; split <;> (try split) <;> (try split) <;> omega
  refine y_aload_n (pc := 0) C dX5_of_0 0 rfl ?_
  refine y_joinI (pcj := 16) (P := fun q => q = ofK w) (fun v1 hv1 => ?_) (fun J1 => ?_)
  · skip
    subst hv1
    refine y_callV (pc := 16) (As := [_]) C E.2.1 cv_X5_133 (ci := 6) rfl rfl (mt_holds _ ⟨by omega, by omega⟩) (fun h hh => ⟨_, hh.1⟩) rfl rfl (Nat.le_of_ble_eq_true rfl) ⟨by decide, by decide, by decide, by decide⟩ dX5_of_16 ⟨rfl, rfl⟩ ?_
    refine y_ifb_ne (pc := 19) (tgt := 24) C dX5_of_19 (by decide) (fun c19 => ?_) (fun c19 => ?_)
    · skip
      have hK : ofK w = 0 := of_decide_eq_true c19
      rw [hK, ← hs]
      have hG := (if1 hK).1
      have hsk := hws.2.2.2.2.2.2.1
      have hlb := lawI_b (σ := s) (n := nl)
      have his := inv_sum (σ := s) (n := nc) hws.2.2.2.2.2.2.2.1 hc2
      have hgs := sumZ_b (f := s 6) (A := 1000000) (n := ns) (fun i hi => by have q := (hsk i hi).1; unfold StO0 at q; omega)
      refine y_lconst (pc := 24) (z := 0) C dX5_of_24 (by decide) ?_
      refine y_lstore_n (pc := 25) (L' := [(2, _), (0, _), (1, _)]) C dX5_of_25 (by rw [hn]; decide) rfl ?_
      refine y_iconst (pc := 26) C dX5_of_26 ?_
      refine y_istore (pc := 27) (L' := [(4, _), (2, _), (0, _), (1, _)]) C dX5_of_27 (by rw [hn]; decide) rfl ?_
      have LP2 : ∀ (m2 : Nat) (i : Nat) (z q : Int), (k1 : ns + 1 ≤ i + m2) → (k2 : i ≤ ns) → (hz : z = i) → (hq : q = sumZ (s 6) i) → Y Ω κ (InvM Ω M ma s τ) hR 0 0 29 [(4, .int (iv z)), (2, .long (jv q)), (0, .ref M), (1, .int (iv w))] [] := by
        intro m2
        induction m2 with
        | zero => intro i z q k1 k2 hz hq; exfalso; omega
        | succ m2 ih2 =>
          intro i z q k1 k2 hz hq
          refine y_iload (pc := 29) C dX5_of_29 0 rfl ?_
          refine y_aload_n (pc := 31) C dX5_of_31 2 rfl ?_
          refine y_get (pc := 32) C fg_X5_105 dX5_of_32 (fun h hh => ⟨_, hh.1, rfl⟩) ?_
          refine y_icmp_ge (pc := 35) (tgt := 55) C dX5_of_35 (by decide) (by omega) (by omega) (by omega) (by omega) (fun c35 => ?_) (fun c35 => ?_)
          · skip
            have ei : i = ns := by omega
            subst hq
            rw [ei]
            refine y_aload_n (pc := 55) C dX5_of_55 2 rfl ?_
            refine y_callV (pc := 56) (As := []) C E.2.1 cv_X5_179 (ci := 6) rfl rfl (mt_lawNow _ hws.2.2.2.2.1 (by omega)) (fun h hh => ⟨_, hh.1⟩) rfl rfl (Nat.le_of_ble_eq_true rfl) ⟨by decide, by decide, by decide, by decide⟩ dX5_of_56 ⟨rfl, rfl⟩ ?_
            refine y_istore (pc := 59) (L' := [(4, _), (2, _), (0, _), (1, _)]) C dX5_of_59 (by rw [hn]; decide) rfl ?_
            refine y_iload_n (pc := 61) C dX5_of_61 3 rfl ?_
            refine y_iconst (pc := 62) C dX5_of_62 ?_
            refine y_icmp_ge (pc := 63) (tgt := 107) C dX5_of_63 (by decide) (by omega) (by omega) (by omega) (by omega) (fun c63 => ?_) (fun c63 => ?_)
            · skip
              refine y_joinJ (pcj := 161) (P := fun q => q = ofR s τ ns nc nl w) (fun v3 hv3 => ?_) (fun J3 => ?_)
              · skip
                subst hv3
                exact y_lret (pc := 161) C E dX5_of_161 (by decide) (by decide) (fun h hh => Or.inl ⟨hK, rfl, hh⟩)
              · skip
                refine y_iload_n (pc := 107) C dX5_of_107 3 rfl ?_
                refine y_iconst (pc := 108) C dX5_of_108 ?_
                refine y_icmp_ne (pc := 109) (tgt := 116) C dX5_of_109 (by decide) (by omega) (by omega) (by omega) (by omega) (fun c109 => ?_) (fun c109 => ?_)
                · skip
                  refine y_iload_n (pc := 116) C dX5_of_116 3 rfl ?_
                  refine y_iconst (pc := 117) C dX5_of_117 ?_
                  refine y_icmp_ne (pc := 118) (tgt := 128) C dX5_of_118 (by decide) (by omega) (by omega) (by omega) (by omega) (fun c118 => ?_) (fun c118 => ?_)
                  · skip
                    refine y_iload_n (pc := 128) C dX5_of_128 3 rfl ?_
                    refine y_bipush (pc := 129) (z := 6) C dX5_of_129 (by decide) ?_
                    refine y_icmp_ne (pc := 131) (tgt := 143) C dX5_of_131 (by decide) (by omega) (by omega) (by omega) (by omega) (fun c131 => ?_) (fun c131 => ?_)
                    · skip
                      refine y_iload (pc := 143) C dX5_of_143 0 rfl ?_
                      refine y_iconst (pc := 145) C dX5_of_145 ?_
                      refine y_icmp_ne (pc := 146) (tgt := 153) C dX5_of_146 (by decide) (by omega) (by omega) (by omega) (by omega) (fun c146 => ?_) (fun c146 => ?_)
                      · skip
                        have h30 := hws.2.2.2.2.1.2.2 (lawI s nl).toNat (by omega)
                        refine y_aload_n (pc := 153) C dX5_of_153 2 rfl ?_
                        refine y_get (pc := 154) C fg_X5_87 dX5_of_154 (fun h hh => ⟨_, hh.1, rfl⟩) ?_
                        refine y_iload (pc := 157) C dX5_of_157 0 rfl ?_
                        refine m_iald (pc := 159) C 30 (lawI s nl).toNat rfl (by omega) (by show _ < 20; omega) dX5_of_159 ?_
                        refine y_i2l (pc := 160) C dX5_of_160 (by omega) (by omega) ?_
                        exact J3 _ (by unfold ofR keptZ; rw [if_neg (by omega), if_neg (by omega), if_neg (by omega), if_neg (by omega)]; split <;> first | rfl | (exfalso; omega) | (split <;> first | rfl | (exfalso; omega) | (split <;> first | rfl | (exfalso; omega) | (first | rw [if_pos (by omega)] | rw [if_neg (by omega)]))))
                      · skip
                        refine y_lconst (pc := 149) (z := 0) C dX5_of_149 (by decide) ?_
                        refine y_goto (pc := 150) (tgt := 161) C dX5_of_150 (by decide) ?_
                        exact J3 _ (by unfold ofR keptZ; rw [if_neg (by omega), if_neg (by omega), if_neg (by omega), if_neg (by omega)]; split <;> first | rfl | (exfalso; omega) | (split <;> first | rfl | (exfalso; omega) | (split <;> first | rfl | (exfalso; omega) | (first | rw [if_pos (by omega)] | rw [if_neg (by omega)]))))
                    · skip
                      refine y_lload_n (pc := 134) C dX5_of_134 1 rfl ?_
                      refine y_aload_n (pc := 135) C dX5_of_135 2 rfl ?_
                      refine y_callV (pc := 136) (As := []) C E.2.1 cv_X5_183 (ci := 6) rfl rfl (mt_all _ e16 hc2 his.2.2) (fun h hh => ⟨_, hh.1⟩) rfl rfl (Nat.le_of_ble_eq_true rfl) ⟨by decide, by decide, by decide, by decide⟩ dX5_of_136 ⟨rfl, rfl⟩ ?_
                      refine y_lsub (pc := 139) C dX5_of_139 ?_
                      refine y_goto (pc := 140) (tgt := 161) C dX5_of_140 (by decide) ?_
                      exact J3 _ (by unfold ofR keptZ; rw [if_neg (by omega), if_neg (by omega), if_neg (by omega), if_neg (by omega)]; split <;> first | rfl | (exfalso; omega) | (split <;> first | rfl | (exfalso; omega) | (split <;> first | rfl | (exfalso; omega) | (first | rw [if_pos (by omega)] | rw [if_neg (by omega)]))))
                  · skip
                    refine y_aload_n (pc := 121) C dX5_of_121 2 rfl ?_
                    refine y_callV (pc := 122) (As := []) C E.2.1 cv_X5_183 (ci := 6) rfl rfl (mt_all _ e16 hc2 his.2.2) (fun h hh => ⟨_, hh.1⟩) rfl rfl (Nat.le_of_ble_eq_true rfl) ⟨by decide, by decide, by decide, by decide⟩ dX5_of_122 ⟨rfl, rfl⟩ ?_
                    refine y_goto (pc := 125) (tgt := 161) C dX5_of_125 (by decide) ?_
                    exact J3 _ (by unfold ofR keptZ; rw [if_neg (by omega), if_neg (by omega), if_neg (by omega), if_neg (by omega)]; split <;> first | rfl | (exfalso; omega) | (split <;> first | rfl | (exfalso; omega) | (split <;> first | rfl | (exfalso; omega) | (first | rw [if_pos (by omega)] | rw [if_neg (by omega)]))))
                · skip
                  refine y_lload_n (pc := 112) C dX5_of_112 1 rfl ?_
                  refine y_goto (pc := 113) (tgt := 161) C dX5_of_113 (by decide) ?_
                  exact J3 _ (by unfold ofR keptZ; rw [if_neg (by omega), if_neg (by omega), if_neg (by omega), if_neg (by omega)]; split <;> first | rfl | (exfalso; omega) | (split <;> first | rfl | (exfalso; omega) | (split <;> first | rfl | (exfalso; omega) | (first | rw [if_pos (by omega)] | rw [if_neg (by omega)]))))
            · skip
              refine y_joinJ (pcj := 106) (P := fun q => q = ofR s τ ns nc nl w) (fun v4 hv4 => ?_) (fun J4 => ?_)
              · skip
                subst hv4
                exact y_lret (pc := 106) C E dX5_of_106 (by decide) (by decide) (fun h hh => Or.inl ⟨hK, rfl, hh⟩)
              · skip
                refine y_iload_n (pc := 66) C dX5_of_66 3 rfl ?_
                refine y_if_ne (pc := 67) (tgt := 78) C dX5_of_67 (by decide) (by omega) (by omega) (fun c67 => ?_) (fun c67 => ?_)
                · skip
                  refine y_iload_n (pc := 78) C dX5_of_78 3 rfl ?_
                  refine y_iconst (pc := 79) C dX5_of_79 ?_
                  refine y_icmp_ne (pc := 80) (tgt := 90) C dX5_of_80 (by decide) (by omega) (by omega) (by omega) (by omega) (fun c80 => ?_) (fun c80 => ?_)
                  · skip
                    refine y_iload_n (pc := 90) C dX5_of_90 3 rfl ?_
                    refine y_iconst (pc := 91) C dX5_of_91 ?_
                    refine y_icmp_ne (pc := 92) (tgt := 102) C dX5_of_92 (by decide) (by omega) (by omega) (by omega) (by omega) (fun c92 => ?_) (fun c92 => ?_)
                    · skip
                      refine y_aload_n (pc := 102) C dX5_of_102 2 rfl ?_
                      refine y_get (pc := 103) C fg_X5_203 dX5_of_103 (fun h hh => ⟨_, hh.1, rfl⟩) ?_
                      exact J4 _ (by unfold ofR; split <;> first | rfl | (exfalso; omega) | (split <;> first | rfl | (exfalso; omega) | (split <;> first | rfl | (exfalso; omega) | (split <;> first | rfl | (exfalso; omega) | (split <;> first | rfl | (exfalso; omega) | (split <;> first | rfl | (exfalso; omega)))))))
                    · skip
                      refine y_aload_n (pc := 95) C dX5_of_95 2 rfl ?_
                      refine y_get (pc := 96) C fg_X5_206 dX5_of_96 (fun h hh => ⟨_, hh.1, rfl⟩) ?_
                      refine y_goto (pc := 99) (tgt := 106) C dX5_of_99 (by decide) ?_
                      exact J4 _ (by unfold ofR; split <;> first | rfl | (exfalso; omega) | (split <;> first | rfl | (exfalso; omega) | (split <;> first | rfl | (exfalso; omega) | (split <;> first | rfl | (exfalso; omega) | (split <;> first | rfl | (exfalso; omega) | (split <;> first | rfl | (exfalso; omega)))))))
                  · skip
                    refine y_aload_n (pc := 83) C dX5_of_83 2 rfl ?_
                    refine y_get (pc := 84) C fg_X5_136 dX5_of_84 (fun h hh => ⟨_, hh.1, rfl⟩) ?_
                    refine y_goto (pc := 87) (tgt := 106) C dX5_of_87 (by decide) ?_
                    exact J4 _ (by unfold ofR; split <;> first | rfl | (exfalso; omega) | (split <;> first | rfl | (exfalso; omega) | (split <;> first | rfl | (exfalso; omega) | (split <;> first | rfl | (exfalso; omega) | (split <;> first | rfl | (exfalso; omega) | (split <;> first | rfl | (exfalso; omega)))))))
                · skip
                  refine y_aload_n (pc := 70) C dX5_of_70 2 rfl ?_
                  refine y_get (pc := 71) C fg_X5_151 dX5_of_71 (fun h hh => ⟨_, hh.1, rfl⟩) ?_
                  refine y_i2l (pc := 74) C dX5_of_74 (by omega) (by omega) ?_
                  refine y_goto (pc := 75) (tgt := 106) C dX5_of_75 (by decide) ?_
                  exact J4 _ (by unfold ofR; split <;> first | rfl | (exfalso; omega) | (split <;> first | rfl | (exfalso; omega) | (split <;> first | rfl | (exfalso; omega) | (split <;> first | rfl | (exfalso; omega) | (split <;> first | rfl | (exfalso; omega) | (split <;> first | rfl | (exfalso; omega)))))))
          · skip
            have hs6 := (hsk i (by omega)).1
            unfold StO0 at hs6
            refine y_lload_n (pc := 38) C dX5_of_38 1 rfl ?_
            refine y_aload_n (pc := 39) C dX5_of_39 2 rfl ?_
            refine y_get (pc := 40) C fg_X5_19 dX5_of_40 (fun h hh => ⟨_, hh.1, rfl⟩) ?_
            refine y_iload (pc := 43) C dX5_of_43 0 rfl ?_
            refine m_iald (pc := 45) C 6 i rfl hz (by show _ < 5; omega) dX5_of_45 ?_
            refine y_i2l (pc := 46) C dX5_of_46 (by omega) (by omega) ?_
            refine y_ladd (pc := 47) C dX5_of_47 ?_
            refine y_lstore_n (pc := 48) (L' := [(2, _), (4, _), (0, _), (1, _)]) C dX5_of_48 (by rw [hn]; decide) rfl ?_
            refine y_iinc (pc := 49) (L' := [(4, _), (2, _), (0, _), (1, _)]) C dX5_of_49 1 rfl (by rw [hn]; decide) rfl ?_
            refine y_goto (pc := 52) (tgt := 29) C dX5_of_52 (by decide) ?_
            refine Y.sub [0, 1, 2, 3] rfl ?_
            exact ih2 (i + 1) _ _ (by omega) (by omega) (by omega) (by rw [hq]; rfl)
      refine Y.sub [0, 1, 2, 3] rfl ?_
      exact LP2 (ns + 1) 0 0 0 (by omega) (by omega) rfl rfl
    · skip
      have hK9 : ¬ ofK w = 0 := of_decide_eq_false c19
      refine y_lconst (pc := 22) (z := 0) C dX5_of_22 (by decide) ?_
      exact y_lret (pc := 23) C E dX5_of_23 (by decide) (by decide) (fun h hh => Or.inr ⟨hK9, rfl, hh⟩)
  · skip
    refine y_iload_n (pc := 1) C dX5_of_1 1 rfl ?_
    refine y_iconst (pc := 2) C dX5_of_2 ?_
    refine y_bipush (pc := 3) (z := 7) C dX5_of_3 (by decide) ?_
    refine y_callS (pc := 5) (As := [_, _, _]) C E.2.1 cs_X5_108 (mt_isIn _ _ _ ⟨by omega, by omega⟩ ⟨by omega, by omega⟩ ⟨by omega, by omega⟩) rfl rfl (Nat.le_of_ble_eq_true rfl) ⟨by decide, by decide, by decide, by decide⟩ dX5_of_5 ⟨rfl, rfl⟩ ?_
    refine y_ifb_eq (pc := 8) (tgt := 15) C dX5_of_8 (by decide) (fun c8 => ?_) (fun c8 => ?_)
    · skip
      refine y_iconst (pc := 15) C dX5_of_15 ?_
      exact J1 _ (by (try simp only [decide_eq_true_eq, decide_eq_false_iff_not] at c8); unfold ofK; split <;> (try split) <;> (try split) <;> omega)
    · skip
      refine y_iconst (pc := 11) C dX5_of_11 ?_
      refine y_goto (pc := 12) (tgt := 16) C dX5_of_12 (by decide) ?_
      exact J1 _ (by (try simp only [decide_eq_true_eq, decide_eq_false_iff_not] at c8); unfold ofK; split <;> (try split) <;> (try split) <;> omega)

set_option maxRecDepth 20000 in
theorem mt_worthAnew {Ω : OmT} {hR : AH} {M : Nat} {ma : Nat → Nat} {σ : ZT} {τ : JT} (ns nc nl : Nat) (hwf : Wf σ ns nc nl) (s : ZT) (hs : s = zu σ 0 0 0) (x : Int) (h_x : -2147483648 ≤ x ∧ x < 2147483648) (t : Int) (h_t : -2147483648 ≤ t ∧ t < 2147483648) (hpr : PrOk σ) : Ct Ω yX5_worthAnew cX5_worthAnew 3 (some FieldType.long) (rk 5) [.ref M, .int (iv x), .int (iv t)] (InvM Ω M ma σ τ) hR (FR (woK σ x t) (.long (jv (bestN s x.toNat t.toNat (3 ^ t.toNat)))) (.long (jv 0)) (InvM Ω M ma s τ) (InvM Ω M ma (zu σ 0 0 (woK σ x t)) τ)) NX := by
  refine Ct.of (own := RX5) (L := [(0, _), (1, _), (2, _)]) (by decide +kernel) rfl (Nat.le_of_ble_eq_true rfl) rfl ?_
  intro κ C hn E hi
  refine y_aload_n (pc := 0) C dX5_worthAnew_0 0 rfl ?_
  refine y_iload_n (pc := 1) C dX5_worthAnew_1 1 rfl ?_
  refine y_iload_n (pc := 2) C dX5_worthAnew_2 2 rfl ?_
  refine y_callVX (pc := 3) (As := [_, _]) C E.2.1 cv_X5_236 (ci := 6) rfl rfl (mt_worth ns nc nl hwf s hs x h_x t h_t hpr) (fun h hh => ⟨_, hh.1⟩) rfl rfl (Nat.le_of_ble_eq_true rfl) ⟨by decide, by decide, by decide, by decide⟩ dX5_worthAnew_3 (fun rv => ?_) (fun E0 => y_nx)
  refine Y.or ?_ ?_
  · refine Y.and (fun hK => Y.and (fun e => ?_))
    subst e
    exact y_lret (pc := 6) C E dX5_worthAnew_6 (by decide) (by decide) (fun h hh => Or.inl ⟨hK, rfl, hh⟩)
  · refine Y.and (fun hK => Y.and (fun e => ?_))
    subst e
    exact y_lret (pc := 6) C E dX5_worthAnew_6 (by decide) (by decide) (fun h hh => Or.inr ⟨hK, rfl, hh⟩)
