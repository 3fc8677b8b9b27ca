/-! the law's areStores -/
theorem k_os {σ : ZT} {ns i : Nat} {w : Int} (h : σ 2 0 = ns) (hi : i < ns) (h0 : 0 ≤ w) (h6 : w ≤ 6) : osK σ (i : Nat) w = 0 := by
  unfold osK
  rw [if_pos ⟨by omega, by omega⟩, if_pos ⟨h0, h6⟩]
theorem k_so {σ : ZT} {ns i : Nat} (h : σ 2 0 = ns) (hi : i < ns) : soK σ (i : Nat) = 0 := by
  unfold soK
  rw [if_pos ⟨by omega, by omega⟩]
theorem k_oc {σ : ZT} {nc i : Nat} {w : Int} (h : σ 16 0 = nc) (hi : i < nc) (h0 : 0 ≤ w) (h5 : w ≤ 5) : ocK σ (i : Nat) w = 0 := by
  unfold ocK
  rw [if_pos ⟨by omega, by omega⟩, if_pos ⟨h0, h5⟩]
theorem k_sc {σ : ZT} {nc i : Nat} (h : σ 16 0 = nc) (hi : i < nc) : scK σ (i : Nat) = 0 := by
  unfold scK
  rw [if_pos ⟨by omega, by omega⟩]

set_option maxRecDepth 20000 in
theorem as_loop {Ω : OmT} {κ : KxT} {hR X : AH} {lay : Nat → Nat → Nat} {ξ : XiT} {σ : ZT} {τ : JT} {ns nc nl dA : Nat} {fd : Nat → Int32} (C : Cx Ω κ RL cL_areStores) (hn : kn κ = 8) (hr : kR κ = rkc 10 110 700) (hl : LI ξ σ τ ns nc nl) (g : GB (σ, τ) ns) (hd : X dA = some (.inl (OmI Ω, 5, .inl fd))) (d0 : fd 0 = iv ns) (kk : Y Ω κ (FX X (InvC Ω lay ns ns nc nl ξ σ τ)) hR 103 618 232 [(2, .int (iv 1)), (3, .long (jv (sumZ (σ 6) ns))), (0, .ref (lay 0 0)), (1, .ref dA)] []) :
    ∀ (m i c s : Nat), i + m = ns → c + 19 * m ≤ 103 → s + 114 * m ≤ 618 → Y Ω κ (FX X (InvC Ω lay ns ns nc nl ξ σ τ)) hR c s 71 [(5, .int (iv (i : Nat))), (3, .long (jv (sumZ (σ 6) i))), (2, .int (iv 1)), (0, .ref (lay 0 0)), (1, .ref dA)] [] := by
  have n5 := hl.1.2.1
  have o2 := hl.1.1
  intro m
  induction m with
  | zero =>
    intro i c s h1 h2 h3
    have e : i = ns := by omega
    rw [e]
    refine y_iload (pc := 71) C dL_areStores_71 0 rfl ?_
    refine y_aload_n (pc := 73) C dL_areStores_73 4 rfl ?_
    refine y_iconst (pc := 74) C dL_areStores_74 ?_
    refine y_xald (pc := 75) (v := (ns : Nat)) C 0 hd rfl (by decide) (by decide) d0 dL_areStores_75 ?_
    refine y_icmp_ge (pc := 76) (tgt := 232) C dL_areStores_76 (by decide) (by omega) (by omega) (by omega) (by omega) (fun c76 => ?_) (fun c => absurd (by omega) c)
    exact Y.sub [2, 1, 3, 4] rfl (Y.wide (by omega) (by omega) kk)
  | succ m ih =>
    intro i c s h1 h2 h3
    have hi : i < ns := by omega
    have hst := hl.1.2.2.2.2.2.2.1 i hi
    have hm := hst.2.1
    have hrm := st_room hst.1
    have hp : 0 ≤ 100 * σ 6 i / roomZ σ i ∧ 100 * σ 6 i / roomZ σ i ≤ σ 8 i ∧ 100 * σ 6 i / roomZ σ i ≤ 1000 := st_press hst
    have hmb := st_most hst.1
    obtain ⟨H, hH, hH0, hH1⟩ := g.1 i hi
    have hH : τ 13 i = jv H := hH
    have hH1 : H ≤ 20000 * σ 6 i := hH1
    have hg : 0 ≤ σ 6 i ∧ σ 6 i ≤ 1000000 := g.2.2 i hi
    obtain ⟨m9, hmx, hm0, hm1, hmz⟩ := mix_b (σ := σ) (τ := τ) hH hH0 hH1 hg.1 hg.2
    refine y_iload (pc := 71) C dL_areStores_71 0 rfl ?_
    refine y_aload_n (pc := 73) C dL_areStores_73 4 rfl ?_
    refine y_iconst (pc := 74) C dL_areStores_74 ?_
    refine y_xald (pc := 75) (v := (ns : Nat)) C 0 hd rfl (by decide) (by decide) d0 dL_areStores_75 ?_
    refine y_icmp_ge (pc := 76) (tgt := 232) C dL_areStores_76 (by decide) (by omega) (by omega) (by omega) (by omega) (fun c => absurd c (by omega)) (fun c76 => ?_)
    refine y_iload_n (pc := 79) C dL_areStores_79 2 rfl ?_
    refine y_if_eq (pc := 80) (tgt := 232) C dL_areStores_80 (by decide) (by omega) (by omega) (fun c => absurd c (by decide)) (fun c80 => ?_)
    refine y_aload_n (pc := 83) C dL_areStores_83 3 rfl ?_
    refine y_iload (pc := 84) C dL_areStores_84 0 rfl ?_
    refine y_iconst (pc := 86) C dL_areStores_86 ?_
    refine y_cg (pc := 87) (cs' := c + 2) (sl' := s + 12) (v := .long (jv (σ 6 i))) (As := [_, _]) C hr cv_L_77 (fun hR' => mg_ofStore hl.1 (Nat.le_refl _) ((i : Nat) : Int) ⟨by omega, by omega⟩ 0 (by decide)) (k_os o2 hi (by decide) (by decide)) (fun q hq => by revert q; decide) (fun h q => ⟨_, q.gas⟩) rfl rfl rfl (Nat.le_of_ble_eq_true rfl) ⟨by decide, by decide, (by show c + 2 ≤ 110; omega), (by show s + 12 ≤ 700; omega)⟩ (by show c + 2 ≤ c + 2; omega) (by show s + 12 ≤ s + 12; omega) dL_areStores_87 ?_
    refine y_lstore (pc := 90) (L' := [(6, _), (5, _), (3, _), (2, _), (0, _), (1, _)]) C dL_areStores_90 (by rw [hn]; decide) rfl ?_
    refine y_lload_n (pc := 92) C dL_areStores_92 2 rfl ?_
    refine y_lload (pc := 93) C dL_areStores_93 0 rfl ?_
    refine y_ladd (pc := 95) C dL_areStores_95 ?_
    refine y_lstore_n (pc := 96) (L' := [(3, _), (6, _), (5, _), (2, _), (0, _), (1, _)]) C dL_areStores_96 (by rw [hn]; decide) rfl ?_
    refine y_lload (pc := 97) C dL_areStores_97 1 rfl ?_
    refine y_lconst (pc := 99) (z := 0) C dL_areStores_99 (by decide) ?_
    refine y_lcmp_lt (pc := 100) (tgt := 224) C dL_areStores_100 dL_areStores_101 (by decide) (by omega) (by omega) (by omega) (by omega) (fun c => absurd c (by omega)) (fun c100 => ?_)
    refine y_lload (pc := 104) C dL_areStores_104 1 rfl ?_
    refine y_aload_n (pc := 106) C dL_areStores_106 4 rfl ?_
    refine y_iload (pc := 107) C dL_areStores_107 2 rfl ?_
    refine y_bipush (pc := 109) (z := 6) C dL_areStores_109 (by decide) ?_
    refine y_cg (pc := 111) (cs' := c + 4) (sl' := s + 24) (v := .long (jv (mostZ (σ 8 i) (roomZ σ i)))) (As := [_, _]) C hr cv_L_77 (fun hR' => mg_ofStore hl.1 (Nat.le_refl _) ((i : Nat) : Int) ⟨by omega, by omega⟩ 6 (by decide)) (k_os o2 hi (by decide) (by decide)) (fun q hq => by revert q; decide) (fun h q => ⟨_, q.gas⟩) rfl rfl rfl (Nat.le_of_ble_eq_true rfl) ⟨by decide, by decide, (by show c + 2 + 2 ≤ 110; omega), (by show s + 12 + 12 ≤ 700; omega)⟩ (by show c + 2 + 2 ≤ c + 4; omega) (by show s + 12 + 12 ≤ s + 24; omega) dL_areStores_111 ?_
    refine y_lcmp_gt (pc := 114) (tgt := 224) C dL_areStores_114 dL_areStores_115 (by decide) (by omega) (by omega) (by omega) (by omega) (fun c => absurd c (by omega)) (fun c114 => ?_)
    refine y_aload_n (pc := 118) C dL_areStores_118 4 rfl ?_
    refine y_iload (pc := 119) C dL_areStores_119 2 rfl ?_
    refine y_iconst (pc := 121) C dL_areStores_121 ?_
    refine y_cg (pc := 122) (cs' := c + 6) (sl' := s + 36) (v := .long (jv (σ 4 i - σ 5 i))) (As := [_, _]) C hr cv_L_77 (fun hR' => mg_ofStore hl.1 (Nat.le_refl _) ((i : Nat) : Int) ⟨by omega, by omega⟩ 1 (by decide)) (k_os o2 hi (by decide) (by decide)) (fun q hq => by revert q; decide) (fun h q => ⟨_, q.gas⟩) rfl rfl rfl (Nat.le_of_ble_eq_true rfl) ⟨by decide, by decide, (by show c + 4 + 2 ≤ 110; omega), (by show s + 24 + 12 ≤ 700; omega)⟩ (by show c + 4 + 2 ≤ c + 6; omega) (by show s + 24 + 12 ≤ s + 36; omega) dL_areStores_122 ?_
    refine y_aload_n (pc := 125) C dL_areStores_125 4 rfl ?_
    refine y_iload (pc := 126) C dL_areStores_126 2 rfl ?_
    refine y_iconst (pc := 128) C dL_areStores_128 ?_
    refine y_cg (pc := 129) (cs' := c + 8) (sl' := s + 48) (v := .long (jv (σ 4 i))) (As := [_, _]) C hr cv_L_77 (fun hR' => mg_ofStore hl.1 (Nat.le_refl _) ((i : Nat) : Int) ⟨by omega, by omega⟩ 2 (by decide)) (k_os o2 hi (by decide) (by decide)) (fun q hq => by revert q; decide) (fun h q => ⟨_, q.gas⟩) rfl rfl rfl (Nat.le_of_ble_eq_true rfl) ⟨by decide, by decide, (by show c + 6 + 2 ≤ 110; omega), (by show s + 36 + 12 ≤ 700; omega)⟩ (by show c + 6 + 2 ≤ c + 8; omega) (by show s + 36 + 12 ≤ s + 48; omega) dL_areStores_129 ?_
    refine y_aload_n (pc := 132) C dL_areStores_132 4 rfl ?_
    refine y_iload (pc := 133) C dL_areStores_133 2 rfl ?_
    refine y_iconst (pc := 135) C dL_areStores_135 ?_
    refine y_cg (pc := 136) (cs' := c + 10) (sl' := s + 60) (v := .long (jv (σ 5 i))) (As := [_, _]) C hr cv_L_77 (fun hR' => mg_ofStore hl.1 (Nat.le_refl _) ((i : Nat) : Int) ⟨by omega, by omega⟩ 3 (by decide)) (k_os o2 hi (by decide) (by decide)) (fun q hq => by revert q; decide) (fun h q => ⟨_, q.gas⟩) rfl rfl rfl (Nat.le_of_ble_eq_true rfl) ⟨by decide, by decide, (by show c + 8 + 2 ≤ 110; omega), (by show s + 48 + 12 ≤ 700; omega)⟩ (by show c + 8 + 2 ≤ c + 10; omega) (by show s + 48 + 12 ≤ s + 60; omega) dL_areStores_136 ?_
    refine y_lsub (pc := 139) C dL_areStores_139 ?_
    refine y_lcmpE (pc := 140) C dL_areStores_140 ?_
    refine y_if_ne (tgt := 224) C dL_areStores_141 (by decide) (by decide) (by decide) (fun c => absurd rfl c) (fun _ => ?_)
    refine y_aload_n (pc := 144) C dL_areStores_144 4 rfl ?_
    refine y_iload (pc := 145) C dL_areStores_145 2 rfl ?_
    refine y_iconst (pc := 147) C dL_areStores_147 ?_
    refine y_cg (pc := 148) (cs' := c + 12) (sl' := s + 72) (v := .long (jv (roomZ σ i))) (As := [_, _]) C hr cv_L_77 (fun hR' => mg_ofStore hl.1 (Nat.le_refl _) ((i : Nat) : Int) ⟨by omega, by omega⟩ 1 (by decide)) (k_os o2 hi (by decide) (by decide)) (fun q hq => by revert q; decide) (fun h q => ⟨_, q.gas⟩) rfl rfl rfl (Nat.le_of_ble_eq_true rfl) ⟨by decide, by decide, (by show c + 10 + 2 ≤ 110; omega), (by show s + 60 + 12 ≤ 700; omega)⟩ (by show c + 10 + 2 ≤ c + 12; omega) (by show s + 60 + 12 ≤ s + 72; omega) dL_areStores_148 ?_
    refine y_lconst (pc := 151) (z := 0) C dL_areStores_151 (by decide) ?_
    refine y_lcmp_le (pc := 152) (tgt := 224) C dL_areStores_152 dL_areStores_153 (by decide) (by omega) (by omega) (by omega) (by omega) (fun c => absurd c (by omega)) (fun c152 => ?_)
    refine y_aload_n (pc := 156) C dL_areStores_156 4 rfl ?_
    refine y_iload (pc := 157) C dL_areStores_157 2 rfl ?_
    refine y_iconst (pc := 159) C dL_areStores_159 ?_
    refine y_cg (pc := 160) (cs' := c + 14) (sl' := s + 84) (v := .long (jv H)) (As := [_, _]) C hr cv_L_77 (fun hR' => mg_ofStore hl.1 (Nat.le_refl _) ((i : Nat) : Int) ⟨by omega, by omega⟩ 4 (by decide)) (k_os o2 hi (by decide) (by decide)) (fun q hq => by revert q; decide) (fun h q => ⟨_, q.gas⟩) (congrArg Value.long hH) rfl rfl (Nat.le_of_ble_eq_true rfl) ⟨by decide, by decide, (by show c + 12 + 2 ≤ 110; omega), (by show s + 72 + 12 ≤ 700; omega)⟩ (by show c + 12 + 2 ≤ c + 14; omega) (by show s + 72 + 12 ≤ s + 84; omega) dL_areStores_160 ?_
    refine y_lconst (pc := 163) (z := 0) C dL_areStores_163 (by decide) ?_
    refine y_lcmp_lt (pc := 164) (tgt := 224) C dL_areStores_164 dL_areStores_165 (by decide) (by omega) (by omega) (by omega) (by omega) (fun c => absurd c (by omega)) (fun c164 => ?_)
    refine y_aload_n (pc := 168) C dL_areStores_168 4 rfl ?_
    refine y_iload (pc := 169) C dL_areStores_169 2 rfl ?_
    refine y_cg (pc := 171) (cs' := c + 15) (sl' := s + 90) (v := .int (iv (100 * σ 6 i / roomZ σ i))) (As := [_]) C hr cv_L_115 (fun hR' => mg_pressure hl.1 (Nat.le_refl _) ((i : Nat) : Int) ⟨by omega, by omega⟩) (k_so o2 hi) (fun q hq => by revert q; decide) (fun h q => ⟨_, q.gas⟩) rfl rfl rfl (Nat.le_of_ble_eq_true rfl) ⟨by decide, by decide, (by show c + 14 + 1 ≤ 110; omega), (by show s + 84 + 6 ≤ 700; omega)⟩ (by show c + 14 + 1 ≤ c + 15; omega) (by show s + 84 + 6 ≤ s + 90; omega) dL_areStores_171 ?_
    refine y_i2l (pc := 174) C dL_areStores_174 (by omega) (by omega) ?_
    refine y_ldc2 (pc := 175) (z := 100) C aw_4_7 (by decide) dL_areStores_175 ?_
    refine y_lload (pc := 178) C dL_areStores_178 1 rfl ?_
    refine y_lmul (pc := 180) C dL_areStores_180 ?_
    refine y_aload_n (pc := 181) C dL_areStores_181 4 rfl ?_
    refine y_iload (pc := 182) C dL_areStores_182 2 rfl ?_
    refine y_iconst (pc := 184) C dL_areStores_184 ?_
    refine y_cg (pc := 185) (cs' := c + 17) (sl' := s + 102) (v := .long (jv (roomZ σ i))) (As := [_, _]) C hr cv_L_77 (fun hR' => mg_ofStore hl.1 (Nat.le_refl _) ((i : Nat) : Int) ⟨by omega, by omega⟩ 1 (by decide)) (k_os o2 hi (by decide) (by decide)) (fun q hq => by revert q; decide) (fun h q => ⟨_, q.gas⟩) rfl rfl rfl (Nat.le_of_ble_eq_true rfl) ⟨by decide, by decide, (by show c + 15 + 2 ≤ 110; omega), (by show s + 90 + 12 ≤ 700; omega)⟩ (by show c + 15 + 2 ≤ c + 17; omega) (by show s + 90 + 12 ≤ s + 102; omega) dL_areStores_185 ?_
    refine y_ldivP (pc := 188) C dL_areStores_188 (by omega) (by omega) (by omega) (by omega) ?_
    refine y_lcmpE (pc := 189) C dL_areStores_189 ?_
    refine y_if_ne (tgt := 224) C dL_areStores_190 (by decide) (by decide) (by decide) (fun c => absurd rfl c) (fun _ => ?_)
    refine y_lload (pc := 193) C dL_areStores_193 1 rfl ?_
    refine y_lconst (pc := 195) (z := 0) C dL_areStores_195 (by decide) ?_
    refine y_lcmp_gt (pc := 196) (tgt := 209) C dL_areStores_196 dL_areStores_197 (by decide) (by omega) (by omega) (by omega) (by omega) (fun c196 => ?_) (fun c196 => ?_)
    · skip
      refine y_aload_n (pc := 209) C dL_areStores_209 4 rfl ?_
      refine y_iload (pc := 210) C dL_areStores_210 2 rfl ?_
      refine y_cg (pc := 212) (cs' := c + 18) (sl' := s + 108) (v := .int (iv m9)) (As := [_]) C hr cv_L_120 (fun hR' => mg_mix hl.1 (Nat.le_refl _) ((i : Nat) : Int) ⟨by omega, by omega⟩) (k_so o2 hi) (fun q hq => by revert q; decide) (fun h q => ⟨_, q.gas⟩) (congrArg Value.int hmx) rfl rfl (Nat.le_of_ble_eq_true rfl) ⟨by decide, by decide, (by show c + 17 + 1 ≤ 110; omega), (by show s + 102 + 6 ≤ 700; omega)⟩ (by show c + 17 + 1 ≤ c + 18; omega) (by show s + 102 + 6 ≤ s + 108; omega) dL_areStores_212 ?_
      refine y_ldc (pc := 215) (z := 100000) C aw_2_190 (by decide) dL_areStores_215 ?_
      refine y_icmp_gt (pc := 217) (tgt := 224) C dL_areStores_217 (by decide) (by omega) (by omega) (by omega) (by omega) (fun c => absurd c (by omega)) (fun c217 => ?_)
      refine y_iconst (pc := 220) C dL_areStores_220 ?_
      refine y_goto (pc := 221) (tgt := 225) C dL_areStores_221 (by decide) ?_
      refine y_istore_n (pc := 225) (L' := [(2, _), (3, _), (6, _), (5, _), (0, _), (1, _)]) C dL_areStores_225 (by rw [hn]; decide) rfl ?_
      refine y_iinc (pc := 226) (L' := [(5, _), (2, _), (3, _), (6, _), (0, _), (1, _)]) C dL_areStores_226 3 rfl (by rw [hn]; decide) rfl ?_
      refine y_goto (pc := 229) (tgt := 71) C dL_areStores_229 (by decide) ?_
      refine Y.sub [0, 2, 1, 4, 5] rfl ?_
      exact ih (i + 1) _ _ (by omega) (by omega) (by omega)
    · skip
      refine y_aload_n (pc := 200) C dL_areStores_200 4 rfl ?_
      refine y_iload (pc := 201) C dL_areStores_201 2 rfl ?_
      refine y_cg (pc := 203) (cs' := c + 18) (sl' := s + 108) (v := .int (iv m9)) (As := [_]) C hr cv_L_120 (fun hR' => mg_mix hl.1 (Nat.le_refl _) ((i : Nat) : Int) ⟨by omega, by omega⟩) (k_so o2 hi) (fun q hq => by revert q; decide) (fun h q => ⟨_, q.gas⟩) (congrArg Value.int hmx) rfl rfl (Nat.le_of_ble_eq_true rfl) ⟨by decide, by decide, (by show c + 17 + 1 ≤ 110; omega), (by show s + 102 + 6 ≤ 700; omega)⟩ (by show c + 17 + 1 ≤ c + 18; omega) (by show s + 102 + 6 ≤ s + 108; omega) dL_areStores_203 ?_
      refine y_if_ne (pc := 206) (tgt := 224) C dL_areStores_206 (by decide) (by omega) (by omega) (fun c => absurd c (by omega)) (fun c206 => ?_)
      refine y_aload_n (pc := 209) C dL_areStores_209 4 rfl ?_
      refine y_iload (pc := 210) C dL_areStores_210 2 rfl ?_
      refine y_cg (pc := 212) (cs' := c + 19) (sl' := s + 114) (v := .int (iv m9)) (As := [_]) C hr cv_L_120 (fun hR' => mg_mix hl.1 (Nat.le_refl _) ((i : Nat) : Int) ⟨by omega, by omega⟩) (k_so o2 hi) (fun q hq => by revert q; decide) (fun h q => ⟨_, q.gas⟩) (congrArg Value.int hmx) rfl rfl (Nat.le_of_ble_eq_true rfl) ⟨by decide, by decide, (by show c + 18 + 1 ≤ 110; omega), (by show s + 108 + 6 ≤ 700; omega)⟩ (by show c + 18 + 1 ≤ c + 19; omega) (by show s + 108 + 6 ≤ s + 114; omega) dL_areStores_212 ?_
      refine y_ldc (pc := 215) (z := 100000) C aw_2_190 (by decide) dL_areStores_215 ?_
      refine y_icmp_gt (pc := 217) (tgt := 224) C dL_areStores_217 (by decide) (by omega) (by omega) (by omega) (by omega) (fun c => absurd c (by omega)) (fun c217 => ?_)
      refine y_iconst (pc := 220) C dL_areStores_220 ?_
      refine y_goto (pc := 221) (tgt := 225) C dL_areStores_221 (by decide) ?_
      refine y_istore_n (pc := 225) (L' := [(2, _), (3, _), (6, _), (5, _), (0, _), (1, _)]) C dL_areStores_225 (by rw [hn]; decide) rfl ?_
      refine y_iinc (pc := 226) (L' := [(5, _), (2, _), (3, _), (6, _), (0, _), (1, _)]) C dL_areStores_226 3 rfl (by rw [hn]; decide) rfl ?_
      refine y_goto (pc := 229) (tgt := 71) C dL_areStores_229 (by decide) ?_
      refine Y.sub [0, 2, 1, 4, 5] rfl ?_
      exact ih (i + 1) _ _ (by omega) (by omega) (by omega)

set_option maxRecDepth 20000 in
theorem ct_areStores {Ω : OmT} {hR X : AH} {lay : Nat → Nat → Nat} {ξ : XiT} {σ : ZT} {τ : JT} {ns nc nl dA : Nat} {fd : Nat → Int32} (hl : LI ξ σ τ ns nc nl) (g : GB (σ, τ) ns) (hd : X dA = some (.inl (OmI Ω, 5, .inl fd))) (d0 : fd 0 = iv ns) (d3 : fd 3 = iv (σ 1 0)) : Ct Ω yL_areStores cL_areStores 8 (some FieldType.boolean) (rkc 10 110 700) [.ref (lay 0 0), .ref dA] (FX X (InvC Ω lay ns ns nc nl ξ σ τ)) hR (RV (.int (iv 1)) (FX X (InvC Ω lay ns ns nc nl ξ σ τ))) NX := by
  refine Ct.of (own := RL) (L := [(0, _), (1, _)]) (by decide +kernel) rfl (Nat.le_of_ble_eq_true rfl) rfl ?_
  intro κ C hn E hi
  obtain ⟨a, b, c, b1, b2, b3, b4⟩ := g.2.1
  have b4 : a = b + c + sumZ (σ 6) ns := b4
  subst b4
  have n5 := hl.1.2.1
  have h10 := hl.1.2.2.2.2.2.1.2
  refine y_aload_n (pc := 0) C dL_areStores_0 0 rfl ?_
  refine y_iconst (pc := 1) C dL_areStores_1 ?_
  refine y_cg (pc := 2) (cs' := 1) (sl' := 6) (v := .long (jv (b + c + sumZ (σ 6) ns))) (As := [_]) C E.2.1 cv_L_94 (fun hR' => mg_of hl.1 (Nat.le_refl _) 1 (by decide)) (by decide) (fun q hq => by revert q; decide) (fun h q => ⟨_, q.gas⟩) (congrArg Value.long b1) rfl rfl (Nat.le_of_ble_eq_true rfl) ⟨by decide, by decide, (by decide), (by decide)⟩ (by decide) (by decide) dL_areStores_2 ?_
  refine y_aload_n (pc := 5) C dL_areStores_5 0 rfl ?_
  refine y_iconst (pc := 6) C dL_areStores_6 ?_
  refine y_cg (pc := 7) (cs' := 2) (sl' := 12) (v := .long (jv b)) (As := [_]) C E.2.1 cv_L_94 (fun hR' => mg_of hl.1 (Nat.le_refl _) 2 (by decide)) (by decide) (fun q hq => by revert q; decide) (fun h q => ⟨_, q.gas⟩) (congrArg Value.long b2) rfl rfl (Nat.le_of_ble_eq_true rfl) ⟨by decide, by decide, (by decide), (by decide)⟩ (by decide) (by decide) dL_areStores_7 ?_
  refine y_aload_n (pc := 10) C dL_areStores_10 0 rfl ?_
  refine y_iconst (pc := 11) C dL_areStores_11 ?_
  refine y_cg (pc := 12) (cs' := 3) (sl' := 18) (v := .long (jv c)) (As := [_]) C E.2.1 cv_L_94 (fun hR' => mg_of hl.1 (Nat.le_refl _) 3 (by decide)) (by decide) (fun q hq => by revert q; decide) (fun h q => ⟨_, q.gas⟩) (congrArg Value.long b3) rfl rfl (Nat.le_of_ble_eq_true rfl) ⟨by decide, by decide, (by decide), (by decide)⟩ (by decide) (by decide) dL_areStores_12 ?_
  refine y_ladd (pc := 15) C dL_areStores_15 ?_
  refine y_aload_n (pc := 16) C dL_areStores_16 0 rfl ?_
  refine y_iconst (pc := 17) C dL_areStores_17 ?_
  refine y_cg (pc := 18) (cs' := 4) (sl' := 24) (v := .long (jv (sumZ (σ 6) ns))) (As := [_]) C E.2.1 cv_L_94 (fun hR' => mg_of hl.1 (Nat.le_refl _) 4 (by decide)) (by decide) (fun q hq => by revert q; decide) (fun h q => ⟨_, q.gas⟩) rfl rfl rfl (Nat.le_of_ble_eq_true rfl) ⟨by decide, by decide, (by decide), (by decide)⟩ (by decide) (by decide) dL_areStores_18 ?_
  refine y_ladd (pc := 21) C dL_areStores_21 ?_
  refine y_lcmpE (pc := 22) C dL_areStores_22 ?_
  refine y_if_ne (tgt := 64) C dL_areStores_23 (by decide) (by decide) (by decide) (fun c => absurd rfl c) (fun _ => ?_)
  refine y_aload_n (pc := 26) C dL_areStores_26 0 rfl ?_
  refine y_bipush (pc := 27) (z := 6) C dL_areStores_27 (by decide) ?_
  refine y_cg (pc := 29) (cs' := 5) (sl' := 30) (v := .long (jv (sumZ (σ 6) ns - sumZ (σ 21) nc))) (As := [_]) C E.2.1 cv_L_94 (fun hR' => mg_of hl.1 (Nat.le_refl _) 6 (by decide)) (by decide) (fun q hq => by revert q; decide) (fun h q => ⟨_, q.gas⟩) rfl rfl rfl (Nat.le_of_ble_eq_true rfl) ⟨by decide, by decide, (by decide), (by decide)⟩ (by decide) (by decide) dL_areStores_29 ?_
  refine y_aload_n (pc := 32) C dL_areStores_32 0 rfl ?_
  refine y_iconst (pc := 33) C dL_areStores_33 ?_
  refine y_cg (pc := 34) (cs' := 6) (sl' := 36) (v := .long (jv (sumZ (σ 6) ns))) (As := [_]) C E.2.1 cv_L_94 (fun hR' => mg_of hl.1 (Nat.le_refl _) 4 (by decide)) (by decide) (fun q hq => by revert q; decide) (fun h q => ⟨_, q.gas⟩) rfl rfl rfl (Nat.le_of_ble_eq_true rfl) ⟨by decide, by decide, (by decide), (by decide)⟩ (by decide) (by decide) dL_areStores_34 ?_
  refine y_aload_n (pc := 37) C dL_areStores_37 0 rfl ?_
  refine y_iconst (pc := 38) C dL_areStores_38 ?_
  refine y_cg (pc := 39) (cs' := 7) (sl' := 42) (v := .long (jv (sumZ (σ 21) nc))) (As := [_]) C E.2.1 cv_L_94 (fun hR' => mg_of hl.1 (Nat.le_refl _) 5 (by decide)) (by decide) (fun q hq => by revert q; decide) (fun h q => ⟨_, q.gas⟩) rfl rfl rfl (Nat.le_of_ble_eq_true rfl) ⟨by decide, by decide, (by decide), (by decide)⟩ (by decide) (by decide) dL_areStores_39 ?_
  refine y_lsub (pc := 42) C dL_areStores_42 ?_
  refine y_lcmpE (pc := 43) C dL_areStores_43 ?_
  refine y_if_ne (tgt := 64) C dL_areStores_44 (by decide) (by decide) (by decide) (fun c => absurd rfl c) (fun _ => ?_)
  refine y_aload_n (pc := 47) C dL_areStores_47 0 rfl ?_
  refine y_iconst (pc := 48) C dL_areStores_48 ?_
  refine y_cg (pc := 49) (cs' := 8) (sl' := 48) (v := .long (jv (σ 1 0))) (As := [_]) C E.2.1 cv_L_94 (fun hR' => mg_of hl.1 (Nat.le_refl _) 0 (by decide)) (by decide) (fun q hq => by revert q; decide) (fun h q => ⟨_, q.gas⟩) rfl rfl rfl (Nat.le_of_ble_eq_true rfl) ⟨by decide, by decide, (by decide), (by decide)⟩ (by decide) (by decide) dL_areStores_49 ?_
  refine y_aload_n (pc := 52) C dL_areStores_52 1 rfl ?_
  refine y_iconst (pc := 53) C dL_areStores_53 ?_
  refine y_xald (pc := 54) (v := (σ 1 0)) C 3 hd rfl (by decide) (by decide) d3 dL_areStores_54 ?_
  refine y_i2l (pc := 55) C dL_areStores_55 (by omega) (by omega) ?_
  refine y_lcmpE (pc := 56) C dL_areStores_56 ?_
  refine y_if_ne (tgt := 64) C dL_areStores_57 (by decide) (by decide) (by decide) (fun c => absurd rfl c) (fun _ => ?_)
  refine y_iconst (pc := 60) C dL_areStores_60 ?_
  refine y_goto (pc := 61) (tgt := 65) C dL_areStores_61 (by decide) ?_
  refine y_istore_n (pc := 65) (L' := [(2, _), (0, _), (1, _)]) C dL_areStores_65 (by rw [hn]; decide) rfl ?_
  refine y_lconst (pc := 66) (z := 0) C dL_areStores_66 (by decide) ?_
  refine y_lstore_n (pc := 67) (L' := [(3, _), (2, _), (0, _), (1, _)]) C dL_areStores_67 (by rw [hn]; decide) rfl ?_
  refine y_iconst (pc := 68) C dL_areStores_68 ?_
  refine y_istore (pc := 69) (L' := [(5, _), (3, _), (2, _), (0, _), (1, _)]) C dL_areStores_69 (by rw [hn]; decide) rfl ?_
  refine Y.sub [0, 1, 2, 3, 4] rfl ?_
  refine as_loop C hn E.2.1 hl g hd d0 ?_ ns 0 8 48 (by omega) (by omega) (by omega)
  refine y_iload_n (pc := 232) C dL_areStores_232 0 rfl ?_
  refine y_if_eq (pc := 233) (tgt := 250) C dL_areStores_233 (by decide) (by omega) (by omega) (fun c => absurd c (by decide)) (fun c233 => ?_)
  refine y_aload_n (pc := 236) C dL_areStores_236 2 rfl ?_
  refine y_iconst (pc := 237) C dL_areStores_237 ?_
  refine y_cg (pc := 238) (cs' := 104) (sl' := 624) (v := .long (jv (sumZ (σ 6) ns))) (As := [_]) C E.2.1 cv_L_94 (fun hR' => mg_of hl.1 (Nat.le_refl _) 4 (by decide)) (by decide) (fun q hq => by revert q; decide) (fun h q => ⟨_, q.gas⟩) rfl rfl rfl (Nat.le_of_ble_eq_true rfl) ⟨by decide, by decide, (by decide), (by decide)⟩ (by decide) (by decide) dL_areStores_238 ?_
  refine y_lload_n (pc := 241) C dL_areStores_241 1 rfl ?_
  refine y_lcmpE (pc := 242) C dL_areStores_242 ?_
  refine y_if_ne (tgt := 250) C dL_areStores_243 (by decide) (by decide) (by decide) (fun c => absurd rfl c) (fun _ => ?_)
  refine y_iconst (pc := 246) C dL_areStores_246 ?_
  refine y_goto (pc := 247) (tgt := 251) C dL_areStores_247 (by decide) ?_
  exact y_zret (pc := 251) (b := true) C E dL_areStores_251 (by decide) (by decide) (fun h hh => ⟨rfl, hh⟩)
