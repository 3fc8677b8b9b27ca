/-! step: its cases -/
theorem LwSt.mk2 {Ω : OmT} {dA nA : Nat} {T : Int} {X : AH} {lay : Nat → Nat → Nat} {ξ : XiT} {σ s : ZT} {t : JT} {ns nc nl : Nat} {fd fn : Nat → Int32} {h : AH} (hl : LI ξ s t ns nc nl) (g : GB (s, t) ns) (hla : LaO Ω lay) (hrg : RgOk fn σ) (h1 : s 1 0 = σ 1 0) (h25 : s 25 = σ 25) (h15 : s 15 0 = σ 15 0) (hd : X dA = some (.inl (OmI Ω, 5, .inl fd))) (hf : X nA = some (.inl (OmI Ω, 48, .inl fn))) (d0 : fd 0 = iv ns) (d1 : fd 1 = iv nc) (d2 : fd 2 = iv nl) (d3 : fd 3 = iv (σ 1 0)) (d4 : fd 4 = iv (σ 15 0)) (hT : σ 1 0 ≤ T) (q : FX X (InvC Ω lay ns ns nc nl ξ s t) h) : LwSt Ω (lay 0 0) dA nA T h :=
  LwSt.mk hl g hla (rg_c hrg h1 h25) rfl hd hf d0 d1 d2 (by rw [h1]; exact d3) (by rw [h15]; exact d4) (by rw [h1]; exact hT) q
theorem LwSt.mono {Ω : OmT} {x dA nA : Nat} {T T' : Int} {h : AH} (ht : T ≤ T') (q : LwSt Ω x dA nA T h) : LwSt Ω x dA nA T' h := by
  obtain ⟨X, lay, ξ, σ, τ, ns, nc, nl, fd, fn, ⟨q1, q2, q3, q4, q5, q6, q7, q8, q9, q10, q11, q12, q13⟩, q14⟩ := q
  exact ⟨X, lay, ξ, σ, τ, ns, nc, nl, fd, fn, ⟨q1, q2, q3, q4, q5, q6, q7, q8, q9, q10, q11, q12, by omega⟩, q14⟩
theorem wlK_0 {σ : ZT} {ns i : Nat} {x y : Int} (h : σ 2 0 = ns) (hi : i < ns) (hx : 0 ≤ x ∧ x ≤ 100) (hy : 0 ≤ y ∧ y ≤ 1000) : wlK σ (i : Nat) x y = 0 := by
  unfold wlK
  rw [if_pos ⟨by omega, by omega⟩, if_pos ⟨hx.1, hx.2, hy.1, hy.2⟩]
theorem lkK_0 {σ : ZT} {ns i : Nat} {x : Int} (h : σ 2 0 = ns) (hi : i < ns) (hx : 0 ≤ x ∧ x ≤ 1000) : lkK σ (i : Nat) x = 0 := by
  unfold lkK
  rw [if_pos ⟨by omega, by omega⟩, if_pos hx]
theorem htK_0 {x : Int} (hx : 0 ≤ x ∧ x ≤ 20000) : htK x = 0 := by
  unfold htK
  rw [if_pos hx]
theorem prK_0 {σ : ZT} {t u : Int} (h : σ 1 0 ≤ t ∧ t ≤ σ 1 0 + 60) (hu : -1000 ≤ u ∧ u ≤ 1000) : prK σ t u = 0 := by
  unfold prK
  rw [if_pos ⟨h.1, h.2, hu.1, hu.2⟩]
theorem nmK_0 {σ : ZT} {nc k : Nat} {t u : Int} (o : σ 16 0 = nc) (hk : k < nc) (h : σ 1 0 + 2 ≤ t ∧ t ≤ σ 1 0 + 60) (hu : -1000000 ≤ u ∧ u ≤ 1000000) : nmK σ (k : Nat) t u = 0 := by
  unfold nmK
  rw [if_pos ⟨by omega, by omega⟩, if_pos ⟨h.1, h.2, hu.1, hu.2⟩]
theorem woK_0 {σ : ZT} {nc k : Nat} {t : Int} (o : σ 16 0 = nc) (hk : k < nc) (h : 1 ≤ t ∧ t ≤ 8) : woK σ (k : Nat) t = 0 := by
  unfold woK
  rw [if_pos ⟨by omega, by omega⟩, if_pos h]

set_option maxRecDepth 20000 in
theorem sc_taken {Ω : OmT} {κ : KxT} {hR X : AH} {lay : Nat → Nat → Nat} {ξ : XiT} {σ : ZT} {τ : JT} {ns nc nl dA nA : Nat} {fd fn : Nat → Int32} {T w a b s6 s7 s8 : Int} (C : Cx Ω κ RL cL_step) (hn : kn κ = 29) (E : Ce Ω κ (some FieldType.boolean) (rkc 20 4200 26000) hR (RV (.int (iv 1)) (LwSt Ω (lay 0 0) dA nA (T + 24))) NX) (hT8 : 0 ≤ T ∧ T ≤ 8900) (ha : 0 ≤ a ∧ a < 2147483648) (hb : 0 ≤ b ∧ b < 2147483648) (hl : LI ξ σ τ ns nc nl) (g : GB (σ, τ) ns) (hla : LaO Ω lay) (hrg : RgOk fn σ) (hd : X dA = some (.inl (OmI Ω, 5, .inl fd))) (hf : X nA = some (.inl (OmI Ω, 48, .inl fn))) (d0 : fd 0 = iv ns) (d1 : fd 1 = iv nc) (d2 : fd 2 = iv nl) (d3 : fd 3 = iv (σ 1 0)) (d4 : fd 4 = iv (σ 15 0)) (hT : σ 1 0 ≤ T) : Y Ω κ (FX X (InvC Ω lay ns ns nc nl ξ σ τ)) hR 0 0 156 [(8, .int (iv s8)), (7, .int (iv s7)), (6, .int (iv s6)), (0, .ref (lay 0 0)), (1, .ref dA), (2, .ref nA), (3, .int (iv w)), (4, .int (iv a)), (5, .int (iv b))] [] := by
  have n5 := hl.1.2.1
  have n6 := hl.1.2.2.2.1
  have o2 := hl.1.1
  have o16 := hl.1.2.2.1
  have h10 := hl.1.2.2.2.2.2.1.2
  refine y_aload_n (pc := 156) C dL_step_156 3 rfl ?_
  refine y_aload_n (pc := 157) C dL_step_157 4 rfl ?_
  refine y_iload (pc := 158) C dL_step_158 7 rfl ?_
  refine y_iload (pc := 160) C dL_step_160 8 rfl ?_
  refine Y.imp (Φ' := LwSt Ω (lay 0 0) dA nA T) (fun h hh => LwSt.mk hl g hla hrg rfl hd hf d0 d1 d2 d3 d4 hT hh) ?_
  refine y_callSc (pc := 162) (cs' := 20) (sl' := 200) (As := [_, _, _, _]) C E.2.1 cs_L_35 (ct_isTaken ha hb) rfl rfl (Nat.le_of_ble_eq_true rfl) ⟨by decide, by decide, (by decide), (by decide)⟩ dL_step_162 ⟨rfl, rfl⟩ ?_
  exact y_zret (pc := 165) (b := true) C E dL_step_165 (by decide) (by decide) (fun h hh => ⟨rfl, LwSt.mono (by omega) hh⟩)

set_option maxRecDepth 20000 in
theorem sc_hours {Ω : OmT} {κ : KxT} {hR X : AH} {lay : Nat → Nat → Nat} {ξ : XiT} {σ : ZT} {τ : JT} {ns nc nl dA nA : Nat} {fd fn : Nat → Int32} {T w a b s6 s7 s8 : Int} (C : Cx Ω κ RL cL_step) (hn : kn κ = 29) (E : Ce Ω κ (some FieldType.boolean) (rkc 20 4200 26000) hR (RV (.int (iv 1)) (LwSt Ω (lay 0 0) dA nA (T + 24))) NX) (hT8 : 0 ≤ T ∧ T ≤ 8900) (ha : 0 ≤ a ∧ a < 2147483648) (hb : 0 ≤ b ∧ b < 2147483648) (hl : LI ξ σ τ ns nc nl) (g : GB (σ, τ) ns) (hla : LaO Ω lay) (hrg : RgOk fn σ) (hd : X dA = some (.inl (OmI Ω, 5, .inl fd))) (hf : X nA = some (.inl (OmI Ω, 48, .inl fn))) (d0 : fd 0 = iv ns) (d1 : fd 1 = iv nc) (d2 : fd 2 = iv nl) (d3 : fd 3 = iv (σ 1 0)) (d4 : fd 4 = iv (σ 15 0)) (hT : σ 1 0 ≤ T) : Y Ω κ (FX X (InvC Ω lay ns ns nc nl ξ σ τ)) hR 0 0 1038 [(8, .int (iv s8)), (7, .int (iv s7)), (6, .int (iv s6)), (0, .ref (lay 0 0)), (1, .ref dA), (2, .ref nA), (3, .int (iv w)), (4, .int (iv a)), (5, .int (iv b))] [] := by
  have n5 := hl.1.2.1
  have n6 := hl.1.2.2.2.1
  have o2 := hl.1.1
  have o16 := hl.1.2.2.1
  have h10 := hl.1.2.2.2.2.2.1.2
  refine y_aload_n (pc := 1038) C dL_step_1038 3 rfl ?_
  refine y_aload_n (pc := 1039) C dL_step_1039 4 rfl ?_
  refine y_aload_n (pc := 1040) C dL_step_1040 5 rfl ?_
  refine y_joinI (pcj := 1065) (P := fun v => 1 ≤ v ∧ v ≤ 24) (fun v1 hv1 => ?_) (fun J1 => ?_)
  · skip
    obtain ⟨Hn, hHn⟩ : ∃ Hn : Int, Hn = v1 := ⟨_, rfl⟩
    rw [← hHn]
    rw [← hHn] at hv1
    refine Y.imp (Φ' := LwSt Ω (lay 0 0) dA nA T) (fun h hh => LwSt.mk hl g hla hrg rfl hd hf d0 d1 d2 d3 d4 hT hh) ?_
    refine y_callSc (pc := 1065) (cs' := 4100) (sl' := 25500) (As := [_, _, _, _]) C E.2.1 cs_L_90 (ct_areHours (by omega) (by omega)) rfl rfl (Nat.le_of_ble_eq_true rfl) ⟨by decide, by decide, (by decide), (by decide)⟩ dL_step_1065 ⟨rfl, rfl⟩ ?_
    exact y_zret (pc := 1068) (b := true) C E dL_step_1068 (by decide) (by decide) (fun h hh => ⟨rfl, LwSt.mono (by omega) hh⟩)
  · skip
    refine y_iload (pc := 1041) C dL_step_1041 8 rfl ?_
    refine y_bipush (pc := 1043) (z := 7) C dL_step_1043 (by decide) ?_
    refine y_irem (pc := 1045) C dL_step_1045 (by omega) (by omega) (by omega) (by omega) ?_
    refine y_if_ne (pc := 1046) (tgt := 1059) C dL_step_1046 (by decide) (by omega) (by omega) (fun c1046 => ?_) (fun c1046 => ?_)
    · skip
      refine y_iconst (pc := 1059) C dL_step_1059 ?_
      refine y_iload (pc := 1060) C dL_step_1060 7 rfl ?_
      refine y_iconst (pc := 1062) C dL_step_1062 ?_
      refine y_irem (pc := 1063) C dL_step_1063 (by omega) (by omega) (by omega) (by omega) ?_
      refine y_iadd (pc := 1064) C dL_step_1064 ?_
      exact J1 _ ⟨by omega, by omega⟩
    · skip
      refine y_iconst (pc := 1049) C dL_step_1049 ?_
      refine y_iload (pc := 1050) C dL_step_1050 7 rfl ?_
      refine y_bipush (pc := 1052) (z := 24) C dL_step_1052 (by decide) ?_
      refine y_irem (pc := 1054) C dL_step_1054 (by omega) (by omega) (by omega) (by omega) ?_
      refine y_iadd (pc := 1055) C dL_step_1055 ?_
      refine y_goto (pc := 1056) (tgt := 1065) C dL_step_1056 (by decide) ?_
      exact J1 _ ⟨by omega, by omega⟩

set_option maxRecDepth 20000 in
theorem sc_wells {Ω : OmT} {κ : KxT} {hR X : AH} {lay : Nat → Nat → Nat} {ξ : XiT} {σ : ZT} {τ : JT} {ns nc nl dA nA : Nat} {fd fn : Nat → Int32} {T w a b s6 s7 s8 : Int} (C : Cx Ω κ RL cL_step) (hn : kn κ = 29) (E : Ce Ω κ (some FieldType.boolean) (rkc 20 4200 26000) hR (RV (.int (iv 1)) (LwSt Ω (lay 0 0) dA nA (T + 24))) NX) (hT8 : 0 ≤ T ∧ T ≤ 8900) (ha : 0 ≤ a ∧ a < 2147483648) (hb : 0 ≤ b ∧ b < 2147483648) (hl : LI ξ σ τ ns nc nl) (g : GB (σ, τ) ns) (hla : LaO Ω lay) (hrg : RgOk fn σ) (hd : X dA = some (.inl (OmI Ω, 5, .inl fd))) (hf : X nA = some (.inl (OmI Ω, 48, .inl fn))) (d0 : fd 0 = iv ns) (d1 : fd 1 = iv nc) (d2 : fd 2 = iv nl) (d3 : fd 3 = iv (σ 1 0)) (d4 : fd 4 = iv (σ 15 0)) (hT : σ 1 0 ≤ T) {i : Nat} (hi : i < ns) : Y Ω κ (FX X (InvC Ω lay ns ns nc nl ξ σ τ)) hR 0 0 166 [(8, .int (iv s8)), (7, .int (iv s7)), (6, .int (iv (i : Nat))), (0, .ref (lay 0 0)), (1, .ref dA), (2, .ref nA), (3, .int (iv w)), (4, .int (iv a)), (5, .int (iv b))] [] := by
  have n5 := hl.1.2.1
  have n6 := hl.1.2.2.2.1
  have o2 := hl.1.1
  have o16 := hl.1.2.2.1
  have h10 := hl.1.2.2.2.2.2.1.2
  have hK := wlK_0 (x := b % 101) (y := b / 101 % 1001) o2 hi (by omega) (by omega)
  have hl2 := li_wells hl hK
  have hs2 := hl2.1.2.2.2.2.2.2.1 i hi
  obtain ⟨s2, e2⟩ : ∃ s2, s2 = wlS i (b % 101) (b / 101 % 1001) σ := ⟨_, rfl⟩
  have hl2 : LI ξ s2 τ ns nc nl := by rw [e2]; exact hl2
  have hs2 : StOk s2 i := by rw [e2]; exact hs2
  have r0 := rate_b (b := false) hs2
  have r1 := rate_b (b := true) hs2
  have f2 : ∀ f, f ≠ 10 → f ≠ 11 → s2 f = σ f := fun f h1 h2 => by rw [e2]; unfold wlS; rw [zu_n h2, zu_n h1]
  have g2 : GB (s2, τ) ns := gb_c g (f2 6 (by decide) (by decide)) (fun f _ => rfl)
  have o2' := hl2.1.1
  refine y_aload_n (pc := 166) C dL_step_166 3 rfl ?_
  refine y_iload (pc := 167) C dL_step_167 2 rfl ?_
  refine y_iload (pc := 169) C dL_step_169 8 rfl ?_
  refine y_bipush (pc := 171) (z := 101) C dL_step_171 (by decide) ?_
  refine y_irem (pc := 173) C dL_step_173 (by omega) (by omega) (by omega) (by omega) ?_
  refine y_iload (pc := 174) C dL_step_174 8 rfl ?_
  refine y_bipush (pc := 176) (z := 101) C dL_step_176 (by decide) ?_
  refine y_idivP (pc := 178) C dL_step_178 (by omega) (by omega) (by omega) (by omega) ?_
  refine y_sipush (pc := 179) (z := 1001) C dL_step_179 (by decide) ?_
  refine y_irem (pc := 182) C dL_step_182 (by omega) (by omega) (by omega) (by omega) ?_
  refine y_cg (pc := 183) (cs' := 2) (sl' := 12) (v := .int (iv (rateZ s2 i false))) (As := [_, _, _]) C E.2.1 cv_L_41 (fun hR' => mg_wells hl.1 (Nat.le_refl _) ((i : Nat) : Int) ⟨by omega, by omega⟩ (b % 101) ⟨by omega, by omega⟩ (b / 101 % 1001) ⟨by omega, by omega⟩) hK (fun q hq => by revert q; decide) (fun h q => ⟨_, q.gas⟩) (by rw [e2]; rfl) rfl rfl (Nat.le_of_ble_eq_true rfl) ⟨by decide, by decide, (by decide), (by decide)⟩ (by decide) (by decide) dL_step_183 ?_
  refine Y.imp (Φ' := FX X (InvC Ω lay ns ns nc nl ξ s2 τ)) (fun h hh => by rw [e2]; exact hh) ?_
  refine y_istore (pc := 186) (L' := [(9, _), (8, _), (7, _), (6, _), (0, _), (1, _), (2, _), (3, _), (4, _), (5, _)]) C dL_step_186 (by rw [hn]; decide) rfl ?_
  refine y_iload (pc := 188) C dL_step_188 0 rfl ?_
  refine y_if_lt (pc := 190) (tgt := 219) C dL_step_190 (by decide) (by omega) (by omega) (fun c => absurd c (by omega)) (fun c190 => ?_)
  refine y_iload (pc := 193) C dL_step_193 0 rfl ?_
  refine y_aload_n (pc := 195) C dL_step_195 4 rfl ?_
  refine y_iload (pc := 196) C dL_step_196 3 rfl ?_
  refine y_iconst (pc := 198) C dL_step_198 ?_
  refine y_cg (pc := 199) (cs' := 3) (sl' := 18) (v := .int (iv (rateZ s2 i false))) (As := [_, _]) C E.2.1 cv_L_44 (fun hR' => mg_rate hl2.1 (Nat.le_refl _) ((i : Nat) : Int) ⟨by omega, by omega⟩ false) (k_so o2' hi) (fun q hq => by revert q; decide) (fun h q => ⟨_, q.gas⟩) rfl rfl rfl (Nat.le_of_ble_eq_true rfl) ⟨by decide, by decide, (by decide), (by decide)⟩ (by decide) (by decide) dL_step_199 ?_
  refine y_icmp_ne (pc := 202) (tgt := 219) C dL_step_202 (by decide) (by omega) (by omega) (by omega) (by omega) (fun c => absurd c (fun z => z rfl)) (fun c202 => ?_)
  refine y_aload_n (pc := 205) C dL_step_205 4 rfl ?_
  refine y_iload (pc := 206) C dL_step_206 3 rfl ?_
  refine y_iconst (pc := 208) C dL_step_208 ?_
  refine y_cg (pc := 209) (cs' := 4) (sl' := 24) (v := .int (iv (rateZ s2 i true))) (As := [_, _]) C E.2.1 cv_L_44 (fun hR' => mg_rate hl2.1 (Nat.le_refl _) ((i : Nat) : Int) ⟨by omega, by omega⟩ true) (k_so o2' hi) (fun q hq => by revert q; decide) (fun h q => ⟨_, q.gas⟩) rfl rfl rfl (Nat.le_of_ble_eq_true rfl) ⟨by decide, by decide, (by decide), (by decide)⟩ (by decide) (by decide) dL_step_209 ?_
  refine y_if_lt (pc := 212) (tgt := 219) C dL_step_212 (by decide) (by omega) (by omega) (fun c => absurd c (by omega)) (fun c212 => ?_)
  refine y_iconst (pc := 215) C dL_step_215 ?_
  refine y_goto (pc := 216) (tgt := 220) C dL_step_216 (by decide) ?_
  exact y_zret (pc := 220) (b := true) C E dL_step_220 (by decide) (by decide) (fun h hh => ⟨rfl, LwSt.mk2 hl2 g2 hla hrg (by rw [f2 1 (by decide) (by decide)]) (f2 25 (by decide) (by decide)) (by rw [f2 15 (by decide) (by decide)]) hd hf d0 d1 d2 d3 d4 (by omega) hh⟩)

set_option maxRecDepth 20000 in
theorem sc_leak {Ω : OmT} {κ : KxT} {hR X : AH} {lay : Nat → Nat → Nat} {ξ : XiT} {σ : ZT} {τ : JT} {ns nc nl dA nA : Nat} {fd fn : Nat → Int32} {T w a b s6 s7 s8 : Int} (C : Cx Ω κ RL cL_step) (hn : kn κ = 29) (E : Ce Ω κ (some FieldType.boolean) (rkc 20 4200 26000) hR (RV (.int (iv 1)) (LwSt Ω (lay 0 0) dA nA (T + 24))) NX) (hT8 : 0 ≤ T ∧ T ≤ 8900) (ha : 0 ≤ a ∧ a < 2147483648) (hb : 0 ≤ b ∧ b < 2147483648) (hl : LI ξ σ τ ns nc nl) (g : GB (σ, τ) ns) (hla : LaO Ω lay) (hrg : RgOk fn σ) (hd : X dA = some (.inl (OmI Ω, 5, .inl fd))) (hf : X nA = some (.inl (OmI Ω, 48, .inl fn))) (d0 : fd 0 = iv ns) (d1 : fd 1 = iv nc) (d2 : fd 2 = iv nl) (d3 : fd 3 = iv (σ 1 0)) (d4 : fd 4 = iv (σ 15 0)) (hT : σ 1 0 ≤ T) {i : Nat} (hi : i < ns) : Y Ω κ (FX X (InvC Ω lay ns ns nc nl ξ σ τ)) hR 0 0 744 [(8, .int (iv s8)), (7, .int (iv s7)), (6, .int (iv (i : Nat))), (0, .ref (lay 0 0)), (1, .ref dA), (2, .ref nA), (3, .int (iv w)), (4, .int (iv a)), (5, .int (iv b))] [] := by
  have n5 := hl.1.2.1
  have n6 := hl.1.2.2.2.1
  have o2 := hl.1.1
  have o16 := hl.1.2.2.1
  have h10 := hl.1.2.2.2.2.2.1.2
  obtain ⟨u, hu⟩ : ∃ u : Int, u = (if b % 5 = 0 then b / 5 % 1001 else b / 5 % 20) := ⟨_, rfl⟩
  have u1 : 0 ≤ u ∧ u ≤ 1000 := by rw [hu]; split <;> omega
  have hK := lkK_0 (x := u) o2 hi u1
  have hl2 := li_leak hl hK
  obtain ⟨s2, e2⟩ : ∃ s2, s2 = zu σ 12 i u := ⟨_, rfl⟩
  have hl2 : LI ξ s2 τ ns nc nl := by rw [e2]; exact hl2
  have hK2 := lkK_0 (x := u) hl2.1.1 hi u1
  have hl3 := li_leak hl2 hK2
  obtain ⟨s3, e3⟩ : ∃ s3, s3 = zu s2 12 i u := ⟨_, rfl⟩
  have hl3 : LI ξ s3 τ ns nc nl := by rw [e3]; exact hl3
  have f3 : ∀ f, f ≠ 12 → s3 f = σ f := fun f h1 => by rw [e3, zu_n h1, e2, zu_n h1]
  have g3 : GB (s3, τ) ns := gb_c g (f3 6 (by decide)) (fun f _ => rfl)
  have hs := (hl.1.2.2.2.2.2.2.1 i hi).1
  unfold StO0 at hs
  refine y_aload_n (pc := 744) C dL_step_744 3 rfl ?_
  refine y_iload (pc := 745) C dL_step_745 2 rfl ?_
  refine y_joinI (pcj := 772) (P := fun v => v = u) (fun v1 hv1 => ?_) (fun J1 => ?_)
  · skip
    rw [hv1]
    refine y_cg (pc := 772) (cs' := 2) (sl' := 12) (v := .int (iv (σ 12 i))) (As := [_, _]) C E.2.1 cv_L_70 (fun hR' => mg_leak hl.1 (Nat.le_refl _) ((i : Nat) : Int) ⟨by omega, by omega⟩ u ⟨by omega, by omega⟩) hK (fun q hq => by revert q; decide) (fun h q => ⟨_, q.gas⟩) rfl rfl rfl (Nat.le_of_ble_eq_true rfl) ⟨by decide, by decide, (by decide), (by decide)⟩ (by decide) (by decide) dL_step_772 ?_
    refine Y.imp (Φ' := FX X (InvC Ω lay ns ns nc nl ξ s2 τ)) (fun h hh => by rw [e2]; exact hh) ?_
    refine y_istore (pc := 775) (L' := [(20, _), (8, _), (7, _), (6, _), (0, _), (1, _), (2, _), (3, _), (4, _), (5, _)]) C dL_step_775 (by rw [hn]; decide) rfl ?_
    refine y_iload (pc := 777) C dL_step_777 0 rfl ?_
    refine y_if_lt (pc := 779) (tgt := 845) C dL_step_779 (by decide) (by omega) (by omega) (fun c => absurd c (by omega)) (fun c779 => ?_)
    refine y_aload_n (pc := 782) C dL_step_782 4 rfl ?_
    refine y_iload (pc := 783) C dL_step_783 3 rfl ?_
    refine y_joinI (pcj := 810) (P := fun v => v = u) (fun v2 hv2 => ?_) (fun J2 => ?_)
    · skip
      rw [hv2]
      refine y_cg (pc := 810) (cs' := 4) (sl' := 24) (v := .int (iv u)) (As := [_, _]) C E.2.1 cv_L_70 (fun hR' => mg_leak hl2.1 (Nat.le_refl _) ((i : Nat) : Int) ⟨by omega, by omega⟩ u ⟨by omega, by omega⟩) hK2 (fun q hq => by revert q; decide) (fun h q => ⟨_, q.gas⟩) (congrArg (fun z => Value.int (iv z)) (show s2 12 i = u by rw [e2]; exact zu_s)) rfl rfl (Nat.le_of_ble_eq_true rfl) ⟨by decide, by decide, (by decide), (by decide)⟩ (by decide) (by decide) dL_step_810 ?_
      refine Y.imp (Φ' := FX X (InvC Ω lay ns ns nc nl ξ s3 τ)) (fun h hh => by rw [e3]; exact hh) ?_
      refine y_joinI (pcj := 838) (P := fun v => v = u) (fun v3 hv3 => ?_) (fun J3 => ?_)
      · skip
        rw [hv3]
        refine y_icmp_ne (pc := 838) (tgt := 845) C dL_step_838 (by decide) (by omega) (by omega) (by omega) (by omega) (fun c => absurd c (fun z => z rfl)) (fun c838 => ?_)
        refine y_iconst (pc := 841) C dL_step_841 ?_
        refine y_goto (pc := 842) (tgt := 846) C dL_step_842 (by decide) ?_
        exact y_zret (pc := 846) (b := true) C E dL_step_846 (by decide) (by decide) (fun h hh => ⟨rfl, LwSt.mk2 hl3 g3 hla hrg (by rw [f3 1 (by decide)]) (f3 25 (by decide)) (by rw [f3 15 (by decide)]) hd hf d0 d1 d2 d3 d4 (by omega) hh⟩)
      · skip
        refine y_iload (pc := 813) C dL_step_813 9 rfl ?_
        refine y_iconst (pc := 815) C dL_step_815 ?_
        refine y_irem (pc := 816) C dL_step_816 (by omega) (by omega) (by omega) (by omega) ?_
        refine y_if_ne (pc := 817) (tgt := 831) C dL_step_817 (by decide) (by omega) (by omega) (fun c817 => ?_) (fun c817 => ?_)
        · skip
          refine y_iload (pc := 831) C dL_step_831 9 rfl ?_
          refine y_iconst (pc := 833) C dL_step_833 ?_
          refine y_idivP (pc := 834) C dL_step_834 (by omega) (by omega) (by omega) (by omega) ?_
          refine y_bipush (pc := 835) (z := 20) C dL_step_835 (by decide) ?_
          refine y_irem (pc := 837) C dL_step_837 (by omega) (by omega) (by omega) (by omega) ?_
          exact J3 _ (by rw [hu, if_neg c817])
        · skip
          refine y_iload (pc := 820) C dL_step_820 9 rfl ?_
          refine y_iconst (pc := 822) C dL_step_822 ?_
          refine y_idivP (pc := 823) C dL_step_823 (by omega) (by omega) (by omega) (by omega) ?_
          refine y_sipush (pc := 824) (z := 1001) C dL_step_824 (by decide) ?_
          refine y_irem (pc := 827) C dL_step_827 (by omega) (by omega) (by omega) (by omega) ?_
          refine y_goto (pc := 828) (tgt := 838) C dL_step_828 (by decide) ?_
          exact J3 _ (by rw [hu, if_pos c817])
    · skip
      refine y_iload (pc := 785) C dL_step_785 9 rfl ?_
      refine y_iconst (pc := 787) C dL_step_787 ?_
      refine y_irem (pc := 788) C dL_step_788 (by omega) (by omega) (by omega) (by omega) ?_
      refine y_if_ne (pc := 789) (tgt := 803) C dL_step_789 (by decide) (by omega) (by omega) (fun c789 => ?_) (fun c789 => ?_)
      · skip
        refine y_iload (pc := 803) C dL_step_803 9 rfl ?_
        refine y_iconst (pc := 805) C dL_step_805 ?_
        refine y_idivP (pc := 806) C dL_step_806 (by omega) (by omega) (by omega) (by omega) ?_
        refine y_bipush (pc := 807) (z := 20) C dL_step_807 (by decide) ?_
        refine y_irem (pc := 809) C dL_step_809 (by omega) (by omega) (by omega) (by omega) ?_
        exact J2 _ (by rw [hu, if_neg c789])
      · skip
        refine y_iload (pc := 792) C dL_step_792 9 rfl ?_
        refine y_iconst (pc := 794) C dL_step_794 ?_
        refine y_idivP (pc := 795) C dL_step_795 (by omega) (by omega) (by omega) (by omega) ?_
        refine y_sipush (pc := 796) (z := 1001) C dL_step_796 (by decide) ?_
        refine y_irem (pc := 799) C dL_step_799 (by omega) (by omega) (by omega) (by omega) ?_
        refine y_goto (pc := 800) (tgt := 810) C dL_step_800 (by decide) ?_
        exact J2 _ (by rw [hu, if_pos c789])
  · skip
    refine y_iload (pc := 747) C dL_step_747 8 rfl ?_
    refine y_iconst (pc := 749) C dL_step_749 ?_
    refine y_irem (pc := 750) C dL_step_750 (by omega) (by omega) (by omega) (by omega) ?_
    refine y_if_ne (pc := 751) (tgt := 765) C dL_step_751 (by decide) (by omega) (by omega) (fun c751 => ?_) (fun c751 => ?_)
    · skip
      refine y_iload (pc := 765) C dL_step_765 8 rfl ?_
      refine y_iconst (pc := 767) C dL_step_767 ?_
      refine y_idivP (pc := 768) C dL_step_768 (by omega) (by omega) (by omega) (by omega) ?_
      refine y_bipush (pc := 769) (z := 20) C dL_step_769 (by decide) ?_
      refine y_irem (pc := 771) C dL_step_771 (by omega) (by omega) (by omega) (by omega) ?_
      exact J1 _ (by rw [hu, if_neg c751])
    · skip
      refine y_iload (pc := 754) C dL_step_754 8 rfl ?_
      refine y_iconst (pc := 756) C dL_step_756 ?_
      refine y_idivP (pc := 757) C dL_step_757 (by omega) (by omega) (by omega) (by omega) ?_
      refine y_sipush (pc := 758) (z := 1001) C dL_step_758 (by decide) ?_
      refine y_irem (pc := 761) C dL_step_761 (by omega) (by omega) (by omega) (by omega) ?_
      refine y_goto (pc := 762) (tgt := 772) C dL_step_762 (by decide) ?_
      exact J1 _ (by rw [hu, if_pos c751])

set_option maxRecDepth 20000 in
theorem sc_heat {Ω : OmT} {κ : KxT} {hR X : AH} {lay : Nat → Nat → Nat} {ξ : XiT} {σ : ZT} {τ : JT} {ns nc nl dA nA : Nat} {fd fn : Nat → Int32} {T w a b s6 s7 s8 : Int} (C : Cx Ω κ RL cL_step) (hn : kn κ = 29) (E : Ce Ω κ (some FieldType.boolean) (rkc 20 4200 26000) hR (RV (.int (iv 1)) (LwSt Ω (lay 0 0) dA nA (T + 24))) NX) (hT8 : 0 ≤ T ∧ T ≤ 8900) (ha : 0 ≤ a ∧ a < 2147483648) (hb : 0 ≤ b ∧ b < 2147483648) (hl : LI ξ σ τ ns nc nl) (g : GB (σ, τ) ns) (hla : LaO Ω lay) (hrg : RgOk fn σ) (hd : X dA = some (.inl (OmI Ω, 5, .inl fd))) (hf : X nA = some (.inl (OmI Ω, 48, .inl fn))) (d0 : fd 0 = iv ns) (d1 : fd 1 = iv nc) (d2 : fd 2 = iv nl) (d3 : fd 3 = iv (σ 1 0)) (d4 : fd 4 = iv (σ 15 0)) (hT : σ 1 0 ≤ T) : Y Ω κ (FX X (InvC Ω lay ns ns nc nl ξ σ τ)) hR 0 0 847 [(8, .int (iv s8)), (7, .int (iv s7)), (6, .int (iv s6)), (0, .ref (lay 0 0)), (1, .ref dA), (2, .ref nA), (3, .int (iv w)), (4, .int (iv a)), (5, .int (iv b))] [] := by
  have n5 := hl.1.2.1
  have n6 := hl.1.2.2.2.1
  have o2 := hl.1.1
  have o16 := hl.1.2.2.1
  have h10 := hl.1.2.2.2.2.2.1.2
  obtain ⟨u, hu⟩ : ∃ u : Int, u = b % 20001 := ⟨_, rfl⟩
  have u1 : 0 ≤ u ∧ u ≤ 20000 := by omega
  have hK := htK_0 u1
  have h15 := hl.1.2.2.2.2.2.2.2.2.2.2
  obtain ⟨s2, e2⟩ : ∃ s2, s2 = zu σ 15 0 u := ⟨_, rfl⟩
  have hl2 : LI ξ s2 τ ns nc nl := by rw [e2]; exact li_heat hl hK
  have f2 : ∀ f, f ≠ 15 → s2 f = σ f := fun f h1 => by rw [e2, zu_n h1]
  have g2 : GB (s2, τ) ns := gb_c g (f2 6 (by decide)) (fun f _ => rfl)
  have x0 : hset X dA (.inl (OmI Ω, 5, .inl (upd fd 4 (iv u)))) dA = some (.inl (OmI Ω, 5, .inl (upd fd 4 (iv u)))) := hset_s
  have x1 : hset X dA (.inl (OmI Ω, 5, .inl (upd fd 4 (iv u)))) nA = some (.inl (OmI Ω, 48, .inl fn)) := (hset_n (ne_dn hf hd (by decide))).trans hf
  refine y_aload_n (pc := 847) C dL_step_847 3 rfl ?_
  refine y_iload (pc := 848) C dL_step_848 8 rfl ?_
  refine y_sipush (pc := 850) (z := 20001) C dL_step_850 (by decide) ?_
  refine y_irem (pc := 853) C dL_step_853 (by omega) (by omega) (by omega) (by omega) ?_
  rw [← hu]
  refine y_cg (pc := 854) (cs' := 1) (sl' := 6) (v := .int (iv (σ 15 0))) (As := [_]) C E.2.1 cv_L_73 (fun hR' => mg_heat hl.1 (Nat.le_refl _) u ⟨by omega, by omega⟩) hK (fun q hq => by revert q; decide) (fun h q => ⟨_, q.gas⟩) rfl rfl rfl (Nat.le_of_ble_eq_true rfl) ⟨by decide, by decide, (by decide), (by decide)⟩ (by decide) (by decide) dL_step_854 ?_
  refine Y.imp (Φ' := FX X (InvC Ω lay ns ns nc nl ξ s2 τ)) (fun h hh => by rw [e2]; exact hh) ?_
  refine y_istore (pc := 857) (L' := [(21, _), (8, _), (7, _), (6, _), (0, _), (1, _), (2, _), (3, _), (4, _), (5, _)]) C dL_step_857 (by rw [hn]; decide) rfl ?_
  refine y_iload (pc := 859) C dL_step_859 0 rfl ?_
  refine y_aload_n (pc := 861) C dL_step_861 5 rfl ?_
  refine y_iconst (pc := 862) C dL_step_862 ?_
  refine y_xald (pc := 863) (v := (σ 15 0)) C 4 hd rfl (by decide) (by decide) d4 dL_step_863 ?_
  refine y_icmp_ne (pc := 864) (tgt := 871) C dL_step_864 (by decide) (by omega) (by omega) (by omega) (by omega) (fun c => absurd c (fun z => z rfl)) (fun c864 => ?_)
  refine y_iconst (pc := 867) C dL_step_867 ?_
  refine y_goto (pc := 868) (tgt := 872) C dL_step_868 (by decide) ?_
  refine y_istore (pc := 872) (L' := [(22, _), (21, _), (8, _), (7, _), (6, _), (0, _), (1, _), (2, _), (3, _), (4, _), (5, _)]) C dL_step_872 (by rw [hn]; decide) rfl ?_
  refine y_aload_n (pc := 874) C dL_step_874 6 rfl ?_
  refine y_iconst (pc := 875) C dL_step_875 ?_
  refine y_iload (pc := 876) C dL_step_876 10 rfl ?_
  refine y_sipush (pc := 878) (z := 20001) C dL_step_878 (by decide) ?_
  refine y_irem (pc := 881) C dL_step_881 (by omega) (by omega) (by omega) (by omega) ?_
  rw [← hu]
  refine y_xast (pc := 882) C 4 hd rfl (by decide) (by decide) dL_step_882 ?_
  refine y_iload (pc := 883) C dL_step_883 0 rfl ?_
  exact y_zret (pc := 885) (b := true) C E dL_step_885 (by decide) (by decide) (fun h hh => ⟨rfl, LwSt.mk hl2 g2 hla (rg_c hrg (by rw [f2 1 (by decide)]) (f2 25 (by decide))) rfl x0 x1 d0 d1 d2 (by rw [f2 1 (by decide)]; exact d3) (by rw [e2, zu_s]; rfl) (by rw [f2 1 (by decide)]; omega) hh⟩)

set_option maxRecDepth 20000 in
theorem sc_price {Ω : OmT} {κ : KxT} {hR X : AH} {lay : Nat → Nat → Nat} {ξ : XiT} {σ : ZT} {τ : JT} {ns nc nl dA nA : Nat} {fd fn : Nat → Int32} {T w a b s6 s7 s8 : Int} (C : Cx Ω κ RL cL_step) (hn : kn κ = 29) (E : Ce Ω κ (some FieldType.boolean) (rkc 20 4200 26000) hR (RV (.int (iv 1)) (LwSt Ω (lay 0 0) dA nA (T + 24))) NX) (hT8 : 0 ≤ T ∧ T ≤ 8900) (ha : 0 ≤ a ∧ a < 2147483648) (hb : 0 ≤ b ∧ b < 2147483648) (hl : LI ξ σ τ ns nc nl) (g : GB (σ, τ) ns) (hla : LaO Ω lay) (hrg : RgOk fn σ) (hd : X dA = some (.inl (OmI Ω, 5, .inl fd))) (hf : X nA = some (.inl (OmI Ω, 48, .inl fn))) (d0 : fd 0 = iv ns) (d1 : fd 1 = iv nc) (d2 : fd 2 = iv nl) (d3 : fd 3 = iv (σ 1 0)) (d4 : fd 4 = iv (σ 15 0)) (hT : σ 1 0 ≤ T) : Y Ω κ (FX X (InvC Ω lay ns ns nc nl ξ σ τ)) hR 0 0 685 [(8, .int (iv s8)), (7, .int (iv s7)), (6, .int (iv s6)), (0, .ref (lay 0 0)), (1, .ref dA), (2, .ref nA), (3, .int (iv w)), (4, .int (iv a)), (5, .int (iv b))] [] := by
  have n5 := hl.1.2.1
  have n6 := hl.1.2.2.2.1
  have o2 := hl.1.1
  have o16 := hl.1.2.2.1
  have h10 := hl.1.2.2.2.2.2.1.2
  obtain ⟨u, hu⟩ : ∃ u : Int, u = b % 2001 - 1000 := ⟨_, rfl⟩
  have u1 : -1000 ≤ u ∧ u ≤ 1000 := by omega
  obtain ⟨t, ht⟩ : ∃ t : Nat, σ 1 0 + a % 61 = (t : Int) := ⟨(σ 1 0 + a % 61).toNat, by omega⟩
  have hK := prK_0 (σ := σ) (t := (t : Int)) (u := u) (by omega) u1
  have hl2 := li_price hl hK
  obtain ⟨s2, e2⟩ : ∃ s2, s2 = zu σ 26 (t % 64) u := ⟨_, rfl⟩
  obtain ⟨ξ2, x2⟩ : ∃ ξ2 : XiT, ξ2 = (fun j => if j = t % 64 then u else ξ.1 j, ξ.2) := ⟨_, rfl⟩
  have hl2 : LI ξ2 s2 τ ns nc nl := by rw [e2, x2]; exact hl2
  have f2 : ∀ f, f ≠ 26 → s2 f = σ f := fun f h1 => by rw [e2, zu_n h1]
  have hK2 := prK_0 (σ := s2) (t := (t : Int)) (u := u) (by rw [f2 1 (by decide)]; omega) u1
  have hl3 := li_price hl2 hK2
  obtain ⟨s3, e3⟩ : ∃ s3, s3 = zu s2 26 (t % 64) u := ⟨_, rfl⟩
  obtain ⟨ξ3, x3⟩ : ∃ ξ3 : XiT, ξ3 = (fun j => if j = t % 64 then u else ξ2.1 j, ξ2.2) := ⟨_, rfl⟩
  have hl3 : LI ξ3 s3 τ ns nc nl := by rw [e3, x3]; exact hl3
  have f3 : ∀ f, f ≠ 26 → s3 f = σ f := fun f h1 => by rw [e3, zu_n h1]; exact f2 f h1
  have g3 : GB (s3, τ) ns := gb_c g (f3 6 (by decide)) (fun f _ => rfl)
  have p1 := hl.2.1 (t % 64) (Nat.mod_lt _ (by decide))
  rw [← hl.2.2.2.2 (t % 64)] at p1
  refine y_iload (pc := 685) C dL_step_685 8 rfl ?_
  refine y_sipush (pc := 687) (z := 2001) C dL_step_687 (by decide) ?_
  refine y_irem (pc := 690) C dL_step_690 (by omega) (by omega) (by omega) (by omega) ?_
  refine y_sipush (pc := 691) (z := 1000) C dL_step_691 (by decide) ?_
  refine y_isub (pc := 694) C dL_step_694 ?_
  refine y_istore (pc := 695) (L' := [(19, _), (8, _), (7, _), (6, _), (0, _), (1, _), (2, _), (3, _), (4, _), (5, _)]) C dL_step_695 (by rw [hn]; decide) rfl ?_
  rw [← hu]
  refine y_aload_n (pc := 697) C dL_step_697 4 rfl ?_
  refine y_aload_n (pc := 698) C dL_step_698 5 rfl ?_
  refine y_iconst (pc := 699) C dL_step_699 ?_
  refine y_xald (pc := 700) (v := (σ 1 0)) C 3 hd rfl (by decide) (by decide) d3 dL_step_700 ?_
  refine y_iload (pc := 701) C dL_step_701 8 rfl ?_
  refine y_bipush (pc := 703) (z := 61) C dL_step_703 (by decide) ?_
  refine y_irem (pc := 705) C dL_step_705 (by omega) (by omega) (by omega) (by omega) ?_
  refine y_iadd (pc := 706) C dL_step_706 ?_
  rw [ht]
  refine y_iload (pc := 707) C dL_step_707 0 rfl ?_
  refine y_cg (pc := 709) (cs' := 1) (sl' := 6) (v := .int (iv (ξ.1 (t % 64)))) (As := [_, _]) C E.2.1 cv_L_67 (fun hR' => mg_price hl.1 (Nat.le_refl _) ((t : Nat) : Int) ⟨by omega, by omega⟩ u ⟨by omega, by omega⟩) hK (fun q hq => by revert q; decide) (fun h q => ⟨_, q.gas⟩) rfl rfl rfl (Nat.le_of_ble_eq_true rfl) ⟨by decide, by decide, (by decide), (by decide)⟩ (by decide) (by decide) dL_step_709 ?_
  refine Y.imp (Φ' := FX X (InvC Ω lay ns ns nc nl ξ2 s2 τ)) (fun h hh => FX.imp (fun h q => by rw [x2]; exact InvC.c q (fun f hf => f2 f (fun e => hf (by rw [e]; decide))) (fun c hc => by rw [f2 36 (by decide), f2 37 (by decide)]) (fun f => rfl)) hh) ?_
  refine y_sipush (pc := 712) (z := (-1000)) C dL_step_712 (by decide) ?_
  refine y_icmp_lt (pc := 715) (tgt := 742) C dL_step_715 (by decide) (by omega) (by omega) (by omega) (by omega) (fun c => absurd c (by omega)) (fun c715 => ?_)
  refine y_aload_n (pc := 718) C dL_step_718 4 rfl ?_
  refine y_aload_n (pc := 719) C dL_step_719 5 rfl ?_
  refine y_iconst (pc := 720) C dL_step_720 ?_
  refine y_xald (pc := 721) (v := (σ 1 0)) C 3 hd rfl (by decide) (by decide) d3 dL_step_721 ?_
  refine y_iload (pc := 722) C dL_step_722 8 rfl ?_
  refine y_bipush (pc := 724) (z := 61) C dL_step_724 (by decide) ?_
  refine y_irem (pc := 726) C dL_step_726 (by omega) (by omega) (by omega) (by omega) ?_
  refine y_iadd (pc := 727) C dL_step_727 ?_
  rw [ht]
  refine y_iload (pc := 728) C dL_step_728 0 rfl ?_
  refine y_cg (pc := 730) (cs' := 2) (sl' := 12) (v := .int (iv u)) (As := [_, _]) C E.2.1 cv_L_67 (fun hR' => mg_price hl2.1 (Nat.le_refl _) ((t : Nat) : Int) ⟨by omega, by omega⟩ u ⟨by omega, by omega⟩) hK2 (fun q hq => by revert q; decide) (fun h q => ⟨_, q.gas⟩) (congrArg (fun z => Value.int (iv z)) (show ξ2.1 (t % 64) = u by rw [x2]; exact if_pos rfl)) rfl rfl (Nat.le_of_ble_eq_true rfl) ⟨by decide, by decide, (by decide), (by decide)⟩ (by decide) (by decide) dL_step_730 ?_
  refine Y.imp (Φ' := FX X (InvC Ω lay ns ns nc nl ξ3 s3 τ)) (fun h hh => FX.imp (fun h q => by rw [x3]; exact InvC.c q (fun f hf => by rw [e3, zu_n (fun e => hf (by rw [e]; decide))]) (fun c hc => by rw [e3, zu_n (by decide), zu_n (by decide)]) (fun f => rfl)) hh) ?_
  refine y_iload (pc := 733) C dL_step_733 0 rfl ?_
  refine y_icmp_ne (pc := 735) (tgt := 742) C dL_step_735 (by decide) (by omega) (by omega) (by omega) (by omega) (fun c => absurd c (fun z => z rfl)) (fun c735 => ?_)
  refine y_iconst (pc := 738) C dL_step_738 ?_
  refine y_goto (pc := 739) (tgt := 743) C dL_step_739 (by decide) ?_
  exact y_zret (pc := 743) (b := true) C E dL_step_743 (by decide) (by decide) (fun h hh => ⟨rfl, LwSt.mk2 hl3 g3 hla hrg (by rw [f3 1 (by decide)]) (f3 25 (by decide)) (by rw [f3 15 (by decide)]) hd hf d0 d1 d2 d3 d4 (by omega) hh⟩)

set_option maxRecDepth 20000 in
theorem sc_worth {Ω : OmT} {κ : KxT} {hR X : AH} {lay : Nat → Nat → Nat} {ξ : XiT} {σ : ZT} {τ : JT} {ns nc nl dA nA : Nat} {fd fn : Nat → Int32} {T w a b s6 s7 s8 : Int} (C : Cx Ω κ RL cL_step) (hn : kn κ = 29) (E : Ce Ω κ (some FieldType.boolean) (rkc 20 4200 26000) hR (RV (.int (iv 1)) (LwSt Ω (lay 0 0) dA nA (T + 24))) NX) (hT8 : 0 ≤ T ∧ T ≤ 8900) (ha : 0 ≤ a ∧ a < 2147483648) (hb : 0 ≤ b ∧ b < 2147483648) (hl : LI ξ σ τ ns nc nl) (g : GB (σ, τ) ns) (hla : LaO Ω lay) (hrg : RgOk fn σ) (hd : X dA = some (.inl (OmI Ω, 5, .inl fd))) (hf : X nA = some (.inl (OmI Ω, 48, .inl fn))) (d0 : fd 0 = iv ns) (d1 : fd 1 = iv nc) (d2 : fd 2 = iv nl) (d3 : fd 3 = iv (σ 1 0)) (d4 : fd 4 = iv (σ 15 0)) (hT : σ 1 0 ≤ T) {k : Nat} (hk : k < nc) : Y Ω κ (FX X (InvC Ω lay ns ns nc nl ξ σ τ)) hR 0 0 977 [(8, .int (iv s8)), (7, .int (iv (k : Nat))), (6, .int (iv s6)), (0, .ref (lay 0 0)), (1, .ref dA), (2, .ref nA), (3, .int (iv w)), (4, .int (iv a)), (5, .int (iv b))] [] := by
  have n5 := hl.1.2.1
  have n6 := hl.1.2.2.2.1
  have o2 := hl.1.1
  have o16 := hl.1.2.2.1
  have h10 := hl.1.2.2.2.2.2.1.2
  obtain ⟨t, ht⟩ : ∃ t : Nat, 1 + b % 3 = (t : Int) := ⟨(1 + b % 3).toNat, by omega⟩
  have hcu := hl.1.2.2.2.2.2.2.2.1 k hk
  have b1 := best_b (t := t) (n := 3 ^ t) hcu hl.2.1 (by omega)
  have b2 := best_b (t := t + 1) (n := 3 ^ (t + 1)) hcu hl.2.1 (by omega)
  have bm := bestN_mo (t := t) hcu
  obtain ⟨B, hB⟩ : ∃ B, B = bestN σ k t (3 ^ t) := ⟨_, rfl⟩
  obtain ⟨B2, hB2⟩ : ∃ B2, B2 = bestN σ k (t + 1) (3 ^ (t + 1)) := ⟨_, rfl⟩
  rw [← hB] at b1 bm
  rw [← hB2] at b2 bm
  refine y_iconst (pc := 977) C dL_step_977 ?_
  refine y_iload (pc := 978) C dL_step_978 8 rfl ?_
  refine y_iconst (pc := 980) C dL_step_980 ?_
  refine y_irem (pc := 981) C dL_step_981 (by omega) (by omega) (by omega) (by omega) ?_
  refine y_iadd (pc := 982) C dL_step_982 ?_
  rw [ht]
  refine y_istore (pc := 983) (L' := [(26, _), (8, _), (7, _), (6, _), (0, _), (1, _), (2, _), (3, _), (4, _), (5, _)]) C dL_step_983 (by rw [hn]; decide) rfl ?_
  refine y_aload_n (pc := 985) C dL_step_985 4 rfl ?_
  refine y_iload (pc := 986) C dL_step_986 2 rfl ?_
  refine y_iload (pc := 988) C dL_step_988 0 rfl ?_
  refine y_cg (pc := 990) (cs' := 2) (sl' := 12) (v := .long (jv B)) (As := [_, _]) C E.2.1 cv_L_84 (fun hR' => mg_worth hl.1 (Nat.le_refl _) ((k : Nat) : Int) ⟨by omega, by omega⟩ ((t : Nat) : Int) ⟨by omega, by omega⟩ hl.2.1 hl.2.2.2.2) (woK_0 o16 hk (by omega)) (fun q hq => by revert q; decide) (fun h q => ⟨_, q.gas⟩) (congrArg (fun z => Value.long (jv z)) hB.symm) rfl rfl (Nat.le_of_ble_eq_true rfl) ⟨by decide, by decide, (by decide), (by decide)⟩ (by decide) (by decide) dL_step_990 ?_
  refine y_lstore (pc := 993) (L' := [(27, _), (26, _), (8, _), (7, _), (6, _), (0, _), (1, _), (2, _), (3, _), (4, _), (5, _)]) C dL_step_993 (by rw [hn]; decide) rfl ?_
  refine y_lload (pc := 995) C dL_step_995 0 rfl ?_
  refine y_lconst (pc := 997) (z := 0) C dL_step_997 (by decide) ?_
  refine y_lcmp_lt (pc := 998) (tgt := 1036) C dL_step_998 dL_step_999 (by decide) (by omega) (by omega) (by omega) (by omega) (fun c => absurd c (by omega)) (fun c998 => ?_)
  refine y_lload (pc := 1002) C dL_step_1002 0 rfl ?_
  refine y_aload_n (pc := 1004) C dL_step_1004 5 rfl ?_
  refine y_iload (pc := 1005) C dL_step_1005 3 rfl ?_
  refine y_iload (pc := 1007) C dL_step_1007 1 rfl ?_
  refine y_cg (pc := 1009) (cs' := 4) (sl' := 24) (v := .long (jv B)) (As := [_, _]) C E.2.1 cv_L_87 (fun hR' => mg_worthAnew hl.1 (Nat.le_refl _) ((k : Nat) : Int) ⟨by omega, by omega⟩ ((t : Nat) : Int) ⟨by omega, by omega⟩ hl.2.1 hl.2.2.2.2) (woK_0 o16 hk (by omega)) (fun q hq => by revert q; decide) (fun h q => ⟨_, q.gas⟩) (congrArg (fun z => Value.long (jv z)) hB.symm) rfl rfl (Nat.le_of_ble_eq_true rfl) ⟨by decide, by decide, (by decide), (by decide)⟩ (by decide) (by decide) dL_step_1009 ?_
  refine y_lcmpE (pc := 1012) C dL_step_1012 ?_
  refine y_if_ne (tgt := 1036) C dL_step_1013 (by decide) (by decide) (by decide) (fun c => absurd rfl c) (fun _ => ?_)
  refine y_lload (pc := 1016) C dL_step_1016 0 rfl ?_
  refine y_aload_n (pc := 1018) C dL_step_1018 5 rfl ?_
  refine y_iload (pc := 1019) C dL_step_1019 3 rfl ?_
  refine y_iload (pc := 1021) C dL_step_1021 1 rfl ?_
  refine y_iconst (pc := 1023) C dL_step_1023 ?_
  refine y_iadd (pc := 1024) C dL_step_1024 ?_
  rw [show ((t : Nat) : Int) + 1 = ((t + 1 : Nat) : Int) by omega]
  refine y_cg (pc := 1025) (cs' := 6) (sl' := 36) (v := .long (jv B2)) (As := [_, _]) C E.2.1 cv_L_84 (fun hR' => mg_worth hl.1 (Nat.le_refl _) ((k : Nat) : Int) ⟨by omega, by omega⟩ ((t + 1 : Nat) : Int) ⟨by omega, by omega⟩ hl.2.1 hl.2.2.2.2) (woK_0 o16 hk (by omega)) (fun q hq => by revert q; decide) (fun h q => ⟨_, q.gas⟩) (congrArg (fun z => Value.long (jv z)) hB2.symm) rfl rfl (Nat.le_of_ble_eq_true rfl) ⟨by decide, by decide, (by decide), (by decide)⟩ (by decide) (by decide) dL_step_1025 ?_
  refine y_lcmp_gt (pc := 1028) (tgt := 1036) C dL_step_1028 dL_step_1029 (by decide) (by omega) (by omega) (by omega) (by omega) (fun c => absurd c (by omega)) (fun c1028 => ?_)
  refine y_iconst (pc := 1032) C dL_step_1032 ?_
  refine y_goto (pc := 1033) (tgt := 1037) C dL_step_1033 (by decide) ?_
  exact y_zret (pc := 1037) (b := true) C E dL_step_1037 (by decide) (by decide) (fun h hh => ⟨rfl, LwSt.mk hl g hla hrg rfl hd hf d0 d1 d2 d3 d4 (by omega) hh⟩)
