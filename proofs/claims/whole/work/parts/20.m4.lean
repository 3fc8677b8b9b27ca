set_option maxRecDepth 20000 in
theorem mt_goesBy {Ω : OmT} {hR : AH} {M : Nat} {ma : Nat → Nat} {σ : ZT} {τ : JT} (ns nc nl : Nat) (hwf : Wf σ ns nc nl) (hb : σ 1 0 < 10000) : Ct Ω yX5_goesBy cX5_goesBy 3 none (rk 6) [.ref M] (InvM Ω M ma σ τ) hR (RU (InvM Ω M ma (hourP ns nc nl (σ, τ)).1 (hourP ns nc nl (σ, τ)).2)) NX := by
  refine Ct.of (own := RX5) (L := [(0, _)]) (by decide +kernel) rfl (Nat.le_of_ble_eq_true rfl) rfl ?_
  intro κ C hn E hi
  obtain ⟨l, hl⟩ : ∃ l, l = laysZ σ nc nl ns := ⟨_, rfl⟩
  obtain ⟨x, hx⟩ : ∃ x, x = netZ l nc := ⟨_, rfl⟩
  have hwl : Wf l ns nc nl := by rw [hl]; exact wf_lays hwf
  have hpl : PlOk l nc := by rw [hl]; exact laysZ_ok hwf.2.2.2.2.2.2.2.1
  have hps := pl_sums hpl hwf.2.2.2.1
  have hxb : -600000 ≤ x ∧ x ≤ 600000 := by rw [hx]; unfold netZ; omega
  obtain ⟨P, hP⟩ : ∃ P, P = flowsP x ns (l, τ) := ⟨_, rfl⟩
  have hwP : Wf P.1 ns nc nl := by rw [hP]; exact wf_flows hwl
  have hpP : PlOk P.1 nc := by intro c hc; rw [hP, flowsP_f (f := 36) (by omega) (by omega), flowsP_f (f := 37) (by omega) (by omega), flowsP_f (f := 38) (by omega) (by omega), flowsP_f (f := 39) (by omega) (by omega)]; exact hpl c hc
  have hsP : ∀ c, c < nc → 0 ≤ P.1 36 c ∧ 0 ≤ P.1 37 c ∧ P.1 36 c ≤ P.1 17 c - P.1 21 c ∧ P.1 37 c ≤ P.1 21 c := by rw [hP, hl]; exact lays_set hwf
  obtain ⟨A, hA⟩ : ∃ A, A = setN P nc := ⟨_, rfl⟩
  have hwA : Wf A.1 ns nc nl := by rw [hA]; exact wf_set hwP (Nat.le_refl _) hsP
  have e1P : P.1 1 0 = σ 1 0 := by rw [hP, flowsP_f (by omega) (by omega)]; show l 1 0 = _; rw [hl, laysZ_f (by omega)]
  have e1A : A.1 1 0 = σ 1 0 := by rw [hA, setN_f (by omega) (by omega)]; exact e1P
  obtain ⟨B, hB⟩ : ∃ B, B = (flgZ x A.1, A.2) := ⟨_, rfl⟩
  have hwB : Wf B.1 ns nc nl := by rw [hB]; exact wf_flg hwA
  have e1B : B.1 1 0 = σ 1 0 := by rw [hB]; show flgZ x A.1 1 0 = _; rw [flg_f (by decide)]; exact e1A
  obtain ⟨D, hD⟩ : ∃ D, D = leakN B ns := ⟨_, rfl⟩
  have hwD : Wf D.1 ns nc nl := by rw [hD]; exact wf_leak hwB
  have e1D : D.1 1 0 = σ 1 0 := by rw [hD, leakN_f (by omega)]; exact e1B
  obtain ⟨T, hT⟩ : ∃ T, T = tickP D := ⟨_, rfl⟩
  have hwT : Wf T.1 ns nc nl := by rw [hT]; exact wf_tick hwD (by rw [e1D]; exact hb)
  have hfin := hourP_e (p := (σ, τ)) hl hx (hA.trans (by rw [hP])) (hT.trans (by rw [hD, hB]))
  have hn0 := hwf.2.2.2.2.2.1.2
  have hs2 := hwf.2.1
  have hc2 := hwf.2.2.2.1
  have e1T : T.1 1 0 = σ 1 0 + 1 := by rw [hT, ← e1D]; exact zu_s (σ := D.1) (f := 1) (i := 0)
  refine y_aload_n (pc := 0) C dX5_goesBy_0 0 rfl ?_
  refine y_callVv (pc := 1) (As := []) C E.2.1 cv_X5_217 (ci := 6) rfl rfl (mt_lays ns nc nl hwf) (fun h hh => ⟨_, hh.1⟩) rfl rfl (Nat.le_of_ble_eq_true rfl) ⟨by decide, by decide, by decide, by decide⟩ dX5_goesBy_1 ⟨rfl, rfl⟩ ?_
  rw [← hl]
  refine y_aload_n (pc := 4) C dX5_goesBy_4 0 rfl ?_
  refine y_iconst (pc := 5) C dX5_goesBy_5 ?_
  refine y_callV (pc := 6) (As := [_]) C E.2.1 cv_X5_187 (ci := 6) rfl rfl (mt_sum _ true hwl.2.2.1 hc2) (fun h hh => ⟨_, hh.1⟩) rfl rfl (Nat.le_of_ble_eq_true rfl) ⟨by decide, by decide, by decide, by decide⟩ dX5_goesBy_6 ⟨rfl, rfl⟩ ?_
  show Y Ω κ _ hR _ _ _ _ (.int (iv (sumZ (l 36) nc)) :: _)
  refine y_aload_n (pc := 9) C dX5_goesBy_9 0 rfl ?_
  refine y_iconst (pc := 10) C dX5_goesBy_10 ?_
  refine y_callV (pc := 11) (As := [_]) C E.2.1 cv_X5_187 (ci := 6) rfl rfl (mt_sum _ false hwl.2.2.1 hc2) (fun h hh => ⟨_, hh.1⟩) rfl rfl (Nat.le_of_ble_eq_true rfl) ⟨by decide, by decide, by decide, by decide⟩ dX5_goesBy_11 ⟨rfl, rfl⟩ ?_
  show Y Ω κ _ hR _ _ _ _ (.int (iv (sumZ (l 37) nc)) :: _)
  refine y_isub (pc := 14) C dX5_goesBy_14 ?_
  show Y Ω κ _ hR _ _ _ _ (.int (iv (netZ l nc)) :: _)
  rw [← hx]
  refine y_istore_n (pc := 15) (L' := [(1, _), (0, _)]) C dX5_goesBy_15 (by rw [hn]; decide) rfl ?_
  refine y_aload_n (pc := 16) C dX5_goesBy_16 1 rfl ?_
  refine y_iload_n (pc := 17) C dX5_goesBy_17 0 rfl ?_
  refine y_callVv (pc := 18) (As := [_]) C E.2.1 cv_X5_220 (ci := 6) rfl rfl (mt_flows ns nc nl hwl x hxb) (fun h hh => ⟨_, hh.1⟩) rfl rfl (Nat.le_of_ble_eq_true rfl) ⟨by decide, by decide, by decide, by decide⟩ dX5_goesBy_18 ⟨rfl, rfl⟩ ?_
  rw [← hP]
  refine y_iconst (pc := 21) C dX5_goesBy_21 ?_
  refine y_istore_n (pc := 22) (L' := [(2, _), (1, _), (0, _)]) C dX5_goesBy_22 (by rw [hn]; decide) rfl ?_
  have LP1 : ∀ (m1 : Nat) (i : Nat) (z : Int) (w : ZT) (v : JT), (k1 : nc + 1 ≤ i + m1) → (k2 : i ≤ nc) → (hz : z = i) → (hw : (w, v) = setN P i) → Y Ω κ (InvM Ω M ma w v) hR 0 0 23 [(2, .int (iv z)), (1, .int (iv x)), (0, .ref M)] [] := by
    intro m1
    induction m1 with
    | zero => intro i z w v k1 k2 hz hw; exfalso; omega
    | succ m1 ih1 =>
      intro i z w v k1 k2 hz hw
      have hws : Wf w ns nc nl := by have q := wf_set (n := i) hwP k2 hsP; rw [← hw] at q; exact q
      have e16 := hws.2.2.1
      have hn9 := hws.2.2.2.2.2.1.2
      refine y_iload_n (pc := 23) C dX5_goesBy_23 0 rfl ?_
      refine y_aload_n (pc := 24) C dX5_goesBy_24 2 rfl ?_
      refine y_get (pc := 25) C fg_X5_112 dX5_goesBy_25 (fun h hh => ⟨_, hh.1, rfl⟩) ?_
      refine y_icmp_ge (pc := 28) (tgt := 125) C dX5_goesBy_28 (by decide) (by omega) (by omega) (by omega) (by omega) (fun c28 => ?_) (fun c28 => ?_)
      · skip
        have ei : i = nc := by omega
        have eA : (w, v) = A := by rw [hA, ← ei]; exact hw
        have eA1 : w = A.1 := by rw [← eA]
        have eA2 : v = A.2 := by rw [← eA]
        rw [eA1, eA2]
        have hn9 := hwA.2.2.2.2.2.1.2
        refine y_aload_n (pc := 125) C dX5_goesBy_125 2 rfl ?_
        refine y_get (pc := 126) C fg_X5_78 dX5_goesBy_126 (fun h hh => ⟨_, hh.1, rfl⟩) ?_
        refine y_aload_n (pc := 129) C dX5_goesBy_129 2 rfl ?_
        refine y_get (pc := 130) C fg_X5_151 dX5_goesBy_130 (fun h hh => ⟨_, hh.1, rfl⟩) ?_
        refine y_bipush (pc := 133) (z := 64) C dX5_goesBy_133 (by decide) ?_
        refine y_irem (pc := 135) C dX5_goesBy_135 (by omega) (by omega) (by omega) (by omega) ?_
        refine y_iconst (pc := 136) C dX5_goesBy_136 ?_
        refine m_iast (pc := 137) C 26 (nowN A.1 % 64) rfl (by unfold nowN; omega) (by show _ < 64; omega) dX5_goesBy_137 ?_
        refine y_aload_n (pc := 138) C dX5_goesBy_138 2 rfl ?_
        refine y_aload_n (pc := 139) C dX5_goesBy_139 2 rfl ?_
        refine y_get (pc := 140) C fg_X5_169 dX5_goesBy_140 (fun h hh => ⟨_, hh.1, rfl⟩) ?_
        refine m_putI (pc := 143) C 32 rfl fp_X5_172 dX5_goesBy_143 ?_
        refine y_aload_n (pc := 146) C dX5_goesBy_146 2 rfl ?_
        refine y_joinI (pcj := 164) (P := fun q => q = sgnZ x) (fun v2 hv2 => ?_) (fun J2 => ?_)
        · skip
          subst hv2
          refine m_putI (pc := 164) C 31 rfl fp_X5_169 dX5_goesBy_164 ?_
          refine Y.imp (Φ' := InvM Ω M ma B.1 B.2) (fun h hh => ?_) ?_
          · skip
            rw [hB]
            exact InvM.gh (fun f hf => by show flgZ x A.1 f = _; unfold flgZ; rw [zu_n (by omega), zu_n (by omega)]; rfl) (fun f hf => rfl) hh
          skip
          refine y_iconst (pc := 167) C dX5_goesBy_167 ?_
          refine y_istore_n (pc := 168) (L' := [(2, _), (1, _), (0, _)]) C dX5_goesBy_168 (by rw [hn]; decide) rfl ?_
          have LP3 : ∀ (m3 : Nat) (i : Nat) (z : Int) (w : ZT) (v : JT), (k1 : ns + 1 ≤ i + m3) → (k2 : i ≤ ns) → (hz : z = i) → (hw : (w, v) = leakN B i) → Y Ω κ (InvM Ω M ma w v) hR 0 0 169 [(2, .int (iv z)), (1, .int (iv x)), (0, .ref M)] [] := by
            intro m3
            induction m3 with
            | zero => intro i z w v k1 k2 hz hw; exfalso; omega
            | succ m3 ih3 =>
              intro i z w v k1 k2 hz hw
              have hws : Wf w ns nc nl := by have q := wf_leak (n := i) hwB; rw [← hw] at q; exact q
              have e2 := hws.1
              have hwk := fun hi => hws.2.2.2.2.2.2.1 i hi
              refine y_iload_n (pc := 169) C dX5_goesBy_169 0 rfl ?_
              refine y_aload_n (pc := 170) C dX5_goesBy_170 2 rfl ?_
              refine y_get (pc := 171) C fg_X5_105 dX5_goesBy_171 (fun h hh => ⟨_, hh.1, rfl⟩) ?_
              refine y_icmp_ge (pc := 174) (tgt := 188) C dX5_goesBy_174 (by decide) (by omega) (by omega) (by omega) (by omega) (fun c174 => ?_) (fun c174 => ?_)
              · skip
                have ei : i = ns := by omega
                have eD : (w, v) = D := by rw [hD, ← ei]; exact hw
                have eD1 : w = D.1 := by rw [← eD]
                have eD2 : v = D.2 := by rw [← eD]
                rw [eD1, eD2]
                refine y_aload_n (pc := 188) C dX5_goesBy_188 2 rfl ?_
                refine y_dup (pc := 189) C dX5_goesBy_189 rfl ?_
                refine y_get (pc := 190) C fg_X5_151 dX5_goesBy_190 (fun h hh => ⟨_, hh.1, rfl⟩) ?_
                refine y_iconst (pc := 193) C dX5_goesBy_193 ?_
                refine y_iadd (pc := 194) C dX5_goesBy_194 ?_
                refine m_putI (pc := 195) C 1 rfl fp_X5_151 dX5_goesBy_195 ?_
                refine Y.imp (Φ' := InvM Ω M ma T.1 T.2) (fun h hh => by rw [hT]; exact hh) ?_
                refine y_iconst (pc := 198) C dX5_goesBy_198 ?_
                refine y_istore_n (pc := 199) (L' := [(2, _), (1, _), (0, _)]) C dX5_goesBy_199 (by rw [hn]; decide) rfl ?_
                have LP4 : ∀ (m4 : Nat) (i : Nat) (z : Int) (w : ZT) (v : JT), (k1 : ns + 1 ≤ i + m4) → (k2 : i ≤ ns) → (hz : z = i) → (hw : (w, v) = dayN T i) → (hq : i = 0 ∨ T.1 1 0 % 24 = 0) → Y Ω κ (InvM Ω M ma w v) hR 0 0 200 [(2, .int (iv z)), (1, .int (iv x)), (0, .ref M)] [] := by
                  intro m4
                  induction m4 with
                  | zero => intro i z w v k1 k2 hz hw hq; exfalso; omega
                  | succ m4 ih4 =>
                    intro i z w v k1 k2 hz hw hq
                    have hws : Wf w ns nc nl := by have q := wf_day (n := i) hwT; rw [← hw] at q; exact q
                    have e2 := hws.1
                    have hwk := fun hi => hws.2.2.2.2.2.2.1 i hi
                    have e1w : w 1 0 = T.1 1 0 := by have q := dayN_f (p := T) (n := i) (f := 1) (by omega) (by omega) (by omega); rw [← hw] at q; exact congrFun q 0
                    refine y_iload_n (pc := 200) C dX5_goesBy_200 0 rfl ?_
                    refine y_aload_n (pc := 201) C dX5_goesBy_201 2 rfl ?_
                    refine y_get (pc := 202) C fg_X5_105 dX5_goesBy_202 (fun h hh => ⟨_, hh.1, rfl⟩) ?_
                    refine y_icmp_ge (pc := 205) (tgt := 229) C dX5_goesBy_205 (by decide) (by omega) (by omega) (by omega) (by omega) (fun c205 => ?_) (fun c205 => ?_)
                    · skip
                      exact y_vret (pc := 229) C E dX5_goesBy_229 (by decide) (by decide) (fun h hh => ⟨rfl, by rw [hfin]; have ei : i = ns := (by omega); have q : (if T.1 1 0 % 24 = 0 then dayN T ns else T) = (w, v) := hq.elim (fun q => by rw [hw, ← ei, q]; split <;> rfl) (fun q => by rw [if_pos q, hw, ei]); rw [q]; exact hh⟩)
                    · skip
                      subst hz
                      refine y_aload_n (pc := 208) C dX5_goesBy_208 2 rfl ?_
                      refine y_get (pc := 209) C fg_X5_151 dX5_goesBy_209 (fun h hh => ⟨_, hh.1, rfl⟩) ?_
                      refine y_bipush (pc := 212) (z := 24) C dX5_goesBy_212 (by decide) ?_
                      refine y_irem (pc := 214) C dX5_goesBy_214 (by omega) (by omega) (by omega) (by omega) ?_
                      refine y_if_ne (pc := 215) (tgt := 229) C dX5_goesBy_215 (by decide) (by omega) (by omega) (fun c215 => ?_) (fun c215 => ?_)
                      · skip
                        exact y_vret (pc := 229) C E dX5_goesBy_229 (by decide) (by decide) (fun h hh => ⟨rfl, by rw [hfin]; have q : (if T.1 1 0 % 24 = 0 then dayN T ns else T) = (w, v) := (by rw [if_neg (by rw [← e1w]; exact c215), hw, show i = 0 from hq.elim id (fun q => absurd q (by rw [← e1w]; exact c215))]; rfl); rw [q]; exact hh⟩)
                      · skip
                        refine y_aload_n (pc := 218) C dX5_goesBy_218 2 rfl ?_
                        refine y_iload_n (pc := 219) C dX5_goesBy_219 0 rfl ?_
                        refine y_callVv (pc := 220) (As := [_]) C E.2.1 cv_X5_226 (ci := 6) rfl rfl (mt_endsDay i (by omega) (hwk (by omega))) (fun h hh => ⟨_, hh.1⟩) rfl rfl (Nat.le_of_ble_eq_true rfl) ⟨by decide, by decide, by decide, by decide⟩ dX5_goesBy_220 ⟨rfl, rfl⟩ ?_
                        refine y_iinc (pc := 223) (L' := [(2, _), (1, _), (0, _)]) C dX5_goesBy_223 0 rfl (by rw [hn]; decide) rfl ?_
                        refine y_goto (pc := 226) (tgt := 200) C dX5_goesBy_226 (by decide) ?_
                        refine Y.sub [0, 1, 2] rfl ?_
                        exact ih4 (i + 1) _ _ _ (by omega) (by omega) (by omega) (by show _ = dayP i (dayN T i); rw [← hw]) (Or.inr (by omega))
                refine Y.sub [0, 1, 2] rfl ?_
                exact LP4 (ns + 1) 0 0 T.1 T.2 (by omega) (by omega) rfl rfl (Or.inl rfl)
              · skip
                subst hz
                refine y_aload_n (pc := 177) C dX5_goesBy_177 2 rfl ?_
                refine y_iload_n (pc := 178) C dX5_goesBy_178 0 rfl ?_
                refine y_callVv (pc := 179) (As := [_]) C E.2.1 cv_X5_223 (ci := 6) rfl rfl (mt_leaks i (by omega) (hwk (by omega))) (fun h hh => ⟨_, hh.1⟩) rfl rfl (Nat.le_of_ble_eq_true rfl) ⟨by decide, by decide, by decide, by decide⟩ dX5_goesBy_179 ⟨rfl, rfl⟩ ?_
                refine y_iinc (pc := 182) (L' := [(2, _), (1, _), (0, _)]) C dX5_goesBy_182 0 rfl (by rw [hn]; decide) rfl ?_
                refine y_goto (pc := 185) (tgt := 169) C dX5_goesBy_185 (by decide) ?_
                refine Y.sub [0, 1, 2] rfl ?_
                exact ih3 (i + 1) _ _ _ (by omega) (by omega) (by omega) (by show _ = leakP i (leakN B i); rw [← hw])
          refine Y.sub [0, 1, 2] rfl ?_
          exact LP3 (ns + 1) 0 0 B.1 B.2 (by omega) (by omega) rfl rfl
        · skip
          refine y_iload_n (pc := 147) C dX5_goesBy_147 1 rfl ?_
          refine y_if_le (pc := 148) (tgt := 155) C dX5_goesBy_148 (by decide) (by omega) (by omega) (fun c148 => ?_) (fun c148 => ?_)
          · skip
            refine y_iload_n (pc := 155) C dX5_goesBy_155 1 rfl ?_
            refine y_if_ge (pc := 156) (tgt := 163) C dX5_goesBy_156 (by decide) (by omega) (by omega) (fun c156 => ?_) (fun c156 => ?_)
            · skip
              refine y_iconst (pc := 163) C dX5_goesBy_163 ?_
              exact J2 _ (by unfold sgnZ; split <;> first | rfl | (exfalso; omega) | (split <;> first | rfl | (exfalso; omega)))
            · skip
              refine y_iconst (pc := 159) C dX5_goesBy_159 ?_
              refine y_goto (pc := 160) (tgt := 164) C dX5_goesBy_160 (by decide) ?_
              exact J2 _ (by unfold sgnZ; split <;> first | rfl | (exfalso; omega) | (split <;> first | rfl | (exfalso; omega)))
          · skip
            refine y_iconst (pc := 151) C dX5_goesBy_151 ?_
            refine y_goto (pc := 152) (tgt := 164) C dX5_goesBy_152 (by decide) ?_
            exact J2 _ (by unfold sgnZ; split <;> first | rfl | (exfalso; omega) | (split <;> first | rfl | (exfalso; omega)))
      · skip
        subst hz
        have hA9 : ∀ f, f ≠ 21 → f ≠ 25 → w f = P.1 f := fun f z1 z2 => by have q := setN_f (p := P) (n := i) z1 z2; rw [← hw] at q; exact q
        have hpw := hpP i (by omega)
        rw [← hA9 36 (by omega) (by omega), ← hA9 37 (by omega) (by omega), ← hA9 38 (by omega) (by omega)] at hpw
        refine y_aload_n (pc := 31) C dX5_goesBy_31 2 rfl ?_
        refine y_get (pc := 32) C fg_X5_63 dX5_goesBy_32 (fun h hh => ⟨_, hh.1, rfl⟩) ?_
        refine y_iload_n (pc := 35) C dX5_goesBy_35 0 rfl ?_
        refine y_dup2 (pc := 36) C dX5_goesBy_36 rfl rfl ?_
        refine m_iald (pc := 37) C 21 _ rfl rfl (by show _ < 6; omega) dX5_goesBy_37 ?_
        refine y_aload_n (pc := 38) C dX5_goesBy_38 2 rfl ?_
        refine y_get (pc := 39) C fg_X5_90 dX5_goesBy_39 (fun h hh => ⟨_, hh.1, rfl⟩) ?_
        refine y_iload_n (pc := 42) C dX5_goesBy_42 0 rfl ?_
        refine m_iald (pc := 43) C 36 _ rfl rfl (by show _ < 6; omega) dX5_goesBy_43 ?_
        refine y_aload_n (pc := 44) C dX5_goesBy_44 2 rfl ?_
        refine y_get (pc := 45) C fg_X5_93 dX5_goesBy_45 (fun h hh => ⟨_, hh.1, rfl⟩) ?_
        refine y_iload_n (pc := 48) C dX5_goesBy_48 0 rfl ?_
        refine m_iald (pc := 49) C 37 _ rfl rfl (by show _ < 6; omega) dX5_goesBy_49 ?_
        refine y_isub (pc := 50) C dX5_goesBy_50 ?_
        refine y_iadd (pc := 51) C dX5_goesBy_51 ?_
        refine m_iast (pc := 52) C 21 _ rfl rfl (by show _ < 6; omega) dX5_goesBy_52 ?_
        refine y_aload_n (pc := 53) C dX5_goesBy_53 2 rfl ?_
        refine y_get (pc := 54) C fg_X5_66 dX5_goesBy_54 (fun h hh => ⟨_, hh.1, rfl⟩) ?_
        refine y_iload_n (pc := 57) C dX5_goesBy_57 0 rfl ?_
        refine y_dup2 (pc := 58) C dX5_goesBy_58 rfl rfl ?_
        refine m_lald (pc := 59) C 22 _ rfl rfl (by show _ < 6; omega) dX5_goesBy_59 ?_
        refine y_aload_n (pc := 60) C dX5_goesBy_60 2 rfl ?_
        refine y_get (pc := 61) C fg_X5_90 dX5_goesBy_61 (fun h hh => ⟨_, hh.1, rfl⟩) ?_
        refine y_iload_n (pc := 64) C dX5_goesBy_64 0 rfl ?_
        refine m_iald (pc := 65) C 36 _ rfl rfl (by show _ < 6; omega) dX5_goesBy_65 ?_
        refine y_i2l (pc := 66) C dX5_goesBy_66 (by show -2147483648 ≤ w 36 i; omega) (by show w 36 i < 2147483648; omega) ?_
        refine y_laddR (pc := 67) C dX5_goesBy_67 ?_
        refine m_last (pc := 68) C 22 _ rfl rfl (by show _ < 6; omega) dX5_goesBy_68 ?_
        refine y_aload_n (pc := 69) C dX5_goesBy_69 2 rfl ?_
        refine y_get (pc := 70) C fg_X5_69 dX5_goesBy_70 (fun h hh => ⟨_, hh.1, rfl⟩) ?_
        refine y_iload_n (pc := 73) C dX5_goesBy_73 0 rfl ?_
        refine y_dup2 (pc := 74) C dX5_goesBy_74 rfl rfl ?_
        refine m_lald (pc := 75) C 23 _ rfl rfl (by show _ < 6; omega) dX5_goesBy_75 ?_
        refine y_aload_n (pc := 76) C dX5_goesBy_76 2 rfl ?_
        refine y_get (pc := 77) C fg_X5_93 dX5_goesBy_77 (fun h hh => ⟨_, hh.1, rfl⟩) ?_
        refine y_iload_n (pc := 80) C dX5_goesBy_80 0 rfl ?_
        refine m_iald (pc := 81) C 37 _ rfl rfl (by show _ < 6; omega) dX5_goesBy_81 ?_
        refine y_i2l (pc := 82) C dX5_goesBy_82 (by show -2147483648 ≤ w 37 i; omega) (by show w 37 i < 2147483648; omega) ?_
        refine y_laddR (pc := 83) C dX5_goesBy_83 ?_
        refine m_last (pc := 84) C 23 _ rfl rfl (by show _ < 6; omega) dX5_goesBy_84 ?_
        refine y_aload_n (pc := 85) C dX5_goesBy_85 2 rfl ?_
        refine y_get (pc := 86) C fg_X5_72 dX5_goesBy_86 (fun h hh => ⟨_, hh.1, rfl⟩) ?_
        refine y_iload_n (pc := 89) C dX5_goesBy_89 0 rfl ?_
        refine y_dup2 (pc := 90) C dX5_goesBy_90 rfl rfl ?_
        refine m_lald (pc := 91) C 24 _ rfl rfl (by show _ < 6; omega) dX5_goesBy_91 ?_
        refine y_aload_n (pc := 92) C dX5_goesBy_92 2 rfl ?_
        refine y_get (pc := 93) C fg_X5_96 dX5_goesBy_93 (fun h hh => ⟨_, hh.1, rfl⟩) ?_
        refine y_iload_n (pc := 96) C dX5_goesBy_96 0 rfl ?_
        refine m_iald (pc := 97) C 38 _ rfl rfl (by show _ < 6; omega) dX5_goesBy_97 ?_
        refine y_i2l (pc := 98) C dX5_goesBy_98 (by show -2147483648 ≤ w 38 i; omega) (by show w 38 i < 2147483648; omega) ?_
        refine y_laddR (pc := 99) C dX5_goesBy_99 ?_
        refine m_last (pc := 100) C 24 _ rfl rfl (by show _ < 6; omega) dX5_goesBy_100 ?_
        refine y_aload_n (pc := 101) C dX5_goesBy_101 2 rfl ?_
        refine y_get (pc := 102) C fg_X5_75 dX5_goesBy_102 (fun h hh => ⟨_, hh.1, rfl⟩) ?_
        refine y_bipush (pc := 105) (z := 64) C dX5_goesBy_105 (by decide) ?_
        refine y_iload_n (pc := 107) C dX5_goesBy_107 0 rfl ?_
        refine y_imul (pc := 108) C dX5_goesBy_108 ?_
        refine y_aload_n (pc := 109) C dX5_goesBy_109 2 rfl ?_
        refine y_get (pc := 110) C fg_X5_151 dX5_goesBy_110 (fun h hh => ⟨_, hh.1, rfl⟩) ?_
        show Y Ω κ _ hR _ _ _ _ (.int (iv (w 1 0)) :: _)
        refine y_bipush (pc := 113) (z := 64) C dX5_goesBy_113 (by decide) ?_
        refine y_irem (pc := 115) C dX5_goesBy_115 (by omega) (by omega) (by omega) (by omega) ?_
        refine y_iadd (pc := 116) C dX5_goesBy_116 ?_
        refine y_iconst (pc := 117) C dX5_goesBy_117 ?_
        refine m_iast (pc := 118) C 25 (64 * i + nowN w % 64) rfl (by unfold nowN; omega) (by show _ < 384; omega) dX5_goesBy_118 ?_
        refine y_iinc (pc := 119) (L' := [(2, _), (1, _), (0, _)]) C dX5_goesBy_119 0 rfl (by rw [hn]; decide) rfl ?_
        refine y_goto (pc := 122) (tgt := 23) C dX5_goesBy_122 (by decide) ?_
        refine Y.sub [0, 1, 2] rfl ?_
        exact ih1 (i + 1) _ _ _ (by omega) (by omega) (by omega) (by show _ = set1 i (setN P i); rw [← hw]; rfl)
  refine Y.sub [0, 1, 2] rfl ?_
  exact LP1 (nc + 1) 0 0 P.1 P.2 (by omega) (by omega) rfl rfl
