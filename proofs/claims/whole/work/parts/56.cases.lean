/-! the law's cases -/
theorem LW.un {Ω : OmT} {κ : KxT} {hR : AH} {cs sl pc x M o : Nat} {L : List (Nat × Value)} {st : List Value} (k : ∀ (lay : Nat → Nat → Nat) (ma : Nat → Nat) (σ s : ZT) (τ : JT) (ξ : XiT) (ns nc nl : Nat) (f : Nat → Int64), s = zu σ 0 0 0 → LI ξ σ τ ns nc nl → LI ξ s τ ns nc nl → LaO Ω lay → lay 0 0 = x → Y Ω κ (LH (OnO Ω o f (InvC Ω lay ns ns nc nl ξ s τ)) (InvM Ω M ma σ τ)) hR cs sl pc L st) : Y Ω κ (LW Ω x M o) hR cs sl pc L st := by
  intro h H locs ls ⟨lay, ma, σ, τ, ξ, ns, nc, nl, f, q1, q2, q3, q4⟩
  refine k lay ma σ (zu σ 0 0 0) τ ξ ns nc nl f rfl q1 (li_0 q1) q2 q3 h H locs ls (q4.imp (fun h ⟨h1, a, b⟩ => ⟨h1, a.c (fun f hf => ?_) (fun c hc => rfl) (fun f => rfl), b⟩) (fun h q => q))
  exact zu_n (fun e => hf (by rw [e]; decide))
theorem LW.bad {Ω : OmT} {M o : Nat} {lay : Nat → Nat → Nat} {ma : Nat → Nat} {σ s : ZT} {τ : JT} {ξ : XiT} {ns nc nl : Nat} {f : Nat → Int64} {K : Int} {h : AH} (hs : s = zu σ 0 0 0) (hl : LI ξ σ τ ns nc nl) (hlo : LaO Ω lay) (i : LH (OnO Ω o f (InvC Ω lay ns ns nc nl ξ s τ)) (InvM Ω M ma (zu σ 0 0 K) τ) h) : LW Ω (lay 0 0) M o h := by
  refine ⟨lay, ma, zu σ 0 0 K, τ, ξ, ns, nc, nl, f, li_0 hl, hlo, rfl, i.imp (fun h ⟨h1, a, b⟩ => ⟨h1, a.c (fun f hf => ?_) (fun c hc => ?_) (fun f => rfl), b⟩) (fun h q => q)⟩
  · rw [hs, zu_n (fun e => hf (by rw [e]; decide)), zu_n (fun e => hf (by rw [e]; decide))]
  · rw [hs]; rfl
theorem LW.good {Ω : OmT} {M o : Nat} {lay : Nat → Nat → Nat} {ma : Nat → Nat} {σ : ZT} {τ : JT} {ξ : XiT} {ns nc nl : Nat} {f : Nat → Int64} {h : AH} (hl : LI ξ σ τ ns nc nl) (hlo : LaO Ω lay) (i : LH (OnO Ω o f (InvC Ω lay ns ns nc nl ξ σ τ)) (InvM Ω M ma σ τ) h) : LW Ω (lay 0 0) M o h :=
  ⟨lay, ma, σ, τ, ξ, ns, nc, nl, f, hl, hlo, rfl, i⟩
theorem LW.good2 {Ω : OmT} {M o x : Nat} {ma : Nat → Nat} {σ : ZT} {τ : JT} {ξ : XiT} {ns nc nl : Nat} {f : Nat → Int64} {h : AH} (hl : LI ξ σ τ ns nc nl) (i : LH (OnO Ω o f (fun h => ∃ lay2 : Nat → Nat → Nat, lay2 0 0 = x ∧ LaO Ω lay2 ∧ InvC Ω lay2 ns ns nc nl ξ σ τ h)) (InvM Ω M ma σ τ) h) : LW Ω x M o h := by
  obtain ⟨hC, hM, ⟨h1, ⟨lay2, e, q2, q3⟩, q4, q5⟩, w2, w3, w4⟩ := i
  exact ⟨lay2, ma, σ, τ, ξ, ns, nc, nl, f, hl, q2, e, hC, hM, ⟨h1, q3, q4, q5⟩, w2, w3, w4⟩
theorem LW.goodP {Ω : OmT} {M o : Nat} {lay : Nat → Nat → Nat} {ma : Nat → Nat} {s : ZT} {τ : JT} {ξ' : XiT} {ns nc nl j : Nat} {u : Int} {f : Nat → Int64} {h : AH} (hl : LI ξ' (zu s 26 j u) τ ns nc nl) (hlo : LaO Ω lay) (i : LH (OnO Ω o f (InvC Ω lay ns ns nc nl ξ' s τ)) (InvM Ω M ma (zu s 26 j u) τ) h) : LW Ω (lay 0 0) M o h :=
  LW.good hl hlo (i.imp (fun h ⟨h1, a, b⟩ => ⟨h1, a.c (fun f hf => zu_n (fun e => hf (by rw [e]; decide))) (fun c hc => rfl) (fun f => rfl), b⟩) (fun h q => q))
section YLAWC
variable {Ω : OmT} {κ : KxT} {hR : AH} {Φ A B A1 B1 : AH → Prop} {cs sl pc idx : Nat} {L : List (Nat × Value)} {st stk : List Value}
theorem y_icmpE {own : String} {cc : ByteArray} (C : Cx Ω κ own cc) {x : Int} {off : Int} {tgt : Nat} (dg : decode cc pc = .ok (.if_icmp .eq off, 3)) (ht : (pc : Int) + off = (tgt : Int)) (k : Y Ω κ Φ hR cs sl tgt L st) : Y Ω κ Φ hR cs sl pc L (.int (iv x) :: .int (iv x) :: st) :=
  fun h H locs ls a b c d => lv_icmp_eq C.1 C.2.1 dg ht (fun _ => k h H locs ls a b c d) (fun q => absurd rfl q)
theorem y_lawCC (C : Cx Ω κ RL cL_law_) (hr : kR κ = room_1) (hc : cs + 4 ≤ 601024) (hs : sl + 160 ≤ 7293034) {lv cl sc : Nat} {y : MethodName} {c2 : ByteArray} {mL n o : Nat} {f : Nat → Int64} {K : Int} {v : Int64} {ret : Option FieldType} {hh : List (Nat × Nat × Nat × Nat)} (hlv : lv ≤ 50) (hcl : cl ≤ 4) (hsc : sc ≤ 160) (hmL : mL ≤ 30) (w1 : Cond.methodLink RL idx y ∈ AW) (w2 : Cond.static y ∈ AW) (w3 : Cond.initialized y.cls ∈ AW) (w4 : Cond.codeWith y c2 mL ret hh ∈ AW) (w5 : y.cls ≠ "java/lang/invoke/MethodHandle" ∧ y.cls ≠ "java/lang/invoke/VarHandle" ∧ (parseMethodDescriptor y.desc).map (fun d => d.parameters.length) = some n) {As : List Value} (ct : ∀ hR', CtH Ω y c2 mL ret hh (rkc lv cl sc) As (OnO Ω o f A) hR' (WR Ω o f K v A1 B1)) (hn : As.length = n) (hst : As.reverse = stk) (dg : decode cL_law_ pc = .ok (.invokestatic idx, 3))
    (k1 : K = 0 → Y Ω κ (LH (OnO Ω o (vp_updL f 0 v) A1) B) hR (cs + 4) (sl + 160) (pc + 3) L [.int (iv K)]) (k2 : K ≠ 0 → Y Ω κ (LH (OnO Ω o f B1) B) hR (cs + 4) (sl + 160) (pc + 3) L [.int (iv K)]) : Y Ω κ (LH (OnO Ω o f A) B) hR cs sl pc L stk := by
  refine y_lawC C hr w1 w2 w3 w4 w5 ct hn (st := []) (by rw [List.append_nil]; exact hst) (by decide) ⟨?_, ?_, ?_, ?_⟩ dg (fun h => Y.wide ?_ ?_ (k1 h)) (fun h => Y.wide ?_ ?_ (k2 h))
  · show lv + 1 ≤ 2048; omega
  · show 8 + (mL + 11) + 40 * lv ≤ 84000; omega
  · show cs + cl ≤ 601024; omega
  · show sl + sc ≤ 7293034; omega
  · show cs + cl ≤ cs + 4; omega
  · show sl + sc ≤ sl + 160; omega
  · show cs + cl ≤ cs + 4; omega
  · show sl + sc ≤ sl + 160; omega
theorem InvM.self {M : Nat} {ma : Nat → Nat} {σ : ZT} {τ : JT} {h : AH} (i : InvM Ω M ma σ τ h) : ∃ fs, h M = some (.inr (6, fs)) := ⟨_, i.1⟩
theorem y_lawF (C : Cx Ω κ RL cL_law_) (hr : kR κ = room_1) (hc : cs ≤ 601024) (hs : sl ≤ 7293034) {M lv : Nat} {ma : Nat → Nat} {σ : ZT} {τ : JT} {y : MethodName} {c2 : ByteArray} {mL n : Nat} {K : Int} {v v0 : Value} {P Q : AH → Prop} {ret : Option FieldType} (hlv : lv ≤ 50) (hmL : mL ≤ 30) (cv : CV RL idx RX5 y c2 mL ret n) {As : List Value} (ct : ∀ hR', Ct Ω y c2 mL ret (rk lv) (.ref M :: As) (InvM Ω M ma σ τ) hR' (FR K v v0 P Q) NX) (hn : As.length = n) (hst : As.reverse ++ [.ref M] = stk) (dg : decode cL_law_ pc = .ok (.invokevirtual idx, 3))
    (k1 : K = 0 → Y Ω κ (LH A P) hR cs sl (pc + 3) L [v]) (k2 : K ≠ 0 → Y Ω κ (LH A Q) hR cs sl (pc + 3) L [v0]) : Y Ω κ (LH A (InvM Ω M ma σ τ)) hR cs sl pc L stk := by
  refine y_lawM C hr cv (ci := 6) rfl rfl ct (fun h q => q.self) hn hst (by decide) ⟨?_, ?_, ?_, ?_⟩ dg (fun rv => ?_)
  · show lv + 1 ≤ 2048; omega
  · show 8 + (mL + 11) + 40 * lv ≤ 84000; omega
  · exact hc
  · exact hs
  · refine Y.imp (Φ' := fun h => (rv = some v ∧ K = 0 ∧ LH A P h) ∨ (rv = some v0 ∧ K ≠ 0 ∧ LH A Q h)) (fun h ⟨hC, hM, q1, q2, q3, q4⟩ => q2.imp (fun w => ⟨w.2.1, w.1, hC, hM, q1, w.2.2, q3, q4⟩) (fun w => ⟨w.2.1, w.1, hC, hM, q1, w.2.2, q3, q4⟩)) ?_
    refine Y.or (Y.and fun e => Y.and fun hK => ?_) (Y.and fun e => Y.and fun hK => ?_)
    · subst e; exact k1 hK
    · subst e; exact k2 hK
theorem y_lawT (C : Cx Ω κ RL cL_law_) (hr : kR κ = room_1) (hc : cs ≤ 601024) (hs : sl ≤ 7293034) {M : Nat} {ma : Nat → Nat} {σ : ZT} {τ : JT} {K : Int} (hK : σ 0 0 = K) (dg : decode cL_law_ pc = .ok (.invokevirtual 96, 3))
    (kk : Y Ω κ (LH A (InvM Ω M ma σ τ)) hR cs sl (pc + 3) L [.int (iv K)]) : Y Ω κ (LH A (InvM Ω M ma σ τ)) hR cs sl pc L [.ref M] := by
  subst hK
  refine y_lawM C hr cv_L_96 (ci := 6) rfl rfl (As := []) (fun hR' => mt_thrown) (fun h q => q.self) rfl rfl (by decide) ⟨by decide, by decide, hc, hs⟩ dg (fun rv => ?_)
  refine Y.imp (Φ' := fun h => rv = some (.int (iv (σ 0 0))) ∧ LH A (InvM Ω M ma σ τ) h) (fun h ⟨hC, hM, q1, q2, q3, q4⟩ => ⟨q2.1, hC, hM, q1, q2.2, q3, q4⟩) (Y.and fun e => ?_)
  subst e
  exact kk
theorem y_lawR0 {own : String} {cc : ByteArray} (C : Cx Ω κ own cc) {o : Nat} {f : Nat → Int64} {v : Int64} (dg : decode cc pc = .ok (.laload, 1)) (kk : Y Ω κ (LH (OnO Ω o (vp_updL f 0 v) A) B) hR cs sl (pc + 1) L (.long v :: st)) : Y Ω κ (LH (OnO Ω o (vp_updL f 0 v) A) B) hR cs sl pc L (.int (iv 0) :: .ref o :: st) := y_lawR C dg kk
end YLAWC

set_option maxHeartbeats 1000000 in
set_option maxRecDepth 20000 in
theorem lc_store {Ω : OmT} {κ : KxT} {hR : AH} {cs sl b N x M o k0 : Nat} {xs : Nat → Int32} (C : Cx Ω κ RL cL_law_) (hn : kn κ = 8) (hr : kR κ = room_1) (hX : va_X b N xs (ks κ) (ks κ).heap) (hbl : b < (ks κ).heap.size) (hbA : ¬ OmA Ω b) (hk : k0 + 6 < N) (hN : N ≤ 100000) (hc : cs + 4 ≤ 601024) (hs : sl + 160 ≤ 7293034) (kk : Y Ω κ (LW Ω x M o) hR (cs + 4) (sl + 160) 1617 [(0, .ref b), (1, .ref x), (2, .ref M), (3, .ref o), (4, .int (iv (k0 : Nat)))] []) : Y Ω κ (LW Ω x M o) hR cs sl 140 [(0, .ref b), (1, .ref x), (2, .ref M), (3, .ref o), (4, .int (iv (k0 : Nat)))] [] := by
  refine LW.un (fun lay ma σ s τ ξ ns nc nl f hs0 hl hli hlo hx => ?_)
  subst hx
  have eK : stK σ (xs (k0 + 1)).toInt (xs (k0 + 2)).toInt (xs (k0 + 3)).toInt (xs (k0 + 4)).toInt (xs (k0 + 5)).toInt (xs (k0 + 6)).toInt = stK s (xs (k0 + 1)).toInt (xs (k0 + 2)).toInt (xs (k0 + 3)).toInt (xs (k0 + 4)).toInt (xs (k0 + 5)).toInt (xs (k0 + 6)).toInt := by rw [hs0]; rfl
  have hK3 : 0 ≤ stK s (xs (k0 + 1)).toInt (xs (k0 + 2)).toInt (xs (k0 + 3)).toInt (xs (k0 + 4)).toInt (xs (k0 + 5)).toInt (xs (k0 + 6)).toInt ∧ stK s (xs (k0 + 1)).toInt (xs (k0 + 2)).toInt (xs (k0 + 3)).toInt (xs (k0 + 4)).toInt (xs (k0 + 5)).toInt (xs (k0 + 6)).toInt ≤ 3 := by unfold stK; (repeat' split) <;> decide
  refine y_aload_n (pc := 140) C dL_law__140 1 rfl ?_
  refine y_aload_n C dL_law__141 0 rfl ?_
  refine y_iload C dL_law__142 4 rfl ?_
  refine y_iconst C dL_law__144 ?_
  refine y_iadd C dL_law__145 ?_
  refine y_sld C hX hbl hbA (k := k0 + 1) (by omega) (by omega) hN dL_law__146 ?_
  refine y_aload_n C dL_law__147 0 rfl ?_
  refine y_iload C dL_law__148 4 rfl ?_
  refine y_iconst C dL_law__150 ?_
  refine y_iadd C dL_law__151 ?_
  refine y_sld C hX hbl hbA (k := k0 + 2) (by omega) (by omega) hN dL_law__152 ?_
  refine y_aload_n C dL_law__153 0 rfl ?_
  refine y_iload C dL_law__154 4 rfl ?_
  refine y_iconst C dL_law__156 ?_
  refine y_iadd C dL_law__157 ?_
  refine y_sld C hX hbl hbA (k := k0 + 3) (by omega) (by omega) hN dL_law__158 ?_
  refine y_aload_n C dL_law__159 0 rfl ?_
  refine y_iload C dL_law__160 4 rfl ?_
  refine y_iconst C dL_law__162 ?_
  refine y_iadd C dL_law__163 ?_
  refine y_sld C hX hbl hbA (k := k0 + 4) (by omega) (by omega) hN dL_law__164 ?_
  refine y_aload_n C dL_law__165 0 rfl ?_
  refine y_iload C dL_law__166 4 rfl ?_
  refine y_iconst C dL_law__168 ?_
  refine y_iadd C dL_law__169 ?_
  refine y_sld C hX hbl hbA (k := k0 + 5) (by omega) (by omega) hN dL_law__170 ?_
  refine y_aload_n C dL_law__171 0 rfl ?_
  refine y_iload C dL_law__172 4 rfl ?_
  refine y_bipush (z := 6) C dL_law__174 (by decide) ?_
  refine y_iadd C dL_law__176 ?_
  refine y_sld C hX hbl hbA (k := k0 + 6) (by omega) (by omega) hN dL_law__177 ?_
  refine y_aload_n C dL_law__178 3 rfl ?_
  refine y_lawCC (n := 8) (As := [.ref (lay 0 0), Value.int (iv (xs (k0 + 1)).toInt), Value.int (iv (xs (k0 + 2)).toInt), Value.int (iv (xs (k0 + 3)).toInt), Value.int (iv (xs (k0 + 4)).toInt), Value.int (iv (xs (k0 + 5)).toInt), Value.int (iv (xs (k0 + 6)).toInt), .ref o]) C hr hc hs (by decide) (by decide) (by decide) (by decide) aw_1_101 aw_1_102 aw_1_0 aw_1_103 ⟨by decide, by decide, by decide +kernel⟩ (fun hR' => wl_store hli.1 (Nat.le_refl _) hlo hli.2.2.1 (xs (k0 + 1)).toInt (iv_r _) (xs (k0 + 2)).toInt (iv_r _) (xs (k0 + 3)).toInt (iv_r _) (xs (k0 + 4)).toInt (iv_r _) (xs (k0 + 5)).toInt (iv_r _) (xs (k0 + 6)).toInt (iv_r _) o f) rfl rfl dL_law__179 (fun hK => ?_) (fun hK => ?_)
  · skip
    rw [hK]
    have hKσ := eK.trans hK
    refine y_istore (pc := 182) (L' := [(5, _), (0, _), (1, _), (2, _), (3, _), (4, _)]) C dL_law__182 (by rw [hn]; decide) rfl ?_
    refine y_aload_n C dL_law__184 3 rfl ?_
    refine y_aload_n C dL_law__185 1 rfl ?_
    refine y_iload C dL_law__186 5 rfl ?_
    refine y_iconst C dL_law__188 ?_
    refine y_iadd C dL_law__189 ?_
    refine y_sld C hX hbl hbA (k := k0 + 1) (by omega) (by omega) hN dL_law__190 ?_
    refine y_aload_n C dL_law__191 1 rfl ?_
    refine y_iload C dL_law__192 5 rfl ?_
    refine y_iconst C dL_law__194 ?_
    refine y_iadd C dL_law__195 ?_
    refine y_sld C hX hbl hbA (k := k0 + 2) (by omega) (by omega) hN dL_law__196 ?_
    refine y_aload_n C dL_law__197 1 rfl ?_
    refine y_iload C dL_law__198 5 rfl ?_
    refine y_iconst C dL_law__200 ?_
    refine y_iadd C dL_law__201 ?_
    refine y_sld C hX hbl hbA (k := k0 + 3) (by omega) (by omega) hN dL_law__202 ?_
    refine y_aload_n C dL_law__203 1 rfl ?_
    refine y_iload C dL_law__204 5 rfl ?_
    refine y_iconst C dL_law__206 ?_
    refine y_iadd C dL_law__207 ?_
    refine y_sld C hX hbl hbA (k := k0 + 4) (by omega) (by omega) hN dL_law__208 ?_
    refine y_aload_n C dL_law__209 1 rfl ?_
    refine y_iload C dL_law__210 5 rfl ?_
    refine y_iconst C dL_law__212 ?_
    refine y_iadd C dL_law__213 ?_
    refine y_sld C hX hbl hbA (k := k0 + 5) (by omega) (by omega) hN dL_law__214 ?_
    refine y_aload_n C dL_law__215 1 rfl ?_
    refine y_iload C dL_law__216 5 rfl ?_
    refine y_bipush (z := 6) C dL_law__218 (by decide) ?_
    refine y_iadd C dL_law__220 ?_
    refine y_sld C hX hbl hbA (k := k0 + 6) (by omega) (by omega) hN dL_law__221 ?_
    refine y_lawF (As := [Value.int (iv (xs (k0 + 1)).toInt), Value.int (iv (xs (k0 + 2)).toInt), Value.int (iv (xs (k0 + 3)).toInt), Value.int (iv (xs (k0 + 4)).toInt), Value.int (iv (xs (k0 + 5)).toInt), Value.int (iv (xs (k0 + 6)).toInt)]) C hr hc hs (by decide) (by decide) cv_L_95 (fun hR' => mt_store ns nc nl hl.1 s hs0 (xs (k0 + 1)).toInt (iv_r _) (xs (k0 + 2)).toInt (iv_r _) (xs (k0 + 3)).toInt (iv_r _) (xs (k0 + 4)).toInt (iv_r _) (xs (k0 + 5)).toInt (iv_r _) (xs (k0 + 6)).toInt (iv_r _)) rfl rfl dL_law__222 (fun _ => ?_) (fun q => absurd hKσ q)
    refine y_istore (L' := [(6, _), (5, _), (0, _), (1, _), (2, _), (3, _), (4, _)]) C dL_law__225 (by rw [hn]; decide) rfl ?_
    refine y_aload_n C dL_law__227 4 rfl ?_
    refine y_lawT C hr hc hs (K := 0) (by rw [hs0]; rfl) dL_law__228 ?_
    refine y_iload C dL_law__231 1 rfl ?_
    refine y_icmpE (tgt := 238) C dL_law__233 (by decide) ?_
    refine y_iload (pc := 238) C dL_law__238 1 rfl ?_
    refine y_if_ne (tgt := 255) C dL_law__240 (by decide) (by decide) (by decide) (fun c => absurd rfl c) (fun _ => ?_)
    refine y_aload_n C dL_law__243 5 rfl ?_
    refine y_iconst C dL_law__244 ?_
    refine y_lawR0 C dL_law__245 ?_
    refine y_iload C dL_law__246 0 rfl ?_
    refine y_i2lR C dL_law__248 ?_
    refine y_lcmpE C dL_law__249 ?_
    refine y_if_eq (tgt := 255) C dL_law__250 (by decide) (by decide) (by decide) (fun _ => ?_) (fun c => absurd rfl c)
    refine y_goto (pc := 255) (tgt := 1617) C dL_law__255 (by decide) ?_
    refine Y.sub [2, 3, 4, 5, 6] rfl ?_
    exact Y.imp (fun h hh => LW.good2 (li_store hli hK) hh) kk
  · skip
    refine y_istore (pc := 182) (L' := [(5, _), (0, _), (1, _), (2, _), (3, _), (4, _)]) C dL_law__182 (by rw [hn]; decide) rfl ?_
    refine y_aload_n C dL_law__184 3 rfl ?_
    refine y_aload_n C dL_law__185 1 rfl ?_
    refine y_iload C dL_law__186 5 rfl ?_
    refine y_iconst C dL_law__188 ?_
    refine y_iadd C dL_law__189 ?_
    refine y_sld C hX hbl hbA (k := k0 + 1) (by omega) (by omega) hN dL_law__190 ?_
    refine y_aload_n C dL_law__191 1 rfl ?_
    refine y_iload C dL_law__192 5 rfl ?_
    refine y_iconst C dL_law__194 ?_
    refine y_iadd C dL_law__195 ?_
    refine y_sld C hX hbl hbA (k := k0 + 2) (by omega) (by omega) hN dL_law__196 ?_
    refine y_aload_n C dL_law__197 1 rfl ?_
    refine y_iload C dL_law__198 5 rfl ?_
    refine y_iconst C dL_law__200 ?_
    refine y_iadd C dL_law__201 ?_
    refine y_sld C hX hbl hbA (k := k0 + 3) (by omega) (by omega) hN dL_law__202 ?_
    refine y_aload_n C dL_law__203 1 rfl ?_
    refine y_iload C dL_law__204 5 rfl ?_
    refine y_iconst C dL_law__206 ?_
    refine y_iadd C dL_law__207 ?_
    refine y_sld C hX hbl hbA (k := k0 + 4) (by omega) (by omega) hN dL_law__208 ?_
    refine y_aload_n C dL_law__209 1 rfl ?_
    refine y_iload C dL_law__210 5 rfl ?_
    refine y_iconst C dL_law__212 ?_
    refine y_iadd C dL_law__213 ?_
    refine y_sld C hX hbl hbA (k := k0 + 5) (by omega) (by omega) hN dL_law__214 ?_
    refine y_aload_n C dL_law__215 1 rfl ?_
    refine y_iload C dL_law__216 5 rfl ?_
    refine y_bipush (z := 6) C dL_law__218 (by decide) ?_
    refine y_iadd C dL_law__220 ?_
    refine y_sld C hX hbl hbA (k := k0 + 6) (by omega) (by omega) hN dL_law__221 ?_
    refine y_lawF (As := [Value.int (iv (xs (k0 + 1)).toInt), Value.int (iv (xs (k0 + 2)).toInt), Value.int (iv (xs (k0 + 3)).toInt), Value.int (iv (xs (k0 + 4)).toInt), Value.int (iv (xs (k0 + 5)).toInt), Value.int (iv (xs (k0 + 6)).toInt)]) C hr hc hs (by decide) (by decide) cv_L_95 (fun hR' => mt_store ns nc nl hl.1 s hs0 (xs (k0 + 1)).toInt (iv_r _) (xs (k0 + 2)).toInt (iv_r _) (xs (k0 + 3)).toInt (iv_r _) (xs (k0 + 4)).toInt (iv_r _) (xs (k0 + 5)).toInt (iv_r _) (xs (k0 + 6)).toInt (iv_r _)) rfl rfl dL_law__222 (fun q => absurd (eK.symm.trans q) hK) (fun _ => ?_)
    refine y_istore (L' := [(6, _), (5, _), (0, _), (1, _), (2, _), (3, _), (4, _)]) C dL_law__225 (by rw [hn]; decide) rfl ?_
    refine y_aload_n C dL_law__227 4 rfl ?_
    refine y_lawT C hr hc hs (K := stK s (xs (k0 + 1)).toInt (xs (k0 + 2)).toInt (xs (k0 + 3)).toInt (xs (k0 + 4)).toInt (xs (k0 + 5)).toInt (xs (k0 + 6)).toInt) (zu_s.trans eK) dL_law__228 ?_
    refine y_iload C dL_law__231 1 rfl ?_
    refine y_icmpE (tgt := 238) C dL_law__233 (by decide) ?_
    refine y_iload (pc := 238) C dL_law__238 1 rfl ?_
    refine y_if_ne (tgt := 255) C dL_law__240 (by decide) (by omega) (by omega) (fun _ => ?_) (fun c => absurd c hK)
    refine y_goto (pc := 255) (tgt := 1617) C dL_law__255 (by decide) ?_
    refine Y.sub [2, 3, 4, 5, 6] rfl ?_
    exact Y.imp (fun h hh => LW.bad hs0 hl hlo hh) kk

set_option maxHeartbeats 1000000 in
set_option maxRecDepth 20000 in
theorem lc_wells {Ω : OmT} {κ : KxT} {hR : AH} {cs sl b N x M o k0 : Nat} {xs : Nat → Int32} (C : Cx Ω κ RL cL_law_) (hn : kn κ = 8) (hr : kR κ = room_1) (hX : va_X b N xs (ks κ) (ks κ).heap) (hbl : b < (ks κ).heap.size) (hbA : ¬ OmA Ω b) (hk : k0 + 6 < N) (hN : N ≤ 100000) (hc : cs + 4 ≤ 601024) (hs : sl + 160 ≤ 7293034) (kk : Y Ω κ (LW Ω x M o) hR (cs + 4) (sl + 160) 1617 [(0, .ref b), (1, .ref x), (2, .ref M), (3, .ref o), (4, .int (iv (k0 : Nat)))] []) : Y Ω κ (LW Ω x M o) hR cs sl 258 [(0, .ref b), (1, .ref x), (2, .ref M), (3, .ref o), (4, .int (iv (k0 : Nat)))] [] := by
  refine LW.un (fun lay ma σ s τ ξ ns nc nl f hs0 hl hli hlo hx => ?_)
  subst hx
  have eK : wlK σ (xs (k0 + 1)).toInt (xs (k0 + 2)).toInt (xs (k0 + 3)).toInt = wlK s (xs (k0 + 1)).toInt (xs (k0 + 2)).toInt (xs (k0 + 3)).toInt := by rw [hs0]; rfl
  have hK3 : 0 ≤ wlK s (xs (k0 + 1)).toInt (xs (k0 + 2)).toInt (xs (k0 + 3)).toInt ∧ wlK s (xs (k0 + 1)).toInt (xs (k0 + 2)).toInt (xs (k0 + 3)).toInt ≤ 3 := by unfold wlK; (repeat' split) <;> decide
  refine y_aload_n (pc := 258) C dL_law__258 1 rfl ?_
  refine y_aload_n C dL_law__259 0 rfl ?_
  refine y_iload C dL_law__260 4 rfl ?_
  refine y_iconst C dL_law__262 ?_
  refine y_iadd C dL_law__263 ?_
  refine y_sld C hX hbl hbA (k := k0 + 1) (by omega) (by omega) hN dL_law__264 ?_
  refine y_aload_n C dL_law__265 0 rfl ?_
  refine y_iload C dL_law__266 4 rfl ?_
  refine y_iconst C dL_law__268 ?_
  refine y_iadd C dL_law__269 ?_
  refine y_sld C hX hbl hbA (k := k0 + 2) (by omega) (by omega) hN dL_law__270 ?_
  refine y_aload_n C dL_law__271 0 rfl ?_
  refine y_iload C dL_law__272 4 rfl ?_
  refine y_iconst C dL_law__274 ?_
  refine y_iadd C dL_law__275 ?_
  refine y_sld C hX hbl hbA (k := k0 + 3) (by omega) (by omega) hN dL_law__276 ?_
  refine y_aload_n C dL_law__277 3 rfl ?_
  refine y_lawCC (n := 5) (As := [.ref (lay 0 0), Value.int (iv (xs (k0 + 1)).toInt), Value.int (iv (xs (k0 + 2)).toInt), Value.int (iv (xs (k0 + 3)).toInt), .ref o]) C hr hc hs (by decide) (by decide) (by decide) (by decide) aw_2_78 aw_2_79 aw_1_0 aw_2_80 ⟨by decide, by decide, by decide +kernel⟩ (fun hR' => wl_wells hli.1 (Nat.le_refl _) (xs (k0 + 1)).toInt (iv_r _) (xs (k0 + 2)).toInt (iv_r _) (xs (k0 + 3)).toInt (iv_r _) o f) rfl rfl dL_law__278 (fun hK => ?_) (fun hK => ?_)
  · skip
    rw [hK]
    have hKσ := eK.trans hK
    refine y_istore (pc := 281) (L' := [(5, _), (0, _), (1, _), (2, _), (3, _), (4, _)]) C dL_law__281 (by rw [hn]; decide) rfl ?_
    refine y_aload_n C dL_law__283 3 rfl ?_
    refine y_aload_n C dL_law__284 1 rfl ?_
    refine y_iload C dL_law__285 5 rfl ?_
    refine y_iconst C dL_law__287 ?_
    refine y_iadd C dL_law__288 ?_
    refine y_sld C hX hbl hbA (k := k0 + 1) (by omega) (by omega) hN dL_law__289 ?_
    refine y_aload_n C dL_law__290 1 rfl ?_
    refine y_iload C dL_law__291 5 rfl ?_
    refine y_iconst C dL_law__293 ?_
    refine y_iadd C dL_law__294 ?_
    refine y_sld C hX hbl hbA (k := k0 + 2) (by omega) (by omega) hN dL_law__295 ?_
    refine y_aload_n C dL_law__296 1 rfl ?_
    refine y_iload C dL_law__297 5 rfl ?_
    refine y_iconst C dL_law__299 ?_
    refine y_iadd C dL_law__300 ?_
    refine y_sld C hX hbl hbA (k := k0 + 3) (by omega) (by omega) hN dL_law__301 ?_
    refine y_lawF (As := [Value.int (iv (xs (k0 + 1)).toInt), Value.int (iv (xs (k0 + 2)).toInt), Value.int (iv (xs (k0 + 3)).toInt)]) C hr hc hs (by decide) (by decide) cv_L_103 (fun hR' => mt_wells ns nc nl hl.1 s hs0 (xs (k0 + 1)).toInt (iv_r _) (xs (k0 + 2)).toInt (iv_r _) (xs (k0 + 3)).toInt (iv_r _)) rfl rfl dL_law__302 (fun _ => ?_) (fun q => absurd hKσ q)
    refine y_istore (L' := [(6, _), (5, _), (0, _), (1, _), (2, _), (3, _), (4, _)]) C dL_law__305 (by rw [hn]; decide) rfl ?_
    refine y_aload_n C dL_law__307 4 rfl ?_
    refine y_lawT C hr hc hs (K := 0) (by rw [hs0]; rfl) dL_law__308 ?_
    refine y_iload C dL_law__311 1 rfl ?_
    refine y_icmpE (tgt := 318) C dL_law__313 (by decide) ?_
    refine y_iload (pc := 318) C dL_law__318 1 rfl ?_
    refine y_if_ne (tgt := 335) C dL_law__320 (by decide) (by decide) (by decide) (fun c => absurd rfl c) (fun _ => ?_)
    refine y_aload_n C dL_law__323 5 rfl ?_
    refine y_iconst C dL_law__324 ?_
    refine y_lawR0 C dL_law__325 ?_
    refine y_iload C dL_law__326 0 rfl ?_
    refine y_i2lR C dL_law__328 ?_
    refine y_lcmpE C dL_law__329 ?_
    refine y_if_eq (tgt := 335) C dL_law__330 (by decide) (by decide) (by decide) (fun _ => ?_) (fun c => absurd rfl c)
    refine y_goto (pc := 335) (tgt := 1617) C dL_law__335 (by decide) ?_
    refine Y.sub [2, 3, 4, 5, 6] rfl ?_
    exact Y.imp (fun h hh => LW.good (li_wells hli hK) hlo hh) kk
  · skip
    refine y_istore (pc := 281) (L' := [(5, _), (0, _), (1, _), (2, _), (3, _), (4, _)]) C dL_law__281 (by rw [hn]; decide) rfl ?_
    refine y_aload_n C dL_law__283 3 rfl ?_
    refine y_aload_n C dL_law__284 1 rfl ?_
    refine y_iload C dL_law__285 5 rfl ?_
    refine y_iconst C dL_law__287 ?_
    refine y_iadd C dL_law__288 ?_
    refine y_sld C hX hbl hbA (k := k0 + 1) (by omega) (by omega) hN dL_law__289 ?_
    refine y_aload_n C dL_law__290 1 rfl ?_
    refine y_iload C dL_law__291 5 rfl ?_
    refine y_iconst C dL_law__293 ?_
    refine y_iadd C dL_law__294 ?_
    refine y_sld C hX hbl hbA (k := k0 + 2) (by omega) (by omega) hN dL_law__295 ?_
    refine y_aload_n C dL_law__296 1 rfl ?_
    refine y_iload C dL_law__297 5 rfl ?_
    refine y_iconst C dL_law__299 ?_
    refine y_iadd C dL_law__300 ?_
    refine y_sld C hX hbl hbA (k := k0 + 3) (by omega) (by omega) hN dL_law__301 ?_
    refine y_lawF (As := [Value.int (iv (xs (k0 + 1)).toInt), Value.int (iv (xs (k0 + 2)).toInt), Value.int (iv (xs (k0 + 3)).toInt)]) C hr hc hs (by decide) (by decide) cv_L_103 (fun hR' => mt_wells ns nc nl hl.1 s hs0 (xs (k0 + 1)).toInt (iv_r _) (xs (k0 + 2)).toInt (iv_r _) (xs (k0 + 3)).toInt (iv_r _)) rfl rfl dL_law__302 (fun q => absurd (eK.symm.trans q) hK) (fun _ => ?_)
    refine y_istore (L' := [(6, _), (5, _), (0, _), (1, _), (2, _), (3, _), (4, _)]) C dL_law__305 (by rw [hn]; decide) rfl ?_
    refine y_aload_n C dL_law__307 4 rfl ?_
    refine y_lawT C hr hc hs (K := wlK s (xs (k0 + 1)).toInt (xs (k0 + 2)).toInt (xs (k0 + 3)).toInt) (zu_s.trans eK) dL_law__308 ?_
    refine y_iload C dL_law__311 1 rfl ?_
    refine y_icmpE (tgt := 318) C dL_law__313 (by decide) ?_
    refine y_iload (pc := 318) C dL_law__318 1 rfl ?_
    refine y_if_ne (tgt := 335) C dL_law__320 (by decide) (by omega) (by omega) (fun _ => ?_) (fun c => absurd c hK)
    refine y_goto (pc := 335) (tgt := 1617) C dL_law__335 (by decide) ?_
    refine Y.sub [2, 3, 4, 5, 6] rfl ?_
    exact Y.imp (fun h hh => LW.bad hs0 hl hlo hh) kk

set_option maxHeartbeats 1000000 in
set_option maxRecDepth 20000 in
theorem lc_leak {Ω : OmT} {κ : KxT} {hR : AH} {cs sl b N x M o k0 : Nat} {xs : Nat → Int32} (C : Cx Ω κ RL cL_law_) (hn : kn κ = 8) (hr : kR κ = room_1) (hX : va_X b N xs (ks κ) (ks κ).heap) (hbl : b < (ks κ).heap.size) (hbA : ¬ OmA Ω b) (hk : k0 + 6 < N) (hN : N ≤ 100000) (hc : cs + 4 ≤ 601024) (hs : sl + 160 ≤ 7293034) (kk : Y Ω κ (LW Ω x M o) hR (cs + 4) (sl + 160) 1617 [(0, .ref b), (1, .ref x), (2, .ref M), (3, .ref o), (4, .int (iv (k0 : Nat)))] []) : Y Ω κ (LW Ω x M o) hR cs sl 338 [(0, .ref b), (1, .ref x), (2, .ref M), (3, .ref o), (4, .int (iv (k0 : Nat)))] [] := by
  refine LW.un (fun lay ma σ s τ ξ ns nc nl f hs0 hl hli hlo hx => ?_)
  subst hx
  have eK : lkK σ (xs (k0 + 1)).toInt (xs (k0 + 2)).toInt = lkK s (xs (k0 + 1)).toInt (xs (k0 + 2)).toInt := by rw [hs0]; rfl
  have hK3 : 0 ≤ lkK s (xs (k0 + 1)).toInt (xs (k0 + 2)).toInt ∧ lkK s (xs (k0 + 1)).toInt (xs (k0 + 2)).toInt ≤ 3 := by unfold lkK; (repeat' split) <;> decide
  refine y_aload_n (pc := 338) C dL_law__338 1 rfl ?_
  refine y_aload_n C dL_law__339 0 rfl ?_
  refine y_iload C dL_law__340 4 rfl ?_
  refine y_iconst C dL_law__342 ?_
  refine y_iadd C dL_law__343 ?_
  refine y_sld C hX hbl hbA (k := k0 + 1) (by omega) (by omega) hN dL_law__344 ?_
  refine y_aload_n C dL_law__345 0 rfl ?_
  refine y_iload C dL_law__346 4 rfl ?_
  refine y_iconst C dL_law__348 ?_
  refine y_iadd C dL_law__349 ?_
  refine y_sld C hX hbl hbA (k := k0 + 2) (by omega) (by omega) hN dL_law__350 ?_
  refine y_aload_n C dL_law__351 3 rfl ?_
  refine y_lawCC (n := 4) (As := [.ref (lay 0 0), Value.int (iv (xs (k0 + 1)).toInt), Value.int (iv (xs (k0 + 2)).toInt), .ref o]) C hr hc hs (by decide) (by decide) (by decide) (by decide) aw_2_144 aw_2_145 aw_1_0 aw_2_146 ⟨by decide, by decide, by decide +kernel⟩ (fun hR' => wl_leak hli.1 (Nat.le_refl _) (xs (k0 + 1)).toInt (iv_r _) (xs (k0 + 2)).toInt (iv_r _) o f) rfl rfl dL_law__352 (fun hK => ?_) (fun hK => ?_)
  · skip
    rw [hK]
    have hKσ := eK.trans hK
    refine y_istore (pc := 355) (L' := [(5, _), (0, _), (1, _), (2, _), (3, _), (4, _)]) C dL_law__355 (by rw [hn]; decide) rfl ?_
    refine y_aload_n C dL_law__357 3 rfl ?_
    refine y_aload_n C dL_law__358 1 rfl ?_
    refine y_iload C dL_law__359 5 rfl ?_
    refine y_iconst C dL_law__361 ?_
    refine y_iadd C dL_law__362 ?_
    refine y_sld C hX hbl hbA (k := k0 + 1) (by omega) (by omega) hN dL_law__363 ?_
    refine y_aload_n C dL_law__364 1 rfl ?_
    refine y_iload C dL_law__365 5 rfl ?_
    refine y_iconst C dL_law__367 ?_
    refine y_iadd C dL_law__368 ?_
    refine y_sld C hX hbl hbA (k := k0 + 2) (by omega) (by omega) hN dL_law__369 ?_
    refine y_lawF (As := [Value.int (iv (xs (k0 + 1)).toInt), Value.int (iv (xs (k0 + 2)).toInt)]) C hr hc hs (by decide) (by decide) cv_L_107 (fun hR' => mt_leak ns nc nl hl.1 s hs0 (xs (k0 + 1)).toInt (iv_r _) (xs (k0 + 2)).toInt (iv_r _)) rfl rfl dL_law__370 (fun _ => ?_) (fun q => absurd hKσ q)
    refine y_istore (L' := [(6, _), (5, _), (0, _), (1, _), (2, _), (3, _), (4, _)]) C dL_law__373 (by rw [hn]; decide) rfl ?_
    refine y_aload_n C dL_law__375 4 rfl ?_
    refine y_lawT C hr hc hs (K := 0) (by rw [hs0]; rfl) dL_law__376 ?_
    refine y_iload C dL_law__379 1 rfl ?_
    refine y_icmpE (tgt := 386) C dL_law__381 (by decide) ?_
    refine y_iload (pc := 386) C dL_law__386 1 rfl ?_
    refine y_if_ne (tgt := 403) C dL_law__388 (by decide) (by decide) (by decide) (fun c => absurd rfl c) (fun _ => ?_)
    refine y_aload_n C dL_law__391 5 rfl ?_
    refine y_iconst C dL_law__392 ?_
    refine y_lawR0 C dL_law__393 ?_
    refine y_iload C dL_law__394 0 rfl ?_
    refine y_i2lR C dL_law__396 ?_
    refine y_lcmpE C dL_law__397 ?_
    refine y_if_eq (tgt := 403) C dL_law__398 (by decide) (by decide) (by decide) (fun _ => ?_) (fun c => absurd rfl c)
    refine y_goto (pc := 403) (tgt := 1617) C dL_law__403 (by decide) ?_
    refine Y.sub [2, 3, 4, 5, 6] rfl ?_
    exact Y.imp (fun h hh => LW.good (li_leak hli hK) hlo hh) kk
  · skip
    refine y_istore (pc := 355) (L' := [(5, _), (0, _), (1, _), (2, _), (3, _), (4, _)]) C dL_law__355 (by rw [hn]; decide) rfl ?_
    refine y_aload_n C dL_law__357 3 rfl ?_
    refine y_aload_n C dL_law__358 1 rfl ?_
    refine y_iload C dL_law__359 5 rfl ?_
    refine y_iconst C dL_law__361 ?_
    refine y_iadd C dL_law__362 ?_
    refine y_sld C hX hbl hbA (k := k0 + 1) (by omega) (by omega) hN dL_law__363 ?_
    refine y_aload_n C dL_law__364 1 rfl ?_
    refine y_iload C dL_law__365 5 rfl ?_
    refine y_iconst C dL_law__367 ?_
    refine y_iadd C dL_law__368 ?_
    refine y_sld C hX hbl hbA (k := k0 + 2) (by omega) (by omega) hN dL_law__369 ?_
    refine y_lawF (As := [Value.int (iv (xs (k0 + 1)).toInt), Value.int (iv (xs (k0 + 2)).toInt)]) C hr hc hs (by decide) (by decide) cv_L_107 (fun hR' => mt_leak ns nc nl hl.1 s hs0 (xs (k0 + 1)).toInt (iv_r _) (xs (k0 + 2)).toInt (iv_r _)) rfl rfl dL_law__370 (fun q => absurd (eK.symm.trans q) hK) (fun _ => ?_)
    refine y_istore (L' := [(6, _), (5, _), (0, _), (1, _), (2, _), (3, _), (4, _)]) C dL_law__373 (by rw [hn]; decide) rfl ?_
    refine y_aload_n C dL_law__375 4 rfl ?_
    refine y_lawT C hr hc hs (K := lkK s (xs (k0 + 1)).toInt (xs (k0 + 2)).toInt) (zu_s.trans eK) dL_law__376 ?_
    refine y_iload C dL_law__379 1 rfl ?_
    refine y_icmpE (tgt := 386) C dL_law__381 (by decide) ?_
    refine y_iload (pc := 386) C dL_law__386 1 rfl ?_
    refine y_if_ne (tgt := 403) C dL_law__388 (by decide) (by omega) (by omega) (fun _ => ?_) (fun c => absurd c hK)
    refine y_goto (pc := 403) (tgt := 1617) C dL_law__403 (by decide) ?_
    refine Y.sub [2, 3, 4, 5, 6] rfl ?_
    exact Y.imp (fun h hh => LW.bad hs0 hl hlo hh) kk

set_option maxHeartbeats 1000000 in
set_option maxRecDepth 20000 in
theorem lc_leach {Ω : OmT} {κ : KxT} {hR : AH} {cs sl b N x M o k0 : Nat} {xs : Nat → Int32} (C : Cx Ω κ RL cL_law_) (hn : kn κ = 8) (hr : kR κ = room_1) (hX : va_X b N xs (ks κ) (ks κ).heap) (hbl : b < (ks κ).heap.size) (hbA : ¬ OmA Ω b) (hk : k0 + 6 < N) (hN : N ≤ 100000) (hc : cs + 4 ≤ 601024) (hs : sl + 160 ≤ 7293034) (kk : Y Ω κ (LW Ω x M o) hR (cs + 4) (sl + 160) 1617 [(0, .ref b), (1, .ref x), (2, .ref M), (3, .ref o), (4, .int (iv (k0 : Nat)))] []) : Y Ω κ (LW Ω x M o) hR cs sl 406 [(0, .ref b), (1, .ref x), (2, .ref M), (3, .ref o), (4, .int (iv (k0 : Nat)))] [] := by
  refine LW.un (fun lay ma σ s τ ξ ns nc nl f hs0 hl hli hlo hx => ?_)
  subst hx
  have eK : lcK σ (xs (k0 + 1)).toInt (xs (k0 + 2)).toInt = lcK s (xs (k0 + 1)).toInt (xs (k0 + 2)).toInt := by rw [hs0]; rfl
  have hK3 : 0 ≤ lcK s (xs (k0 + 1)).toInt (xs (k0 + 2)).toInt ∧ lcK s (xs (k0 + 1)).toInt (xs (k0 + 2)).toInt ≤ 3 := by unfold lcK; (repeat' split) <;> decide
  refine y_aload_n (pc := 406) C dL_law__406 1 rfl ?_
  refine y_aload_n C dL_law__407 0 rfl ?_
  refine y_iload C dL_law__408 4 rfl ?_
  refine y_iconst C dL_law__410 ?_
  refine y_iadd C dL_law__411 ?_
  refine y_sld C hX hbl hbA (k := k0 + 1) (by omega) (by omega) hN dL_law__412 ?_
  refine y_aload_n C dL_law__413 0 rfl ?_
  refine y_iload C dL_law__414 4 rfl ?_
  refine y_iconst C dL_law__416 ?_
  refine y_iadd C dL_law__417 ?_
  refine y_sld C hX hbl hbA (k := k0 + 2) (by omega) (by omega) hN dL_law__418 ?_
  refine y_aload_n C dL_law__419 3 rfl ?_
  refine y_lawCC (n := 4) (As := [.ref (lay 0 0), Value.int (iv (xs (k0 + 1)).toInt), Value.int (iv (xs (k0 + 2)).toInt), .ref o]) C hr hc hs (by decide) (by decide) (by decide) (by decide) aw_2_152 aw_2_153 aw_1_0 aw_2_154 ⟨by decide, by decide, by decide +kernel⟩ (fun hR' => wl_leach hli.1 (Nat.le_refl _) (xs (k0 + 1)).toInt (iv_r _) (xs (k0 + 2)).toInt (iv_r _) o f) rfl rfl dL_law__420 (fun hK => ?_) (fun hK => ?_)
  · skip
    rw [hK]
    have hKσ := eK.trans hK
    refine y_istore (pc := 423) (L' := [(5, _), (0, _), (1, _), (2, _), (3, _), (4, _)]) C dL_law__423 (by rw [hn]; decide) rfl ?_
    refine y_aload_n C dL_law__425 3 rfl ?_
    refine y_aload_n C dL_law__426 1 rfl ?_
    refine y_iload C dL_law__427 5 rfl ?_
    refine y_iconst C dL_law__429 ?_
    refine y_iadd C dL_law__430 ?_
    refine y_sld C hX hbl hbA (k := k0 + 1) (by omega) (by omega) hN dL_law__431 ?_
    refine y_aload_n C dL_law__432 1 rfl ?_
    refine y_iload C dL_law__433 5 rfl ?_
    refine y_iconst C dL_law__435 ?_
    refine y_iadd C dL_law__436 ?_
    refine y_sld C hX hbl hbA (k := k0 + 2) (by omega) (by omega) hN dL_law__437 ?_
    refine y_lawF (As := [Value.int (iv (xs (k0 + 1)).toInt), Value.int (iv (xs (k0 + 2)).toInt)]) C hr hc hs (by decide) (by decide) cv_L_110 (fun hR' => mt_leach ns nc nl hl.1 s hs0 (xs (k0 + 1)).toInt (iv_r _) (xs (k0 + 2)).toInt (iv_r _)) rfl rfl dL_law__438 (fun _ => ?_) (fun q => absurd hKσ q)
    refine y_istore (L' := [(6, _), (5, _), (0, _), (1, _), (2, _), (3, _), (4, _)]) C dL_law__441 (by rw [hn]; decide) rfl ?_
    refine y_aload_n C dL_law__443 4 rfl ?_
    refine y_lawT C hr hc hs (K := 0) (by rw [hs0]; rfl) dL_law__444 ?_
    refine y_iload C dL_law__447 1 rfl ?_
    refine y_icmpE (tgt := 454) C dL_law__449 (by decide) ?_
    refine y_iload (pc := 454) C dL_law__454 1 rfl ?_
    refine y_if_ne (tgt := 471) C dL_law__456 (by decide) (by decide) (by decide) (fun c => absurd rfl c) (fun _ => ?_)
    refine y_aload_n C dL_law__459 5 rfl ?_
    refine y_iconst C dL_law__460 ?_
    refine y_lawR0 C dL_law__461 ?_
    refine y_iload C dL_law__462 0 rfl ?_
    refine y_i2lR C dL_law__464 ?_
    refine y_lcmpE C dL_law__465 ?_
    refine y_if_eq (tgt := 471) C dL_law__466 (by decide) (by decide) (by decide) (fun _ => ?_) (fun c => absurd rfl c)
    refine y_goto (pc := 471) (tgt := 1617) C dL_law__471 (by decide) ?_
    refine Y.sub [2, 3, 4, 5, 6] rfl ?_
    exact Y.imp (fun h hh => LW.good (li_leach hli hK) hlo hh) kk
  · skip
    refine y_istore (pc := 423) (L' := [(5, _), (0, _), (1, _), (2, _), (3, _), (4, _)]) C dL_law__423 (by rw [hn]; decide) rfl ?_
    refine y_aload_n C dL_law__425 3 rfl ?_
    refine y_aload_n C dL_law__426 1 rfl ?_
    refine y_iload C dL_law__427 5 rfl ?_
    refine y_iconst C dL_law__429 ?_
    refine y_iadd C dL_law__430 ?_
    refine y_sld C hX hbl hbA (k := k0 + 1) (by omega) (by omega) hN dL_law__431 ?_
    refine y_aload_n C dL_law__432 1 rfl ?_
    refine y_iload C dL_law__433 5 rfl ?_
    refine y_iconst C dL_law__435 ?_
    refine y_iadd C dL_law__436 ?_
    refine y_sld C hX hbl hbA (k := k0 + 2) (by omega) (by omega) hN dL_law__437 ?_
    refine y_lawF (As := [Value.int (iv (xs (k0 + 1)).toInt), Value.int (iv (xs (k0 + 2)).toInt)]) C hr hc hs (by decide) (by decide) cv_L_110 (fun hR' => mt_leach ns nc nl hl.1 s hs0 (xs (k0 + 1)).toInt (iv_r _) (xs (k0 + 2)).toInt (iv_r _)) rfl rfl dL_law__438 (fun q => absurd (eK.symm.trans q) hK) (fun _ => ?_)
    refine y_istore (L' := [(6, _), (5, _), (0, _), (1, _), (2, _), (3, _), (4, _)]) C dL_law__441 (by rw [hn]; decide) rfl ?_
    refine y_aload_n C dL_law__443 4 rfl ?_
    refine y_lawT C hr hc hs (K := lcK s (xs (k0 + 1)).toInt (xs (k0 + 2)).toInt) (zu_s.trans eK) dL_law__444 ?_
    refine y_iload C dL_law__447 1 rfl ?_
    refine y_icmpE (tgt := 454) C dL_law__449 (by decide) ?_
    refine y_iload (pc := 454) C dL_law__454 1 rfl ?_
    refine y_if_ne (tgt := 471) C dL_law__456 (by decide) (by omega) (by omega) (fun _ => ?_) (fun c => absurd c hK)
    refine y_goto (pc := 471) (tgt := 1617) C dL_law__471 (by decide) ?_
    refine Y.sub [2, 3, 4, 5, 6] rfl ?_
    exact Y.imp (fun h hh => LW.bad hs0 hl hlo hh) kk

set_option maxHeartbeats 1000000 in
set_option maxRecDepth 20000 in
theorem lc_heat {Ω : OmT} {κ : KxT} {hR : AH} {cs sl b N x M o k0 : Nat} {xs : Nat → Int32} (C : Cx Ω κ RL cL_law_) (hn : kn κ = 8) (hr : kR κ = room_1) (hX : va_X b N xs (ks κ) (ks κ).heap) (hbl : b < (ks κ).heap.size) (hbA : ¬ OmA Ω b) (hk : k0 + 6 < N) (hN : N ≤ 100000) (hc : cs + 4 ≤ 601024) (hs : sl + 160 ≤ 7293034) (kk : Y Ω κ (LW Ω x M o) hR (cs + 4) (sl + 160) 1617 [(0, .ref b), (1, .ref x), (2, .ref M), (3, .ref o), (4, .int (iv (k0 : Nat)))] []) : Y Ω κ (LW Ω x M o) hR cs sl 474 [(0, .ref b), (1, .ref x), (2, .ref M), (3, .ref o), (4, .int (iv (k0 : Nat)))] [] := by
  refine LW.un (fun lay ma σ s τ ξ ns nc nl f hs0 hl hli hlo hx => ?_)
  subst hx
  have eK : htK (xs (k0 + 1)).toInt = htK (xs (k0 + 1)).toInt := rfl
  have hK3 : 0 ≤ htK (xs (k0 + 1)).toInt ∧ htK (xs (k0 + 1)).toInt ≤ 3 := by unfold htK; (repeat' split) <;> decide
  refine y_aload_n (pc := 474) C dL_law__474 1 rfl ?_
  refine y_aload_n C dL_law__475 0 rfl ?_
  refine y_iload C dL_law__476 4 rfl ?_
  refine y_iconst C dL_law__478 ?_
  refine y_iadd C dL_law__479 ?_
  refine y_sld C hX hbl hbA (k := k0 + 1) (by omega) (by omega) hN dL_law__480 ?_
  refine y_aload_n C dL_law__481 3 rfl ?_
  refine y_lawCC (n := 3) (As := [.ref (lay 0 0), Value.int (iv (xs (k0 + 1)).toInt), .ref o]) C hr hc hs (by decide) (by decide) (by decide) (by decide) aw_2_161 aw_2_162 aw_1_0 aw_2_163 ⟨by decide, by decide, by decide +kernel⟩ (fun hR' => wl_heat hli.1 (Nat.le_refl _) (xs (k0 + 1)).toInt (iv_r _) o f) rfl rfl dL_law__482 (fun hK => ?_) (fun hK => ?_)
  · skip
    rw [hK]
    have hKσ := eK.trans hK
    refine y_istore (pc := 485) (L' := [(5, _), (0, _), (1, _), (2, _), (3, _), (4, _)]) C dL_law__485 (by rw [hn]; decide) rfl ?_
    refine y_aload_n C dL_law__487 3 rfl ?_
    refine y_aload_n C dL_law__488 1 rfl ?_
    refine y_iload C dL_law__489 5 rfl ?_
    refine y_iconst C dL_law__491 ?_
    refine y_iadd C dL_law__492 ?_
    refine y_sld C hX hbl hbA (k := k0 + 1) (by omega) (by omega) hN dL_law__493 ?_
    refine y_lawF (As := [Value.int (iv (xs (k0 + 1)).toInt)]) C hr hc hs (by decide) (by decide) cv_L_114 (fun hR' => mt_heat ns nc nl hl.1 s hs0 (xs (k0 + 1)).toInt (iv_r _)) rfl rfl dL_law__494 (fun _ => ?_) (fun q => absurd hKσ q)
    refine y_istore (L' := [(6, _), (5, _), (0, _), (1, _), (2, _), (3, _), (4, _)]) C dL_law__497 (by rw [hn]; decide) rfl ?_
    refine y_aload_n C dL_law__499 4 rfl ?_
    refine y_lawT C hr hc hs (K := 0) (by rw [hs0]; rfl) dL_law__500 ?_
    refine y_iload C dL_law__503 1 rfl ?_
    refine y_icmpE (tgt := 510) C dL_law__505 (by decide) ?_
    refine y_iload (pc := 510) C dL_law__510 1 rfl ?_
    refine y_if_ne (tgt := 527) C dL_law__512 (by decide) (by decide) (by decide) (fun c => absurd rfl c) (fun _ => ?_)
    refine y_aload_n C dL_law__515 5 rfl ?_
    refine y_iconst C dL_law__516 ?_
    refine y_lawR0 C dL_law__517 ?_
    refine y_iload C dL_law__518 0 rfl ?_
    refine y_i2lR C dL_law__520 ?_
    refine y_lcmpE C dL_law__521 ?_
    refine y_if_eq (tgt := 527) C dL_law__522 (by decide) (by decide) (by decide) (fun _ => ?_) (fun c => absurd rfl c)
    refine y_goto (pc := 527) (tgt := 1617) C dL_law__527 (by decide) ?_
    refine Y.sub [2, 3, 4, 5, 6] rfl ?_
    exact Y.imp (fun h hh => LW.good (li_heat hli hK) hlo hh) kk
  · skip
    refine y_istore (pc := 485) (L' := [(5, _), (0, _), (1, _), (2, _), (3, _), (4, _)]) C dL_law__485 (by rw [hn]; decide) rfl ?_
    refine y_aload_n C dL_law__487 3 rfl ?_
    refine y_aload_n C dL_law__488 1 rfl ?_
    refine y_iload C dL_law__489 5 rfl ?_
    refine y_iconst C dL_law__491 ?_
    refine y_iadd C dL_law__492 ?_
    refine y_sld C hX hbl hbA (k := k0 + 1) (by omega) (by omega) hN dL_law__493 ?_
    refine y_lawF (As := [Value.int (iv (xs (k0 + 1)).toInt)]) C hr hc hs (by decide) (by decide) cv_L_114 (fun hR' => mt_heat ns nc nl hl.1 s hs0 (xs (k0 + 1)).toInt (iv_r _)) rfl rfl dL_law__494 (fun q => absurd (eK.symm.trans q) hK) (fun _ => ?_)
    refine y_istore (L' := [(6, _), (5, _), (0, _), (1, _), (2, _), (3, _), (4, _)]) C dL_law__497 (by rw [hn]; decide) rfl ?_
    refine y_aload_n C dL_law__499 4 rfl ?_
    refine y_lawT C hr hc hs (K := htK (xs (k0 + 1)).toInt) (zu_s.trans eK) dL_law__500 ?_
    refine y_iload C dL_law__503 1 rfl ?_
    refine y_icmpE (tgt := 510) C dL_law__505 (by decide) ?_
    refine y_iload (pc := 510) C dL_law__510 1 rfl ?_
    refine y_if_ne (tgt := 527) C dL_law__512 (by decide) (by omega) (by omega) (fun _ => ?_) (fun c => absurd c hK)
    refine y_goto (pc := 527) (tgt := 1617) C dL_law__527 (by decide) ?_
    refine Y.sub [2, 3, 4, 5, 6] rfl ?_
    exact Y.imp (fun h hh => LW.bad hs0 hl hlo hh) kk

set_option maxHeartbeats 1000000 in
set_option maxRecDepth 20000 in
theorem lc_customer {Ω : OmT} {κ : KxT} {hR : AH} {cs sl b N x M o k0 : Nat} {xs : Nat → Int32} (C : Cx Ω κ RL cL_law_) (hn : kn κ = 8) (hr : kR κ = room_1) (hX : va_X b N xs (ks κ) (ks κ).heap) (hbl : b < (ks κ).heap.size) (hbA : ¬ OmA Ω b) (hk : k0 + 6 < N) (hN : N ≤ 100000) (hc : cs + 4 ≤ 601024) (hs : sl + 160 ≤ 7293034) (kk : Y Ω κ (LW Ω x M o) hR (cs + 4) (sl + 160) 1617 [(0, .ref b), (1, .ref x), (2, .ref M), (3, .ref o), (4, .int (iv (k0 : Nat)))] []) : Y Ω κ (LW Ω x M o) hR cs sl 530 [(0, .ref b), (1, .ref x), (2, .ref M), (3, .ref o), (4, .int (iv (k0 : Nat)))] [] := by
  refine LW.un (fun lay ma σ s τ ξ ns nc nl f hs0 hl hli hlo hx => ?_)
  subst hx
  have eK : cuK σ (xs (k0 + 1)).toInt (xs (k0 + 2)).toInt (xs (k0 + 3)).toInt (xs (k0 + 4)).toInt = cuK s (xs (k0 + 1)).toInt (xs (k0 + 2)).toInt (xs (k0 + 3)).toInt (xs (k0 + 4)).toInt := by rw [hs0]; rfl
  have hK3 : 0 ≤ cuK s (xs (k0 + 1)).toInt (xs (k0 + 2)).toInt (xs (k0 + 3)).toInt (xs (k0 + 4)).toInt ∧ cuK s (xs (k0 + 1)).toInt (xs (k0 + 2)).toInt (xs (k0 + 3)).toInt (xs (k0 + 4)).toInt ≤ 3 := by unfold cuK; (repeat' split) <;> decide
  refine y_aload_n (pc := 530) C dL_law__530 1 rfl ?_
  refine y_aload_n C dL_law__531 0 rfl ?_
  refine y_iload C dL_law__532 4 rfl ?_
  refine y_iconst C dL_law__534 ?_
  refine y_iadd C dL_law__535 ?_
  refine y_sld C hX hbl hbA (k := k0 + 1) (by omega) (by omega) hN dL_law__536 ?_
  refine y_aload_n C dL_law__537 0 rfl ?_
  refine y_iload C dL_law__538 4 rfl ?_
  refine y_iconst C dL_law__540 ?_
  refine y_iadd C dL_law__541 ?_
  refine y_sld C hX hbl hbA (k := k0 + 2) (by omega) (by omega) hN dL_law__542 ?_
  refine y_aload_n C dL_law__543 0 rfl ?_
  refine y_iload C dL_law__544 4 rfl ?_
  refine y_iconst C dL_law__546 ?_
  refine y_iadd C dL_law__547 ?_
  refine y_sld C hX hbl hbA (k := k0 + 3) (by omega) (by omega) hN dL_law__548 ?_
  refine y_aload_n C dL_law__549 0 rfl ?_
  refine y_iload C dL_law__550 4 rfl ?_
  refine y_iconst C dL_law__552 ?_
  refine y_iadd C dL_law__553 ?_
  refine y_sld C hX hbl hbA (k := k0 + 4) (by omega) (by omega) hN dL_law__554 ?_
  refine y_aload_n C dL_law__555 3 rfl ?_
  refine y_lawCC (n := 6) (As := [.ref (lay 0 0), Value.int (iv (xs (k0 + 1)).toInt), Value.int (iv (xs (k0 + 2)).toInt), Value.int (iv (xs (k0 + 3)).toInt), Value.int (iv (xs (k0 + 4)).toInt), .ref o]) C hr hc hs (by decide) (by decide) (by decide) (by decide) aw_2_169 aw_2_170 aw_1_0 aw_2_171 ⟨by decide, by decide, by decide +kernel⟩ (fun hR' => wl_customer hli.1 (Nat.le_refl _) hlo hli.2.2.1 (xs (k0 + 1)).toInt (iv_r _) (xs (k0 + 2)).toInt (iv_r _) (xs (k0 + 3)).toInt (iv_r _) (xs (k0 + 4)).toInt (iv_r _) o f) rfl rfl dL_law__556 (fun hK => ?_) (fun hK => ?_)
  · skip
    rw [hK]
    have hKσ := eK.trans hK
    refine y_istore (pc := 559) (L' := [(5, _), (0, _), (1, _), (2, _), (3, _), (4, _)]) C dL_law__559 (by rw [hn]; decide) rfl ?_
    refine y_aload_n C dL_law__561 3 rfl ?_
    refine y_aload_n C dL_law__562 1 rfl ?_
    refine y_iload C dL_law__563 5 rfl ?_
    refine y_iconst C dL_law__565 ?_
    refine y_iadd C dL_law__566 ?_
    refine y_sld C hX hbl hbA (k := k0 + 1) (by omega) (by omega) hN dL_law__567 ?_
    refine y_aload_n C dL_law__568 1 rfl ?_
    refine y_iload C dL_law__569 5 rfl ?_
    refine y_iconst C dL_law__571 ?_
    refine y_iadd C dL_law__572 ?_
    refine y_sld C hX hbl hbA (k := k0 + 2) (by omega) (by omega) hN dL_law__573 ?_
    refine y_aload_n C dL_law__574 1 rfl ?_
    refine y_iload C dL_law__575 5 rfl ?_
    refine y_iconst C dL_law__577 ?_
    refine y_iadd C dL_law__578 ?_
    refine y_sld C hX hbl hbA (k := k0 + 3) (by omega) (by omega) hN dL_law__579 ?_
    refine y_aload_n C dL_law__580 1 rfl ?_
    refine y_iload C dL_law__581 5 rfl ?_
    refine y_iconst C dL_law__583 ?_
    refine y_iadd C dL_law__584 ?_
    refine y_sld C hX hbl hbA (k := k0 + 4) (by omega) (by omega) hN dL_law__585 ?_
    refine y_lawF (As := [Value.int (iv (xs (k0 + 1)).toInt), Value.int (iv (xs (k0 + 2)).toInt), Value.int (iv (xs (k0 + 3)).toInt), Value.int (iv (xs (k0 + 4)).toInt)]) C hr hc hs (by decide) (by decide) cv_L_118 (fun hR' => mt_customer ns nc nl hl.1 s hs0 (xs (k0 + 1)).toInt (iv_r _) (xs (k0 + 2)).toInt (iv_r _) (xs (k0 + 3)).toInt (iv_r _) (xs (k0 + 4)).toInt (iv_r _)) rfl rfl dL_law__586 (fun _ => ?_) (fun q => absurd hKσ q)
    refine y_istore (L' := [(6, _), (5, _), (0, _), (1, _), (2, _), (3, _), (4, _)]) C dL_law__589 (by rw [hn]; decide) rfl ?_
    refine y_aload_n C dL_law__591 4 rfl ?_
    refine y_lawT C hr hc hs (K := 0) (by rw [hs0]; rfl) dL_law__592 ?_
    refine y_iload C dL_law__595 1 rfl ?_
    refine y_icmpE (tgt := 602) C dL_law__597 (by decide) ?_
    refine y_iload (pc := 602) C dL_law__602 1 rfl ?_
    refine y_if_ne (tgt := 619) C dL_law__604 (by decide) (by decide) (by decide) (fun c => absurd rfl c) (fun _ => ?_)
    refine y_aload_n C dL_law__607 5 rfl ?_
    refine y_iconst C dL_law__608 ?_
    refine y_lawR0 C dL_law__609 ?_
    refine y_iload C dL_law__610 0 rfl ?_
    refine y_i2lR C dL_law__612 ?_
    refine y_lcmpE C dL_law__613 ?_
    refine y_if_eq (tgt := 619) C dL_law__614 (by decide) (by decide) (by decide) (fun _ => ?_) (fun c => absurd rfl c)
    refine y_goto (pc := 619) (tgt := 1617) C dL_law__619 (by decide) ?_
    refine Y.sub [2, 3, 4, 5, 6] rfl ?_
    exact Y.imp (fun h hh => LW.good2 (li_customer hli hK) hh) kk
  · skip
    refine y_istore (pc := 559) (L' := [(5, _), (0, _), (1, _), (2, _), (3, _), (4, _)]) C dL_law__559 (by rw [hn]; decide) rfl ?_
    refine y_aload_n C dL_law__561 3 rfl ?_
    refine y_aload_n C dL_law__562 1 rfl ?_
    refine y_iload C dL_law__563 5 rfl ?_
    refine y_iconst C dL_law__565 ?_
    refine y_iadd C dL_law__566 ?_
    refine y_sld C hX hbl hbA (k := k0 + 1) (by omega) (by omega) hN dL_law__567 ?_
    refine y_aload_n C dL_law__568 1 rfl ?_
    refine y_iload C dL_law__569 5 rfl ?_
    refine y_iconst C dL_law__571 ?_
    refine y_iadd C dL_law__572 ?_
    refine y_sld C hX hbl hbA (k := k0 + 2) (by omega) (by omega) hN dL_law__573 ?_
    refine y_aload_n C dL_law__574 1 rfl ?_
    refine y_iload C dL_law__575 5 rfl ?_
    refine y_iconst C dL_law__577 ?_
    refine y_iadd C dL_law__578 ?_
    refine y_sld C hX hbl hbA (k := k0 + 3) (by omega) (by omega) hN dL_law__579 ?_
    refine y_aload_n C dL_law__580 1 rfl ?_
    refine y_iload C dL_law__581 5 rfl ?_
    refine y_iconst C dL_law__583 ?_
    refine y_iadd C dL_law__584 ?_
    refine y_sld C hX hbl hbA (k := k0 + 4) (by omega) (by omega) hN dL_law__585 ?_
    refine y_lawF (As := [Value.int (iv (xs (k0 + 1)).toInt), Value.int (iv (xs (k0 + 2)).toInt), Value.int (iv (xs (k0 + 3)).toInt), Value.int (iv (xs (k0 + 4)).toInt)]) C hr hc hs (by decide) (by decide) cv_L_118 (fun hR' => mt_customer ns nc nl hl.1 s hs0 (xs (k0 + 1)).toInt (iv_r _) (xs (k0 + 2)).toInt (iv_r _) (xs (k0 + 3)).toInt (iv_r _) (xs (k0 + 4)).toInt (iv_r _)) rfl rfl dL_law__586 (fun q => absurd (eK.symm.trans q) hK) (fun _ => ?_)
    refine y_istore (L' := [(6, _), (5, _), (0, _), (1, _), (2, _), (3, _), (4, _)]) C dL_law__589 (by rw [hn]; decide) rfl ?_
    refine y_aload_n C dL_law__591 4 rfl ?_
    refine y_lawT C hr hc hs (K := cuK s (xs (k0 + 1)).toInt (xs (k0 + 2)).toInt (xs (k0 + 3)).toInt (xs (k0 + 4)).toInt) (zu_s.trans eK) dL_law__592 ?_
    refine y_iload C dL_law__595 1 rfl ?_
    refine y_icmpE (tgt := 602) C dL_law__597 (by decide) ?_
    refine y_iload (pc := 602) C dL_law__602 1 rfl ?_
    refine y_if_ne (tgt := 619) C dL_law__604 (by decide) (by omega) (by omega) (fun _ => ?_) (fun c => absurd c hK)
    refine y_goto (pc := 619) (tgt := 1617) C dL_law__619 (by decide) ?_
    refine Y.sub [2, 3, 4, 5, 6] rfl ?_
    exact Y.imp (fun h hh => LW.bad hs0 hl hlo hh) kk

set_option maxHeartbeats 1000000 in
set_option maxRecDepth 20000 in
theorem lc_nominate {Ω : OmT} {κ : KxT} {hR : AH} {cs sl b N x M o k0 : Nat} {xs : Nat → Int32} (C : Cx Ω κ RL cL_law_) (hn : kn κ = 8) (hr : kR κ = room_1) (hX : va_X b N xs (ks κ) (ks κ).heap) (hbl : b < (ks κ).heap.size) (hbA : ¬ OmA Ω b) (hk : k0 + 6 < N) (hN : N ≤ 100000) (hc : cs + 4 ≤ 601024) (hs : sl + 160 ≤ 7293034) (kk : Y Ω κ (LW Ω x M o) hR (cs + 4) (sl + 160) 1617 [(0, .ref b), (1, .ref x), (2, .ref M), (3, .ref o), (4, .int (iv (k0 : Nat)))] []) : Y Ω κ (LW Ω x M o) hR cs sl 622 [(0, .ref b), (1, .ref x), (2, .ref M), (3, .ref o), (4, .int (iv (k0 : Nat)))] [] := by
  refine LW.un (fun lay ma σ s τ ξ ns nc nl f hs0 hl hli hlo hx => ?_)
  subst hx
  have eK : nmK σ (xs (k0 + 1)).toInt (xs (k0 + 2)).toInt (xs (k0 + 3)).toInt = nmK s (xs (k0 + 1)).toInt (xs (k0 + 2)).toInt (xs (k0 + 3)).toInt := by rw [hs0]; rfl
  have hK3 : 0 ≤ nmK s (xs (k0 + 1)).toInt (xs (k0 + 2)).toInt (xs (k0 + 3)).toInt ∧ nmK s (xs (k0 + 1)).toInt (xs (k0 + 2)).toInt (xs (k0 + 3)).toInt ≤ 3 := by unfold nmK; (repeat' split) <;> decide
  refine y_aload_n (pc := 622) C dL_law__622 1 rfl ?_
  refine y_aload_n C dL_law__623 0 rfl ?_
  refine y_iload C dL_law__624 4 rfl ?_
  refine y_iconst C dL_law__626 ?_
  refine y_iadd C dL_law__627 ?_
  refine y_sld C hX hbl hbA (k := k0 + 1) (by omega) (by omega) hN dL_law__628 ?_
  refine y_aload_n C dL_law__629 0 rfl ?_
  refine y_iload C dL_law__630 4 rfl ?_
  refine y_iconst C dL_law__632 ?_
  refine y_iadd C dL_law__633 ?_
  refine y_sld C hX hbl hbA (k := k0 + 2) (by omega) (by omega) hN dL_law__634 ?_
  refine y_aload_n C dL_law__635 0 rfl ?_
  refine y_iload C dL_law__636 4 rfl ?_
  refine y_iconst C dL_law__638 ?_
  refine y_iadd C dL_law__639 ?_
  refine y_sld C hX hbl hbA (k := k0 + 3) (by omega) (by omega) hN dL_law__640 ?_
  refine y_aload_n C dL_law__641 3 rfl ?_
  refine y_lawCC (n := 5) (As := [.ref (lay 0 0), Value.int (iv (xs (k0 + 1)).toInt), Value.int (iv (xs (k0 + 2)).toInt), Value.int (iv (xs (k0 + 3)).toInt), .ref o]) C hr hc hs (by decide) (by decide) (by decide) (by decide) aw_2_232 aw_2_233 aw_1_0 aw_2_234 ⟨by decide, by decide, by decide +kernel⟩ (fun hR' => wl_nominate hli.1 (Nat.le_refl _) (xs (k0 + 1)).toInt (iv_r _) (xs (k0 + 2)).toInt (iv_r _) (xs (k0 + 3)).toInt (iv_r _) o f) rfl rfl dL_law__642 (fun hK => ?_) (fun hK => ?_)
  · skip
    rw [hK]
    have hKσ := eK.trans hK
    refine y_istore (pc := 645) (L' := [(5, _), (0, _), (1, _), (2, _), (3, _), (4, _)]) C dL_law__645 (by rw [hn]; decide) rfl ?_
    refine y_aload_n C dL_law__647 3 rfl ?_
    refine y_aload_n C dL_law__648 1 rfl ?_
    refine y_iload C dL_law__649 5 rfl ?_
    refine y_iconst C dL_law__651 ?_
    refine y_iadd C dL_law__652 ?_
    refine y_sld C hX hbl hbA (k := k0 + 1) (by omega) (by omega) hN dL_law__653 ?_
    refine y_aload_n C dL_law__654 1 rfl ?_
    refine y_iload C dL_law__655 5 rfl ?_
    refine y_iconst C dL_law__657 ?_
    refine y_iadd C dL_law__658 ?_
    refine y_sld C hX hbl hbA (k := k0 + 2) (by omega) (by omega) hN dL_law__659 ?_
    refine y_aload_n C dL_law__660 1 rfl ?_
    refine y_iload C dL_law__661 5 rfl ?_
    refine y_iconst C dL_law__663 ?_
    refine y_iadd C dL_law__664 ?_
    refine y_sld C hX hbl hbA (k := k0 + 3) (by omega) (by omega) hN dL_law__665 ?_
    refine y_lawF (As := [Value.int (iv (xs (k0 + 1)).toInt), Value.int (iv (xs (k0 + 2)).toInt), Value.int (iv (xs (k0 + 3)).toInt)]) C hr hc hs (by decide) (by decide) cv_L_121 (fun hR' => mt_nominate ns nc nl hl.1 s hs0 (xs (k0 + 1)).toInt (iv_r _) (xs (k0 + 2)).toInt (iv_r _) (xs (k0 + 3)).toInt (iv_r _)) rfl rfl dL_law__666 (fun _ => ?_) (fun q => absurd hKσ q)
    refine y_istore (L' := [(6, _), (5, _), (0, _), (1, _), (2, _), (3, _), (4, _)]) C dL_law__669 (by rw [hn]; decide) rfl ?_
    refine y_aload_n C dL_law__671 4 rfl ?_
    refine y_lawT C hr hc hs (K := 0) (by rw [hs0]; rfl) dL_law__672 ?_
    refine y_iload C dL_law__675 1 rfl ?_
    refine y_icmpE (tgt := 682) C dL_law__677 (by decide) ?_
    refine y_iload (pc := 682) C dL_law__682 1 rfl ?_
    refine y_if_ne (tgt := 699) C dL_law__684 (by decide) (by decide) (by decide) (fun c => absurd rfl c) (fun _ => ?_)
    refine y_aload_n C dL_law__687 5 rfl ?_
    refine y_iconst C dL_law__688 ?_
    refine y_lawR0 C dL_law__689 ?_
    refine y_iload C dL_law__690 0 rfl ?_
    refine y_i2lR C dL_law__692 ?_
    refine y_lcmpE C dL_law__693 ?_
    refine y_if_eq (tgt := 699) C dL_law__694 (by decide) (by decide) (by decide) (fun _ => ?_) (fun c => absurd rfl c)
    refine y_goto (pc := 699) (tgt := 1617) C dL_law__699 (by decide) ?_
    refine Y.sub [2, 3, 4, 5, 6] rfl ?_
    exact Y.imp (fun h hh => LW.good (li_nominate hli hK) hlo hh) kk
  · skip
    refine y_istore (pc := 645) (L' := [(5, _), (0, _), (1, _), (2, _), (3, _), (4, _)]) C dL_law__645 (by rw [hn]; decide) rfl ?_
    refine y_aload_n C dL_law__647 3 rfl ?_
    refine y_aload_n C dL_law__648 1 rfl ?_
    refine y_iload C dL_law__649 5 rfl ?_
    refine y_iconst C dL_law__651 ?_
    refine y_iadd C dL_law__652 ?_
    refine y_sld C hX hbl hbA (k := k0 + 1) (by omega) (by omega) hN dL_law__653 ?_
    refine y_aload_n C dL_law__654 1 rfl ?_
    refine y_iload C dL_law__655 5 rfl ?_
    refine y_iconst C dL_law__657 ?_
    refine y_iadd C dL_law__658 ?_
    refine y_sld C hX hbl hbA (k := k0 + 2) (by omega) (by omega) hN dL_law__659 ?_
    refine y_aload_n C dL_law__660 1 rfl ?_
    refine y_iload C dL_law__661 5 rfl ?_
    refine y_iconst C dL_law__663 ?_
    refine y_iadd C dL_law__664 ?_
    refine y_sld C hX hbl hbA (k := k0 + 3) (by omega) (by omega) hN dL_law__665 ?_
    refine y_lawF (As := [Value.int (iv (xs (k0 + 1)).toInt), Value.int (iv (xs (k0 + 2)).toInt), Value.int (iv (xs (k0 + 3)).toInt)]) C hr hc hs (by decide) (by decide) cv_L_121 (fun hR' => mt_nominate ns nc nl hl.1 s hs0 (xs (k0 + 1)).toInt (iv_r _) (xs (k0 + 2)).toInt (iv_r _) (xs (k0 + 3)).toInt (iv_r _)) rfl rfl dL_law__666 (fun q => absurd (eK.symm.trans q) hK) (fun _ => ?_)
    refine y_istore (L' := [(6, _), (5, _), (0, _), (1, _), (2, _), (3, _), (4, _)]) C dL_law__669 (by rw [hn]; decide) rfl ?_
    refine y_aload_n C dL_law__671 4 rfl ?_
    refine y_lawT C hr hc hs (K := nmK s (xs (k0 + 1)).toInt (xs (k0 + 2)).toInt (xs (k0 + 3)).toInt) (zu_s.trans eK) dL_law__672 ?_
    refine y_iload C dL_law__675 1 rfl ?_
    refine y_icmpE (tgt := 682) C dL_law__677 (by decide) ?_
    refine y_iload (pc := 682) C dL_law__682 1 rfl ?_
    refine y_if_ne (tgt := 699) C dL_law__684 (by decide) (by omega) (by omega) (fun _ => ?_) (fun c => absurd c hK)
    refine y_goto (pc := 699) (tgt := 1617) C dL_law__699 (by decide) ?_
    refine Y.sub [2, 3, 4, 5, 6] rfl ?_
    exact Y.imp (fun h hh => LW.bad hs0 hl hlo hh) kk

set_option maxHeartbeats 1000000 in
set_option maxRecDepth 20000 in
theorem lc_transfer {Ω : OmT} {κ : KxT} {hR : AH} {cs sl b N x M o k0 : Nat} {xs : Nat → Int32} (C : Cx Ω κ RL cL_law_) (hn : kn κ = 8) (hr : kR κ = room_1) (hX : va_X b N xs (ks κ) (ks κ).heap) (hbl : b < (ks κ).heap.size) (hbA : ¬ OmA Ω b) (hk : k0 + 6 < N) (hN : N ≤ 100000) (hc : cs + 4 ≤ 601024) (hs : sl + 160 ≤ 7293034) (kk : Y Ω κ (LW Ω x M o) hR (cs + 4) (sl + 160) 1617 [(0, .ref b), (1, .ref x), (2, .ref M), (3, .ref o), (4, .int (iv (k0 : Nat)))] []) : Y Ω κ (LW Ω x M o) hR cs sl 702 [(0, .ref b), (1, .ref x), (2, .ref M), (3, .ref o), (4, .int (iv (k0 : Nat)))] [] := by
  refine LW.un (fun lay ma σ s τ ξ ns nc nl f hs0 hl hli hlo hx => ?_)
  subst hx
  have eK : trK σ (xs (k0 + 1)).toInt (xs (k0 + 2)).toInt (xs (k0 + 3)).toInt = trK s (xs (k0 + 1)).toInt (xs (k0 + 2)).toInt (xs (k0 + 3)).toInt := by rw [hs0]; rfl
  have hK3 : 0 ≤ trK s (xs (k0 + 1)).toInt (xs (k0 + 2)).toInt (xs (k0 + 3)).toInt ∧ trK s (xs (k0 + 1)).toInt (xs (k0 + 2)).toInt (xs (k0 + 3)).toInt ≤ 3 := by unfold trK; (repeat' split) <;> decide
  refine y_aload_n (pc := 702) C dL_law__702 1 rfl ?_
  refine y_aload_n C dL_law__703 0 rfl ?_
  refine y_iload C dL_law__704 4 rfl ?_
  refine y_iconst C dL_law__706 ?_
  refine y_iadd C dL_law__707 ?_
  refine y_sld C hX hbl hbA (k := k0 + 1) (by omega) (by omega) hN dL_law__708 ?_
  refine y_aload_n C dL_law__709 0 rfl ?_
  refine y_iload C dL_law__710 4 rfl ?_
  refine y_iconst C dL_law__712 ?_
  refine y_iadd C dL_law__713 ?_
  refine y_sld C hX hbl hbA (k := k0 + 2) (by omega) (by omega) hN dL_law__714 ?_
  refine y_aload_n C dL_law__715 0 rfl ?_
  refine y_iload C dL_law__716 4 rfl ?_
  refine y_iconst C dL_law__718 ?_
  refine y_iadd C dL_law__719 ?_
  refine y_sld C hX hbl hbA (k := k0 + 3) (by omega) (by omega) hN dL_law__720 ?_
  refine y_aload_n C dL_law__721 3 rfl ?_
  refine y_lawCC (n := 5) (As := [.ref (lay 0 0), Value.int (iv (xs (k0 + 1)).toInt), Value.int (iv (xs (k0 + 2)).toInt), Value.int (iv (xs (k0 + 3)).toInt), .ref o]) C hr hc hs (by decide) (by decide) (by decide) (by decide) aw_3_13 aw_3_14 aw_1_0 aw_3_15 ⟨by decide, by decide, by decide +kernel⟩ (fun hR' => wl_transfer hli.1 (Nat.le_refl _) (xs (k0 + 1)).toInt (iv_r _) (xs (k0 + 2)).toInt (iv_r _) (xs (k0 + 3)).toInt (iv_r _) o f) rfl rfl dL_law__722 (fun hK => ?_) (fun hK => ?_)
  · skip
    rw [hK]
    have hKσ := eK.trans hK
    refine y_istore (pc := 725) (L' := [(5, _), (0, _), (1, _), (2, _), (3, _), (4, _)]) C dL_law__725 (by rw [hn]; decide) rfl ?_
    refine y_aload_n C dL_law__727 3 rfl ?_
    refine y_aload_n C dL_law__728 1 rfl ?_
    refine y_iload C dL_law__729 5 rfl ?_
    refine y_iconst C dL_law__731 ?_
    refine y_iadd C dL_law__732 ?_
    refine y_sld C hX hbl hbA (k := k0 + 1) (by omega) (by omega) hN dL_law__733 ?_
    refine y_aload_n C dL_law__734 1 rfl ?_
    refine y_iload C dL_law__735 5 rfl ?_
    refine y_iconst C dL_law__737 ?_
    refine y_iadd C dL_law__738 ?_
    refine y_sld C hX hbl hbA (k := k0 + 2) (by omega) (by omega) hN dL_law__739 ?_
    refine y_aload_n C dL_law__740 1 rfl ?_
    refine y_iload C dL_law__741 5 rfl ?_
    refine y_iconst C dL_law__743 ?_
    refine y_iadd C dL_law__744 ?_
    refine y_sld C hX hbl hbA (k := k0 + 3) (by omega) (by omega) hN dL_law__745 ?_
    refine y_lawF (As := [Value.int (iv (xs (k0 + 1)).toInt), Value.int (iv (xs (k0 + 2)).toInt), Value.int (iv (xs (k0 + 3)).toInt)]) C hr hc hs (by decide) (by decide) cv_L_124 (fun hR' => mt_transfer ns nc nl hl.1 s hs0 (xs (k0 + 1)).toInt (iv_r _) (xs (k0 + 2)).toInt (iv_r _) (xs (k0 + 3)).toInt (iv_r _)) rfl rfl dL_law__746 (fun _ => ?_) (fun q => absurd hKσ q)
    refine y_istore (L' := [(6, _), (5, _), (0, _), (1, _), (2, _), (3, _), (4, _)]) C dL_law__749 (by rw [hn]; decide) rfl ?_
    refine y_aload_n C dL_law__751 4 rfl ?_
    refine y_lawT C hr hc hs (K := 0) (by rw [hs0]; rfl) dL_law__752 ?_
    refine y_iload C dL_law__755 1 rfl ?_
    refine y_icmpE (tgt := 762) C dL_law__757 (by decide) ?_
    refine y_iload (pc := 762) C dL_law__762 1 rfl ?_
    refine y_if_ne (tgt := 779) C dL_law__764 (by decide) (by decide) (by decide) (fun c => absurd rfl c) (fun _ => ?_)
    refine y_aload_n C dL_law__767 5 rfl ?_
    refine y_iconst C dL_law__768 ?_
    refine y_lawR0 C dL_law__769 ?_
    refine y_iload C dL_law__770 0 rfl ?_
    refine y_i2lR C dL_law__772 ?_
    refine y_lcmpE C dL_law__773 ?_
    refine y_if_eq (tgt := 779) C dL_law__774 (by decide) (by decide) (by decide) (fun _ => ?_) (fun c => absurd rfl c)
    refine y_goto (pc := 779) (tgt := 1617) C dL_law__779 (by decide) ?_
    refine Y.sub [2, 3, 4, 5, 6] rfl ?_
    exact Y.imp (fun h hh => LW.good (li_transfer hli hK) hlo hh) kk
  · skip
    refine y_istore (pc := 725) (L' := [(5, _), (0, _), (1, _), (2, _), (3, _), (4, _)]) C dL_law__725 (by rw [hn]; decide) rfl ?_
    refine y_aload_n C dL_law__727 3 rfl ?_
    refine y_aload_n C dL_law__728 1 rfl ?_
    refine y_iload C dL_law__729 5 rfl ?_
    refine y_iconst C dL_law__731 ?_
    refine y_iadd C dL_law__732 ?_
    refine y_sld C hX hbl hbA (k := k0 + 1) (by omega) (by omega) hN dL_law__733 ?_
    refine y_aload_n C dL_law__734 1 rfl ?_
    refine y_iload C dL_law__735 5 rfl ?_
    refine y_iconst C dL_law__737 ?_
    refine y_iadd C dL_law__738 ?_
    refine y_sld C hX hbl hbA (k := k0 + 2) (by omega) (by omega) hN dL_law__739 ?_
    refine y_aload_n C dL_law__740 1 rfl ?_
    refine y_iload C dL_law__741 5 rfl ?_
    refine y_iconst C dL_law__743 ?_
    refine y_iadd C dL_law__744 ?_
    refine y_sld C hX hbl hbA (k := k0 + 3) (by omega) (by omega) hN dL_law__745 ?_
    refine y_lawF (As := [Value.int (iv (xs (k0 + 1)).toInt), Value.int (iv (xs (k0 + 2)).toInt), Value.int (iv (xs (k0 + 3)).toInt)]) C hr hc hs (by decide) (by decide) cv_L_124 (fun hR' => mt_transfer ns nc nl hl.1 s hs0 (xs (k0 + 1)).toInt (iv_r _) (xs (k0 + 2)).toInt (iv_r _) (xs (k0 + 3)).toInt (iv_r _)) rfl rfl dL_law__746 (fun q => absurd (eK.symm.trans q) hK) (fun _ => ?_)
    refine y_istore (L' := [(6, _), (5, _), (0, _), (1, _), (2, _), (3, _), (4, _)]) C dL_law__749 (by rw [hn]; decide) rfl ?_
    refine y_aload_n C dL_law__751 4 rfl ?_
    refine y_lawT C hr hc hs (K := trK s (xs (k0 + 1)).toInt (xs (k0 + 2)).toInt (xs (k0 + 3)).toInt) (zu_s.trans eK) dL_law__752 ?_
    refine y_iload C dL_law__755 1 rfl ?_
    refine y_icmpE (tgt := 762) C dL_law__757 (by decide) ?_
    refine y_iload (pc := 762) C dL_law__762 1 rfl ?_
    refine y_if_ne (tgt := 779) C dL_law__764 (by decide) (by omega) (by omega) (fun _ => ?_) (fun c => absurd c hK)
    refine y_goto (pc := 779) (tgt := 1617) C dL_law__779 (by decide) ?_
    refine Y.sub [2, 3, 4, 5, 6] rfl ?_
    exact Y.imp (fun h hh => LW.bad hs0 hl hlo hh) kk

set_option maxHeartbeats 1000000 in
set_option maxRecDepth 20000 in
theorem lc_law {Ω : OmT} {κ : KxT} {hR : AH} {cs sl b N x M o k0 : Nat} {xs : Nat → Int32} (C : Cx Ω κ RL cL_law_) (hn : kn κ = 8) (hr : kR κ = room_1) (hX : va_X b N xs (ks κ) (ks κ).heap) (hbl : b < (ks κ).heap.size) (hbA : ¬ OmA Ω b) (hk : k0 + 6 < N) (hN : N ≤ 100000) (hc : cs + 4 ≤ 601024) (hs : sl + 160 ≤ 7293034) (kk : Y Ω κ (LW Ω x M o) hR (cs + 4) (sl + 160) 1617 [(0, .ref b), (1, .ref x), (2, .ref M), (3, .ref o), (4, .int (iv (k0 : Nat)))] []) : Y Ω κ (LW Ω x M o) hR cs sl 782 [(0, .ref b), (1, .ref x), (2, .ref M), (3, .ref o), (4, .int (iv (k0 : Nat)))] [] := by
  refine LW.un (fun lay ma σ s τ ξ ns nc nl f hs0 hl hli hlo hx => ?_)
  subst hx
  have eK : lwK σ (xs (k0 + 1)).toInt (xs (k0 + 2)).toInt (xs (k0 + 3)).toInt = lwK s (xs (k0 + 1)).toInt (xs (k0 + 2)).toInt (xs (k0 + 3)).toInt := by rw [hs0]; rfl
  have hK3 : 0 ≤ lwK s (xs (k0 + 1)).toInt (xs (k0 + 2)).toInt (xs (k0 + 3)).toInt ∧ lwK s (xs (k0 + 1)).toInt (xs (k0 + 2)).toInt (xs (k0 + 3)).toInt ≤ 3 := by unfold lwK; (repeat' split) <;> decide
  refine y_aload_n (pc := 782) C dL_law__782 1 rfl ?_
  refine y_aload_n C dL_law__783 0 rfl ?_
  refine y_iload C dL_law__784 4 rfl ?_
  refine y_iconst C dL_law__786 ?_
  refine y_iadd C dL_law__787 ?_
  refine y_sld C hX hbl hbA (k := k0 + 1) (by omega) (by omega) hN dL_law__788 ?_
  refine y_aload_n C dL_law__789 0 rfl ?_
  refine y_iload C dL_law__790 4 rfl ?_
  refine y_iconst C dL_law__792 ?_
  refine y_iadd C dL_law__793 ?_
  refine y_sld C hX hbl hbA (k := k0 + 2) (by omega) (by omega) hN dL_law__794 ?_
  refine y_aload_n C dL_law__795 0 rfl ?_
  refine y_iload C dL_law__796 4 rfl ?_
  refine y_iconst C dL_law__798 ?_
  refine y_iadd C dL_law__799 ?_
  refine y_sld C hX hbl hbA (k := k0 + 3) (by omega) (by omega) hN dL_law__800 ?_
  refine y_aload_n C dL_law__801 3 rfl ?_
  refine y_lawCC (n := 5) (As := [.ref (lay 0 0), Value.int (iv (xs (k0 + 1)).toInt), Value.int (iv (xs (k0 + 2)).toInt), Value.int (iv (xs (k0 + 3)).toInt), .ref o]) C hr hc hs (by decide) (by decide) (by decide) (by decide) aw_3_22 aw_3_23 aw_1_0 aw_3_24 ⟨by decide, by decide, by decide +kernel⟩ (fun hR' => wl_law hli.1 (Nat.le_refl _) hlo hli.2.2.1 (xs (k0 + 1)).toInt (iv_r _) (xs (k0 + 2)).toInt (iv_r _) (xs (k0 + 3)).toInt (iv_r _) o f) rfl rfl dL_law__802 (fun hK => ?_) (fun hK => ?_)
  · skip
    rw [hK]
    have hKσ := eK.trans hK
    refine y_istore (pc := 805) (L' := [(5, _), (0, _), (1, _), (2, _), (3, _), (4, _)]) C dL_law__805 (by rw [hn]; decide) rfl ?_
    refine y_aload_n C dL_law__807 3 rfl ?_
    refine y_aload_n C dL_law__808 1 rfl ?_
    refine y_iload C dL_law__809 5 rfl ?_
    refine y_iconst C dL_law__811 ?_
    refine y_iadd C dL_law__812 ?_
    refine y_sld C hX hbl hbA (k := k0 + 1) (by omega) (by omega) hN dL_law__813 ?_
    refine y_aload_n C dL_law__814 1 rfl ?_
    refine y_iload C dL_law__815 5 rfl ?_
    refine y_iconst C dL_law__817 ?_
    refine y_iadd C dL_law__818 ?_
    refine y_sld C hX hbl hbA (k := k0 + 2) (by omega) (by omega) hN dL_law__819 ?_
    refine y_aload_n C dL_law__820 1 rfl ?_
    refine y_iload C dL_law__821 5 rfl ?_
    refine y_iconst C dL_law__823 ?_
    refine y_iadd C dL_law__824 ?_
    refine y_sld C hX hbl hbA (k := k0 + 3) (by omega) (by omega) hN dL_law__825 ?_
    refine y_lawF (As := [Value.int (iv (xs (k0 + 1)).toInt), Value.int (iv (xs (k0 + 2)).toInt), Value.int (iv (xs (k0 + 3)).toInt)]) C hr hc hs (by decide) (by decide) cv_L_127 (fun hR' => mt_law ns nc nl hl.1 s hs0 (xs (k0 + 1)).toInt (iv_r _) (xs (k0 + 2)).toInt (iv_r _) (xs (k0 + 3)).toInt (iv_r _)) rfl rfl dL_law__826 (fun _ => ?_) (fun q => absurd hKσ q)
    refine y_istore (L' := [(6, _), (5, _), (0, _), (1, _), (2, _), (3, _), (4, _)]) C dL_law__829 (by rw [hn]; decide) rfl ?_
    refine y_aload_n C dL_law__831 4 rfl ?_
    refine y_lawT C hr hc hs (K := 0) (by rw [hs0]; rfl) dL_law__832 ?_
    refine y_iload C dL_law__835 1 rfl ?_
    refine y_icmpE (tgt := 842) C dL_law__837 (by decide) ?_
    refine y_iload (pc := 842) C dL_law__842 1 rfl ?_
    refine y_if_ne (tgt := 859) C dL_law__844 (by decide) (by decide) (by decide) (fun c => absurd rfl c) (fun _ => ?_)
    refine y_aload_n C dL_law__847 5 rfl ?_
    refine y_iconst C dL_law__848 ?_
    refine y_lawR0 C dL_law__849 ?_
    refine y_iload C dL_law__850 0 rfl ?_
    refine y_i2lR C dL_law__852 ?_
    refine y_lcmpE C dL_law__853 ?_
    refine y_if_eq (tgt := 859) C dL_law__854 (by decide) (by decide) (by decide) (fun _ => ?_) (fun c => absurd rfl c)
    refine y_goto (pc := 859) (tgt := 1617) C dL_law__859 (by decide) ?_
    refine Y.sub [2, 3, 4, 5, 6] rfl ?_
    exact Y.imp (fun h hh => LW.good2 (li_law hli hK) hh) kk
  · skip
    refine y_istore (pc := 805) (L' := [(5, _), (0, _), (1, _), (2, _), (3, _), (4, _)]) C dL_law__805 (by rw [hn]; decide) rfl ?_
    refine y_aload_n C dL_law__807 3 rfl ?_
    refine y_aload_n C dL_law__808 1 rfl ?_
    refine y_iload C dL_law__809 5 rfl ?_
    refine y_iconst C dL_law__811 ?_
    refine y_iadd C dL_law__812 ?_
    refine y_sld C hX hbl hbA (k := k0 + 1) (by omega) (by omega) hN dL_law__813 ?_
    refine y_aload_n C dL_law__814 1 rfl ?_
    refine y_iload C dL_law__815 5 rfl ?_
    refine y_iconst C dL_law__817 ?_
    refine y_iadd C dL_law__818 ?_
    refine y_sld C hX hbl hbA (k := k0 + 2) (by omega) (by omega) hN dL_law__819 ?_
    refine y_aload_n C dL_law__820 1 rfl ?_
    refine y_iload C dL_law__821 5 rfl ?_
    refine y_iconst C dL_law__823 ?_
    refine y_iadd C dL_law__824 ?_
    refine y_sld C hX hbl hbA (k := k0 + 3) (by omega) (by omega) hN dL_law__825 ?_
    refine y_lawF (As := [Value.int (iv (xs (k0 + 1)).toInt), Value.int (iv (xs (k0 + 2)).toInt), Value.int (iv (xs (k0 + 3)).toInt)]) C hr hc hs (by decide) (by decide) cv_L_127 (fun hR' => mt_law ns nc nl hl.1 s hs0 (xs (k0 + 1)).toInt (iv_r _) (xs (k0 + 2)).toInt (iv_r _) (xs (k0 + 3)).toInt (iv_r _)) rfl rfl dL_law__826 (fun q => absurd (eK.symm.trans q) hK) (fun _ => ?_)
    refine y_istore (L' := [(6, _), (5, _), (0, _), (1, _), (2, _), (3, _), (4, _)]) C dL_law__829 (by rw [hn]; decide) rfl ?_
    refine y_aload_n C dL_law__831 4 rfl ?_
    refine y_lawT C hr hc hs (K := lwK s (xs (k0 + 1)).toInt (xs (k0 + 2)).toInt (xs (k0 + 3)).toInt) (zu_s.trans eK) dL_law__832 ?_
    refine y_iload C dL_law__835 1 rfl ?_
    refine y_icmpE (tgt := 842) C dL_law__837 (by decide) ?_
    refine y_iload (pc := 842) C dL_law__842 1 rfl ?_
    refine y_if_ne (tgt := 859) C dL_law__844 (by decide) (by omega) (by omega) (fun _ => ?_) (fun c => absurd c hK)
    refine y_goto (pc := 859) (tgt := 1617) C dL_law__859 (by decide) ?_
    refine Y.sub [2, 3, 4, 5, 6] rfl ?_
    exact Y.imp (fun h hh => LW.bad hs0 hl hlo hh) kk

set_option maxHeartbeats 1000000 in
set_option maxRecDepth 20000 in
theorem lc_price {Ω : OmT} {κ : KxT} {hR : AH} {cs sl b N x M o k0 : Nat} {xs : Nat → Int32} (C : Cx Ω κ RL cL_law_) (hn : kn κ = 8) (hr : kR κ = room_1) (hX : va_X b N xs (ks κ) (ks κ).heap) (hbl : b < (ks κ).heap.size) (hbA : ¬ OmA Ω b) (hk : k0 + 6 < N) (hN : N ≤ 100000) (hc : cs + 4 ≤ 601024) (hs : sl + 160 ≤ 7293034) (kk : Y Ω κ (LW Ω x M o) hR (cs + 4) (sl + 160) 1617 [(0, .ref b), (1, .ref x), (2, .ref M), (3, .ref o), (4, .int (iv (k0 : Nat)))] []) : Y Ω κ (LW Ω x M o) hR cs sl 862 [(0, .ref b), (1, .ref x), (2, .ref M), (3, .ref o), (4, .int (iv (k0 : Nat)))] [] := by
  refine LW.un (fun lay ma σ s τ ξ ns nc nl f hs0 hl hli hlo hx => ?_)
  subst hx
  have eK : prK σ (xs (k0 + 1)).toInt (xs (k0 + 2)).toInt = prK s (xs (k0 + 1)).toInt (xs (k0 + 2)).toInt := by rw [hs0]; rfl
  have hK3 : 0 ≤ prK s (xs (k0 + 1)).toInt (xs (k0 + 2)).toInt ∧ prK s (xs (k0 + 1)).toInt (xs (k0 + 2)).toInt ≤ 3 := by unfold prK; (repeat' split) <;> decide
  refine y_aload_n (pc := 862) C dL_law__862 1 rfl ?_
  refine y_aload_n C dL_law__863 0 rfl ?_
  refine y_iload C dL_law__864 4 rfl ?_
  refine y_iconst C dL_law__866 ?_
  refine y_iadd C dL_law__867 ?_
  refine y_sld C hX hbl hbA (k := k0 + 1) (by omega) (by omega) hN dL_law__868 ?_
  refine y_aload_n C dL_law__869 0 rfl ?_
  refine y_iload C dL_law__870 4 rfl ?_
  refine y_iconst C dL_law__872 ?_
  refine y_iadd C dL_law__873 ?_
  refine y_sld C hX hbl hbA (k := k0 + 2) (by omega) (by omega) hN dL_law__874 ?_
  refine y_aload_n C dL_law__875 3 rfl ?_
  have ctP := fun hR' => wl_price (Ω := Ω) (hR := hR') (lay := lay) (ξ := ξ) (τ := τ) hli.1 (Nat.le_refl _) (xs (k0 + 1)).toInt (iv_r _) (xs (k0 + 2)).toInt (iv_r _) o f
  rw [hli.2.2.2.2 ((xs (k0 + 1)).toInt.toNat % 64)] at ctP
  refine y_lawCC (n := 4) (As := [.ref (lay 0 0), Value.int (iv (xs (k0 + 1)).toInt), Value.int (iv (xs (k0 + 2)).toInt), .ref o]) C hr hc hs (by decide) (by decide) (by decide) (by decide) aw_3_51 aw_3_52 aw_1_0 aw_3_53 ⟨by decide, by decide, by decide +kernel⟩ (fun hR' => ctP hR') rfl rfl dL_law__876 (fun hK => ?_) (fun hK => ?_)
  · skip
    rw [hK]
    have hKσ := eK.trans hK
    refine y_istore (pc := 879) (L' := [(5, _), (0, _), (1, _), (2, _), (3, _), (4, _)]) C dL_law__879 (by rw [hn]; decide) rfl ?_
    refine y_aload_n C dL_law__881 3 rfl ?_
    refine y_aload_n C dL_law__882 1 rfl ?_
    refine y_iload C dL_law__883 5 rfl ?_
    refine y_iconst C dL_law__885 ?_
    refine y_iadd C dL_law__886 ?_
    refine y_sld C hX hbl hbA (k := k0 + 1) (by omega) (by omega) hN dL_law__887 ?_
    refine y_aload_n C dL_law__888 1 rfl ?_
    refine y_iload C dL_law__889 5 rfl ?_
    refine y_iconst C dL_law__891 ?_
    refine y_iadd C dL_law__892 ?_
    refine y_sld C hX hbl hbA (k := k0 + 2) (by omega) (by omega) hN dL_law__893 ?_
    refine y_lawF (As := [Value.int (iv (xs (k0 + 1)).toInt), Value.int (iv (xs (k0 + 2)).toInt)]) C hr hc hs (by decide) (by decide) cv_L_130 (fun hR' => mt_price ns nc nl hl.1 s hs0 (xs (k0 + 1)).toInt (iv_r _) (xs (k0 + 2)).toInt (iv_r _)) rfl rfl dL_law__894 (fun _ => ?_) (fun q => absurd hKσ q)
    refine y_istore (L' := [(6, _), (5, _), (0, _), (1, _), (2, _), (3, _), (4, _)]) C dL_law__897 (by rw [hn]; decide) rfl ?_
    refine y_aload_n C dL_law__899 4 rfl ?_
    refine y_lawT C hr hc hs (K := 0) (by rw [hs0]; rfl) dL_law__900 ?_
    refine y_iload C dL_law__903 1 rfl ?_
    refine y_icmpE (tgt := 910) C dL_law__905 (by decide) ?_
    refine y_iload (pc := 910) C dL_law__910 1 rfl ?_
    refine y_if_ne (tgt := 927) C dL_law__912 (by decide) (by decide) (by decide) (fun c => absurd rfl c) (fun _ => ?_)
    refine y_aload_n C dL_law__915 5 rfl ?_
    refine y_iconst C dL_law__916 ?_
    refine y_lawR0 C dL_law__917 ?_
    refine y_iload C dL_law__918 0 rfl ?_
    refine y_i2lR C dL_law__920 ?_
    refine y_lcmpE C dL_law__921 ?_
    refine y_if_eq (tgt := 927) C dL_law__922 (by decide) (by decide) (by decide) (fun _ => ?_) (fun c => absurd rfl c)
    refine y_goto (pc := 927) (tgt := 1617) C dL_law__927 (by decide) ?_
    refine Y.sub [2, 3, 4, 5, 6] rfl ?_
    exact Y.imp (fun h hh => LW.goodP (li_price hli hK) hlo hh) kk
  · skip
    refine y_istore (pc := 879) (L' := [(5, _), (0, _), (1, _), (2, _), (3, _), (4, _)]) C dL_law__879 (by rw [hn]; decide) rfl ?_
    refine y_aload_n C dL_law__881 3 rfl ?_
    refine y_aload_n C dL_law__882 1 rfl ?_
    refine y_iload C dL_law__883 5 rfl ?_
    refine y_iconst C dL_law__885 ?_
    refine y_iadd C dL_law__886 ?_
    refine y_sld C hX hbl hbA (k := k0 + 1) (by omega) (by omega) hN dL_law__887 ?_
    refine y_aload_n C dL_law__888 1 rfl ?_
    refine y_iload C dL_law__889 5 rfl ?_
    refine y_iconst C dL_law__891 ?_
    refine y_iadd C dL_law__892 ?_
    refine y_sld C hX hbl hbA (k := k0 + 2) (by omega) (by omega) hN dL_law__893 ?_
    refine y_lawF (As := [Value.int (iv (xs (k0 + 1)).toInt), Value.int (iv (xs (k0 + 2)).toInt)]) C hr hc hs (by decide) (by decide) cv_L_130 (fun hR' => mt_price ns nc nl hl.1 s hs0 (xs (k0 + 1)).toInt (iv_r _) (xs (k0 + 2)).toInt (iv_r _)) rfl rfl dL_law__894 (fun q => absurd (eK.symm.trans q) hK) (fun _ => ?_)
    refine y_istore (L' := [(6, _), (5, _), (0, _), (1, _), (2, _), (3, _), (4, _)]) C dL_law__897 (by rw [hn]; decide) rfl ?_
    refine y_aload_n C dL_law__899 4 rfl ?_
    refine y_lawT C hr hc hs (K := prK s (xs (k0 + 1)).toInt (xs (k0 + 2)).toInt) (zu_s.trans eK) dL_law__900 ?_
    refine y_iload C dL_law__903 1 rfl ?_
    refine y_icmpE (tgt := 910) C dL_law__905 (by decide) ?_
    refine y_iload (pc := 910) C dL_law__910 1 rfl ?_
    refine y_if_ne (tgt := 927) C dL_law__912 (by decide) (by omega) (by omega) (fun _ => ?_) (fun c => absurd c hK)
    refine y_goto (pc := 927) (tgt := 1617) C dL_law__927 (by decide) ?_
    refine Y.sub [2, 3, 4, 5, 6] rfl ?_
    exact Y.imp (fun h hh => LW.bad hs0 hl hlo hh) kk

set_option maxHeartbeats 1000000 in
set_option maxRecDepth 20000 in
theorem lc_pass {Ω : OmT} {κ : KxT} {hR : AH} {cs sl b N x M o k0 : Nat} {xs : Nat → Int32} (C : Cx Ω κ RL cL_law_) (hn : kn κ = 8) (hr : kR κ = room_1) (hX : va_X b N xs (ks κ) (ks κ).heap) (hbl : b < (ks κ).heap.size) (hbA : ¬ OmA Ω b) (hk : k0 + 6 < N) (hN : N ≤ 100000) (hc : cs + 4 ≤ 601024) (hs : sl + 160 ≤ 7293034) (kk : Y Ω κ (LW Ω x M o) hR (cs + 4) (sl + 160) 1617 [(0, .ref b), (1, .ref x), (2, .ref M), (3, .ref o), (4, .int (iv (k0 : Nat)))] []) : Y Ω κ (LW Ω x M o) hR cs sl 930 [(0, .ref b), (1, .ref x), (2, .ref M), (3, .ref o), (4, .int (iv (k0 : Nat)))] [] := by
  refine LW.un (fun lay ma σ s τ ξ ns nc nl f hs0 hl hli hlo hx => ?_)
  subst hx
  have eK : psK σ (xs (k0 + 1)).toInt = psK s (xs (k0 + 1)).toInt := by rw [hs0]; rfl
  have hK3 : 0 ≤ psK s (xs (k0 + 1)).toInt ∧ psK s (xs (k0 + 1)).toInt ≤ 3 := by unfold psK; (repeat' split) <;> decide
  refine y_aload_n (pc := 930) C dL_law__930 1 rfl ?_
  refine y_aload_n C dL_law__931 0 rfl ?_
  refine y_iload C dL_law__932 4 rfl ?_
  refine y_iconst C dL_law__934 ?_
  refine y_iadd C dL_law__935 ?_
  refine y_sld C hX hbl hbA (k := k0 + 1) (by omega) (by omega) hN dL_law__936 ?_
  refine y_aload_n C dL_law__937 3 rfl ?_
  refine y_lawCC (n := 3) (As := [.ref (lay 0 0), Value.int (iv (xs (k0 + 1)).toInt), .ref o]) C hr hc hs (by decide) (by decide) (by decide) (by decide) aw_3_59 aw_3_60 aw_1_0 aw_3_61 ⟨by decide, by decide, by decide +kernel⟩ (fun hR' => wl_pass hli.1 (Nat.le_refl _) (xs (k0 + 1)).toInt (iv_r _) hli.2.2.2.1 o f) rfl rfl dL_law__938 (fun hK => ?_) (fun hK => ?_)
  · skip
    rw [hK]
    have hKσ := eK.trans hK
    refine y_istore (pc := 941) (L' := [(5, _), (0, _), (1, _), (2, _), (3, _), (4, _)]) C dL_law__941 (by rw [hn]; decide) rfl ?_
    refine y_aload_n C dL_law__943 3 rfl ?_
    refine y_aload_n C dL_law__944 1 rfl ?_
    refine y_iload C dL_law__945 5 rfl ?_
    refine y_iconst C dL_law__947 ?_
    refine y_iadd C dL_law__948 ?_
    refine y_sld C hX hbl hbA (k := k0 + 1) (by omega) (by omega) hN dL_law__949 ?_
    refine y_lawF (As := [Value.int (iv (xs (k0 + 1)).toInt)]) C hr hc hs (by decide) (by decide) cv_L_133 (fun hR' => mt_pass ns nc nl hl.1 s hs0 (xs (k0 + 1)).toInt (iv_r _)) rfl rfl dL_law__950 (fun _ => ?_) (fun q => absurd hKσ q)
    refine y_istore (L' := [(6, _), (5, _), (0, _), (1, _), (2, _), (3, _), (4, _)]) C dL_law__953 (by rw [hn]; decide) rfl ?_
    refine y_aload_n C dL_law__955 4 rfl ?_
    refine y_lawT C hr hc hs (K := 0) ((congrFun hours_0 0).trans (by rw [hs0]; rfl : s 0 0 = 0)) dL_law__956 ?_
    refine y_iload C dL_law__959 1 rfl ?_
    refine y_icmpE (tgt := 966) C dL_law__961 (by decide) ?_
    refine y_iload (pc := 966) C dL_law__966 1 rfl ?_
    refine y_if_ne (tgt := 983) C dL_law__968 (by decide) (by decide) (by decide) (fun c => absurd rfl c) (fun _ => ?_)
    refine y_aload_n C dL_law__971 5 rfl ?_
    refine y_iconst C dL_law__972 ?_
    refine y_lawR0 C dL_law__973 ?_
    refine y_iload C dL_law__974 0 rfl ?_
    refine y_i2lR C dL_law__976 ?_
    refine y_lcmpE C dL_law__977 ?_
    refine y_if_eq (tgt := 983) C dL_law__978 (by decide) (by decide) (by decide) (fun _ => ?_) (fun c => absurd rfl c)
    refine y_goto (pc := 983) (tgt := 1617) C dL_law__983 (by decide) ?_
    refine Y.sub [2, 3, 4, 5, 6] rfl ?_
    exact Y.imp (fun h hh => LW.good (li_pass hli hK) hlo hh) kk
  · skip
    refine y_istore (pc := 941) (L' := [(5, _), (0, _), (1, _), (2, _), (3, _), (4, _)]) C dL_law__941 (by rw [hn]; decide) rfl ?_
    refine y_aload_n C dL_law__943 3 rfl ?_
    refine y_aload_n C dL_law__944 1 rfl ?_
    refine y_iload C dL_law__945 5 rfl ?_
    refine y_iconst C dL_law__947 ?_
    refine y_iadd C dL_law__948 ?_
    refine y_sld C hX hbl hbA (k := k0 + 1) (by omega) (by omega) hN dL_law__949 ?_
    refine y_lawF (As := [Value.int (iv (xs (k0 + 1)).toInt)]) C hr hc hs (by decide) (by decide) cv_L_133 (fun hR' => mt_pass ns nc nl hl.1 s hs0 (xs (k0 + 1)).toInt (iv_r _)) rfl rfl dL_law__950 (fun q => absurd (eK.symm.trans q) hK) (fun _ => ?_)
    refine y_istore (L' := [(6, _), (5, _), (0, _), (1, _), (2, _), (3, _), (4, _)]) C dL_law__953 (by rw [hn]; decide) rfl ?_
    refine y_aload_n C dL_law__955 4 rfl ?_
    refine y_lawT C hr hc hs (K := psK s (xs (k0 + 1)).toInt) (zu_s.trans eK) dL_law__956 ?_
    refine y_iload C dL_law__959 1 rfl ?_
    refine y_icmpE (tgt := 966) C dL_law__961 (by decide) ?_
    refine y_iload (pc := 966) C dL_law__966 1 rfl ?_
    refine y_if_ne (tgt := 983) C dL_law__968 (by decide) (by omega) (by omega) (fun _ => ?_) (fun c => absurd c hK)
    refine y_goto (pc := 983) (tgt := 1617) C dL_law__983 (by decide) ?_
    refine Y.sub [2, 3, 4, 5, 6] rfl ?_
    exact Y.imp (fun h hh => LW.bad hs0 hl hlo hh) kk

set_option maxHeartbeats 1000000 in
set_option maxRecDepth 20000 in
theorem lc_pressure {Ω : OmT} {κ : KxT} {hR : AH} {cs sl b N x M o k0 : Nat} {xs : Nat → Int32} (C : Cx Ω κ RL cL_law_) (hn : kn κ = 8) (hr : kR κ = room_1) (hX : va_X b N xs (ks κ) (ks κ).heap) (hbl : b < (ks κ).heap.size) (hbA : ¬ OmA Ω b) (hk : k0 + 6 < N) (hN : N ≤ 100000) (hc : cs + 4 ≤ 601024) (hs : sl + 160 ≤ 7293034) (kk : Y Ω κ (LW Ω x M o) hR (cs + 4) (sl + 160) 1617 [(0, .ref b), (1, .ref x), (2, .ref M), (3, .ref o), (4, .int (iv (k0 : Nat)))] []) : Y Ω κ (LW Ω x M o) hR cs sl 986 [(0, .ref b), (1, .ref x), (2, .ref M), (3, .ref o), (4, .int (iv (k0 : Nat)))] [] := by
  refine LW.un (fun lay ma σ s τ ξ ns nc nl f hs0 hl hli hlo hx => ?_)
  subst hx
  have eK : soK σ (xs (k0 + 1)).toInt = soK s (xs (k0 + 1)).toInt := by rw [hs0]; rfl
  have hK3 : 0 ≤ soK s (xs (k0 + 1)).toInt ∧ soK s (xs (k0 + 1)).toInt ≤ 3 := by unfold soK; (repeat' split) <;> decide
  refine y_aload_n (pc := 986) C dL_law__986 1 rfl ?_
  refine y_aload_n C dL_law__987 0 rfl ?_
  refine y_iload C dL_law__988 4 rfl ?_
  refine y_iconst C dL_law__990 ?_
  refine y_iadd C dL_law__991 ?_
  refine y_sld C hX hbl hbA (k := k0 + 1) (by omega) (by omega) hN dL_law__992 ?_
  refine y_aload_n C dL_law__993 3 rfl ?_
  refine y_lawCC (n := 3) (As := [.ref (lay 0 0), Value.int (iv (xs (k0 + 1)).toInt), .ref o]) C hr hc hs (by decide) (by decide) (by decide) (by decide) aw_3_191 aw_3_192 aw_1_0 aw_3_193 ⟨by decide, by decide, by decide +kernel⟩ (fun hR' => wl_pressure hli.1 (Nat.le_refl _) (xs (k0 + 1)).toInt (iv_r _) o f) rfl rfl dL_law__994 (fun hK => ?_) (fun hK => ?_)
  · skip
    rw [hK]
    have hKσ := eK.trans hK
    refine y_istore (pc := 997) (L' := [(5, _), (0, _), (1, _), (2, _), (3, _), (4, _)]) C dL_law__997 (by rw [hn]; decide) rfl ?_
    refine y_aload_n C dL_law__999 3 rfl ?_
    refine y_aload_n C dL_law__1000 1 rfl ?_
    refine y_iload C dL_law__1001 5 rfl ?_
    refine y_iconst C dL_law__1003 ?_
    refine y_iadd C dL_law__1004 ?_
    refine y_sld C hX hbl hbA (k := k0 + 1) (by omega) (by omega) hN dL_law__1005 ?_
    refine y_lawF (As := [Value.int (iv (xs (k0 + 1)).toInt)]) C hr hc hs (by decide) (by decide) cv_L_136 (fun hR' => mt_pressure ns nc nl hl.1 s hs0 (xs (k0 + 1)).toInt (iv_r _)) rfl rfl dL_law__1006 (fun _ => ?_) (fun q => absurd hKσ q)
    refine y_istore (L' := [(6, _), (5, _), (0, _), (1, _), (2, _), (3, _), (4, _)]) C dL_law__1009 (by rw [hn]; decide) rfl ?_
    refine y_aload_n C dL_law__1011 4 rfl ?_
    refine y_lawT C hr hc hs (K := 0) (by rw [hs0]; rfl) dL_law__1012 ?_
    refine y_iload C dL_law__1015 1 rfl ?_
    refine y_icmpE (tgt := 1022) C dL_law__1017 (by decide) ?_
    refine y_iload (pc := 1022) C dL_law__1022 1 rfl ?_
    refine y_if_ne (tgt := 1039) C dL_law__1024 (by decide) (by decide) (by decide) (fun c => absurd rfl c) (fun _ => ?_)
    refine y_aload_n C dL_law__1027 5 rfl ?_
    refine y_iconst C dL_law__1028 ?_
    refine y_lawR0 C dL_law__1029 ?_
    refine y_iload C dL_law__1030 0 rfl ?_
    refine y_i2lR C dL_law__1032 ?_
    refine y_lcmpE C dL_law__1033 ?_
    refine y_if_eq (tgt := 1039) C dL_law__1034 (by decide) (by decide) (by decide) (fun _ => ?_) (fun c => absurd rfl c)
    refine y_goto (pc := 1039) (tgt := 1617) C dL_law__1039 (by decide) ?_
    refine Y.sub [2, 3, 4, 5, 6] rfl ?_
    exact Y.imp (fun h hh => LW.good (hli) hlo hh) kk
  · skip
    refine y_istore (pc := 997) (L' := [(5, _), (0, _), (1, _), (2, _), (3, _), (4, _)]) C dL_law__997 (by rw [hn]; decide) rfl ?_
    refine y_aload_n C dL_law__999 3 rfl ?_
    refine y_aload_n C dL_law__1000 1 rfl ?_
    refine y_iload C dL_law__1001 5 rfl ?_
    refine y_iconst C dL_law__1003 ?_
    refine y_iadd C dL_law__1004 ?_
    refine y_sld C hX hbl hbA (k := k0 + 1) (by omega) (by omega) hN dL_law__1005 ?_
    refine y_lawF (As := [Value.int (iv (xs (k0 + 1)).toInt)]) C hr hc hs (by decide) (by decide) cv_L_136 (fun hR' => mt_pressure ns nc nl hl.1 s hs0 (xs (k0 + 1)).toInt (iv_r _)) rfl rfl dL_law__1006 (fun q => absurd (eK.symm.trans q) hK) (fun _ => ?_)
    refine y_istore (L' := [(6, _), (5, _), (0, _), (1, _), (2, _), (3, _), (4, _)]) C dL_law__1009 (by rw [hn]; decide) rfl ?_
    refine y_aload_n C dL_law__1011 4 rfl ?_
    refine y_lawT C hr hc hs (K := soK s (xs (k0 + 1)).toInt) (zu_s.trans eK) dL_law__1012 ?_
    refine y_iload C dL_law__1015 1 rfl ?_
    refine y_icmpE (tgt := 1022) C dL_law__1017 (by decide) ?_
    refine y_iload (pc := 1022) C dL_law__1022 1 rfl ?_
    refine y_if_ne (tgt := 1039) C dL_law__1024 (by decide) (by omega) (by omega) (fun _ => ?_) (fun c => absurd c hK)
    refine y_goto (pc := 1039) (tgt := 1617) C dL_law__1039 (by decide) ?_
    refine Y.sub [2, 3, 4, 5, 6] rfl ?_
    exact Y.imp (fun h hh => LW.bad hs0 hl hlo hh) kk

set_option maxHeartbeats 1000000 in
set_option maxRecDepth 20000 in
theorem lc_rate {Ω : OmT} {κ : KxT} {hR : AH} {cs sl b N x M o k0 : Nat} {xs : Nat → Int32} (C : Cx Ω κ RL cL_law_) (hn : kn κ = 8) (hr : kR κ = room_1) (hX : va_X b N xs (ks κ) (ks κ).heap) (hbl : b < (ks κ).heap.size) (hbA : ¬ OmA Ω b) (hk : k0 + 6 < N) (hN : N ≤ 100000) (hc : cs + 4 ≤ 601024) (hs : sl + 160 ≤ 7293034) (kk : Y Ω κ (LW Ω x M o) hR (cs + 4) (sl + 160) 1617 [(0, .ref b), (1, .ref x), (2, .ref M), (3, .ref o), (4, .int (iv (k0 : Nat)))] []) : Y Ω κ (LW Ω x M o) hR cs sl 1042 [(0, .ref b), (1, .ref x), (2, .ref M), (3, .ref o), (4, .int (iv (k0 : Nat)))] [] := by
  by_cases hb : (xs (k0 + 2)).toInt = 0
  · skip
    refine LW.un (fun lay ma σ s τ ξ ns nc nl f hs0 hl hli hlo hx => ?_)
    subst hx
    have eK : soK σ (xs (k0 + 1)).toInt = soK s (xs (k0 + 1)).toInt := by rw [hs0]; rfl
    have hK3 : 0 ≤ soK s (xs (k0 + 1)).toInt ∧ soK s (xs (k0 + 1)).toInt ≤ 3 := by unfold soK; (repeat' split) <;> decide
    refine y_aload_n (pc := 1042) C dL_law__1042 1 rfl ?_
    refine y_aload_n C dL_law__1043 0 rfl ?_
    refine y_iload C dL_law__1044 4 rfl ?_
    refine y_iconst C dL_law__1046 ?_
    refine y_iadd C dL_law__1047 ?_
    refine y_sld C hX hbl hbA (k := k0 + 1) (by omega) (by omega) hN dL_law__1048 ?_
    refine y_aload_n C dL_law__1049 0 rfl ?_
    refine y_iload C dL_law__1050 4 rfl ?_
    refine y_iconst C dL_law__1052 ?_
    refine y_iadd C dL_law__1053 ?_
    refine y_sld C hX hbl hbA (k := k0 + 2) (by omega) (by omega) hN dL_law__1054 ?_
    refine y_if_eq (tgt := 1062) C dL_law__1055 (by decide) (iv_r _).1 (iv_r _).2 (fun _ => ?_) (fun c => absurd hb c)
    refine y_iconst C dL_law__1062 ?_
    refine y_aload_n (pc := 1063) C dL_law__1063 3 rfl ?_
    refine y_lawCC (n := 4) (As := [.ref (lay 0 0), Value.int (iv (xs (k0 + 1)).toInt), Value.int (iv (bz false)), .ref o]) C hr hc hs (by decide) (by decide) (by decide) (by decide) aw_3_199 aw_3_200 aw_1_0 aw_3_201 ⟨by decide, by decide, by decide +kernel⟩ (fun hR' => wl_rate hli.1 (Nat.le_refl _) (xs (k0 + 1)).toInt (iv_r _) false o f) rfl rfl dL_law__1064 (fun hK => ?_) (fun hK => ?_)
    · skip
      rw [hK]
      have hKσ := eK.trans hK
      refine y_istore (pc := 1067) (L' := [(5, _), (0, _), (1, _), (2, _), (3, _), (4, _)]) C dL_law__1067 (by rw [hn]; decide) rfl ?_
      refine y_aload_n C dL_law__1069 3 rfl ?_
      refine y_aload_n C dL_law__1070 1 rfl ?_
      refine y_iload C dL_law__1071 5 rfl ?_
      refine y_iconst C dL_law__1073 ?_
      refine y_iadd C dL_law__1074 ?_
      refine y_sld C hX hbl hbA (k := k0 + 1) (by omega) (by omega) hN dL_law__1075 ?_
      refine y_aload_n C dL_law__1076 1 rfl ?_
      refine y_iload C dL_law__1077 5 rfl ?_
      refine y_iconst C dL_law__1079 ?_
      refine y_iadd C dL_law__1080 ?_
      refine y_sld C hX hbl hbA (k := k0 + 2) (by omega) (by omega) hN dL_law__1081 ?_
      refine y_if_eq (tgt := 1089) C dL_law__1082 (by decide) (iv_r _).1 (iv_r _).2 (fun _ => ?_) (fun c => absurd hb c)
      refine y_iconst C dL_law__1089 ?_
      refine y_lawF (pc := 1090) (As := [Value.int (iv (xs (k0 + 1)).toInt), Value.int (iv (bz false))]) C hr hc hs (by decide) (by decide) cv_L_140 (fun hR' => mt_rate ns nc nl hl.1 s hs0 (xs (k0 + 1)).toInt (iv_r _) false) rfl rfl dL_law__1090 (fun _ => ?_) (fun q => absurd hKσ q)
      refine y_istore (L' := [(6, _), (5, _), (0, _), (1, _), (2, _), (3, _), (4, _)]) C dL_law__1093 (by rw [hn]; decide) rfl ?_
      refine y_aload_n C dL_law__1095 4 rfl ?_
      refine y_lawT C hr hc hs (K := 0) (by rw [hs0]; rfl) dL_law__1096 ?_
      refine y_iload C dL_law__1099 1 rfl ?_
      refine y_icmpE (tgt := 1106) C dL_law__1101 (by decide) ?_
      refine y_iload (pc := 1106) C dL_law__1106 1 rfl ?_
      refine y_if_ne (tgt := 1123) C dL_law__1108 (by decide) (by decide) (by decide) (fun c => absurd rfl c) (fun _ => ?_)
      refine y_aload_n C dL_law__1111 5 rfl ?_
      refine y_iconst C dL_law__1112 ?_
      refine y_lawR0 C dL_law__1113 ?_
      refine y_iload C dL_law__1114 0 rfl ?_
      refine y_i2lR C dL_law__1116 ?_
      refine y_lcmpE C dL_law__1117 ?_
      refine y_if_eq (tgt := 1123) C dL_law__1118 (by decide) (by decide) (by decide) (fun _ => ?_) (fun c => absurd rfl c)
      refine y_goto (pc := 1123) (tgt := 1617) C dL_law__1123 (by decide) ?_
      refine Y.sub [2, 3, 4, 5, 6] rfl ?_
      exact Y.imp (fun h hh => LW.good (hli) hlo hh) kk
    · skip
      refine y_istore (pc := 1067) (L' := [(5, _), (0, _), (1, _), (2, _), (3, _), (4, _)]) C dL_law__1067 (by rw [hn]; decide) rfl ?_
      refine y_aload_n C dL_law__1069 3 rfl ?_
      refine y_aload_n C dL_law__1070 1 rfl ?_
      refine y_iload C dL_law__1071 5 rfl ?_
      refine y_iconst C dL_law__1073 ?_
      refine y_iadd C dL_law__1074 ?_
      refine y_sld C hX hbl hbA (k := k0 + 1) (by omega) (by omega) hN dL_law__1075 ?_
      refine y_aload_n C dL_law__1076 1 rfl ?_
      refine y_iload C dL_law__1077 5 rfl ?_
      refine y_iconst C dL_law__1079 ?_
      refine y_iadd C dL_law__1080 ?_
      refine y_sld C hX hbl hbA (k := k0 + 2) (by omega) (by omega) hN dL_law__1081 ?_
      refine y_if_eq (tgt := 1089) C dL_law__1082 (by decide) (iv_r _).1 (iv_r _).2 (fun _ => ?_) (fun c => absurd hb c)
      refine y_iconst C dL_law__1089 ?_
      refine y_lawF (pc := 1090) (As := [Value.int (iv (xs (k0 + 1)).toInt), Value.int (iv (bz false))]) C hr hc hs (by decide) (by decide) cv_L_140 (fun hR' => mt_rate ns nc nl hl.1 s hs0 (xs (k0 + 1)).toInt (iv_r _) false) rfl rfl dL_law__1090 (fun q => absurd (eK.symm.trans q) hK) (fun _ => ?_)
      refine y_istore (L' := [(6, _), (5, _), (0, _), (1, _), (2, _), (3, _), (4, _)]) C dL_law__1093 (by rw [hn]; decide) rfl ?_
      refine y_aload_n C dL_law__1095 4 rfl ?_
      refine y_lawT C hr hc hs (K := soK s (xs (k0 + 1)).toInt) (zu_s.trans eK) dL_law__1096 ?_
      refine y_iload C dL_law__1099 1 rfl ?_
      refine y_icmpE (tgt := 1106) C dL_law__1101 (by decide) ?_
      refine y_iload (pc := 1106) C dL_law__1106 1 rfl ?_
      refine y_if_ne (tgt := 1123) C dL_law__1108 (by decide) (by omega) (by omega) (fun _ => ?_) (fun c => absurd c hK)
      refine y_goto (pc := 1123) (tgt := 1617) C dL_law__1123 (by decide) ?_
      refine Y.sub [2, 3, 4, 5, 6] rfl ?_
      exact Y.imp (fun h hh => LW.bad hs0 hl hlo hh) kk
  · skip
    refine LW.un (fun lay ma σ s τ ξ ns nc nl f hs0 hl hli hlo hx => ?_)
    subst hx
    have eK : soK σ (xs (k0 + 1)).toInt = soK s (xs (k0 + 1)).toInt := by rw [hs0]; rfl
    have hK3 : 0 ≤ soK s (xs (k0 + 1)).toInt ∧ soK s (xs (k0 + 1)).toInt ≤ 3 := by unfold soK; (repeat' split) <;> decide
    refine y_aload_n (pc := 1042) C dL_law__1042 1 rfl ?_
    refine y_aload_n C dL_law__1043 0 rfl ?_
    refine y_iload C dL_law__1044 4 rfl ?_
    refine y_iconst C dL_law__1046 ?_
    refine y_iadd C dL_law__1047 ?_
    refine y_sld C hX hbl hbA (k := k0 + 1) (by omega) (by omega) hN dL_law__1048 ?_
    refine y_aload_n C dL_law__1049 0 rfl ?_
    refine y_iload C dL_law__1050 4 rfl ?_
    refine y_iconst C dL_law__1052 ?_
    refine y_iadd C dL_law__1053 ?_
    refine y_sld C hX hbl hbA (k := k0 + 2) (by omega) (by omega) hN dL_law__1054 ?_
    refine y_if_eq (tgt := 1062) C dL_law__1055 (by decide) (iv_r _).1 (iv_r _).2 (fun c => absurd c hb) (fun _ => ?_)
    refine y_iconst C dL_law__1058 ?_
    refine y_goto (tgt := 1063) C dL_law__1059 (by decide) ?_
    refine y_aload_n (pc := 1063) C dL_law__1063 3 rfl ?_
    refine y_lawCC (n := 4) (As := [.ref (lay 0 0), Value.int (iv (xs (k0 + 1)).toInt), Value.int (iv (bz true)), .ref o]) C hr hc hs (by decide) (by decide) (by decide) (by decide) aw_3_199 aw_3_200 aw_1_0 aw_3_201 ⟨by decide, by decide, by decide +kernel⟩ (fun hR' => wl_rate hli.1 (Nat.le_refl _) (xs (k0 + 1)).toInt (iv_r _) true o f) rfl rfl dL_law__1064 (fun hK => ?_) (fun hK => ?_)
    · skip
      rw [hK]
      have hKσ := eK.trans hK
      refine y_istore (pc := 1067) (L' := [(5, _), (0, _), (1, _), (2, _), (3, _), (4, _)]) C dL_law__1067 (by rw [hn]; decide) rfl ?_
      refine y_aload_n C dL_law__1069 3 rfl ?_
      refine y_aload_n C dL_law__1070 1 rfl ?_
      refine y_iload C dL_law__1071 5 rfl ?_
      refine y_iconst C dL_law__1073 ?_
      refine y_iadd C dL_law__1074 ?_
      refine y_sld C hX hbl hbA (k := k0 + 1) (by omega) (by omega) hN dL_law__1075 ?_
      refine y_aload_n C dL_law__1076 1 rfl ?_
      refine y_iload C dL_law__1077 5 rfl ?_
      refine y_iconst C dL_law__1079 ?_
      refine y_iadd C dL_law__1080 ?_
      refine y_sld C hX hbl hbA (k := k0 + 2) (by omega) (by omega) hN dL_law__1081 ?_
      refine y_if_eq (tgt := 1089) C dL_law__1082 (by decide) (iv_r _).1 (iv_r _).2 (fun c => absurd c hb) (fun _ => ?_)
      refine y_iconst C dL_law__1085 ?_
      refine y_goto (tgt := 1090) C dL_law__1086 (by decide) ?_
      refine y_lawF (pc := 1090) (As := [Value.int (iv (xs (k0 + 1)).toInt), Value.int (iv (bz true))]) C hr hc hs (by decide) (by decide) cv_L_140 (fun hR' => mt_rate ns nc nl hl.1 s hs0 (xs (k0 + 1)).toInt (iv_r _) true) rfl rfl dL_law__1090 (fun _ => ?_) (fun q => absurd hKσ q)
      refine y_istore (L' := [(6, _), (5, _), (0, _), (1, _), (2, _), (3, _), (4, _)]) C dL_law__1093 (by rw [hn]; decide) rfl ?_
      refine y_aload_n C dL_law__1095 4 rfl ?_
      refine y_lawT C hr hc hs (K := 0) (by rw [hs0]; rfl) dL_law__1096 ?_
      refine y_iload C dL_law__1099 1 rfl ?_
      refine y_icmpE (tgt := 1106) C dL_law__1101 (by decide) ?_
      refine y_iload (pc := 1106) C dL_law__1106 1 rfl ?_
      refine y_if_ne (tgt := 1123) C dL_law__1108 (by decide) (by decide) (by decide) (fun c => absurd rfl c) (fun _ => ?_)
      refine y_aload_n C dL_law__1111 5 rfl ?_
      refine y_iconst C dL_law__1112 ?_
      refine y_lawR0 C dL_law__1113 ?_
      refine y_iload C dL_law__1114 0 rfl ?_
      refine y_i2lR C dL_law__1116 ?_
      refine y_lcmpE C dL_law__1117 ?_
      refine y_if_eq (tgt := 1123) C dL_law__1118 (by decide) (by decide) (by decide) (fun _ => ?_) (fun c => absurd rfl c)
      refine y_goto (pc := 1123) (tgt := 1617) C dL_law__1123 (by decide) ?_
      refine Y.sub [2, 3, 4, 5, 6] rfl ?_
      exact Y.imp (fun h hh => LW.good (hli) hlo hh) kk
    · skip
      refine y_istore (pc := 1067) (L' := [(5, _), (0, _), (1, _), (2, _), (3, _), (4, _)]) C dL_law__1067 (by rw [hn]; decide) rfl ?_
      refine y_aload_n C dL_law__1069 3 rfl ?_
      refine y_aload_n C dL_law__1070 1 rfl ?_
      refine y_iload C dL_law__1071 5 rfl ?_
      refine y_iconst C dL_law__1073 ?_
      refine y_iadd C dL_law__1074 ?_
      refine y_sld C hX hbl hbA (k := k0 + 1) (by omega) (by omega) hN dL_law__1075 ?_
      refine y_aload_n C dL_law__1076 1 rfl ?_
      refine y_iload C dL_law__1077 5 rfl ?_
      refine y_iconst C dL_law__1079 ?_
      refine y_iadd C dL_law__1080 ?_
      refine y_sld C hX hbl hbA (k := k0 + 2) (by omega) (by omega) hN dL_law__1081 ?_
      refine y_if_eq (tgt := 1089) C dL_law__1082 (by decide) (iv_r _).1 (iv_r _).2 (fun c => absurd c hb) (fun _ => ?_)
      refine y_iconst C dL_law__1085 ?_
      refine y_goto (tgt := 1090) C dL_law__1086 (by decide) ?_
      refine y_lawF (pc := 1090) (As := [Value.int (iv (xs (k0 + 1)).toInt), Value.int (iv (bz true))]) C hr hc hs (by decide) (by decide) cv_L_140 (fun hR' => mt_rate ns nc nl hl.1 s hs0 (xs (k0 + 1)).toInt (iv_r _) true) rfl rfl dL_law__1090 (fun q => absurd (eK.symm.trans q) hK) (fun _ => ?_)
      refine y_istore (L' := [(6, _), (5, _), (0, _), (1, _), (2, _), (3, _), (4, _)]) C dL_law__1093 (by rw [hn]; decide) rfl ?_
      refine y_aload_n C dL_law__1095 4 rfl ?_
      refine y_lawT C hr hc hs (K := soK s (xs (k0 + 1)).toInt) (zu_s.trans eK) dL_law__1096 ?_
      refine y_iload C dL_law__1099 1 rfl ?_
      refine y_icmpE (tgt := 1106) C dL_law__1101 (by decide) ?_
      refine y_iload (pc := 1106) C dL_law__1106 1 rfl ?_
      refine y_if_ne (tgt := 1123) C dL_law__1108 (by decide) (by omega) (by omega) (fun _ => ?_) (fun c => absurd c hK)
      refine y_goto (pc := 1123) (tgt := 1617) C dL_law__1123 (by decide) ?_
      refine Y.sub [2, 3, 4, 5, 6] rfl ?_
      exact Y.imp (fun h hh => LW.bad hs0 hl hlo hh) kk

set_option maxHeartbeats 1000000 in
set_option maxRecDepth 20000 in
theorem lc_mix {Ω : OmT} {κ : KxT} {hR : AH} {cs sl b N x M o k0 : Nat} {xs : Nat → Int32} (C : Cx Ω κ RL cL_law_) (hn : kn κ = 8) (hr : kR κ = room_1) (hX : va_X b N xs (ks κ) (ks κ).heap) (hbl : b < (ks κ).heap.size) (hbA : ¬ OmA Ω b) (hk : k0 + 6 < N) (hN : N ≤ 100000) (hc : cs + 4 ≤ 601024) (hs : sl + 160 ≤ 7293034) (kk : Y Ω κ (LW Ω x M o) hR (cs + 4) (sl + 160) 1617 [(0, .ref b), (1, .ref x), (2, .ref M), (3, .ref o), (4, .int (iv (k0 : Nat)))] []) : Y Ω κ (LW Ω x M o) hR cs sl 1126 [(0, .ref b), (1, .ref x), (2, .ref M), (3, .ref o), (4, .int (iv (k0 : Nat)))] [] := by
  refine LW.un (fun lay ma σ s τ ξ ns nc nl f hs0 hl hli hlo hx => ?_)
  subst hx
  have eK : soK σ (xs (k0 + 1)).toInt = soK s (xs (k0 + 1)).toInt := by rw [hs0]; rfl
  have hK3 : 0 ≤ soK s (xs (k0 + 1)).toInt ∧ soK s (xs (k0 + 1)).toInt ≤ 3 := by unfold soK; (repeat' split) <;> decide
  refine y_aload_n (pc := 1126) C dL_law__1126 1 rfl ?_
  refine y_aload_n C dL_law__1127 0 rfl ?_
  refine y_iload C dL_law__1128 4 rfl ?_
  refine y_iconst C dL_law__1130 ?_
  refine y_iadd C dL_law__1131 ?_
  refine y_sld C hX hbl hbA (k := k0 + 1) (by omega) (by omega) hN dL_law__1132 ?_
  refine y_aload_n C dL_law__1133 3 rfl ?_
  refine y_lawCC (n := 3) (As := [.ref (lay 0 0), Value.int (iv (xs (k0 + 1)).toInt), .ref o]) C hr hc hs (by decide) (by decide) (by decide) (by decide) aw_3_206 aw_3_207 aw_1_0 aw_3_208 ⟨by decide, by decide, by decide +kernel⟩ (fun hR' => wl_mix hli.1 (Nat.le_refl _) (xs (k0 + 1)).toInt (iv_r _) o f) rfl rfl dL_law__1134 (fun hK => ?_) (fun hK => ?_)
  · skip
    rw [hK]
    have hKσ := eK.trans hK
    refine y_istore (pc := 1137) (L' := [(5, _), (0, _), (1, _), (2, _), (3, _), (4, _)]) C dL_law__1137 (by rw [hn]; decide) rfl ?_
    refine y_aload_n C dL_law__1139 3 rfl ?_
    refine y_aload_n C dL_law__1140 1 rfl ?_
    refine y_iload C dL_law__1141 5 rfl ?_
    refine y_iconst C dL_law__1143 ?_
    refine y_iadd C dL_law__1144 ?_
    refine y_sld C hX hbl hbA (k := k0 + 1) (by omega) (by omega) hN dL_law__1145 ?_
    refine y_lawF (As := [Value.int (iv (xs (k0 + 1)).toInt)]) C hr hc hs (by decide) (by decide) cv_L_143 (fun hR' => mt_mix ns nc nl hl.1 s hs0 (xs (k0 + 1)).toInt (iv_r _)) rfl rfl dL_law__1146 (fun _ => ?_) (fun q => absurd hKσ q)
    refine y_istore (L' := [(6, _), (5, _), (0, _), (1, _), (2, _), (3, _), (4, _)]) C dL_law__1149 (by rw [hn]; decide) rfl ?_
    refine y_aload_n C dL_law__1151 4 rfl ?_
    refine y_lawT C hr hc hs (K := 0) (by rw [hs0]; rfl) dL_law__1152 ?_
    refine y_iload C dL_law__1155 1 rfl ?_
    refine y_icmpE (tgt := 1162) C dL_law__1157 (by decide) ?_
    refine y_iload (pc := 1162) C dL_law__1162 1 rfl ?_
    refine y_if_ne (tgt := 1179) C dL_law__1164 (by decide) (by decide) (by decide) (fun c => absurd rfl c) (fun _ => ?_)
    refine y_aload_n C dL_law__1167 5 rfl ?_
    refine y_iconst C dL_law__1168 ?_
    refine y_lawR0 C dL_law__1169 ?_
    refine y_iload C dL_law__1170 0 rfl ?_
    refine y_i2lR C dL_law__1172 ?_
    refine y_lcmpE C dL_law__1173 ?_
    refine y_if_eq (tgt := 1179) C dL_law__1174 (by decide) (by decide) (by decide) (fun _ => ?_) (fun c => absurd rfl c)
    refine y_goto (pc := 1179) (tgt := 1617) C dL_law__1179 (by decide) ?_
    refine Y.sub [2, 3, 4, 5, 6] rfl ?_
    exact Y.imp (fun h hh => LW.good (hli) hlo hh) kk
  · skip
    refine y_istore (pc := 1137) (L' := [(5, _), (0, _), (1, _), (2, _), (3, _), (4, _)]) C dL_law__1137 (by rw [hn]; decide) rfl ?_
    refine y_aload_n C dL_law__1139 3 rfl ?_
    refine y_aload_n C dL_law__1140 1 rfl ?_
    refine y_iload C dL_law__1141 5 rfl ?_
    refine y_iconst C dL_law__1143 ?_
    refine y_iadd C dL_law__1144 ?_
    refine y_sld C hX hbl hbA (k := k0 + 1) (by omega) (by omega) hN dL_law__1145 ?_
    refine y_lawF (As := [Value.int (iv (xs (k0 + 1)).toInt)]) C hr hc hs (by decide) (by decide) cv_L_143 (fun hR' => mt_mix ns nc nl hl.1 s hs0 (xs (k0 + 1)).toInt (iv_r _)) rfl rfl dL_law__1146 (fun q => absurd (eK.symm.trans q) hK) (fun _ => ?_)
    refine y_istore (L' := [(6, _), (5, _), (0, _), (1, _), (2, _), (3, _), (4, _)]) C dL_law__1149 (by rw [hn]; decide) rfl ?_
    refine y_aload_n C dL_law__1151 4 rfl ?_
    refine y_lawT C hr hc hs (K := soK s (xs (k0 + 1)).toInt) (zu_s.trans eK) dL_law__1152 ?_
    refine y_iload C dL_law__1155 1 rfl ?_
    refine y_icmpE (tgt := 1162) C dL_law__1157 (by decide) ?_
    refine y_iload (pc := 1162) C dL_law__1162 1 rfl ?_
    refine y_if_ne (tgt := 1179) C dL_law__1164 (by decide) (by omega) (by omega) (fun _ => ?_) (fun c => absurd c hK)
    refine y_goto (pc := 1179) (tgt := 1617) C dL_law__1179 (by decide) ?_
    refine Y.sub [2, 3, 4, 5, 6] rfl ?_
    exact Y.imp (fun h hh => LW.bad hs0 hl hlo hh) kk

set_option maxHeartbeats 1000000 in
set_option maxRecDepth 20000 in
theorem lc_ofStore {Ω : OmT} {κ : KxT} {hR : AH} {cs sl b N x M o k0 : Nat} {xs : Nat → Int32} (C : Cx Ω κ RL cL_law_) (hn : kn κ = 8) (hr : kR κ = room_1) (hX : va_X b N xs (ks κ) (ks κ).heap) (hbl : b < (ks κ).heap.size) (hbA : ¬ OmA Ω b) (hk : k0 + 6 < N) (hN : N ≤ 100000) (hc : cs + 4 ≤ 601024) (hs : sl + 160 ≤ 7293034) (kk : Y Ω κ (LW Ω x M o) hR (cs + 4) (sl + 160) 1617 [(0, .ref b), (1, .ref x), (2, .ref M), (3, .ref o), (4, .int (iv (k0 : Nat)))] []) : Y Ω κ (LW Ω x M o) hR cs sl 1182 [(0, .ref b), (1, .ref x), (2, .ref M), (3, .ref o), (4, .int (iv (k0 : Nat)))] [] := by
  refine LW.un (fun lay ma σ s τ ξ ns nc nl f hs0 hl hli hlo hx => ?_)
  subst hx
  have eK : osK σ (xs (k0 + 1)).toInt (xs (k0 + 2)).toInt = osK s (xs (k0 + 1)).toInt (xs (k0 + 2)).toInt := by rw [hs0]; rfl
  have hK3 : 0 ≤ osK s (xs (k0 + 1)).toInt (xs (k0 + 2)).toInt ∧ osK s (xs (k0 + 1)).toInt (xs (k0 + 2)).toInt ≤ 3 := by unfold osK; (repeat' split) <;> decide
  refine y_aload_n (pc := 1182) C dL_law__1182 1 rfl ?_
  refine y_aload_n C dL_law__1183 0 rfl ?_
  refine y_iload C dL_law__1184 4 rfl ?_
  refine y_iconst C dL_law__1186 ?_
  refine y_iadd C dL_law__1187 ?_
  refine y_sld C hX hbl hbA (k := k0 + 1) (by omega) (by omega) hN dL_law__1188 ?_
  refine y_aload_n C dL_law__1189 0 rfl ?_
  refine y_iload C dL_law__1190 4 rfl ?_
  refine y_iconst C dL_law__1192 ?_
  refine y_iadd C dL_law__1193 ?_
  refine y_sld C hX hbl hbA (k := k0 + 2) (by omega) (by omega) hN dL_law__1194 ?_
  refine y_aload_n C dL_law__1195 3 rfl ?_
  refine y_lawCC (n := 4) (As := [.ref (lay 0 0), Value.int (iv (xs (k0 + 1)).toInt), Value.int (iv (xs (k0 + 2)).toInt), .ref o]) C hr hc hs (by decide) (by decide) (by decide) (by decide) aw_3_213 aw_3_214 aw_1_0 aw_3_215 ⟨by decide, by decide, by decide +kernel⟩ (fun hR' => wl_ofStore hli.1 (Nat.le_refl _) (xs (k0 + 1)).toInt (iv_r _) (xs (k0 + 2)).toInt (iv_r _) o f) rfl rfl dL_law__1196 (fun hK => ?_) (fun hK => ?_)
  · skip
    rw [hK]
    have hKσ := eK.trans hK
    refine y_istore (pc := 1199) (L' := [(5, _), (0, _), (1, _), (2, _), (3, _), (4, _)]) C dL_law__1199 (by rw [hn]; decide) rfl ?_
    refine y_aload_n C dL_law__1201 3 rfl ?_
    refine y_aload_n C dL_law__1202 1 rfl ?_
    refine y_iload C dL_law__1203 5 rfl ?_
    refine y_iconst C dL_law__1205 ?_
    refine y_iadd C dL_law__1206 ?_
    refine y_sld C hX hbl hbA (k := k0 + 1) (by omega) (by omega) hN dL_law__1207 ?_
    refine y_aload_n C dL_law__1208 1 rfl ?_
    refine y_iload C dL_law__1209 5 rfl ?_
    refine y_iconst C dL_law__1211 ?_
    refine y_iadd C dL_law__1212 ?_
    refine y_sld C hX hbl hbA (k := k0 + 2) (by omega) (by omega) hN dL_law__1213 ?_
    refine y_lawF (As := [Value.int (iv (xs (k0 + 1)).toInt), Value.int (iv (xs (k0 + 2)).toInt)]) C hr hc hs (by decide) (by decide) cv_L_146 (fun hR' => mt_ofStore ns nc nl hl.1 s hs0 (xs (k0 + 1)).toInt (iv_r _) (xs (k0 + 2)).toInt (iv_r _)) rfl rfl dL_law__1214 (fun _ => ?_) (fun q => absurd hKσ q)
    refine y_lstore (L' := [(6, _), (5, _), (0, _), (1, _), (2, _), (3, _), (4, _)]) C dL_law__1217 (by rw [hn]; decide) rfl ?_
    refine y_aload_n C dL_law__1219 4 rfl ?_
    refine y_lawT C hr hc hs (K := 0) (by rw [hs0]; rfl) dL_law__1220 ?_
    refine y_iload C dL_law__1223 1 rfl ?_
    refine y_icmpE (tgt := 1230) C dL_law__1225 (by decide) ?_
    refine y_iload (pc := 1230) C dL_law__1230 1 rfl ?_
    refine y_if_ne (tgt := 1246) C dL_law__1232 (by decide) (by decide) (by decide) (fun c => absurd rfl c) (fun _ => ?_)
    refine y_aload_n C dL_law__1235 5 rfl ?_
    refine y_iconst C dL_law__1236 ?_
    refine y_lawR0 C dL_law__1237 ?_
    refine y_lload C dL_law__1238 0 rfl ?_
    refine y_lcmpE C dL_law__1240 ?_
    refine y_if_eq (tgt := 1246) C dL_law__1241 (by decide) (by decide) (by decide) (fun _ => ?_) (fun c => absurd rfl c)
    refine y_goto (pc := 1246) (tgt := 1617) C dL_law__1246 (by decide) ?_
    refine Y.sub [2, 3, 4, 5, 6] rfl ?_
    exact Y.imp (fun h hh => LW.good (hli) hlo hh) kk
  · skip
    refine y_istore (pc := 1199) (L' := [(5, _), (0, _), (1, _), (2, _), (3, _), (4, _)]) C dL_law__1199 (by rw [hn]; decide) rfl ?_
    refine y_aload_n C dL_law__1201 3 rfl ?_
    refine y_aload_n C dL_law__1202 1 rfl ?_
    refine y_iload C dL_law__1203 5 rfl ?_
    refine y_iconst C dL_law__1205 ?_
    refine y_iadd C dL_law__1206 ?_
    refine y_sld C hX hbl hbA (k := k0 + 1) (by omega) (by omega) hN dL_law__1207 ?_
    refine y_aload_n C dL_law__1208 1 rfl ?_
    refine y_iload C dL_law__1209 5 rfl ?_
    refine y_iconst C dL_law__1211 ?_
    refine y_iadd C dL_law__1212 ?_
    refine y_sld C hX hbl hbA (k := k0 + 2) (by omega) (by omega) hN dL_law__1213 ?_
    refine y_lawF (As := [Value.int (iv (xs (k0 + 1)).toInt), Value.int (iv (xs (k0 + 2)).toInt)]) C hr hc hs (by decide) (by decide) cv_L_146 (fun hR' => mt_ofStore ns nc nl hl.1 s hs0 (xs (k0 + 1)).toInt (iv_r _) (xs (k0 + 2)).toInt (iv_r _)) rfl rfl dL_law__1214 (fun q => absurd (eK.symm.trans q) hK) (fun _ => ?_)
    refine y_lstore (L' := [(6, _), (5, _), (0, _), (1, _), (2, _), (3, _), (4, _)]) C dL_law__1217 (by rw [hn]; decide) rfl ?_
    refine y_aload_n C dL_law__1219 4 rfl ?_
    refine y_lawT C hr hc hs (K := osK s (xs (k0 + 1)).toInt (xs (k0 + 2)).toInt) (zu_s.trans eK) dL_law__1220 ?_
    refine y_iload C dL_law__1223 1 rfl ?_
    refine y_icmpE (tgt := 1230) C dL_law__1225 (by decide) ?_
    refine y_iload (pc := 1230) C dL_law__1230 1 rfl ?_
    refine y_if_ne (tgt := 1246) C dL_law__1232 (by decide) (by omega) (by omega) (fun _ => ?_) (fun c => absurd c hK)
    refine y_goto (pc := 1246) (tgt := 1617) C dL_law__1246 (by decide) ?_
    refine Y.sub [2, 3, 4, 5, 6] rfl ?_
    exact Y.imp (fun h hh => LW.bad hs0 hl hlo hh) kk

set_option maxHeartbeats 1000000 in
set_option maxRecDepth 20000 in
theorem lc_ofCustomer {Ω : OmT} {κ : KxT} {hR : AH} {cs sl b N x M o k0 : Nat} {xs : Nat → Int32} (C : Cx Ω κ RL cL_law_) (hn : kn κ = 8) (hr : kR κ = room_1) (hX : va_X b N xs (ks κ) (ks κ).heap) (hbl : b < (ks κ).heap.size) (hbA : ¬ OmA Ω b) (hk : k0 + 6 < N) (hN : N ≤ 100000) (hc : cs + 4 ≤ 601024) (hs : sl + 160 ≤ 7293034) (kk : Y Ω κ (LW Ω x M o) hR (cs + 4) (sl + 160) 1617 [(0, .ref b), (1, .ref x), (2, .ref M), (3, .ref o), (4, .int (iv (k0 : Nat)))] []) : Y Ω κ (LW Ω x M o) hR cs sl 1249 [(0, .ref b), (1, .ref x), (2, .ref M), (3, .ref o), (4, .int (iv (k0 : Nat)))] [] := by
  refine LW.un (fun lay ma σ s τ ξ ns nc nl f hs0 hl hli hlo hx => ?_)
  subst hx
  have eK : ocK σ (xs (k0 + 1)).toInt (xs (k0 + 2)).toInt = ocK s (xs (k0 + 1)).toInt (xs (k0 + 2)).toInt := by rw [hs0]; rfl
  have hK3 : 0 ≤ ocK s (xs (k0 + 1)).toInt (xs (k0 + 2)).toInt ∧ ocK s (xs (k0 + 1)).toInt (xs (k0 + 2)).toInt ≤ 3 := by unfold ocK; (repeat' split) <;> decide
  refine y_aload_n (pc := 1249) C dL_law__1249 1 rfl ?_
  refine y_aload_n C dL_law__1250 0 rfl ?_
  refine y_iload C dL_law__1251 4 rfl ?_
  refine y_iconst C dL_law__1253 ?_
  refine y_iadd C dL_law__1254 ?_
  refine y_sld C hX hbl hbA (k := k0 + 1) (by omega) (by omega) hN dL_law__1255 ?_
  refine y_aload_n C dL_law__1256 0 rfl ?_
  refine y_iload C dL_law__1257 4 rfl ?_
  refine y_iconst C dL_law__1259 ?_
  refine y_iadd C dL_law__1260 ?_
  refine y_sld C hX hbl hbA (k := k0 + 2) (by omega) (by omega) hN dL_law__1261 ?_
  refine y_aload_n C dL_law__1262 3 rfl ?_
  refine y_lawCC (n := 4) (As := [.ref (lay 0 0), Value.int (iv (xs (k0 + 1)).toInt), Value.int (iv (xs (k0 + 2)).toInt), .ref o]) C hr hc hs (by decide) (by decide) (by decide) (by decide) aw_3_224 aw_3_225 aw_1_0 aw_3_226 ⟨by decide, by decide, by decide +kernel⟩ (fun hR' => wl_ofCustomer hli.1 (Nat.le_refl _) (xs (k0 + 1)).toInt (iv_r _) (xs (k0 + 2)).toInt (iv_r _) o f) rfl rfl dL_law__1263 (fun hK => ?_) (fun hK => ?_)
  · skip
    rw [hK]
    have hKσ := eK.trans hK
    refine y_istore (pc := 1266) (L' := [(5, _), (0, _), (1, _), (2, _), (3, _), (4, _)]) C dL_law__1266 (by rw [hn]; decide) rfl ?_
    refine y_aload_n C dL_law__1268 3 rfl ?_
    refine y_aload_n C dL_law__1269 1 rfl ?_
    refine y_iload C dL_law__1270 5 rfl ?_
    refine y_iconst C dL_law__1272 ?_
    refine y_iadd C dL_law__1273 ?_
    refine y_sld C hX hbl hbA (k := k0 + 1) (by omega) (by omega) hN dL_law__1274 ?_
    refine y_aload_n C dL_law__1275 1 rfl ?_
    refine y_iload C dL_law__1276 5 rfl ?_
    refine y_iconst C dL_law__1278 ?_
    refine y_iadd C dL_law__1279 ?_
    refine y_sld C hX hbl hbA (k := k0 + 2) (by omega) (by omega) hN dL_law__1280 ?_
    refine y_lawF (As := [Value.int (iv (xs (k0 + 1)).toInt), Value.int (iv (xs (k0 + 2)).toInt)]) C hr hc hs (by decide) (by decide) cv_L_149 (fun hR' => mt_ofCustomer ns nc nl hl.1 s hs0 (xs (k0 + 1)).toInt (iv_r _) (xs (k0 + 2)).toInt (iv_r _)) rfl rfl dL_law__1281 (fun _ => ?_) (fun q => absurd hKσ q)
    refine y_lstore (L' := [(6, _), (5, _), (0, _), (1, _), (2, _), (3, _), (4, _)]) C dL_law__1284 (by rw [hn]; decide) rfl ?_
    refine y_aload_n C dL_law__1286 4 rfl ?_
    refine y_lawT C hr hc hs (K := 0) (by rw [hs0]; rfl) dL_law__1287 ?_
    refine y_iload C dL_law__1290 1 rfl ?_
    refine y_icmpE (tgt := 1297) C dL_law__1292 (by decide) ?_
    refine y_iload (pc := 1297) C dL_law__1297 1 rfl ?_
    refine y_if_ne (tgt := 1313) C dL_law__1299 (by decide) (by decide) (by decide) (fun c => absurd rfl c) (fun _ => ?_)
    refine y_aload_n C dL_law__1302 5 rfl ?_
    refine y_iconst C dL_law__1303 ?_
    refine y_lawR0 C dL_law__1304 ?_
    refine y_lload C dL_law__1305 0 rfl ?_
    refine y_lcmpE C dL_law__1307 ?_
    refine y_if_eq (tgt := 1313) C dL_law__1308 (by decide) (by decide) (by decide) (fun _ => ?_) (fun c => absurd rfl c)
    refine y_goto (pc := 1313) (tgt := 1617) C dL_law__1313 (by decide) ?_
    refine Y.sub [2, 3, 4, 5, 6] rfl ?_
    exact Y.imp (fun h hh => LW.good (hli) hlo hh) kk
  · skip
    refine y_istore (pc := 1266) (L' := [(5, _), (0, _), (1, _), (2, _), (3, _), (4, _)]) C dL_law__1266 (by rw [hn]; decide) rfl ?_
    refine y_aload_n C dL_law__1268 3 rfl ?_
    refine y_aload_n C dL_law__1269 1 rfl ?_
    refine y_iload C dL_law__1270 5 rfl ?_
    refine y_iconst C dL_law__1272 ?_
    refine y_iadd C dL_law__1273 ?_
    refine y_sld C hX hbl hbA (k := k0 + 1) (by omega) (by omega) hN dL_law__1274 ?_
    refine y_aload_n C dL_law__1275 1 rfl ?_
    refine y_iload C dL_law__1276 5 rfl ?_
    refine y_iconst C dL_law__1278 ?_
    refine y_iadd C dL_law__1279 ?_
    refine y_sld C hX hbl hbA (k := k0 + 2) (by omega) (by omega) hN dL_law__1280 ?_
    refine y_lawF (As := [Value.int (iv (xs (k0 + 1)).toInt), Value.int (iv (xs (k0 + 2)).toInt)]) C hr hc hs (by decide) (by decide) cv_L_149 (fun hR' => mt_ofCustomer ns nc nl hl.1 s hs0 (xs (k0 + 1)).toInt (iv_r _) (xs (k0 + 2)).toInt (iv_r _)) rfl rfl dL_law__1281 (fun q => absurd (eK.symm.trans q) hK) (fun _ => ?_)
    refine y_lstore (L' := [(6, _), (5, _), (0, _), (1, _), (2, _), (3, _), (4, _)]) C dL_law__1284 (by rw [hn]; decide) rfl ?_
    refine y_aload_n C dL_law__1286 4 rfl ?_
    refine y_lawT C hr hc hs (K := ocK s (xs (k0 + 1)).toInt (xs (k0 + 2)).toInt) (zu_s.trans eK) dL_law__1287 ?_
    refine y_iload C dL_law__1290 1 rfl ?_
    refine y_icmpE (tgt := 1297) C dL_law__1292 (by decide) ?_
    refine y_iload (pc := 1297) C dL_law__1297 1 rfl ?_
    refine y_if_ne (tgt := 1313) C dL_law__1299 (by decide) (by omega) (by omega) (fun _ => ?_) (fun c => absurd c hK)
    refine y_goto (pc := 1313) (tgt := 1617) C dL_law__1313 (by decide) ?_
    refine Y.sub [2, 3, 4, 5, 6] rfl ?_
    exact Y.imp (fun h hh => LW.bad hs0 hl hlo hh) kk

set_option maxHeartbeats 1000000 in
set_option maxRecDepth 20000 in
theorem lc_flow {Ω : OmT} {κ : KxT} {hR : AH} {cs sl b N x M o k0 : Nat} {xs : Nat → Int32} (C : Cx Ω κ RL cL_law_) (hn : kn κ = 8) (hr : kR κ = room_1) (hX : va_X b N xs (ks κ) (ks κ).heap) (hbl : b < (ks κ).heap.size) (hbA : ¬ OmA Ω b) (hk : k0 + 6 < N) (hN : N ≤ 100000) (hc : cs + 4 ≤ 601024) (hs : sl + 160 ≤ 7293034) (kk : Y Ω κ (LW Ω x M o) hR (cs + 4) (sl + 160) 1617 [(0, .ref b), (1, .ref x), (2, .ref M), (3, .ref o), (4, .int (iv (k0 : Nat)))] []) : Y Ω κ (LW Ω x M o) hR cs sl 1316 [(0, .ref b), (1, .ref x), (2, .ref M), (3, .ref o), (4, .int (iv (k0 : Nat)))] [] := by
  refine LW.un (fun lay ma σ s τ ξ ns nc nl f hs0 hl hli hlo hx => ?_)
  subst hx
  have eK : scK σ (xs (k0 + 1)).toInt = scK s (xs (k0 + 1)).toInt := by rw [hs0]; rfl
  have hK3 : 0 ≤ scK s (xs (k0 + 1)).toInt ∧ scK s (xs (k0 + 1)).toInt ≤ 3 := by unfold scK; (repeat' split) <;> decide
  refine y_aload_n (pc := 1316) C dL_law__1316 1 rfl ?_
  refine y_aload_n C dL_law__1317 0 rfl ?_
  refine y_iload C dL_law__1318 4 rfl ?_
  refine y_iconst C dL_law__1320 ?_
  refine y_iadd C dL_law__1321 ?_
  refine y_sld C hX hbl hbA (k := k0 + 1) (by omega) (by omega) hN dL_law__1322 ?_
  refine y_aload_n C dL_law__1323 3 rfl ?_
  refine y_lawCC (n := 3) (As := [.ref (lay 0 0), Value.int (iv (xs (k0 + 1)).toInt), .ref o]) C hr hc hs (by decide) (by decide) (by decide) (by decide) aw_3_233 aw_3_234 aw_1_0 aw_3_235 ⟨by decide, by decide, by decide +kernel⟩ (fun hR' => wl_flow hli.1 (Nat.le_refl _) (xs (k0 + 1)).toInt (iv_r _) hli.2.2.2.1 o f) rfl rfl dL_law__1324 (fun hK => ?_) (fun hK => ?_)
  · skip
    rw [hK]
    have hKσ := eK.trans hK
    refine y_istore (pc := 1327) (L' := [(5, _), (0, _), (1, _), (2, _), (3, _), (4, _)]) C dL_law__1327 (by rw [hn]; decide) rfl ?_
    refine y_aload_n C dL_law__1329 3 rfl ?_
    refine y_aload_n C dL_law__1330 1 rfl ?_
    refine y_iload C dL_law__1331 5 rfl ?_
    refine y_iconst C dL_law__1333 ?_
    refine y_iadd C dL_law__1334 ?_
    refine y_sld C hX hbl hbA (k := k0 + 1) (by omega) (by omega) hN dL_law__1335 ?_
    refine y_lawF (As := [Value.int (iv (xs (k0 + 1)).toInt)]) C hr hc hs (by decide) (by decide) cv_L_152 (fun hR' => mt_flow ns nc nl hl.1 s hs0 (xs (k0 + 1)).toInt (iv_r _)) rfl rfl dL_law__1336 (fun _ => ?_) (fun q => absurd hKσ q)
    refine y_istore (L' := [(6, _), (5, _), (0, _), (1, _), (2, _), (3, _), (4, _)]) C dL_law__1339 (by rw [hn]; decide) rfl ?_
    refine y_aload_n C dL_law__1341 4 rfl ?_
    refine y_lawT C hr hc hs (K := 0) ((congrFun lays_0 0).trans (by rw [hs0]; rfl : s 0 0 = 0)) dL_law__1342 ?_
    refine y_iload C dL_law__1345 1 rfl ?_
    refine y_icmpE (tgt := 1352) C dL_law__1347 (by decide) ?_
    refine y_iload (pc := 1352) C dL_law__1352 1 rfl ?_
    refine y_if_ne (tgt := 1369) C dL_law__1354 (by decide) (by decide) (by decide) (fun c => absurd rfl c) (fun _ => ?_)
    refine y_aload_n C dL_law__1357 5 rfl ?_
    refine y_iconst C dL_law__1358 ?_
    refine y_lawR0 C dL_law__1359 ?_
    refine y_iload C dL_law__1360 0 rfl ?_
    refine y_i2lR C dL_law__1362 ?_
    refine y_lcmpE C dL_law__1363 ?_
    refine y_if_eq (tgt := 1369) C dL_law__1364 (by decide) (by decide) (by decide) (fun _ => ?_) (fun c => absurd rfl c)
    refine y_goto (pc := 1369) (tgt := 1617) C dL_law__1369 (by decide) ?_
    refine Y.sub [2, 3, 4, 5, 6] rfl ?_
    exact Y.imp (fun h hh => LW.good (li_lays hli) hlo hh) kk
  · skip
    refine y_istore (pc := 1327) (L' := [(5, _), (0, _), (1, _), (2, _), (3, _), (4, _)]) C dL_law__1327 (by rw [hn]; decide) rfl ?_
    refine y_aload_n C dL_law__1329 3 rfl ?_
    refine y_aload_n C dL_law__1330 1 rfl ?_
    refine y_iload C dL_law__1331 5 rfl ?_
    refine y_iconst C dL_law__1333 ?_
    refine y_iadd C dL_law__1334 ?_
    refine y_sld C hX hbl hbA (k := k0 + 1) (by omega) (by omega) hN dL_law__1335 ?_
    refine y_lawF (As := [Value.int (iv (xs (k0 + 1)).toInt)]) C hr hc hs (by decide) (by decide) cv_L_152 (fun hR' => mt_flow ns nc nl hl.1 s hs0 (xs (k0 + 1)).toInt (iv_r _)) rfl rfl dL_law__1336 (fun q => absurd (eK.symm.trans q) hK) (fun _ => ?_)
    refine y_istore (L' := [(6, _), (5, _), (0, _), (1, _), (2, _), (3, _), (4, _)]) C dL_law__1339 (by rw [hn]; decide) rfl ?_
    refine y_aload_n C dL_law__1341 4 rfl ?_
    refine y_lawT C hr hc hs (K := scK s (xs (k0 + 1)).toInt) (zu_s.trans eK) dL_law__1342 ?_
    refine y_iload C dL_law__1345 1 rfl ?_
    refine y_icmpE (tgt := 1352) C dL_law__1347 (by decide) ?_
    refine y_iload (pc := 1352) C dL_law__1352 1 rfl ?_
    refine y_if_ne (tgt := 1369) C dL_law__1354 (by decide) (by omega) (by omega) (fun _ => ?_) (fun c => absurd c hK)
    refine y_goto (pc := 1369) (tgt := 1617) C dL_law__1369 (by decide) ?_
    refine Y.sub [2, 3, 4, 5, 6] rfl ?_
    exact Y.imp (fun h hh => LW.bad hs0 hl hlo hh) kk

set_option maxHeartbeats 1000000 in
set_option maxRecDepth 20000 in
theorem lc_why {Ω : OmT} {κ : KxT} {hR : AH} {cs sl b N x M o k0 : Nat} {xs : Nat → Int32} (C : Cx Ω κ RL cL_law_) (hn : kn κ = 8) (hr : kR κ = room_1) (hX : va_X b N xs (ks κ) (ks κ).heap) (hbl : b < (ks κ).heap.size) (hbA : ¬ OmA Ω b) (hk : k0 + 6 < N) (hN : N ≤ 100000) (hc : cs + 4 ≤ 601024) (hs : sl + 160 ≤ 7293034) (kk : Y Ω κ (LW Ω x M o) hR (cs + 4) (sl + 160) 1617 [(0, .ref b), (1, .ref x), (2, .ref M), (3, .ref o), (4, .int (iv (k0 : Nat)))] []) : Y Ω κ (LW Ω x M o) hR cs sl 1372 [(0, .ref b), (1, .ref x), (2, .ref M), (3, .ref o), (4, .int (iv (k0 : Nat)))] [] := by
  refine LW.un (fun lay ma σ s τ ξ ns nc nl f hs0 hl hli hlo hx => ?_)
  subst hx
  have eK : scK σ (xs (k0 + 1)).toInt = scK s (xs (k0 + 1)).toInt := by rw [hs0]; rfl
  have hK3 : 0 ≤ scK s (xs (k0 + 1)).toInt ∧ scK s (xs (k0 + 1)).toInt ≤ 3 := by unfold scK; (repeat' split) <;> decide
  refine y_aload_n (pc := 1372) C dL_law__1372 1 rfl ?_
  refine y_aload_n C dL_law__1373 0 rfl ?_
  refine y_iload C dL_law__1374 4 rfl ?_
  refine y_iconst C dL_law__1376 ?_
  refine y_iadd C dL_law__1377 ?_
  refine y_sld C hX hbl hbA (k := k0 + 1) (by omega) (by omega) hN dL_law__1378 ?_
  refine y_aload_n C dL_law__1379 3 rfl ?_
  refine y_lawCC (n := 3) (As := [.ref (lay 0 0), Value.int (iv (xs (k0 + 1)).toInt), .ref o]) C hr hc hs (by decide) (by decide) (by decide) (by decide) aw_4_0 aw_4_1 aw_1_0 aw_4_2 ⟨by decide, by decide, by decide +kernel⟩ (fun hR' => wl_why hli.1 (Nat.le_refl _) (xs (k0 + 1)).toInt (iv_r _) hli.2.2.2.1 o f) rfl rfl dL_law__1380 (fun hK => ?_) (fun hK => ?_)
  · skip
    rw [hK]
    have hKσ := eK.trans hK
    refine y_istore (pc := 1383) (L' := [(5, _), (0, _), (1, _), (2, _), (3, _), (4, _)]) C dL_law__1383 (by rw [hn]; decide) rfl ?_
    refine y_aload_n C dL_law__1385 3 rfl ?_
    refine y_aload_n C dL_law__1386 1 rfl ?_
    refine y_iload C dL_law__1387 5 rfl ?_
    refine y_iconst C dL_law__1389 ?_
    refine y_iadd C dL_law__1390 ?_
    refine y_sld C hX hbl hbA (k := k0 + 1) (by omega) (by omega) hN dL_law__1391 ?_
    refine y_lawF (As := [Value.int (iv (xs (k0 + 1)).toInt)]) C hr hc hs (by decide) (by decide) cv_L_155 (fun hR' => mt_why ns nc nl hl.1 s hs0 (xs (k0 + 1)).toInt (iv_r _)) rfl rfl dL_law__1392 (fun _ => ?_) (fun q => absurd hKσ q)
    refine y_istore (L' := [(6, _), (5, _), (0, _), (1, _), (2, _), (3, _), (4, _)]) C dL_law__1395 (by rw [hn]; decide) rfl ?_
    refine y_aload_n C dL_law__1397 4 rfl ?_
    refine y_lawT C hr hc hs (K := 0) ((congrFun lays_0 0).trans (by rw [hs0]; rfl : s 0 0 = 0)) dL_law__1398 ?_
    refine y_iload C dL_law__1401 1 rfl ?_
    refine y_icmpE (tgt := 1408) C dL_law__1403 (by decide) ?_
    refine y_iload (pc := 1408) C dL_law__1408 1 rfl ?_
    refine y_if_ne (tgt := 1425) C dL_law__1410 (by decide) (by decide) (by decide) (fun c => absurd rfl c) (fun _ => ?_)
    refine y_aload_n C dL_law__1413 5 rfl ?_
    refine y_iconst C dL_law__1414 ?_
    refine y_lawR0 C dL_law__1415 ?_
    refine y_iload C dL_law__1416 0 rfl ?_
    refine y_i2lR C dL_law__1418 ?_
    refine y_lcmpE C dL_law__1419 ?_
    refine y_if_eq (tgt := 1425) C dL_law__1420 (by decide) (by decide) (by decide) (fun _ => ?_) (fun c => absurd rfl c)
    refine y_goto (pc := 1425) (tgt := 1617) C dL_law__1425 (by decide) ?_
    refine Y.sub [2, 3, 4, 5, 6] rfl ?_
    exact Y.imp (fun h hh => LW.good (li_lays hli) hlo hh) kk
  · skip
    refine y_istore (pc := 1383) (L' := [(5, _), (0, _), (1, _), (2, _), (3, _), (4, _)]) C dL_law__1383 (by rw [hn]; decide) rfl ?_
    refine y_aload_n C dL_law__1385 3 rfl ?_
    refine y_aload_n C dL_law__1386 1 rfl ?_
    refine y_iload C dL_law__1387 5 rfl ?_
    refine y_iconst C dL_law__1389 ?_
    refine y_iadd C dL_law__1390 ?_
    refine y_sld C hX hbl hbA (k := k0 + 1) (by omega) (by omega) hN dL_law__1391 ?_
    refine y_lawF (As := [Value.int (iv (xs (k0 + 1)).toInt)]) C hr hc hs (by decide) (by decide) cv_L_155 (fun hR' => mt_why ns nc nl hl.1 s hs0 (xs (k0 + 1)).toInt (iv_r _)) rfl rfl dL_law__1392 (fun q => absurd (eK.symm.trans q) hK) (fun _ => ?_)
    refine y_istore (L' := [(6, _), (5, _), (0, _), (1, _), (2, _), (3, _), (4, _)]) C dL_law__1395 (by rw [hn]; decide) rfl ?_
    refine y_aload_n C dL_law__1397 4 rfl ?_
    refine y_lawT C hr hc hs (K := scK s (xs (k0 + 1)).toInt) (zu_s.trans eK) dL_law__1398 ?_
    refine y_iload C dL_law__1401 1 rfl ?_
    refine y_icmpE (tgt := 1408) C dL_law__1403 (by decide) ?_
    refine y_iload (pc := 1408) C dL_law__1408 1 rfl ?_
    refine y_if_ne (tgt := 1425) C dL_law__1410 (by decide) (by omega) (by omega) (fun _ => ?_) (fun c => absurd c hK)
    refine y_goto (pc := 1425) (tgt := 1617) C dL_law__1425 (by decide) ?_
    refine Y.sub [2, 3, 4, 5, 6] rfl ?_
    exact Y.imp (fun h hh => LW.bad hs0 hl hlo hh) kk

set_option maxHeartbeats 1000000 in
set_option maxRecDepth 20000 in
theorem lc_worth {Ω : OmT} {κ : KxT} {hR : AH} {cs sl b N x M o k0 : Nat} {xs : Nat → Int32} (C : Cx Ω κ RL cL_law_) (hn : kn κ = 8) (hr : kR κ = room_1) (hX : va_X b N xs (ks κ) (ks κ).heap) (hbl : b < (ks κ).heap.size) (hbA : ¬ OmA Ω b) (hk : k0 + 6 < N) (hN : N ≤ 100000) (hc : cs + 4 ≤ 601024) (hs : sl + 160 ≤ 7293034) (kk : Y Ω κ (LW Ω x M o) hR (cs + 4) (sl + 160) 1617 [(0, .ref b), (1, .ref x), (2, .ref M), (3, .ref o), (4, .int (iv (k0 : Nat)))] []) : Y Ω κ (LW Ω x M o) hR cs sl 1428 [(0, .ref b), (1, .ref x), (2, .ref M), (3, .ref o), (4, .int (iv (k0 : Nat)))] [] := by
  refine LW.un (fun lay ma σ s τ ξ ns nc nl f hs0 hl hli hlo hx => ?_)
  subst hx
  have eK : woK σ (xs (k0 + 1)).toInt (xs (k0 + 2)).toInt = woK s (xs (k0 + 1)).toInt (xs (k0 + 2)).toInt := by rw [hs0]; rfl
  have hK3 : 0 ≤ woK s (xs (k0 + 1)).toInt (xs (k0 + 2)).toInt ∧ woK s (xs (k0 + 1)).toInt (xs (k0 + 2)).toInt ≤ 3 := by unfold woK; (repeat' split) <;> decide
  refine y_aload_n (pc := 1428) C dL_law__1428 1 rfl ?_
  refine y_aload_n C dL_law__1429 0 rfl ?_
  refine y_iload C dL_law__1430 4 rfl ?_
  refine y_iconst C dL_law__1432 ?_
  refine y_iadd C dL_law__1433 ?_
  refine y_sld C hX hbl hbA (k := k0 + 1) (by omega) (by omega) hN dL_law__1434 ?_
  refine y_aload_n C dL_law__1435 0 rfl ?_
  refine y_iload C dL_law__1436 4 rfl ?_
  refine y_iconst C dL_law__1438 ?_
  refine y_iadd C dL_law__1439 ?_
  refine y_sld C hX hbl hbA (k := k0 + 2) (by omega) (by omega) hN dL_law__1440 ?_
  refine y_aload_n C dL_law__1441 3 rfl ?_
  refine y_lawCC (n := 4) (As := [.ref (lay 0 0), Value.int (iv (xs (k0 + 1)).toInt), Value.int (iv (xs (k0 + 2)).toInt), .ref o]) C hr hc hs (by decide) (by decide) (by decide) (by decide) aw_4_7 aw_4_8 aw_1_0 aw_4_9 ⟨by decide, by decide, by decide +kernel⟩ (fun hR' => wl_worth hli.1 (Nat.le_refl _) (xs (k0 + 1)).toInt (iv_r _) (xs (k0 + 2)).toInt (iv_r _) hli.2.1 hli.2.2.2.2 o f) rfl rfl dL_law__1442 (fun hK => ?_) (fun hK => ?_)
  · skip
    rw [hK]
    have hKσ := eK.trans hK
    refine y_istore (pc := 1445) (L' := [(5, _), (0, _), (1, _), (2, _), (3, _), (4, _)]) C dL_law__1445 (by rw [hn]; decide) rfl ?_
    refine y_aload_n C dL_law__1447 3 rfl ?_
    refine y_aload_n C dL_law__1448 1 rfl ?_
    refine y_iload C dL_law__1449 5 rfl ?_
    refine y_iconst C dL_law__1451 ?_
    refine y_iadd C dL_law__1452 ?_
    refine y_sld C hX hbl hbA (k := k0 + 1) (by omega) (by omega) hN dL_law__1453 ?_
    refine y_aload_n C dL_law__1454 1 rfl ?_
    refine y_iload C dL_law__1455 5 rfl ?_
    refine y_iconst C dL_law__1457 ?_
    refine y_iadd C dL_law__1458 ?_
    refine y_sld C hX hbl hbA (k := k0 + 2) (by omega) (by omega) hN dL_law__1459 ?_
    refine y_lawF (As := [Value.int (iv (xs (k0 + 1)).toInt), Value.int (iv (xs (k0 + 2)).toInt)]) C hr hc hs (by decide) (by decide) cv_L_158 (fun hR' => mt_worth ns nc nl hl.1 s hs0 (xs (k0 + 1)).toInt (iv_r _) (xs (k0 + 2)).toInt (iv_r _) hl.2.1) rfl rfl dL_law__1460 (fun _ => ?_) (fun q => absurd hKσ q)
    refine y_lstore (L' := [(6, _), (5, _), (0, _), (1, _), (2, _), (3, _), (4, _)]) C dL_law__1463 (by rw [hn]; decide) rfl ?_
    refine y_aload_n C dL_law__1465 4 rfl ?_
    refine y_lawT C hr hc hs (K := 0) (by rw [hs0]; rfl) dL_law__1466 ?_
    refine y_iload C dL_law__1469 1 rfl ?_
    refine y_icmpE (tgt := 1476) C dL_law__1471 (by decide) ?_
    refine y_iload (pc := 1476) C dL_law__1476 1 rfl ?_
    refine y_if_ne (tgt := 1492) C dL_law__1478 (by decide) (by decide) (by decide) (fun c => absurd rfl c) (fun _ => ?_)
    refine y_aload_n C dL_law__1481 5 rfl ?_
    refine y_iconst C dL_law__1482 ?_
    refine y_lawR0 C dL_law__1483 ?_
    refine y_lload C dL_law__1484 0 rfl ?_
    refine y_lcmpE C dL_law__1486 ?_
    refine y_if_eq (tgt := 1492) C dL_law__1487 (by decide) (by decide) (by decide) (fun _ => ?_) (fun c => absurd rfl c)
    refine y_goto (pc := 1492) (tgt := 1617) C dL_law__1492 (by decide) ?_
    refine Y.sub [2, 3, 4, 5, 6] rfl ?_
    exact Y.imp (fun h hh => LW.good (hli) hlo hh) kk
  · skip
    refine y_istore (pc := 1445) (L' := [(5, _), (0, _), (1, _), (2, _), (3, _), (4, _)]) C dL_law__1445 (by rw [hn]; decide) rfl ?_
    refine y_aload_n C dL_law__1447 3 rfl ?_
    refine y_aload_n C dL_law__1448 1 rfl ?_
    refine y_iload C dL_law__1449 5 rfl ?_
    refine y_iconst C dL_law__1451 ?_
    refine y_iadd C dL_law__1452 ?_
    refine y_sld C hX hbl hbA (k := k0 + 1) (by omega) (by omega) hN dL_law__1453 ?_
    refine y_aload_n C dL_law__1454 1 rfl ?_
    refine y_iload C dL_law__1455 5 rfl ?_
    refine y_iconst C dL_law__1457 ?_
    refine y_iadd C dL_law__1458 ?_
    refine y_sld C hX hbl hbA (k := k0 + 2) (by omega) (by omega) hN dL_law__1459 ?_
    refine y_lawF (As := [Value.int (iv (xs (k0 + 1)).toInt), Value.int (iv (xs (k0 + 2)).toInt)]) C hr hc hs (by decide) (by decide) cv_L_158 (fun hR' => mt_worth ns nc nl hl.1 s hs0 (xs (k0 + 1)).toInt (iv_r _) (xs (k0 + 2)).toInt (iv_r _) hl.2.1) rfl rfl dL_law__1460 (fun q => absurd (eK.symm.trans q) hK) (fun _ => ?_)
    refine y_lstore (L' := [(6, _), (5, _), (0, _), (1, _), (2, _), (3, _), (4, _)]) C dL_law__1463 (by rw [hn]; decide) rfl ?_
    refine y_aload_n C dL_law__1465 4 rfl ?_
    refine y_lawT C hr hc hs (K := woK s (xs (k0 + 1)).toInt (xs (k0 + 2)).toInt) (zu_s.trans eK) dL_law__1466 ?_
    refine y_iload C dL_law__1469 1 rfl ?_
    refine y_icmpE (tgt := 1476) C dL_law__1471 (by decide) ?_
    refine y_iload (pc := 1476) C dL_law__1476 1 rfl ?_
    refine y_if_ne (tgt := 1492) C dL_law__1478 (by decide) (by omega) (by omega) (fun _ => ?_) (fun c => absurd c hK)
    refine y_goto (pc := 1492) (tgt := 1617) C dL_law__1492 (by decide) ?_
    refine Y.sub [2, 3, 4, 5, 6] rfl ?_
    exact Y.imp (fun h hh => LW.bad hs0 hl hlo hh) kk

set_option maxHeartbeats 1000000 in
set_option maxRecDepth 20000 in
theorem lc_worthAnew {Ω : OmT} {κ : KxT} {hR : AH} {cs sl b N x M o k0 : Nat} {xs : Nat → Int32} (C : Cx Ω κ RL cL_law_) (hn : kn κ = 8) (hr : kR κ = room_1) (hX : va_X b N xs (ks κ) (ks κ).heap) (hbl : b < (ks κ).heap.size) (hbA : ¬ OmA Ω b) (hk : k0 + 6 < N) (hN : N ≤ 100000) (hc : cs + 4 ≤ 601024) (hs : sl + 160 ≤ 7293034) (kk : Y Ω κ (LW Ω x M o) hR (cs + 4) (sl + 160) 1617 [(0, .ref b), (1, .ref x), (2, .ref M), (3, .ref o), (4, .int (iv (k0 : Nat)))] []) : Y Ω κ (LW Ω x M o) hR cs sl 1495 [(0, .ref b), (1, .ref x), (2, .ref M), (3, .ref o), (4, .int (iv (k0 : Nat)))] [] := by
  refine LW.un (fun lay ma σ s τ ξ ns nc nl f hs0 hl hli hlo hx => ?_)
  subst hx
  have eK : woK σ (xs (k0 + 1)).toInt (xs (k0 + 2)).toInt = woK s (xs (k0 + 1)).toInt (xs (k0 + 2)).toInt := by rw [hs0]; rfl
  have hK3 : 0 ≤ woK s (xs (k0 + 1)).toInt (xs (k0 + 2)).toInt ∧ woK s (xs (k0 + 1)).toInt (xs (k0 + 2)).toInt ≤ 3 := by unfold woK; (repeat' split) <;> decide
  refine y_aload_n (pc := 1495) C dL_law__1495 1 rfl ?_
  refine y_aload_n C dL_law__1496 0 rfl ?_
  refine y_iload C dL_law__1497 4 rfl ?_
  refine y_iconst C dL_law__1499 ?_
  refine y_iadd C dL_law__1500 ?_
  refine y_sld C hX hbl hbA (k := k0 + 1) (by omega) (by omega) hN dL_law__1501 ?_
  refine y_aload_n C dL_law__1502 0 rfl ?_
  refine y_iload C dL_law__1503 4 rfl ?_
  refine y_iconst C dL_law__1505 ?_
  refine y_iadd C dL_law__1506 ?_
  refine y_sld C hX hbl hbA (k := k0 + 2) (by omega) (by omega) hN dL_law__1507 ?_
  refine y_aload_n C dL_law__1508 3 rfl ?_
  refine y_lawCC (n := 4) (As := [.ref (lay 0 0), Value.int (iv (xs (k0 + 1)).toInt), Value.int (iv (xs (k0 + 2)).toInt), .ref o]) C hr hc hs (by decide) (by decide) (by decide) (by decide) aw_4_21 aw_4_22 aw_1_0 aw_4_23 ⟨by decide, by decide, by decide +kernel⟩ (fun hR' => wl_worthAnew hli.1 (Nat.le_refl _) (xs (k0 + 1)).toInt (iv_r _) (xs (k0 + 2)).toInt (iv_r _) hli.2.1 hli.2.2.2.2 o f) rfl rfl dL_law__1509 (fun hK => ?_) (fun hK => ?_)
  · skip
    rw [hK]
    have hKσ := eK.trans hK
    refine y_istore (pc := 1512) (L' := [(5, _), (0, _), (1, _), (2, _), (3, _), (4, _)]) C dL_law__1512 (by rw [hn]; decide) rfl ?_
    refine y_aload_n C dL_law__1514 3 rfl ?_
    refine y_aload_n C dL_law__1515 1 rfl ?_
    refine y_iload C dL_law__1516 5 rfl ?_
    refine y_iconst C dL_law__1518 ?_
    refine y_iadd C dL_law__1519 ?_
    refine y_sld C hX hbl hbA (k := k0 + 1) (by omega) (by omega) hN dL_law__1520 ?_
    refine y_aload_n C dL_law__1521 1 rfl ?_
    refine y_iload C dL_law__1522 5 rfl ?_
    refine y_iconst C dL_law__1524 ?_
    refine y_iadd C dL_law__1525 ?_
    refine y_sld C hX hbl hbA (k := k0 + 2) (by omega) (by omega) hN dL_law__1526 ?_
    refine y_lawF (As := [Value.int (iv (xs (k0 + 1)).toInt), Value.int (iv (xs (k0 + 2)).toInt)]) C hr hc hs (by decide) (by decide) cv_L_161 (fun hR' => mt_worthAnew ns nc nl hl.1 s hs0 (xs (k0 + 1)).toInt (iv_r _) (xs (k0 + 2)).toInt (iv_r _) hl.2.1) rfl rfl dL_law__1527 (fun _ => ?_) (fun q => absurd hKσ q)
    refine y_lstore (L' := [(6, _), (5, _), (0, _), (1, _), (2, _), (3, _), (4, _)]) C dL_law__1530 (by rw [hn]; decide) rfl ?_
    refine y_aload_n C dL_law__1532 4 rfl ?_
    refine y_lawT C hr hc hs (K := 0) (by rw [hs0]; rfl) dL_law__1533 ?_
    refine y_iload C dL_law__1536 1 rfl ?_
    refine y_icmpE (tgt := 1543) C dL_law__1538 (by decide) ?_
    refine y_iload (pc := 1543) C dL_law__1543 1 rfl ?_
    refine y_if_ne (tgt := 1559) C dL_law__1545 (by decide) (by decide) (by decide) (fun c => absurd rfl c) (fun _ => ?_)
    refine y_aload_n C dL_law__1548 5 rfl ?_
    refine y_iconst C dL_law__1549 ?_
    refine y_lawR0 C dL_law__1550 ?_
    refine y_lload C dL_law__1551 0 rfl ?_
    refine y_lcmpE C dL_law__1553 ?_
    refine y_if_eq (tgt := 1559) C dL_law__1554 (by decide) (by decide) (by decide) (fun _ => ?_) (fun c => absurd rfl c)
    refine y_goto (pc := 1559) (tgt := 1617) C dL_law__1559 (by decide) ?_
    refine Y.sub [2, 3, 4, 5, 6] rfl ?_
    exact Y.imp (fun h hh => LW.good (hli) hlo hh) kk
  · skip
    refine y_istore (pc := 1512) (L' := [(5, _), (0, _), (1, _), (2, _), (3, _), (4, _)]) C dL_law__1512 (by rw [hn]; decide) rfl ?_
    refine y_aload_n C dL_law__1514 3 rfl ?_
    refine y_aload_n C dL_law__1515 1 rfl ?_
    refine y_iload C dL_law__1516 5 rfl ?_
    refine y_iconst C dL_law__1518 ?_
    refine y_iadd C dL_law__1519 ?_
    refine y_sld C hX hbl hbA (k := k0 + 1) (by omega) (by omega) hN dL_law__1520 ?_
    refine y_aload_n C dL_law__1521 1 rfl ?_
    refine y_iload C dL_law__1522 5 rfl ?_
    refine y_iconst C dL_law__1524 ?_
    refine y_iadd C dL_law__1525 ?_
    refine y_sld C hX hbl hbA (k := k0 + 2) (by omega) (by omega) hN dL_law__1526 ?_
    refine y_lawF (As := [Value.int (iv (xs (k0 + 1)).toInt), Value.int (iv (xs (k0 + 2)).toInt)]) C hr hc hs (by decide) (by decide) cv_L_161 (fun hR' => mt_worthAnew ns nc nl hl.1 s hs0 (xs (k0 + 1)).toInt (iv_r _) (xs (k0 + 2)).toInt (iv_r _) hl.2.1) rfl rfl dL_law__1527 (fun q => absurd (eK.symm.trans q) hK) (fun _ => ?_)
    refine y_lstore (L' := [(6, _), (5, _), (0, _), (1, _), (2, _), (3, _), (4, _)]) C dL_law__1530 (by rw [hn]; decide) rfl ?_
    refine y_aload_n C dL_law__1532 4 rfl ?_
    refine y_lawT C hr hc hs (K := woK s (xs (k0 + 1)).toInt (xs (k0 + 2)).toInt) (zu_s.trans eK) dL_law__1533 ?_
    refine y_iload C dL_law__1536 1 rfl ?_
    refine y_icmpE (tgt := 1543) C dL_law__1538 (by decide) ?_
    refine y_iload (pc := 1543) C dL_law__1543 1 rfl ?_
    refine y_if_ne (tgt := 1559) C dL_law__1545 (by decide) (by omega) (by omega) (fun _ => ?_) (fun c => absurd c hK)
    refine y_goto (pc := 1559) (tgt := 1617) C dL_law__1559 (by decide) ?_
    refine Y.sub [2, 3, 4, 5, 6] rfl ?_
    exact Y.imp (fun h hh => LW.bad hs0 hl hlo hh) kk

set_option maxHeartbeats 1000000 in
set_option maxRecDepth 20000 in
theorem lc_of {Ω : OmT} {κ : KxT} {hR : AH} {cs sl b N x M o k0 : Nat} {xs : Nat → Int32} (C : Cx Ω κ RL cL_law_) (hn : kn κ = 8) (hr : kR κ = room_1) (hX : va_X b N xs (ks κ) (ks κ).heap) (hbl : b < (ks κ).heap.size) (hbA : ¬ OmA Ω b) (hk : k0 + 6 < N) (hN : N ≤ 100000) (hc : cs + 4 ≤ 601024) (hs : sl + 160 ≤ 7293034) (kk : Y Ω κ (LW Ω x M o) hR (cs + 4) (sl + 160) 1617 [(0, .ref b), (1, .ref x), (2, .ref M), (3, .ref o), (4, .int (iv (k0 : Nat)))] []) : Y Ω κ (LW Ω x M o) hR cs sl 1562 [(0, .ref b), (1, .ref x), (2, .ref M), (3, .ref o), (4, .int (iv (k0 : Nat)))] [] := by
  refine LW.un (fun lay ma σ s τ ξ ns nc nl f hs0 hl hli hlo hx => ?_)
  subst hx
  have eK : ofK (xs (k0 + 1)).toInt = ofK (xs (k0 + 1)).toInt := rfl
  have hK3 : 0 ≤ ofK (xs (k0 + 1)).toInt ∧ ofK (xs (k0 + 1)).toInt ≤ 3 := by unfold ofK; (repeat' split) <;> decide
  refine y_aload_n (pc := 1562) C dL_law__1562 1 rfl ?_
  refine y_aload_n C dL_law__1563 0 rfl ?_
  refine y_iload C dL_law__1564 4 rfl ?_
  refine y_iconst C dL_law__1566 ?_
  refine y_iadd C dL_law__1567 ?_
  refine y_sld C hX hbl hbA (k := k0 + 1) (by omega) (by omega) hN dL_law__1568 ?_
  refine y_aload_n C dL_law__1569 3 rfl ?_
  refine y_lawCC (n := 3) (As := [.ref (lay 0 0), Value.int (iv (xs (k0 + 1)).toInt), .ref o]) C hr hc hs (by decide) (by decide) (by decide) (by decide) aw_4_32 aw_4_33 aw_1_0 aw_4_34 ⟨by decide, by decide, by decide +kernel⟩ (fun hR' => wl_of hli.1 (Nat.le_refl _) (xs (k0 + 1)).toInt (iv_r _) o f) rfl rfl dL_law__1570 (fun hK => ?_) (fun hK => ?_)
  · skip
    rw [hK]
    have hKσ := eK.trans hK
    refine y_istore (pc := 1573) (L' := [(5, _), (0, _), (1, _), (2, _), (3, _), (4, _)]) C dL_law__1573 (by rw [hn]; decide) rfl ?_
    refine y_aload_n C dL_law__1575 3 rfl ?_
    refine y_aload_n C dL_law__1576 1 rfl ?_
    refine y_iload C dL_law__1577 5 rfl ?_
    refine y_iconst C dL_law__1579 ?_
    refine y_iadd C dL_law__1580 ?_
    refine y_sld C hX hbl hbA (k := k0 + 1) (by omega) (by omega) hN dL_law__1581 ?_
    refine y_lawF (As := [Value.int (iv (xs (k0 + 1)).toInt)]) C hr hc hs (by decide) (by decide) cv_L_164 (fun hR' => mt_of ns nc nl hl.1 s hs0 (xs (k0 + 1)).toInt (iv_r _)) rfl rfl dL_law__1582 (fun _ => ?_) (fun q => absurd hKσ q)
    refine y_lstore (L' := [(6, _), (5, _), (0, _), (1, _), (2, _), (3, _), (4, _)]) C dL_law__1585 (by rw [hn]; decide) rfl ?_
    refine y_aload_n C dL_law__1587 4 rfl ?_
    refine y_lawT C hr hc hs (K := 0) (by rw [hs0]; rfl) dL_law__1588 ?_
    refine y_iload C dL_law__1591 1 rfl ?_
    refine y_icmpE (tgt := 1598) C dL_law__1593 (by decide) ?_
    refine y_iload (pc := 1598) C dL_law__1598 1 rfl ?_
    refine y_if_ne (tgt := 1614) C dL_law__1600 (by decide) (by decide) (by decide) (fun c => absurd rfl c) (fun _ => ?_)
    refine y_aload_n C dL_law__1603 5 rfl ?_
    refine y_iconst C dL_law__1604 ?_
    refine y_lawR0 C dL_law__1605 ?_
    refine y_lload C dL_law__1606 0 rfl ?_
    refine y_lcmpE C dL_law__1608 ?_
    refine y_if_eq (tgt := 1614) C dL_law__1609 (by decide) (by decide) (by decide) (fun _ => ?_) (fun c => absurd rfl c)
    refine y_goto (pc := 1614) (tgt := 1617) C dL_law__1614 (by decide) ?_
    refine Y.sub [2, 3, 4, 5, 6] rfl ?_
    exact Y.imp (fun h hh => LW.good (hli) hlo hh) kk
  · skip
    refine y_istore (pc := 1573) (L' := [(5, _), (0, _), (1, _), (2, _), (3, _), (4, _)]) C dL_law__1573 (by rw [hn]; decide) rfl ?_
    refine y_aload_n C dL_law__1575 3 rfl ?_
    refine y_aload_n C dL_law__1576 1 rfl ?_
    refine y_iload C dL_law__1577 5 rfl ?_
    refine y_iconst C dL_law__1579 ?_
    refine y_iadd C dL_law__1580 ?_
    refine y_sld C hX hbl hbA (k := k0 + 1) (by omega) (by omega) hN dL_law__1581 ?_
    refine y_lawF (As := [Value.int (iv (xs (k0 + 1)).toInt)]) C hr hc hs (by decide) (by decide) cv_L_164 (fun hR' => mt_of ns nc nl hl.1 s hs0 (xs (k0 + 1)).toInt (iv_r _)) rfl rfl dL_law__1582 (fun q => absurd (eK.symm.trans q) hK) (fun _ => ?_)
    refine y_lstore (L' := [(6, _), (5, _), (0, _), (1, _), (2, _), (3, _), (4, _)]) C dL_law__1585 (by rw [hn]; decide) rfl ?_
    refine y_aload_n C dL_law__1587 4 rfl ?_
    refine y_lawT C hr hc hs (K := ofK (xs (k0 + 1)).toInt) (zu_s.trans eK) dL_law__1588 ?_
    refine y_iload C dL_law__1591 1 rfl ?_
    refine y_icmpE (tgt := 1598) C dL_law__1593 (by decide) ?_
    refine y_iload (pc := 1598) C dL_law__1598 1 rfl ?_
    refine y_if_ne (tgt := 1614) C dL_law__1600 (by decide) (by omega) (by omega) (fun _ => ?_) (fun c => absurd c hK)
    refine y_goto (pc := 1614) (tgt := 1617) C dL_law__1614 (by decide) ?_
    refine Y.sub [2, 3, 4, 5, 6] rfl ?_
    exact Y.imp (fun h hh => LW.bad hs0 hl hlo hh) kk
