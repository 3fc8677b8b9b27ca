/-! methods that read the script -/
def XP (Ω : OmT) (b N : Nat) (xs : Nat → Int32) (U : State) : Prop := va_X b N xs U U.heap ∧ b < U.heap.size ∧ ¬ OmA Ω b
theorem XP.blind {Ω : OmT} {b N : Nat} {xs : Nat → Int32} {U : State} {g : JFrame} {mk : MethodId} {a : Array Value} (h : XP Ω b N xs U) : XP Ω b N xs (U.calling g mk a) := by
  have hv : U.vm.Alike (U.calling g mk a).vm := Vm.Alike.refl U.vm
  exact ⟨va_X.moved hv h.1, h.2⟩
theorem XP.call {Ω : OmT} {b N : Nat} {xs : Nat → Int32} {s U : State} {H : Heap} {locs : List Loc} (h : XP Ω b N xs s) (hS : va_S (OmA Ω) s.heap H locs) (hU : U.heap = H) (hW : s.WarmedH U.vm) : XP Ω b N xs U := by
  obtain ⟨h1, h2, h3⟩ := h
  refine ⟨?_, ?_, h3⟩
  · rw [hU]
    exact va_X.moved hW.alike (h1.kept (hS.2.1 b h2 h3))
  · rw [hU]; exact Nat.lt_of_lt_of_le h2 hS.1
def CtX (Ω : OmT) (b N : Nat) (xs : Nat → Int32) (y : MethodName) (cc : ByteArray) (maxL : Nat) (ret : Option FieldType) (rm : Room) (av : List Value) (Φ : AH → Prop) (hR : AH) (Ψ : Option Value → AH → Prop) (Ξ : String → AH → Prop) : Prop :=
  vx_Met (OmL Ω) y (ws_ y cc maxL ret) rm (va_Pc av (fun U => (WK Ω U ∧ XP Ω b N xs U) ∧ ∃ h, Φ h ∧ Rel Ω h hR U.heap)) (QC Ω hR Ψ) (XCx Ω hR Ξ) rm.cells rm.slots (OmA Ω)
set_option maxHeartbeats 4000000 in
theorem CtX.of {Ω : OmT} {b N : Nat} {xs : Nat → Int32} {y : MethodName} {own : String} {cc : ByteArray} {maxL : Nat} {ret : Option FieldType} {rm : Room} {av : List Value} {Φ : AH → Prop} {hR : AH} {Ψ : Option Value → AH → Prop} {Ξ : String → AH → Prop} {L : List (Nat × Value)}
    (hy : plainName y.cls = true) (ho : y.cls = own) (hn : (lg_sl av).length ≤ maxL) (hL : lv_args 0 av = L)
    (body : ∀ κ : KxT, Cx Ω κ own cc → kn κ = maxL → Ce Ω κ ret rm hR Ψ Ξ → XP Ω b N xs (ks κ) → Y Ω κ Φ hR 0 0 0 L []) : CtX Ω b N xs y cc maxL ret rm av Φ hR Ψ Ξ := by
  refine vx_ofW (cc := cc) (maxL := maxL) (ret := ret) hy rfl ?_
  intro p e s m args below meth c s₁ B hml hex hv
  obtain ⟨rfl, ⟨hW, hXP⟩, h, hΦ, hRel⟩ := hv
  have hts : ∀ w ∈ AW, w.before av.toArray s = true := fun w hw => atoms_spec (ws := ws_ y cc maxL ret) B.pre w (List.mem_cons_of_mem _ hw)
  have hown : s.vm.findClass own = some m.cls := by rw [← ho]; exact findClass_of_methodNamed B.named
  have hl := lv_entry av (n := maxL) hn
  rw [lg_entry_eq]
  subst hL
  exact body ((p, e, rm, s, m, av.toArray, below, meth, c, _, maxL) : KxT) ⟨B.exec, B.bytes, hml, hown, hts, hW, B.notSynchronized⟩ rfl ⟨B.returns, rfl, hex, rfl⟩ hXP h s.heap [] _ hΦ hRel va_S.rf hl
theorem CtX.blind {Ω : OmT} {b N : Nat} {xs : Nat → Int32} {av : List Value} {Φ : AH → Prop} {hR : AH} : FrameBlind (va_Pc av (fun U => (WK Ω U ∧ XP Ω b N xs U) ∧ ∃ h, Φ h ∧ Rel Ω h hR U.heap)) := fun a U g mk q => ⟨q.1, ⟨q.2.1.1.blind, q.2.1.2.blind⟩, q.2.2⟩
theorem y_callSD {Ω : OmT} {κ : KxT} {Φ : AH → Prop} {hR : AH} {cs sl pc : Nat} {L : List (Nat × Value)} {st stk As : List Value} {own : String} {cc c2 : ByteArray} {idx mL n b N : Nat} {xs : Nat → Int32} {y : MethodName} {ret : Option FieldType} {rm rm2 : Room} {Ψ' : Option Value → AH → Prop} (C : Cx Ω κ own cc) (hr : kR κ = rm) (hXP : XP Ω b N xs (ks κ)) (cv : CS own idx y c2 mL ret n) (ct : CtX Ω b N xs y c2 mL ret rm2 As Φ hR Ψ' NX) (hn : As.length = n) (hst : As.reverse ++ st = stk) (hcat : (st.map fun v => v.category).sum ≤ 8) (hm : RmIn rm2 mL rm cs sl) (dg : decode cc pc = .ok (.invokestatic idx, 3))
    (kk : ∀ rv, Y Ω κ (Ψ' rv) hR (cs + rm2.cells) (sl + rm2.slots) (pc + 3) L (rv.toList ++ st)) : Y Ω κ Φ hR cs sl pc L stk := by
  refine y_runX (av := As) (Ξ' := NX) (fun h H locs ls a1 b1 c1 d1 => ?_) kk (fun E => y_nx)
  obtain ⟨w1, w2, w3, w4, w5⟩ := cv
  have hts := C.2.2.2.2.1
  exact vx_runS (As := As) (rest := st) ⟨C.1, C.2.1, C.2.2.1, C.2.2.2.1, hts⟩ ct ⟨y_room C hr hm w4 w3 w5 w1, hts _ w2⟩ ⟨CtX.blind, fun U hU hW => ⟨rfl, ⟨C.2.2.2.2.2.1.call c1 hU hW, hXP.call c1 hU hW⟩, h, a1, by rw [hU]; exact b1⟩⟩ rfl hn d1.1 hst.symm (lv_room hcat) dg (by rw [hr]; exact ⟨hm.2.2.1, hm.2.2.2⟩)
theorem y_callSN {Ω : OmT} {κ : KxT} {Φ Φ' : AH → Prop} {hR : AH} {cs sl cs' sl' pc : Nat} {L : List (Nat × Value)} {st stk As : List Value} {own : String} {cc c2 : ByteArray} {idx mL n k cc2 w2 W : Nat} {v : Value} {y : MethodName} {ret : Option FieldType} (C : Cx Ω κ own cc) (hr : kR κ = room_1) (cv : CS own idx y c2 mL ret n) (ct : Ct Ω y c2 mL ret (rkc k cc2 w2) As Φ hR (RV v Φ') NX) (hn : As.length = n) (hst : As.reverse ++ st = stk) (hcat : (st.map fun v => v.category).sum ≤ 8) (hk : k + 1 ≤ 2048) (hl : 8 + (mL + 11) + 40 * k ≤ 84000) (hw : w2 = W) (h1 : cs + cc2 ≤ 600074) (h2 : sl + W ≤ 7301550) (e1 : cs + cc2 = cs') (e2 : sl + W = sl') (dg : decode cc pc = .ok (.invokestatic idx, 3))
    (kk : Y Ω κ Φ' hR cs' sl' (pc + 3) L (v :: st)) : Y Ω κ Φ hR cs sl pc L stk := by
  subst hw
  exact y_callSc C hr cv ct hn hst hcat ⟨hk, hl, h1, h2⟩ dg ⟨e1, e2⟩ kk
theorem and_nn (w : Int32) : ∃ z : Int, 0 ≤ z ∧ z < 2147483648 ∧ w &&& iv 2147483647 = iv z := by
  refine ⟨(w &&& iv 2147483647).toInt, ?_, ?_, (iv_i _).symm⟩
  all_goals
    have h2 : (w &&& iv 2147483647).toBitVec.toNat ≤ 2147483647 := by
      rw [Int32.toBitVec_and, BitVec.toNat_and]
      exact Nat.and_le_right
    have h3 : (w &&& iv 2147483647).toInt = ((w &&& iv 2147483647).toBitVec.toNat : Int) := BitVec.toInt_eq_toNat_of_lt (by omega)
    omega

set_option maxRecDepth 20000 in
theorem ct_draw {Ω : OmT} {hR : AH} {b N k : Nat} {xs : Nat → Int32} {Φ : AH → Prop} (hk : k < N) (hN : N ≤ 100000) : CtX Ω b N xs yL_draw cL_draw 2 (some .int) (rk 2) [.ref b, .int (iv (k : Nat))] Φ hR (fun rv h => ∃ z : Int, 0 ≤ z ∧ z < 2147483648 ∧ rv = some (.int (iv z)) ∧ Φ h) NX := by
  refine CtX.of (own := RL) (L := [(0, _), (1, _)]) (by decide +kernel) rfl (Nat.le_of_ble_eq_true rfl) rfl ?_
  intro κ C hn E hXP
  obtain ⟨hX, hbl, hbA⟩ := hXP
  refine y_iload_n (pc := 0) C dL_draw_0 1 rfl ?_
  refine y_aload_n (pc := 1) C dL_draw_1 0 rfl ?_
  refine y_slen (pc := 2) C hX hbl hbA dL_draw_2 ?_
  refine y_icmp_ge (pc := 3) (tgt := 15) C dL_draw_3 (by decide) (by omega) (by omega) (by omega) (by omega) (fun c => absurd c (by omega)) (fun _ => ?_)
  refine y_aload_n (pc := 6) C dL_draw_6 0 rfl ?_
  refine y_iload_n (pc := 7) C dL_draw_7 1 rfl ?_
  refine y_sld (pc := 8) C hX hbl hbA (k := k) rfl hk hN dL_draw_8 ?_
  refine y_ldc (pc := 9) (z := 2147483647) C aw_1_214 (by decide) dL_draw_9 ?_
  refine y_iand (pc := 11) C dL_draw_11 ?_
  obtain ⟨z, z1, z2, ez⟩ := and_nn (iv (xs k).toInt)
  rw [ez]
  refine y_goto (pc := 12) (tgt := 24) C dL_draw_12 (by decide) ?_
  exact y_iret (pc := 24) C E dL_draw_24 (by decide) (by decide) (fun h hh => ⟨z, z1, z2, rfl, hh⟩)

set_option maxRecDepth 20000 in
set_option maxHeartbeats 1000000 in
theorem lw_loop {Ω : OmT} {κ : KxT} {hR : AH} {b N n x dA nA : Nat} {xs : Nat → Int32} (C : Cx Ω κ RL cL_law) (hn : kn κ = 7) (hr : kR κ = room_1) (hXP : XP Ω b N xs (ks κ)) (hN : N ≤ 260) (h3 : 3 * n ≤ N) (hn5 : n ≤ 50) (kend : Y Ω κ (LwSt Ω x dA nA (24 * (n : Int))) hR 400000 4000000 154 [(4, .int (iv 1))] []) :
    ∀ (m k c s : Nat), k + m = n → c + 4310 * m ≤ 400000 → s + 9000 * (3 * m) ≤ 4000000 → Y Ω κ (LwSt Ω x dA nA (24 * (k : Int))) hR c s 84 [(6, .int (iv (k : Nat))), (5, .int (iv (n : Nat))), (4, .int (iv 1)), (0, .ref b), (1, .ref x), (2, .ref dA), (3, .ref nA)] [] := by
  intro m
  induction m with
  | zero =>
    intro k c s h1 h2 h4
    have e : k = n := by omega
    rw [e]
    refine y_iload (pc := 84) C dL_law_84 0 rfl ?_
    refine y_iload (pc := 86) C dL_law_86 1 rfl ?_
    refine y_icmp_ge (pc := 88) (tgt := 154) C dL_law_88 (by decide) (by omega) (by omega) (by omega) (by omega) (fun c88 => ?_) (fun c => absurd (by omega) c)
    exact Y.sub [2] rfl (Y.wide (by omega) (by omega) kend)
  | succ m ih =>
    intro k c s h1 h2 h4
    obtain ⟨W, hW⟩ : ∃ W : Nat, W = 26000 := ⟨_, rfl⟩
    refine y_iload (pc := 84) C dL_law_84 0 rfl ?_
    refine y_iload (pc := 86) C dL_law_86 1 rfl ?_
    refine y_icmp_ge (pc := 88) (tgt := 154) C dL_law_88 (by decide) (by omega) (by omega) (by omega) (by omega) (fun c => absurd c (by omega)) (fun c88 => ?_)
    refine y_iload (pc := 91) C dL_law_91 2 rfl ?_
    refine y_if_eq (pc := 93) (tgt := 154) C dL_law_93 (by decide) (by omega) (by omega) (fun c => absurd c (by decide)) (fun c93 => ?_)
    refine y_aload_n (pc := 96) C dL_law_96 4 rfl ?_
    refine y_aload_n (pc := 97) C dL_law_97 5 rfl ?_
    refine y_aload_n (pc := 98) C dL_law_98 6 rfl ?_
    refine y_aload_n (pc := 99) C dL_law_99 3 rfl ?_
    refine y_iconst (pc := 100) C dL_law_100 ?_
    refine y_iload (pc := 101) C dL_law_101 0 rfl ?_
    refine y_imul (pc := 103) C dL_law_103 ?_
    rw [show (3 : Int) * ((k : Nat) : Int) = ((3 * k : Nat) : Int) by omega]
    refine y_callSD (pc := 104) (As := [_, _]) C hr hXP cs_L_124 (ct_draw (k := 3 * k) (by omega) (by omega)) rfl rfl (Nat.le_of_ble_eq_true rfl) ⟨by decide, by decide, by show c + 0 ≤ 600074; omega, by show s + 0 ≤ 7301550; omega⟩ dL_law_104 (fun rv => Y.ex fun z0 => Y.and fun z0a => Y.and fun z0b => Y.and fun er0 => ?_)
    subst er0
    refine Y.wide (cs' := c) (sl' := s) (Nat.le_refl _) (Nat.le_refl _) ?_
    refine y_aload_n (pc := 107) C dL_law_107 3 rfl ?_
    refine y_iconst (pc := 108) C dL_law_108 ?_
    refine y_iload (pc := 109) C dL_law_109 0 rfl ?_
    refine y_imul (pc := 111) C dL_law_111 ?_
    refine y_iconst (pc := 112) C dL_law_112 ?_
    refine y_iadd (pc := 113) C dL_law_113 ?_
    rw [show (3 : Int) * ((k : Nat) : Int) + 1 = ((3 * k + 1 : Nat) : Int) by omega]
    refine y_callSD (pc := 114) (As := [_, _]) C hr hXP cs_L_124 (ct_draw (k := 3 * k + 1) (by omega) (by omega)) rfl rfl (Nat.le_of_ble_eq_true rfl) ⟨by decide, by decide, by show c + 0 ≤ 600074; omega, by show s + 0 ≤ 7301550; omega⟩ dL_law_114 (fun rv => Y.ex fun z1 => Y.and fun z1a => Y.and fun z1b => Y.and fun er1 => ?_)
    subst er1
    refine Y.wide (cs' := c) (sl' := s) (Nat.le_refl _) (Nat.le_refl _) ?_
    refine y_aload_n (pc := 117) C dL_law_117 3 rfl ?_
    refine y_iconst (pc := 118) C dL_law_118 ?_
    refine y_iload (pc := 119) C dL_law_119 0 rfl ?_
    refine y_imul (pc := 121) C dL_law_121 ?_
    refine y_iconst (pc := 122) C dL_law_122 ?_
    refine y_iadd (pc := 123) C dL_law_123 ?_
    rw [show (3 : Int) * ((k : Nat) : Int) + 2 = ((3 * k + 2 : Nat) : Int) by omega]
    refine y_callSD (pc := 124) (As := [_, _]) C hr hXP cs_L_124 (ct_draw (k := 3 * k + 2) (by omega) (by omega)) rfl rfl (Nat.le_of_ble_eq_true rfl) ⟨by decide, by decide, by show c + 0 ≤ 600074; omega, by show s + 0 ≤ 7301550; omega⟩ dL_law_124 (fun rv => Y.ex fun z2 => Y.and fun z2a => Y.and fun z2b => Y.and fun er2 => ?_)
    subst er2
    refine Y.wide (cs' := c) (sl' := s) (Nat.le_refl _) (Nat.le_refl _) ?_
    have hc9 : c + 4200 ≤ 600074 := by omega
    have hs9 : s + W ≤ 7301550 := by omega
    refine y_callSN (pc := 127) (W := W) (cs' := c + 4200) (sl' := s + W) (As := [_, _, _, _, _, _]) C hr cs_L_128 (ct_step (by omega) ⟨z0a, z0b⟩ ⟨z1a, z1b⟩ ⟨z2a, z2b⟩) rfl rfl (Nat.le_of_ble_eq_true rfl) (by decide) (by decide) hW.symm hc9 hs9 rfl rfl dL_law_127 ?_
    refine y_if_eq (pc := 130) (tgt := 145) C dL_law_130 (by decide) (by omega) (by omega) (fun c => absurd c (by decide)) (fun c130 => ?_)
    refine LwSt.un (fun X lay ξ σ τ ns nc nl fd fn hl g hla hrg hx hd hf d0 d1 d2 d3 d4 hT => ?_)
    subst hx
    refine y_aload_n (pc := 133) C dL_law_133 4 rfl ?_
    refine y_aload_n (pc := 134) C dL_law_134 5 rfl ?_
    have hc9 : c + 4200 + 110 ≤ 600074 := by omega
    have hs9 : s + W + 700 ≤ 7301550 := by omega
    refine y_callSN (pc := 135) (W := 700) (cs' := c + 4310) (sl' := s + W + 700) (As := [_, _]) C hr cs_L_111 (ct_areStores hl g hd d0 d3) rfl rfl (Nat.le_of_ble_eq_true rfl) (by decide) (by decide) rfl hc9 hs9 (Nat.add_assoc _ _ _) rfl dL_law_135 ?_
    refine y_if_eq (pc := 138) (tgt := 145) C dL_law_138 (by decide) (by omega) (by omega) (fun c => absurd c (by decide)) (fun c138 => ?_)
    refine y_iconst (pc := 141) C dL_law_141 ?_
    refine y_goto (pc := 142) (tgt := 146) C dL_law_142 (by decide) ?_
    refine y_istore (pc := 146) (L' := [(4, _), (6, _), (5, _), (0, _), (1, _), (2, _), (3, _)]) C dL_law_146 (by rw [hn]; decide) rfl ?_
    refine y_iinc (pc := 148) (L' := [(6, _), (4, _), (5, _), (0, _), (1, _), (2, _), (3, _)]) C dL_law_148 1 rfl (by rw [hn]; decide) rfl ?_
    refine y_goto (pc := 151) (tgt := 84) C dL_law_151 (by decide) ?_
    refine Y.sub [0, 2, 1, 3, 4, 5, 6] rfl ?_
    refine Y.imp (fun h hh => LwSt.mk hl g hla hrg rfl hd hf d0 d1 d2 d3 d4 (by omega) hh) (ih (k + 1) _ _ (by omega) (by omega) (by omega))

abbrev e0 : AH := fun _ => none
theorem fx_e0 {A : AH → Prop} {h : AH} (q : A h) : FX e0 A h := ⟨h, q, fun a _ => rfl, funext fun a => by
  cases r : h a with
  | none => rw [cmb_2 r]
  | some e => rw [cmb_1 r]⟩
theorem gb_i : GB (σi, τi) 0 := ⟨fun k hk => absurd hk (Nat.not_lt_zero k), ⟨0, 0, 0, jv_0.symm, jv_0.symm, jv_0.symm, rfl⟩, fun k hk => absurd hk (Nat.not_lt_zero k)⟩
theorem li_i : LI ξi σi τi 0 0 0 := by
  refine ⟨⟨rfl, by omega, rfl, by omega, ⟨rfl, by omega, fun i hi => absurd hi (by omega)⟩, ⟨fun i hi => absurd hi (by omega), by show (0 : Int) ≤ 0 ∧ (0 : Int) ≤ 10000; omega⟩, fun k hk => absurd hk (by omega), fun c hc => absurd hc (by omega), by show -1 ≤ (0 : Int) ∧ (0 : Int) ≤ 1; omega, by show -1 ≤ (0 : Int) ∧ (0 : Int) ≤ 1; omega, by show 0 ≤ (10000 : Int) ∧ (10000 : Int) ≤ 20000; omega⟩, fun i hi => by show -1000 ≤ (0 : Int) ∧ (0 : Int) ≤ 1000; omega, ⟨fun k hk => ⟨rfl, rfl, rfl, rfl⟩, fun c hc => ⟨rfl, rfl, rfl, rfl, rfl, rfl, rfl, rfl, fun j hj => rfl⟩⟩, ?_, fun j => rfl⟩
  show (-1000 : Int) < 0 ∧ (-1000 : Int) < 0 ∧ (-1000 : Int) ≤ -1000 ∧ (-1000 : Int) ≤ -1000 ∧ ((0 : Int) = 1 ↔ (-1000 : Int) = 0 - 1) ∧ ((0 : Int) = -1 ↔ (-1000 : Int) = 0 - 1) ∧ ((0 : Int) ≠ 1 → ((0 : Int) = 1 ↔ (-1000 : Int) = 0 - 2)) ∧ ((0 : Int) ≠ -1 → ((0 : Int) = -1 ↔ (-1000 : Int) = 0 - 2))
  omega
set_option maxRecDepth 20000 in
set_option maxHeartbeats 2000000 in
theorem lw_all {Ω : OmT} {κ : KxT} {b N : Nat} {xs : Nat → Int32} (C : Cx Ω κ RL cL_law) (hn : kn κ = 7) (hr : kR κ = room_1) (hXP : XP Ω b N xs (ks κ)) (hN : N ≤ 260) (kend : ∀ x dA nA T, Y Ω κ (LwSt Ω x dA nA T) e0 600074 7301550 156 [] [.int (iv 1)]) : Y Ω κ (fun h => h = e0) e0 0 0 0 [(0, .ref b)] [] := by
  obtain ⟨hX, hbl, hbA⟩ := id hXP
  refine y_new (pc := 0) C fn_L_11 dL_law_0 (by rw [hr]; decide) (by rw [hr]; decide) (fun x => ?_)
  refine y_dup (pc := 3) C dL_law_3 rfl ?_
  refine Y.imp (Φ' := fun h => h = hset e0 x (.inr (5, [.null, .null, .null, .null, .int 0, .int 0, .int 0, .int 0, .long 0, .long 0, .long 0]))) (fun h ⟨h', q1, q2, q3, q4⟩ => by subst q1; exact q4) ?_
  refine y_callI (pc := 4) (cs' := 6) (sl' := 85) (As := []) C hr ci_L_123 (mg_init e0 x) rfl rfl (Nat.le_of_ble_eq_true rfl) ⟨by decide, by decide, by decide, by decide⟩ dL_law_4 ⟨rfl, rfl⟩ ?_
  refine y_astore_n (pc := 7) (L' := [(1, _), (0, _)]) C dL_law_7 (by rw [hn]; decide) rfl ?_
  refine Y.ex fun lay => Y.and fun hx => Y.and fun hla => ?_
  refine Y.imp (Φ' := FX e0 (InvC Ω lay 0 0 0 0 ξi σi τi)) (fun h q => fx_e0 q) ?_
  subst hx
  have hl := li_i
  refine y_iconst (pc := 8) C dL_law_8 ?_
  refine y_xnewI (pc := 9) (n := 5) (cs' := 7) (sl' := 90) C aw_1_65 dL_law_9 rfl (by decide) (by rw [hr]; show 6 + 1 ≤ 600074; omega) (by rw [hr]; show 85 + 5 ≤ 7301550; omega) (by omega) (by omega) (fun dA hdn => ?_)
  refine y_astore_n (pc := 11) (L' := [(2, _), (1, _), (0, _)]) C dL_law_11 (by rw [hn]; decide) rfl ?_
  refine y_bipush (pc := 12) (z := 48) C dL_law_12 (by decide) ?_
  refine y_xnewI (pc := 14) (n := 48) (cs' := 8) (sl' := 138) C aw_1_65 dL_law_14 rfl (by decide) (by rw [hr]; show 7 + 1 ≤ 600074; omega) (by rw [hr]; show 90 + 48 ≤ 7301550; omega) (by omega) (by omega) (fun nA hnn => ?_)
  have nd : dA ≠ nA := fun e => by rw [← e] at hnn; rw [hset_s] at hnn; cases hnn
  have y0 : hset (hset e0 dA (.inl (OmI Ω, 5, .inl fun _ => 0))) nA (.inl (OmI Ω, 48, .inl fun _ => 0)) dA = some (.inl (OmI Ω, 5, .inl fun _ => 0)) := (hset_n nd).trans hset_s
  obtain ⟨X, hX9⟩ : ∃ X, X = hset (hset (hset e0 dA (.inl (OmI Ω, 5, .inl fun _ => 0))) nA (.inl (OmI Ω, 48, .inl fun _ => 0))) dA (.inl (OmI Ω, 5, .inl (upd (fun _ => 0) 4 (iv 10000)))) := ⟨_, rfl⟩
  have hd : X dA = some (.inl (OmI Ω, 5, .inl (upd (fun _ => 0) 4 (iv 10000)))) := by rw [hX9, hset_s]
  have hf : X nA = some (.inl (OmI Ω, 48, .inl fun _ => 0)) := by rw [hX9, hset_n (fun e => nd e.symm), hset_s]
  refine y_astore_n (pc := 16) (L' := [(3, _), (2, _), (1, _), (0, _)]) C dL_law_16 (by rw [hn]; decide) rfl ?_
  refine y_aload_n (pc := 17) C dL_law_17 1 rfl ?_
  refine y_iconst (pc := 18) C dL_law_18 ?_
  refine y_sipush (pc := 19) (z := 10000) C dL_law_19 (by decide) ?_
  refine y_xast (pc := 22) C 4 y0 rfl (by decide) (by decide) dL_law_22 ?_
  rw [← hX9]
  refine y_aload_n (pc := 23) C dL_law_23 2 rfl ?_
  refine y_iconst (pc := 24) C dL_law_24 ?_
  refine y_cg (pc := 25) (cs' := 9) (sl' := 144) (v := .long (jv 0)) (As := [_]) C hr cv_L_94 (fun hR' => mg_of hl.1 (Nat.le_refl _) 0 (by decide)) (by decide) (fun q hq => by revert q; decide) (fun h q => ⟨_, q.gas⟩) rfl rfl rfl (Nat.le_of_ble_eq_true rfl) ⟨by decide, by decide, (by decide), (by decide)⟩ (by decide) (by decide) dL_law_25 ?_
  refine y_lconst (pc := 28) (z := 0) C dL_law_28 (by decide) ?_
  refine y_lcmpE (pc := 29) C dL_law_29 ?_
  refine y_if_ne (tgt := 58) C dL_law_30 (by decide) (by decide) (by decide) (fun c => absurd rfl c) (fun _ => ?_)
  refine y_aload_n (pc := 33) C dL_law_33 2 rfl ?_
  refine y_iconst (pc := 34) C dL_law_34 ?_
  refine y_cg (pc := 35) (cs' := 10) (sl' := 150) (v := .long (jv 0)) (As := [_]) C hr cv_L_94 (fun hR' => mg_of hl.1 (Nat.le_refl _) 4 (by decide)) (by decide) (fun q hq => by revert q; decide) (fun h q => ⟨_, q.gas⟩) rfl rfl rfl (Nat.le_of_ble_eq_true rfl) ⟨by decide, by decide, (by decide), (by decide)⟩ (by decide) (by decide) dL_law_35 ?_
  refine y_lconst (pc := 38) (z := 0) C dL_law_38 (by decide) ?_
  refine y_lcmpE (pc := 39) C dL_law_39 ?_
  refine y_if_ne (tgt := 58) C dL_law_40 (by decide) (by decide) (by decide) (fun c => absurd rfl c) (fun _ => ?_)
  refine y_aload_n (pc := 43) C dL_law_43 2 rfl ?_
  refine y_bipush (pc := 44) (z := 7) C dL_law_44 (by decide) ?_
  refine y_cg (pc := 46) (cs' := 11) (sl' := 156) (v := .long (jv 0)) (As := [_]) C hr cv_L_94 (fun hR' => mg_of hl.1 (Nat.le_refl _) 7 (by decide)) (by decide) (fun q hq => by revert q; decide) (fun h q => ⟨_, q.gas⟩) rfl rfl rfl (Nat.le_of_ble_eq_true rfl) ⟨by decide, by decide, (by decide), (by decide)⟩ (by decide) (by decide) dL_law_46 ?_
  refine y_lconst (pc := 49) (z := 0) C dL_law_49 (by decide) ?_
  refine y_lcmpE (pc := 50) C dL_law_50 ?_
  refine y_if_ne (tgt := 58) C dL_law_51 (by decide) (by decide) (by decide) (fun c => absurd rfl c) (fun _ => ?_)
  refine y_iconst (pc := 54) C dL_law_54 ?_
  refine y_goto (pc := 55) (tgt := 59) C dL_law_55 (by decide) ?_
  refine y_istore (pc := 59) (L' := [(4, _), (3, _), (2, _), (1, _), (0, _)]) C dL_law_59 (by rw [hn]; decide) rfl ?_
  refine y_joinI (pcj := 79) (P := fun v => 0 ≤ v ∧ 3 * v ≤ N ∧ v ≤ 50) (fun v hv => ?_) (fun J => ?_)
  · skip
    obtain ⟨n, en⟩ : ∃ n : Nat, v = (n : Int) := ⟨v.toNat, by omega⟩
    rw [en] at hv ⊢
    refine y_istore (pc := 79) (L' := [(5, _), (4, _), (3, _), (2, _), (1, _), (0, _)]) C dL_law_79 (by rw [hn]; decide) rfl ?_
    refine y_iconst (pc := 81) C dL_law_81 ?_
    refine y_istore (pc := 82) (L' := [(6, _), (5, _), (4, _), (3, _), (2, _), (1, _), (0, _)]) C dL_law_82 (by rw [hn]; decide) rfl ?_
    refine Y.sub [0, 1, 2, 6, 5, 4, 3] rfl ?_
    refine Y.imp (Φ' := LwSt Ω (lay 0 0) dA nA (24 * ((0 : Nat) : Int))) (fun h hh => LwSt.mk hl gb_i hla ⟨fun c j _ _ => (iv_0.symm : (0 : Int32) = iv 0), fun c j _ _ _ => rfl⟩ rfl hd hf (by decide) (by decide) (by decide) (by decide) (by decide) (by decide) hh) ?_
    refine lw_loop (n := n) C hn hr hXP hN (by omega) (by omega) ?_ n 0 11 156 (by omega) (by omega) (by omega)
    refine y_iload (pc := 154) C dL_law_154 0 rfl ?_
    exact Y.sub [] rfl (Y.wide (by decide) (by decide) (kend _ _ _ _))
  · skip
    refine y_aload_n (pc := 61) C dL_law_61 4 rfl ?_
    refine y_slen (pc := 62) C hX hbl hbA dL_law_62 ?_
    refine y_iconst (pc := 63) C dL_law_63 ?_
    refine y_idivP (pc := 64) C dL_law_64 (by omega) (by omega) (by omega) (by omega) ?_
    refine y_bipush (pc := 65) (z := 50) C dL_law_65 (by decide) ?_
    refine y_icmp_le (pc := 67) (tgt := 75) C dL_law_67 (by decide) (by omega) (by omega) (by omega) (by omega) (fun c67 => ?_) (fun c67 => ?_)
    · refine y_aload_n (pc := 75) C dL_law_75 4 rfl ?_
      refine y_slen (pc := 76) C hX hbl hbA dL_law_76 ?_
      refine y_iconst (pc := 77) C dL_law_77 ?_
      refine y_idivP (pc := 78) C dL_law_78 (by omega) (by omega) (by omega) (by omega) ?_
      exact J _ ⟨by omega, by omega, by omega⟩
    · refine y_bipush (pc := 70) (z := 50) C dL_law_70 (by decide) ?_
      refine y_goto (pc := 72) (tgt := 79) C dL_law_72 (by decide) ?_
      exact J _ ⟨by omega, by omega, by omega⟩
