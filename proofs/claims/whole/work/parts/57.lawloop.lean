/-! the law's loop -/
theorem and31 (w : Int32) : ∃ z : Int, 0 ≤ z ∧ z ≤ 31 ∧ w &&& iv 31 = iv z := by
  refine ⟨(w &&& iv 31).toInt, ?_, ?_, (iv_i _).symm⟩
  all_goals
    have h2 : (w &&& iv 31).toBitVec.toNat ≤ 31 := by
      rw [Int32.toBitVec_and, BitVec.toNat_and]
      exact Nat.and_le_right
    have h3 : (w &&& iv 31).toInt = ((w &&& iv 31).toBitVec.toNat : Int) := BitVec.toInt_eq_toNat_of_lt (by omega)
    omega
section YLOOP
variable {Ω : OmT} {κ : KxT} {hR : AH} {b N x M o : Nat} {xs : Nat → Int32}
set_option maxHeartbeats 2000000 in
theorem lw_loop (C : Cx Ω κ RL cL_law_) (hn : kn κ = 8) (hr : kR κ = room_1) (hX : va_X b N xs (ks κ) (ks κ).heap) (hbl : b < (ks κ).heap.size) (hbA : ¬ OmA Ω b) (hN : N ≤ 3584) (kend : Y Ω κ (LW Ω x M o) hR 601024 7293034 1624 [] [.int (iv 1)]) :
    ∀ (j k0 cs sl : Nat), N < k0 + 7 * j + 7 → k0 ≤ 3584 → cs + 4 * j ≤ 601024 → sl + 160 * j ≤ 7293034 → Y Ω κ (LW Ω x M o) hR cs sl 23 [(0, .ref b), (1, .ref x), (2, .ref M), (3, .ref o), (4, .int (iv (k0 : Nat)))] [] := by
  intro j
  induction j with
  | zero =>
    intro k0 cs sl h1 h2 h3 h4
    refine y_iload (pc := 23) C dL_law__23 4 rfl ?_
    refine y_aload_n C dL_law__25 0 rfl ?_
    refine y_slen C hX hbl hbA dL_law__26 ?_
    refine y_bipush (z := 7) C dL_law__27 (by decide) ?_
    refine y_isub C dL_law__29 ?_
    refine y_icmp_gt (tgt := 1623) C dL_law__30 (by decide) (by omega) (by omega) (by omega) (by omega) (fun _ => ?_) (fun c => absurd c (by omega))
    refine y_iconst (pc := 1623) C dL_law__1623 ?_
    exact Y.sub [] rfl (Y.wide (by omega) (by omega) kend)
  | succ j ih =>
    intro k0 cs sl h1 h2 h3 h4
    refine y_iload (pc := 23) C dL_law__23 4 rfl ?_
    refine y_aload_n C dL_law__25 0 rfl ?_
    refine y_slen C hX hbl hbA dL_law__26 ?_
    refine y_bipush (z := 7) C dL_law__27 (by decide) ?_
    refine y_isub C dL_law__29 ?_
    refine y_icmp_gt (tgt := 1623) C dL_law__30 (by decide) (by omega) (by omega) (by omega) (by omega) (fun _ => ?_) (fun c => ?_)
    · refine y_iconst (pc := 1623) C dL_law__1623 ?_
      exact Y.sub [] rfl (Y.wide (by omega) (by omega) kend)
    · have hk : k0 + 6 < N := by omega
      have hN2 : N ≤ 100000 := by omega
      have kk : Y Ω κ (LW Ω x M o) hR (cs + 4) (sl + 160) 1617 [(0, .ref b), (1, .ref x), (2, .ref M), (3, .ref o), (4, .int (iv (k0 : Nat)))] [] := by
        refine y_iinc (L' := [(4, .int (iv ((k0 + 7 : Nat) : Int))), (0, _), (1, _), (2, _), (3, _)]) C dL_law__1617 4 rfl (by rw [hn]; decide) rfl ?_
        refine y_goto (pc := 1620) (tgt := 23) C dL_law__1620 (by decide) ?_
        refine Y.sub [1, 2, 3, 4, 0] rfl ?_
        exact ih (k0 + 7) (cs + 4) (sl + 160) (by omega) (by omega) (by omega) (by omega)
      have hc : cs + 4 ≤ 601024 := by omega
      have hs : sl + 160 ≤ 7293034 := by omega
      refine y_aload_n (pc := 33) C dL_law__33 0 rfl ?_
      refine y_iload C dL_law__34 4 rfl ?_
      refine y_sld C hX hbl hbA (k := k0) rfl (by omega) hN2 dL_law__36 ?_
      refine y_bipush (z := 31) C dL_law__37 (by decide) ?_
      refine y_iand C dL_law__39 ?_
      obtain ⟨z, z1, z2, ez⟩ := and31 (iv (xs k0).toInt)
      rw [ez]
      by_cases h0 : z = 0
      · subst h0
        exact y_tabIn (pc := 40) (off := 100) (tgt := 140) C dL_law__40 (by decide) (by decide) (by decide) (by decide) rfl (by decide) (lc_store C hn hr hX hbl hbA hk hN2 hc hs kk)
      by_cases h1 : z = 1
      · subst h1
        exact y_tabIn (pc := 40) (off := 218) (tgt := 258) C dL_law__40 (by decide) (by decide) (by decide) (by decide) rfl (by decide) (lc_wells C hn hr hX hbl hbA hk hN2 hc hs kk)
      by_cases h2 : z = 2
      · subst h2
        exact y_tabIn (pc := 40) (off := 298) (tgt := 338) C dL_law__40 (by decide) (by decide) (by decide) (by decide) rfl (by decide) (lc_leak C hn hr hX hbl hbA hk hN2 hc hs kk)
      by_cases h3 : z = 3
      · subst h3
        exact y_tabIn (pc := 40) (off := 366) (tgt := 406) C dL_law__40 (by decide) (by decide) (by decide) (by decide) rfl (by decide) (lc_leach C hn hr hX hbl hbA hk hN2 hc hs kk)
      by_cases h4 : z = 4
      · subst h4
        exact y_tabIn (pc := 40) (off := 434) (tgt := 474) C dL_law__40 (by decide) (by decide) (by decide) (by decide) rfl (by decide) (lc_heat C hn hr hX hbl hbA hk hN2 hc hs kk)
      by_cases h5 : z = 5
      · subst h5
        exact y_tabIn (pc := 40) (off := 490) (tgt := 530) C dL_law__40 (by decide) (by decide) (by decide) (by decide) rfl (by decide) (lc_customer C hn hr hX hbl hbA hk hN2 hc hs kk)
      by_cases h6 : z = 6
      · subst h6
        exact y_tabIn (pc := 40) (off := 582) (tgt := 622) C dL_law__40 (by decide) (by decide) (by decide) (by decide) rfl (by decide) (lc_nominate C hn hr hX hbl hbA hk hN2 hc hs kk)
      by_cases h7 : z = 7
      · subst h7
        exact y_tabIn (pc := 40) (off := 662) (tgt := 702) C dL_law__40 (by decide) (by decide) (by decide) (by decide) rfl (by decide) (lc_transfer C hn hr hX hbl hbA hk hN2 hc hs kk)
      by_cases h8 : z = 8
      · subst h8
        exact y_tabIn (pc := 40) (off := 742) (tgt := 782) C dL_law__40 (by decide) (by decide) (by decide) (by decide) rfl (by decide) (lc_law C hn hr hX hbl hbA hk hN2 hc hs kk)
      by_cases h9 : z = 9
      · subst h9
        exact y_tabIn (pc := 40) (off := 822) (tgt := 862) C dL_law__40 (by decide) (by decide) (by decide) (by decide) rfl (by decide) (lc_price C hn hr hX hbl hbA hk hN2 hc hs kk)
      by_cases h10 : z = 10
      · subst h10
        exact y_tabIn (pc := 40) (off := 890) (tgt := 930) C dL_law__40 (by decide) (by decide) (by decide) (by decide) rfl (by decide) (lc_pass C hn hr hX hbl hbA hk hN2 hc hs kk)
      by_cases h11 : z = 11
      · subst h11
        exact y_tabIn (pc := 40) (off := 946) (tgt := 986) C dL_law__40 (by decide) (by decide) (by decide) (by decide) rfl (by decide) (lc_pressure C hn hr hX hbl hbA hk hN2 hc hs kk)
      by_cases h12 : z = 12
      · subst h12
        exact y_tabIn (pc := 40) (off := 1002) (tgt := 1042) C dL_law__40 (by decide) (by decide) (by decide) (by decide) rfl (by decide) (lc_rate C hn hr hX hbl hbA hk hN2 hc hs kk)
      by_cases h13 : z = 13
      · subst h13
        exact y_tabIn (pc := 40) (off := 1086) (tgt := 1126) C dL_law__40 (by decide) (by decide) (by decide) (by decide) rfl (by decide) (lc_mix C hn hr hX hbl hbA hk hN2 hc hs kk)
      by_cases h14 : z = 14
      · subst h14
        exact y_tabIn (pc := 40) (off := 1142) (tgt := 1182) C dL_law__40 (by decide) (by decide) (by decide) (by decide) rfl (by decide) (lc_ofStore C hn hr hX hbl hbA hk hN2 hc hs kk)
      by_cases h15 : z = 15
      · subst h15
        exact y_tabIn (pc := 40) (off := 1209) (tgt := 1249) C dL_law__40 (by decide) (by decide) (by decide) (by decide) rfl (by decide) (lc_ofCustomer C hn hr hX hbl hbA hk hN2 hc hs kk)
      by_cases h16 : z = 16
      · subst h16
        exact y_tabIn (pc := 40) (off := 1276) (tgt := 1316) C dL_law__40 (by decide) (by decide) (by decide) (by decide) rfl (by decide) (lc_flow C hn hr hX hbl hbA hk hN2 hc hs kk)
      by_cases h17 : z = 17
      · subst h17
        exact y_tabIn (pc := 40) (off := 1332) (tgt := 1372) C dL_law__40 (by decide) (by decide) (by decide) (by decide) rfl (by decide) (lc_why C hn hr hX hbl hbA hk hN2 hc hs kk)
      by_cases h18 : z = 18
      · subst h18
        exact y_tabIn (pc := 40) (off := 1388) (tgt := 1428) C dL_law__40 (by decide) (by decide) (by decide) (by decide) rfl (by decide) (lc_worth C hn hr hX hbl hbA hk hN2 hc hs kk)
      by_cases h19 : z = 19
      · subst h19
        exact y_tabIn (pc := 40) (off := 1455) (tgt := 1495) C dL_law__40 (by decide) (by decide) (by decide) (by decide) rfl (by decide) (lc_worthAnew C hn hr hX hbl hbA hk hN2 hc hs kk)
      by_cases h20 : z = 20
      · subst h20
        exact y_tabIn (pc := 40) (off := 1522) (tgt := 1562) C dL_law__40 (by decide) (by decide) (by decide) (by decide) rfl (by decide) (lc_of C hn hr hX hbl hbA hk hN2 hc hs kk)
      exact y_tabOut (pc := 40) (tgt := 1617) C dL_law__40 (by omega) (by omega) (Or.inr (by omega)) (by decide) (Y.wide (by omega) (by omega) kk)
end YLOOP
/-! from the law's entry -/
theorem Ct.noX {Ω : OmT} {y : MethodName} {cc : ByteArray} {maxL : Nat} {ret : Option FieldType} {rm : Room} {av : List Value} {Φ : AH → Prop} {hR : AH} {Ψ : Option Value → AH → Prop} {Ξ : String → AH → Prop} (n : ∀ E h, ¬ Ξ E h) (c : Ct Ω y cc maxL ret rm av Φ hR Ψ Ξ) : Ct Ω y cc maxL ret rm av Φ hR Ψ NX := by
  intro p e ha hc hk s m args below hf happ hP ht
  obtain ⟨n1, o, w1, w2, w3, w4⟩ := c p e ha hc hk s m args below hf happ hP ht
  refine ⟨n1, o, w1, w2, w3, ?_⟩
  rcases w4 with w | ⟨q, eo, E, ce, L, ⟨⟨h', x1, x2⟩, x3⟩, x4⟩
  · exact Or.inl w
  · exact absurd x1 (n _ _)
section YENTRY
variable {Ω : OmT} {κ : KxT} {Φ : AH → Prop} {hR : AH} {cs sl pc : Nat} {L : List (Nat × Value)} {st stk : List Value} {own : String} {cc : ByteArray} {idx b n mL : Nat} {y : MethodName} {c2 : ByteArray} {rm rm2 : Room} {As : List Value} {Ψ' : Option Value → AH → Prop}
theorem y_callIF (C : Cx Ω κ own cc) (hr : kR κ = rm) (cv : CI own idx y c2 mL n) (ct : Ct Ω y c2 mL none rm2 (.ref b :: As) Φ hR Ψ' NX) (hn : As.length = n) (hst : As.reverse ++ .ref b :: st = stk) (hcat : (st.map fun v => v.category).sum ≤ 8) (hm : RmIn rm2 mL rm cs sl) (dg : decode cc pc = .ok (.invokespecial idx, 3))
    (kk : ∀ rv, Y Ω κ (Ψ' rv) hR (cs + rm2.cells) (sl + rm2.slots) (pc + 3) L (rv.toList ++ st)) : Y Ω κ Φ hR cs sl pc L stk := by
  refine y_runM (av := .ref b :: As) (st := st) (Ψ' := Ψ') (mc := rm2.cells) (ms := rm2.slots) (fun h H locs ls a1 b1 c1 d1 => ?_) kk
  obtain ⟨w1, w2, w3, w4, w5, w6⟩ := cv
  have hts := C.2.2.2.2.1
  exact va_runI (As := As) (rest := st) ⟨C.1, C.2.1, C.2.2.1, C.2.2.2.1, hts⟩ ct.met ⟨y_room C hr hm w4 w3 w6 w1, w5, hts _ w2⟩ ⟨Ct.blind, y_pre C a1 b1 c1⟩ rfl hn d1.1 hst.symm (lv_room hcat) dg (by rw [hr]; exact ⟨hm.2.2.1, hm.2.2.2⟩)
end YENTRY
theorem cmb_hs {h1 h2 : AH} {o : Nat} {e : va_E} (d : Dj h1 h2) (n : cmb h1 h2 o = none) : hset (cmb h1 h2) o e = cmb (hset h1 o e) h2 ∧ Dj (hset h1 o e) h2 ∧ h1 o = none := by
  have n1 : h1 o = none := by
    cases q : h1 o with
    | none => rfl
    | some e => rw [cmb_1 q] at n; cases n
  have n2 : h2 o = none := by rw [cmb_2 n1] at n; exact n
  refine ⟨?_, fun a ha => ?_, n1⟩
  · funext a
    by_cases q : a = o
    · subst q; rw [hset_s, cmb_1 hset_s]
    · rw [hset_n q]
      cases r : h1 a with
      | none => rw [cmb_2 r, cmb_2 (by rw [hset_n q]; exact r)]
      | some e => rw [cmb_1 r, cmb_1 (by rw [hset_n q]; exact r)]
  · by_cases q : a = o
    · rw [q]; exact n2
    · exact d a (by rw [hset_n q] at ha; exact ha)
abbrev e0 : AH := fun _ => none
theorem cmb_e0 {h : AH} : cmb e0 h = h := funext fun a => cmb_2 rfl
set_option maxRecDepth 20000 in
set_option maxHeartbeats 2000000 in
theorem lw_all {Ω : OmT} {κ : KxT} {b N : Nat} {xs : Nat → Int32} (C : Cx Ω κ RL cL_law_) (hn : kn κ = 8) (hr : kR κ = room_1) (hX : va_X b N xs (ks κ) (ks κ).heap) (hbl : b < (ks κ).heap.size) (hbA : ¬ OmA Ω b) (hN : N ≤ 3584) (kend : ∀ x M o, Y Ω κ (LW Ω x M o) e0 601024 7293034 1624 [] [.int (iv 1)]) : Y Ω κ (fun h => h = e0) e0 0 0 0 [(0, .ref b)] [] := by
  refine y_new (pc := 0) C fn_L_8 dL_law__0 (by rw [hr]; decide) (by rw [hr]; decide) (fun x => ?_)
  refine y_dup C dL_law__3 rfl ?_
  refine Y.imp (Φ' := fun h => h = hset e0 x (.inr (5, [.null, .null, .null, .null, .int 0, .int 0, .int 0, .int 0, .long 0, .long 0, .long 0]))) (fun h ⟨h', q1, q2, q3, q4⟩ => by subst q1; exact q4) ?_
  refine y_callI (cs' := 6) (sl' := 85) (As := []) C hr ci_L_86 (mg_init e0 x) rfl rfl (Nat.le_of_ble_eq_true rfl) ⟨by decide, by decide, by decide, by decide⟩ dL_law__4 ⟨rfl, rfl⟩ ?_
  refine y_astore_n (L' := [(1, _), (0, _)]) C dL_law__7 (by rw [hn]; decide) rfl ?_
  refine Y.ex fun lay => Y.and fun hx => Y.and fun hlo => ?_
  refine y_new (pc := 8) C fn_L_87 dL_law__8 (by rw [hr]; decide) (by rw [hr]; decide) (fun M => ?_)
  refine y_dup C dL_law__11 rfl ?_
  refine Y.imp (Φ' := fun h => ∃ hC, InvC Ω lay 0 0 0 0 ξi σi τi hC ∧ ∃ h1, h1 M = some (.inr (6, ds6)) ∧ Dj h1 hC ∧ h = cmb h1 hC) (fun h ⟨hC, q1, q2, q3, q4⟩ => ⟨hC, q1, hset e0 M (.inr (6, ds6)), hset_s, ?_⟩) ?_
  · have w := cmb_hs (h1 := e0) (h2 := hC) (o := M) (e := .inr (6, ds6)) (fun a ha => absurd rfl ha) (by rw [cmb_e0]; exact q2)
    rw [cmb_e0] at w
    exact ⟨w.2.1, q4.trans w.1⟩
  refine Y.ex fun hC => Y.and fun iC => ?_
  refine y_callIF (As := []) C hr ci_L_89 (Ct.noX (fun E h ⟨h1, q, _⟩ => q) (Ct.frame (mt_init (M := M)))) rfl rfl (Nat.le_of_ble_eq_true rfl) ⟨by decide, by decide, by decide, by decide⟩ dL_law__12 (fun rv => ?_)
  refine Y.imp (Φ' := fun h => rv = none ∧ ∃ (ma : Nat → Nat) (hM : AH), InvM Ω M ma σi τi hM ∧ Dj hM hC ∧ h = cmb hM hC) (fun h ⟨h1, ⟨q1, ma, q2⟩, q3, q4⟩ => ⟨q1, ma, h1, q2, q3, q4⟩) (Y.and fun er => ?_)
  subst er
  refine y_astore_n (pc := 15) (L' := [(2, _), (1, _), (0, _)]) C dL_law__15 (by rw [hn]; decide) rfl ?_
  refine y_iconst C dL_law__16 ?_
  refine y_newJ (n := 1) C aw_4_170 dL_law__17 rfl (by decide) (by rw [hr]; decide) (by rw [hr]; decide) (fun o => ?_)
  refine y_astore_n (L' := [(3, _), (2, _), (1, _), (0, _)]) C dL_law__19 (by rw [hn]; decide) rfl ?_
  refine y_iconst C dL_law__20 ?_
  refine y_istore (L' := [(4, _), (3, _), (2, _), (1, _), (0, _)]) C dL_law__21 (by rw [hn]; decide) rfl ?_
  refine Y.sub [4, 3, 2, 1, 0] rfl ?_
  refine Y.imp (Φ' := LW Ω x M o) (fun h ⟨h0, ⟨ma, hM, q1, q2, q3⟩, n1, n2, q4⟩ => ?_) ?_
  · have w := cmb_hs (h1 := hC) (h2 := hM) (o := o) (e := oO Ω (fun _ => 0)) q2.sym (by rw [← cmb_cm q2, ← q3]; exact n1)
    refine ⟨lay, ma, σi, τi, ξi, 0, 0, 0, fun _ => 0, li_i, hlo, hx, hset hC o (oO Ω (fun _ => 0)), hM, ⟨hC, iC, w.2.2, rfl⟩, q1, w.2.1, ?_⟩
    rw [q4, q3, cmb_cm q2]
    exact w.1
  · exact lw_loop C hn hr hX hbl hbA hN (kend x M o) 512 0 _ _ (by omega) (by omega) (by decide) (by decide)
