/-! the lists grow -/
theorem hset_hset {h : AH} {a : Nat} {x y : va_E} : hset (hset h a x) a y = hset h a y := by
  funext b
  unfold hset
  split <;> rfl
theorem hset_cm {h : AH} {a b : Nat} {x y : va_E} (n : a ≠ b) : hset (hset h a x) b y = hset (hset h b y) a x := by
  funext c
  unfold hset
  by_cases p : c = b
  · subst p; rw [if_pos rfl, if_neg (fun q => n q.symm), if_pos rfl]
  · rw [if_neg p, if_neg p]
def oA (Ω : OmT) (n : Nat) (f : Nat → Option Nat) : va_E := .inl (OmO Ω, n, .inr (.inr (.inr (.inr f))))
def lO (mc : Int32) (e : Nat) (n : Int) : va_E := .inr (0, [.int mc, .ref e, .int (iv n)])
theorem nn_of {h : AH} {a b : Nat} {x : va_E} (h1 : h a = some x) (h2 : h b = none) : a ≠ b := fun q => by rw [q, h2] at h1; cases h1

set_option maxRecDepth 20000 in
theorem mc_copyOf3 {Ω : OmT} {hR : AH} (h0 : AH) (a0 n0 N co : Nat) (qc : vw_C) (f : Nat → Option Nat) (hco : vwCl[co]? = some qc) (hcast : Cond.castable qc.1 "java/lang/Object" ∈ NW) (ha : h0 a0 = some (oA Ω n0 f)) (hel : ∀ i, i < n0 → ∀ y, f i = some y → ∃ vs, h0 y = some (.inr (co, vs))) (hN : n0 ≤ N) (hN2 : N ≤ 40) :
    Ct Ω yJ7_copyOf_6403c cJ7_copyOf_6403c 4 (some (.array (.object "java/lang/Object"))) (rkc 3 1 40) [.ref a0, .int (iv N), .ref (OmM Ω)] (fun h => h = h0) hR (fun rv h => ∃ a1, rv = some (.ref a1) ∧ h0 a1 = none ∧ hR a1 = none ∧ h = hset h0 a1 (oA Ω N (va_cpy f (fun _ => none) 0 0 n0))) NX := by
  refine Ct.of (own := RJ7) (L := [(0, _), (1, _), (2, _)]) (by decide +kernel) rfl (Nat.le_of_ble_eq_true rfl) rfl ?_
  intro κ C hn E hi
  refine y_aload_n (pc := 0) C dJ7_copyOf_6403c_0 2 rfl ?_
  refine y_ldcM (pc := 1) C aw_2_111 dJ7_copyOf_6403c_1 ?_
  refine y_acmp_ne (pc := 3) (tgt := 13) C dJ7_copyOf_6403c_3 (by decide) (fun q => absurd rfl q) (fun _ => ?_)
  refine y_iload_n (pc := 6) C dJ7_copyOf_6403c_6 1 rfl ?_
  refine y_newO (pc := 7) (n := N) C aw_2_113 dJ7_copyOf_6403c_7 rfl (by omega) (by rw [E.2.1]; decide) (by rw [E.2.1]; show 0 + N ≤ 40; omega) (fun a1 => ?_)
  refine Y.imp (Φ' := fun h => (h0 a1 = none ∧ hR a1 = none) ∧ h = hset h0 a1 (oA Ω N (fun _ => none))) (fun h ⟨h', e1, e2, e3, e4⟩ => by subst e1; exact ⟨⟨e2, e3⟩, e4⟩) ?_
  refine Y.and (fun hfr => ?_)
  have hne := nn_of ha hfr.1
  refine y_goto (pc := 10) (tgt := 24) C dJ7_copyOf_6403c_10 (by decide) ?_
  refine y_astore_n (pc := 24) (L' := [(3, _), (0, _), (1, _), (2, _)]) C dJ7_copyOf_6403c_24 (by rw [hn]; decide) rfl ?_
  refine y_aload_n (pc := 25) C dJ7_copyOf_6403c_25 1 rfl ?_
  refine y_iconst (pc := 26) C dJ7_copyOf_6403c_26 ?_
  refine y_aload_n (pc := 27) C dJ7_copyOf_6403c_27 0 rfl ?_
  refine y_iconst (pc := 28) C dJ7_copyOf_6403c_28 ?_
  refine y_aload_n (pc := 29) C dJ7_copyOf_6403c_29 1 rfl ?_
  refine y_aalen (pc := 30) (z := (n0 : Int)) C dJ7_copyOf_6403c_30 (fun h hh => ⟨n0, f, by rw [hh, hset_n hne]; exact ha, rfl⟩) ?_
  refine y_iload_n (pc := 31) C dJ7_copyOf_6403c_31 2 rfl ?_
  refine y_min (pc := 32) C E.2.1 cs_J7_304.1 cs_J7_304.2.1 cs_J7_304.2.2.1 cs_J7_304.2.2.2.1 (by decide) (Nat.le_of_ble_eq_true rfl) (by show 0 + 1 ≤ 1; decide) (by show 0 + N ≤ 40; omega) (by omega) (by omega) (by omega) (by omega) dJ7_copyOf_6403c_32 ?_
  rw [show min (n0 : Int) N = n0 by omega]
  refine y_copyO (pc := 35) (co := co) (qc := qc) (Φ' := fun h => h = hset h0 a1 (oA Ω N (va_cpy f (fun _ => none) 0 0 n0))) C aw_2_117 aw_2_119 aw_2_118 aw_1_17 hco hcast dJ7_copyOf_6403c_35 (by rw [E.2.1]; decide) (by rw [E.2.1]; exact Nat.le_of_ble_eq_true rfl) (by omega) (fun h hh => ?_) ?_
  · refine ⟨n0, N, f, fun _ => none, by rw [hh, hset_n hne]; exact ha, by rw [hh, hset_s]; rfl, Nat.le_refl _, hN, fun i hi y hy => ?_, by rw [hh, hset_hset]; rfl⟩
    obtain ⟨vs, q⟩ := hel i hi y hy
    exact ⟨vs, by rw [hh, hset_n (nn_of q hfr.1)]; exact q⟩
  refine y_aload_n (pc := 38) C dJ7_copyOf_6403c_38 0 rfl ?_
  exact y_aret (pc := 39) C E (by first | exact Or.inl ⟨_, rfl⟩ | exact Or.inr ⟨_, rfl⟩) dJ7_copyOf_6403c_39 (by show 0 + 1 ≤ 1; decide) (by show 0 + N ≤ 40; omega) (fun h hh => ⟨a1, rfl, hfr.1, hfr.2, hh⟩)
set_option maxRecDepth 20000 in
theorem mc_copyOf2 {Ω : OmT} {hR : AH} (h0 : AH) (a0 n0 N co : Nat) (qc : vw_C) (f : Nat → Option Nat) (hco : vwCl[co]? = some qc) (hcast : Cond.castable qc.1 "java/lang/Object" ∈ NW) (ha : h0 a0 = some (oA Ω n0 f)) (hel : ∀ i, i < n0 → ∀ y, f i = some y → ∃ vs, h0 y = some (.inr (co, vs))) (hN : n0 ≤ N) (hN2 : N ≤ 40) :
    Ct Ω yJ7_copyOf_1904c cJ7_copyOf_1904c 2 (some (.array (.object "java/lang/Object"))) (rkc 4 1 40) [.ref a0, .int (iv N)] (fun h => h = h0) hR (fun rv h => ∃ a1, rv = some (.ref a1) ∧ h0 a1 = none ∧ hR a1 = none ∧ h = hset h0 a1 (oA Ω N (va_cpy f (fun _ => none) 0 0 n0))) NX := by
  refine Ct.of (own := RJ7) (L := [(0, _), (1, _)]) (by decide +kernel) rfl (Nat.le_of_ble_eq_true rfl) rfl ?_
  intro κ C hn E hi
  refine y_aload_n (pc := 0) C dJ7_copyOf_1904c_0 0 rfl ?_
  refine y_iload_n (pc := 1) C dJ7_copyOf_1904c_1 1 rfl ?_
  refine y_aload_n (pc := 2) C dJ7_copyOf_1904c_2 0 rfl ?_
  refine y_getC (pc := 3) C aw_2_95 (nw_in nw_4_27 rfl) aw_4_26 aw_2_96 aw_2_107 dJ7_copyOf_1904c_3 (by rw [E.2.1]; decide) (by rw [E.2.1]; exact Nat.le_of_ble_eq_true rfl) (fun h hh => ⟨n0, f, by rw [hh]; exact ha⟩) ?_
  refine y_callSX (pc := 6) (As := [_, _, _]) C E.2.1 cs_J7_300 (mc_copyOf3 h0 a0 n0 N co qc f hco hcast ha hel hN hN2) rfl rfl (Nat.le_of_ble_eq_true rfl) ⟨by decide, by decide, by decide, by decide⟩ dJ7_copyOf_1904c_6 (fun rv => ?_) (fun E0 => y_nx)
  refine Y.ex fun a1 => Y.and fun e => ?_
  subst e
  exact y_aret (pc := 9) C E (by first | exact Or.inl ⟨_, rfl⟩ | exact Or.inr ⟨_, rfl⟩) dJ7_copyOf_1904c_9 (by decide) (by decide) (fun h hh => ⟨a1, rfl, hh⟩)
set_option maxRecDepth 20000 in
theorem mc_newLength {Ω : OmT} {hR : AH} {Φ : AH → Prop} (a b c : Int) (h1 : 0 ≤ a ∧ a ≤ 1000) (h2 : 1 ≤ b ∧ b ≤ 1000) (h3 : 0 ≤ c ∧ c ≤ 1000) : Ct Ω yJ8_newLength_cabcc cJ8_newLength_cabcc 4 (some FieldType.int) (rk 2) [.int (iv a), .int (iv b), .int (iv c)] (Φ) hR (RV (.int (iv (a + max b c))) (Φ)) NX := by
  refine Ct.of (own := RJ8) (L := [(0, _), (1, _), (2, _)]) (by decide +kernel) rfl (Nat.le_of_ble_eq_true rfl) rfl ?_
  intro κ C hn E hi
  refine y_iload_n (pc := 0) C dJ8_newLength_cabcc_0 0 rfl ?_
  refine y_iload_n (pc := 1) C dJ8_newLength_cabcc_1 1 rfl ?_
  refine y_iload_n (pc := 2) C dJ8_newLength_cabcc_2 2 rfl ?_
  refine y_max (pc := 3) C E.2.1 cs_J8_194.1 cs_J8_194.2.1 cs_J8_194.2.2.1 cs_J8_194.2.2.2.1 (by decide) (Nat.le_of_ble_eq_true rfl) (by decide) (by decide) (by omega) (by omega) (by omega) (by omega) dJ8_newLength_cabcc_3 ?_
  refine y_iadd (pc := 6) C dJ8_newLength_cabcc_6 ?_
  refine y_istore_n (pc := 7) (L' := [(3, _), (0, _), (1, _), (2, _)]) C dJ8_newLength_cabcc_7 (by rw [hn]; decide) rfl ?_
  refine y_iconst (pc := 8) C dJ8_newLength_cabcc_8 ?_
  refine y_iload_n (pc := 9) C dJ8_newLength_cabcc_9 0 rfl ?_
  refine y_icmp_ge (pc := 10) (tgt := 21) C dJ8_newLength_cabcc_10 (by decide) (by omega) (by omega) (by omega) (by omega) (fun c10 => ?_) (fun c10 => ?_)
  · exact absurd c10 (by omega)
  · skip
    refine y_iload_n (pc := 13) C dJ8_newLength_cabcc_13 0 rfl ?_
    refine y_ldc (pc := 14) (z := 2147483639) C aw_2_88 (by decide) dJ8_newLength_cabcc_14 ?_
    refine y_icmp_gt (pc := 16) (tgt := 21) C dJ8_newLength_cabcc_16 (by decide) (by omega) (by omega) (by omega) (by omega) (fun c16 => ?_) (fun c16 => ?_)
    · exact absurd c16 (by omega)
    · skip
      refine y_iload_n (pc := 19) C dJ8_newLength_cabcc_19 0 rfl ?_
      exact y_iret (pc := 20) C E dJ8_newLength_cabcc_20 (by decide) (by decide) (fun h hh => ⟨rfl, hh⟩)

set_option maxRecDepth 20000 in
theorem mc_grow1 {Ω : OmT} {hR : AH} (h0 : AH) (l e n co : Nat) (mc : Int32) (el : Nat → Nat) (qc : vw_C) (hco : vwCl[co]? = some qc) (hcast : Cond.castable qc.1 "java/lang/Object" ∈ NW) (hl : h0 l = some (lO mc e n)) (hd : (n = 0 ∧ e = OmE Ω) ∨ (10 ≤ n ∧ n ≤ 22 ∧ ∃ f, h0 e = some (oA Ω n f) ∧ (∀ i, i < n → f i = some (el i)) ∧ ∀ i, i < n → ∃ vs, h0 (el i) = some (.inr (co, vs)))) : Ct Ω yJx4a65c_grow_92f84 cJx4a65c_grow_92f84 4 (some (.array (.object "java/lang/Object"))) (rkc 5 1 40) [.ref l, .int (iv ((n : Int) + 1))] (fun h => h = h0) hR (fun rv h => ∃ (a1 cap : Nat) (g : Nat → Option Nat), rv = some (.ref a1) ∧ h0 a1 = none ∧ hR a1 = none ∧ n + 1 ≤ cap ∧ 10 ≤ cap ∧ cap ≤ 40 ∧ (∀ i, i < n → g i = some (el i)) ∧ h = hset (hset h0 a1 (oA Ω cap g)) l (lO mc a1 n)) NX := by
  refine Ct.of (own := RJx4a65c) (L := [(0, _), (1, _)]) (by decide +kernel) rfl (Nat.le_of_ble_eq_true rfl) rfl ?_
  intro κ C hn E hi
  refine y_aload_n (pc := 0) C dJx4a65c_grow_92f84_0 0 rfl ?_
  refine y_get (pc := 1) C fg_Jx4a65c_9 dJx4a65c_grow_92f84_1 (fun h hh => ⟨_, (congrFun hh l).trans hl, rfl⟩) ?_
  rcases hd with ⟨rfl, rfl⟩ | ⟨n1, n2, f, hf1, hf2, hf3⟩
  · refine y_elen (pc := 4) C dJx4a65c_grow_92f84_4 ?_
    refine y_istore_n (pc := 5) (L' := [(2, _), (0, _), (1, _)]) C dJx4a65c_grow_92f84_5 (by rw [hn]; decide) rfl ?_
    refine y_iload_n (pc := 6) C dJx4a65c_grow_92f84_6 0 rfl ?_
    refine y_if_gt (pc := 7) (tgt := 20) C dJx4a65c_grow_92f84_7 (by decide) (by decide) (by decide) (fun q => absurd q (by decide)) (fun _ => ?_)
    refine y_aload_n (pc := 10) C dJx4a65c_grow_92f84_10 1 rfl ?_
    refine y_get (pc := 11) C fg_Jx4a65c_9 dJx4a65c_grow_92f84_11 (fun h hh => ⟨_, (congrFun hh l).trans hl, rfl⟩) ?_
    refine y_empty (pc := 14) C aw_1_41 dJx4a65c_grow_92f84_14 ?_
    refine y_acmp_eq (pc := 17) (tgt := 45) C dJx4a65c_grow_92f84_17 (by decide) (fun _ => ?_) (fun q => absurd rfl q)
    refine y_aload_n (pc := 45) C dJx4a65c_grow_92f84_45 1 rfl ?_
    refine y_bipush (pc := 46) (z := 10) C dJx4a65c_grow_92f84_46 (by decide) ?_
    refine y_iload_n (pc := 48) C dJx4a65c_grow_92f84_48 2 rfl ?_
    refine y_max (pc := 49) C E.2.1 cs_Jx4a65c_79.1 cs_Jx4a65c_79.2.1 cs_Jx4a65c_79.2.2.1 cs_Jx4a65c_79.2.2.2.1 (by decide) (Nat.le_of_ble_eq_true rfl) (by decide) (by decide) (by decide) (by decide) (by decide) (by decide) dJx4a65c_grow_92f84_49 ?_
    refine y_newO (pc := 52) (n := 10) C aw_2_121 dJx4a65c_grow_92f84_52 (by decide) (by omega) (by rw [E.2.1]; decide) (by rw [E.2.1]; decide) (fun a1 => ?_)
    refine Y.imp (Φ' := fun h => (h0 a1 = none ∧ hR a1 = none) ∧ h = hset h0 a1 (oA Ω 10 (fun _ => none))) (fun h ⟨h', e1, e2, e3, e4⟩ => by subst e1; exact ⟨⟨e2, e3⟩, e4⟩) ?_
    refine Y.and (fun hfr => ?_)
    have hne := nn_of hl hfr.1
    refine y_dup_x1 (pc := 55) C dJx4a65c_grow_92f84_55 rfl rfl ?_
    refine y_put (pc := 56) (Φ' := fun h => h = hset (hset h0 a1 (oA Ω 10 (fun _ => none))) l (lO mc a1 ((0 : Nat) : Int))) C fp_Jx4a65c_9 dJx4a65c_grow_92f84_56 rfl rfl (fun h hh => ⟨_, (congrFun hh l).trans ((hset_n hne).trans hl), Nat.le_of_ble_eq_true rfl, by rw [hh]; rfl⟩) ?_
    exact y_aret (pc := 59) C E (by first | exact Or.inl ⟨_, rfl⟩ | exact Or.inr ⟨_, rfl⟩) dJx4a65c_grow_92f84_59 (by decide) (by decide) (fun h hh => ⟨a1, 10, fun _ => none, rfl, hfr.1, hfr.2, by omega, by omega, by omega, fun i hi => absurd hi (by omega), hh⟩)
  · refine y_aalen (pc := 4) (z := (n : Int)) C dJx4a65c_grow_92f84_4 (fun h hh => ⟨n, f, by rw [hh]; exact hf1, rfl⟩) ?_
    refine y_istore_n (pc := 5) (L' := [(2, _), (0, _), (1, _)]) C dJx4a65c_grow_92f84_5 (by rw [hn]; decide) rfl ?_
    refine y_iload_n (pc := 6) C dJx4a65c_grow_92f84_6 0 rfl ?_
    refine y_if_gt (pc := 7) (tgt := 20) C dJx4a65c_grow_92f84_7 (by decide) (by omega) (by omega) (fun _ => ?_) (fun q => absurd q (by omega))
    refine y_iload_n (pc := 20) C dJx4a65c_grow_92f84_20 0 rfl ?_
    refine y_iload_n (pc := 21) C dJx4a65c_grow_92f84_21 2 rfl ?_
    refine y_iload_n (pc := 22) C dJx4a65c_grow_92f84_22 0 rfl ?_
    refine y_isub (pc := 23) C dJx4a65c_grow_92f84_23 ?_
    refine y_iload_n (pc := 24) C dJx4a65c_grow_92f84_24 0 rfl ?_
    refine y_iconst (pc := 25) C dJx4a65c_grow_92f84_25 ?_
    refine y_ishr1 (pc := 26) C dJx4a65c_grow_92f84_26 (by omega) (by omega) ?_
    refine y_callS (pc := 27) (As := [_, _, _]) C E.2.1 cs_Jx4a65c_73 (mc_newLength _ _ _ ⟨by omega, by omega⟩ ⟨by omega, by omega⟩ ⟨by omega, by omega⟩) rfl rfl (Nat.le_of_ble_eq_true rfl) ⟨by decide, by decide, by decide, by decide⟩ dJx4a65c_grow_92f84_27 ⟨rfl, rfl⟩ ?_
    rw [show (n : Int) + max ((n : Int) + 1 - n) ((n : Int) / 2) = ((n + n / 2 : Nat) : Int) by omega]
    refine y_istore_n (pc := 30) (L' := [(3, _), (2, _), (0, _), (1, _)]) C dJx4a65c_grow_92f84_30 (by rw [hn]; decide) rfl ?_
    refine y_aload_n (pc := 31) C dJx4a65c_grow_92f84_31 2 rfl ?_
    refine y_aload_n (pc := 32) C dJx4a65c_grow_92f84_32 2 rfl ?_
    refine y_get (pc := 33) C fg_Jx4a65c_9 dJx4a65c_grow_92f84_33 (fun h hh => ⟨_, (congrFun hh l).trans hl, rfl⟩) ?_
    refine y_iload_n (pc := 36) C dJx4a65c_grow_92f84_36 0 rfl ?_
    refine y_callSX (pc := 37) (As := [_, _]) C E.2.1 cs_Jx4a65c_66 (mc_copyOf2 h0 e n (n + n / 2) co qc f hco hcast hf1 (fun i hi y hy => by rw [hf2 i hi] at hy; cases hy; exact hf3 i hi) (by omega) (by omega)) rfl rfl (Nat.le_of_ble_eq_true rfl) ⟨by decide, by decide, by decide, by decide⟩ dJx4a65c_grow_92f84_37 (fun rv => ?_) (fun E0 => y_nx)
    refine Y.ex fun a1 => Y.and fun er => Y.and fun f1 => Y.and fun f2 => ?_
    subst er
    have hne := nn_of hl f1
    refine y_dup_x1 (pc := 40) C dJx4a65c_grow_92f84_40 rfl rfl ?_
    refine y_put (pc := 41) (Φ' := fun h => h = hset (hset h0 a1 (oA Ω (n + n / 2) (va_cpy f (fun _ => none) 0 0 n))) l (lO mc a1 n)) C fp_Jx4a65c_9 dJx4a65c_grow_92f84_41 rfl rfl (fun h hh => ⟨_, (congrFun hh l).trans ((hset_n hne).trans hl), Nat.le_of_ble_eq_true rfl, by rw [hh]; rfl⟩) ?_
    exact y_aret (pc := 44) C E (by first | exact Or.inl ⟨_, rfl⟩ | exact Or.inr ⟨_, rfl⟩) dJx4a65c_grow_92f84_44 (by decide) (by decide) (fun h hh => ⟨a1, n + n / 2, va_cpy f (fun _ => none) 0 0 n, rfl, f1, f2, by omega, by omega, by omega, fun i hi => by unfold va_cpy; rw [if_pos (by omega), Nat.zero_add, Nat.sub_zero]; exact hf2 i hi, hh⟩)
set_option maxRecDepth 20000 in
theorem mc_grow0 {Ω : OmT} {hR : AH} (h0 : AH) (l e n co : Nat) (mc : Int32) (el : Nat → Nat) (qc : vw_C) (hco : vwCl[co]? = some qc) (hcast : Cond.castable qc.1 "java/lang/Object" ∈ NW) (hl : h0 l = some (lO mc e n)) (hd : (n = 0 ∧ e = OmE Ω) ∨ (10 ≤ n ∧ n ≤ 22 ∧ ∃ f, h0 e = some (oA Ω n f) ∧ (∀ i, i < n → f i = some (el i)) ∧ ∀ i, i < n → ∃ vs, h0 (el i) = some (.inr (co, vs)))) (hn40 : n ≤ 40) : Ct Ω yJx4a65c_grow_d5877 cJx4a65c_grow_d5877 1 (some (.array (.object "java/lang/Object"))) (rkc 6 1 40) [.ref l] (fun h => h = h0) hR (fun rv h => ∃ (a1 cap : Nat) (g : Nat → Option Nat), rv = some (.ref a1) ∧ h0 a1 = none ∧ hR a1 = none ∧ n + 1 ≤ cap ∧ 10 ≤ cap ∧ cap ≤ 40 ∧ (∀ i, i < n → g i = some (el i)) ∧ h = hset (hset h0 a1 (oA Ω cap g)) l (lO mc a1 n)) NX := by
  refine Ct.of (own := RJx4a65c) (L := [(0, _)]) (by decide +kernel) rfl (Nat.le_of_ble_eq_true rfl) rfl ?_
  intro κ C hn E hi
  refine y_aload_n (pc := 0) C dJx4a65c_grow_d5877_0 0 rfl ?_
  refine y_aload_n (pc := 1) C dJx4a65c_grow_d5877_1 0 rfl ?_
  refine y_get (pc := 2) C fg_Jx4a65c_48 dJx4a65c_grow_d5877_2 (fun h hh => ⟨_, (congrFun hh l).trans hl, rfl⟩) ?_
  refine y_iconst (pc := 5) C dJx4a65c_grow_d5877_5 ?_
  refine y_iadd (pc := 6) C dJx4a65c_grow_d5877_6 ?_
  refine y_callVX (pc := 7) (As := [_]) C E.2.1 cv_Jx4a65c_69 (ci := 0) rfl rfl (mc_grow1 h0 l e n co mc el qc hco hcast hl hd) (fun h hh => ⟨_, (congrFun hh l).trans hl⟩) rfl rfl (Nat.le_of_ble_eq_true rfl) ⟨by decide, by decide, by decide, by decide⟩ dJx4a65c_grow_d5877_7 (fun rv => ?_) (fun E0 => y_nx)
  refine Y.ex fun a1 => Y.ex fun cap => Y.ex fun g => Y.and fun er => ?_
  subst er
  exact y_aret (pc := 10) C E (by first | exact Or.inl ⟨_, rfl⟩ | exact Or.inr ⟨_, rfl⟩) dJx4a65c_grow_d5877_10 (by decide) (by decide) (fun h hh => ⟨a1, cap, g, rfl, hh⟩)

set_option maxRecDepth 20000 in
theorem mc_add3 {Ω : OmT} {hR : AH} (h0 : AH) (l e n b co : Nat) (mc : Int32) (el : Nat → Nat) (qc : vw_C) (hco : vwCl[co]? = some qc) (hcast : Cond.castable qc.1 "java/lang/Object" ∈ NW) (hl : h0 l = some (lO mc e n)) (hb : ∃ vs, h0 b = some (.inr (co, vs))) (hn40 : n ≤ 22) (hd : (n = 0 ∧ e = OmE Ω) ∨ (∃ cap f, n ≤ cap ∧ 10 ≤ cap ∧ cap ≤ 40 ∧ h0 e = some (oA Ω cap f) ∧ (∀ i, i < n → f i = some (el i)) ∧ ∀ i, i < n → ∃ vs, h0 (el i) = some (.inr (co, vs)))) (hne0 : co ≠ 0) : Ct Ω yJx4a65c_add_72be8 cJx4a65c_add_72be8 4 none (rkc 7 1 40) [.ref l, .ref b, .ref e, .int (iv n)] (fun h => h = h0) hR (fun rv h => rv = none ∧ (∃ (a1 cap : Nat) (g : Nat → Option Nat), ((a1 = e ∧ ∃ c2 g2, h0 e = some (oA Ω c2 g2)) ∨ (h0 a1 = none ∧ hR a1 = none)) ∧ n + 1 ≤ cap ∧ 10 ≤ cap ∧ cap ≤ 40 ∧ (∀ i, i < n → g i = some (el i)) ∧ g n = some b ∧ h = hset (hset h0 a1 (oA Ω cap g)) l (lO mc a1 ((n : Int) + 1)))) NX := by
  refine Ct.of (own := RJx4a65c) (L := [(0, _), (1, _), (2, _), (3, _)]) (by decide +kernel) rfl (Nat.le_of_ble_eq_true rfl) rfl ?_
  intro κ C hn E hi
  obtain ⟨vb, hb⟩ := hb
  refine y_iload_n (pc := 0) C dJx4a65c_add_72be8_0 3 rfl ?_
  refine y_aload_n (pc := 1) C dJx4a65c_add_72be8_1 2 rfl ?_
  have fin : ∀ (a1 cap : Nat) (g : Nat → Option Nat) (h1 : AH) (cs sl : Nat), cs ≤ 1 → sl ≤ 40 → ((a1 = e ∧ ∃ c2 g2, h0 e = some (oA Ω c2 g2)) ∨ (h0 a1 = none ∧ hR a1 = none)) → n + 1 ≤ cap → 10 ≤ cap → cap ≤ 40 → (∀ i, i < n → g i = some (el i)) → h1 a1 = some (oA Ω cap g) → a1 ≠ l → h1 l = some (lO mc a1 n) → (∃ v, h1 b = some (.inr (co, v))) → (∀ x y, hset (hset h1 a1 x) l y = hset (hset h0 a1 x) l y) → Y Ω κ (fun h => h = h1) hR cs sl 11 [(2, .ref a1), (0, .ref l), (1, .ref b), (3, .int (iv n))] [] := by
    intro a1 cap g h1 cs sl hcs hsl p1 p2 p3 p4 p5 q1 q2 q3 q4 q5
    refine y_aload_n (pc := 11) C dJx4a65c_add_72be8_11 0 rfl ?_
    refine y_iload_n (pc := 12) C dJx4a65c_add_72be8_12 3 rfl ?_
    refine y_aload_n (pc := 13) C dJx4a65c_add_72be8_13 2 rfl ?_
    refine y_aast (pc := 14) (co := co) (qc := qc) (Φ' := fun h => h = hset h1 a1 (oA Ω cap (va_up g n (some b)))) C hco hcast dJx4a65c_add_72be8_14 (by omega) (by omega) (fun h hh => ⟨by rw [hh]; exact q4, cap, g, by rw [hh]; exact q1, by omega, by rw [hh]; rfl⟩) ?_
    refine y_aload_n (pc := 15) C dJx4a65c_add_72be8_15 1 rfl ?_
    refine y_iload_n (pc := 16) C dJx4a65c_add_72be8_16 3 rfl ?_
    refine y_iconst (pc := 17) C dJx4a65c_add_72be8_17 ?_
    refine y_iadd (pc := 18) C dJx4a65c_add_72be8_18 ?_
    refine y_put (pc := 19) (Φ' := fun h => h = hset (hset h0 a1 (oA Ω cap (va_up g n (some b)))) l (lO mc a1 ((n : Int) + 1))) C fp_Jx4a65c_48 dJx4a65c_add_72be8_19 rfl rfl (fun h hh => ⟨_, (congrFun hh l).trans ((hset_n (fun q => q2 q.symm)).trans q3), Nat.le_of_ble_eq_true rfl, by rw [hh]; exact q5 _ _⟩) ?_
    exact y_vret (pc := 22) C E dJx4a65c_add_72be8_22 hcs hsl (fun h hh => ⟨rfl, a1, cap, va_up g n (some b), p1, p2, p3, p4, fun i hi => by unfold va_up; rw [if_neg (by omega)]; exact p5 i hi, by unfold va_up; rw [if_pos rfl], hh⟩)
  have grow : ∀ (cs sl : Nat), cs = 0 → sl = 0 → ((n = 0 ∧ e = OmE Ω) ∨ (10 ≤ n ∧ n ≤ 22 ∧ ∃ f, h0 e = some (oA Ω n f) ∧ (∀ i, i < n → f i = some (el i)) ∧ ∀ i, i < n → ∃ vs, h0 (el i) = some (.inr (co, vs)))) → Y Ω κ (fun h => h = h0) hR cs sl 6 [(0, .ref l), (1, .ref b), (2, .ref e), (3, .int (iv n))] [] := by
    intro cs sl ec es hg
    subst ec es
    refine y_aload_n (pc := 6) C dJx4a65c_add_72be8_6 0 rfl ?_
    refine y_callVX (pc := 7) (As := []) C E.2.1 cv_Jx4a65c_129 (ci := 0) rfl rfl (mc_grow0 h0 l e n co mc el qc hco hcast hl hg (by omega)) (fun h hh => ⟨_, (congrFun hh l).trans hl⟩) rfl rfl (Nat.le_of_ble_eq_true rfl) ⟨by decide, by decide, by decide, by decide⟩ dJx4a65c_add_72be8_7 (fun rv => ?_) (fun E0 => y_nx)
    refine Y.ex fun a1 => Y.ex fun cap => Y.ex fun g => Y.and fun er => Y.and fun f1 => Y.and fun f2 => Y.and fun f3 => Y.and fun f4 => Y.and fun f5 => Y.and fun f6 => ?_
    subst er
    have hal : a1 ≠ l := fun q => nn_of hl f1 q.symm
    refine y_astore_n (pc := 10) (L' := [(2, _), (0, _), (1, _), (3, _)]) C dJx4a65c_add_72be8_10 (by rw [hn]; decide) rfl ?_
    refine fin a1 cap g _ _ _ (by decide) (by decide) (Or.inr ⟨f1, f2⟩) f3 f4 f5 f6 (by rw [hset_n hal, hset_s]) hal (by rw [hset_s]) ⟨vb, ?_⟩ (fun x y => ?_)
    · rw [hset_n (fun q => by rw [q, hl] at hb; cases hb; exact hne0 rfl), hset_n (nn_of hb f1)]; exact hb
    · rw [hset_cm (a := l) (b := a1) (fun q => hal q.symm), hset_hset, hset_hset]
  rcases hd with ⟨d1, d2⟩ | ⟨cap, f, d1, d2, d3, d4, d5, d6⟩
  · subst d2
    refine y_elen (pc := 2) C dJx4a65c_add_72be8_2 ?_
    refine y_icmp_ne (pc := 3) (tgt := 11) C dJx4a65c_add_72be8_3 (by decide) (by omega) (by omega) (by omega) (by omega) (fun q => absurd (by omega) q) (fun _ => ?_)
    exact grow _ _ rfl rfl (Or.inl ⟨d1, rfl⟩)
  · refine y_aalen (pc := 2) (z := (cap : Int)) C dJx4a65c_add_72be8_2 (fun h hh => ⟨cap, f, by rw [hh]; exact d4, rfl⟩) ?_
    refine y_icmp_ne (pc := 3) (tgt := 11) C dJx4a65c_add_72be8_3 (by decide) (by omega) (by omega) (by omega) (by omega) (fun q => ?_) (fun q => ?_)
    · refine Y.sub [2, 0, 1, 3] rfl ?_
      exact fin e cap f h0 _ _ (by decide) (by decide) (Or.inl ⟨rfl, cap, f, d4⟩) (by omega) d2 d3 d5 d4 (fun q => by rw [q, hl] at d4; cases d4) hl ⟨vb, hb⟩ (fun x y => rfl)
    · have e1 : n = cap := by omega
      subst e1
      exact grow _ _ rfl rfl (Or.inr ⟨d2, hn40, f, d4, d5, d6⟩)
set_option maxRecDepth 20000 in
theorem mc_add {Ω : OmT} {hR : AH} (h0 : AH) (l e n b co : Nat) (mc : Int32) (el : Nat → Nat) (qc : vw_C) (hco : vwCl[co]? = some qc) (hcast : Cond.castable qc.1 "java/lang/Object" ∈ NW) (hl : h0 l = some (lO mc e n)) (hb : ∃ vs, h0 b = some (.inr (co, vs))) (hn40 : n ≤ 22) (hd : (n = 0 ∧ e = OmE Ω) ∨ (∃ cap f, n ≤ cap ∧ 10 ≤ cap ∧ cap ≤ 40 ∧ h0 e = some (oA Ω cap f) ∧ (∀ i, i < n → f i = some (el i)) ∧ ∀ i, i < n → ∃ vs, h0 (el i) = some (.inr (co, vs)))) (hne0 : co ≠ 0) (hen : e ≠ l) (hel : ∀ i, i < n → el i ≠ l) : Ct Ω yJx4a65c_add_9ea2d cJx4a65c_add_9ea2d 2 (some .boolean) (rkc 8 1 40) [.ref l, .ref b] (fun h => h = h0) hR (fun rv h => rv = some (.int (iv (bz true))) ∧ ∃ mc' : Int32, (∃ (a1 cap : Nat) (g : Nat → Option Nat), ((a1 = e ∧ ∃ c2 g2, h0 e = some (oA Ω c2 g2)) ∨ (h0 a1 = none ∧ hR a1 = none)) ∧ n + 1 ≤ cap ∧ 10 ≤ cap ∧ cap ≤ 40 ∧ (∀ i, i < n → g i = some (el i)) ∧ g n = some b ∧ h = hset (hset h0 a1 (oA Ω cap g)) l (lO mc' a1 ((n : Int) + 1)))) NX := by
  refine Ct.of (own := RJx4a65c) (L := [(0, _), (1, _)]) (by decide +kernel) rfl (Nat.le_of_ble_eq_true rfl) rfl ?_
  intro κ C hn E hi
  obtain ⟨vb, hb⟩ := hb
  have hbl : b ≠ l := fun q => by rw [q, hl] at hb; cases hb; exact hne0 rfl
  refine y_aload_n (pc := 0) C dJx4a65c_add_9ea2d_0 0 rfl ?_
  refine y_dup (pc := 1) C dJx4a65c_add_9ea2d_1 rfl ?_
  refine y_get (pc := 2) (v := .int mc) C fg_Jx4a65c_63 dJx4a65c_add_9ea2d_2 (fun h hh => ⟨_, (congrFun hh l).trans hl, rfl⟩) ?_
  rw [← iv_i mc]
  refine y_iconst (pc := 5) C dJx4a65c_add_9ea2d_5 ?_
  refine y_iadd (pc := 6) C dJx4a65c_add_9ea2d_6 ?_
  refine y_put (pc := 7) (Φ' := fun h => h = hset h0 l (lO (iv (mc.toInt + 1)) e n)) C fp_Jx4a65c_63 dJx4a65c_add_9ea2d_7 rfl rfl (fun h hh => ⟨_, (congrFun hh l).trans hl, Nat.le_of_ble_eq_true rfl, by rw [hh]; rfl⟩) ?_
  refine y_aload_n (pc := 10) C dJx4a65c_add_9ea2d_10 0 rfl ?_
  refine y_aload_n (pc := 11) C dJx4a65c_add_9ea2d_11 1 rfl ?_
  refine y_aload_n (pc := 12) C dJx4a65c_add_9ea2d_12 0 rfl ?_
  refine y_get (pc := 13) C fg_Jx4a65c_9 dJx4a65c_add_9ea2d_13 (fun h hh => ⟨_, (congrFun hh l).trans hset_s, rfl⟩) ?_
  refine y_aload_n (pc := 16) C dJx4a65c_add_9ea2d_16 0 rfl ?_
  refine y_get (pc := 17) C fg_Jx4a65c_48 dJx4a65c_add_9ea2d_17 (fun h hh => ⟨_, (congrFun hh l).trans hset_s, rfl⟩) ?_
  refine y_callVX (pc := 20) (As := [_, _, _]) C E.2.1 cv_Jx4a65c_131 (ci := 0) rfl rfl (mc_add3 (hset h0 l (lO (iv (mc.toInt + 1)) e n)) l e n b co (iv (mc.toInt + 1)) el qc hco hcast hset_s ⟨vb, by rw [hset_n hbl]; exact hb⟩ hn40 (hd.imp id (fun ⟨cap, f, d1, d2, d3, d4, d5, d6⟩ => ⟨cap, f, d1, d2, d3, by rw [hset_n hen]; exact d4, d5, fun i hi => by rw [hset_n (hel i hi)]; exact d6 i hi⟩)) hne0) (fun h hh => ⟨_, (congrFun hh l).trans hset_s⟩) rfl rfl (Nat.le_of_ble_eq_true rfl) ⟨by decide, by decide, by decide, by decide⟩ dJx4a65c_add_9ea2d_20 (fun rv => ?_) (fun E0 => y_nx)
  refine Y.and fun er => ?_
  subst er
  refine y_iconst (pc := 23) C dJx4a65c_add_9ea2d_23 ?_
  refine y_zret (pc := 24) (b := true) C E dJx4a65c_add_9ea2d_24 (by decide) (by decide) (fun h hh => ⟨rfl, iv (mc.toInt + 1), ?_⟩)
  obtain ⟨a1, cap, g, p1, p2, p3, p4, p5, p6, p7⟩ := hh
  refine ⟨a1, cap, g, ?_, p2, p3, p4, p5, p6, ?_⟩
  · rcases p1 with ⟨q1, c2, g2, q2⟩ | ⟨q1, q2⟩
    · exact Or.inl ⟨q1, c2, g2, by rw [hset_n hen] at q2; exact q2⟩
    · refine Or.inr ⟨?_, q2⟩
      by_cases w : a1 = l
      · rw [w, hset_s] at q1; cases q1
      · rw [hset_n w] at q1; exact q1
  · have hal : l ≠ a1 := by
      rcases p1 with ⟨q1, -⟩ | ⟨q1, q2⟩
      · rw [q1]; exact fun w => hen w.symm
      · exact fun w => by rw [← w, hset_s] at q1; cases q1
    rw [p7, hset_cm hal, hset_hset]

