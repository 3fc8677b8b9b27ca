/-! areHours -/
set_option maxRecDepth 20000 in
theorem ah_loop {Ω : OmT} {κ : KxT} {hR : AH} {x dA nA : Nat} {T Hn : Int} (C : Cx Ω κ RL cL_areHours) (hn : kn κ = 17) (hr : kR κ = (rkc 16 4100 25500)) (hT9 : T ≤ 8900) (hH : 0 ≤ Hn ∧ Hn ≤ 24) (kk : Y Ω κ (LwSt Ω x dA nA (T + Hn)) hR 4080 25440 465 [(4, .int (iv 1))] []) :
    ∀ (m i c sl : Nat), (i : Int) + m = Hn → c + 170 * m ≤ 4080 → sl + 1060 * m ≤ 25440 → Y Ω κ (LwSt Ω x dA nA (T + i)) hR c sl 6 [(5, .int (iv (i : Nat))), (4, .int (iv 1)), (0, .ref x), (1, .ref dA), (2, .ref nA), (3, .int (iv Hn))] [] := by
  intro m
  induction m with
  | zero =>
    intro i c sl h1 h2 h3
    have e : (i : Int) = Hn := by omega
    rw [e]
    refine y_iload (pc := 6) C dL_areHours_6 0 rfl ?_
    refine y_iload_n (pc := 8) C dL_areHours_8 5 rfl ?_
    refine y_icmp_ge (pc := 9) (tgt := 465) C dL_areHours_9 (by decide) (by omega) (by omega) (by omega) (by omega) (fun c9 => ?_) (fun c => absurd (by omega) c)
    exact Y.sub [1] rfl (Y.wide (by omega) (by omega) kk)
  | succ m ih =>
    intro i c sl h1 h2 h3
    refine y_iload (pc := 6) C dL_areHours_6 0 rfl ?_
    refine y_iload_n (pc := 8) C dL_areHours_8 5 rfl ?_
    refine y_icmp_ge (pc := 9) (tgt := 465) C dL_areHours_9 (by decide) (by omega) (by omega) (by omega) (by omega) (fun c => absurd c (by omega)) (fun c9 => ?_)
    refine y_iload (pc := 12) C dL_areHours_12 1 rfl ?_
    refine y_if_eq (pc := 14) (tgt := 465) C dL_areHours_14 (by decide) (by omega) (by omega) (fun c => absurd c (by decide)) (fun c14 => ?_)
    refine Y.sub [0, 1, 2, 3, 4, 5] rfl ?_
    refine ah_hour C hn hr (by omega) (by omega) (by omega) ?_
    refine y_iinc (pc := 459) (L' := [(5, _), (4, _), (0, _), (1, _), (2, _), (3, _)]) C dL_areHours_459 0 rfl (by rw [hn]; decide) rfl ?_
    refine y_goto (pc := 462) (tgt := 6) C dL_areHours_462 (by decide) ?_
    refine Y.sub [0, 1, 2, 3, 4, 5] rfl ?_
    rw [show T + (i : Int) + 1 = T + ((i + 1 : Nat) : Int) by omega]
    exact ih (i + 1) _ _ (by omega) (by omega) (by omega)

set_option maxRecDepth 20000 in
theorem ct_areHours {Ω : OmT} {hR : AH} {x dA nA : Nat} {T Hn : Int} (hT9 : T ≤ 8900) (hH : 0 ≤ Hn ∧ Hn ≤ 24) : Ct Ω yL_areHours cL_areHours 17 (some FieldType.boolean) (rkc 16 4100 25500) [.ref x, .ref dA, .ref nA, .int (iv Hn)] (LwSt Ω x dA nA T) hR (RV (.int (iv 1)) (LwSt Ω x dA nA (T + Hn))) NX := by
  refine Ct.of (own := RL) (L := [(0, _), (1, _), (2, _), (3, _)]) (by decide +kernel) rfl (Nat.le_of_ble_eq_true rfl) rfl ?_
  intro κ C hn E hi
  refine y_iconst (pc := 0) C dL_areHours_0 ?_
  refine y_istore (pc := 1) (L' := [(4, _), (0, _), (1, _), (2, _), (3, _)]) C dL_areHours_1 (by rw [hn]; decide) rfl ?_
  refine y_iconst (pc := 3) C dL_areHours_3 ?_
  refine y_istore (pc := 4) (L' := [(5, _), (4, _), (0, _), (1, _), (2, _), (3, _)]) C dL_areHours_4 (by rw [hn]; decide) rfl ?_
  refine Y.sub [0, 1, 2, 3, 4, 5] rfl ?_
  refine Y.imp (Φ' := LwSt Ω x dA nA (T + ((0 : Nat) : Int))) (fun h hh => by rw [show T + ((0 : Nat) : Int) = T by omega]; exact hh) ?_
  refine ah_loop C hn E.2.1 hT9 hH ?_ Hn.toNat 0 0 0 (by omega) (by omega) (by omega)
  refine y_iload (pc := 465) C dL_areHours_465 0 rfl ?_
  exact y_zret (pc := 467) (b := true) C E dL_areHours_467 (by decide) (by decide) (fun h hh => ⟨rfl, hh⟩)
