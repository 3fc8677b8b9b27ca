/-! the mix: no more than 32768 -/
theorem fl_top {d c g H : Nat} {q r : Int} (h1 : 1 ≤ g) (h2 : g ≤ 1000000) (h3 : H ≤ 20000 * g) (hd : FP.Core.fits FP.Core.b32 (.fin false d r)) (hv : d * 2 ^ (r + 149).toNat = g * 2 ^ 149) :
    r ≤ 0 ∧ FP.Core.fits FP.Core.b32 (.fin false d (r + 15)) ∧ H * 2 ^ 149 ≤ d * 2 ^ (r + 15 + 149).toNat := by
  have eq : FP.Core.b32.qmin = -149 := FP.Core.qmin_b32
  have ex : FP.Core.b32.qmax = 104 := by decide
  have et : FP.Core.b32.tails = 2 ^ 23 := FP.Core.tails_b32
  have ep : FP.Core.b32.p = 24 := rfl
  obtain ⟨a1, a2, a3, a4⟩ := hd
  rw [eq] at a2 a4
  rw [ex] at a3
  rw [et] at a4
  rw [ep] at a1
  have r0 : r ≠ -149 := by
    intro e
    subst e
    have : (-149 + 149 : Int).toNat = 0 := by decide
    rw [this] at hv
    have : 1 * 2 ^ 149 ≤ g * 2 ^ 149 := Nat.mul_le_mul_right _ h1
    have : (2 : Nat) ^ 24 ≤ 1 * 2 ^ 149 := by decide
    omega
  have dt : 2 ^ 23 ≤ d := a4.resolve_left r0
  have rr : r ≤ 0 := by
    refine Int.not_lt.mp (fun hr => ?_)
    have p1 : 2 ^ 150 ≤ 2 ^ (r + 149).toNat := Nat.pow_le_pow_right (by decide) (by omega)
    have p2 := Nat.mul_le_mul dt p1
    rw [hv] at p2
    have p3 : g * 2 ^ 149 ≤ 1000000 * 2 ^ 149 := Nat.mul_le_mul_right _ h2
    have p4 : (1000000 : Nat) * 2 ^ 149 < 2 ^ 23 * 2 ^ 150 := by decide
    omega
  refine ⟨rr, ⟨?_, ?_, ?_, ?_⟩, ?_⟩
  · rw [ep]; exact a1
  · rw [eq]; omega
  · rw [ex]; omega
  · rw [et]; exact Or.inr dt
  · rw [show (r + 15 + 149).toNat = (r + 149).toNat + 15 by omega, Nat.pow_add, ← Nat.mul_assoc, hv]
    have p3 : H * 2 ^ 149 ≤ 20000 * g * 2 ^ 149 := Nat.mul_le_mul_right _ h3
    rw [Nat.mul_assoc] at p3
    refine Nat.le_trans p3 (Nat.le_trans (Nat.mul_le_mul_right _ (show 20000 ≤ 2 ^ 15 by decide)) ?_)
    rw [Nat.mul_comm]
    exact Nat.le_refl _
theorem fl_quo {d c g H : Nat} {q r : Int} (h1 : 1 ≤ g) (h2 : g ≤ 1000000) (h3 : H ≤ 20000 * g) (hd : FP.Core.fits FP.Core.b32 (.fin false d r)) (hv : d * 2 ^ (r + 149).toNat = g * 2 ^ 149) (hc : FP.Core.fits FP.Core.b32 (.fin false c q)) (hq : FP.Core.roundRatio FP.Core.b32 false H 1 0 = .fin false c q) :
    FP.Core.zmag FP.Core.b32 (FP.Core.roundRatio FP.Core.b32 false c d (q - r)) ≤ 32768 * 2 ^ 149 := by
  obtain ⟨rr, f1, f2⟩ := fl_top (c := c) (q := q) h1 h2 h3 hd hv
  have eq : FP.Core.b32.qmin = -149 := FP.Core.qmin_b32
  have d0 : 0 < d := by
    rcases Nat.eq_zero_or_pos d with e | e
    · rw [e, Nat.zero_mul] at hv
      have : 1 * 2 ^ 149 ≤ g * 2 ^ 149 := Nat.mul_le_mul_right _ h1
      have : 0 < 1 * 2 ^ 149 := by decide
      omega
    · exact e
  have z1 := FP.Core.zmag_roundRatio_le FP.Core.good_b32 (s := false) (A := H) (B := 1) (e := 0) (e0 := FP.Core.b32.qmin) (V := .fin false d (r + 15)) (by decide) f1 (fun e => by cases e) (Int.le_refl _) (by rw [eq]; decide) (by
    rw [eq]
    show H * 2 ^ (0 - (-149) : Int).toNat ≤ FP.Core.inUnits d (r + 15) FP.Core.b32.qmin * 2 ^ ((-149) - (-149) : Int).toNat * 1
    rw [eq]
    show H * 2 ^ (0 - (-149) : Int).toNat ≤ d * 2 ^ (r + 15 - (-149)).toNat * 2 ^ ((-149) - (-149) : Int).toNat * 1
    rw [show (0 - (-149) : Int).toNat = 149 by decide, show ((-149) - (-149) : Int).toNat = 0 by decide, Nat.pow_zero, Nat.mul_one, Nat.mul_one, show r + 15 - (-149) = r + 15 + 149 by omega]
    exact f2)
  rw [hq] at z1
  have z1 : c * 2 ^ (q - FP.Core.b32.qmin).toNat ≤ d * 2 ^ (r + 15 - FP.Core.b32.qmin).toNat := z1
  rw [eq, show q - (-149) = q + 149 by omega, show r + 15 - (-149) = r + 15 + 149 by omega] at z1
  have c2 : FP.Core.b32.qmin ≤ q := hc.2.1
  rw [eq] at c2
  have r1 : -149 ≤ r := by have := hd.2.1; rw [eq] at this; exact this
  have vt : FP.Core.fits FP.Core.b32 (.fin false (2 ^ 23) (-8)) := by unfold FP.Core.fits; decide
  have z2 := FP.Core.zmag_roundRatio_le FP.Core.good_b32 (s := false) (A := c) (B := d) (e := q - r) (e0 := FP.Core.b32.qmin) (V := .fin false (2 ^ 23) (-8)) d0 vt (fun e => by cases e) (Int.le_refl _) (by rw [eq]; omega) (by
    show c * 2 ^ (q - r - FP.Core.b32.qmin).toNat ≤ 2 ^ 23 * 2 ^ (-8 - FP.Core.b32.qmin : Int).toNat * 2 ^ (FP.Core.b32.qmin - FP.Core.b32.qmin).toNat * d
    rw [eq, show ((-149) - (-149) : Int).toNat = 0 by decide, show (-8 - (-149) : Int).toNat = 141 by decide, Nat.pow_zero, Nat.mul_one, show (q - r - (-149)).toNat = (q + 149).toNat + (-r).toNat by omega, Nat.pow_add, ← Nat.mul_assoc]
    refine Nat.le_trans (Nat.mul_le_mul_right _ z1) ?_
    rw [Nat.mul_assoc, ← Nat.pow_add, show (r + 15 + 149).toNat + (-r).toNat = 164 by omega, Nat.mul_comm d]
    exact Nat.le_refl _)
  refine Nat.le_trans z2 ?_
  show 2 ^ 23 * 2 ^ (-8 - FP.Core.b32.qmin : Int).toNat ≤ _
  rw [eq]
  decide
theorem mix_b {σ : ZT} {τ : JT} {k : Nat} {H : Int} (h1 : τ 13 k = jv H) (h2 : 0 ≤ H) (h3 : H ≤ 20000 * σ 6 k) (h4 : 0 ≤ σ 6 k) (h5 : σ 6 k ≤ 1000000) : ∃ m : Int, mixI σ τ k = iv m ∧ 0 ≤ m ∧ m ≤ 32768 ∧ (σ 6 k = 0 → m = 0) := by
  by_cases z : σ 6 k = 0
  · exact ⟨0, by unfold mixI; rw [if_pos z], by omega, by omega, fun _ => rfl⟩
  · have eq : FP.Core.b32.qmin = -149 := FP.Core.qmin_b32
    obtain ⟨g, hg⟩ := Int.eq_ofNat_of_zero_le h4
    obtain ⟨N, hN⟩ := Int.eq_ofNat_of_zero_le h2
    have tg : (iv (σ 6 k)).toInt = (g : Int) := by rw [iv_t (by omega) (by omega), hg]
    have tH : (jv H).toInt = (N : Int) := by rw [jv_t (by omega) (by omega), hN]
    have w2 : FP.Core.FInt (g : Int) (FP.Core.i2f (iv (σ 6 k))) := by
      have := FP.Core.i2f_int (a := iv (σ 6 k)) (by rw [tg]; omega)
      rw [tg] at this
      exact this
    have f2 := FP.Core.val32_fits (FP.Core.i2f (iv (σ 6 k)))
    obtain ⟨t, d, r, e2⟩ := FP.Core.i2f_fin (iv (σ 6 k))
    have w2 : FP.Core.Whole (g : Int) (FP.Core.val32 (FP.Core.i2f (iv (σ 6 k)))) := w2
    rw [e2] at w2 f2
    have gz : (g : Int) ≠ 0 := by omega
    have ht := FP.Core.whole_sign w2 gz
    rw [show decide ((g : Int) < 0) = false from decide_eq_false (by omega)] at ht
    subst ht
    have zv := FP.Core.whole_zval FP.Core.good_b32 f2 w2
    have zv : ((d * 2 ^ (r - FP.Core.b32.qmin).toNat : Nat) : Int) = (g : Int) * ((2 ^ (-FP.Core.b32.qmin).toNat : Nat) : Int) := zv
    rw [eq, show (-(-149) : Int).toNat = 149 by decide, show r - (-149) = r + 149 by omega, ← Int.natCast_mul] at zv
    have hv : d * 2 ^ (r + 149).toNat = g * 2 ^ 149 := Int.ofNat.inj zv
    obtain ⟨s, c, q, e1⟩ := FP.Core.l2f_fin (jv H)
    have v1 : FP.Core.val32 (FP.Core.l2f (jv H)) = FP.Core.roundRatio FP.Core.b32 false N 1 0 := by
      rw [FP.Core.val32_l2f, tH]
      show FP.Core.roundRatio FP.Core.b32 (decide ((N : Int) < 0)) ((N : Int)).natAbs 1 0 = _
      rw [show decide ((N : Int) < 0) = false from decide_eq_false (by omega), Int.natAbs_natCast]
    have hs : s = false := by
      have := FP.Core.sgn_roundRatio FP.Core.b32 false N 1 0
      rw [← v1, e1] at this
      exact this
    subst hs
    have f1 := FP.Core.val32_fits (FP.Core.l2f (jv H))
    rw [e1] at f1
    have zq := fl_quo (c := c) (q := q) (g := g) (H := N) (by omega) (by omega) (by omega) f2 hv f1 (by rw [← v1, e1])
    have d0 : d ≠ 0 := fun e => gz ((FP.Core.whole_zero w2).mp e)
    have vq : FP.Core.val32 (FP.Core.fdiv (FP.Core.l2f (jv H)) (FP.Core.i2f (iv (σ 6 k)))) = FP.Core.roundRatio FP.Core.b32 false c d (q - r) := by
      rw [FP.Core.val32_fdiv, e1, e2]
      show (if d = 0 then _ else FP.Core.roundRatio FP.Core.b32 (false != false) c d (q - r)) = _
      rw [if_neg d0]
      rfl
    have fq := FP.Core.val32_fits (FP.Core.fdiv (FP.Core.l2f (jv H)) (FP.Core.i2f (iv (σ 6 k))))
    rw [vq] at fq
    have ti := FP.Core.toInt_zmag FP.Core.good_b32 fq (FP.Core.roundRatio_ne_nan _ _ _ _ _) (lo := -2 ^ 31) (hi := 2 ^ 31 - 1) (by decide) (by decide) (by decide)
    rw [FP.Core.sgn_roundRatio, eq, show (-(-149) : Int).toNat = 149 by decide] at ti
    have mb : FP.Core.zmag FP.Core.b32 (FP.Core.roundRatio FP.Core.b32 false c d (q - r)) / 2 ^ 149 ≤ 32768 := Nat.div_le_of_le_mul (by rw [Nat.mul_comm]; exact zq)
    refine ⟨(FP.Core.zmag FP.Core.b32 (FP.Core.roundRatio FP.Core.b32 false c d (q - r)) / 2 ^ 149 : Nat), ?_, by omega, by omega, fun e => absurd e z⟩
    unfold mixI
    rw [if_neg z, h1]
    show FP.Core.toI (FP.Core.val32 (FP.Core.fdiv (FP.Core.l2f (jv H)) (FP.Core.i2f (iv (σ 6 k))))) = _
    rw [vq]
    show Int32.ofInt (FP.Core.toInt (-2 ^ 31) (2 ^ 31 - 1) _) = _
    rw [ti]
    show Int32.ofInt (max (-2 ^ 31) (min (2 ^ 31 - 1) ((FP.Core.zmag FP.Core.b32 (FP.Core.roundRatio FP.Core.b32 false c d (q - r)) / 2 ^ 149 : Nat) : Int))) = _
    congr 1
    omega
