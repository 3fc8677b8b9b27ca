/-! NUMBERS: an Int32 and an Int64 by their numbers -/
def iv (z : Int) : Int32 := Int32.ofInt z
def jv (z : Int) : Int64 := Int64.ofInt z
theorem iv_i (x : Int32) : iv x.toInt = x := Int32.ofInt_toInt x
theorem iv_t {z : Int} (h1 : -2147483648 ≤ z) (h2 : z < 2147483648) : (iv z).toInt = z := Int32.toInt_ofInt_of_le h1 h2
theorem jv_t {z : Int} (h1 : -9223372036854775808 ≤ z) (h2 : z < 9223372036854775808) : (jv z).toInt = z := Int64.toInt_ofInt_of_le h1 h2
theorem iv_r (x : Int32) : -2147483648 ≤ x.toInt ∧ x.toInt < 2147483648 := ⟨by have := Int32.le_toInt x; omega, by have := Int32.toInt_lt x; omega⟩
theorem iv_add (x y : Int) : iv x + iv y = iv (x + y) := (Int32.ofInt_add x y).symm
theorem iv_sub (x y : Int) : iv x - iv y = iv (x - y) := (Int32.ofInt_sub x y).symm
theorem iv_mul (x y : Int) : iv x * iv y = iv (x * y) := (Int32.ofInt_mul x y).symm
theorem iv_neg (x : Int) : -iv x = iv (-x) := (Int32.ofInt_neg x).symm
theorem jv_add (x y : Int) : jv x + jv y = jv (x + y) := (Int64.ofInt_add x y).symm
theorem jv_sub (x y : Int) : jv x - jv y = jv (x - y) := (Int64.ofInt_sub x y).symm
theorem jv_mul (x y : Int) : jv x * jv y = jv (x * y) := (Int64.ofInt_mul x y).symm
theorem iv_lo : Int32.minValue.toInt = -2147483648 := by decide
theorem iv_hi : Int32.maxValue.toInt = 2147483647 := by decide
theorem jv_lo : Int64.minValue.toInt = -9223372036854775808 := by decide
theorem jv_hi : Int64.maxValue.toInt = 9223372036854775807 := by decide
theorem iv_div {x y : Int} (a : -2147483648 ≤ x) (b : x < 2147483648) (c : -2147483648 ≤ y) (d : y < 2147483648) : iv x / iv y = iv (x.tdiv y) := (Int32.ofInt_tdiv (by rw [iv_lo]; exact a) (by rw [iv_hi]; omega) (by rw [iv_lo]; exact c) (by rw [iv_hi]; omega)).symm
theorem iv_mod {x y : Int} (a : -2147483648 ≤ x) (b : x < 2147483648) (c : -2147483648 ≤ y) (d : y < 2147483648) : iv x % iv y = iv (x.tmod y) := (Int32.ofInt_tmod (by rw [iv_lo]; exact a) (by rw [iv_hi]; omega) (by rw [iv_lo]; exact c) (by rw [iv_hi]; omega)).symm
theorem jv_div {x y : Int} (a : -9223372036854775808 ≤ x) (b : x < 9223372036854775808) (c : -9223372036854775808 ≤ y) (d : y < 9223372036854775808) : jv x / jv y = jv (x.tdiv y) := (Int64.ofInt_tdiv (by rw [jv_lo]; exact a) (by rw [jv_hi]; omega) (by rw [jv_lo]; exact c) (by rw [jv_hi]; omega)).symm
theorem iv_le {x y : Int} (a : -2147483648 ≤ x) (b : x < 2147483648) (c : -2147483648 ≤ y) (d : y < 2147483648) : iv x ≤ iv y ↔ x ≤ y := Int32.ofInt_le_iff_le (by rw [iv_lo]; exact a) (by rw [iv_hi]; omega) (by rw [iv_lo]; exact c) (by rw [iv_hi]; omega)
theorem iv_lt {x y : Int} (a : -2147483648 ≤ x) (b : x < 2147483648) (c : -2147483648 ≤ y) (d : y < 2147483648) : iv x < iv y ↔ x < y := Int32.ofInt_lt_iff_lt (by rw [iv_lo]; exact a) (by rw [iv_hi]; omega) (by rw [iv_lo]; exact c) (by rw [iv_hi]; omega)
theorem jv_lt {x y : Int} (a : -9223372036854775808 ≤ x) (b : x < 9223372036854775808) (c : -9223372036854775808 ≤ y) (d : y < 9223372036854775808) : jv x < jv y ↔ x < y := Int64.ofInt_lt_iff_lt (by rw [jv_lo]; exact a) (by rw [jv_hi]; omega) (by rw [jv_lo]; exact c) (by rw [jv_hi]; omega)
theorem iv_eq {x y : Int} (a : -2147483648 ≤ x) (b : x < 2147483648) (c : -2147483648 ≤ y) (d : y < 2147483648) : iv x = iv y ↔ x = y := ⟨fun h => by rw [← iv_t a b, ← iv_t c d, h], fun h => by rw [h]⟩
theorem jv_eq {x y : Int} (a : -9223372036854775808 ≤ x) (b : x < 9223372036854775808) (c : -9223372036854775808 ≤ y) (d : y < 9223372036854775808) : jv x = jv y ↔ x = y := ⟨fun h => by rw [← jv_t a b, ← jv_t c d, h], fun h => by rw [h]⟩
theorem iv_l {x : Int} (a : -2147483648 ≤ x) (b : x < 2147483648) : (iv x).toInt64 = jv x := Int32.toInt64_ofInt (by rw [iv_lo]; exact a) (by rw [iv_hi]; omega)
theorem jv_i (x : Int) : (jv x).toInt32 = iv x := Int64.toInt32_ofInt
theorem iv_0 : iv 0 = 0 := by decide
theorem jv_0 : jv 0 = 0 := by decide
theorem iv_nI (n : Nat) : iv n = nI n := Int32.ofInt_eq_ofNat
theorem iv_cl {x : Int} (a : 0 ≤ x) (b : x < 2147483648) : (iv x).toNatClampNeg = x.toNat := by
  obtain ⟨n, rfl⟩ := Int.eq_ofNat_of_zero_le a
  rw [iv_nI, nI_clamp (by omega)]; rfl
theorem iv_in {x : Int} {n : Nat} (a : 0 ≤ x) (b : x.toNat < n) (c : x < 2147483648) : vp_in (iv x) n := by
  rintro (h | h)
  · rw [← iv_0, iv_lt (by omega) c (by decide) (by decide)] at h; omega
  · rw [iv_cl a c] at h; omega
theorem iv_cmp {x y : Int} (a : -9223372036854775808 ≤ x) (b : x < 9223372036854775808) (c : -9223372036854775808 ≤ y) (d : y < 9223372036854775808) : lg_cmp (jv x) (jv y) = iv (if y < x then 1 else if x = y then 0 else -1) := by
  unfold lg_cmp
  have e1 : (jv x > jv y) ↔ y < x := jv_lt c d a b
  have e2 : (jv x = jv y) ↔ x = y := jv_eq a b c d
  by_cases h1 : y < x
  · rw [if_pos h1, if_pos (e1.mpr h1)]; decide
  · rw [if_neg h1, if_neg (fun q => h1 (e1.mp q))]
    by_cases h2 : x = y
    · rw [if_pos h2, if_pos (e2.mpr h2)]; decide
    · rw [if_neg h2, if_neg (fun q => h2 (e2.mp q))]; decide
/-- a truth as a number -/
def bz (b : Bool) : Int := if b = true then 1 else 0
theorem bz_01 (b : Bool) : 0 ≤ bz b ∧ bz b ≤ 1 := by cases b <;> decide
theorem bz_t {b : Bool} : bz b = 0 ↔ b = false := by cases b <;> decide
theorem bz_tt : bz true = 1 := rfl
theorem bz_ff : bz false = 0 := rfl
section YROWS
variable {Ω : OmT} {κ : KxT} {Φ : AH → Prop} {hR : AH} {cs sl pc : Nat} {L L' : List (Nat × Value)} {st : List Value} {own : String} {cc : ByteArray}
theorem y_iconst (C : Cx Ω κ own cc) {z : Int} (dg : decode cc pc = .ok (.iconst z, 1))
    (k : Y Ω κ Φ hR cs sl (pc + 1) L (.int (iv z) :: st)) : Y Ω κ Φ hR cs sl pc L (st) :=
  fun h H locs ls a b c d => lv_iconst C.1 C.2.1 dg rfl (k h H locs ls a b c d)
theorem y_bipush (C : Cx Ω κ own cc) {n z : Int} (dg : decode cc pc = .ok (.bipush n, 2)) (hv : (Int8.ofInt n).toInt32 = iv z)
    (k : Y Ω κ Φ hR cs sl (pc + 2) L (.int (iv z) :: st)) : Y Ω κ Φ hR cs sl pc L (st) :=
  fun h H locs ls a b c d => lv_bipush C.1 C.2.1 dg hv (k h H locs ls a b c d)
theorem y_sipush (C : Cx Ω κ own cc) {n z : Int} (dg : decode cc pc = .ok (.sipush n, 3)) (hv : (Int16.ofInt n).toInt32 = iv z)
    (k : Y Ω κ Φ hR cs sl (pc + 3) L (.int (iv z) :: st)) : Y Ω κ Φ hR cs sl pc L (st) :=
  fun h H locs ls a b c d => lv_sipush C.1 C.2.1 dg hv (k h H locs ls a b c d)
theorem y_lconst (C : Cx Ω κ own cc) {n : Fin 2} {z : Int} (dg : decode cc pc = .ok (.lconst n, 1)) (hv : Int64.ofNat (n : Nat) = jv z)
    (k : Y Ω κ Φ hR cs sl (pc + 1) L (.long (jv z) :: st)) : Y Ω κ Φ hR cs sl pc L (st) :=
  fun h H locs ls a b c d => lv_lconst C.1 C.2.1 dg hv (k h H locs ls a b c d)
theorem y_ldc (C : Cx Ω κ own cc) {idx : Nat} {v : Int32} {z : Int} (w : Cond.constant own idx v ∈ AW) (hv : v = iv z) (dg : decode cc pc = .ok (.ldc idx, 2))
    (k : Y Ω κ Φ hR cs sl (pc + 2) L (.int (iv z) :: st)) : Y Ω κ Φ hR cs sl pc L (st) :=
  fun h H locs ls a b c d => lv_ldc C.1 C.2.1 C.2.2.2.1 (C.2.2.2.2.1 _ w) dg (by subst hv; exact k h H locs ls a b c d)
theorem y_ldc2 (C : Cx Ω κ own cc) {idx : Nat} {v : Int64} {z : Int} (w : Cond.constantLong own idx v ∈ AW) (hv : v = jv z) (dg : decode cc pc = .ok (.ldc2_w idx, 3))
    (k : Y Ω κ Φ hR cs sl (pc + 3) L (.long (jv z) :: st)) : Y Ω κ Φ hR cs sl pc L (st) :=
  fun h H locs ls a b c d => lv_ldc2 C.1 C.2.1 C.2.2.2.1 (C.2.2.2.2.1 _ w) dg (by subst hv; exact k h H locs ls a b c d)
theorem y_iload_n (C : Cx Ω κ own cc) {i : Fin 4} {x : Int32} (dg : decode cc pc = .ok (.iload_n i, 1)) (j : Nat) (hl : L[j]? = some ((i : Nat), .int x))
    (k : Y Ω κ Φ hR cs sl (pc + 1) L (.int x :: st)) : Y Ω κ Φ hR cs sl pc L (st) :=
  fun h H locs ls a b c d => lv_iload_n C.1 C.2.1 dg rfl (lv_at d j hl) (k h H locs ls a b c d)
theorem y_iload (C : Cx Ω κ own cc) {i : Nat} {x : Int32} (dg : decode cc pc = .ok (.iload i, 2)) (j : Nat) (hl : L[j]? = some (i, .int x))
    (k : Y Ω κ Φ hR cs sl (pc + 2) L (.int x :: st)) : Y Ω κ Φ hR cs sl pc L (st) :=
  fun h H locs ls a b c d => lv_iload C.1 C.2.1 dg (lv_at d j hl) (k h H locs ls a b c d)
theorem y_istore_n (C : Cx Ω κ own cc) {i : Fin 4} {x : Int32} (dg : decode cc pc = .ok (.istore_n i, 1)) (hn : (i : Nat) < kn κ) (hl : ((i : Nat), Value.int x) :: L.filter (fun q => !(q.1 == (i : Nat)) && !(q.1 + 1 == (i : Nat) && q.2.category == 2)) = L')
    (k : Y Ω κ Φ hR cs sl (pc + 1) L' st) : Y Ω κ Φ hR cs sl pc L (.int x :: st) :=
  fun h H locs ls a b c d => lv_istore_n C.1 C.2.1 dg rfl d hn hl (fun ls2 d2 => k h H locs ls2 a b c d2)
theorem y_istore (C : Cx Ω κ own cc) {i : Nat} {x : Int32} (dg : decode cc pc = .ok (.istore i, 2)) (hn : i < kn κ) (hl : ((i : Nat), Value.int x) :: L.filter (fun q => !(q.1 == i) && !(q.1 + 1 == i && q.2.category == 2)) = L')
    (k : Y Ω κ Φ hR cs sl (pc + 2) L' st) : Y Ω κ Φ hR cs sl pc L (.int x :: st) :=
  fun h H locs ls a b c d => lv_istore C.1 C.2.1 dg d hn hl (fun ls2 d2 => k h H locs ls2 a b c d2)
theorem y_lload_n (C : Cx Ω κ own cc) {i : Fin 4} {x : Int64} (dg : decode cc pc = .ok (.lload_n i, 1)) (j : Nat) (hl : L[j]? = some ((i : Nat), .long x))
    (k : Y Ω κ Φ hR cs sl (pc + 1) L (.long x :: st)) : Y Ω κ Φ hR cs sl pc L (st) :=
  fun h H locs ls a b c d => lv_lload_n C.1 C.2.1 dg rfl (lv_at d j hl) (k h H locs ls a b c d)
theorem y_lload (C : Cx Ω κ own cc) {i : Nat} {x : Int64} (dg : decode cc pc = .ok (.lload i, 2)) (j : Nat) (hl : L[j]? = some (i, .long x))
    (k : Y Ω κ Φ hR cs sl (pc + 2) L (.long x :: st)) : Y Ω κ Φ hR cs sl pc L (st) :=
  fun h H locs ls a b c d => lv_lload C.1 C.2.1 dg (lv_at d j hl) (k h H locs ls a b c d)
theorem y_lstore_n (C : Cx Ω κ own cc) {i : Fin 4} {x : Int64} (dg : decode cc pc = .ok (.lstore_n i, 1)) (hn : (i : Nat) + 1 < kn κ) (hl : ((i : Nat), Value.long x) :: L.filter (fun q => !(q.1 == (i : Nat)) && (!(q.1 == (i : Nat) + 1) && !(q.1 + 1 == (i : Nat) && q.2.category == 2))) = L')
    (k : Y Ω κ Φ hR cs sl (pc + 1) L' st) : Y Ω κ Φ hR cs sl pc L (.long x :: st) :=
  fun h H locs ls a b c d => lv_lstore_n C.1 C.2.1 dg rfl d hn hl (fun ls2 d2 => k h H locs ls2 a b c d2)
theorem y_lstore (C : Cx Ω κ own cc) {i : Nat} {x : Int64} (dg : decode cc pc = .ok (.lstore i, 2)) (hn : i + 1 < kn κ) (hl : ((i : Nat), Value.long x) :: L.filter (fun q => !(q.1 == i) && (!(q.1 == i + 1) && !(q.1 + 1 == i && q.2.category == 2))) = L')
    (k : Y Ω κ Φ hR cs sl (pc + 2) L' st) : Y Ω κ Φ hR cs sl pc L (.long x :: st) :=
  fun h H locs ls a b c d => lv_lstore C.1 C.2.1 dg d hn hl (fun ls2 d2 => k h H locs ls2 a b c d2)
theorem y_aload_n (C : Cx Ω κ own cc) {i : Fin 4} {x : Nat} (dg : decode cc pc = .ok (.aload_n i, 1)) (j : Nat) (hl : L[j]? = some ((i : Nat), .ref x))
    (k : Y Ω κ Φ hR cs sl (pc + 1) L (.ref x :: st)) : Y Ω κ Φ hR cs sl pc L (st) :=
  fun h H locs ls a b c d => lv_aload_n C.1 C.2.1 dg rfl (lv_at d j hl) (k h H locs ls a b c d)
theorem y_aload (C : Cx Ω κ own cc) {i : Nat} {x : Nat} (dg : decode cc pc = .ok (.aload i, 2)) (j : Nat) (hl : L[j]? = some (i, .ref x))
    (k : Y Ω κ Φ hR cs sl (pc + 2) L (.ref x :: st)) : Y Ω κ Φ hR cs sl pc L (st) :=
  fun h H locs ls a b c d => lv_aload C.1 C.2.1 dg (lv_at d j hl) (k h H locs ls a b c d)
theorem y_astore_n (C : Cx Ω κ own cc) {i : Fin 4} {x : Nat} (dg : decode cc pc = .ok (.astore_n i, 1)) (hn : (i : Nat) < kn κ) (hl : ((i : Nat), Value.ref x) :: L.filter (fun q => !(q.1 == (i : Nat)) && !(q.1 + 1 == (i : Nat) && q.2.category == 2)) = L')
    (k : Y Ω κ Φ hR cs sl (pc + 1) L' st) : Y Ω κ Φ hR cs sl pc L (.ref x :: st) :=
  fun h H locs ls a b c d => lv_astore_n C.1 C.2.1 dg rfl d hn hl (fun ls2 d2 => k h H locs ls2 a b c d2)
theorem y_astore (C : Cx Ω κ own cc) {i : Nat} {x : Nat} (dg : decode cc pc = .ok (.astore i, 2)) (hn : i < kn κ) (hl : ((i : Nat), Value.ref x) :: L.filter (fun q => !(q.1 == i) && !(q.1 + 1 == i && q.2.category == 2)) = L')
    (k : Y Ω κ Φ hR cs sl (pc + 2) L' st) : Y Ω κ Φ hR cs sl pc L (.ref x :: st) :=
  fun h H locs ls a b c d => lv_astore C.1 C.2.1 dg d hn hl (fun ls2 d2 => k h H locs ls2 a b c d2)
theorem y_iinc (C : Cx Ω κ own cc) {i : Nat} {n x : Int} (dg : decode cc pc = .ok (.iinc i n, 3)) (j : Nat) (hj : L[j]? = some (i, .int (iv x))) (hn : i < kn κ) (hl : (i, Value.int (iv (x + n))) :: L.filter (fun q => !(q.1 == i) && !(q.1 + 1 == i && q.2.category == 2)) = L')
    (k : Y Ω κ Φ hR cs sl (pc + 3) L' st) : Y Ω κ Φ hR cs sl pc L st :=
  fun h H locs ls a b c d => lv_iinc C.1 C.2.1 dg d hj (iv_add x n) hn hl (fun ls2 d2 => k h H locs ls2 a b c d2)
theorem y_iadd (C : Cx Ω κ own cc) {x y : Int} (dg : decode cc pc = .ok (.iadd, 1))
    (k : Y Ω κ Φ hR cs sl (pc + 1) L (.int (iv (x + y)) :: st)) : Y Ω κ Φ hR cs sl pc L (.int (iv y) :: .int (iv x) :: st) :=
  fun h H locs ls a b c d => lv_iadd C.1 C.2.1 dg (by rw [iv_add]; exact k h H locs ls a b c d)
theorem y_isub (C : Cx Ω κ own cc) {x y : Int} (dg : decode cc pc = .ok (.isub, 1))
    (k : Y Ω κ Φ hR cs sl (pc + 1) L (.int (iv (x - y)) :: st)) : Y Ω κ Φ hR cs sl pc L (.int (iv y) :: .int (iv x) :: st) :=
  fun h H locs ls a b c d => lv_isub C.1 C.2.1 dg (by rw [iv_sub]; exact k h H locs ls a b c d)
theorem y_imul (C : Cx Ω κ own cc) {x y : Int} (dg : decode cc pc = .ok (.imul, 1))
    (k : Y Ω κ Φ hR cs sl (pc + 1) L (.int (iv (x * y)) :: st)) : Y Ω κ Φ hR cs sl pc L (.int (iv y) :: .int (iv x) :: st) :=
  fun h H locs ls a b c d => lv_imul C.1 C.2.1 dg (by rw [iv_mul]; exact k h H locs ls a b c d)
theorem y_ineg (C : Cx Ω κ own cc) {x : Int} (dg : decode cc pc = .ok (.ineg, 1))
    (k : Y Ω κ Φ hR cs sl (pc + 1) L (.int (iv (-x)) :: st)) : Y Ω κ Φ hR cs sl pc L (.int (iv x) :: st) :=
  fun h H locs ls a b c d => lv_ineg C.1 C.2.1 dg (by rw [iv_neg]; exact k h H locs ls a b c d)
theorem y_idiv (C : Cx Ω κ own cc) {x y : Int} (dg : decode cc pc = .ok (.idiv, 1)) (h1 : -2147483648 ≤ x) (h2 : x < 2147483648) (h3 : -2147483648 ≤ y) (h4 : y < 2147483648) (h5 : y ≠ 0)
    (k : Y Ω κ Φ hR cs sl (pc + 1) L (.int (iv (x.tdiv y)) :: st)) : Y Ω κ Φ hR cs sl pc L (.int (iv y) :: .int (iv x) :: st) :=
  fun h H locs ls a b c d => lv_idiv C.1 C.2.1 dg (by rw [← iv_0, iv_eq h3 h4 (by decide) (by decide)]; exact h5) (by rw [iv_div h1 h2 h3 h4]; exact k h H locs ls a b c d)
theorem y_idivP (C : Cx Ω κ own cc) {x y : Int} (dg : decode cc pc = .ok (.idiv, 1)) (h1 : 0 ≤ x) (h2 : x < 2147483648) (h3 : 0 < y) (h4 : y < 2147483648)
    (k : Y Ω κ Φ hR cs sl (pc + 1) L (.int (iv (x / y)) :: st)) : Y Ω κ Φ hR cs sl pc L (.int (iv y) :: .int (iv x) :: st) :=
  fun h H locs ls a b c d => y_idiv C dg (by omega) h2 (by omega) h4 (by omega) (by rw [Int.tdiv_eq_ediv_of_nonneg h1]; exact k) h H locs ls a b c d
theorem y_irem (C : Cx Ω κ own cc) {x y : Int} (dg : decode cc pc = .ok (.irem, 1)) (h1 : 0 ≤ x) (h2 : x < 2147483648) (h3 : 0 < y) (h4 : y < 2147483648)
    (k : Y Ω κ Φ hR cs sl (pc + 1) L (.int (iv (x % y)) :: st)) : Y Ω κ Φ hR cs sl pc L (.int (iv y) :: .int (iv x) :: st) :=
  fun h H locs ls a b c d => lv_irem C.1 C.2.1 dg (by rw [← iv_0, iv_eq (by omega) h4 (by decide) (by decide)]; omega) (by rw [irem_eq_mod, iv_mod (by omega) h2 (by omega) h4, Int.tmod_eq_emod_of_nonneg h1]; exact k h H locs ls a b c d)
theorem y_i2l (C : Cx Ω κ own cc) {x : Int} (dg : decode cc pc = .ok (.i2l, 1)) (h1 : -2147483648 ≤ x) (h2 : x < 2147483648)
    (k : Y Ω κ Φ hR cs sl (pc + 1) L (.long (jv x) :: st)) : Y Ω κ Φ hR cs sl pc L (.int (iv x) :: st) :=
  fun h H locs ls a b c d => lv_i2l C.1 C.2.1 dg (iv_l h1 h2) (k h H locs ls a b c d)
theorem y_l2i (C : Cx Ω κ own cc) {x : Int} (dg : decode cc pc = .ok (.l2i, 1))
    (k : Y Ω κ Φ hR cs sl (pc + 1) L (.int (iv x) :: st)) : Y Ω κ Φ hR cs sl pc L (.long (jv x) :: st) :=
  fun h H locs ls a b c d => lv_l2i C.1 C.2.1 dg (jv_i x) (k h H locs ls a b c d)
theorem y_ladd (C : Cx Ω κ own cc) {x y : Int} (dg : decode cc pc = .ok (.ladd, 1))
    (k : Y Ω κ Φ hR cs sl (pc + 1) L (.long (jv (x + y)) :: st)) : Y Ω κ Φ hR cs sl pc L (.long (jv y) :: .long (jv x) :: st) :=
  fun h H locs ls a b c d => lv_ladd C.1 C.2.1 dg (by rw [jv_add]; exact k h H locs ls a b c d)
theorem y_laddR (C : Cx Ω κ own cc) {x y : Int64} (dg : decode cc pc = .ok (.ladd, 1))
    (k : Y Ω κ Φ hR cs sl (pc + 1) L (.long (x + y) :: st)) : Y Ω κ Φ hR cs sl pc L (.long y :: .long x :: st) :=
  fun h H locs ls a b c d => lv_ladd C.1 C.2.1 dg (k h H locs ls a b c d)
theorem y_lsub (C : Cx Ω κ own cc) {x y : Int} (dg : decode cc pc = .ok (.lsub, 1))
    (k : Y Ω κ Φ hR cs sl (pc + 1) L (.long (jv (x - y)) :: st)) : Y Ω κ Φ hR cs sl pc L (.long (jv y) :: .long (jv x) :: st) :=
  fun h H locs ls a b c d => lv_lsub C.1 C.2.1 dg (by rw [jv_sub]; exact k h H locs ls a b c d)
theorem y_lsubR (C : Cx Ω κ own cc) {x y : Int64} (dg : decode cc pc = .ok (.lsub, 1))
    (k : Y Ω κ Φ hR cs sl (pc + 1) L (.long (x - y) :: st)) : Y Ω κ Φ hR cs sl pc L (.long y :: .long x :: st) :=
  fun h H locs ls a b c d => lv_lsub C.1 C.2.1 dg (k h H locs ls a b c d)
theorem y_lmul (C : Cx Ω κ own cc) {x y : Int} (dg : decode cc pc = .ok (.lmul, 1))
    (k : Y Ω κ Φ hR cs sl (pc + 1) L (.long (jv (x * y)) :: st)) : Y Ω κ Φ hR cs sl pc L (.long (jv y) :: .long (jv x) :: st) :=
  fun h H locs ls a b c d => lv_lmul C.1 C.2.1 dg (by rw [jv_mul]; exact k h H locs ls a b c d)
theorem y_lmulR (C : Cx Ω κ own cc) {x y : Int64} (dg : decode cc pc = .ok (.lmul, 1))
    (k : Y Ω κ Φ hR cs sl (pc + 1) L (.long (x * y) :: st)) : Y Ω κ Φ hR cs sl pc L (.long y :: .long x :: st) :=
  fun h H locs ls a b c d => lv_lmul C.1 C.2.1 dg (k h H locs ls a b c d)
theorem y_ldiv (C : Cx Ω κ own cc) {x y : Int} (dg : decode cc pc = .ok (.ldiv, 1)) (h1 : -9223372036854775808 ≤ x) (h2 : x < 9223372036854775808) (h3 : -9223372036854775808 ≤ y) (h4 : y < 9223372036854775808) (h5 : y ≠ 0)
    (k : Y Ω κ Φ hR cs sl (pc + 1) L (.long (jv (x.tdiv y)) :: st)) : Y Ω κ Φ hR cs sl pc L (.long (jv y) :: .long (jv x) :: st) :=
  fun h H locs ls a b c d => lv_ldiv C.1 C.2.1 dg (by rw [← jv_0, jv_eq h3 h4 (by decide) (by decide)]; exact h5) (by rw [jv_div h1 h2 h3 h4]; exact k h H locs ls a b c d)
theorem y_ldivP (C : Cx Ω κ own cc) {x y : Int} (dg : decode cc pc = .ok (.ldiv, 1)) (h1 : 0 ≤ x) (h2 : x < 9223372036854775808) (h3 : 0 < y) (h4 : y < 9223372036854775808)
    (k : Y Ω κ Φ hR cs sl (pc + 1) L (.long (jv (x / y)) :: st)) : Y Ω κ Φ hR cs sl pc L (.long (jv y) :: .long (jv x) :: st) :=
  fun h H locs ls a b c d => y_ldiv C dg (by omega) h2 (by omega) h4 (by omega) (by rw [Int.tdiv_eq_ediv_of_nonneg h1]; exact k) h H locs ls a b c d
theorem y_ldivR (C : Cx Ω κ own cc) {x y : Int64} (dg : decode cc pc = .ok (.ldiv, 1)) (h5 : ¬ y = 0)
    (k : Y Ω κ Φ hR cs sl (pc + 1) L (.long (x / y) :: st)) : Y Ω κ Φ hR cs sl pc L (.long y :: .long x :: st) :=
  fun h H locs ls a b c d => lv_ldiv C.1 C.2.1 dg h5 (k h H locs ls a b c d)
theorem y_dup (C : Cx Ω κ own cc) {v : Value} (dg : decode cc pc = .ok (.dup, 1)) (hv : v.category = 1)
    (k : Y Ω κ Φ hR cs sl (pc + 1) L (v :: v :: st)) : Y Ω κ Φ hR cs sl pc L (v :: st) :=
  fun h H locs ls a b c d => lv_dup C.1 C.2.1 dg hv (k h H locs ls a b c d)
theorem y_pop (C : Cx Ω κ own cc) {v : Value} (dg : decode cc pc = .ok (.pop, 1)) (hv : v.category = 1)
    (k : Y Ω κ Φ hR cs sl (pc + 1) L (st)) : Y Ω κ Φ hR cs sl pc L (v :: st) :=
  fun h H locs ls a b c d => lv_pop C.1 C.2.1 dg hv (k h H locs ls a b c d)
theorem y_dup2 (C : Cx Ω κ own cc) {v w : Value} (dg : decode cc pc = .ok (.dup2, 1)) (hv : v.category = 1) (hw : w.category = 1)
    (k : Y Ω κ Φ hR cs sl (pc + 1) L (v :: w :: v :: w :: st)) : Y Ω κ Φ hR cs sl pc L (v :: w :: st) :=
  fun h H locs ls a b c d => lv_dup2_11 C.1 C.2.1 dg hv hw (k h H locs ls a b c d)
theorem y_dup_x1 (C : Cx Ω κ own cc) {v w : Value} (dg : decode cc pc = .ok (.dup_x1, 1)) (hv : v.category = 1) (hw : w.category = 1)
    (k : Y Ω κ Φ hR cs sl (pc + 1) L (v :: w :: v :: st)) : Y Ω κ Φ hR cs sl pc L (v :: w :: st) :=
  fun h H locs ls a b c d => lv_dup_x1 C.1 C.2.1 dg hv hw (k h H locs ls a b c d)
theorem y_null (C : Cx Ω κ own cc) (dg : decode cc pc = .ok (.aconst_null, 1))
    (k : Y Ω κ Φ hR cs sl (pc + 1) L (.null :: st)) : Y Ω κ Φ hR cs sl pc L (st) :=
  fun h H locs ls a b c d => lv_null C.1 C.2.1 dg (k h H locs ls a b c d)
theorem y_goto (C : Cx Ω κ own cc) {off : Int} {tgt : Nat} (dg : decode cc pc = .ok (.goto off, 3)) (ht : (pc : Int) + off = (tgt : Int))
    (k : Y Ω κ Φ hR cs sl tgt L (st)) : Y Ω κ Φ hR cs sl pc L (st) :=
  fun h H locs ls a b c d => lv_goto C.1 C.2.1 dg ht (k h H locs ls a b c d)
theorem y_icmp_eq (C : Cx Ω κ own cc) {x y off : Int} {tgt : Nat} (dg : decode cc pc = .ok (.if_icmp .eq off, 3)) (ht : (pc : Int) + off = (tgt : Int)) (h1 : -2147483648 ≤ x) (h2 : x < 2147483648) (h3 : -2147483648 ≤ y) (h4 : y < 2147483648)
    (kt : x = y → Y Ω κ Φ hR cs sl tgt L st) (kf : ¬ (x = y) → Y Ω κ Φ hR cs sl (pc + 3) L st) : Y Ω κ Φ hR cs sl pc L (.int (iv y) :: .int (iv x) :: st) :=
  fun h H locs ls a b c d => lv_icmp_eq C.1 C.2.1 dg ht (fun q => kt ((iv_eq h1 h2 h3 h4).mp q) h H locs ls a b c d) (fun q => kf (fun z => q ((iv_eq h1 h2 h3 h4).mpr z)) h H locs ls a b c d)
theorem y_if_eq (C : Cx Ω κ own cc) {x off : Int} {tgt : Nat} (dg : decode cc pc = .ok (.ifCond .eq off, 3)) (ht : (pc : Int) + off = (tgt : Int)) (h1 : -2147483648 ≤ x) (h2 : x < 2147483648)
    (kt : x = 0 → Y Ω κ Φ hR cs sl tgt L st) (kf : ¬ (x = 0) → Y Ω κ Φ hR cs sl (pc + 3) L st) : Y Ω κ Φ hR cs sl pc L (.int (iv x) :: st) :=
  fun h H locs ls a b c d => lv_if_eq C.1 C.2.1 dg ht (fun q => kt ((iv_eq h1 h2 (by decide) (by decide)).mp (by rw [iv_0]; exact q)) h H locs ls a b c d) (fun q => kf (fun z => q (by have w := (iv_eq h1 h2 (by decide) (by decide)).mpr z; rw [iv_0] at w; exact w)) h H locs ls a b c d)
theorem y_lcmp_eq (C : Cx Ω κ own cc) {x y off : Int} {tgt : Nat} (dg : decode cc pc = .ok (.lcmp, 1)) (dg2 : decode cc (pc + 1) = .ok (.ifCond .eq off, 3)) (ht : ((pc + 1 : Nat) : Int) + off = (tgt : Int)) (h1 : -9223372036854775808 ≤ x) (h2 : x < 9223372036854775808) (h3 : -9223372036854775808 ≤ y) (h4 : y < 9223372036854775808)
    (kt : x = y → Y Ω κ Φ hR cs sl tgt L st) (kf : ¬ (x = y) → Y Ω κ Φ hR cs sl (pc + 1 + 3) L st) : Y Ω κ Φ hR cs sl pc L (.long (jv y) :: .long (jv x) :: st) :=
  fun h H locs ls a b c d => W.lcmp C.1 C.2.1 dg (by
    rw [iv_cmp h1 h2 h3 h4]
    refine y_if_eq C dg2 ht (by split <;> first | decide | (split <;> decide)) (by split <;> first | decide | (split <;> decide)) (fun q => kt ?_) (fun q => kf ?_) h H locs ls a b c d
    · split at q <;> first | omega | (split at q <;> omega)
    · split at q <;> first | omega | (split at q <;> omega))
theorem y_icmp_ne (C : Cx Ω κ own cc) {x y off : Int} {tgt : Nat} (dg : decode cc pc = .ok (.if_icmp .ne off, 3)) (ht : (pc : Int) + off = (tgt : Int)) (h1 : -2147483648 ≤ x) (h2 : x < 2147483648) (h3 : -2147483648 ≤ y) (h4 : y < 2147483648)
    (kt : ¬ x = y → Y Ω κ Φ hR cs sl tgt L st) (kf : x = y → Y Ω κ Φ hR cs sl (pc + 3) L st) : Y Ω κ Φ hR cs sl pc L (.int (iv y) :: .int (iv x) :: st) :=
  fun h H locs ls a b c d => lv_icmp_ne C.1 C.2.1 dg ht (fun q => kt (fun z => q (by rw [z])) h H locs ls a b c d) (fun q => kf ((iv_eq h1 h2 h3 h4).mp q) h H locs ls a b c d)
theorem y_if_ne (C : Cx Ω κ own cc) {x off : Int} {tgt : Nat} (dg : decode cc pc = .ok (.ifCond .ne off, 3)) (ht : (pc : Int) + off = (tgt : Int)) (h1 : -2147483648 ≤ x) (h2 : x < 2147483648)
    (kt : ¬ x = 0 → Y Ω κ Φ hR cs sl tgt L st) (kf : x = 0 → Y Ω κ Φ hR cs sl (pc + 3) L st) : Y Ω κ Φ hR cs sl pc L (.int (iv x) :: st) :=
  fun h H locs ls a b c d => lv_if_ne C.1 C.2.1 dg ht (fun q => kt (fun z => q (by rw [z]; exact iv_0)) h H locs ls a b c d) (fun q => kf ((iv_eq h1 h2 (by decide) (by decide)).mp (by rw [iv_0]; exact q)) h H locs ls a b c d)
theorem y_icmp_lt (C : Cx Ω κ own cc) {x y off : Int} {tgt : Nat} (dg : decode cc pc = .ok (.if_icmp .lt off, 3)) (ht : (pc : Int) + off = (tgt : Int)) (h1 : -2147483648 ≤ x) (h2 : x < 2147483648) (h3 : -2147483648 ≤ y) (h4 : y < 2147483648)
    (kt : x < y → Y Ω κ Φ hR cs sl tgt L st) (kf : ¬ (x < y) → Y Ω κ Φ hR cs sl (pc + 3) L st) : Y Ω κ Φ hR cs sl pc L (.int (iv y) :: .int (iv x) :: st) :=
  fun h H locs ls a b c d => lv_icmp_lt C.1 C.2.1 dg ht (fun q => kt ((iv_lt h1 h2 h3 h4).mp q) h H locs ls a b c d) (fun q => kf (fun z => q ((iv_lt h1 h2 h3 h4).mpr z)) h H locs ls a b c d)
theorem y_if_lt (C : Cx Ω κ own cc) {x off : Int} {tgt : Nat} (dg : decode cc pc = .ok (.ifCond .lt off, 3)) (ht : (pc : Int) + off = (tgt : Int)) (h1 : -2147483648 ≤ x) (h2 : x < 2147483648)
    (kt : x < 0 → Y Ω κ Φ hR cs sl tgt L st) (kf : ¬ (x < 0) → Y Ω κ Φ hR cs sl (pc + 3) L st) : Y Ω κ Φ hR cs sl pc L (.int (iv x) :: st) :=
  fun h H locs ls a b c d => lv_if_lt C.1 C.2.1 dg ht (fun q => kt ((iv_lt h1 h2 (by decide) (by decide)).mp (by rw [iv_0]; exact q)) h H locs ls a b c d) (fun q => kf (fun z => q (by have w := (iv_lt h1 h2 (by decide) (by decide)).mpr z; rw [iv_0] at w; exact w)) h H locs ls a b c d)
theorem y_lcmp_lt (C : Cx Ω κ own cc) {x y off : Int} {tgt : Nat} (dg : decode cc pc = .ok (.lcmp, 1)) (dg2 : decode cc (pc + 1) = .ok (.ifCond .lt off, 3)) (ht : ((pc + 1 : Nat) : Int) + off = (tgt : Int)) (h1 : -9223372036854775808 ≤ x) (h2 : x < 9223372036854775808) (h3 : -9223372036854775808 ≤ y) (h4 : y < 9223372036854775808)
    (kt : x < y → Y Ω κ Φ hR cs sl tgt L st) (kf : ¬ (x < y) → Y Ω κ Φ hR cs sl (pc + 1 + 3) L st) : Y Ω κ Φ hR cs sl pc L (.long (jv y) :: .long (jv x) :: st) :=
  fun h H locs ls a b c d => W.lcmp C.1 C.2.1 dg (by
    rw [iv_cmp h1 h2 h3 h4]
    refine y_if_lt C dg2 ht (by split <;> first | decide | (split <;> decide)) (by split <;> first | decide | (split <;> decide)) (fun q => kt ?_) (fun q => kf ?_) h H locs ls a b c d
    · split at q <;> first | omega | (split at q <;> omega)
    · split at q <;> first | omega | (split at q <;> omega))
theorem y_icmp_ge (C : Cx Ω κ own cc) {x y off : Int} {tgt : Nat} (dg : decode cc pc = .ok (.if_icmp .ge off, 3)) (ht : (pc : Int) + off = (tgt : Int)) (h1 : -2147483648 ≤ x) (h2 : x < 2147483648) (h3 : -2147483648 ≤ y) (h4 : y < 2147483648)
    (kt : y ≤ x → Y Ω κ Φ hR cs sl tgt L st) (kf : ¬ (y ≤ x) → Y Ω κ Φ hR cs sl (pc + 3) L st) : Y Ω κ Φ hR cs sl pc L (.int (iv y) :: .int (iv x) :: st) :=
  fun h H locs ls a b c d => lv_icmp_ge C.1 C.2.1 dg ht (fun q => kt ((iv_le h3 h4 h1 h2).mp q) h H locs ls a b c d) (fun q => kf (fun z => q ((iv_le h3 h4 h1 h2).mpr z)) h H locs ls a b c d)
theorem y_if_ge (C : Cx Ω κ own cc) {x off : Int} {tgt : Nat} (dg : decode cc pc = .ok (.ifCond .ge off, 3)) (ht : (pc : Int) + off = (tgt : Int)) (h1 : -2147483648 ≤ x) (h2 : x < 2147483648)
    (kt : 0 ≤ x → Y Ω κ Φ hR cs sl tgt L st) (kf : ¬ (0 ≤ x) → Y Ω κ Φ hR cs sl (pc + 3) L st) : Y Ω κ Φ hR cs sl pc L (.int (iv x) :: st) :=
  fun h H locs ls a b c d => lv_if_ge C.1 C.2.1 dg ht (fun q => kt ((iv_le (by decide) (by decide) h1 h2).mp (by rw [iv_0]; exact q)) h H locs ls a b c d) (fun q => kf (fun z => q (by have w := (iv_le (by decide) (by decide) h1 h2).mpr z; rw [iv_0] at w; exact w)) h H locs ls a b c d)
theorem y_lcmp_ge (C : Cx Ω κ own cc) {x y off : Int} {tgt : Nat} (dg : decode cc pc = .ok (.lcmp, 1)) (dg2 : decode cc (pc + 1) = .ok (.ifCond .ge off, 3)) (ht : ((pc + 1 : Nat) : Int) + off = (tgt : Int)) (h1 : -9223372036854775808 ≤ x) (h2 : x < 9223372036854775808) (h3 : -9223372036854775808 ≤ y) (h4 : y < 9223372036854775808)
    (kt : y ≤ x → Y Ω κ Φ hR cs sl tgt L st) (kf : ¬ (y ≤ x) → Y Ω κ Φ hR cs sl (pc + 1 + 3) L st) : Y Ω κ Φ hR cs sl pc L (.long (jv y) :: .long (jv x) :: st) :=
  fun h H locs ls a b c d => W.lcmp C.1 C.2.1 dg (by
    rw [iv_cmp h1 h2 h3 h4]
    refine y_if_ge C dg2 ht (by split <;> first | decide | (split <;> decide)) (by split <;> first | decide | (split <;> decide)) (fun q => kt ?_) (fun q => kf ?_) h H locs ls a b c d
    · split at q <;> first | omega | (split at q <;> omega)
    · split at q <;> first | omega | (split at q <;> omega))
theorem y_icmp_gt (C : Cx Ω κ own cc) {x y off : Int} {tgt : Nat} (dg : decode cc pc = .ok (.if_icmp .gt off, 3)) (ht : (pc : Int) + off = (tgt : Int)) (h1 : -2147483648 ≤ x) (h2 : x < 2147483648) (h3 : -2147483648 ≤ y) (h4 : y < 2147483648)
    (kt : y < x → Y Ω κ Φ hR cs sl tgt L st) (kf : ¬ (y < x) → Y Ω κ Φ hR cs sl (pc + 3) L st) : Y Ω κ Φ hR cs sl pc L (.int (iv y) :: .int (iv x) :: st) :=
  fun h H locs ls a b c d => lv_icmp_gt C.1 C.2.1 dg ht (fun q => kt ((iv_lt h3 h4 h1 h2).mp q) h H locs ls a b c d) (fun q => kf (fun z => q ((iv_lt h3 h4 h1 h2).mpr z)) h H locs ls a b c d)
theorem y_if_gt (C : Cx Ω κ own cc) {x off : Int} {tgt : Nat} (dg : decode cc pc = .ok (.ifCond .gt off, 3)) (ht : (pc : Int) + off = (tgt : Int)) (h1 : -2147483648 ≤ x) (h2 : x < 2147483648)
    (kt : 0 < x → Y Ω κ Φ hR cs sl tgt L st) (kf : ¬ (0 < x) → Y Ω κ Φ hR cs sl (pc + 3) L st) : Y Ω κ Φ hR cs sl pc L (.int (iv x) :: st) :=
  fun h H locs ls a b c d => lv_if_gt C.1 C.2.1 dg ht (fun q => kt ((iv_lt (by decide) (by decide) h1 h2).mp (by rw [iv_0]; exact q)) h H locs ls a b c d) (fun q => kf (fun z => q (by have w := (iv_lt (by decide) (by decide) h1 h2).mpr z; rw [iv_0] at w; exact w)) h H locs ls a b c d)
theorem y_lcmp_gt (C : Cx Ω κ own cc) {x y off : Int} {tgt : Nat} (dg : decode cc pc = .ok (.lcmp, 1)) (dg2 : decode cc (pc + 1) = .ok (.ifCond .gt off, 3)) (ht : ((pc + 1 : Nat) : Int) + off = (tgt : Int)) (h1 : -9223372036854775808 ≤ x) (h2 : x < 9223372036854775808) (h3 : -9223372036854775808 ≤ y) (h4 : y < 9223372036854775808)
    (kt : y < x → Y Ω κ Φ hR cs sl tgt L st) (kf : ¬ (y < x) → Y Ω κ Φ hR cs sl (pc + 1 + 3) L st) : Y Ω κ Φ hR cs sl pc L (.long (jv y) :: .long (jv x) :: st) :=
  fun h H locs ls a b c d => W.lcmp C.1 C.2.1 dg (by
    rw [iv_cmp h1 h2 h3 h4]
    refine y_if_gt C dg2 ht (by split <;> first | decide | (split <;> decide)) (by split <;> first | decide | (split <;> decide)) (fun q => kt ?_) (fun q => kf ?_) h H locs ls a b c d
    · split at q <;> first | omega | (split at q <;> omega)
    · split at q <;> first | omega | (split at q <;> omega))
theorem y_icmp_le (C : Cx Ω κ own cc) {x y off : Int} {tgt : Nat} (dg : decode cc pc = .ok (.if_icmp .le off, 3)) (ht : (pc : Int) + off = (tgt : Int)) (h1 : -2147483648 ≤ x) (h2 : x < 2147483648) (h3 : -2147483648 ≤ y) (h4 : y < 2147483648)
    (kt : x ≤ y → Y Ω κ Φ hR cs sl tgt L st) (kf : ¬ (x ≤ y) → Y Ω κ Φ hR cs sl (pc + 3) L st) : Y Ω κ Φ hR cs sl pc L (.int (iv y) :: .int (iv x) :: st) :=
  fun h H locs ls a b c d => lv_icmp_le C.1 C.2.1 dg ht (fun q => kt ((iv_le h1 h2 h3 h4).mp q) h H locs ls a b c d) (fun q => kf (fun z => q ((iv_le h1 h2 h3 h4).mpr z)) h H locs ls a b c d)
theorem y_if_le (C : Cx Ω κ own cc) {x off : Int} {tgt : Nat} (dg : decode cc pc = .ok (.ifCond .le off, 3)) (ht : (pc : Int) + off = (tgt : Int)) (h1 : -2147483648 ≤ x) (h2 : x < 2147483648)
    (kt : x ≤ 0 → Y Ω κ Φ hR cs sl tgt L st) (kf : ¬ (x ≤ 0) → Y Ω κ Φ hR cs sl (pc + 3) L st) : Y Ω κ Φ hR cs sl pc L (.int (iv x) :: st) :=
  fun h H locs ls a b c d => lv_if_le C.1 C.2.1 dg ht (fun q => kt ((iv_le h1 h2 (by decide) (by decide)).mp (by rw [iv_0]; exact q)) h H locs ls a b c d) (fun q => kf (fun z => q (by have w := (iv_le h1 h2 (by decide) (by decide)).mpr z; rw [iv_0] at w; exact w)) h H locs ls a b c d)
theorem y_lcmp_le (C : Cx Ω κ own cc) {x y off : Int} {tgt : Nat} (dg : decode cc pc = .ok (.lcmp, 1)) (dg2 : decode cc (pc + 1) = .ok (.ifCond .le off, 3)) (ht : ((pc + 1 : Nat) : Int) + off = (tgt : Int)) (h1 : -9223372036854775808 ≤ x) (h2 : x < 9223372036854775808) (h3 : -9223372036854775808 ≤ y) (h4 : y < 9223372036854775808)
    (kt : x ≤ y → Y Ω κ Φ hR cs sl tgt L st) (kf : ¬ (x ≤ y) → Y Ω κ Φ hR cs sl (pc + 1 + 3) L st) : Y Ω κ Φ hR cs sl pc L (.long (jv y) :: .long (jv x) :: st) :=
  fun h H locs ls a b c d => W.lcmp C.1 C.2.1 dg (by
    rw [iv_cmp h1 h2 h3 h4]
    refine y_if_le C dg2 ht (by split <;> first | decide | (split <;> decide)) (by split <;> first | decide | (split <;> decide)) (fun q => kt ?_) (fun q => kf ?_) h H locs ls a b c d
    · split at q <;> first | omega | (split at q <;> omega)
    · split at q <;> first | omega | (split at q <;> omega))
theorem y_ifb_eq (C : Cx Ω κ own cc) {b : Bool} {off : Int} {tgt : Nat} (dg : decode cc pc = .ok (.ifCond .eq off, 3)) (ht : (pc : Int) + off = (tgt : Int))
    (kt : b = false → Y Ω κ Φ hR cs sl tgt L st) (kf : b = true → Y Ω κ Φ hR cs sl (pc + 3) L st) : Y Ω κ Φ hR cs sl pc L (.int (iv (bz b)) :: st) :=
  y_if_eq C dg ht (by have := bz_01 b; omega) (by have := bz_01 b; omega) (fun q => kt (bz_t.mp q)) (fun q => kf (by cases b <;> first | rfl | exact absurd rfl q))
theorem y_ifb_ne (C : Cx Ω κ own cc) {b : Bool} {off : Int} {tgt : Nat} (dg : decode cc pc = .ok (.ifCond .ne off, 3)) (ht : (pc : Int) + off = (tgt : Int))
    (kt : b = true → Y Ω κ Φ hR cs sl tgt L st) (kf : b = false → Y Ω κ Φ hR cs sl (pc + 3) L st) : Y Ω κ Φ hR cs sl pc L (.int (iv (bz b)) :: st) :=
  y_if_ne C dg ht (by have := bz_01 b; omega) (by have := bz_01 b; omega) (fun q => kt (by cases b <;> first | rfl | exact absurd rfl q)) (fun q => kf (bz_t.mp q))
end YROWS

