/-! THE REFERENCE: heat of one unit; making it -/
theorem nan_n {a : UInt32} (h : Jvm.FP.Core.fIsNaN a = false) : vf_n32 a := by
  have q : a.toNat % 2 ^ 31 ≤ 2139095040 := Nat.not_lt.mp (fun z => by rw [(Jvm.FP.Core.isNaN_bits32 a).mpr z] at h; cases h)
  unfold vf_n32
  rw [UInt32.le_iff_toNat_le, UInt32.toNat_and]
  show a.toNat &&& 2147483647 ≤ 2139095040
  rw [show (2147483647 : Nat) = 2 ^ 31 - 1 from rfl, Nat.and_two_pow_sub_one_eq_mod]
  exact q
theorem div_n {x : Int64} {y : Int32} (h : y ≠ 0) : vf_n32 (FP.fdiv (FP.l2f x) (FP.i2f y)) := by
  refine nan_n (Jvm.FP.Core.fdiv_out (Jvm.FP.Core.FFin.notNaN (Jvm.FP.Core.l2f_fin x)) (Jvm.FP.Core.i2f_fin y) (fun q => ?_))
  exact Jvm.FP.Core.i2f_ne_zero h ((Jvm.FP.Core.zero_bits232 _).mp q)
section YFLOAT
variable {Ω : OmT} {κ : KxT} {Φ : AH → Prop} {hR : AH} {cs sl pc : Nat} {L : List (Nat × Value)} {st : List Value} {own : String} {cc : ByteArray}
theorem y_l2f (C : Cx Ω κ own cc) {x : Int64} (dg : decode cc pc = .ok (.l2f, 1)) (k : Y Ω κ Φ hR cs sl (pc + 1) L (.float (FP.l2f x) :: st)) : Y Ω κ Φ hR cs sl pc L (.long x :: st) := fun h H locs ls a b c d => lv_l2f C.1 C.2.1 dg (k h H locs ls a b c d)
theorem y_i2f (C : Cx Ω κ own cc) {x : Int32} (dg : decode cc pc = .ok (.i2f, 1)) (k : Y Ω κ Φ hR cs sl (pc + 1) L (.float (FP.i2f x) :: st)) : Y Ω κ Φ hR cs sl pc L (.int x :: st) := fun h H locs ls a b c d => lv_i2f C.1 C.2.1 dg (k h H locs ls a b c d)
theorem y_f2i (C : Cx Ω κ own cc) {x : UInt32} (dg : decode cc pc = .ok (.f2i, 1)) (k : Y Ω κ Φ hR cs sl (pc + 1) L (.int (FP.f2i x) :: st)) : Y Ω κ Φ hR cs sl pc L (.float x :: st) := fun h H locs ls a b c d => lv_f2i C.1 C.2.1 dg (k h H locs ls a b c d)
theorem y_fdiv (C : Cx Ω κ own cc) {x y : UInt32} (dg : decode cc pc = .ok (.fdiv, 1)) (hn : vf_n32 (FP.fdiv x y)) (k : Y Ω κ Φ hR cs sl (pc + 1) L (.float (FP.fdiv x y) :: st)) : Y Ω κ Φ hR cs sl pc L (.float y :: .float x :: st) := fun h H locs ls a b c d => lv_fdiv C.1 C.2.1 dg hn (k h H locs ls a b c d)
theorem y_joinX {pcj : Nat} {P : Int32 → Prop} (k : ∀ v, P v → Y Ω κ Φ hR cs sl pcj L (.int v :: st)) (b : (∀ v, P v → Y Ω κ Φ hR cs sl pcj L (.int v :: st)) → Y Ω κ Φ hR cs sl pc L st) : Y Ω κ Φ hR cs sl pc L st := b k
end YFLOAT
def mixI (σ : ZT) (τ : JT) (k : Nat) : Int32 := if σ 6 k = 0 then iv 0 else FP.f2i (FP.fdiv (FP.l2f (τ 13 k)) (FP.i2f (iv (σ 6 k))))
def ds6 : List Value := [.int 0, .int 0, .int 0, .null, .null, .null, .null, .null, .null, .null, .null, .null, .null, .null, .null, .int 0, .int 0, .null, .null, .null, .null, .null, .null, .null, .null, .null, .null, .int 0, .null, .null, .null, .int 0, .int 0, .long 0, .long 0, .long 0, .null, .null, .null, .null]
def σi : ZT := fun f _ => if f = 15 then 10000 else 0
def τi : JT := fun _ _ => 0
def IniM (Ω : OmT) (M n : Nat) (ma : Nat → Nat) (h : AH) : Prop := h M = some (.inr (6, (mfs ma σi τi).take n ++ ds6.drop n)) ∧ (∀ f, f < n → mI f = true → h (ma f) = some (.inl (OmI Ω, mlen f, .inl (fun _ => 0)))) ∧ (∀ f, f < n → mJ f = true → h (ma f) = some (.inl (OmJ Ω, mlen f, .inr (.inl (fun _ => 0))))) ∧
  (∀ f g, f < n → g < n → mI f = true → mI g = true → ma f = ma g → f = g) ∧ (∀ f g, f < n → g < n → mJ f = true → mJ g = true → ma f = ma g → f = g)
def ma1 (ma : Nat → Nat) (n a : Nat) : Nat → Nat := fun f => if f = n then a else ma f
theorem ma1_n {ma : Nat → Nat} {n a f : Nat} (h : f < n) : ma1 ma n a f = ma f := if_neg (by omega)
theorem ma1_s {ma : Nat → Nat} {n a : Nat} : ma1 ma n a n = a := if_pos rfl
theorem IniM.skip {Ω : OmT} {M n n' : Nat} {ma : Nat → Nat} {h : AH} (i : IniM Ω M n ma h) (hl : (mfs ma σi τi).take n' ++ ds6.drop n' = (mfs ma σi τi).take n ++ ds6.drop n) (hf : ∀ f, f < n' → n ≤ f → mI f = false ∧ mJ f = false) : IniM Ω M n' ma h := by
  have q : ∀ f, f < n' → mI f = true → f < n := fun f h1 h2 => Nat.lt_of_not_le (fun z => by rw [(hf f h1 z).1] at h2; cases h2)
  have r : ∀ f, f < n' → mJ f = true → f < n := fun f h1 h2 => Nat.lt_of_not_le (fun z => by rw [(hf f h1 z).2] at h2; cases h2)
  exact ⟨by rw [hl]; exact i.1, fun f h1 h2 => i.2.1 f (q f h1 h2) h2, fun f h1 h2 => i.2.2.1 f (r f h1 h2) h2, fun f g h1 h2 h3 h4 => i.2.2.2.1 f g (q f h1 h3) (q g h2 h4) h3 h4, fun f g h1 h2 h3 h4 => i.2.2.2.2 f g (r f h1 h3) (r g h2 h4) h3 h4⟩
theorem IniM.newI {Ω : OmT} {M n a : Nat} {ma : Nat → Nat} {h : AH} (i : IniM Ω M n ma h) (ha : h a = none) (hn : mI n = true) (hl : ((mfs ma σi τi).take n ++ ds6.drop n).set n (.ref a) = (mfs (ma1 ma n a) σi τi).take (n + 1) ++ ds6.drop (n + 1)) :
    IniM Ω M (n + 1) (ma1 ma n a) (hset (hset h a (.inl (OmI Ω, mlen n, .inl (fun _ => 0)))) M (.inr (6, ((mfs ma σi τi).take n ++ ds6.drop n).set n (.ref a)))) := by
  obtain ⟨h1, h2, h3, h4, h5⟩ := i
  have nM : M ≠ a := fun q => by rw [q, ha] at h1; cases h1
  have na : ∀ {b : Nat} {e : va_E}, h b = some e → b ≠ a := fun hb q => by rw [q, ha] at hb; cases hb
  refine ⟨by rw [hset_s, hl], fun f hf hm => ?_, fun f hf hm => ?_, fun f g hf hg q1 q2 e => ?_, fun f g hf hg q1 q2 e => ?_⟩
  · by_cases e : f = n
    · subst e
      rw [ma1_s, hset_n (fun q => nM q.symm), hset_s]
    · have hf' : f < n := by omega
      have q := h2 f hf' hm
      rw [ma1_n hf', hset_n (fun z => by rw [z, h1] at q; cases q), hset_n (na q)]; exact q
  · have hf' : f < n := Nat.lt_of_le_of_ne (Nat.le_of_lt_succ hf) (fun z => by subst z; exact absurd rfl (mIJ hn hm))
    have q := h3 f hf' hm
    rw [ma1_n hf', hset_n (fun z => by rw [z, h1] at q; cases q), hset_n (na q)]; exact q
  · by_cases e1 : f = n
    · by_cases e2 : g = n
      · rw [e1, e2]
      · subst e1; rw [ma1_s, ma1_n (by omega)] at e
        exact absurd e.symm (na (h2 g (by omega) q2))
    · by_cases e2 : g = n
      · subst e2; rw [ma1_s, ma1_n (by omega)] at e
        exact absurd e (na (h2 f (by omega) q1))
      · rw [ma1_n (by omega), ma1_n (by omega)] at e; exact h4 f g (by omega) (by omega) q1 q2 e
  · have hf' : f < n := Nat.lt_of_le_of_ne (Nat.le_of_lt_succ hf) (fun z => by subst z; exact absurd rfl (mIJ hn q1))
    have hg' : g < n := Nat.lt_of_le_of_ne (Nat.le_of_lt_succ hg) (fun z => by subst z; exact absurd rfl (mIJ hn q2))
    rw [ma1_n hf', ma1_n hg'] at e; exact h5 f g hf' hg' q1 q2 e
theorem IniM.newJ {Ω : OmT} {M n a : Nat} {ma : Nat → Nat} {h : AH} (i : IniM Ω M n ma h) (ha : h a = none) (hn : mJ n = true) (hl : ((mfs ma σi τi).take n ++ ds6.drop n).set n (.ref a) = (mfs (ma1 ma n a) σi τi).take (n + 1) ++ ds6.drop (n + 1)) :
    IniM Ω M (n + 1) (ma1 ma n a) (hset (hset h a (.inl (OmJ Ω, mlen n, .inr (.inl (fun _ => 0))))) M (.inr (6, ((mfs ma σi τi).take n ++ ds6.drop n).set n (.ref a)))) := by
  obtain ⟨h1, h2, h3, h4, h5⟩ := i
  have nM : M ≠ a := fun q => by rw [q, ha] at h1; cases h1
  have na : ∀ {b : Nat} {e : va_E}, h b = some e → b ≠ a := fun hb q => by rw [q, ha] at hb; cases hb
  refine ⟨by rw [hset_s, hl], fun f hf hm => ?_, fun f hf hm => ?_, fun f g hf hg q1 q2 e => ?_, fun f g hf hg q1 q2 e => ?_⟩
  · have hf' : f < n := Nat.lt_of_le_of_ne (Nat.le_of_lt_succ hf) (fun z => by subst z; exact absurd rfl (mIJ hm hn))
    have q := h2 f hf' hm
    rw [ma1_n hf', hset_n (fun z => by rw [z, h1] at q; cases q), hset_n (na q)]; exact q
  · by_cases e : f = n
    · subst e
      rw [ma1_s, hset_n (fun q => nM q.symm), hset_s]
    · have hf' : f < n := by omega
      have q := h3 f hf' hm
      rw [ma1_n hf', hset_n (fun z => by rw [z, h1] at q; cases q), hset_n (na q)]; exact q
  · have hf' : f < n := Nat.lt_of_le_of_ne (Nat.le_of_lt_succ hf) (fun z => by subst z; exact absurd rfl (mIJ q1 hn))
    have hg' : g < n := Nat.lt_of_le_of_ne (Nat.le_of_lt_succ hg) (fun z => by subst z; exact absurd rfl (mIJ q2 hn))
    rw [ma1_n hf', ma1_n hg'] at e; exact h4 f g hf' hg' q1 q2 e
  · by_cases e1 : f = n
    · by_cases e2 : g = n
      · rw [e1, e2]
      · subst e1; rw [ma1_s, ma1_n (by omega)] at e
        exact absurd e.symm (na (h3 g (by omega) q2))
    · by_cases e2 : g = n
      · subst e2; rw [ma1_s, ma1_n (by omega)] at e
        exact absurd e (na (h3 f (by omega) q1))
      · rw [ma1_n (by omega), ma1_n (by omega)] at e; exact h5 f g (by omega) (by omega) q1 q2 e
theorem IniM.put15 {Ω : OmT} {M : Nat} {ma : Nat → Nat} {h : AH} (i : IniM Ω M 15 ma h) : IniM Ω M 17 ma (hset h M (.inr (6, ((mfs ma σi τi).take 15 ++ ds6.drop 15).set 15 (.int (iv 10000))))) := by
  obtain ⟨h1, h2, h3, h4, h5⟩ := i
  have q : ∀ f, f < 17 → mI f = true → f < 15 := fun f a b => Nat.lt_of_not_le (fun z => (show f = 15 ∨ f = 16 by omega).elim (fun e => by subst e; cases b) (fun e => by subst e; cases b))
  have r : ∀ f, f < 17 → mJ f = true → f < 15 := fun f a b => Nat.lt_of_not_le (fun z => (show f = 15 ∨ f = 16 by omega).elim (fun e => by subst e; cases b) (fun e => by subst e; cases b))
  refine ⟨by rw [hset_s]; rfl, fun f a b => ?_, fun f a b => ?_, fun f g a b c d => h4 f g (q f a c) (q g b d) c d, fun f g a b c d => h5 f g (r f a c) (r g b d) c d⟩
  · exact hset_d (h2 f (q f a b) b) h1 va_ie
  · exact hset_d (h3 f (r f a b) b) h1 va_ie
section YINI
variable {Ω : OmT} {κ : KxT} {hR : AH} {cs sl pc M : Nat} {L : List (Nat × Value)} {st : List Value} {own : String} {cc : ByteArray} {rm : Room} {Ψ : Option Value → AH → Prop} {Ξ : String → AH → Prop} {ret : Option FieldType}
theorem m_iniI (C : Cx Ω κ own cc) (E : Ce Ω κ ret rm hR Ψ Ξ) (hi0 : (kt κ).name = "<init>") {idx : Nat} (n : Nat) (hn : mI n = true) {z : Int} (hz : z = mlen n) (ff : FF own idx 6 n (.array .int)) (w : Cond.arrayClass .int ∈ AW) (d1 : decode cc pc = .ok (.newarray .int, 2)) (d2 : decode cc (pc + 2) = .ok (.putfield idx, 3)) (hc : cs + 1 ≤ rm.cells) (hs : sl + mlen n ≤ rm.slots)
    (hl : ∀ ma a, ((mfs ma σi τi).take n ++ ds6.drop n).set n (.ref a) = (mfs (ma1 ma n a) σi τi).take (n + 1) ++ ds6.drop (n + 1))
    (kk : Y Ω κ (fun h => ∃ ma, IniM Ω M (n + 1) ma h) hR (cs + 1) (sl + mlen n) (pc + 2 + 3) L st) : Y Ω κ (fun h => ∃ ma, IniM Ω M n ma h) hR cs sl pc L (.int (iv z) :: .ref M :: st) := by
  refine Y.ex fun ma => ?_
  refine y_newI C w d1 hz (by have := mI_lt hn; unfold mlen; split <;> first | omega | (split <;> first | omega | (split <;> first | omega | (split <;> omega)))) (by rw [E.2.1]; exact hc) (by rw [E.2.1]; exact hs) (fun a => ?_)
  refine y_putF C hi0 ff d2 rfl rfl (fun h hh => ?_) kk
  obtain ⟨h0, i, ha, -, rfl⟩ := hh
  refine ⟨(mfs ma σi τi).take n ++ ds6.drop n, ?_, ?_, _, i.newI ha hn (hl ma a)⟩
  · rw [hset_n (fun q => by have q1 := i.1; rw [q, ha] at q1; cases q1)]; exact i.1
  · have := mI_lt hn
    rw [List.length_append, List.length_take, List.length_drop, show (mfs ma σi τi).length = 40 from rfl, show ds6.length = 40 from rfl]; omega
theorem m_iniJ (C : Cx Ω κ own cc) (E : Ce Ω κ ret rm hR Ψ Ξ) (hi0 : (kt κ).name = "<init>") {idx : Nat} (n : Nat) (hn : mJ n = true) {z : Int} (hz : z = mlen n) (ff : FF own idx 6 n (.array .long)) (w : Cond.arrayClass .long ∈ AW) (d1 : decode cc pc = .ok (.newarray .long, 2)) (d2 : decode cc (pc + 2) = .ok (.putfield idx, 3)) (hc : cs + 1 ≤ rm.cells) (hs : sl + mlen n ≤ rm.slots)
    (hl : ∀ ma a, ((mfs ma σi τi).take n ++ ds6.drop n).set n (.ref a) = (mfs (ma1 ma n a) σi τi).take (n + 1) ++ ds6.drop (n + 1))
    (kk : Y Ω κ (fun h => ∃ ma, IniM Ω M (n + 1) ma h) hR (cs + 1) (sl + mlen n) (pc + 2 + 3) L st) : Y Ω κ (fun h => ∃ ma, IniM Ω M n ma h) hR cs sl pc L (.int (iv z) :: .ref M :: st) := by
  have hlt : n < 40 := by have q := of_decide_eq_true hn; simp only [List.mem_cons, List.not_mem_nil, or_false] at q; omega
  refine Y.ex fun ma => ?_
  refine y_newJ C w d1 hz (by unfold mlen; split <;> first | omega | (split <;> first | omega | (split <;> first | omega | (split <;> omega)))) (by rw [E.2.1]; exact hc) (by rw [E.2.1]; exact hs) (fun a => ?_)
  refine y_putF C hi0 ff d2 rfl rfl (fun h hh => ?_) kk
  obtain ⟨h0, i, ha, -, rfl⟩ := hh
  refine ⟨(mfs ma σi τi).take n ++ ds6.drop n, ?_, ?_, _, i.newJ ha hn (hl ma a)⟩
  · rw [hset_n (fun q => by have q1 := i.1; rw [q, ha] at q1; cases q1)]; exact i.1
  · rw [List.length_append, List.length_take, List.length_drop, show (mfs ma σi τi).length = 40 from rfl, show ds6.length = 40 from rfl]; omega
end YINI
