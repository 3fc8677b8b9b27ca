/-! THE REFERENCE: heat of one unit; making it -/
theorem nan_n {a : UInt32} (h : Jvm.FP.Core.fIsNaN a = false) : vf_n32 a := by
  have q : a.toNat % 2 ^ 31 ≤ 2139095040 := Nat.not_lt.mp (fun z => by rw [(Jvm.FP.Core.isNaN_bits32 a).mpr z] at h; cases h)
  unfold vf_n32
  rw [UInt32.le_iff_toNat_le, UInt32.toNat_and]
  show a.toNat &&& 2147483647 ≤ 2139095040
  rw [show (2147483647 : Nat) = 2 ^ 31 - 1 from rfl, Nat.and_two_pow_sub_one_eq_mod]
  exact q
theorem div_n {x : Int64} {y : Int32} (h : y ≠ 0) : vf_n32 (FP.fdiv (FP.l2f x) (FP.i2f y)) := by
  refine nan_n (Jvm.FP.Core.fdiv_out (Jvm.FP.Core.FFin.notNaN (Jvm.FP.Core.l2f_fin x)) (Jvm.FP.Core.i2f_fin y) (fun q => ?_))
  exact Jvm.FP.Core.i2f_ne_zero h ((Jvm.FP.Core.zero_bits232 _).mp q)
section YFLOAT
variable {Ω : OmT} {κ : KxT} {Φ : AH → Prop} {hR : AH} {cs sl pc : Nat} {L : List (Nat × Value)} {st : List Value} {own : String} {cc : ByteArray}
theorem y_l2f (C : Cx Ω κ own cc) {x : Int64} (dg : decode cc pc = .ok (.l2f, 1)) (k : Y Ω κ Φ hR cs sl (pc + 1) L (.float (FP.l2f x) :: st)) : Y Ω κ Φ hR cs sl pc L (.long x :: st) := fun h H locs ls a b c d => lv_l2f C.1 C.2.1 dg (k h H locs ls a b c d)
theorem y_i2f (C : Cx Ω κ own cc) {x : Int32} (dg : decode cc pc = .ok (.i2f, 1)) (k : Y Ω κ Φ hR cs sl (pc + 1) L (.float (FP.i2f x) :: st)) : Y Ω κ Φ hR cs sl pc L (.int x :: st) := fun h H locs ls a b c d => lv_i2f C.1 C.2.1 dg (k h H locs ls a b c d)
theorem y_f2i (C : Cx Ω κ own cc) {x : UInt32} (dg : decode cc pc = .ok (.f2i, 1)) (k : Y Ω κ Φ hR cs sl (pc + 1) L (.int (FP.f2i x) :: st)) : Y Ω κ Φ hR cs sl pc L (.float x :: st) := fun h H locs ls a b c d => lv_f2i C.1 C.2.1 dg (k h H locs ls a b c d)
theorem y_fdiv (C : Cx Ω κ own cc) {x y : UInt32} (dg : decode cc pc = .ok (.fdiv, 1)) (hn : vf_n32 (FP.fdiv x y)) (k : Y Ω κ Φ hR cs sl (pc + 1) L (.float (FP.fdiv x y) :: st)) : Y Ω κ Φ hR cs sl pc L (.float y :: .float x :: st) := fun h H locs ls a b c d => lv_fdiv C.1 C.2.1 dg hn (k h H locs ls a b c d)
theorem y_joinX {pcj : Nat} {P : Int32 → Prop} (k : ∀ v, P v → Y Ω κ Φ hR cs sl pcj L (.int v :: st)) (b : (∀ v, P v → Y Ω κ Φ hR cs sl pcj L (.int v :: st)) → Y Ω κ Φ hR cs sl pc L st) : Y Ω κ Φ hR cs sl pc L st := b k
end YFLOAT
def mixI (σ : ZT) (τ : JT) (k : Nat) : Int32 := if σ 6 k = 0 then iv 0 else FP.f2i (FP.fdiv (FP.l2f (τ 13 k)) (FP.i2f (iv (σ 6 k))))
set_option maxRecDepth 20000 in
theorem mt_mix {Ω : OmT} {hR : AH} {M : Nat} {ma : Nat → Nat} {σ : ZT} {τ : JT} (ns nc nl : Nat) (hwf : Wf σ ns nc nl) (s : ZT) (hs : s = zu σ 0 0 0) (x : Int) (h_x : -2147483648 ≤ x ∧ x < 2147483648)  : Ct Ω yX5_mix cX5_mix 2 (some FieldType.int) (rk 3) [.ref M, .int (iv x)] (InvM Ω M ma σ τ) hR (FR (soK σ x) (.int (mixI s τ x.toNat)) (.int (iv 0)) (InvM Ω M ma (s) (τ)) (InvM Ω M ma (zu σ 0 0 (soK σ x)) τ)) NX := by
  refine Ct.of (own := RX5) (L := [(0, _), (1, _)]) (by decide +kernel) rfl (Nat.le_of_ble_eq_true rfl) rfl ?_
  intro κ C hn E hi
  have hsf : ∀ f, f ≠ 0 → s f = σ f := fun f hf => by rw [hs, zu_n hf]
  have hws := wf_0 hsf hwf
  have e2 := hws.1
  have e16 := hws.2.2.1
  have e27 := hws.2.2.2.2.1.1
  have o2 := hwf.1
  have o16 := hwf.2.2.1
  have o27 := hwf.2.2.2.2.1.1
  have hnow := hwf.2.2.2.2.2.1.2
  have e1 : s 1 0 = σ 1 0 := by rw [hsf 1 (by omega)]
  have hs2 := hwf.2.1
  have hc2 := hwf.2.2.2.1
  have hl2 := hwf.2.2.2.2.1.2.1
  have hKb : 0 ≤ soK σ x ∧ soK σ x ≤ 3 := by unfold soK; split <;> (try split) <;> (try split) <;> omega
  refine y_aload_n (pc := 0) C dX5_mix_0 0 rfl ?_
  refine y_joinI (pcj := 14) (P := fun q => q = soK σ x) (fun v1 hv1 => ?_) (fun J1 => ?_)
  · skip
    subst hv1
    refine y_callV (pc := 14) (As := [_]) C E.2.1 cv_X5_133 (ci := 6) rfl rfl (mt_holds _ ⟨by omega, by omega⟩) (fun h hh => ⟨_, hh.1⟩) rfl rfl (Nat.le_of_ble_eq_true rfl) ⟨by decide, by decide, by decide, by decide⟩ dX5_mix_14 ⟨rfl, rfl⟩ ?_
    refine y_ifb_ne (pc := 17) (tgt := 22) C dX5_mix_17 (by decide) (fun c17 => ?_) (fun c17 => ?_)
    · skip
      have hK : soK σ x = 0 := of_decide_eq_true c17
      rw [hK, ← hs]
      have hG := if1 hK
      have hG1 := hG.1
      obtain ⟨k, rfl⟩ : ∃ k : Nat, x = k := ⟨x.toNat, by omega⟩
      have hsk := hws.2.2.2.2.2.2.1 k (by omega)
      have hst0 := hsk.1
      unfold StO0 at hst0
      have hrm := st_room hsk.1
      refine y_joinX (pcj := 51) (P := fun q => q = mixI s τ k) (fun v2 hv2 => ?_) (fun J2 => ?_)
      · skip
        subst hv2
        exact y_iret (pc := 51) C E dX5_mix_51 (by decide) (by decide) (fun h hh => Or.inl ⟨hK, rfl, hh⟩)
      · skip
        refine y_aload_n (pc := 22) C dX5_mix_22 0 rfl ?_
        refine y_get (pc := 23) C fg_X5_19 dX5_mix_23 (fun h hh => ⟨_, hh.1, rfl⟩) ?_
        refine y_iload_n (pc := 26) C dX5_mix_26 1 rfl ?_
        refine m_iald (pc := 27) C 6 k rfl rfl (by show _ < 5; omega) dX5_mix_27 ?_
        refine y_if_ne (pc := 28) (tgt := 35) C dX5_mix_28 (by decide) (by omega) (by omega) (fun c28 => ?_) (fun c28 => ?_)
        · skip
          refine y_aload_n (pc := 35) C dX5_mix_35 0 rfl ?_
          refine y_get (pc := 36) C fg_X5_40 dX5_mix_36 (fun h hh => ⟨_, hh.1, rfl⟩) ?_
          refine y_iload_n (pc := 39) C dX5_mix_39 1 rfl ?_
          refine m_lald (pc := 40) C 13 k rfl rfl (by show _ < 5; omega) dX5_mix_40 ?_
          refine y_l2f (pc := 41) C dX5_mix_41 ?_
          refine y_aload_n (pc := 42) C dX5_mix_42 0 rfl ?_
          refine y_get (pc := 43) C fg_X5_19 dX5_mix_43 (fun h hh => ⟨_, hh.1, rfl⟩) ?_
          refine y_iload_n (pc := 46) C dX5_mix_46 1 rfl ?_
          refine m_iald (pc := 47) C 6 k rfl rfl (by show _ < 5; omega) dX5_mix_47 ?_
          refine y_i2f (pc := 48) C dX5_mix_48 ?_
          have hdn : iv (s 6 k) ≠ 0 := by rw [← iv_0]; exact fun q => c28 ((iv_eq (by omega) (by omega) (by decide) (by decide)).mp q)
          refine y_fdiv (pc := 49) C dX5_mix_49 (div_n hdn) ?_
          refine y_f2i (pc := 50) C dX5_mix_50 ?_
          exact J2 _ (by unfold mixI; first | exact (if_pos c28).symm | exact (if_neg c28).symm)
        · skip
          refine y_iconst (pc := 31) C dX5_mix_31 ?_
          refine y_goto (pc := 32) (tgt := 51) C dX5_mix_32 (by decide) ?_
          exact J2 _ (by unfold mixI; first | exact (if_pos c28).symm | exact (if_neg c28).symm)
    · skip
      have hK9 : ¬ soK σ x = 0 := of_decide_eq_false c17
      refine y_iconst (pc := 20) C dX5_mix_20 ?_
      exact y_iret (pc := 21) C E dX5_mix_21 (by decide) (by decide) (fun h hh => Or.inr ⟨hK9, rfl, hh⟩)
  · skip
    refine y_aload_n (pc := 1) C dX5_mix_1 0 rfl ?_
    refine y_iload_n (pc := 2) C dX5_mix_2 1 rfl ?_
    refine y_callV (pc := 3) (As := [_]) C E.2.1 cv_X5_140 (ci := 6) rfl rfl (mt_isStore _ ⟨by omega, by omega⟩ ⟨by omega, by omega⟩) (fun h hh => ⟨_, hh.1⟩) rfl rfl (Nat.le_of_ble_eq_true rfl) ⟨by decide, by decide, by decide, by decide⟩ dX5_mix_3 ⟨rfl, rfl⟩ ?_
    refine y_ifb_eq (pc := 6) (tgt := 13) C dX5_mix_6 (by decide) (fun c6 => ?_) (fun c6 => ?_)
    · skip
      refine y_iconst (pc := 13) C dX5_mix_13 ?_
      exact J1 _ (by (try simp only [decide_eq_true_eq, decide_eq_false_iff_not] at c6); unfold soK; split <;> (try split) <;> (try split) <;> omega)
    · skip
      refine y_iconst (pc := 9) C dX5_mix_9 ?_
      refine y_goto (pc := 10) (tgt := 14) C dX5_mix_10 (by decide) ?_
      exact J1 _ (by (try simp only [decide_eq_true_eq, decide_eq_false_iff_not] at c6); unfold soK; split <;> (try split) <;> (try split) <;> omega)

def ds6 : List Value := [.int 0, .int 0, .int 0, .null, .null, .null, .null, .null, .null, .null, .null, .null, .null, .null, .null, .int 0, .int 0, .null, .null, .null, .null, .null, .null, .null, .null, .null, .null, .int 0, .null, .null, .null, .int 0, .int 0, .long 0, .long 0, .long 0, .null, .null, .null, .null]
def σi : ZT := fun f _ => if f = 15 then 10000 else 0
def τi : JT := fun _ _ => 0
def IniM (Ω : OmT) (M n : Nat) (ma : Nat → Nat) (h : AH) : Prop := h M = some (.inr (6, (mfs ma σi τi).take n ++ ds6.drop n)) ∧ (∀ f, f < n → mI f = true → h (ma f) = some (.inl (OmI Ω, mlen f, .inl (fun _ => 0)))) ∧ (∀ f, f < n → mJ f = true → h (ma f) = some (.inl (OmJ Ω, mlen f, .inr (.inl (fun _ => 0))))) ∧
  (∀ f g, f < n → g < n → mI f = true → mI g = true → ma f = ma g → f = g) ∧ (∀ f g, f < n → g < n → mJ f = true → mJ g = true → ma f = ma g → f = g)
def ma1 (ma : Nat → Nat) (n a : Nat) : Nat → Nat := fun f => if f = n then a else ma f
theorem ma1_n {ma : Nat → Nat} {n a f : Nat} (h : f < n) : ma1 ma n a f = ma f := if_neg (by omega)
theorem ma1_s {ma : Nat → Nat} {n a : Nat} : ma1 ma n a n = a := if_pos rfl
theorem IniM.skip {Ω : OmT} {M n n' : Nat} {ma : Nat → Nat} {h : AH} (i : IniM Ω M n ma h) (hl : (mfs ma σi τi).take n' ++ ds6.drop n' = (mfs ma σi τi).take n ++ ds6.drop n) (hf : ∀ f, f < n' → n ≤ f → mI f = false ∧ mJ f = false) : IniM Ω M n' ma h := by
  have q : ∀ f, f < n' → mI f = true → f < n := fun f h1 h2 => Nat.lt_of_not_le (fun z => by rw [(hf f h1 z).1] at h2; cases h2)
  have r : ∀ f, f < n' → mJ f = true → f < n := fun f h1 h2 => Nat.lt_of_not_le (fun z => by rw [(hf f h1 z).2] at h2; cases h2)
  exact ⟨by rw [hl]; exact i.1, fun f h1 h2 => i.2.1 f (q f h1 h2) h2, fun f h1 h2 => i.2.2.1 f (r f h1 h2) h2, fun f g h1 h2 h3 h4 => i.2.2.2.1 f g (q f h1 h3) (q g h2 h4) h3 h4, fun f g h1 h2 h3 h4 => i.2.2.2.2 f g (r f h1 h3) (r g h2 h4) h3 h4⟩
theorem IniM.newI {Ω : OmT} {M n a : Nat} {ma : Nat → Nat} {h : AH} (i : IniM Ω M n ma h) (ha : h a = none) (hn : mI n = true) (hl : ((mfs ma σi τi).take n ++ ds6.drop n).set n (.ref a) = (mfs (ma1 ma n a) σi τi).take (n + 1) ++ ds6.drop (n + 1)) :
    IniM Ω M (n + 1) (ma1 ma n a) (hset (hset h a (.inl (OmI Ω, mlen n, .inl (fun _ => 0)))) M (.inr (6, ((mfs ma σi τi).take n ++ ds6.drop n).set n (.ref a)))) := by
  obtain ⟨h1, h2, h3, h4, h5⟩ := i
  have nM : M ≠ a := fun q => by rw [q, ha] at h1; cases h1
  have na : ∀ {b : Nat} {e : va_E}, h b = some e → b ≠ a := fun hb q => by rw [q, ha] at hb; cases hb
  refine ⟨by rw [hset_s, hl], fun f hf hm => ?_, fun f hf hm => ?_, fun f g hf hg q1 q2 e => ?_, fun f g hf hg q1 q2 e => ?_⟩
  · by_cases e : f = n
    · subst e
      rw [ma1_s, hset_n (fun q => nM q.symm), hset_s]
    · have hf' : f < n := by omega
      have q := h2 f hf' hm
      rw [ma1_n hf', hset_n (fun z => by rw [z, h1] at q; cases q), hset_n (na q)]; exact q
  · have hf' : f < n := Nat.lt_of_le_of_ne (Nat.le_of_lt_succ hf) (fun z => by subst z; exact absurd rfl (mIJ hn hm))
    have q := h3 f hf' hm
    rw [ma1_n hf', hset_n (fun z => by rw [z, h1] at q; cases q), hset_n (na q)]; exact q
  · by_cases e1 : f = n
    · by_cases e2 : g = n
      · rw [e1, e2]
      · subst e1; rw [ma1_s, ma1_n (by omega)] at e
        exact absurd e.symm (na (h2 g (by omega) q2))
    · by_cases e2 : g = n
      · subst e2; rw [ma1_s, ma1_n (by omega)] at e
        exact absurd e (na (h2 f (by omega) q1))
      · rw [ma1_n (by omega), ma1_n (by omega)] at e; exact h4 f g (by omega) (by omega) q1 q2 e
  · have hf' : f < n := Nat.lt_of_le_of_ne (Nat.le_of_lt_succ hf) (fun z => by subst z; exact absurd rfl (mIJ hn q1))
    have hg' : g < n := Nat.lt_of_le_of_ne (Nat.le_of_lt_succ hg) (fun z => by subst z; exact absurd rfl (mIJ hn q2))
    rw [ma1_n hf', ma1_n hg'] at e; exact h5 f g hf' hg' q1 q2 e
theorem IniM.newJ {Ω : OmT} {M n a : Nat} {ma : Nat → Nat} {h : AH} (i : IniM Ω M n ma h) (ha : h a = none) (hn : mJ n = true) (hl : ((mfs ma σi τi).take n ++ ds6.drop n).set n (.ref a) = (mfs (ma1 ma n a) σi τi).take (n + 1) ++ ds6.drop (n + 1)) :
    IniM Ω M (n + 1) (ma1 ma n a) (hset (hset h a (.inl (OmJ Ω, mlen n, .inr (.inl (fun _ => 0))))) M (.inr (6, ((mfs ma σi τi).take n ++ ds6.drop n).set n (.ref a)))) := by
  obtain ⟨h1, h2, h3, h4, h5⟩ := i
  have nM : M ≠ a := fun q => by rw [q, ha] at h1; cases h1
  have na : ∀ {b : Nat} {e : va_E}, h b = some e → b ≠ a := fun hb q => by rw [q, ha] at hb; cases hb
  refine ⟨by rw [hset_s, hl], fun f hf hm => ?_, fun f hf hm => ?_, fun f g hf hg q1 q2 e => ?_, fun f g hf hg q1 q2 e => ?_⟩
  · have hf' : f < n := Nat.lt_of_le_of_ne (Nat.le_of_lt_succ hf) (fun z => by subst z; exact absurd rfl (mIJ hm hn))
    have q := h2 f hf' hm
    rw [ma1_n hf', hset_n (fun z => by rw [z, h1] at q; cases q), hset_n (na q)]; exact q
  · by_cases e : f = n
    · subst e
      rw [ma1_s, hset_n (fun q => nM q.symm), hset_s]
    · have hf' : f < n := by omega
      have q := h3 f hf' hm
      rw [ma1_n hf', hset_n (fun z => by rw [z, h1] at q; cases q), hset_n (na q)]; exact q
  · have hf' : f < n := Nat.lt_of_le_of_ne (Nat.le_of_lt_succ hf) (fun z => by subst z; exact absurd rfl (mIJ q1 hn))
    have hg' : g < n := Nat.lt_of_le_of_ne (Nat.le_of_lt_succ hg) (fun z => by subst z; exact absurd rfl (mIJ q2 hn))
    rw [ma1_n hf', ma1_n hg'] at e; exact h4 f g hf' hg' q1 q2 e
  · by_cases e1 : f = n
    · by_cases e2 : g = n
      · rw [e1, e2]
      · subst e1; rw [ma1_s, ma1_n (by omega)] at e
        exact absurd e.symm (na (h3 g (by omega) q2))
    · by_cases e2 : g = n
      · subst e2; rw [ma1_s, ma1_n (by omega)] at e
        exact absurd e (na (h3 f (by omega) q1))
      · rw [ma1_n (by omega), ma1_n (by omega)] at e; exact h5 f g (by omega) (by omega) q1 q2 e
theorem IniM.put15 {Ω : OmT} {M : Nat} {ma : Nat → Nat} {h : AH} (i : IniM Ω M 15 ma h) : IniM Ω M 17 ma (hset h M (.inr (6, ((mfs ma σi τi).take 15 ++ ds6.drop 15).set 15 (.int (iv 10000))))) := by
  obtain ⟨h1, h2, h3, h4, h5⟩ := i
  have q : ∀ f, f < 17 → mI f = true → f < 15 := fun f a b => Nat.lt_of_not_le (fun z => (show f = 15 ∨ f = 16 by omega).elim (fun e => by subst e; cases b) (fun e => by subst e; cases b))
  have r : ∀ f, f < 17 → mJ f = true → f < 15 := fun f a b => Nat.lt_of_not_le (fun z => (show f = 15 ∨ f = 16 by omega).elim (fun e => by subst e; cases b) (fun e => by subst e; cases b))
  refine ⟨by rw [hset_s]; rfl, fun f a b => ?_, fun f a b => ?_, fun f g a b c d => h4 f g (q f a c) (q g b d) c d, fun f g a b c d => h5 f g (r f a c) (r g b d) c d⟩
  · exact hset_d (h2 f (q f a b) b) h1 va_ie
  · exact hset_d (h3 f (r f a b) b) h1 va_ie
theorem IniM.done {Ω : OmT} {M : Nat} {ma : Nat → Nat} {h : AH} (i : IniM Ω M 40 ma h) : InvM Ω M ma σi τi h := by
  obtain ⟨h1, h2, h3, h4, h5⟩ := i
  refine ⟨h1, fun f hf => ?_, fun f hf => ?_, fun f g a b => h4 f g (mI_lt a) (mI_lt b) a b, fun f g a b => ?_⟩
  · rw [h2 f (mI_lt hf) hf, show (fun k => iv (σi f k)) = fun _ => 0 from funext fun k => by
      show iv (if f = 15 then 10000 else 0) = 0
      rw [if_neg (fun q => mIS hf (g := 15) rfl q), iv_0]]
  · have : f < 40 := by have q := of_decide_eq_true hf; simp only [List.mem_cons, List.not_mem_nil, or_false] at q; omega
    exact h3 f this hf
  · have a1 : f < 40 := by have q := of_decide_eq_true a; simp only [List.mem_cons, List.not_mem_nil, or_false] at q; omega
    have b1 : g < 40 := by have q := of_decide_eq_true b; simp only [List.mem_cons, List.not_mem_nil, or_false] at q; omega
    exact h5 f g a1 b1 a b
section YINI
variable {Ω : OmT} {κ : KxT} {hR : AH} {cs sl pc M : Nat} {L : List (Nat × Value)} {st : List Value} {own : String} {cc : ByteArray} {rm : Room} {Ψ : Option Value → AH → Prop} {Ξ : String → AH → Prop} {ret : Option FieldType}
theorem m_iniI (C : Cx Ω κ own cc) (E : Ce Ω κ ret rm hR Ψ Ξ) (hi0 : (kt κ).name = "<init>") {idx : Nat} (n : Nat) (hn : mI n = true) {z : Int} (hz : z = mlen n) (ff : FF own idx 6 n (.array .int)) (w : Cond.arrayClass .int ∈ AW) (d1 : decode cc pc = .ok (.newarray .int, 2)) (d2 : decode cc (pc + 2) = .ok (.putfield idx, 3)) (hc : cs + 1 ≤ rm.cells) (hs : sl + mlen n ≤ rm.slots)
    (hl : ∀ ma a, ((mfs ma σi τi).take n ++ ds6.drop n).set n (.ref a) = (mfs (ma1 ma n a) σi τi).take (n + 1) ++ ds6.drop (n + 1))
    (kk : Y Ω κ (fun h => ∃ ma, IniM Ω M (n + 1) ma h) hR (cs + 1) (sl + mlen n) (pc + 2 + 3) L st) : Y Ω κ (fun h => ∃ ma, IniM Ω M n ma h) hR cs sl pc L (.int (iv z) :: .ref M :: st) := by
  refine Y.ex fun ma => ?_
  refine y_newI C w d1 hz (by have := mI_lt hn; unfold mlen; split <;> first | omega | (split <;> first | omega | (split <;> first | omega | (split <;> omega)))) (by rw [E.2.1]; exact hc) (by rw [E.2.1]; exact hs) (fun a => ?_)
  refine y_putF C hi0 ff d2 rfl rfl (fun h hh => ?_) kk
  obtain ⟨h0, i, ha, -, rfl⟩ := hh
  refine ⟨(mfs ma σi τi).take n ++ ds6.drop n, ?_, ?_, _, i.newI ha hn (hl ma a)⟩
  · rw [hset_n (fun q => by have q1 := i.1; rw [q, ha] at q1; cases q1)]; exact i.1
  · have := mI_lt hn
    rw [List.length_append, List.length_take, List.length_drop, show (mfs ma σi τi).length = 40 from rfl, show ds6.length = 40 from rfl]; omega
theorem m_iniJ (C : Cx Ω κ own cc) (E : Ce Ω κ ret rm hR Ψ Ξ) (hi0 : (kt κ).name = "<init>") {idx : Nat} (n : Nat) (hn : mJ n = true) {z : Int} (hz : z = mlen n) (ff : FF own idx 6 n (.array .long)) (w : Cond.arrayClass .long ∈ AW) (d1 : decode cc pc = .ok (.newarray .long, 2)) (d2 : decode cc (pc + 2) = .ok (.putfield idx, 3)) (hc : cs + 1 ≤ rm.cells) (hs : sl + mlen n ≤ rm.slots)
    (hl : ∀ ma a, ((mfs ma σi τi).take n ++ ds6.drop n).set n (.ref a) = (mfs (ma1 ma n a) σi τi).take (n + 1) ++ ds6.drop (n + 1))
    (kk : Y Ω κ (fun h => ∃ ma, IniM Ω M (n + 1) ma h) hR (cs + 1) (sl + mlen n) (pc + 2 + 3) L st) : Y Ω κ (fun h => ∃ ma, IniM Ω M n ma h) hR cs sl pc L (.int (iv z) :: .ref M :: st) := by
  have hlt : n < 40 := by have q := of_decide_eq_true hn; simp only [List.mem_cons, List.not_mem_nil, or_false] at q; omega
  refine Y.ex fun ma => ?_
  refine y_newJ C w d1 hz (by unfold mlen; split <;> first | omega | (split <;> first | omega | (split <;> first | omega | (split <;> omega)))) (by rw [E.2.1]; exact hc) (by rw [E.2.1]; exact hs) (fun a => ?_)
  refine y_putF C hi0 ff d2 rfl rfl (fun h hh => ?_) kk
  obtain ⟨h0, i, ha, -, rfl⟩ := hh
  refine ⟨(mfs ma σi τi).take n ++ ds6.drop n, ?_, ?_, _, i.newJ ha hn (hl ma a)⟩
  · rw [hset_n (fun q => by have q1 := i.1; rw [q, ha] at q1; cases q1)]; exact i.1
  · rw [List.length_append, List.length_take, List.length_drop, show (mfs ma σi τi).length = 40 from rfl, show ds6.length = 40 from rfl]; omega
end YINI
set_option maxRecDepth 20000 in
theorem mt_init {Ω : OmT} {hR : AH} {M : Nat} : Ct Ω yX5_init cX5_init 1 none (rkc 2 29 640) [.ref M] (fun h => h M = some (.inr (6, ds6))) hR (RU (fun h => ∃ ma, InvM Ω M ma σi τi h)) NX := by
  refine Ct.of (own := RX5) (L := [(0, _)]) (by decide +kernel) rfl (Nat.le_of_ble_eq_true rfl) rfl ?_
  intro κ C hn E hi
  have hi0 := hi rfl
  refine Y.imp (Φ' := fun h => ∃ ma, IniM Ω M 3 ma h) (fun h hh => ⟨fun _ => 0, hh.trans (by rfl), fun f hf q => absurd q (by have : f = 0 ∨ f = 1 ∨ f = 2 := (by omega); rcases this with rfl | rfl | rfl <;> decide), fun f hf q => absurd q (by have : f = 0 ∨ f = 1 ∨ f = 2 := (by omega); rcases this with rfl | rfl | rfl <;> decide), fun f g hf hg q => absurd q (by have : f = 0 ∨ f = 1 ∨ f = 2 := (by omega); rcases this with rfl | rfl | rfl <;> decide), fun f g hf hg q => absurd q (by have : f = 0 ∨ f = 1 ∨ f = 2 := (by omega); rcases this with rfl | rfl | rfl <;> decide)⟩) ?_
  refine y_aload_n (pc := 0) C dX5_init_0 0 rfl ?_
  refine y_objI (pc := 1) C E.2.1 aw_4_48 aw_1_28 aw_1_29 (by decide) (by decide) dX5_init_1 ?_
  refine y_aload_n (pc := 4) C dX5_init_4 0 rfl ?_
  refine y_iconst (pc := 5) C dX5_init_5 ?_
  refine m_iniI (pc := 6) C E hi0 3 rfl rfl ff_X5_7 aw_1_66 dX5_init_6 dX5_init_8 (by decide) (by decide) (fun _ _ => rfl) ?_
  refine y_aload_n (pc := 11) C dX5_init_11 0 rfl ?_
  refine y_iconst (pc := 12) C dX5_init_12 ?_
  refine m_iniI (pc := 13) C E hi0 4 rfl rfl ff_X5_13 aw_1_66 dX5_init_13 dX5_init_15 (by decide) (by decide) (fun _ _ => rfl) ?_
  refine y_aload_n (pc := 18) C dX5_init_18 0 rfl ?_
  refine y_iconst (pc := 19) C dX5_init_19 ?_
  refine m_iniI (pc := 20) C E hi0 5 rfl rfl ff_X5_16 aw_1_66 dX5_init_20 dX5_init_22 (by decide) (by decide) (fun _ _ => rfl) ?_
  refine y_aload_n (pc := 25) C dX5_init_25 0 rfl ?_
  refine y_iconst (pc := 26) C dX5_init_26 ?_
  refine m_iniI (pc := 27) C E hi0 6 rfl rfl ff_X5_19 aw_1_66 dX5_init_27 dX5_init_29 (by decide) (by decide) (fun _ _ => rfl) ?_
  refine y_aload_n (pc := 32) C dX5_init_32 0 rfl ?_
  refine y_iconst (pc := 33) C dX5_init_33 ?_
  refine m_iniI (pc := 34) C E hi0 7 rfl rfl ff_X5_22 aw_1_66 dX5_init_34 dX5_init_36 (by decide) (by decide) (fun _ _ => rfl) ?_
  refine y_aload_n (pc := 39) C dX5_init_39 0 rfl ?_
  refine y_iconst (pc := 40) C dX5_init_40 ?_
  refine m_iniI (pc := 41) C E hi0 8 rfl rfl ff_X5_25 aw_1_66 dX5_init_41 dX5_init_43 (by decide) (by decide) (fun _ _ => rfl) ?_
  refine y_aload_n (pc := 46) C dX5_init_46 0 rfl ?_
  refine y_iconst (pc := 47) C dX5_init_47 ?_
  refine m_iniI (pc := 48) C E hi0 9 rfl rfl ff_X5_28 aw_1_66 dX5_init_48 dX5_init_50 (by decide) (by decide) (fun _ _ => rfl) ?_
  refine y_aload_n (pc := 53) C dX5_init_53 0 rfl ?_
  refine y_iconst (pc := 54) C dX5_init_54 ?_
  refine m_iniI (pc := 55) C E hi0 10 rfl rfl ff_X5_31 aw_1_66 dX5_init_55 dX5_init_57 (by decide) (by decide) (fun _ _ => rfl) ?_
  refine y_aload_n (pc := 60) C dX5_init_60 0 rfl ?_
  refine y_iconst (pc := 61) C dX5_init_61 ?_
  refine m_iniI (pc := 62) C E hi0 11 rfl rfl ff_X5_34 aw_1_66 dX5_init_62 dX5_init_64 (by decide) (by decide) (fun _ _ => rfl) ?_
  refine y_aload_n (pc := 67) C dX5_init_67 0 rfl ?_
  refine y_iconst (pc := 68) C dX5_init_68 ?_
  refine m_iniI (pc := 69) C E hi0 12 rfl rfl ff_X5_37 aw_1_66 dX5_init_69 dX5_init_71 (by decide) (by decide) (fun _ _ => rfl) ?_
  refine y_aload_n (pc := 74) C dX5_init_74 0 rfl ?_
  refine y_iconst (pc := 75) C dX5_init_75 ?_
  refine m_iniJ (pc := 76) C E hi0 13 rfl rfl ff_X5_40 aw_4_170 dX5_init_76 dX5_init_78 (by decide) (by decide) (fun _ _ => rfl) ?_
  refine y_aload_n (pc := 81) C dX5_init_81 0 rfl ?_
  refine y_iconst (pc := 82) C dX5_init_82 ?_
  refine m_iniI (pc := 83) C E hi0 14 rfl rfl ff_X5_44 aw_1_66 dX5_init_83 dX5_init_85 (by decide) (by decide) (fun _ _ => rfl) ?_
  refine y_aload_n (pc := 88) C dX5_init_88 0 rfl ?_
  refine y_sipush (pc := 89) (z := 10000) C dX5_init_89 (by decide) ?_
  refine Y.ex fun ma => ?_
  refine y_put (pc := 92) (Φ' := fun h => ∃ ma, IniM Ω M 17 ma h) C fp_X5_47 dX5_init_92 rfl rfl (fun h hh => ⟨_, hh.1, by rw [List.length_append, List.length_take, List.length_drop, show (mfs ma σi τi).length = 40 from rfl, show ds6.length = 40 from rfl]; omega, ⟨ma, hh.put15⟩⟩) ?_
  refine y_aload_n (pc := 95) C dX5_init_95 0 rfl ?_
  refine y_bipush (pc := 96) (z := 6) C dX5_init_96 (by decide) ?_
  refine m_iniI (pc := 98) C E hi0 17 rfl rfl ff_X5_51 aw_1_66 dX5_init_98 dX5_init_100 (by decide) (by decide) (fun _ _ => rfl) ?_
  refine y_aload_n (pc := 103) C dX5_init_103 0 rfl ?_
  refine y_bipush (pc := 104) (z := 6) C dX5_init_104 (by decide) ?_
  refine m_iniI (pc := 106) C E hi0 18 rfl rfl ff_X5_54 aw_1_66 dX5_init_106 dX5_init_108 (by decide) (by decide) (fun _ _ => rfl) ?_
  refine y_aload_n (pc := 111) C dX5_init_111 0 rfl ?_
  refine y_bipush (pc := 112) (z := 6) C dX5_init_112 (by decide) ?_
  refine m_iniI (pc := 114) C E hi0 19 rfl rfl ff_X5_57 aw_1_66 dX5_init_114 dX5_init_116 (by decide) (by decide) (fun _ _ => rfl) ?_
  refine y_aload_n (pc := 119) C dX5_init_119 0 rfl ?_
  refine y_bipush (pc := 120) (z := 6) C dX5_init_120 (by decide) ?_
  refine m_iniI (pc := 122) C E hi0 20 rfl rfl ff_X5_60 aw_1_66 dX5_init_122 dX5_init_124 (by decide) (by decide) (fun _ _ => rfl) ?_
  refine y_aload_n (pc := 127) C dX5_init_127 0 rfl ?_
  refine y_bipush (pc := 128) (z := 6) C dX5_init_128 (by decide) ?_
  refine m_iniI (pc := 130) C E hi0 21 rfl rfl ff_X5_63 aw_1_66 dX5_init_130 dX5_init_132 (by decide) (by decide) (fun _ _ => rfl) ?_
  refine y_aload_n (pc := 135) C dX5_init_135 0 rfl ?_
  refine y_bipush (pc := 136) (z := 6) C dX5_init_136 (by decide) ?_
  refine m_iniJ (pc := 138) C E hi0 22 rfl rfl ff_X5_66 aw_4_170 dX5_init_138 dX5_init_140 (by decide) (by decide) (fun _ _ => rfl) ?_
  refine y_aload_n (pc := 143) C dX5_init_143 0 rfl ?_
  refine y_bipush (pc := 144) (z := 6) C dX5_init_144 (by decide) ?_
  refine m_iniJ (pc := 146) C E hi0 23 rfl rfl ff_X5_69 aw_4_170 dX5_init_146 dX5_init_148 (by decide) (by decide) (fun _ _ => rfl) ?_
  refine y_aload_n (pc := 151) C dX5_init_151 0 rfl ?_
  refine y_bipush (pc := 152) (z := 6) C dX5_init_152 (by decide) ?_
  refine m_iniJ (pc := 154) C E hi0 24 rfl rfl ff_X5_72 aw_4_170 dX5_init_154 dX5_init_156 (by decide) (by decide) (fun _ _ => rfl) ?_
  refine y_aload_n (pc := 159) C dX5_init_159 0 rfl ?_
  refine y_sipush (pc := 160) (z := 384) C dX5_init_160 (by decide) ?_
  refine m_iniI (pc := 163) C E hi0 25 rfl rfl ff_X5_75 aw_1_66 dX5_init_163 dX5_init_165 (by decide) (by decide) (fun _ _ => rfl) ?_
  refine y_aload_n (pc := 168) C dX5_init_168 0 rfl ?_
  refine y_bipush (pc := 169) (z := 64) C dX5_init_169 (by decide) ?_
  refine m_iniI (pc := 171) C E hi0 26 rfl rfl ff_X5_78 aw_1_66 dX5_init_171 dX5_init_173 (by decide) (by decide) (fun _ _ => rfl) ?_
  refine y_aload_n (pc := 176) C dX5_init_176 0 rfl ?_
  refine y_bipush (pc := 177) (z := 20) C dX5_init_177 (by decide) ?_
  refine Y.imp (Φ' := fun h => ∃ ma, IniM Ω M 28 ma h) (fun h hh => hh.imp fun ma q => q.skip (n' := 28) (by rfl) (by decide)) ?_
  refine m_iniI (pc := 179) C E hi0 28 rfl rfl ff_X5_81 aw_1_66 dX5_init_179 dX5_init_181 (by decide) (by decide) (fun _ _ => rfl) ?_
  refine y_aload_n (pc := 184) C dX5_init_184 0 rfl ?_
  refine y_bipush (pc := 185) (z := 20) C dX5_init_185 (by decide) ?_
  refine m_iniI (pc := 187) C E hi0 29 rfl rfl ff_X5_84 aw_1_66 dX5_init_187 dX5_init_189 (by decide) (by decide) (fun _ _ => rfl) ?_
  refine y_aload_n (pc := 192) C dX5_init_192 0 rfl ?_
  refine y_bipush (pc := 193) (z := 20) C dX5_init_193 (by decide) ?_
  refine m_iniI (pc := 195) C E hi0 30 rfl rfl ff_X5_87 aw_1_66 dX5_init_195 dX5_init_197 (by decide) (by decide) (fun _ _ => rfl) ?_
  refine y_aload_n (pc := 200) C dX5_init_200 0 rfl ?_
  refine y_bipush (pc := 201) (z := 6) C dX5_init_201 (by decide) ?_
  refine Y.imp (Φ' := fun h => ∃ ma, IniM Ω M 36 ma h) (fun h hh => hh.imp fun ma q => q.skip (n' := 36) (by rfl) (by decide)) ?_
  refine m_iniI (pc := 203) C E hi0 36 rfl rfl ff_X5_90 aw_1_66 dX5_init_203 dX5_init_205 (by decide) (by decide) (fun _ _ => rfl) ?_
  refine y_aload_n (pc := 208) C dX5_init_208 0 rfl ?_
  refine y_bipush (pc := 209) (z := 6) C dX5_init_209 (by decide) ?_
  refine m_iniI (pc := 211) C E hi0 37 rfl rfl ff_X5_93 aw_1_66 dX5_init_211 dX5_init_213 (by decide) (by decide) (fun _ _ => rfl) ?_
  refine y_aload_n (pc := 216) C dX5_init_216 0 rfl ?_
  refine y_bipush (pc := 217) (z := 6) C dX5_init_217 (by decide) ?_
  refine m_iniI (pc := 219) C E hi0 38 rfl rfl ff_X5_96 aw_1_66 dX5_init_219 dX5_init_221 (by decide) (by decide) (fun _ _ => rfl) ?_
  refine y_aload_n (pc := 224) C dX5_init_224 0 rfl ?_
  refine y_bipush (pc := 225) (z := 6) C dX5_init_225 (by decide) ?_
  refine m_iniI (pc := 227) C E hi0 39 rfl rfl ff_X5_99 aw_1_66 dX5_init_227 dX5_init_229 (by decide) (by decide) (fun _ _ => rfl) ?_
  exact y_vret (pc := 232) C E dX5_init_232 (by decide) (by decide) (fun h hh => ⟨rfl, hh.imp fun ma q => q.done⟩)
