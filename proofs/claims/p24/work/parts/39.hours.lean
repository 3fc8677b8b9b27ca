/-! hours of the class; a switch -/
def hoursX (ns nc nl : Nat) (ξ : XiT) (p : ZT × JT) : Nat → XiT
  | 0 => ξ
  | n + 1 => hourX ns nc nl (hoursX ns nc nl ξ p n) (hours ns nc nl p n).1
theorem hour_f {p : ZT × JT} {ns nc nl : Nat} : (hourP ns nc nl p).1 31 0 = sgnZ (netZ (laysZ p.1 nc nl ns) nc) ∧ (hourP ns nc nl p).1 32 0 = p.1 31 0 ∧ (hourP ns nc nl p).1 1 0 = p.1 1 0 + 1 ∧ (hourP ns nc nl p).1 26 = zu p.1 26 (nowN p.1 % 64) 0 26 := by
  obtain ⟨l, hl⟩ : ∃ l, l = laysZ p.1 nc nl ns := ⟨_, rfl⟩
  obtain ⟨x, hx⟩ : ∃ x, x = netZ l nc := ⟨_, rfl⟩
  obtain ⟨a, ha⟩ : ∃ a, a = setN (flowsP x ns (l, p.2)) nc := ⟨_, rfl⟩
  obtain ⟨t, ht⟩ : ∃ t, t = tickP (leakN (flgZ x a.1, a.2) ns) := ⟨_, rfl⟩
  rw [hourP_e hl hx ha ht]
  have ea : ∀ f, f ≠ 6 → f ≠ 14 → f ≠ 21 → f ≠ 25 → f < 36 → a.1 f = p.1 f := fun f h1 h2 h3 h4 h5 => by
    rw [ha, setN_f h3 h4, flowsP_f h1 h2, hl]
    exact laysZ_f (Or.inl h5)
  have et : ∀ f, f ≠ 1 → f ≠ 6 → t.1 f = flgZ x a.1 f := fun f h1 h2 => by
    rw [ht]
    show zu (leakN (flgZ x a.1, a.2) ns).1 1 0 ((leakN (flgZ x a.1, a.2) ns).1 1 0 + 1) f = _
    rw [zu_n h1, leakN_f h2]
  have eN : nowN a.1 = nowN p.1 := by unfold nowN; rw [ea 1 (by omega) (by omega) (by omega) (by omega) (by omega)]
  have e31 : flgZ x a.1 31 0 = sgnZ x := by unfold flgZ; rw [zu_n (by omega), zu_n (by omega), zu_s]
  have e32 : flgZ x a.1 32 0 = p.1 31 0 := by
    unfold flgZ
    rw [zu_n (by omega), zu_n (by omega), zu_n (by omega), zu_s, ea 31 (by omega) (by omega) (by omega) (by omega) (by omega)]
  have e26 : flgZ x a.1 26 = zu p.1 26 (nowN p.1 % 64) 0 26 := by
    unfold flgZ
    rw [zu_n (by omega), zu_n (by omega), zu_n (by omega), zu_n (by omega), eN]
    funext j
    unfold zu
    rw [ea 26 (by omega) (by omega) (by omega) (by omega) (by omega)]
  have e1 : t.1 1 0 = p.1 1 0 + 1 := by
    have q : (leakN (flgZ x a.1, a.2) ns).1 1 0 = p.1 1 0 := by
      rw [leakN_f (by omega)]
      show flgZ x a.1 1 0 = _
      rw [flg_f (by decide), ea 1 (by omega) (by omega) (by omega) (by omega) (by omega)]
    rw [ht, ← q]; exact zu_s (σ := (leakN (flgZ x a.1, a.2) ns).1) (f := 1) (i := 0)
  have r : ∀ f, f ≠ 4 → f ≠ 5 → f ≠ 6 → (if t.1 1 0 % 24 = 0 then dayN t ns else t).1 f = t.1 f := fun f h1 h2 h3 => by
    split
    · exact dayN_f h1 h2 h3
    · rfl
  rw [r 31 (by omega) (by omega) (by omega), r 32 (by omega) (by omega) (by omega), r 1 (by omega) (by omega) (by omega), r 26 (by omega) (by omega) (by omega), et 31 (by omega) (by omega), et 32 (by omega) (by omega), et 26 (by omega) (by omega), ← hl, ← hx]
  exact ⟨e31, e32, e1, e26⟩
theorem fl_hour {ξ : XiT} {p : ZT × JT} {ns nc nl : Nat} (h : FlOk ξ p.1) : FlOk (hourX ns nc nl ξ p.1) (hourP ns nc nl p).1 := by
  have q := hour_f (p := p) (ns := ns) (nc := nc) (nl := nl)
  unfold FlOk at h ⊢
  rw [q.1, q.2.1, q.2.2.1]
  unfold hourX flowX sgnZ
  generalize netZ (laysZ p.1 nc nl ns) nc = x
  by_cases h1 : 0 < x
  · rw [if_pos h1, if_pos h1, if_neg (by omega)]; dsimp only; omega
  · rw [if_neg h1, if_neg h1]
    by_cases h2 : x < 0
    · rw [if_pos h2, if_pos h2]; dsimp only; omega
    · rw [if_neg h2, if_neg h2]; dsimp only; omega
theorem xi_hour {ξ : XiT} {p : ZT × JT} {ns nc nl : Nat} (h : ∀ j, ξ.1 j = p.1 26 j) : ∀ j, (hourX ns nc nl ξ p.1).1 j = (hourP ns nc nl p).1 26 j := by
  intro j
  rw [(hour_f (p := p)).2.2.2]
  show (if j = nowN p.1 % 64 then 0 else ξ.1 j) = zu p.1 26 (nowN p.1 % 64) 0 26 j
  by_cases q : j = nowN p.1 % 64
  · rw [if_pos q, q, zu_s]
  · rw [if_neg q, zu_j q, h j]
theorem fl_hours {ξ : XiT} {p : ZT × JT} {ns nc nl n : Nat} (h : FlOk ξ p.1) : FlOk (hoursX ns nc nl ξ p n) (hours ns nc nl p n).1 := by
  induction n with
  | zero => exact h
  | succ n ih => exact fl_hour ih
theorem xi_hours {ξ : XiT} {p : ZT × JT} {ns nc nl n : Nat} (h : ∀ j, ξ.1 j = p.1 26 j) : ∀ j, (hoursX ns nc nl ξ p n).1 j = (hours ns nc nl p n).1 26 j := by
  induction n with
  | zero => exact h
  | succ n ih => exact xi_hour ih
section YSWITCH
variable {Ω : OmT} {κ : KxT} {Φ : AH → Prop} {hR : AH} {cs sl pc : Nat} {L : List (Nat × Value)} {st : List Value} {own : String} {cc : ByteArray}
theorem y_tabOut (C : Cx Ω κ own cc) {dflt lo hi : Int} {offs : Array Int} {len : Nat} {x : Int} {tgt : Nat} (dg : decode cc pc = .ok (.tableswitch dflt lo hi offs, len)) (a1 : -2147483648 ≤ x) (a2 : x < 2147483648) (h : x < lo ∨ hi < x) (ht : (pc : Int) + dflt = (tgt : Int)) (k : Y Ω κ Φ hR cs sl tgt L st) : Y Ω κ Φ hR cs sl pc L (.int (iv x) :: st) :=
  fun h' H locs ls a b c d => lv_tableOut C.1 C.2.1 dg (by rw [iv_t a1 a2]; exact h) ht (k h' H locs ls a b c d)
theorem y_tabIn (C : Cx Ω κ own cc) {dflt lo hi : Int} {offs : Array Int} {len : Nat} {x : Int} {off : Int} {tgt : Nat} (dg : decode cc pc = .ok (.tableswitch dflt lo hi offs, len)) (a1 : -2147483648 ≤ x) (a2 : x < 2147483648) (h1 : ¬ x < lo) (h2 : ¬ hi < x) (ho : offs[(x - lo).toNat]? = some off) (ht : (pc : Int) + off = (tgt : Int)) (k : Y Ω κ Φ hR cs sl tgt L st) : Y Ω κ Φ hR cs sl pc L (.int (iv x) :: st) :=
  fun h' H locs ls a b c d => lv_tableIn C.1 C.2.1 dg (by rw [iv_t a1 a2]; exact h1) (by rw [iv_t a1 a2]; exact h2) (by rw [iv_t a1 a2]; exact ho) ht (k h' H locs ls a b c d)
end YSWITCH

