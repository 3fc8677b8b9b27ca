/-! AN HOUR: flows, inventories, losses -/
theorem cu_c {σ s : ZT} {c : Nat} (h : ∀ f, f < 36 → s f = σ f) (k : CuOk σ c) : CuOk s c := by
  unfold CuOk at k ⊢
  rw [h 17 (by omega), h 18 (by omega), h 19 (by omega), h 20 (by omega), h 21 (by omega)]
  exact k
theorem nm_c {σ s : ZT} {n : Nat} (h : ∀ f, f < 36 → s f = σ f) (k : NmOk σ n) : NmOk s n := by
  unfold NmOk at k ⊢
  rw [h 25 (by omega), h 1 (by omega)]
  exact k
theorem lw_c {σ s : ZT} {n : Nat} (h : ∀ f, f < 36 → s f = σ f) (k : LwOk σ n) : LwOk s n := by
  unfold LwOk at k ⊢
  rw [h 27 (by omega), h 28 (by omega), h 29 (by omega), h 30 (by omega)]
  exact k
theorem st0_c {σ s : ZT} {k : Nat} (h : ∀ f, f < 13 → s f k = σ f k) (q : StO0 σ k) : StO0 s k := by
  unfold StO0 at q ⊢
  rw [h 3 (by omega), h 4 (by omega), h 5 (by omega), h 6 (by omega), h 7 (by omega), h 8 (by omega), h 9 (by omega), h 10 (by omega), h 11 (by omega), h 12 (by omega)]
  exact q
theorem st_c {σ s : ZT} {k : Nat} (h : ∀ f, f < 13 → s f k = σ f k) (q : StOk σ k) : StOk s k := by
  refine ⟨st0_c h q.1, ?_⟩
  unfold roomZ
  rw [h 3 (by omega), h 4 (by omega), h 5 (by omega), h 6 (by omega), h 8 (by omega)]
  exact q.2
theorem lawI_c {σ s : ZT} {n : Nat} (h : ∀ f, f < 36 → s f = σ f) : lawI s n = lawI σ n := by
  induction n with
  | zero => rfl
  | succ n ih => unfold lawI; rw [h 28 (by omega), h 1 (by omega), h 29 (by omega), ih]
def Wf (σ : ZT) (ns nc nl : Nat) : Prop := σ 2 0 = ns ∧ ns ≤ 5 ∧ σ 16 0 = nc ∧ nc ≤ 6 ∧ LwOk σ nl ∧ NmOk σ nc ∧ (∀ k, k < ns → StOk σ k) ∧ (∀ c, c < nc → CuOk σ c) ∧ (-1 ≤ σ 31 0 ∧ σ 31 0 ≤ 1) ∧ (-1 ≤ σ 32 0 ∧ σ 32 0 ≤ 1) ∧ (0 ≤ σ 15 0 ∧ σ 15 0 ≤ 20000)
theorem wf_c {σ s : ZT} {ns nc nl : Nat} (h : ∀ f, f < 36 → s f = σ f) (k : Wf σ ns nc nl) : Wf s ns nc nl := by
  obtain ⟨a1, a2, a3, a4, a5, a6, a7, a8, a9, a10, a11⟩ := k
  refine ⟨by rw [h 2 (by omega)]; exact a1, a2, by rw [h 16 (by omega)]; exact a3, a4, lw_c h a5, nm_c h a6, fun k hk => st_c (fun f hf => by rw [h f (by omega)]) (a7 k hk), fun c hc => cu_c h (a8 c hc), by rw [h 31 (by omega)]; exact a9, by rw [h 32 (by omega)]; exact a10, by rw [h 15 (by omega)]; exact a11⟩
theorem lawC_ok {σ : ZT} {nc nl : Nat} (h : PlOk σ nc) : PlOk (lawC σ nc nl) nc := by
  unfold lawC
  split
  · exact h
  · exact cur_ok (by omega) h
theorem inv_sum {σ : ZT} {n : Nat} (h : ∀ c, c < n → CuOk σ c) (hn : n ≤ 6) : 0 ≤ sumZ (σ 21) n ∧ sumZ (σ 21) n ≤ 6000000 ∧ ∀ i, i < n → 0 ≤ σ 21 i ∧ σ 21 i ≤ 1000000 := by
  have q : ∀ i, i < n → 0 ≤ σ 21 i ∧ σ 21 i ≤ 1000000 := fun i hi => by
    have := h i hi
    unfold CuOk at this
    omega
  have a := sumZ_b q
  exact ⟨a.1, by omega, q⟩
def rtN (σ : ZT) (b : Bool) : Nat → ZT
  | 0 => σ
  | k + 1 => zu (rtN σ b k) 14 k (rateZ σ k b)
theorem rtN_f {σ : ZT} {b : Bool} {n f : Nat} (h : f ≠ 14) : rtN σ b n f = σ f := by
  induction n with
  | zero => rfl
  | succ n ih => exact (zu_n h).trans ih
theorem rtN_v {σ : ZT} {b : Bool} {n j : Nat} : (j < n → rtN σ b n 14 j = rateZ σ j b) ∧ (n ≤ j → rtN σ b n 14 j = σ 14 j) := by
  induction n with
  | zero => exact ⟨fun h => absurd h (by omega), fun _ => rfl⟩
  | succ n ih =>
    refine ⟨fun h => ?_, fun h => ?_⟩
    · by_cases e : j = n
      · subst e; exact zu_s
      · exact (zu_j e).trans (ih.1 (by omega))
    · exact (zu_j (by omega)).trans (ih.2 (by omega))
def flP (b : Bool) (p : ZT × JT) (r : Int) : Nat → (ZT × JT) × Int
  | 0 => (p, r)
  | k + 1 => (if b = true then getP k (min (flP b p r k).2 ((flP b p r k).1.1 14 k)) (flP b p r k).1 else losP k (min (flP b p r k).2 ((flP b p r k).1.1 14 k)) (flP b p r k).1, (flP b p r k).2 - min (flP b p r k).2 ((flP b p r k).1.1 14 k))
theorem flP_s {b : Bool} {p : ZT × JT} {r : Int} {k : Nat} : (flP b p r (k + 1)).1.1 = zu (flP b p r k).1.1 6 k ((flP b p r k).1.1 6 k + (if b = true then min (flP b p r k).2 ((flP b p r k).1.1 14 k) else -min (flP b p r k).2 ((flP b p r k).1.1 14 k))) := by
  cases b
  · show zu _ 6 k (_ - _) = zu _ 6 k (_ + -_)
    rw [Int.sub_eq_add_neg]
  · rfl
theorem flP_f {b : Bool} {p : ZT × JT} {r : Int} {n f : Nat} (h : f ≠ 6) : (flP b p r n).1.1 f = p.1 f := by
  induction n with
  | zero => rfl
  | succ n ih => rw [flP_s, zu_n h]; exact ih
theorem flP_6 {b : Bool} {p : ZT × JT} {r : Int} {n j : Nat} (h : n ≤ j) : (flP b p r n).1.1 6 j = p.1 6 j := by
  induction n with
  | zero => rfl
  | succ n ih => rw [flP_s, zu_j (by omega)]; exact ih (by omega)
theorem flP_t {b : Bool} {p : ZT × JT} {r : Int} {n f : Nat} (h : f ≠ 13) : (flP b p r n).1.2 f = p.2 f := by
  induction n with
  | zero => rfl
  | succ n ih =>
    cases b
    · exact (ju_n h).trans ih
    · exact (ju_n h).trans ih
theorem flP_t13 {b : Bool} {p : ZT × JT} {r : Int} {n j : Nat} (h : n ≤ j) : (flP b p r n).1.2 13 j = p.2 13 j := by
  induction n with
  | zero => rfl
  | succ n ih =>
    cases b
    · exact (ju_j (by omega)).trans (ih (by omega))
    · exact (ju_j (by omega)).trans (ih (by omega))
/-- what is left when n stores are gone through, if each may take as much as its rate says -/
theorem flP_r {b : Bool} {p : ZT × JT} {r : Int} {n : Nat} (h0 : 0 ≤ r) (h : ∀ j, j < n → 0 ≤ p.1 14 j) : 0 ≤ (flP b p r n).2 ∧ (flP b p r n).2 ≤ r ∧ (flP b p r n).2 = (if r - sumZ (p.1 14) n < 0 then 0 else r - sumZ (p.1 14) n) := by
  induction n with
  | zero => exact ⟨h0, Int.le_refl _, by show r = if r - 0 < 0 then 0 else r - 0; split <;> omega⟩
  | succ n ih =>
    have a := ih (fun j hj => h j (by omega))
    have q := h n (by omega)
    have e : (flP b p r (n + 1)).2 = (flP b p r n).2 - min (flP b p r n).2 (p.1 14 n) := by
      show (flP b p r n).2 - min (flP b p r n).2 ((flP b p r n).1.1 14 n) = _
      rw [flP_f (by omega)]
    have es : sumZ (p.1 14) (n + 1) = sumZ (p.1 14) n + p.1 14 n := rfl
    rw [e, es]
    refine ⟨by omega, by omega, ?_⟩
    have a3 := a.2.2
    split at a3 <;> split <;> omega
theorem flP_v {b : Bool} {p : ZT × JT} {r : Int} {n j : Nat} (h0 : 0 ≤ r) (h : ∀ j, j < n → 0 ≤ p.1 14 j) (hj : j < n) : ∃ u, 0 ≤ u ∧ u ≤ p.1 14 j ∧ u ≤ r ∧ (flP b p r n).1.1 6 j = p.1 6 j + (if b = true then u else -u) := by
  induction n with
  | zero => omega
  | succ n ih =>
    by_cases e : j = n
    · subst e
      have a := flP_r (b := b) (p := p) (n := j) h0 (fun i hi => h i (by omega))
      have q := h j (by omega)
      refine ⟨min (flP b p r j).2 (p.1 14 j), by omega, by omega, by omega, ?_⟩
      rw [flP_s, zu_s, flP_6 (Nat.le_refl _), flP_f (f := 14) (by omega)]
    · obtain ⟨u, a1, a2, a3, a4⟩ := ih (fun i hi => h i (by omega)) (by omega)
      exact ⟨u, a1, a2, a3, by rw [flP_s, zu_j e]; exact a4⟩
def wentP (x : Int) (p : ZT × JT) : ZT × JT := (p.1, ju (ju p.2 33 0 (p.2 33 0 + jv (if 0 < x then absZ x else 0))) 34 0 (p.2 34 0 + jv (if 0 < x then 0 else absZ x)))
def flowsP (x : Int) (ns : Nat) (p : ZT × JT) : ZT × JT := (flP (decide (0 < x)) (wentP x (rtN p.1 (decide (0 < x)) ns, p.2)) (absZ x) ns).1
theorem flowsP_f {x : Int} {ns f : Nat} {p : ZT × JT} (h : f ≠ 6) (h' : f ≠ 14) : (flowsP x ns p).1 f = p.1 f := by
  unfold flowsP
  rw [flP_f h]
  exact rtN_f h'
theorem flowsP_st {x : Int} {ns k : Nat} {p : ZT × JT} (h : ∀ k, k < ns → StOk p.1 k) (hk : k < ns) : StOk (flowsP x ns p).1 k := by
  have hr := rate_b (b := decide (0 < x)) (h k hk)
  have hx : 0 ≤ absZ x := by unfold absZ; split <;> omega
  obtain ⟨u, a1, a2, -, a4⟩ := flP_v (b := decide (0 < x)) (p := wentP x (rtN p.1 (decide (0 < x)) ns, p.2)) (r := absZ x) (n := ns) (j := k) hx (fun j hj => by show 0 ≤ rtN _ _ _ 14 j; rw [rtN_v.1 hj]; exact (rate_b (h j hj)).1) hk
  have e14 : (wentP x (rtN p.1 (decide (0 < x)) ns, p.2)).1 14 k = rateZ p.1 k (decide (0 < x)) := rtN_v.1 hk
  have e6 : (wentP x (rtN p.1 (decide (0 < x)) ns, p.2)).1 6 k = p.1 6 k := by show rtN _ _ _ 6 k = _; rw [rtN_f (by omega)]
  rw [e14] at a2
  have a4 : (flowsP x ns p).1 6 k = p.1 6 k + (if decide (0 < x) = true then u else -u) := by rw [← e6]; exact a4
  have hf : ∀ f, f ≠ 6 → f ≠ 14 → (flowsP x ns p).1 f = p.1 f := fun f z1 z2 => flowsP_f z1 z2
  have hm := st_most (h k hk).1
  obtain ⟨⟨g1, g2, g3, g4, g5, g6, g7, g8, g9⟩, gm, gw⟩ := h k hk
  have q : 0 ≤ (flowsP x ns p).1 6 k ∧ (flowsP x ns p).1 6 k ≤ mostZ (p.1 8 k) (roomZ p.1 k) := by
    cases hb : decide (0 < x)
    · rw [hb] at hr a2 a4
      have := hr.2.2.2.1 rfl
      simp only [Bool.false_eq_true, if_false] at a4
      omega
    · rw [hb] at hr a2 a4
      have := hr.2.2.1 rfl
      simp only [if_true] at a4
      omega
  refine ⟨?_, ?_, ?_⟩
  · unfold StO0
    rw [hf 3 (by omega) (by omega), hf 4 (by omega) (by omega), hf 5 (by omega) (by omega), hf 7 (by omega) (by omega), hf 8 (by omega) (by omega), hf 9 (by omega) (by omega), hf 10 (by omega) (by omega), hf 11 (by omega) (by omega), hf 12 (by omega) (by omega)]
    exact ⟨g1, g2, g3, g4, g5, g6, q.1, by omega, g9⟩
  · unfold roomZ at q ⊢
    rw [hf 4 (by omega) (by omega), hf 5 (by omega) (by omega), hf 8 (by omega) (by omega)]
    exact q.2
  · rw [hf 3 (by omega) (by omega), hf 5 (by omega) (by omega)]
    exact gw
/-- each one's inventory, and what is counted -/
def set1 (c : Nat) (p : ZT × JT) : ZT × JT :=
  (zu (zu p.1 21 c (p.1 21 c + (p.1 36 c - p.1 37 c))) 25 (64 * c + nowN p.1 % 64) 0, ju (ju (ju p.2 22 c (p.2 22 c + jv (p.1 36 c))) 23 c (p.2 23 c + jv (p.1 37 c))) 24 c (p.2 24 c + jv (p.1 38 c)))
def setN (p : ZT × JT) : Nat → ZT × JT
  | 0 => p
  | c + 1 => set1 c (setN p c)
theorem setN_f {p : ZT × JT} {n f : Nat} (h : f ≠ 21) (h' : f ≠ 25) : (setN p n).1 f = p.1 f := by
  induction n with
  | zero => rfl
  | succ n ih =>
    show (zu (zu _ 21 _ _) 25 _ _) f = _
    rw [zu_n h', zu_n h]; exact ih
theorem setN_t {p : ZT × JT} {n f : Nat} (h : f ≠ 22) (h' : f ≠ 23) (h'' : f ≠ 24) : (setN p n).2 f = p.2 f := by
  induction n with
  | zero => rfl
  | succ n ih =>
    show (ju (ju (ju _ 22 _ _) 23 _ _) 24 _ _) f = _
    rw [ju_n h'', ju_n h', ju_n h]; exact ih
theorem setN_21 {p : ZT × JT} {n c : Nat} : (c < n → (setN p n).1 21 c = p.1 21 c + (p.1 36 c - p.1 37 c)) ∧ (n ≤ c → (setN p n).1 21 c = p.1 21 c) := by
  induction n with
  | zero => exact ⟨fun h => absurd h (by omega), fun _ => rfl⟩
  | succ n ih =>
    have e : (setN p (n + 1)).1 21 c = zu (setN p n).1 21 n ((setN p n).1 21 n + ((setN p n).1 36 n - (setN p n).1 37 n)) 21 c := rfl
    rw [e, setN_f (f := 36) (by omega) (by omega), setN_f (f := 37) (by omega) (by omega)]
    refine ⟨fun h => ?_, fun h => ?_⟩
    · by_cases q : c = n
      · subst q; rw [zu_s, ih.2 (Nat.le_refl _)]
      · rw [zu_j q]; exact ih.1 (by omega)
    · rw [zu_j (by omega)]; exact ih.2 (by omega)
theorem setN_25 {p : ZT × JT} {n i : Nat} : (setN p n).1 25 i = 0 ∨ (setN p n).1 25 i = p.1 25 i := by
  induction n with
  | zero => exact Or.inr rfl
  | succ n ih =>
    have e : (setN p (n + 1)).1 25 i = zu (setN p n).1 25 (64 * n + nowN (setN p n).1 % 64) 0 25 i := rfl
    rw [e]
    by_cases q : i = 64 * n + nowN (setN p n).1 % 64
    · rw [q, zu_s]; exact Or.inl rfl
    · rw [zu_j q]; exact ih
def sgnZ (x : Int) : Int := if 0 < x then 1 else if x < 0 then -1 else 0
/-- the hour's price, and which way it flowed; 43 and 44: the last hours in and out -/
def flgZ (x : Int) (σ : ZT) : ZT := zu (zu (zu (zu (zu σ 26 (nowN σ % 64) 0) 32 0 (σ 31 0)) 31 0 (sgnZ x)) 43 0 (if 0 < x then σ 1 0 else σ 43 0)) 44 0 (if x < 0 then σ 1 0 else σ 44 0)
def leakN (p : ZT × JT) : Nat → ZT × JT
  | 0 => p
  | k + 1 => leakP k (leakN p k)
def dayN (p : ZT × JT) : Nat → ZT × JT
  | 0 => p
  | k + 1 => dayP k (dayN p k)
def tickP (p : ZT × JT) : ZT × JT := (zu p.1 1 0 (p.1 1 0 + 1), p.2)
def hourP (ns nc nl : Nat) (p : ZT × JT) : ZT × JT :=
  let l := laysZ p.1 nc nl ns
  let x := netZ l nc
  let a := setN (flowsP x ns (l, p.2)) nc
  let t := tickP (leakN (flgZ x a.1, a.2) ns)
  if t.1 1 0 % 24 = 0 then dayN t ns else t
def hours (ns nc nl : Nat) (p : ZT × JT) : Nat → ZT × JT
  | 0 => p
  | n + 1 => hourP ns nc nl (hours ns nc nl p n)

