/-! what is planned, as the law asks it -/
theorem br_n {σ : ZT} {c : Nat} (h : CuOk σ c) : 0 ≤ brZ σ c ∧ 0 ≤ tkZ σ c ∧ (brZ σ c = 0 ∨ tkZ σ c = 0) ∧ (0 < brZ σ c → 0 < nomZ σ c) ∧ (0 < tkZ σ c → nomZ σ c < 0) ∧ (0 < nomZ σ c → brZ σ c ≤ nomZ σ c) ∧ (nomZ σ c < 0 → tkZ σ c ≤ -nomZ σ c) ∧ (nomZ σ c ≤ 0 → brZ σ c = 0) ∧ (0 ≤ nomZ σ c → tkZ σ c = 0) := by
  have b := br_b h
  refine ⟨b.1, b.2.2.1, b.2.2.2.2.1, ?_, ?_, ?_, ?_, ?_, ?_⟩
  · unfold brZ; split <;> omega
  · unfold tkZ; split <;> omega
  · unfold brZ; split <;> omega
  · unfold tkZ; split <;> omega
  · unfold brZ; split <;> omega
  · unfold tkZ; split <;> omega
def PF (σ s : ZT) (n : Nat) : Prop := ∀ c, c < n → 0 ≤ s 36 c ∧ s 36 c ≤ brZ σ c ∧ 0 ≤ s 37 c ∧ s 37 c ≤ tkZ σ c ∧ 0 ≤ s 39 c ∧ s 39 c ≤ 3 ∧ (s 39 c = 0 → s 36 c = brZ σ c ∧ s 37 c = tkZ σ c ∧ nomZ σ c = brZ σ c - tkZ σ c) ∧ (s 39 c ≠ 0 → s 36 c - s 37 c ≠ nomZ σ c) ∧ (s 39 c = 2 → s 36 c = 0)
theorem pf_cur {b : Bool} {st y : Int} {n c : Nat} {σ s : ZT} (h : PF σ s n) (hc : c < n) (hcu : CuOk σ c) (hs : 0 ≤ st ∧ st ≤ 3) (hs0 : st ≠ 0) (h2 : st = 2 → b = false) (y0 : 0 ≤ y) (yt : b = true → y ≤ s 36 c) (yf : b = false → y ≤ s 37 c) : PF σ (curZ b st c y s) n := by
  intro j hj
  have v := curZ_v (b := b) (s := st) (y := y) (c := c) (j := j) (σ := s)
  rw [v.1, v.2.1, v.2.2.2]
  have q := h j hj
  by_cases e : j = c
  · subst e
    obtain ⟨q1, q2, q3, q4, q5, q6, q7, q8, q9⟩ := q
    obtain ⟨w1, w2, w3, w4, w5, w6, w7, w8, w9⟩ := br_n hcu
    simp only [if_true]
    by_cases y1 : y = 0
    · subst y1
      rw [if_neg (show ¬ ((0 : Int) < 0 ∧ s 39 j = 0) from fun z => absurd z.1 (by decide))]
      cases b with
      | true =>
        simp only [if_true, Int.sub_zero]
        exact ⟨q1, q2, q3, q4, q5, q6, q7, q8, q9⟩
      | false =>
        simp only [Bool.false_eq_true, if_false, Int.sub_zero]
        exact ⟨q1, q2, q3, q4, q5, q6, q7, q8, q9⟩
    · have yp : 0 < y := by omega
      obtain ⟨k, hk⟩ : ∃ k, k = (if 0 < y ∧ s 39 j = 0 then st else s 39 j) := ⟨_, rfl⟩
      rw [← hk]
      have k0 : k ≠ 0 ∧ 0 ≤ k ∧ k ≤ 3 ∧ (k = st ∨ k = s 39 j) := by
        rw [hk]
        by_cases z : s 39 j = 0
        · rw [if_pos ⟨yp, z⟩]; exact ⟨hs0, hs.1, hs.2, Or.inl rfl⟩
        · rw [if_neg (fun q => z q.2)]; exact ⟨z, q5, q6, Or.inr rfl⟩
      cases b with
      | true =>
        have yt := yt rfl
        have b0 : 0 < brZ σ j := Int.lt_of_lt_of_le yp (Int.le_trans yt q2)
        have n0 := w4 b0
        have bn := w6 n0
        have t0 := w9 (Int.le_of_lt n0)
        have k2 : k ≠ 2 := by
          intro e
          rcases k0.2.2.2 with r | r
          · exact absurd (h2 (r.symm.trans e)) (by decide)
          · have := q9 (r.symm.trans e)
            clear q7 q8 q9 w3 w4 w5 w6 w7 w8 w9 h2 yf hk k0
            omega
        simp only [if_true]
        clear q7 q8 q9 w3 w4 w5 w6 w7 w8 w9 h2 yf hk
        exact ⟨by omega, by omega, by omega, by omega, k0.2.1, k0.2.2.1, fun e => absurd e k0.1, fun _ => by omega, fun e => absurd e k2⟩
      | false =>
        have yf := yf rfl
        have b0 : 0 < tkZ σ j := Int.lt_of_lt_of_le yp (Int.le_trans yf q4)
        have n0 := w5 b0
        have bn := w7 n0
        have t0 := w8 (Int.le_of_lt n0)
        simp only [Bool.false_eq_true, if_false]
        clear q7 q8 q9 w3 w4 w5 w6 w7 w8 w9 h2 yt hk
        exact ⟨by omega, by omega, by omega, by omega, k0.2.1, k0.2.2.1, fun e => absurd e k0.1, fun _ => by omega, fun _ => by omega⟩
  · simp only [e, if_false]; exact q
theorem pf_loop {b : Bool} {st : Int} {n k : Nat} {σ : ZT} (hn : 0 < n) (hs : 0 ≤ st ∧ st ≤ 3) (hs0 : st ≠ 0) (h2 : st = 2 → b = false) (hcu : ∀ c, c < n → CuOk σ c) : ∀ p : ZT × Int, PlOk p.1 n → PF σ p.1 n → PF σ (cloop b st n k p).1 n := by
  induction k with
  | zero => intro p _ h; exact h
  | succ k ih =>
    intro p hp h
    unfold cloop
    split
    · exact h
    · have q := cby_b (b := b) (k := k) hp hn (by omega)
      have hm := Nat.mod_lt k hn
      exact ih _ (curZ_ok hp hm hs q.1 q.2.2.1 q.2.2.2) (pf_cur h hm (hcu _ hm) hs hs0 h2 q.1 q.2.2.1 q.2.2.2)
theorem pf_curs {b : Bool} {st y : Int} {n : Nat} {σ s : ZT} (hs : 0 ≤ st ∧ st ≤ 3) (hs0 : st ≠ 0) (h2 : st = 2 → b = false) (hcu : ∀ c, c < n → CuOk σ c) (hp : PlOk s n) (h : PF σ s n) : PF σ (cur b st n s y) n := by
  rcases Nat.eq_zero_or_pos n with rfl | hn
  · intro c hc; omega
  · exact pf_loop hn hs hs0 h2 hcu _ hp h
theorem pf_lay {σ : ZT} {n : Nat} (hcu : ∀ c, c < n → CuOk σ c) : PF σ (layN σ n) n := by
  intro c hc
  have v := (layN_v (σ := σ) (n := n) (c := c)).1 hc
  have w := br_n (hcu c hc)
  rw [v.1, v.2.1, v.2.2.2]
  unfold caZ
  split <;> omega
theorem lays_pf {σ : ZT} {nc nl ns : Nat} (hcu : ∀ c, c < nc → CuOk σ c) : PF σ (laysZ σ nc nl ns) nc := by
  have a := pf_lay hcu
  have p := layN_ok hcu
  have b : PF σ (lawC (layN σ nc) nc nl) nc := by
    unfold lawC
    split
    · exact a
    · exact pf_curs (by omega) (by decide) (fun _ => rfl) hcu p a
  have pb := lawC_ok (nl := nl) p
  unfold laysZ plaC
  split
  · exact b
  · exact pf_curs (by omega) (by decide) (fun e => absurd e (by decide)) hcu pb b
theorem sumZ_le {f g : Nat → Int} {n : Nat} (h : ∀ i, i < n → f i ≤ g i) : sumZ f n ≤ sumZ g n := by
  induction n with
  | zero => exact Int.le_refl _
  | succ n ih =>
    have a := ih (fun i hi => h i (by omega))
    have b := h n (by omega)
    show sumZ f n + f n ≤ sumZ g n + g n
    omega
theorem law_take {w : ZT} {nc nl : Nat} (hp : PlOk w nc) (h2 : ∀ c, c < nc → 0 ≤ w 20 c ∧ w 20 c ≤ 3) (hl : lawI w nl ≠ -1) : sumZ (lawC w nc nl 37) nc ≤ (if sumZ (w 21) nc - w 30 (lawI w nl).toNat < 0 then 0 else sumZ (w 21) nc - w 30 (lawI w nl).toNat) := by
  have e : lawC w nc nl = cur false 2 nc w (lawT w nc nl) := by unfold lawC; rw [if_neg hl]
  have es : ∀ s : ZT, szZ s false = s 37 := fun s => rfl
  have et : lawT w nc nl = sumZ (w 37) nc - (if sumZ (w 21) nc - w 30 (lawI w nl).toNat < 0 then 0 else sumZ (w 21) nc - w 30 (lawI w nl).toNat) := rfl
  rw [e]
  by_cases y : lawT w nc nl ≤ 0
  · have ec : cur false 2 nc w (lawT w nc nl) = w := by
      unfold cur
      rw [cloop_le y]
    rw [ec]
    omega
  · have cs := cur_sum (b := false) (s := 2) (by omega) hp h2 (show 0 ≤ lawT w nc nl by omega) (by
      rw [es, et]
      split <;> omega)
    rw [es, es] at cs
    omega
/-- what an hour takes by the law -/
theorem lays_law {σ : ZT} {ns nc nl : Nat} (h : Wf σ ns nc nl) (hk : keptZ σ nl ≠ 0) : (if sumZ (σ 21) nc - keptZ σ nl < 0 then 0 else -(sumZ (σ 21) nc - keptZ σ nl)) ≤ netZ (laysZ σ nc nl ns) nc := by
  have hcu := h.2.2.2.2.2.2.2.1
  have hl : lawI σ nl ≠ -1 := fun e => hk (by unfold keptZ; rw [if_pos e])
  have ek : keptZ σ nl = σ 30 (lawI σ nl).toNat := by unfold keptZ; rw [if_neg hl]
  have lf : ∀ f, f < 36 → layN σ nc f = σ f := fun f hf => layN_f (Or.inl hf)
  have eI : lawI (layN σ nc) nl = lawI σ nl := lawI_c lf
  have pl := layN_ok hcu
  have t := law_take (w := layN σ nc) (nc := nc) (nl := nl) pl (fun c hc => by rw [lf 20 (by omega)]; have := hcu c hc; unfold CuOk at this; omega) (by rw [eI]; exact hl)
  rw [eI, lf 21 (by omega), lf 30 (by omega), ← ek] at t
  have pb := lawC_ok (nl := nl) pl
  have m : sumZ (laysZ σ nc nl ns 37) nc ≤ sumZ (lawC (layN σ nc) nc nl 37) nc := sumZ_le (fun c hc => by
    unfold laysZ plaC
    split
    · exact Int.le_refl _
    · exact (cur_mo (by omega) pb hc).2)
  have p6 := pl_sums (laysZ_ok (nl := nl) (ns := ns) hcu) h.2.2.2.1
  unfold netZ
  split at t <;> split <;> omega
theorem lays_lays {σ : ZT} {ns nc nl : Nat} : laysZ (laysZ σ nc nl ns) nc nl ns = laysZ σ nc nl ns := by
  have e : layN (laysZ σ nc nl ns) nc = layN σ nc := by
    funext f c
    by_cases q : f < 36 ∨ 39 < f
    · rw [layN_f q, layN_f q, laysZ_f q]
    · have hf : f = 36 ∨ f = 37 ∨ f = 38 ∨ f = 39 := by omega
      rcases Nat.lt_or_ge c nc with z | z
      · have v := (layN_v (σ := laysZ σ nc nl ns) (n := nc) (c := c)).1 z
        have w := (layN_v (σ := σ) (n := nc) (c := c)).1 z
        have n := nom_c (σ := σ) (s := laysZ σ nc nl ns) (c := c) (fun f hf => laysZ_f (Or.inl hf))
        rcases hf with rfl | rfl | rfl | rfl
        · rw [v.1, w.1, n.2.1]
        · rw [v.2.1, w.2.1, n.2.2.1]
        · rw [v.2.2.1, w.2.2.1]
        · rw [v.2.2.2, w.2.2.2, n.2.2.2]
      · have v := (layN_v (σ := laysZ σ nc nl ns) (n := nc) (c := c)).2 z
        have w := (layN_v (σ := σ) (n := nc) (c := c)).2 z
        rcases hf with rfl | rfl | rfl | rfl
        · rw [v.1, w.1, lays_o z]
        · rw [v.2.1, w.2.1, lays_o z]
        · rw [v.2.2.1, w.2.2.1, lays_o z]
        · rw [v.2.2.2, w.2.2.2, lays_o z]
  rw [show laysZ (laysZ σ nc nl ns) nc nl ns = plaC (lawC (layN (laysZ σ nc nl ns) nc) nc nl) nc ns from rfl, e]
  rfl
/-! worth grows with the hours -/
theorem bestV_mo {σ : ZT} {c l : Nat} : ∀ (has : Int) (k : Nat), bestV σ c l has k ≤ bestV σ c (l + 1) has k := by
  induction l with
  | zero => intro has k; exact bestV_nn has k
  | succ l ih =>
    intro has k
    have a0 := ih has (k + 1)
    have a1 := ih (has + inZ σ c has) (k + 1)
    have a2 := ih (has - outZ σ c has) (k + 1)
    show max (max (bestV σ c l has (k + 1)) (if 0 < inZ σ c has then bestV σ c l (has + inZ σ c has) (k + 1) - inZ σ c has * pricZ σ k else bestV σ c l has (k + 1))) (if 0 < outZ σ c has then bestV σ c l (has - outZ σ c has) (k + 1) + outZ σ c has * pricZ σ k else bestV σ c l has (k + 1)) ≤
      max (max (bestV σ c (l + 1) has (k + 1)) (if 0 < inZ σ c has then bestV σ c (l + 1) (has + inZ σ c has) (k + 1) - inZ σ c has * pricZ σ k else bestV σ c (l + 1) has (k + 1))) (if 0 < outZ σ c has then bestV σ c (l + 1) (has - outZ σ c has) (k + 1) + outZ σ c has * pricZ σ k else bestV σ c (l + 1) has (k + 1))
    by_cases q1 : 0 < inZ σ c has
    · rw [if_pos q1, if_pos q1]
      by_cases q2 : 0 < outZ σ c has
      · rw [if_pos q2, if_pos q2]; omega
      · rw [if_neg q2, if_neg q2]; omega
    · rw [if_neg q1, if_neg q1]
      by_cases q2 : 0 < outZ σ c has
      · rw [if_pos q2, if_pos q2]; omega
      · rw [if_neg q2, if_neg q2]; omega
theorem bestN_mo {σ : ZT} {c t : Nat} (h : CuOk σ c) : bestN σ c t (3 ^ t) ≤ bestN σ c (t + 1) (3 ^ (t + 1)) := by
  rw [← best_eq h, ← best_eq h]
  exact bestV_mo _ _
/-! the law's ring of nominations -/
def RgOk (fn : Nat → Int32) (σ : ZT) : Prop := (∀ c j, c < 6 → j < 8 → fn (8 * c + (nowN σ + j) % 8) = iv (σ 25 (64 * c + (nowN σ + j) % 64))) ∧ (∀ c j, c < 6 → 8 ≤ j → j < 64 → σ 25 (64 * c + (nowN σ + j) % 64) = 0)
theorem rg_c {fn : Nat → Int32} {σ s : ZT} (h : RgOk fn σ) (e1 : s 1 0 = σ 1 0) (e25 : s 25 = σ 25) : RgOk fn s := by
  unfold RgOk nowN at h ⊢
  rw [e1, e25]; exact h
theorem rg_nom {fn : Nat → Int32} {σ : ZT} (h : RgOk fn σ) {c r : Nat} {u : Int} (hr : r < 8) : RgOk (upd fn (8 * c + (nowN σ + r) % 8) (iv u)) (zu σ 25 (64 * c + (nowN σ + r) % 64) u) := by
  have en : nowN (zu σ 25 (64 * c + (nowN σ + r) % 64) u) = nowN σ := rfl
  refine ⟨fun c' j hc hj => ?_, fun c' j hc hj hj2 => ?_⟩
  · rw [en]
    unfold upd
    by_cases q : c' = c ∧ j = r
    · obtain ⟨rfl, rfl⟩ := q
      rw [if_pos rfl, zu_s]
    · rw [if_neg (by omega), zu_j (by omega)]
      exact h.1 c' j hc hj
  · rw [en, zu_j (by omega)]
    exact h.2 c' j hc hj hj2
def fnK (fn : Nat → Int32) (r : Nat) : Nat → Nat → Int32
  | 0 => fn
  | n + 1 => upd (fnK fn r n) (8 * n + r) (iv 0)
theorem fnK_v {fn : Nat → Int32} {r n : Nat} (hr : r < 8) : ∀ c j, j < 8 → fnK fn r n (8 * c + j) = if c < n ∧ j = r then iv 0 else fn (8 * c + j) := by
  induction n with
  | zero => intro c j hj; rw [if_neg (by omega)]; rfl
  | succ n ih =>
    intro c j hj
    show upd (fnK fn r n) (8 * n + r) (iv 0) (8 * c + j) = _
    unfold upd
    by_cases q : 8 * c + j = 8 * n + r
    · rw [if_pos q, if_pos (by omega)]
    · rw [if_neg q, ih c j hj]
      by_cases z : c < n ∧ j = r
      · rw [if_pos z, if_pos (by omega)]
      · rw [if_neg z, if_neg (by omega)]
theorem rg_hour {fn : Nat → Int32} {σ s : ZT} {nc : Nat} (h : RgOk fn σ) (h0 : ∀ c j, nc ≤ c → j < 64 → σ 25 (64 * c + j) = 0) (en : nowN s = nowN σ + 1) (e25 : ∀ c j, j < 64 → s 25 (64 * c + j) = if c < nc ∧ j = nowN σ % 64 then 0 else σ 25 (64 * c + j)) : RgOk (fnK fn (nowN σ % 8) nc) s := by
  have hm := Nat.mod_lt (nowN σ) (show 0 < 64 by decide)
  refine ⟨fun c j hc hj => ?_, fun c j hc hj hj2 => ?_⟩
  · rw [en, fnK_v (by omega) c _ (Nat.mod_lt _ (by decide)), e25 c _ (Nat.mod_lt _ (by decide)), show nowN σ + 1 + j = nowN σ + (j + 1) by omega]
    by_cases q : j = 7
    · subst q
      have z8 := h.2 c 8 hc (by omega) (by omega)
      rw [if_neg (c := c < nc ∧ (nowN σ + (7 + 1)) % 64 = nowN σ % 64) (by omega)]
      rw [show nowN σ + (7 + 1) = nowN σ + 8 by omega, z8]
      by_cases w : c < nc
      · rw [if_pos (by omega)]
      · rw [if_neg (by omega), show (nowN σ + 8) % 8 = (nowN σ + 0) % 8 by omega, h.1 c 0 hc (by omega)]
        rw [h0 c _ (by omega) (Nat.mod_lt _ (by decide))]
    · rw [if_neg (by omega), if_neg (by omega)]
      exact h.1 c (j + 1) hc (by omega)
  · rw [en, e25 c _ (Nat.mod_lt _ (by decide)), show nowN σ + 1 + j = nowN σ + (j + 1) by omega]
    by_cases q : j = 63
    · subst q
      by_cases w : c < nc
      · rw [if_pos (by omega)]
      · rw [if_neg (by omega)]
        exact h0 c _ (by omega) (Nat.mod_lt _ (by decide))
    · rw [if_neg (by omega)]
      exact h.2 c (j + 1) hc (by omega) (by omega)
theorem bl_25 {σ : ZT} {τ : JT} {ns nc : Nat} (h : Bl σ τ ns nc) : ∀ c j, nc ≤ c → j < 64 → σ 25 (64 * c + j) = 0 := fun c j hc hj => (h.2 c hc).2.2.2.2.2.2.2.2 j hj
