/-! AN HOUR: what each one brings or takes -/
def nowN (σ : ZT) : Nat := (σ 1 0).toNat
def nomZ (σ : ZT) (c : Nat) : Int := σ 25 (64 * c + nowN σ % 64)
def brZ (σ : ZT) (c : Nat) : Int := if 0 < nomZ σ c then min (nomZ σ c) (inZ σ c (σ 21 c)) else 0
def tkZ (σ : ZT) (c : Nat) : Int := if nomZ σ c < 0 then min (-nomZ σ c) (outZ σ c (σ 21 c)) else 0
def caZ (σ : ZT) (c : Nat) : Int := if nomZ σ c = brZ σ c - tkZ σ c then 0 else 1
def lay1 (σ : ZT) (c : Nat) : ZT := zu (zu (zu (zu σ 36 c (brZ σ c)) 37 c (tkZ σ c)) 38 c 0) 39 c (caZ σ c)
def layN (σ : ZT) : Nat → ZT
  | 0 => σ
  | n + 1 => lay1 (layN σ n) n
theorem lay1_f {σ : ZT} {c f : Nat} (h : f < 36 ∨ 39 < f) : lay1 σ c f = σ f := by
  unfold lay1
  rw [zu_n (by omega), zu_n (by omega), zu_n (by omega), zu_n (by omega)]
theorem layN_f {σ : ZT} {n f : Nat} (h : f < 36 ∨ 39 < f) : layN σ n f = σ f := by
  induction n with
  | zero => rfl
  | succ n ih => exact (lay1_f h).trans ih
theorem nom_c {σ s : ZT} {c : Nat} (h : ∀ f, f < 36 → s f = σ f) : nomZ s c = nomZ σ c ∧ brZ s c = brZ σ c ∧ tkZ s c = tkZ σ c ∧ caZ s c = caZ σ c := by
  have e : nomZ s c = nomZ σ c := by unfold nomZ nowN; rw [h 25 (by omega), h 1 (by omega)]
  have e1 : brZ s c = brZ σ c := by unfold brZ inZ rinZ; rw [e, h 21 (by omega), h 17 (by omega), h 18 (by omega)]
  have e2 : tkZ s c = tkZ σ c := by unfold tkZ outZ routZ; rw [e, h 21 (by omega), h 17 (by omega), h 19 (by omega)]
  exact ⟨e, e1, e2, by unfold caZ; rw [e, e1, e2]⟩
theorem layN_v {σ : ZT} {n c : Nat} : (c < n → layN σ n 36 c = brZ σ c ∧ layN σ n 37 c = tkZ σ c ∧ layN σ n 38 c = 0 ∧ layN σ n 39 c = caZ σ c) ∧ (n ≤ c → layN σ n 36 c = σ 36 c ∧ layN σ n 37 c = σ 37 c ∧ layN σ n 38 c = σ 38 c ∧ layN σ n 39 c = σ 39 c) := by
  induction n with
  | zero => exact ⟨fun h => absurd h (by omega), fun _ => ⟨rfl, rfl, rfl, rfl⟩⟩
  | succ n ih =>
    have e := nom_c (σ := σ) (s := layN σ n) (c := n) (fun f hf => layN_f (Or.inl hf))
    have k : ∀ f, lay1 (layN σ n) n f c = if c = n then (if f = 36 then brZ σ n else if f = 37 then tkZ σ n else if f = 38 then 0 else if f = 39 then caZ σ n else layN σ n f c) else layN σ n f c := by
      intro f
      unfold lay1
      rw [e.2.1, e.2.2.1, e.2.2.2]
      unfold zu
      by_cases h : c = n
      · subst h
        simp only [if_true]
        split
        · rename_i q; subst q; simp
        · split
          · rename_i q; subst q; simp
          · split
            · rename_i q; subst q; simp
            · split
              · rename_i q; subst q; simp
              · simp_all
      · simp only [h, if_false, ite_self]
    show (c < n + 1 → lay1 (layN σ n) n 36 c = _ ∧ lay1 (layN σ n) n 37 c = _ ∧ lay1 (layN σ n) n 38 c = _ ∧ lay1 (layN σ n) n 39 c = _) ∧ (n + 1 ≤ c → lay1 (layN σ n) n 36 c = _ ∧ lay1 (layN σ n) n 37 c = _ ∧ lay1 (layN σ n) n 38 c = _ ∧ lay1 (layN σ n) n 39 c = _)
    rw [k, k, k, k]
    refine ⟨fun h => ?_, fun h => ?_⟩
    · by_cases q : c = n
      · subst q; simp
      · simp only [q, if_false]; exact ih.1 (by omega)
    · simp only [show ¬ c = n by omega, if_false]; exact ih.2 (by omega)
/-- nominations and prices are as they may be -/
def NmOk (σ : ZT) (n : Nat) : Prop := (∀ i, i < 64 * n → -1000000 ≤ σ 25 i ∧ σ 25 i ≤ 1000000) ∧ 0 ≤ σ 1 0 ∧ σ 1 0 ≤ 10000
theorem nom_b {σ : ZT} {n c : Nat} (h : NmOk σ n) (hc : c < n) : -1000000 ≤ nomZ σ c ∧ nomZ σ c ≤ 1000000 := h.1 _ (by omega)
theorem br_b {σ : ZT} {c : Nat} (h : CuOk σ c) : 0 ≤ brZ σ c ∧ brZ σ c ≤ 100000 ∧ 0 ≤ tkZ σ c ∧ tkZ σ c ≤ 100000 ∧ (brZ σ c = 0 ∨ tkZ σ c = 0) ∧ brZ σ c ≤ σ 17 c - σ 21 c ∧ tkZ σ c ≤ σ 21 c ∧ 0 ≤ caZ σ c ∧ caZ σ c ≤ 1 ∧ (caZ σ c = 0 ↔ nomZ σ c = brZ σ c - tkZ σ c) := by
  have hh := h
  obtain ⟨-, -, -, -, -, -, -, -, h1, h2⟩ := h
  have i := inz_b hh h1 h2
  have o := outz_b hh h1 h2
  refine ⟨?_, ?_, ?_, ?_, ?_, ?_, ?_, ?_, ?_, ?_⟩
  · unfold brZ; split <;> omega
  · unfold brZ; split <;> omega
  · unfold tkZ; split <;> omega
  · unfold tkZ; split <;> omega
  · unfold brZ tkZ; split <;> split <;> omega
  · unfold brZ; split <;> omega
  · unfold tkZ; split <;> omega
  · unfold caZ; split <;> omega
  · unfold caZ; split <;> omega
  · unfold caZ; split <;> omega
/-! to curtail -/
def cby (b : Bool) (n k : Nat) (p : ZT × Int) : Int := if p.1 20 (k % n) = ((k / n : Nat) : Int) then min p.2 (if b = true then p.1 36 (k % n) else p.1 37 (k % n)) else 0
def curZ (b : Bool) (s : Int) (c : Nat) (y : Int) (σ : ZT) : ZT := zu (zu (zu (zu σ 36 c (σ 36 c - if b = true then y else 0)) 37 c (σ 37 c - if b = true then 0 else y)) 38 c (σ 38 c + y)) 39 c (if 0 < y ∧ σ 39 c = 0 then s else σ 39 c)
def cstep (b : Bool) (s : Int) (n k : Nat) (p : ZT × Int) : ZT × Int := (curZ b s (k % n) (cby b n k p) p.1, p.2 - cby b n k p)
def cloop (b : Bool) (s : Int) (n : Nat) : Nat → ZT × Int → ZT × Int
  | 0, p => p
  | k + 1, p => if p.2 ≤ 0 then p else cloop b s n k (cstep b s n k p)
theorem cloop_le {b : Bool} {s : Int} {n k : Nat} {p : ZT × Int} (h : p.2 ≤ 0) : cloop b s n k p = p := by
  cases k with
  | zero => rfl
  | succ k => exact if_pos h
theorem cloop_st {b : Bool} {s : Int} {n k : Nat} {p : ZT × Int} (h : 0 < p.2) : cloop b s n (k + 1) p = cloop b s n k (cstep b s n k p) := if_neg (by omega)
theorem curZ_f {b : Bool} {s y : Int} {c f : Nat} {σ : ZT} (h : f < 36 ∨ 39 < f) : curZ b s c y σ f = σ f := by
  unfold curZ
  rw [zu_n (by omega), zu_n (by omega), zu_n (by omega), zu_n (by omega)]
theorem curZ_v {b : Bool} {s y : Int} {c j : Nat} {σ : ZT} : curZ b s c y σ 36 j = (if j = c then σ 36 c - (if b = true then y else 0) else σ 36 j) ∧ curZ b s c y σ 37 j = (if j = c then σ 37 c - (if b = true then 0 else y) else σ 37 j) ∧ curZ b s c y σ 38 j = (if j = c then σ 38 c + y else σ 38 j) ∧ curZ b s c y σ 39 j = (if j = c then (if 0 < y ∧ σ 39 c = 0 then s else σ 39 c) else σ 39 j) := ⟨rfl, rfl, rfl, rfl⟩
theorem cloop_f {b : Bool} {s : Int} {n k f : Nat} (h : f < 36 ∨ 39 < f) : ∀ p : ZT × Int, (cloop b s n k p).1 f = p.1 f := by
  induction k with
  | zero => intro p; rfl
  | succ k ih =>
    intro p
    unfold cloop
    split
    · rfl
    · rw [ih]; exact curZ_f h
/-- what is planned is as it may be -/
def PlOk (σ : ZT) (n : Nat) : Prop := ∀ c, c < n → 0 ≤ σ 36 c ∧ σ 36 c ≤ 100000 ∧ 0 ≤ σ 37 c ∧ σ 37 c ≤ 100000 ∧ (σ 36 c = 0 ∨ σ 37 c = 0) ∧ 0 ≤ σ 38 c ∧ σ 38 c ≤ 200000 - σ 36 c - σ 37 c ∧ 0 ≤ σ 39 c ∧ σ 39 c ≤ 3
theorem layN_ok {σ : ZT} {n : Nat} (h : ∀ c, c < n → CuOk σ c) : PlOk (layN σ n) n := by
  intro c hc
  have v := (layN_v (σ := σ) (n := n) (c := c)).1 hc
  have b := br_b (h c hc)
  rw [v.1, v.2.1, v.2.2.1, v.2.2.2]
  omega
theorem cby_b {b : Bool} {n k : Nat} {p : ZT × Int} (h : PlOk p.1 n) (hk : 0 < n) (h0 : 0 < p.2) : 0 ≤ cby b n k p ∧ cby b n k p ≤ p.2 ∧ (b = true → cby b n k p ≤ p.1 36 (k % n)) ∧ (b = false → cby b n k p ≤ p.1 37 (k % n)) := by
  have q := h (k % n) (Nat.mod_lt _ hk)
  unfold cby
  split
  · cases b
    · show 0 ≤ min p.2 (p.1 37 (k % n)) ∧ min p.2 (p.1 37 (k % n)) ≤ p.2 ∧ _ ∧ (false = false → min p.2 (p.1 37 (k % n)) ≤ p.1 37 (k % n))
      exact ⟨by omega, by omega, fun z => (nomatch z), fun _ => by omega⟩
    · show 0 ≤ min p.2 (p.1 36 (k % n)) ∧ min p.2 (p.1 36 (k % n)) ≤ p.2 ∧ (true = true → min p.2 (p.1 36 (k % n)) ≤ p.1 36 (k % n)) ∧ _
      exact ⟨by omega, by omega, fun _ => by omega, fun z => (nomatch z)⟩
  · exact ⟨by omega, by omega, fun _ => by omega, fun _ => by omega⟩
theorem curZ_ok {b : Bool} {s y : Int} {n c : Nat} {σ : ZT} (h : PlOk σ n) (hc : c < n) (hs : 0 ≤ s ∧ s ≤ 3) (h1 : 0 ≤ y) (h2 : b = true → y ≤ σ 36 c) (h3 : b = false → y ≤ σ 37 c) : PlOk (curZ b s c y σ) n := by
  intro j hj
  have v := curZ_v (b := b) (s := s) (y := y) (c := c) (j := j) (σ := σ)
  rw [v.1, v.2.1, v.2.2.1, v.2.2.2]
  have q := h j hj
  by_cases e : j = c
  · subst e
    simp only [if_true]
    cases b
    · have h3 := h3 rfl
      simp only [Bool.false_eq_true, if_false]
      split <;> omega
    · have h2 := h2 rfl
      simp only [if_true]
      split <;> omega
  · simp only [e, if_false]; exact q
theorem cloop_ok {b : Bool} {s : Int} {n k : Nat} (hn : 0 < n) (hs : 0 ≤ s ∧ s ≤ 3) : ∀ p : ZT × Int, PlOk p.1 n → PlOk (cloop b s n k p).1 n := by
  induction k with
  | zero => intro p h; exact h
  | succ k ih =>
    intro p h
    unfold cloop
    split
    · exact h
    · have q := cby_b (b := b) (k := k) h hn (by omega)
      exact ih _ (curZ_ok h (Nat.mod_lt _ hn) hs q.1 q.2.2.1 q.2.2.2)
def cur (b : Bool) (s : Int) (n : Nat) (σ : ZT) (y : Int) : ZT := (cloop b s n (4 * n) (σ, y)).1
theorem cur_f {b : Bool} {s y : Int} {n f : Nat} {σ : ZT} (h : f < 36 ∨ 39 < f) : cur b s n σ y f = σ f := cloop_f h _
theorem cur_ok {b : Bool} {s y : Int} {n : Nat} {σ : ZT} (hs : 0 ≤ s ∧ s ≤ 3) (h : PlOk σ n) : PlOk (cur b s n σ y) n := by
  rcases Nat.eq_zero_or_pos n with rfl | hn
  · intro c hc; omega
  · exact cloop_ok hn hs _ h
def lawT (σ : ZT) (nc nl : Nat) : Int := sumZ (σ 37) nc - (if sumZ (σ 21) nc - σ 30 (lawI σ nl).toNat < 0 then 0 else sumZ (σ 21) nc - σ 30 (lawI σ nl).toNat)
def lawC (σ : ZT) (nc nl : Nat) : ZT := if lawI σ nl = -1 then σ else cur false 2 nc σ (lawT σ nc nl)
def othZ (b : Bool) : Int := if b = true then -1 else 1
def canZ (σ : ZT) (ns : Nat) (b : Bool) : Int := if σ 31 0 = othZ b ∨ σ 32 0 = othZ b then 0 else sumZ (fun k => rateZ σ k b) ns
def netZ (σ : ZT) (nc : Nat) : Int := sumZ (σ 36) nc - sumZ (σ 37) nc
def absZ (x : Int) : Int := if 0 < x then x else -x
def overZ (σ : ZT) (nc ns : Nat) : Int := if 0 < absZ (netZ σ nc) - canZ σ ns (decide (0 < netZ σ nc)) then absZ (netZ σ nc) - canZ σ ns (decide (0 < netZ σ nc)) else 0
def plaC (σ : ZT) (nc ns : Nat) : ZT := if netZ σ nc = 0 then σ else cur (decide (0 < netZ σ nc)) 3 nc σ (overZ σ nc ns)
def laysZ (σ : ZT) (nc nl ns : Nat) : ZT := plaC (lawC (layN σ nc) nc nl) nc ns
theorem lawC_f {σ : ZT} {nc nl f : Nat} (h : f < 36 ∨ 39 < f) : lawC σ nc nl f = σ f := by
  unfold lawC
  split
  · rfl
  · exact cur_f h
theorem plaC_f {σ : ZT} {nc ns f : Nat} (h : f < 36 ∨ 39 < f) : plaC σ nc ns f = σ f := by
  unfold plaC
  split
  · rfl
  · exact cur_f h
theorem laysZ_f {σ : ZT} {nc nl ns f : Nat} (h : f < 36 ∨ 39 < f) : laysZ σ nc nl ns f = σ f := by
  unfold laysZ
  rw [plaC_f h, lawC_f h, layN_f h]
theorem laysZ_ok {σ : ZT} {nc nl ns : Nat} (h : ∀ c, c < nc → CuOk σ c) : PlOk (laysZ σ nc nl ns) nc := by
  have a := layN_ok h
  have b : PlOk (lawC (layN σ nc) nc nl) nc := by
    unfold lawC
    split
    · exact a
    · exact cur_ok (by omega) a
  unfold laysZ plaC
  split
  · exact b
  · exact cur_ok (by omega) b
theorem pl_sums {σ : ZT} {n : Nat} (h : PlOk σ n) (hn : n ≤ 6) : 0 ≤ sumZ (σ 36) n ∧ sumZ (σ 36) n ≤ 600000 ∧ 0 ≤ sumZ (σ 37) n ∧ sumZ (σ 37) n ≤ 600000 := by
  have a := sumZ_b (f := σ 36) (A := 100000) (n := n) (fun i hi => ⟨(h i hi).1, (h i hi).2.1⟩)
  have b := sumZ_b (f := σ 37) (A := 100000) (n := n) (fun i hi => ⟨(h i hi).2.2.1, (h i hi).2.2.2.1⟩)
  omega
theorem rate_c {σ s : ZT} {k : Nat} {b : Bool} (h : ∀ f, f ∈ [4, 5, 6, 7, 8, 10, 11] → s f k = σ f k) : rateZ s k b = rateZ σ k b := by
  unfold rateZ byZ mstZ pressZ roomZ
  rw [h 4 (by decide), h 5 (by decide), h 6 (by decide), h 7 (by decide), h 8 (by decide), h 10 (by decide), h 11 (by decide)]
theorem can_b {σ : ZT} {ns : Nat} {b : Bool} (h : ∀ k, k < ns → StOk σ k) (hn : ns ≤ 5) : 0 ≤ canZ σ ns b ∧ canZ σ ns b ≤ 5000000 := by
  have a := sumZ_b (f := fun k => rateZ σ k b) (A := 1000000) (n := ns) (fun i hi => ⟨(rate_b (h i hi)).1, (rate_b (h i hi)).2.1⟩)
  unfold canZ
  split <;> omega

