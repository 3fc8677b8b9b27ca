/-! THE CALLS: which exception (0: none), what is left behind, what is answered -/
def FR (K : Int) (v v0 : Value) (A B : AH → Prop) : Option Value → AH → Prop := fun rv h => (K = 0 ∧ rv = some v ∧ A h) ∨ (K ≠ 0 ∧ rv = some v0 ∧ B h)
theorem if1 {A : Prop} [Decidable A] {x : Int} (h : (if A then x else 1) = 0) : A ∧ x = 0 := by
  by_cases q : A
  · rw [if_pos q] at h; exact ⟨q, h⟩
  · rw [if_neg q] at h; omega
theorem if2 {A : Prop} [Decidable A] {x : Int} (h : (if A then x else 2) = 0) : A ∧ x = 0 := by
  by_cases q : A
  · rw [if_pos q] at h; exact ⟨q, h⟩
  · rw [if_neg q] at h; omega
theorem if3 {A : Prop} [Decidable A] {x : Int} (h : (if A then x else 3) = 0) : A ∧ x = 0 := by
  by_cases q : A
  · rw [if_pos q] at h; exact ⟨q, h⟩
  · rw [if_neg q] at h; omega
theorem if20 {A : Prop} [Decidable A] (h : (if A then (2 : Int) else 0) = 0) : ¬ A := fun q => by rw [if_pos q] at h; omega
theorem wf_0 {σ s : ZT} {ns nc nl : Nat} (h : ∀ f, f ≠ 0 → s f = σ f) (k : Wf σ ns nc nl) : Wf s ns nc nl := by
  obtain ⟨a1, a2, a3, a4, a5, a6, a7, a8, a9, a10, a11⟩ := k
  have e : ∀ f, f ∈ [1, 2, 3, 4, 5, 6, 7, 8, 9, 10, 11, 12, 15, 16, 17, 18, 19, 20, 21, 25, 27, 28, 29, 30, 31, 32] → s f = σ f := fun f hf => h f (by intro e; subst e; revert hf; decide)
  unfold Wf LwOk NmOk StOk StO0 CuOk roomZ at *
  rw [e 1 (by decide), e 2 (by decide), e 15 (by decide), e 16 (by decide), e 25 (by decide), e 27 (by decide), e 28 (by decide), e 29 (by decide), e 30 (by decide), e 31 (by decide), e 32 (by decide), e 3 (by decide), e 4 (by decide), e 5 (by decide), e 6 (by decide), e 7 (by decide), e 8 (by decide), e 9 (by decide), e 10 (by decide), e 11 (by decide), e 12 (by decide), e 17 (by decide), e 18 (by decide), e 19 (by decide), e 20 (by decide), e 21 (by decide)]
  exact ⟨a1, a2, a3, a4, a5, a6, a7, a8, a9, a10, a11⟩
abbrev isN (n x : Int) : Prop := 0 ≤ x ∧ x ≤ n - 1
def stK (σ : ZT) (k v g lo hi m : Int) : Int := if 0 ≤ k ∧ k ≤ 2 ∧ 1 ≤ v ∧ v ≤ 100000 ∧ 0 ≤ lo ∧ lo ≤ 1000 ∧ lo ≤ hi ∧ hi ≤ 1000 ∧ 0 ≤ m ∧ m ≤ 1000000 ∧ leastZ lo v ≤ g ∧ g ≤ mostZ hi v then (if σ 2 0 = 5 then 2 else 0) else 1
def stS (n : Nat) (k v g lo hi m : Int) (p : ZT × JT) : ZT × JT := (zu (zu (zu (zu (zu (zu (zu p.1 3 n k) 4 n v) 6 n g) 7 n lo) 8 n hi) 9 n m) 2 0 (p.1 2 0 + 1), ju (ju p.2 13 n (jv (g * p.1 15 0))) 33 0 (p.2 33 0 + jv g))
def wlK (σ : ZT) (s a b : Int) : Int := if isN (σ 2 0) s then (if 0 ≤ a ∧ a ≤ 100 ∧ 0 ≤ b ∧ b ≤ 1000 then 0 else 2) else 1
def wlS (k : Nat) (a b : Int) (σ : ZT) : ZT := zu (zu σ 10 k a) 11 k b
def lkK (σ : ZT) (s u : Int) : Int := if isN (σ 2 0) s then (if 0 ≤ u ∧ u ≤ 1000 then 0 else 2) else 1
def lcK (σ : ZT) (s u : Int) : Int := if isN (σ 2 0) s then (if 1 ≤ u ∧ u ≤ 100000 then (if σ 3 s.toNat = 1 ∧ σ 6 s.toNat = 0 ∧ σ 4 s.toNat + u ≤ 100000 then 0 else 3) else 2) else 1
def htK (u : Int) : Int := if 0 ≤ u ∧ u ≤ 20000 then 0 else 1
def cuK (σ : ZT) (v i o r : Int) : Int := if 1 ≤ v ∧ v ≤ 1000000 ∧ 0 ≤ i ∧ i ≤ 100000 ∧ 0 ≤ o ∧ o ≤ 100000 ∧ 0 ≤ r ∧ r ≤ 3 then (if σ 16 0 = 6 then 2 else 0) else 1
def cuS (n : Nat) (v i o r : Int) (σ : ZT) : ZT := zu (zu (zu (zu (zu σ 17 n v) 18 n i) 19 n o) 20 n r) 16 0 (σ 16 0 + 1)
def nmK (σ : ZT) (c t u : Int) : Int := if isN (σ 16 0) c then (if σ 1 0 + 2 ≤ t ∧ t ≤ σ 1 0 + 60 ∧ -1000000 ≤ u ∧ u ≤ 1000000 then 0 else 2) else 1
def trK (σ : ZT) (a b u : Int) : Int := if isN (σ 16 0) a ∧ isN (σ 16 0) b then (if a ≠ b ∧ 1 ≤ u ∧ u ≤ 1000000 then (if u ≤ σ 21 a.toNat ∧ u ≤ σ 17 b.toNat - σ 21 b.toNat then 0 else 3) else 2) else 1
def trS (a b : Nat) (u : Int) (σ : ZT) : ZT := zu (zu σ 21 a (σ 21 a - u)) 21 b (zu σ 21 a (σ 21 a - u) 21 b + u)
def lwK (σ : ZT) (a b l : Int) : Int := if σ 1 0 ≤ a ∧ a ≤ 10000 ∧ a ≤ b ∧ b ≤ 10000 ∧ 0 ≤ l ∧ l ≤ 10000000 then (if σ 27 0 = 20 then 2 else 0) else 1
def lwS (n : Nat) (a b l : Int) (σ : ZT) : ZT := zu (zu (zu (zu σ 28 n a) 29 n b) 30 n l) 27 0 (σ 27 0 + 1)
def prK (σ : ZT) (t u : Int) : Int := if σ 1 0 ≤ t ∧ t ≤ σ 1 0 + 60 ∧ -1000 ≤ u ∧ u ≤ 1000 then 0 else 1
def psK (σ : ZT) (t : Int) : Int := if 1 ≤ t ∧ t ≤ 240 then (if 9900 < σ 1 0 + t then 2 else 0) else 1
def soK (σ : ZT) (s : Int) : Int := if isN (σ 2 0) s then 0 else 1
def scK (σ : ZT) (c : Int) : Int := if isN (σ 16 0) c then 0 else 1
def osK (σ : ZT) (s w : Int) : Int := if isN (σ 2 0) s then (if 0 ≤ w ∧ w ≤ 6 then 0 else 2) else 1
def osR (σ : ZT) (τ : JT) (k : Nat) (w : Int) : Int64 := if w = 0 then jv (σ 6 k) else if w = 1 then jv (roomZ σ k) else if w = 2 then jv (σ 4 k) else if w = 3 then jv (σ 5 k) else if w = 4 then τ 13 k else if w = 5 then jv (leastZ (σ 7 k) (roomZ σ k)) else jv (mostZ (σ 8 k) (roomZ σ k))
def ocK (σ : ZT) (c w : Int) : Int := if isN (σ 16 0) c then (if 0 ≤ w ∧ w ≤ 5 then 0 else 2) else 1
def ocR (σ : ZT) (τ : JT) (c : Nat) (w : Int) : Int64 := if w = 0 then jv (σ 21 c) else if w = 1 then jv (rinZ σ c (σ 21 c)) else if w = 2 then jv (routZ σ c (σ 21 c)) else if w = 3 then τ 22 c else if w = 4 then τ 23 c else τ 24 c
def woK (σ : ZT) (c t : Int) : Int := if isN (σ 16 0) c then (if 1 ≤ t ∧ t ≤ 8 then 0 else 2) else 1
def ofK (w : Int) : Int := if 0 ≤ w ∧ w ≤ 7 then 0 else 1
def keptZ (σ : ZT) (nl : Nat) : Int := if lawI σ nl = -1 then 0 else σ 30 (lawI σ nl).toNat
def ofR (σ : ZT) (τ : JT) (ns nc nl : Nat) (w : Int) : Int64 := if w = 0 then jv (σ 1 0) else if w = 1 then τ 33 0 else if w = 2 then τ 34 0 else if w = 3 then τ 35 0 else if w = 4 then jv (sumZ (σ 6) ns) else if w = 5 then jv (sumZ (σ 21) nc) else if w = 6 then jv (sumZ (σ 6) ns - sumZ (σ 21) nc) else jv (keptZ σ nl)
/-- a way: what the customer has, what it brought in, the digits left -/
def pricZ (σ : ZT) (k : Nat) : Int := σ 26 ((nowN σ + k) % 64)
def thingZ (σ : ZT) (c : Nat) (has : Int) (d : Nat) : Int := if d = 1 then inZ σ c has else if d = 2 then -outZ σ c has else 0
def wayN (σ : ZT) (c w : Nat) : Nat → Int × Int × Nat
  | 0 => (σ 21 c, 0, w)
  | k + 1 => ((wayN σ c w k).1 + thingZ σ c (wayN σ c w k).1 ((wayN σ c w k).2.2 % 3), (wayN σ c w k).2.1 - thingZ σ c (wayN σ c w k).1 ((wayN σ c w k).2.2 % 3) * pricZ σ k, (wayN σ c w k).2.2 / 3)
def bestN (σ : ZT) (c t : Nat) : Nat → Int
  | 0 => 0
  | n + 1 => max (bestN σ c t n) (wayN σ c n t).2.1
/-- prices are as they may be -/
def PrOk (σ : ZT) : Prop := ∀ i, i < 64 → -1000 ≤ σ 26 i ∧ σ 26 i ≤ 1000
theorem thing_b {σ : ZT} {c d : Nat} {has : Int} (h : CuOk σ c) (h1 : 0 ≤ has) (h2 : has ≤ σ 17 c) : -100000 ≤ thingZ σ c has d ∧ thingZ σ c has d ≤ 100000 ∧ 0 ≤ has + thingZ σ c has d ∧ has + thingZ σ c has d ≤ σ 17 c := by
  have i := inz_b h h1 h2
  have o := outz_b h h1 h2
  unfold thingZ
  split
  · omega
  · split <;> omega
theorem mul_b {a b A B : Int} (h1 : -A ≤ a) (h2 : a ≤ A) (h3 : -B ≤ b) (h4 : b ≤ B) : -(A * B) ≤ a * b ∧ a * b ≤ A * B := by
  have hA : 0 ≤ A := by omega
  have hB : 0 ≤ B := by omega
  rcases Int.le_total 0 a with ha | ha <;> rcases Int.le_total 0 b with hb | hb
  · have q := mulb ha h2 hb h4; have r := Int.mul_nonneg hA hB; omega
  · have q := mulb ha h2 (by omega : 0 ≤ -b) (by omega : -b ≤ B)
    rw [Int.mul_neg] at q
    have r := Int.mul_nonneg hA hB; omega
  · have q := mulb (by omega : 0 ≤ -a) (by omega : -a ≤ A) hb h4
    rw [Int.neg_mul] at q
    have r := Int.mul_nonneg hA hB; omega
  · have q := mulb (by omega : 0 ≤ -a) (by omega : -a ≤ A) (by omega : 0 ≤ -b) (by omega : -b ≤ B)
    rw [Int.neg_mul_neg] at q
    have r := Int.mul_nonneg hA hB; omega
theorem way_b {σ : ZT} {c w k : Nat} (h : CuOk σ c) (hp : PrOk σ) : 0 ≤ (wayN σ c w k).1 ∧ (wayN σ c w k).1 ≤ σ 17 c ∧ -(100000000 * k) ≤ (wayN σ c w k).2.1 ∧ (wayN σ c w k).2.1 ≤ 100000000 * k ∧ (wayN σ c w k).2.2 ≤ w := by
  induction k with
  | zero =>
    obtain ⟨-, -, -, -, -, -, -, -, h1, h2⟩ := h
    refine ⟨h1, h2, ?_, ?_, Nat.le_refl _⟩
    · show _ ≤ (0 : Int); omega
    · show (0 : Int) ≤ _; omega
  | succ k ih =>
    have t := thing_b (d := (wayN σ c w k).2.2 % 3) h ih.1 ih.2.1
    have p := hp ((nowN σ + k) % 64) (Nat.mod_lt _ (by omega))
    have m := mul_b t.1 t.2.1 p.1 p.2
    have e1 : (wayN σ c w (k + 1)).1 = (wayN σ c w k).1 + thingZ σ c (wayN σ c w k).1 ((wayN σ c w k).2.2 % 3) := rfl
    have e2 : (wayN σ c w (k + 1)).2.1 = (wayN σ c w k).2.1 - thingZ σ c (wayN σ c w k).1 ((wayN σ c w k).2.2 % 3) * pricZ σ k := rfl
    have e3 : (wayN σ c w (k + 1)).2.2 = (wayN σ c w k).2.2 / 3 := rfl
    have d : (wayN σ c w k).2.2 / 3 ≤ (wayN σ c w k).2.2 := Nat.div_le_self _ _
    rw [e1, e2, e3]
    unfold pricZ
    omega
theorem best_b {σ : ZT} {c t n : Nat} (h : CuOk σ c) (hp : PrOk σ) (ht : t ≤ 8) : 0 ≤ bestN σ c t n ∧ bestN σ c t n ≤ 800000000 := by
  induction n with
  | zero => exact ⟨Int.le_refl _, by show (0 : Int) ≤ _; omega⟩
  | succ n ih =>
    have q := way_b (w := n) (k := t) h hp
    have e : bestN σ c t (n + 1) = max (bestN σ c t n) (wayN σ c n t).2.1 := rfl
    rw [e]
    omega
theorem pr_0 {σ s : ZT} (h : ∀ f, f ≠ 0 → s f = σ f) (k : PrOk σ) : PrOk s := fun i hi => by rw [h 26 (by omega)]; exact k i hi
theorem Y.or {Ω : OmT} {κ : KxT} {Φ Φ' : AH → Prop} {hR : AH} {cs sl pc : Nat} {L : List (Nat × Value)} {st : List Value} (k : Y Ω κ Φ hR cs sl pc L st) (k' : Y Ω κ Φ' hR cs sl pc L st) : Y Ω κ (fun h => Φ h ∨ Φ' h) hR cs sl pc L st := fun h H locs ls hh => hh.elim (fun q => k h H locs ls q) (fun q => k' h H locs ls q)

