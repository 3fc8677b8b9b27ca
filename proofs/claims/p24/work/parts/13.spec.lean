/-! WHAT A HOUSE DOES, in numbers -/
section YJOIN
variable {Ω : OmT} {κ : KxT} {Φ Φ' : AH → Prop} {hR : AH} {cs sl pc pcj : Nat} {L : List (Nat × Value)} {st : List Value}
theorem y_joinI {P : Int → Prop} (k : ∀ v, P v → Y Ω κ Φ hR cs sl pcj L (.int (iv v) :: st)) (b : (∀ v, P v → Y Ω κ Φ hR cs sl pcj L (.int (iv v) :: st)) → Y Ω κ Φ hR cs sl pc L st) : Y Ω κ Φ hR cs sl pc L st := b k
theorem y_joinB {P : Bool → Prop} (k : ∀ v, P v → Y Ω κ Φ hR cs sl pcj L (.int (iv (bz v)) :: st)) (b : (∀ v, P v → Y Ω κ Φ hR cs sl pcj L (.int (iv (bz v)) :: st)) → Y Ω κ Φ hR cs sl pc L st) : Y Ω κ Φ hR cs sl pc L st := b k
theorem y_joinL {P : Int → Prop} (k : ∀ v, P v → Y Ω κ Φ hR cs sl pcj L (.long (jv v) :: st)) (b : (∀ v, P v → Y Ω κ Φ hR cs sl pcj L (.long (jv v) :: st)) → Y Ω κ Φ hR cs sl pc L st) : Y Ω κ Φ hR cs sl pc L st := b k
theorem y_joinJ {P : Int64 → Prop} (k : ∀ v, P v → Y Ω κ Φ hR cs sl pcj L (.long v :: st)) (b : (∀ v, P v → Y Ω κ Φ hR cs sl pcj L (.long v :: st)) → Y Ω κ Φ hR cs sl pc L st) : Y Ω κ Φ hR cs sl pc L st := b k
theorem y_joinU (k : Y Ω κ Φ' hR cs sl pcj L st) (b : Y Ω κ Φ' hR cs sl pcj L st → Y Ω κ Φ hR cs sl pc L st) : Y Ω κ Φ hR cs sl pc L st := b k
end YJOIN
theorem mulb {a b A B : Int} (h1 : 0 ≤ a) (h2 : a ≤ A) (h3 : 0 ≤ b) (h4 : b ≤ B) : 0 ≤ a * b ∧ a * b ≤ A * B := ⟨Int.mul_nonneg h1 h3, Int.mul_le_mul h2 h4 h3 (by omega)⟩
def roomZ (σ : ZT) (k : Nat) : Int := σ 4 k - σ 5 k
def leastZ (p r : Int) : Int := (p * r + 99) / 100
def mostZ (p r : Int) : Int := p * r / 100
def pressZ (σ : ZT) (k : Nat) : Int := 100 * σ 6 k / roomZ σ k
def byZ (σ : ZT) (k : Nat) (b : Bool) : Int := if b = true then σ 8 k - pressZ σ k else pressZ σ k - σ 7 k
def mstZ (σ : ZT) (k : Nat) (b : Bool) : Int := if b = true then mostZ (σ 8 k) (roomZ σ k) - σ 6 k else σ 6 k - leastZ (σ 7 k) (roomZ σ k)
def rateZ (σ : ZT) (k : Nat) (b : Bool) : Int := if byZ σ k b ≤ 0 ∨ mstZ σ k b ≤ 0 then 0 else min (σ 10 k * σ 11 k * byZ σ k b / 100) (mstZ σ k b)
/-- a store that is as it may be; but gas may be above its most -/
def StO0 (σ : ZT) (k : Nat) : Prop := 0 ≤ σ 3 k ∧ σ 3 k ≤ 2 ∧ 1 ≤ σ 4 k ∧ σ 4 k ≤ 100000 ∧ 0 ≤ σ 5 k ∧ 1 ≤ σ 4 k - σ 5 k ∧ 0 ≤ σ 6 k ∧ σ 6 k ≤ 1000000 ∧ 0 ≤ σ 7 k ∧ σ 7 k ≤ σ 8 k ∧ σ 8 k ≤ 1000 ∧ 0 ≤ σ 9 k ∧ σ 9 k ≤ 1000000 ∧ 0 ≤ σ 10 k ∧ σ 10 k ≤ 100 ∧ 0 ≤ σ 11 k ∧ σ 11 k ≤ 1000 ∧ 0 ≤ σ 12 k ∧ σ 12 k ≤ 1000
def StOk (σ : ZT) (k : Nat) : Prop := StO0 σ k ∧ σ 6 k ≤ mostZ (σ 8 k) (roomZ σ k) ∧ (σ 3 k = 0 ∨ σ 5 k = 0)
theorem st_room {σ : ZT} {k : Nat} (h : StO0 σ k) : 1 ≤ roomZ σ k ∧ roomZ σ k ≤ 100000 := by
  obtain ⟨-, -, h1, h2, h3, h4, -⟩ := h
  unfold roomZ; omega
theorem mz_b {p r : Int} (h1 : 0 ≤ p) (h2 : p ≤ 1000) (h3 : 1 ≤ r) (h4 : r ≤ 100000) : 0 ≤ p * r ∧ p * r ≤ 100000000 ∧ 0 ≤ mostZ p r ∧ mostZ p r ≤ 1000000 ∧ 0 ≤ leastZ p r ∧ leastZ p r ≤ 1000000 := by
  have h := mulb h1 h2 (by omega : 0 ≤ r) h4
  unfold mostZ leastZ
  omega
theorem st_most {σ : ZT} {k : Nat} (h : StO0 σ k) : 0 ≤ mostZ (σ 8 k) (roomZ σ k) ∧ mostZ (σ 8 k) (roomZ σ k) ≤ 1000000 := by
  have r := st_room h
  obtain ⟨-, -, -, -, -, -, -, -, h7, h8, h9, -⟩ := h
  have q := mz_b (p := σ 8 k) (by omega) h9 r.1 r.2
  exact ⟨q.2.2.1, q.2.2.2.1⟩
theorem st_least {σ : ZT} {k : Nat} (h : StO0 σ k) : 0 ≤ leastZ (σ 7 k) (roomZ σ k) ∧ leastZ (σ 7 k) (roomZ σ k) ≤ 1000000 := by
  have r := st_room h
  obtain ⟨-, -, -, -, -, -, -, -, h7, h8, h9, -⟩ := h
  have q := mz_b (p := σ 7 k) (by omega) (by omega) r.1 r.2
  exact ⟨q.2.2.2.2.1, q.2.2.2.2.2⟩
/-- the pressure of a store that may hold too much -/
theorem st_press0 {σ : ZT} {k : Nat} (h : StO0 σ k) : 0 ≤ pressZ σ k ∧ pressZ σ k ≤ 100000000 := by
  have r := st_room h
  obtain ⟨-, -, -, -, -, -, h5, h6, -⟩ := h
  unfold pressZ
  refine ⟨Int.ediv_nonneg (by omega) (by omega), ?_⟩
  have q := Int.ediv_le_self (a := 100 * σ 6 k) (roomZ σ k) (by omega)
  omega
theorem st_press {σ : ZT} {k : Nat} (h : StOk σ k) : 0 ≤ pressZ σ k ∧ pressZ σ k ≤ σ 8 k ∧ pressZ σ k ≤ 1000 := by
  have r := st_room h.1
  have p0 := st_press0 h.1
  obtain ⟨⟨-, -, -, -, -, -, h5, h6, h7, h8, h9, -⟩, hm, -⟩ := h
  have q : pressZ σ k ≤ σ 8 k := by
    unfold pressZ
    refine Int.ediv_le_of_le_mul (by omega) ?_
    unfold mostZ at hm
    omega
  exact ⟨p0.1, q, by omega⟩
theorem rate_b {σ : ZT} {k : Nat} {b : Bool} (h : StOk σ k) : 0 ≤ rateZ σ k b ∧ rateZ σ k b ≤ 1000000 ∧ (b = true → rateZ σ k b ≤ mostZ (σ 8 k) (roomZ σ k) - σ 6 k) ∧ (b = false → rateZ σ k b ≤ σ 6 k) ∧ byZ σ k b ≤ 1000 ∧ -1000 ≤ byZ σ k b ∧ -1000000 ≤ mstZ σ k b ∧ mstZ σ k b ≤ 1000000 := by
  have r := st_room h.1
  have p := st_press h
  have m := st_most h.1
  have l := st_least h.1
  obtain ⟨⟨-, -, -, -, -, -, h5, h6, h7, h8, h9, h10, h11, h12, h13, h14, h15, -⟩, hm, -⟩ := h
  have hb : byZ σ k b ≤ 1000 ∧ -1000 ≤ byZ σ k b := by unfold byZ; split <;> omega
  have hs : -1000000 ≤ mstZ σ k b ∧ mstZ σ k b ≤ 1000000 := by unfold mstZ; split <;> omega
  have ht : b = true → mstZ σ k b = mostZ (σ 8 k) (roomZ σ k) - σ 6 k := fun e => by unfold mstZ; rw [if_pos e]
  have hf : b = false → mstZ σ k b = σ 6 k - leastZ (σ 7 k) (roomZ σ k) := fun e => by unfold mstZ; rw [e]; rfl
  have hr : 0 ≤ rateZ σ k b ∧ (rateZ σ k b ≤ mstZ σ k b ∨ rateZ σ k b = 0) := by
    unfold rateZ
    split
    · omega
    · have q1 := mulb h12 h13 h14 h15
      have q2 := Int.mul_nonneg q1.1 (by omega : 0 ≤ byZ σ k b)
      omega
  refine ⟨hr.1, by omega, fun e => ?_, fun e => ?_, hb.1, hb.2, hs.1, hs.2⟩
  · have := ht e; omega
  · have := hf e; omega
/-! customers -/
def rinZ (σ : ZT) (c : Nat) (has : Int) : Int := if 2 * σ 17 c < 3 * has then σ 18 c / 2 else σ 18 c
def routZ (σ : ZT) (c : Nat) (has : Int) : Int := if 3 * has < σ 17 c then σ 19 c / 2 else σ 19 c
def inZ (σ : ZT) (c : Nat) (has : Int) : Int := min (rinZ σ c has) (σ 17 c - has)
def outZ (σ : ZT) (c : Nat) (has : Int) : Int := min (routZ σ c has) has
def CuOk (σ : ZT) (c : Nat) : Prop := 1 ≤ σ 17 c ∧ σ 17 c ≤ 1000000 ∧ 0 ≤ σ 18 c ∧ σ 18 c ≤ 100000 ∧ 0 ≤ σ 19 c ∧ σ 19 c ≤ 100000 ∧ 0 ≤ σ 20 c ∧ σ 20 c ≤ 3 ∧ 0 ≤ σ 21 c ∧ σ 21 c ≤ σ 17 c
theorem rin_b {σ : ZT} {c : Nat} {has : Int} (h : CuOk σ c) : 0 ≤ rinZ σ c has ∧ rinZ σ c has ≤ 100000 := by
  obtain ⟨h1, h2, h3, h4, -⟩ := h
  unfold rinZ; split <;> omega
theorem rout_b {σ : ZT} {c : Nat} {has : Int} (h : CuOk σ c) : 0 ≤ routZ σ c has ∧ routZ σ c has ≤ 100000 := by
  obtain ⟨h1, h2, -, -, h3, h4, -⟩ := h
  unfold routZ; split <;> omega
theorem inz_b {σ : ZT} {c : Nat} {has : Int} (h : CuOk σ c) (h1 : 0 ≤ has) (h2 : has ≤ σ 17 c) : 0 ≤ inZ σ c has ∧ inZ σ c has ≤ 100000 ∧ inZ σ c has ≤ σ 17 c - has := by
  have q := rin_b (has := has) h
  unfold inZ; omega
theorem outz_b {σ : ZT} {c : Nat} {has : Int} (h : CuOk σ c) (h1 : 0 ≤ has) (h2 : has ≤ σ 17 c) : 0 ≤ outZ σ c has ∧ outZ σ c has ≤ 100000 ∧ outZ σ c has ≤ has := by
  have q := rout_b (has := has) h
  unfold outZ; omega
/-! losses, a day's end -/
def lossJ (σ : ZT) (τ : JT) (k : Nat) (u : Int) : Int64 := if σ 6 k = 0 then jv 0 else jv u * τ 13 k / jv (σ 6 k)
def losP (k : Nat) (u : Int) (p : ZT × JT) : ZT × JT := (zu p.1 6 k (p.1 6 k - u), ju p.2 13 k (p.2 13 k - lossJ p.1 p.2 k u))
def getP (k : Nat) (u : Int) (p : ZT × JT) : ZT × JT := (zu p.1 6 k (p.1 6 k + u), ju p.2 13 k (p.2 13 k + jv (u * p.1 15 0)))
def lstP (k : Nat) (u : Int) (p : ZT × JT) : ZT × JT := ((losP k u p).1, ju (losP k u p).2 35 0 (p.2 35 0 + jv u))
def leakP (k : Nat) (p : ZT × JT) : ZT × JT :=
  if p.1 3 k = 2 ∧ p.1 9 k < p.1 6 k - min (p.1 12 k) (p.1 6 k) then lstP k (p.1 6 k - min (p.1 12 k) (p.1 6 k) - p.1 9 k) (lstP k (min (p.1 12 k) (p.1 6 k)) p) else lstP k (min (p.1 12 k) (p.1 6 k)) p
def wetZ (σ : ZT) (k : Nat) : Int := if pressZ σ k < σ 9 k then roomZ σ k / 200 else if σ 9 k < pressZ σ k then -((σ 5 k + 199) / 200) else 0
def volZ (σ : ZT) (k : Nat) : Int := if σ 4 k * (σ 9 k - pressZ σ k) / 100000 < σ 4 k then σ 4 k - σ 4 k * (σ 9 k - pressZ σ k) / 100000 else 1
def moveZ (σ : ZT) (k : Nat) : ZT := if σ 3 k = 0 then zu σ 5 k (σ 5 k + wetZ σ k) else if σ 3 k = 1 ∧ pressZ σ k < σ 9 k then zu σ 4 k (volZ σ k) else σ
def dayP (k : Nat) (p : ZT × JT) : ZT × JT :=
  if mostZ (moveZ p.1 k 8 k) (roomZ (moveZ p.1 k) k) < p.1 6 k then lstP k (p.1 6 k - mostZ (moveZ p.1 k 8 k) (roomZ (moveZ p.1 k) k)) (moveZ p.1 k, p.2) else (moveZ p.1 k, p.2)
theorem wet_b {σ : ZT} {k : Nat} (h : StOk σ k) : 0 ≤ σ 5 k + wetZ σ k ∧ 1 ≤ σ 4 k - (σ 5 k + wetZ σ k) ∧ -1000 ≤ wetZ σ k ∧ wetZ σ k ≤ 1000 := by
  have r := st_room h.1
  have p := st_press h
  obtain ⟨⟨-, -, h1, h2, h3, h4, -⟩, -⟩ := h
  unfold wetZ
  unfold roomZ at r ⊢
  split
  · omega
  · split <;> omega
theorem vol_b {σ : ZT} {k : Nat} (h : StOk σ k) (hp : pressZ σ k < σ 9 k) : 1 ≤ volZ σ k ∧ volZ σ k ≤ σ 4 k ∧ 0 ≤ σ 4 k * (σ 9 k - pressZ σ k) ∧ σ 4 k * (σ 9 k - pressZ σ k) ≤ 100000000000 := by
  have p := st_press h
  obtain ⟨⟨-, -, h1, h2, h3, h4, h5, h6, h7, h8, h9, h10, h11, -⟩, -⟩ := h
  have q := mulb (by omega : 0 ≤ σ 4 k) h2 (by omega : 0 ≤ σ 9 k - pressZ σ k) (by omega : σ 9 k - pressZ σ k ≤ 1000000)
  unfold volZ
  refine ⟨?_, ?_, q.1, by omega⟩
  · split <;> omega
  · split <;> omega
theorem moveZ_6 {σ : ZT} {k : Nat} : moveZ σ k 6 k = σ 6 k ∧ moveZ σ k 8 k = σ 8 k := by
  unfold moveZ
  split
  · exact ⟨rfl, rfl⟩
  · split <;> exact ⟨rfl, rfl⟩
theorem moveZ_ok {σ : ZT} {k : Nat} (h : StOk σ k) : StO0 (moveZ σ k) k := by
  have w := wet_b h
  have v := vol_b h
  have hh := h
  obtain ⟨⟨g1, g2, h1, h2, h3, h4, h5⟩, -, hw⟩ := h
  unfold moveZ
  split
  · refine ⟨g1, g2, h1, h2, ?_, ?_, h5⟩
    · rw [zu_s]; exact w.1
    · rw [zu_s]; exact w.2.1
  · split
    · rename_i q1 q2
      have v := v q2.2
      refine ⟨g1, g2, ?_, ?_, h3, ?_, h5⟩
      · rw [zu_s]; exact v.1
      · rw [zu_s]; omega
      · rw [zu_s]
        show 1 ≤ volZ σ k - σ 5 k
        omega
    · exact hh.1
theorem sto_6 {σ : ZT} {k : Nat} {g : Int} (h : StO0 σ k) (h1 : 0 ≤ g) (h2 : g ≤ 1000000) : StO0 (zu σ 6 k g) k := by
  obtain ⟨a1, a2, a3, a4, a5, a6, a7, a8, a9⟩ := h
  exact ⟨a1, a2, a3, a4, a5, a6, by rw [zu_s]; exact h1, by rw [zu_s]; exact h2, a9⟩
def sumZ (f : Nat → Int) : Nat → Int
  | 0 => 0
  | n + 1 => sumZ f n + f n
theorem sumZ_b {f : Nat → Int} {A : Int} {n : Nat} (h : ∀ i, i < n → 0 ≤ f i ∧ f i ≤ A) : 0 ≤ sumZ f n ∧ sumZ f n ≤ A * n := by
  induction n with
  | zero => exact ⟨Int.le_refl 0, by simp [sumZ]⟩
  | succ n ih =>
    have a := ih (fun i hi => h i (by omega))
    have b := h n (by omega)
    show 0 ≤ sumZ f n + f n ∧ sumZ f n + f n ≤ A * ((n + 1 : Nat) : Int)
    have e : A * ((n + 1 : Nat) : Int) = A * n + A := by rw [Int.natCast_add, Int.mul_add]; simp
    omega
def lawI (σ : ZT) : Nat → Int
  | 0 => -1
  | n + 1 => if σ 28 n ≤ σ 1 0 ∧ σ 1 0 ≤ σ 29 n then n else lawI σ n
theorem lawI_b {σ : ZT} {n : Nat} : -1 ≤ lawI σ n ∧ lawI σ n < n := by
  induction n with
  | zero => exact ⟨Int.le_refl _, by show (-1 : Int) < 0; decide⟩
  | succ n ih =>
    unfold lawI
    split <;> omega
/-- the scalars and the laws are as they may be -/
def LwOk (σ : ZT) (n : Nat) : Prop := σ 27 0 = n ∧ n ≤ 20 ∧ ∀ i, i < n → 0 ≤ σ 28 i ∧ σ 28 i ≤ 10000 ∧ 0 ≤ σ 29 i ∧ σ 29 i ≤ 10000 ∧ 0 ≤ σ 30 i ∧ σ 30 i ≤ 10000000

