/-! the calls that make a house greater -/
section KEPT2
variable {ξ : XiT} {σ : ZT} {τ : JT} {ns nc nl : Nat}
theorem li_transfer {a b u : Int} (h : LI ξ σ τ ns nc nl) (hK : trK σ a b u = 0) : LI ξ (trS a.toNat b.toNat u σ) τ ns nc nl := by
  have hG := if1 hK
  have hG2 := if2 hG.2
  have hG3 := (if3 hG2.2).1
  have o16 := h.1.2.2.1
  have ha := hG.1.1
  have hb := hG.1.2
  have hu := hG2.1
  obtain ⟨⟨a1, a2, a3, a4, a5, a6, a7, a8, a9, a10, a11⟩, h2, h3, h4, h5⟩ := h
  have ca := a8 a.toNat (by omega)
  have cb := a8 b.toNat (by omega)
  unfold CuOk at ca cb
  have nab : b.toNat ≠ a.toNat := by omega
  have e : ∀ f, f ≠ 21 → trS a.toNat b.toNat u σ f = σ f := fun f hf => by unfold trS; rw [zu_n hf, zu_n hf]
  have v : ∀ c, trS a.toNat b.toNat u σ 21 c = if c = b.toNat then σ 21 b.toNat + u else if c = a.toNat then σ 21 a.toNat - u else σ 21 c := fun c => by
    unfold trS
    by_cases q : c = b.toNat
    · rw [if_pos q, q, zu_s, zu_j nab]
    · rw [if_neg q, zu_j q]
      by_cases r : c = a.toNat
      · rw [if_pos r, r, zu_s]
      · rw [if_neg r, zu_j r]
  refine ⟨⟨by rw [e 2 (by omega)]; exact a1, a2, by rw [e 16 (by omega)]; exact a3, a4, by unfold LwOk at a5 ⊢; rw [e 27 (by omega), e 28 (by omega), e 29 (by omega), e 30 (by omega)]; exact a5, by unfold NmOk at a6 ⊢; rw [e 25 (by omega), e 1 (by omega)]; exact a6, fun k hk => st_c (fun f hf => by rw [e f (by omega)]) (a7 k hk), fun c hc => ?_, by rw [e 31 (by omega)]; exact a9, by rw [e 32 (by omega)]; exact a10, by rw [e 15 (by omega)]; exact a11⟩, fun i hi => by rw [e 26 (by omega)]; exact h2 i hi, ⟨fun k hk => by rw [e 5 (by omega), e 10 (by omega), e 11 (by omega), e 12 (by omega)]; exact h3.1 k hk, fun c hc => ?_⟩, fl_c (fun f hf => by rw [e f (by simp only [List.mem_cons, List.not_mem_nil, or_false] at hf; omega)]) h4, fun j => by rw [e 26 (by omega)]; exact h5 j⟩
  · have q := a8 c hc
    unfold CuOk at q ⊢
    rw [e 17 (by omega), e 18 (by omega), e 19 (by omega), e 20 (by omega), v c]
    split
    · rename_i w; rw [w] at q ⊢; omega
    · split
      · rename_i w; rw [w] at q ⊢; omega
      · exact q
  · rw [v c, if_neg (by omega), if_neg (by omega), e 36 (by omega), e 37 (by omega), e 38 (by omega), e 39 (by omega), e 25 (by omega)]
    exact h3.2 c hc
theorem li_law {a b l : Int} (h : LI ξ σ τ ns nc nl) (hK : lwK σ a b l = 0) : LI ξ (lwS nl a b l σ) τ ns nc (nl + 1) := by
  have hG := if1 hK
  have hG2 := if20 hG.2
  have hg := hG.1
  obtain ⟨⟨a1, a2, a3, a4, a5, a6, a7, a8, a9, a10, a11⟩, h2, h3, h4, h5⟩ := h
  have e : ∀ f, f ∉ [27, 28, 29, 30] → lwS nl a b l σ f = σ f := fun f hf => by
    simp only [List.mem_cons, List.not_mem_nil, or_false] at hf
    unfold lwS; rw [zu_n (by omega), zu_n (by omega), zu_n (by omega), zu_n (by omega)]
  have hn0 := a6.2
  refine ⟨⟨by rw [e 2 (by decide)]; exact a1, a2, by rw [e 16 (by decide)]; exact a3, a4, ⟨?_, by have := a5.1; have := a5.2.1; omega, fun i hi => ?_⟩, by unfold NmOk at a6 ⊢; rw [e 25 (by decide), e 1 (by decide)]; exact a6, fun k hk => st_c (fun f hf => by rw [e f (by simp only [List.mem_cons, List.not_mem_nil, or_false]; omega)]) (a7 k hk), fun c hc => ?_, by rw [e 31 (by decide)]; exact a9, by rw [e 32 (by decide)]; exact a10, by rw [e 15 (by decide)]; exact a11⟩, fun i hi => by rw [e 26 (by decide)]; exact h2 i hi, ⟨fun k hk => by rw [e 5 (by decide), e 10 (by decide), e 11 (by decide), e 12 (by decide)]; exact h3.1 k hk, fun c hc => by rw [e 21 (by decide), e 36 (by decide), e 37 (by decide), e 38 (by decide), e 39 (by decide), e 25 (by decide)]; exact h3.2 c hc⟩, fl_c (fun f hf => by rw [e f (by simp only [List.mem_cons, List.not_mem_nil, or_false] at hf ⊢; omega)]) h4, fun j => by rw [e 26 (by decide)]; exact h5 j⟩
  · unfold lwS; rw [zu_s, a5.1]; omega
  · have e28 : lwS nl a b l σ 28 i = if i = nl then a else σ 28 i := by
      unfold lwS; rw [zu_f (by omega), zu_f (by omega), zu_f (by omega)]
      by_cases q : i = nl
      · rw [if_pos q, q, zu_s]
      · rw [if_neg q, zu_j q]
    have e29 : lwS nl a b l σ 29 i = if i = nl then b else σ 29 i := by
      unfold lwS; rw [zu_f (by omega), zu_f (by omega)]
      by_cases q : i = nl
      · rw [if_pos q, q, zu_s]
      · rw [if_neg q, zu_j q, zu_f (by omega)]
    have e30 : lwS nl a b l σ 30 i = if i = nl then l else σ 30 i := by
      unfold lwS; rw [zu_f (by omega)]
      by_cases q : i = nl
      · rw [if_pos q, q, zu_s]
      · rw [if_neg q, zu_j q, zu_f (by omega), zu_f (by omega)]
    rw [e28, e29, e30]
    by_cases q : i = nl
    · rw [if_pos q, if_pos q, if_pos q]; omega
    · rw [if_neg q, if_neg q, if_neg q]; exact a5.2.2 i (by omega)
  · have q := a8 c hc
    unfold CuOk at q ⊢
    rw [e 17 (by decide), e 18 (by decide), e 19 (by decide), e 20 (by decide), e 21 (by decide)]; exact q
theorem li_customer {v i o r : Int} (h : LI ξ σ τ ns nc nl) (hK : cuK σ v i o r = 0) : LI ξ (cuS nc v i o r σ) τ ns (nc + 1) nl := by
  have hG := if1 hK
  have hG2 := if20 hG.2
  have hg := hG.1
  obtain ⟨⟨a1, a2, a3, a4, a5, a6, a7, a8, a9, a10, a11⟩, h2, h3, h4, h5⟩ := h
  have e : ∀ f, f ∉ [16, 17, 18, 19, 20] → cuS nc v i o r σ f = σ f := fun f hf => by
    simp only [List.mem_cons, List.not_mem_nil, or_false] at hf
    unfold cuS; rw [zu_n (by omega), zu_n (by omega), zu_n (by omega), zu_n (by omega), zu_n (by omega)]
  have bn := h3.2 nc (Nat.le_refl _)
  refine ⟨⟨by rw [e 2 (by decide)]; exact a1, a2, ?_, by omega, by unfold LwOk at a5 ⊢; rw [e 27 (by decide), e 28 (by decide), e 29 (by decide), e 30 (by decide)]; exact a5, ⟨fun j hj => ?_, by rw [e 1 (by decide)]; exact a6.2⟩, fun k hk => st_c (fun f hf => by rw [e f (by simp only [List.mem_cons, List.not_mem_nil, or_false]; omega)]) (a7 k hk), fun c hc => ?_, by rw [e 31 (by decide)]; exact a9, by rw [e 32 (by decide)]; exact a10, by rw [e 15 (by decide)]; exact a11⟩, fun i hi => by rw [e 26 (by decide)]; exact h2 i hi, ⟨fun k hk => by rw [e 5 (by decide), e 10 (by decide), e 11 (by decide), e 12 (by decide)]; exact h3.1 k hk, fun c hc => by rw [e 21 (by decide), e 36 (by decide), e 37 (by decide), e 38 (by decide), e 39 (by decide), e 25 (by decide)]; exact h3.2 c (by omega)⟩, fl_c (fun f hf => by rw [e f (by simp only [List.mem_cons, List.not_mem_nil, or_false] at hf ⊢; omega)]) h4, fun j => by rw [e 26 (by decide)]; exact h5 j⟩
  · unfold cuS; rw [zu_s, a3]; omega
  · rw [e 25 (by decide)]
    by_cases q : j < 64 * nc
    · exact a6.1 j q
    · have w := bn.2.2.2.2.2.2.2.2 (j - 64 * nc) (by omega)
      rw [show 64 * nc + (j - 64 * nc) = j by omega] at w
      omega
  · by_cases q : c = nc
    · subst q
      have e17 : cuS c v i o r σ 17 c = v := by unfold cuS; rw [zu_f (by omega), zu_f (by omega), zu_f (by omega), zu_f (by omega), zu_s]
      have e18 : cuS c v i o r σ 18 c = i := by unfold cuS; rw [zu_f (by omega), zu_f (by omega), zu_f (by omega), zu_s]
      have e19 : cuS c v i o r σ 19 c = o := by unfold cuS; rw [zu_f (by omega), zu_f (by omega), zu_s]
      have e20 : cuS c v i o r σ 20 c = r := by unfold cuS; rw [zu_f (by omega), zu_s]
      unfold CuOk
      rw [e17, e18, e19, e20, e 21 (by decide), bn.1]
      omega
    · have w := a8 c (by omega)
      unfold CuOk at w ⊢
      have f : ∀ g, g ≠ 16 → cuS nc v i o r σ g c = σ g c := fun g hg => by unfold cuS; rw [zu_f hg, zu_o q, zu_o q, zu_o q, zu_o q]
      rw [f 17 (by omega), f 18 (by omega), f 19 (by omega), f 20 (by omega), f 21 (by omega)]; exact w
theorem li_store {k v g lo gr m : Int} (h : LI ξ σ τ ns nc nl) (hK : stK σ k v g lo gr m = 0) : LI ξ (stS ns k v g lo gr m (σ, τ)).1 (stS ns k v g lo gr m (σ, τ)).2 (ns + 1) nc nl := by
  have hG := if1 hK
  have hG2 := if20 hG.2
  have hg := hG.1
  obtain ⟨⟨a1, a2, a3, a4, a5, a6, a7, a8, a9, a10, a11⟩, h2, h3, h4, h5⟩ := h
  obtain ⟨s, hs⟩ : ∃ s, s = (stS ns k v g lo gr m (σ, τ)).1 := ⟨_, rfl⟩
  obtain ⟨t, ht⟩ : ∃ t, t = (stS ns k v g lo gr m (σ, τ)).2 := ⟨_, rfl⟩
  rw [← hs, ← ht]
  have hs' : s = zu (zu (zu (zu (zu (zu (zu σ 3 ns k) 4 ns v) 6 ns g) 7 ns lo) 8 ns gr) 9 ns m) 2 0 (σ 2 0 + 1) := hs
  have ht' : t = ju (ju τ 13 ns (jv (g * σ 15 0))) 33 0 (τ 33 0 + jv g) := ht
  have e : ∀ f, f ∉ [2, 3, 4, 6, 7, 8, 9] → s f = σ f := fun f hf => by
    simp only [List.mem_cons, List.not_mem_nil, or_false] at hf
    rw [hs', zu_n (by omega), zu_n (by omega), zu_n (by omega), zu_n (by omega), zu_n (by omega), zu_n (by omega), zu_n (by omega)]
  have eo : ∀ f j, f ≠ 2 → j ≠ ns → s f j = σ f j := fun f j hf hj => by
    rw [hs', zu_f hf, zu_o hj, zu_o hj, zu_o hj, zu_o hj, zu_o hj, zu_o hj]
  have tt : ∀ f, f ≠ 13 → f ≠ 33 → t f = τ f := fun f h1 h2 => by rw [ht', ju_n h2, ju_n h1]
  have bn := h3.1 ns (Nat.le_refl _)
  have hm1 := mz_b (p := lo) (r := v) (by omega) (by omega) (by omega) (by omega)
  have hm2 := mz_b (p := gr) (r := v) (by omega) (by omega) (by omega) (by omega)
  have st_n : StOk s ns := by
    have e3 : s 3 ns = k := by rw [hs', zu_f (by omega), zu_f (by omega), zu_f (by omega), zu_f (by omega), zu_f (by omega), zu_f (by omega), zu_s]
    have e4 : s 4 ns = v := by rw [hs', zu_f (by omega), zu_f (by omega), zu_f (by omega), zu_f (by omega), zu_f (by omega), zu_s]
    have e6 : s 6 ns = g := by rw [hs', zu_f (by omega), zu_f (by omega), zu_f (by omega), zu_f (by omega), zu_s]
    have e7 : s 7 ns = lo := by rw [hs', zu_f (by omega), zu_f (by omega), zu_f (by omega), zu_s]
    have e8 : s 8 ns = gr := by rw [hs', zu_f (by omega), zu_f (by omega), zu_s]
    have e9 : s 9 ns = m := by rw [hs', zu_f (by omega), zu_s]
    have e5 : s 5 ns = 0 := by rw [e 5 (by decide)]; exact bn.1
    unfold StOk StO0 roomZ
    rw [e3, e4, e5, e6, e7, e8, e9, e 10 (by decide), e 11 (by decide), e 12 (by decide), bn.2.1, bn.2.2.1, bn.2.2.2, Int.sub_zero]
    omega
  refine ⟨⟨?_, by omega, by rw [e 16 (by decide)]; exact a3, a4, by unfold LwOk at a5 ⊢; rw [e 27 (by decide), e 28 (by decide), e 29 (by decide), e 30 (by decide)]; exact a5, by unfold NmOk at a6 ⊢; rw [e 25 (by decide), e 1 (by decide)]; exact a6, fun j hj => ?_, fun c hc => ?_, by rw [e 31 (by decide)]; exact a9, by rw [e 32 (by decide)]; exact a10, by rw [e 15 (by decide)]; exact a11⟩, fun i hi => by rw [e 26 (by decide)]; exact h2 i hi, ⟨fun j hj => by rw [e 5 (by decide), e 10 (by decide), e 11 (by decide), e 12 (by decide)]; exact h3.1 j (by omega), fun c hc => by rw [e 21 (by decide), e 36 (by decide), e 37 (by decide), e 38 (by decide), e 39 (by decide), e 25 (by decide), tt 22 (by omega) (by omega), tt 23 (by omega) (by omega), tt 24 (by omega) (by omega)]; exact h3.2 c hc⟩, fl_c (fun f hf => by rw [e f (by simp only [List.mem_cons, List.not_mem_nil, or_false] at hf ⊢; omega)]) h4, fun j => by rw [e 26 (by decide)]; exact h5 j⟩
  · rw [hs', zu_s, a1]; omega
  · by_cases q : j = ns
    · rw [q]; exact st_n
    · have w := a7 j (by omega)
      unfold StOk StO0 roomZ at w ⊢
      rw [eo 3 j (by omega) q, eo 4 j (by omega) q, eo 5 j (by omega) q, eo 6 j (by omega) q, eo 7 j (by omega) q, eo 8 j (by omega) q, eo 9 j (by omega) q, eo 10 j (by omega) q, eo 11 j (by omega) q, eo 12 j (by omega) q]
      exact w
  · have q := a8 c hc
    unfold CuOk at q ⊢
    rw [e 17 (by decide), e 18 (by decide), e 19 (by decide), e 20 (by decide), e 21 (by decide)]; exact q
end KEPT2

