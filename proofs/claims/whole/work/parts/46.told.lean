/-! what is counted and told, on both sides -/
section TOLD
variable {N : Nat} {B : Int} {u : Nat → Int32} {E : Int32 → Int32 → Prop} {σ τ θ : Mm}
theorem Rl.many (h : Rl N B u E σ τ θ) {p : Int32} (hp : p = 0 ∨ p = 1 ∨ p = 2) : fX1_howMany σ p = fX3_many τ p := by
  unfold fX1_howMany fX1_howMany_k1 fX3_many fX3_many_k1
  dsimp only
  rw [h.wfnm]
  refine itR_12 (f := fun i x => fX1_howMany_b1 σ p i x) (g := fun i x => fX3_many_b1 τ p i x) (P := fun _ (a b : Int32) => a = b) h.n12 rfl (fun i a b hi e => ?_) (fun i a b hi hi2 e => ?_)
  · have hi12 : i < 12 := by have := h.n12; omega
    show fX1_howMany_b1 σ p i a = fX3_many_b1 τ p i b
    unfold fX1_howMany_b1 fX3_many_b1
    rw [of6 hi12, h.cell hi (by decide), e]
    split
    · rfl
    · exact (Int32.add_zero b).symm
  · show fX1_howMany_b1 σ p i a = b
    unfold fX1_howMany_b1
    rw [(h.no hi hi2).1, if_neg (by rcases hp with rfl | rfl | rfl <;> decide), e]
theorem Rl.coins (h : Rl N B u E σ τ θ) : fX1_coinsInPurses σ = fX3_all τ 2 := by
  unfold fX1_coinsInPurses fX1_coinsInPurses_k1 fX3_all fX3_all_k1
  dsimp only
  rw [h.wfnm]
  refine itR_12 (f := fun i x => fX1_coinsInPurses_b1 σ i x) (g := fun i x => fX3_all_b1 τ 2 i x) (P := fun _ (a b : Int32) => a = b) h.n12 rfl (fun i a b hi e => ?_) (fun i a b hi hi2 e => ?_)
  · have hi12 : i < 12 := by have := h.n12; omega
    show fX1_coinsInPurses_b1 σ i a = fX3_all_b1 τ 2 i b
    unfold fX1_coinsInPurses_b1 fX3_all_b1
    rw [of2 hi12, h.cell hi (by decide), e]
  · show fX1_coinsInPurses_b1 σ i a = b
    unfold fX1_coinsInPurses_b1
    rw [(h.no hi hi2).2.2.2.1, e]
    exact Int32.add_zero b
theorem Rl.marks (h : Rl N B u E σ τ θ) : fX1_marksOfAll σ = fX3_all τ 3 := by
  unfold fX1_marksOfAll fX1_marksOfAll_k1 fX3_all fX3_all_k1
  dsimp only
  rw [h.wfnm]
  refine itR_12 (f := fun i x => fX1_marksOfAll_b1 σ i x) (g := fun i x => fX3_all_b1 τ 3 i x) (P := fun _ (a b : Int32) => a = b) h.n12 rfl (fun i a b hi e => ?_) (fun i a b hi hi2 e => ?_)
  · have hi12 : i < 12 := by have := h.n12; omega
    show fX1_marksOfAll_b1 σ i a = fX3_all_b1 τ 3 i b
    unfold fX1_marksOfAll_b1 fX3_all_b1
    rw [of3 hi12, h.cell hi (by decide), e]
  · show fX1_marksOfAll_b1 σ i a = b
    unfold fX1_marksOfAll_b1
    rw [(h.no hi hi2).2.2.2.2.1, e]
    exact Int32.add_zero b
theorem Rl.tally (h : Rl N B u E σ τ θ) (p : Int32) : fX1_tally σ p = fX4_counted τ p := by
  obtain ⟨s0, s2, s3, s4, s5, s6, s7, s8⟩ := h.sc
  have s1 : σ 0 1 = τ 0 1 := h.2.1.1.trans h.2.1.2.symm
  unfold fX1_tally fX4_counted
  by_cases e0 : p = 0
  · rw [if_pos e0, if_pos e0, s0]
  rw [if_neg e0, if_neg e0]
  by_cases e1 : p = 1
  · rw [if_pos e1, if_pos e1, s1]
  rw [if_neg e1, if_neg e1]
  by_cases e2 : p = 2
  · rw [if_pos e2, if_pos e2, e2]
    exact h.many (Or.inl rfl)
  rw [if_neg e2, if_neg e2]
  by_cases e3 : p = 3
  · rw [if_pos e3, if_pos e3, e3]
    exact h.many (Or.inr (Or.inl rfl))
  rw [if_neg e3, if_neg e3]
  by_cases e4 : p = 4
  · rw [if_pos e4, if_pos e4, e4]
    exact h.many (Or.inr (Or.inr rfl))
  rw [if_neg e4, if_neg e4]
  by_cases e5 : p = 5
  · rw [if_pos e5, if_pos e5, s2]
  rw [if_neg e5, if_neg e5]
  by_cases e6 : p = 6
  · rw [if_pos e6, if_pos e6, s3]
  rw [if_neg e6, if_neg e6]
  by_cases e7 : p = 7
  · rw [if_pos e7, if_pos e7, s4]
  rw [if_neg e7, if_neg e7]
  by_cases e8 : p = 8
  · rw [if_pos e8, if_pos e8, s5]
  rw [if_neg e8, if_neg e8]
  by_cases e9 : p = 9
  · rw [if_pos e9, if_pos e9]
    exact h.coins
  rw [if_neg e9, if_neg e9]
  by_cases e10 : p = 10
  · rw [if_pos e10, if_pos e10]
    exact h.marks
  rw [if_neg e10, if_neg e10]
  by_cases e11 : p = 11
  · rw [if_pos e11, if_pos e11, s7]
  rw [if_neg e11, if_neg e11, s8]
theorem pot_m1 {q : Nat} (hq : q < 3) : ¬ (-1 : Int32) = nI q := by
  rcases (show q = 0 ∨ q = 1 ∨ q = 2 by omega) with rfl | rfl | rfl <;> decide
theorem Rl.there (h : Rl N B u E σ τ θ) {q : Nat} (hq : q < 3) : fX1_atPot σ (nI q) = fX3_there τ (nI q) := by
  unfold fX1_atPot fX1_atPot_k1 fX3_there fX3_there_k1
  dsimp only
  rw [h.wfnm]
  refine itR_12 (f := fun i x => fX1_atPot_b1 σ (nI q) i x) (g := fun i x => fX3_there_b1 τ (nI q) i x) (P := fun _ (a b : Int32) => a = b) h.n12 rfl (fun i a b hi e => ?_) (fun i a b hi hi2 e => ?_)
  · have hi12 : i < 12 := by have := h.n12; omega
    show fX1_atPot_b1 σ (nI q) i a = fX3_there_b1 τ (nI q) i b
    unfold fX1_atPot_b1 fX3_there_b1
    rw [of5 hi12, h.cell hi (by decide), e]
    obtain ⟨k1, k2, k3, k4, k5, k6⟩ := h.ok hi
    by_cases hl : fX0_lives σ i = 0
    · rw [if_pos hl, k4 ((lives_iff k1).mp hl), if_neg (pot_m1 hq)]
      exact (Int32.add_zero b).symm
    · rw [if_neg hl]
      split
      · rfl
      · exact (Int32.add_zero b).symm
  · show fX1_atPot_b1 σ (nI q) i a = b
    have el : fX0_lives σ i = 0 := by
      unfold fX0_lives
      rw [(h.no hi hi2).1]
      decide
    unfold fX1_atPot_b1
    rw [if_pos el, e]
theorem Rl.potful (h : Rl N B u E σ τ θ) (hc : CC σ τ) {q : Nat} (hq : q < 3) : fX1_poundsOfPot σ (nI q) = itR (fun i x => fX4_combed_b1 (nI q) τ i x) 0 (wfn τ) 0 := by
  unfold fX1_poundsOfPot fX1_poundsOfPot_k1
  dsimp only
  rw [h.wfnm]
  refine itR_12 (f := fun i x => fX1_poundsOfPot_b1 σ (nI q) i x) (g := fun i x => fX4_combed_b1 (nI q) τ i x) (P := fun _ (a b : Int32) => a = b) h.n12 rfl (fun i a b hi e => ?_) (fun i a b hi hi2 e => ?_)
  · have hi12 : i < 12 := by have := h.n12; omega
    have c5 := h.cell hi (f := 5) (by decide)
    have c6 := h.cell hi (f := 6) (by decide)
    have hci := combs_iff (σ := σ) (τ := τ) hi12 c5 c6 (h.ok hi).2.1
    show fX1_poundsOfPot_b1 σ (nI q) i a = fX4_combed_b1 (nI q) τ i b
    unfold fX1_poundsOfPot_b1 fX4_combed_b1
    rw [of5 hi12, c5, e]
    by_cases hk : fX0_combs σ i = 0
    · rw [if_pos (hci.mpr hk)]
      have e0 : fX1_poundsOf σ i = 0 := by
        unfold fX1_poundsOf
        exact if_pos hk
      rw [e0]
      split
      · rfl
      · exact (Int32.add_zero b).symm
    · rw [if_neg (fun z => hk (hci.mp z)), h.pound hi hc hk]
      split
      · rfl
      · exact (Int32.add_zero b).symm
  · show fX1_poundsOfPot_b1 σ (nI q) i a = b
    unfold fX1_poundsOfPot_b1
    rw [(h.no hi hi2).2.1, if_neg (pot_m1 hq), e]
/-! inside and outside; who is a member -/
theorem in_out {p a b : Int32} : fX2_isOutside p a b = 0 ↔ ¬ fX4_isIn p a b = 0 := by
  unfold fX2_isOutside fX4_isIn
  by_cases h1 : p < a
  · rw [if_pos h1, if_pos h1]
    decide
  · rw [if_neg h1, if_neg h1]
    by_cases h2 : p ≤ b
    · rw [if_pos h2, if_neg (fun q => by rw [iL] at q; rw [iG] at h2; omega)]
      decide
    · rw [if_neg h2, if_pos (by rw [iL]; rw [iG] at h2; omega)]
      decide
theorem in_rng {p a b : Int32} (h : fX2_isOutside p a b = 0) : a.toInt ≤ p.toInt ∧ p.toInt ≤ b.toInt := by
  unfold fX2_isOutside at h
  by_cases h1 : p < a
  · rw [if_pos h1] at h
    exact absurd h (by decide)
  · rw [if_neg h1] at h
    by_cases h2 : p ≤ b
    · rw [iL] at h1
      rw [iG] at h2
      omega
    · rw [if_neg h2] at h
      exact absurd h (by decide)
theorem Rl.mem (h : Rl N B u E σ τ θ) (p : Int32) : (fX1_hasMember σ p = 0 ∧ fX4_isMember τ p = 0) ∨ (∃ i, i < N ∧ p = nI i ∧ ¬ fX1_hasMember σ p = 0 ∧ ¬ fX4_isMember τ p = 0) := by
  have hn := h.n12
  have eT : (nI N - 1).toInt = (N : Int) - 1 := by rw [iS (by rw [nI_toInt (by omega), tI_1]; omega) (by rw [nI_toInt (by omega), tI_1]; omega), nI_toInt (by omega), tI_1]
  unfold fX1_hasMember fX4_isMember fX4_isIn
  rw [h.2.1.2]
  rcases pk_ix p (n := 12) (by decide) with q | q | ⟨j, hj, rfl⟩
  · exact Or.inl ⟨if_pos q, if_pos q⟩
  · have q' : (12 : Int32) ≤ p := q
    have q0 : ¬ p < 0 := by
      rw [iG, tI_12] at q'
      rw [iL, tI_0]
      omega
    refine Or.inl ⟨?_, ?_⟩
    · rw [if_neg q0, if_pos q']
    · rw [if_neg q0, if_pos]
      rw [iG, tI_12] at q'
      rw [iL, eT]
      omega
  · have q0 : ¬ nI j < 0 := nI_pos (by omega)
    have q1 : ¬ (12 : Int32) ≤ nI j := (nI_ge hj (by decide) : ¬ nI 12 ≤ nI j)
    rw [if_neg q0, if_neg q0, if_neg q1, nI_clamp (by omega)]
    rcases Nat.lt_or_ge j N with z | z
    · refine Or.inr ⟨j, z, rfl, ?_, ?_⟩
      · rw [if_neg]
        · decide
        · rcases (h.ok z).1 with e | e | e <;> rw [e] <;> decide
      · rw [if_neg]
        · decide
        · rw [iL, eT, nI_toInt (by omega)]
          omega
    · refine Or.inl ⟨?_, ?_⟩
      · exact if_pos (h.no z hj).1
      · refine if_pos ?_
        rw [iL, eT, nI_toInt (by omega)]
        omega
end TOLD
