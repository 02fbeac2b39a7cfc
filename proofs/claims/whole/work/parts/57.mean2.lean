/-! the means agree -/
theorem three_count {N : Nat} {B : Int} {u : Nat → Int32} {E : Int32 → Int32 → Prop} {σ τ θ : Mm} (h : Rl N B u E σ τ θ) : ∃ m0 m1 m2 : Nat, fX1_howMany σ 0 = nI m0 ∧ fX1_howMany σ 1 = nI m1 ∧ fX1_howMany σ 2 = nI m2 ∧ m0 + m1 + m2 = N := by
  have h12 := h.n12
  have key : ∀ n, n ≤ 12 → ∃ m0 m1 m2 : Nat, itR (fun i x => fX1_howMany_b1 σ 0 i x) 0 n (0 : Int32) = nI m0 ∧ itR (fun i x => fX1_howMany_b1 σ 1 i x) 0 n (0 : Int32) = nI m1 ∧ itR (fun i x => fX1_howMany_b1 σ 2 i x) 0 n (0 : Int32) = nI m2 ∧ m0 + m1 + m2 = min n N := by
    intro n
    induction n with
    | zero => exact fun _ => ⟨0, 0, 0, nI_0.symm, nI_0.symm, nI_0.symm, by omega⟩
    | succ n ih =>
      intro hn
      obtain ⟨m0, m1, m2, e0, e1, e2, e3⟩ := ih (by omega)
      rw [itR_last, itR_last, itR_last, Nat.zero_add, e0, e1, e2]
      unfold fX1_howMany_b1
      rcases Nat.lt_or_ge n N with q | q
      · rcases (h.ok q).1 with z | z | z
        · refine ⟨m0+1, m1, m2, ?_, ?_, ?_, by omega⟩ <;> rw [z]
          · rw [if_pos (by decide), nI_1]
          · rw [if_neg (by decide)]
          · rw [if_neg (by decide)]
        · refine ⟨m0, m1+1, m2, ?_, ?_, ?_, by omega⟩ <;> rw [z]
          · rw [if_neg (by decide)]
          · rw [if_pos (by decide), nI_1]
          · rw [if_neg (by decide)]
        · refine ⟨m0, m1, m2+1, ?_, ?_, ?_, by omega⟩ <;> rw [z]
          · rw [if_neg (by decide)]
          · rw [if_neg (by decide)]
          · rw [if_pos (by decide), nI_1]
      · have z := (h.no q (by omega)).1
        refine ⟨m0, m1, m2, ?_, ?_, ?_, by omega⟩ <;> rw [z]
        · rw [if_neg (by decide)]
        · rw [if_neg (by decide)]
        · rw [if_neg (by decide)]
  obtain ⟨m0, m1, m2, e0, e1, e2, e3⟩ := key 12 (Nat.le_refl _)
  unfold fX1_howMany fX1_howMany_k1
  exact ⟨m0, m1, m2, e0, e1, e2, by omega⟩
theorem ag_mean {k : Nat} {ν τ θ : Mm} (hI : Inv k ν τ θ) (hk : k < 512) : (¬ 0 < fX2_mL ν ↔ fX4_mL τ = 0) ∧ fX2_mL ν = fX4_mL τ ∧ fX2_mS ν = fX3_all τ 1 ∧ Inv (k+1) ν τ (up2 θ 0 0 0) := by
  obtain ⟨N, w, h, hw, hw2⟩ := hI
  have hB := Bk_ok (k := k) (by omega)
  have h12 := h.n12
  obtain ⟨m0, m1, m2, e0, e1, e2, e3⟩ := three_count h
  have a1 : fX2_mL ν = nI (m0 + m1) := by
    unfold fX2_mL
    rw [e0, e1, nI_add]
  have a2 : fX4_mL τ = nI (m0 + m1) := by
    unfold fX4_mL
    rw [← h.many (Or.inr (Or.inr rfl)), e2, h.2.1.2, pk_sub (by omega), show N - m2 = m0 + m1 by omega]
  refine ⟨?_, a1.trans a2.symm, ?_, N, w, (h.mono (by omega) hB.2.2).th (by funext f; simp [up2_ap]) (by simp [up2_ap]), hw, by omega⟩
  · rw [a1, a2, iL, tI_0, iE, tI_0, nI_toInt (by omega)]
    omega
  · unfold fX2_mS fX3_all fX3_all_k1
    rw [h.wfnm]
    refine itR_12 (f := fun i (v : Int32) => v + ν (i+5) 1) (g := fun i x => fX3_all_b1 τ 1 i x) (P := fun _ (a b : Int32) => a = b) h.n12 rfl (fun i a b hi e => ?_) (fun i a b hi hi2 e => ?_)
    · have hi12 : i < 12 := by omega
      show a + ν (i+5) 1 = fX3_all_b1 τ 1 i b
      unfold fX3_all_b1
      rw [of1 hi12, h.cell hi (by decide), e]
    · show a + ν (i+5) 1 = b
      rw [(h.no hi hi2).2.2.1, e]
      exact Int32.add_zero b
