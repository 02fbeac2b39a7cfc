/-! a member's steps on both sides -/
theorem up2_ap {σ : Mm} {r f r' f' : Nat} {v : Int32} : up2 σ r f v r' f' = if r' = r ∧ f' = f then v else σ r' f' := rfl
theorem nine {P : Nat → Prop} (h0 : P 0) (h1 : P 1) (h2 : P 2) (h3 : P 3) (h4 : P 4) (h5 : P 5) (h6 : P 6) (h7 : P 7) (h8 : P 8) : ∀ f, f < 9 → P f := by
  intro f hf
  rcases (show f = 0 ∨ f = 1 ∨ f = 2 ∨ f = 3 ∨ f = 4 ∨ f = 5 ∨ f = 6 ∨ f = 7 ∨ f = 8 by omega) with rfl | rfl | rfl | rfl | rfl | rfl | rfl | rfl | rfl <;> assumption
def nF (σ : Mm) (i : Nat) (v ss : Int32) : Mm := up2 (up2 (up2 (up2 (up2 (up2 (up2 σ (i+5) 1 (σ (i+5) 1 - 1)) (i+5) 8 (σ (i+5) 8 + 1)) (i+5) 7 (σ (i+5) 7 - 1)) 0 9 ss) 0 2 (σ 0 2 - v)) (i+5) 2 (σ (i+5) 2 + v)) 0 7 (σ 0 7 + v)
def nG (σ τ : Mm) (i : Nat) (v tt : Int32) : Mm := up2 (up2 (up2 (up2 (up2 (up2 (up2 τ 2 (9*i+1) (σ (i+5) 1 - 1)) 2 (9*i+8) (σ (i+5) 8 + 1)) 2 (9*i+7) (σ (i+5) 7 - 1)) 0 8 tt) 0 2 (σ 0 2 - v)) 0 6 (σ 0 7 + v)) 2 (9*i+2) (σ (i+5) 2 + v)
theorem nurse_dead {σ τ : Mm} {i : Nat} (hi : i < 12) (c1 : τ 2 (9*i+1) = σ (i+5) 1) (hd : σ (i+5) 1 - 1 = 0) : fX1_nurse σ i = fX0_die (up2 σ (i+5) 1 0) i ∧ fX3_nurse τ (nI i) = fX3_heal (up2 τ 2 (9*i+1) 0) (nI i) 2 := by
  constructor
  · unfold fX1_nurse
    simp [up2_ap, hd]
  · unfold fX3_nurse
    simp [up2_ap, set1 hi, of1 hi, c1, hd]
theorem nurse_live {σ τ : Mm} {i : Nat} {E : Int32 → Int32 → Prop} (hi : i < 12) (c1 : τ 2 (9*i+1) = σ (i+5) 1) (c2 : τ 2 (9*i+2) = σ (i+5) 2) (c4 : τ 2 (9*i+4) = σ (i+5) 4) (c7 : τ 2 (9*i+7) = σ (i+5) 7) (c8 : τ 2 (9*i+8) = σ (i+5) 8) (s2 : τ 0 2 = σ 0 2) (s7 : τ 0 6 = σ 0 7) (hd : ¬ σ (i+5) 1 - 1 = 0) (hd' : 0 < σ (i+5) 1 - 1) (hb : 0 ≤ (σ 0 2).toInt) (hE : E (σ 0 9) (τ 0 8)) (hE1 : E 1 1) :
    ∃ v ss tt, fX1_nurse σ i = (if 0 < σ (i+5) 7 - 1 then nF σ i v ss else fX0_getWell (nF σ i v ss) i) ∧ fX3_nurse τ (nI i) = (if σ (i+5) 7 - 1 = 0 then fX3_heal (nG σ τ i v tt) (nI i) 0 else nG σ τ i v tt) ∧ 0 ≤ v.toInt ∧ v.toInt ≤ (σ 0 2).toInt ∧ E ss tt := by
  have pay : ∀ d : Int32, 0 ≤ d.toInt → 0 ≤ (mnI d (σ 0 2)).toInt ∧ (mnI d (σ 0 2)).toInt ≤ (σ 0 2).toInt ∧ E (if d ≤ σ 0 2 then σ 0 9 else 1) (if d ≤ σ 0 2 then τ 0 8 else 1) := by
    intro d h0
    rw [mnT]
    refine ⟨by omega, by omega, ?_⟩
    split
    · exact hE
    · exact hE1
  by_cases hu : 3 ≤ σ (i+5) 4
  · refine ⟨0, σ 0 9, τ 0 8, ?_, ?_, by decide, hb, hE⟩
    · have e : nF σ i 0 (σ 0 9) = up2 (up2 (up2 σ (i+5) 1 (σ (i+5) 1 - 1)) (i+5) 8 (σ (i+5) 8 + 1)) (i+5) 7 (σ (i+5) 7 - 1) := by
        funext r f
        unfold nF
        simp only [up2_ap]
        repeat' split
        all_goals simp_all
      rw [e]
      unfold fX1_nurse
      simp [up2_ap, hd', hu]
    · have e : nG σ τ i 0 (τ 0 8) = up2 (up2 (up2 τ 2 (9*i+1) (σ (i+5) 1 - 1)) 2 (9*i+8) (σ (i+5) 8 + 1)) 2 (9*i+7) (σ (i+5) 7 - 1) := by
        funext r f
        unfold nG
        simp only [up2_ap]
        repeat' split
        all_goals simp_all
      rw [e]
      unfold fX3_nurse
      simp [up2_ap, set1 hi, set2 hi, set7 hi, set8 hi, of1 hi, of2 hi, of4 hi, of7 hi, of8 hi, c1, c2, c4, c7, c8, hd, hu]
  · by_cases hg : 3 < σ (i+5) 8 + 1
    · obtain ⟨p1, p2, p3⟩ := pay 2 (by decide)
      refine ⟨mnI 2 (σ 0 2), _, _, ?_, ?_, p1, p2, p3⟩
      · unfold fX1_nurse nF
        simp [up2_ap, hd', hu, hg, payC]
      · unfold fX3_nurse nG
        simp [up2_ap, set1 hi, set2 hi, set7 hi, set8 hi, of1 hi, of2 hi, of4 hi, of7 hi, of8 hi, c1, c2, c4, c7, c8, hd, hu, hg, payR, s2, s7]
    · obtain ⟨p1, p2, p3⟩ := pay 5 (by decide)
      refine ⟨mnI 5 (σ 0 2), _, _, ?_, ?_, p1, p2, p3⟩
      · unfold fX1_nurse nF
        simp [up2_ap, hd', hu, hg, payC]
      · unfold fX3_nurse nG
        simp [up2_ap, set1 hi, set2 hi, set7 hi, set8 hi, of1 hi, of2 hi, of4 hi, of7 hi, of8 hi, c1, c2, c4, c7, c8, hd, hu, hg, payR, s2, s7]
section STEPS
variable {N : Nat} {B : Int} {u : Nat → Int32} {E : Int32 → Int32 → Prop} {σ τ θ : Mm} {i : Nat}
theorem Rl.nurse (h : Rl N B u E σ τ θ) (hi : i < N) (h6 : σ (i+5) 6 = 1) :
    ((fX1_nurse σ i (i+5) 6 = 2 ∧ fX1_nurse σ i (i+5) 9 = 1) ∨ (fX1_nurse σ i (i+5) 6 ≠ 2 ∧ fX1_nurse σ i (i+5) 9 = σ (i+5) 9)) ∧ Rl N B (upd u i (fX1_nurse σ i (i+5) 9)) E (fX1_nurse σ i) (fX3_nurse τ (nI i)) θ := by
  have h12 := h.n12
  have hi12 : i < 12 := by omega
  have c0 : τ 2 (9*i) = σ (i+5) 0 := h.cell hi (f := 0) (by decide)
  have c1 := h.cell hi (f := 1) (by decide)
  have c2 := h.cell hi (f := 2) (by decide)
  have c3 := h.cell hi (f := 3) (by decide)
  have c4 := h.cell hi (f := 4) (by decide)
  have c5 := h.cell hi (f := 5) (by decide)
  have c6 := h.cell hi (f := 6) (by decide)
  have c7 := h.cell hi (f := 7) (by decide)
  have c8 := h.cell hi (f := 8) (by decide)
  obtain ⟨s0, s2, s3, s4, s5, s6, s7, s8⟩ := h.sc
  obtain ⟨k1, k2, k3, k4, k5, k6, k7⟩ := h.ok hi
  obtain ⟨r1, r2⟩ := h.room hi12
  obtain ⟨p1, p2, p3, p4, p5⟩ := h.pos
  have hS := k3 (by rw [h6]; decide)
  have hW := k5 h6
  have eS : (σ (i+5) 1 - 1).toInt = (σ (i+5) 1).toInt - 1 := by rw [iS (by rw [tI_1]; omega) (by rw [tI_1]; omega), tI_1]
  have eW : (σ (i+5) 7 - 1).toInt = (σ (i+5) 7).toInt - 1 := by
    have := Int32.toInt_lt (σ (i+5) 7)
    rw [iS (by rw [tI_1]; omega) (by rw [tI_1]; omega), tI_1]
  by_cases hd : σ (i+5) 1 - 1 = 0
  · obtain ⟨e1, e2⟩ := nurse_dead hi12 c1 hd
    rw [e1, e2]
    refine ⟨Or.inl ⟨by simp [fX0_die, up2_ap], by simp [fX0_die, up2_ap]⟩, ?_⟩
    have e3 : fX3_heal (up2 τ 2 (9*i+1) 0) (nI i) 2 = up2 (up2 (up2 (up2 (up2 (up2 (up2 τ 2 (9*i+1) 0) 2 (9*i+6) 2) 2 (9*i+7) 0) 2 (9*i+8) 0) 2 (9*i+5) (-1)) 2 (9*i+4) 0) 2 (9*i+3) 0 := by
      unfold fX3_heal
      simp [set3 hi12, set4 hi12, set5 hi12, set6 hi12, set7 hi12, set8 hi12]
    rw [e3]
    unfold fX0_die
    dsimp only
    refine h.step hi ?_ ?_ ?_ ?_ ?_ ?_ ?_ ?_ ?_ ?_ ?_ ?_
    · intro r q0 q3 q5
      funext f
      simp [up2_ap, q0, q3, q5]
    · funext f
      simp [up2_ap]
    · simp [up2_ap]
    · simp [Sc, up2_ap, s0, s2, s3, s4, s5, s6, s7, s8]
    · refine nine ?_ ?_ ?_ ?_ ?_ ?_ ?_ ?_ ?_ <;> simp [up2_ap, c0, c2]
    · intro j hj
      simp [up2_ap, show j ≠ 9*i+1 by omega, show j ≠ 9*i+3 by omega, show j ≠ 9*i+4 by omega, show j ≠ 9*i+5 by omega, show j ≠ 9*i+6 by omega, show j ≠ 9*i+7 by omega, show j ≠ 9*i+8 by omega]
    · simp [mOK, up2_ap, atR]
      omega
    · intro k hk
      simp [upd, up2_ap]
    · simp [up2_ap]
      omega
    · simp [up2_ap]
      omega
    · simp [up2_ap]
    · simpa [up2_ap] using h.e
  · have hd' : 0 < σ (i+5) 1 - 1 := by
      rw [iL, tI_0, eS]
      rw [iE, tI_0, eS] at hd
      omega
    obtain ⟨v, ss, tt, e1, e2, v1, v2, hE⟩ := nurse_live (E := E) (τ := τ) hi12 c1 c2 c4 c7 c8 s2.symm s7.symm hd hd' p1 h.e h.e1
    have eB : (σ 0 2 - v).toInt = (σ 0 2).toInt - v.toInt := iS (by omega) (by omega)
    have eC : (σ (i+5) 2 + v).toInt = (σ (i+5) 2).toInt + v.toInt := iA (by omega) (by omega)
    have h6' : ¬ σ (i+5) 6 = 2 := by rw [h6]; decide
    rw [iE, tI_0, eS] at hd
    by_cases hw : σ (i+5) 7 - 1 = 0
    · have hw' : ¬ 0 < σ (i+5) 7 - 1 := by rw [hw]; decide
      rw [if_neg hw'] at e1
      rw [if_pos hw] at e2
      have e3 : fX3_heal (nG σ τ i v tt) (nI i) 0 = up2 (up2 (up2 (nG σ τ i v tt) 2 (9*i+6) 0) 2 (9*i+7) 0) 2 (9*i+8) 0 := by
        unfold fX3_heal
        simp [set6 hi12, set7 hi12, set8 hi12]
      rw [e1, e2, e3]
      unfold fX0_getWell nF nG
      dsimp only
      refine ⟨Or.inr ⟨by simp [up2_ap], by simp [up2_ap]⟩, ?_⟩
      refine h.step hi ?_ ?_ ?_ ?_ ?_ ?_ ?_ ?_ ?_ ?_ ?_ ?_
      · intro r q0 q3 q5
        funext f
        simp [up2_ap, q0, q3, q5]
      · funext f
        simp [up2_ap]
      · simp [up2_ap]
      · simp [Sc, up2_ap, s0, s2, s3, s4, s5, s6, s7, s8]
      · refine nine ?_ ?_ ?_ ?_ ?_ ?_ ?_ ?_ ?_ <;> simp [up2_ap, c0, c2, c3, c4, c5]
      · intro j hj
        simp [up2_ap, show j ≠ 9*i+1 by omega, show j ≠ 9*i+2 by omega, show j ≠ 9*i+6 by omega, show j ≠ 9*i+7 by omega, show j ≠ 9*i+8 by omega]
      · simp [mOK, up2_ap, k2, eS, eC]
        omega
      · intro k hk
        simp [upd, up2_ap]
      · simp [up2_ap, eB]
        omega
      · simp [up2_ap]
        omega
      · simp [up2_ap, eB, eC]
        omega
      · simpa [up2_ap] using hE
    · have hw' : 0 < σ (i+5) 7 - 1 := by
        rw [iL, tI_0, eW]
        rw [iE, tI_0, eW] at hw
        omega
      rw [if_pos hw'] at e1
      rw [if_neg hw] at e2
      rw [e1, e2]
      rw [iE, tI_0, eW] at hw
      unfold nF nG
      refine ⟨Or.inr ⟨by simp [up2_ap, h6'], by simp [up2_ap]⟩, ?_⟩
      refine h.step hi ?_ ?_ ?_ ?_ ?_ ?_ ?_ ?_ ?_ ?_ ?_ ?_
      · intro r q0 q3 q5
        funext f
        simp [up2_ap, q0, q3, q5]
      · funext f
        simp [up2_ap]
      · simp [up2_ap]
      · simp [Sc, up2_ap, s0, s2, s3, s4, s5, s6, s7, s8]
      · refine nine ?_ ?_ ?_ ?_ ?_ ?_ ?_ ?_ ?_ <;> simp [up2_ap, c0, c2, c3, c4, c5, c6]
      · intro j hj
        simp [up2_ap, show j ≠ 9*i+1 by omega, show j ≠ 9*i+2 by omega, show j ≠ 9*i+6 by omega, show j ≠ 9*i+7 by omega, show j ≠ 9*i+8 by omega]
      · simp [mOK, up2_ap, k2, h6, eS, eC, eW]
        omega
      · intro k hk
        simp [upd, up2_ap]
      · simp [up2_ap, eB]
        omega
      · simp [up2_ap]
        omega
      · simp [up2_ap, eB, eC]
        omega
      · simpa [up2_ap] using hE
end STEPS
