/-! further steps of a member on both sides -/
theorem combs_iff {σ τ : Mm} {i : Nat} (hi : i < 12) (c5 : τ 2 (9*i+5) = σ (i+5) 5) (c6 : τ 2 (9*i+6) = σ (i+5) 6) (k2 : atR (σ (i+5) 5)) : fX3_combs τ (nI i) = 0 ↔ fX0_combs σ i = 0 := by
  unfold fX3_combs fX0_combs
  rw [of5 hi, of6 hi, c5, c6]
  by_cases h6 : σ (i+5) 6 = 0
  · rw [if_pos h6, if_pos h6]
    rcases k2 with e | e | e | e <;> rw [e] <;> decide
  · rw [if_neg h6, if_neg h6]
theorem combs_pot {σ : Mm} {i : Nat} (h : ¬ fX0_combs σ i = 0) : σ (i+5) 6 = 0 ∧ ∃ p, p < 3 ∧ σ (i+5) 5 = nI p := by
  have hx := combs_ix h
  refine ⟨?_, _, hx.2, hx.1⟩
  unfold fX0_combs at h
  split at h
  · assumption
  · exact absurd rfl h
theorem lives_iff {σ : Mm} {i : Nat} (k1 : σ (i+5) 6 = 0 ∨ σ (i+5) 6 = 1 ∨ σ (i+5) 6 = 2) : fX0_lives σ i = 0 ↔ σ (i+5) 6 = 2 := by
  unfold fX0_lives
  rcases k1 with e | e | e <;> rw [e] <;> decide
theorem half {x : Int32} (h : 0 ≤ x.toInt) : 0 ≤ (x / 2).toInt ∧ (x / 2).toInt ≤ x.toInt ∧ 2 * (x / 2).toInt ≤ x.toInt := by
  rw [iD (by rw [tI_2]; decide), tI_2, Int.tdiv_eq_ediv_of_nonneg h]
  omega
theorem mOK.co {m m' : Nat → Int32} (h : mOK m) (h6 : m' 6 = m 6) (h5 : m' 5 = m 5) (h1 : m' 1 = m 1) (h7 : m' 7 = m 7) (h2 : 0 ≤ (m' 2).toInt) (h3 : 0 ≤ (m' 3).toInt) : mOK m' := by
  obtain ⟨k1, k2, k3, k4, k5, k6⟩ := h
  unfold mOK
  rw [h6, h5, h1, h7]
  exact ⟨k1, k2, k3, k4, k5, h2, h3⟩
section STEPS2
variable {N : Nat} {B : Int} {u : Nat → Int32} {E : Int32 → Int32 → Prop} {σ τ θ : Mm} {i : Nat}
theorem Rl.dues (h : Rl N B u E σ τ θ) (hi : i < N) : Rl N B u E (fX1_takeDues_b1 i σ) (fX3_pass_b2 θ i τ) θ := by
  have h12 := h.n12
  have hi12 : i < 12 := by omega
  have c0 : τ 2 (9*i) = σ (i+5) 0 := h.cell hi (f := 0) (by decide)
  have c1 := h.cell hi (f := 1) (by decide)
  have c2 := h.cell hi (f := 2) (by decide)
  have c3 := h.cell hi (f := 3) (by decide)
  have c4 := h.cell hi (f := 4) (by decide)
  have c5 := h.cell hi (f := 5) (by decide)
  have c6 := h.cell hi (f := 6) (by decide)
  have c7 := h.cell hi (f := 7) (by decide)
  have c8 := h.cell hi (f := 8) (by decide)
  obtain ⟨s0, s2, s3, s4, s5, s6, s7, s8⟩ := h.sc
  obtain ⟨k1, k2, k3, k4, k5, k6, k7⟩ := h.ok hi
  obtain ⟨r1, r2⟩ := h.room hi12
  obtain ⟨p1, p2, p3, p4, p5⟩ := h.pos
  unfold fX1_takeDues_b1 fX3_pass_b2
  rw [of6 hi12, c6]
  by_cases h6 : σ (i+5) 6 = 0
  · rw [if_pos h6, if_pos h6]
    unfold fX0_payDues fX3_payDues
    rw [of2 hi12, c2, ← s6]
    by_cases hd : σ 0 6 ≤ σ (i+5) 2
    · have hd' : ¬ σ (i+5) 2 < σ 0 6 := by
        rw [iL]
        rw [iG] at hd
        omega
      rw [if_pos hd, if_neg hd']
      rw [iG] at hd
      have eB : (σ 0 2 + σ 0 6).toInt = (σ 0 2).toInt + (σ 0 6).toInt := iA (by omega) (by omega)
      have eC : (σ (i+5) 2 - σ 0 6).toInt = (σ (i+5) 2).toInt - (σ 0 6).toInt := iS (by omega) (by omega)
      simp only [set4 hi12, set2 hi12, of2 hi12]
      refine h.step hi ?_ ?_ ?_ ?_ ?_ ?_ ?_ ?_ ?_ ?_ ?_ ?_
      · intro r q0 q3 q5
        funext f
        simp [up2_ap, q0, q3, q5]
      · first | rfl | (funext f; simp [up2_ap])
      · simp [up2_ap]
      · simp [Sc, up2_ap, s0, s2, s3, s4, s5, s6, s7, s8]
      · refine nine ?_ ?_ ?_ ?_ ?_ ?_ ?_ ?_ ?_ <;> simp [up2_ap, c0, c1, c2, c3, c4, c5, c6, c7, c8]
      · intro j hj
        simp [up2_ap, show j ≠ 9*i+2 by omega, show j ≠ 9*i+4 by omega]
      · (try simp [mOK, up2_ap, k2, h6, k3, eC]) <;> omega
      · (intro k hk; by_cases q : k = i <;> simp [q, up2_ap, h.bit hi12])
      · (try simp [up2_ap, eB, eC]) <;> omega
      · (try simp [up2_ap, eB, eC]) <;> omega
      · (try simp [up2_ap, eB, eC]) <;> omega
      · simpa [up2_ap] using h.e
    · have hd' : σ (i+5) 2 < σ 0 6 := by
        rw [iL]
        rw [iG] at hd
        omega
      rw [if_neg hd, if_pos hd']
      simp only [set4 hi12, of4 hi12, c4]
      refine h.step hi ?_ ?_ ?_ ?_ ?_ ?_ ?_ ?_ ?_ ?_ ?_ ?_
      · intro r q0 q3 q5
        funext f
        simp [up2_ap, q0, q3, q5]
      · first | rfl | (funext f; simp [up2_ap])
      · simp [up2_ap]
      · simp [Sc, up2_ap, s0, s2, s3, s4, s5, s6, s7, s8]
      · refine nine ?_ ?_ ?_ ?_ ?_ ?_ ?_ ?_ ?_ <;> simp [up2_ap, c0, c1, c2, c3, c4, c5, c6, c7, c8]
      · intro j hj
        simp [up2_ap, show j ≠ 9*i+4 by omega]
      · (try simp [mOK, up2_ap, k2, h6, k3]) <;> omega
      · (intro k hk; by_cases q : k = i <;> simp [q, up2_ap, h.bit hi12])
      · (try simp [up2_ap]) <;> omega
      · (try simp [up2_ap]) <;> omega
      · (try simp [up2_ap]) <;> omega
      · simpa [up2_ap] using h.e
  · rw [if_neg h6, if_neg h6]
    exact h
theorem Rl.drink (h : Rl N B u E σ τ θ) (hi : i < N) (h6 : σ (i+5) 6 = 0) : Rl N B u E (fX1_holdClubNight_b1 i σ) (fX3_drink τ (nI i)) θ := by
  have h12 := h.n12
  have hi12 : i < 12 := by omega
  have c0 : τ 2 (9*i) = σ (i+5) 0 := h.cell hi (f := 0) (by decide)
  have c1 := h.cell hi (f := 1) (by decide)
  have c2 := h.cell hi (f := 2) (by decide)
  have c3 := h.cell hi (f := 3) (by decide)
  have c4 := h.cell hi (f := 4) (by decide)
  have c5 := h.cell hi (f := 5) (by decide)
  have c6 := h.cell hi (f := 6) (by decide)
  have c7 := h.cell hi (f := 7) (by decide)
  have c8 := h.cell hi (f := 8) (by decide)
  obtain ⟨s0, s2, s3, s4, s5, s6, s7, s8⟩ := h.sc
  obtain ⟨k1, k2, k3, k4, k5, k6, k7⟩ := h.ok hi
  obtain ⟨r1, r2⟩ := h.room hi12
  obtain ⟨p1, p2, p3, p4, p5⟩ := h.pos
  have hS := k3 (by rw [h6]; decide)
  have e1 : ∃ M : Int32, 0 ≤ M.toInt ∧ fX1_holdClubNight_b1 i σ = up2 (up2 (up2 (up2 σ (i+5) 3 (M - mnI M (σ (i+5) 2))) (i+5) 2 (σ (i+5) 2 - mnI M (σ (i+5) 2))) (i+5) 1 (mnI 20 (σ (i+5) 1 + 1))) 0 2 (σ 0 2 + mnI M (σ (i+5) 2)) ∧ fX3_drink τ (nI i) = up2 (up2 (up2 (up2 τ 2 (9*i+3) (M - mnI M (σ (i+5) 2))) 2 (9*i+2) (σ (i+5) 2 - mnI M (σ (i+5) 2))) 0 2 (σ 0 2 + mnI M (σ (i+5) 2))) 2 (9*i+1) (mnI 20 (σ (i+5) 1 + 1)) := by
    by_cases hm : 12 ≤ σ (i+5) 3
    · refine ⟨σ (i+5) 3, k7, ?_, ?_⟩
      · unfold fX1_holdClubNight_b1 fX0_spendClubNight fX0_payMarks
        simp [up2_ap, h6, hm]
      · unfold fX3_drink fX3_settle
        simp [up2_ap, of1 hi12, of2 hi12, of3 hi12, set1 hi12, set2 hi12, set3 hi12, hm, c1, c2, c3, s2]
    · have e8 : (σ (i+5) 2 / 8).toInt = (σ (i+5) 2).toInt / 8 := by rw [iD (by rw [tI_8]; decide), tI_8, Int.tdiv_eq_ediv_of_nonneg r1]
      have e9 : (1 + σ (i+5) 2 / 8).toInt = 1 + (σ (i+5) 2).toInt / 8 := by rw [iA (by rw [tI_1]; omega) (by rw [tI_1]; omega), tI_1, e8]
      have hm' := hm
      rw [iG, tI_12] at hm'
      refine ⟨σ (i+5) 3 + (1 + σ (i+5) 2 / 8), ?_, ?_, ?_⟩
      · rw [iA (by omega) (by omega), e9]
        omega
      · unfold fX1_holdClubNight_b1 fX0_spendClubNight fX0_payMarks
        simp [up2_ap, h6, hm, up2_up2]
        first | done | (funext r f; simp only [up2_ap]; repeat' split) <;> first | rfl | simp_all
      · have e7 : σ (i+5) 3 + 1 + σ (i+5) 2 / 8 = σ (i+5) 3 + (1 + σ (i+5) 2 / 8) := Int32.add_assoc _ _ _
        unfold fX3_drink fX3_settle
        simp [up2_ap, of1 hi12, of2 hi12, of3 hi12, set1 hi12, set2 hi12, set3 hi12, hm, c1, c2, c3, s2, e7, up2_up2]
  obtain ⟨M, hM, e1, e2⟩ := e1
  rw [e1, e2]
  have eP : (mnI M (σ (i+5) 2)).toInt = min M.toInt (σ (i+5) 2).toInt := mnT _ _
  have eM : (M - mnI M (σ (i+5) 2)).toInt = M.toInt - (mnI M (σ (i+5) 2)).toInt := iS (by omega) (by have := Int32.toInt_lt M; omega)
  have eC : (σ (i+5) 2 - mnI M (σ (i+5) 2)).toInt = (σ (i+5) 2).toInt - (mnI M (σ (i+5) 2)).toInt := iS (by omega) (by omega)
  have eB : (σ 0 2 + mnI M (σ (i+5) 2)).toInt = (σ 0 2).toInt + (mnI M (σ (i+5) 2)).toInt := iA (by omega) (by omega)
  have eT : (mnI 20 (σ (i+5) 1 + 1)).toInt = min 20 ((σ (i+5) 1).toInt + 1) := by rw [mnT, tI_20, iA (by rw [tI_1]; omega) (by rw [tI_1]; omega), tI_1]
  refine h.step hi ?_ ?_ ?_ ?_ ?_ ?_ ?_ ?_ ?_ ?_ ?_ ?_
  · intro r q0 q3 q5
    funext f
    simp [up2_ap, q0, q3, q5]
  · first | rfl | (funext f; simp [up2_ap])
  · simp [up2_ap]
  · simp [Sc, up2_ap, s0, s2, s3, s4, s5, s6, s7, s8]
  · refine nine ?_ ?_ ?_ ?_ ?_ ?_ ?_ ?_ ?_ <;> simp [up2_ap, c0, c1, c2, c3, c4, c5, c6, c7, c8]
  · intro j hj
    simp [up2_ap, show j ≠ 9*i+1 by omega, show j ≠ 9*i+2 by omega, show j ≠ 9*i+3 by omega]
  · (try simp [mOK, up2_ap, k2, h6, eM, eC, eT]) <;> omega
  · (intro k hk; by_cases q : k = i <;> simp [q, up2_ap, h.bit hi12])
  · (try simp [up2_ap, eB, eC]) <;> omega
  · (try simp [up2_ap, eB, eC]) <;> omega
  · (try simp [up2_ap, eB, eC]) <;> omega
  · simpa [up2_ap] using h.e
theorem Rl.fever {σ0 τ0 : Mm} (h : Rl N B u E σ τ θ) (hi : i < N) (hF : σ0 1 (fJ9_floorMod_7cf53 (σ0 0 0) 8).toNatClampNeg = θ 1 ((τ0 0 0) - (τ0 0 0) / (8 : Int32) * (8 : Int32)).toNatClampNeg) : Rl N B u E (fX1_spreadFever_b1 σ0 i σ) (fX3_fever_b1 θ τ0 i τ) θ := by
  have h12 := h.n12
  have hi12 : i < 12 := by omega
  have c0 : τ 2 (9*i) = σ (i+5) 0 := h.cell hi (f := 0) (by decide)
  have c1 := h.cell hi (f := 1) (by decide)
  have c2 := h.cell hi (f := 2) (by decide)
  have c3 := h.cell hi (f := 3) (by decide)
  have c4 := h.cell hi (f := 4) (by decide)
  have c5 := h.cell hi (f := 5) (by decide)
  have c6 := h.cell hi (f := 6) (by decide)
  have c7 := h.cell hi (f := 7) (by decide)
  have c8 := h.cell hi (f := 8) (by decide)
  obtain ⟨s0, s2, s3, s4, s5, s6, s7, s8⟩ := h.sc
  obtain ⟨k1, k2, k3, k4, k5, k6, k7⟩ := h.ok hi
  obtain ⟨r1, r2⟩ := h.room hi12
  obtain ⟨p1, p2, p3, p4, p5⟩ := h.pos
  unfold fX1_spreadFever_b1 fX3_fever_b1
  rw [hF]
  generalize θ 1 ((τ0 0 0) - (τ0 0 0) / (8 : Int32) * (8 : Int32)).toNatClampNeg = F
  have hci := combs_iff (σ := σ) (τ := τ) hi12 c5 c6 k2
  rw [of5 hi12, c5]
  by_cases hc : fX0_combs σ i = 0
  · rw [if_pos hc, if_pos (hci.mpr hc), ite_self]
    exact h
  · rw [if_neg hc, if_neg (fun q => hc (hci.mp q))]
    obtain ⟨h6, p, hp, h5⟩ := combs_pot hc
    have hS := k3 (by rw [h6]; decide)
    by_cases hf : σ (i+5) 5 = F
    · have hm1 : ¬ F = -1 := by
        rw [← hf, h5]
        rcases (show p = 0 ∨ p = 1 ∨ p = 2 by omega) with rfl | rfl | rfl <;> decide
      rw [if_pos hf, if_neg hm1, if_pos hf]
      have e4 : (σ (i+5) 1 / 4).toInt = (σ (i+5) 1).toInt / 4 := by rw [iD (by rw [tI_4]; decide), tI_4, Int.tdiv_eq_ediv_of_nonneg (by omega)]
      have e6 : (6 - σ (i+5) 1 / 4).toInt = 6 - (σ (i+5) 1).toInt / 4 := by rw [iS (by rw [tI_6]; omega) (by rw [tI_6]; omega), tI_6, e4]
      unfold fX0_fallSick
      simp only [set6 hi12, set7 hi12, set8 hi12, of1 hi12]
      refine h.step hi ?_ ?_ ?_ ?_ ?_ ?_ ?_ ?_ ?_ ?_ ?_ ?_
      · intro r q0 q3 q5
        funext f
        simp [up2_ap, q0, q3, q5]
      · first | rfl | (funext f; simp [up2_ap])
      · simp [up2_ap]
      · simp [Sc, up2_ap, s0, s2, s3, s4, s5, s6, s7, s8]
      · refine nine ?_ ?_ ?_ ?_ ?_ ?_ ?_ ?_ ?_ <;> simp [up2_ap, c0, c1, c2, c3, c4, c5, c6, c7, c8]
      · intro j hj
        simp [up2_ap, show j ≠ 9*i+6 by omega, show j ≠ 9*i+7 by omega, show j ≠ 9*i+8 by omega]
      · (try simp [mOK, up2_ap, k2, h6, e6]) <;> omega
      · (intro k hk; by_cases q : k = i <;> simp [q, up2_ap, h.bit hi12])
      · (try simp [up2_ap]) <;> omega
      · (try simp [up2_ap]) <;> omega
      · (try simp [up2_ap]) <;> omega
      · simpa [up2_ap] using h.e
    · rw [if_neg hf, if_neg hf, ite_self]
      exact h
theorem comb_idle (hc : fX0_combs σ i = 0) (hw : 0 ≤ (σ 0 4).toInt) : fX1_combWool_b1 i σ = σ := by
  have e0 : fX1_poundsOf σ i = 0 := by
    unfold fX1_poundsOf
    exact if_pos hc
  have e1 : mnI 0 (σ 0 4) = 0 := by
    rw [iE, mnT, tI_0]
    omega
  have e2 : (0 : Int32) / 2 = 0 := by decide
  unfold fX1_combWool_b1
  rw [e0, e1, e2]
  funext r f
  simp only [up2_ap]
  repeat' split
  all_goals simp_all
theorem Rl.comb (h : Rl N B u E σ τ θ) (hi : i < N) (hpo : ¬ fX0_combs σ i = 0 → fX1_poundsOf σ i = fX3_pounds τ (nI i)) : Rl N B u E (fX1_combWool_b1 i σ) (fX3_comb_b1 i τ) θ := by
  have h12 := h.n12
  have hi12 : i < 12 := by omega
  have c0 : τ 2 (9*i) = σ (i+5) 0 := h.cell hi (f := 0) (by decide)
  have c1 := h.cell hi (f := 1) (by decide)
  have c2 := h.cell hi (f := 2) (by decide)
  have c3 := h.cell hi (f := 3) (by decide)
  have c4 := h.cell hi (f := 4) (by decide)
  have c5 := h.cell hi (f := 5) (by decide)
  have c6 := h.cell hi (f := 6) (by decide)
  have c7 := h.cell hi (f := 7) (by decide)
  have c8 := h.cell hi (f := 8) (by decide)
  obtain ⟨s0, s2, s3, s4, s5, s6, s7, s8⟩ := h.sc
  obtain ⟨k1, k2, k3, k4, k5, k6, k7⟩ := h.ok hi
  obtain ⟨r1, r2⟩ := h.room hi12
  obtain ⟨p1, p2, p3, p4, p5⟩ := h.pos
  have hci := combs_iff (σ := σ) (τ := τ) hi12 c5 c6 k2
  by_cases hc : fX0_combs σ i = 0
  · rw [comb_idle hc p2]
    unfold fX3_comb_b1
    rw [if_pos (hci.mpr hc)]
    exact h
  · have h6 := (combs_pot hc).1
    have hge : 0 ≤ (fX1_poundsOf σ i).toInt := by
      unfold fX1_poundsOf
      rw [if_neg hc, mxT, tI_0]
      omega
    have e2 : fX3_comb_b1 i τ = up2 (up2 (up2 τ 0 4 (σ 0 4 - mnI (fX1_poundsOf σ i) (σ 0 4))) 0 5 (σ 0 5 + mnI (fX1_poundsOf σ i) (σ 0 4))) 2 (9*i+2) (σ (i+5) 2 + mnI (fX1_poundsOf σ i) (σ 0 4) / 2) := by
      unfold fX3_comb_b1
      rw [if_neg (fun q => hc (hci.mp q)), ← hpo hc, ← s4, mnC (σ 0 4)]
      simp [up2_ap, set2 hi12, of2 hi12, c2, s5]
    rw [e2]
    unfold fX1_combWool_b1
    dsimp only
    generalize fX1_poundsOf σ i = P at hge ⊢
    have eP := mnT P (σ 0 4)
    generalize mnI P (σ 0 4) = V at eP ⊢
    obtain ⟨v1, v2, v3⟩ := half (x := V) (by omega)
    generalize V / 2 = Hf at v1 v2 v3 ⊢
    have eW : (σ 0 4 - V).toInt = (σ 0 4).toInt - V.toInt := iS (by omega) (by omega)
    have eC : (σ (i+5) 2 + Hf).toInt = (σ (i+5) 2).toInt + Hf.toInt := iA (by omega) (by omega)
    refine h.step hi ?_ ?_ ?_ ?_ ?_ ?_ ?_ ?_ ?_ ?_ ?_ ?_
    · intro r q0 q3 q5
      funext f
      simp [up2_ap, q0, q3, q5]
    · first | rfl | (funext f; simp [up2_ap])
    · simp [up2_ap]
    · simp [Sc, up2_ap, s0, s2, s3, s4, s5, s6, s7, s8]
    · refine nine ?_ ?_ ?_ ?_ ?_ ?_ ?_ ?_ ?_ <;> simp [up2_ap, c0, c1, c2, c3, c4, c5, c6, c7, c8]
    · intro j hj
      simp [up2_ap, show j ≠ 9*i+2 by omega]
    · (try simp [mOK, up2_ap, k2, h6, k3, eC]) <;> omega
    · (intro k hk; by_cases q : k = i <;> simp [q, up2_ap, h.bit hi12])
    · (try simp [up2_ap, eW, eC]) <;> omega
    · (try simp [up2_ap, eW, eC]) <;> omega
    · (try simp [up2_ap, eW, eC]) <;> omega
    · simpa [up2_ap] using h.e
theorem Rl.bury1 (h : Rl N B u E σ τ θ) (hi : i < N) : Rl N B u E (fX1_bury_b1 i σ) (fX3_bury_b1 i τ) θ := by
  have h12 := h.n12
  have hi12 : i < 12 := by omega
  have c0 : τ 2 (9*i) = σ (i+5) 0 := h.cell hi (f := 0) (by decide)
  have c1 := h.cell hi (f := 1) (by decide)
  have c2 := h.cell hi (f := 2) (by decide)
  have c3 := h.cell hi (f := 3) (by decide)
  have c4 := h.cell hi (f := 4) (by decide)
  have c5 := h.cell hi (f := 5) (by decide)
  have c6 := h.cell hi (f := 6) (by decide)
  have c7 := h.cell hi (f := 7) (by decide)
  have c8 := h.cell hi (f := 8) (by decide)
  obtain ⟨s0, s2, s3, s4, s5, s6, s7, s8⟩ := h.sc
  obtain ⟨k1, k2, k3, k4, k5, k6, k7⟩ := h.ok hi
  obtain ⟨r1, r2⟩ := h.room hi12
  obtain ⟨p1, p2, p3, p4, p5⟩ := h.pos
  unfold fX1_bury_b1 fX3_bury_b1
  have hli := lives_iff (σ := σ) (i := i) k1
  rw [of6 hi12, c6, of2 hi12, c2]
  by_cases h2 : σ (i+5) 6 = 2
  · rw [if_pos (hli.mpr h2), if_pos h2]
    exact h
  · rw [if_neg (fun q => h2 (hli.mp q)), if_neg h2]
    by_cases h0 : σ (i+5) 2 = 0
    · rw [if_pos h0, if_pos (by rw [h0]; decide)]
      exact h
    · have h0' : ¬ σ (i+5) 2 ≤ 0 := by
        rw [iG, tI_0]
        rw [iE, tI_0] at h0
        omega
      rw [if_neg h0, if_neg h0']
      rw [iG, tI_0] at h0'
      have eB : (σ 0 2 + 1).toInt = (σ 0 2).toInt + 1 := by rw [iA (by rw [tI_1]; omega) (by rw [tI_1]; omega), tI_1]
      have eC : (σ (i+5) 2 - 1).toInt = (σ (i+5) 2).toInt - 1 := by rw [iS (by rw [tI_1]; omega) (by rw [tI_1]; omega), tI_1]
      simp only [set2 hi12]
      refine h.step hi ?_ ?_ ?_ ?_ ?_ ?_ ?_ ?_ ?_ ?_ ?_ ?_
      · intro r q0 q3 q5
        funext f
        simp [up2_ap, q0, q3, q5]
      · first | rfl | (funext f; simp [up2_ap])
      · simp [up2_ap]
      · simp [Sc, up2_ap, s0, s2, s3, s4, s5, s6, s7, s8]
      · refine nine ?_ ?_ ?_ ?_ ?_ ?_ ?_ ?_ ?_ <;> simp [up2_ap, c0, c1, c2, c3, c4, c5, c6, c7, c8]
      · intro j hj
        simp [up2_ap, show j ≠ 9*i+2 by omega]
      · exact (h.ok hi).co (by simp [up2_ap]) (by simp [up2_ap]) (by simp [up2_ap]) (by simp [up2_ap]) (by (try simp [up2_ap, eC]) <;> omega) (by (try simp [up2_ap]) <;> omega)
      · (intro k hk; by_cases q : k = i <;> simp [q, up2_ap, h.bit hi12])
      · (try simp [up2_ap, eB, eC]) <;> omega
      · (try simp [up2_ap, eB, eC]) <;> omega
      · (try simp [up2_ap, eB, eC]) <;> omega
      · simpa [up2_ap] using h.e
def buA (σ : Mm) (i : Nat) : Mm := up2 (up2 (up2 (up2 (fX1_payOut σ 12).2 0 8 (σ 0 8 + (fX1_payOut σ 12).1)) 0 2 (up2 (fX1_payOut σ 12).2 0 8 (σ 0 8 + (fX1_payOut σ 12).1) 0 2 + up2 (fX1_payOut σ 12).2 0 8 (σ 0 8 + (fX1_payOut σ 12).1) (i+5) 2)) (i+5) 2 0) (i+5) 9 0
def buB (τ : Mm) (i : Nat) : Mm := fX3_set (up2 (up2 (fX3_pay τ 12).2 0 7 (τ 0 7 + (fX3_pay τ 12).1)) 0 2 (up2 (fX3_pay τ 12).2 0 7 (τ 0 7 + (fX3_pay τ 12).1) 0 2 + fX3_of (up2 (fX3_pay τ 12).2 0 7 (τ 0 7 + (fX3_pay τ 12).1)) (nI i) 2)) (nI i) 2 0
theorem Rl.bury0 (h : Rl N B u E σ τ θ) (hi : i < N) : Rl N B (upd u i 0) E (buA σ i) (buB τ i) θ := by
  have h12 := h.n12
  have hi12 : i < 12 := by omega
  have c0 : τ 2 (9*i) = σ (i+5) 0 := h.cell hi (f := 0) (by decide)
  have c1 := h.cell hi (f := 1) (by decide)
  have c2 := h.cell hi (f := 2) (by decide)
  have c3 := h.cell hi (f := 3) (by decide)
  have c4 := h.cell hi (f := 4) (by decide)
  have c5 := h.cell hi (f := 5) (by decide)
  have c6 := h.cell hi (f := 6) (by decide)
  have c7 := h.cell hi (f := 7) (by decide)
  have c8 := h.cell hi (f := 8) (by decide)
  obtain ⟨s0, s2, s3, s4, s5, s6, s7, s8⟩ := h.sc
  obtain ⟨k1, k2, k3, k4, k5, k6, k7⟩ := h.ok hi
  obtain ⟨r1, r2⟩ := h.room hi12
  obtain ⟨p1, p2, p3, p4, p5⟩ := h.pos
  have e1 : buA σ i = up2 (up2 (up2 (up2 (up2 σ 0 9 (if 12 ≤ σ 0 2 then σ 0 9 else 1)) 0 8 (σ 0 8 + mnI 12 (σ 0 2))) 0 2 (σ 0 2 - mnI 12 (σ 0 2) + σ (i+5) 2)) (i+5) 2 0) (i+5) 9 0 := by
    unfold buA
    funext r f
    simp only [payC, up2_ap]
    repeat' split
    all_goals simp_all
  have e2 : buB τ i = up2 (up2 (up2 (up2 τ 0 8 (if 12 ≤ σ 0 2 then τ 0 8 else 1)) 0 7 (σ 0 8 + mnI 12 (σ 0 2))) 0 2 (σ 0 2 - mnI 12 (σ 0 2) + σ (i+5) 2)) 2 (9*i+2) 0 := by
    unfold buB
    rw [set2 hi12, of2 hi12]
    funext r f
    simp only [payR, up2_ap, ← s2, ← s8]
    repeat' split
    all_goals simp_all
  rw [e1, e2]
  have eP := mnT 12 (σ 0 2)
  rw [tI_12] at eP
  generalize mnI 12 (σ 0 2) = V at eP ⊢
  have eD : (σ 0 2 - V).toInt = (σ 0 2).toInt - V.toInt := iS (by omega) (by omega)
  have eB : (σ 0 2 - V + σ (i+5) 2).toInt = (σ 0 2).toInt - V.toInt + (σ (i+5) 2).toInt := by rw [iA (by omega) (by omega), eD]
  refine h.step hi ?_ ?_ ?_ ?_ ?_ ?_ ?_ ?_ ?_ ?_ ?_ ?_
  · intro r q0 q3 q5
    funext f
    simp [up2_ap, q0, q3, q5]
  · first | rfl | (funext f; simp [up2_ap])
  · simp [up2_ap]
  · simp [Sc, up2_ap, s0, s2, s3, s4, s5, s6, s7, s8]
  · refine nine ?_ ?_ ?_ ?_ ?_ ?_ ?_ ?_ ?_ <;> simp [up2_ap, c0, c1, c2, c3, c4, c5, c6, c7, c8]
  · intro j hj
    simp [up2_ap, show j ≠ 9*i+2 by omega]
  · exact (h.ok hi).co (by simp [up2_ap]) (by simp [up2_ap]) (by simp [up2_ap]) (by simp [up2_ap]) (by (try simp [up2_ap, eB]) <;> omega) (by (try simp [up2_ap]) <;> omega)
  · intro k hk; simp [upd, up2_ap]; try (split <;> first | rfl | exact (h.bit hk).symm)
  · (try simp [up2_ap, eB]) <;> omega
  · (try simp [up2_ap, eB]) <;> omega
  · (try simp [up2_ap, eB]) <;> omega
  · by_cases q : 12 ≤ σ 0 2 <;> simp [up2_ap, q, h.e, h.e1]
end STEPS2
