/-! the calls agree, one by one: those that change the society -/
section AGR2
variable {k : Nat} {ν t τ θ : Mm}
theorem c_no {θ : Mm} {c : Int32} : fX4_no θ c = (0, up2 θ 0 0 c) := by
  unfold fX4_no
  dsimp only
theorem dead_iff {N i : Nat} {B : Int} {u : Nat → Int32} {E : Int32 → Int32 → Prop} {σ τ θ : Mm} (h : Rl N B u E σ τ θ) (hi : i < N) : fX4_isDead τ (nI i) = 0 ↔ ¬ σ (i+5) 6 = 2 := by
  have hi12 : i < 12 := by have := h.n12; omega
  unfold fX4_isDead
  rw [of6 hi12, h.cell hi (by decide)]
  by_cases q : σ (i+5) 6 = 2
  · rw [if_pos q]
    simp [q]
  · rw [if_neg q]
    simp [q]
theorem ag_place (p0 p1 : Int32) (hI : Inv k ν τ θ) (hk : k < 512) : Agr k [eI, eS] Prod.fst ν (fX2_place ν t p0 p1) (fX4_place θ τ p0 p1).1 (fX4_place θ τ p0 p1).2.1 (fX4_place θ τ p0 p1).2.2 := by
  obtain ⟨N, w, h, hw, hw2⟩ := hI
  have hB := Bk_ok (k := k) (by omega)
  unfold fX2_place fX4_place
  dsimp only
  rcases h.mem p0 with ⟨m1, m2⟩ | ⟨i, hi, rfl, m1, m2⟩
  · rw [if_pos m1, if_pos m2]
    exact Agr.no (vt := ν) h hw hw2 hk (by decide) (by decide)
  · have hi12 : i < 12 := by have := h.n12; omega
    rw [if_neg m1, if_neg m2, nI_clamp (by omega)]
    by_cases ho : fX2_isOutside p1 (-1) 2 = 0
    · rw [if_pos ho, if_neg (in_out.mp ho)]
      by_cases hd : ν (i+5) 6 = 2
      · rw [if_pos hd, if_neg (fun q => (dead_iff h hi).mp q hd)]
        exact Agr.no (vt := ν) h hw hw2 hk (by decide) (by decide)
      · rw [if_neg hd, if_pos ((dead_iff h hi).mpr hd)]
        obtain ⟨ha, hq⟩ := pot_rng ho
        have yes : Agr k [eI, eS] Prod.fst ν (.inl (ν (i+5) 5, up2 ν (i+5) 5 p1, t)) (fX3_of τ (nI i) 5) (up2 θ 0 0 0) (fX3_set τ (nI i) 5 p1) := by
          rw [set5 hi12, of5 hi12, h.cell hi (by decide)]
          exact Agr.yes (h.put hi ha hd) (by omega) hk (by simpa [up2_ap] using hw) (by omega) rfl rfl
        by_cases hm : p1 = -1
        · have e : ¬ fX1_hasRoom ν p1 i = 0 := by
            unfold fX1_hasRoom
            rw [if_pos hm]
            decide
          rw [if_neg e, if_pos hm]
          exact yes
        · rw [if_neg hm]
          obtain ⟨q, hq3, rfl⟩ := hq hm
          have hr := room_iff h hi hq3
          by_cases hf : fX4_others τ (nI i) (nI q) < 4
          · rw [if_neg (fun z => hr.mp z hf), if_pos hf]
            exact yes
          · rw [if_pos (hr.mpr hf), if_neg hf]
            exact Agr.no (vt := ν) h hw hw2 hk (by decide) (by decide)
    · rw [if_neg ho, if_pos (Decidable.byContradiction (fun z => ho (in_out.mpr z)))]
      exact Agr.no (vt := ν) h hw hw2 hk (by decide) (by decide)
theorem ag_give (p0 p1 p2 : Int32) (hI : Inv k ν τ θ) (hk : k < 512) : Agr k [eI, eA, eS] Prod.fst ν (fX2_give ν t p0 p1 p2) (fX4_give θ τ p0 p1 p2).1 (fX4_give θ τ p0 p1 p2).2.1 (fX4_give θ τ p0 p1 p2).2.2 := by
  obtain ⟨N, w, h, hw, hw2⟩ := hI
  have hB := Bk_ok (k := k) (by omega)
  unfold fX2_give fX4_give
  dsimp only
  rcases h.mem p0 with ⟨m1, m2⟩ | ⟨i, hi, rfl, m1, m2⟩
  · rw [if_pos m1, if_pos m2]
    exact Agr.no (vt := ν) h hw hw2 hk (by decide) (by decide)
  have hi12 : i < 12 := by have := h.n12; omega
  rw [if_neg m1, if_neg m2]
  rcases h.mem p1 with ⟨n1, n2⟩ | ⟨j, hj, rfl, n1, n2⟩
  · rw [if_pos n1, if_pos n2]
    exact Agr.no (vt := ν) h hw hw2 hk (by decide) (by decide)
  have hj12 : j < 12 := by have := h.n12; omega
  rw [if_neg n1, if_neg n2, nI_clamp (by omega), nI_clamp (by omega)]
  by_cases ho : fX2_isOutside p2 1 99 = 0
  · rw [if_pos ho, if_neg (in_out.mp ho)]
    by_cases he : nI i = nI j
    · rw [if_pos he, if_pos he]
      exact Agr.no (vt := ν) h hw hw2 hk (by decide) (by decide)
    have hij : i ≠ j := fun q => he (by rw [q])
    rw [if_neg he, if_neg he]
    by_cases hd : ν (i+5) 6 = 2
    · rw [if_pos hd, if_neg (fun q => (dead_iff h hi).mp q hd)]
      exact Agr.no (vt := ν) h hw hw2 hk (by decide) (by decide)
    rw [if_neg hd, if_pos ((dead_iff h hi).mpr hd)]
    by_cases hd2 : ν (j+5) 6 = 2
    · rw [if_pos hd2, if_neg (fun q => (dead_iff h hj).mp q hd2)]
      exact Agr.no (vt := ν) h hw hw2 hk (by decide) (by decide)
    rw [if_neg hd2, if_pos ((dead_iff h hj).mpr hd2)]
    have ci := h.cell hi (f := 2) (by decide)
    have cj := h.cell hj (f := 2) (by decide)
    rw [of2 hi12, ci]
    by_cases hc : p2 ≤ ν (i+5) 2
    · rw [if_pos hc, if_pos hc]
      have hr := in_rng ho
      rw [tI_1, show (99 : Int32).toInt = 99 by decide] at hr
      rw [iG] at hc
      have r1 := h.room hi12
      have r2 := h.room hj12
      have p := h.pos
      have e1 : (ν (i+5) 2 - p2).toInt = (ν (i+5) 2).toInt - p2.toInt := iS (by omega) (by omega)
      have e2 : (ν (j+5) 2 + p2).toInt = (ν (j+5) 2).toInt + p2.toInt := iA (by omega) (by omega)
      have h1 : Rl N (Bk k) u0 ET (up2 ν (i+5) 2 (ν (i+5) 2 - p2)) (up2 τ 2 (9*i+2) (ν (i+5) 2 - p2)) θ := h.purse hi (by omega) (by omega) h.1.2
      have e3 : up2 ν (i+5) 2 (ν (i+5) 2 - p2) (j+5) 2 = ν (j+5) 2 := by simp [up2_ap, Ne.symm hij]
      have h2 := h1.purse (c := ν (j+5) 2 + p2) (B' := Bk k + 99) hj (by omega) (by rw [e3]; omega) (by omega)
      rw [set2 hi12, of2 hj12, set2 hj12, of2 hi12]
      have e4 : up2 τ 2 (9*i+2) (ν (i+5) 2 - p2) 2 (9*j+2) = ν (j+5) 2 := by simp [up2_ap, show ¬ (9*j = 9*i) by omega, cj]
      rw [e3, e4]
      refine Agr.yes h2 (by omega) hk (by simpa [up2_ap] using hw) (by omega) rfl ?_
      simp [up2_ap, hij, show ¬ (9*i = 9*j) by omega]
    · rw [if_neg hc, if_neg hc]
      exact Agr.no (vt := ν) h hw hw2 hk (by decide) (by decide)
  · rw [if_neg ho, if_pos (Decidable.byContradiction (fun z => ho (in_out.mpr z)))]
    exact Agr.no (vt := ν) h hw hw2 hk (by decide) (by decide)
theorem Rl.pays {N i : Nat} {B : Int} {u : Nat → Int32} {E : Int32 → Int32 → Prop} {σ τ θ : Mm} (h : Rl N B u E σ τ θ) (hi : i < N) : Rl N B u E (up2 (fX0_payMarks σ i).2 0 2 (σ 0 2 + (fX0_payMarks σ i).1)) (fX3_settle τ (nI i)).2 θ ∧ (fX0_payMarks σ i).2 (i+5) 3 = (fX3_settle τ (nI i)).1 := by
  have h12 := h.n12
  have hi12 : i < 12 := by omega
  have c2 := h.cell hi (f := 2) (by decide)
  have c3 := h.cell hi (f := 3) (by decide)
  obtain ⟨s0, s2, s3, s4, s5, s6, s7, s8⟩ := h.sc
  have hm := h.ok hi
  obtain ⟨r1, r2⟩ := h.room hi12
  obtain ⟨p1, p2, p3, p4, p5⟩ := h.pos
  have k7 := hm.2.2.2.2.2.2
  have e2 : fX3_settle τ (nI i) = (σ (i+5) 3 - mnI (σ (i+5) 3) (σ (i+5) 2), up2 (up2 (up2 τ 2 (9*i+3) (σ (i+5) 3 - mnI (σ (i+5) 3) (σ (i+5) 2))) 2 (9*i+2) (σ (i+5) 2 - mnI (σ (i+5) 3) (σ (i+5) 2))) 0 2 (σ 0 2 + mnI (σ (i+5) 3) (σ (i+5) 2))) := by
    unfold fX3_settle
    simp [up2_ap, of2 hi12, of3 hi12, set2 hi12, set3 hi12, c2, c3, s2]
  rw [e2]
  unfold fX0_payMarks
  dsimp only
  have eP := mnT (σ (i+5) 3) (σ (i+5) 2)
  generalize mnI (σ (i+5) 3) (σ (i+5) 2) = V at eP ⊢
  have eM : (σ (i+5) 3 - V).toInt = (σ (i+5) 3).toInt - V.toInt := iS (by omega) (by have := Int32.toInt_lt (σ (i+5) 3); omega)
  have eC : (σ (i+5) 2 - V).toInt = (σ (i+5) 2).toInt - V.toInt := iS (by omega) (by omega)
  have eB : (σ 0 2 + V).toInt = (σ 0 2).toInt + V.toInt := iA (by omega) (by omega)
  refine ⟨h.stepB hi ?_ ?_ ?_ ?_ ?_ ?_ ?_ ?_ ?_ ?_ ?_ h.1.2 ?_, ?_⟩
  · intro r q0 q3 q5
    funext f
    simp [up2_ap, q0, q5]
  · funext f
    simp [up2_ap]
  · simp [up2_ap]
  · simp [Sc, up2_ap, s0, s2, s3, s4, s5, s6, s7, s8]
  · intro f hf
    have e := h.cell hi hf
    by_cases q : f = 2
    · subst q
      simp [up2_ap]
    · by_cases q3 : f = 3
      · subst q3
        simp [up2_ap]
      · simp [up2_ap, q, q3, e]
  · intro j hj
    simp [up2_ap, show j ≠ 9*i+2 by omega, show j ≠ 9*i+3 by omega]
  · refine hm.co (by simp [up2_ap]) (by simp [up2_ap]) (by simp [up2_ap]) (by simp [up2_ap]) ?_ ?_
    · simp [up2_ap, eC]
      omega
    · simp [up2_ap, eM]
      omega
  · intro k hk
    by_cases q : k = i
    · subst q
      rw [if_pos rfl]
      simpa [up2_ap] using (h.bit hk).symm
    · rw [if_neg q]
  · simp [up2_ap, eB]
    omega
  · simpa [up2_ap] using p2
  · simp [up2_ap, eB, eC]
    omega
  · simpa [up2_ap] using h.e
  · simp [up2_ap]
theorem ag_settle (p0 : Int32) (hI : Inv k ν τ θ) (hk : k < 512) : Agr k [eI, eS] Prod.fst ν (fX2_settle ν t p0) (fX4_settle θ τ p0).1 (fX4_settle θ τ p0).2.1 (fX4_settle θ τ p0).2.2 := by
  obtain ⟨N, w, h, hw, hw2⟩ := hI
  have hB := Bk_ok (k := k) (by omega)
  unfold fX2_settle fX4_settle
  dsimp only
  rcases h.mem p0 with ⟨m1, m2⟩ | ⟨i, hi, rfl, m1, m2⟩
  · rw [if_pos m1, if_pos m2]
    exact Agr.no (vt := ν) h hw hw2 hk (by decide) (by decide)
  have hi12 : i < 12 := by have := h.n12; omega
  rw [if_neg m1, if_neg m2, nI_clamp (by omega)]
  by_cases hd : ν (i+5) 6 = 2
  · rw [if_pos hd, if_neg (fun q => (dead_iff h hi).mp q hd)]
    exact Agr.no (vt := ν) h hw hw2 hk (by decide) (by decide)
  · rw [if_neg hd, if_pos ((dead_iff h hi).mpr hd)]
    obtain ⟨q1, q2⟩ := h.pays hi
    refine Agr.yes (w' := w) q1 (by omega) hk ?_ (by omega) rfl ?_
    · rw [← hw]
      unfold fX0_payMarks
      simp [up2_ap]
    · rw [← q2]
      simp [up2_ap]
theorem ag_told (p0 p1 : Int32) (hI : Inv k ν τ θ) (hk : k < 512) : Agr k [eI] Prod.fst ν (fX2_told ν t p0 p1) (fX4_told θ τ p0 p1).1 (fX4_told θ τ p0 p1).2 τ := by
  obtain ⟨N, w, h, hw, hw2⟩ := hI
  have hB := Bk_ok (k := k) (by omega)
  unfold fX2_told fX4_told
  dsimp only
  rcases h.mem p0 with ⟨m1, m2⟩ | ⟨i, hi, rfl, m1, m2⟩
  · rw [if_pos m1, if_pos m2]
    exact Agr.no (vt := ν) h hw hw2 hk (by decide) (by decide)
  have hi12 : i < 12 := by have := h.n12; omega
  rw [if_neg m1, if_neg m2, nI_clamp (by omega)]
  by_cases ho : fX2_isOutside p1 0 8 = 0
  · rw [if_pos ho, if_neg (in_out.mp ho)]
    have hr := in_rng ho
    rw [tI_0, tI_8] at hr
    refine Agr.yes h (by omega) hk hw (by omega) rfl ?_
    obtain ⟨j, hj, e⟩ := nI_of (x := p1) (by rw [iL, tI_0]; omega)
    rw [e, nI_toInt hj] at hr
    rw [e, of_c hi12 (by omega), h.cell hi (by omega)]
    rcases (show j = 0 ∨ j = 1 ∨ j = 2 ∨ j = 3 ∨ j = 4 ∨ j = 5 ∨ j = 6 ∨ j = 7 ∨ j = 8 by omega) with rfl | rfl | rfl | rfl | rfl | rfl | rfl | rfl | rfl <;> rfl
  · rw [if_neg ho, if_pos (Decidable.byContradiction (fun z => ho (in_out.mpr z)))]
    exact Agr.no (vt := ν) h hw hw2 hk (by decide) (by decide)
theorem ag_count (p0 : Int32) (hI : Inv k ν τ θ) (hk : k < 512) : Agr k [eI] Prod.fst ν (fX2_count ν t p0) (fX4_count θ τ p0).1 (fX4_count θ τ p0).2 τ := by
  obtain ⟨N, w, h, hw, hw2⟩ := hI
  have hB := Bk_ok (k := k) (by omega)
  unfold fX2_count fX4_count
  dsimp only
  by_cases ho : fX2_isOutside p0 0 12 = 0
  · rw [if_pos ho, if_neg (in_out.mp ho)]
    exact Agr.yes h (by omega) hk hw (by omega) rfl (h.tally p0)
  · rw [if_neg ho, if_pos (Decidable.byContradiction (fun z => ho (in_out.mpr z)))]
    exact Agr.no (vt := ν) h hw hw2 hk (by decide) (by decide)
theorem ag_pass (p0 : Int32) (hI : Inv k ν τ θ) (hk : k < 512) : Agr k [eA] Prod.fst ν (fX2_pass ν t p0) (fX4_pass θ τ p0).1 (fX4_pass θ τ p0).2.1 (fX4_pass θ τ p0).2.2 := by
  obtain ⟨N, w, h, hw, hw2⟩ := hI
  have hB := Bk_ok (k := k) (by omega)
  unfold fX2_pass fX4_pass
  dsimp only
  by_cases ho : fX2_isOutside p0 1 60 = 0
  · rw [if_pos ho, if_neg (in_out.mp ho)]
    have hr := in_rng ho
    rw [tI_1, show (60 : Int32).toInt = 60 by decide] at hr
    obtain ⟨j, hj, e⟩ := nI_of (x := p0) (by rw [iL, tI_0]; omega)
    rw [e, nI_toInt hj] at hr
    have hθ : Rl N (Bk k) u0 ET ν τ (up2 θ 0 0 0) := h.th (by funext f; simp [up2_ap]) (by simp [up2_ap])
    obtain ⟨q1, q2⟩ := hθ.weeks (n := p0.toNatClampNeg) hw (by rw [e, nI_clamp hj]; omega)
    rw [e, nI_clamp hj] at q2
    rw [e, nI_clamp hj] at q1
    unfold fX4_pass_k1 fX4_pass_b1
    dsimp only
    rw [e, nI_clamp hj]
    have q3 := q1.sc.2.1
    have q4 := h.sc.2.1
    refine Agr.yes (q1.th (θ' := θ) (by funext f; simp [up2_ap]) (by simp [up2_ap])) (by omega) hk q2 (by omega) rfl ?_
    rw [q3, q4]
  · rw [if_neg ho, if_pos (Decidable.byContradiction (fun z => ho (in_out.mpr z)))]
    exact Agr.no (vt := ν) h hw hw2 hk (by decide) (by decide)
end AGR2
