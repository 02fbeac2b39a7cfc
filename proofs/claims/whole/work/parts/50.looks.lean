/-! the calls agree: looks ahead -/
section LOOKS
variable {k N w : Nat} {ν t τ α θ : Mm} {B : Int}
theorem pf_eq {t ν : Mm} {p0 p1 : Int32} (h0 : ¬ p1 = 0) (h1 : ¬ p1 = 1) (h2 : ¬ p1 = 2) : fX2_potFact t ν p0 p1 = (fX1_poundsOfPot (fX1_lightFires (fX1_copyFrom t ν)) p0, fX1_lightFires (fX1_copyFrom t ν), ν) := by
  unfold fX2_potFact
  rw [if_neg h0, if_neg h1, if_neg h2]
theorem cb_eq {α τ : Mm} {p0 : Int32} : fX4_combed α τ p0 = (itR (fun i x => fX4_combed_b1 p0 (fX3_fire (fX3_become α τ)) i x) 0 (wfn (fX3_fire (fX3_become α τ))) 0, fX3_fire (fX3_become α τ)) := by
  unfold fX4_combed fX4_combed_k1
  dsimp only
theorem Rl.potF (h : Rl N B u0 ET ν τ θ) {q : Nat} (hq : q < 3) (p1 : Int32) : (fX2_potFact t ν (nI q) p1).1 = (fX4_potTold α τ (nI q) p1).1 ∧ (∀ r, r ≠ 3 → (fX2_potFact t ν (nI q) p1).2.2 r = ν r) := by
  by_cases h0 : p1 = 0
  · unfold fX2_potFact fX4_potTold
    rw [if_pos h0, if_pos h0]
    refine ⟨?_, fun r _ => rfl⟩
    show fX1_heatOf ν (nI q) = τ 1 (nI q).toNatClampNeg
    unfold fX1_heatOf
    rw [if_neg (nI_pos (by omega)), if_neg (show ¬ (3 : Int32) ≤ nI q from (nI_ge (a := q) (b := 3) hq (by decide) : ¬ nI 3 ≤ nI q)), nI_clamp (by omega)]
    exact h.heat hq
  by_cases h1 : p1 = 1
  · unfold fX2_potFact fX4_potTold
    rw [if_neg h0, if_pos h1, if_neg h0, if_pos h1]
    exact ⟨h.there hq, fun r _ => rfl⟩
  by_cases h2 : p1 = 2
  · unfold fX2_potFact fX4_potTold
    rw [if_neg h0, if_neg h1, if_pos h2, if_neg h0, if_neg h1, if_pos h2]
    obtain ⟨c1, c2⟩ := h.count
    have e : fX1_combersAt ν (nI q) = (fX1_countCombers ν 3 q, fX1_countCombers ν) := by
      unfold fX1_combersAt
      dsimp only
      rw [if_neg (nI_pos (by omega)), if_neg (show ¬ (3 : Int32) ≤ nI q from (nI_ge (a := q) (b := 3) hq (by decide) : ¬ nI 3 ≤ nI q)), nI_clamp (by omega)]
    rw [e]
    dsimp only
    exact ⟨c2 q hq, c1⟩
  rw [pf_eq h0 h1 h2]
  refine ⟨?_, fun r _ => rfl⟩
  unfold fX4_potTold
  rw [if_neg h0, if_neg h1, if_neg h2, cb_eq]
  dsimp only
  obtain ⟨a1, -, -⟩ := h.ahead (t := t) (y := α)
  obtain ⟨b1, b2, -⟩ := a1.fire
  exact b1.potful b2 hq
theorem ag_pot (p0 p1 : Int32) (hI : Inv k ν τ θ) (hk : k < 512) : Agr k [eI] Prod.snd ν (fX2_pot t ν p0 p1) (fX4_pot θ α τ p0 p1).1 (fX4_pot θ α τ p0 p1).2.1 τ := by
  obtain ⟨N, w, h, hw, hw2⟩ := hI
  have hB := Bk_ok (k := k) (by omega)
  unfold fX2_pot fX4_pot
  dsimp only
  by_cases ho : fX2_isOutside p0 0 2 = 0
  · rw [if_pos ho, if_neg (in_out.mp ho)]
    by_cases ho2 : fX2_isOutside p1 0 3 = 0
    · rw [if_pos ho2, if_neg (in_out.mp ho2)]
      have hr := in_rng ho
      rw [tI_0, tI_2] at hr
      obtain ⟨j, hj, e⟩ := nI_of (x := p0) (by rw [iL, tI_0]; omega)
      rw [e, nI_toInt hj] at hr
      rw [e]
      obtain ⟨q1, q2⟩ := h.potF (t := t) (α := α) (q := j) (by omega) p1
      refine Agr.yes (M := N) (w' := w) (ν' := (fX2_potFact t ν (nI j) p1).2.2) (h.row3 q2) (by omega) hk ?_ (by omega) rfl q1
      rw [q2 0 (by decide)]
      exact hw
    · rw [if_neg ho2, if_pos (Decidable.byContradiction (fun z => ho2 (in_out.mpr z)))]
      exact Agr.no (vt := ν) h hw hw2 hk (by decide) (by decide)
  · rw [if_neg ho, if_pos (Decidable.byContradiction (fun z => ho (in_out.mpr z)))]
    exact Agr.no (vt := ν) h hw hw2 hk (by decide) (by decide)
theorem ag_foresee (p0 p1 : Int32) (hI : Inv k ν τ θ) (hk : k < 512) : Agr k [eA, eI] Prod.snd ν (fX2_foresee t ν p0 p1) (fX4_foresee θ α τ p0 p1).1 (fX4_foresee θ α τ p0 p1).2.1 τ := by
  obtain ⟨N, w, h, hw, hw2⟩ := hI
  have hB := Bk_ok (k := k) (by omega)
  unfold fX2_foresee fX4_foresee
  dsimp only
  by_cases ho : fX2_isOutside p0 1 60 = 0
  · rw [if_pos ho, if_neg (in_out.mp ho)]
    by_cases ho2 : fX2_isOutside p1 2 8 = 0
    · rw [if_pos ho2, if_neg (in_out.mp ho2)]
      have hr := in_rng ho
      rw [tI_1, show (60 : Int32).toInt = 60 by decide] at hr
      obtain ⟨j, hj, e⟩ := nI_of (x := p0) (by rw [iL, tI_0]; omega)
      rw [e, nI_toInt hj] at hr
      have hθ : Rl N (Bk k) u0 ET ν τ (up2 θ 0 0 0) := h.th (by funext f; simp [up2_ap]) (by simp [up2_ap])
      obtain ⟨a1, -, a3⟩ := hθ.ahead (t := t) (y := α)
      obtain ⟨q1, q2⟩ := a1.weeks (n := p0.toNatClampNeg) (w := w) (a3.trans hw) (by rw [e, nI_clamp hj]; omega)
      unfold fX4_foresee_k1 fX4_foresee_b1
      dsimp only
      exact Agr.yes (M := N) (w' := w) h (by omega) hk hw (by omega) rfl (q1.tally p1)
    · rw [if_neg ho2, if_pos (Decidable.byContradiction (fun z => ho2 (in_out.mpr z)))]
      exact Agr.no (vt := ν) h hw hw2 hk (by decide) (by decide)
  · rw [if_neg ho, if_pos (Decidable.byContradiction (fun z => ho (in_out.mpr z)))]
    exact Agr.no (vt := ν) h hw hw2 hk (by decide) (by decide)
theorem ag_earns (p0 : Int32) (hI : Inv k ν τ θ) (hk : k < 512) : Agr k [eI] Prod.snd ν (fX2_earns t ν p0) (fX4_earns θ α τ p0).1 (fX4_earns θ α τ p0).2.1 τ := by
  obtain ⟨N, w, h, hw, hw2⟩ := hI
  have hB := Bk_ok (k := k) (by omega)
  unfold fX2_earns fX4_earns
  dsimp only
  rcases h.mem p0 with ⟨m1, m2⟩ | ⟨i, hi, rfl, m1, m2⟩
  · rw [if_pos m1, if_pos m2]
    exact Agr.no (vt := ν) h hw hw2 hk (by decide) (by decide)
  have hi12 : i < 12 := by have := h.n12; omega
  rw [if_neg m1, if_neg m2, nI_clamp (by omega)]
  obtain ⟨a1, -, a3⟩ := h.ahead (t := t) (y := α)
  obtain ⟨b1, b2, -⟩ := a1.fire
  obtain ⟨c1, -⟩ := b1.combs b2
  refine Agr.yes (M := N) (w' := w) h (by omega) hk hw (by omega) rfl ?_
  rw [of2 hi12, of2 hi12, c1.cell hi (by decide), h.cell hi (by decide)]
theorem ag_dies (p0 : Int32) (hI : Inv k ν τ θ) (hk : k < 512) : Agr k [eI] Prod.snd ν (fX2_dies t ν p0) (fX4_dies θ α τ p0).1 (fX4_dies θ α τ p0).2.1 τ := by
  obtain ⟨N, w, h, hw, hw2⟩ := hI
  have hB := Bk_ok (k := k) (by omega)
  unfold fX2_dies fX4_dies
  dsimp only
  rcases h.mem p0 with ⟨m1, m2⟩ | ⟨i, hi, rfl, m1, m2⟩
  · rw [if_pos m1, if_pos m2]
    exact Agr.no (vt := ν) h hw hw2 hk (by decide) (by decide)
  have hi12 : i < 12 := by have := h.n12; omega
  rw [if_neg m1, if_neg m2]
  have hθ : Rl N (Bk k) u0 ET ν τ (up2 θ 0 0 0) := h.th (by funext f; simp [up2_ap]) (by simp [up2_ap])
  obtain ⟨a1, -, a3⟩ := hθ.ahead (t := t) (y := α)
  generalize fX1_copyFrom t ν = x0 at a1 a3 ⊢
  generalize fX3_become α τ = y0 at a1 ⊢
  have hcell : (nI i).toNatClampNeg = i := nI_clamp (by omega)
  have key := itE_two (f := fun j x => fX2_dies_b1 ν (nI i) j x) (g := fun j x => fX4_dies_b1 (nI i) (up2 θ 0 0 0) j x) (P := fun j x y => Rl N (Bk k) u0 ET x y (up2 θ 0 0 0) ∧ x 0 0 = nI (w+j)) (Q := fun r s => ∃ v x y, r = .inl (v, x, ν) ∧ s = (v, up2 θ 0 0 0, y)) 100 0 x0 y0 ⟨a1, by rw [a3, hw]; rfl⟩ (fun j x y hj1 hj2 hP => by
    obtain ⟨q1, q2⟩ := hP
    have c6 := q1.cell hi (f := 6) (by decide)
    show (∃ r s, fX2_dies_b1 ν (nI i) j x = .inl r ∧ fX4_dies_b1 (nI i) (up2 θ 0 0 0) j y = .inl s ∧ _) ∨ (∃ x' y', fX2_dies_b1 ν (nI i) j x = .inr x' ∧ fX4_dies_b1 (nI i) (up2 θ 0 0 0) j y = .inr y' ∧ _)
    unfold fX2_dies_b1 fX4_dies_b1
    rw [hcell, of6 hi12, c6]
    by_cases hd : x (i+5) 6 = 2
    · rw [if_pos hd, if_pos hd]
      exact Or.inl ⟨_, _, rfl, rfl, nI j, x, y, rfl, rfl⟩
    · rw [if_neg hd, if_neg hd]
      obtain ⟨z1, z2⟩ := q1.week q2 (by omega)
      exact Or.inr ⟨_, _, rfl, rfl, z1.et, by rw [z1.sc.1, z2]; rfl⟩)
  have hlast := itE_last (f := fun j x => fX4_dies_b1 (nI i) (up2 θ 0 0 0) j x) 100 0 y0
  rcases key with ⟨r, s, e1, e2, v, x, y, rfl, rfl⟩ | ⟨x, y, e1, e2, hP⟩
  · rw [e2] at hlast
    rw [e1, hlast]
    unfold fX2_dies_k1x fX4_dies_k1x
    exact Agr.yes (M := N) (w' := w) h (by omega) hk hw (by omega) rfl rfl
  · rw [e2] at hlast
    rw [e1, hlast]
    obtain ⟨q1, q2⟩ := hP
    have c6 := q1.cell hi (f := 6) (by decide)
    unfold fX2_dies_k1x fX2_dies_k1 fX4_dies_b1
    dsimp only
    rw [hcell, of6 hi12, c6]
    by_cases hd : x (i+5) 6 = 2
    · rw [if_pos hd, if_pos hd]
      unfold fX4_dies_k1x
      exact Agr.yes (M := N) (w' := w) h (by omega) hk hw (by omega) rfl (show (100 : Int32) = nI 100 by decide)
    · rw [if_neg hd, if_neg hd]
      unfold fX4_dies_k1x fX4_dies_k1
      exact Agr.yes (M := N) (w' := w) h (by omega) hk hw (by omega) rfl rfl
theorem ag_lasts (hI : Inv k ν τ θ) (hk : k < 512) : (fX2_lasts t ν).1 = (fX4_lasts θ α τ).1 ∧ (fX2_lasts t ν).2.2 = ν ∧ Inv (k+1) ν τ (fX4_lasts θ α τ).2.1 := by
  obtain ⟨N, w, h, hw, hw2⟩ := hI
  have hB := Bk_ok (k := k) (by omega)
  have hI2 : Inv (k+1) ν τ (up2 θ 0 0 0) := ⟨N, w, (h.mono (by omega) hB.2.2).th (by funext f; simp [up2_ap]) (by simp [up2_ap]), hw, by omega⟩
  unfold fX2_lasts fX4_lasts
  dsimp only
  have hθ : Rl N (Bk k) u0 ET ν τ (up2 θ 0 0 0) := h.th (by funext f; simp [up2_ap]) (by simp [up2_ap])
  obtain ⟨a1, a2, a3⟩ := hθ.ahead (t := t) (y := α)
  generalize fX1_copyFrom t ν = x0 at a1 a3 ⊢
  generalize fX3_become α τ = y0 at a1 a2 ⊢
  have key := itE_two (f := fun j x => fX2_lasts_b1 ν j x) (g := fun j x => fX4_lasts_b1 (up2 θ 0 0 0) j x) (P := fun j x y => Rl N (Bk k) u0 ET x y (up2 θ 0 0 0) ∧ x 0 0 = nI (w+(j-1)) ∧ y 0 8 = 0) (Q := fun r s => ∃ v x y, r = (v, x, ν) ∧ s = (v, up2 θ 0 0 0, y)) 100 1 x0 y0 ⟨a1, by rw [a3, hw]; rfl, a2⟩ (fun j x y hj1 hj2 hP => by
    obtain ⟨q1, q2, q3⟩ := hP
    obtain ⟨z1, z2⟩ := q1.week q2 (by omega)
    have z3 := z1.e
    rw [q3] at z3
    show (∃ r s, fX2_lasts_b1 ν j x = .inl r ∧ fX4_lasts_b1 (up2 θ 0 0 0) j y = .inl s ∧ _) ∨ (∃ x' y', fX2_lasts_b1 ν j x = .inr x' ∧ fX4_lasts_b1 (up2 θ 0 0 0) j y = .inr y' ∧ _)
    unfold fX2_lasts_b1 fX4_lasts_b1
    dsimp only
    unfold Ew at z3
    by_cases hd : fX1_liveWeek x 0 9 = 0
    · rw [if_pos hd] at z3
      rw [if_pos hd, if_pos z3]
      exact Or.inr ⟨_, _, rfl, rfl, z1.et, by rw [z1.sc.1, z2, show w + (j-1) + 1 = w + (j+1-1) by omega], z3⟩
    · rw [if_neg hd] at z3
      rw [if_neg hd, if_neg (by rw [z3]; decide)]
      exact Or.inl ⟨_, _, rfl, rfl, nI j, _, _, rfl, rfl⟩)
  rcases key with ⟨r, s, e1, e2, v, x, y, rfl, rfl⟩ | ⟨x, y, e1, e2, hP⟩
  · rw [e1, e2]
    unfold fX2_lasts_k1x fX4_lasts_k1x
    exact ⟨rfl, rfl, hI2⟩
  · rw [e1, e2]
    unfold fX2_lasts_k1x fX4_lasts_k1x fX2_lasts_k1 fX4_lasts_k1
    exact ⟨rfl, rfl, hI2⟩
theorem ag_advise (p0 : Int32) (hI : Inv k ν τ θ) (hk : k < 512) : Agr k [eI, eS] Prod.snd ν (fX2_advise t ν p0) (fX4_advise θ α τ p0).1 (fX4_advise θ α τ p0).2.1 τ := by
  obtain ⟨N, w, h, hw, hw2⟩ := hI
  have hB := Bk_ok (k := k) (by omega)
  unfold fX2_advise fX4_advise
  dsimp only
  rcases h.mem p0 with ⟨m1, m2⟩ | ⟨i, hi, rfl, m1, m2⟩
  · rw [if_pos m1, if_pos m2]
    exact Agr.no (vt := ν) h hw hw2 hk (by decide) (by decide)
  have hi12 : i < 12 := by have := h.n12; omega
  rw [if_neg m1, if_neg m2, nI_clamp (by omega)]
  by_cases hd : ν (i+5) 6 = 2
  · rw [if_pos hd, if_neg (fun q => (dead_iff h hi).mp q hd)]
    exact Agr.no (vt := ν) h hw hw2 hk (by decide) (by decide)
  rw [if_neg hd, if_pos ((dead_iff h hi).mpr hd)]
  have hθ : Rl N (Bk k) u0 ET ν τ (up2 θ 0 0 0) := h.th (by funext f; simp [up2_ap]) (by simp [up2_ap])
  have key := itR_two (f := fun j (x : Int32 × Int32 × Mm) => fX2_advise_b1 ν (nI i) j x.1 x.2.1 x.2.2) (g := fun j (x : Int32 × Int32 × Mm) => fX4_advise_b1 τ (nI i) (up2 θ 0 0 0) j x.1 x.2.1 x.2.2) (x := ((-1 : Int32), (-1 : Int32), t)) (y := ((-1 : Int32), (-1 : Int32), α)) (P := fun _ x y => x.1 = y.1 ∧ x.2.1 = y.2.1) ⟨rfl, rfl⟩ 3 (fun j x y hj hP => by
    obtain ⟨x1, x2, x3⟩ := x
    obtain ⟨y1, y2, y3⟩ := y
    obtain ⟨q1, q2⟩ := hP
    have q1' : x1 = y1 := q1
    have q2' : x2 = y2 := q2
    subst q1' q2'
    show (fX2_advise_b1 ν (nI i) j x1 x2 x3).1 = (fX4_advise_b1 τ (nI i) (up2 θ 0 0 0) j x1 x2 y3).1 ∧ (fX2_advise_b1 ν (nI i) j x1 x2 x3).2.1 = (fX4_advise_b1 τ (nI i) (up2 θ 0 0 0) j x1 x2 y3).2.1
    have hr := room_iff h hi hj
    unfold fX2_advise_b1 fX4_advise_b1
    dsimp only
    rw [nI_clamp (n := i) (by omega)]
    by_cases hf : fX4_others τ (nI i) (nI j) < 4
    · rw [if_neg (fun z => hr.mp z hf), if_pos hf]
      obtain ⟨a1, -, a3⟩ := hθ.ahead (t := x3) (y := y3)
      have hd6 : ¬ fX1_copyFrom x3 ν (i+5) 6 = 2 := by
        rw [(copy_cells (t := x3) (ν := ν)).2.2.2 i hi12 6 (by decide)]
        exact hd
      have a4 := a1.put (c := nI j) hi (by
        rcases (show j = 0 ∨ j = 1 ∨ j = 2 by omega) with rfl | rfl | rfl
        · exact Or.inr (Or.inl rfl)
        · exact Or.inr (Or.inr (Or.inl rfl))
        · exact Or.inr (Or.inr (Or.inr rfl))) hd6
      rw [set5 hi12]
      obtain ⟨z1, z2⟩ := a4.weeks (n := 6) (w := w) (by simpa [up2_ap] using a3.trans hw) (by omega)
      unfold fX4_advise_k2 fX4_advise_b2
      dsimp only
      have z3 := z1.sc.2.2.2.2.1
      rw [← z3]
      generalize fX1_liveWeeks (up2 (fX1_copyFrom x3 ν) (i+5) 5 (nI j)) 6 = X
      by_cases hc : X 0 5 ≤ x1
      · have hc' : ¬ x1 < X 0 5 := by
          rw [iL]
          rw [iG] at hc
          omega
        rw [if_pos hc, if_neg hc']
        exact ⟨rfl, rfl⟩
      · have hc' : x1 < X 0 5 := by
          rw [iL]
          rw [iG] at hc
          omega
        rw [if_neg hc, if_pos hc']
        exact ⟨rfl, rfl⟩
    · rw [if_pos (hr.mpr hf), if_neg hf]
      exact ⟨rfl, rfl⟩)
  unfold fX2_advise_k1x fX2_advise_k1 fX4_advise_k1x fX4_advise_k1
  dsimp only
  refine Agr.yes (M := N) (w' := w) h (by omega) hk hw (by omega) rfl ?_
  exact key.2
end LOOKS
