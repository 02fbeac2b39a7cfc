/-! the calls agree: stores and rules, who owes, who joins -/
/-- the row of a new member, as the reference makes it -/
def jrow (p0 p1 : Int32) : Nat → Int32 := upd (upd (upd (upd (upd (upd (upd (upd (upd (fun _ => 0) 0 p0) 1 p1) 2 10) 3 0) 4 0) 5 (-1)) 6 0) 7 0) 8 0
def jput (τ : Mm) (p0 p1 : Int32) : Mm := fun r => if r = 2 then va_cpy (jrow p0 p1) (τ 2) 0 ((9 : Int32) * τ 0 1).toNatClampNeg 9 else τ r
def fX4_join (θ τ : Mm) (p0 p1 : Int32) : Int32 × Mm × Mm :=
    let θ1 : Mm := up2 θ 0 0 (0 : Int32)
    if (fX4_isIn p0 (1 : Int32) (9 : Int32)) = 0 then
      ((fX4_no θ1 (1 : Int32)).1, (fX4_no θ1 (1 : Int32)).2, τ)
    else
      if (fX4_isIn p1 (1 : Int32) (20 : Int32)) = 0 then
        ((fX4_no θ1 (1 : Int32)).1, (fX4_no θ1 (1 : Int32)).2, τ)
      else
        if (τ 0 1) = (12 : Int32) then
          ((fX4_no θ1 (2 : Int32)).1, (fX4_no θ1 (2 : Int32)).2, τ)
        else
          let τ1 : Mm := jput τ p0 p1
          let τ2 : Mm := up2 τ1 0 1 ((τ1 0 1) + (1 : Int32))
          ((τ2 0 1) - (1 : Int32), θ1, τ2)
section AGR3
variable {k : Nat} {ν t τ θ : Mm}
theorem ag_owes (hI : Inv k ν τ θ) (hk : k < 512) : (fX2_owes ν t).1 = (fX4_owes θ τ).1 ∧ (fX2_owes ν t).2.1 = ν ∧ (fX2_owes ν t).2.2 = t ∧ Inv (k+1) ν τ (fX4_owes θ τ).2 := by
  obtain ⟨N, w, h, hw, hw2⟩ := hI
  have hB := Bk_ok (k := k) (by omega)
  have key : (itR (fun i (x : Int32 × Int32) => fX2_owes_b1 ν i x.1 x.2) 0 12 ((-1 : Int32), (0 : Int32))).1 = (itR (fun i (x : Int32 × Int32) => fX4_owes_b1 τ i x.1 x.2) 0 N ((0 : Int32), (-1 : Int32))).2 := by
    have H := itR_12 (f := fun i (x : Int32 × Int32) => fX2_owes_b1 ν i x.1 x.2) (g := fun i (x : Int32 × Int32) => fX4_owes_b1 τ i x.1 x.2) (x := ((-1 : Int32), (0 : Int32))) (y := ((0 : Int32), (-1 : Int32))) (P := fun _ (x y : Int32 × Int32) => x.1 = y.2 ∧ x.2 = y.1 ∧ 0 ≤ x.2.toInt) h.n12 ⟨rfl, rfl, by decide⟩ (fun i x y hi hP => by
      obtain ⟨a1, a2⟩ := x
      obtain ⟨b1, b2⟩ := y
      obtain ⟨q1, q2, q3⟩ := hP
      have hi12 : i < 12 := by have := h.n12; omega
      have q1' : a1 = b2 := q1
      have q2' : a2 = b1 := q2
      subst q1' q2'
      show (fX2_owes_b1 ν i a1 a2).1 = (fX4_owes_b1 τ i a2 a1).2 ∧ (fX2_owes_b1 ν i a1 a2).2 = (fX4_owes_b1 τ i a2 a1).1 ∧ 0 ≤ (fX2_owes_b1 ν i a1 a2).2.toInt
      unfold fX2_owes_b1 fX4_owes_b1
      rw [of3 hi12, h.cell hi (by decide)]
      by_cases hc : ν (i+5) 3 ≤ a2
      · have hc' : ¬ a2 < ν (i+5) 3 := by
          rw [iL]
          rw [iG] at hc
          omega
        rw [if_pos hc, if_neg hc']
        exact ⟨rfl, rfl, q3⟩
      · have hc' : a2 < ν (i+5) 3 := by
          rw [iL]
          rw [iG] at hc
          omega
        rw [if_neg hc, if_pos hc']
        refine ⟨rfl, rfl, ?_⟩
        rw [iL] at hc'
        have : 0 ≤ a2.toInt := q3
        show 0 ≤ (ν (i+5) 3).toInt
        omega) (fun i x y hi hi2 hP => by
      obtain ⟨a1, a2⟩ := x
      obtain ⟨q1, q2, q3⟩ := hP
      have e : fX2_owes_b1 ν i a1 a2 = (a1, a2) := by
        unfold fX2_owes_b1
        rw [(h.no hi hi2).2.2.2.2.1]
        exact if_pos (by rw [iG, tI_0]; exact q3)
      show (fX2_owes_b1 ν i a1 a2).1 = y.2 ∧ (fX2_owes_b1 ν i a1 a2).2 = y.1 ∧ 0 ≤ (fX2_owes_b1 ν i a1 a2).2.toInt
      rw [e]
      exact ⟨q1, q2, q3⟩)
    exact H.1
  have e1 : fX2_owes ν t = ((itR (fun i (x : Int32 × Int32) => fX2_owes_b1 ν i x.1 x.2) 0 12 ((-1 : Int32), (0 : Int32))).1, ν, t) := by
    unfold fX2_owes fX2_owes_k1x fX2_owes_k1
    dsimp only
  have e2 : fX4_owes θ τ = ((itR (fun i (x : Int32 × Int32) => fX4_owes_b1 τ i x.1 x.2) 0 N ((0 : Int32), (-1 : Int32))).2, up2 θ 0 0 0) := by
    unfold fX4_owes fX4_owes_k1x fX4_owes_k1
    dsimp only
    rw [h.wfnm]
  rw [e1, e2]
  dsimp only
  exact ⟨key, rfl, rfl, N, w, (h.mono (by omega) hB.2.2).th (by funext f; simp [up2_ap]) (by simp [up2_ap]), hw, by omega⟩
theorem ag_setFever (p0 p1 : Int32) (hI : Inv k ν τ θ) (hk : k < 512) : Agr k [eI, eA] Prod.fst ν (fX2_setFever ν t p0 p1) (fX4_setFever θ p0 p1).1 (fX4_setFever θ p0 p1).2 τ := by
  obtain ⟨N, w, h, hw, hw2⟩ := hI
  have hB := Bk_ok (k := k) (by omega)
  unfold fX2_setFever fX4_setFever
  dsimp only
  by_cases ho : fX2_isOutside p0 0 7 = 0
  · rw [if_pos ho, if_neg (in_out.mp ho)]
    by_cases ho2 : fX2_isOutside p1 (-1) 2 = 0
    · rw [if_pos ho2, if_neg (in_out.mp ho2)]
      have hr := in_rng ho
      rw [tI_0, show (7 : Int32).toInt = 7 by decide] at hr
      obtain ⟨j, hj, e⟩ := nI_of (x := p0) (by rw [iL, tI_0]; omega)
      rw [e, nI_toInt hj] at hr
      rw [e, nI_clamp hj]
      have hf := (h.fv j (by omega)).1
      have ha := (pot_rng ho2).1
      refine Or.inl ⟨(up2 ν 1 j p1, t), by rw [hf]; simp [up2_ap], by simp [up2_ap], N, w, ?_, by simpa [up2_ap] using hw, by omega⟩
      obtain ⟨a1, a2, a3, a4, a5, a6, a7, a8, a9, b1, b2, b3⟩ := h
      have hr : ∀ r, r ≠ 1 → up2 ν 1 j p1 r = ν r := fun r h => up2_row h
      refine ⟨⟨a1.1, hB.2.2⟩, ?_, ?_, ?_, ?_, ?_, ?_, ?_, ?_, ?_, trivial, trivial⟩
      · show up2 ν 1 j p1 0 1 = nI N ∧ _
        rw [hr 0 (by decide)]
        exact a2
      · show Sc (up2 ν 1 j p1) τ (up2 (up2 θ 0 0 0) 1 j p1)
        unfold Sc
        rw [hr 0 (by decide)]
        simpa [Sc, up2_ap] using a3
      · intro q hq
        show up2 ν 1 j p1 1 q = up2 (up2 θ 0 0 0) 1 j p1 1 q ∧ atR (up2 ν 1 j p1 1 q)
        by_cases z : q = j
        · subst z
          rw [up2_s, up2_s]
          exact ⟨rfl, ha⟩
        · have := a4 q hq
          simpa [up2_ap, z] using this
      · intro q hq
        show up2 ν 1 j p1 2 q = τ 1 q
        rw [hr 2 (by decide)]
        exact a5 q hq
      · intro i f hi hf
        show up2 ν 1 j p1 (i+5) f = τ 2 (9*i+f)
        rw [hr (i+5) (by omega)]
        exact a6 i f hi hf
      · intro i hi
        show mOK (up2 ν 1 j p1 (i+5))
        rw [hr (i+5) (by omega)]
        exact a7 i hi
      · intro i hi hi2
        show mNo (up2 ν 1 j p1 (i+5))
        rw [hr (i+5) (by omega)]
        exact a8 i hi hi2
      · intro i hi
        show up2 ν 1 j p1 (i+5) 9 = _
        rw [hr (i+5) (by omega)]
        exact a9 i hi
      · have e1 : smq (coI (up2 ν 1 j p1)) 12 = smq (coI ν) 12 := smq_eq (fun q hq => by
          unfold coI
          rw [hr (q+5) (by omega)])
        show 0 ≤ (up2 ν 1 j p1 0 2).toInt ∧ 0 ≤ (up2 ν 1 j p1 0 4).toInt ∧ 0 ≤ (up2 ν 1 j p1 0 6).toInt ∧ (up2 ν 1 j p1 0 6).toInt ≤ 3 ∧ phi (up2 ν 1 j p1) ≤ Bk (k+1)
        unfold phi at b1 ⊢
        rw [e1, hr 0 (by decide)]
        exact ⟨b1.1, b1.2.1, b1.2.2.1, b1.2.2.2.1, by omega⟩
    · rw [if_neg ho2, if_pos (Decidable.byContradiction (fun z => ho2 (in_out.mpr z)))]
      exact Agr.no (vt := ν) h hw hw2 hk (by decide) (by decide)
  · rw [if_neg ho, if_pos (Decidable.byContradiction (fun z => ho (in_out.mpr z)))]
    exact Agr.no (vt := ν) h hw hw2 hk (by decide) (by decide)
theorem ag_setDues (p0 : Int32) (hI : Inv k ν τ θ) (hk : k < 512) : Agr k [eA] Prod.fst ν (fX2_setDues ν t p0) (fX4_setDues θ p0).1 (fX4_setDues θ p0).2 τ := by
  obtain ⟨N, w, h, hw, hw2⟩ := hI
  have hB := Bk_ok (k := k) (by omega)
  unfold fX2_setDues fX4_setDues
  dsimp only
  by_cases ho : fX2_isOutside p0 0 3 = 0
  · rw [if_pos ho, if_neg (in_out.mp ho)]
    have hr := in_rng ho
    rw [tI_0, tI_3] at hr
    obtain ⟨s0, s2, s3, s4, s5, s6, s7, s8⟩ := h.sc
    refine Or.inl ⟨(up2 ν 0 6 p0, t), by rw [s6]; simp [up2_ap], by simp [up2_ap], N, w, ?_, by simpa [up2_ap] using hw, by omega⟩
    refine h.scal (E' := ET) ?_ ?_ ?_ ?_ ?_ ?_ ?_ ?_ hB.2.2 ?_ trivial trivial
    · exact fun r h0 _ => up2_row h0
    · exact fun r h0 => rfl
    · simp [up2_ap]
    · simpa [up2_ap] using hr
    · funext f
      simp [up2_ap]
    · simp [Sc, up2_ap, s0, s2, s3, s4, s5, s6, s7, s8]
    · simpa [up2_ap] using h.pos.1
    · simpa [up2_ap] using h.pos.2.1
    · simp [up2_ap]
      omega
  · rw [if_neg ho, if_pos (Decidable.byContradiction (fun z => ho (in_out.mpr z)))]
    exact Agr.no (vt := ν) h hw hw2 hk (by decide) (by decide)
theorem ag_buy (p0 p1 : Int32) (hI : Inv k ν τ θ) (hk : k < 512) : Agr k [eI, eA, eS] Prod.fst ν (fX2_buy ν t p0 p1) (fX4_buy θ τ p0 p1).1 (fX4_buy θ τ p0 p1).2.1 (fX4_buy θ τ p0 p1).2.2 := by
  obtain ⟨N, w, h, hw, hw2⟩ := hI
  have hB := Bk_ok (k := k) (by omega)
  obtain ⟨s0, s2, s3, s4, s5, s6, s7, s8⟩ := h.sc
  unfold fX2_buy fX4_buy
  dsimp only
  by_cases ho : fX2_isOutside p0 0 1 = 0
  · rw [if_pos ho, if_neg (in_out.mp ho)]
    by_cases ho2 : fX2_isOutside p1 1 200 = 0
    · rw [if_pos ho2, if_neg (in_out.mp ho2), ← s2]
      have hr := in_rng ho2
      rw [tI_1, show (200 : Int32).toInt = 200 by decide] at hr
      obtain ⟨p1', p2', p3', p4', p5'⟩ := h.pos
      have hz : ∀ x : Int32, x + 0 = x := fun x => Int32.add_zero x
      have rm := h.room (i := 0) (by decide)
      by_cases e0 : p0 = 0
      · simp only [if_pos e0]
        by_cases hc : p1 ≤ ν 0 2
        · have hn : ¬ p0 = 1 := by
            rw [e0]
            decide
          simp only [if_pos hc, if_pos e0, if_neg hn]
          rw [iG] at hc
          have e1 : (ν 0 2 - p1).toInt = (ν 0 2).toInt - p1.toInt := iS (by omega) (by omega)
          refine Agr.yes (B := Bk (k+1)) (M := N) (w' := w) (h.scal (θ' := θ) ?_ ?_ ?_ ?_ rfl ?_ ?_ ?_ hB.2.2 ?_ trivial trivial) (Int.le_refl _) hk (by simpa [up2_ap] using hw) (by omega) rfl ?_
          · intro r h0 _
            funext f
            simp [up2_ap, h0]
          · intro r h0
            funext f
            simp [up2_ap, h0]
          · simp [up2_ap]
          · simpa [up2_ap] using ⟨p3', p4'⟩
          · simp [Sc, up2_ap, s0, s2, s3, s4, s5, s6, s7, s8]
          · simp [up2_ap, e1]
            omega
          · simpa [up2_ap] using p2'
          · simp [up2_ap, e1]
            omega
          · simp [up2_ap, s3]
        · simp only [if_neg hc]
          refine Agr.no (x := eS) (vt := ν) h hw hw2 hk ?_ ?_ <;> decide
      · have e1 : p0 = 1 := by
          have hr0 := in_rng ho
          rw [tI_0, tI_1] at hr0
          rw [iE, tI_0] at e0
          rw [iE, tI_1]
          omega
        simp only [if_neg e0]
        by_cases hc : (p1 + 2) / 3 ≤ ν 0 2
        · simp only [if_pos hc, if_neg e0, if_pos e1]
          have e2 : (p1 + 2).toInt = p1.toInt + 2 := by rw [iA (by rw [tI_2]; omega) (by rw [tI_2]; omega), tI_2]
          have e3 : ((p1 + 2) / 3).toInt = (p1.toInt + 2) / 3 := by rw [iD (by rw [tI_3]; decide), tI_3, e2, Int.tdiv_eq_ediv_of_nonneg (by omega)]
          rw [iG, e3] at hc
          have e4 : (ν 0 2 - (p1 + 2) / 3).toInt = (ν 0 2).toInt - (p1.toInt + 2) / 3 := by rw [iS (by omega) (by omega), e3]
          have e5 : (ν 0 4 + p1).toInt = (ν 0 4).toInt + p1.toInt := iA (by omega) (by omega)
          generalize (p1 + 2) / 3 = Z at e4 ⊢
          refine Agr.yes (B := Bk (k+1)) (M := N) (w' := w) (h.scal (θ' := θ) ?_ ?_ ?_ ?_ rfl ?_ ?_ ?_ hB.2.2 ?_ trivial trivial) (Int.le_refl _) hk (by simpa [up2_ap] using hw) (by omega) rfl ?_
          · intro r h0 _
            funext f
            simp [up2_ap, h0]
          · intro r h0
            funext f
            simp [up2_ap, h0]
          · simp [up2_ap]
          · simpa [up2_ap] using ⟨p3', p4'⟩
          · simp [Sc, up2_ap, s0, s2, s3, s4, s5, s6, s7, s8]
          · simp [up2_ap, e4]
            omega
          · simp [up2_ap, e5]
            omega
          · simp [up2_ap, e4, e5]
            omega
          · simp [up2_ap, s4]
        · simp only [if_neg hc]
          refine Agr.no (x := eS) (vt := ν) h hw hw2 hk ?_ ?_ <;> decide
    · rw [if_neg ho2, if_pos (Decidable.byContradiction (fun z => ho2 (in_out.mpr z)))]
      exact Agr.no (vt := ν) h hw hw2 hk (by decide) (by decide)
  · rw [if_neg ho, if_pos (Decidable.byContradiction (fun z => ho (in_out.mpr z)))]
    exact Agr.no (vt := ν) h hw hw2 hk (by decide) (by decide)
theorem ag_sell (p0 : Int32) (hI : Inv k ν τ θ) (hk : k < 512) : Agr k [eA, eS] Prod.fst ν (fX2_sell ν t p0) (fX4_sell θ τ p0).1 (fX4_sell θ τ p0).2.1 (fX4_sell θ τ p0).2.2 := by
  obtain ⟨N, w, h, hw, hw2⟩ := hI
  have hB := Bk_ok (k := k) (by omega)
  obtain ⟨s0, s2, s3, s4, s5, s6, s7, s8⟩ := h.sc
  unfold fX2_sell fX4_sell
  dsimp only
  by_cases ho : fX2_isOutside p0 1 500 = 0
  · rw [if_pos ho, if_neg (in_out.mp ho), ← s5]
    have hr := in_rng ho
    rw [tI_1, show (500 : Int32).toInt = 500 by decide] at hr
    obtain ⟨p1', p2', p3', p4', p5'⟩ := h.pos
    have rm := h.room (i := 0) (by decide)
    by_cases hc : p0 ≤ ν 0 5
    · rw [if_pos hc, if_pos hc]
      obtain ⟨v1, v2, v3⟩ := half (x := p0) (by omega)
      generalize p0 / 2 = Z at v1 v2 v3 ⊢
      have e5 : (ν 0 2 + Z).toInt = (ν 0 2).toInt + Z.toInt := iA (by omega) (by omega)
      refine Agr.yes (B := Bk (k+1)) (M := N) (w' := w) (h.scal (θ' := θ) ?_ ?_ ?_ ?_ rfl ?_ ?_ ?_ hB.2.2 ?_ trivial trivial) (Int.le_refl _) hk (by simpa [up2_ap] using hw) (by omega) rfl ?_
      · intro r h0 _
        funext f
        simp [up2_ap, h0]
      · intro r h0
        funext f
        simp [up2_ap, h0]
      · simp [up2_ap]
      · simpa [up2_ap] using ⟨p3', p4'⟩
      · simp [Sc, up2_ap, s0, s2, s3, s4, s5, s6, s7, s8]
      · simp [up2_ap, e5]
        omega
      · simpa [up2_ap] using p2'
      · simp [up2_ap, e5]
        omega
      · simp [up2_ap, s2]
    · rw [if_neg hc, if_neg hc]
      exact Agr.no (vt := ν) h hw hw2 hk (by decide) (by decide)
  · rw [if_neg ho, if_pos (Decidable.byContradiction (fun z => ho (in_out.mpr z)))]
    exact Agr.no (vt := ν) h hw hw2 hk (by decide) (by decide)
end AGR3
