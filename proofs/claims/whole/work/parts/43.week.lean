/-! a week on both sides -/
theorem itR_congr {T : Type} {f g : Nat → T → T} {n : Nat} {x : T} (h : ∀ i y, i < n → f i y = g i y) : itR f 0 n x = itR g 0 n x :=
  itR_two (f := f) (g := g) (P := fun _ a b => a = b) rfl n (fun i a b hi e => by rw [e]; exact h i b hi)
theorem itR_id {T : Type} {f : Nat → T → T} {n : Nat} {x : T} (h : ∀ i, i < n → f i x = x) : itR f 0 n x = x :=
  itR_ind (f := f) (P := fun _ a => a = x) rfl n (fun i a hi e => by rw [e]; exact h i hi)
def CC (x y : Mm) : Prop := ∀ p, p < 3 → x 3 p = fX3_combers y (nI p)
theorem combers_congr {y y' : Mm} {p : Int32} (h5 : ∀ k, k < 12 → y' 2 (9*k+5) = y 2 (9*k+5)) (h6 : ∀ k, k < 12 → y' 2 (9*k+6) = y 2 (9*k+6)) (h1 : y' 0 1 = y 0 1) (hN : wfn y ≤ 12) : fX3_combers y' p = fX3_combers y p := by
  unfold fX3_combers fX3_combers_k1
  have e : wfn y' = wfn y := by
    unfold wfn
    rw [h1]
  rw [e]
  refine itR_congr (fun i v hi => ?_)
  have hi12 : i < 12 := by omega
  unfold fX3_combers_b1 fX3_combs
  simp only [of5 hi12, of6 hi12, h5 i hi12, h6 i hi12]
theorem idle_combs {σ : Mm} {i : Nat} (h : mNo (σ (i+5))) : fX0_combs σ i = 0 := by
  unfold fX0_combs
  rw [h.1]
  exact if_neg (by decide)
theorem cc_eq {σ : Mm} : fX1_countCombers σ = itR (fun i x => fX1_countCombers_b2 i x) 0 12 (itR (fun i x => fX1_countCombers_b1 i x) 0 3 σ) := by
  unfold fX1_countCombers fX1_countCombers_k1 fX1_countCombers_k2
  dsimp only
theorem lf_eq {σ : Mm} : fX1_lightFires σ = itR (fun i x => fX1_lightFires_b1 i x) 0 3 (fX1_countCombers σ) := by
  unfold fX1_lightFires fX1_lightFires_k1
  dsimp only
theorem rf_eq {τ : Mm} : fX3_fire τ = itR (fun i x => fX3_fire_b1 i x) 0 3 τ := by
  unfold fX3_fire fX3_fire_k1
  dsimp only
theorem cw_eq {σ : Mm} : fX1_combWool σ = itR (fun i x => fX1_combWool_b1 i x) 0 12 σ := by
  unfold fX1_combWool fX1_combWool_k1
  dsimp only
theorem rc_eq {τ : Mm} : fX3_comb τ = itR (fun i x => fX3_comb_b1 i x) 0 (wfn τ) τ := by
  unfold fX3_comb fX3_comb_k1
  dsimp only
theorem it3 {T : Type} {f : Nat → T → T} {x : T} : itR f 0 3 x = f 2 (f 1 (f 0 x)) := rfl
section WEEK
variable {N : Nat} {B : Int} {u : Nat → Int32} {E : Int32 → Int32 → Prop} {σ τ θ : Mm}
theorem Rl.count (h : Rl N B u E σ τ θ) : (∀ r, r ≠ 3 → fX1_countCombers σ r = σ r) ∧ CC (fX1_countCombers σ) τ := by
  have h3 : ∀ p, p < 3 → (∀ r, r ≠ 3 → fX1_countCombers σ r = σ r) ∧ fX1_countCombers σ 3 p = fX3_combers τ (nI p) := by
    intro p hp
    unfold fX3_combers fX3_combers_k1
    rw [h.wfnm]
    rw [cc_eq, it3]
    refine itR_12 (f := fun i x => fX1_countCombers_b2 i x) (g := fun i x => fX3_combers_b1 τ (nI p) i x) (P := fun _ (x : Mm) (v : Int32) => (∀ r, r ≠ 3 → x r = σ r) ∧ x 3 p = v) h.n12 ?_ ?_ ?_
    · unfold fX1_countCombers_b1
      dsimp only
      refine ⟨fun r hr => ?_, ?_⟩
      · funext f
        simp [up2_ap, hr]
      · rcases (show p = 0 ∨ p = 1 ∨ p = 2 by omega) with rfl | rfl | rfl <;> simp [up2_ap]
    · intro i x v hi hP
      obtain ⟨hr, hv⟩ := hP
      have hi12 : i < 12 := by have := h.n12; omega
      have c5 := h.cell hi (f := 5) (by decide)
      have c6 := h.cell hi (f := 6) (by decide)
      have hci := combs_iff (σ := σ) (τ := τ) hi12 c5 c6 (h.ok hi).2.1
      have ec : fX0_combs x i = fX0_combs σ i := by
        unfold fX0_combs
        rw [hr (i+5) (by omega)]
      show (∀ r, r ≠ 3 → fX1_countCombers_b2 i x r = σ r) ∧ fX1_countCombers_b2 i x 3 p = fX3_combers_b1 τ (nI p) i v
      unfold fX1_countCombers_b2 fX3_combers_b1
      rw [ec, of5 hi12, c5]
      by_cases hc : fX0_combs σ i = 0
      · rw [if_pos hc, if_pos (hci.mpr hc)]
        exact ⟨hr, by rw [hv]; exact (Int32.add_zero v).symm⟩
      · rw [if_neg hc, if_neg (fun q => hc (hci.mp q))]
        obtain ⟨h6, q, hq, h5⟩ := combs_pot hc
        rw [hr (i+5) (by omega), h5, nI_clamp (by omega)]
        refine ⟨fun r h3 => ?_, ?_⟩
        · rw [← hr r h3]
          exact up2_row h3
        · by_cases e : q = p
          · subst e
            rw [if_pos rfl]
            simp [up2_ap, hv]
          · rw [if_neg (fun h => e ((nI_eq (by omega) (by omega)).mp h))]
            simp [up2_ap, hv, Ne.symm e]
    · intro i x v hi hi2 hP
      obtain ⟨hr, hv⟩ := hP
      have ec : fX0_combs x i = 0 := idle_combs (by rw [hr (i+5) (by omega)]; exact h.no hi hi2)
      show (∀ r, r ≠ 3 → fX1_countCombers_b2 i x r = σ r) ∧ fX1_countCombers_b2 i x 3 p = v
      unfold fX1_countCombers_b2
      rw [if_pos ec]
      exact ⟨hr, hv⟩
  exact ⟨(h3 0 (by decide)).1, fun p hp => (h3 p hp).2⟩
theorem Rl.fire1 {i : Nat} (hi : i < 3) (h : Rl N B u E σ τ θ) (hc : CC σ τ) : Rl N B u E (fX1_lightFires_b1 i σ) (fX3_fire_b1 i τ) θ ∧ CC (fX1_lightFires_b1 i σ) (fX3_fire_b1 i τ) ∧ fX3_fire_b1 i τ 0 0 = τ 0 0 := by
  obtain ⟨s0, s2, s3, s4, s5, s6, s7, s8⟩ := h.sc
  have hq : σ 2 i = τ 1 i := h.heat hi
  have hN : wfn τ ≤ 12 := by rw [h.wfnm]; exact h.n12
  have key : ∃ c v, fX1_lightFires_b1 i σ = up2 (up2 σ 0 3 c) 2 i v ∧ fX3_fire_b1 i τ = up2 (up2 τ 0 3 c) 1 i v := by
    unfold fX1_lightFires_b1 fX3_fire_b1
    rw [hc i hi, ← s3]
    have z : ∀ x : Int32, x - 0 = x := fun x => Int32.sub_zero x
    by_cases h1 : fX3_combers τ (nI i) ≤ 0
    · refine ⟨σ 0 3, mxI 0 (σ 2 i - 2), ?_, ?_⟩
      · rw [if_pos h1, up2_id]
      · rw [if_pos h1]
        simp [up2_ap, hq, z]
    · by_cases h2 : σ 0 3 ≤ 0
      · refine ⟨σ 0 3, mxI 0 (σ 2 i - 2), ?_, ?_⟩
        · rw [if_neg h1, if_pos h2, up2_id]
        · rw [if_neg h1, if_pos h2]
          simp [up2_ap, hq, z]
      · refine ⟨σ 0 3 - 1, mnI 9 (σ 2 i + 3), ?_, ?_⟩
        · rw [if_neg h1, if_neg h2]
          simp [up2_ap]
        · rw [if_neg h1, if_neg h2]
          simp [up2_ap, hq]
  obtain ⟨c, v, e1, e2⟩ := key
  rw [e1, e2]
  refine ⟨Rl.heat1 (h.scal (θ' := θ) (E' := E) ?_ ?_ ?_ ?_ rfl ?_ ?_ ?_ h.1.2 ?_ ?_ h.e1), ?_, ?_⟩
  · exact fun r h0 _ => up2_row h0
  · exact fun r h0 => up2_row h0
  · simp [up2_ap]
  · simp only [up2_ap]
    exact ⟨h.pos.2.2.1, h.pos.2.2.2.1⟩
  · simp [Sc, up2_ap, s0, s2, s4, s5, s6, s7, s8]
  · simpa [up2_ap] using h.pos.1
  · simpa [up2_ap] using h.pos.2.1
  · simp [up2_ap]
  · simpa [up2_ap] using h.e
  · intro p hp
    rw [combers_congr (y := τ) (fun k hk => by simp [up2_ap]) (fun k hk => by simp [up2_ap]) (by simp [up2_ap]) hN, ← hc p hp]
    simp [up2_ap]
  · simp [up2_ap]
theorem Rl.fire (h : Rl N B u E σ τ θ) : Rl N B u E (fX1_lightFires σ) (fX3_fire τ) θ ∧ CC (fX1_lightFires σ) (fX3_fire τ) ∧ fX3_fire τ 0 0 = τ 0 0 := by
  obtain ⟨hr, hc⟩ := h.count
  rw [lf_eq, rf_eq]
  exact itR_two (f := fun i x => fX1_lightFires_b1 i x) (g := fun i x => fX3_fire_b1 i x) (P := fun _ x y => Rl N B u E x y θ ∧ CC x y ∧ y 0 0 = τ 0 0) ⟨h.row3 hr, hc, rfl⟩ 3 (fun i x y hi hP => by
    obtain ⟨q1, q2, q3⟩ := Rl.fire1 hi hP.1 hP.2.1
    exact ⟨q1, q2, q3.trans hP.2.2⟩)
theorem Rl.pound {i : Nat} (h : Rl N B u E σ τ θ) (hi : i < N) (hc : CC σ τ) (hk : ¬ fX0_combs σ i = 0) : fX1_poundsOf σ i = fX3_pounds τ (nI i) := by
  have hi12 : i < 12 := by have := h.n12; omega
  have c0 : τ 2 (9*i) = σ (i+5) 0 := h.cell hi (f := 0) (by decide)
  have c5 := h.cell hi (f := 5) (by decide)
  obtain ⟨h6, q, hq, h5⟩ := combs_pot hk
  unfold fX1_poundsOf fX3_pounds
  rw [if_neg hk, of0 hi12, of5 hi12, c0, c5, h5, nI_clamp (by omega), h.heat hq, hc q hq]
theorem Rl.combs (h : Rl N B u E σ τ θ) (hc : CC σ τ) : Rl N B u E (fX1_combWool σ) (fX3_comb τ) θ ∧ fX3_comb τ 0 0 = τ 0 0 := by
  rw [cw_eq, rc_eq, h.wfnm]
  have H := itR_12 (f := fun i x => fX1_combWool_b1 i x) (g := fun i x => fX3_comb_b1 i x) (P := fun _ x y => (Rl N B u E x y θ ∧ CC x y) ∧ y 0 0 = τ 0 0) h.n12 ⟨⟨h, hc⟩, rfl⟩ (fun i x y hi hP => by
    obtain ⟨⟨q1, q2⟩, q3⟩ := hP
    have hi12 : i < 12 := by have := h.n12; omega
    refine ⟨⟨q1.comb hi (q1.pound hi q2), ?_⟩, ?_⟩
    · intro p hp
      have hN : wfn y ≤ 12 := by rw [q1.wfnm]; exact h.n12
      have e : ∀ f, f ≠ 2 → ∀ k, f < 9 → fX3_comb_b1 i y 2 (9*k+f) = y 2 (9*k+f) := by
        intro f hf k hf9
        unfold fX3_comb_b1
        split
        · rfl
        · dsimp only
          rw [set2 hi12]
          simp [up2_ap, show ¬ 9*k+f = 9*i+2 by omega]
      have e1 : fX3_comb_b1 i y 0 1 = y 0 1 := by
        unfold fX3_comb_b1
        split
        · rfl
        · dsimp only
          rw [set2 hi12]
          simp [up2_ap]
      rw [combers_congr (y := y) (fun k hk => e 5 (by decide) k (by decide)) (fun k hk => e 6 (by decide) k (by decide)) e1 hN, ← q2 p hp]
      simp [fX1_combWool_b1, up2_ap]
    · refine Eq.trans ?_ q3
      show fX3_comb_b1 i y 0 0 = y 0 0
      unfold fX3_comb_b1
      split
      · rfl
      · dsimp only
        rw [set2 hi12]
        simp [up2_ap]) (fun i x y hi hi2 hP => by
    have e : fX1_combWool_b1 i x = x := comb_idle (idle_combs (hP.1.1.no hi hi2)) hP.1.1.pos.2.1
    show (Rl N B u E (fX1_combWool_b1 i x) y θ ∧ CC (fX1_combWool_b1 i x) y) ∧ _
    rw [e]
    exact hP)
  exact ⟨H.1.1, H.2⟩
end WEEK
