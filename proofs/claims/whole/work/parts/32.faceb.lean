abbrev rmX2_potFact : Room := { frames := 3, cells := 0, slots := 0, locals := 68 }
def fX2_potFact (σ : (Nat → Nat → Int32)) (ρ : (Nat → Nat → Int32)) (p0 : Int32) (p1 : Int32) : Int32 × (Nat → Nat → Int32) × (Nat → Nat → Int32) :=
    if p1 = 0 then
      ((fX1_heatOf ρ p0), σ, ρ)
    else
      if p1 = 1 then
        ((fX1_atPot ρ p0), σ, ρ)
      else
        if p1 = 2 then
          let σ1 : (Nat → Nat → Int32) := (fX1_combersAt ρ p0).2
          ((fX1_combersAt ρ p0).1, σ, σ1)
        else
          let σ2 : (Nat → Nat → Int32) := (fX1_copyFrom σ ρ)
          let σ3 : (Nat → Nat → Int32) := (fX1_lightFires σ2)
          ((fX1_poundsOfPot σ3 p0), σ3, ρ)
set_option maxHeartbeats 400000 in
set_option maxRecDepth 100000 in
theorem c_X2_potFact (l : Launch) (D : va_G) (cI cM : ClassId) (a : Nat → Nat) (σ ρ : (Nat → Nat → Int32)) (p0 : Int32) (p1 : Int32) (hU : ∀ i, i < 12 → ρ (i+5) 9 = 0 ∨ ρ (i+5) 9 = 1) : cMi2 l yX2_potFact wsX2_potFact rmX2_potFact D cI cM a [.ref (a 34), .int p0, .int p1] 1 σ ρ (fX2_potFact σ ρ p0 p1).1 (fX2_potFact σ ρ p0 p1).2.1 (fX2_potFact σ ρ p0 p1).2.2 := by
  intro sz
  refine c_head (cc := cX2_potFact) (maxL := 3) (ret := (some .int)) (plainFor_of_name (by decide)) rfl (Nat.le_of_ble_eq_true rfl) ?_
  intro p e S m below meth c hx hb hr hml hown hts hlocks hnm hsz hA hC ls hl
  have hF : CallFix p m c cX2_potFact 3 S [.ref (a 34), .int p0, .int p1].toArray wsX2_potFact RX2 := ⟨hx, hb, hml, hown, hts⟩
  have h_f10 : (Cond.fieldLink RX2 10 "CombersSociety" "now" "LCombersSociety$Society;").before [.ref (a 34), .int p0, .int p1].toArray S = true := hts _ (by decide +kernel)
  have h_iX2 : ∀ w ∈ u_ws RX2 TX2 2, w ∈ wsX2_potFact := by decide +kernel
  have h_f16 : (Cond.fieldLink RX2 16 "CombersSociety" "trial" "LCombersSociety$Society;").before [.ref (a 34), .int p0, .int p1].toArray S = true := hts _ (by decide +kernel)
  have hl : lv_has ls 3 [(0, .ref (a 34)), (1, .int p0), (2, .int p1)] := hl
  refine lv_iload_n hx hb dX2_potFact_0 rfl (lv_at hl 2 rfl) ?_
  by_cases hs0 : p1 = 0
  · refine lv_tableIn (off := 27) (tgt := 28) hx hb dX2_potFact_1 (by rw [hs0]; decide) (by rw [hs0]; decide) (by rw [hs0]; rfl) (by decide) ?_
    refine lv_aload_n hx hb dX2_potFact_28 rfl (lv_at hl 0 rfl) ?_
    refine cg_w hx hb hts h_iX2 hown hC 0 (by decide) h_f10 dX2_potFact_29 ?_
    refine lv_iload_n hx hb dX2_potFact_32 rfl (lv_at hl 1 rfl) ?_
    refine c_iVp (n := 1) hF (c_X1_heatOf l D cI cM a 0 ρ σ (by decide) p0 ) gX2_potFact_X1_heatOf rfl rfl rfl (by decide +kernel) ⟨Nat.le_of_ble_eq_true rfl, Nat.le_of_ble_eq_true rfl⟩ (hC.sw (by decide)) hA ((hC.sw (by decide)).recvS (by decide)) rfl hl.1 rfl (Nat.le_of_ble_eq_true rfl) dX2_potFact_33 ⟨Nat.zero_le _, Nat.zero_le _⟩ ?_
    clear hC; intro H locs hC
    have hC := hC.sw (by decide)
    have e : fX2_potFact σ ρ p0 p1 = ((fX1_heatOf ρ p0), σ, ρ) := by unfold fX2_potFact; exact ((if_pos hs0).trans rfl)
    exact c_iret2 hx hb hr hlocks hC dX2_potFact_36 ⟨by rw [e], by rw [e], by rw [e]⟩
  · by_cases hs1 : p1 = 1
    · refine lv_tableIn (off := 36) (tgt := 37) hx hb dX2_potFact_1 (by rw [hs1]; decide) (by rw [hs1]; decide) (by rw [hs1]; rfl) (by decide) ?_
      refine lv_aload_n hx hb dX2_potFact_37 rfl (lv_at hl 0 rfl) ?_
      refine cg_w hx hb hts h_iX2 hown hC 0 (by decide) h_f10 dX2_potFact_38 ?_
      refine lv_iload_n hx hb dX2_potFact_41 rfl (lv_at hl 1 rfl) ?_
      refine c_iVp (n := 1) hF (c_X1_atPot l D cI cM a 0 ρ σ (by decide) p0 ) gX2_potFact_X1_atPot rfl rfl rfl (by decide +kernel) ⟨Nat.le_of_ble_eq_true rfl, Nat.le_of_ble_eq_true rfl⟩ (hC.sw (by decide)) hA ((hC.sw (by decide)).recvS (by decide)) rfl hl.1 rfl (Nat.le_of_ble_eq_true rfl) dX2_potFact_42 ⟨Nat.zero_le _, Nat.zero_le _⟩ ?_
      clear hC; intro H locs hC
      have hC := hC.sw (by decide)
      have e : fX2_potFact σ ρ p0 p1 = ((fX1_atPot ρ p0), σ, ρ) := by unfold fX2_potFact; exact ((if_neg hs0).trans ((if_pos hs1).trans rfl))
      exact c_iret2 hx hb hr hlocks hC dX2_potFact_45 ⟨by rw [e], by rw [e], by rw [e]⟩
    · by_cases hs2 : p1 = 2
      · refine lv_tableIn (off := 45) (tgt := 46) hx hb dX2_potFact_1 (by rw [hs2]; decide) (by rw [hs2]; decide) (by rw [hs2]; rfl) (by decide) ?_
        refine lv_aload_n hx hb dX2_potFact_46 rfl (lv_at hl 0 rfl) ?_
        refine cg_w hx hb hts h_iX2 hown hC 0 (by decide) h_f10 dX2_potFact_47 ?_
        refine lv_iload_n hx hb dX2_potFact_50 rfl (lv_at hl 1 rfl) ?_
        refine c_iVi (n := 1) hF (c_X1_combersAt l D cI cM a 0 ρ σ (by decide) p0 ) gX2_potFact_X1_combersAt rfl rfl rfl (by decide +kernel) ⟨Nat.le_of_ble_eq_true rfl, Nat.le_of_ble_eq_true rfl⟩ (hC.sw (by decide)) hA ((hC.sw (by decide)).recvS (by decide)) rfl hl.1 rfl (Nat.le_of_ble_eq_true rfl) dX2_potFact_51 ⟨Nat.zero_le _, Nat.zero_le _⟩ ?_
        clear hC; intro H locs σ1 eσ1 hC
        have hC := hC.sw (by decide)
        have e : fX2_potFact σ ρ p0 p1 = ((fX1_combersAt ρ p0).1, σ, σ1) := by subst eσ1; unfold fX2_potFact; exact ((if_neg hs0).trans ((if_neg hs1).trans ((if_pos hs2).trans rfl)))
        exact c_iret2 hx hb hr hlocks hC dX2_potFact_54 ⟨by rw [e], by rw [e], by rw [e]⟩
      · refine lv_tableOut (tgt := 55) hx hb dX2_potFact_1 (by have q0 := lv_neT (a := 0) hs0 (by decide); have q1 := lv_neT (a := 1) hs1 (by decide); have q2 := lv_neT (a := 2) hs2 (by decide); omega) (by decide) ?_
        refine lv_aload_n hx hb dX2_potFact_55 rfl (lv_at hl 0 rfl) ?_
        refine cg_w hx hb hts h_iX2 hown hC 1 (by decide) h_f16 dX2_potFact_56 ?_
        refine lv_aload_n hx hb dX2_potFact_59 rfl (lv_at hl 0 rfl) ?_
        refine cg_w hx hb hts h_iX2 hown hC 0 (by decide) h_f10 dX2_potFact_60 ?_
        refine c_iVv (n := 1) hF (c_X1_copyFrom l D cI cM a 1 σ ρ (by decide)  hU) gX2_potFact_X1_copyFrom rfl rfl rfl (by decide +kernel) ⟨Nat.le_of_ble_eq_true rfl, Nat.le_of_ble_eq_true rfl⟩ hC hA (hC.recvS (by decide)) rfl hl.1 rfl (Nat.le_of_ble_eq_true rfl) dX2_potFact_63 ⟨Nat.zero_le _, Nat.zero_le _⟩ ?_
        clear hC; intro H locs σ2 eσ2 hC
        refine lv_aload_n hx hb dX2_potFact_66 rfl (lv_at hl 0 rfl) ?_
        refine cg_w hx hb hts h_iX2 hown hC 1 (by decide) h_f16 dX2_potFact_67 ?_
        refine c_iVv (n := 0) hF (c_X1_lightFires l D cI cM a 1 σ2 ρ (by decide)  ) gX2_potFact_X1_lightFires rfl rfl rfl (by decide +kernel) ⟨Nat.le_of_ble_eq_true rfl, Nat.le_of_ble_eq_true rfl⟩ hC hA (hC.recvS (by decide)) rfl hl.1 rfl (Nat.le_of_ble_eq_true rfl) dX2_potFact_70 ⟨Nat.zero_le _, Nat.zero_le _⟩ ?_
        clear hC; intro H locs σ3 eσ3 hC
        refine lv_aload_n hx hb dX2_potFact_73 rfl (lv_at hl 0 rfl) ?_
        refine cg_w hx hb hts h_iX2 hown hC 1 (by decide) h_f16 dX2_potFact_74 ?_
        refine lv_iload_n hx hb dX2_potFact_77 rfl (lv_at hl 1 rfl) ?_
        refine c_iVp (n := 1) hF (c_X1_poundsOfPot l D cI cM a 1 σ3 ρ (by decide) p0 ) gX2_potFact_X1_poundsOfPot rfl rfl rfl (by decide +kernel) ⟨Nat.le_of_ble_eq_true rfl, Nat.le_of_ble_eq_true rfl⟩ hC hA (hC.recvS (by decide)) rfl hl.1 rfl (Nat.le_of_ble_eq_true rfl) dX2_potFact_78 ⟨Nat.zero_le _, Nat.zero_le _⟩ ?_
        clear hC; intro H locs hC
        have e : fX2_potFact σ ρ p0 p1 = ((fX1_poundsOfPot σ3 p0), σ3, ρ) := by subst eσ2 eσ3; unfold fX2_potFact; exact ((if_neg hs0).trans ((if_neg hs1).trans ((if_neg hs2).trans rfl)))
        exact c_iret2 hx hb hr hlocks hC dX2_potFact_81 ⟨by rw [e], by rw [e], by rw [e]⟩
theorem hU_potFact {σ ρ : Nat → Nat → Int32} {p0 p1 : Int32} (hU : ∀ i, i < 12 → ρ (i+5) 9 = 0 ∨ ρ (i+5) 9 = 1) : ∀ i, i < 12 → (fX2_potFact σ ρ p0 p1).2.2 (i+5) 9 = 0 ∨ (fX2_potFact σ ρ p0 p1).2.2 (i+5) 9 = 1 := by
  intro i hi
  have h : ∃ v s r, fX2_potFact σ ρ p0 p1 = (v, s, r) ∧ (r = ρ ∨ r = (fX1_combersAt ρ p0).2) := by
    by_cases h1 : p1 = 0
    · exact ⟨_, _, _, by unfold fX2_potFact; exact if_pos h1, Or.inl rfl⟩
    · by_cases h2 : p1 = 1
      · exact ⟨_, _, _, by unfold fX2_potFact; exact (if_neg h1).trans (if_pos h2), Or.inl rfl⟩
      · by_cases h3 : p1 = 2
        · exact ⟨(fX1_combersAt ρ p0).1, σ, (fX1_combersAt ρ p0).2, by unfold fX2_potFact; exact (if_neg h1).trans ((if_neg h2).trans (if_pos h3)), Or.inr rfl⟩
        · exact ⟨fX1_poundsOfPot (fX1_lightFires (fX1_copyFrom σ ρ)) p0, fX1_lightFires (fX1_copyFrom σ ρ), ρ, by unfold fX2_potFact; exact (if_neg h1).trans ((if_neg h2).trans (if_neg h3)), Or.inl rfl⟩
  obtain ⟨v, s, r, hv, hr⟩ := h
  rw [hv]
  rcases hr with rfl | rfl
  · exact hU i hi
  · show (fX1_combersAt ρ p0).2 (i+5) 9 = 0 ∨ (fX1_combersAt ρ p0).2 (i+5) 9 = 1
    rw [combersAt_row (by omega)]
    exact hU i hi
abbrev rmX2_pot : Room := { frames := 6, cells := 1, slots := 6, locals := 158 }
def fX2_pot (σ : (Nat → Nat → Int32)) (ρ : (Nat → Nat → Int32)) (p0 : Int32) (p1 : Int32) : ((Int32 × (Nat → Nat → Int32) × (Nat → Nat → Int32)) ⊕ String) :=
    if (fX2_isOutside p0 (0 : Int32) (2 : Int32)) = 0 then
      if (fX2_isOutside p1 (0 : Int32) (3 : Int32)) = 0 then
        let σ3 : (Nat → Nat → Int32) := (fX2_potFact σ ρ p0 p1).2.1
        let σ4 : (Nat → Nat → Int32) := (fX2_potFact σ ρ p0 p1).2.2
        .inl ((fX2_potFact σ ρ p0 p1).1, σ3, σ4)
      else
        .inr "java/lang/IndexOutOfBoundsException"
    else
      .inr "java/lang/IndexOutOfBoundsException"
theorem xinI_pot : ∀ w ∈ (vx_atS RX2 57 "java/lang/IndexOutOfBoundsException" xNs).filter goodWord, w ∈ wsX2_pot := by decide +kernel
set_option maxHeartbeats 400000 in
set_option maxRecDepth 100000 in
theorem c_X2_pot (l : Launch) (hl0 : l.stackTraces = false) (D : va_G) (cI cM : ClassId) (a : Nat → Nat) (σ ρ : (Nat → Nat → Int32)) (p0 : Int32) (p1 : Int32) (hU : ∀ i, i < 12 → ρ (i+5) 9 = 0 ∨ ρ (i+5) 9 = 1) : xMi l yX2_pot wsX2_pot rmX2_pot D cI cM a [.ref (a 34), .int p0, .int p1] 1 σ ρ (fX2_pot σ ρ p0 p1) := by
  intro sz
  refine x_head (cc := cX2_pot) (maxL := 3) (ret := (some .int)) (by decide) rfl (Nat.le_of_ble_eq_true rfl) ?_
  intro p e S m below meth c hx hb hr hml hown hts hlocks htab hXN hXZ hA hC ls hl
  have hF : CallFix p m c cX2_pot 3 S [.ref (a 34), .int p0, .int p1].toArray wsX2_pot RX2 := ⟨hx, hb, hml, hown, hts⟩
  have h_k53 : (Cond.classLink RX2 53 "java/lang/IndexOutOfBoundsException").before [.ref (a 34), .int p0, .int p1].toArray S = true := hts _ (by decide +kernel)
  have h_nI : (Cond.initialized "java/lang/IndexOutOfBoundsException").before [.ref (a 34), .int p0, .int p1].toArray S = true := hts _ (by decide +kernel)
  have h_aI : ∀ w ∈ vx_atS RX2 57 "java/lang/IndexOutOfBoundsException" xNs, w.before [.ref (a 34), .int p0, .int p1].toArray S = true := xhatI (fun w hw => hts w (xinI_pot w hw)) hXN
  have hl : lv_has ls 3 [(0, .ref (a 34)), (1, .int p0), (2, .int p1)] := hl
  refine lv_iload_n hx hb dX2_pot_0 rfl (lv_at hl 1 rfl) ?_
  refine lv_iconst (v := 0) hx hb dX2_pot_1 (by decide) ?_
  refine lv_iconst (v := 2) hx hb dX2_pot_2 (by decide) ?_
  refine c_iSi (n := 3) hF (c_X2_isOutside l D cI cM a 1 σ ρ p0 (0 : Int32) (2 : Int32) ) gX2_pot_X2_isOutside rfl rfl rfl (by decide +kernel) ⟨Nat.le_of_ble_eq_true rfl, Nat.le_of_ble_eq_true rfl⟩ hC hA rfl hl.1 rfl (Nat.le_of_ble_eq_true rfl) dX2_pot_3 ⟨Nat.zero_le _, Nat.zero_le _⟩ ?_
  clear hC; intro H locs hC
  refine lv_if_ne (tgt := 18) hx hb dX2_pot_6 (by decide) (fun c1 => ?_) (fun c1 => ?_)
  · obtain ⟨sa, hsa⟩ := hXN.s126
    have e : fX2_pot σ ρ p0 p1 = .inr "java/lang/IndexOutOfBoundsException" := by unfold fX2_pot; exact ((if_neg c1).trans rfl)
    exact vx_throwS (names := xNs) hx hb hl0 hown (by decide) (by decide) h_k53 h_nI hsa h_aI xotI hXZ.1 hXZ.2 hC.2.2.2 (hl.1.trans hml.symm) dX2_pot_18 dX2_pot_21 dX2_pot_22 dX2_pot_24 dX2_pot_27 (fun x hx => (htab x hx).elim) (Nat.le_of_ble_eq_true rfl) (Nat.le_of_ble_eq_true rfl) (Nat.le_of_ble_eq_true rfl) (Nat.le_of_ble_eq_true rfl) hlocks (fun t hal hz ho => x_thrown hC e hal hz ho) hC.2.2.2.2.2 (Nat.le_of_ble_eq_true rfl) (Nat.le_of_ble_eq_true rfl)
  · refine lv_iload_n hx hb dX2_pot_9 rfl (lv_at hl 2 rfl) ?_
    refine lv_iconst (v := 0) hx hb dX2_pot_10 (by decide) ?_
    refine lv_iconst (v := 3) hx hb dX2_pot_11 (by decide) ?_
    refine c_iSi (n := 3) hF (c_X2_isOutside l D cI cM a 1 σ ρ p1 (0 : Int32) (3 : Int32) ) gX2_pot_X2_isOutside rfl rfl rfl (by decide +kernel) ⟨Nat.le_of_ble_eq_true rfl, Nat.le_of_ble_eq_true rfl⟩ hC hA rfl hl.1 rfl (Nat.le_of_ble_eq_true rfl) dX2_pot_12 ⟨Nat.zero_le _, Nat.zero_le _⟩ ?_
    clear hC; intro H locs hC
    refine lv_if_eq (tgt := 28) hx hb dX2_pot_15 (by decide) (fun c2 => ?_) (fun c2 => ?_)
    · refine lv_aload_n hx hb dX2_pot_28 rfl (lv_at hl 0 rfl) ?_
      refine lv_iload_n hx hb dX2_pot_29 rfl (lv_at hl 1 rfl) ?_
      refine lv_iload_n hx hb dX2_pot_30 rfl (lv_at hl 2 rfl) ?_
      refine c_iVi2 (n := 2) hF (c_X2_potFact l D cI cM a σ ρ p0 p1 hU) gX2_pot_X2_potFact rfl rfl rfl (by decide +kernel) ⟨Nat.le_of_ble_eq_true rfl, Nat.le_of_ble_eq_true rfl⟩ hC hA hC.recvW rfl hl.1 rfl (Nat.le_of_ble_eq_true rfl) dX2_pot_31 ⟨Nat.zero_le _, Nat.zero_le _⟩ ?_
      clear hC; intro H locs σ3 σ4 eσ3 eσ4 hC
      have e : fX2_pot σ ρ p0 p1 = .inl ((fX2_potFact σ ρ p0 p1).1, σ3, σ4) := by subst eσ3 eσ4; unfold fX2_pot; exact ((if_pos c1).trans ((if_pos c2).trans rfl))
      exact x_iret hx hb hr hlocks hC dX2_pot_34 e
    · obtain ⟨sa, hsa⟩ := hXN.s126
      have e : fX2_pot σ ρ p0 p1 = .inr "java/lang/IndexOutOfBoundsException" := by unfold fX2_pot; exact ((if_pos c1).trans ((if_neg c2).trans rfl))
      exact vx_throwS (names := xNs) hx hb hl0 hown (by decide) (by decide) h_k53 h_nI hsa h_aI xotI hXZ.1 hXZ.2 hC.2.2.2 (hl.1.trans hml.symm) dX2_pot_18 dX2_pot_21 dX2_pot_22 dX2_pot_24 dX2_pot_27 (fun x hx => (htab x hx).elim) (Nat.le_of_ble_eq_true rfl) (Nat.le_of_ble_eq_true rfl) (Nat.le_of_ble_eq_true rfl) (Nat.le_of_ble_eq_true rfl) hlocks (fun t hal hz ho => x_thrown hC e hal hz ho) hC.2.2.2.2.2 (Nat.le_of_ble_eq_true rfl) (Nat.le_of_ble_eq_true rfl)
abbrev rmX2_foresee : Room := { frames := 6, cells := 1, slots := 6, locals := 158 }
def fX2_foresee (σ : (Nat → Nat → Int32)) (ρ : (Nat → Nat → Int32)) (p0 : Int32) (p1 : Int32) : ((Int32 × (Nat → Nat → Int32) × (Nat → Nat → Int32)) ⊕ String) :=
    if (fX2_isOutside p0 (1 : Int32) (60 : Int32)) = 0 then
      if (fX2_isOutside p1 (2 : Int32) (8 : Int32)) = 0 then
        let σ3 : (Nat → Nat → Int32) := (fX1_copyFrom σ ρ)
        let σ4 : (Nat → Nat → Int32) := (fX1_liveWeeks σ3 (p0).toNatClampNeg)
        .inl ((fX1_tally σ4 p1), σ4, ρ)
      else
        .inr "java/lang/IndexOutOfBoundsException"
    else
      .inr "java/lang/IllegalArgumentException"
theorem xinA_foresee : ∀ w ∈ (vx_atS RX2 27 "java/lang/IllegalArgumentException" xNs).filter goodWord, w ∈ wsX2_foresee := by decide +kernel
theorem xinI_foresee : ∀ w ∈ (vx_atS RX2 57 "java/lang/IndexOutOfBoundsException" xNs).filter goodWord, w ∈ wsX2_foresee := by decide +kernel
set_option maxHeartbeats 400000 in
set_option maxRecDepth 100000 in
theorem c_X2_foresee (l : Launch) (hl0 : l.stackTraces = false) (D : va_G) (cI cM : ClassId) (a : Nat → Nat) (σ ρ : (Nat → Nat → Int32)) (p0 : Int32) (p1 : Int32) (hU : ∀ i, i < 12 → ρ (i+5) 9 = 0 ∨ ρ (i+5) 9 = 1) : xMi l yX2_foresee wsX2_foresee rmX2_foresee D cI cM a [.ref (a 34), .int p0, .int p1] 1 σ ρ (fX2_foresee σ ρ p0 p1) := by
  intro sz
  refine x_head (cc := cX2_foresee) (maxL := 3) (ret := (some .int)) (by decide) rfl (Nat.le_of_ble_eq_true rfl) ?_
  intro p e S m below meth c hx hb hr hml hown hts hlocks htab hXN hXZ hA hC ls hl
  have hF : CallFix p m c cX2_foresee 3 S [.ref (a 34), .int p0, .int p1].toArray wsX2_foresee RX2 := ⟨hx, hb, hml, hown, hts⟩
  have h_f16 : (Cond.fieldLink RX2 16 "CombersSociety" "trial" "LCombersSociety$Society;").before [.ref (a 34), .int p0, .int p1].toArray S = true := hts _ (by decide +kernel)
  have h_iX2 : ∀ w ∈ u_ws RX2 TX2 2, w ∈ wsX2_foresee := by decide +kernel
  have h_f10 : (Cond.fieldLink RX2 10 "CombersSociety" "now" "LCombersSociety$Society;").before [.ref (a 34), .int p0, .int p1].toArray S = true := hts _ (by decide +kernel)
  have h_k53 : (Cond.classLink RX2 53 "java/lang/IndexOutOfBoundsException").before [.ref (a 34), .int p0, .int p1].toArray S = true := hts _ (by decide +kernel)
  have h_nI : (Cond.initialized "java/lang/IndexOutOfBoundsException").before [.ref (a 34), .int p0, .int p1].toArray S = true := hts _ (by decide +kernel)
  have h_aI : ∀ w ∈ vx_atS RX2 57 "java/lang/IndexOutOfBoundsException" xNs, w.before [.ref (a 34), .int p0, .int p1].toArray S = true := xhatI (fun w hw => hts w (xinI_foresee w hw)) hXN
  have h_k23 : (Cond.classLink RX2 23 "java/lang/IllegalArgumentException").before [.ref (a 34), .int p0, .int p1].toArray S = true := hts _ (by decide +kernel)
  have h_nA : (Cond.initialized "java/lang/IllegalArgumentException").before [.ref (a 34), .int p0, .int p1].toArray S = true := hts _ (by decide +kernel)
  have h_aA : ∀ w ∈ vx_atS RX2 27 "java/lang/IllegalArgumentException" xNs, w.before [.ref (a 34), .int p0, .int p1].toArray S = true := xhatA (fun w hw => hts w (xinA_foresee w hw)) hXN
  have hl : lv_has ls 3 [(0, .ref (a 34)), (1, .int p0), (2, .int p1)] := hl
  refine lv_iload_n hx hb dX2_foresee_0 rfl (lv_at hl 1 rfl) ?_
  refine lv_iconst (v := 1) hx hb dX2_foresee_1 (by decide) ?_
  refine lv_bipush (v := 60) hx hb dX2_foresee_2 (by decide) ?_
  refine c_iSi (n := 3) hF (c_X2_isOutside l D cI cM a 1 σ ρ p0 (1 : Int32) (60 : Int32) ) gX2_foresee_X2_isOutside rfl rfl rfl (by decide +kernel) ⟨Nat.le_of_ble_eq_true rfl, Nat.le_of_ble_eq_true rfl⟩ hC hA rfl hl.1 rfl (Nat.le_of_ble_eq_true rfl) dX2_foresee_4 ⟨Nat.zero_le _, Nat.zero_le _⟩ ?_
  clear hC; intro H locs hC
  refine lv_if_eq (tgt := 20) hx hb dX2_foresee_7 (by decide) (fun c1 => ?_) (fun c1 => ?_)
  · refine lv_iload_n hx hb dX2_foresee_20 rfl (lv_at hl 2 rfl) ?_
    refine lv_iconst (v := 2) hx hb dX2_foresee_21 (by decide) ?_
    refine lv_bipush (v := 8) hx hb dX2_foresee_22 (by decide) ?_
    refine c_iSi (n := 3) hF (c_X2_isOutside l D cI cM a 1 σ ρ p1 (2 : Int32) (8 : Int32) ) gX2_foresee_X2_isOutside rfl rfl rfl (by decide +kernel) ⟨Nat.le_of_ble_eq_true rfl, Nat.le_of_ble_eq_true rfl⟩ hC hA rfl hl.1 rfl (Nat.le_of_ble_eq_true rfl) dX2_foresee_24 ⟨Nat.zero_le _, Nat.zero_le _⟩ ?_
    clear hC; intro H locs hC
    refine lv_if_eq (tgt := 40) hx hb dX2_foresee_27 (by decide) (fun c2 => ?_) (fun c2 => ?_)
    · refine lv_aload_n hx hb dX2_foresee_40 rfl (lv_at hl 0 rfl) ?_
      refine cg_w hx hb hts h_iX2 hown hC 1 (by decide) h_f16 dX2_foresee_41 ?_
      refine lv_aload_n hx hb dX2_foresee_44 rfl (lv_at hl 0 rfl) ?_
      refine cg_w hx hb hts h_iX2 hown hC 0 (by decide) h_f10 dX2_foresee_45 ?_
      refine c_iVv (n := 1) hF (c_X1_copyFrom l D cI cM a 1 σ ρ (by decide)  hU) gX2_foresee_X1_copyFrom rfl rfl rfl (by decide +kernel) ⟨Nat.le_of_ble_eq_true rfl, Nat.le_of_ble_eq_true rfl⟩ hC hA (hC.recvS (by decide)) rfl hl.1 rfl (Nat.le_of_ble_eq_true rfl) dX2_foresee_48 ⟨Nat.zero_le _, Nat.zero_le _⟩ ?_
      clear hC; intro H locs σ3 eσ3 hC
      refine lv_aload_n hx hb dX2_foresee_51 rfl (lv_at hl 0 rfl) ?_
      refine cg_w hx hb hts h_iX2 hown hC 1 (by decide) h_f16 dX2_foresee_52 ?_
      refine lv_iload_n hx hb dX2_foresee_55 rfl (lv_at hl 1 rfl) ?_
      have hM := (c_X1_liveWeeks l D cI cM a 1 σ3 ρ (by decide) (p0).toNatClampNeg (Nat.lt_trans (isOut_ix1 (N := 61) c1 (by decide) (by decide)).2 (by decide)) )
      rw [← (isOut_ix1 (N := 61) c1 (by decide) (by decide)).1] at hM
      refine c_iVv (n := 1) hF hM gX2_foresee_X1_liveWeeks rfl rfl rfl (by decide +kernel) ⟨Nat.le_of_ble_eq_true rfl, Nat.le_of_ble_eq_true rfl⟩ hC hA (hC.recvS (by decide)) rfl hl.1 rfl (Nat.le_of_ble_eq_true rfl) dX2_foresee_56 ⟨Nat.zero_le _, Nat.zero_le _⟩ ?_
      clear hC; intro H locs σ4 eσ4 hC
      refine lv_aload_n hx hb dX2_foresee_59 rfl (lv_at hl 0 rfl) ?_
      refine cg_w hx hb hts h_iX2 hown hC 1 (by decide) h_f16 dX2_foresee_60 ?_
      refine lv_iload_n hx hb dX2_foresee_63 rfl (lv_at hl 2 rfl) ?_
      refine c_iVp (n := 1) hF (c_X1_tally l D cI cM a 1 σ4 ρ (by decide) p1 ) gX2_foresee_X1_tally rfl rfl rfl (by decide +kernel) ⟨Nat.le_of_ble_eq_true rfl, Nat.le_of_ble_eq_true rfl⟩ hC hA (hC.recvS (by decide)) rfl hl.1 rfl (Nat.le_of_ble_eq_true rfl) dX2_foresee_64 ⟨Nat.zero_le _, Nat.zero_le _⟩ ?_
      clear hC; intro H locs hC
      have e : fX2_foresee σ ρ p0 p1 = .inl ((fX1_tally σ4 p1), σ4, ρ) := by subst eσ3 eσ4; unfold fX2_foresee; exact ((if_pos c1).trans ((if_pos c2).trans rfl))
      exact x_iret hx hb hr hlocks hC dX2_foresee_67 e
    · obtain ⟨sa, hsa⟩ := hXN.s107
      have e : fX2_foresee σ ρ p0 p1 = .inr "java/lang/IndexOutOfBoundsException" := by unfold fX2_foresee; exact ((if_pos c1).trans ((if_neg c2).trans rfl))
      exact vx_throwS (names := xNs) hx hb hl0 hown (by decide) (by decide) h_k53 h_nI hsa h_aI xotI hXZ.1 hXZ.2 hC.2.2.2 (hl.1.trans hml.symm) dX2_foresee_30 dX2_foresee_33 dX2_foresee_34 dX2_foresee_36 dX2_foresee_39 (fun x hx => (htab x hx).elim) (Nat.le_of_ble_eq_true rfl) (Nat.le_of_ble_eq_true rfl) (Nat.le_of_ble_eq_true rfl) (Nat.le_of_ble_eq_true rfl) hlocks (fun t hal hz ho => x_thrown hC e hal hz ho) hC.2.2.2.2.2 (Nat.le_of_ble_eq_true rfl) (Nat.le_of_ble_eq_true rfl)
  · obtain ⟨sa, hsa⟩ := hXN.s135
    have e : fX2_foresee σ ρ p0 p1 = .inr "java/lang/IllegalArgumentException" := by unfold fX2_foresee; exact ((if_neg c1).trans rfl)
    exact vx_throwS (names := xNs) hx hb hl0 hown (by decide) (by decide) h_k23 h_nA hsa h_aA xotA hXZ.1 hXZ.2 hC.2.2.2 (hl.1.trans hml.symm) dX2_foresee_10 dX2_foresee_13 dX2_foresee_14 dX2_foresee_16 dX2_foresee_19 (fun x hx => (htab x hx).elim) (Nat.le_of_ble_eq_true rfl) (Nat.le_of_ble_eq_true rfl) (Nat.le_of_ble_eq_true rfl) (Nat.le_of_ble_eq_true rfl) hlocks (fun t hal hz ho => x_thrown hC e hal hz ho) hC.2.2.2.2.2 (Nat.le_of_ble_eq_true rfl) (Nat.le_of_ble_eq_true rfl)
abbrev rmX2_earns : Room := { frames := 6, cells := 1, slots := 6, locals := 158 }
def fX2_earns (σ : (Nat → Nat → Int32)) (ρ : (Nat → Nat → Int32)) (p0 : Int32) : ((Int32 × (Nat → Nat → Int32) × (Nat → Nat → Int32)) ⊕ String) :=
    if (fX1_hasMember ρ p0) = 0 then
      .inr "java/lang/IndexOutOfBoundsException"
    else
      let σ2 : (Nat → Nat → Int32) := (fX1_copyFrom σ ρ)
      let σ3 : (Nat → Nat → Int32) := (fX1_lightFires σ2)
      let σ4 : (Nat → Nat → Int32) := (fX1_combWool σ3)
      .inl (((σ4 ((p0).toNatClampNeg+5) 2) - (ρ ((p0).toNatClampNeg+5) 2)), σ4, ρ)
theorem xinI_earns : ∀ w ∈ (vx_atS RX2 57 "java/lang/IndexOutOfBoundsException" xNs).filter goodWord, w ∈ wsX2_earns := by decide +kernel
set_option maxHeartbeats 400000 in
set_option maxRecDepth 100000 in
theorem c_X2_earns (l : Launch) (hl0 : l.stackTraces = false) (D : va_G) (cI cM : ClassId) (a : Nat → Nat) (σ ρ : (Nat → Nat → Int32)) (p0 : Int32) (hU : ∀ i, i < 12 → ρ (i+5) 9 = 0 ∨ ρ (i+5) 9 = 1) : xMi l yX2_earns wsX2_earns rmX2_earns D cI cM a [.ref (a 34), .int p0] 1 σ ρ (fX2_earns σ ρ p0) := by
  intro sz
  refine x_head (cc := cX2_earns) (maxL := 2) (ret := (some .int)) (by decide) rfl (Nat.le_of_ble_eq_true rfl) ?_
  intro p e S m below meth c hx hb hr hml hown hts hlocks htab hXN hXZ hA hC ls hl
  have hF : CallFix p m c cX2_earns 2 S [.ref (a 34), .int p0].toArray wsX2_earns RX2 := ⟨hx, hb, hml, hown, hts⟩
  have h_f10 : (Cond.fieldLink RX2 10 "CombersSociety" "now" "LCombersSociety$Society;").before [.ref (a 34), .int p0].toArray S = true := hts _ (by decide +kernel)
  have h_iX2 : ∀ w ∈ u_ws RX2 TX2 2, w ∈ wsX2_earns := by decide +kernel
  have h_f16 : (Cond.fieldLink RX2 16 "CombersSociety" "trial" "LCombersSociety$Society;").before [.ref (a 34), .int p0].toArray S = true := hts _ (by decide +kernel)
  have h_f39 : (Cond.fieldLink RX2 39 "CombersSociety$Society" "members" "[LCombersSociety$Member;").before [.ref (a 34), .int p0].toArray S = true := hts _ (by decide +kernel)
  have h_iX1 : ∀ w ∈ u_ws RX1 TX1 14, w ∈ wsX2_earns := by decide +kernel
  have h_f74 : (Cond.fieldLink RX2 74 "CombersSociety$Member" "coins" "I").before [.ref (a 34), .int p0].toArray S = true := hts _ (by decide +kernel)
  have h_iX0 : ∀ w ∈ u_ws RX0 TX0 10, w ∈ wsX2_earns := by decide +kernel
  have h_k53 : (Cond.classLink RX2 53 "java/lang/IndexOutOfBoundsException").before [.ref (a 34), .int p0].toArray S = true := hts _ (by decide +kernel)
  have h_nI : (Cond.initialized "java/lang/IndexOutOfBoundsException").before [.ref (a 34), .int p0].toArray S = true := hts _ (by decide +kernel)
  have h_aI : ∀ w ∈ vx_atS RX2 57 "java/lang/IndexOutOfBoundsException" xNs, w.before [.ref (a 34), .int p0].toArray S = true := xhatI (fun w hw => hts w (xinI_earns w hw)) hXN
  have hl : lv_has ls 2 [(0, .ref (a 34)), (1, .int p0)] := hl
  refine lv_aload_n hx hb dX2_earns_0 rfl (lv_at hl 0 rfl) ?_
  refine cg_w hx hb hts h_iX2 hown hC 0 (by decide) h_f10 dX2_earns_1 ?_
  refine lv_iload_n hx hb dX2_earns_4 rfl (lv_at hl 1 rfl) ?_
  refine c_iVp (n := 1) hF (c_X1_hasMember l D cI cM a 0 ρ σ (by decide) p0 ) gX2_earns_X1_hasMember rfl rfl rfl (by decide +kernel) ⟨Nat.le_of_ble_eq_true rfl, Nat.le_of_ble_eq_true rfl⟩ (hC.sw (by decide)) hA ((hC.sw (by decide)).recvS (by decide)) rfl hl.1 rfl (Nat.le_of_ble_eq_true rfl) dX2_earns_5 ⟨Nat.zero_le _, Nat.zero_le _⟩ ?_
  clear hC; intro H locs hC
  have hC := hC.sw (by decide)
  refine lv_if_ne (tgt := 21) hx hb dX2_earns_8 (by decide) (fun c1 => ?_) (fun c1 => ?_)
  · refine lv_aload_n hx hb dX2_earns_21 rfl (lv_at hl 0 rfl) ?_
    refine cg_w hx hb hts h_iX2 hown hC 1 (by decide) h_f16 dX2_earns_22 ?_
    refine lv_aload_n hx hb dX2_earns_25 rfl (lv_at hl 0 rfl) ?_
    refine cg_w hx hb hts h_iX2 hown hC 0 (by decide) h_f10 dX2_earns_26 ?_
    refine c_iVv (n := 1) hF (c_X1_copyFrom l D cI cM a 1 σ ρ (by decide)  hU) gX2_earns_X1_copyFrom rfl rfl rfl (by decide +kernel) ⟨Nat.le_of_ble_eq_true rfl, Nat.le_of_ble_eq_true rfl⟩ hC hA (hC.recvS (by decide)) rfl hl.1 rfl (Nat.le_of_ble_eq_true rfl) dX2_earns_29 ⟨Nat.zero_le _, Nat.zero_le _⟩ ?_
    clear hC; intro H locs σ2 eσ2 hC
    refine lv_aload_n hx hb dX2_earns_32 rfl (lv_at hl 0 rfl) ?_
    refine cg_w hx hb hts h_iX2 hown hC 1 (by decide) h_f16 dX2_earns_33 ?_
    refine c_iVv (n := 0) hF (c_X1_lightFires l D cI cM a 1 σ2 ρ (by decide)  ) gX2_earns_X1_lightFires rfl rfl rfl (by decide +kernel) ⟨Nat.le_of_ble_eq_true rfl, Nat.le_of_ble_eq_true rfl⟩ hC hA (hC.recvS (by decide)) rfl hl.1 rfl (Nat.le_of_ble_eq_true rfl) dX2_earns_36 ⟨Nat.zero_le _, Nat.zero_le _⟩ ?_
    clear hC; intro H locs σ3 eσ3 hC
    refine lv_aload_n hx hb dX2_earns_39 rfl (lv_at hl 0 rfl) ?_
    refine cg_w hx hb hts h_iX2 hown hC 1 (by decide) h_f16 dX2_earns_40 ?_
    refine c_iVv (n := 0) hF (c_X1_combWool l D cI cM a 1 σ3 ρ (by decide)  ) gX2_earns_X1_combWool rfl rfl rfl (by decide +kernel) ⟨Nat.le_of_ble_eq_true rfl, Nat.le_of_ble_eq_true rfl⟩ hC hA (hC.recvS (by decide)) rfl hl.1 rfl (Nat.le_of_ble_eq_true rfl) dX2_earns_43 ⟨Nat.zero_le _, Nat.zero_le _⟩ ?_
    clear hC; intro H locs σ4 eσ4 hC
    refine lv_aload_n hx hb dX2_earns_46 rfl (lv_at hl 0 rfl) ?_
    refine cg_w hx hb hts h_iX2 hown hC 1 (by decide) h_f16 dX2_earns_47 ?_
    refine cg_r hx hb hts h_iX1 hown hC (by decide) 3 (by decide) h_f39 dX2_earns_50 ?_
    refine lv_iload_n hx hb dX2_earns_53 rfl (lv_at hl 1 rfl) ?_
    refine c_mld hx hb hC (by decide) (j := (p0).toNatClampNeg) (hasMember_ix c1).1 (hasMember_ix c1).2 dX2_earns_54 ?_
    refine cg_m hx hb hts h_iX0 hown hC (by decide) (hasMember_ix c1).2 2 (by decide) h_f74 dX2_earns_55 ?_
    refine lv_aload_n hx hb dX2_earns_58 rfl (lv_at hl 0 rfl) ?_
    refine cg_w hx hb hts h_iX2 hown hC 0 (by decide) h_f10 dX2_earns_59 ?_
    refine cg_r hx hb hts h_iX1 hown (hC.sw (by decide)) (by decide) 3 (by decide) h_f39 dX2_earns_62 ?_
    refine lv_iload_n hx hb dX2_earns_65 rfl (lv_at hl 1 rfl) ?_
    refine c_mld hx hb (hC.sw (by decide)) (by decide) (j := (p0).toNatClampNeg) (hasMember_ix c1).1 (hasMember_ix c1).2 dX2_earns_66 ?_
    refine cg_m hx hb hts h_iX0 hown (hC.sw (by decide)) (by decide) (hasMember_ix c1).2 2 (by decide) h_f74 dX2_earns_67 ?_
    refine lv_isub hx hb dX2_earns_70 ?_
    have e : fX2_earns σ ρ p0 = .inl (((σ4 ((p0).toNatClampNeg+5) 2) - (ρ ((p0).toNatClampNeg+5) 2)), σ4, ρ) := by subst eσ2 eσ3 eσ4; unfold fX2_earns; exact ((if_neg c1).trans rfl)
    exact x_iret hx hb hr hlocks hC dX2_earns_71 e
  · obtain ⟨sa, hsa⟩ := hXN.s70
    have e : fX2_earns σ ρ p0 = .inr "java/lang/IndexOutOfBoundsException" := by unfold fX2_earns; exact ((if_pos c1).trans rfl)
    exact vx_throwS (names := xNs) hx hb hl0 hown (by decide) (by decide) h_k53 h_nI hsa h_aI xotI hXZ.1 hXZ.2 hC.2.2.2 (hl.1.trans hml.symm) dX2_earns_11 dX2_earns_14 dX2_earns_15 dX2_earns_17 dX2_earns_20 (fun x hx => (htab x hx).elim) (Nat.le_of_ble_eq_true rfl) (Nat.le_of_ble_eq_true rfl) (Nat.le_of_ble_eq_true rfl) (Nat.le_of_ble_eq_true rfl) hlocks (fun t hal hz ho => x_thrown hC e hal hz ho) hC.2.2.2.2.2 (Nat.le_of_ble_eq_true rfl) (Nat.le_of_ble_eq_true rfl)
abbrev rmX2_dies : Room := { frames := 6, cells := 1, slots := 6, locals := 158 }
def fX2_dies_b1 (ρ : (Nat → Nat → Int32)) (p0 : Int32) (i1x : Nat) (σL1 : (Nat → Nat → Int32)) : ((Int32 × (Nat → Nat → Int32) × (Nat → Nat → Int32)) ⊕ String) ⊕ (Nat → Nat → Int32) :=
    if (σL1 ((p0).toNatClampNeg+5) 6) = (2 : Int32) then
      .inl (.inl ((nI i1x), σL1, ρ))
    else
      let σ5 : (Nat → Nat → Int32) := (fX1_liveWeek σL1)
      .inr σ5
def fX2_dies_k1 (ρ : (Nat → Nat → Int32)) (p0 : Int32) (σL1 : (Nat → Nat → Int32)) : ((Int32 × (Nat → Nat → Int32) × (Nat → Nat → Int32)) ⊕ String) :=
    if (σL1 ((p0).toNatClampNeg+5) 6) = (2 : Int32) then
      .inl ((100 : Int32), σL1, ρ)
    else
      .inl ((-1 : Int32), σL1, ρ)
def fX2_dies_k1x (ρ : (Nat → Nat → Int32)) (p0 : Int32) (x : ((Int32 × (Nat → Nat → Int32) × (Nat → Nat → Int32)) ⊕ String) ⊕ (Nat → Nat → Int32)) : ((Int32 × (Nat → Nat → Int32) × (Nat → Nat → Int32)) ⊕ String) := match x with
    | .inl r => r
    | .inr y => fX2_dies_k1 ρ p0 y
def fX2_dies (σ : (Nat → Nat → Int32)) (ρ : (Nat → Nat → Int32)) (p0 : Int32) : ((Int32 × (Nat → Nat → Int32) × (Nat → Nat → Int32)) ⊕ String) :=
    if (fX1_hasMember ρ p0) = 0 then
      .inr "java/lang/IndexOutOfBoundsException"
    else
      let σ2 : (Nat → Nat → Int32) := (fX1_copyFrom σ ρ)
      fX2_dies_k1x ρ p0 (itE (fun i x => fX2_dies_b1 ρ p0 i x) 0 100 σ2)
theorem xinI_dies : ∀ w ∈ (vx_atS RX2 57 "java/lang/IndexOutOfBoundsException" xNs).filter goodWord, w ∈ wsX2_dies := by decide +kernel
set_option maxHeartbeats 400000 in
set_option maxRecDepth 100000 in
theorem c_X2_dies (l : Launch) (hl0 : l.stackTraces = false) (D : va_G) (cI cM : ClassId) (a : Nat → Nat) (σ ρ : (Nat → Nat → Int32)) (p0 : Int32) (hU : ∀ i, i < 12 → ρ (i+5) 9 = 0 ∨ ρ (i+5) 9 = 1) : xMi l yX2_dies wsX2_dies rmX2_dies D cI cM a [.ref (a 34), .int p0] 1 σ ρ (fX2_dies σ ρ p0) := by
  intro sz
  refine x_head (cc := cX2_dies) (maxL := 4) (ret := (some .int)) (by decide) rfl (Nat.le_of_ble_eq_true rfl) ?_
  intro p e S m below meth c hx hb hr hml hown hts hlocks htab hXN hXZ hA hC ls hl
  have hF : CallFix p m c cX2_dies 4 S [.ref (a 34), .int p0].toArray wsX2_dies RX2 := ⟨hx, hb, hml, hown, hts⟩
  have h_f10 : (Cond.fieldLink RX2 10 "CombersSociety" "now" "LCombersSociety$Society;").before [.ref (a 34), .int p0].toArray S = true := hts _ (by decide +kernel)
  have h_iX2 : ∀ w ∈ u_ws RX2 TX2 2, w ∈ wsX2_dies := by decide +kernel
  have h_f16 : (Cond.fieldLink RX2 16 "CombersSociety" "trial" "LCombersSociety$Society;").before [.ref (a 34), .int p0].toArray S = true := hts _ (by decide +kernel)
  have h_f39 : (Cond.fieldLink RX2 39 "CombersSociety$Society" "members" "[LCombersSociety$Member;").before [.ref (a 34), .int p0].toArray S = true := hts _ (by decide +kernel)
  have h_iX1 : ∀ w ∈ u_ws RX1 TX1 14, w ∈ wsX2_dies := by decide +kernel
  have h_f58 : (Cond.fieldLink RX2 58 "CombersSociety$Member" "health" "I").before [.ref (a 34), .int p0].toArray S = true := hts _ (by decide +kernel)
  have h_iX0 : ∀ w ∈ u_ws RX0 TX0 10, w ∈ wsX2_dies := by decide +kernel
  have h_k53 : (Cond.classLink RX2 53 "java/lang/IndexOutOfBoundsException").before [.ref (a 34), .int p0].toArray S = true := hts _ (by decide +kernel)
  have h_nI : (Cond.initialized "java/lang/IndexOutOfBoundsException").before [.ref (a 34), .int p0].toArray S = true := hts _ (by decide +kernel)
  have h_aI : ∀ w ∈ vx_atS RX2 57 "java/lang/IndexOutOfBoundsException" xNs, w.before [.ref (a 34), .int p0].toArray S = true := xhatI (fun w hw => hts w (xinI_dies w hw)) hXN
  have hl : lv_has ls 4 [(0, .ref (a 34)), (1, .int p0)] := hl
  refine lv_aload_n hx hb dX2_dies_0 rfl (lv_at hl 0 rfl) ?_
  refine cg_w hx hb hts h_iX2 hown hC 0 (by decide) h_f10 dX2_dies_1 ?_
  refine lv_iload_n hx hb dX2_dies_4 rfl (lv_at hl 1 rfl) ?_
  refine c_iVp (n := 1) hF (c_X1_hasMember l D cI cM a 0 ρ σ (by decide) p0 ) gX2_dies_X1_hasMember rfl rfl rfl (by decide +kernel) ⟨Nat.le_of_ble_eq_true rfl, Nat.le_of_ble_eq_true rfl⟩ (hC.sw (by decide)) hA ((hC.sw (by decide)).recvS (by decide)) rfl hl.1 rfl (Nat.le_of_ble_eq_true rfl) dX2_dies_5 ⟨Nat.zero_le _, Nat.zero_le _⟩ ?_
  clear hC; intro H locs hC
  have hC := hC.sw (by decide)
  refine lv_if_ne (tgt := 21) hx hb dX2_dies_8 (by decide) (fun c1 => ?_) (fun c1 => ?_)
  · refine lv_aload_n hx hb dX2_dies_21 rfl (lv_at hl 0 rfl) ?_
    refine cg_w hx hb hts h_iX2 hown hC 1 (by decide) h_f16 dX2_dies_22 ?_
    refine lv_aload_n hx hb dX2_dies_25 rfl (lv_at hl 0 rfl) ?_
    refine cg_w hx hb hts h_iX2 hown hC 0 (by decide) h_f10 dX2_dies_26 ?_
    refine c_iVv (n := 1) hF (c_X1_copyFrom l D cI cM a 1 σ ρ (by decide)  hU) gX2_dies_X1_copyFrom rfl rfl rfl (by decide +kernel) ⟨Nat.le_of_ble_eq_true rfl, Nat.le_of_ble_eq_true rfl⟩ hC hA (hC.recvS (by decide)) rfl hl.1 rfl (Nat.le_of_ble_eq_true rfl) dX2_dies_29 ⟨Nat.zero_le _, Nat.zero_le _⟩ ?_
    clear hC; intro H locs σ2 eσ2 hC
    refine lv_aload_n hx hb dX2_dies_32 rfl (lv_at hl 0 rfl) ?_
    refine cg_w hx hb hts h_iX2 hown hC 1 (by decide) h_f16 dX2_dies_33 ?_
    refine cg_r hx hb hts h_iX1 hown hC (by decide) 3 (by decide) h_f39 dX2_dies_36 ?_
    refine lv_iload_n hx hb dX2_dies_39 rfl (lv_at hl 1 rfl) ?_
    refine c_mld hx hb hC (by decide) (j := (p0).toNatClampNeg) (hasMember_ix c1).1 (hasMember_ix c1).2 dX2_dies_40 ?_
    refine lv_astore_n (lv' := [(2, .ref (a (17*1+((p0).toNatClampNeg+5)))), (0, .ref (a 34)), (1, .int p0)]) hx hb dX2_dies_41 rfl hl (by decide) rfl ?_
    clear hl; intro ls hl
    refine lv_iconst (v := 0) hx hb dX2_dies_42 (by decide) ?_
    refine lv_istore_n (lv' := [(3, .int (0 : Int32)), (2, .ref (a (17*1+((p0).toNatClampNeg+5)))), (0, .ref (a 34)), (1, .int p0)]) hx hb dX2_dies_43 rfl hl (by decide) rfl ?_
    clear hl; intro ls hl
    have loop1 : ∀ (n1x i1x : Nat) (σL1 : (Nat → Nat → Int32)), i1x + n1x = 100 → itE (fun i x => fX2_dies_b1 ρ p0 i x) i1x n1x σL1 = itE (fun i x => fX2_dies_b1 ρ p0 i x) 0 100 σ2 → ∀ (H : Heap) (locs : List Loc), cB D cI cM a S (cA a sz) S.heap H locs 1 σL1 ρ → ∀ ls : Array Slot, lv_has ls 4 [(3, .int (nI i1x)), (2, .ref (a (17*1+((p0).toNatClampNeg+5)))), (0, .ref (a 34)), (1, .int p0)] → W p l e (headSpec wsX2_dies rmX2_dies).room S m [.ref (a 34), .int p0].toArray below meth c H locs 0 0 (vx_MQ below (va_Qi (fun r' u => fX2_dies σ ρ p0 = .inl (r', u)) (fun u t => cPost D cI cM a 1 u.1 u.2 () t) (cA a sz)) (vx_X (fun _ : Unit => True) (fun E _ t => fX2_dies σ ρ p0 = .inr E ∧ cPost D cI cM a 1 σ ρ () t) (cA a sz)) [.ref (a 34), .int p0].toArray S 1 6 (cA a sz)) (F0 m 44 ls []) := by
      clear hC hl
      intro n1x
      induction n1x with
      | zero =>
        intro i1x σL1 hin1 hX1 H locs hC ls hl
        obtain rfl : 100 = i1x := by omega
        have q1 : fX2_dies σ ρ p0 = fX2_dies_k1 ρ p0 σL1 := by subst eσ2; unfold fX2_dies; exact ((if_neg c1).trans ((congrArg (fX2_dies_k1x _ _) hX1.symm).trans rfl))
        refine lv_iload_n hx hb dX2_dies_44 rfl (lv_at hl 0 rfl) ?_
        refine lv_bipush (v := 100) hx hb dX2_dies_45 (by decide) ?_
        refine lv_icmp_ge (tgt := 73) hx hb dX2_dies_47 (by decide) (fun c6 => ?_) (fun c6 => absurd (by decide) c6)
        refine lv_aload_n hx hb dX2_dies_73 rfl (lv_at hl 1 rfl) ?_
        refine cg_m hx hb hts h_iX0 hown hC (by decide) (hasMember_ix c1).2 6 (by decide) h_f58 dX2_dies_74 ?_
        refine lv_iconst (v := 2) hx hb dX2_dies_77 (by decide) ?_
        refine lv_icmp_ne (tgt := 86) hx hb dX2_dies_78 (by decide) (fun c7 => ?_) (fun c7 => ?_)
        · refine lv_iconst (v := -1) hx hb dX2_dies_86 (by decide) ?_
          have e0 : fX2_dies_k1 ρ p0 σL1 = .inl ((-1 : Int32), σL1, ρ) := by subst eσ2; unfold fX2_dies_k1; exact ((if_neg c7).trans rfl)
          have e : fX2_dies σ ρ p0 = .inl ((-1 : Int32), σL1, ρ) := (q1.trans e0)
          exact x_iret hx hb hr hlocks hC dX2_dies_87 e
        · refine lv_bipush (v := 100) hx hb dX2_dies_81 (by decide) ?_
          refine lv_goto (tgt := 87) hx hb dX2_dies_83 (by decide) ?_
          have e0 : fX2_dies_k1 ρ p0 σL1 = .inl ((100 : Int32), σL1, ρ) := by subst eσ2; unfold fX2_dies_k1; exact ((if_pos c7).trans rfl)
          have e : fX2_dies σ ρ p0 = .inl ((100 : Int32), σL1, ρ) := (q1.trans e0)
          exact x_iret hx hb hr hlocks hC dX2_dies_87 e
      | succ n1x ih1 =>
        intro i1x σL1 hin1 hX1 H locs hC ls hl
        refine lv_iload_n hx hb dX2_dies_44 rfl (lv_at hl 0 rfl) ?_
        refine lv_bipush (v := 100) hx hb dX2_dies_45 (by decide) ?_
        refine lv_icmp_ge (tgt := 73) hx hb dX2_dies_47 (by decide) (fun c3 => absurd c3 (show ¬ (100 : Int32) ≤ nI i1x from (nI_ge (a := i1x) (b := 100) (by omega) (by decide) : ¬ nI 100 ≤ nI i1x))) (fun c3 => ?_)
        refine lv_aload_n hx hb dX2_dies_50 rfl (lv_at hl 1 rfl) ?_
        refine cg_m hx hb hts h_iX0 hown hC (by decide) (hasMember_ix c1).2 6 (by decide) h_f58 dX2_dies_51 ?_
        refine lv_iconst (v := 2) hx hb dX2_dies_54 (by decide) ?_
        refine lv_icmp_ne (tgt := 60) hx hb dX2_dies_55 (by decide) (fun c4 => ?_) (fun c4 => ?_)
        · refine lv_aload_n hx hb dX2_dies_60 rfl (lv_at hl 2 rfl) ?_
          refine cg_w hx hb hts h_iX2 hown hC 1 (by decide) h_f16 dX2_dies_61 ?_
          refine c_iVv (n := 0) hF (c_X1_liveWeek l D cI cM a 1 σL1 ρ (by decide)  ) gX2_dies_X1_liveWeek rfl rfl rfl (by decide +kernel) ⟨Nat.le_of_ble_eq_true rfl, Nat.le_of_ble_eq_true rfl⟩ hC hA (hC.recvS (by decide)) rfl hl.1 rfl (Nat.le_of_ble_eq_true rfl) dX2_dies_64 ⟨Nat.zero_le _, Nat.zero_le _⟩ ?_
          clear hC; intro H locs σ5 eσ5 hC
          refine lv_iinc (v := (nI (i1x + 1))) (lv' := [(3, .int (nI (i1x + 1))), (2, .ref (a (17*1+((p0).toNatClampNeg+5)))), (0, .ref (a 34)), (1, .int p0)]) hx hb dX2_dies_67 hl (k := 0) rfl (nI_1 i1x) (by decide) rfl ?_
          clear hl; intro ls hl
          refine lv_goto (tgt := 44) hx hb dX2_dies_70 (by decide) ?_
          have e : fX2_dies_b1 ρ p0 i1x σL1 = .inr σ5 := by subst eσ5; unfold fX2_dies_b1; exact ((if_neg c4).trans rfl)
          exact ih1 (i1x + 1) σ5 (by omega) ((itE_inr e).symm.trans hX1) _ _ hC ls (lv_sub hl [0, 1, 2, 3] rfl)
        · refine lv_iload_n hx hb dX2_dies_58 rfl (lv_at hl 0 rfl) ?_
          have e : fX2_dies_b1 ρ p0 i1x σL1 = .inl (.inl ((nI i1x), σL1, ρ)) := by unfold fX2_dies_b1; exact ((if_pos c4).trans rfl)
          have qq : fX2_dies σ ρ p0 = fX2_dies_k1x ρ p0 (itE (fun i x => fX2_dies_b1 ρ p0 i x) 0 100 σ2) := by subst eσ2; unfold fX2_dies; exact ((if_neg c1).trans rfl)
          have e : fX2_dies σ ρ p0 = .inl ((nI i1x), σL1, ρ) := (qq.trans ((congrArg (fX2_dies_k1x _ _) (hX1.symm.trans (itE_inl e))).trans rfl))
          exact x_iret hx hb hr hlocks hC dX2_dies_59 e
    exact loop1 100 0 σ2 (by omega) rfl _ _ hC ls (lv_sub hl [0, 1, 2, 3] rfl)
  · obtain ⟨sa, hsa⟩ := hXN.s70
    have e : fX2_dies σ ρ p0 = .inr "java/lang/IndexOutOfBoundsException" := by unfold fX2_dies; exact ((if_pos c1).trans rfl)
    exact vx_throwS (names := xNs) hx hb hl0 hown (by decide) (by decide) h_k53 h_nI hsa h_aI xotI hXZ.1 hXZ.2 hC.2.2.2 (hl.1.trans hml.symm) dX2_dies_11 dX2_dies_14 dX2_dies_15 dX2_dies_17 dX2_dies_20 (fun x hx => (htab x hx).elim) (Nat.le_of_ble_eq_true rfl) (Nat.le_of_ble_eq_true rfl) (Nat.le_of_ble_eq_true rfl) (Nat.le_of_ble_eq_true rfl) hlocks (fun t hal hz ho => x_thrown hC e hal hz ho) hC.2.2.2.2.2 (Nat.le_of_ble_eq_true rfl) (Nat.le_of_ble_eq_true rfl)
abbrev rmX2_advise : Room := { frames := 6, cells := 1, slots := 6, locals := 158 }
def fX2_advise_b1 (ρ : (Nat → Nat → Int32)) (p0 : Int32) (i1x : Nat) (v1_4 : Int32) (v1_3 : Int32) (σL1 : (Nat → Nat → Int32)) : Int32 × Int32 × (Nat → Nat → Int32) :=
    if (fX1_hasRoom ρ (nI i1x) ((p0).toNatClampNeg)) = 0 then
      (v1_4, v1_3, σL1)
    else
      let σ5 : (Nat → Nat → Int32) := (fX1_copyFrom σL1 ρ)
      let σ6 : (Nat → Nat → Int32) := up2 σ5 ((p0).toNatClampNeg+5) 5 (nI i1x)
      let σ7 : (Nat → Nat → Int32) := (fX1_liveWeeks σ6 6)
      if (σ7 0 5) ≤ v1_4 then
        (v1_4, v1_3, σ7)
      else
        ((σ7 0 5), (nI i1x), σ7)
def fX2_advise_k1 (ρ : (Nat → Nat → Int32)) (v1_4 : Int32) (v1_3 : Int32) (σL1 : (Nat → Nat → Int32)) : ((Int32 × (Nat → Nat → Int32) × (Nat → Nat → Int32)) ⊕ String) :=
    .inl (v1_3, σL1, ρ)
def fX2_advise_k1x (ρ : (Nat → Nat → Int32)) (x : Int32 × Int32 × (Nat → Nat → Int32)) : ((Int32 × (Nat → Nat → Int32) × (Nat → Nat → Int32)) ⊕ String) := fX2_advise_k1 ρ x.1 x.2.1 x.2.2
def fX2_advise (σ : (Nat → Nat → Int32)) (ρ : (Nat → Nat → Int32)) (p0 : Int32) : ((Int32 × (Nat → Nat → Int32) × (Nat → Nat → Int32)) ⊕ String) :=
    if (fX1_hasMember ρ p0) = 0 then
      .inr "java/lang/IndexOutOfBoundsException"
    else
      if (ρ ((p0).toNatClampNeg+5) 6) = (2 : Int32) then
        .inr "java/lang/IllegalStateException"
      else
        fX2_advise_k1x ρ (itR (fun i x => fX2_advise_b1 ρ p0 i x.1 x.2.1 x.2.2) 0 3 ((-1 : Int32), (-1 : Int32), σ))
theorem xinI_advise : ∀ w ∈ (vx_atS RX2 57 "java/lang/IndexOutOfBoundsException" xNs).filter goodWord, w ∈ wsX2_advise := by decide +kernel
theorem xinS_advise : ∀ w ∈ (vx_atS RX2 38 "java/lang/IllegalStateException" xNs).filter goodWord, w ∈ wsX2_advise := by decide +kernel
set_option maxHeartbeats 400000 in
set_option maxRecDepth 100000 in
theorem c_X2_advise (l : Launch) (hl0 : l.stackTraces = false) (D : va_G) (cI cM : ClassId) (a : Nat → Nat) (σ ρ : (Nat → Nat → Int32)) (p0 : Int32) (hU : ∀ i, i < 12 → ρ (i+5) 9 = 0 ∨ ρ (i+5) 9 = 1) : xMi l yX2_advise wsX2_advise rmX2_advise D cI cM a [.ref (a 34), .int p0] 1 σ ρ (fX2_advise σ ρ p0) := by
  intro sz
  refine x_head (cc := cX2_advise) (maxL := 6) (ret := (some .int)) (by decide) rfl (Nat.le_of_ble_eq_true rfl) ?_
  intro p e S m below meth c hx hb hr hml hown hts hlocks htab hXN hXZ hA hC ls hl
  have hF : CallFix p m c cX2_advise 6 S [.ref (a 34), .int p0].toArray wsX2_advise RX2 := ⟨hx, hb, hml, hown, hts⟩
  have h_f10 : (Cond.fieldLink RX2 10 "CombersSociety" "now" "LCombersSociety$Society;").before [.ref (a 34), .int p0].toArray S = true := hts _ (by decide +kernel)
  have h_iX2 : ∀ w ∈ u_ws RX2 TX2 2, w ∈ wsX2_advise := by decide +kernel
  have h_f39 : (Cond.fieldLink RX2 39 "CombersSociety$Society" "members" "[LCombersSociety$Member;").before [.ref (a 34), .int p0].toArray S = true := hts _ (by decide +kernel)
  have h_iX1 : ∀ w ∈ u_ws RX1 TX1 14, w ∈ wsX2_advise := by decide +kernel
  have h_f58 : (Cond.fieldLink RX2 58 "CombersSociety$Member" "health" "I").before [.ref (a 34), .int p0].toArray S = true := hts _ (by decide +kernel)
  have h_iX0 : ∀ w ∈ u_ws RX0 TX0 10, w ∈ wsX2_advise := by decide +kernel
  have h_f16 : (Cond.fieldLink RX2 16 "CombersSociety" "trial" "LCombersSociety$Society;").before [.ref (a 34), .int p0].toArray S = true := hts _ (by decide +kernel)
  have h_f67 : (Cond.fieldLink RX2 67 "CombersSociety$Member" "pot" "I").before [.ref (a 34), .int p0].toArray S = true := hts _ (by decide +kernel)
  have h_f121 : (Cond.fieldLink RX2 121 "CombersSociety$Society" "tops" "I").before [.ref (a 34), .int p0].toArray S = true := hts _ (by decide +kernel)
  have h_k34 : (Cond.classLink RX2 34 "java/lang/IllegalStateException").before [.ref (a 34), .int p0].toArray S = true := hts _ (by decide +kernel)
  have h_nS : (Cond.initialized "java/lang/IllegalStateException").before [.ref (a 34), .int p0].toArray S = true := hts _ (by decide +kernel)
  have h_aS : ∀ w ∈ vx_atS RX2 38 "java/lang/IllegalStateException" xNs, w.before [.ref (a 34), .int p0].toArray S = true := xhatS (fun w hw => hts w (xinS_advise w hw)) hXN
  have h_k53 : (Cond.classLink RX2 53 "java/lang/IndexOutOfBoundsException").before [.ref (a 34), .int p0].toArray S = true := hts _ (by decide +kernel)
  have h_nI : (Cond.initialized "java/lang/IndexOutOfBoundsException").before [.ref (a 34), .int p0].toArray S = true := hts _ (by decide +kernel)
  have h_aI : ∀ w ∈ vx_atS RX2 57 "java/lang/IndexOutOfBoundsException" xNs, w.before [.ref (a 34), .int p0].toArray S = true := xhatI (fun w hw => hts w (xinI_advise w hw)) hXN
  have hl : lv_has ls 6 [(0, .ref (a 34)), (1, .int p0)] := hl
  refine lv_aload_n hx hb dX2_advise_0 rfl (lv_at hl 0 rfl) ?_
  refine cg_w hx hb hts h_iX2 hown hC 0 (by decide) h_f10 dX2_advise_1 ?_
  refine lv_iload_n hx hb dX2_advise_4 rfl (lv_at hl 1 rfl) ?_
  refine c_iVp (n := 1) hF (c_X1_hasMember l D cI cM a 0 ρ σ (by decide) p0 ) gX2_advise_X1_hasMember rfl rfl rfl (by decide +kernel) ⟨Nat.le_of_ble_eq_true rfl, Nat.le_of_ble_eq_true rfl⟩ (hC.sw (by decide)) hA ((hC.sw (by decide)).recvS (by decide)) rfl hl.1 rfl (Nat.le_of_ble_eq_true rfl) dX2_advise_5 ⟨Nat.zero_le _, Nat.zero_le _⟩ ?_
  clear hC; intro H locs hC
  have hC := hC.sw (by decide)
  refine lv_if_ne (tgt := 21) hx hb dX2_advise_8 (by decide) (fun c1 => ?_) (fun c1 => ?_)
  · refine lv_aload_n hx hb dX2_advise_21 rfl (lv_at hl 0 rfl) ?_
    refine cg_w hx hb hts h_iX2 hown hC 0 (by decide) h_f10 dX2_advise_22 ?_
    refine cg_r hx hb hts h_iX1 hown (hC.sw (by decide)) (by decide) 3 (by decide) h_f39 dX2_advise_25 ?_
    refine lv_iload_n hx hb dX2_advise_28 rfl (lv_at hl 1 rfl) ?_
    refine c_mld hx hb (hC.sw (by decide)) (by decide) (j := (p0).toNatClampNeg) (hasMember_ix c1).1 (hasMember_ix c1).2 dX2_advise_29 ?_
    refine lv_astore_n (lv' := [(2, .ref (a (17*0+((p0).toNatClampNeg+5)))), (0, .ref (a 34)), (1, .int p0)]) hx hb dX2_advise_30 rfl hl (by decide) rfl ?_
    clear hl; intro ls hl
    refine lv_aload_n hx hb dX2_advise_31 rfl (lv_at hl 0 rfl) ?_
    refine cg_m hx hb hts h_iX0 hown (hC.sw (by decide)) (by decide) (hasMember_ix c1).2 6 (by decide) h_f58 dX2_advise_32 ?_
    refine lv_iconst (v := 2) hx hb dX2_advise_35 (by decide) ?_
    refine lv_icmp_ne (tgt := 49) hx hb dX2_advise_36 (by decide) (fun c2 => ?_) (fun c2 => ?_)
    · refine lv_iconst (v := -1) hx hb dX2_advise_49 (by decide) ?_
      refine lv_istore_n (lv' := [(3, .int (-1 : Int32)), (2, .ref (a (17*0+((p0).toNatClampNeg+5)))), (0, .ref (a 34)), (1, .int p0)]) hx hb dX2_advise_50 rfl hl (by decide) rfl ?_
      clear hl; intro ls hl
      refine lv_iconst (v := -1) hx hb dX2_advise_51 (by decide) ?_
      refine lv_istore (lv' := [(4, .int (-1 : Int32)), (3, .int (-1 : Int32)), (2, .ref (a (17*0+((p0).toNatClampNeg+5)))), (0, .ref (a 34)), (1, .int p0)]) hx hb dX2_advise_52 hl (by decide) rfl ?_
      clear hl; intro ls hl
      refine lv_iconst (v := 0) hx hb dX2_advise_54 (by decide) ?_
      refine lv_istore (lv' := [(5, .int (0 : Int32)), (4, .int (-1 : Int32)), (3, .int (-1 : Int32)), (2, .ref (a (17*0+((p0).toNatClampNeg+5)))), (0, .ref (a 34)), (1, .int p0)]) hx hb dX2_advise_55 hl (by decide) rfl ?_
      clear hl; intro ls hl
      have loop1 : ∀ (n1x i1x : Nat) (v1_4 : Int32) (v1_3 : Int32) (σL1 : (Nat → Nat → Int32)), i1x + n1x = 3 → itR (fun i x => fX2_advise_b1 ρ p0 i x.1 x.2.1 x.2.2) i1x n1x (v1_4, v1_3, σL1) = itR (fun i x => fX2_advise_b1 ρ p0 i x.1 x.2.1 x.2.2) 0 3 ((-1 : Int32), (-1 : Int32), σ) → ∀ (H : Heap) (locs : List Loc), cB D cI cM a S (cA a sz) S.heap H locs 1 σL1 ρ → ∀ ls : Array Slot, lv_has ls 6 [(5, .int (nI i1x)), (4, .int v1_4), (3, .int v1_3), (2, .ref (a (17*0+((p0).toNatClampNeg+5)))), (0, .ref (a 34)), (1, .int p0)] → W p l e (headSpec wsX2_advise rmX2_advise).room S m [.ref (a 34), .int p0].toArray below meth c H locs 0 0 (vx_MQ below (va_Qi (fun r' u => fX2_advise σ ρ p0 = .inl (r', u)) (fun u t => cPost D cI cM a 1 u.1 u.2 () t) (cA a sz)) (vx_X (fun _ : Unit => True) (fun E _ t => fX2_advise σ ρ p0 = .inr E ∧ cPost D cI cM a 1 σ ρ () t) (cA a sz)) [.ref (a 34), .int p0].toArray S 1 6 (cA a sz)) (F0 m 57 ls []) := by
        clear hC hl
        intro n1x
        induction n1x with
        | zero =>
          intro i1x v1_4 v1_3 σL1 hin1 hX1 H locs hC ls hl
          obtain rfl : 3 = i1x := by omega
          have q1 : fX2_advise σ ρ p0 = fX2_advise_k1 ρ v1_4 v1_3 σL1 := by unfold fX2_advise; exact ((if_neg c1).trans ((if_neg c2).trans ((congrArg (fX2_advise_k1x _) hX1.symm).trans rfl)))
          refine lv_iload hx hb dX2_advise_57 (lv_at hl 0 rfl) ?_
          refine lv_iconst (v := 3) hx hb dX2_advise_59 (by decide) ?_
          refine lv_icmp_ge (tgt := 140) hx hb dX2_advise_60 (by decide) (fun c9 => ?_) (fun c9 => absurd (by decide) c9)
          refine lv_iload_n hx hb dX2_advise_140 rfl (lv_at hl 2 rfl) ?_
          have e0 : fX2_advise_k1 ρ v1_4 v1_3 σL1 = .inl (v1_3, σL1, ρ) := by exact rfl
          have e : fX2_advise σ ρ p0 = .inl (v1_3, σL1, ρ) := (q1.trans e0)
          exact x_iret hx hb hr hlocks hC dX2_advise_141 e
        | succ n1x ih1 =>
          intro i1x v1_4 v1_3 σL1 hin1 hX1 H locs hC ls hl
          refine lv_iload hx hb dX2_advise_57 (lv_at hl 0 rfl) ?_
          refine lv_iconst (v := 3) hx hb dX2_advise_59 (by decide) ?_
          refine lv_icmp_ge (tgt := 140) hx hb dX2_advise_60 (by decide) (fun c3 => absurd c3 (show ¬ (3 : Int32) ≤ nI i1x from (nI_ge (a := i1x) (b := 3) (by omega) (by decide) : ¬ nI 3 ≤ nI i1x))) (fun c3 => ?_)
          refine lv_aload_n hx hb dX2_advise_63 rfl (lv_at hl 4 rfl) ?_
          refine cg_w hx hb hts h_iX2 hown hC 0 (by decide) h_f10 dX2_advise_64 ?_
          refine lv_iload hx hb dX2_advise_67 (lv_at hl 0 rfl) ?_
          refine lv_aload_n hx hb dX2_advise_69 rfl (lv_at hl 3 rfl) ?_
          refine c_iVp (n := 2) hF (c_X1_hasRoom l D cI cM a 0 ρ σL1 (by decide) (nI i1x) ((p0).toNatClampNeg) (hasMember_ix c1).2 ) gX2_advise_X1_hasRoom rfl rfl rfl (by decide +kernel) ⟨Nat.le_of_ble_eq_true rfl, Nat.le_of_ble_eq_true rfl⟩ (hC.sw (by decide)) hA ((hC.sw (by decide)).recvS (by decide)) rfl hl.1 rfl (Nat.le_of_ble_eq_true rfl) dX2_advise_70 ⟨Nat.zero_le _, Nat.zero_le _⟩ ?_
          clear hC; intro H locs hC
          have hC := hC.sw (by decide)
          refine lv_if_eq (tgt := 134) hx hb dX2_advise_73 (by decide) (fun c4 => ?_) (fun c4 => ?_)
          · refine lv_iinc (v := (nI (i1x + 1))) (lv' := [(5, .int (nI (i1x + 1))), (4, .int v1_4), (3, .int v1_3), (2, .ref (a (17*0+((p0).toNatClampNeg+5)))), (0, .ref (a 34)), (1, .int p0)]) hx hb dX2_advise_134 hl (k := 0) rfl (nI_1 i1x) (by decide) rfl ?_
            clear hl; intro ls hl
            refine lv_goto (tgt := 57) hx hb dX2_advise_137 (by decide) ?_
            have e : fX2_advise_b1 ρ p0 i1x v1_4 v1_3 σL1 = (v1_4, v1_3, σL1) := by unfold fX2_advise_b1; exact ((if_pos c4).trans rfl)
            exact ih1 (i1x + 1) v1_4 v1_3 σL1 (by omega) (by rw [← e]; exact hX1) _ _ hC ls (lv_sub hl [0, 1, 2, 3, 4, 5] rfl)
          · refine lv_aload_n hx hb dX2_advise_76 rfl (lv_at hl 4 rfl) ?_
            refine cg_w hx hb hts h_iX2 hown hC 1 (by decide) h_f16 dX2_advise_77 ?_
            refine lv_aload_n hx hb dX2_advise_80 rfl (lv_at hl 4 rfl) ?_
            refine cg_w hx hb hts h_iX2 hown hC 0 (by decide) h_f10 dX2_advise_81 ?_
            refine c_iVv (n := 1) hF (c_X1_copyFrom l D cI cM a 1 σL1 ρ (by decide)  hU) gX2_advise_X1_copyFrom rfl rfl rfl (by decide +kernel) ⟨Nat.le_of_ble_eq_true rfl, Nat.le_of_ble_eq_true rfl⟩ hC hA (hC.recvS (by decide)) rfl hl.1 rfl (Nat.le_of_ble_eq_true rfl) dX2_advise_84 ⟨Nat.zero_le _, Nat.zero_le _⟩ ?_
            clear hC; intro H locs σ5 eσ5 hC
            refine lv_aload_n hx hb dX2_advise_87 rfl (lv_at hl 4 rfl) ?_
            refine cg_w hx hb hts h_iX2 hown hC 1 (by decide) h_f16 dX2_advise_88 ?_
            refine cg_r hx hb hts h_iX1 hown hC (by decide) 3 (by decide) h_f39 dX2_advise_91 ?_
            refine lv_iload_n hx hb dX2_advise_94 rfl (lv_at hl 5 rfl) ?_
            refine c_mld hx hb hC (by decide) (j := (p0).toNatClampNeg) (hasMember_ix c1).1 (hasMember_ix c1).2 dX2_advise_95 ?_
            refine lv_iload hx hb dX2_advise_96 (lv_at hl 0 rfl) ?_
            refine cp_m hx hb hts h_iX0 hown hC (by decide) (hasMember_ix c1).2 5 (by decide) h_f67 dX2_advise_98 ?_
            clear hC; intro H locs σ6 eσ6 hC
            refine lv_aload_n hx hb dX2_advise_101 rfl (lv_at hl 4 rfl) ?_
            refine cg_w hx hb hts h_iX2 hown hC 1 (by decide) h_f16 dX2_advise_102 ?_
            refine lv_bipush (v := 6) hx hb dX2_advise_105 (by decide) ?_
            refine c_iVv (n := 1) hF (c_X1_liveWeeks l D cI cM a 1 σ6 ρ (by decide) 6 (by decide) ) gX2_advise_X1_liveWeeks rfl rfl rfl (by decide +kernel) ⟨Nat.le_of_ble_eq_true rfl, Nat.le_of_ble_eq_true rfl⟩ hC hA (hC.recvS (by decide)) rfl hl.1 rfl (Nat.le_of_ble_eq_true rfl) dX2_advise_107 ⟨Nat.zero_le _, Nat.zero_le _⟩ ?_
            clear hC; intro H locs σ7 eσ7 hC
            refine lv_aload_n hx hb dX2_advise_110 rfl (lv_at hl 4 rfl) ?_
            refine cg_w hx hb hts h_iX2 hown hC 1 (by decide) h_f16 dX2_advise_111 ?_
            refine cg_s hx hb hts h_iX1 hown hC (by decide) 5 (by decide) h_f121 dX2_advise_114 ?_
            refine lv_iload hx hb dX2_advise_117 (lv_at hl 1 rfl) ?_
            refine lv_icmp_le (tgt := 134) hx hb dX2_advise_119 (by decide) (fun c8 => ?_) (fun c8 => ?_)
            · refine lv_iinc (v := (nI (i1x + 1))) (lv' := [(5, .int (nI (i1x + 1))), (4, .int v1_4), (3, .int v1_3), (2, .ref (a (17*0+((p0).toNatClampNeg+5)))), (0, .ref (a 34)), (1, .int p0)]) hx hb dX2_advise_134 hl (k := 0) rfl (nI_1 i1x) (by decide) rfl ?_
              clear hl; intro ls hl
              refine lv_goto (tgt := 57) hx hb dX2_advise_137 (by decide) ?_
              have e : fX2_advise_b1 ρ p0 i1x v1_4 v1_3 σL1 = (v1_4, v1_3, σ7) := by subst eσ5 eσ6 eσ7; unfold fX2_advise_b1; exact ((if_neg c4).trans ((if_pos c8).trans rfl))
              exact ih1 (i1x + 1) v1_4 v1_3 σ7 (by omega) (by rw [← e]; exact hX1) _ _ hC ls (lv_sub hl [0, 1, 2, 3, 4, 5] rfl)
            · refine lv_aload_n hx hb dX2_advise_122 rfl (lv_at hl 4 rfl) ?_
              refine cg_w hx hb hts h_iX2 hown hC 1 (by decide) h_f16 dX2_advise_123 ?_
              refine cg_s hx hb hts h_iX1 hown hC (by decide) 5 (by decide) h_f121 dX2_advise_126 ?_
              refine lv_istore (lv' := [(4, .int (σ7 0 5)), (5, .int (nI i1x)), (3, .int v1_3), (2, .ref (a (17*0+((p0).toNatClampNeg+5)))), (0, .ref (a 34)), (1, .int p0)]) hx hb dX2_advise_129 hl (by decide) rfl ?_
              clear hl; intro ls hl
              refine lv_iload hx hb dX2_advise_131 (lv_at hl 1 rfl) ?_
              refine lv_istore_n (lv' := [(3, .int (nI i1x)), (4, .int (σ7 0 5)), (5, .int (nI i1x)), (2, .ref (a (17*0+((p0).toNatClampNeg+5)))), (0, .ref (a 34)), (1, .int p0)]) hx hb dX2_advise_133 rfl hl (by decide) rfl ?_
              clear hl; intro ls hl
              refine lv_iinc (v := (nI (i1x + 1))) (lv' := [(5, .int (nI (i1x + 1))), (3, .int (nI i1x)), (4, .int (σ7 0 5)), (2, .ref (a (17*0+((p0).toNatClampNeg+5)))), (0, .ref (a 34)), (1, .int p0)]) hx hb dX2_advise_134 hl (k := 2) rfl (nI_1 i1x) (by decide) rfl ?_
              clear hl; intro ls hl
              refine lv_goto (tgt := 57) hx hb dX2_advise_137 (by decide) ?_
              have e : fX2_advise_b1 ρ p0 i1x v1_4 v1_3 σL1 = ((σ7 0 5), (nI i1x), σ7) := by subst eσ5 eσ6 eσ7; unfold fX2_advise_b1; exact ((if_neg c4).trans ((if_neg c8).trans rfl))
              exact ih1 (i1x + 1) (σ7 0 5) (nI i1x) σ7 (by omega) (by rw [← e]; exact hX1) _ _ hC ls (lv_sub hl [0, 2, 1, 3, 4, 5] rfl)
      exact loop1 3 0 (-1 : Int32) (-1 : Int32) σ (by omega) rfl _ _ hC ls (lv_sub hl [0, 1, 2, 3, 4, 5] rfl)
    · obtain ⟨sa, hsa⟩ := hXN.s78
      have e : fX2_advise σ ρ p0 = .inr "java/lang/IllegalStateException" := by unfold fX2_advise; exact ((if_neg c1).trans ((if_pos c2).trans rfl))
      exact vx_throwS (names := xNs) hx hb hl0 hown (by decide) (by decide) h_k34 h_nS hsa h_aS xotS hXZ.1 hXZ.2 hC.2.2.2 (hl.1.trans hml.symm) dX2_advise_39 dX2_advise_42 dX2_advise_43 dX2_advise_45 dX2_advise_48 (fun x hx => (htab x hx).elim) (Nat.le_of_ble_eq_true rfl) (Nat.le_of_ble_eq_true rfl) (Nat.le_of_ble_eq_true rfl) (Nat.le_of_ble_eq_true rfl) hlocks (fun t hal hz ho => x_thrown hC e hal hz ho) hC.2.2.2.2.2 (Nat.le_of_ble_eq_true rfl) (Nat.le_of_ble_eq_true rfl)
  · obtain ⟨sa, hsa⟩ := hXN.s70
    have e : fX2_advise σ ρ p0 = .inr "java/lang/IndexOutOfBoundsException" := by unfold fX2_advise; exact ((if_pos c1).trans rfl)
    exact vx_throwS (names := xNs) hx hb hl0 hown (by decide) (by decide) h_k53 h_nI hsa h_aI xotI hXZ.1 hXZ.2 hC.2.2.2 (hl.1.trans hml.symm) dX2_advise_11 dX2_advise_14 dX2_advise_15 dX2_advise_17 dX2_advise_20 (fun x hx => (htab x hx).elim) (Nat.le_of_ble_eq_true rfl) (Nat.le_of_ble_eq_true rfl) (Nat.le_of_ble_eq_true rfl) (Nat.le_of_ble_eq_true rfl) hlocks (fun t hal hz ho => x_thrown hC e hal hz ho) hC.2.2.2.2.2 (Nat.le_of_ble_eq_true rfl) (Nat.le_of_ble_eq_true rfl)
abbrev rmX2_lasts : Room := { frames := 5, cells := 0, slots := 0, locals := 104 }
def fX2_lasts_b1 (ρ : (Nat → Nat → Int32)) (i1x : Nat) (σL1 : (Nat → Nat → Int32)) : Int32 × (Nat → Nat → Int32) × (Nat → Nat → Int32) ⊕ (Nat → Nat → Int32) :=
    let σ3 : (Nat → Nat → Int32) := (fX1_liveWeek σL1)
    if (σ3 0 9) = 0 then
      .inr σ3
    else
      .inl ((nI i1x), σ3, ρ)
def fX2_lasts_k1 (ρ : (Nat → Nat → Int32)) (σL1 : (Nat → Nat → Int32)) : Int32 × (Nat → Nat → Int32) × (Nat → Nat → Int32) :=
    ((-1 : Int32), σL1, ρ)
def fX2_lasts_k1x (ρ : (Nat → Nat → Int32)) (x : Int32 × (Nat → Nat → Int32) × (Nat → Nat → Int32) ⊕ (Nat → Nat → Int32)) : Int32 × (Nat → Nat → Int32) × (Nat → Nat → Int32) := match x with
    | .inl r => r
    | .inr y => fX2_lasts_k1 ρ y
def fX2_lasts (σ : (Nat → Nat → Int32)) (ρ : (Nat → Nat → Int32)) : Int32 × (Nat → Nat → Int32) × (Nat → Nat → Int32) :=
    let σ1 : (Nat → Nat → Int32) := (fX1_copyFrom σ ρ)
    fX2_lasts_k1x ρ (itE (fun i x => fX2_lasts_b1 ρ i x) 1 100 σ1)
set_option maxHeartbeats 400000 in
set_option maxRecDepth 100000 in
theorem c_X2_lasts (l : Launch) (D : va_G) (cI cM : ClassId) (a : Nat → Nat) (σ ρ : (Nat → Nat → Int32)) (hU : ∀ i, i < 12 → ρ (i+5) 9 = 0 ∨ ρ (i+5) 9 = 1) : cMi2 l yX2_lasts wsX2_lasts rmX2_lasts D cI cM a [.ref (a 34)] 1 σ ρ (fX2_lasts σ ρ).1 (fX2_lasts σ ρ).2.1 (fX2_lasts σ ρ).2.2 := by
  intro sz
  refine c_head (cc := cX2_lasts) (maxL := 2) (ret := (some .int)) (plainFor_of_name (by decide)) rfl (Nat.le_of_ble_eq_true rfl) ?_
  intro p e S m below meth c hx hb hr hml hown hts hlocks hnm hsz hA hC ls hl
  have hF : CallFix p m c cX2_lasts 2 S [.ref (a 34)].toArray wsX2_lasts RX2 := ⟨hx, hb, hml, hown, hts⟩
  have h_f16 : (Cond.fieldLink RX2 16 "CombersSociety" "trial" "LCombersSociety$Society;").before [.ref (a 34)].toArray S = true := hts _ (by decide +kernel)
  have h_iX2 : ∀ w ∈ u_ws RX2 TX2 2, w ∈ wsX2_lasts := by decide +kernel
  have h_f10 : (Cond.fieldLink RX2 10 "CombersSociety" "now" "LCombersSociety$Society;").before [.ref (a 34)].toArray S = true := hts _ (by decide +kernel)
  have h_f154 : (Cond.fieldLink RX2 154 "CombersSociety$Society" "fellShort" "Z").before [.ref (a 34)].toArray S = true := hts _ (by decide +kernel)
  have h_iX1 : ∀ w ∈ u_ws RX1 TX1 14, w ∈ wsX2_lasts := by decide +kernel
  have hl : lv_has ls 2 [(0, .ref (a 34))] := hl
  refine lv_aload_n hx hb dX2_lasts_0 rfl (lv_at hl 0 rfl) ?_
  refine cg_w hx hb hts h_iX2 hown hC 1 (by decide) h_f16 dX2_lasts_1 ?_
  refine lv_aload_n hx hb dX2_lasts_4 rfl (lv_at hl 0 rfl) ?_
  refine cg_w hx hb hts h_iX2 hown hC 0 (by decide) h_f10 dX2_lasts_5 ?_
  refine c_iVv (n := 1) hF (c_X1_copyFrom l D cI cM a 1 σ ρ (by decide)  hU) gX2_lasts_X1_copyFrom rfl rfl rfl (by decide +kernel) ⟨Nat.le_of_ble_eq_true rfl, Nat.le_of_ble_eq_true rfl⟩ hC hA (hC.recvS (by decide)) rfl hl.1 rfl (Nat.le_of_ble_eq_true rfl) dX2_lasts_8 ⟨Nat.zero_le _, Nat.zero_le _⟩ ?_
  clear hC; intro H locs σ1 eσ1 hC
  refine lv_iconst (v := 1) hx hb dX2_lasts_11 (by decide) ?_
  refine lv_istore_n (lv' := [(1, .int (1 : Int32)), (0, .ref (a 34))]) hx hb dX2_lasts_12 rfl hl (by decide) rfl ?_
  clear hl; intro ls hl
  have loop1 : ∀ (n1x i1x : Nat) (σL1 : (Nat → Nat → Int32)), i1x + n1x = 101 → itE (fun i x => fX2_lasts_b1 ρ i x) i1x n1x σL1 = itE (fun i x => fX2_lasts_b1 ρ i x) 1 100 σ1 → ∀ (H : Heap) (locs : List Loc), cB D cI cM a S (cA a sz) S.heap H locs 1 σL1 ρ → ∀ ls : Array Slot, lv_has ls 2 [(1, .int (nI i1x)), (0, .ref (a 34))] → W p l e (headSpec wsX2_lasts rmX2_lasts).room S m [.ref (a 34)].toArray below meth c H locs 0 0 (MQ below (va_Qi (fun r' (_ : Unit) => r' = (fX2_lasts σ ρ).1) (cPost D cI cM a 1 (fX2_lasts σ ρ).2.1 (fX2_lasts σ ρ).2.2) (cA a sz)) [.ref (a 34)].toArray S 0 0 (cA a sz)) (F0 m 13 ls []) := by
    clear hC hl
    intro n1x
    induction n1x with
    | zero =>
      intro i1x σL1 hin1 hX1 H locs hC ls hl
      obtain rfl : 101 = i1x := by omega
      have q1 : fX2_lasts σ ρ = fX2_lasts_k1 ρ σL1 := by subst eσ1; unfold fX2_lasts; exact ((congrArg (fX2_lasts_k1x _) hX1.symm).trans rfl)
      refine lv_iload_n hx hb dX2_lasts_13 rfl (lv_at hl 0 rfl) ?_
      refine lv_bipush (v := 100) hx hb dX2_lasts_14 (by decide) ?_
      refine lv_icmp_gt (tgt := 44) hx hb dX2_lasts_16 (by decide) (fun c5 => ?_) (fun c5 => absurd (by decide) c5)
      refine lv_iconst (v := -1) hx hb dX2_lasts_44 (by decide) ?_
      have e0 : fX2_lasts_k1 ρ σL1 = ((-1 : Int32), σL1, ρ) := by subst eσ1; exact rfl
      have e : fX2_lasts σ ρ = ((-1 : Int32), σL1, ρ) := (q1.trans e0)
      exact c_iret2 hx hb hr hlocks hC dX2_lasts_45 ⟨by rw [e], by rw [e], by rw [e]⟩
    | succ n1x ih1 =>
      intro i1x σL1 hin1 hX1 H locs hC ls hl
      refine lv_iload_n hx hb dX2_lasts_13 rfl (lv_at hl 0 rfl) ?_
      refine lv_bipush (v := 100) hx hb dX2_lasts_14 (by decide) ?_
      refine lv_icmp_gt (tgt := 44) hx hb dX2_lasts_16 (by decide) (fun c2 => absurd c2 (show ¬ (100 : Int32) < nI i1x from (nI_nlt (a := 100) (b := i1x) (by omega) (by decide) : ¬ nI 100 < nI i1x))) (fun c2 => ?_)
      refine lv_aload_n hx hb dX2_lasts_19 rfl (lv_at hl 1 rfl) ?_
      refine cg_w hx hb hts h_iX2 hown hC 1 (by decide) h_f16 dX2_lasts_20 ?_
      refine c_iVv (n := 0) hF (c_X1_liveWeek l D cI cM a 1 σL1 ρ (by decide)  ) gX2_lasts_X1_liveWeek rfl rfl rfl (by decide +kernel) ⟨Nat.le_of_ble_eq_true rfl, Nat.le_of_ble_eq_true rfl⟩ hC hA (hC.recvS (by decide)) rfl hl.1 rfl (Nat.le_of_ble_eq_true rfl) dX2_lasts_23 ⟨Nat.zero_le _, Nat.zero_le _⟩ ?_
      clear hC; intro H locs σ3 eσ3 hC
      refine lv_aload_n hx hb dX2_lasts_26 rfl (lv_at hl 1 rfl) ?_
      refine cg_w hx hb hts h_iX2 hown hC 1 (by decide) h_f16 dX2_lasts_27 ?_
      refine cg_s hx hb hts h_iX1 hown hC (by decide) 9 (by decide) h_f154 dX2_lasts_30 ?_
      refine lv_if_eq (tgt := 38) hx hb dX2_lasts_33 (by decide) (fun c4 => ?_) (fun c4 => ?_)
      · refine lv_iinc (v := (nI (i1x + 1))) (lv' := [(1, .int (nI (i1x + 1))), (0, .ref (a 34))]) hx hb dX2_lasts_38 hl (k := 0) rfl (nI_1 i1x) (by decide) rfl ?_
        clear hl; intro ls hl
        refine lv_goto (tgt := 13) hx hb dX2_lasts_41 (by decide) ?_
        have e : fX2_lasts_b1 ρ i1x σL1 = .inr σ3 := by subst eσ3; unfold fX2_lasts_b1; exact ((if_pos c4).trans rfl)
        exact ih1 (i1x + 1) σ3 (by omega) ((itE_inr e).symm.trans hX1) _ _ hC ls (lv_sub hl [0, 1] rfl)
      · refine lv_iload_n hx hb dX2_lasts_36 rfl (lv_at hl 0 rfl) ?_
        have e : fX2_lasts_b1 ρ i1x σL1 = .inl ((nI i1x), σ3, ρ) := by subst eσ3; unfold fX2_lasts_b1; exact ((if_neg c4).trans rfl)
        have qq : fX2_lasts σ ρ = fX2_lasts_k1x ρ (itE (fun i x => fX2_lasts_b1 ρ i x) 1 100 σ1) := by subst eσ1; unfold fX2_lasts; exact rfl
        have e : fX2_lasts σ ρ = ((nI i1x), σ3, ρ) := (qq.trans ((congrArg (fX2_lasts_k1x _) (hX1.symm.trans (itE_inl e))).trans rfl))
        exact c_iret2 hx hb hr hlocks hC dX2_lasts_37 ⟨by rw [e], by rw [e], by rw [e]⟩
  exact loop1 100 1 σ1 (by omega) rfl _ _ hC ls (lv_sub hl [0, 1] rfl)
abbrev rmX2_digest : Room := { frames := 4, cells := 0, slots := 0, locals := 90 }
def fX2_digest_b4 (i3x : Nat) (i4x : Nat) (v4_1 : Int64) (σL4 : (Nat → Nat → Int32)) (ρL4 : (Nat → Nat → Int32)) : Int64 × (Nat → Nat → Int32) × (Nat → Nat → Int32) :=
    let σ7 : (Nat → Nat → Int32) := (fX2_potFact σL4 ρL4 (nI i3x) (nI i4x)).2.1
    let σ8 : (Nat → Nat → Int32) := (fX2_potFact σL4 ρL4 (nI i3x) (nI i4x)).2.2
    (((v4_1 * (31 : Int64)) + (((fX2_potFact σL4 ρL4 (nI i3x) (nI i4x)).1).toInt64)), σ7, σ8)
def fX2_digest_k4 (v4_1 : Int64) (σL4 : (Nat → Nat → Int32)) (ρL4 : (Nat → Nat → Int32)) : Int32 × Int64 × (Nat → Nat → Int32) × (Nat → Nat → Int32) :=
    ((nI 4), v4_1, σL4, ρL4)
def fX2_digest_k4x (x : Int64 × (Nat → Nat → Int32) × (Nat → Nat → Int32)) : Int32 × Int64 × (Nat → Nat → Int32) × (Nat → Nat → Int32) := fX2_digest_k4 x.1 x.2.1 x.2.2
def fX2_digest_b6 (ρL3 : (Nat → Nat → Int32)) (i5x : Nat) (i6x : Nat) (v6_1 : Int64) : Int64 :=
    ((v6_1 * (31 : Int64)) + (((fX0_fact ρL3 i5x (nI i6x))).toInt64))
def fX2_digest_k6 (v6_1 : Int64) : Int64 :=
    v6_1
def fX2_digest_b5 (ρL3 : (Nat → Nat → Int32)) (i5x : Nat) (v5_1 : Int64) : Int64 :=
    if (ρL3 (i5x+5) 6) = (3 : Int32) then
      v5_1
    else
      fX2_digest_k6 (itR (fun i x => fX2_digest_b6 ρL3 i5x i x) 0 9 v5_1)
def fX2_digest_k5 (σL3 : (Nat → Nat → Int32)) (ρL3 : (Nat → Nat → Int32)) (v5_1 : Int64) : Int64 × (Nat → Nat → Int32) × (Nat → Nat → Int32) :=
    (v5_1, σL3, ρL3)
def fX2_digest_b3 (i3x : Nat) (v3_4 : Int32) (v3_1 : Int64) (σL3 : (Nat → Nat → Int32)) (ρL3 : (Nat → Nat → Int32)) : Int32 × Int64 × (Nat → Nat → Int32) × (Nat → Nat → Int32) :=
    fX2_digest_k4x (itR (fun i x => fX2_digest_b4 i3x i x.1 x.2.1 x.2.2) 0 4 (v3_1, σL3, ρL3))
def fX2_digest_k3 (v3_4 : Int32) (v3_1 : Int64) (σL3 : (Nat → Nat → Int32)) (ρL3 : (Nat → Nat → Int32)) : Int64 × (Nat → Nat → Int32) × (Nat → Nat → Int32) :=
    fX2_digest_k5 σL3 ρL3 (itR (fun i x => fX2_digest_b5 ρL3 i x) 0 12 v3_1)
def fX2_digest_k3x (x : Int32 × Int64 × (Nat → Nat → Int32) × (Nat → Nat → Int32)) : Int64 × (Nat → Nat → Int32) × (Nat → Nat → Int32) := fX2_digest_k3 x.1 x.2.1 x.2.2.1 x.2.2.2
def fX2_digest_b2 (ρ : (Nat → Nat → Int32)) (i2x : Nat) (v2_1 : Int64) : Int64 :=
    ((v2_1 * (31 : Int64)) + (((ρ 1 i2x)).toInt64))
def fX2_digest_k2 (σ : (Nat → Nat → Int32)) (ρ : (Nat → Nat → Int32)) (v2_1 : Int64) : Int64 × (Nat → Nat → Int32) × (Nat → Nat → Int32) :=
    fX2_digest_k3x (itR (fun i x => fX2_digest_b3 i x.1 x.2.1 x.2.2.1 x.2.2.2) 0 3 ((8 : Int32), v2_1, σ, ρ))
def fX2_digest_b1 (ρ : (Nat → Nat → Int32)) (i1x : Nat) (v1_1 : Int64) : Int64 :=
    ((v1_1 * (31 : Int64)) + (((fX1_tally ρ (nI i1x))).toInt64))
def fX2_digest_k1 (σ : (Nat → Nat → Int32)) (ρ : (Nat → Nat → Int32)) (v1_1 : Int64) : Int64 × (Nat → Nat → Int32) × (Nat → Nat → Int32) :=
    fX2_digest_k2 σ ρ (itR (fun i x => fX2_digest_b2 ρ i x) 0 8 ((v1_1 * (31 : Int64)) + (((ρ 0 6)).toInt64)))
def fX2_digest (σ : (Nat → Nat → Int32)) (ρ : (Nat → Nat → Int32)) : Int64 × (Nat → Nat → Int32) × (Nat → Nat → Int32) :=
    fX2_digest_k1 σ ρ (itR (fun i x => fX2_digest_b1 ρ i x) 0 13 (1361 : Int64))
set_option maxHeartbeats 400000 in
set_option maxRecDepth 100000 in
theorem c_X2_digest (l : Launch) (D : va_G) (cI cM : ClassId) (a : Nat → Nat) (σ ρ : (Nat → Nat → Int32)) (hU : ∀ i, i < 12 → ρ (i+5) 9 = 0 ∨ ρ (i+5) 9 = 1) : cMl2 l yX2_digest wsX2_digest rmX2_digest D cI cM a [.ref (a 34)] 1 σ ρ (fX2_digest σ ρ).1 (fX2_digest σ ρ).2.1 (fX2_digest σ ρ).2.2 := by
  intro sz
  refine c_head (cc := cX2_digest) (maxL := 8) (ret := (some .long)) (plainFor_of_name (by decide)) rfl (Nat.le_of_ble_eq_true rfl) ?_
  intro p e S m below meth c hx hb hr hml hown hts hlocks hnm hsz hA hC ls hl
  have hF : CallFix p m c cX2_digest 8 S [.ref (a 34)].toArray wsX2_digest RX2 := ⟨hx, hb, hml, hown, hts⟩
  have h_l164 : (Jvm.Cond.constantLong RX2 164 (1361 : Int64)).before [.ref (a 34)].toArray S = true := hts _ (by decide +kernel)
  have h_l166 : (Jvm.Cond.constantLong RX2 166 (31 : Int64)).before [.ref (a 34)].toArray S = true := hts _ (by decide +kernel)
  have h_f10 : (Cond.fieldLink RX2 10 "CombersSociety" "now" "LCombersSociety$Society;").before [.ref (a 34)].toArray S = true := hts _ (by decide +kernel)
  have h_iX2 : ∀ w ∈ u_ws RX2 TX2 2, w ∈ wsX2_digest := by decide +kernel
  have h_f105 : (Cond.fieldLink RX2 105 "CombersSociety$Society" "dues" "I").before [.ref (a 34)].toArray S = true := hts _ (by decide +kernel)
  have h_iX1 : ∀ w ∈ u_ws RX1 TX1 14, w ∈ wsX2_digest := by decide +kernel
  have h_f99 : (Cond.fieldLink RX2 99 "CombersSociety$Society" "fevers" "[I").before [.ref (a 34)].toArray S = true := hts _ (by decide +kernel)
  have h_f39 : (Cond.fieldLink RX2 39 "CombersSociety$Society" "members" "[LCombersSociety$Member;").before [.ref (a 34)].toArray S = true := hts _ (by decide +kernel)
  have h_f58 : (Cond.fieldLink RX2 58 "CombersSociety$Member" "health" "I").before [.ref (a 34)].toArray S = true := hts _ (by decide +kernel)
  have h_iX0 : ∀ w ∈ u_ws RX0 TX0 10, w ∈ wsX2_digest := by decide +kernel
  have hl : lv_has ls 8 [(0, .ref (a 34))] := hl
  refine lv_ldc2 hx hb hown h_l164 dX2_digest_0 ?_
  refine lv_lstore_n (lv' := [(1, .long (1361 : Int64)), (0, .ref (a 34))]) hx hb dX2_digest_3 rfl hl (by decide) rfl ?_
  clear hl; intro ls hl
  refine lv_iconst (v := 0) hx hb dX2_digest_4 (by decide) ?_
  refine lv_istore_n (lv' := [(3, .int (0 : Int32)), (1, .long (1361 : Int64)), (0, .ref (a 34))]) hx hb dX2_digest_5 rfl hl (by decide) rfl ?_
  clear hl; intro ls hl
  have loop1 : ∀ (n1x i1x : Nat) (v1_1 : Int64), i1x + n1x = 13 → itR (fun i x => fX2_digest_b1 ρ i x) i1x n1x v1_1 = itR (fun i x => fX2_digest_b1 ρ i x) 0 13 (1361 : Int64) → ∀ (H : Heap) (locs : List Loc), cB D cI cM a S (cA a sz) S.heap H locs 1 σ ρ → ∀ ls : Array Slot, lv_has ls 8 [(3, .int (nI i1x)), (1, .long v1_1), (0, .ref (a 34))] → W p l e (headSpec wsX2_digest rmX2_digest).room S m [.ref (a 34)].toArray below meth c H locs 0 0 (MQ below (va_Ql (fun r' (_ : Unit) => r' = (fX2_digest σ ρ).1) (cPost D cI cM a 1 (fX2_digest σ ρ).2.1 (fX2_digest σ ρ).2.2) (cA a sz)) [.ref (a 34)].toArray S 0 0 (cA a sz)) (F0 m 6 ls []) := by
    clear hC hl
    intro n1x
    induction n1x with
    | zero =>
      intro i1x v1_1 hin1 hX1 H locs hC ls hl
      obtain rfl : 13 = i1x := by omega
      have q1 : fX2_digest σ ρ = fX2_digest_k1 σ ρ v1_1 := by unfold fX2_digest; exact ((congrArg (fX2_digest_k1 _ _) hX1.symm).trans rfl)
      refine lv_iload_n hx hb dX2_digest_6 rfl (lv_at hl 0 rfl) ?_
      refine lv_bipush (v := 13) hx hb dX2_digest_7 (by decide) ?_
      refine lv_icmp_ge (tgt := 34) hx hb dX2_digest_9 (by decide) (fun c2 => ?_) (fun c2 => absurd (by decide) c2)
      refine lv_lload_n hx hb dX2_digest_34 rfl (lv_at hl 1 rfl) ?_
      refine lv_ldc2 hx hb hown h_l166 dX2_digest_35 ?_
      refine lv_lmul hx hb dX2_digest_38 ?_
      refine lv_aload_n hx hb dX2_digest_39 rfl (lv_at hl 2 rfl) ?_
      refine cg_w hx hb hts h_iX2 hown hC 0 (by decide) h_f10 dX2_digest_40 ?_
      refine cg_s hx hb hts h_iX1 hown (hC.sw (by decide)) (by decide) 6 (by decide) h_f105 dX2_digest_43 ?_
      refine lv_i2l (v := ((ρ 0 6)).toInt64) hx hb dX2_digest_46 rfl ?_
      refine lv_ladd hx hb dX2_digest_47 ?_
      refine lv_lstore_n (lv' := [(1, .long ((v1_1 * (31 : Int64)) + (((ρ 0 6)).toInt64))), (3, .int (nI 13)), (0, .ref (a 34))]) hx hb dX2_digest_48 rfl hl (by decide) rfl ?_
      clear hl; intro ls hl
      refine lv_aload_n hx hb dX2_digest_49 rfl (lv_at hl 2 rfl) ?_
      refine cg_w hx hb hts h_iX2 hown hC 0 (by decide) h_f10 dX2_digest_50 ?_
      refine cg_r hx hb hts h_iX1 hown (hC.sw (by decide)) (by decide) 0 (by decide) h_f99 dX2_digest_53 ?_
      refine lv_astore_n (lv' := [(3, .ref (a (17*0+(0+1)))), (1, .long ((v1_1 * (31 : Int64)) + (((ρ 0 6)).toInt64))), (0, .ref (a 34))]) hx hb dX2_digest_56 rfl hl (by decide) rfl ?_
      clear hl; intro ls hl
      refine lv_aload_n hx hb dX2_digest_57 rfl (lv_at hl 0 rfl) ?_
      refine c_ilen hx hb (hC.sw (by decide)) (by decide) dX2_digest_58 ?_
      refine lv_istore (lv' := [(4, .int (8 : Int32)), (3, .ref (a (17*0+(0+1)))), (1, .long ((v1_1 * (31 : Int64)) + (((ρ 0 6)).toInt64))), (0, .ref (a 34))]) hx hb dX2_digest_59 hl (by decide) rfl ?_
      clear hl; intro ls hl
      refine lv_iconst (v := 0) hx hb dX2_digest_61 (by decide) ?_
      refine lv_istore (lv' := [(5, .int (0 : Int32)), (4, .int (8 : Int32)), (3, .ref (a (17*0+(0+1)))), (1, .long ((v1_1 * (31 : Int64)) + (((ρ 0 6)).toInt64))), (0, .ref (a 34))]) hx hb dX2_digest_62 hl (by decide) rfl ?_
      clear hl; intro ls hl
      have loop2 : ∀ (n2x i2x : Nat) (v2_1 : Int64), i2x + n2x = 8 → itR (fun i x => fX2_digest_b2 ρ i x) i2x n2x v2_1 = itR (fun i x => fX2_digest_b2 ρ i x) 0 8 ((v1_1 * (31 : Int64)) + (((ρ 0 6)).toInt64)) → ∀ (H : Heap) (locs : List Loc), cB D cI cM a S (cA a sz) S.heap H locs 1 σ ρ → ∀ ls : Array Slot, lv_has ls 8 [(5, .int (nI i2x)), (4, .int (8 : Int32)), (3, .ref (a (17*0+(0+1)))), (1, .long v2_1), (0, .ref (a 34))] → W p l e (headSpec wsX2_digest rmX2_digest).room S m [.ref (a 34)].toArray below meth c H locs 0 0 (MQ below (va_Ql (fun r' (_ : Unit) => r' = (fX2_digest σ ρ).1) (cPost D cI cM a 1 (fX2_digest σ ρ).2.1 (fX2_digest σ ρ).2.2) (cA a sz)) [.ref (a 34)].toArray S 0 0 (cA a sz)) (F0 m 64 ls []) := by
        clear hC hl
        intro n2x
        induction n2x with
        | zero =>
          intro i2x v2_1 hin2 hX2 H locs hC ls hl
          obtain rfl : 8 = i2x := by omega
          have q2 : fX2_digest_k1 σ ρ v1_1 = fX2_digest_k2 σ ρ v2_1 := by unfold fX2_digest_k1; exact ((congrArg (fX2_digest_k2 _ _) hX2.symm).trans rfl)
          refine lv_iload hx hb dX2_digest_64 (lv_at hl 0 rfl) ?_
          refine lv_iload hx hb dX2_digest_66 (lv_at hl 1 rfl) ?_
          refine lv_icmp_ge (tgt := 93) hx hb dX2_digest_68 (by decide) (fun c4 => ?_) (fun c4 => absurd (by decide) c4)
          refine lv_iconst (v := 0) hx hb dX2_digest_93 (by decide) ?_
          refine lv_istore_n (lv' := [(3, .int (0 : Int32)), (5, .int (nI 8)), (4, .int (8 : Int32)), (1, .long v2_1), (0, .ref (a 34))]) hx hb dX2_digest_94 rfl hl (by decide) rfl ?_
          clear hl; intro ls hl
          have loop3 : ∀ (n3x i3x : Nat) (v3_4 : Int32) (v3_1 : Int64) (σL3 : (Nat → Nat → Int32)) (ρL3 : (Nat → Nat → Int32)), i3x + n3x = 3 → itR (fun i x => fX2_digest_b3 i x.1 x.2.1 x.2.2.1 x.2.2.2) i3x n3x (v3_4, v3_1, σL3, ρL3) = itR (fun i x => fX2_digest_b3 i x.1 x.2.1 x.2.2.1 x.2.2.2) 0 3 ((8 : Int32), v2_1, σ, ρ) → (∀ i, i < 12 → ρL3 (i+5) 9 = 0 ∨ ρL3 (i+5) 9 = 1) → ∀ (H : Heap) (locs : List Loc), cB D cI cM a S (cA a sz) S.heap H locs 1 σL3 ρL3 → ∀ ls : Array Slot, lv_has ls 8 [(3, .int (nI i3x)), (5, .int (nI 8)), (4, .int v3_4), (1, .long v3_1), (0, .ref (a 34))] → W p l e (headSpec wsX2_digest rmX2_digest).room S m [.ref (a 34)].toArray below meth c H locs 0 0 (MQ below (va_Ql (fun r' (_ : Unit) => r' = (fX2_digest σ ρ).1) (cPost D cI cM a 1 (fX2_digest σ ρ).2.1 (fX2_digest σ ρ).2.2) (cA a sz)) [.ref (a 34)].toArray S 0 0 (cA a sz)) (F0 m 95 ls []) := by
            clear hC hl
            intro n3x
            induction n3x with
            | zero =>
              intro i3x v3_4 v3_1 σL3 ρL3 hin3 hX3 hI3 H locs hC ls hl
              obtain rfl : 3 = i3x := by omega
              have q3 : fX2_digest_k2 σ ρ v2_1 = fX2_digest_k3 v3_4 v3_1 σL3 ρL3 := by unfold fX2_digest_k2; exact ((congrArg (fX2_digest_k3x) hX3.symm).trans rfl)
              refine lv_iload_n hx hb dX2_digest_95 rfl (lv_at hl 0 rfl) ?_
              refine lv_iconst (v := 3) hx hb dX2_digest_96 (by decide) ?_
              refine lv_icmp_ge (tgt := 136) hx hb dX2_digest_97 (by decide) (fun c10 => ?_) (fun c10 => absurd (by decide) c10)
              refine lv_aload_n hx hb dX2_digest_136 rfl (lv_at hl 4 rfl) ?_
              refine cg_w hx hb hts h_iX2 hown hC 0 (by decide) h_f10 dX2_digest_137 ?_
              refine cg_r hx hb hts h_iX1 hown (hC.sw (by decide)) (by decide) 3 (by decide) h_f39 dX2_digest_140 ?_
              refine lv_astore_n (lv' := [(3, .ref (a (17*0+(3+1)))), (5, .int (nI 8)), (4, .int v3_4), (1, .long v3_1), (0, .ref (a 34))]) hx hb dX2_digest_143 rfl hl (by decide) rfl ?_
              clear hl; intro ls hl
              refine lv_aload_n hx hb dX2_digest_144 rfl (lv_at hl 0 rfl) ?_
              refine c_mlen hx hb (hC.sw (by decide)) (by decide) dX2_digest_145 ?_
              refine lv_istore (lv' := [(4, .int (12 : Int32)), (3, .ref (a (17*0+(3+1)))), (5, .int (nI 8)), (1, .long v3_1), (0, .ref (a 34))]) hx hb dX2_digest_146 hl (by decide) rfl ?_
              clear hl; intro ls hl
              refine lv_iconst (v := 0) hx hb dX2_digest_148 (by decide) ?_
              refine lv_istore (lv' := [(5, .int (0 : Int32)), (4, .int (12 : Int32)), (3, .ref (a (17*0+(3+1)))), (1, .long v3_1), (0, .ref (a 34))]) hx hb dX2_digest_149 hl (by decide) rfl ?_
              clear hl; intro ls hl
              have loop5 : ∀ (n5x i5x : Nat) (v5_1 : Int64), i5x + n5x = 12 → itR (fun i x => fX2_digest_b5 ρL3 i x) i5x n5x v5_1 = itR (fun i x => fX2_digest_b5 ρL3 i x) 0 12 v3_1 → ∀ (H : Heap) (locs : List Loc), cB D cI cM a S (cA a sz) S.heap H locs 1 σL3 ρL3 → ∀ ls : Array Slot, lv_has ls 8 [(5, .int (nI i5x)), (4, .int (12 : Int32)), (3, .ref (a (17*0+(3+1)))), (1, .long v5_1), (0, .ref (a 34))] → W p l e (headSpec wsX2_digest rmX2_digest).room S m [.ref (a 34)].toArray below meth c H locs 0 0 (MQ below (va_Ql (fun r' (_ : Unit) => r' = (fX2_digest σ ρ).1) (cPost D cI cM a 1 (fX2_digest σ ρ).2.1 (fX2_digest σ ρ).2.2) (cA a sz)) [.ref (a 34)].toArray S 0 0 (cA a sz)) (F0 m 151 ls []) := by
                clear hC hl
                intro n5x
                induction n5x with
                | zero =>
                  intro i5x v5_1 hin5 hX5 H locs hC ls hl
                  obtain rfl : 12 = i5x := by omega
                  have q5 : fX2_digest_k3 v3_4 v3_1 σL3 ρL3 = fX2_digest_k5 σL3 ρL3 v5_1 := by unfold fX2_digest_k3; exact ((congrArg (fX2_digest_k5 _ _) hX5.symm).trans rfl)
                  refine lv_iload hx hb dX2_digest_151 (lv_at hl 0 rfl) ?_
                  refine lv_iload hx hb dX2_digest_153 (lv_at hl 1 rfl) ?_
                  refine lv_icmp_ge (tgt := 210) hx hb dX2_digest_155 (by decide) (fun c15 => ?_) (fun c15 => absurd (by decide) c15)
                  refine lv_lload_n hx hb dX2_digest_210 rfl (lv_at hl 3 rfl) ?_
                  have e0 : fX2_digest_k5 σL3 ρL3 v5_1 = (v5_1, σL3, ρL3) := by exact rfl
                  have e : fX2_digest σ ρ = (v5_1, σL3, ρL3) := (q1.trans (q2.trans (q3.trans (q5.trans e0))))
                  exact c_lret2 hx hb hr hlocks hC dX2_digest_211 ⟨by rw [e], by rw [e], by rw [e]⟩
                | succ n5x ih5 =>
                  intro i5x v5_1 hin5 hX5 H locs hC ls hl
                  refine lv_iload hx hb dX2_digest_151 (lv_at hl 0 rfl) ?_
                  refine lv_iload hx hb dX2_digest_153 (lv_at hl 1 rfl) ?_
                  refine lv_icmp_ge (tgt := 210) hx hb dX2_digest_155 (by decide) (fun c11 => absurd c11 (show ¬ (12 : Int32) ≤ nI i5x from (nI_ge (a := i5x) (b := 12) (by omega) (by decide) : ¬ nI 12 ≤ nI i5x))) (fun c11 => ?_)
                  refine lv_aload_n hx hb dX2_digest_158 rfl (lv_at hl 2 rfl) ?_
                  refine lv_iload hx hb dX2_digest_159 (lv_at hl 0 rfl) ?_
                  refine c_mld hx hb (hC.sw (by decide)) (by decide) (j := i5x) rfl (show _ < 12 by omega) dX2_digest_161 ?_
                  refine lv_astore (lv' := [(6, .ref (a (17*0+(i5x+5)))), (5, .int (nI i5x)), (4, .int (12 : Int32)), (3, .ref (a (17*0+(3+1)))), (1, .long v5_1), (0, .ref (a 34))]) hx hb dX2_digest_162 hl (by decide) rfl ?_
                  clear hl; intro ls hl
                  refine lv_aload hx hb dX2_digest_164 (lv_at hl 0 rfl) ?_
                  refine cg_m hx hb hts h_iX0 hown (hC.sw (by decide)) (by decide) (show _ < 12 by omega) 6 (by decide) h_f58 dX2_digest_166 ?_
                  refine lv_iconst (v := 3) hx hb dX2_digest_169 (by decide) ?_
                  refine lv_icmp_eq (tgt := 204) hx hb dX2_digest_170 (by decide) (fun c12 => ?_) (fun c12 => ?_)
                  · refine lv_iinc (v := (nI (i5x + 1))) (lv' := [(5, .int (nI (i5x + 1))), (6, .ref (a (17*0+(i5x+5)))), (4, .int (12 : Int32)), (3, .ref (a (17*0+(3+1)))), (1, .long v5_1), (0, .ref (a 34))]) hx hb dX2_digest_204 hl (k := 1) rfl (nI_1 i5x) (by decide) rfl ?_
                    clear hl; intro ls hl
                    refine lv_goto (tgt := 151) hx hb dX2_digest_207 (by decide) ?_
                    have e : fX2_digest_b5 ρL3 i5x v5_1 = v5_1 := by unfold fX2_digest_b5; exact ((if_pos c12).trans rfl)
                    exact ih5 (i5x + 1) v5_1 (by omega) (by rw [← e]; exact hX5) _ _ hC ls (lv_sub hl [0, 2, 3, 4, 5] rfl)
                  · refine lv_iconst (v := 0) hx hb dX2_digest_173 (by decide) ?_
                    refine lv_istore (lv' := [(7, .int (0 : Int32)), (6, .ref (a (17*0+(i5x+5)))), (5, .int (nI i5x)), (4, .int (12 : Int32)), (3, .ref (a (17*0+(3+1)))), (1, .long v5_1), (0, .ref (a 34))]) hx hb dX2_digest_174 hl (by decide) rfl ?_
                    clear hl; intro ls hl
                    have loop6 : ∀ (n6x i6x : Nat) (v6_1 : Int64), i6x + n6x = 9 → itR (fun i x => fX2_digest_b6 ρL3 i5x i x) i6x n6x v6_1 = itR (fun i x => fX2_digest_b6 ρL3 i5x i x) 0 9 v5_1 → ∀ (H : Heap) (locs : List Loc), cB D cI cM a S (cA a sz) S.heap H locs 1 σL3 ρL3 → ∀ ls : Array Slot, lv_has ls 8 [(7, .int (nI i6x)), (6, .ref (a (17*0+(i5x+5)))), (5, .int (nI i5x)), (4, .int (12 : Int32)), (3, .ref (a (17*0+(3+1)))), (1, .long v6_1), (0, .ref (a 34))] → W p l e (headSpec wsX2_digest rmX2_digest).room S m [.ref (a 34)].toArray below meth c H locs 0 0 (MQ below (va_Ql (fun r' (_ : Unit) => r' = (fX2_digest σ ρ).1) (cPost D cI cM a 1 (fX2_digest σ ρ).2.1 (fX2_digest σ ρ).2.2) (cA a sz)) [.ref (a 34)].toArray S 0 0 (cA a sz)) (F0 m 176 ls []) := by
                      clear hC hl
                      intro n6x
                      induction n6x with
                      | zero =>
                        intro i6x v6_1 hin6 hX6 H locs hC ls hl
                        obtain rfl : 9 = i6x := by omega
                        have q6 : fX2_digest_b5 ρL3 i5x v5_1 = fX2_digest_k6 v6_1 := by unfold fX2_digest_b5; exact ((if_neg c12).trans ((congrArg (fX2_digest_k6) hX6.symm).trans rfl))
                        refine lv_iload hx hb dX2_digest_176 (lv_at hl 0 rfl) ?_
                        refine lv_bipush (v := 9) hx hb dX2_digest_178 (by decide) ?_
                        refine lv_icmp_ge (tgt := 204) hx hb dX2_digest_180 (by decide) (fun c14 => ?_) (fun c14 => absurd (by decide) c14)
                        refine lv_iinc (v := (nI (i5x + 1))) (lv' := [(5, .int (nI (i5x + 1))), (7, .int (nI 9)), (6, .ref (a (17*0+(i5x+5)))), (4, .int (12 : Int32)), (3, .ref (a (17*0+(3+1)))), (1, .long v6_1), (0, .ref (a 34))]) hx hb dX2_digest_204 hl (k := 2) rfl (nI_1 i5x) (by decide) rfl ?_
                        clear hl; intro ls hl
                        refine lv_goto (tgt := 151) hx hb dX2_digest_207 (by decide) ?_
                        have e0 : fX2_digest_k6 v6_1 = v6_1 := by exact rfl
                        have e : fX2_digest_b5 ρL3 i5x v5_1 = v6_1 := (q6.trans e0)
                        exact ih5 (i5x + 1) v6_1 (by omega) (by rw [← e]; exact hX5) _ _ hC ls (lv_sub hl [0, 3, 4, 5, 6] rfl)
                      | succ n6x ih6 =>
                        intro i6x v6_1 hin6 hX6 H locs hC ls hl
                        refine lv_iload hx hb dX2_digest_176 (lv_at hl 0 rfl) ?_
                        refine lv_bipush (v := 9) hx hb dX2_digest_178 (by decide) ?_
                        refine lv_icmp_ge (tgt := 204) hx hb dX2_digest_180 (by decide) (fun c13 => absurd c13 (show ¬ (9 : Int32) ≤ nI i6x from (nI_ge (a := i6x) (b := 9) (by omega) (by decide) : ¬ nI 9 ≤ nI i6x))) (fun c13 => ?_)
                        refine lv_lload_n hx hb dX2_digest_183 rfl (lv_at hl 5 rfl) ?_
                        refine lv_ldc2 hx hb hown h_l166 dX2_digest_184 ?_
                        refine lv_lmul hx hb dX2_digest_187 ?_
                        refine lv_aload hx hb dX2_digest_188 (lv_at hl 1 rfl) ?_
                        refine lv_iload hx hb dX2_digest_190 (lv_at hl 0 rfl) ?_
                        refine c_iVp (n := 1) hF (c_X0_fact l D cI cM a 0 ρL3 σL3 (by decide) i5x (show _ < 12 by omega) (nI i6x) ) gX2_digest_X0_fact rfl rfl rfl (by decide +kernel) ⟨Nat.le_of_ble_eq_true rfl, Nat.le_of_ble_eq_true rfl⟩ (hC.sw (by decide)) hA ((hC.sw (by decide)).recvM (by decide) (show _ < 12 by omega)) rfl hl.1 rfl (Nat.le_of_ble_eq_true rfl) dX2_digest_192 ⟨Nat.zero_le _, Nat.zero_le _⟩ ?_
                        clear hC; intro H locs hC
                        have hC := hC.sw (by decide)
                        refine lv_i2l (v := ((fX0_fact ρL3 i5x (nI i6x))).toInt64) hx hb dX2_digest_195 rfl ?_
                        refine lv_ladd hx hb dX2_digest_196 ?_
                        refine lv_lstore_n (lv' := [(1, .long ((v6_1 * (31 : Int64)) + (((fX0_fact ρL3 i5x (nI i6x))).toInt64))), (7, .int (nI i6x)), (6, .ref (a (17*0+(i5x+5)))), (5, .int (nI i5x)), (4, .int (12 : Int32)), (3, .ref (a (17*0+(3+1)))), (0, .ref (a 34))]) hx hb dX2_digest_197 rfl hl (by decide) rfl ?_
                        clear hl; intro ls hl
                        refine lv_iinc (v := (nI (i6x + 1))) (lv' := [(7, .int (nI (i6x + 1))), (1, .long ((v6_1 * (31 : Int64)) + (((fX0_fact ρL3 i5x (nI i6x))).toInt64))), (6, .ref (a (17*0+(i5x+5)))), (5, .int (nI i5x)), (4, .int (12 : Int32)), (3, .ref (a (17*0+(3+1)))), (0, .ref (a 34))]) hx hb dX2_digest_198 hl (k := 1) rfl (nI_1 i6x) (by decide) rfl ?_
                        clear hl; intro ls hl
                        refine lv_goto (tgt := 176) hx hb dX2_digest_201 (by decide) ?_
                        have e : fX2_digest_b6 ρL3 i5x i6x v6_1 = ((v6_1 * (31 : Int64)) + (((fX0_fact ρL3 i5x (nI i6x))).toInt64)) := by exact rfl
                        exact ih6 (i6x + 1) ((v6_1 * (31 : Int64)) + (((fX0_fact ρL3 i5x (nI i6x))).toInt64)) (by omega) (by rw [← e]; exact hX6) _ _ hC ls (lv_sub hl [0, 2, 3, 4, 5, 1, 6] rfl)
                    exact loop6 9 0 v5_1 (by omega) rfl _ _ hC ls (lv_sub hl [0, 1, 2, 3, 4, 5, 6] rfl)
              exact loop5 12 0 v3_1 (by omega) rfl _ _ hC ls (lv_sub hl [0, 1, 2, 3, 4] rfl)
            | succ n3x ih3 =>
              intro i3x v3_4 v3_1 σL3 ρL3 hin3 hX3 hI3 H locs hC ls hl
              refine lv_iload_n hx hb dX2_digest_95 rfl (lv_at hl 0 rfl) ?_
              refine lv_iconst (v := 3) hx hb dX2_digest_96 (by decide) ?_
              refine lv_icmp_ge (tgt := 136) hx hb dX2_digest_97 (by decide) (fun c5 => absurd c5 (show ¬ (3 : Int32) ≤ nI i3x from (nI_ge (a := i3x) (b := 3) (by omega) (by decide) : ¬ nI 3 ≤ nI i3x))) (fun c5 => ?_)
              refine lv_iconst (v := 0) hx hb dX2_digest_100 (by decide) ?_
              refine lv_istore (lv' := [(4, .int (0 : Int32)), (3, .int (nI i3x)), (5, .int (nI 8)), (1, .long v3_1), (0, .ref (a 34))]) hx hb dX2_digest_101 hl (by decide) rfl ?_
              clear hl; intro ls hl
              have loop4 : ∀ (n4x i4x : Nat) (v4_1 : Int64) (σL4 : (Nat → Nat → Int32)) (ρL4 : (Nat → Nat → Int32)), i4x + n4x = 4 → itR (fun i x => fX2_digest_b4 i3x i x.1 x.2.1 x.2.2) i4x n4x (v4_1, σL4, ρL4) = itR (fun i x => fX2_digest_b4 i3x i x.1 x.2.1 x.2.2) 0 4 (v3_1, σL3, ρL3) → (∀ i, i < 12 → ρL4 (i+5) 9 = 0 ∨ ρL4 (i+5) 9 = 1) → ∀ (H : Heap) (locs : List Loc), cB D cI cM a S (cA a sz) S.heap H locs 1 σL4 ρL4 → ∀ ls : Array Slot, lv_has ls 8 [(4, .int (nI i4x)), (3, .int (nI i3x)), (5, .int (nI 8)), (1, .long v4_1), (0, .ref (a 34))] → W p l e (headSpec wsX2_digest rmX2_digest).room S m [.ref (a 34)].toArray below meth c H locs 0 0 (MQ below (va_Ql (fun r' (_ : Unit) => r' = (fX2_digest σ ρ).1) (cPost D cI cM a 1 (fX2_digest σ ρ).2.1 (fX2_digest σ ρ).2.2) (cA a sz)) [.ref (a 34)].toArray S 0 0 (cA a sz)) (F0 m 103 ls []) := by
                clear hC hl
                intro n4x
                induction n4x with
                | zero =>
                  intro i4x v4_1 σL4 ρL4 hin4 hX4 hI4 H locs hC ls hl
                  obtain rfl : 4 = i4x := by omega
                  have q4 : fX2_digest_b3 i3x v3_4 v3_1 σL3 ρL3 = fX2_digest_k4 v4_1 σL4 ρL4 := by unfold fX2_digest_b3; exact ((congrArg (fX2_digest_k4x) hX4.symm).trans rfl)
                  refine lv_iload hx hb dX2_digest_103 (lv_at hl 0 rfl) ?_
                  refine lv_iconst (v := 4) hx hb dX2_digest_105 (by decide) ?_
                  refine lv_icmp_ge (tgt := 130) hx hb dX2_digest_106 (by decide) (fun c9 => ?_) (fun c9 => absurd (by decide) c9)
                  refine lv_iinc (v := (nI (i3x + 1))) (lv' := [(3, .int (nI (i3x + 1))), (4, .int (nI 4)), (5, .int (nI 8)), (1, .long v4_1), (0, .ref (a 34))]) hx hb dX2_digest_130 hl (k := 1) rfl (nI_1 i3x) (by decide) rfl ?_
                  clear hl; intro ls hl
                  refine lv_goto (tgt := 95) hx hb dX2_digest_133 (by decide) ?_
                  have e0 : fX2_digest_k4 v4_1 σL4 ρL4 = ((nI 4), v4_1, σL4, ρL4) := by exact rfl
                  have e : fX2_digest_b3 i3x v3_4 v3_1 σL3 ρL3 = ((nI 4), v4_1, σL4, ρL4) := (q4.trans e0)
                  exact ih3 (i3x + 1) (nI 4) v4_1 σL4 ρL4 (by omega) (by rw [← e]; exact hX3) hI4 _ _ hC ls (lv_sub hl [0, 2, 1, 3, 4] rfl)
                | succ n4x ih4 =>
                  intro i4x v4_1 σL4 ρL4 hin4 hX4 hI4 H locs hC ls hl
                  refine lv_iload hx hb dX2_digest_103 (lv_at hl 0 rfl) ?_
                  refine lv_iconst (v := 4) hx hb dX2_digest_105 (by decide) ?_
                  refine lv_icmp_ge (tgt := 130) hx hb dX2_digest_106 (by decide) (fun c6 => absurd c6 (show ¬ (4 : Int32) ≤ nI i4x from (nI_ge (a := i4x) (b := 4) (by omega) (by decide) : ¬ nI 4 ≤ nI i4x))) (fun c6 => ?_)
                  refine lv_lload_n hx hb dX2_digest_109 rfl (lv_at hl 3 rfl) ?_
                  refine lv_ldc2 hx hb hown h_l166 dX2_digest_110 ?_
                  refine lv_lmul hx hb dX2_digest_113 ?_
                  refine lv_aload_n hx hb dX2_digest_114 rfl (lv_at hl 4 rfl) ?_
                  refine lv_iload_n hx hb dX2_digest_115 rfl (lv_at hl 1 rfl) ?_
                  refine lv_iload hx hb dX2_digest_116 (lv_at hl 0 rfl) ?_
                  refine c_iVi2 (n := 2) hF (c_X2_potFact l D cI cM a σL4 ρL4 (nI i3x) (nI i4x) hI4) gX2_digest_X2_potFact rfl rfl rfl (by decide +kernel) ⟨Nat.le_of_ble_eq_true rfl, Nat.le_of_ble_eq_true rfl⟩ hC hA hC.recvW rfl hl.1 rfl (Nat.le_of_ble_eq_true rfl) dX2_digest_118 ⟨Nat.zero_le _, Nat.zero_le _⟩ ?_
                  clear hC; intro H locs σ7 σ8 eσ7 eσ8 hC
                  refine lv_i2l (v := ((fX2_potFact σL4 ρL4 (nI i3x) (nI i4x)).1).toInt64) hx hb dX2_digest_121 rfl ?_
                  refine lv_ladd hx hb dX2_digest_122 ?_
                  refine lv_lstore_n (lv' := [(1, .long ((v4_1 * (31 : Int64)) + (((fX2_potFact σL4 ρL4 (nI i3x) (nI i4x)).1).toInt64))), (4, .int (nI i4x)), (3, .int (nI i3x)), (5, .int (nI 8)), (0, .ref (a 34))]) hx hb dX2_digest_123 rfl hl (by decide) rfl ?_
                  clear hl; intro ls hl
                  refine lv_iinc (v := (nI (i4x + 1))) (lv' := [(4, .int (nI (i4x + 1))), (1, .long ((v4_1 * (31 : Int64)) + (((fX2_potFact σL4 ρL4 (nI i3x) (nI i4x)).1).toInt64))), (3, .int (nI i3x)), (5, .int (nI 8)), (0, .ref (a 34))]) hx hb dX2_digest_124 hl (k := 1) rfl (nI_1 i4x) (by decide) rfl ?_
                  clear hl; intro ls hl
                  refine lv_goto (tgt := 103) hx hb dX2_digest_127 (by decide) ?_
                  have e : fX2_digest_b4 i3x i4x v4_1 σL4 ρL4 = (((v4_1 * (31 : Int64)) + (((fX2_potFact σL4 ρL4 (nI i3x) (nI i4x)).1).toInt64)), σ7, σ8) := by subst eσ7 eσ8; exact rfl
                  exact ih4 (i4x + 1) ((v4_1 * (31 : Int64)) + (((fX2_potFact σL4 ρL4 (nI i3x) (nI i4x)).1).toInt64)) σ7 σ8 (by omega) (by rw [← e]; exact hX4) (by rw [← eσ8]; exact hU_potFact hI4) _ _ hC ls (lv_sub hl [0, 2, 3, 1, 4] rfl)
              exact loop4 4 0 v3_1 σL3 ρL3 (by omega) rfl hI3 _ _ hC ls (lv_sub hl [0, 1, 2, 3, 4] rfl)
          exact loop3 3 0 (8 : Int32) v2_1 σ ρ (by omega) rfl hU _ _ hC ls (lv_sub hl [0, 1, 2, 3, 4] rfl)
        | succ n2x ih2 =>
          intro i2x v2_1 hin2 hX2 H locs hC ls hl
          refine lv_iload hx hb dX2_digest_64 (lv_at hl 0 rfl) ?_
          refine lv_iload hx hb dX2_digest_66 (lv_at hl 1 rfl) ?_
          refine lv_icmp_ge (tgt := 93) hx hb dX2_digest_68 (by decide) (fun c3 => absurd c3 (show ¬ (8 : Int32) ≤ nI i2x from (nI_ge (a := i2x) (b := 8) (by omega) (by decide) : ¬ nI 8 ≤ nI i2x))) (fun c3 => ?_)
          refine lv_aload_n hx hb dX2_digest_71 rfl (lv_at hl 2 rfl) ?_
          refine lv_iload hx hb dX2_digest_72 (lv_at hl 0 rfl) ?_
          refine c_ild hx hb (hC.sw (by decide)) (by decide) 1 (by decide) (by decide) (j := i2x) rfl (show _ < 8 by omega) dX2_digest_74 ?_
          refine lv_istore (lv' := [(6, .int (ρ 1 i2x)), (5, .int (nI i2x)), (4, .int (8 : Int32)), (3, .ref (a (17*0+(0+1)))), (1, .long v2_1), (0, .ref (a 34))]) hx hb dX2_digest_75 hl (by decide) rfl ?_
          clear hl; intro ls hl
          refine lv_lload_n hx hb dX2_digest_77 rfl (lv_at hl 4 rfl) ?_
          refine lv_ldc2 hx hb hown h_l166 dX2_digest_78 ?_
          refine lv_lmul hx hb dX2_digest_81 ?_
          refine lv_iload hx hb dX2_digest_82 (lv_at hl 0 rfl) ?_
          refine lv_i2l (v := ((ρ 1 i2x)).toInt64) hx hb dX2_digest_84 rfl ?_
          refine lv_ladd hx hb dX2_digest_85 ?_
          refine lv_lstore_n (lv' := [(1, .long ((v2_1 * (31 : Int64)) + (((ρ 1 i2x)).toInt64))), (6, .int (ρ 1 i2x)), (5, .int (nI i2x)), (4, .int (8 : Int32)), (3, .ref (a (17*0+(0+1)))), (0, .ref (a 34))]) hx hb dX2_digest_86 rfl hl (by decide) rfl ?_
          clear hl; intro ls hl
          refine lv_iinc (v := (nI (i2x + 1))) (lv' := [(5, .int (nI (i2x + 1))), (1, .long ((v2_1 * (31 : Int64)) + (((ρ 1 i2x)).toInt64))), (6, .int (ρ 1 i2x)), (4, .int (8 : Int32)), (3, .ref (a (17*0+(0+1)))), (0, .ref (a 34))]) hx hb dX2_digest_87 hl (k := 2) rfl (nI_1 i2x) (by decide) rfl ?_
          clear hl; intro ls hl
          refine lv_goto (tgt := 64) hx hb dX2_digest_90 (by decide) ?_
          have e : fX2_digest_b2 ρ i2x v2_1 = ((v2_1 * (31 : Int64)) + (((ρ 1 i2x)).toInt64)) := by exact rfl
          exact ih2 (i2x + 1) ((v2_1 * (31 : Int64)) + (((ρ 1 i2x)).toInt64)) (by omega) (by rw [← e]; exact hX2) _ _ hC ls (lv_sub hl [0, 3, 4, 1, 5] rfl)
      exact loop2 8 0 ((v1_1 * (31 : Int64)) + (((ρ 0 6)).toInt64)) (by omega) rfl _ _ hC ls (lv_sub hl [0, 1, 2, 3, 4] rfl)
    | succ n1x ih1 =>
      intro i1x v1_1 hin1 hX1 H locs hC ls hl
      refine lv_iload_n hx hb dX2_digest_6 rfl (lv_at hl 0 rfl) ?_
      refine lv_bipush (v := 13) hx hb dX2_digest_7 (by decide) ?_
      refine lv_icmp_ge (tgt := 34) hx hb dX2_digest_9 (by decide) (fun c1 => absurd c1 (show ¬ (13 : Int32) ≤ nI i1x from (nI_ge (a := i1x) (b := 13) (by omega) (by decide) : ¬ nI 13 ≤ nI i1x))) (fun c1 => ?_)
      refine lv_lload_n hx hb dX2_digest_12 rfl (lv_at hl 1 rfl) ?_
      refine lv_ldc2 hx hb hown h_l166 dX2_digest_13 ?_
      refine lv_lmul hx hb dX2_digest_16 ?_
      refine lv_aload_n hx hb dX2_digest_17 rfl (lv_at hl 2 rfl) ?_
      refine cg_w hx hb hts h_iX2 hown hC 0 (by decide) h_f10 dX2_digest_18 ?_
      refine lv_iload_n hx hb dX2_digest_21 rfl (lv_at hl 0 rfl) ?_
      refine c_iVp (n := 1) hF (c_X1_tally l D cI cM a 0 ρ σ (by decide) (nI i1x) ) gX2_digest_X1_tally rfl rfl rfl (by decide +kernel) ⟨Nat.le_of_ble_eq_true rfl, Nat.le_of_ble_eq_true rfl⟩ (hC.sw (by decide)) hA ((hC.sw (by decide)).recvS (by decide)) rfl hl.1 rfl (Nat.le_of_ble_eq_true rfl) dX2_digest_22 ⟨Nat.zero_le _, Nat.zero_le _⟩ ?_
      clear hC; intro H locs hC
      have hC := hC.sw (by decide)
      refine lv_i2l (v := ((fX1_tally ρ (nI i1x))).toInt64) hx hb dX2_digest_25 rfl ?_
      refine lv_ladd hx hb dX2_digest_26 ?_
      refine lv_lstore_n (lv' := [(1, .long ((v1_1 * (31 : Int64)) + (((fX1_tally ρ (nI i1x))).toInt64))), (3, .int (nI i1x)), (0, .ref (a 34))]) hx hb dX2_digest_27 rfl hl (by decide) rfl ?_
      clear hl; intro ls hl
      refine lv_iinc (v := (nI (i1x + 1))) (lv' := [(3, .int (nI (i1x + 1))), (1, .long ((v1_1 * (31 : Int64)) + (((fX1_tally ρ (nI i1x))).toInt64))), (0, .ref (a 34))]) hx hb dX2_digest_28 hl (k := 1) rfl (nI_1 i1x) (by decide) rfl ?_
      clear hl; intro ls hl
      refine lv_goto (tgt := 6) hx hb dX2_digest_31 (by decide) ?_
      have e : fX2_digest_b1 ρ i1x v1_1 = ((v1_1 * (31 : Int64)) + (((fX1_tally ρ (nI i1x))).toInt64)) := by exact rfl
      exact ih1 (i1x + 1) ((v1_1 * (31 : Int64)) + (((fX1_tally ρ (nI i1x))).toInt64)) (by omega) (by rw [← e]; exact hX1) _ _ hC ls (lv_sub hl [0, 1, 2] rfl)
  exact loop1 13 0 (1361 : Int64) (by omega) rfl _ _ hC ls (lv_sub hl [0, 1, 2] rfl)
