/-- counting changes the counts alone -/
theorem countCombers_row {σ : Nat → Nat → Int32} {r : Nat} (hr : r ≠ 3) : fX1_countCombers σ r = σ r := by
  have h1 : itR (fun i x => fX1_countCombers_b1 i x) 0 3 σ r = σ r := itR_pres (P := fun x => x r = σ r) (f := fun i x => fX1_countCombers_b1 i x) (N := 3) (fun i x hi hx => by
    unfold fX1_countCombers_b1
    exact (up2_row hr).trans hx) 3 0 σ (by decide) rfl
  have h2 : ∀ y : Nat → Nat → Int32, itR (fun i x => fX1_countCombers_b2 i x) 0 12 y r = y r := fun y => itR_pres (P := fun x => x r = y r) (f := fun i x => fX1_countCombers_b2 i x) (N := 12) (fun i x hi hx => by
    unfold fX1_countCombers_b2
    split
    · exact hx
    · exact (up2_row hr).trans hx) 12 0 y (by decide) rfl
  unfold fX1_countCombers fX1_countCombers_k1 fX1_countCombers_k2
  exact (h2 _).trans h1
theorem combersAt_snd {σ : Nat → Nat → Int32} {p0 : Int32} : (fX1_combersAt σ p0).2 = fX1_countCombers σ := by
  have h : ∃ v, fX1_combersAt σ p0 = (v, fX1_countCombers σ) := by
    by_cases h1 : p0 < 0
    · exact ⟨0, by unfold fX1_combersAt; exact if_pos h1⟩
    · by_cases h2 : (3 : Int32) ≤ p0
      · exact ⟨0, by unfold fX1_combersAt; exact (if_neg h1).trans (if_pos h2)⟩
      · exact ⟨fX1_countCombers σ 3 (p0).toNatClampNeg, by unfold fX1_combersAt; exact (if_neg h1).trans (if_neg h2)⟩
  obtain ⟨v, hv⟩ := h
  rw [hv]
theorem combersAt_row {σ : Nat → Nat → Int32} {p0 : Int32} {r : Nat} (hr : r ≠ 3) : (fX1_combersAt σ p0).2 r = σ r := by
  rw [combersAt_snd]
  exact countCombers_row hr
abbrev rmX2_isOutside : Room := { frames := 0, cells := 0, slots := 0, locals := 0 }
def fX2_isOutside (p0 : Int32) (p1 : Int32) (p2 : Int32) : Int32 :=
    if p0 < p1 then
      (1 : Int32)
    else
      if p0 ≤ p2 then
        (0 : Int32)
      else
        (1 : Int32)
set_option maxHeartbeats 400000 in
set_option maxRecDepth 100000 in
theorem c_X2_isOutside (l : Launch) (D : va_G) (cI cM : ClassId) (a : Nat → Nat) (s : Nat) (σ ρ : (Nat → Nat → Int32)) (p0 : Int32) (p1 : Int32) (p2 : Int32) : cMi l yX2_isOutside wsX2_isOutside rmX2_isOutside D cI cM a [.int p0, .int p1, .int p2] s σ ρ (fX2_isOutside p0 p1 p2) σ := by
  intro sz
  refine c_head (cc := cX2_isOutside) (maxL := 3) (ret := (some .boolean)) (plainFor_of_name (by decide)) rfl (Nat.le_of_ble_eq_true rfl) ?_
  intro p e S m below meth c hx hb hr hml hown hts hlocks hnm hsz hA hC ls hl
  have hl : lv_has ls 3 [(0, .int p0), (1, .int p1), (2, .int p2)] := hl
  refine lv_iload_n hx hb dX2_isOutside_0 rfl (lv_at hl 0 rfl) ?_
  refine lv_iload_n hx hb dX2_isOutside_1 rfl (lv_at hl 1 rfl) ?_
  refine lv_icmp_lt (tgt := 10) hx hb dX2_isOutside_2 (by decide) (fun c1 => ?_) (fun c1 => ?_)
  · refine lv_iconst (v := 1) hx hb dX2_isOutside_10 (by decide) ?_
    refine lv_goto (tgt := 15) hx hb dX2_isOutside_11 (by decide) ?_
    have e : fX2_isOutside p0 p1 p2 = (1 : Int32) := by unfold fX2_isOutside; exact ((if_pos c1).trans rfl)
    exact c_zret hx hb hr hlocks hC dX2_isOutside_15 (Or.inr rfl) ⟨by rw [e], rfl⟩
  · refine lv_iload_n hx hb dX2_isOutside_5 rfl (lv_at hl 0 rfl) ?_
    refine lv_iload_n hx hb dX2_isOutside_6 rfl (lv_at hl 2 rfl) ?_
    refine lv_icmp_le (tgt := 14) hx hb dX2_isOutside_7 (by decide) (fun c2 => ?_) (fun c2 => ?_)
    · refine lv_iconst (v := 0) hx hb dX2_isOutside_14 (by decide) ?_
      have e : fX2_isOutside p0 p1 p2 = (0 : Int32) := by unfold fX2_isOutside; exact ((if_neg c1).trans ((if_pos c2).trans rfl))
      exact c_zret hx hb hr hlocks hC dX2_isOutside_15 (Or.inl rfl) ⟨by rw [e], rfl⟩
    · refine lv_iconst (v := 1) hx hb dX2_isOutside_10 (by decide) ?_
      refine lv_goto (tgt := 15) hx hb dX2_isOutside_11 (by decide) ?_
      have e : fX2_isOutside p0 p1 p2 = (1 : Int32) := by unfold fX2_isOutside; exact ((if_neg c1).trans ((if_neg c2).trans rfl))
      exact c_zret hx hb hr hlocks hC dX2_isOutside_15 (Or.inr rfl) ⟨by rw [e], rfl⟩
theorem hasMember_ix {σ : Nat → Nat → Int32} {p0 : Int32} (h : ¬ fX1_hasMember σ p0 = 0) : p0 = nI p0.toNatClampNeg ∧ p0.toNatClampNeg < 12 := by
  unfold fX1_hasMember at h
  split at h
  · exact absurd rfl h
  · split at h
    · exact absurd rfl h
    · rename_i h1 h2
      exact ixc (N := 12) h1 h2 (by decide)
theorem isOut_le {p0 p1 p2 : Int32} (h : fX2_isOutside p0 p1 p2 = 0) : ¬ p0 < p1 ∧ ¬ p2 < p0 := by
  unfold fX2_isOutside at h
  split at h
  · exact absurd h (by decide)
  · split at h
    · rename_i h1 h2
      exact ⟨h1, Int32.not_lt.mpr h2⟩
    · exact absurd h (by decide)
theorem isOut_ix {p0 p2 : Int32} {N : Nat} (h : fX2_isOutside p0 (0 : Int32) p2 = 0) (hN : p2.toInt + 1 = (N : Int)) (h31 : N < 2 ^ 31) : p0 = nI p0.toNatClampNeg ∧ p0.toNatClampNeg < N := by
  obtain ⟨h1, h2⟩ := isOut_le h
  obtain ⟨j, hj, rfl⟩ := nI_of h1
  rw [nI_clamp hj]
  refine ⟨rfl, ?_⟩
  rw [Int32.lt_iff_toInt_lt, nI_toInt hj] at h2
  omega
theorem isOut_ix1 {p0 p2 : Int32} {N : Nat} (h : fX2_isOutside p0 (1 : Int32) p2 = 0) (hN : p2.toInt + 1 = (N : Int)) (h31 : N < 2 ^ 31) : p0 = nI p0.toNatClampNeg ∧ p0.toNatClampNeg < N := by
  obtain ⟨h1, h2⟩ := isOut_le h
  obtain ⟨j, hj, rfl⟩ := nI_of (x := p0) (fun q => h1 (Int32.lt_trans q (by decide)))
  rw [nI_clamp hj]
  refine ⟨rfl, ?_⟩
  rw [Int32.lt_iff_toInt_lt, nI_toInt hj] at h2
  omega
abbrev rmX2_join : Room := { frames := 6, cells := 1, slots := 6, locals := 158 }
def fX2_join (σ : (Nat → Nat → Int32)) (ρ : (Nat → Nat → Int32)) (p0 : Int32) (p1 : Int32) : ((Int32 × (Nat → Nat → Int32) × (Nat → Nat → Int32)) ⊕ String) :=
    if (fX2_isOutside p0 (1 : Int32) (9 : Int32)) = 0 then
      if (fX2_isOutside p1 (1 : Int32) (20 : Int32)) = 0 then
        if (fX2_isOutside (σ 0 1) (0 : Int32) (11 : Int32)) = 0 then
          let σ4 : (Nat → Nat → Int32) := (fX0_enter σ (((σ 0 1)).toNatClampNeg) p0 p1)
          let σ5 : (Nat → Nat → Int32) := up2 σ4 0 1 ((σ4 0 1) + (1 : Int32))
          .inl ((σ 0 1), σ5, ρ)
        else
          .inr "java/lang/IllegalStateException"
      else
        .inr "java/lang/IllegalArgumentException"
    else
      .inr "java/lang/IllegalArgumentException"
theorem xinA_join : ∀ w ∈ (vx_atS RX2 27 "java/lang/IllegalArgumentException" xNs).filter goodWord, w ∈ wsX2_join := by decide +kernel
theorem xinS_join : ∀ w ∈ (vx_atS RX2 38 "java/lang/IllegalStateException" xNs).filter goodWord, w ∈ wsX2_join := by decide +kernel
set_option maxHeartbeats 400000 in
set_option maxRecDepth 100000 in
theorem c_X2_join (l : Launch) (hl0 : l.stackTraces = false) (D : va_G) (cI cM : ClassId) (a : Nat → Nat) (σ ρ : (Nat → Nat → Int32)) (p0 : Int32) (p1 : Int32) : xMi l yX2_join wsX2_join rmX2_join D cI cM a [.ref (a 34), .int p0, .int p1] 0 σ ρ (fX2_join σ ρ p0 p1) := by
  intro sz
  refine x_head (cc := cX2_join) (maxL := 4) (ret := (some .int)) (by decide) rfl (Nat.le_of_ble_eq_true rfl) ?_
  intro p e S m below meth c hx hb hr hml hown hts hlocks htab hXN hXZ hA hC ls hl
  have hF : CallFix p m c cX2_join 4 S [.ref (a 34), .int p0, .int p1].toArray wsX2_join RX2 := ⟨hx, hb, hml, hown, hts⟩
  have h_k23 : (Cond.classLink RX2 23 "java/lang/IllegalArgumentException").before [.ref (a 34), .int p0, .int p1].toArray S = true := hts _ (by decide +kernel)
  have h_nA : (Cond.initialized "java/lang/IllegalArgumentException").before [.ref (a 34), .int p0, .int p1].toArray S = true := hts _ (by decide +kernel)
  have h_aA : ∀ w ∈ vx_atS RX2 27 "java/lang/IllegalArgumentException" xNs, w.before [.ref (a 34), .int p0, .int p1].toArray S = true := xhatA (fun w hw => hts w (xinA_join w hw)) hXN
  have h_f10 : (Cond.fieldLink RX2 10 "CombersSociety" "now" "LCombersSociety$Society;").before [.ref (a 34), .int p0, .int p1].toArray S = true := hts _ (by decide +kernel)
  have h_iX2 : ∀ w ∈ u_ws RX2 TX2 2, w ∈ wsX2_join := by decide +kernel
  have h_f30 : (Cond.fieldLink RX2 30 "CombersSociety$Society" "joined" "I").before [.ref (a 34), .int p0, .int p1].toArray S = true := hts _ (by decide +kernel)
  have h_iX1 : ∀ w ∈ u_ws RX1 TX1 14, w ∈ wsX2_join := by decide +kernel
  have h_f39 : (Cond.fieldLink RX2 39 "CombersSociety$Society" "members" "[LCombersSociety$Member;").before [.ref (a 34), .int p0, .int p1].toArray S = true := hts _ (by decide +kernel)
  have h_k34 : (Cond.classLink RX2 34 "java/lang/IllegalStateException").before [.ref (a 34), .int p0, .int p1].toArray S = true := hts _ (by decide +kernel)
  have h_nS : (Cond.initialized "java/lang/IllegalStateException").before [.ref (a 34), .int p0, .int p1].toArray S = true := hts _ (by decide +kernel)
  have h_aS : ∀ w ∈ vx_atS RX2 38 "java/lang/IllegalStateException" xNs, w.before [.ref (a 34), .int p0, .int p1].toArray S = true := xhatS (fun w hw => hts w (xinS_join w hw)) hXN
  have hl : lv_has ls 4 [(0, .ref (a 34)), (1, .int p0), (2, .int p1)] := hl
  refine lv_iload_n hx hb dX2_join_0 rfl (lv_at hl 1 rfl) ?_
  refine lv_iconst (v := 1) hx hb dX2_join_1 (by decide) ?_
  refine lv_bipush (v := 9) hx hb dX2_join_2 (by decide) ?_
  refine c_iSi (n := 3) hF (c_X2_isOutside l D cI cM a 0 σ ρ p0 (1 : Int32) (9 : Int32) ) gX2_join_X2_isOutside rfl rfl rfl (by decide +kernel) ⟨Nat.le_of_ble_eq_true rfl, Nat.le_of_ble_eq_true rfl⟩ hC hA rfl hl.1 rfl (Nat.le_of_ble_eq_true rfl) dX2_join_4 ⟨Nat.zero_le _, Nat.zero_le _⟩ ?_
  clear hC; intro H locs hC
  refine lv_if_ne (tgt := 20) hx hb dX2_join_7 (by decide) (fun c1 => ?_) (fun c1 => ?_)
  · obtain ⟨sa, hsa⟩ := hXN.s25
    have e : fX2_join σ ρ p0 p1 = .inr "java/lang/IllegalArgumentException" := by unfold fX2_join; exact ((if_neg c1).trans rfl)
    exact vx_throwS (names := xNs) hx hb hl0 hown (by decide) (by decide) h_k23 h_nA hsa h_aA xotA hXZ.1 hXZ.2 hC.2.2.2 (hl.1.trans hml.symm) dX2_join_20 dX2_join_23 dX2_join_24 dX2_join_26 dX2_join_29 (fun x hx => (htab x hx).elim) (Nat.le_of_ble_eq_true rfl) (Nat.le_of_ble_eq_true rfl) (Nat.le_of_ble_eq_true rfl) (Nat.le_of_ble_eq_true rfl) hlocks (fun t hal hz ho => x_thrown hC e hal hz ho) hC.2.2.2.2.2 (Nat.le_of_ble_eq_true rfl) (Nat.le_of_ble_eq_true rfl)
  · refine lv_iload_n hx hb dX2_join_10 rfl (lv_at hl 2 rfl) ?_
    refine lv_iconst (v := 1) hx hb dX2_join_11 (by decide) ?_
    refine lv_bipush (v := 20) hx hb dX2_join_12 (by decide) ?_
    refine c_iSi (n := 3) hF (c_X2_isOutside l D cI cM a 0 σ ρ p1 (1 : Int32) (20 : Int32) ) gX2_join_X2_isOutside rfl rfl rfl (by decide +kernel) ⟨Nat.le_of_ble_eq_true rfl, Nat.le_of_ble_eq_true rfl⟩ hC hA rfl hl.1 rfl (Nat.le_of_ble_eq_true rfl) dX2_join_14 ⟨Nat.zero_le _, Nat.zero_le _⟩ ?_
    clear hC; intro H locs hC
    refine lv_if_eq (tgt := 30) hx hb dX2_join_17 (by decide) (fun c2 => ?_) (fun c2 => ?_)
    · refine lv_aload_n hx hb dX2_join_30 rfl (lv_at hl 0 rfl) ?_
      refine cg_w hx hb hts h_iX2 hown hC 0 (by decide) h_f10 dX2_join_31 ?_
      refine cg_s hx hb hts h_iX1 hown hC (by decide) 1 (by decide) h_f30 dX2_join_34 ?_
      refine lv_istore_n (lv' := [(3, .int (σ 0 1)), (0, .ref (a 34)), (1, .int p0), (2, .int p1)]) hx hb dX2_join_37 rfl hl (by decide) rfl ?_
      clear hl; intro ls hl
      refine lv_iload_n hx hb dX2_join_38 rfl (lv_at hl 0 rfl) ?_
      refine lv_iconst (v := 0) hx hb dX2_join_39 (by decide) ?_
      refine lv_bipush (v := 11) hx hb dX2_join_40 (by decide) ?_
      refine c_iSi (n := 3) hF (c_X2_isOutside l D cI cM a 0 σ ρ (σ 0 1) (0 : Int32) (11 : Int32) ) gX2_join_X2_isOutside rfl rfl rfl (by decide +kernel) ⟨Nat.le_of_ble_eq_true rfl, Nat.le_of_ble_eq_true rfl⟩ hC hA rfl hl.1 rfl (Nat.le_of_ble_eq_true rfl) dX2_join_42 ⟨Nat.zero_le _, Nat.zero_le _⟩ ?_
      clear hC; intro H locs hC
      refine lv_if_eq (tgt := 58) hx hb dX2_join_45 (by decide) (fun c3 => ?_) (fun c3 => ?_)
      · refine lv_aload_n hx hb dX2_join_58 rfl (lv_at hl 1 rfl) ?_
        refine cg_w hx hb hts h_iX2 hown hC 0 (by decide) h_f10 dX2_join_59 ?_
        refine cg_r hx hb hts h_iX1 hown hC (by decide) 3 (by decide) h_f39 dX2_join_62 ?_
        refine lv_iload_n hx hb dX2_join_65 rfl (lv_at hl 0 rfl) ?_
        refine c_mld hx hb hC (by decide) (j := ((σ 0 1)).toNatClampNeg) (isOut_ix (N := 12) c3 (by decide) (by decide)).1 (isOut_ix (N := 12) c3 (by decide) (by decide)).2 dX2_join_66 ?_
        refine lv_iload_n hx hb dX2_join_67 rfl (lv_at hl 2 rfl) ?_
        refine lv_iload_n hx hb dX2_join_68 rfl (lv_at hl 3 rfl) ?_
        refine c_iVv (n := 2) hF (c_X0_enter l D cI cM a 0 σ ρ (by decide) (((σ 0 1)).toNatClampNeg) (isOut_ix (N := 12) c3 (by decide) (by decide)).2 p0 p1 ) gX2_join_X0_enter rfl rfl rfl (by decide +kernel) ⟨Nat.le_of_ble_eq_true rfl, Nat.le_of_ble_eq_true rfl⟩ hC hA (hC.recvM (by decide) (isOut_ix (N := 12) c3 (by decide) (by decide)).2) rfl hl.1 rfl (Nat.le_of_ble_eq_true rfl) dX2_join_69 ⟨Nat.zero_le _, Nat.zero_le _⟩ ?_
        clear hC; intro H locs σ4 eσ4 hC
        refine lv_aload_n hx hb dX2_join_72 rfl (lv_at hl 1 rfl) ?_
        refine cg_w hx hb hts h_iX2 hown hC 0 (by decide) h_f10 dX2_join_73 ?_
        refine lv_dup hx hb dX2_join_76 rfl ?_
        refine cg_s hx hb hts h_iX1 hown hC (by decide) 1 (by decide) h_f30 dX2_join_77 ?_
        refine lv_iconst (v := 1) hx hb dX2_join_80 (by decide) ?_
        refine lv_iadd hx hb dX2_join_81 ?_
        refine cp_s hx hb hts h_iX1 hown hC (by decide) 1 (by decide) h_f30 dX2_join_82 ?_
        clear hC; intro H locs σ5 eσ5 hC
        refine lv_iload_n hx hb dX2_join_85 rfl (lv_at hl 0 rfl) ?_
        have e : fX2_join σ ρ p0 p1 = .inl ((σ 0 1), σ5, ρ) := by subst eσ4 eσ5; unfold fX2_join; exact ((if_pos c1).trans ((if_pos c2).trans ((if_pos c3).trans rfl)))
        exact x_iret hx hb hr hlocks hC dX2_join_86 e
      · obtain ⟨sa, hsa⟩ := hXN.s36
        have e : fX2_join σ ρ p0 p1 = .inr "java/lang/IllegalStateException" := by unfold fX2_join; exact ((if_pos c1).trans ((if_pos c2).trans ((if_neg c3).trans rfl)))
        exact vx_throwS (names := xNs) hx hb hl0 hown (by decide) (by decide) h_k34 h_nS hsa h_aS xotS hXZ.1 hXZ.2 hC.2.2.2 (hl.1.trans hml.symm) dX2_join_48 dX2_join_51 dX2_join_52 dX2_join_54 dX2_join_57 (fun x hx => (htab x hx).elim) (Nat.le_of_ble_eq_true rfl) (Nat.le_of_ble_eq_true rfl) (Nat.le_of_ble_eq_true rfl) (Nat.le_of_ble_eq_true rfl) hlocks (fun t hal hz ho => x_thrown hC e hal hz ho) hC.2.2.2.2.2 (Nat.le_of_ble_eq_true rfl) (Nat.le_of_ble_eq_true rfl)
    · obtain ⟨sa, hsa⟩ := hXN.s25
      have e : fX2_join σ ρ p0 p1 = .inr "java/lang/IllegalArgumentException" := by unfold fX2_join; exact ((if_pos c1).trans ((if_neg c2).trans rfl))
      exact vx_throwS (names := xNs) hx hb hl0 hown (by decide) (by decide) h_k23 h_nA hsa h_aA xotA hXZ.1 hXZ.2 hC.2.2.2 (hl.1.trans hml.symm) dX2_join_20 dX2_join_23 dX2_join_24 dX2_join_26 dX2_join_29 (fun x hx => (htab x hx).elim) (Nat.le_of_ble_eq_true rfl) (Nat.le_of_ble_eq_true rfl) (Nat.le_of_ble_eq_true rfl) (Nat.le_of_ble_eq_true rfl) hlocks (fun t hal hz ho => x_thrown hC e hal hz ho) hC.2.2.2.2.2 (Nat.le_of_ble_eq_true rfl) (Nat.le_of_ble_eq_true rfl)
abbrev rmX2_place : Room := { frames := 6, cells := 1, slots := 6, locals := 158 }
def fX2_place (σ : (Nat → Nat → Int32)) (ρ : (Nat → Nat → Int32)) (p0 : Int32) (p1 : Int32) : ((Int32 × (Nat → Nat → Int32) × (Nat → Nat → Int32)) ⊕ String) :=
    if (fX1_hasMember σ p0) = 0 then
      .inr "java/lang/IndexOutOfBoundsException"
    else
      if (fX2_isOutside p1 (-1 : Int32) (2 : Int32)) = 0 then
        if (σ ((p0).toNatClampNeg+5) 6) = (2 : Int32) then
          .inr "java/lang/IllegalStateException"
        else
          if (fX1_hasRoom σ p1 ((p0).toNatClampNeg)) = 0 then
            .inr "java/lang/IllegalStateException"
          else
            let σ5 : (Nat → Nat → Int32) := up2 σ ((p0).toNatClampNeg+5) 5 p1
            .inl ((σ ((p0).toNatClampNeg+5) 5), σ5, ρ)
      else
        .inr "java/lang/IndexOutOfBoundsException"
theorem xinI_place : ∀ w ∈ (vx_atS RX2 57 "java/lang/IndexOutOfBoundsException" xNs).filter goodWord, w ∈ wsX2_place := by decide +kernel
theorem xinS_place : ∀ w ∈ (vx_atS RX2 38 "java/lang/IllegalStateException" xNs).filter goodWord, w ∈ wsX2_place := by decide +kernel
set_option maxHeartbeats 400000 in
set_option maxRecDepth 100000 in
theorem c_X2_place (l : Launch) (hl0 : l.stackTraces = false) (D : va_G) (cI cM : ClassId) (a : Nat → Nat) (σ ρ : (Nat → Nat → Int32)) (p0 : Int32) (p1 : Int32) : xMi l yX2_place wsX2_place rmX2_place D cI cM a [.ref (a 34), .int p0, .int p1] 0 σ ρ (fX2_place σ ρ p0 p1) := by
  intro sz
  refine x_head (cc := cX2_place) (maxL := 5) (ret := (some .int)) (by decide) rfl (Nat.le_of_ble_eq_true rfl) ?_
  intro p e S m below meth c hx hb hr hml hown hts hlocks htab hXN hXZ hA hC ls hl
  have hF : CallFix p m c cX2_place 5 S [.ref (a 34), .int p0, .int p1].toArray wsX2_place RX2 := ⟨hx, hb, hml, hown, hts⟩
  have h_f10 : (Cond.fieldLink RX2 10 "CombersSociety" "now" "LCombersSociety$Society;").before [.ref (a 34), .int p0, .int p1].toArray S = true := hts _ (by decide +kernel)
  have h_iX2 : ∀ w ∈ u_ws RX2 TX2 2, w ∈ wsX2_place := by decide +kernel
  have h_k53 : (Cond.classLink RX2 53 "java/lang/IndexOutOfBoundsException").before [.ref (a 34), .int p0, .int p1].toArray S = true := hts _ (by decide +kernel)
  have h_nI : (Cond.initialized "java/lang/IndexOutOfBoundsException").before [.ref (a 34), .int p0, .int p1].toArray S = true := hts _ (by decide +kernel)
  have h_aI : ∀ w ∈ vx_atS RX2 57 "java/lang/IndexOutOfBoundsException" xNs, w.before [.ref (a 34), .int p0, .int p1].toArray S = true := xhatI (fun w hw => hts w (xinI_place w hw)) hXN
  have h_f39 : (Cond.fieldLink RX2 39 "CombersSociety$Society" "members" "[LCombersSociety$Member;").before [.ref (a 34), .int p0, .int p1].toArray S = true := hts _ (by decide +kernel)
  have h_iX1 : ∀ w ∈ u_ws RX1 TX1 14, w ∈ wsX2_place := by decide +kernel
  have h_f58 : (Cond.fieldLink RX2 58 "CombersSociety$Member" "health" "I").before [.ref (a 34), .int p0, .int p1].toArray S = true := hts _ (by decide +kernel)
  have h_iX0 : ∀ w ∈ u_ws RX0 TX0 10, w ∈ wsX2_place := by decide +kernel
  have h_k34 : (Cond.classLink RX2 34 "java/lang/IllegalStateException").before [.ref (a 34), .int p0, .int p1].toArray S = true := hts _ (by decide +kernel)
  have h_nS : (Cond.initialized "java/lang/IllegalStateException").before [.ref (a 34), .int p0, .int p1].toArray S = true := hts _ (by decide +kernel)
  have h_aS : ∀ w ∈ vx_atS RX2 38 "java/lang/IllegalStateException" xNs, w.before [.ref (a 34), .int p0, .int p1].toArray S = true := xhatS (fun w hw => hts w (xinS_place w hw)) hXN
  have h_f67 : (Cond.fieldLink RX2 67 "CombersSociety$Member" "pot" "I").before [.ref (a 34), .int p0, .int p1].toArray S = true := hts _ (by decide +kernel)
  have hl : lv_has ls 5 [(0, .ref (a 34)), (1, .int p0), (2, .int p1)] := hl
  refine lv_aload_n hx hb dX2_place_0 rfl (lv_at hl 0 rfl) ?_
  refine cg_w hx hb hts h_iX2 hown hC 0 (by decide) h_f10 dX2_place_1 ?_
  refine lv_iload_n hx hb dX2_place_4 rfl (lv_at hl 1 rfl) ?_
  refine c_iVp (n := 1) hF (c_X1_hasMember l D cI cM a 0 σ ρ (by decide) p0 ) gX2_place_X1_hasMember rfl rfl rfl (by decide +kernel) ⟨Nat.le_of_ble_eq_true rfl, Nat.le_of_ble_eq_true rfl⟩ hC hA (hC.recvS (by decide)) rfl hl.1 rfl (Nat.le_of_ble_eq_true rfl) dX2_place_5 ⟨Nat.zero_le _, Nat.zero_le _⟩ ?_
  clear hC; intro H locs hC
  refine lv_if_eq (tgt := 20) hx hb dX2_place_8 (by decide) (fun c1 => ?_) (fun c1 => ?_)
  · obtain ⟨sa, hsa⟩ := hXN.s55
    have e : fX2_place σ ρ p0 p1 = .inr "java/lang/IndexOutOfBoundsException" := by unfold fX2_place; exact ((if_pos c1).trans rfl)
    exact vx_throwS (names := xNs) hx hb hl0 hown (by decide) (by decide) h_k53 h_nI hsa h_aI xotI hXZ.1 hXZ.2 hC.2.2.2 (hl.1.trans hml.symm) dX2_place_20 dX2_place_23 dX2_place_24 dX2_place_26 dX2_place_29 (fun x hx => (htab x hx).elim) (Nat.le_of_ble_eq_true rfl) (Nat.le_of_ble_eq_true rfl) (Nat.le_of_ble_eq_true rfl) (Nat.le_of_ble_eq_true rfl) hlocks (fun t hal hz ho => x_thrown hC e hal hz ho) hC.2.2.2.2.2 (Nat.le_of_ble_eq_true rfl) (Nat.le_of_ble_eq_true rfl)
  · refine lv_iload_n hx hb dX2_place_11 rfl (lv_at hl 2 rfl) ?_
    refine lv_iconst (v := -1) hx hb dX2_place_12 (by decide) ?_
    refine lv_iconst (v := 2) hx hb dX2_place_13 (by decide) ?_
    refine c_iSi (n := 3) hF (c_X2_isOutside l D cI cM a 0 σ ρ p1 (-1 : Int32) (2 : Int32) ) gX2_place_X2_isOutside rfl rfl rfl (by decide +kernel) ⟨Nat.le_of_ble_eq_true rfl, Nat.le_of_ble_eq_true rfl⟩ hC hA rfl hl.1 rfl (Nat.le_of_ble_eq_true rfl) dX2_place_14 ⟨Nat.zero_le _, Nat.zero_le _⟩ ?_
    clear hC; intro H locs hC
    refine lv_if_eq (tgt := 30) hx hb dX2_place_17 (by decide) (fun c2 => ?_) (fun c2 => ?_)
    · refine lv_aload_n hx hb dX2_place_30 rfl (lv_at hl 0 rfl) ?_
      refine cg_w hx hb hts h_iX2 hown hC 0 (by decide) h_f10 dX2_place_31 ?_
      refine cg_r hx hb hts h_iX1 hown hC (by decide) 3 (by decide) h_f39 dX2_place_34 ?_
      refine lv_iload_n hx hb dX2_place_37 rfl (lv_at hl 1 rfl) ?_
      refine c_mld hx hb hC (by decide) (j := (p0).toNatClampNeg) (hasMember_ix c1).1 (hasMember_ix c1).2 dX2_place_38 ?_
      refine lv_astore_n (lv' := [(3, .ref (a (17*0+((p0).toNatClampNeg+5)))), (0, .ref (a 34)), (1, .int p0), (2, .int p1)]) hx hb dX2_place_39 rfl hl (by decide) rfl ?_
      clear hl; intro ls hl
      refine lv_aload_n hx hb dX2_place_40 rfl (lv_at hl 0 rfl) ?_
      refine cg_m hx hb hts h_iX0 hown hC (by decide) (hasMember_ix c1).2 6 (by decide) h_f58 dX2_place_41 ?_
      refine lv_iconst (v := 2) hx hb dX2_place_44 (by decide) ?_
      refine lv_icmp_eq (tgt := 60) hx hb dX2_place_45 (by decide) (fun c3 => ?_) (fun c3 => ?_)
      · obtain ⟨sa, hsa⟩ := hXN.s65
        have e : fX2_place σ ρ p0 p1 = .inr "java/lang/IllegalStateException" := by unfold fX2_place; exact ((if_neg c1).trans ((if_pos c2).trans ((if_pos c3).trans rfl)))
        exact vx_throwS (names := xNs) hx hb hl0 hown (by decide) (by decide) h_k34 h_nS hsa h_aS xotS hXZ.1 hXZ.2 hC.2.2.2 (hl.1.trans hml.symm) dX2_place_60 dX2_place_63 dX2_place_64 dX2_place_66 dX2_place_69 (fun x hx => (htab x hx).elim) (Nat.le_of_ble_eq_true rfl) (Nat.le_of_ble_eq_true rfl) (Nat.le_of_ble_eq_true rfl) (Nat.le_of_ble_eq_true rfl) hlocks (fun t hal hz ho => x_thrown hC e hal hz ho) hC.2.2.2.2.2 (Nat.le_of_ble_eq_true rfl) (Nat.le_of_ble_eq_true rfl)
      · refine lv_aload_n hx hb dX2_place_48 rfl (lv_at hl 1 rfl) ?_
        refine cg_w hx hb hts h_iX2 hown hC 0 (by decide) h_f10 dX2_place_49 ?_
        refine lv_iload_n hx hb dX2_place_52 rfl (lv_at hl 3 rfl) ?_
        refine lv_aload_n hx hb dX2_place_53 rfl (lv_at hl 0 rfl) ?_
        refine c_iVp (n := 2) hF (c_X1_hasRoom l D cI cM a 0 σ ρ (by decide) p1 ((p0).toNatClampNeg) (hasMember_ix c1).2 ) gX2_place_X1_hasRoom rfl rfl rfl (by decide +kernel) ⟨Nat.le_of_ble_eq_true rfl, Nat.le_of_ble_eq_true rfl⟩ hC hA (hC.recvS (by decide)) rfl hl.1 rfl (Nat.le_of_ble_eq_true rfl) dX2_place_54 ⟨Nat.zero_le _, Nat.zero_le _⟩ ?_
        clear hC; intro H locs hC
        refine lv_if_ne (tgt := 70) hx hb dX2_place_57 (by decide) (fun c4 => ?_) (fun c4 => ?_)
        · refine lv_aload_n hx hb dX2_place_70 rfl (lv_at hl 0 rfl) ?_
          refine cg_m hx hb hts h_iX0 hown hC (by decide) (hasMember_ix c1).2 5 (by decide) h_f67 dX2_place_71 ?_
          refine lv_istore (lv' := [(4, .int (σ ((p0).toNatClampNeg+5) 5)), (3, .ref (a (17*0+((p0).toNatClampNeg+5)))), (0, .ref (a 34)), (1, .int p0), (2, .int p1)]) hx hb dX2_place_74 hl (by decide) rfl ?_
          clear hl; intro ls hl
          refine lv_aload_n hx hb dX2_place_76 rfl (lv_at hl 1 rfl) ?_
          refine lv_iload_n hx hb dX2_place_77 rfl (lv_at hl 4 rfl) ?_
          refine cp_m hx hb hts h_iX0 hown hC (by decide) (hasMember_ix c1).2 5 (by decide) h_f67 dX2_place_78 ?_
          clear hC; intro H locs σ5 eσ5 hC
          refine lv_iload hx hb dX2_place_81 (lv_at hl 0 rfl) ?_
          have e : fX2_place σ ρ p0 p1 = .inl ((σ ((p0).toNatClampNeg+5) 5), σ5, ρ) := by subst eσ5; unfold fX2_place; exact ((if_neg c1).trans ((if_pos c2).trans ((if_neg c3).trans ((if_neg c4).trans rfl))))
          exact x_iret hx hb hr hlocks hC dX2_place_83 e
        · obtain ⟨sa, hsa⟩ := hXN.s65
          have e : fX2_place σ ρ p0 p1 = .inr "java/lang/IllegalStateException" := by unfold fX2_place; exact ((if_neg c1).trans ((if_pos c2).trans ((if_neg c3).trans ((if_pos c4).trans rfl))))
          exact vx_throwS (names := xNs) hx hb hl0 hown (by decide) (by decide) h_k34 h_nS hsa h_aS xotS hXZ.1 hXZ.2 hC.2.2.2 (hl.1.trans hml.symm) dX2_place_60 dX2_place_63 dX2_place_64 dX2_place_66 dX2_place_69 (fun x hx => (htab x hx).elim) (Nat.le_of_ble_eq_true rfl) (Nat.le_of_ble_eq_true rfl) (Nat.le_of_ble_eq_true rfl) (Nat.le_of_ble_eq_true rfl) hlocks (fun t hal hz ho => x_thrown hC e hal hz ho) hC.2.2.2.2.2 (Nat.le_of_ble_eq_true rfl) (Nat.le_of_ble_eq_true rfl)
    · obtain ⟨sa, hsa⟩ := hXN.s55
      have e : fX2_place σ ρ p0 p1 = .inr "java/lang/IndexOutOfBoundsException" := by unfold fX2_place; exact ((if_neg c1).trans ((if_neg c2).trans rfl))
      exact vx_throwS (names := xNs) hx hb hl0 hown (by decide) (by decide) h_k53 h_nI hsa h_aI xotI hXZ.1 hXZ.2 hC.2.2.2 (hl.1.trans hml.symm) dX2_place_20 dX2_place_23 dX2_place_24 dX2_place_26 dX2_place_29 (fun x hx => (htab x hx).elim) (Nat.le_of_ble_eq_true rfl) (Nat.le_of_ble_eq_true rfl) (Nat.le_of_ble_eq_true rfl) (Nat.le_of_ble_eq_true rfl) hlocks (fun t hal hz ho => x_thrown hC e hal hz ho) hC.2.2.2.2.2 (Nat.le_of_ble_eq_true rfl) (Nat.le_of_ble_eq_true rfl)
abbrev rmX2_give : Room := { frames := 6, cells := 1, slots := 6, locals := 158 }
def fX2_give (σ : (Nat → Nat → Int32)) (ρ : (Nat → Nat → Int32)) (p0 : Int32) (p1 : Int32) (p2 : Int32) : ((Int32 × (Nat → Nat → Int32) × (Nat → Nat → Int32)) ⊕ String) :=
    if (fX1_hasMember σ p0) = 0 then
      .inr "java/lang/IndexOutOfBoundsException"
    else
      if (fX1_hasMember σ p1) = 0 then
        .inr "java/lang/IndexOutOfBoundsException"
      else
        if (fX2_isOutside p2 (1 : Int32) (99 : Int32)) = 0 then
          if p0 = p1 then
            .inr "java/lang/IllegalStateException"
          else
            if (σ ((p0).toNatClampNeg+5) 6) = (2 : Int32) then
              .inr "java/lang/IllegalStateException"
            else
              if (σ ((p1).toNatClampNeg+5) 6) = (2 : Int32) then
                .inr "java/lang/IllegalStateException"
              else
                if p2 ≤ (σ ((p0).toNatClampNeg+5) 2) then
                  let σ8 : (Nat → Nat → Int32) := up2 σ ((p0).toNatClampNeg+5) 2 ((σ ((p0).toNatClampNeg+5) 2) - p2)
                  let σ9 : (Nat → Nat → Int32) := up2 σ8 ((p1).toNatClampNeg+5) 2 ((σ8 ((p1).toNatClampNeg+5) 2) + p2)
                  .inl ((σ9 ((p0).toNatClampNeg+5) 2), σ9, ρ)
                else
                  .inr "java/lang/IllegalStateException"
        else
          .inr "java/lang/IllegalArgumentException"
theorem xinA_give : ∀ w ∈ (vx_atS RX2 27 "java/lang/IllegalArgumentException" xNs).filter goodWord, w ∈ wsX2_give := by decide +kernel
theorem xinI_give : ∀ w ∈ (vx_atS RX2 57 "java/lang/IndexOutOfBoundsException" xNs).filter goodWord, w ∈ wsX2_give := by decide +kernel
theorem xinS_give : ∀ w ∈ (vx_atS RX2 38 "java/lang/IllegalStateException" xNs).filter goodWord, w ∈ wsX2_give := by decide +kernel
set_option maxHeartbeats 400000 in
set_option maxRecDepth 100000 in
theorem c_X2_give (l : Launch) (hl0 : l.stackTraces = false) (D : va_G) (cI cM : ClassId) (a : Nat → Nat) (σ ρ : (Nat → Nat → Int32)) (p0 : Int32) (p1 : Int32) (p2 : Int32) : xMi l yX2_give wsX2_give rmX2_give D cI cM a [.ref (a 34), .int p0, .int p1, .int p2] 0 σ ρ (fX2_give σ ρ p0 p1 p2) := by
  intro sz
  refine x_head (cc := cX2_give) (maxL := 6) (ret := (some .int)) (by decide) rfl (Nat.le_of_ble_eq_true rfl) ?_
  intro p e S m below meth c hx hb hr hml hown hts hlocks htab hXN hXZ hA hC ls hl
  have hF : CallFix p m c cX2_give 6 S [.ref (a 34), .int p0, .int p1, .int p2].toArray wsX2_give RX2 := ⟨hx, hb, hml, hown, hts⟩
  have h_f10 : (Cond.fieldLink RX2 10 "CombersSociety" "now" "LCombersSociety$Society;").before [.ref (a 34), .int p0, .int p1, .int p2].toArray S = true := hts _ (by decide +kernel)
  have h_iX2 : ∀ w ∈ u_ws RX2 TX2 2, w ∈ wsX2_give := by decide +kernel
  have h_k53 : (Cond.classLink RX2 53 "java/lang/IndexOutOfBoundsException").before [.ref (a 34), .int p0, .int p1, .int p2].toArray S = true := hts _ (by decide +kernel)
  have h_nI : (Cond.initialized "java/lang/IndexOutOfBoundsException").before [.ref (a 34), .int p0, .int p1, .int p2].toArray S = true := hts _ (by decide +kernel)
  have h_aI : ∀ w ∈ vx_atS RX2 57 "java/lang/IndexOutOfBoundsException" xNs, w.before [.ref (a 34), .int p0, .int p1, .int p2].toArray S = true := xhatI (fun w hw => hts w (xinI_give w hw)) hXN
  have h_f39 : (Cond.fieldLink RX2 39 "CombersSociety$Society" "members" "[LCombersSociety$Member;").before [.ref (a 34), .int p0, .int p1, .int p2].toArray S = true := hts _ (by decide +kernel)
  have h_iX1 : ∀ w ∈ u_ws RX1 TX1 14, w ∈ wsX2_give := by decide +kernel
  have h_k34 : (Cond.classLink RX2 34 "java/lang/IllegalStateException").before [.ref (a 34), .int p0, .int p1, .int p2].toArray S = true := hts _ (by decide +kernel)
  have h_nS : (Cond.initialized "java/lang/IllegalStateException").before [.ref (a 34), .int p0, .int p1, .int p2].toArray S = true := hts _ (by decide +kernel)
  have h_aS : ∀ w ∈ vx_atS RX2 38 "java/lang/IllegalStateException" xNs, w.before [.ref (a 34), .int p0, .int p1, .int p2].toArray S = true := xhatS (fun w hw => hts w (xinS_give w hw)) hXN
  have h_f58 : (Cond.fieldLink RX2 58 "CombersSociety$Member" "health" "I").before [.ref (a 34), .int p0, .int p1, .int p2].toArray S = true := hts _ (by decide +kernel)
  have h_iX0 : ∀ w ∈ u_ws RX0 TX0 10, w ∈ wsX2_give := by decide +kernel
  have h_f74 : (Cond.fieldLink RX2 74 "CombersSociety$Member" "coins" "I").before [.ref (a 34), .int p0, .int p1, .int p2].toArray S = true := hts _ (by decide +kernel)
  have h_k23 : (Cond.classLink RX2 23 "java/lang/IllegalArgumentException").before [.ref (a 34), .int p0, .int p1, .int p2].toArray S = true := hts _ (by decide +kernel)
  have h_nA : (Cond.initialized "java/lang/IllegalArgumentException").before [.ref (a 34), .int p0, .int p1, .int p2].toArray S = true := hts _ (by decide +kernel)
  have h_aA : ∀ w ∈ vx_atS RX2 27 "java/lang/IllegalArgumentException" xNs, w.before [.ref (a 34), .int p0, .int p1, .int p2].toArray S = true := xhatA (fun w hw => hts w (xinA_give w hw)) hXN
  have hl : lv_has ls 6 [(0, .ref (a 34)), (1, .int p0), (2, .int p1), (3, .int p2)] := hl
  refine lv_aload_n hx hb dX2_give_0 rfl (lv_at hl 0 rfl) ?_
  refine cg_w hx hb hts h_iX2 hown hC 0 (by decide) h_f10 dX2_give_1 ?_
  refine lv_iload_n hx hb dX2_give_4 rfl (lv_at hl 1 rfl) ?_
  refine c_iVp (n := 1) hF (c_X1_hasMember l D cI cM a 0 σ ρ (by decide) p0 ) gX2_give_X1_hasMember rfl rfl rfl (by decide +kernel) ⟨Nat.le_of_ble_eq_true rfl, Nat.le_of_ble_eq_true rfl⟩ hC hA (hC.recvS (by decide)) rfl hl.1 rfl (Nat.le_of_ble_eq_true rfl) dX2_give_5 ⟨Nat.zero_le _, Nat.zero_le _⟩ ?_
  clear hC; intro H locs hC
  refine lv_if_eq (tgt := 22) hx hb dX2_give_8 (by decide) (fun c1 => ?_) (fun c1 => ?_)
  · obtain ⟨sa, hsa⟩ := hXN.s70
    have e : fX2_give σ ρ p0 p1 p2 = .inr "java/lang/IndexOutOfBoundsException" := by unfold fX2_give; exact ((if_pos c1).trans rfl)
    exact vx_throwS (names := xNs) hx hb hl0 hown (by decide) (by decide) h_k53 h_nI hsa h_aI xotI hXZ.1 hXZ.2 hC.2.2.2 (hl.1.trans hml.symm) dX2_give_22 dX2_give_25 dX2_give_26 dX2_give_28 dX2_give_31 (fun x hx => (htab x hx).elim) (Nat.le_of_ble_eq_true rfl) (Nat.le_of_ble_eq_true rfl) (Nat.le_of_ble_eq_true rfl) (Nat.le_of_ble_eq_true rfl) hlocks (fun t hal hz ho => x_thrown hC e hal hz ho) hC.2.2.2.2.2 (Nat.le_of_ble_eq_true rfl) (Nat.le_of_ble_eq_true rfl)
  · refine lv_aload_n hx hb dX2_give_11 rfl (lv_at hl 0 rfl) ?_
    refine cg_w hx hb hts h_iX2 hown hC 0 (by decide) h_f10 dX2_give_12 ?_
    refine lv_iload_n hx hb dX2_give_15 rfl (lv_at hl 2 rfl) ?_
    refine c_iVp (n := 1) hF (c_X1_hasMember l D cI cM a 0 σ ρ (by decide) p1 ) gX2_give_X1_hasMember rfl rfl rfl (by decide +kernel) ⟨Nat.le_of_ble_eq_true rfl, Nat.le_of_ble_eq_true rfl⟩ hC hA (hC.recvS (by decide)) rfl hl.1 rfl (Nat.le_of_ble_eq_true rfl) dX2_give_16 ⟨Nat.zero_le _, Nat.zero_le _⟩ ?_
    clear hC; intro H locs hC
    refine lv_if_ne (tgt := 32) hx hb dX2_give_19 (by decide) (fun c2 => ?_) (fun c2 => ?_)
    · refine lv_iload_n hx hb dX2_give_32 rfl (lv_at hl 3 rfl) ?_
      refine lv_iconst (v := 1) hx hb dX2_give_33 (by decide) ?_
      refine lv_bipush (v := 99) hx hb dX2_give_34 (by decide) ?_
      refine c_iSi (n := 3) hF (c_X2_isOutside l D cI cM a 0 σ ρ p2 (1 : Int32) (99 : Int32) ) gX2_give_X2_isOutside rfl rfl rfl (by decide +kernel) ⟨Nat.le_of_ble_eq_true rfl, Nat.le_of_ble_eq_true rfl⟩ hC hA rfl hl.1 rfl (Nat.le_of_ble_eq_true rfl) dX2_give_36 ⟨Nat.zero_le _, Nat.zero_le _⟩ ?_
      clear hC; intro H locs hC
      refine lv_if_eq (tgt := 52) hx hb dX2_give_39 (by decide) (fun c3 => ?_) (fun c3 => ?_)
      · refine lv_aload_n hx hb dX2_give_52 rfl (lv_at hl 0 rfl) ?_
        refine cg_w hx hb hts h_iX2 hown hC 0 (by decide) h_f10 dX2_give_53 ?_
        refine cg_r hx hb hts h_iX1 hown hC (by decide) 3 (by decide) h_f39 dX2_give_56 ?_
        refine lv_iload_n hx hb dX2_give_59 rfl (lv_at hl 1 rfl) ?_
        refine c_mld hx hb hC (by decide) (j := (p0).toNatClampNeg) (hasMember_ix c1).1 (hasMember_ix c1).2 dX2_give_60 ?_
        refine lv_astore (lv' := [(4, .ref (a (17*0+((p0).toNatClampNeg+5)))), (0, .ref (a 34)), (1, .int p0), (2, .int p1), (3, .int p2)]) hx hb dX2_give_61 hl (by decide) rfl ?_
        clear hl; intro ls hl
        refine lv_aload_n hx hb dX2_give_63 rfl (lv_at hl 1 rfl) ?_
        refine cg_w hx hb hts h_iX2 hown hC 0 (by decide) h_f10 dX2_give_64 ?_
        refine cg_r hx hb hts h_iX1 hown hC (by decide) 3 (by decide) h_f39 dX2_give_67 ?_
        refine lv_iload_n hx hb dX2_give_70 rfl (lv_at hl 3 rfl) ?_
        refine c_mld hx hb hC (by decide) (j := (p1).toNatClampNeg) (hasMember_ix c2).1 (hasMember_ix c2).2 dX2_give_71 ?_
        refine lv_astore (lv' := [(5, .ref (a (17*0+((p1).toNatClampNeg+5)))), (4, .ref (a (17*0+((p0).toNatClampNeg+5)))), (0, .ref (a 34)), (1, .int p0), (2, .int p1), (3, .int p2)]) hx hb dX2_give_72 hl (by decide) rfl ?_
        clear hl; intro ls hl
        refine lv_iload_n hx hb dX2_give_74 rfl (lv_at hl 3 rfl) ?_
        refine lv_iload_n hx hb dX2_give_75 rfl (lv_at hl 4 rfl) ?_
        refine lv_icmp_eq (tgt := 106) hx hb dX2_give_76 (by decide) (fun c4 => ?_) (fun c4 => ?_)
        · obtain ⟨sa, hsa⟩ := hXN.s76
          have e : fX2_give σ ρ p0 p1 p2 = .inr "java/lang/IllegalStateException" := by unfold fX2_give; exact ((if_neg c1).trans ((if_neg c2).trans ((if_pos c3).trans ((if_pos c4).trans rfl))))
          exact vx_throwS (names := xNs) hx hb hl0 hown (by decide) (by decide) h_k34 h_nS hsa h_aS xotS hXZ.1 hXZ.2 hC.2.2.2 (hl.1.trans hml.symm) dX2_give_106 dX2_give_109 dX2_give_110 dX2_give_112 dX2_give_115 (fun x hx => (htab x hx).elim) (Nat.le_of_ble_eq_true rfl) (Nat.le_of_ble_eq_true rfl) (Nat.le_of_ble_eq_true rfl) (Nat.le_of_ble_eq_true rfl) hlocks (fun t hal hz ho => x_thrown hC e hal hz ho) hC.2.2.2.2.2 (Nat.le_of_ble_eq_true rfl) (Nat.le_of_ble_eq_true rfl)
        · refine lv_aload hx hb dX2_give_79 (lv_at hl 1 rfl) ?_
          refine cg_m hx hb hts h_iX0 hown hC (by decide) (hasMember_ix c1).2 6 (by decide) h_f58 dX2_give_81 ?_
          refine lv_iconst (v := 2) hx hb dX2_give_84 (by decide) ?_
          refine lv_icmp_eq (tgt := 106) hx hb dX2_give_85 (by decide) (fun c5 => ?_) (fun c5 => ?_)
          · obtain ⟨sa, hsa⟩ := hXN.s76
            have e : fX2_give σ ρ p0 p1 p2 = .inr "java/lang/IllegalStateException" := by unfold fX2_give; exact ((if_neg c1).trans ((if_neg c2).trans ((if_pos c3).trans ((if_neg c4).trans ((if_pos c5).trans rfl)))))
            exact vx_throwS (names := xNs) hx hb hl0 hown (by decide) (by decide) h_k34 h_nS hsa h_aS xotS hXZ.1 hXZ.2 hC.2.2.2 (hl.1.trans hml.symm) dX2_give_106 dX2_give_109 dX2_give_110 dX2_give_112 dX2_give_115 (fun x hx => (htab x hx).elim) (Nat.le_of_ble_eq_true rfl) (Nat.le_of_ble_eq_true rfl) (Nat.le_of_ble_eq_true rfl) (Nat.le_of_ble_eq_true rfl) hlocks (fun t hal hz ho => x_thrown hC e hal hz ho) hC.2.2.2.2.2 (Nat.le_of_ble_eq_true rfl) (Nat.le_of_ble_eq_true rfl)
          · refine lv_aload hx hb dX2_give_88 (lv_at hl 0 rfl) ?_
            refine cg_m hx hb hts h_iX0 hown hC (by decide) (hasMember_ix c2).2 6 (by decide) h_f58 dX2_give_90 ?_
            refine lv_iconst (v := 2) hx hb dX2_give_93 (by decide) ?_
            refine lv_icmp_eq (tgt := 106) hx hb dX2_give_94 (by decide) (fun c6 => ?_) (fun c6 => ?_)
            · obtain ⟨sa, hsa⟩ := hXN.s76
              have e : fX2_give σ ρ p0 p1 p2 = .inr "java/lang/IllegalStateException" := by unfold fX2_give; exact ((if_neg c1).trans ((if_neg c2).trans ((if_pos c3).trans ((if_neg c4).trans ((if_neg c5).trans ((if_pos c6).trans rfl))))))
              exact vx_throwS (names := xNs) hx hb hl0 hown (by decide) (by decide) h_k34 h_nS hsa h_aS xotS hXZ.1 hXZ.2 hC.2.2.2 (hl.1.trans hml.symm) dX2_give_106 dX2_give_109 dX2_give_110 dX2_give_112 dX2_give_115 (fun x hx => (htab x hx).elim) (Nat.le_of_ble_eq_true rfl) (Nat.le_of_ble_eq_true rfl) (Nat.le_of_ble_eq_true rfl) (Nat.le_of_ble_eq_true rfl) hlocks (fun t hal hz ho => x_thrown hC e hal hz ho) hC.2.2.2.2.2 (Nat.le_of_ble_eq_true rfl) (Nat.le_of_ble_eq_true rfl)
            · refine lv_aload hx hb dX2_give_97 (lv_at hl 1 rfl) ?_
              refine cg_m hx hb hts h_iX0 hown hC (by decide) (hasMember_ix c1).2 2 (by decide) h_f74 dX2_give_99 ?_
              refine lv_iload_n hx hb dX2_give_102 rfl (lv_at hl 5 rfl) ?_
              refine lv_icmp_ge (tgt := 116) hx hb dX2_give_103 (by decide) (fun c7 => ?_) (fun c7 => ?_)
              · refine lv_aload hx hb dX2_give_116 (lv_at hl 1 rfl) ?_
                refine lv_dup hx hb dX2_give_118 rfl ?_
                refine cg_m hx hb hts h_iX0 hown hC (by decide) (hasMember_ix c1).2 2 (by decide) h_f74 dX2_give_119 ?_
                refine lv_iload_n hx hb dX2_give_122 rfl (lv_at hl 5 rfl) ?_
                refine lv_isub hx hb dX2_give_123 ?_
                refine cp_m hx hb hts h_iX0 hown hC (by decide) (hasMember_ix c1).2 2 (by decide) h_f74 dX2_give_124 ?_
                clear hC; intro H locs σ8 eσ8 hC
                refine lv_aload hx hb dX2_give_127 (lv_at hl 0 rfl) ?_
                refine lv_dup hx hb dX2_give_129 rfl ?_
                refine cg_m hx hb hts h_iX0 hown hC (by decide) (hasMember_ix c2).2 2 (by decide) h_f74 dX2_give_130 ?_
                refine lv_iload_n hx hb dX2_give_133 rfl (lv_at hl 5 rfl) ?_
                refine lv_iadd hx hb dX2_give_134 ?_
                refine cp_m hx hb hts h_iX0 hown hC (by decide) (hasMember_ix c2).2 2 (by decide) h_f74 dX2_give_135 ?_
                clear hC; intro H locs σ9 eσ9 hC
                refine lv_aload hx hb dX2_give_138 (lv_at hl 1 rfl) ?_
                refine cg_m hx hb hts h_iX0 hown hC (by decide) (hasMember_ix c1).2 2 (by decide) h_f74 dX2_give_140 ?_
                have e : fX2_give σ ρ p0 p1 p2 = .inl ((σ9 ((p0).toNatClampNeg+5) 2), σ9, ρ) := by subst eσ8 eσ9; unfold fX2_give; exact ((if_neg c1).trans ((if_neg c2).trans ((if_pos c3).trans ((if_neg c4).trans ((if_neg c5).trans ((if_neg c6).trans ((if_pos c7).trans rfl)))))))
                exact x_iret hx hb hr hlocks hC dX2_give_143 e
              · obtain ⟨sa, hsa⟩ := hXN.s76
                have e : fX2_give σ ρ p0 p1 p2 = .inr "java/lang/IllegalStateException" := by unfold fX2_give; exact ((if_neg c1).trans ((if_neg c2).trans ((if_pos c3).trans ((if_neg c4).trans ((if_neg c5).trans ((if_neg c6).trans ((if_neg c7).trans rfl)))))))
                exact vx_throwS (names := xNs) hx hb hl0 hown (by decide) (by decide) h_k34 h_nS hsa h_aS xotS hXZ.1 hXZ.2 hC.2.2.2 (hl.1.trans hml.symm) dX2_give_106 dX2_give_109 dX2_give_110 dX2_give_112 dX2_give_115 (fun x hx => (htab x hx).elim) (Nat.le_of_ble_eq_true rfl) (Nat.le_of_ble_eq_true rfl) (Nat.le_of_ble_eq_true rfl) (Nat.le_of_ble_eq_true rfl) hlocks (fun t hal hz ho => x_thrown hC e hal hz ho) hC.2.2.2.2.2 (Nat.le_of_ble_eq_true rfl) (Nat.le_of_ble_eq_true rfl)
      · obtain ⟨sa, hsa⟩ := hXN.s72
        have e : fX2_give σ ρ p0 p1 p2 = .inr "java/lang/IllegalArgumentException" := by unfold fX2_give; exact ((if_neg c1).trans ((if_neg c2).trans ((if_neg c3).trans rfl)))
        exact vx_throwS (names := xNs) hx hb hl0 hown (by decide) (by decide) h_k23 h_nA hsa h_aA xotA hXZ.1 hXZ.2 hC.2.2.2 (hl.1.trans hml.symm) dX2_give_42 dX2_give_45 dX2_give_46 dX2_give_48 dX2_give_51 (fun x hx => (htab x hx).elim) (Nat.le_of_ble_eq_true rfl) (Nat.le_of_ble_eq_true rfl) (Nat.le_of_ble_eq_true rfl) (Nat.le_of_ble_eq_true rfl) hlocks (fun t hal hz ho => x_thrown hC e hal hz ho) hC.2.2.2.2.2 (Nat.le_of_ble_eq_true rfl) (Nat.le_of_ble_eq_true rfl)
    · obtain ⟨sa, hsa⟩ := hXN.s70
      have e : fX2_give σ ρ p0 p1 p2 = .inr "java/lang/IndexOutOfBoundsException" := by unfold fX2_give; exact ((if_neg c1).trans ((if_pos c2).trans rfl))
      exact vx_throwS (names := xNs) hx hb hl0 hown (by decide) (by decide) h_k53 h_nI hsa h_aI xotI hXZ.1 hXZ.2 hC.2.2.2 (hl.1.trans hml.symm) dX2_give_22 dX2_give_25 dX2_give_26 dX2_give_28 dX2_give_31 (fun x hx => (htab x hx).elim) (Nat.le_of_ble_eq_true rfl) (Nat.le_of_ble_eq_true rfl) (Nat.le_of_ble_eq_true rfl) (Nat.le_of_ble_eq_true rfl) hlocks (fun t hal hz ho => x_thrown hC e hal hz ho) hC.2.2.2.2.2 (Nat.le_of_ble_eq_true rfl) (Nat.le_of_ble_eq_true rfl)
abbrev rmX2_settle : Room := { frames := 6, cells := 1, slots := 6, locals := 158 }
def fX2_settle (σ : (Nat → Nat → Int32)) (ρ : (Nat → Nat → Int32)) (p0 : Int32) : ((Int32 × (Nat → Nat → Int32) × (Nat → Nat → Int32)) ⊕ String) :=
    if (fX1_hasMember σ p0) = 0 then
      .inr "java/lang/IndexOutOfBoundsException"
    else
      if (σ ((p0).toNatClampNeg+5) 6) = (2 : Int32) then
        .inr "java/lang/IllegalStateException"
      else
        let σ3 : (Nat → Nat → Int32) := (fX0_payMarks σ ((p0).toNatClampNeg)).2
        let σ4 : (Nat → Nat → Int32) := up2 σ3 0 2 ((σ 0 2) + (fX0_payMarks σ ((p0).toNatClampNeg)).1)
        .inl ((σ4 ((p0).toNatClampNeg+5) 3), σ4, ρ)
theorem xinI_settle : ∀ w ∈ (vx_atS RX2 57 "java/lang/IndexOutOfBoundsException" xNs).filter goodWord, w ∈ wsX2_settle := by decide +kernel
theorem xinS_settle : ∀ w ∈ (vx_atS RX2 38 "java/lang/IllegalStateException" xNs).filter goodWord, w ∈ wsX2_settle := by decide +kernel
set_option maxHeartbeats 400000 in
set_option maxRecDepth 100000 in
theorem c_X2_settle (l : Launch) (hl0 : l.stackTraces = false) (D : va_G) (cI cM : ClassId) (a : Nat → Nat) (σ ρ : (Nat → Nat → Int32)) (p0 : Int32) : xMi l yX2_settle wsX2_settle rmX2_settle D cI cM a [.ref (a 34), .int p0] 0 σ ρ (fX2_settle σ ρ p0) := by
  intro sz
  refine x_head (cc := cX2_settle) (maxL := 3) (ret := (some .int)) (by decide) rfl (Nat.le_of_ble_eq_true rfl) ?_
  intro p e S m below meth c hx hb hr hml hown hts hlocks htab hXN hXZ hA hC ls hl
  have hF : CallFix p m c cX2_settle 3 S [.ref (a 34), .int p0].toArray wsX2_settle RX2 := ⟨hx, hb, hml, hown, hts⟩
  have h_f10 : (Cond.fieldLink RX2 10 "CombersSociety" "now" "LCombersSociety$Society;").before [.ref (a 34), .int p0].toArray S = true := hts _ (by decide +kernel)
  have h_iX2 : ∀ w ∈ u_ws RX2 TX2 2, w ∈ wsX2_settle := by decide +kernel
  have h_f39 : (Cond.fieldLink RX2 39 "CombersSociety$Society" "members" "[LCombersSociety$Member;").before [.ref (a 34), .int p0].toArray S = true := hts _ (by decide +kernel)
  have h_iX1 : ∀ w ∈ u_ws RX1 TX1 14, w ∈ wsX2_settle := by decide +kernel
  have h_f58 : (Cond.fieldLink RX2 58 "CombersSociety$Member" "health" "I").before [.ref (a 34), .int p0].toArray S = true := hts _ (by decide +kernel)
  have h_iX0 : ∀ w ∈ u_ws RX0 TX0 10, w ∈ wsX2_settle := by decide +kernel
  have h_f80 : (Cond.fieldLink RX2 80 "CombersSociety$Society" "box" "I").before [.ref (a 34), .int p0].toArray S = true := hts _ (by decide +kernel)
  have h_f87 : (Cond.fieldLink RX2 87 "CombersSociety$Member" "marks" "I").before [.ref (a 34), .int p0].toArray S = true := hts _ (by decide +kernel)
  have h_k34 : (Cond.classLink RX2 34 "java/lang/IllegalStateException").before [.ref (a 34), .int p0].toArray S = true := hts _ (by decide +kernel)
  have h_nS : (Cond.initialized "java/lang/IllegalStateException").before [.ref (a 34), .int p0].toArray S = true := hts _ (by decide +kernel)
  have h_aS : ∀ w ∈ vx_atS RX2 38 "java/lang/IllegalStateException" xNs, w.before [.ref (a 34), .int p0].toArray S = true := xhatS (fun w hw => hts w (xinS_settle w hw)) hXN
  have h_k53 : (Cond.classLink RX2 53 "java/lang/IndexOutOfBoundsException").before [.ref (a 34), .int p0].toArray S = true := hts _ (by decide +kernel)
  have h_nI : (Cond.initialized "java/lang/IndexOutOfBoundsException").before [.ref (a 34), .int p0].toArray S = true := hts _ (by decide +kernel)
  have h_aI : ∀ w ∈ vx_atS RX2 57 "java/lang/IndexOutOfBoundsException" xNs, w.before [.ref (a 34), .int p0].toArray S = true := xhatI (fun w hw => hts w (xinI_settle w hw)) hXN
  have hl : lv_has ls 3 [(0, .ref (a 34)), (1, .int p0)] := hl
  refine lv_aload_n hx hb dX2_settle_0 rfl (lv_at hl 0 rfl) ?_
  refine cg_w hx hb hts h_iX2 hown hC 0 (by decide) h_f10 dX2_settle_1 ?_
  refine lv_iload_n hx hb dX2_settle_4 rfl (lv_at hl 1 rfl) ?_
  refine c_iVp (n := 1) hF (c_X1_hasMember l D cI cM a 0 σ ρ (by decide) p0 ) gX2_settle_X1_hasMember rfl rfl rfl (by decide +kernel) ⟨Nat.le_of_ble_eq_true rfl, Nat.le_of_ble_eq_true rfl⟩ hC hA (hC.recvS (by decide)) rfl hl.1 rfl (Nat.le_of_ble_eq_true rfl) dX2_settle_5 ⟨Nat.zero_le _, Nat.zero_le _⟩ ?_
  clear hC; intro H locs hC
  refine lv_if_ne (tgt := 21) hx hb dX2_settle_8 (by decide) (fun c1 => ?_) (fun c1 => ?_)
  · refine lv_aload_n hx hb dX2_settle_21 rfl (lv_at hl 0 rfl) ?_
    refine cg_w hx hb hts h_iX2 hown hC 0 (by decide) h_f10 dX2_settle_22 ?_
    refine cg_r hx hb hts h_iX1 hown hC (by decide) 3 (by decide) h_f39 dX2_settle_25 ?_
    refine lv_iload_n hx hb dX2_settle_28 rfl (lv_at hl 1 rfl) ?_
    refine c_mld hx hb hC (by decide) (j := (p0).toNatClampNeg) (hasMember_ix c1).1 (hasMember_ix c1).2 dX2_settle_29 ?_
    refine lv_astore_n (lv' := [(2, .ref (a (17*0+((p0).toNatClampNeg+5)))), (0, .ref (a 34)), (1, .int p0)]) hx hb dX2_settle_30 rfl hl (by decide) rfl ?_
    clear hl; intro ls hl
    refine lv_aload_n hx hb dX2_settle_31 rfl (lv_at hl 0 rfl) ?_
    refine cg_m hx hb hts h_iX0 hown hC (by decide) (hasMember_ix c1).2 6 (by decide) h_f58 dX2_settle_32 ?_
    refine lv_iconst (v := 2) hx hb dX2_settle_35 (by decide) ?_
    refine lv_icmp_ne (tgt := 49) hx hb dX2_settle_36 (by decide) (fun c2 => ?_) (fun c2 => ?_)
    · refine lv_aload_n hx hb dX2_settle_49 rfl (lv_at hl 1 rfl) ?_
      refine cg_w hx hb hts h_iX2 hown hC 0 (by decide) h_f10 dX2_settle_50 ?_
      refine lv_dup hx hb dX2_settle_53 rfl ?_
      refine cg_s hx hb hts h_iX1 hown hC (by decide) 2 (by decide) h_f80 dX2_settle_54 ?_
      refine lv_aload_n hx hb dX2_settle_57 rfl (lv_at hl 0 rfl) ?_
      refine c_iVi (n := 0) hF (c_X0_payMarks l D cI cM a 0 σ ρ (by decide) ((p0).toNatClampNeg) (hasMember_ix c1).2 ) gX2_settle_X0_payMarks rfl rfl rfl (by decide +kernel) ⟨Nat.le_of_ble_eq_true rfl, Nat.le_of_ble_eq_true rfl⟩ hC hA (hC.recvM (by decide) (hasMember_ix c1).2) rfl hl.1 rfl (Nat.le_of_ble_eq_true rfl) dX2_settle_58 ⟨Nat.zero_le _, Nat.zero_le _⟩ ?_
      clear hC; intro H locs σ3 eσ3 hC
      refine lv_iadd hx hb dX2_settle_61 ?_
      refine cp_s hx hb hts h_iX1 hown hC (by decide) 2 (by decide) h_f80 dX2_settle_62 ?_
      clear hC; intro H locs σ4 eσ4 hC
      refine lv_aload_n hx hb dX2_settle_65 rfl (lv_at hl 0 rfl) ?_
      refine cg_m hx hb hts h_iX0 hown hC (by decide) (hasMember_ix c1).2 3 (by decide) h_f87 dX2_settle_66 ?_
      have e : fX2_settle σ ρ p0 = .inl ((σ4 ((p0).toNatClampNeg+5) 3), σ4, ρ) := by subst eσ3 eσ4; unfold fX2_settle; exact ((if_neg c1).trans ((if_neg c2).trans rfl))
      exact x_iret hx hb hr hlocks hC dX2_settle_69 e
    · obtain ⟨sa, hsa⟩ := hXN.s78
      have e : fX2_settle σ ρ p0 = .inr "java/lang/IllegalStateException" := by unfold fX2_settle; exact ((if_neg c1).trans ((if_pos c2).trans rfl))
      exact vx_throwS (names := xNs) hx hb hl0 hown (by decide) (by decide) h_k34 h_nS hsa h_aS xotS hXZ.1 hXZ.2 hC.2.2.2 (hl.1.trans hml.symm) dX2_settle_39 dX2_settle_42 dX2_settle_43 dX2_settle_45 dX2_settle_48 (fun x hx => (htab x hx).elim) (Nat.le_of_ble_eq_true rfl) (Nat.le_of_ble_eq_true rfl) (Nat.le_of_ble_eq_true rfl) (Nat.le_of_ble_eq_true rfl) hlocks (fun t hal hz ho => x_thrown hC e hal hz ho) hC.2.2.2.2.2 (Nat.le_of_ble_eq_true rfl) (Nat.le_of_ble_eq_true rfl)
  · obtain ⟨sa, hsa⟩ := hXN.s70
    have e : fX2_settle σ ρ p0 = .inr "java/lang/IndexOutOfBoundsException" := by unfold fX2_settle; exact ((if_pos c1).trans rfl)
    exact vx_throwS (names := xNs) hx hb hl0 hown (by decide) (by decide) h_k53 h_nI hsa h_aI xotI hXZ.1 hXZ.2 hC.2.2.2 (hl.1.trans hml.symm) dX2_settle_11 dX2_settle_14 dX2_settle_15 dX2_settle_17 dX2_settle_20 (fun x hx => (htab x hx).elim) (Nat.le_of_ble_eq_true rfl) (Nat.le_of_ble_eq_true rfl) (Nat.le_of_ble_eq_true rfl) (Nat.le_of_ble_eq_true rfl) hlocks (fun t hal hz ho => x_thrown hC e hal hz ho) hC.2.2.2.2.2 (Nat.le_of_ble_eq_true rfl) (Nat.le_of_ble_eq_true rfl)
abbrev rmX2_told : Room := { frames := 6, cells := 1, slots := 6, locals := 158 }
def fX2_told (σ : (Nat → Nat → Int32)) (ρ : (Nat → Nat → Int32)) (p0 : Int32) (p1 : Int32) : ((Int32 × (Nat → Nat → Int32) × (Nat → Nat → Int32)) ⊕ String) :=
    if (fX1_hasMember σ p0) = 0 then
      .inr "java/lang/IndexOutOfBoundsException"
    else
      if (fX2_isOutside p1 (0 : Int32) (8 : Int32)) = 0 then
        .inl ((fX0_fact σ ((p0).toNatClampNeg) p1), σ, ρ)
      else
        .inr "java/lang/IndexOutOfBoundsException"
theorem xinI_told : ∀ w ∈ (vx_atS RX2 57 "java/lang/IndexOutOfBoundsException" xNs).filter goodWord, w ∈ wsX2_told := by decide +kernel
set_option maxHeartbeats 400000 in
set_option maxRecDepth 100000 in
theorem c_X2_told (l : Launch) (hl0 : l.stackTraces = false) (D : va_G) (cI cM : ClassId) (a : Nat → Nat) (σ ρ : (Nat → Nat → Int32)) (p0 : Int32) (p1 : Int32) : xMi l yX2_told wsX2_told rmX2_told D cI cM a [.ref (a 34), .int p0, .int p1] 0 σ ρ (fX2_told σ ρ p0 p1) := by
  intro sz
  refine x_head (cc := cX2_told) (maxL := 3) (ret := (some .int)) (by decide) rfl (Nat.le_of_ble_eq_true rfl) ?_
  intro p e S m below meth c hx hb hr hml hown hts hlocks htab hXN hXZ hA hC ls hl
  have hF : CallFix p m c cX2_told 3 S [.ref (a 34), .int p0, .int p1].toArray wsX2_told RX2 := ⟨hx, hb, hml, hown, hts⟩
  have h_f10 : (Cond.fieldLink RX2 10 "CombersSociety" "now" "LCombersSociety$Society;").before [.ref (a 34), .int p0, .int p1].toArray S = true := hts _ (by decide +kernel)
  have h_iX2 : ∀ w ∈ u_ws RX2 TX2 2, w ∈ wsX2_told := by decide +kernel
  have h_k53 : (Cond.classLink RX2 53 "java/lang/IndexOutOfBoundsException").before [.ref (a 34), .int p0, .int p1].toArray S = true := hts _ (by decide +kernel)
  have h_nI : (Cond.initialized "java/lang/IndexOutOfBoundsException").before [.ref (a 34), .int p0, .int p1].toArray S = true := hts _ (by decide +kernel)
  have h_aI : ∀ w ∈ vx_atS RX2 57 "java/lang/IndexOutOfBoundsException" xNs, w.before [.ref (a 34), .int p0, .int p1].toArray S = true := xhatI (fun w hw => hts w (xinI_told w hw)) hXN
  have h_f39 : (Cond.fieldLink RX2 39 "CombersSociety$Society" "members" "[LCombersSociety$Member;").before [.ref (a 34), .int p0, .int p1].toArray S = true := hts _ (by decide +kernel)
  have h_iX1 : ∀ w ∈ u_ws RX1 TX1 14, w ∈ wsX2_told := by decide +kernel
  have hl : lv_has ls 3 [(0, .ref (a 34)), (1, .int p0), (2, .int p1)] := hl
  refine lv_aload_n hx hb dX2_told_0 rfl (lv_at hl 0 rfl) ?_
  refine cg_w hx hb hts h_iX2 hown hC 0 (by decide) h_f10 dX2_told_1 ?_
  refine lv_iload_n hx hb dX2_told_4 rfl (lv_at hl 1 rfl) ?_
  refine c_iVp (n := 1) hF (c_X1_hasMember l D cI cM a 0 σ ρ (by decide) p0 ) gX2_told_X1_hasMember rfl rfl rfl (by decide +kernel) ⟨Nat.le_of_ble_eq_true rfl, Nat.le_of_ble_eq_true rfl⟩ hC hA (hC.recvS (by decide)) rfl hl.1 rfl (Nat.le_of_ble_eq_true rfl) dX2_told_5 ⟨Nat.zero_le _, Nat.zero_le _⟩ ?_
  clear hC; intro H locs hC
  refine lv_if_eq (tgt := 21) hx hb dX2_told_8 (by decide) (fun c1 => ?_) (fun c1 => ?_)
  · obtain ⟨sa, hsa⟩ := hXN.s90
    have e : fX2_told σ ρ p0 p1 = .inr "java/lang/IndexOutOfBoundsException" := by unfold fX2_told; exact ((if_pos c1).trans rfl)
    exact vx_throwS (names := xNs) hx hb hl0 hown (by decide) (by decide) h_k53 h_nI hsa h_aI xotI hXZ.1 hXZ.2 hC.2.2.2 (hl.1.trans hml.symm) dX2_told_21 dX2_told_24 dX2_told_25 dX2_told_27 dX2_told_30 (fun x hx => (htab x hx).elim) (Nat.le_of_ble_eq_true rfl) (Nat.le_of_ble_eq_true rfl) (Nat.le_of_ble_eq_true rfl) (Nat.le_of_ble_eq_true rfl) hlocks (fun t hal hz ho => x_thrown hC e hal hz ho) hC.2.2.2.2.2 (Nat.le_of_ble_eq_true rfl) (Nat.le_of_ble_eq_true rfl)
  · refine lv_iload_n hx hb dX2_told_11 rfl (lv_at hl 2 rfl) ?_
    refine lv_iconst (v := 0) hx hb dX2_told_12 (by decide) ?_
    refine lv_bipush (v := 8) hx hb dX2_told_13 (by decide) ?_
    refine c_iSi (n := 3) hF (c_X2_isOutside l D cI cM a 0 σ ρ p1 (0 : Int32) (8 : Int32) ) gX2_told_X2_isOutside rfl rfl rfl (by decide +kernel) ⟨Nat.le_of_ble_eq_true rfl, Nat.le_of_ble_eq_true rfl⟩ hC hA rfl hl.1 rfl (Nat.le_of_ble_eq_true rfl) dX2_told_15 ⟨Nat.zero_le _, Nat.zero_le _⟩ ?_
    clear hC; intro H locs hC
    refine lv_if_eq (tgt := 31) hx hb dX2_told_18 (by decide) (fun c2 => ?_) (fun c2 => ?_)
    · refine lv_aload_n hx hb dX2_told_31 rfl (lv_at hl 0 rfl) ?_
      refine cg_w hx hb hts h_iX2 hown hC 0 (by decide) h_f10 dX2_told_32 ?_
      refine cg_r hx hb hts h_iX1 hown hC (by decide) 3 (by decide) h_f39 dX2_told_35 ?_
      refine lv_iload_n hx hb dX2_told_38 rfl (lv_at hl 1 rfl) ?_
      refine c_mld hx hb hC (by decide) (j := (p0).toNatClampNeg) (hasMember_ix c1).1 (hasMember_ix c1).2 dX2_told_39 ?_
      refine lv_iload_n hx hb dX2_told_40 rfl (lv_at hl 2 rfl) ?_
      refine c_iVp (n := 1) hF (c_X0_fact l D cI cM a 0 σ ρ (by decide) ((p0).toNatClampNeg) (hasMember_ix c1).2 p1 ) gX2_told_X0_fact rfl rfl rfl (by decide +kernel) ⟨Nat.le_of_ble_eq_true rfl, Nat.le_of_ble_eq_true rfl⟩ hC hA (hC.recvM (by decide) (hasMember_ix c1).2) rfl hl.1 rfl (Nat.le_of_ble_eq_true rfl) dX2_told_41 ⟨Nat.zero_le _, Nat.zero_le _⟩ ?_
      clear hC; intro H locs hC
      have e : fX2_told σ ρ p0 p1 = .inl ((fX0_fact σ ((p0).toNatClampNeg) p1), σ, ρ) := by unfold fX2_told; exact ((if_neg c1).trans ((if_pos c2).trans rfl))
      exact x_iret hx hb hr hlocks hC dX2_told_44 e
    · obtain ⟨sa, hsa⟩ := hXN.s90
      have e : fX2_told σ ρ p0 p1 = .inr "java/lang/IndexOutOfBoundsException" := by unfold fX2_told; exact ((if_neg c1).trans ((if_neg c2).trans rfl))
      exact vx_throwS (names := xNs) hx hb hl0 hown (by decide) (by decide) h_k53 h_nI hsa h_aI xotI hXZ.1 hXZ.2 hC.2.2.2 (hl.1.trans hml.symm) dX2_told_21 dX2_told_24 dX2_told_25 dX2_told_27 dX2_told_30 (fun x hx => (htab x hx).elim) (Nat.le_of_ble_eq_true rfl) (Nat.le_of_ble_eq_true rfl) (Nat.le_of_ble_eq_true rfl) (Nat.le_of_ble_eq_true rfl) hlocks (fun t hal hz ho => x_thrown hC e hal hz ho) hC.2.2.2.2.2 (Nat.le_of_ble_eq_true rfl) (Nat.le_of_ble_eq_true rfl)
abbrev rmX2_setFever : Room := { frames := 6, cells := 1, slots := 6, locals := 158 }
def fX2_setFever (σ : (Nat → Nat → Int32)) (ρ : (Nat → Nat → Int32)) (p0 : Int32) (p1 : Int32) : ((Int32 × (Nat → Nat → Int32) × (Nat → Nat → Int32)) ⊕ String) :=
    if (fX2_isOutside p0 (0 : Int32) (7 : Int32)) = 0 then
      if (fX2_isOutside p1 (-1 : Int32) (2 : Int32)) = 0 then
        let σ3 : (Nat → Nat → Int32) := up2 σ 1 (p0).toNatClampNeg p1
        .inl ((σ 1 (p0).toNatClampNeg), σ3, ρ)
      else
        .inr "java/lang/IllegalArgumentException"
    else
      .inr "java/lang/IndexOutOfBoundsException"
theorem xinA_setFever : ∀ w ∈ (vx_atS RX2 27 "java/lang/IllegalArgumentException" xNs).filter goodWord, w ∈ wsX2_setFever := by decide +kernel
theorem xinI_setFever : ∀ w ∈ (vx_atS RX2 57 "java/lang/IndexOutOfBoundsException" xNs).filter goodWord, w ∈ wsX2_setFever := by decide +kernel
set_option maxHeartbeats 400000 in
set_option maxRecDepth 100000 in
theorem c_X2_setFever (l : Launch) (hl0 : l.stackTraces = false) (D : va_G) (cI cM : ClassId) (a : Nat → Nat) (σ ρ : (Nat → Nat → Int32)) (p0 : Int32) (p1 : Int32) : xMi l yX2_setFever wsX2_setFever rmX2_setFever D cI cM a [.ref (a 34), .int p0, .int p1] 0 σ ρ (fX2_setFever σ ρ p0 p1) := by
  intro sz
  refine x_head (cc := cX2_setFever) (maxL := 4) (ret := (some .int)) (by decide) rfl (Nat.le_of_ble_eq_true rfl) ?_
  intro p e S m below meth c hx hb hr hml hown hts hlocks htab hXN hXZ hA hC ls hl
  have hF : CallFix p m c cX2_setFever 4 S [.ref (a 34), .int p0, .int p1].toArray wsX2_setFever RX2 := ⟨hx, hb, hml, hown, hts⟩
  have h_f10 : (Cond.fieldLink RX2 10 "CombersSociety" "now" "LCombersSociety$Society;").before [.ref (a 34), .int p0, .int p1].toArray S = true := hts _ (by decide +kernel)
  have h_iX2 : ∀ w ∈ u_ws RX2 TX2 2, w ∈ wsX2_setFever := by decide +kernel
  have h_f99 : (Cond.fieldLink RX2 99 "CombersSociety$Society" "fevers" "[I").before [.ref (a 34), .int p0, .int p1].toArray S = true := hts _ (by decide +kernel)
  have h_iX1 : ∀ w ∈ u_ws RX1 TX1 14, w ∈ wsX2_setFever := by decide +kernel
  have h_k23 : (Cond.classLink RX2 23 "java/lang/IllegalArgumentException").before [.ref (a 34), .int p0, .int p1].toArray S = true := hts _ (by decide +kernel)
  have h_nA : (Cond.initialized "java/lang/IllegalArgumentException").before [.ref (a 34), .int p0, .int p1].toArray S = true := hts _ (by decide +kernel)
  have h_aA : ∀ w ∈ vx_atS RX2 27 "java/lang/IllegalArgumentException" xNs, w.before [.ref (a 34), .int p0, .int p1].toArray S = true := xhatA (fun w hw => hts w (xinA_setFever w hw)) hXN
  have h_k53 : (Cond.classLink RX2 53 "java/lang/IndexOutOfBoundsException").before [.ref (a 34), .int p0, .int p1].toArray S = true := hts _ (by decide +kernel)
  have h_nI : (Cond.initialized "java/lang/IndexOutOfBoundsException").before [.ref (a 34), .int p0, .int p1].toArray S = true := hts _ (by decide +kernel)
  have h_aI : ∀ w ∈ vx_atS RX2 57 "java/lang/IndexOutOfBoundsException" xNs, w.before [.ref (a 34), .int p0, .int p1].toArray S = true := xhatI (fun w hw => hts w (xinI_setFever w hw)) hXN
  have hl : lv_has ls 4 [(0, .ref (a 34)), (1, .int p0), (2, .int p1)] := hl
  refine lv_iload_n hx hb dX2_setFever_0 rfl (lv_at hl 1 rfl) ?_
  refine lv_iconst (v := 0) hx hb dX2_setFever_1 (by decide) ?_
  refine lv_bipush (v := 7) hx hb dX2_setFever_2 (by decide) ?_
  refine c_iSi (n := 3) hF (c_X2_isOutside l D cI cM a 0 σ ρ p0 (0 : Int32) (7 : Int32) ) gX2_setFever_X2_isOutside rfl rfl rfl (by decide +kernel) ⟨Nat.le_of_ble_eq_true rfl, Nat.le_of_ble_eq_true rfl⟩ hC hA rfl hl.1 rfl (Nat.le_of_ble_eq_true rfl) dX2_setFever_4 ⟨Nat.zero_le _, Nat.zero_le _⟩ ?_
  clear hC; intro H locs hC
  refine lv_if_eq (tgt := 20) hx hb dX2_setFever_7 (by decide) (fun c1 => ?_) (fun c1 => ?_)
  · refine lv_iload_n hx hb dX2_setFever_20 rfl (lv_at hl 2 rfl) ?_
    refine lv_iconst (v := -1) hx hb dX2_setFever_21 (by decide) ?_
    refine lv_iconst (v := 2) hx hb dX2_setFever_22 (by decide) ?_
    refine c_iSi (n := 3) hF (c_X2_isOutside l D cI cM a 0 σ ρ p1 (-1 : Int32) (2 : Int32) ) gX2_setFever_X2_isOutside rfl rfl rfl (by decide +kernel) ⟨Nat.le_of_ble_eq_true rfl, Nat.le_of_ble_eq_true rfl⟩ hC hA rfl hl.1 rfl (Nat.le_of_ble_eq_true rfl) dX2_setFever_23 ⟨Nat.zero_le _, Nat.zero_le _⟩ ?_
    clear hC; intro H locs hC
    refine lv_if_eq (tgt := 39) hx hb dX2_setFever_26 (by decide) (fun c2 => ?_) (fun c2 => ?_)
    · refine lv_aload_n hx hb dX2_setFever_39 rfl (lv_at hl 0 rfl) ?_
      refine cg_w hx hb hts h_iX2 hown hC 0 (by decide) h_f10 dX2_setFever_40 ?_
      refine cg_r hx hb hts h_iX1 hown hC (by decide) 0 (by decide) h_f99 dX2_setFever_43 ?_
      refine lv_iload_n hx hb dX2_setFever_46 rfl (lv_at hl 1 rfl) ?_
      refine c_ild hx hb hC (by decide) 1 (by decide) (by decide) (j := (p0).toNatClampNeg) (isOut_ix (N := 8) c1 (by decide) (by decide)).1 (isOut_ix (N := 8) c1 (by decide) (by decide)).2 dX2_setFever_47 ?_
      refine lv_istore_n (lv' := [(3, .int (σ 1 (p0).toNatClampNeg)), (0, .ref (a 34)), (1, .int p0), (2, .int p1)]) hx hb dX2_setFever_48 rfl hl (by decide) rfl ?_
      clear hl; intro ls hl
      refine lv_aload_n hx hb dX2_setFever_49 rfl (lv_at hl 1 rfl) ?_
      refine cg_w hx hb hts h_iX2 hown hC 0 (by decide) h_f10 dX2_setFever_50 ?_
      refine cg_r hx hb hts h_iX1 hown hC (by decide) 0 (by decide) h_f99 dX2_setFever_53 ?_
      refine lv_iload_n hx hb dX2_setFever_56 rfl (lv_at hl 2 rfl) ?_
      refine lv_iload_n hx hb dX2_setFever_57 rfl (lv_at hl 3 rfl) ?_
      refine c_ist hx hb hC (by decide) 1 (by decide) (by decide) (j := (p0).toNatClampNeg) (isOut_ix (N := 8) c1 (by decide) (by decide)).1 (isOut_ix (N := 8) c1 (by decide) (by decide)).2 dX2_setFever_58 ?_
      clear hC; intro H locs σ3 eσ3 hC
      refine lv_iload_n hx hb dX2_setFever_59 rfl (lv_at hl 0 rfl) ?_
      have e : fX2_setFever σ ρ p0 p1 = .inl ((σ 1 (p0).toNatClampNeg), σ3, ρ) := by subst eσ3; unfold fX2_setFever; exact ((if_pos c1).trans ((if_pos c2).trans rfl))
      exact x_iret hx hb hr hlocks hC dX2_setFever_60 e
    · obtain ⟨sa, hsa⟩ := hXN.s98
      have e : fX2_setFever σ ρ p0 p1 = .inr "java/lang/IllegalArgumentException" := by unfold fX2_setFever; exact ((if_pos c1).trans ((if_neg c2).trans rfl))
      exact vx_throwS (names := xNs) hx hb hl0 hown (by decide) (by decide) h_k23 h_nA hsa h_aA xotA hXZ.1 hXZ.2 hC.2.2.2 (hl.1.trans hml.symm) dX2_setFever_29 dX2_setFever_32 dX2_setFever_33 dX2_setFever_35 dX2_setFever_38 (fun x hx => (htab x hx).elim) (Nat.le_of_ble_eq_true rfl) (Nat.le_of_ble_eq_true rfl) (Nat.le_of_ble_eq_true rfl) (Nat.le_of_ble_eq_true rfl) hlocks (fun t hal hz ho => x_thrown hC e hal hz ho) hC.2.2.2.2.2 (Nat.le_of_ble_eq_true rfl) (Nat.le_of_ble_eq_true rfl)
  · obtain ⟨sa, hsa⟩ := hXN.s96
    have e : fX2_setFever σ ρ p0 p1 = .inr "java/lang/IndexOutOfBoundsException" := by unfold fX2_setFever; exact ((if_neg c1).trans rfl)
    exact vx_throwS (names := xNs) hx hb hl0 hown (by decide) (by decide) h_k53 h_nI hsa h_aI xotI hXZ.1 hXZ.2 hC.2.2.2 (hl.1.trans hml.symm) dX2_setFever_10 dX2_setFever_13 dX2_setFever_14 dX2_setFever_16 dX2_setFever_19 (fun x hx => (htab x hx).elim) (Nat.le_of_ble_eq_true rfl) (Nat.le_of_ble_eq_true rfl) (Nat.le_of_ble_eq_true rfl) (Nat.le_of_ble_eq_true rfl) hlocks (fun t hal hz ho => x_thrown hC e hal hz ho) hC.2.2.2.2.2 (Nat.le_of_ble_eq_true rfl) (Nat.le_of_ble_eq_true rfl)
abbrev rmX2_setDues : Room := { frames := 6, cells := 1, slots := 6, locals := 158 }
def fX2_setDues (σ : (Nat → Nat → Int32)) (ρ : (Nat → Nat → Int32)) (p0 : Int32) : ((Int32 × (Nat → Nat → Int32) × (Nat → Nat → Int32)) ⊕ String) :=
    if (fX2_isOutside p0 (0 : Int32) (3 : Int32)) = 0 then
      let σ2 : (Nat → Nat → Int32) := up2 σ 0 6 p0
      .inl ((σ 0 6), σ2, ρ)
    else
      .inr "java/lang/IllegalArgumentException"
theorem xinA_setDues : ∀ w ∈ (vx_atS RX2 27 "java/lang/IllegalArgumentException" xNs).filter goodWord, w ∈ wsX2_setDues := by decide +kernel
set_option maxHeartbeats 400000 in
set_option maxRecDepth 100000 in
theorem c_X2_setDues (l : Launch) (hl0 : l.stackTraces = false) (D : va_G) (cI cM : ClassId) (a : Nat → Nat) (σ ρ : (Nat → Nat → Int32)) (p0 : Int32) : xMi l yX2_setDues wsX2_setDues rmX2_setDues D cI cM a [.ref (a 34), .int p0] 0 σ ρ (fX2_setDues σ ρ p0) := by
  intro sz
  refine x_head (cc := cX2_setDues) (maxL := 3) (ret := (some .int)) (by decide) rfl (Nat.le_of_ble_eq_true rfl) ?_
  intro p e S m below meth c hx hb hr hml hown hts hlocks htab hXN hXZ hA hC ls hl
  have hF : CallFix p m c cX2_setDues 3 S [.ref (a 34), .int p0].toArray wsX2_setDues RX2 := ⟨hx, hb, hml, hown, hts⟩
  have h_f10 : (Cond.fieldLink RX2 10 "CombersSociety" "now" "LCombersSociety$Society;").before [.ref (a 34), .int p0].toArray S = true := hts _ (by decide +kernel)
  have h_iX2 : ∀ w ∈ u_ws RX2 TX2 2, w ∈ wsX2_setDues := by decide +kernel
  have h_f105 : (Cond.fieldLink RX2 105 "CombersSociety$Society" "dues" "I").before [.ref (a 34), .int p0].toArray S = true := hts _ (by decide +kernel)
  have h_iX1 : ∀ w ∈ u_ws RX1 TX1 14, w ∈ wsX2_setDues := by decide +kernel
  have h_k23 : (Cond.classLink RX2 23 "java/lang/IllegalArgumentException").before [.ref (a 34), .int p0].toArray S = true := hts _ (by decide +kernel)
  have h_nA : (Cond.initialized "java/lang/IllegalArgumentException").before [.ref (a 34), .int p0].toArray S = true := hts _ (by decide +kernel)
  have h_aA : ∀ w ∈ vx_atS RX2 27 "java/lang/IllegalArgumentException" xNs, w.before [.ref (a 34), .int p0].toArray S = true := xhatA (fun w hw => hts w (xinA_setDues w hw)) hXN
  have hl : lv_has ls 3 [(0, .ref (a 34)), (1, .int p0)] := hl
  refine lv_iload_n hx hb dX2_setDues_0 rfl (lv_at hl 1 rfl) ?_
  refine lv_iconst (v := 0) hx hb dX2_setDues_1 (by decide) ?_
  refine lv_iconst (v := 3) hx hb dX2_setDues_2 (by decide) ?_
  refine c_iSi (n := 3) hF (c_X2_isOutside l D cI cM a 0 σ ρ p0 (0 : Int32) (3 : Int32) ) gX2_setDues_X2_isOutside rfl rfl rfl (by decide +kernel) ⟨Nat.le_of_ble_eq_true rfl, Nat.le_of_ble_eq_true rfl⟩ hC hA rfl hl.1 rfl (Nat.le_of_ble_eq_true rfl) dX2_setDues_3 ⟨Nat.zero_le _, Nat.zero_le _⟩ ?_
  clear hC; intro H locs hC
  refine lv_if_eq (tgt := 19) hx hb dX2_setDues_6 (by decide) (fun c1 => ?_) (fun c1 => ?_)
  · refine lv_aload_n hx hb dX2_setDues_19 rfl (lv_at hl 0 rfl) ?_
    refine cg_w hx hb hts h_iX2 hown hC 0 (by decide) h_f10 dX2_setDues_20 ?_
    refine cg_s hx hb hts h_iX1 hown hC (by decide) 6 (by decide) h_f105 dX2_setDues_23 ?_
    refine lv_istore_n (lv' := [(2, .int (σ 0 6)), (0, .ref (a 34)), (1, .int p0)]) hx hb dX2_setDues_26 rfl hl (by decide) rfl ?_
    clear hl; intro ls hl
    refine lv_aload_n hx hb dX2_setDues_27 rfl (lv_at hl 1 rfl) ?_
    refine cg_w hx hb hts h_iX2 hown hC 0 (by decide) h_f10 dX2_setDues_28 ?_
    refine lv_iload_n hx hb dX2_setDues_31 rfl (lv_at hl 2 rfl) ?_
    refine cp_s hx hb hts h_iX1 hown hC (by decide) 6 (by decide) h_f105 dX2_setDues_32 ?_
    clear hC; intro H locs σ2 eσ2 hC
    refine lv_iload_n hx hb dX2_setDues_35 rfl (lv_at hl 0 rfl) ?_
    have e : fX2_setDues σ ρ p0 = .inl ((σ 0 6), σ2, ρ) := by subst eσ2; unfold fX2_setDues; exact ((if_pos c1).trans rfl)
    exact x_iret hx hb hr hlocks hC dX2_setDues_36 e
  · obtain ⟨sa, hsa⟩ := hXN.s103
    have e : fX2_setDues σ ρ p0 = .inr "java/lang/IllegalArgumentException" := by unfold fX2_setDues; exact ((if_neg c1).trans rfl)
    exact vx_throwS (names := xNs) hx hb hl0 hown (by decide) (by decide) h_k23 h_nA hsa h_aA xotA hXZ.1 hXZ.2 hC.2.2.2 (hl.1.trans hml.symm) dX2_setDues_9 dX2_setDues_12 dX2_setDues_13 dX2_setDues_15 dX2_setDues_18 (fun x hx => (htab x hx).elim) (Nat.le_of_ble_eq_true rfl) (Nat.le_of_ble_eq_true rfl) (Nat.le_of_ble_eq_true rfl) (Nat.le_of_ble_eq_true rfl) hlocks (fun t hal hz ho => x_thrown hC e hal hz ho) hC.2.2.2.2.2 (Nat.le_of_ble_eq_true rfl) (Nat.le_of_ble_eq_true rfl)
abbrev rmX2_buy : Room := { frames := 6, cells := 1, slots := 6, locals := 158 }
def fX2_buy (σ : (Nat → Nat → Int32)) (ρ : (Nat → Nat → Int32)) (p0 : Int32) (p1 : Int32) : ((Int32 × (Nat → Nat → Int32) × (Nat → Nat → Int32)) ⊕ String) :=
    if (fX2_isOutside p0 (0 : Int32) (1 : Int32)) = 0 then
      if (fX2_isOutside p1 (1 : Int32) (200 : Int32)) = 0 then
        if p0 = 0 then
          if p1 ≤ (σ 0 2) then
            let σ10 : (Nat → Nat → Int32) := up2 σ 0 2 ((σ 0 2) - p1)
            if p0 = 0 then
              let σ13 : (Nat → Nat → Int32) := up2 σ10 0 3 ((σ10 0 3) + p1)
              .inl ((σ13 0 3), σ13, ρ)
            else
              let σ12 : (Nat → Nat → Int32) := up2 σ10 0 4 ((σ10 0 4) + p1)
              .inl ((σ12 0 4), σ12, ρ)
          else
            .inr "java/lang/IllegalStateException"
        else
          if ((p1 + (2 : Int32)) / (3 : Int32)) ≤ (σ 0 2) then
            let σ5 : (Nat → Nat → Int32) := up2 σ 0 2 ((σ 0 2) - ((p1 + (2 : Int32)) / (3 : Int32)))
            if p0 = 0 then
              let σ8 : (Nat → Nat → Int32) := up2 σ5 0 3 ((σ5 0 3) + p1)
              .inl ((σ8 0 3), σ8, ρ)
            else
              let σ7 : (Nat → Nat → Int32) := up2 σ5 0 4 ((σ5 0 4) + p1)
              .inl ((σ7 0 4), σ7, ρ)
          else
            .inr "java/lang/IllegalStateException"
      else
        .inr "java/lang/IllegalArgumentException"
    else
      .inr "java/lang/IndexOutOfBoundsException"
theorem xinA_buy : ∀ w ∈ (vx_atS RX2 27 "java/lang/IllegalArgumentException" xNs).filter goodWord, w ∈ wsX2_buy := by decide +kernel
theorem xinI_buy : ∀ w ∈ (vx_atS RX2 57 "java/lang/IndexOutOfBoundsException" xNs).filter goodWord, w ∈ wsX2_buy := by decide +kernel
theorem xinS_buy : ∀ w ∈ (vx_atS RX2 38 "java/lang/IllegalStateException" xNs).filter goodWord, w ∈ wsX2_buy := by decide +kernel
set_option maxHeartbeats 400000 in
set_option maxRecDepth 100000 in
theorem c_X2_buy (l : Launch) (hl0 : l.stackTraces = false) (D : va_G) (cI cM : ClassId) (a : Nat → Nat) (σ ρ : (Nat → Nat → Int32)) (p0 : Int32) (p1 : Int32) : xMi l yX2_buy wsX2_buy rmX2_buy D cI cM a [.ref (a 34), .int p0, .int p1] 0 σ ρ (fX2_buy σ ρ p0 p1) := by
  intro sz
  refine x_head (cc := cX2_buy) (maxL := 4) (ret := (some .int)) (by decide) rfl (Nat.le_of_ble_eq_true rfl) ?_
  intro p e S m below meth c hx hb hr hml hown hts hlocks htab hXN hXZ hA hC ls hl
  have hF : CallFix p m c cX2_buy 4 S [.ref (a 34), .int p0, .int p1].toArray wsX2_buy RX2 := ⟨hx, hb, hml, hown, hts⟩
  have h_f10 : (Cond.fieldLink RX2 10 "CombersSociety" "now" "LCombersSociety$Society;").before [.ref (a 34), .int p0, .int p1].toArray S = true := hts _ (by decide +kernel)
  have h_iX2 : ∀ w ∈ u_ws RX2 TX2 2, w ∈ wsX2_buy := by decide +kernel
  have h_f80 : (Cond.fieldLink RX2 80 "CombersSociety$Society" "box" "I").before [.ref (a 34), .int p0, .int p1].toArray S = true := hts _ (by decide +kernel)
  have h_iX1 : ∀ w ∈ u_ws RX1 TX1 14, w ∈ wsX2_buy := by decide +kernel
  have h_f116 : (Cond.fieldLink RX2 116 "CombersSociety$Society" "wool" "I").before [.ref (a 34), .int p0, .int p1].toArray S = true := hts _ (by decide +kernel)
  have h_f113 : (Cond.fieldLink RX2 113 "CombersSociety$Society" "coals" "I").before [.ref (a 34), .int p0, .int p1].toArray S = true := hts _ (by decide +kernel)
  have h_k34 : (Cond.classLink RX2 34 "java/lang/IllegalStateException").before [.ref (a 34), .int p0, .int p1].toArray S = true := hts _ (by decide +kernel)
  have h_nS : (Cond.initialized "java/lang/IllegalStateException").before [.ref (a 34), .int p0, .int p1].toArray S = true := hts _ (by decide +kernel)
  have h_aS : ∀ w ∈ vx_atS RX2 38 "java/lang/IllegalStateException" xNs, w.before [.ref (a 34), .int p0, .int p1].toArray S = true := xhatS (fun w hw => hts w (xinS_buy w hw)) hXN
  have h_k23 : (Cond.classLink RX2 23 "java/lang/IllegalArgumentException").before [.ref (a 34), .int p0, .int p1].toArray S = true := hts _ (by decide +kernel)
  have h_nA : (Cond.initialized "java/lang/IllegalArgumentException").before [.ref (a 34), .int p0, .int p1].toArray S = true := hts _ (by decide +kernel)
  have h_aA : ∀ w ∈ vx_atS RX2 27 "java/lang/IllegalArgumentException" xNs, w.before [.ref (a 34), .int p0, .int p1].toArray S = true := xhatA (fun w hw => hts w (xinA_buy w hw)) hXN
  have h_k53 : (Cond.classLink RX2 53 "java/lang/IndexOutOfBoundsException").before [.ref (a 34), .int p0, .int p1].toArray S = true := hts _ (by decide +kernel)
  have h_nI : (Cond.initialized "java/lang/IndexOutOfBoundsException").before [.ref (a 34), .int p0, .int p1].toArray S = true := hts _ (by decide +kernel)
  have h_aI : ∀ w ∈ vx_atS RX2 57 "java/lang/IndexOutOfBoundsException" xNs, w.before [.ref (a 34), .int p0, .int p1].toArray S = true := xhatI (fun w hw => hts w (xinI_buy w hw)) hXN
  have hl : lv_has ls 4 [(0, .ref (a 34)), (1, .int p0), (2, .int p1)] := hl
  refine lv_iload_n hx hb dX2_buy_0 rfl (lv_at hl 1 rfl) ?_
  refine lv_iconst (v := 0) hx hb dX2_buy_1 (by decide) ?_
  refine lv_iconst (v := 1) hx hb dX2_buy_2 (by decide) ?_
  refine c_iSi (n := 3) hF (c_X2_isOutside l D cI cM a 0 σ ρ p0 (0 : Int32) (1 : Int32) ) gX2_buy_X2_isOutside rfl rfl rfl (by decide +kernel) ⟨Nat.le_of_ble_eq_true rfl, Nat.le_of_ble_eq_true rfl⟩ hC hA rfl hl.1 rfl (Nat.le_of_ble_eq_true rfl) dX2_buy_3 ⟨Nat.zero_le _, Nat.zero_le _⟩ ?_
  clear hC; intro H locs hC
  refine lv_if_eq (tgt := 19) hx hb dX2_buy_6 (by decide) (fun c1 => ?_) (fun c1 => ?_)
  · refine lv_iload_n hx hb dX2_buy_19 rfl (lv_at hl 2 rfl) ?_
    refine lv_iconst (v := 1) hx hb dX2_buy_20 (by decide) ?_
    refine lv_sipush (v := 200) hx hb dX2_buy_21 (by decide) ?_
    refine c_iSi (n := 3) hF (c_X2_isOutside l D cI cM a 0 σ ρ p1 (1 : Int32) (200 : Int32) ) gX2_buy_X2_isOutside rfl rfl rfl (by decide +kernel) ⟨Nat.le_of_ble_eq_true rfl, Nat.le_of_ble_eq_true rfl⟩ hC hA rfl hl.1 rfl (Nat.le_of_ble_eq_true rfl) dX2_buy_24 ⟨Nat.zero_le _, Nat.zero_le _⟩ ?_
    clear hC; intro H locs hC
    refine lv_if_eq (tgt := 40) hx hb dX2_buy_27 (by decide) (fun c2 => ?_) (fun c2 => ?_)
    · refine lv_iload_n hx hb dX2_buy_40 rfl (lv_at hl 1 rfl) ?_
      refine lv_if_ne (tgt := 48) hx hb dX2_buy_41 (by decide) (fun c3 => ?_) (fun c3 => ?_)
      · refine lv_iload_n hx hb dX2_buy_48 rfl (lv_at hl 2 rfl) ?_
        refine lv_iconst (v := 2) hx hb dX2_buy_49 (by decide) ?_
        refine lv_iadd hx hb dX2_buy_50 ?_
        refine lv_iconst (v := 3) hx hb dX2_buy_51 (by decide) ?_
        refine lv_idiv hx hb dX2_buy_52 (by decide) ?_
        refine lv_istore_n (lv' := [(3, .int ((p1 + (2 : Int32)) / (3 : Int32))), (0, .ref (a 34)), (1, .int p0), (2, .int p1)]) hx hb dX2_buy_53 rfl hl (by decide) rfl ?_
        clear hl; intro ls hl
        refine lv_aload_n hx hb dX2_buy_54 rfl (lv_at hl 1 rfl) ?_
        refine cg_w hx hb hts h_iX2 hown hC 0 (by decide) h_f10 dX2_buy_55 ?_
        refine cg_s hx hb hts h_iX1 hown hC (by decide) 2 (by decide) h_f80 dX2_buy_58 ?_
        refine lv_iload_n hx hb dX2_buy_61 rfl (lv_at hl 0 rfl) ?_
        refine lv_icmp_ge (tgt := 75) hx hb dX2_buy_62 (by decide) (fun c4 => ?_) (fun c4 => ?_)
        · refine lv_aload_n hx hb dX2_buy_75 rfl (lv_at hl 1 rfl) ?_
          refine cg_w hx hb hts h_iX2 hown hC 0 (by decide) h_f10 dX2_buy_76 ?_
          refine lv_dup hx hb dX2_buy_79 rfl ?_
          refine cg_s hx hb hts h_iX1 hown hC (by decide) 2 (by decide) h_f80 dX2_buy_80 ?_
          refine lv_iload_n hx hb dX2_buy_83 rfl (lv_at hl 0 rfl) ?_
          refine lv_isub hx hb dX2_buy_84 ?_
          refine cp_s hx hb hts h_iX1 hown hC (by decide) 2 (by decide) h_f80 dX2_buy_85 ?_
          clear hC; intro H locs σ5 eσ5 hC
          refine lv_iload_n hx hb dX2_buy_88 rfl (lv_at hl 2 rfl) ?_
          refine lv_if_ne (tgt := 113) hx hb dX2_buy_89 (by decide) (fun c6 => ?_) (fun c6 => ?_)
          · refine lv_aload_n hx hb dX2_buy_113 rfl (lv_at hl 1 rfl) ?_
            refine cg_w hx hb hts h_iX2 hown hC 0 (by decide) h_f10 dX2_buy_114 ?_
            refine lv_dup hx hb dX2_buy_117 rfl ?_
            refine cg_s hx hb hts h_iX1 hown hC (by decide) 4 (by decide) h_f116 dX2_buy_118 ?_
            refine lv_iload_n hx hb dX2_buy_121 rfl (lv_at hl 3 rfl) ?_
            refine lv_iadd hx hb dX2_buy_122 ?_
            refine cp_s hx hb hts h_iX1 hown hC (by decide) 4 (by decide) h_f116 dX2_buy_123 ?_
            clear hC; intro H locs σ7 eσ7 hC
            refine lv_aload_n hx hb dX2_buy_126 rfl (lv_at hl 1 rfl) ?_
            refine cg_w hx hb hts h_iX2 hown hC 0 (by decide) h_f10 dX2_buy_127 ?_
            refine cg_s hx hb hts h_iX1 hown hC (by decide) 4 (by decide) h_f116 dX2_buy_130 ?_
            have e : fX2_buy σ ρ p0 p1 = .inl ((σ7 0 4), σ7, ρ) := by subst eσ5 eσ7; unfold fX2_buy; exact ((if_pos c1).trans ((if_pos c2).trans ((if_neg c3).trans ((if_pos c4).trans ((if_neg c6).trans rfl)))))
            exact x_iret hx hb hr hlocks hC dX2_buy_133 e
          · refine lv_aload_n hx hb dX2_buy_92 rfl (lv_at hl 1 rfl) ?_
            refine cg_w hx hb hts h_iX2 hown hC 0 (by decide) h_f10 dX2_buy_93 ?_
            refine lv_dup hx hb dX2_buy_96 rfl ?_
            refine cg_s hx hb hts h_iX1 hown hC (by decide) 3 (by decide) h_f113 dX2_buy_97 ?_
            refine lv_iload_n hx hb dX2_buy_100 rfl (lv_at hl 3 rfl) ?_
            refine lv_iadd hx hb dX2_buy_101 ?_
            refine cp_s hx hb hts h_iX1 hown hC (by decide) 3 (by decide) h_f113 dX2_buy_102 ?_
            clear hC; intro H locs σ8 eσ8 hC
            refine lv_aload_n hx hb dX2_buy_105 rfl (lv_at hl 1 rfl) ?_
            refine cg_w hx hb hts h_iX2 hown hC 0 (by decide) h_f10 dX2_buy_106 ?_
            refine cg_s hx hb hts h_iX1 hown hC (by decide) 3 (by decide) h_f113 dX2_buy_109 ?_
            have e : fX2_buy σ ρ p0 p1 = .inl ((σ8 0 3), σ8, ρ) := by subst eσ5 eσ8; unfold fX2_buy; exact ((if_pos c1).trans ((if_pos c2).trans ((if_neg c3).trans ((if_pos c4).trans ((if_pos c6).trans rfl)))))
            exact x_iret hx hb hr hlocks hC dX2_buy_112 e
        · obtain ⟨sa, hsa⟩ := hXN.s111
          have e : fX2_buy σ ρ p0 p1 = .inr "java/lang/IllegalStateException" := by unfold fX2_buy; exact ((if_pos c1).trans ((if_pos c2).trans ((if_neg c3).trans ((if_neg c4).trans rfl))))
          exact vx_throwS (names := xNs) hx hb hl0 hown (by decide) (by decide) h_k34 h_nS hsa h_aS xotS hXZ.1 hXZ.2 hC.2.2.2 (hl.1.trans hml.symm) dX2_buy_65 dX2_buy_68 dX2_buy_69 dX2_buy_71 dX2_buy_74 (fun x hx => (htab x hx).elim) (Nat.le_of_ble_eq_true rfl) (Nat.le_of_ble_eq_true rfl) (Nat.le_of_ble_eq_true rfl) (Nat.le_of_ble_eq_true rfl) hlocks (fun t hal hz ho => x_thrown hC e hal hz ho) hC.2.2.2.2.2 (Nat.le_of_ble_eq_true rfl) (Nat.le_of_ble_eq_true rfl)
      · refine lv_iload_n hx hb dX2_buy_44 rfl (lv_at hl 2 rfl) ?_
        refine lv_goto (tgt := 53) hx hb dX2_buy_45 (by decide) ?_
        refine lv_istore_n (lv' := [(3, .int p1), (0, .ref (a 34)), (1, .int p0), (2, .int p1)]) hx hb dX2_buy_53 rfl hl (by decide) rfl ?_
        clear hl; intro ls hl
        refine lv_aload_n hx hb dX2_buy_54 rfl (lv_at hl 1 rfl) ?_
        refine cg_w hx hb hts h_iX2 hown hC 0 (by decide) h_f10 dX2_buy_55 ?_
        refine cg_s hx hb hts h_iX1 hown hC (by decide) 2 (by decide) h_f80 dX2_buy_58 ?_
        refine lv_iload_n hx hb dX2_buy_61 rfl (lv_at hl 0 rfl) ?_
        refine lv_icmp_ge (tgt := 75) hx hb dX2_buy_62 (by decide) (fun c9 => ?_) (fun c9 => ?_)
        · refine lv_aload_n hx hb dX2_buy_75 rfl (lv_at hl 1 rfl) ?_
          refine cg_w hx hb hts h_iX2 hown hC 0 (by decide) h_f10 dX2_buy_76 ?_
          refine lv_dup hx hb dX2_buy_79 rfl ?_
          refine cg_s hx hb hts h_iX1 hown hC (by decide) 2 (by decide) h_f80 dX2_buy_80 ?_
          refine lv_iload_n hx hb dX2_buy_83 rfl (lv_at hl 0 rfl) ?_
          refine lv_isub hx hb dX2_buy_84 ?_
          refine cp_s hx hb hts h_iX1 hown hC (by decide) 2 (by decide) h_f80 dX2_buy_85 ?_
          clear hC; intro H locs σ10 eσ10 hC
          refine lv_iload_n hx hb dX2_buy_88 rfl (lv_at hl 2 rfl) ?_
          refine lv_if_ne (tgt := 113) hx hb dX2_buy_89 (by decide) (fun c11 => ?_) (fun c11 => ?_)
          · refine lv_aload_n hx hb dX2_buy_113 rfl (lv_at hl 1 rfl) ?_
            refine cg_w hx hb hts h_iX2 hown hC 0 (by decide) h_f10 dX2_buy_114 ?_
            refine lv_dup hx hb dX2_buy_117 rfl ?_
            refine cg_s hx hb hts h_iX1 hown hC (by decide) 4 (by decide) h_f116 dX2_buy_118 ?_
            refine lv_iload_n hx hb dX2_buy_121 rfl (lv_at hl 3 rfl) ?_
            refine lv_iadd hx hb dX2_buy_122 ?_
            refine cp_s hx hb hts h_iX1 hown hC (by decide) 4 (by decide) h_f116 dX2_buy_123 ?_
            clear hC; intro H locs σ12 eσ12 hC
            refine lv_aload_n hx hb dX2_buy_126 rfl (lv_at hl 1 rfl) ?_
            refine cg_w hx hb hts h_iX2 hown hC 0 (by decide) h_f10 dX2_buy_127 ?_
            refine cg_s hx hb hts h_iX1 hown hC (by decide) 4 (by decide) h_f116 dX2_buy_130 ?_
            have e : fX2_buy σ ρ p0 p1 = .inl ((σ12 0 4), σ12, ρ) := by subst eσ10 eσ12; unfold fX2_buy; exact ((if_pos c1).trans ((if_pos c2).trans ((if_pos c3).trans ((if_pos c9).trans ((if_neg c11).trans rfl)))))
            exact x_iret hx hb hr hlocks hC dX2_buy_133 e
          · refine lv_aload_n hx hb dX2_buy_92 rfl (lv_at hl 1 rfl) ?_
            refine cg_w hx hb hts h_iX2 hown hC 0 (by decide) h_f10 dX2_buy_93 ?_
            refine lv_dup hx hb dX2_buy_96 rfl ?_
            refine cg_s hx hb hts h_iX1 hown hC (by decide) 3 (by decide) h_f113 dX2_buy_97 ?_
            refine lv_iload_n hx hb dX2_buy_100 rfl (lv_at hl 3 rfl) ?_
            refine lv_iadd hx hb dX2_buy_101 ?_
            refine cp_s hx hb hts h_iX1 hown hC (by decide) 3 (by decide) h_f113 dX2_buy_102 ?_
            clear hC; intro H locs σ13 eσ13 hC
            refine lv_aload_n hx hb dX2_buy_105 rfl (lv_at hl 1 rfl) ?_
            refine cg_w hx hb hts h_iX2 hown hC 0 (by decide) h_f10 dX2_buy_106 ?_
            refine cg_s hx hb hts h_iX1 hown hC (by decide) 3 (by decide) h_f113 dX2_buy_109 ?_
            have e : fX2_buy σ ρ p0 p1 = .inl ((σ13 0 3), σ13, ρ) := by subst eσ10 eσ13; unfold fX2_buy; exact ((if_pos c1).trans ((if_pos c2).trans ((if_pos c3).trans ((if_pos c9).trans ((if_pos c11).trans rfl)))))
            exact x_iret hx hb hr hlocks hC dX2_buy_112 e
        · obtain ⟨sa, hsa⟩ := hXN.s111
          have e : fX2_buy σ ρ p0 p1 = .inr "java/lang/IllegalStateException" := by unfold fX2_buy; exact ((if_pos c1).trans ((if_pos c2).trans ((if_pos c3).trans ((if_neg c9).trans rfl))))
          exact vx_throwS (names := xNs) hx hb hl0 hown (by decide) (by decide) h_k34 h_nS hsa h_aS xotS hXZ.1 hXZ.2 hC.2.2.2 (hl.1.trans hml.symm) dX2_buy_65 dX2_buy_68 dX2_buy_69 dX2_buy_71 dX2_buy_74 (fun x hx => (htab x hx).elim) (Nat.le_of_ble_eq_true rfl) (Nat.le_of_ble_eq_true rfl) (Nat.le_of_ble_eq_true rfl) (Nat.le_of_ble_eq_true rfl) hlocks (fun t hal hz ho => x_thrown hC e hal hz ho) hC.2.2.2.2.2 (Nat.le_of_ble_eq_true rfl) (Nat.le_of_ble_eq_true rfl)
    · obtain ⟨sa, hsa⟩ := hXN.s109
      have e : fX2_buy σ ρ p0 p1 = .inr "java/lang/IllegalArgumentException" := by unfold fX2_buy; exact ((if_pos c1).trans ((if_neg c2).trans rfl))
      exact vx_throwS (names := xNs) hx hb hl0 hown (by decide) (by decide) h_k23 h_nA hsa h_aA xotA hXZ.1 hXZ.2 hC.2.2.2 (hl.1.trans hml.symm) dX2_buy_30 dX2_buy_33 dX2_buy_34 dX2_buy_36 dX2_buy_39 (fun x hx => (htab x hx).elim) (Nat.le_of_ble_eq_true rfl) (Nat.le_of_ble_eq_true rfl) (Nat.le_of_ble_eq_true rfl) (Nat.le_of_ble_eq_true rfl) hlocks (fun t hal hz ho => x_thrown hC e hal hz ho) hC.2.2.2.2.2 (Nat.le_of_ble_eq_true rfl) (Nat.le_of_ble_eq_true rfl)
  · obtain ⟨sa, hsa⟩ := hXN.s107
    have e : fX2_buy σ ρ p0 p1 = .inr "java/lang/IndexOutOfBoundsException" := by unfold fX2_buy; exact ((if_neg c1).trans rfl)
    exact vx_throwS (names := xNs) hx hb hl0 hown (by decide) (by decide) h_k53 h_nI hsa h_aI xotI hXZ.1 hXZ.2 hC.2.2.2 (hl.1.trans hml.symm) dX2_buy_9 dX2_buy_12 dX2_buy_13 dX2_buy_15 dX2_buy_18 (fun x hx => (htab x hx).elim) (Nat.le_of_ble_eq_true rfl) (Nat.le_of_ble_eq_true rfl) (Nat.le_of_ble_eq_true rfl) (Nat.le_of_ble_eq_true rfl) hlocks (fun t hal hz ho => x_thrown hC e hal hz ho) hC.2.2.2.2.2 (Nat.le_of_ble_eq_true rfl) (Nat.le_of_ble_eq_true rfl)
abbrev rmX2_sell : Room := { frames := 6, cells := 1, slots := 6, locals := 158 }
def fX2_sell (σ : (Nat → Nat → Int32)) (ρ : (Nat → Nat → Int32)) (p0 : Int32) : ((Int32 × (Nat → Nat → Int32) × (Nat → Nat → Int32)) ⊕ String) :=
    if (fX2_isOutside p0 (1 : Int32) (500 : Int32)) = 0 then
      if p0 ≤ (σ 0 5) then
        let σ3 : (Nat → Nat → Int32) := up2 σ 0 5 ((σ 0 5) - p0)
        let σ4 : (Nat → Nat → Int32) := up2 σ3 0 2 ((σ3 0 2) + (p0 / (2 : Int32)))
        .inl ((σ4 0 2), σ4, ρ)
      else
        .inr "java/lang/IllegalStateException"
    else
      .inr "java/lang/IllegalArgumentException"
theorem xinA_sell : ∀ w ∈ (vx_atS RX2 27 "java/lang/IllegalArgumentException" xNs).filter goodWord, w ∈ wsX2_sell := by decide +kernel
theorem xinS_sell : ∀ w ∈ (vx_atS RX2 38 "java/lang/IllegalStateException" xNs).filter goodWord, w ∈ wsX2_sell := by decide +kernel
set_option maxHeartbeats 400000 in
set_option maxRecDepth 100000 in
theorem c_X2_sell (l : Launch) (hl0 : l.stackTraces = false) (D : va_G) (cI cM : ClassId) (a : Nat → Nat) (σ ρ : (Nat → Nat → Int32)) (p0 : Int32) : xMi l yX2_sell wsX2_sell rmX2_sell D cI cM a [.ref (a 34), .int p0] 0 σ ρ (fX2_sell σ ρ p0) := by
  intro sz
  refine x_head (cc := cX2_sell) (maxL := 2) (ret := (some .int)) (by decide) rfl (Nat.le_of_ble_eq_true rfl) ?_
  intro p e S m below meth c hx hb hr hml hown hts hlocks htab hXN hXZ hA hC ls hl
  have hF : CallFix p m c cX2_sell 2 S [.ref (a 34), .int p0].toArray wsX2_sell RX2 := ⟨hx, hb, hml, hown, hts⟩
  have h_f10 : (Cond.fieldLink RX2 10 "CombersSociety" "now" "LCombersSociety$Society;").before [.ref (a 34), .int p0].toArray S = true := hts _ (by decide +kernel)
  have h_iX2 : ∀ w ∈ u_ws RX2 TX2 2, w ∈ wsX2_sell := by decide +kernel
  have h_f121 : (Cond.fieldLink RX2 121 "CombersSociety$Society" "tops" "I").before [.ref (a 34), .int p0].toArray S = true := hts _ (by decide +kernel)
  have h_iX1 : ∀ w ∈ u_ws RX1 TX1 14, w ∈ wsX2_sell := by decide +kernel
  have h_f80 : (Cond.fieldLink RX2 80 "CombersSociety$Society" "box" "I").before [.ref (a 34), .int p0].toArray S = true := hts _ (by decide +kernel)
  have h_k34 : (Cond.classLink RX2 34 "java/lang/IllegalStateException").before [.ref (a 34), .int p0].toArray S = true := hts _ (by decide +kernel)
  have h_nS : (Cond.initialized "java/lang/IllegalStateException").before [.ref (a 34), .int p0].toArray S = true := hts _ (by decide +kernel)
  have h_aS : ∀ w ∈ vx_atS RX2 38 "java/lang/IllegalStateException" xNs, w.before [.ref (a 34), .int p0].toArray S = true := xhatS (fun w hw => hts w (xinS_sell w hw)) hXN
  have h_k23 : (Cond.classLink RX2 23 "java/lang/IllegalArgumentException").before [.ref (a 34), .int p0].toArray S = true := hts _ (by decide +kernel)
  have h_nA : (Cond.initialized "java/lang/IllegalArgumentException").before [.ref (a 34), .int p0].toArray S = true := hts _ (by decide +kernel)
  have h_aA : ∀ w ∈ vx_atS RX2 27 "java/lang/IllegalArgumentException" xNs, w.before [.ref (a 34), .int p0].toArray S = true := xhatA (fun w hw => hts w (xinA_sell w hw)) hXN
  have hl : lv_has ls 2 [(0, .ref (a 34)), (1, .int p0)] := hl
  refine lv_iload_n hx hb dX2_sell_0 rfl (lv_at hl 1 rfl) ?_
  refine lv_iconst (v := 1) hx hb dX2_sell_1 (by decide) ?_
  refine lv_sipush (v := 500) hx hb dX2_sell_2 (by decide) ?_
  refine c_iSi (n := 3) hF (c_X2_isOutside l D cI cM a 0 σ ρ p0 (1 : Int32) (500 : Int32) ) gX2_sell_X2_isOutside rfl rfl rfl (by decide +kernel) ⟨Nat.le_of_ble_eq_true rfl, Nat.le_of_ble_eq_true rfl⟩ hC hA rfl hl.1 rfl (Nat.le_of_ble_eq_true rfl) dX2_sell_5 ⟨Nat.zero_le _, Nat.zero_le _⟩ ?_
  clear hC; intro H locs hC
  refine lv_if_eq (tgt := 21) hx hb dX2_sell_8 (by decide) (fun c1 => ?_) (fun c1 => ?_)
  · refine lv_aload_n hx hb dX2_sell_21 rfl (lv_at hl 0 rfl) ?_
    refine cg_w hx hb hts h_iX2 hown hC 0 (by decide) h_f10 dX2_sell_22 ?_
    refine cg_s hx hb hts h_iX1 hown hC (by decide) 5 (by decide) h_f121 dX2_sell_25 ?_
    refine lv_iload_n hx hb dX2_sell_28 rfl (lv_at hl 1 rfl) ?_
    refine lv_icmp_ge (tgt := 42) hx hb dX2_sell_29 (by decide) (fun c2 => ?_) (fun c2 => ?_)
    · refine lv_aload_n hx hb dX2_sell_42 rfl (lv_at hl 0 rfl) ?_
      refine cg_w hx hb hts h_iX2 hown hC 0 (by decide) h_f10 dX2_sell_43 ?_
      refine lv_dup hx hb dX2_sell_46 rfl ?_
      refine cg_s hx hb hts h_iX1 hown hC (by decide) 5 (by decide) h_f121 dX2_sell_47 ?_
      refine lv_iload_n hx hb dX2_sell_50 rfl (lv_at hl 1 rfl) ?_
      refine lv_isub hx hb dX2_sell_51 ?_
      refine cp_s hx hb hts h_iX1 hown hC (by decide) 5 (by decide) h_f121 dX2_sell_52 ?_
      clear hC; intro H locs σ3 eσ3 hC
      refine lv_aload_n hx hb dX2_sell_55 rfl (lv_at hl 0 rfl) ?_
      refine cg_w hx hb hts h_iX2 hown hC 0 (by decide) h_f10 dX2_sell_56 ?_
      refine lv_dup hx hb dX2_sell_59 rfl ?_
      refine cg_s hx hb hts h_iX1 hown hC (by decide) 2 (by decide) h_f80 dX2_sell_60 ?_
      refine lv_iload_n hx hb dX2_sell_63 rfl (lv_at hl 1 rfl) ?_
      refine lv_iconst (v := 2) hx hb dX2_sell_64 (by decide) ?_
      refine lv_idiv hx hb dX2_sell_65 (by decide) ?_
      refine lv_iadd hx hb dX2_sell_66 ?_
      refine cp_s hx hb hts h_iX1 hown hC (by decide) 2 (by decide) h_f80 dX2_sell_67 ?_
      clear hC; intro H locs σ4 eσ4 hC
      refine lv_aload_n hx hb dX2_sell_70 rfl (lv_at hl 0 rfl) ?_
      refine cg_w hx hb hts h_iX2 hown hC 0 (by decide) h_f10 dX2_sell_71 ?_
      refine cg_s hx hb hts h_iX1 hown hC (by decide) 2 (by decide) h_f80 dX2_sell_74 ?_
      have e : fX2_sell σ ρ p0 = .inl ((σ4 0 2), σ4, ρ) := by subst eσ3 eσ4; unfold fX2_sell; exact ((if_pos c1).trans ((if_pos c2).trans rfl))
      exact x_iret hx hb hr hlocks hC dX2_sell_77 e
    · obtain ⟨sa, hsa⟩ := hXN.s124
      have e : fX2_sell σ ρ p0 = .inr "java/lang/IllegalStateException" := by unfold fX2_sell; exact ((if_pos c1).trans ((if_neg c2).trans rfl))
      exact vx_throwS (names := xNs) hx hb hl0 hown (by decide) (by decide) h_k34 h_nS hsa h_aS xotS hXZ.1 hXZ.2 hC.2.2.2 (hl.1.trans hml.symm) dX2_sell_32 dX2_sell_35 dX2_sell_36 dX2_sell_38 dX2_sell_41 (fun x hx => (htab x hx).elim) (Nat.le_of_ble_eq_true rfl) (Nat.le_of_ble_eq_true rfl) (Nat.le_of_ble_eq_true rfl) (Nat.le_of_ble_eq_true rfl) hlocks (fun t hal hz ho => x_thrown hC e hal hz ho) hC.2.2.2.2.2 (Nat.le_of_ble_eq_true rfl) (Nat.le_of_ble_eq_true rfl)
  · obtain ⟨sa, hsa⟩ := hXN.s119
    have e : fX2_sell σ ρ p0 = .inr "java/lang/IllegalArgumentException" := by unfold fX2_sell; exact ((if_neg c1).trans rfl)
    exact vx_throwS (names := xNs) hx hb hl0 hown (by decide) (by decide) h_k23 h_nA hsa h_aA xotA hXZ.1 hXZ.2 hC.2.2.2 (hl.1.trans hml.symm) dX2_sell_11 dX2_sell_14 dX2_sell_15 dX2_sell_17 dX2_sell_20 (fun x hx => (htab x hx).elim) (Nat.le_of_ble_eq_true rfl) (Nat.le_of_ble_eq_true rfl) (Nat.le_of_ble_eq_true rfl) (Nat.le_of_ble_eq_true rfl) hlocks (fun t hal hz ho => x_thrown hC e hal hz ho) hC.2.2.2.2.2 (Nat.le_of_ble_eq_true rfl) (Nat.le_of_ble_eq_true rfl)
abbrev rmX2_count : Room := { frames := 6, cells := 1, slots := 6, locals := 158 }
def fX2_count (σ : (Nat → Nat → Int32)) (ρ : (Nat → Nat → Int32)) (p0 : Int32) : ((Int32 × (Nat → Nat → Int32) × (Nat → Nat → Int32)) ⊕ String) :=
    if (fX2_isOutside p0 (0 : Int32) (12 : Int32)) = 0 then
      .inl ((fX1_tally σ p0), σ, ρ)
    else
      .inr "java/lang/IndexOutOfBoundsException"
theorem xinI_count : ∀ w ∈ (vx_atS RX2 57 "java/lang/IndexOutOfBoundsException" xNs).filter goodWord, w ∈ wsX2_count := by decide +kernel
set_option maxHeartbeats 400000 in
set_option maxRecDepth 100000 in
theorem c_X2_count (l : Launch) (hl0 : l.stackTraces = false) (D : va_G) (cI cM : ClassId) (a : Nat → Nat) (σ ρ : (Nat → Nat → Int32)) (p0 : Int32) : xMi l yX2_count wsX2_count rmX2_count D cI cM a [.ref (a 34), .int p0] 0 σ ρ (fX2_count σ ρ p0) := by
  intro sz
  refine x_head (cc := cX2_count) (maxL := 2) (ret := (some .int)) (by decide) rfl (Nat.le_of_ble_eq_true rfl) ?_
  intro p e S m below meth c hx hb hr hml hown hts hlocks htab hXN hXZ hA hC ls hl
  have hF : CallFix p m c cX2_count 2 S [.ref (a 34), .int p0].toArray wsX2_count RX2 := ⟨hx, hb, hml, hown, hts⟩
  have h_f10 : (Cond.fieldLink RX2 10 "CombersSociety" "now" "LCombersSociety$Society;").before [.ref (a 34), .int p0].toArray S = true := hts _ (by decide +kernel)
  have h_iX2 : ∀ w ∈ u_ws RX2 TX2 2, w ∈ wsX2_count := by decide +kernel
  have h_k53 : (Cond.classLink RX2 53 "java/lang/IndexOutOfBoundsException").before [.ref (a 34), .int p0].toArray S = true := hts _ (by decide +kernel)
  have h_nI : (Cond.initialized "java/lang/IndexOutOfBoundsException").before [.ref (a 34), .int p0].toArray S = true := hts _ (by decide +kernel)
  have h_aI : ∀ w ∈ vx_atS RX2 57 "java/lang/IndexOutOfBoundsException" xNs, w.before [.ref (a 34), .int p0].toArray S = true := xhatI (fun w hw => hts w (xinI_count w hw)) hXN
  have hl : lv_has ls 2 [(0, .ref (a 34)), (1, .int p0)] := hl
  refine lv_iload_n hx hb dX2_count_0 rfl (lv_at hl 1 rfl) ?_
  refine lv_iconst (v := 0) hx hb dX2_count_1 (by decide) ?_
  refine lv_bipush (v := 12) hx hb dX2_count_2 (by decide) ?_
  refine c_iSi (n := 3) hF (c_X2_isOutside l D cI cM a 0 σ ρ p0 (0 : Int32) (12 : Int32) ) gX2_count_X2_isOutside rfl rfl rfl (by decide +kernel) ⟨Nat.le_of_ble_eq_true rfl, Nat.le_of_ble_eq_true rfl⟩ hC hA rfl hl.1 rfl (Nat.le_of_ble_eq_true rfl) dX2_count_4 ⟨Nat.zero_le _, Nat.zero_le _⟩ ?_
  clear hC; intro H locs hC
  refine lv_if_eq (tgt := 20) hx hb dX2_count_7 (by decide) (fun c1 => ?_) (fun c1 => ?_)
  · refine lv_aload_n hx hb dX2_count_20 rfl (lv_at hl 0 rfl) ?_
    refine cg_w hx hb hts h_iX2 hown hC 0 (by decide) h_f10 dX2_count_21 ?_
    refine lv_iload_n hx hb dX2_count_24 rfl (lv_at hl 1 rfl) ?_
    refine c_iVp (n := 1) hF (c_X1_tally l D cI cM a 0 σ ρ (by decide) p0 ) gX2_count_X1_tally rfl rfl rfl (by decide +kernel) ⟨Nat.le_of_ble_eq_true rfl, Nat.le_of_ble_eq_true rfl⟩ hC hA (hC.recvS (by decide)) rfl hl.1 rfl (Nat.le_of_ble_eq_true rfl) dX2_count_25 ⟨Nat.zero_le _, Nat.zero_le _⟩ ?_
    clear hC; intro H locs hC
    have e : fX2_count σ ρ p0 = .inl ((fX1_tally σ p0), σ, ρ) := by unfold fX2_count; exact ((if_pos c1).trans rfl)
    exact x_iret hx hb hr hlocks hC dX2_count_28 e
  · obtain ⟨sa, hsa⟩ := hXN.s107
    have e : fX2_count σ ρ p0 = .inr "java/lang/IndexOutOfBoundsException" := by unfold fX2_count; exact ((if_neg c1).trans rfl)
    exact vx_throwS (names := xNs) hx hb hl0 hown (by decide) (by decide) h_k53 h_nI hsa h_aI xotI hXZ.1 hXZ.2 hC.2.2.2 (hl.1.trans hml.symm) dX2_count_10 dX2_count_13 dX2_count_14 dX2_count_16 dX2_count_19 (fun x hx => (htab x hx).elim) (Nat.le_of_ble_eq_true rfl) (Nat.le_of_ble_eq_true rfl) (Nat.le_of_ble_eq_true rfl) (Nat.le_of_ble_eq_true rfl) hlocks (fun t hal hz ho => x_thrown hC e hal hz ho) hC.2.2.2.2.2 (Nat.le_of_ble_eq_true rfl) (Nat.le_of_ble_eq_true rfl)
abbrev rmX2_pass : Room := { frames := 6, cells := 1, slots := 6, locals := 158 }
def fX2_pass (σ : (Nat → Nat → Int32)) (ρ : (Nat → Nat → Int32)) (p0 : Int32) : ((Int32 × (Nat → Nat → Int32) × (Nat → Nat → Int32)) ⊕ String) :=
    if (fX2_isOutside p0 (1 : Int32) (60 : Int32)) = 0 then
      let σ2 : (Nat → Nat → Int32) := (fX1_liveWeeks σ (p0).toNatClampNeg)
      .inl (((σ2 0 2) - (σ 0 2)), σ2, ρ)
    else
      .inr "java/lang/IllegalArgumentException"
theorem xinA_pass : ∀ w ∈ (vx_atS RX2 27 "java/lang/IllegalArgumentException" xNs).filter goodWord, w ∈ wsX2_pass := by decide +kernel
set_option maxHeartbeats 400000 in
set_option maxRecDepth 100000 in
theorem c_X2_pass (l : Launch) (hl0 : l.stackTraces = false) (D : va_G) (cI cM : ClassId) (a : Nat → Nat) (σ ρ : (Nat → Nat → Int32)) (p0 : Int32) : xMi l yX2_pass wsX2_pass rmX2_pass D cI cM a [.ref (a 34), .int p0] 0 σ ρ (fX2_pass σ ρ p0) := by
  intro sz
  refine x_head (cc := cX2_pass) (maxL := 3) (ret := (some .int)) (by decide) rfl (Nat.le_of_ble_eq_true rfl) ?_
  intro p e S m below meth c hx hb hr hml hown hts hlocks htab hXN hXZ hA hC ls hl
  have hF : CallFix p m c cX2_pass 3 S [.ref (a 34), .int p0].toArray wsX2_pass RX2 := ⟨hx, hb, hml, hown, hts⟩
  have h_f10 : (Cond.fieldLink RX2 10 "CombersSociety" "now" "LCombersSociety$Society;").before [.ref (a 34), .int p0].toArray S = true := hts _ (by decide +kernel)
  have h_iX2 : ∀ w ∈ u_ws RX2 TX2 2, w ∈ wsX2_pass := by decide +kernel
  have h_f80 : (Cond.fieldLink RX2 80 "CombersSociety$Society" "box" "I").before [.ref (a 34), .int p0].toArray S = true := hts _ (by decide +kernel)
  have h_iX1 : ∀ w ∈ u_ws RX1 TX1 14, w ∈ wsX2_pass := by decide +kernel
  have h_k23 : (Cond.classLink RX2 23 "java/lang/IllegalArgumentException").before [.ref (a 34), .int p0].toArray S = true := hts _ (by decide +kernel)
  have h_nA : (Cond.initialized "java/lang/IllegalArgumentException").before [.ref (a 34), .int p0].toArray S = true := hts _ (by decide +kernel)
  have h_aA : ∀ w ∈ vx_atS RX2 27 "java/lang/IllegalArgumentException" xNs, w.before [.ref (a 34), .int p0].toArray S = true := xhatA (fun w hw => hts w (xinA_pass w hw)) hXN
  have hl : lv_has ls 3 [(0, .ref (a 34)), (1, .int p0)] := hl
  refine lv_iload_n hx hb dX2_pass_0 rfl (lv_at hl 1 rfl) ?_
  refine lv_iconst (v := 1) hx hb dX2_pass_1 (by decide) ?_
  refine lv_bipush (v := 60) hx hb dX2_pass_2 (by decide) ?_
  refine c_iSi (n := 3) hF (c_X2_isOutside l D cI cM a 0 σ ρ p0 (1 : Int32) (60 : Int32) ) gX2_pass_X2_isOutside rfl rfl rfl (by decide +kernel) ⟨Nat.le_of_ble_eq_true rfl, Nat.le_of_ble_eq_true rfl⟩ hC hA rfl hl.1 rfl (Nat.le_of_ble_eq_true rfl) dX2_pass_4 ⟨Nat.zero_le _, Nat.zero_le _⟩ ?_
  clear hC; intro H locs hC
  refine lv_if_eq (tgt := 20) hx hb dX2_pass_7 (by decide) (fun c1 => ?_) (fun c1 => ?_)
  · refine lv_aload_n hx hb dX2_pass_20 rfl (lv_at hl 0 rfl) ?_
    refine cg_w hx hb hts h_iX2 hown hC 0 (by decide) h_f10 dX2_pass_21 ?_
    refine cg_s hx hb hts h_iX1 hown hC (by decide) 2 (by decide) h_f80 dX2_pass_24 ?_
    refine lv_istore_n (lv' := [(2, .int (σ 0 2)), (0, .ref (a 34)), (1, .int p0)]) hx hb dX2_pass_27 rfl hl (by decide) rfl ?_
    clear hl; intro ls hl
    refine lv_aload_n hx hb dX2_pass_28 rfl (lv_at hl 1 rfl) ?_
    refine cg_w hx hb hts h_iX2 hown hC 0 (by decide) h_f10 dX2_pass_29 ?_
    refine lv_iload_n hx hb dX2_pass_32 rfl (lv_at hl 2 rfl) ?_
    have hM := (c_X1_liveWeeks l D cI cM a 0 σ ρ (by decide) (p0).toNatClampNeg (Nat.lt_trans (isOut_ix1 (N := 61) c1 (by decide) (by decide)).2 (by decide)) )
    rw [← (isOut_ix1 (N := 61) c1 (by decide) (by decide)).1] at hM
    refine c_iVv (n := 1) hF hM gX2_pass_X1_liveWeeks rfl rfl rfl (by decide +kernel) ⟨Nat.le_of_ble_eq_true rfl, Nat.le_of_ble_eq_true rfl⟩ hC hA (hC.recvS (by decide)) rfl hl.1 rfl (Nat.le_of_ble_eq_true rfl) dX2_pass_33 ⟨Nat.zero_le _, Nat.zero_le _⟩ ?_
    clear hC; intro H locs σ2 eσ2 hC
    refine lv_aload_n hx hb dX2_pass_36 rfl (lv_at hl 1 rfl) ?_
    refine cg_w hx hb hts h_iX2 hown hC 0 (by decide) h_f10 dX2_pass_37 ?_
    refine cg_s hx hb hts h_iX1 hown hC (by decide) 2 (by decide) h_f80 dX2_pass_40 ?_
    refine lv_iload_n hx hb dX2_pass_43 rfl (lv_at hl 0 rfl) ?_
    refine lv_isub hx hb dX2_pass_44 ?_
    have e : fX2_pass σ ρ p0 = .inl (((σ2 0 2) - (σ 0 2)), σ2, ρ) := by subst eσ2; unfold fX2_pass; exact ((if_pos c1).trans rfl)
    exact x_iret hx hb hr hlocks hC dX2_pass_45 e
  · obtain ⟨sa, hsa⟩ := hXN.s135
    have e : fX2_pass σ ρ p0 = .inr "java/lang/IllegalArgumentException" := by unfold fX2_pass; exact ((if_neg c1).trans rfl)
    exact vx_throwS (names := xNs) hx hb hl0 hown (by decide) (by decide) h_k23 h_nA hsa h_aA xotA hXZ.1 hXZ.2 hC.2.2.2 (hl.1.trans hml.symm) dX2_pass_10 dX2_pass_13 dX2_pass_14 dX2_pass_16 dX2_pass_19 (fun x hx => (htab x hx).elim) (Nat.le_of_ble_eq_true rfl) (Nat.le_of_ble_eq_true rfl) (Nat.le_of_ble_eq_true rfl) (Nat.le_of_ble_eq_true rfl) hlocks (fun t hal hz ho => x_thrown hC e hal hz ho) hC.2.2.2.2.2 (Nat.le_of_ble_eq_true rfl) (Nat.le_of_ble_eq_true rfl)
abbrev rmX2_owes : Room := { frames := 0, cells := 0, slots := 0, locals := 0 }
def fX2_owes_b1 (σ : (Nat → Nat → Int32)) (i1x : Nat) (v1_2 : Int32) (v1_1 : Int32) : Int32 × Int32 :=
    if (σ (i1x+5) 3) ≤ v1_1 then
      (v1_2, v1_1)
    else
      ((nI i1x), (σ (i1x+5) 3))
def fX2_owes_k1 (σ : (Nat → Nat → Int32)) (ρ : (Nat → Nat → Int32)) (v1_2 : Int32) (v1_1 : Int32) : Int32 × (Nat → Nat → Int32) × (Nat → Nat → Int32) :=
    (v1_2, σ, ρ)
def fX2_owes_k1x (σ : (Nat → Nat → Int32)) (ρ : (Nat → Nat → Int32)) (x : Int32 × Int32) : Int32 × (Nat → Nat → Int32) × (Nat → Nat → Int32) := fX2_owes_k1 σ ρ x.1 x.2
def fX2_owes (σ : (Nat → Nat → Int32)) (ρ : (Nat → Nat → Int32)) : Int32 × (Nat → Nat → Int32) × (Nat → Nat → Int32) :=
    fX2_owes_k1x σ ρ (itR (fun i x => fX2_owes_b1 σ i x.1 x.2) 0 12 ((-1 : Int32), (0 : Int32)))
set_option maxHeartbeats 400000 in
set_option maxRecDepth 100000 in
theorem c_X2_owes (l : Launch) (D : va_G) (cI cM : ClassId) (a : Nat → Nat) (σ ρ : (Nat → Nat → Int32))  : cMi2 l yX2_owes wsX2_owes rmX2_owes D cI cM a [.ref (a 34)] 0 σ ρ (fX2_owes σ ρ).1 (fX2_owes σ ρ).2.1 (fX2_owes σ ρ).2.2 := by
  intro sz
  refine c_head (cc := cX2_owes) (maxL := 4) (ret := (some .int)) (plainFor_of_name (by decide)) rfl (Nat.le_of_ble_eq_true rfl) ?_
  intro p e S m below meth c hx hb hr hml hown hts hlocks hnm hsz hA hC ls hl
  have h_f10 : (Cond.fieldLink RX2 10 "CombersSociety" "now" "LCombersSociety$Society;").before [.ref (a 34)].toArray S = true := hts _ (by decide +kernel)
  have h_iX2 : ∀ w ∈ u_ws RX2 TX2 2, w ∈ wsX2_owes := by decide +kernel
  have h_f39 : (Cond.fieldLink RX2 39 "CombersSociety$Society" "members" "[LCombersSociety$Member;").before [.ref (a 34)].toArray S = true := hts _ (by decide +kernel)
  have h_iX1 : ∀ w ∈ u_ws RX1 TX1 14, w ∈ wsX2_owes := by decide +kernel
  have h_f87 : (Cond.fieldLink RX2 87 "CombersSociety$Member" "marks" "I").before [.ref (a 34)].toArray S = true := hts _ (by decide +kernel)
  have h_iX0 : ∀ w ∈ u_ws RX0 TX0 10, w ∈ wsX2_owes := by decide +kernel
  have hl : lv_has ls 4 [(0, .ref (a 34))] := hl
  refine lv_iconst (v := 0) hx hb dX2_owes_0 (by decide) ?_
  refine lv_istore_n (lv' := [(1, .int (0 : Int32)), (0, .ref (a 34))]) hx hb dX2_owes_1 rfl hl (by decide) rfl ?_
  clear hl; intro ls hl
  refine lv_iconst (v := -1) hx hb dX2_owes_2 (by decide) ?_
  refine lv_istore_n (lv' := [(2, .int (-1 : Int32)), (1, .int (0 : Int32)), (0, .ref (a 34))]) hx hb dX2_owes_3 rfl hl (by decide) rfl ?_
  clear hl; intro ls hl
  refine lv_iconst (v := 0) hx hb dX2_owes_4 (by decide) ?_
  refine lv_istore_n (lv' := [(3, .int (0 : Int32)), (2, .int (-1 : Int32)), (1, .int (0 : Int32)), (0, .ref (a 34))]) hx hb dX2_owes_5 rfl hl (by decide) rfl ?_
  clear hl; intro ls hl
  have loop1 : ∀ (n1x i1x : Nat) (v1_2 : Int32) (v1_1 : Int32), i1x + n1x = 12 → itR (fun i x => fX2_owes_b1 σ i x.1 x.2) i1x n1x (v1_2, v1_1) = itR (fun i x => fX2_owes_b1 σ i x.1 x.2) 0 12 ((-1 : Int32), (0 : Int32)) → ∀ (H : Heap) (locs : List Loc), cB D cI cM a S (cA a sz) S.heap H locs 0 σ ρ → ∀ ls : Array Slot, lv_has ls 4 [(3, .int (nI i1x)), (2, .int v1_2), (1, .int v1_1), (0, .ref (a 34))] → W p l e (headSpec wsX2_owes rmX2_owes).room S m [.ref (a 34)].toArray below meth c H locs 0 0 (MQ below (va_Qi (fun r' (_ : Unit) => r' = (fX2_owes σ ρ).1) (cPost D cI cM a 0 (fX2_owes σ ρ).2.1 (fX2_owes σ ρ).2.2) (cA a sz)) [.ref (a 34)].toArray S 0 0 (cA a sz)) (F0 m 6 ls []) := by
    clear hC hl
    intro n1x
    induction n1x with
    | zero =>
      intro i1x v1_2 v1_1 hin1 hX1 H locs hC ls hl
      obtain rfl : 12 = i1x := by omega
      have q1 : fX2_owes σ ρ = fX2_owes_k1 σ ρ v1_2 v1_1 := by unfold fX2_owes; exact ((congrArg (fX2_owes_k1x _ _) hX1.symm).trans rfl)
      refine lv_iload_n hx hb dX2_owes_6 rfl (lv_at hl 0 rfl) ?_
      refine lv_aload_n hx hb dX2_owes_7 rfl (lv_at hl 3 rfl) ?_
      refine cg_w hx hb hts h_iX2 hown hC 0 (by decide) h_f10 dX2_owes_8 ?_
      refine cg_r hx hb hts h_iX1 hown hC (by decide) 3 (by decide) h_f39 dX2_owes_11 ?_
      refine c_mlen hx hb hC (by decide) dX2_owes_14 ?_
      refine lv_icmp_ge (tgt := 55) hx hb dX2_owes_15 (by decide) (fun c3 => ?_) (fun c3 => absurd (by decide) c3)
      refine lv_iload_n hx hb dX2_owes_55 rfl (lv_at hl 1 rfl) ?_
      have e0 : fX2_owes_k1 σ ρ v1_2 v1_1 = (v1_2, σ, ρ) := by exact rfl
      have e : fX2_owes σ ρ = (v1_2, σ, ρ) := (q1.trans e0)
      exact c_iret2 hx hb hr hlocks hC dX2_owes_56 ⟨by rw [e], by rw [e], by rw [e]⟩
    | succ n1x ih1 =>
      intro i1x v1_2 v1_1 hin1 hX1 H locs hC ls hl
      refine lv_iload_n hx hb dX2_owes_6 rfl (lv_at hl 0 rfl) ?_
      refine lv_aload_n hx hb dX2_owes_7 rfl (lv_at hl 3 rfl) ?_
      refine cg_w hx hb hts h_iX2 hown hC 0 (by decide) h_f10 dX2_owes_8 ?_
      refine cg_r hx hb hts h_iX1 hown hC (by decide) 3 (by decide) h_f39 dX2_owes_11 ?_
      refine c_mlen hx hb hC (by decide) dX2_owes_14 ?_
      refine lv_icmp_ge (tgt := 55) hx hb dX2_owes_15 (by decide) (fun c1 => absurd c1 (show ¬ (12 : Int32) ≤ nI i1x from (nI_ge (a := i1x) (b := 12) (by omega) (by decide) : ¬ nI 12 ≤ nI i1x))) (fun c1 => ?_)
      refine lv_aload_n hx hb dX2_owes_18 rfl (lv_at hl 3 rfl) ?_
      refine cg_w hx hb hts h_iX2 hown hC 0 (by decide) h_f10 dX2_owes_19 ?_
      refine cg_r hx hb hts h_iX1 hown hC (by decide) 3 (by decide) h_f39 dX2_owes_22 ?_
      refine lv_iload_n hx hb dX2_owes_25 rfl (lv_at hl 0 rfl) ?_
      refine c_mld hx hb hC (by decide) (j := i1x) rfl (show _ < 12 by omega) dX2_owes_26 ?_
      refine cg_m hx hb hts h_iX0 hown hC (by decide) (show _ < 12 by omega) 3 (by decide) h_f87 dX2_owes_27 ?_
      refine lv_iload_n hx hb dX2_owes_30 rfl (lv_at hl 2 rfl) ?_
      refine lv_icmp_le (tgt := 49) hx hb dX2_owes_31 (by decide) (fun c2 => ?_) (fun c2 => ?_)
      · refine lv_iinc (v := (nI (i1x + 1))) (lv' := [(3, .int (nI (i1x + 1))), (2, .int v1_2), (1, .int v1_1), (0, .ref (a 34))]) hx hb dX2_owes_49 hl (k := 0) rfl (nI_1 i1x) (by decide) rfl ?_
        clear hl; intro ls hl
        refine lv_goto (tgt := 6) hx hb dX2_owes_52 (by decide) ?_
        have e : fX2_owes_b1 σ i1x v1_2 v1_1 = (v1_2, v1_1) := by unfold fX2_owes_b1; exact ((if_pos c2).trans rfl)
        exact ih1 (i1x + 1) v1_2 v1_1 (by omega) (by rw [← e]; exact hX1) _ _ hC ls (lv_sub hl [0, 1, 2, 3] rfl)
      · refine lv_aload_n hx hb dX2_owes_34 rfl (lv_at hl 3 rfl) ?_
        refine cg_w hx hb hts h_iX2 hown hC 0 (by decide) h_f10 dX2_owes_35 ?_
        refine cg_r hx hb hts h_iX1 hown hC (by decide) 3 (by decide) h_f39 dX2_owes_38 ?_
        refine lv_iload_n hx hb dX2_owes_41 rfl (lv_at hl 0 rfl) ?_
        refine c_mld hx hb hC (by decide) (j := i1x) rfl (show _ < 12 by omega) dX2_owes_42 ?_
        refine cg_m hx hb hts h_iX0 hown hC (by decide) (show _ < 12 by omega) 3 (by decide) h_f87 dX2_owes_43 ?_
        refine lv_istore_n (lv' := [(1, .int (σ (i1x+5) 3)), (3, .int (nI i1x)), (2, .int v1_2), (0, .ref (a 34))]) hx hb dX2_owes_46 rfl hl (by decide) rfl ?_
        clear hl; intro ls hl
        refine lv_iload_n hx hb dX2_owes_47 rfl (lv_at hl 1 rfl) ?_
        refine lv_istore_n (lv' := [(2, .int (nI i1x)), (1, .int (σ (i1x+5) 3)), (3, .int (nI i1x)), (0, .ref (a 34))]) hx hb dX2_owes_48 rfl hl (by decide) rfl ?_
        clear hl; intro ls hl
        refine lv_iinc (v := (nI (i1x + 1))) (lv' := [(3, .int (nI (i1x + 1))), (2, .int (nI i1x)), (1, .int (σ (i1x+5) 3)), (0, .ref (a 34))]) hx hb dX2_owes_49 hl (k := 2) rfl (nI_1 i1x) (by decide) rfl ?_
        clear hl; intro ls hl
        refine lv_goto (tgt := 6) hx hb dX2_owes_52 (by decide) ?_
        have e : fX2_owes_b1 σ i1x v1_2 v1_1 = ((nI i1x), (σ (i1x+5) 3)) := by unfold fX2_owes_b1; exact ((if_neg c2).trans rfl)
        exact ih1 (i1x + 1) (nI i1x) (σ (i1x+5) 3) (by omega) (by rw [← e]; exact hX1) _ _ hC ls (lv_sub hl [0, 1, 2, 3] rfl)
  exact loop1 12 0 (-1 : Int32) (0 : Int32) (by omega) rfl _ _ hC ls (lv_sub hl [0, 1, 2, 3] rfl)
