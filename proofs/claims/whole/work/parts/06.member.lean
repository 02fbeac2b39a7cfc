abbrev rmJ9_floorMod_7cf53 : Room := { frames := 0, cells := 0, slots := 0, locals := 0 }
def fJ9_floorMod_7cf53 (p0 : Int32) (p1 : Int32) : Int32 :=
    if 0 ≤ (p0 ^^^ p1) then
      (p0 - p0 / p1 * p1)
    else
      if (p0 - p0 / p1 * p1) = 0 then
        (p0 - p0 / p1 * p1)
      else
        ((p0 - p0 / p1 * p1) + p1)
set_option maxHeartbeats 400000 in
set_option maxRecDepth 100000 in
theorem c_J9_floorMod_7cf53 (l : Launch) (D : va_G) (cI cM : ClassId) (a : Nat → Nat) (s : Nat) (σ ρ : (Nat → Nat → Int32)) (p0 : Int32) (p1 : Int32) (hy : ¬ p1 = 0) : cMi l yJ9_floorMod_7cf53 wsJ9_floorMod_7cf53 rmJ9_floorMod_7cf53 D cI cM a [.int p0, .int p1] s σ ρ (fJ9_floorMod_7cf53 p0 p1) σ := by
  intro sz
  refine c_head (cc := cJ9_floorMod_7cf53) (maxL := 3) (ret := (some .int)) (by decide +kernel) rfl (Nat.le_of_ble_eq_true rfl) ?_
  intro p e S m below meth c hx hb hr hml hown hts hlocks hnm hsz hA hC ls hl
  have hl : lv_has ls 3 [(0, .int p0), (1, .int p1)] := hl
  refine lv_iload_n hx hb dJ9_floorMod_7cf53_0 rfl (lv_at hl 0 rfl) ?_
  refine lv_iload_n hx hb dJ9_floorMod_7cf53_1 rfl (lv_at hl 1 rfl) ?_
  refine lv_irem hx hb dJ9_floorMod_7cf53_2 hy ?_
  refine lv_istore_n (lv' := [(2, .int (p0 - p0 / p1 * p1)), (0, .int p0), (1, .int p1)]) hx hb dJ9_floorMod_7cf53_3 rfl hl (by decide) rfl ?_
  clear hl; intro ls hl
  refine lv_iload_n hx hb dJ9_floorMod_7cf53_4 rfl (lv_at hl 1 rfl) ?_
  refine lv_iload_n hx hb dJ9_floorMod_7cf53_5 rfl (lv_at hl 2 rfl) ?_
  refine lv_ixor hx hb dJ9_floorMod_7cf53_6 ?_
  refine lv_if_ge (tgt := 18) hx hb dJ9_floorMod_7cf53_7 (by decide) (fun c1 => ?_) (fun c1 => ?_)
  · refine lv_iload_n hx hb dJ9_floorMod_7cf53_18 rfl (lv_at hl 0 rfl) ?_
    have e : fJ9_floorMod_7cf53 p0 p1 = (p0 - p0 / p1 * p1) := by exact ((if_pos c1).trans rfl)
    exact c_iret hx hb hr hlocks hC dJ9_floorMod_7cf53_19 ⟨by rw [e], rfl⟩
  · refine lv_iload_n hx hb dJ9_floorMod_7cf53_10 rfl (lv_at hl 0 rfl) ?_
    refine lv_if_eq (tgt := 18) hx hb dJ9_floorMod_7cf53_11 (by decide) (fun c2 => ?_) (fun c2 => ?_)
    · refine lv_iload_n hx hb dJ9_floorMod_7cf53_18 rfl (lv_at hl 0 rfl) ?_
      have e : fJ9_floorMod_7cf53 p0 p1 = (p0 - p0 / p1 * p1) := by exact ((if_neg c1).trans ((if_pos c2).trans rfl))
      exact c_iret hx hb hr hlocks hC dJ9_floorMod_7cf53_19 ⟨by rw [e], rfl⟩
    · refine lv_iload_n hx hb dJ9_floorMod_7cf53_14 rfl (lv_at hl 0 rfl) ?_
      refine lv_iload_n hx hb dJ9_floorMod_7cf53_15 rfl (lv_at hl 2 rfl) ?_
      refine lv_iadd hx hb dJ9_floorMod_7cf53_16 ?_
      have e : fJ9_floorMod_7cf53 p0 p1 = ((p0 - p0 / p1 * p1) + p1) := by exact ((if_neg c1).trans ((if_neg c2).trans rfl))
      exact c_iret hx hb hr hlocks hC dJ9_floorMod_7cf53_17 ⟨by rw [e], rfl⟩
abbrev rmX0_enter : Room := { frames := 0, cells := 0, slots := 0, locals := 0 }
def fX0_enter (σ : (Nat → Nat → Int32)) (i : Nat) (p0 : Int32) (p1 : Int32) : (Nat → Nat → Int32) :=
    let σ1 : (Nat → Nat → Int32) := up2 σ (i+5) 0 p0
    let σ2 : (Nat → Nat → Int32) := up2 σ1 (i+5) 1 p1
    let σ3 : (Nat → Nat → Int32) := up2 σ2 (i+5) 2 (10 : Int32)
    let σ4 : (Nat → Nat → Int32) := up2 σ3 (i+5) 6 (0 : Int32)
    σ4
set_option maxHeartbeats 400000 in
set_option maxRecDepth 100000 in
theorem c_X0_enter (l : Launch) (D : va_G) (cI cM : ClassId) (a : Nat → Nat) (s : Nat) (σ ρ : (Nat → Nat → Int32)) (hs : s < 2) (i : Nat) (hi : i < 12) (p0 : Int32) (p1 : Int32) : cMv l yX0_enter wsX0_enter rmX0_enter D cI cM a [.ref (a (17*s+(i+5))), .int p0, .int p1] s σ ρ (fX0_enter σ i p0 p1) := by
  intro sz
  refine c_head (cc := cX0_enter) (maxL := 3) (ret := none) (plainFor_of_name (by decide)) rfl (Nat.le_of_ble_eq_true rfl) ?_
  intro p e S m below meth c hx hb hr hml hown hts hlocks hnm hsz hA hC ls hl
  have h_f18 : (Cond.fieldLink RX0 18 "CombersSociety$Member" "skill" "I").before [.ref (a (17*s+(i+5))), .int p0, .int p1].toArray S = true := hts _ (by decide +kernel)
  have h_iX0 : ∀ w ∈ u_ws RX0 TX0 10, w ∈ wsX0_enter := by decide +kernel
  have h_f21 : (Cond.fieldLink RX0 21 "CombersSociety$Member" "strength" "I").before [.ref (a (17*s+(i+5))), .int p0, .int p1].toArray S = true := hts _ (by decide +kernel)
  have h_f24 : (Cond.fieldLink RX0 24 "CombersSociety$Member" "coins" "I").before [.ref (a (17*s+(i+5))), .int p0, .int p1].toArray S = true := hts _ (by decide +kernel)
  have h_f15 : (Cond.fieldLink RX0 15 "CombersSociety$Member" "health" "I").before [.ref (a (17*s+(i+5))), .int p0, .int p1].toArray S = true := hts _ (by decide +kernel)
  have hl : lv_has ls 3 [(0, .ref (a (17*s+(i+5)))), (1, .int p0), (2, .int p1)] := hl
  refine lv_aload_n hx hb dX0_enter_0 rfl (lv_at hl 0 rfl) ?_
  refine lv_iload_n hx hb dX0_enter_1 rfl (lv_at hl 1 rfl) ?_
  refine cp_m hx hb hts h_iX0 hown hC hs hi 0 (by decide) h_f18 dX0_enter_2 ?_
  clear hC; intro H locs σ1 eσ1 hC
  refine lv_aload_n hx hb dX0_enter_5 rfl (lv_at hl 0 rfl) ?_
  refine lv_iload_n hx hb dX0_enter_6 rfl (lv_at hl 2 rfl) ?_
  refine cp_m hx hb hts h_iX0 hown hC hs hi 1 (by decide) h_f21 dX0_enter_7 ?_
  clear hC; intro H locs σ2 eσ2 hC
  refine lv_aload_n hx hb dX0_enter_10 rfl (lv_at hl 0 rfl) ?_
  refine lv_bipush (v := 10) hx hb dX0_enter_11 (by decide) ?_
  refine cp_m hx hb hts h_iX0 hown hC hs hi 2 (by decide) h_f24 dX0_enter_13 ?_
  clear hC; intro H locs σ3 eσ3 hC
  refine lv_aload_n hx hb dX0_enter_16 rfl (lv_at hl 0 rfl) ?_
  refine lv_iconst (v := 0) hx hb dX0_enter_17 (by decide) ?_
  refine cp_m hx hb hts h_iX0 hown hC hs hi 6 (by decide) h_f15 dX0_enter_18 ?_
  clear hC; intro H locs σ4 eσ4 hC
  have e : fX0_enter σ i p0 p1 = σ4 := by subst eσ1 eσ2 eσ3 eσ4; exact rfl
  exact c_vret hx hb hr hlocks hC dX0_enter_21 (by rw [e])
abbrev rmX0_copyFrom : Room := { frames := 0, cells := 0, slots := 0, locals := 0 }
def fX0_copyFrom (σ : (Nat → Nat → Int32)) (ρ : (Nat → Nat → Int32)) (i : Nat) : (Nat → Nat → Int32) :=
    let σ1 : (Nat → Nat → Int32) := up2 σ (i+5) 0 (ρ (i+5) 0)
    let σ2 : (Nat → Nat → Int32) := up2 σ1 (i+5) 1 (ρ (i+5) 1)
    let σ3 : (Nat → Nat → Int32) := up2 σ2 (i+5) 2 (ρ (i+5) 2)
    let σ4 : (Nat → Nat → Int32) := up2 σ3 (i+5) 3 (ρ (i+5) 3)
    let σ5 : (Nat → Nat → Int32) := up2 σ4 (i+5) 4 (ρ (i+5) 4)
    let σ6 : (Nat → Nat → Int32) := up2 σ5 (i+5) 5 (ρ (i+5) 5)
    let σ7 : (Nat → Nat → Int32) := up2 σ6 (i+5) 6 (ρ (i+5) 6)
    let σ8 : (Nat → Nat → Int32) := up2 σ7 (i+5) 7 (ρ (i+5) 7)
    let σ9 : (Nat → Nat → Int32) := up2 σ8 (i+5) 8 (ρ (i+5) 8)
    let σ10 : (Nat → Nat → Int32) := up2 σ9 (i+5) 9 (ρ (i+5) 9)
    σ10
set_option maxHeartbeats 400000 in
set_option maxRecDepth 100000 in
theorem c_X0_copyFrom (l : Launch) (D : va_G) (cI cM : ClassId) (a : Nat → Nat) (s : Nat) (σ ρ : (Nat → Nat → Int32)) (hs : s < 2) (i : Nat) (hi : i < 12) (hU : ρ (i+5) 9 = 0 ∨ ρ (i+5) 9 = 1) : cMv l yX0_copyFrom wsX0_copyFrom rmX0_copyFrom D cI cM a [.ref (a (17*s+(i+5))), .ref (a (17*(1-s)+(i+5)))] s σ ρ (fX0_copyFrom σ ρ i) := by
  intro sz
  refine c_head (cc := cX0_copyFrom) (maxL := 2) (ret := none) (plainFor_of_name (by decide)) rfl (Nat.le_of_ble_eq_true rfl) ?_
  intro p e S m below meth c hx hb hr hml hown hts hlocks hnm hsz hA hC ls hl
  have h_f18 : (Cond.fieldLink RX0 18 "CombersSociety$Member" "skill" "I").before [.ref (a (17*s+(i+5))), .ref (a (17*(1-s)+(i+5)))].toArray S = true := hts _ (by decide +kernel)
  have h_iX0 : ∀ w ∈ u_ws RX0 TX0 10, w ∈ wsX0_copyFrom := by decide +kernel
  have h_f21 : (Cond.fieldLink RX0 21 "CombersSociety$Member" "strength" "I").before [.ref (a (17*s+(i+5))), .ref (a (17*(1-s)+(i+5)))].toArray S = true := hts _ (by decide +kernel)
  have h_f24 : (Cond.fieldLink RX0 24 "CombersSociety$Member" "coins" "I").before [.ref (a (17*s+(i+5))), .ref (a (17*(1-s)+(i+5)))].toArray S = true := hts _ (by decide +kernel)
  have h_f27 : (Cond.fieldLink RX0 27 "CombersSociety$Member" "marks" "I").before [.ref (a (17*s+(i+5))), .ref (a (17*(1-s)+(i+5)))].toArray S = true := hts _ (by decide +kernel)
  have h_f30 : (Cond.fieldLink RX0 30 "CombersSociety$Member" "unpaid" "I").before [.ref (a (17*s+(i+5))), .ref (a (17*(1-s)+(i+5)))].toArray S = true := hts _ (by decide +kernel)
  have h_f9 : (Cond.fieldLink RX0 9 "CombersSociety$Member" "pot" "I").before [.ref (a (17*s+(i+5))), .ref (a (17*(1-s)+(i+5)))].toArray S = true := hts _ (by decide +kernel)
  have h_f15 : (Cond.fieldLink RX0 15 "CombersSociety$Member" "health" "I").before [.ref (a (17*s+(i+5))), .ref (a (17*(1-s)+(i+5)))].toArray S = true := hts _ (by decide +kernel)
  have h_f33 : (Cond.fieldLink RX0 33 "CombersSociety$Member" "weeksLeft" "I").before [.ref (a (17*s+(i+5))), .ref (a (17*(1-s)+(i+5)))].toArray S = true := hts _ (by decide +kernel)
  have h_f36 : (Cond.fieldLink RX0 36 "CombersSociety$Member" "weeksSick" "I").before [.ref (a (17*s+(i+5))), .ref (a (17*(1-s)+(i+5)))].toArray S = true := hts _ (by decide +kernel)
  have h_f39 : (Cond.fieldLink RX0 39 "CombersSociety$Member" "unburied" "Z").before [.ref (a (17*s+(i+5))), .ref (a (17*(1-s)+(i+5)))].toArray S = true := hts _ (by decide +kernel)
  have hl : lv_has ls 2 [(0, .ref (a (17*s+(i+5)))), (1, .ref (a (17*(1-s)+(i+5))))] := hl
  refine lv_aload_n hx hb dX0_copyFrom_0 rfl (lv_at hl 0 rfl) ?_
  refine lv_aload_n hx hb dX0_copyFrom_1 rfl (lv_at hl 1 rfl) ?_
  refine cg_m hx hb hts h_iX0 hown (hC.sw hs) (by omega) hi 0 (by decide) h_f18 dX0_copyFrom_2 ?_
  refine cp_m hx hb hts h_iX0 hown hC hs hi 0 (by decide) h_f18 dX0_copyFrom_5 ?_
  clear hC; intro H locs σ1 eσ1 hC
  refine lv_aload_n hx hb dX0_copyFrom_8 rfl (lv_at hl 0 rfl) ?_
  refine lv_aload_n hx hb dX0_copyFrom_9 rfl (lv_at hl 1 rfl) ?_
  refine cg_m hx hb hts h_iX0 hown (hC.sw hs) (by omega) hi 1 (by decide) h_f21 dX0_copyFrom_10 ?_
  refine cp_m hx hb hts h_iX0 hown hC hs hi 1 (by decide) h_f21 dX0_copyFrom_13 ?_
  clear hC; intro H locs σ2 eσ2 hC
  refine lv_aload_n hx hb dX0_copyFrom_16 rfl (lv_at hl 0 rfl) ?_
  refine lv_aload_n hx hb dX0_copyFrom_17 rfl (lv_at hl 1 rfl) ?_
  refine cg_m hx hb hts h_iX0 hown (hC.sw hs) (by omega) hi 2 (by decide) h_f24 dX0_copyFrom_18 ?_
  refine cp_m hx hb hts h_iX0 hown hC hs hi 2 (by decide) h_f24 dX0_copyFrom_21 ?_
  clear hC; intro H locs σ3 eσ3 hC
  refine lv_aload_n hx hb dX0_copyFrom_24 rfl (lv_at hl 0 rfl) ?_
  refine lv_aload_n hx hb dX0_copyFrom_25 rfl (lv_at hl 1 rfl) ?_
  refine cg_m hx hb hts h_iX0 hown (hC.sw hs) (by omega) hi 3 (by decide) h_f27 dX0_copyFrom_26 ?_
  refine cp_m hx hb hts h_iX0 hown hC hs hi 3 (by decide) h_f27 dX0_copyFrom_29 ?_
  clear hC; intro H locs σ4 eσ4 hC
  refine lv_aload_n hx hb dX0_copyFrom_32 rfl (lv_at hl 0 rfl) ?_
  refine lv_aload_n hx hb dX0_copyFrom_33 rfl (lv_at hl 1 rfl) ?_
  refine cg_m hx hb hts h_iX0 hown (hC.sw hs) (by omega) hi 4 (by decide) h_f30 dX0_copyFrom_34 ?_
  refine cp_m hx hb hts h_iX0 hown hC hs hi 4 (by decide) h_f30 dX0_copyFrom_37 ?_
  clear hC; intro H locs σ5 eσ5 hC
  refine lv_aload_n hx hb dX0_copyFrom_40 rfl (lv_at hl 0 rfl) ?_
  refine lv_aload_n hx hb dX0_copyFrom_41 rfl (lv_at hl 1 rfl) ?_
  refine cg_m hx hb hts h_iX0 hown (hC.sw hs) (by omega) hi 5 (by decide) h_f9 dX0_copyFrom_42 ?_
  refine cp_m hx hb hts h_iX0 hown hC hs hi 5 (by decide) h_f9 dX0_copyFrom_45 ?_
  clear hC; intro H locs σ6 eσ6 hC
  refine lv_aload_n hx hb dX0_copyFrom_48 rfl (lv_at hl 0 rfl) ?_
  refine lv_aload_n hx hb dX0_copyFrom_49 rfl (lv_at hl 1 rfl) ?_
  refine cg_m hx hb hts h_iX0 hown (hC.sw hs) (by omega) hi 6 (by decide) h_f15 dX0_copyFrom_50 ?_
  refine cp_m hx hb hts h_iX0 hown hC hs hi 6 (by decide) h_f15 dX0_copyFrom_53 ?_
  clear hC; intro H locs σ7 eσ7 hC
  refine lv_aload_n hx hb dX0_copyFrom_56 rfl (lv_at hl 0 rfl) ?_
  refine lv_aload_n hx hb dX0_copyFrom_57 rfl (lv_at hl 1 rfl) ?_
  refine cg_m hx hb hts h_iX0 hown (hC.sw hs) (by omega) hi 7 (by decide) h_f33 dX0_copyFrom_58 ?_
  refine cp_m hx hb hts h_iX0 hown hC hs hi 7 (by decide) h_f33 dX0_copyFrom_61 ?_
  clear hC; intro H locs σ8 eσ8 hC
  refine lv_aload_n hx hb dX0_copyFrom_64 rfl (lv_at hl 0 rfl) ?_
  refine lv_aload_n hx hb dX0_copyFrom_65 rfl (lv_at hl 1 rfl) ?_
  refine cg_m hx hb hts h_iX0 hown (hC.sw hs) (by omega) hi 8 (by decide) h_f36 dX0_copyFrom_66 ?_
  refine cp_m hx hb hts h_iX0 hown hC hs hi 8 (by decide) h_f36 dX0_copyFrom_69 ?_
  clear hC; intro H locs σ9 eσ9 hC
  refine lv_aload_n hx hb dX0_copyFrom_72 rfl (lv_at hl 0 rfl) ?_
  refine lv_aload_n hx hb dX0_copyFrom_73 rfl (lv_at hl 1 rfl) ?_
  refine cg_m hx hb hts h_iX0 hown (hC.sw hs) (by omega) hi 9 (by decide) h_f39 dX0_copyFrom_74 ?_
  refine cp_mb hx hb hts h_iX0 hown hC hs hi hU h_f39 dX0_copyFrom_77 ?_
  clear hC; intro H locs σ10 eσ10 hC
  have e : fX0_copyFrom σ ρ i = σ10 := by subst eσ1 eσ2 eσ3 eσ4 eσ5 eσ6 eσ7 eσ8 eσ9 eσ10; exact rfl
  exact c_vret hx hb hr hlocks hC dX0_copyFrom_80 (by rw [e])
abbrev rmX0_combs : Room := { frames := 0, cells := 0, slots := 0, locals := 0 }
def fX0_combs (σ : (Nat → Nat → Int32)) (i : Nat) : Int32 :=
    if (σ (i+5) 6) = 0 then
      if (σ (i+5) 5) < 0 then
        (0 : Int32)
      else
        if (3 : Int32) ≤ (σ (i+5) 5) then
          (0 : Int32)
        else
          (1 : Int32)
    else
      (0 : Int32)
set_option maxHeartbeats 400000 in
set_option maxRecDepth 100000 in
theorem c_X0_combs (l : Launch) (D : va_G) (cI cM : ClassId) (a : Nat → Nat) (s : Nat) (σ ρ : (Nat → Nat → Int32)) (hs : s < 2) (i : Nat) (hi : i < 12) : cMi l yX0_combs wsX0_combs rmX0_combs D cI cM a [.ref (a (17*s+(i+5)))] s σ ρ (fX0_combs σ i) σ := by
  intro sz
  refine c_head (cc := cX0_combs) (maxL := 1) (ret := (some .boolean)) (plainFor_of_name (by decide)) rfl (Nat.le_of_ble_eq_true rfl) ?_
  intro p e S m below meth c hx hb hr hml hown hts hlocks hnm hsz hA hC ls hl
  have h_f15 : (Cond.fieldLink RX0 15 "CombersSociety$Member" "health" "I").before [.ref (a (17*s+(i+5)))].toArray S = true := hts _ (by decide +kernel)
  have h_iX0 : ∀ w ∈ u_ws RX0 TX0 10, w ∈ wsX0_combs := by decide +kernel
  have h_f9 : (Cond.fieldLink RX0 9 "CombersSociety$Member" "pot" "I").before [.ref (a (17*s+(i+5)))].toArray S = true := hts _ (by decide +kernel)
  have hl : lv_has ls 1 [(0, .ref (a (17*s+(i+5))))] := hl
  refine lv_aload_n hx hb dX0_combs_0 rfl (lv_at hl 0 rfl) ?_
  refine cg_m hx hb hts h_iX0 hown hC hs hi 6 (by decide) h_f15 dX0_combs_1 ?_
  refine lv_if_ne (tgt := 26) hx hb dX0_combs_4 (by decide) (fun c1 => ?_) (fun c1 => ?_)
  · refine lv_iconst (v := 0) hx hb dX0_combs_26 (by decide) ?_
    have e : fX0_combs σ i = (0 : Int32) := by exact ((if_neg c1).trans rfl)
    exact c_zret hx hb hr hlocks hC dX0_combs_27 (Or.inl rfl) ⟨by rw [e], rfl⟩
  · refine lv_aload_n hx hb dX0_combs_7 rfl (lv_at hl 0 rfl) ?_
    refine cg_m hx hb hts h_iX0 hown hC hs hi 5 (by decide) h_f9 dX0_combs_8 ?_
    refine lv_if_lt (tgt := 26) hx hb dX0_combs_11 (by decide) (fun c2 => ?_) (fun c2 => ?_)
    · refine lv_iconst (v := 0) hx hb dX0_combs_26 (by decide) ?_
      have e : fX0_combs σ i = (0 : Int32) := by exact ((if_pos c1).trans ((if_pos c2).trans rfl))
      exact c_zret hx hb hr hlocks hC dX0_combs_27 (Or.inl rfl) ⟨by rw [e], rfl⟩
    · refine lv_aload_n hx hb dX0_combs_14 rfl (lv_at hl 0 rfl) ?_
      refine cg_m hx hb hts h_iX0 hown hC hs hi 5 (by decide) h_f9 dX0_combs_15 ?_
      refine lv_iconst (v := 3) hx hb dX0_combs_18 (by decide) ?_
      refine lv_icmp_ge (tgt := 26) hx hb dX0_combs_19 (by decide) (fun c3 => ?_) (fun c3 => ?_)
      · refine lv_iconst (v := 0) hx hb dX0_combs_26 (by decide) ?_
        have e : fX0_combs σ i = (0 : Int32) := by exact ((if_pos c1).trans ((if_neg c2).trans ((if_pos c3).trans rfl)))
        exact c_zret hx hb hr hlocks hC dX0_combs_27 (Or.inl rfl) ⟨by rw [e], rfl⟩
      · refine lv_iconst (v := 1) hx hb dX0_combs_22 (by decide) ?_
        refine lv_goto (tgt := 27) hx hb dX0_combs_23 (by decide) ?_
        have e : fX0_combs σ i = (1 : Int32) := by exact ((if_pos c1).trans ((if_neg c2).trans ((if_neg c3).trans rfl)))
        exact c_zret hx hb hr hlocks hC dX0_combs_27 (Or.inr rfl) ⟨by rw [e], rfl⟩
abbrev rmX0_lives : Room := { frames := 0, cells := 0, slots := 0, locals := 0 }
def fX0_lives (σ : (Nat → Nat → Int32)) (i : Nat) : Int32 :=
    if (σ (i+5) 6) = 0 then
      (1 : Int32)
    else
      if (σ (i+5) 6) = (1 : Int32) then
        (1 : Int32)
      else
        (0 : Int32)
set_option maxHeartbeats 400000 in
set_option maxRecDepth 100000 in
theorem c_X0_lives (l : Launch) (D : va_G) (cI cM : ClassId) (a : Nat → Nat) (s : Nat) (σ ρ : (Nat → Nat → Int32)) (hs : s < 2) (i : Nat) (hi : i < 12) : cMi l yX0_lives wsX0_lives rmX0_lives D cI cM a [.ref (a (17*s+(i+5)))] s σ ρ (fX0_lives σ i) σ := by
  intro sz
  refine c_head (cc := cX0_lives) (maxL := 1) (ret := (some .boolean)) (plainFor_of_name (by decide)) rfl (Nat.le_of_ble_eq_true rfl) ?_
  intro p e S m below meth c hx hb hr hml hown hts hlocks hnm hsz hA hC ls hl
  have h_f15 : (Cond.fieldLink RX0 15 "CombersSociety$Member" "health" "I").before [.ref (a (17*s+(i+5)))].toArray S = true := hts _ (by decide +kernel)
  have h_iX0 : ∀ w ∈ u_ws RX0 TX0 10, w ∈ wsX0_lives := by decide +kernel
  have hl : lv_has ls 1 [(0, .ref (a (17*s+(i+5))))] := hl
  refine lv_aload_n hx hb dX0_lives_0 rfl (lv_at hl 0 rfl) ?_
  refine cg_m hx hb hts h_iX0 hown hC hs hi 6 (by decide) h_f15 dX0_lives_1 ?_
  refine lv_if_eq (tgt := 15) hx hb dX0_lives_4 (by decide) (fun c1 => ?_) (fun c1 => ?_)
  · refine lv_iconst (v := 1) hx hb dX0_lives_15 (by decide) ?_
    refine lv_goto (tgt := 20) hx hb dX0_lives_16 (by decide) ?_
    have e : fX0_lives σ i = (1 : Int32) := by exact ((if_pos c1).trans rfl)
    exact c_zret hx hb hr hlocks hC dX0_lives_20 (Or.inr rfl) ⟨by rw [e], rfl⟩
  · refine lv_aload_n hx hb dX0_lives_7 rfl (lv_at hl 0 rfl) ?_
    refine cg_m hx hb hts h_iX0 hown hC hs hi 6 (by decide) h_f15 dX0_lives_8 ?_
    refine lv_iconst (v := 1) hx hb dX0_lives_11 (by decide) ?_
    refine lv_icmp_ne (tgt := 19) hx hb dX0_lives_12 (by decide) (fun c2 => ?_) (fun c2 => ?_)
    · refine lv_iconst (v := 0) hx hb dX0_lives_19 (by decide) ?_
      have e : fX0_lives σ i = (0 : Int32) := by exact ((if_neg c1).trans ((if_neg c2).trans rfl))
      exact c_zret hx hb hr hlocks hC dX0_lives_20 (Or.inl rfl) ⟨by rw [e], rfl⟩
    · refine lv_iconst (v := 1) hx hb dX0_lives_15 (by decide) ?_
      refine lv_goto (tgt := 20) hx hb dX0_lives_16 (by decide) ?_
      have e : fX0_lives σ i = (1 : Int32) := by exact ((if_neg c1).trans ((if_pos c2).trans rfl))
      exact c_zret hx hb hr hlocks hC dX0_lives_20 (Or.inr rfl) ⟨by rw [e], rfl⟩
abbrev rmX0_fallSick : Room := { frames := 0, cells := 0, slots := 0, locals := 0 }
def fX0_fallSick (σ : (Nat → Nat → Int32)) (i : Nat) : (Nat → Nat → Int32) :=
    let σ1 : (Nat → Nat → Int32) := up2 σ (i+5) 6 (1 : Int32)
    let σ2 : (Nat → Nat → Int32) := up2 σ1 (i+5) 7 ((6 : Int32) - ((σ1 (i+5) 1) / (4 : Int32)))
    let σ3 : (Nat → Nat → Int32) := up2 σ2 (i+5) 8 (0 : Int32)
    σ3
set_option maxHeartbeats 400000 in
set_option maxRecDepth 100000 in
theorem c_X0_fallSick (l : Launch) (D : va_G) (cI cM : ClassId) (a : Nat → Nat) (s : Nat) (σ ρ : (Nat → Nat → Int32)) (hs : s < 2) (i : Nat) (hi : i < 12) : cMv l yX0_fallSick wsX0_fallSick rmX0_fallSick D cI cM a [.ref (a (17*s+(i+5)))] s σ ρ (fX0_fallSick σ i) := by
  intro sz
  refine c_head (cc := cX0_fallSick) (maxL := 1) (ret := none) (plainFor_of_name (by decide)) rfl (Nat.le_of_ble_eq_true rfl) ?_
  intro p e S m below meth c hx hb hr hml hown hts hlocks hnm hsz hA hC ls hl
  have h_f15 : (Cond.fieldLink RX0 15 "CombersSociety$Member" "health" "I").before [.ref (a (17*s+(i+5)))].toArray S = true := hts _ (by decide +kernel)
  have h_iX0 : ∀ w ∈ u_ws RX0 TX0 10, w ∈ wsX0_fallSick := by decide +kernel
  have h_f21 : (Cond.fieldLink RX0 21 "CombersSociety$Member" "strength" "I").before [.ref (a (17*s+(i+5)))].toArray S = true := hts _ (by decide +kernel)
  have h_f33 : (Cond.fieldLink RX0 33 "CombersSociety$Member" "weeksLeft" "I").before [.ref (a (17*s+(i+5)))].toArray S = true := hts _ (by decide +kernel)
  have h_f36 : (Cond.fieldLink RX0 36 "CombersSociety$Member" "weeksSick" "I").before [.ref (a (17*s+(i+5)))].toArray S = true := hts _ (by decide +kernel)
  have hl : lv_has ls 1 [(0, .ref (a (17*s+(i+5))))] := hl
  refine lv_aload_n hx hb dX0_fallSick_0 rfl (lv_at hl 0 rfl) ?_
  refine lv_iconst (v := 1) hx hb dX0_fallSick_1 (by decide) ?_
  refine cp_m hx hb hts h_iX0 hown hC hs hi 6 (by decide) h_f15 dX0_fallSick_2 ?_
  clear hC; intro H locs σ1 eσ1 hC
  refine lv_aload_n hx hb dX0_fallSick_5 rfl (lv_at hl 0 rfl) ?_
  refine lv_bipush (v := 6) hx hb dX0_fallSick_6 (by decide) ?_
  refine lv_aload_n hx hb dX0_fallSick_8 rfl (lv_at hl 0 rfl) ?_
  refine cg_m hx hb hts h_iX0 hown hC hs hi 1 (by decide) h_f21 dX0_fallSick_9 ?_
  refine lv_iconst (v := 4) hx hb dX0_fallSick_12 (by decide) ?_
  refine lv_idiv hx hb dX0_fallSick_13 (by decide) ?_
  refine lv_isub hx hb dX0_fallSick_14 ?_
  refine cp_m hx hb hts h_iX0 hown hC hs hi 7 (by decide) h_f33 dX0_fallSick_15 ?_
  clear hC; intro H locs σ2 eσ2 hC
  refine lv_aload_n hx hb dX0_fallSick_18 rfl (lv_at hl 0 rfl) ?_
  refine lv_iconst (v := 0) hx hb dX0_fallSick_19 (by decide) ?_
  refine cp_m hx hb hts h_iX0 hown hC hs hi 8 (by decide) h_f36 dX0_fallSick_20 ?_
  clear hC; intro H locs σ3 eσ3 hC
  have e : fX0_fallSick σ i = σ3 := by subst eσ1 eσ2 eσ3; exact rfl
  exact c_vret hx hb hr hlocks hC dX0_fallSick_23 (by rw [e])
abbrev rmX0_getWell : Room := { frames := 0, cells := 0, slots := 0, locals := 0 }
def fX0_getWell (σ : (Nat → Nat → Int32)) (i : Nat) : (Nat → Nat → Int32) :=
    let σ1 : (Nat → Nat → Int32) := up2 σ (i+5) 6 (0 : Int32)
    let σ2 : (Nat → Nat → Int32) := up2 σ1 (i+5) 7 (0 : Int32)
    let σ3 : (Nat → Nat → Int32) := up2 σ2 (i+5) 8 (0 : Int32)
    σ3
set_option maxHeartbeats 400000 in
set_option maxRecDepth 100000 in
theorem c_X0_getWell (l : Launch) (D : va_G) (cI cM : ClassId) (a : Nat → Nat) (s : Nat) (σ ρ : (Nat → Nat → Int32)) (hs : s < 2) (i : Nat) (hi : i < 12) : cMv l yX0_getWell wsX0_getWell rmX0_getWell D cI cM a [.ref (a (17*s+(i+5)))] s σ ρ (fX0_getWell σ i) := by
  intro sz
  refine c_head (cc := cX0_getWell) (maxL := 1) (ret := none) (plainFor_of_name (by decide)) rfl (Nat.le_of_ble_eq_true rfl) ?_
  intro p e S m below meth c hx hb hr hml hown hts hlocks hnm hsz hA hC ls hl
  have h_f15 : (Cond.fieldLink RX0 15 "CombersSociety$Member" "health" "I").before [.ref (a (17*s+(i+5)))].toArray S = true := hts _ (by decide +kernel)
  have h_iX0 : ∀ w ∈ u_ws RX0 TX0 10, w ∈ wsX0_getWell := by decide +kernel
  have h_f33 : (Cond.fieldLink RX0 33 "CombersSociety$Member" "weeksLeft" "I").before [.ref (a (17*s+(i+5)))].toArray S = true := hts _ (by decide +kernel)
  have h_f36 : (Cond.fieldLink RX0 36 "CombersSociety$Member" "weeksSick" "I").before [.ref (a (17*s+(i+5)))].toArray S = true := hts _ (by decide +kernel)
  have hl : lv_has ls 1 [(0, .ref (a (17*s+(i+5))))] := hl
  refine lv_aload_n hx hb dX0_getWell_0 rfl (lv_at hl 0 rfl) ?_
  refine lv_iconst (v := 0) hx hb dX0_getWell_1 (by decide) ?_
  refine cp_m hx hb hts h_iX0 hown hC hs hi 6 (by decide) h_f15 dX0_getWell_2 ?_
  clear hC; intro H locs σ1 eσ1 hC
  refine lv_aload_n hx hb dX0_getWell_5 rfl (lv_at hl 0 rfl) ?_
  refine lv_iconst (v := 0) hx hb dX0_getWell_6 (by decide) ?_
  refine cp_m hx hb hts h_iX0 hown hC hs hi 7 (by decide) h_f33 dX0_getWell_7 ?_
  clear hC; intro H locs σ2 eσ2 hC
  refine lv_aload_n hx hb dX0_getWell_10 rfl (lv_at hl 0 rfl) ?_
  refine lv_iconst (v := 0) hx hb dX0_getWell_11 (by decide) ?_
  refine cp_m hx hb hts h_iX0 hown hC hs hi 8 (by decide) h_f36 dX0_getWell_12 ?_
  clear hC; intro H locs σ3 eσ3 hC
  have e : fX0_getWell σ i = σ3 := by subst eσ1 eσ2 eσ3; exact rfl
  exact c_vret hx hb hr hlocks hC dX0_getWell_15 (by rw [e])
abbrev rmX0_die : Room := { frames := 0, cells := 0, slots := 0, locals := 0 }
def fX0_die (σ : (Nat → Nat → Int32)) (i : Nat) : (Nat → Nat → Int32) :=
    let σ1 : (Nat → Nat → Int32) := up2 σ (i+5) 6 (2 : Int32)
    let σ2 : (Nat → Nat → Int32) := up2 σ1 (i+5) 1 (0 : Int32)
    let σ3 : (Nat → Nat → Int32) := up2 σ2 (i+5) 3 (0 : Int32)
    let σ4 : (Nat → Nat → Int32) := up2 σ3 (i+5) 4 (0 : Int32)
    let σ5 : (Nat → Nat → Int32) := up2 σ4 (i+5) 5 (-1 : Int32)
    let σ6 : (Nat → Nat → Int32) := up2 σ5 (i+5) 7 (0 : Int32)
    let σ7 : (Nat → Nat → Int32) := up2 σ6 (i+5) 8 (0 : Int32)
    let σ8 : (Nat → Nat → Int32) := up2 σ7 (i+5) 9 (1 : Int32)
    σ8
set_option maxHeartbeats 400000 in
set_option maxRecDepth 100000 in
theorem c_X0_die (l : Launch) (D : va_G) (cI cM : ClassId) (a : Nat → Nat) (s : Nat) (σ ρ : (Nat → Nat → Int32)) (hs : s < 2) (i : Nat) (hi : i < 12) : cMv l yX0_die wsX0_die rmX0_die D cI cM a [.ref (a (17*s+(i+5)))] s σ ρ (fX0_die σ i) := by
  intro sz
  refine c_head (cc := cX0_die) (maxL := 1) (ret := none) (plainFor_of_name (by decide)) rfl (Nat.le_of_ble_eq_true rfl) ?_
  intro p e S m below meth c hx hb hr hml hown hts hlocks hnm hsz hA hC ls hl
  have h_f15 : (Cond.fieldLink RX0 15 "CombersSociety$Member" "health" "I").before [.ref (a (17*s+(i+5)))].toArray S = true := hts _ (by decide +kernel)
  have h_iX0 : ∀ w ∈ u_ws RX0 TX0 10, w ∈ wsX0_die := by decide +kernel
  have h_f21 : (Cond.fieldLink RX0 21 "CombersSociety$Member" "strength" "I").before [.ref (a (17*s+(i+5)))].toArray S = true := hts _ (by decide +kernel)
  have h_f27 : (Cond.fieldLink RX0 27 "CombersSociety$Member" "marks" "I").before [.ref (a (17*s+(i+5)))].toArray S = true := hts _ (by decide +kernel)
  have h_f30 : (Cond.fieldLink RX0 30 "CombersSociety$Member" "unpaid" "I").before [.ref (a (17*s+(i+5)))].toArray S = true := hts _ (by decide +kernel)
  have h_f9 : (Cond.fieldLink RX0 9 "CombersSociety$Member" "pot" "I").before [.ref (a (17*s+(i+5)))].toArray S = true := hts _ (by decide +kernel)
  have h_f33 : (Cond.fieldLink RX0 33 "CombersSociety$Member" "weeksLeft" "I").before [.ref (a (17*s+(i+5)))].toArray S = true := hts _ (by decide +kernel)
  have h_f36 : (Cond.fieldLink RX0 36 "CombersSociety$Member" "weeksSick" "I").before [.ref (a (17*s+(i+5)))].toArray S = true := hts _ (by decide +kernel)
  have h_f39 : (Cond.fieldLink RX0 39 "CombersSociety$Member" "unburied" "Z").before [.ref (a (17*s+(i+5)))].toArray S = true := hts _ (by decide +kernel)
  have hl : lv_has ls 1 [(0, .ref (a (17*s+(i+5))))] := hl
  refine lv_aload_n hx hb dX0_die_0 rfl (lv_at hl 0 rfl) ?_
  refine lv_iconst (v := 2) hx hb dX0_die_1 (by decide) ?_
  refine cp_m hx hb hts h_iX0 hown hC hs hi 6 (by decide) h_f15 dX0_die_2 ?_
  clear hC; intro H locs σ1 eσ1 hC
  refine lv_aload_n hx hb dX0_die_5 rfl (lv_at hl 0 rfl) ?_
  refine lv_iconst (v := 0) hx hb dX0_die_6 (by decide) ?_
  refine cp_m hx hb hts h_iX0 hown hC hs hi 1 (by decide) h_f21 dX0_die_7 ?_
  clear hC; intro H locs σ2 eσ2 hC
  refine lv_aload_n hx hb dX0_die_10 rfl (lv_at hl 0 rfl) ?_
  refine lv_iconst (v := 0) hx hb dX0_die_11 (by decide) ?_
  refine cp_m hx hb hts h_iX0 hown hC hs hi 3 (by decide) h_f27 dX0_die_12 ?_
  clear hC; intro H locs σ3 eσ3 hC
  refine lv_aload_n hx hb dX0_die_15 rfl (lv_at hl 0 rfl) ?_
  refine lv_iconst (v := 0) hx hb dX0_die_16 (by decide) ?_
  refine cp_m hx hb hts h_iX0 hown hC hs hi 4 (by decide) h_f30 dX0_die_17 ?_
  clear hC; intro H locs σ4 eσ4 hC
  refine lv_aload_n hx hb dX0_die_20 rfl (lv_at hl 0 rfl) ?_
  refine lv_iconst (v := -1) hx hb dX0_die_21 (by decide) ?_
  refine cp_m hx hb hts h_iX0 hown hC hs hi 5 (by decide) h_f9 dX0_die_22 ?_
  clear hC; intro H locs σ5 eσ5 hC
  refine lv_aload_n hx hb dX0_die_25 rfl (lv_at hl 0 rfl) ?_
  refine lv_iconst (v := 0) hx hb dX0_die_26 (by decide) ?_
  refine cp_m hx hb hts h_iX0 hown hC hs hi 7 (by decide) h_f33 dX0_die_27 ?_
  clear hC; intro H locs σ6 eσ6 hC
  refine lv_aload_n hx hb dX0_die_30 rfl (lv_at hl 0 rfl) ?_
  refine lv_iconst (v := 0) hx hb dX0_die_31 (by decide) ?_
  refine cp_m hx hb hts h_iX0 hown hC hs hi 8 (by decide) h_f36 dX0_die_32 ?_
  clear hC; intro H locs σ7 eσ7 hC
  refine lv_aload_n hx hb dX0_die_35 rfl (lv_at hl 0 rfl) ?_
  refine lv_iconst (v := 1) hx hb dX0_die_36 (by decide) ?_
  refine cp_mb hx hb hts h_iX0 hown hC hs hi (Or.inr rfl) h_f39 dX0_die_37 ?_
  clear hC; intro H locs σ8 eσ8 hC
  have e : fX0_die σ i = σ8 := by subst eσ1 eσ2 eσ3 eσ4 eσ5 eσ6 eσ7 eσ8; exact rfl
  exact c_vret hx hb hr hlocks hC dX0_die_40 (by rw [e])
abbrev rmX0_payMarks : Room := { frames := 1, cells := 0, slots := 0, locals := 13 }
def fX0_payMarks (σ : (Nat → Nat → Int32)) (i : Nat) : Int32 × (Nat → Nat → Int32) :=
    let σ1 : (Nat → Nat → Int32) := up2 σ (i+5) 3 ((σ (i+5) 3) - (mnI (σ (i+5) 3) (σ (i+5) 2)))
    let σ2 : (Nat → Nat → Int32) := up2 σ1 (i+5) 2 ((σ1 (i+5) 2) - (mnI (σ (i+5) 3) (σ (i+5) 2)))
    ((mnI (σ (i+5) 3) (σ (i+5) 2)), σ2)
set_option maxHeartbeats 400000 in
set_option maxRecDepth 100000 in
theorem c_X0_payMarks (l : Launch) (D : va_G) (cI cM : ClassId) (a : Nat → Nat) (s : Nat) (σ ρ : (Nat → Nat → Int32)) (hs : s < 2) (i : Nat) (hi : i < 12) : cMi l yX0_payMarks wsX0_payMarks rmX0_payMarks D cI cM a [.ref (a (17*s+(i+5)))] s σ ρ (fX0_payMarks σ i).1 (fX0_payMarks σ i).2 := by
  intro sz
  refine c_head (cc := cX0_payMarks) (maxL := 2) (ret := (some .int)) (plainFor_of_name (by decide)) rfl (Nat.le_of_ble_eq_true rfl) ?_
  intro p e S m below meth c hx hb hr hml hown hts hlocks hnm hsz hA hC ls hl
  have h_f27 : (Cond.fieldLink RX0 27 "CombersSociety$Member" "marks" "I").before [.ref (a (17*s+(i+5)))].toArray S = true := hts _ (by decide +kernel)
  have h_iX0 : ∀ w ∈ u_ws RX0 TX0 10, w ∈ wsX0_payMarks := by decide +kernel
  have h_f24 : (Cond.fieldLink RX0 24 "CombersSociety$Member" "coins" "I").before [.ref (a (17*s+(i+5)))].toArray S = true := hts _ (by decide +kernel)
  have h_ml43 : (Cond.methodLink RX0 43 Lib.Math.min.name).before [.ref (a (17*s+(i+5)))].toArray S = true := hts _ (by decide +kernel)
  have h_ms43 : (Cond.static Lib.Math.min.name).before [.ref (a (17*s+(i+5)))].toArray S = true := hts _ (by decide +kernel)
  have h_mini : (Cond.initialized "java/lang/Math").before [.ref (a (17*s+(i+5)))].toArray S = true := hts _ (by decide +kernel)
  have h_mc43 : (Cond.code Lib.Math.min.name Lib.Math.min.code 2 (some .int)).before [.ref (a (17*s+(i+5)))].toArray S = true := hts _ (by decide +kernel)
  have hl : lv_has ls 2 [(0, .ref (a (17*s+(i+5))))] := hl
  refine lv_aload_n hx hb dX0_payMarks_0 rfl (lv_at hl 0 rfl) ?_
  refine cg_m hx hb hts h_iX0 hown hC hs hi 3 (by decide) h_f27 dX0_payMarks_1 ?_
  refine lv_aload_n hx hb dX0_payMarks_4 rfl (lv_at hl 0 rfl) ?_
  refine cg_m hx hb hts h_iX0 hown hC hs hi 2 (by decide) h_f24 dX0_payMarks_5 ?_
  refine c_mmin hx hb (hml.trans hl.1.symm) hown h_ml43 h_ms43 h_mini h_mc43 (Nat.le_of_ble_eq_true rfl) (Nat.le_of_ble_eq_true rfl) (Nat.zero_le _) (Nat.zero_le _) dX0_payMarks_8 ?_
  refine lv_istore_n (lv' := [(1, .int (mnI (σ (i+5) 3) (σ (i+5) 2))), (0, .ref (a (17*s+(i+5))))]) hx hb dX0_payMarks_11 rfl hl (by decide) rfl ?_
  clear hl; intro ls hl
  refine lv_aload_n hx hb dX0_payMarks_12 rfl (lv_at hl 1 rfl) ?_
  refine lv_dup hx hb dX0_payMarks_13 rfl ?_
  refine cg_m hx hb hts h_iX0 hown hC hs hi 3 (by decide) h_f27 dX0_payMarks_14 ?_
  refine lv_iload_n hx hb dX0_payMarks_17 rfl (lv_at hl 0 rfl) ?_
  refine lv_isub hx hb dX0_payMarks_18 ?_
  refine cp_m hx hb hts h_iX0 hown hC hs hi 3 (by decide) h_f27 dX0_payMarks_19 ?_
  clear hC; intro H locs σ1 eσ1 hC
  refine lv_aload_n hx hb dX0_payMarks_22 rfl (lv_at hl 1 rfl) ?_
  refine lv_dup hx hb dX0_payMarks_23 rfl ?_
  refine cg_m hx hb hts h_iX0 hown hC hs hi 2 (by decide) h_f24 dX0_payMarks_24 ?_
  refine lv_iload_n hx hb dX0_payMarks_27 rfl (lv_at hl 0 rfl) ?_
  refine lv_isub hx hb dX0_payMarks_28 ?_
  refine cp_m hx hb hts h_iX0 hown hC hs hi 2 (by decide) h_f24 dX0_payMarks_29 ?_
  clear hC; intro H locs σ2 eσ2 hC
  refine lv_iload_n hx hb dX0_payMarks_32 rfl (lv_at hl 0 rfl) ?_
  have e : fX0_payMarks σ i = ((mnI (σ (i+5) 3) (σ (i+5) 2)), σ2) := by subst eσ1 eσ2; exact rfl
  exact c_iret hx hb hr hlocks hC dX0_payMarks_33 ⟨by rw [e], by rw [e]⟩
abbrev rmX0_payDues : Room := { frames := 1, cells := 0, slots := 0, locals := 14 }
def fX0_payDues (σ : (Nat → Nat → Int32)) (i : Nat) (p0 : Int32) : Int32 × (Nat → Nat → Int32) :=
    if p0 ≤ (σ (i+5) 2) then
      let σ2 : (Nat → Nat → Int32) := up2 σ (i+5) 2 ((σ (i+5) 2) - p0)
      let σ3 : (Nat → Nat → Int32) := up2 σ2 (i+5) 4 (0 : Int32)
      (p0, σ3)
    else
      let σ4 : (Nat → Nat → Int32) := up2 σ (i+5) 4 (mnI (9 : Int32) ((σ (i+5) 4) + (1 : Int32)))
      ((0 : Int32), σ4)
set_option maxHeartbeats 400000 in
set_option maxRecDepth 100000 in
theorem c_X0_payDues (l : Launch) (D : va_G) (cI cM : ClassId) (a : Nat → Nat) (s : Nat) (σ ρ : (Nat → Nat → Int32)) (hs : s < 2) (i : Nat) (hi : i < 12) (p0 : Int32) : cMi l yX0_payDues wsX0_payDues rmX0_payDues D cI cM a [.ref (a (17*s+(i+5))), .int p0] s σ ρ (fX0_payDues σ i p0).1 (fX0_payDues σ i p0).2 := by
  intro sz
  refine c_head (cc := cX0_payDues) (maxL := 2) (ret := (some .int)) (plainFor_of_name (by decide)) rfl (Nat.le_of_ble_eq_true rfl) ?_
  intro p e S m below meth c hx hb hr hml hown hts hlocks hnm hsz hA hC ls hl
  have h_f24 : (Cond.fieldLink RX0 24 "CombersSociety$Member" "coins" "I").before [.ref (a (17*s+(i+5))), .int p0].toArray S = true := hts _ (by decide +kernel)
  have h_iX0 : ∀ w ∈ u_ws RX0 TX0 10, w ∈ wsX0_payDues := by decide +kernel
  have h_f30 : (Cond.fieldLink RX0 30 "CombersSociety$Member" "unpaid" "I").before [.ref (a (17*s+(i+5))), .int p0].toArray S = true := hts _ (by decide +kernel)
  have h_ml43 : (Cond.methodLink RX0 43 Lib.Math.min.name).before [.ref (a (17*s+(i+5))), .int p0].toArray S = true := hts _ (by decide +kernel)
  have h_ms43 : (Cond.static Lib.Math.min.name).before [.ref (a (17*s+(i+5))), .int p0].toArray S = true := hts _ (by decide +kernel)
  have h_mini : (Cond.initialized "java/lang/Math").before [.ref (a (17*s+(i+5))), .int p0].toArray S = true := hts _ (by decide +kernel)
  have h_mc43 : (Cond.code Lib.Math.min.name Lib.Math.min.code 2 (some .int)).before [.ref (a (17*s+(i+5))), .int p0].toArray S = true := hts _ (by decide +kernel)
  have hl : lv_has ls 2 [(0, .ref (a (17*s+(i+5)))), (1, .int p0)] := hl
  refine lv_aload_n hx hb dX0_payDues_0 rfl (lv_at hl 0 rfl) ?_
  refine cg_m hx hb hts h_iX0 hown hC hs hi 2 (by decide) h_f24 dX0_payDues_1 ?_
  refine lv_iload_n hx hb dX0_payDues_4 rfl (lv_at hl 1 rfl) ?_
  refine lv_icmp_ge (tgt := 25) hx hb dX0_payDues_5 (by decide) (fun c1 => ?_) (fun c1 => ?_)
  · refine lv_aload_n hx hb dX0_payDues_25 rfl (lv_at hl 0 rfl) ?_
    refine lv_dup hx hb dX0_payDues_26 rfl ?_
    refine cg_m hx hb hts h_iX0 hown hC hs hi 2 (by decide) h_f24 dX0_payDues_27 ?_
    refine lv_iload_n hx hb dX0_payDues_30 rfl (lv_at hl 1 rfl) ?_
    refine lv_isub hx hb dX0_payDues_31 ?_
    refine cp_m hx hb hts h_iX0 hown hC hs hi 2 (by decide) h_f24 dX0_payDues_32 ?_
    clear hC; intro H locs σ2 eσ2 hC
    refine lv_aload_n hx hb dX0_payDues_35 rfl (lv_at hl 0 rfl) ?_
    refine lv_iconst (v := 0) hx hb dX0_payDues_36 (by decide) ?_
    refine cp_m hx hb hts h_iX0 hown hC hs hi 4 (by decide) h_f30 dX0_payDues_37 ?_
    clear hC; intro H locs σ3 eσ3 hC
    refine lv_iload_n hx hb dX0_payDues_40 rfl (lv_at hl 1 rfl) ?_
    have e : fX0_payDues σ i p0 = (p0, σ3) := by subst eσ2 eσ3; exact ((if_pos c1).trans rfl)
    exact c_iret hx hb hr hlocks hC dX0_payDues_41 ⟨by rw [e], by rw [e]⟩
  · refine lv_aload_n hx hb dX0_payDues_8 rfl (lv_at hl 0 rfl) ?_
    refine lv_bipush (v := 9) hx hb dX0_payDues_9 (by decide) ?_
    refine lv_aload_n hx hb dX0_payDues_11 rfl (lv_at hl 0 rfl) ?_
    refine cg_m hx hb hts h_iX0 hown hC hs hi 4 (by decide) h_f30 dX0_payDues_12 ?_
    refine lv_iconst (v := 1) hx hb dX0_payDues_15 (by decide) ?_
    refine lv_iadd hx hb dX0_payDues_16 ?_
    refine c_mmin hx hb (hml.trans hl.1.symm) hown h_ml43 h_ms43 h_mini h_mc43 (Nat.le_of_ble_eq_true rfl) (Nat.le_of_ble_eq_true rfl) (Nat.zero_le _) (Nat.zero_le _) dX0_payDues_17 ?_
    refine cp_m hx hb hts h_iX0 hown hC hs hi 4 (by decide) h_f30 dX0_payDues_20 ?_
    clear hC; intro H locs σ4 eσ4 hC
    refine lv_iconst (v := 0) hx hb dX0_payDues_23 (by decide) ?_
    have e : fX0_payDues σ i p0 = ((0 : Int32), σ4) := by subst eσ4; exact ((if_neg c1).trans rfl)
    exact c_iret hx hb hr hlocks hC dX0_payDues_24 ⟨by rw [e], by rw [e]⟩
abbrev rmX0_spendClubNight : Room := { frames := 2, cells := 0, slots := 0, locals := 34 }
def fX0_spendClubNight (σ : (Nat → Nat → Int32)) (i : Nat) : Int32 × (Nat → Nat → Int32) :=
    if (12 : Int32) ≤ (σ (i+5) 3) then
      let σ2 : (Nat → Nat → Int32) := (fX0_payMarks σ i).2
      let σ3 : (Nat → Nat → Int32) := up2 σ2 (i+5) 1 (mnI (20 : Int32) ((σ2 (i+5) 1) + (1 : Int32)))
      ((fX0_payMarks σ i).1, σ3)
    else
      let σ4 : (Nat → Nat → Int32) := up2 σ (i+5) 3 ((σ (i+5) 3) + ((1 : Int32) + ((σ (i+5) 2) / (8 : Int32))))
      let σ5 : (Nat → Nat → Int32) := (fX0_payMarks σ4 i).2
      let σ6 : (Nat → Nat → Int32) := up2 σ5 (i+5) 1 (mnI (20 : Int32) ((σ5 (i+5) 1) + (1 : Int32)))
      ((fX0_payMarks σ4 i).1, σ6)
set_option maxHeartbeats 400000 in
set_option maxRecDepth 100000 in
theorem c_X0_spendClubNight (l : Launch) (D : va_G) (cI cM : ClassId) (a : Nat → Nat) (s : Nat) (σ ρ : (Nat → Nat → Int32)) (hs : s < 2) (i : Nat) (hi : i < 12) : cMi l yX0_spendClubNight wsX0_spendClubNight rmX0_spendClubNight D cI cM a [.ref (a (17*s+(i+5)))] s σ ρ (fX0_spendClubNight σ i).1 (fX0_spendClubNight σ i).2 := by
  intro sz
  refine c_head (cc := cX0_spendClubNight) (maxL := 2) (ret := (some .int)) (plainFor_of_name (by decide)) rfl (Nat.le_of_ble_eq_true rfl) ?_
  intro p e S m below meth c hx hb hr hml hown hts hlocks hnm hsz hA hC ls hl
  have hF : CallFix p m c cX0_spendClubNight 2 S [.ref (a (17*s+(i+5)))].toArray wsX0_spendClubNight RX0 := ⟨hx, hb, hml, hown, hts⟩
  have h_f27 : (Cond.fieldLink RX0 27 "CombersSociety$Member" "marks" "I").before [.ref (a (17*s+(i+5)))].toArray S = true := hts _ (by decide +kernel)
  have h_iX0 : ∀ w ∈ u_ws RX0 TX0 10, w ∈ wsX0_spendClubNight := by decide +kernel
  have h_f21 : (Cond.fieldLink RX0 21 "CombersSociety$Member" "strength" "I").before [.ref (a (17*s+(i+5)))].toArray S = true := hts _ (by decide +kernel)
  have h_ml43 : (Cond.methodLink RX0 43 Lib.Math.min.name).before [.ref (a (17*s+(i+5)))].toArray S = true := hts _ (by decide +kernel)
  have h_ms43 : (Cond.static Lib.Math.min.name).before [.ref (a (17*s+(i+5)))].toArray S = true := hts _ (by decide +kernel)
  have h_mini : (Cond.initialized "java/lang/Math").before [.ref (a (17*s+(i+5)))].toArray S = true := hts _ (by decide +kernel)
  have h_mc43 : (Cond.code Lib.Math.min.name Lib.Math.min.code 2 (some .int)).before [.ref (a (17*s+(i+5)))].toArray S = true := hts _ (by decide +kernel)
  have h_f24 : (Cond.fieldLink RX0 24 "CombersSociety$Member" "coins" "I").before [.ref (a (17*s+(i+5)))].toArray S = true := hts _ (by decide +kernel)
  have hl : lv_has ls 2 [(0, .ref (a (17*s+(i+5))))] := hl
  refine lv_aload_n hx hb dX0_spendClubNight_0 rfl (lv_at hl 0 rfl) ?_
  refine cg_m hx hb hts h_iX0 hown hC hs hi 3 (by decide) h_f27 dX0_spendClubNight_1 ?_
  refine lv_bipush (v := 12) hx hb dX0_spendClubNight_4 (by decide) ?_
  refine lv_icmp_ge (tgt := 27) hx hb dX0_spendClubNight_6 (by decide) (fun c1 => ?_) (fun c1 => ?_)
  · refine lv_aload_n hx hb dX0_spendClubNight_27 rfl (lv_at hl 0 rfl) ?_
    refine c_iVi (n := 0) hF (c_X0_payMarks l D cI cM a s σ ρ hs i hi ) gX0_spendClubNight_X0_payMarks rfl rfl rfl (by decide +kernel) ⟨Nat.le_of_ble_eq_true rfl, Nat.le_of_ble_eq_true rfl⟩ hC hA (hC.recvM hs hi) rfl hl.1 rfl (Nat.le_of_ble_eq_true rfl) dX0_spendClubNight_28 ⟨Nat.zero_le _, Nat.zero_le _⟩ ?_
    clear hC; intro H locs σ2 eσ2 hC
    refine lv_istore_n (lv' := [(1, .int (fX0_payMarks σ i).1), (0, .ref (a (17*s+(i+5))))]) hx hb dX0_spendClubNight_31 rfl hl (by decide) rfl ?_
    clear hl; intro ls hl
    refine lv_aload_n hx hb dX0_spendClubNight_32 rfl (lv_at hl 1 rfl) ?_
    refine lv_bipush (v := 20) hx hb dX0_spendClubNight_33 (by decide) ?_
    refine lv_aload_n hx hb dX0_spendClubNight_35 rfl (lv_at hl 1 rfl) ?_
    refine cg_m hx hb hts h_iX0 hown hC hs hi 1 (by decide) h_f21 dX0_spendClubNight_36 ?_
    refine lv_iconst (v := 1) hx hb dX0_spendClubNight_39 (by decide) ?_
    refine lv_iadd hx hb dX0_spendClubNight_40 ?_
    refine c_mmin hx hb (hml.trans hl.1.symm) hown h_ml43 h_ms43 h_mini h_mc43 (Nat.le_of_ble_eq_true rfl) (Nat.le_of_ble_eq_true rfl) (Nat.zero_le _) (Nat.zero_le _) dX0_spendClubNight_41 ?_
    refine cp_m hx hb hts h_iX0 hown hC hs hi 1 (by decide) h_f21 dX0_spendClubNight_44 ?_
    clear hC; intro H locs σ3 eσ3 hC
    refine lv_iload_n hx hb dX0_spendClubNight_47 rfl (lv_at hl 0 rfl) ?_
    have e : fX0_spendClubNight σ i = ((fX0_payMarks σ i).1, σ3) := by subst eσ2 eσ3; exact ((if_pos c1).trans rfl)
    exact c_iret hx hb hr hlocks hC dX0_spendClubNight_48 ⟨by rw [e], by rw [e]⟩
  · refine lv_aload_n hx hb dX0_spendClubNight_9 rfl (lv_at hl 0 rfl) ?_
    refine lv_dup hx hb dX0_spendClubNight_10 rfl ?_
    refine cg_m hx hb hts h_iX0 hown hC hs hi 3 (by decide) h_f27 dX0_spendClubNight_11 ?_
    refine lv_iconst (v := 1) hx hb dX0_spendClubNight_14 (by decide) ?_
    refine lv_aload_n hx hb dX0_spendClubNight_15 rfl (lv_at hl 0 rfl) ?_
    refine cg_m hx hb hts h_iX0 hown hC hs hi 2 (by decide) h_f24 dX0_spendClubNight_16 ?_
    refine lv_bipush (v := 8) hx hb dX0_spendClubNight_19 (by decide) ?_
    refine lv_idiv hx hb dX0_spendClubNight_21 (by decide) ?_
    refine lv_iadd hx hb dX0_spendClubNight_22 ?_
    refine lv_iadd hx hb dX0_spendClubNight_23 ?_
    refine cp_m hx hb hts h_iX0 hown hC hs hi 3 (by decide) h_f27 dX0_spendClubNight_24 ?_
    clear hC; intro H locs σ4 eσ4 hC
    refine lv_aload_n hx hb dX0_spendClubNight_27 rfl (lv_at hl 0 rfl) ?_
    refine c_iVi (n := 0) hF (c_X0_payMarks l D cI cM a s σ4 ρ hs i hi ) gX0_spendClubNight_X0_payMarks rfl rfl rfl (by decide +kernel) ⟨Nat.le_of_ble_eq_true rfl, Nat.le_of_ble_eq_true rfl⟩ hC hA (hC.recvM hs hi) rfl hl.1 rfl (Nat.le_of_ble_eq_true rfl) dX0_spendClubNight_28 ⟨Nat.zero_le _, Nat.zero_le _⟩ ?_
    clear hC; intro H locs σ5 eσ5 hC
    refine lv_istore_n (lv' := [(1, .int (fX0_payMarks σ4 i).1), (0, .ref (a (17*s+(i+5))))]) hx hb dX0_spendClubNight_31 rfl hl (by decide) rfl ?_
    clear hl; intro ls hl
    refine lv_aload_n hx hb dX0_spendClubNight_32 rfl (lv_at hl 1 rfl) ?_
    refine lv_bipush (v := 20) hx hb dX0_spendClubNight_33 (by decide) ?_
    refine lv_aload_n hx hb dX0_spendClubNight_35 rfl (lv_at hl 1 rfl) ?_
    refine cg_m hx hb hts h_iX0 hown hC hs hi 1 (by decide) h_f21 dX0_spendClubNight_36 ?_
    refine lv_iconst (v := 1) hx hb dX0_spendClubNight_39 (by decide) ?_
    refine lv_iadd hx hb dX0_spendClubNight_40 ?_
    refine c_mmin hx hb (hml.trans hl.1.symm) hown h_ml43 h_ms43 h_mini h_mc43 (Nat.le_of_ble_eq_true rfl) (Nat.le_of_ble_eq_true rfl) (Nat.zero_le _) (Nat.zero_le _) dX0_spendClubNight_41 ?_
    refine cp_m hx hb hts h_iX0 hown hC hs hi 1 (by decide) h_f21 dX0_spendClubNight_44 ?_
    clear hC; intro H locs σ6 eσ6 hC
    refine lv_iload_n hx hb dX0_spendClubNight_47 rfl (lv_at hl 0 rfl) ?_
    have e : fX0_spendClubNight σ i = ((fX0_payMarks σ4 i).1, σ6) := by subst eσ4 eσ5 eσ6; exact ((if_neg c1).trans rfl)
    exact c_iret hx hb hr hlocks hC dX0_spendClubNight_48 ⟨by rw [e], by rw [e]⟩
abbrev rmX0_fact : Room := { frames := 0, cells := 0, slots := 0, locals := 0 }
def fX0_fact (σ : (Nat → Nat → Int32)) (i : Nat) (p0 : Int32) : Int32 :=
    if p0 = 0 then
      (σ (i+5) 0)
    else
      if p0 = 1 then
        (σ (i+5) 1)
      else
        if p0 = 2 then
          (σ (i+5) 2)
        else
          if p0 = 3 then
            (σ (i+5) 3)
          else
            if p0 = 4 then
              (σ (i+5) 4)
            else
              if p0 = 5 then
                (σ (i+5) 5)
              else
                if p0 = 6 then
                  (σ (i+5) 6)
                else
                  if p0 = 7 then
                    (σ (i+5) 7)
                  else
                    (σ (i+5) 8)
set_option maxHeartbeats 400000 in
set_option maxRecDepth 100000 in
theorem c_X0_fact (l : Launch) (D : va_G) (cI cM : ClassId) (a : Nat → Nat) (s : Nat) (σ ρ : (Nat → Nat → Int32)) (hs : s < 2) (i : Nat) (hi : i < 12) (p0 : Int32) : cMi l yX0_fact wsX0_fact rmX0_fact D cI cM a [.ref (a (17*s+(i+5))), .int p0] s σ ρ (fX0_fact σ i p0) σ := by
  intro sz
  refine c_head (cc := cX0_fact) (maxL := 2) (ret := (some .int)) (plainFor_of_name (by decide)) rfl (Nat.le_of_ble_eq_true rfl) ?_
  intro p e S m below meth c hx hb hr hml hown hts hlocks hnm hsz hA hC ls hl
  have h_f18 : (Cond.fieldLink RX0 18 "CombersSociety$Member" "skill" "I").before [.ref (a (17*s+(i+5))), .int p0].toArray S = true := hts _ (by decide +kernel)
  have h_iX0 : ∀ w ∈ u_ws RX0 TX0 10, w ∈ wsX0_fact := by decide +kernel
  have h_f21 : (Cond.fieldLink RX0 21 "CombersSociety$Member" "strength" "I").before [.ref (a (17*s+(i+5))), .int p0].toArray S = true := hts _ (by decide +kernel)
  have h_f24 : (Cond.fieldLink RX0 24 "CombersSociety$Member" "coins" "I").before [.ref (a (17*s+(i+5))), .int p0].toArray S = true := hts _ (by decide +kernel)
  have h_f27 : (Cond.fieldLink RX0 27 "CombersSociety$Member" "marks" "I").before [.ref (a (17*s+(i+5))), .int p0].toArray S = true := hts _ (by decide +kernel)
  have h_f30 : (Cond.fieldLink RX0 30 "CombersSociety$Member" "unpaid" "I").before [.ref (a (17*s+(i+5))), .int p0].toArray S = true := hts _ (by decide +kernel)
  have h_f9 : (Cond.fieldLink RX0 9 "CombersSociety$Member" "pot" "I").before [.ref (a (17*s+(i+5))), .int p0].toArray S = true := hts _ (by decide +kernel)
  have h_f15 : (Cond.fieldLink RX0 15 "CombersSociety$Member" "health" "I").before [.ref (a (17*s+(i+5))), .int p0].toArray S = true := hts _ (by decide +kernel)
  have h_f33 : (Cond.fieldLink RX0 33 "CombersSociety$Member" "weeksLeft" "I").before [.ref (a (17*s+(i+5))), .int p0].toArray S = true := hts _ (by decide +kernel)
  have h_f36 : (Cond.fieldLink RX0 36 "CombersSociety$Member" "weeksSick" "I").before [.ref (a (17*s+(i+5))), .int p0].toArray S = true := hts _ (by decide +kernel)
  have hl : lv_has ls 2 [(0, .ref (a (17*s+(i+5)))), (1, .int p0)] := hl
  refine lv_iload_n hx hb dX0_fact_0 rfl (lv_at hl 1 rfl) ?_
  by_cases hs0 : p0 = 0
  · refine lv_tableIn (off := 47) (tgt := 48) hx hb dX0_fact_1 (by rw [hs0]; decide) (by rw [hs0]; decide) (by rw [hs0]; rfl) (by decide) ?_
    refine lv_aload_n hx hb dX0_fact_48 rfl (lv_at hl 0 rfl) ?_
    refine cg_m hx hb hts h_iX0 hown hC hs hi 0 (by decide) h_f18 dX0_fact_49 ?_
    have e : fX0_fact σ i p0 = (σ (i+5) 0) := by exact ((if_pos hs0).trans rfl)
    exact c_iret hx hb hr hlocks hC dX0_fact_52 ⟨by rw [e], rfl⟩
  · by_cases hs1 : p0 = 1
    · refine lv_tableIn (off := 52) (tgt := 53) hx hb dX0_fact_1 (by rw [hs1]; decide) (by rw [hs1]; decide) (by rw [hs1]; rfl) (by decide) ?_
      refine lv_aload_n hx hb dX0_fact_53 rfl (lv_at hl 0 rfl) ?_
      refine cg_m hx hb hts h_iX0 hown hC hs hi 1 (by decide) h_f21 dX0_fact_54 ?_
      have e : fX0_fact σ i p0 = (σ (i+5) 1) := by exact ((if_neg hs0).trans ((if_pos hs1).trans rfl))
      exact c_iret hx hb hr hlocks hC dX0_fact_57 ⟨by rw [e], rfl⟩
    · by_cases hs2 : p0 = 2
      · refine lv_tableIn (off := 57) (tgt := 58) hx hb dX0_fact_1 (by rw [hs2]; decide) (by rw [hs2]; decide) (by rw [hs2]; rfl) (by decide) ?_
        refine lv_aload_n hx hb dX0_fact_58 rfl (lv_at hl 0 rfl) ?_
        refine cg_m hx hb hts h_iX0 hown hC hs hi 2 (by decide) h_f24 dX0_fact_59 ?_
        have e : fX0_fact σ i p0 = (σ (i+5) 2) := by exact ((if_neg hs0).trans ((if_neg hs1).trans ((if_pos hs2).trans rfl)))
        exact c_iret hx hb hr hlocks hC dX0_fact_62 ⟨by rw [e], rfl⟩
      · by_cases hs3 : p0 = 3
        · refine lv_tableIn (off := 62) (tgt := 63) hx hb dX0_fact_1 (by rw [hs3]; decide) (by rw [hs3]; decide) (by rw [hs3]; rfl) (by decide) ?_
          refine lv_aload_n hx hb dX0_fact_63 rfl (lv_at hl 0 rfl) ?_
          refine cg_m hx hb hts h_iX0 hown hC hs hi 3 (by decide) h_f27 dX0_fact_64 ?_
          have e : fX0_fact σ i p0 = (σ (i+5) 3) := by exact ((if_neg hs0).trans ((if_neg hs1).trans ((if_neg hs2).trans ((if_pos hs3).trans rfl))))
          exact c_iret hx hb hr hlocks hC dX0_fact_67 ⟨by rw [e], rfl⟩
        · by_cases hs4 : p0 = 4
          · refine lv_tableIn (off := 67) (tgt := 68) hx hb dX0_fact_1 (by rw [hs4]; decide) (by rw [hs4]; decide) (by rw [hs4]; rfl) (by decide) ?_
            refine lv_aload_n hx hb dX0_fact_68 rfl (lv_at hl 0 rfl) ?_
            refine cg_m hx hb hts h_iX0 hown hC hs hi 4 (by decide) h_f30 dX0_fact_69 ?_
            have e : fX0_fact σ i p0 = (σ (i+5) 4) := by exact ((if_neg hs0).trans ((if_neg hs1).trans ((if_neg hs2).trans ((if_neg hs3).trans ((if_pos hs4).trans rfl)))))
            exact c_iret hx hb hr hlocks hC dX0_fact_72 ⟨by rw [e], rfl⟩
          · by_cases hs5 : p0 = 5
            · refine lv_tableIn (off := 72) (tgt := 73) hx hb dX0_fact_1 (by rw [hs5]; decide) (by rw [hs5]; decide) (by rw [hs5]; rfl) (by decide) ?_
              refine lv_aload_n hx hb dX0_fact_73 rfl (lv_at hl 0 rfl) ?_
              refine cg_m hx hb hts h_iX0 hown hC hs hi 5 (by decide) h_f9 dX0_fact_74 ?_
              have e : fX0_fact σ i p0 = (σ (i+5) 5) := by exact ((if_neg hs0).trans ((if_neg hs1).trans ((if_neg hs2).trans ((if_neg hs3).trans ((if_neg hs4).trans ((if_pos hs5).trans rfl))))))
              exact c_iret hx hb hr hlocks hC dX0_fact_77 ⟨by rw [e], rfl⟩
            · by_cases hs6 : p0 = 6
              · refine lv_tableIn (off := 77) (tgt := 78) hx hb dX0_fact_1 (by rw [hs6]; decide) (by rw [hs6]; decide) (by rw [hs6]; rfl) (by decide) ?_
                refine lv_aload_n hx hb dX0_fact_78 rfl (lv_at hl 0 rfl) ?_
                refine cg_m hx hb hts h_iX0 hown hC hs hi 6 (by decide) h_f15 dX0_fact_79 ?_
                have e : fX0_fact σ i p0 = (σ (i+5) 6) := by exact ((if_neg hs0).trans ((if_neg hs1).trans ((if_neg hs2).trans ((if_neg hs3).trans ((if_neg hs4).trans ((if_neg hs5).trans ((if_pos hs6).trans rfl)))))))
                exact c_iret hx hb hr hlocks hC dX0_fact_82 ⟨by rw [e], rfl⟩
              · by_cases hs7 : p0 = 7
                · refine lv_tableIn (off := 82) (tgt := 83) hx hb dX0_fact_1 (by rw [hs7]; decide) (by rw [hs7]; decide) (by rw [hs7]; rfl) (by decide) ?_
                  refine lv_aload_n hx hb dX0_fact_83 rfl (lv_at hl 0 rfl) ?_
                  refine cg_m hx hb hts h_iX0 hown hC hs hi 7 (by decide) h_f33 dX0_fact_84 ?_
                  have e : fX0_fact σ i p0 = (σ (i+5) 7) := by exact ((if_neg hs0).trans ((if_neg hs1).trans ((if_neg hs2).trans ((if_neg hs3).trans ((if_neg hs4).trans ((if_neg hs5).trans ((if_neg hs6).trans ((if_pos hs7).trans rfl))))))))
                  exact c_iret hx hb hr hlocks hC dX0_fact_87 ⟨by rw [e], rfl⟩
                · refine lv_tableOut (tgt := 88) hx hb dX0_fact_1 (by have q0 := lv_neT (a := 0) hs0 (by decide); have q1 := lv_neT (a := 1) hs1 (by decide); have q2 := lv_neT (a := 2) hs2 (by decide); have q3 := lv_neT (a := 3) hs3 (by decide); have q4 := lv_neT (a := 4) hs4 (by decide); have q5 := lv_neT (a := 5) hs5 (by decide); have q6 := lv_neT (a := 6) hs6 (by decide); have q7 := lv_neT (a := 7) hs7 (by decide); omega) (by decide) ?_
                  refine lv_aload_n hx hb dX0_fact_88 rfl (lv_at hl 0 rfl) ?_
                  refine cg_m hx hb hts h_iX0 hown hC hs hi 8 (by decide) h_f36 dX0_fact_89 ?_
                  have e : fX0_fact σ i p0 = (σ (i+5) 8) := by exact ((if_neg hs0).trans ((if_neg hs1).trans ((if_neg hs2).trans ((if_neg hs3).trans ((if_neg hs4).trans ((if_neg hs5).trans ((if_neg hs6).trans ((if_neg hs7).trans rfl))))))))
                  exact c_iret hx hb hr hlocks hC dX0_fact_92 ⟨by rw [e], rfl⟩
