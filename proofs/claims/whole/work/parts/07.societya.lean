abbrev rmX1_hasMember : Room := { frames := 0, cells := 0, slots := 0, locals := 0 }
def fX1_hasMember (σ : (Nat → Nat → Int32)) (p0 : Int32) : Int32 :=
    if p0 < 0 then
      (0 : Int32)
    else
      if (12 : Int32) ≤ p0 then
        (0 : Int32)
      else
        if (σ ((p0).toNatClampNeg+5) 6) = (3 : Int32) then
          (0 : Int32)
        else
          (1 : Int32)
set_option maxHeartbeats 400000 in
set_option maxRecDepth 100000 in
theorem c_X1_hasMember (l : Launch) (D : va_G) (cI cM : ClassId) (a : Nat → Nat) (s : Nat) (σ ρ : (Nat → Nat → Int32)) (hs : s < 2) (p0 : Int32) : cMi l yX1_hasMember wsX1_hasMember rmX1_hasMember D cI cM a [.ref (a (17*s+0)), .int p0] s σ ρ (fX1_hasMember σ p0) σ := by
  intro sz
  refine c_head (cc := cX1_hasMember) (maxL := 2) (ret := (some .boolean)) (plainFor_of_name (by decide)) rfl (Nat.le_of_ble_eq_true rfl) ?_
  intro p e S m below meth c hx hb hr hml hown hts hlocks hnm hsz hA hC ls hl
  have h_f36 : (Cond.fieldLink RX1 36 "CombersSociety$Society" "members" "[LCombersSociety$Member;").before [.ref (a (17*s+0)), .int p0].toArray S = true := hts _ (by decide +kernel)
  have h_iX1 : ∀ w ∈ u_ws RX1 TX1 14, w ∈ wsX1_hasMember := by decide +kernel
  have h_f60 : (Cond.fieldLink RX1 60 "CombersSociety$Member" "health" "I").before [.ref (a (17*s+0)), .int p0].toArray S = true := hts _ (by decide +kernel)
  have h_iX0 : ∀ w ∈ u_ws RX0 TX0 10, w ∈ wsX1_hasMember := by decide +kernel
  have hl : lv_has ls 2 [(0, .ref (a (17*s+0))), (1, .int p0)] := hl
  refine lv_iload_n hx hb dX1_hasMember_0 rfl (lv_at hl 1 rfl) ?_
  refine lv_if_lt (tgt := 27) hx hb dX1_hasMember_1 (by decide) (fun c1 => ?_) (fun c1 => ?_)
  · refine lv_iconst (v := 0) hx hb dX1_hasMember_27 (by decide) ?_
    have e : fX1_hasMember σ p0 = (0 : Int32) := by exact ((if_pos c1).trans rfl)
    exact c_zret hx hb hr hlocks hC dX1_hasMember_28 (Or.inl rfl) ⟨by rw [e], rfl⟩
  · refine lv_iload_n hx hb dX1_hasMember_4 rfl (lv_at hl 1 rfl) ?_
    refine lv_bipush (v := 12) hx hb dX1_hasMember_5 (by decide) ?_
    refine lv_icmp_ge (tgt := 27) hx hb dX1_hasMember_7 (by decide) (fun c2 => ?_) (fun c2 => ?_)
    · refine lv_iconst (v := 0) hx hb dX1_hasMember_27 (by decide) ?_
      have e : fX1_hasMember σ p0 = (0 : Int32) := by exact ((if_neg c1).trans ((if_pos c2).trans rfl))
      exact c_zret hx hb hr hlocks hC dX1_hasMember_28 (Or.inl rfl) ⟨by rw [e], rfl⟩
    · refine lv_aload_n hx hb dX1_hasMember_10 rfl (lv_at hl 0 rfl) ?_
      refine cg_r hx hb hts h_iX1 hown hC hs 3 (by decide) h_f36 dX1_hasMember_11 ?_
      refine lv_iload_n hx hb dX1_hasMember_14 rfl (lv_at hl 1 rfl) ?_
      refine c_mld hx hb hC hs (j := (p0).toNatClampNeg) (ixc (N := 12) c1 c2 (by decide)).1 (ixc (N := 12) c1 c2 (by decide)).2 dX1_hasMember_15 ?_
      refine cg_m hx hb hts h_iX0 hown hC hs (ixc (N := 12) c1 c2 (by decide)).2 6 (by decide) h_f60 dX1_hasMember_16 ?_
      refine lv_iconst (v := 3) hx hb dX1_hasMember_19 (by decide) ?_
      refine lv_icmp_eq (tgt := 27) hx hb dX1_hasMember_20 (by decide) (fun c3 => ?_) (fun c3 => ?_)
      · refine lv_iconst (v := 0) hx hb dX1_hasMember_27 (by decide) ?_
        have e : fX1_hasMember σ p0 = (0 : Int32) := by exact ((if_neg c1).trans ((if_neg c2).trans ((if_pos c3).trans rfl)))
        exact c_zret hx hb hr hlocks hC dX1_hasMember_28 (Or.inl rfl) ⟨by rw [e], rfl⟩
      · refine lv_iconst (v := 1) hx hb dX1_hasMember_23 (by decide) ?_
        refine lv_goto (tgt := 28) hx hb dX1_hasMember_24 (by decide) ?_
        have e : fX1_hasMember σ p0 = (1 : Int32) := by exact ((if_neg c1).trans ((if_neg c2).trans ((if_neg c3).trans rfl)))
        exact c_zret hx hb hr hlocks hC dX1_hasMember_28 (Or.inr rfl) ⟨by rw [e], rfl⟩
abbrev rmX1_heatOf : Room := { frames := 0, cells := 0, slots := 0, locals := 0 }
def fX1_heatOf (σ : (Nat → Nat → Int32)) (p0 : Int32) : Int32 :=
    if p0 < 0 then
      (0 : Int32)
    else
      if (3 : Int32) ≤ p0 then
        (0 : Int32)
      else
        (σ 2 (p0).toNatClampNeg)
set_option maxHeartbeats 400000 in
set_option maxRecDepth 100000 in
theorem c_X1_heatOf (l : Launch) (D : va_G) (cI cM : ClassId) (a : Nat → Nat) (s : Nat) (σ ρ : (Nat → Nat → Int32)) (hs : s < 2) (p0 : Int32) : cMi l yX1_heatOf wsX1_heatOf rmX1_heatOf D cI cM a [.ref (a (17*s+0)), .int p0] s σ ρ (fX1_heatOf σ p0) σ := by
  intro sz
  refine c_head (cc := cX1_heatOf) (maxL := 2) (ret := (some .int)) (plainFor_of_name (by decide)) rfl (Nat.le_of_ble_eq_true rfl) ?_
  intro p e S m below meth c hx hb hr hml hown hts hlocks hnm hsz hA hC ls hl
  have h_f28 : (Cond.fieldLink RX1 28 "CombersSociety$Society" "heats" "[I").before [.ref (a (17*s+0)), .int p0].toArray S = true := hts _ (by decide +kernel)
  have h_iX1 : ∀ w ∈ u_ws RX1 TX1 14, w ∈ wsX1_heatOf := by decide +kernel
  have hl : lv_has ls 2 [(0, .ref (a (17*s+0))), (1, .int p0)] := hl
  refine lv_iload_n hx hb dX1_heatOf_0 rfl (lv_at hl 1 rfl) ?_
  refine lv_if_lt (tgt := 18) hx hb dX1_heatOf_1 (by decide) (fun c1 => ?_) (fun c1 => ?_)
  · refine lv_iconst (v := 0) hx hb dX1_heatOf_18 (by decide) ?_
    have e : fX1_heatOf σ p0 = (0 : Int32) := by exact ((if_pos c1).trans rfl)
    exact c_iret hx hb hr hlocks hC dX1_heatOf_19 ⟨by rw [e], rfl⟩
  · refine lv_iload_n hx hb dX1_heatOf_4 rfl (lv_at hl 1 rfl) ?_
    refine lv_iconst (v := 3) hx hb dX1_heatOf_5 (by decide) ?_
    refine lv_icmp_ge (tgt := 18) hx hb dX1_heatOf_6 (by decide) (fun c2 => ?_) (fun c2 => ?_)
    · refine lv_iconst (v := 0) hx hb dX1_heatOf_18 (by decide) ?_
      have e : fX1_heatOf σ p0 = (0 : Int32) := by exact ((if_neg c1).trans ((if_pos c2).trans rfl))
      exact c_iret hx hb hr hlocks hC dX1_heatOf_19 ⟨by rw [e], rfl⟩
    · refine lv_aload_n hx hb dX1_heatOf_9 rfl (lv_at hl 0 rfl) ?_
      refine cg_r hx hb hts h_iX1 hown hC hs 1 (by decide) h_f28 dX1_heatOf_10 ?_
      refine lv_iload_n hx hb dX1_heatOf_13 rfl (lv_at hl 1 rfl) ?_
      refine c_ild hx hb hC hs 2 (by decide) (by decide) (j := (p0).toNatClampNeg) (ixc (N := 3) c1 c2 (by decide)).1 (ixc (N := 3) c1 c2 (by decide)).2 dX1_heatOf_14 ?_
      refine lv_goto (tgt := 19) hx hb dX1_heatOf_15 (by decide) ?_
      have e : fX1_heatOf σ p0 = (σ 2 (p0).toNatClampNeg) := by exact ((if_neg c1).trans ((if_neg c2).trans rfl))
      exact c_iret hx hb hr hlocks hC dX1_heatOf_19 ⟨by rw [e], rfl⟩
abbrev rmX1_atPot : Room := { frames := 1, cells := 0, slots := 0, locals := 20 }
def fX1_atPot_b1 (σ : (Nat → Nat → Int32)) (p0 : Int32) (i1x : Nat) (v1_2 : Int32) : Int32 :=
    if (fX0_lives σ i1x) = 0 then
      v1_2
    else
      if (σ (i1x+5) 5) = p0 then
        (v1_2 + 1)
      else
        v1_2
def fX1_atPot_k1 (v1_2 : Int32) : Int32 :=
    v1_2
def fX1_atPot (σ : (Nat → Nat → Int32)) (p0 : Int32) : Int32 :=
    (fun x => fX1_atPot_k1 x) (itR (fun i x => fX1_atPot_b1 σ p0 i x) 0 12 (0 : Int32))
set_option maxHeartbeats 400000 in
set_option maxRecDepth 100000 in
theorem c_X1_atPot (l : Launch) (D : va_G) (cI cM : ClassId) (a : Nat → Nat) (s : Nat) (σ ρ : (Nat → Nat → Int32)) (hs : s < 2) (p0 : Int32) : cMi l yX1_atPot wsX1_atPot rmX1_atPot D cI cM a [.ref (a (17*s+0)), .int p0] s σ ρ (fX1_atPot σ p0) σ := by
  intro sz
  refine c_head (cc := cX1_atPot) (maxL := 7) (ret := (some .int)) (plainFor_of_name (by decide)) rfl (Nat.le_of_ble_eq_true rfl) ?_
  intro p e S m below meth c hx hb hr hml hown hts hlocks hnm hsz hA hC ls hl
  have hF : CallFix p m c cX1_atPot 7 S [.ref (a (17*s+0)), .int p0].toArray wsX1_atPot RX1 := ⟨hx, hb, hml, hown, hts⟩
  have h_f36 : (Cond.fieldLink RX1 36 "CombersSociety$Society" "members" "[LCombersSociety$Member;").before [.ref (a (17*s+0)), .int p0].toArray S = true := hts _ (by decide +kernel)
  have h_iX1 : ∀ w ∈ u_ws RX1 TX1 14, w ∈ wsX1_atPot := by decide +kernel
  have h_f63 : (Cond.fieldLink RX1 63 "CombersSociety$Member" "pot" "I").before [.ref (a (17*s+0)), .int p0].toArray S = true := hts _ (by decide +kernel)
  have h_iX0 : ∀ w ∈ u_ws RX0 TX0 10, w ∈ wsX1_atPot := by decide +kernel
  have hl : lv_has ls 7 [(0, .ref (a (17*s+0))), (1, .int p0)] := hl
  refine lv_iconst (v := 0) hx hb dX1_atPot_0 (by decide) ?_
  refine lv_istore_n (lv' := [(2, .int (0 : Int32)), (0, .ref (a (17*s+0))), (1, .int p0)]) hx hb dX1_atPot_1 rfl hl (by decide) rfl ?_
  clear hl; intro ls hl
  refine lv_aload_n hx hb dX1_atPot_2 rfl (lv_at hl 1 rfl) ?_
  refine cg_r hx hb hts h_iX1 hown hC hs 3 (by decide) h_f36 dX1_atPot_3 ?_
  refine lv_astore_n (lv' := [(3, .ref (a (17*s+(3+1)))), (2, .int (0 : Int32)), (0, .ref (a (17*s+0))), (1, .int p0)]) hx hb dX1_atPot_6 rfl hl (by decide) rfl ?_
  clear hl; intro ls hl
  refine lv_aload_n hx hb dX1_atPot_7 rfl (lv_at hl 0 rfl) ?_
  refine c_mlen hx hb hC hs dX1_atPot_8 ?_
  refine lv_istore (lv' := [(4, .int (12 : Int32)), (3, .ref (a (17*s+(3+1)))), (2, .int (0 : Int32)), (0, .ref (a (17*s+0))), (1, .int p0)]) hx hb dX1_atPot_9 hl (by decide) rfl ?_
  clear hl; intro ls hl
  refine lv_iconst (v := 0) hx hb dX1_atPot_11 (by decide) ?_
  refine lv_istore (lv' := [(5, .int (0 : Int32)), (4, .int (12 : Int32)), (3, .ref (a (17*s+(3+1)))), (2, .int (0 : Int32)), (0, .ref (a (17*s+0))), (1, .int p0)]) hx hb dX1_atPot_12 hl (by decide) rfl ?_
  clear hl; intro ls hl
  have loop1 : ∀ (n1x i1x : Nat) (v1_2 : Int32), i1x + n1x = 12 → itR (fun i x => fX1_atPot_b1 σ p0 i x) i1x n1x v1_2 = itR (fun i x => fX1_atPot_b1 σ p0 i x) 0 12 (0 : Int32) → ∀ (H : Heap) (locs : List Loc), cB D cI cM a S (cA a sz) S.heap H locs s σ ρ → ∀ ls : Array Slot, lv_has ls 7 [(5, .int (nI i1x)), (4, .int (12 : Int32)), (3, .ref (a (17*s+(3+1)))), (2, .int v1_2), (0, .ref (a (17*s+0))), (1, .int p0)] → W p l e (headSpec wsX1_atPot rmX1_atPot).room S m [.ref (a (17*s+0)), .int p0].toArray below meth c H locs 0 0 (MQ below (va_Qi (fun r' (_ : Unit) => r' = fX1_atPot σ p0) (cPost D cI cM a s σ ρ) (cA a sz)) [.ref (a (17*s+0)), .int p0].toArray S 0 0 (cA a sz)) (F0 m 14 ls []) := by
    clear hC hl
    intro n1x
    induction n1x with
    | zero =>
      intro i1x v1_2 hin1 hX1 H locs hC ls hl
      obtain rfl : 12 = i1x := by omega
      refine lv_iload hx hb dX1_atPot_14 (lv_at hl 0 rfl) ?_
      refine lv_iload hx hb dX1_atPot_16 (lv_at hl 1 rfl) ?_
      refine lv_icmp_ge (tgt := 53) hx hb dX1_atPot_18 (by decide) (fun c4 => ?_) (fun c4 => absurd (by decide) c4)
      refine lv_iload_n hx hb dX1_atPot_53 rfl (lv_at hl 3 rfl) ?_
      have e : fX1_atPot σ p0 = v1_2 := by exact ((congrArg (fun x => fX1_atPot_k1 x) hX1.symm).trans rfl)
      exact c_iret hx hb hr hlocks hC dX1_atPot_54 ⟨by rw [e], rfl⟩
    | succ n1x ih1 =>
      intro i1x v1_2 hin1 hX1 H locs hC ls hl
      refine lv_iload hx hb dX1_atPot_14 (lv_at hl 0 rfl) ?_
      refine lv_iload hx hb dX1_atPot_16 (lv_at hl 1 rfl) ?_
      refine lv_icmp_ge (tgt := 53) hx hb dX1_atPot_18 (by decide) (fun c1 => absurd c1 (show ¬ (12 : Int32) ≤ nI i1x from (nI_ge (a := i1x) (b := 12) (by omega) (by decide) : ¬ nI 12 ≤ nI i1x))) (fun c1 => ?_)
      refine lv_aload_n hx hb dX1_atPot_21 rfl (lv_at hl 2 rfl) ?_
      refine lv_iload hx hb dX1_atPot_22 (lv_at hl 0 rfl) ?_
      refine c_mld hx hb hC hs (j := i1x) rfl (show _ < 12 by omega) dX1_atPot_24 ?_
      refine lv_astore (lv' := [(6, .ref (a (17*s+(i1x+5)))), (5, .int (nI i1x)), (4, .int (12 : Int32)), (3, .ref (a (17*s+(3+1)))), (2, .int v1_2), (0, .ref (a (17*s+0))), (1, .int p0)]) hx hb dX1_atPot_25 hl (by decide) rfl ?_
      clear hl; intro ls hl
      refine lv_aload hx hb dX1_atPot_27 (lv_at hl 0 rfl) ?_
      refine c_iVp (n := 0) hF (c_X0_lives l D cI cM a s σ ρ hs i1x (show _ < 12 by omega) ) gX1_atPot_X0_lives rfl rfl rfl (by decide +kernel) ⟨Nat.le_of_ble_eq_true rfl, Nat.le_of_ble_eq_true rfl⟩ hC hA (hC.recvM hs (show _ < 12 by omega)) rfl hl.1 rfl (Nat.le_of_ble_eq_true rfl) dX1_atPot_29 ⟨Nat.zero_le _, Nat.zero_le _⟩ ?_
      clear hC; intro H locs hC
      refine lv_if_eq (tgt := 47) hx hb dX1_atPot_32 (by decide) (fun c2 => ?_) (fun c2 => ?_)
      · refine lv_iinc (v := (nI (i1x + 1))) (lv' := [(5, .int (nI (i1x + 1))), (6, .ref (a (17*s+(i1x+5)))), (4, .int (12 : Int32)), (3, .ref (a (17*s+(3+1)))), (2, .int v1_2), (0, .ref (a (17*s+0))), (1, .int p0)]) hx hb dX1_atPot_47 hl (k := 1) rfl (nI_1 i1x) (by decide) rfl ?_
        clear hl; intro ls hl
        refine lv_goto (tgt := 14) hx hb dX1_atPot_50 (by decide) ?_
        have e : fX1_atPot_b1 σ p0 i1x v1_2 = v1_2 := by exact ((if_pos c2).trans rfl)
        exact ih1 (i1x + 1) v1_2 (by omega) (by rw [← e]; exact hX1) _ _ hC ls (lv_sub hl [0, 2, 3, 4, 5, 6] rfl)
      · refine lv_aload hx hb dX1_atPot_35 (lv_at hl 0 rfl) ?_
        refine cg_m hx hb hts h_iX0 hown hC hs (show _ < 12 by omega) 5 (by decide) h_f63 dX1_atPot_37 ?_
        refine lv_iload_n hx hb dX1_atPot_40 rfl (lv_at hl 6 rfl) ?_
        refine lv_icmp_ne (tgt := 47) hx hb dX1_atPot_41 (by decide) (fun c3 => ?_) (fun c3 => ?_)
        · refine lv_iinc (v := (nI (i1x + 1))) (lv' := [(5, .int (nI (i1x + 1))), (6, .ref (a (17*s+(i1x+5)))), (4, .int (12 : Int32)), (3, .ref (a (17*s+(3+1)))), (2, .int v1_2), (0, .ref (a (17*s+0))), (1, .int p0)]) hx hb dX1_atPot_47 hl (k := 1) rfl (nI_1 i1x) (by decide) rfl ?_
          clear hl; intro ls hl
          refine lv_goto (tgt := 14) hx hb dX1_atPot_50 (by decide) ?_
          have e : fX1_atPot_b1 σ p0 i1x v1_2 = v1_2 := by exact ((if_neg c2).trans ((if_neg c3).trans rfl))
          exact ih1 (i1x + 1) v1_2 (by omega) (by rw [← e]; exact hX1) _ _ hC ls (lv_sub hl [0, 2, 3, 4, 5, 6] rfl)
        · refine lv_iinc (v := (v1_2 + 1)) (lv' := [(2, .int (v1_2 + 1)), (6, .ref (a (17*s+(i1x+5)))), (5, .int (nI i1x)), (4, .int (12 : Int32)), (3, .ref (a (17*s+(3+1)))), (0, .ref (a (17*s+0))), (1, .int p0)]) hx hb dX1_atPot_44 hl (k := 4) rfl (rfl) (by decide) rfl ?_
          clear hl; intro ls hl
          refine lv_iinc (v := (nI (i1x + 1))) (lv' := [(5, .int (nI (i1x + 1))), (2, .int (v1_2 + 1)), (6, .ref (a (17*s+(i1x+5)))), (4, .int (12 : Int32)), (3, .ref (a (17*s+(3+1)))), (0, .ref (a (17*s+0))), (1, .int p0)]) hx hb dX1_atPot_47 hl (k := 2) rfl (nI_1 i1x) (by decide) rfl ?_
          clear hl; intro ls hl
          refine lv_goto (tgt := 14) hx hb dX1_atPot_50 (by decide) ?_
          have e : fX1_atPot_b1 σ p0 i1x v1_2 = (v1_2 + 1) := by exact ((if_neg c2).trans ((if_pos c3).trans rfl))
          exact ih1 (i1x + 1) (v1_2 + 1) (by omega) (by rw [← e]; exact hX1) _ _ hC ls (lv_sub hl [0, 3, 4, 1, 5, 6] rfl)
  exact loop1 12 0 (0 : Int32) (by omega) rfl _ _ hC ls (lv_sub hl [0, 1, 2, 3, 4, 5] rfl)
abbrev rmX1_hasRoom : Room := { frames := 2, cells := 0, slots := 0, locals := 46 }
def fX1_hasRoom (σ : (Nat → Nat → Int32)) (p0 : Int32) (j : Nat) : Int32 :=
    if p0 = (-1 : Int32) then
      (1 : Int32)
    else
      if (σ (j+5) 5) = p0 then
        if (4 : Int32) ≤ ((fX1_atPot σ p0) - (1 : Int32)) then
          (0 : Int32)
        else
          (1 : Int32)
      else
        if (4 : Int32) ≤ (fX1_atPot σ p0) then
          (0 : Int32)
        else
          (1 : Int32)
set_option maxHeartbeats 400000 in
set_option maxRecDepth 100000 in
theorem c_X1_hasRoom (l : Launch) (D : va_G) (cI cM : ClassId) (a : Nat → Nat) (s : Nat) (σ ρ : (Nat → Nat → Int32)) (hs : s < 2) (p0 : Int32) (j : Nat) (hj : j < 12) : cMi l yX1_hasRoom wsX1_hasRoom rmX1_hasRoom D cI cM a [.ref (a (17*s+0)), .int p0, .ref (a (17*s+(j+5)))] s σ ρ (fX1_hasRoom σ p0 j) σ := by
  intro sz
  refine c_head (cc := cX1_hasRoom) (maxL := 4) (ret := (some .boolean)) (plainFor_of_name (by decide)) rfl (Nat.le_of_ble_eq_true rfl) ?_
  intro p e S m below meth c hx hb hr hml hown hts hlocks hnm hsz hA hC ls hl
  have hF : CallFix p m c cX1_hasRoom 4 S [.ref (a (17*s+0)), .int p0, .ref (a (17*s+(j+5)))].toArray wsX1_hasRoom RX1 := ⟨hx, hb, hml, hown, hts⟩
  have h_f63 : (Cond.fieldLink RX1 63 "CombersSociety$Member" "pot" "I").before [.ref (a (17*s+0)), .int p0, .ref (a (17*s+(j+5)))].toArray S = true := hts _ (by decide +kernel)
  have h_iX0 : ∀ w ∈ u_ws RX0 TX0 10, w ∈ wsX1_hasRoom := by decide +kernel
  have hl : lv_has ls 4 [(0, .ref (a (17*s+0))), (1, .int p0), (2, .ref (a (17*s+(j+5))))] := hl
  refine lv_iload_n hx hb dX1_hasRoom_0 rfl (lv_at hl 1 rfl) ?_
  refine lv_iconst (v := -1) hx hb dX1_hasRoom_1 (by decide) ?_
  refine lv_icmp_ne (tgt := 7) hx hb dX1_hasRoom_2 (by decide) (fun c1 => ?_) (fun c1 => ?_)
  · refine lv_aload_n hx hb dX1_hasRoom_7 rfl (lv_at hl 2 rfl) ?_
    refine cg_m hx hb hts h_iX0 hown hC hs hj 5 (by decide) h_f63 dX1_hasRoom_8 ?_
    refine lv_iload_n hx hb dX1_hasRoom_11 rfl (lv_at hl 1 rfl) ?_
    refine lv_icmp_ne (tgt := 25) hx hb dX1_hasRoom_12 (by decide) (fun c2 => ?_) (fun c2 => ?_)
    · refine lv_aload_n hx hb dX1_hasRoom_25 rfl (lv_at hl 0 rfl) ?_
      refine lv_iload_n hx hb dX1_hasRoom_26 rfl (lv_at hl 1 rfl) ?_
      refine c_iVp (n := 1) hF (c_X1_atPot l D cI cM a s σ ρ hs p0 ) gX1_hasRoom_X1_atPot rfl rfl rfl (by decide +kernel) ⟨Nat.le_of_ble_eq_true rfl, Nat.le_of_ble_eq_true rfl⟩ hC hA (hC.recvS hs) rfl hl.1 rfl (Nat.le_of_ble_eq_true rfl) dX1_hasRoom_27 ⟨Nat.zero_le _, Nat.zero_le _⟩ ?_
      clear hC; intro H locs hC
      refine lv_istore_n (lv' := [(3, .int (fX1_atPot σ p0)), (0, .ref (a (17*s+0))), (1, .int p0), (2, .ref (a (17*s+(j+5))))]) hx hb dX1_hasRoom_30 rfl hl (by decide) rfl ?_
      clear hl; intro ls hl
      refine lv_iload_n hx hb dX1_hasRoom_31 rfl (lv_at hl 0 rfl) ?_
      refine lv_iconst (v := 4) hx hb dX1_hasRoom_32 (by decide) ?_
      refine lv_icmp_ge (tgt := 40) hx hb dX1_hasRoom_33 (by decide) (fun c3 => ?_) (fun c3 => ?_)
      · refine lv_iconst (v := 0) hx hb dX1_hasRoom_40 (by decide) ?_
        have e : fX1_hasRoom σ p0 j = (0 : Int32) := by exact ((if_neg c1).trans ((if_neg c2).trans ((if_pos c3).trans rfl)))
        exact c_zret hx hb hr hlocks hC dX1_hasRoom_41 (Or.inl rfl) ⟨by rw [e], rfl⟩
      · refine lv_iconst (v := 1) hx hb dX1_hasRoom_36 (by decide) ?_
        refine lv_goto (tgt := 41) hx hb dX1_hasRoom_37 (by decide) ?_
        have e : fX1_hasRoom σ p0 j = (1 : Int32) := by exact ((if_neg c1).trans ((if_neg c2).trans ((if_neg c3).trans rfl)))
        exact c_zret hx hb hr hlocks hC dX1_hasRoom_41 (Or.inr rfl) ⟨by rw [e], rfl⟩
    · refine lv_aload_n hx hb dX1_hasRoom_15 rfl (lv_at hl 0 rfl) ?_
      refine lv_iload_n hx hb dX1_hasRoom_16 rfl (lv_at hl 1 rfl) ?_
      refine c_iVp (n := 1) hF (c_X1_atPot l D cI cM a s σ ρ hs p0 ) gX1_hasRoom_X1_atPot rfl rfl rfl (by decide +kernel) ⟨Nat.le_of_ble_eq_true rfl, Nat.le_of_ble_eq_true rfl⟩ hC hA (hC.recvS hs) rfl hl.1 rfl (Nat.le_of_ble_eq_true rfl) dX1_hasRoom_17 ⟨Nat.zero_le _, Nat.zero_le _⟩ ?_
      clear hC; intro H locs hC
      refine lv_iconst (v := 1) hx hb dX1_hasRoom_20 (by decide) ?_
      refine lv_isub hx hb dX1_hasRoom_21 ?_
      refine lv_goto (tgt := 30) hx hb dX1_hasRoom_22 (by decide) ?_
      refine lv_istore_n (lv' := [(3, .int ((fX1_atPot σ p0) - (1 : Int32))), (0, .ref (a (17*s+0))), (1, .int p0), (2, .ref (a (17*s+(j+5))))]) hx hb dX1_hasRoom_30 rfl hl (by decide) rfl ?_
      clear hl; intro ls hl
      refine lv_iload_n hx hb dX1_hasRoom_31 rfl (lv_at hl 0 rfl) ?_
      refine lv_iconst (v := 4) hx hb dX1_hasRoom_32 (by decide) ?_
      refine lv_icmp_ge (tgt := 40) hx hb dX1_hasRoom_33 (by decide) (fun c4 => ?_) (fun c4 => ?_)
      · refine lv_iconst (v := 0) hx hb dX1_hasRoom_40 (by decide) ?_
        have e : fX1_hasRoom σ p0 j = (0 : Int32) := by exact ((if_neg c1).trans ((if_pos c2).trans ((if_pos c4).trans rfl)))
        exact c_zret hx hb hr hlocks hC dX1_hasRoom_41 (Or.inl rfl) ⟨by rw [e], rfl⟩
      · refine lv_iconst (v := 1) hx hb dX1_hasRoom_36 (by decide) ?_
        refine lv_goto (tgt := 41) hx hb dX1_hasRoom_37 (by decide) ?_
        have e : fX1_hasRoom σ p0 j = (1 : Int32) := by exact ((if_neg c1).trans ((if_pos c2).trans ((if_neg c4).trans rfl)))
        exact c_zret hx hb hr hlocks hC dX1_hasRoom_41 (Or.inr rfl) ⟨by rw [e], rfl⟩
  · refine lv_iconst (v := 1) hx hb dX1_hasRoom_5 (by decide) ?_
    have e : fX1_hasRoom σ p0 j = (1 : Int32) := by exact ((if_pos c1).trans rfl)
    exact c_zret hx hb hr hlocks hC dX1_hasRoom_6 (Or.inr rfl) ⟨by rw [e], rfl⟩
abbrev rmX1_countCombers : Room := { frames := 1, cells := 0, slots := 0, locals := 20 }
def fX1_countCombers_b2 (i2x : Nat) (σL2 : (Nat → Nat → Int32)) : (Nat → Nat → Int32) :=
    if (fX0_combs σL2 i2x) = 0 then
      σL2
    else
      let σ6 : (Nat → Nat → Int32) := up2 σL2 3 ((σL2 (i2x+5) 5)).toNatClampNeg ((σL2 3 ((σL2 (i2x+5) 5)).toNatClampNeg) + (1 : Int32))
      σ6
def fX1_countCombers_k2 (σL2 : (Nat → Nat → Int32)) : (Nat → Nat → Int32) :=
    σL2
def fX1_countCombers_b1 (i1x : Nat) (σL1 : (Nat → Nat → Int32)) : (Nat → Nat → Int32) :=
    let σ2 : (Nat → Nat → Int32) := up2 σL1 3 i1x (0 : Int32)
    σ2
def fX1_countCombers_k1 (σL1 : (Nat → Nat → Int32)) : (Nat → Nat → Int32) :=
    (fun x => fX1_countCombers_k2 x) (itR (fun i x => fX1_countCombers_b2 i x) 0 12 σL1)
def fX1_countCombers (σ : (Nat → Nat → Int32)) : (Nat → Nat → Int32) :=
    (fun x => fX1_countCombers_k1 x) (itR (fun i x => fX1_countCombers_b1 i x) 0 3 σ)
set_option maxHeartbeats 400000 in
set_option maxRecDepth 100000 in
theorem c_X1_countCombers (l : Launch) (D : va_G) (cI cM : ClassId) (a : Nat → Nat) (s : Nat) (σ ρ : (Nat → Nat → Int32)) (hs : s < 2)  : cMv l yX1_countCombers wsX1_countCombers rmX1_countCombers D cI cM a [.ref (a (17*s+0))] s σ ρ (fX1_countCombers σ) := by
  intro sz
  refine c_head (cc := cX1_countCombers) (maxL := 5) (ret := none) (plainFor_of_name (by decide)) rfl (Nat.le_of_ble_eq_true rfl) ?_
  intro p e S m below meth c hx hb hr hml hown hts hlocks hnm hsz hA hC ls hl
  have hF : CallFix p m c cX1_countCombers 5 S [.ref (a (17*s+0))].toArray wsX1_countCombers RX1 := ⟨hx, hb, hml, hown, hts⟩
  have h_f31 : (Cond.fieldLink RX1 31 "CombersSociety$Society" "combing" "[I").before [.ref (a (17*s+0))].toArray S = true := hts _ (by decide +kernel)
  have h_iX1 : ∀ w ∈ u_ws RX1 TX1 14, w ∈ wsX1_countCombers := by decide +kernel
  have h_f36 : (Cond.fieldLink RX1 36 "CombersSociety$Society" "members" "[LCombersSociety$Member;").before [.ref (a (17*s+0))].toArray S = true := hts _ (by decide +kernel)
  have h_f63 : (Cond.fieldLink RX1 63 "CombersSociety$Member" "pot" "I").before [.ref (a (17*s+0))].toArray S = true := hts _ (by decide +kernel)
  have h_iX0 : ∀ w ∈ u_ws RX0 TX0 10, w ∈ wsX1_countCombers := by decide +kernel
  have hl : lv_has ls 5 [(0, .ref (a (17*s+0)))] := hl
  refine lv_iconst (v := 0) hx hb dX1_countCombers_0 (by decide) ?_
  refine lv_istore_n (lv' := [(1, .int (0 : Int32)), (0, .ref (a (17*s+0)))]) hx hb dX1_countCombers_1 rfl hl (by decide) rfl ?_
  clear hl; intro ls hl
  have loop1 : ∀ (n1x i1x : Nat) (σL1 : (Nat → Nat → Int32)), i1x + n1x = 3 → itR (fun i x => fX1_countCombers_b1 i x) i1x n1x σL1 = itR (fun i x => fX1_countCombers_b1 i x) 0 3 σ → ∀ (H : Heap) (locs : List Loc), cB D cI cM a S (cA a sz) S.heap H locs s σL1 ρ → ∀ ls : Array Slot, lv_has ls 5 [(1, .int (nI i1x)), (0, .ref (a (17*s+0)))] → W p l e (headSpec wsX1_countCombers rmX1_countCombers).room S m [.ref (a (17*s+0))].toArray below meth c H locs 0 0 (MQ below (va_Qv (fun (_ : Unit) => True) (cPost D cI cM a s (fX1_countCombers σ) ρ) (cA a sz)) [.ref (a (17*s+0))].toArray S 0 0 (cA a sz)) (F0 m 2 ls []) := by
    clear hC hl
    intro n1x
    induction n1x with
    | zero =>
      intro i1x σL1 hin1 hX1 H locs hC ls hl
      obtain rfl : 3 = i1x := by omega
      refine lv_iload_n hx hb dX1_countCombers_2 rfl (lv_at hl 0 rfl) ?_
      refine lv_iconst (v := 3) hx hb dX1_countCombers_3 (by decide) ?_
      refine lv_icmp_ge (tgt := 20) hx hb dX1_countCombers_4 (by decide) (fun c3 => ?_) (fun c3 => absurd (by decide) c3)
      refine lv_aload_n hx hb dX1_countCombers_20 rfl (lv_at hl 1 rfl) ?_
      refine cg_r hx hb hts h_iX1 hown hC hs 3 (by decide) h_f36 dX1_countCombers_21 ?_
      refine lv_astore_n (lv' := [(1, .ref (a (17*s+(3+1)))), (0, .ref (a (17*s+0)))]) hx hb dX1_countCombers_24 rfl hl (by decide) rfl ?_
      clear hl; intro ls hl
      refine lv_aload_n hx hb dX1_countCombers_25 rfl (lv_at hl 0 rfl) ?_
      refine c_mlen hx hb hC hs dX1_countCombers_26 ?_
      refine lv_istore_n (lv' := [(2, .int (12 : Int32)), (1, .ref (a (17*s+(3+1)))), (0, .ref (a (17*s+0)))]) hx hb dX1_countCombers_27 rfl hl (by decide) rfl ?_
      clear hl; intro ls hl
      refine lv_iconst (v := 0) hx hb dX1_countCombers_28 (by decide) ?_
      refine lv_istore_n (lv' := [(3, .int (0 : Int32)), (2, .int (12 : Int32)), (1, .ref (a (17*s+(3+1)))), (0, .ref (a (17*s+0)))]) hx hb dX1_countCombers_29 rfl hl (by decide) rfl ?_
      clear hl; intro ls hl
      have loop2 : ∀ (n2x i2x : Nat) (σL2 : (Nat → Nat → Int32)), i2x + n2x = 12 → itR (fun i x => fX1_countCombers_b2 i x) i2x n2x σL2 = itR (fun i x => fX1_countCombers_b2 i x) 0 12 σL1 → ∀ (H : Heap) (locs : List Loc), cB D cI cM a S (cA a sz) S.heap H locs s σL2 ρ → ∀ ls : Array Slot, lv_has ls 5 [(3, .int (nI i2x)), (2, .int (12 : Int32)), (1, .ref (a (17*s+(3+1)))), (0, .ref (a (17*s+0)))] → W p l e (headSpec wsX1_countCombers rmX1_countCombers).room S m [.ref (a (17*s+0))].toArray below meth c H locs 0 0 (MQ below (va_Qv (fun (_ : Unit) => True) (cPost D cI cM a s (fX1_countCombers σ) ρ) (cA a sz)) [.ref (a (17*s+0))].toArray S 0 0 (cA a sz)) (F0 m 30 ls []) := by
        clear hC hl
        intro n2x
        induction n2x with
        | zero =>
          intro i2x σL2 hin2 hX2 H locs hC ls hl
          obtain rfl : 12 = i2x := by omega
          refine lv_iload_n hx hb dX1_countCombers_30 rfl (lv_at hl 0 rfl) ?_
          refine lv_iload_n hx hb dX1_countCombers_31 rfl (lv_at hl 1 rfl) ?_
          refine lv_icmp_ge (tgt := 68) hx hb dX1_countCombers_32 (by decide) (fun c7 => ?_) (fun c7 => absurd (by decide) c7)
          have e : fX1_countCombers σ = σL2 := by exact ((congrArg (fun x => fX1_countCombers_k1 x) hX1.symm).trans ((congrArg (fun x => fX1_countCombers_k2 x) hX2.symm).trans rfl))
          exact c_vret hx hb hr hlocks hC dX1_countCombers_68 (by rw [e])
        | succ n2x ih2 =>
          intro i2x σL2 hin2 hX2 H locs hC ls hl
          refine lv_iload_n hx hb dX1_countCombers_30 rfl (lv_at hl 0 rfl) ?_
          refine lv_iload_n hx hb dX1_countCombers_31 rfl (lv_at hl 1 rfl) ?_
          refine lv_icmp_ge (tgt := 68) hx hb dX1_countCombers_32 (by decide) (fun c4 => absurd c4 (show ¬ (12 : Int32) ≤ nI i2x from (nI_ge (a := i2x) (b := 12) (by omega) (by decide) : ¬ nI 12 ≤ nI i2x))) (fun c4 => ?_)
          refine lv_aload_n hx hb dX1_countCombers_35 rfl (lv_at hl 2 rfl) ?_
          refine lv_iload_n hx hb dX1_countCombers_36 rfl (lv_at hl 0 rfl) ?_
          refine c_mld hx hb hC hs (j := i2x) rfl (show _ < 12 by omega) dX1_countCombers_37 ?_
          refine lv_astore (lv' := [(4, .ref (a (17*s+(i2x+5)))), (3, .int (nI i2x)), (2, .int (12 : Int32)), (1, .ref (a (17*s+(3+1)))), (0, .ref (a (17*s+0)))]) hx hb dX1_countCombers_38 hl (by decide) rfl ?_
          clear hl; intro ls hl
          refine lv_aload hx hb dX1_countCombers_40 (lv_at hl 0 rfl) ?_
          refine c_iVp (n := 0) hF (c_X0_combs l D cI cM a s σL2 ρ hs i2x (show _ < 12 by omega) ) gX1_countCombers_X0_combs rfl rfl rfl (by decide +kernel) ⟨Nat.le_of_ble_eq_true rfl, Nat.le_of_ble_eq_true rfl⟩ hC hA (hC.recvM hs (show _ < 12 by omega)) rfl hl.1 rfl (Nat.le_of_ble_eq_true rfl) dX1_countCombers_42 ⟨Nat.zero_le _, Nat.zero_le _⟩ ?_
          clear hC; intro H locs hC
          refine lv_if_eq (tgt := 62) hx hb dX1_countCombers_45 (by decide) (fun c5 => ?_) (fun c5 => ?_)
          · refine lv_iinc (v := (nI (i2x + 1))) (lv' := [(3, .int (nI (i2x + 1))), (4, .ref (a (17*s+(i2x+5)))), (2, .int (12 : Int32)), (1, .ref (a (17*s+(3+1)))), (0, .ref (a (17*s+0)))]) hx hb dX1_countCombers_62 hl (k := 1) rfl (nI_1 i2x) (by decide) rfl ?_
            clear hl; intro ls hl
            refine lv_goto (tgt := 30) hx hb dX1_countCombers_65 (by decide) ?_
            have e : fX1_countCombers_b2 i2x σL2 = σL2 := by exact ((if_pos c5).trans rfl)
            exact ih2 (i2x + 1) σL2 (by omega) (by rw [← e]; exact hX2) _ _ hC ls (lv_sub hl [0, 2, 3, 4] rfl)
          · refine lv_aload_n hx hb dX1_countCombers_48 rfl (lv_at hl 4 rfl) ?_
            refine cg_r hx hb hts h_iX1 hown hC hs 2 (by decide) h_f31 dX1_countCombers_49 ?_
            refine lv_aload hx hb dX1_countCombers_52 (lv_at hl 0 rfl) ?_
            refine cg_m hx hb hts h_iX0 hown hC hs (show _ < 12 by omega) 5 (by decide) h_f63 dX1_countCombers_54 ?_
            refine lv_dup2_11 hx hb dX1_countCombers_57 rfl rfl ?_
            refine c_ild hx hb hC hs 3 (by decide) (by decide) (j := ((σL2 (i2x+5) 5)).toNatClampNeg) (combs_ix c5).1 (combs_ix c5).2 dX1_countCombers_58 ?_
            refine lv_iconst (v := 1) hx hb dX1_countCombers_59 (by decide) ?_
            refine lv_iadd hx hb dX1_countCombers_60 ?_
            refine c_ist hx hb hC hs 3 (by decide) (by decide) (j := ((σL2 (i2x+5) 5)).toNatClampNeg) (combs_ix c5).1 (combs_ix c5).2 dX1_countCombers_61 ?_
            clear hC; intro H locs σ6 eσ6 hC
            refine lv_iinc (v := (nI (i2x + 1))) (lv' := [(3, .int (nI (i2x + 1))), (4, .ref (a (17*s+(i2x+5)))), (2, .int (12 : Int32)), (1, .ref (a (17*s+(3+1)))), (0, .ref (a (17*s+0)))]) hx hb dX1_countCombers_62 hl (k := 1) rfl (nI_1 i2x) (by decide) rfl ?_
            clear hl; intro ls hl
            refine lv_goto (tgt := 30) hx hb dX1_countCombers_65 (by decide) ?_
            have e : fX1_countCombers_b2 i2x σL2 = σ6 := by subst eσ6; exact ((if_neg c5).trans rfl)
            exact ih2 (i2x + 1) σ6 (by omega) (by rw [← e]; exact hX2) _ _ hC ls (lv_sub hl [0, 2, 3, 4] rfl)
      exact loop2 12 0 σL1 (by omega) rfl _ _ hC ls (lv_sub hl [0, 1, 2, 3] rfl)
    | succ n1x ih1 =>
      intro i1x σL1 hin1 hX1 H locs hC ls hl
      refine lv_iload_n hx hb dX1_countCombers_2 rfl (lv_at hl 0 rfl) ?_
      refine lv_iconst (v := 3) hx hb dX1_countCombers_3 (by decide) ?_
      refine lv_icmp_ge (tgt := 20) hx hb dX1_countCombers_4 (by decide) (fun c1 => absurd c1 (show ¬ (3 : Int32) ≤ nI i1x from (nI_ge (a := i1x) (b := 3) (by omega) (by decide) : ¬ nI 3 ≤ nI i1x))) (fun c1 => ?_)
      refine lv_aload_n hx hb dX1_countCombers_7 rfl (lv_at hl 1 rfl) ?_
      refine cg_r hx hb hts h_iX1 hown hC hs 2 (by decide) h_f31 dX1_countCombers_8 ?_
      refine lv_iload_n hx hb dX1_countCombers_11 rfl (lv_at hl 0 rfl) ?_
      refine lv_iconst (v := 0) hx hb dX1_countCombers_12 (by decide) ?_
      refine c_ist hx hb hC hs 3 (by decide) (by decide) (j := i1x) rfl (show _ < 3 by omega) dX1_countCombers_13 ?_
      clear hC; intro H locs σ2 eσ2 hC
      refine lv_iinc (v := (nI (i1x + 1))) (lv' := [(1, .int (nI (i1x + 1))), (0, .ref (a (17*s+0)))]) hx hb dX1_countCombers_14 hl (k := 0) rfl (nI_1 i1x) (by decide) rfl ?_
      clear hl; intro ls hl
      refine lv_goto (tgt := 2) hx hb dX1_countCombers_17 (by decide) ?_
      have e : fX1_countCombers_b1 i1x σL1 = σ2 := by subst eσ2; exact rfl
      exact ih1 (i1x + 1) σ2 (by omega) (by rw [← e]; exact hX1) _ _ hC ls (lv_sub hl [0, 1] rfl)
  exact loop1 3 0 σ (by omega) rfl _ _ hC ls (lv_sub hl [0, 1] rfl)
abbrev rmX1_combersAt : Room := { frames := 2, cells := 0, slots := 0, locals := 44 }
def fX1_combersAt (σ : (Nat → Nat → Int32)) (p0 : Int32) : Int32 × (Nat → Nat → Int32) :=
    let σ1 : (Nat → Nat → Int32) := (fX1_countCombers σ)
    if p0 < 0 then
      ((0 : Int32), σ1)
    else
      if (3 : Int32) ≤ p0 then
        ((0 : Int32), σ1)
      else
        ((σ1 3 (p0).toNatClampNeg), σ1)
set_option maxHeartbeats 400000 in
set_option maxRecDepth 100000 in
theorem c_X1_combersAt (l : Launch) (D : va_G) (cI cM : ClassId) (a : Nat → Nat) (s : Nat) (σ ρ : (Nat → Nat → Int32)) (hs : s < 2) (p0 : Int32) : cMi l yX1_combersAt wsX1_combersAt rmX1_combersAt D cI cM a [.ref (a (17*s+0)), .int p0] s σ ρ (fX1_combersAt σ p0).1 (fX1_combersAt σ p0).2 := by
  intro sz
  refine c_head (cc := cX1_combersAt) (maxL := 2) (ret := (some .int)) (plainFor_of_name (by decide)) rfl (Nat.le_of_ble_eq_true rfl) ?_
  intro p e S m below meth c hx hb hr hml hown hts hlocks hnm hsz hA hC ls hl
  have hF : CallFix p m c cX1_combersAt 2 S [.ref (a (17*s+0)), .int p0].toArray wsX1_combersAt RX1 := ⟨hx, hb, hml, hown, hts⟩
  have h_f31 : (Cond.fieldLink RX1 31 "CombersSociety$Society" "combing" "[I").before [.ref (a (17*s+0)), .int p0].toArray S = true := hts _ (by decide +kernel)
  have h_iX1 : ∀ w ∈ u_ws RX1 TX1 14, w ∈ wsX1_combersAt := by decide +kernel
  have hl : lv_has ls 2 [(0, .ref (a (17*s+0))), (1, .int p0)] := hl
  refine lv_aload_n hx hb dX1_combersAt_0 rfl (lv_at hl 0 rfl) ?_
  refine c_iVv (n := 0) hF (c_X1_countCombers l D cI cM a s σ ρ hs  ) gX1_combersAt_X1_countCombers rfl rfl rfl (by decide +kernel) ⟨Nat.le_of_ble_eq_true rfl, Nat.le_of_ble_eq_true rfl⟩ hC hA (hC.recvS hs) rfl hl.1 rfl (Nat.le_of_ble_eq_true rfl) dX1_combersAt_1 ⟨Nat.zero_le _, Nat.zero_le _⟩ ?_
  clear hC; intro H locs σ1 eσ1 hC
  refine lv_iload_n hx hb dX1_combersAt_4 rfl (lv_at hl 1 rfl) ?_
  refine lv_if_lt (tgt := 22) hx hb dX1_combersAt_5 (by decide) (fun c2 => ?_) (fun c2 => ?_)
  · refine lv_iconst (v := 0) hx hb dX1_combersAt_22 (by decide) ?_
    have e : fX1_combersAt σ p0 = ((0 : Int32), σ1) := by subst eσ1; exact ((if_pos c2).trans rfl)
    exact c_iret hx hb hr hlocks hC dX1_combersAt_23 ⟨by rw [e], by rw [e]⟩
  · refine lv_iload_n hx hb dX1_combersAt_8 rfl (lv_at hl 1 rfl) ?_
    refine lv_iconst (v := 3) hx hb dX1_combersAt_9 (by decide) ?_
    refine lv_icmp_ge (tgt := 22) hx hb dX1_combersAt_10 (by decide) (fun c3 => ?_) (fun c3 => ?_)
    · refine lv_iconst (v := 0) hx hb dX1_combersAt_22 (by decide) ?_
      have e : fX1_combersAt σ p0 = ((0 : Int32), σ1) := by subst eσ1; exact ((if_neg c2).trans ((if_pos c3).trans rfl))
      exact c_iret hx hb hr hlocks hC dX1_combersAt_23 ⟨by rw [e], by rw [e]⟩
    · refine lv_aload_n hx hb dX1_combersAt_13 rfl (lv_at hl 0 rfl) ?_
      refine cg_r hx hb hts h_iX1 hown hC hs 2 (by decide) h_f31 dX1_combersAt_14 ?_
      refine lv_iload_n hx hb dX1_combersAt_17 rfl (lv_at hl 1 rfl) ?_
      refine c_ild hx hb hC hs 3 (by decide) (by decide) (j := (p0).toNatClampNeg) (ixc (N := 3) c2 c3 (by decide)).1 (ixc (N := 3) c2 c3 (by decide)).2 dX1_combersAt_18 ?_
      refine lv_goto (tgt := 23) hx hb dX1_combersAt_19 (by decide) ?_
      have e : fX1_combersAt σ p0 = ((σ1 3 (p0).toNatClampNeg), σ1) := by subst eσ1; exact ((if_neg c2).trans ((if_neg c3).trans rfl))
      exact c_iret hx hb hr hlocks hC dX1_combersAt_23 ⟨by rw [e], by rw [e]⟩
abbrev rmX1_howMany : Room := { frames := 0, cells := 0, slots := 0, locals := 0 }
def fX1_howMany_b1 (σ : (Nat → Nat → Int32)) (p0 : Int32) (i1x : Nat) (v1_2 : Int32) : Int32 :=
    if (σ (i1x+5) 6) = p0 then
      (v1_2 + 1)
    else
      v1_2
def fX1_howMany_k1 (v1_2 : Int32) : Int32 :=
    v1_2
def fX1_howMany (σ : (Nat → Nat → Int32)) (p0 : Int32) : Int32 :=
    (fun x => fX1_howMany_k1 x) (itR (fun i x => fX1_howMany_b1 σ p0 i x) 0 12 (0 : Int32))
set_option maxHeartbeats 400000 in
set_option maxRecDepth 100000 in
theorem c_X1_howMany (l : Launch) (D : va_G) (cI cM : ClassId) (a : Nat → Nat) (s : Nat) (σ ρ : (Nat → Nat → Int32)) (hs : s < 2) (p0 : Int32) : cMi l yX1_howMany wsX1_howMany rmX1_howMany D cI cM a [.ref (a (17*s+0)), .int p0] s σ ρ (fX1_howMany σ p0) σ := by
  intro sz
  refine c_head (cc := cX1_howMany) (maxL := 7) (ret := (some .int)) (plainFor_of_name (by decide)) rfl (Nat.le_of_ble_eq_true rfl) ?_
  intro p e S m below meth c hx hb hr hml hown hts hlocks hnm hsz hA hC ls hl
  have h_f36 : (Cond.fieldLink RX1 36 "CombersSociety$Society" "members" "[LCombersSociety$Member;").before [.ref (a (17*s+0)), .int p0].toArray S = true := hts _ (by decide +kernel)
  have h_iX1 : ∀ w ∈ u_ws RX1 TX1 14, w ∈ wsX1_howMany := by decide +kernel
  have h_f60 : (Cond.fieldLink RX1 60 "CombersSociety$Member" "health" "I").before [.ref (a (17*s+0)), .int p0].toArray S = true := hts _ (by decide +kernel)
  have h_iX0 : ∀ w ∈ u_ws RX0 TX0 10, w ∈ wsX1_howMany := by decide +kernel
  have hl : lv_has ls 7 [(0, .ref (a (17*s+0))), (1, .int p0)] := hl
  refine lv_iconst (v := 0) hx hb dX1_howMany_0 (by decide) ?_
  refine lv_istore_n (lv' := [(2, .int (0 : Int32)), (0, .ref (a (17*s+0))), (1, .int p0)]) hx hb dX1_howMany_1 rfl hl (by decide) rfl ?_
  clear hl; intro ls hl
  refine lv_aload_n hx hb dX1_howMany_2 rfl (lv_at hl 1 rfl) ?_
  refine cg_r hx hb hts h_iX1 hown hC hs 3 (by decide) h_f36 dX1_howMany_3 ?_
  refine lv_astore_n (lv' := [(3, .ref (a (17*s+(3+1)))), (2, .int (0 : Int32)), (0, .ref (a (17*s+0))), (1, .int p0)]) hx hb dX1_howMany_6 rfl hl (by decide) rfl ?_
  clear hl; intro ls hl
  refine lv_aload_n hx hb dX1_howMany_7 rfl (lv_at hl 0 rfl) ?_
  refine c_mlen hx hb hC hs dX1_howMany_8 ?_
  refine lv_istore (lv' := [(4, .int (12 : Int32)), (3, .ref (a (17*s+(3+1)))), (2, .int (0 : Int32)), (0, .ref (a (17*s+0))), (1, .int p0)]) hx hb dX1_howMany_9 hl (by decide) rfl ?_
  clear hl; intro ls hl
  refine lv_iconst (v := 0) hx hb dX1_howMany_11 (by decide) ?_
  refine lv_istore (lv' := [(5, .int (0 : Int32)), (4, .int (12 : Int32)), (3, .ref (a (17*s+(3+1)))), (2, .int (0 : Int32)), (0, .ref (a (17*s+0))), (1, .int p0)]) hx hb dX1_howMany_12 hl (by decide) rfl ?_
  clear hl; intro ls hl
  have loop1 : ∀ (n1x i1x : Nat) (v1_2 : Int32), i1x + n1x = 12 → itR (fun i x => fX1_howMany_b1 σ p0 i x) i1x n1x v1_2 = itR (fun i x => fX1_howMany_b1 σ p0 i x) 0 12 (0 : Int32) → ∀ (H : Heap) (locs : List Loc), cB D cI cM a S (cA a sz) S.heap H locs s σ ρ → ∀ ls : Array Slot, lv_has ls 7 [(5, .int (nI i1x)), (4, .int (12 : Int32)), (3, .ref (a (17*s+(3+1)))), (2, .int v1_2), (0, .ref (a (17*s+0))), (1, .int p0)] → W p l e (headSpec wsX1_howMany rmX1_howMany).room S m [.ref (a (17*s+0)), .int p0].toArray below meth c H locs 0 0 (MQ below (va_Qi (fun r' (_ : Unit) => r' = fX1_howMany σ p0) (cPost D cI cM a s σ ρ) (cA a sz)) [.ref (a (17*s+0)), .int p0].toArray S 0 0 (cA a sz)) (F0 m 14 ls []) := by
    clear hC hl
    intro n1x
    induction n1x with
    | zero =>
      intro i1x v1_2 hin1 hX1 H locs hC ls hl
      obtain rfl : 12 = i1x := by omega
      refine lv_iload hx hb dX1_howMany_14 (lv_at hl 0 rfl) ?_
      refine lv_iload hx hb dX1_howMany_16 (lv_at hl 1 rfl) ?_
      refine lv_icmp_ge (tgt := 45) hx hb dX1_howMany_18 (by decide) (fun c3 => ?_) (fun c3 => absurd (by decide) c3)
      refine lv_iload_n hx hb dX1_howMany_45 rfl (lv_at hl 3 rfl) ?_
      have e : fX1_howMany σ p0 = v1_2 := by exact ((congrArg (fun x => fX1_howMany_k1 x) hX1.symm).trans rfl)
      exact c_iret hx hb hr hlocks hC dX1_howMany_46 ⟨by rw [e], rfl⟩
    | succ n1x ih1 =>
      intro i1x v1_2 hin1 hX1 H locs hC ls hl
      refine lv_iload hx hb dX1_howMany_14 (lv_at hl 0 rfl) ?_
      refine lv_iload hx hb dX1_howMany_16 (lv_at hl 1 rfl) ?_
      refine lv_icmp_ge (tgt := 45) hx hb dX1_howMany_18 (by decide) (fun c1 => absurd c1 (show ¬ (12 : Int32) ≤ nI i1x from (nI_ge (a := i1x) (b := 12) (by omega) (by decide) : ¬ nI 12 ≤ nI i1x))) (fun c1 => ?_)
      refine lv_aload_n hx hb dX1_howMany_21 rfl (lv_at hl 2 rfl) ?_
      refine lv_iload hx hb dX1_howMany_22 (lv_at hl 0 rfl) ?_
      refine c_mld hx hb hC hs (j := i1x) rfl (show _ < 12 by omega) dX1_howMany_24 ?_
      refine lv_astore (lv' := [(6, .ref (a (17*s+(i1x+5)))), (5, .int (nI i1x)), (4, .int (12 : Int32)), (3, .ref (a (17*s+(3+1)))), (2, .int v1_2), (0, .ref (a (17*s+0))), (1, .int p0)]) hx hb dX1_howMany_25 hl (by decide) rfl ?_
      clear hl; intro ls hl
      refine lv_aload hx hb dX1_howMany_27 (lv_at hl 0 rfl) ?_
      refine cg_m hx hb hts h_iX0 hown hC hs (show _ < 12 by omega) 6 (by decide) h_f60 dX1_howMany_29 ?_
      refine lv_iload_n hx hb dX1_howMany_32 rfl (lv_at hl 6 rfl) ?_
      refine lv_icmp_ne (tgt := 39) hx hb dX1_howMany_33 (by decide) (fun c2 => ?_) (fun c2 => ?_)
      · refine lv_iinc (v := (nI (i1x + 1))) (lv' := [(5, .int (nI (i1x + 1))), (6, .ref (a (17*s+(i1x+5)))), (4, .int (12 : Int32)), (3, .ref (a (17*s+(3+1)))), (2, .int v1_2), (0, .ref (a (17*s+0))), (1, .int p0)]) hx hb dX1_howMany_39 hl (k := 1) rfl (nI_1 i1x) (by decide) rfl ?_
        clear hl; intro ls hl
        refine lv_goto (tgt := 14) hx hb dX1_howMany_42 (by decide) ?_
        have e : fX1_howMany_b1 σ p0 i1x v1_2 = v1_2 := by exact ((if_neg c2).trans rfl)
        exact ih1 (i1x + 1) v1_2 (by omega) (by rw [← e]; exact hX1) _ _ hC ls (lv_sub hl [0, 2, 3, 4, 5, 6] rfl)
      · refine lv_iinc (v := (v1_2 + 1)) (lv' := [(2, .int (v1_2 + 1)), (6, .ref (a (17*s+(i1x+5)))), (5, .int (nI i1x)), (4, .int (12 : Int32)), (3, .ref (a (17*s+(3+1)))), (0, .ref (a (17*s+0))), (1, .int p0)]) hx hb dX1_howMany_36 hl (k := 4) rfl (rfl) (by decide) rfl ?_
        clear hl; intro ls hl
        refine lv_iinc (v := (nI (i1x + 1))) (lv' := [(5, .int (nI (i1x + 1))), (2, .int (v1_2 + 1)), (6, .ref (a (17*s+(i1x+5)))), (4, .int (12 : Int32)), (3, .ref (a (17*s+(3+1)))), (0, .ref (a (17*s+0))), (1, .int p0)]) hx hb dX1_howMany_39 hl (k := 2) rfl (nI_1 i1x) (by decide) rfl ?_
        clear hl; intro ls hl
        refine lv_goto (tgt := 14) hx hb dX1_howMany_42 (by decide) ?_
        have e : fX1_howMany_b1 σ p0 i1x v1_2 = (v1_2 + 1) := by exact ((if_pos c2).trans rfl)
        exact ih1 (i1x + 1) (v1_2 + 1) (by omega) (by rw [← e]; exact hX1) _ _ hC ls (lv_sub hl [0, 3, 4, 1, 5, 6] rfl)
  exact loop1 12 0 (0 : Int32) (by omega) rfl _ _ hC ls (lv_sub hl [0, 1, 2, 3, 4, 5] rfl)
abbrev rmX1_coinsInPurses : Room := { frames := 0, cells := 0, slots := 0, locals := 0 }
def fX1_coinsInPurses_b1 (σ : (Nat → Nat → Int32)) (i1x : Nat) (v1_1 : Int32) : Int32 :=
    (v1_1 + (σ (i1x+5) 2))
def fX1_coinsInPurses_k1 (v1_1 : Int32) : Int32 :=
    v1_1
def fX1_coinsInPurses (σ : (Nat → Nat → Int32)) : Int32 :=
    (fun x => fX1_coinsInPurses_k1 x) (itR (fun i x => fX1_coinsInPurses_b1 σ i x) 0 12 (0 : Int32))
set_option maxHeartbeats 400000 in
set_option maxRecDepth 100000 in
theorem c_X1_coinsInPurses (l : Launch) (D : va_G) (cI cM : ClassId) (a : Nat → Nat) (s : Nat) (σ ρ : (Nat → Nat → Int32)) (hs : s < 2)  : cMi l yX1_coinsInPurses wsX1_coinsInPurses rmX1_coinsInPurses D cI cM a [.ref (a (17*s+0))] s σ ρ (fX1_coinsInPurses σ) σ := by
  intro sz
  refine c_head (cc := cX1_coinsInPurses) (maxL := 6) (ret := (some .int)) (plainFor_of_name (by decide)) rfl (Nat.le_of_ble_eq_true rfl) ?_
  intro p e S m below meth c hx hb hr hml hown hts hlocks hnm hsz hA hC ls hl
  have h_f36 : (Cond.fieldLink RX1 36 "CombersSociety$Society" "members" "[LCombersSociety$Member;").before [.ref (a (17*s+0))].toArray S = true := hts _ (by decide +kernel)
  have h_iX1 : ∀ w ∈ u_ws RX1 TX1 14, w ∈ wsX1_coinsInPurses := by decide +kernel
  have h_f80 : (Cond.fieldLink RX1 80 "CombersSociety$Member" "coins" "I").before [.ref (a (17*s+0))].toArray S = true := hts _ (by decide +kernel)
  have h_iX0 : ∀ w ∈ u_ws RX0 TX0 10, w ∈ wsX1_coinsInPurses := by decide +kernel
  have hl : lv_has ls 6 [(0, .ref (a (17*s+0)))] := hl
  refine lv_iconst (v := 0) hx hb dX1_coinsInPurses_0 (by decide) ?_
  refine lv_istore_n (lv' := [(1, .int (0 : Int32)), (0, .ref (a (17*s+0)))]) hx hb dX1_coinsInPurses_1 rfl hl (by decide) rfl ?_
  clear hl; intro ls hl
  refine lv_aload_n hx hb dX1_coinsInPurses_2 rfl (lv_at hl 1 rfl) ?_
  refine cg_r hx hb hts h_iX1 hown hC hs 3 (by decide) h_f36 dX1_coinsInPurses_3 ?_
  refine lv_astore_n (lv' := [(2, .ref (a (17*s+(3+1)))), (1, .int (0 : Int32)), (0, .ref (a (17*s+0)))]) hx hb dX1_coinsInPurses_6 rfl hl (by decide) rfl ?_
  clear hl; intro ls hl
  refine lv_aload_n hx hb dX1_coinsInPurses_7 rfl (lv_at hl 0 rfl) ?_
  refine c_mlen hx hb hC hs dX1_coinsInPurses_8 ?_
  refine lv_istore_n (lv' := [(3, .int (12 : Int32)), (2, .ref (a (17*s+(3+1)))), (1, .int (0 : Int32)), (0, .ref (a (17*s+0)))]) hx hb dX1_coinsInPurses_9 rfl hl (by decide) rfl ?_
  clear hl; intro ls hl
  refine lv_iconst (v := 0) hx hb dX1_coinsInPurses_10 (by decide) ?_
  refine lv_istore (lv' := [(4, .int (0 : Int32)), (3, .int (12 : Int32)), (2, .ref (a (17*s+(3+1)))), (1, .int (0 : Int32)), (0, .ref (a (17*s+0)))]) hx hb dX1_coinsInPurses_11 hl (by decide) rfl ?_
  clear hl; intro ls hl
  have loop1 : ∀ (n1x i1x : Nat) (v1_1 : Int32), i1x + n1x = 12 → itR (fun i x => fX1_coinsInPurses_b1 σ i x) i1x n1x v1_1 = itR (fun i x => fX1_coinsInPurses_b1 σ i x) 0 12 (0 : Int32) → ∀ (H : Heap) (locs : List Loc), cB D cI cM a S (cA a sz) S.heap H locs s σ ρ → ∀ ls : Array Slot, lv_has ls 6 [(4, .int (nI i1x)), (3, .int (12 : Int32)), (2, .ref (a (17*s+(3+1)))), (1, .int v1_1), (0, .ref (a (17*s+0)))] → W p l e (headSpec wsX1_coinsInPurses rmX1_coinsInPurses).room S m [.ref (a (17*s+0))].toArray below meth c H locs 0 0 (MQ below (va_Qi (fun r' (_ : Unit) => r' = fX1_coinsInPurses σ) (cPost D cI cM a s σ ρ) (cA a sz)) [.ref (a (17*s+0))].toArray S 0 0 (cA a sz)) (F0 m 13 ls []) := by
    clear hC hl
    intro n1x
    induction n1x with
    | zero =>
      intro i1x v1_1 hin1 hX1 H locs hC ls hl
      obtain rfl : 12 = i1x := by omega
      refine lv_iload hx hb dX1_coinsInPurses_13 (lv_at hl 0 rfl) ?_
      refine lv_iload_n hx hb dX1_coinsInPurses_15 rfl (lv_at hl 1 rfl) ?_
      refine lv_icmp_ge (tgt := 39) hx hb dX1_coinsInPurses_16 (by decide) (fun c2 => ?_) (fun c2 => absurd (by decide) c2)
      refine lv_iload_n hx hb dX1_coinsInPurses_39 rfl (lv_at hl 3 rfl) ?_
      have e : fX1_coinsInPurses σ = v1_1 := by exact ((congrArg (fun x => fX1_coinsInPurses_k1 x) hX1.symm).trans rfl)
      exact c_iret hx hb hr hlocks hC dX1_coinsInPurses_40 ⟨by rw [e], rfl⟩
    | succ n1x ih1 =>
      intro i1x v1_1 hin1 hX1 H locs hC ls hl
      refine lv_iload hx hb dX1_coinsInPurses_13 (lv_at hl 0 rfl) ?_
      refine lv_iload_n hx hb dX1_coinsInPurses_15 rfl (lv_at hl 1 rfl) ?_
      refine lv_icmp_ge (tgt := 39) hx hb dX1_coinsInPurses_16 (by decide) (fun c1 => absurd c1 (show ¬ (12 : Int32) ≤ nI i1x from (nI_ge (a := i1x) (b := 12) (by omega) (by decide) : ¬ nI 12 ≤ nI i1x))) (fun c1 => ?_)
      refine lv_aload_n hx hb dX1_coinsInPurses_19 rfl (lv_at hl 2 rfl) ?_
      refine lv_iload hx hb dX1_coinsInPurses_20 (lv_at hl 0 rfl) ?_
      refine c_mld hx hb hC hs (j := i1x) rfl (show _ < 12 by omega) dX1_coinsInPurses_22 ?_
      refine lv_astore (lv' := [(5, .ref (a (17*s+(i1x+5)))), (4, .int (nI i1x)), (3, .int (12 : Int32)), (2, .ref (a (17*s+(3+1)))), (1, .int v1_1), (0, .ref (a (17*s+0)))]) hx hb dX1_coinsInPurses_23 hl (by decide) rfl ?_
      clear hl; intro ls hl
      refine lv_iload_n hx hb dX1_coinsInPurses_25 rfl (lv_at hl 4 rfl) ?_
      refine lv_aload hx hb dX1_coinsInPurses_26 (lv_at hl 0 rfl) ?_
      refine cg_m hx hb hts h_iX0 hown hC hs (show _ < 12 by omega) 2 (by decide) h_f80 dX1_coinsInPurses_28 ?_
      refine lv_iadd hx hb dX1_coinsInPurses_31 ?_
      refine lv_istore_n (lv' := [(1, .int (v1_1 + (σ (i1x+5) 2))), (5, .ref (a (17*s+(i1x+5)))), (4, .int (nI i1x)), (3, .int (12 : Int32)), (2, .ref (a (17*s+(3+1)))), (0, .ref (a (17*s+0)))]) hx hb dX1_coinsInPurses_32 rfl hl (by decide) rfl ?_
      clear hl; intro ls hl
      refine lv_iinc (v := (nI (i1x + 1))) (lv' := [(4, .int (nI (i1x + 1))), (1, .int (v1_1 + (σ (i1x+5) 2))), (5, .ref (a (17*s+(i1x+5)))), (3, .int (12 : Int32)), (2, .ref (a (17*s+(3+1)))), (0, .ref (a (17*s+0)))]) hx hb dX1_coinsInPurses_33 hl (k := 2) rfl (nI_1 i1x) (by decide) rfl ?_
      clear hl; intro ls hl
      refine lv_goto (tgt := 13) hx hb dX1_coinsInPurses_36 (by decide) ?_
      have e : fX1_coinsInPurses_b1 σ i1x v1_1 = (v1_1 + (σ (i1x+5) 2)) := by exact rfl
      exact ih1 (i1x + 1) (v1_1 + (σ (i1x+5) 2)) (by omega) (by rw [← e]; exact hX1) _ _ hC ls (lv_sub hl [0, 3, 4, 1, 5] rfl)
  exact loop1 12 0 (0 : Int32) (by omega) rfl _ _ hC ls (lv_sub hl [0, 1, 2, 3, 4] rfl)
abbrev rmX1_marksOfAll : Room := { frames := 0, cells := 0, slots := 0, locals := 0 }
def fX1_marksOfAll_b1 (σ : (Nat → Nat → Int32)) (i1x : Nat) (v1_1 : Int32) : Int32 :=
    (v1_1 + (σ (i1x+5) 3))
def fX1_marksOfAll_k1 (v1_1 : Int32) : Int32 :=
    v1_1
def fX1_marksOfAll (σ : (Nat → Nat → Int32)) : Int32 :=
    (fun x => fX1_marksOfAll_k1 x) (itR (fun i x => fX1_marksOfAll_b1 σ i x) 0 12 (0 : Int32))
set_option maxHeartbeats 400000 in
set_option maxRecDepth 100000 in
theorem c_X1_marksOfAll (l : Launch) (D : va_G) (cI cM : ClassId) (a : Nat → Nat) (s : Nat) (σ ρ : (Nat → Nat → Int32)) (hs : s < 2)  : cMi l yX1_marksOfAll wsX1_marksOfAll rmX1_marksOfAll D cI cM a [.ref (a (17*s+0))] s σ ρ (fX1_marksOfAll σ) σ := by
  intro sz
  refine c_head (cc := cX1_marksOfAll) (maxL := 6) (ret := (some .int)) (plainFor_of_name (by decide)) rfl (Nat.le_of_ble_eq_true rfl) ?_
  intro p e S m below meth c hx hb hr hml hown hts hlocks hnm hsz hA hC ls hl
  have h_f36 : (Cond.fieldLink RX1 36 "CombersSociety$Society" "members" "[LCombersSociety$Member;").before [.ref (a (17*s+0))].toArray S = true := hts _ (by decide +kernel)
  have h_iX1 : ∀ w ∈ u_ws RX1 TX1 14, w ∈ wsX1_marksOfAll := by decide +kernel
  have h_f83 : (Cond.fieldLink RX1 83 "CombersSociety$Member" "marks" "I").before [.ref (a (17*s+0))].toArray S = true := hts _ (by decide +kernel)
  have h_iX0 : ∀ w ∈ u_ws RX0 TX0 10, w ∈ wsX1_marksOfAll := by decide +kernel
  have hl : lv_has ls 6 [(0, .ref (a (17*s+0)))] := hl
  refine lv_iconst (v := 0) hx hb dX1_marksOfAll_0 (by decide) ?_
  refine lv_istore_n (lv' := [(1, .int (0 : Int32)), (0, .ref (a (17*s+0)))]) hx hb dX1_marksOfAll_1 rfl hl (by decide) rfl ?_
  clear hl; intro ls hl
  refine lv_aload_n hx hb dX1_marksOfAll_2 rfl (lv_at hl 1 rfl) ?_
  refine cg_r hx hb hts h_iX1 hown hC hs 3 (by decide) h_f36 dX1_marksOfAll_3 ?_
  refine lv_astore_n (lv' := [(2, .ref (a (17*s+(3+1)))), (1, .int (0 : Int32)), (0, .ref (a (17*s+0)))]) hx hb dX1_marksOfAll_6 rfl hl (by decide) rfl ?_
  clear hl; intro ls hl
  refine lv_aload_n hx hb dX1_marksOfAll_7 rfl (lv_at hl 0 rfl) ?_
  refine c_mlen hx hb hC hs dX1_marksOfAll_8 ?_
  refine lv_istore_n (lv' := [(3, .int (12 : Int32)), (2, .ref (a (17*s+(3+1)))), (1, .int (0 : Int32)), (0, .ref (a (17*s+0)))]) hx hb dX1_marksOfAll_9 rfl hl (by decide) rfl ?_
  clear hl; intro ls hl
  refine lv_iconst (v := 0) hx hb dX1_marksOfAll_10 (by decide) ?_
  refine lv_istore (lv' := [(4, .int (0 : Int32)), (3, .int (12 : Int32)), (2, .ref (a (17*s+(3+1)))), (1, .int (0 : Int32)), (0, .ref (a (17*s+0)))]) hx hb dX1_marksOfAll_11 hl (by decide) rfl ?_
  clear hl; intro ls hl
  have loop1 : ∀ (n1x i1x : Nat) (v1_1 : Int32), i1x + n1x = 12 → itR (fun i x => fX1_marksOfAll_b1 σ i x) i1x n1x v1_1 = itR (fun i x => fX1_marksOfAll_b1 σ i x) 0 12 (0 : Int32) → ∀ (H : Heap) (locs : List Loc), cB D cI cM a S (cA a sz) S.heap H locs s σ ρ → ∀ ls : Array Slot, lv_has ls 6 [(4, .int (nI i1x)), (3, .int (12 : Int32)), (2, .ref (a (17*s+(3+1)))), (1, .int v1_1), (0, .ref (a (17*s+0)))] → W p l e (headSpec wsX1_marksOfAll rmX1_marksOfAll).room S m [.ref (a (17*s+0))].toArray below meth c H locs 0 0 (MQ below (va_Qi (fun r' (_ : Unit) => r' = fX1_marksOfAll σ) (cPost D cI cM a s σ ρ) (cA a sz)) [.ref (a (17*s+0))].toArray S 0 0 (cA a sz)) (F0 m 13 ls []) := by
    clear hC hl
    intro n1x
    induction n1x with
    | zero =>
      intro i1x v1_1 hin1 hX1 H locs hC ls hl
      obtain rfl : 12 = i1x := by omega
      refine lv_iload hx hb dX1_marksOfAll_13 (lv_at hl 0 rfl) ?_
      refine lv_iload_n hx hb dX1_marksOfAll_15 rfl (lv_at hl 1 rfl) ?_
      refine lv_icmp_ge (tgt := 39) hx hb dX1_marksOfAll_16 (by decide) (fun c2 => ?_) (fun c2 => absurd (by decide) c2)
      refine lv_iload_n hx hb dX1_marksOfAll_39 rfl (lv_at hl 3 rfl) ?_
      have e : fX1_marksOfAll σ = v1_1 := by exact ((congrArg (fun x => fX1_marksOfAll_k1 x) hX1.symm).trans rfl)
      exact c_iret hx hb hr hlocks hC dX1_marksOfAll_40 ⟨by rw [e], rfl⟩
    | succ n1x ih1 =>
      intro i1x v1_1 hin1 hX1 H locs hC ls hl
      refine lv_iload hx hb dX1_marksOfAll_13 (lv_at hl 0 rfl) ?_
      refine lv_iload_n hx hb dX1_marksOfAll_15 rfl (lv_at hl 1 rfl) ?_
      refine lv_icmp_ge (tgt := 39) hx hb dX1_marksOfAll_16 (by decide) (fun c1 => absurd c1 (show ¬ (12 : Int32) ≤ nI i1x from (nI_ge (a := i1x) (b := 12) (by omega) (by decide) : ¬ nI 12 ≤ nI i1x))) (fun c1 => ?_)
      refine lv_aload_n hx hb dX1_marksOfAll_19 rfl (lv_at hl 2 rfl) ?_
      refine lv_iload hx hb dX1_marksOfAll_20 (lv_at hl 0 rfl) ?_
      refine c_mld hx hb hC hs (j := i1x) rfl (show _ < 12 by omega) dX1_marksOfAll_22 ?_
      refine lv_astore (lv' := [(5, .ref (a (17*s+(i1x+5)))), (4, .int (nI i1x)), (3, .int (12 : Int32)), (2, .ref (a (17*s+(3+1)))), (1, .int v1_1), (0, .ref (a (17*s+0)))]) hx hb dX1_marksOfAll_23 hl (by decide) rfl ?_
      clear hl; intro ls hl
      refine lv_iload_n hx hb dX1_marksOfAll_25 rfl (lv_at hl 4 rfl) ?_
      refine lv_aload hx hb dX1_marksOfAll_26 (lv_at hl 0 rfl) ?_
      refine cg_m hx hb hts h_iX0 hown hC hs (show _ < 12 by omega) 3 (by decide) h_f83 dX1_marksOfAll_28 ?_
      refine lv_iadd hx hb dX1_marksOfAll_31 ?_
      refine lv_istore_n (lv' := [(1, .int (v1_1 + (σ (i1x+5) 3))), (5, .ref (a (17*s+(i1x+5)))), (4, .int (nI i1x)), (3, .int (12 : Int32)), (2, .ref (a (17*s+(3+1)))), (0, .ref (a (17*s+0)))]) hx hb dX1_marksOfAll_32 rfl hl (by decide) rfl ?_
      clear hl; intro ls hl
      refine lv_iinc (v := (nI (i1x + 1))) (lv' := [(4, .int (nI (i1x + 1))), (1, .int (v1_1 + (σ (i1x+5) 3))), (5, .ref (a (17*s+(i1x+5)))), (3, .int (12 : Int32)), (2, .ref (a (17*s+(3+1)))), (0, .ref (a (17*s+0)))]) hx hb dX1_marksOfAll_33 hl (k := 2) rfl (nI_1 i1x) (by decide) rfl ?_
      clear hl; intro ls hl
      refine lv_goto (tgt := 13) hx hb dX1_marksOfAll_36 (by decide) ?_
      have e : fX1_marksOfAll_b1 σ i1x v1_1 = (v1_1 + (σ (i1x+5) 3)) := by exact rfl
      exact ih1 (i1x + 1) (v1_1 + (σ (i1x+5) 3)) (by omega) (by rw [← e]; exact hX1) _ _ hC ls (lv_sub hl [0, 3, 4, 1, 5] rfl)
  exact loop1 12 0 (0 : Int32) (by omega) rfl _ _ hC ls (lv_sub hl [0, 1, 2, 3, 4] rfl)
abbrev rmX1_tally : Room := { frames := 1, cells := 0, slots := 0, locals := 26 }
def fX1_tally (σ : (Nat → Nat → Int32)) (p0 : Int32) : Int32 :=
    if p0 = 0 then
      (σ 0 0)
    else
      if p0 = 1 then
        (σ 0 1)
      else
        if p0 = 2 then
          (fX1_howMany σ (0 : Int32))
        else
          if p0 = 3 then
            (fX1_howMany σ (1 : Int32))
          else
            if p0 = 4 then
              (fX1_howMany σ (2 : Int32))
            else
              if p0 = 5 then
                (σ 0 2)
              else
                if p0 = 6 then
                  (σ 0 3)
                else
                  if p0 = 7 then
                    (σ 0 4)
                  else
                    if p0 = 8 then
                      (σ 0 5)
                    else
                      if p0 = 9 then
                        (fX1_coinsInPurses σ)
                      else
                        if p0 = 10 then
                          (fX1_marksOfAll σ)
                        else
                          if p0 = 11 then
                            (σ 0 7)
                          else
                            (σ 0 8)
set_option maxHeartbeats 400000 in
set_option maxRecDepth 100000 in
theorem c_X1_tally (l : Launch) (D : va_G) (cI cM : ClassId) (a : Nat → Nat) (s : Nat) (σ ρ : (Nat → Nat → Int32)) (hs : s < 2) (p0 : Int32) : cMi l yX1_tally wsX1_tally rmX1_tally D cI cM a [.ref (a (17*s+0)), .int p0] s σ ρ (fX1_tally σ p0) σ := by
  intro sz
  refine c_head (cc := cX1_tally) (maxL := 2) (ret := (some .int)) (plainFor_of_name (by decide)) rfl (Nat.le_of_ble_eq_true rfl) ?_
  intro p e S m below meth c hx hb hr hml hown hts hlocks hnm hsz hA hC ls hl
  have hF : CallFix p m c cX1_tally 2 S [.ref (a (17*s+0)), .int p0].toArray wsX1_tally RX1 := ⟨hx, hb, hml, hown, hts⟩
  have h_f41 : (Cond.fieldLink RX1 41 "CombersSociety$Society" "week" "I").before [.ref (a (17*s+0)), .int p0].toArray S = true := hts _ (by decide +kernel)
  have h_iX1 : ∀ w ∈ u_ws RX1 TX1 14, w ∈ wsX1_tally := by decide +kernel
  have h_f44 : (Cond.fieldLink RX1 44 "CombersSociety$Society" "joined" "I").before [.ref (a (17*s+0)), .int p0].toArray S = true := hts _ (by decide +kernel)
  have h_f9 : (Cond.fieldLink RX1 9 "CombersSociety$Society" "box" "I").before [.ref (a (17*s+0)), .int p0].toArray S = true := hts _ (by decide +kernel)
  have h_f15 : (Cond.fieldLink RX1 15 "CombersSociety$Society" "coals" "I").before [.ref (a (17*s+0)), .int p0].toArray S = true := hts _ (by decide +kernel)
  have h_f18 : (Cond.fieldLink RX1 18 "CombersSociety$Society" "wool" "I").before [.ref (a (17*s+0)), .int p0].toArray S = true := hts _ (by decide +kernel)
  have h_f47 : (Cond.fieldLink RX1 47 "CombersSociety$Society" "tops" "I").before [.ref (a (17*s+0)), .int p0].toArray S = true := hts _ (by decide +kernel)
  have h_f50 : (Cond.fieldLink RX1 50 "CombersSociety$Society" "sickPaid" "I").before [.ref (a (17*s+0)), .int p0].toArray S = true := hts _ (by decide +kernel)
  have h_f53 : (Cond.fieldLink RX1 53 "CombersSociety$Society" "funeralsPaid" "I").before [.ref (a (17*s+0)), .int p0].toArray S = true := hts _ (by decide +kernel)
  have hl : lv_has ls 2 [(0, .ref (a (17*s+0))), (1, .int p0)] := hl
  refine lv_iload_n hx hb dX1_tally_0 rfl (lv_at hl 1 rfl) ?_
  by_cases hs0 : p0 = 0
  · refine lv_tableIn (off := 63) (tgt := 64) hx hb dX1_tally_1 (by rw [hs0]; decide) (by rw [hs0]; decide) (by rw [hs0]; rfl) (by decide) ?_
    refine lv_aload_n hx hb dX1_tally_64 rfl (lv_at hl 0 rfl) ?_
    refine cg_s hx hb hts h_iX1 hown hC hs 0 (by decide) h_f41 dX1_tally_65 ?_
    have e : fX1_tally σ p0 = (σ 0 0) := by exact ((if_pos hs0).trans rfl)
    exact c_iret hx hb hr hlocks hC dX1_tally_68 ⟨by rw [e], rfl⟩
  · by_cases hs1 : p0 = 1
    · refine lv_tableIn (off := 68) (tgt := 69) hx hb dX1_tally_1 (by rw [hs1]; decide) (by rw [hs1]; decide) (by rw [hs1]; rfl) (by decide) ?_
      refine lv_aload_n hx hb dX1_tally_69 rfl (lv_at hl 0 rfl) ?_
      refine cg_s hx hb hts h_iX1 hown hC hs 1 (by decide) h_f44 dX1_tally_70 ?_
      have e : fX1_tally σ p0 = (σ 0 1) := by exact ((if_neg hs0).trans ((if_pos hs1).trans rfl))
      exact c_iret hx hb hr hlocks hC dX1_tally_73 ⟨by rw [e], rfl⟩
    · by_cases hs2 : p0 = 2
      · refine lv_tableIn (off := 73) (tgt := 74) hx hb dX1_tally_1 (by rw [hs2]; decide) (by rw [hs2]; decide) (by rw [hs2]; rfl) (by decide) ?_
        refine lv_aload_n hx hb dX1_tally_74 rfl (lv_at hl 0 rfl) ?_
        refine lv_iconst (v := 0) hx hb dX1_tally_75 (by decide) ?_
        refine c_iVp (n := 1) hF (c_X1_howMany l D cI cM a s σ ρ hs (0 : Int32) ) gX1_tally_X1_howMany rfl rfl rfl (by decide +kernel) ⟨Nat.le_of_ble_eq_true rfl, Nat.le_of_ble_eq_true rfl⟩ hC hA (hC.recvS hs) rfl hl.1 rfl (Nat.le_of_ble_eq_true rfl) dX1_tally_76 ⟨Nat.zero_le _, Nat.zero_le _⟩ ?_
        clear hC; intro H locs hC
        have e : fX1_tally σ p0 = (fX1_howMany σ (0 : Int32)) := by exact ((if_neg hs0).trans ((if_neg hs1).trans ((if_pos hs2).trans rfl)))
        exact c_iret hx hb hr hlocks hC dX1_tally_79 ⟨by rw [e], rfl⟩
      · by_cases hs3 : p0 = 3
        · refine lv_tableIn (off := 79) (tgt := 80) hx hb dX1_tally_1 (by rw [hs3]; decide) (by rw [hs3]; decide) (by rw [hs3]; rfl) (by decide) ?_
          refine lv_aload_n hx hb dX1_tally_80 rfl (lv_at hl 0 rfl) ?_
          refine lv_iconst (v := 1) hx hb dX1_tally_81 (by decide) ?_
          refine c_iVp (n := 1) hF (c_X1_howMany l D cI cM a s σ ρ hs (1 : Int32) ) gX1_tally_X1_howMany rfl rfl rfl (by decide +kernel) ⟨Nat.le_of_ble_eq_true rfl, Nat.le_of_ble_eq_true rfl⟩ hC hA (hC.recvS hs) rfl hl.1 rfl (Nat.le_of_ble_eq_true rfl) dX1_tally_82 ⟨Nat.zero_le _, Nat.zero_le _⟩ ?_
          clear hC; intro H locs hC
          have e : fX1_tally σ p0 = (fX1_howMany σ (1 : Int32)) := by exact ((if_neg hs0).trans ((if_neg hs1).trans ((if_neg hs2).trans ((if_pos hs3).trans rfl))))
          exact c_iret hx hb hr hlocks hC dX1_tally_85 ⟨by rw [e], rfl⟩
        · by_cases hs4 : p0 = 4
          · refine lv_tableIn (off := 85) (tgt := 86) hx hb dX1_tally_1 (by rw [hs4]; decide) (by rw [hs4]; decide) (by rw [hs4]; rfl) (by decide) ?_
            refine lv_aload_n hx hb dX1_tally_86 rfl (lv_at hl 0 rfl) ?_
            refine lv_iconst (v := 2) hx hb dX1_tally_87 (by decide) ?_
            refine c_iVp (n := 1) hF (c_X1_howMany l D cI cM a s σ ρ hs (2 : Int32) ) gX1_tally_X1_howMany rfl rfl rfl (by decide +kernel) ⟨Nat.le_of_ble_eq_true rfl, Nat.le_of_ble_eq_true rfl⟩ hC hA (hC.recvS hs) rfl hl.1 rfl (Nat.le_of_ble_eq_true rfl) dX1_tally_88 ⟨Nat.zero_le _, Nat.zero_le _⟩ ?_
            clear hC; intro H locs hC
            have e : fX1_tally σ p0 = (fX1_howMany σ (2 : Int32)) := by exact ((if_neg hs0).trans ((if_neg hs1).trans ((if_neg hs2).trans ((if_neg hs3).trans ((if_pos hs4).trans rfl)))))
            exact c_iret hx hb hr hlocks hC dX1_tally_91 ⟨by rw [e], rfl⟩
          · by_cases hs5 : p0 = 5
            · refine lv_tableIn (off := 91) (tgt := 92) hx hb dX1_tally_1 (by rw [hs5]; decide) (by rw [hs5]; decide) (by rw [hs5]; rfl) (by decide) ?_
              refine lv_aload_n hx hb dX1_tally_92 rfl (lv_at hl 0 rfl) ?_
              refine cg_s hx hb hts h_iX1 hown hC hs 2 (by decide) h_f9 dX1_tally_93 ?_
              have e : fX1_tally σ p0 = (σ 0 2) := by exact ((if_neg hs0).trans ((if_neg hs1).trans ((if_neg hs2).trans ((if_neg hs3).trans ((if_neg hs4).trans ((if_pos hs5).trans rfl))))))
              exact c_iret hx hb hr hlocks hC dX1_tally_96 ⟨by rw [e], rfl⟩
            · by_cases hs6 : p0 = 6
              · refine lv_tableIn (off := 96) (tgt := 97) hx hb dX1_tally_1 (by rw [hs6]; decide) (by rw [hs6]; decide) (by rw [hs6]; rfl) (by decide) ?_
                refine lv_aload_n hx hb dX1_tally_97 rfl (lv_at hl 0 rfl) ?_
                refine cg_s hx hb hts h_iX1 hown hC hs 3 (by decide) h_f15 dX1_tally_98 ?_
                have e : fX1_tally σ p0 = (σ 0 3) := by exact ((if_neg hs0).trans ((if_neg hs1).trans ((if_neg hs2).trans ((if_neg hs3).trans ((if_neg hs4).trans ((if_neg hs5).trans ((if_pos hs6).trans rfl)))))))
                exact c_iret hx hb hr hlocks hC dX1_tally_101 ⟨by rw [e], rfl⟩
              · by_cases hs7 : p0 = 7
                · refine lv_tableIn (off := 101) (tgt := 102) hx hb dX1_tally_1 (by rw [hs7]; decide) (by rw [hs7]; decide) (by rw [hs7]; rfl) (by decide) ?_
                  refine lv_aload_n hx hb dX1_tally_102 rfl (lv_at hl 0 rfl) ?_
                  refine cg_s hx hb hts h_iX1 hown hC hs 4 (by decide) h_f18 dX1_tally_103 ?_
                  have e : fX1_tally σ p0 = (σ 0 4) := by exact ((if_neg hs0).trans ((if_neg hs1).trans ((if_neg hs2).trans ((if_neg hs3).trans ((if_neg hs4).trans ((if_neg hs5).trans ((if_neg hs6).trans ((if_pos hs7).trans rfl))))))))
                  exact c_iret hx hb hr hlocks hC dX1_tally_106 ⟨by rw [e], rfl⟩
                · by_cases hs8 : p0 = 8
                  · refine lv_tableIn (off := 106) (tgt := 107) hx hb dX1_tally_1 (by rw [hs8]; decide) (by rw [hs8]; decide) (by rw [hs8]; rfl) (by decide) ?_
                    refine lv_aload_n hx hb dX1_tally_107 rfl (lv_at hl 0 rfl) ?_
                    refine cg_s hx hb hts h_iX1 hown hC hs 5 (by decide) h_f47 dX1_tally_108 ?_
                    have e : fX1_tally σ p0 = (σ 0 5) := by exact ((if_neg hs0).trans ((if_neg hs1).trans ((if_neg hs2).trans ((if_neg hs3).trans ((if_neg hs4).trans ((if_neg hs5).trans ((if_neg hs6).trans ((if_neg hs7).trans ((if_pos hs8).trans rfl)))))))))
                    exact c_iret hx hb hr hlocks hC dX1_tally_111 ⟨by rw [e], rfl⟩
                  · by_cases hs9 : p0 = 9
                    · refine lv_tableIn (off := 111) (tgt := 112) hx hb dX1_tally_1 (by rw [hs9]; decide) (by rw [hs9]; decide) (by rw [hs9]; rfl) (by decide) ?_
                      refine lv_aload_n hx hb dX1_tally_112 rfl (lv_at hl 0 rfl) ?_
                      refine c_iVp (n := 0) hF (c_X1_coinsInPurses l D cI cM a s σ ρ hs  ) gX1_tally_X1_coinsInPurses rfl rfl rfl (by decide +kernel) ⟨Nat.le_of_ble_eq_true rfl, Nat.le_of_ble_eq_true rfl⟩ hC hA (hC.recvS hs) rfl hl.1 rfl (Nat.le_of_ble_eq_true rfl) dX1_tally_113 ⟨Nat.zero_le _, Nat.zero_le _⟩ ?_
                      clear hC; intro H locs hC
                      have e : fX1_tally σ p0 = (fX1_coinsInPurses σ) := by exact ((if_neg hs0).trans ((if_neg hs1).trans ((if_neg hs2).trans ((if_neg hs3).trans ((if_neg hs4).trans ((if_neg hs5).trans ((if_neg hs6).trans ((if_neg hs7).trans ((if_neg hs8).trans ((if_pos hs9).trans rfl))))))))))
                      exact c_iret hx hb hr hlocks hC dX1_tally_116 ⟨by rw [e], rfl⟩
                    · by_cases hs10 : p0 = 10
                      · refine lv_tableIn (off := 116) (tgt := 117) hx hb dX1_tally_1 (by rw [hs10]; decide) (by rw [hs10]; decide) (by rw [hs10]; rfl) (by decide) ?_
                        refine lv_aload_n hx hb dX1_tally_117 rfl (lv_at hl 0 rfl) ?_
                        refine c_iVp (n := 0) hF (c_X1_marksOfAll l D cI cM a s σ ρ hs  ) gX1_tally_X1_marksOfAll rfl rfl rfl (by decide +kernel) ⟨Nat.le_of_ble_eq_true rfl, Nat.le_of_ble_eq_true rfl⟩ hC hA (hC.recvS hs) rfl hl.1 rfl (Nat.le_of_ble_eq_true rfl) dX1_tally_118 ⟨Nat.zero_le _, Nat.zero_le _⟩ ?_
                        clear hC; intro H locs hC
                        have e : fX1_tally σ p0 = (fX1_marksOfAll σ) := by exact ((if_neg hs0).trans ((if_neg hs1).trans ((if_neg hs2).trans ((if_neg hs3).trans ((if_neg hs4).trans ((if_neg hs5).trans ((if_neg hs6).trans ((if_neg hs7).trans ((if_neg hs8).trans ((if_neg hs9).trans ((if_pos hs10).trans rfl)))))))))))
                        exact c_iret hx hb hr hlocks hC dX1_tally_121 ⟨by rw [e], rfl⟩
                      · by_cases hs11 : p0 = 11
                        · refine lv_tableIn (off := 121) (tgt := 122) hx hb dX1_tally_1 (by rw [hs11]; decide) (by rw [hs11]; decide) (by rw [hs11]; rfl) (by decide) ?_
                          refine lv_aload_n hx hb dX1_tally_122 rfl (lv_at hl 0 rfl) ?_
                          refine cg_s hx hb hts h_iX1 hown hC hs 7 (by decide) h_f50 dX1_tally_123 ?_
                          have e : fX1_tally σ p0 = (σ 0 7) := by exact ((if_neg hs0).trans ((if_neg hs1).trans ((if_neg hs2).trans ((if_neg hs3).trans ((if_neg hs4).trans ((if_neg hs5).trans ((if_neg hs6).trans ((if_neg hs7).trans ((if_neg hs8).trans ((if_neg hs9).trans ((if_neg hs10).trans ((if_pos hs11).trans rfl))))))))))))
                          exact c_iret hx hb hr hlocks hC dX1_tally_126 ⟨by rw [e], rfl⟩
                        · refine lv_tableOut (tgt := 127) hx hb dX1_tally_1 (by have q0 := lv_neT (a := 0) hs0 (by decide); have q1 := lv_neT (a := 1) hs1 (by decide); have q2 := lv_neT (a := 2) hs2 (by decide); have q3 := lv_neT (a := 3) hs3 (by decide); have q4 := lv_neT (a := 4) hs4 (by decide); have q5 := lv_neT (a := 5) hs5 (by decide); have q6 := lv_neT (a := 6) hs6 (by decide); have q7 := lv_neT (a := 7) hs7 (by decide); have q8 := lv_neT (a := 8) hs8 (by decide); have q9 := lv_neT (a := 9) hs9 (by decide); have q10 := lv_neT (a := 10) hs10 (by decide); have q11 := lv_neT (a := 11) hs11 (by decide); omega) (by decide) ?_
                          refine lv_aload_n hx hb dX1_tally_127 rfl (lv_at hl 0 rfl) ?_
                          refine cg_s hx hb hts h_iX1 hown hC hs 8 (by decide) h_f53 dX1_tally_128 ?_
                          have e : fX1_tally σ p0 = (σ 0 8) := by exact ((if_neg hs0).trans ((if_neg hs1).trans ((if_neg hs2).trans ((if_neg hs3).trans ((if_neg hs4).trans ((if_neg hs5).trans ((if_neg hs6).trans ((if_neg hs7).trans ((if_neg hs8).trans ((if_neg hs9).trans ((if_neg hs10).trans ((if_neg hs11).trans rfl))))))))))))
                          exact c_iret hx hb hr hlocks hC dX1_tally_131 ⟨by rw [e], rfl⟩
abbrev rmX1_poundsOf : Room := { frames := 1, cells := 0, slots := 0, locals := 20 }
def fX1_poundsOf (σ : (Nat → Nat → Int32)) (j : Nat) : Int32 :=
    if (fX0_combs σ j) = 0 then
      (0 : Int32)
    else
      (mxI (0 : Int32) (((σ (j+5) 0) + (σ 2 ((σ (j+5) 5)).toNatClampNeg)) - ((2 : Int32) * (mxI (0 : Int32) ((σ 3 ((σ (j+5) 5)).toNatClampNeg) - (2 : Int32))))))
set_option maxHeartbeats 400000 in
set_option maxRecDepth 100000 in
theorem c_X1_poundsOf (l : Launch) (D : va_G) (cI cM : ClassId) (a : Nat → Nat) (s : Nat) (σ ρ : (Nat → Nat → Int32)) (hs : s < 2) (j : Nat) (hj : j < 12) : cMi l yX1_poundsOf wsX1_poundsOf rmX1_poundsOf D cI cM a [.ref (a (17*s+0)), .ref (a (17*s+(j+5)))] s σ ρ (fX1_poundsOf σ j) σ := by
  intro sz
  refine c_head (cc := cX1_poundsOf) (maxL := 3) (ret := (some .int)) (plainFor_of_name (by decide)) rfl (Nat.le_of_ble_eq_true rfl) ?_
  intro p e S m below meth c hx hb hr hml hown hts hlocks hnm hsz hA hC ls hl
  have hF : CallFix p m c cX1_poundsOf 3 S [.ref (a (17*s+0)), .ref (a (17*s+(j+5)))].toArray wsX1_poundsOf RX1 := ⟨hx, hb, hml, hown, hts⟩
  have h_f31 : (Cond.fieldLink RX1 31 "CombersSociety$Society" "combing" "[I").before [.ref (a (17*s+0)), .ref (a (17*s+(j+5)))].toArray S = true := hts _ (by decide +kernel)
  have h_iX1 : ∀ w ∈ u_ws RX1 TX1 14, w ∈ wsX1_poundsOf := by decide +kernel
  have h_f63 : (Cond.fieldLink RX1 63 "CombersSociety$Member" "pot" "I").before [.ref (a (17*s+0)), .ref (a (17*s+(j+5)))].toArray S = true := hts _ (by decide +kernel)
  have h_iX0 : ∀ w ∈ u_ws RX0 TX0 10, w ∈ wsX1_poundsOf := by decide +kernel
  have h_ml133 : (Cond.methodLink RX1 133 Lib.Math.max.name).before [.ref (a (17*s+0)), .ref (a (17*s+(j+5)))].toArray S = true := hts _ (by decide +kernel)
  have h_ms133 : (Cond.static Lib.Math.max.name).before [.ref (a (17*s+0)), .ref (a (17*s+(j+5)))].toArray S = true := hts _ (by decide +kernel)
  have h_mini : (Cond.initialized "java/lang/Math").before [.ref (a (17*s+0)), .ref (a (17*s+(j+5)))].toArray S = true := hts _ (by decide +kernel)
  have h_mc133 : (Cond.code Lib.Math.max.name Lib.Math.max.code 2 (some .int)).before [.ref (a (17*s+0)), .ref (a (17*s+(j+5)))].toArray S = true := hts _ (by decide +kernel)
  have h_f136 : (Cond.fieldLink RX1 136 "CombersSociety$Member" "skill" "I").before [.ref (a (17*s+0)), .ref (a (17*s+(j+5)))].toArray S = true := hts _ (by decide +kernel)
  have h_f28 : (Cond.fieldLink RX1 28 "CombersSociety$Society" "heats" "[I").before [.ref (a (17*s+0)), .ref (a (17*s+(j+5)))].toArray S = true := hts _ (by decide +kernel)
  have hl : lv_has ls 3 [(0, .ref (a (17*s+0))), (1, .ref (a (17*s+(j+5))))] := hl
  refine lv_aload_n hx hb dX1_poundsOf_0 rfl (lv_at hl 1 rfl) ?_
  refine c_iVp (n := 0) hF (c_X0_combs l D cI cM a s σ ρ hs j hj ) gX1_poundsOf_X0_combs rfl rfl rfl (by decide +kernel) ⟨Nat.le_of_ble_eq_true rfl, Nat.le_of_ble_eq_true rfl⟩ hC hA (hC.recvM hs hj) rfl hl.1 rfl (Nat.le_of_ble_eq_true rfl) dX1_poundsOf_1 ⟨Nat.zero_le _, Nat.zero_le _⟩ ?_
  clear hC; intro H locs hC
  refine lv_if_ne (tgt := 9) hx hb dX1_poundsOf_4 (by decide) (fun c1 => ?_) (fun c1 => ?_)
  · refine lv_iconst (v := 0) hx hb dX1_poundsOf_9 (by decide) ?_
    refine lv_aload_n hx hb dX1_poundsOf_10 rfl (lv_at hl 0 rfl) ?_
    refine cg_r hx hb hts h_iX1 hown hC hs 2 (by decide) h_f31 dX1_poundsOf_11 ?_
    refine lv_aload_n hx hb dX1_poundsOf_14 rfl (lv_at hl 1 rfl) ?_
    refine cg_m hx hb hts h_iX0 hown hC hs hj 5 (by decide) h_f63 dX1_poundsOf_15 ?_
    refine c_ild hx hb hC hs 3 (by decide) (by decide) (j := ((σ (j+5) 5)).toNatClampNeg) (combs_ix c1).1 (combs_ix c1).2 dX1_poundsOf_18 ?_
    refine lv_iconst (v := 2) hx hb dX1_poundsOf_19 (by decide) ?_
    refine lv_isub hx hb dX1_poundsOf_20 ?_
    refine c_mmax hx hb (hml.trans hl.1.symm) hown h_ml133 h_ms133 h_mini h_mc133 (Nat.le_of_ble_eq_true rfl) (Nat.le_of_ble_eq_true rfl) (Nat.zero_le _) (Nat.zero_le _) dX1_poundsOf_21 ?_
    refine lv_istore_n (lv' := [(2, .int (mxI (0 : Int32) ((σ 3 ((σ (j+5) 5)).toNatClampNeg) - (2 : Int32)))), (0, .ref (a (17*s+0))), (1, .ref (a (17*s+(j+5))))]) hx hb dX1_poundsOf_24 rfl hl (by decide) rfl ?_
    clear hl; intro ls hl
    refine lv_iconst (v := 0) hx hb dX1_poundsOf_25 (by decide) ?_
    refine lv_aload_n hx hb dX1_poundsOf_26 rfl (lv_at hl 2 rfl) ?_
    refine cg_m hx hb hts h_iX0 hown hC hs hj 0 (by decide) h_f136 dX1_poundsOf_27 ?_
    refine lv_aload_n hx hb dX1_poundsOf_30 rfl (lv_at hl 1 rfl) ?_
    refine cg_r hx hb hts h_iX1 hown hC hs 1 (by decide) h_f28 dX1_poundsOf_31 ?_
    refine lv_aload_n hx hb dX1_poundsOf_34 rfl (lv_at hl 2 rfl) ?_
    refine cg_m hx hb hts h_iX0 hown hC hs hj 5 (by decide) h_f63 dX1_poundsOf_35 ?_
    refine c_ild hx hb hC hs 2 (by decide) (by decide) (j := ((σ (j+5) 5)).toNatClampNeg) (combs_ix c1).1 (combs_ix c1).2 dX1_poundsOf_38 ?_
    refine lv_iadd hx hb dX1_poundsOf_39 ?_
    refine lv_iconst (v := 2) hx hb dX1_poundsOf_40 (by decide) ?_
    refine lv_iload_n hx hb dX1_poundsOf_41 rfl (lv_at hl 0 rfl) ?_
    refine lv_imul hx hb dX1_poundsOf_42 ?_
    refine lv_isub hx hb dX1_poundsOf_43 ?_
    refine c_mmax hx hb (hml.trans hl.1.symm) hown h_ml133 h_ms133 h_mini h_mc133 (Nat.le_of_ble_eq_true rfl) (Nat.le_of_ble_eq_true rfl) (Nat.zero_le _) (Nat.zero_le _) dX1_poundsOf_44 ?_
    have e : fX1_poundsOf σ j = (mxI (0 : Int32) (((σ (j+5) 0) + (σ 2 ((σ (j+5) 5)).toNatClampNeg)) - ((2 : Int32) * (mxI (0 : Int32) ((σ 3 ((σ (j+5) 5)).toNatClampNeg) - (2 : Int32)))))) := by exact ((if_neg c1).trans rfl)
    exact c_iret hx hb hr hlocks hC dX1_poundsOf_47 ⟨by rw [e], rfl⟩
  · refine lv_iconst (v := 0) hx hb dX1_poundsOf_7 (by decide) ?_
    have e : fX1_poundsOf σ j = (0 : Int32) := by exact ((if_pos c1).trans rfl)
    exact c_iret hx hb hr hlocks hC dX1_poundsOf_8 ⟨by rw [e], rfl⟩
abbrev rmX1_poundsOfPot : Room := { frames := 2, cells := 0, slots := 0, locals := 42 }
def fX1_poundsOfPot_b1 (σ : (Nat → Nat → Int32)) (p0 : Int32) (i1x : Nat) (v1_2 : Int32) : Int32 :=
    if (σ (i1x+5) 5) = p0 then
      (v1_2 + (fX1_poundsOf σ i1x))
    else
      v1_2
def fX1_poundsOfPot_k1 (v1_2 : Int32) : Int32 :=
    v1_2
def fX1_poundsOfPot (σ : (Nat → Nat → Int32)) (p0 : Int32) : Int32 :=
    (fun x => fX1_poundsOfPot_k1 x) (itR (fun i x => fX1_poundsOfPot_b1 σ p0 i x) 0 12 (0 : Int32))
set_option maxHeartbeats 400000 in
set_option maxRecDepth 100000 in
theorem c_X1_poundsOfPot (l : Launch) (D : va_G) (cI cM : ClassId) (a : Nat → Nat) (s : Nat) (σ ρ : (Nat → Nat → Int32)) (hs : s < 2) (p0 : Int32) : cMi l yX1_poundsOfPot wsX1_poundsOfPot rmX1_poundsOfPot D cI cM a [.ref (a (17*s+0)), .int p0] s σ ρ (fX1_poundsOfPot σ p0) σ := by
  intro sz
  refine c_head (cc := cX1_poundsOfPot) (maxL := 7) (ret := (some .int)) (plainFor_of_name (by decide)) rfl (Nat.le_of_ble_eq_true rfl) ?_
  intro p e S m below meth c hx hb hr hml hown hts hlocks hnm hsz hA hC ls hl
  have hF : CallFix p m c cX1_poundsOfPot 7 S [.ref (a (17*s+0)), .int p0].toArray wsX1_poundsOfPot RX1 := ⟨hx, hb, hml, hown, hts⟩
  have h_f36 : (Cond.fieldLink RX1 36 "CombersSociety$Society" "members" "[LCombersSociety$Member;").before [.ref (a (17*s+0)), .int p0].toArray S = true := hts _ (by decide +kernel)
  have h_iX1 : ∀ w ∈ u_ws RX1 TX1 14, w ∈ wsX1_poundsOfPot := by decide +kernel
  have h_f63 : (Cond.fieldLink RX1 63 "CombersSociety$Member" "pot" "I").before [.ref (a (17*s+0)), .int p0].toArray S = true := hts _ (by decide +kernel)
  have h_iX0 : ∀ w ∈ u_ws RX0 TX0 10, w ∈ wsX1_poundsOfPot := by decide +kernel
  have hl : lv_has ls 7 [(0, .ref (a (17*s+0))), (1, .int p0)] := hl
  refine lv_iconst (v := 0) hx hb dX1_poundsOfPot_0 (by decide) ?_
  refine lv_istore_n (lv' := [(2, .int (0 : Int32)), (0, .ref (a (17*s+0))), (1, .int p0)]) hx hb dX1_poundsOfPot_1 rfl hl (by decide) rfl ?_
  clear hl; intro ls hl
  refine lv_aload_n hx hb dX1_poundsOfPot_2 rfl (lv_at hl 1 rfl) ?_
  refine cg_r hx hb hts h_iX1 hown hC hs 3 (by decide) h_f36 dX1_poundsOfPot_3 ?_
  refine lv_astore_n (lv' := [(3, .ref (a (17*s+(3+1)))), (2, .int (0 : Int32)), (0, .ref (a (17*s+0))), (1, .int p0)]) hx hb dX1_poundsOfPot_6 rfl hl (by decide) rfl ?_
  clear hl; intro ls hl
  refine lv_aload_n hx hb dX1_poundsOfPot_7 rfl (lv_at hl 0 rfl) ?_
  refine c_mlen hx hb hC hs dX1_poundsOfPot_8 ?_
  refine lv_istore (lv' := [(4, .int (12 : Int32)), (3, .ref (a (17*s+(3+1)))), (2, .int (0 : Int32)), (0, .ref (a (17*s+0))), (1, .int p0)]) hx hb dX1_poundsOfPot_9 hl (by decide) rfl ?_
  clear hl; intro ls hl
  refine lv_iconst (v := 0) hx hb dX1_poundsOfPot_11 (by decide) ?_
  refine lv_istore (lv' := [(5, .int (0 : Int32)), (4, .int (12 : Int32)), (3, .ref (a (17*s+(3+1)))), (2, .int (0 : Int32)), (0, .ref (a (17*s+0))), (1, .int p0)]) hx hb dX1_poundsOfPot_12 hl (by decide) rfl ?_
  clear hl; intro ls hl
  have loop1 : ∀ (n1x i1x : Nat) (v1_2 : Int32), i1x + n1x = 12 → itR (fun i x => fX1_poundsOfPot_b1 σ p0 i x) i1x n1x v1_2 = itR (fun i x => fX1_poundsOfPot_b1 σ p0 i x) 0 12 (0 : Int32) → ∀ (H : Heap) (locs : List Loc), cB D cI cM a S (cA a sz) S.heap H locs s σ ρ → ∀ ls : Array Slot, lv_has ls 7 [(5, .int (nI i1x)), (4, .int (12 : Int32)), (3, .ref (a (17*s+(3+1)))), (2, .int v1_2), (0, .ref (a (17*s+0))), (1, .int p0)] → W p l e (headSpec wsX1_poundsOfPot rmX1_poundsOfPot).room S m [.ref (a (17*s+0)), .int p0].toArray below meth c H locs 0 0 (MQ below (va_Qi (fun r' (_ : Unit) => r' = fX1_poundsOfPot σ p0) (cPost D cI cM a s σ ρ) (cA a sz)) [.ref (a (17*s+0)), .int p0].toArray S 0 0 (cA a sz)) (F0 m 14 ls []) := by
    clear hC hl
    intro n1x
    induction n1x with
    | zero =>
      intro i1x v1_2 hin1 hX1 H locs hC ls hl
      obtain rfl : 12 = i1x := by omega
      refine lv_iload hx hb dX1_poundsOfPot_14 (lv_at hl 0 rfl) ?_
      refine lv_iload hx hb dX1_poundsOfPot_16 (lv_at hl 1 rfl) ?_
      refine lv_icmp_ge (tgt := 51) hx hb dX1_poundsOfPot_18 (by decide) (fun c3 => ?_) (fun c3 => absurd (by decide) c3)
      refine lv_iload_n hx hb dX1_poundsOfPot_51 rfl (lv_at hl 3 rfl) ?_
      have e : fX1_poundsOfPot σ p0 = v1_2 := by exact ((congrArg (fun x => fX1_poundsOfPot_k1 x) hX1.symm).trans rfl)
      exact c_iret hx hb hr hlocks hC dX1_poundsOfPot_52 ⟨by rw [e], rfl⟩
    | succ n1x ih1 =>
      intro i1x v1_2 hin1 hX1 H locs hC ls hl
      refine lv_iload hx hb dX1_poundsOfPot_14 (lv_at hl 0 rfl) ?_
      refine lv_iload hx hb dX1_poundsOfPot_16 (lv_at hl 1 rfl) ?_
      refine lv_icmp_ge (tgt := 51) hx hb dX1_poundsOfPot_18 (by decide) (fun c1 => absurd c1 (show ¬ (12 : Int32) ≤ nI i1x from (nI_ge (a := i1x) (b := 12) (by omega) (by decide) : ¬ nI 12 ≤ nI i1x))) (fun c1 => ?_)
      refine lv_aload_n hx hb dX1_poundsOfPot_21 rfl (lv_at hl 2 rfl) ?_
      refine lv_iload hx hb dX1_poundsOfPot_22 (lv_at hl 0 rfl) ?_
      refine c_mld hx hb hC hs (j := i1x) rfl (show _ < 12 by omega) dX1_poundsOfPot_24 ?_
      refine lv_astore (lv' := [(6, .ref (a (17*s+(i1x+5)))), (5, .int (nI i1x)), (4, .int (12 : Int32)), (3, .ref (a (17*s+(3+1)))), (2, .int v1_2), (0, .ref (a (17*s+0))), (1, .int p0)]) hx hb dX1_poundsOfPot_25 hl (by decide) rfl ?_
      clear hl; intro ls hl
      refine lv_aload hx hb dX1_poundsOfPot_27 (lv_at hl 0 rfl) ?_
      refine cg_m hx hb hts h_iX0 hown hC hs (show _ < 12 by omega) 5 (by decide) h_f63 dX1_poundsOfPot_29 ?_
      refine lv_iload_n hx hb dX1_poundsOfPot_32 rfl (lv_at hl 6 rfl) ?_
      refine lv_icmp_ne (tgt := 45) hx hb dX1_poundsOfPot_33 (by decide) (fun c2 => ?_) (fun c2 => ?_)
      · refine lv_iinc (v := (nI (i1x + 1))) (lv' := [(5, .int (nI (i1x + 1))), (6, .ref (a (17*s+(i1x+5)))), (4, .int (12 : Int32)), (3, .ref (a (17*s+(3+1)))), (2, .int v1_2), (0, .ref (a (17*s+0))), (1, .int p0)]) hx hb dX1_poundsOfPot_45 hl (k := 1) rfl (nI_1 i1x) (by decide) rfl ?_
        clear hl; intro ls hl
        refine lv_goto (tgt := 14) hx hb dX1_poundsOfPot_48 (by decide) ?_
        have e : fX1_poundsOfPot_b1 σ p0 i1x v1_2 = v1_2 := by exact ((if_neg c2).trans rfl)
        exact ih1 (i1x + 1) v1_2 (by omega) (by rw [← e]; exact hX1) _ _ hC ls (lv_sub hl [0, 2, 3, 4, 5, 6] rfl)
      · refine lv_iload_n hx hb dX1_poundsOfPot_36 rfl (lv_at hl 4 rfl) ?_
        refine lv_aload_n hx hb dX1_poundsOfPot_37 rfl (lv_at hl 5 rfl) ?_
        refine lv_aload hx hb dX1_poundsOfPot_38 (lv_at hl 0 rfl) ?_
        refine c_iVp (n := 1) hF (c_X1_poundsOf l D cI cM a s σ ρ hs i1x (show _ < 12 by omega) ) gX1_poundsOfPot_X1_poundsOf rfl rfl rfl (by decide +kernel) ⟨Nat.le_of_ble_eq_true rfl, Nat.le_of_ble_eq_true rfl⟩ hC hA (hC.recvS hs) rfl hl.1 rfl (Nat.le_of_ble_eq_true rfl) dX1_poundsOfPot_40 ⟨Nat.zero_le _, Nat.zero_le _⟩ ?_
        clear hC; intro H locs hC
        refine lv_iadd hx hb dX1_poundsOfPot_43 ?_
        refine lv_istore_n (lv' := [(2, .int (v1_2 + (fX1_poundsOf σ i1x))), (6, .ref (a (17*s+(i1x+5)))), (5, .int (nI i1x)), (4, .int (12 : Int32)), (3, .ref (a (17*s+(3+1)))), (0, .ref (a (17*s+0))), (1, .int p0)]) hx hb dX1_poundsOfPot_44 rfl hl (by decide) rfl ?_
        clear hl; intro ls hl
        refine lv_iinc (v := (nI (i1x + 1))) (lv' := [(5, .int (nI (i1x + 1))), (2, .int (v1_2 + (fX1_poundsOf σ i1x))), (6, .ref (a (17*s+(i1x+5)))), (4, .int (12 : Int32)), (3, .ref (a (17*s+(3+1)))), (0, .ref (a (17*s+0))), (1, .int p0)]) hx hb dX1_poundsOfPot_45 hl (k := 2) rfl (nI_1 i1x) (by decide) rfl ?_
        clear hl; intro ls hl
        refine lv_goto (tgt := 14) hx hb dX1_poundsOfPot_48 (by decide) ?_
        have e : fX1_poundsOfPot_b1 σ p0 i1x v1_2 = (v1_2 + (fX1_poundsOf σ i1x)) := by exact ((if_pos c2).trans rfl)
        exact ih1 (i1x + 1) (v1_2 + (fX1_poundsOf σ i1x)) (by omega) (by rw [← e]; exact hX1) _ _ hC ls (lv_sub hl [0, 3, 4, 1, 5, 6] rfl)
  exact loop1 12 0 (0 : Int32) (by omega) rfl _ _ hC ls (lv_sub hl [0, 1, 2, 3, 4, 5] rfl)
