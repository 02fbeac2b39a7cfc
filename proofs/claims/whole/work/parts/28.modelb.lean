abbrev rmX4_combed : Room := { frames := 4, cells := 0, slots := 0, locals := 88 }
def fX4_combed_b1 (p0 : Int32) (τ2 : (Nat → Nat → Int32)) (i1x : Nat) (v1_2 : Int32) : Int32 :=
    if (fX3_combs τ2 (nI i1x)) = 0 then
      (v1_2 + (0 : Int32))
    else
      if (fX3_of τ2 (nI i1x) (5 : Int32)) = p0 then
        (v1_2 + (fX3_pounds τ2 (nI i1x)))
      else
        (v1_2 + (0 : Int32))
def fX4_combed_k1 (τ2 : (Nat → Nat → Int32)) (v1_2 : Int32) : Int32 × (Nat → Nat → Int32) :=
    (v1_2, τ2)
def fX4_combed (τ : (Nat → Nat → Int32)) (ρ : (Nat → Nat → Int32)) (p0 : Int32) : Int32 × (Nat → Nat → Int32) :=
    let τ1 : (Nat → Nat → Int32) := (fX3_become τ ρ)
    let τ2 : (Nat → Nat → Int32) := (fX3_fire τ1)
    fX4_combed_k1 τ2 (itR (fun i x => fX4_combed_b1 p0 τ2 i x) 0 (wfn τ2) (0 : Int32))
set_option maxHeartbeats 400000 in
set_option maxRecDepth 100000 in
theorem c_X4_combed (l : Launch) (D : va_G) (cI : ClassId) (b : Nat → Nat) (θ τ ρ : (Nat → Nat → Int32)) (p0 : Int32) (N : Nat) (hW : wf ρ N) : rMi l yX4_combed wsX4_combed rmX4_combed D cI b [.ref (b 0), .int p0] 1 θ τ ρ (fX4_combed τ ρ p0).1 θ (fX4_combed τ ρ p0).2 := by
  intro sz
  refine r_head (cc := cX4_combed) (maxL := 4) (ret := (some .int)) (plainFor_of_name (by decide)) rfl (Nat.le_of_ble_eq_true rfl) ?_
  intro p e S m below meth c hx hb hr hml hown hts hlocks hnm hsz hA hC ls hl
  have hF : CallFix p m c cX4_combed 4 S [.ref (b 0), .int p0].toArray wsX4_combed RX4 := ⟨hx, hb, hml, hown, hts⟩
  have h_f26 : (Cond.fieldLink RX4 26 "CombersSocietyModel" "ahead" "LCombersSocietyModel$State;").before [.ref (b 0), .int p0].toArray S = true := hts _ (by decide +kernel)
  have h_iX4 : ∀ w ∈ u_ws RX4 TX4 5, w ∈ wsX4_combed := by decide +kernel
  have h_f22 : (Cond.fieldLink RX4 22 "CombersSocietyModel" "s" "LCombersSocietyModel$State;").before [.ref (b 0), .int p0].toArray S = true := hts _ (by decide +kernel)
  have h_f32 : (nw32).before [.ref (b 0), .int p0].toArray S = true := va_Nw.use rfl hC.2.2.2.2.nw32
  have h_iX3 : ∀ w ∈ u_ws RX3 TX3 12, w ∈ wsX4_combed := by decide +kernel
  have hl : lv_has ls 4 [(0, .ref (b 0)), (1, .int p0)] := hl
  refine lv_aload_n hx hb dX4_combed_0 rfl (lv_at hl 0 rfl) ?_
  refine rg_w hx hb hts h_iX4 hown hC 1 (by decide) h_f26 dX4_combed_1 ?_
  refine lv_aload_n hx hb dX4_combed_4 rfl (lv_at hl 0 rfl) ?_
  refine rg_w hx hb hts h_iX4 hown hC 0 (by decide) h_f22 dX4_combed_5 ?_
  refine r_iVv (n := 1) hF (c_X3_become l D cI b 1 θ τ ρ (by decide) ) gX4_combed_X3_become rfl rfl rfl (by decide +kernel) ⟨Nat.le_of_ble_eq_true rfl, Nat.le_of_ble_eq_true rfl⟩ hC hA (hC.recvS (by decide)) rfl hl.1 rfl (Nat.le_of_ble_eq_true rfl) dX4_combed_8 ⟨Nat.zero_le _, Nat.zero_le _⟩ ?_
  clear hC; intro H locs τ1 eτ1 hC
  have hwτ1 : wf τ1 N := by rw [← eτ1]; exact wf_X3_become hW
  refine lv_aload_n hx hb dX4_combed_11 rfl (lv_at hl 0 rfl) ?_
  refine rg_w hx hb hts h_iX4 hown hC 1 (by decide) h_f26 dX4_combed_12 ?_
  refine r_iVv (n := 0) hF (c_X3_fire l D cI b 1 θ τ1 ρ (by decide)  N hwτ1) gX4_combed_X3_fire rfl rfl rfl (by decide +kernel) ⟨Nat.le_of_ble_eq_true rfl, Nat.le_of_ble_eq_true rfl⟩ hC hA (hC.recvS (by decide)) rfl hl.1 rfl (Nat.le_of_ble_eq_true rfl) dX4_combed_15 ⟨Nat.zero_le _, Nat.zero_le _⟩ ?_
  clear hC; intro H locs τ2 eτ2 hC
  have hwτ2 : wf τ2 N := by rw [← eτ2]; exact wf_X3_fire hwτ1 
  refine lv_iconst (v := 0) hx hb dX4_combed_18 (by decide) ?_
  refine lv_istore_n (lv' := [(2, .int (0 : Int32)), (0, .ref (b 0)), (1, .int p0)]) hx hb dX4_combed_19 rfl hl (by decide) rfl ?_
  clear hl; intro ls hl
  refine lv_iconst (v := 0) hx hb dX4_combed_20 (by decide) ?_
  refine lv_istore_n (lv' := [(3, .int (0 : Int32)), (2, .int (0 : Int32)), (0, .ref (b 0)), (1, .int p0)]) hx hb dX4_combed_21 rfl hl (by decide) rfl ?_
  clear hl; intro ls hl
  have loop1 : ∀ (n1x i1x : Nat) (v1_2 : Int32), i1x + n1x = N → itR (fun i x => fX4_combed_b1 p0 τ2 i x) i1x n1x v1_2 = itR (fun i x => fX4_combed_b1 p0 τ2 i x) 0 (wfn τ2) (0 : Int32) → ∀ (H : Heap) (locs : List Loc), rB D cI b S (rA b sz) S.heap H locs 1 θ τ2 ρ → ∀ ls : Array Slot, lv_has ls 4 [(3, .int (nI i1x)), (2, .int v1_2), (0, .ref (b 0)), (1, .int p0)] → W p l e (headSpec wsX4_combed rmX4_combed).room S m [.ref (b 0), .int p0].toArray below meth c H locs 0 0 (MQ below (va_Qi (fun r' (_ : Unit) => r' = (fX4_combed τ ρ p0).1) (rPost D cI b 1 θ (fX4_combed τ ρ p0).2 ρ) (rA b sz)) [.ref (b 0), .int p0].toArray S 0 0 (rA b sz)) (F0 m 22 ls []) := by
    clear hC hl
    intro n1x
    induction n1x with
    | zero =>
      intro i1x v1_2 hin1 hX1 H locs hC ls hl
      obtain rfl : N = i1x := by omega
      have q1 : fX4_combed τ ρ p0 = fX4_combed_k1 τ2 v1_2 := by subst eτ1 eτ2; unfold fX4_combed; exact ((congrArg (fX4_combed_k1 _) hX1.symm).trans rfl)
      refine lv_iload_n hx hb dX4_combed_22 rfl (lv_at hl 0 rfl) ?_
      refine lv_aload_n hx hb dX4_combed_23 rfl (lv_at hl 2 rfl) ?_
      refine rg_w hx hb hts h_iX4 hown hC 1 (by decide) h_f26 dX4_combed_24 ?_
      refine rg_sN hx hb hts h_iX3 hown hC (by decide) 1 (by decide) h_f32 dX4_combed_27 ?_
      refine lv_icmp_ge (tgt := 78) hx hb dX4_combed_30 (by decide) (fun c6 => ?_) (fun c6 => absurd (wf_ex hwτ2) c6)
      refine lv_iload_n hx hb dX4_combed_78 rfl (lv_at hl 1 rfl) ?_
      have e0 : fX4_combed_k1 τ2 v1_2 = (v1_2, τ2) := by subst eτ1 eτ2; exact rfl
      have e : fX4_combed τ ρ p0 = (v1_2, τ2) := (q1.trans e0)
      exact r_iret hx hb hr hlocks hC dX4_combed_79 ⟨by rw [e], rfl, by rw [e]⟩
    | succ n1x ih1 =>
      intro i1x v1_2 hin1 hX1 H locs hC ls hl
      have hN12 := wf_12 hwτ2
      refine lv_iload_n hx hb dX4_combed_22 rfl (lv_at hl 0 rfl) ?_
      refine lv_aload_n hx hb dX4_combed_23 rfl (lv_at hl 2 rfl) ?_
      refine rg_w hx hb hts h_iX4 hown hC 1 (by decide) h_f26 dX4_combed_24 ?_
      refine rg_sN hx hb hts h_iX3 hown hC (by decide) 1 (by decide) h_f32 dX4_combed_27 ?_
      refine lv_icmp_ge (tgt := 78) hx hb dX4_combed_30 (by decide) (fun c3 => absurd c3 (wf_in hwτ2 (by omega))) (fun c3 => ?_)
      refine lv_iload_n hx hb dX4_combed_33 rfl (lv_at hl 1 rfl) ?_
      refine lv_aload_n hx hb dX4_combed_34 rfl (lv_at hl 2 rfl) ?_
      refine rg_w hx hb hts h_iX4 hown hC 1 (by decide) h_f26 dX4_combed_35 ?_
      refine lv_iload_n hx hb dX4_combed_38 rfl (lv_at hl 0 rfl) ?_
      refine r_iVp (n := 1) hF (c_X3_combs l D cI b 1 θ τ2 ρ (by decide) (nI i1x) ⟨i1x, by omega, rfl⟩) gX4_combed_X3_combs rfl rfl rfl (by decide +kernel) ⟨Nat.le_of_ble_eq_true rfl, Nat.le_of_ble_eq_true rfl⟩ hC hA (hC.recvS (by decide)) rfl hl.1 rfl (Nat.le_of_ble_eq_true rfl) dX4_combed_39 ⟨Nat.zero_le _, Nat.zero_le _⟩ ?_
      clear hC; intro H locs hC
      refine lv_if_eq (tgt := 69) hx hb dX4_combed_42 (by decide) (fun c4 => ?_) (fun c4 => ?_)
      · refine lv_iconst (v := 0) hx hb dX4_combed_69 (by decide) ?_
        refine lv_iadd hx hb dX4_combed_70 ?_
        refine lv_istore_n (lv' := [(2, .int (v1_2 + (0 : Int32))), (3, .int (nI i1x)), (0, .ref (b 0)), (1, .int p0)]) hx hb dX4_combed_71 rfl hl (by decide) rfl ?_
        clear hl; intro ls hl
        refine lv_iinc (v := (nI (i1x + 1))) (lv' := [(3, .int (nI (i1x + 1))), (2, .int (v1_2 + (0 : Int32))), (0, .ref (b 0)), (1, .int p0)]) hx hb dX4_combed_72 hl (k := 1) rfl (nI_1 i1x) (by decide) rfl ?_
        clear hl; intro ls hl
        refine lv_goto (tgt := 22) hx hb dX4_combed_75 (by decide) ?_
        have e : fX4_combed_b1 p0 τ2 i1x v1_2 = (v1_2 + (0 : Int32)) := by unfold fX4_combed_b1; exact ((if_pos c4).trans rfl)
        exact ih1 (i1x + 1) (v1_2 + (0 : Int32)) (by omega) (by rw [← e]; exact hX1) _ _ hC ls (lv_sub hl [0, 1, 2, 3] rfl)
      · refine lv_aload_n hx hb dX4_combed_45 rfl (lv_at hl 2 rfl) ?_
        refine rg_w hx hb hts h_iX4 hown hC 1 (by decide) h_f26 dX4_combed_46 ?_
        refine lv_iload_n hx hb dX4_combed_49 rfl (lv_at hl 0 rfl) ?_
        refine lv_iconst (v := 5) hx hb dX4_combed_50 (by decide) ?_
        refine r_iVp (n := 2) hF (c_X3_of l D cI b 1 θ τ2 ρ (by decide) (nI i1x) (5 : Int32) ⟨i1x, by omega, rfl⟩ ⟨5, by decide, rfl⟩) gX4_combed_X3_of rfl rfl rfl (by decide +kernel) ⟨Nat.le_of_ble_eq_true rfl, Nat.le_of_ble_eq_true rfl⟩ hC hA (hC.recvS (by decide)) rfl hl.1 rfl (Nat.le_of_ble_eq_true rfl) dX4_combed_51 ⟨Nat.zero_le _, Nat.zero_le _⟩ ?_
        clear hC; intro H locs hC
        refine lv_iload_n hx hb dX4_combed_54 rfl (lv_at hl 3 rfl) ?_
        refine lv_icmp_ne (tgt := 69) hx hb dX4_combed_55 (by decide) (fun c5 => ?_) (fun c5 => ?_)
        · refine lv_iconst (v := 0) hx hb dX4_combed_69 (by decide) ?_
          refine lv_iadd hx hb dX4_combed_70 ?_
          refine lv_istore_n (lv' := [(2, .int (v1_2 + (0 : Int32))), (3, .int (nI i1x)), (0, .ref (b 0)), (1, .int p0)]) hx hb dX4_combed_71 rfl hl (by decide) rfl ?_
          clear hl; intro ls hl
          refine lv_iinc (v := (nI (i1x + 1))) (lv' := [(3, .int (nI (i1x + 1))), (2, .int (v1_2 + (0 : Int32))), (0, .ref (b 0)), (1, .int p0)]) hx hb dX4_combed_72 hl (k := 1) rfl (nI_1 i1x) (by decide) rfl ?_
          clear hl; intro ls hl
          refine lv_goto (tgt := 22) hx hb dX4_combed_75 (by decide) ?_
          have e : fX4_combed_b1 p0 τ2 i1x v1_2 = (v1_2 + (0 : Int32)) := by unfold fX4_combed_b1; exact ((if_neg c4).trans ((if_neg c5).trans rfl))
          exact ih1 (i1x + 1) (v1_2 + (0 : Int32)) (by omega) (by rw [← e]; exact hX1) _ _ hC ls (lv_sub hl [0, 1, 2, 3] rfl)
        · refine lv_aload_n hx hb dX4_combed_58 rfl (lv_at hl 2 rfl) ?_
          refine rg_w hx hb hts h_iX4 hown hC 1 (by decide) h_f26 dX4_combed_59 ?_
          refine lv_iload_n hx hb dX4_combed_62 rfl (lv_at hl 0 rfl) ?_
          refine r_iVp (n := 1) hF (c_X3_pounds l D cI b 1 θ τ2 ρ (by decide) (nI i1x) ⟨i1x, by omega, rfl⟩ N hwτ2 (combs_at hwτ2 (by omega) c4)) gX4_combed_X3_pounds rfl rfl rfl (by decide +kernel) ⟨Nat.le_of_ble_eq_true rfl, Nat.le_of_ble_eq_true rfl⟩ hC hA (hC.recvS (by decide)) rfl hl.1 rfl (Nat.le_of_ble_eq_true rfl) dX4_combed_63 ⟨Nat.zero_le _, Nat.zero_le _⟩ ?_
          clear hC; intro H locs hC
          refine lv_goto (tgt := 70) hx hb dX4_combed_66 (by decide) ?_
          refine lv_iadd hx hb dX4_combed_70 ?_
          refine lv_istore_n (lv' := [(2, .int (v1_2 + (fX3_pounds τ2 (nI i1x)))), (3, .int (nI i1x)), (0, .ref (b 0)), (1, .int p0)]) hx hb dX4_combed_71 rfl hl (by decide) rfl ?_
          clear hl; intro ls hl
          refine lv_iinc (v := (nI (i1x + 1))) (lv' := [(3, .int (nI (i1x + 1))), (2, .int (v1_2 + (fX3_pounds τ2 (nI i1x)))), (0, .ref (b 0)), (1, .int p0)]) hx hb dX4_combed_72 hl (k := 1) rfl (nI_1 i1x) (by decide) rfl ?_
          clear hl; intro ls hl
          refine lv_goto (tgt := 22) hx hb dX4_combed_75 (by decide) ?_
          have e : fX4_combed_b1 p0 τ2 i1x v1_2 = (v1_2 + (fX3_pounds τ2 (nI i1x))) := by unfold fX4_combed_b1; exact ((if_neg c4).trans ((if_pos c5).trans rfl))
          exact ih1 (i1x + 1) (v1_2 + (fX3_pounds τ2 (nI i1x))) (by omega) (by rw [← e]; exact hX1) _ _ hC ls (lv_sub hl [0, 1, 2, 3] rfl)
  exact loop1 N 0 (0 : Int32) (by omega) (by rw [wfn_eq hwτ2]) _ _ hC ls (lv_sub hl [0, 1, 2, 3] rfl)
abbrev rmX4_potTold : Room := { frames := 5, cells := 0, slots := 0, locals := 111 }
def fX4_potTold (τ : (Nat → Nat → Int32)) (ρ : (Nat → Nat → Int32)) (p0 : Int32) (p1 : Int32) : Int32 × (Nat → Nat → Int32) :=
    if p1 = 0 then
      ((ρ 1 (p0).toNatClampNeg), τ)
    else
      if p1 = (1 : Int32) then
        ((fX3_there ρ p0), τ)
      else
        if p1 = (2 : Int32) then
          ((fX3_combers ρ p0), τ)
        else
          let τ4 : (Nat → Nat → Int32) := (fX4_combed τ ρ p0).2
          ((fX4_combed τ ρ p0).1, τ4)
set_option maxHeartbeats 400000 in
set_option maxRecDepth 100000 in
theorem c_X4_potTold (l : Launch) (D : va_G) (cI : ClassId) (b : Nat → Nat) (θ τ ρ : (Nat → Nat → Int32)) (p0 : Int32) (p1 : Int32) (hx0 : Ix p0 3) (N : Nat) (hW : wf ρ N) : rMi l yX4_potTold wsX4_potTold rmX4_potTold D cI b [.ref (b 0), .int p0, .int p1] 1 θ τ ρ (fX4_potTold τ ρ p0 p1).1 θ (fX4_potTold τ ρ p0 p1).2 := by
  intro sz
  refine r_head (cc := cX4_potTold) (maxL := 3) (ret := (some .int)) (plainFor_of_name (by decide)) rfl (Nat.le_of_ble_eq_true rfl) ?_
  intro p e S m below meth c hx hb hr hml hown hts hlocks hnm hsz hA hC ls hl
  have hF : CallFix p m c cX4_potTold 3 S [.ref (b 0), .int p0, .int p1].toArray wsX4_potTold RX4 := ⟨hx, hb, hml, hown, hts⟩
  have h_f22 : (Cond.fieldLink RX4 22 "CombersSocietyModel" "s" "LCombersSocietyModel$State;").before [.ref (b 0), .int p0, .int p1].toArray S = true := hts _ (by decide +kernel)
  have h_iX4 : ∀ w ∈ u_ws RX4 TX4 5, w ∈ wsX4_potTold := by decide +kernel
  have h_f101 : (nw101).before [.ref (b 0), .int p0, .int p1].toArray S = true := va_Nw.use rfl hC.2.2.2.2.nw101
  have h_iX3 : ∀ w ∈ u_ws RX3 TX3 12, w ∈ wsX4_potTold := by decide +kernel
  have hl : lv_has ls 3 [(0, .ref (b 0)), (1, .int p0), (2, .int p1)] := hl
  refine lv_iload_n hx hb dX4_potTold_0 rfl (lv_at hl 2 rfl) ?_
  refine lv_if_ne (tgt := 16) hx hb dX4_potTold_1 (by decide) (fun c1 => ?_) (fun c1 => ?_)
  · refine lv_iload_n hx hb dX4_potTold_16 rfl (lv_at hl 2 rfl) ?_
    refine lv_iconst (v := 1) hx hb dX4_potTold_17 (by decide) ?_
    refine lv_icmp_ne (tgt := 32) hx hb dX4_potTold_18 (by decide) (fun c2 => ?_) (fun c2 => ?_)
    · refine lv_iload_n hx hb dX4_potTold_32 rfl (lv_at hl 2 rfl) ?_
      refine lv_iconst (v := 2) hx hb dX4_potTold_33 (by decide) ?_
      refine lv_icmp_ne (tgt := 48) hx hb dX4_potTold_34 (by decide) (fun c3 => ?_) (fun c3 => ?_)
      · refine lv_aload_n hx hb dX4_potTold_48 rfl (lv_at hl 0 rfl) ?_
        refine lv_iload_n hx hb dX4_potTold_49 rfl (lv_at hl 1 rfl) ?_
        refine r_iVi (n := 1) hF (c_X4_combed l D cI b θ τ ρ p0 N hW) gX4_potTold_X4_combed rfl rfl rfl (by decide +kernel) ⟨Nat.le_of_ble_eq_true rfl, Nat.le_of_ble_eq_true rfl⟩ hC hA hC.recvM rfl hl.1 rfl (Nat.le_of_ble_eq_true rfl) dX4_potTold_50 ⟨Nat.zero_le _, Nat.zero_le _⟩ ?_
        clear hC; intro H locs τ4 eτ4 hC
        have e : fX4_potTold τ ρ p0 p1 = ((fX4_combed τ ρ p0).1, τ4) := by subst eτ4; unfold fX4_potTold; exact ((if_neg c1).trans ((if_neg c2).trans ((if_neg c3).trans rfl)))
        exact r_iret hx hb hr hlocks hC dX4_potTold_53 ⟨by rw [e], rfl, by rw [e]⟩
      · refine lv_aload_n hx hb dX4_potTold_37 rfl (lv_at hl 0 rfl) ?_
        refine rg_w hx hb hts h_iX4 hown hC 0 (by decide) h_f22 dX4_potTold_38 ?_
        refine lv_iload_n hx hb dX4_potTold_41 rfl (lv_at hl 1 rfl) ?_
        refine r_iVp (n := 1) hF (c_X3_combers l D cI b 0 θ ρ τ (by decide) p0 N hW) gX4_potTold_X3_combers rfl rfl rfl (by decide +kernel) ⟨Nat.le_of_ble_eq_true rfl, Nat.le_of_ble_eq_true rfl⟩ (hC.sw (by decide)) hA ((hC.sw (by decide)).recvS (by decide)) rfl hl.1 rfl (Nat.le_of_ble_eq_true rfl) dX4_potTold_42 ⟨Nat.zero_le _, Nat.zero_le _⟩ ?_
        clear hC; intro H locs hC
        have hC := hC.sw (by decide)
        refine lv_goto (tgt := 53) hx hb dX4_potTold_45 (by decide) ?_
        have e : fX4_potTold τ ρ p0 p1 = ((fX3_combers ρ p0), τ) := by unfold fX4_potTold; exact ((if_neg c1).trans ((if_neg c2).trans ((if_pos c3).trans rfl)))
        exact r_iret hx hb hr hlocks hC dX4_potTold_53 ⟨by rw [e], rfl, by rw [e]⟩
    · refine lv_aload_n hx hb dX4_potTold_21 rfl (lv_at hl 0 rfl) ?_
      refine rg_w hx hb hts h_iX4 hown hC 0 (by decide) h_f22 dX4_potTold_22 ?_
      refine lv_iload_n hx hb dX4_potTold_25 rfl (lv_at hl 1 rfl) ?_
      refine r_iVp (n := 1) hF (c_X3_there l D cI b 0 θ ρ τ (by decide) p0 N hW) gX4_potTold_X3_there rfl rfl rfl (by decide +kernel) ⟨Nat.le_of_ble_eq_true rfl, Nat.le_of_ble_eq_true rfl⟩ (hC.sw (by decide)) hA ((hC.sw (by decide)).recvS (by decide)) rfl hl.1 rfl (Nat.le_of_ble_eq_true rfl) dX4_potTold_26 ⟨Nat.zero_le _, Nat.zero_le _⟩ ?_
      clear hC; intro H locs hC
      have hC := hC.sw (by decide)
      refine lv_goto (tgt := 53) hx hb dX4_potTold_29 (by decide) ?_
      have e : fX4_potTold τ ρ p0 p1 = ((fX3_there ρ p0), τ) := by unfold fX4_potTold; exact ((if_neg c1).trans ((if_pos c2).trans rfl))
      exact r_iret hx hb hr hlocks hC dX4_potTold_53 ⟨by rw [e], rfl, by rw [e]⟩
  · refine lv_aload_n hx hb dX4_potTold_4 rfl (lv_at hl 0 rfl) ?_
    refine rg_w hx hb hts h_iX4 hown hC 0 (by decide) h_f22 dX4_potTold_5 ?_
    refine rg_rN hx hb hts h_iX3 hown (hC.sw (by decide)) (by decide) 0 (by decide) h_f101 dX4_potTold_8 ?_
    refine lv_iload_n hx hb dX4_potTold_11 rfl (lv_at hl 1 rfl) ?_
    refine r_ild hx hb (hC.sw (by decide)) (by decide) 1 (by decide) (by decide) (j := (p0).toNatClampNeg) (ixt hx0 (by decide)).1 (ixt hx0 (by decide)).2 dX4_potTold_12 ?_
    refine lv_goto (tgt := 53) hx hb dX4_potTold_13 (by decide) ?_
    have e : fX4_potTold τ ρ p0 p1 = ((ρ 1 (p0).toNatClampNeg), τ) := by unfold fX4_potTold; exact ((if_pos c1).trans rfl)
    exact r_iret hx hb hr hlocks hC dX4_potTold_53 ⟨by rw [e], rfl, by rw [e]⟩
abbrev rmX4_pot : Room := { frames := 6, cells := 0, slots := 0, locals := 133 }
def fX4_pot (θ : (Nat → Nat → Int32)) (τ : (Nat → Nat → Int32)) (ρ : (Nat → Nat → Int32)) (p0 : Int32) (p1 : Int32) : Int32 × (Nat → Nat → Int32) × (Nat → Nat → Int32) :=
    let θ1 : (Nat → Nat → Int32) := up2 θ 0 0 (0 : Int32)
    if (fX4_isIn p0 (0 : Int32) (2 : Int32)) = 0 then
      let θ3 : (Nat → Nat → Int32) := (fX4_no θ1 (1 : Int32)).2
      ((fX4_no θ1 (1 : Int32)).1, θ3, τ)
    else
      if (fX4_isIn p1 (0 : Int32) (3 : Int32)) = 0 then
        let θ5 : (Nat → Nat → Int32) := (fX4_no θ1 (1 : Int32)).2
        ((fX4_no θ1 (1 : Int32)).1, θ5, τ)
      else
        let τ6 : (Nat → Nat → Int32) := (fX4_potTold τ ρ p0 p1).2
        ((fX4_potTold τ ρ p0 p1).1, θ1, τ6)
set_option maxHeartbeats 400000 in
set_option maxRecDepth 100000 in
theorem c_X4_pot (l : Launch) (D : va_G) (cI : ClassId) (b : Nat → Nat) (θ τ ρ : (Nat → Nat → Int32)) (p0 : Int32) (p1 : Int32) (N : Nat) (hW : wf ρ N) : rMi l yX4_pot wsX4_pot rmX4_pot D cI b [.ref (b 0), .int p0, .int p1] 1 θ τ ρ (fX4_pot θ τ ρ p0 p1).1 (fX4_pot θ τ ρ p0 p1).2.1 (fX4_pot θ τ ρ p0 p1).2.2 := by
  intro sz
  refine r_head (cc := cX4_pot) (maxL := 3) (ret := (some .int)) (plainFor_of_name (by decide)) rfl (Nat.le_of_ble_eq_true rfl) ?_
  intro p e S m below meth c hx hb hr hml hown hts hlocks hnm hsz hA hC ls hl
  have hF : CallFix p m c cX4_pot 3 S [.ref (b 0), .int p0, .int p1].toArray wsX4_pot RX4 := ⟨hx, hb, hml, hown, hts⟩
  have h_f29 : (Cond.fieldLink RX4 29 "CombersSocietyModel" "thrown" "I").before [.ref (b 0), .int p0, .int p1].toArray S = true := hts _ (by decide +kernel)
  have h_iX4 : ∀ w ∈ u_ws RX4 TX4 5, w ∈ wsX4_pot := by decide +kernel
  have hl : lv_has ls 3 [(0, .ref (b 0)), (1, .int p0), (2, .int p1)] := hl
  refine lv_aload_n hx hb dX4_pot_0 rfl (lv_at hl 0 rfl) ?_
  refine lv_iconst (v := 0) hx hb dX4_pot_1 (by decide) ?_
  refine rp_m hx hb hts h_iX4 hown hC 0 (by decide) h_f29 dX4_pot_2 ?_
  clear hC; intro H locs θ1 eθ1 hC
  refine lv_iload_n hx hb dX4_pot_5 rfl (lv_at hl 1 rfl) ?_
  refine lv_iconst (v := 0) hx hb dX4_pot_6 (by decide) ?_
  refine lv_iconst (v := 2) hx hb dX4_pot_7 (by decide) ?_
  refine r_iSi (n := 3) hF (c_X4_isIn l D cI b 1 θ1 τ ρ p0 (0 : Int32) (2 : Int32)) gX4_pot_X4_isIn rfl rfl rfl (by decide +kernel) ⟨Nat.le_of_ble_eq_true rfl, Nat.le_of_ble_eq_true rfl⟩ hC hA rfl hl.1 rfl (Nat.le_of_ble_eq_true rfl) dX4_pot_8 ⟨Nat.zero_le _, Nat.zero_le _⟩ ?_
  clear hC; intro H locs hC
  refine lv_if_eq (tgt := 32) hx hb dX4_pot_11 (by decide) (fun c2 => ?_) (fun c2 => ?_)
  · refine lv_aload_n hx hb dX4_pot_32 rfl (lv_at hl 0 rfl) ?_
    refine lv_iconst (v := 1) hx hb dX4_pot_33 (by decide) ?_
    refine r_iVm (n := 1) hF (c_X4_no l D cI b 1 θ1 τ ρ (1 : Int32)) gX4_pot_X4_no rfl rfl rfl (by decide +kernel) ⟨Nat.le_of_ble_eq_true rfl, Nat.le_of_ble_eq_true rfl⟩ hC hA hC.recvM rfl hl.1 rfl (Nat.le_of_ble_eq_true rfl) dX4_pot_34 ⟨Nat.zero_le _, Nat.zero_le _⟩ ?_
    clear hC; intro H locs θ3 eθ3 hC
    have e : fX4_pot θ τ ρ p0 p1 = ((fX4_no θ1 (1 : Int32)).1, θ3, τ) := by subst eθ1 eθ3; unfold fX4_pot; exact ((if_pos c2).trans rfl)
    exact r_iret hx hb hr hlocks hC dX4_pot_37 ⟨by rw [e], by rw [e], by rw [e]⟩
  · refine lv_iload_n hx hb dX4_pot_14 rfl (lv_at hl 2 rfl) ?_
    refine lv_iconst (v := 0) hx hb dX4_pot_15 (by decide) ?_
    refine lv_iconst (v := 3) hx hb dX4_pot_16 (by decide) ?_
    refine r_iSi (n := 3) hF (c_X4_isIn l D cI b 1 θ1 τ ρ p1 (0 : Int32) (3 : Int32)) gX4_pot_X4_isIn rfl rfl rfl (by decide +kernel) ⟨Nat.le_of_ble_eq_true rfl, Nat.le_of_ble_eq_true rfl⟩ hC hA rfl hl.1 rfl (Nat.le_of_ble_eq_true rfl) dX4_pot_17 ⟨Nat.zero_le _, Nat.zero_le _⟩ ?_
    clear hC; intro H locs hC
    refine lv_if_eq (tgt := 32) hx hb dX4_pot_20 (by decide) (fun c4 => ?_) (fun c4 => ?_)
    · refine lv_aload_n hx hb dX4_pot_32 rfl (lv_at hl 0 rfl) ?_
      refine lv_iconst (v := 1) hx hb dX4_pot_33 (by decide) ?_
      refine r_iVm (n := 1) hF (c_X4_no l D cI b 1 θ1 τ ρ (1 : Int32)) gX4_pot_X4_no rfl rfl rfl (by decide +kernel) ⟨Nat.le_of_ble_eq_true rfl, Nat.le_of_ble_eq_true rfl⟩ hC hA hC.recvM rfl hl.1 rfl (Nat.le_of_ble_eq_true rfl) dX4_pot_34 ⟨Nat.zero_le _, Nat.zero_le _⟩ ?_
      clear hC; intro H locs θ5 eθ5 hC
      have e : fX4_pot θ τ ρ p0 p1 = ((fX4_no θ1 (1 : Int32)).1, θ5, τ) := by subst eθ1 eθ5; unfold fX4_pot; exact ((if_neg c2).trans ((if_pos c4).trans rfl))
      exact r_iret hx hb hr hlocks hC dX4_pot_37 ⟨by rw [e], by rw [e], by rw [e]⟩
    · refine lv_aload_n hx hb dX4_pot_23 rfl (lv_at hl 0 rfl) ?_
      refine lv_iload_n hx hb dX4_pot_24 rfl (lv_at hl 1 rfl) ?_
      refine lv_iload_n hx hb dX4_pot_25 rfl (lv_at hl 2 rfl) ?_
      refine r_iVi (n := 2) hF (c_X4_potTold l D cI b θ1 τ ρ p0 p1 (isIn_ix c2 (N := 3) (by decide) (by decide)) N hW) gX4_pot_X4_potTold rfl rfl rfl (by decide +kernel) ⟨Nat.le_of_ble_eq_true rfl, Nat.le_of_ble_eq_true rfl⟩ hC hA hC.recvM rfl hl.1 rfl (Nat.le_of_ble_eq_true rfl) dX4_pot_26 ⟨Nat.zero_le _, Nat.zero_le _⟩ ?_
      clear hC; intro H locs τ6 eτ6 hC
      refine lv_goto (tgt := 37) hx hb dX4_pot_29 (by decide) ?_
      have e : fX4_pot θ τ ρ p0 p1 = ((fX4_potTold τ ρ p0 p1).1, θ1, τ6) := by subst eθ1 eτ6; unfold fX4_pot; exact ((if_neg c2).trans ((if_neg c4).trans rfl))
      exact r_iret hx hb hr hlocks hC dX4_pot_37 ⟨by rw [e], by rw [e], by rw [e]⟩
abbrev rmX4_pass : Room := { frames := 6, cells := 0, slots := 0, locals := 132 }
def fX4_pass_b1 (θ1 : (Nat → Nat → Int32)) (i1x : Nat) (σL1 : (Nat → Nat → Int32)) : (Nat → Nat → Int32) :=
    let τ4 : (Nat → Nat → Int32) := (fX3_pass θ1 σL1)
    τ4
def fX4_pass_k1 (τ : (Nat → Nat → Int32)) (θ1 : (Nat → Nat → Int32)) (σL1 : (Nat → Nat → Int32)) : Int32 × (Nat → Nat → Int32) × (Nat → Nat → Int32) :=
    (((σL1 0 2) - (τ 0 2)), θ1, σL1)
def fX4_pass (θ : (Nat → Nat → Int32)) (τ : (Nat → Nat → Int32)) (p0 : Int32) : Int32 × (Nat → Nat → Int32) × (Nat → Nat → Int32) :=
    let θ1 : (Nat → Nat → Int32) := up2 θ 0 0 (0 : Int32)
    if (fX4_isIn p0 (1 : Int32) (60 : Int32)) = 0 then
      let θ6 : (Nat → Nat → Int32) := (fX4_no θ1 (1 : Int32)).2
      ((fX4_no θ1 (1 : Int32)).1, θ6, τ)
    else
      fX4_pass_k1 τ θ1 (itR (fun i x => fX4_pass_b1 θ1 i x) 0 ((p0).toNatClampNeg) τ)
set_option maxHeartbeats 400000 in
set_option maxRecDepth 100000 in
theorem c_X4_pass (l : Launch) (D : va_G) (cI : ClassId) (b : Nat → Nat) (θ τ ρ : (Nat → Nat → Int32)) (p0 : Int32) (N : Nat) (hW : wf τ N) (w : Nat) (hwk : τ 0 0 = nI w) (hwb : w + 200 < 2 ^ 31) : rMi l yX4_pass wsX4_pass rmX4_pass D cI b [.ref (b 0), .int p0] 0 θ τ ρ (fX4_pass θ τ p0).1 (fX4_pass θ τ p0).2.1 (fX4_pass θ τ p0).2.2 := by
  intro sz
  refine r_head (cc := cX4_pass) (maxL := 4) (ret := (some .int)) (plainFor_of_name (by decide)) rfl (Nat.le_of_ble_eq_true rfl) ?_
  intro p e S m below meth c hx hb hr hml hown hts hlocks hnm hsz hA hC ls hl
  have hF : CallFix p m c cX4_pass 4 S [.ref (b 0), .int p0].toArray wsX4_pass RX4 := ⟨hx, hb, hml, hown, hts⟩
  have h_f29 : (Cond.fieldLink RX4 29 "CombersSocietyModel" "thrown" "I").before [.ref (b 0), .int p0].toArray S = true := hts _ (by decide +kernel)
  have h_iX4 : ∀ w ∈ u_ws RX4 TX4 5, w ∈ wsX4_pass := by decide +kernel
  have h_f22 : (Cond.fieldLink RX4 22 "CombersSocietyModel" "s" "LCombersSocietyModel$State;").before [.ref (b 0), .int p0].toArray S = true := hts _ (by decide +kernel)
  have h_f76 : (nw76).before [.ref (b 0), .int p0].toArray S = true := va_Nw.use rfl hC.2.2.2.2.nw76
  have h_iX3 : ∀ w ∈ u_ws RX3 TX3 12, w ∈ wsX4_pass := by decide +kernel
  have hl : lv_has ls 4 [(0, .ref (b 0)), (1, .int p0)] := hl
  refine lv_aload_n hx hb dX4_pass_0 rfl (lv_at hl 0 rfl) ?_
  refine lv_iconst (v := 0) hx hb dX4_pass_1 (by decide) ?_
  refine rp_m hx hb hts h_iX4 hown hC 0 (by decide) h_f29 dX4_pass_2 ?_
  clear hC; intro H locs θ1 eθ1 hC
  refine lv_iload_n hx hb dX4_pass_5 rfl (lv_at hl 1 rfl) ?_
  refine lv_iconst (v := 1) hx hb dX4_pass_6 (by decide) ?_
  refine lv_bipush (v := 60) hx hb dX4_pass_7 (by decide) ?_
  refine r_iSi (n := 3) hF (c_X4_isIn l D cI b 0 θ1 τ ρ p0 (1 : Int32) (60 : Int32)) gX4_pass_X4_isIn rfl rfl rfl (by decide +kernel) ⟨Nat.le_of_ble_eq_true rfl, Nat.le_of_ble_eq_true rfl⟩ hC hA rfl hl.1 rfl (Nat.le_of_ble_eq_true rfl) dX4_pass_9 ⟨Nat.zero_le _, Nat.zero_le _⟩ ?_
  clear hC; intro H locs hC
  refine lv_if_ne (tgt := 21) hx hb dX4_pass_12 (by decide) (fun c2 => ?_) (fun c2 => ?_)
  · refine lv_aload_n hx hb dX4_pass_21 rfl (lv_at hl 0 rfl) ?_
    refine rg_w hx hb hts h_iX4 hown hC 0 (by decide) h_f22 dX4_pass_22 ?_
    refine rg_sN hx hb hts h_iX3 hown hC (by decide) 2 (by decide) h_f76 dX4_pass_25 ?_
    refine lv_istore_n (lv' := [(2, .int (τ 0 2)), (0, .ref (b 0)), (1, .int p0)]) hx hb dX4_pass_28 rfl hl (by decide) rfl ?_
    clear hl; intro ls hl
    refine lv_iconst (v := 0) hx hb dX4_pass_29 (by decide) ?_
    refine lv_istore_n (lv' := [(3, .int (0 : Int32)), (2, .int (τ 0 2)), (0, .ref (b 0)), (1, .int p0)]) hx hb dX4_pass_30 rfl hl (by decide) rfl ?_
    clear hl; intro ls hl
    have hB1 := ixt (isIn_ix1 c2) (by decide)
    have loop1 : ∀ (n1x i1x : Nat) (σL1 : (Nat → Nat → Int32)), i1x + n1x = (p0).toNatClampNeg → itR (fun i x => fX4_pass_b1 θ1 i x) i1x n1x σL1 = itR (fun i x => fX4_pass_b1 θ1 i x) 0 ((p0).toNatClampNeg) τ → wf σL1 N → σL1 0 0 = nI (w + i1x) → ∀ (H : Heap) (locs : List Loc), rB D cI b S (rA b sz) S.heap H locs 0 θ1 σL1 ρ → ∀ ls : Array Slot, lv_has ls 4 [(3, .int (nI i1x)), (2, .int (τ 0 2)), (0, .ref (b 0)), (1, .int p0)] → W p l e (headSpec wsX4_pass rmX4_pass).room S m [.ref (b 0), .int p0].toArray below meth c H locs 0 0 (MQ below (va_Qi (fun r' (_ : Unit) => r' = (fX4_pass θ τ p0).1) (rPost D cI b 0 (fX4_pass θ τ p0).2.1 (fX4_pass θ τ p0).2.2 ρ) (rA b sz)) [.ref (b 0), .int p0].toArray S 0 0 (rA b sz)) (F0 m 31 ls []) := by
      clear hC hl
      intro n1x
      induction n1x with
      | zero =>
        intro i1x σL1 hin1 hX1 hW1 hI1 H locs hC ls hl
        obtain rfl : (p0).toNatClampNeg = i1x := by omega
        have q1 : fX4_pass θ τ p0 = fX4_pass_k1 τ θ1 σL1 := by subst eθ1; unfold fX4_pass; exact ((if_neg c2).trans ((congrArg (fX4_pass_k1 _ _) hX1.symm).trans rfl))
        refine lv_iload_n hx hb dX4_pass_31 rfl (lv_at hl 0 rfl) ?_
        refine lv_iload_n hx hb dX4_pass_32 rfl (lv_at hl 3 rfl) ?_
        refine lv_icmp_ge (tgt := 49) hx hb dX4_pass_33 (by decide) (fun c5 => ?_) (fun c5 => absurd (cmpB_ex hB1.1) c5)
        refine lv_aload_n hx hb dX4_pass_49 rfl (lv_at hl 2 rfl) ?_
        refine rg_w hx hb hts h_iX4 hown hC 0 (by decide) h_f22 dX4_pass_50 ?_
        refine rg_sN hx hb hts h_iX3 hown hC (by decide) 2 (by decide) h_f76 dX4_pass_53 ?_
        refine lv_iload_n hx hb dX4_pass_56 rfl (lv_at hl 1 rfl) ?_
        refine lv_isub hx hb dX4_pass_57 ?_
        have e0 : fX4_pass_k1 τ θ1 σL1 = (((σL1 0 2) - (τ 0 2)), θ1, σL1) := by subst eθ1; exact rfl
        have e : fX4_pass θ τ p0 = (((σL1 0 2) - (τ 0 2)), θ1, σL1) := (q1.trans e0)
        exact r_iret hx hb hr hlocks hC dX4_pass_58 ⟨by rw [e], by rw [e], by rw [e]⟩
      | succ n1x ih1 =>
        intro i1x σL1 hin1 hX1 hW1 hI1 H locs hC ls hl
        refine lv_iload_n hx hb dX4_pass_31 rfl (lv_at hl 0 rfl) ?_
        refine lv_iload_n hx hb dX4_pass_32 rfl (lv_at hl 3 rfl) ?_
        refine lv_icmp_ge (tgt := 49) hx hb dX4_pass_33 (by decide) (fun c3 => absurd c3 (cmpB_in hB1.1 (by omega) (by omega))) (fun c3 => ?_)
        refine lv_aload_n hx hb dX4_pass_36 rfl (lv_at hl 2 rfl) ?_
        refine rg_w hx hb hts h_iX4 hown hC 0 (by decide) h_f22 dX4_pass_37 ?_
        refine r_iVv (n := 0) hF (c_X3_pass l D cI b 0 θ1 σL1 ρ (by decide)  N hW1 (by rw [hI1]; have := hB1.2; exact nI_pos (by omega))) gX4_pass_X3_pass rfl rfl rfl (by decide +kernel) ⟨Nat.le_of_ble_eq_true rfl, Nat.le_of_ble_eq_true rfl⟩ hC hA (hC.recvS (by decide)) rfl hl.1 rfl (Nat.le_of_ble_eq_true rfl) dX4_pass_40 ⟨Nat.zero_le _, Nat.zero_le _⟩ ?_
        clear hC; intro H locs τ4 eτ4 hC
        have hwτ4 : wf τ4 N := by rw [← eτ4]; exact wf_X3_pass hW1
        refine lv_iinc (v := (nI (i1x + 1))) (lv' := [(3, .int (nI (i1x + 1))), (2, .int (τ 0 2)), (0, .ref (b 0)), (1, .int p0)]) hx hb dX4_pass_43 hl (k := 0) rfl (nI_1 i1x) (by decide) rfl ?_
        clear hl; intro ls hl
        refine lv_goto (tgt := 31) hx hb dX4_pass_46 (by decide) ?_
        have e : fX4_pass_b1 θ1 i1x σL1 = τ4 := by subst eτ4; exact rfl
        exact ih1 (i1x + 1) τ4 (by omega) (by rw [← e]; exact hX1) hwτ4 (by rw [← eτ4, fX3_pass_00 hW1, hI1]; exact nI_1 _) _ _ hC ls (lv_sub hl [0, 1, 2, 3] rfl)
    exact loop1 ((p0).toNatClampNeg) 0 τ (by omega) rfl hW hwk _ _ hC ls (lv_sub hl [0, 1, 2, 3] rfl)
  · refine lv_aload_n hx hb dX4_pass_15 rfl (lv_at hl 0 rfl) ?_
    refine lv_iconst (v := 1) hx hb dX4_pass_16 (by decide) ?_
    refine r_iVm (n := 1) hF (c_X4_no l D cI b 0 θ1 τ ρ (1 : Int32)) gX4_pass_X4_no rfl rfl rfl (by decide +kernel) ⟨Nat.le_of_ble_eq_true rfl, Nat.le_of_ble_eq_true rfl⟩ hC hA hC.recvM rfl hl.1 rfl (Nat.le_of_ble_eq_true rfl) dX4_pass_17 ⟨Nat.zero_le _, Nat.zero_le _⟩ ?_
    clear hC; intro H locs θ6 eθ6 hC
    have e : fX4_pass θ τ p0 = ((fX4_no θ1 (1 : Int32)).1, θ6, τ) := by subst eθ1 eθ6; unfold fX4_pass; exact ((if_pos c2).trans rfl)
    exact r_iret hx hb hr hlocks hC dX4_pass_20 ⟨by rw [e], by rw [e], by rw [e]⟩
abbrev rmX4_foresee : Room := { frames := 6, cells := 0, slots := 0, locals := 132 }
def fX4_foresee_b1 (θ1 : (Nat → Nat → Int32)) (i1x : Nat) (σL1 : (Nat → Nat → Int32)) : (Nat → Nat → Int32) :=
    let τ6 : (Nat → Nat → Int32) := (fX3_pass θ1 σL1)
    τ6
def fX4_foresee_k1 (p1 : Int32) (θ1 : (Nat → Nat → Int32)) (σL1 : (Nat → Nat → Int32)) : Int32 × (Nat → Nat → Int32) × (Nat → Nat → Int32) :=
    ((fX4_counted σL1 p1), θ1, σL1)
def fX4_foresee (θ : (Nat → Nat → Int32)) (τ : (Nat → Nat → Int32)) (ρ : (Nat → Nat → Int32)) (p0 : Int32) (p1 : Int32) : Int32 × (Nat → Nat → Int32) × (Nat → Nat → Int32) :=
    let θ1 : (Nat → Nat → Int32) := up2 θ 0 0 (0 : Int32)
    if (fX4_isIn p0 (1 : Int32) (60 : Int32)) = 0 then
      let θ9 : (Nat → Nat → Int32) := (fX4_no θ1 (1 : Int32)).2
      ((fX4_no θ1 (1 : Int32)).1, θ9, τ)
    else
      if (fX4_isIn p1 (2 : Int32) (8 : Int32)) = 0 then
        let θ8 : (Nat → Nat → Int32) := (fX4_no θ1 (2 : Int32)).2
        ((fX4_no θ1 (2 : Int32)).1, θ8, τ)
      else
        let τ4 : (Nat → Nat → Int32) := (fX3_become τ ρ)
        fX4_foresee_k1 p1 θ1 (itR (fun i x => fX4_foresee_b1 θ1 i x) 0 ((p0).toNatClampNeg) τ4)
set_option maxHeartbeats 400000 in
set_option maxRecDepth 100000 in
theorem c_X4_foresee (l : Launch) (D : va_G) (cI : ClassId) (b : Nat → Nat) (θ τ ρ : (Nat → Nat → Int32)) (p0 : Int32) (p1 : Int32) (N : Nat) (hW : wf ρ N) (w : Nat) (hwk : ρ 0 0 = nI w) (hwb : w + 200 < 2 ^ 31) : rMi l yX4_foresee wsX4_foresee rmX4_foresee D cI b [.ref (b 0), .int p0, .int p1] 1 θ τ ρ (fX4_foresee θ τ ρ p0 p1).1 (fX4_foresee θ τ ρ p0 p1).2.1 (fX4_foresee θ τ ρ p0 p1).2.2 := by
  intro sz
  refine r_head (cc := cX4_foresee) (maxL := 4) (ret := (some .int)) (plainFor_of_name (by decide)) rfl (Nat.le_of_ble_eq_true rfl) ?_
  intro p e S m below meth c hx hb hr hml hown hts hlocks hnm hsz hA hC ls hl
  have hF : CallFix p m c cX4_foresee 4 S [.ref (b 0), .int p0, .int p1].toArray wsX4_foresee RX4 := ⟨hx, hb, hml, hown, hts⟩
  have h_f29 : (Cond.fieldLink RX4 29 "CombersSocietyModel" "thrown" "I").before [.ref (b 0), .int p0, .int p1].toArray S = true := hts _ (by decide +kernel)
  have h_iX4 : ∀ w ∈ u_ws RX4 TX4 5, w ∈ wsX4_foresee := by decide +kernel
  have h_f26 : (Cond.fieldLink RX4 26 "CombersSocietyModel" "ahead" "LCombersSocietyModel$State;").before [.ref (b 0), .int p0, .int p1].toArray S = true := hts _ (by decide +kernel)
  have h_f22 : (Cond.fieldLink RX4 22 "CombersSocietyModel" "s" "LCombersSocietyModel$State;").before [.ref (b 0), .int p0, .int p1].toArray S = true := hts _ (by decide +kernel)
  have hl : lv_has ls 4 [(0, .ref (b 0)), (1, .int p0), (2, .int p1)] := hl
  refine lv_aload_n hx hb dX4_foresee_0 rfl (lv_at hl 0 rfl) ?_
  refine lv_iconst (v := 0) hx hb dX4_foresee_1 (by decide) ?_
  refine rp_m hx hb hts h_iX4 hown hC 0 (by decide) h_f29 dX4_foresee_2 ?_
  clear hC; intro H locs θ1 eθ1 hC
  refine lv_iload_n hx hb dX4_foresee_5 rfl (lv_at hl 1 rfl) ?_
  refine lv_iconst (v := 1) hx hb dX4_foresee_6 (by decide) ?_
  refine lv_bipush (v := 60) hx hb dX4_foresee_7 (by decide) ?_
  refine r_iSi (n := 3) hF (c_X4_isIn l D cI b 1 θ1 τ ρ p0 (1 : Int32) (60 : Int32)) gX4_foresee_X4_isIn rfl rfl rfl (by decide +kernel) ⟨Nat.le_of_ble_eq_true rfl, Nat.le_of_ble_eq_true rfl⟩ hC hA rfl hl.1 rfl (Nat.le_of_ble_eq_true rfl) dX4_foresee_9 ⟨Nat.zero_le _, Nat.zero_le _⟩ ?_
  clear hC; intro H locs hC
  refine lv_if_ne (tgt := 21) hx hb dX4_foresee_12 (by decide) (fun c2 => ?_) (fun c2 => ?_)
  · refine lv_iload_n hx hb dX4_foresee_21 rfl (lv_at hl 2 rfl) ?_
    refine lv_iconst (v := 2) hx hb dX4_foresee_22 (by decide) ?_
    refine lv_bipush (v := 8) hx hb dX4_foresee_23 (by decide) ?_
    refine r_iSi (n := 3) hF (c_X4_isIn l D cI b 1 θ1 τ ρ p1 (2 : Int32) (8 : Int32)) gX4_foresee_X4_isIn rfl rfl rfl (by decide +kernel) ⟨Nat.le_of_ble_eq_true rfl, Nat.le_of_ble_eq_true rfl⟩ hC hA rfl hl.1 rfl (Nat.le_of_ble_eq_true rfl) dX4_foresee_25 ⟨Nat.zero_le _, Nat.zero_le _⟩ ?_
    clear hC; intro H locs hC
    refine lv_if_ne (tgt := 37) hx hb dX4_foresee_28 (by decide) (fun c3 => ?_) (fun c3 => ?_)
    · refine lv_aload_n hx hb dX4_foresee_37 rfl (lv_at hl 0 rfl) ?_
      refine rg_w hx hb hts h_iX4 hown hC 1 (by decide) h_f26 dX4_foresee_38 ?_
      refine lv_aload_n hx hb dX4_foresee_41 rfl (lv_at hl 0 rfl) ?_
      refine rg_w hx hb hts h_iX4 hown hC 0 (by decide) h_f22 dX4_foresee_42 ?_
      refine r_iVv (n := 1) hF (c_X3_become l D cI b 1 θ1 τ ρ (by decide) ) gX4_foresee_X3_become rfl rfl rfl (by decide +kernel) ⟨Nat.le_of_ble_eq_true rfl, Nat.le_of_ble_eq_true rfl⟩ hC hA (hC.recvS (by decide)) rfl hl.1 rfl (Nat.le_of_ble_eq_true rfl) dX4_foresee_45 ⟨Nat.zero_le _, Nat.zero_le _⟩ ?_
      clear hC; intro H locs τ4 eτ4 hC
      have hwτ4 : wf τ4 N := by rw [← eτ4]; exact wf_X3_become hW
      refine lv_iconst (v := 0) hx hb dX4_foresee_48 (by decide) ?_
      refine lv_istore_n (lv' := [(3, .int (0 : Int32)), (0, .ref (b 0)), (1, .int p0), (2, .int p1)]) hx hb dX4_foresee_49 rfl hl (by decide) rfl ?_
      clear hl; intro ls hl
      have hB1 := ixt (isIn_ix1 c2) (by decide)
      have loop1 : ∀ (n1x i1x : Nat) (σL1 : (Nat → Nat → Int32)), i1x + n1x = (p0).toNatClampNeg → itR (fun i x => fX4_foresee_b1 θ1 i x) i1x n1x σL1 = itR (fun i x => fX4_foresee_b1 θ1 i x) 0 ((p0).toNatClampNeg) τ4 → wf σL1 N → σL1 0 0 = nI (w + i1x) → ∀ (H : Heap) (locs : List Loc), rB D cI b S (rA b sz) S.heap H locs 1 θ1 σL1 ρ → ∀ ls : Array Slot, lv_has ls 4 [(3, .int (nI i1x)), (0, .ref (b 0)), (1, .int p0), (2, .int p1)] → W p l e (headSpec wsX4_foresee rmX4_foresee).room S m [.ref (b 0), .int p0, .int p1].toArray below meth c H locs 0 0 (MQ below (va_Qi (fun r' (_ : Unit) => r' = (fX4_foresee θ τ ρ p0 p1).1) (rPost D cI b 1 (fX4_foresee θ τ ρ p0 p1).2.1 (fX4_foresee θ τ ρ p0 p1).2.2 ρ) (rA b sz)) [.ref (b 0), .int p0, .int p1].toArray S 0 0 (rA b sz)) (F0 m 50 ls []) := by
        clear hC hl
        intro n1x
        induction n1x with
        | zero =>
          intro i1x σL1 hin1 hX1 hW1 hI1 H locs hC ls hl
          obtain rfl : (p0).toNatClampNeg = i1x := by omega
          have q1 : fX4_foresee θ τ ρ p0 p1 = fX4_foresee_k1 p1 θ1 σL1 := by subst eθ1 eτ4; unfold fX4_foresee; exact ((if_neg c2).trans ((if_neg c3).trans ((congrArg (fX4_foresee_k1 _ _) hX1.symm).trans rfl)))
          refine lv_iload_n hx hb dX4_foresee_50 rfl (lv_at hl 0 rfl) ?_
          refine lv_iload_n hx hb dX4_foresee_51 rfl (lv_at hl 2 rfl) ?_
          refine lv_icmp_ge (tgt := 68) hx hb dX4_foresee_52 (by decide) (fun c7 => ?_) (fun c7 => absurd (cmpB_ex hB1.1) c7)
          refine lv_aload_n hx hb dX4_foresee_68 rfl (lv_at hl 1 rfl) ?_
          refine rg_w hx hb hts h_iX4 hown hC 1 (by decide) h_f26 dX4_foresee_69 ?_
          refine lv_iload_n hx hb dX4_foresee_72 rfl (lv_at hl 3 rfl) ?_
          refine r_iSi (n := 2) hF (c_X4_counted l D cI b 1 θ1 σL1 ρ (by decide) p1 N hW1) gX4_foresee_X4_counted rfl rfl rfl (by decide +kernel) ⟨Nat.le_of_ble_eq_true rfl, Nat.le_of_ble_eq_true rfl⟩ hC hA rfl hl.1 rfl (Nat.le_of_ble_eq_true rfl) dX4_foresee_73 ⟨Nat.zero_le _, Nat.zero_le _⟩ ?_
          clear hC; intro H locs hC
          have e0 : fX4_foresee_k1 p1 θ1 σL1 = ((fX4_counted σL1 p1), θ1, σL1) := by subst eθ1 eτ4; exact rfl
          have e : fX4_foresee θ τ ρ p0 p1 = ((fX4_counted σL1 p1), θ1, σL1) := (q1.trans e0)
          exact r_iret hx hb hr hlocks hC dX4_foresee_76 ⟨by rw [e], by rw [e], by rw [e]⟩
        | succ n1x ih1 =>
          intro i1x σL1 hin1 hX1 hW1 hI1 H locs hC ls hl
          refine lv_iload_n hx hb dX4_foresee_50 rfl (lv_at hl 0 rfl) ?_
          refine lv_iload_n hx hb dX4_foresee_51 rfl (lv_at hl 2 rfl) ?_
          refine lv_icmp_ge (tgt := 68) hx hb dX4_foresee_52 (by decide) (fun c5 => absurd c5 (cmpB_in hB1.1 (by omega) (by omega))) (fun c5 => ?_)
          refine lv_aload_n hx hb dX4_foresee_55 rfl (lv_at hl 1 rfl) ?_
          refine rg_w hx hb hts h_iX4 hown hC 1 (by decide) h_f26 dX4_foresee_56 ?_
          refine r_iVv (n := 0) hF (c_X3_pass l D cI b 1 θ1 σL1 ρ (by decide)  N hW1 (by rw [hI1]; have := hB1.2; exact nI_pos (by omega))) gX4_foresee_X3_pass rfl rfl rfl (by decide +kernel) ⟨Nat.le_of_ble_eq_true rfl, Nat.le_of_ble_eq_true rfl⟩ hC hA (hC.recvS (by decide)) rfl hl.1 rfl (Nat.le_of_ble_eq_true rfl) dX4_foresee_59 ⟨Nat.zero_le _, Nat.zero_le _⟩ ?_
          clear hC; intro H locs τ6 eτ6 hC
          have hwτ6 : wf τ6 N := by rw [← eτ6]; exact wf_X3_pass hW1
          refine lv_iinc (v := (nI (i1x + 1))) (lv' := [(3, .int (nI (i1x + 1))), (0, .ref (b 0)), (1, .int p0), (2, .int p1)]) hx hb dX4_foresee_62 hl (k := 0) rfl (nI_1 i1x) (by decide) rfl ?_
          clear hl; intro ls hl
          refine lv_goto (tgt := 50) hx hb dX4_foresee_65 (by decide) ?_
          have e : fX4_foresee_b1 θ1 i1x σL1 = τ6 := by subst eτ6; exact rfl
          exact ih1 (i1x + 1) τ6 (by omega) (by rw [← e]; exact hX1) hwτ6 (by rw [← eτ6, fX3_pass_00 hW1, hI1]; exact nI_1 _) _ _ hC ls (lv_sub hl [0, 1, 2, 3] rfl)
      exact loop1 ((p0).toNatClampNeg) 0 τ4 (by omega) rfl hwτ4 (by rw [← eτ4, fX3_become_0 (by decide)]; exact hwk) _ _ hC ls (lv_sub hl [0, 1, 2, 3] rfl)
    · refine lv_aload_n hx hb dX4_foresee_31 rfl (lv_at hl 0 rfl) ?_
      refine lv_iconst (v := 2) hx hb dX4_foresee_32 (by decide) ?_
      refine r_iVm (n := 1) hF (c_X4_no l D cI b 1 θ1 τ ρ (2 : Int32)) gX4_foresee_X4_no rfl rfl rfl (by decide +kernel) ⟨Nat.le_of_ble_eq_true rfl, Nat.le_of_ble_eq_true rfl⟩ hC hA hC.recvM rfl hl.1 rfl (Nat.le_of_ble_eq_true rfl) dX4_foresee_33 ⟨Nat.zero_le _, Nat.zero_le _⟩ ?_
      clear hC; intro H locs θ8 eθ8 hC
      have e : fX4_foresee θ τ ρ p0 p1 = ((fX4_no θ1 (2 : Int32)).1, θ8, τ) := by subst eθ1 eθ8; unfold fX4_foresee; exact ((if_neg c2).trans ((if_pos c3).trans rfl))
      exact r_iret hx hb hr hlocks hC dX4_foresee_36 ⟨by rw [e], by rw [e], by rw [e]⟩
  · refine lv_aload_n hx hb dX4_foresee_15 rfl (lv_at hl 0 rfl) ?_
    refine lv_iconst (v := 1) hx hb dX4_foresee_16 (by decide) ?_
    refine r_iVm (n := 1) hF (c_X4_no l D cI b 1 θ1 τ ρ (1 : Int32)) gX4_foresee_X4_no rfl rfl rfl (by decide +kernel) ⟨Nat.le_of_ble_eq_true rfl, Nat.le_of_ble_eq_true rfl⟩ hC hA hC.recvM rfl hl.1 rfl (Nat.le_of_ble_eq_true rfl) dX4_foresee_17 ⟨Nat.zero_le _, Nat.zero_le _⟩ ?_
    clear hC; intro H locs θ9 eθ9 hC
    have e : fX4_foresee θ τ ρ p0 p1 = ((fX4_no θ1 (1 : Int32)).1, θ9, τ) := by subst eθ1 eθ9; unfold fX4_foresee; exact ((if_pos c2).trans rfl)
    exact r_iret hx hb hr hlocks hC dX4_foresee_20 ⟨by rw [e], by rw [e], by rw [e]⟩
abbrev rmX4_earns : Room := { frames := 5, cells := 0, slots := 0, locals := 110 }
def fX4_earns (θ : (Nat → Nat → Int32)) (τ : (Nat → Nat → Int32)) (ρ : (Nat → Nat → Int32)) (p0 : Int32) : Int32 × (Nat → Nat → Int32) × (Nat → Nat → Int32) :=
    let θ1 : (Nat → Nat → Int32) := up2 θ 0 0 (0 : Int32)
    if (fX4_isMember ρ p0) = 0 then
      let θ6 : (Nat → Nat → Int32) := (fX4_no θ1 (1 : Int32)).2
      ((fX4_no θ1 (1 : Int32)).1, θ6, τ)
    else
      let τ3 : (Nat → Nat → Int32) := (fX3_become τ ρ)
      let τ4 : (Nat → Nat → Int32) := (fX3_fire τ3)
      let τ5 : (Nat → Nat → Int32) := (fX3_comb τ4)
      (((fX3_of τ5 p0 (2 : Int32)) - (fX3_of ρ p0 (2 : Int32))), θ1, τ5)
set_option maxHeartbeats 400000 in
set_option maxRecDepth 100000 in
theorem c_X4_earns (l : Launch) (D : va_G) (cI : ClassId) (b : Nat → Nat) (θ τ ρ : (Nat → Nat → Int32)) (p0 : Int32) (N : Nat) (hW : wf ρ N) : rMi l yX4_earns wsX4_earns rmX4_earns D cI b [.ref (b 0), .int p0] 1 θ τ ρ (fX4_earns θ τ ρ p0).1 (fX4_earns θ τ ρ p0).2.1 (fX4_earns θ τ ρ p0).2.2 := by
  intro sz
  refine r_head (cc := cX4_earns) (maxL := 2) (ret := (some .int)) (plainFor_of_name (by decide)) rfl (Nat.le_of_ble_eq_true rfl) ?_
  intro p e S m below meth c hx hb hr hml hown hts hlocks hnm hsz hA hC ls hl
  have hF : CallFix p m c cX4_earns 2 S [.ref (b 0), .int p0].toArray wsX4_earns RX4 := ⟨hx, hb, hml, hown, hts⟩
  have h_f29 : (Cond.fieldLink RX4 29 "CombersSocietyModel" "thrown" "I").before [.ref (b 0), .int p0].toArray S = true := hts _ (by decide +kernel)
  have h_iX4 : ∀ w ∈ u_ws RX4 TX4 5, w ∈ wsX4_earns := by decide +kernel
  have h_f26 : (Cond.fieldLink RX4 26 "CombersSocietyModel" "ahead" "LCombersSocietyModel$State;").before [.ref (b 0), .int p0].toArray S = true := hts _ (by decide +kernel)
  have h_f22 : (Cond.fieldLink RX4 22 "CombersSocietyModel" "s" "LCombersSocietyModel$State;").before [.ref (b 0), .int p0].toArray S = true := hts _ (by decide +kernel)
  have hl : lv_has ls 2 [(0, .ref (b 0)), (1, .int p0)] := hl
  refine lv_aload_n hx hb dX4_earns_0 rfl (lv_at hl 0 rfl) ?_
  refine lv_iconst (v := 0) hx hb dX4_earns_1 (by decide) ?_
  refine rp_m hx hb hts h_iX4 hown hC 0 (by decide) h_f29 dX4_earns_2 ?_
  clear hC; intro H locs θ1 eθ1 hC
  refine lv_aload_n hx hb dX4_earns_5 rfl (lv_at hl 0 rfl) ?_
  refine lv_iload_n hx hb dX4_earns_6 rfl (lv_at hl 1 rfl) ?_
  refine r_iVp (n := 1) hF (c_X4_isMember l D cI b θ1 ρ τ p0) gX4_earns_X4_isMember rfl rfl rfl (by decide +kernel) ⟨Nat.le_of_ble_eq_true rfl, Nat.le_of_ble_eq_true rfl⟩ (hC.sw (by decide)) hA hC.recvM rfl hl.1 rfl (Nat.le_of_ble_eq_true rfl) dX4_earns_7 ⟨Nat.zero_le _, Nat.zero_le _⟩ ?_
  clear hC; intro H locs hC
  have hC := hC.sw (by decide)
  refine lv_if_ne (tgt := 19) hx hb dX4_earns_10 (by decide) (fun c2 => ?_) (fun c2 => ?_)
  · refine lv_aload_n hx hb dX4_earns_19 rfl (lv_at hl 0 rfl) ?_
    refine rg_w hx hb hts h_iX4 hown hC 1 (by decide) h_f26 dX4_earns_20 ?_
    refine lv_aload_n hx hb dX4_earns_23 rfl (lv_at hl 0 rfl) ?_
    refine rg_w hx hb hts h_iX4 hown hC 0 (by decide) h_f22 dX4_earns_24 ?_
    refine r_iVv (n := 1) hF (c_X3_become l D cI b 1 θ1 τ ρ (by decide) ) gX4_earns_X3_become rfl rfl rfl (by decide +kernel) ⟨Nat.le_of_ble_eq_true rfl, Nat.le_of_ble_eq_true rfl⟩ hC hA (hC.recvS (by decide)) rfl hl.1 rfl (Nat.le_of_ble_eq_true rfl) dX4_earns_27 ⟨Nat.zero_le _, Nat.zero_le _⟩ ?_
    clear hC; intro H locs τ3 eτ3 hC
    have hwτ3 : wf τ3 N := by rw [← eτ3]; exact wf_X3_become hW
    refine lv_aload_n hx hb dX4_earns_30 rfl (lv_at hl 0 rfl) ?_
    refine rg_w hx hb hts h_iX4 hown hC 1 (by decide) h_f26 dX4_earns_31 ?_
    refine r_iVv (n := 0) hF (c_X3_fire l D cI b 1 θ1 τ3 ρ (by decide)  N hwτ3) gX4_earns_X3_fire rfl rfl rfl (by decide +kernel) ⟨Nat.le_of_ble_eq_true rfl, Nat.le_of_ble_eq_true rfl⟩ hC hA (hC.recvS (by decide)) rfl hl.1 rfl (Nat.le_of_ble_eq_true rfl) dX4_earns_34 ⟨Nat.zero_le _, Nat.zero_le _⟩ ?_
    clear hC; intro H locs τ4 eτ4 hC
    have hwτ4 : wf τ4 N := by rw [← eτ4]; exact wf_X3_fire hwτ3 
    refine lv_aload_n hx hb dX4_earns_37 rfl (lv_at hl 0 rfl) ?_
    refine rg_w hx hb hts h_iX4 hown hC 1 (by decide) h_f26 dX4_earns_38 ?_
    refine r_iVv (n := 0) hF (c_X3_comb l D cI b 1 θ1 τ4 ρ (by decide)  N hwτ4) gX4_earns_X3_comb rfl rfl rfl (by decide +kernel) ⟨Nat.le_of_ble_eq_true rfl, Nat.le_of_ble_eq_true rfl⟩ hC hA (hC.recvS (by decide)) rfl hl.1 rfl (Nat.le_of_ble_eq_true rfl) dX4_earns_41 ⟨Nat.zero_le _, Nat.zero_le _⟩ ?_
    clear hC; intro H locs τ5 eτ5 hC
    have hwτ5 : wf τ5 N := by rw [← eτ5]; exact wf_X3_comb hwτ4 
    refine lv_aload_n hx hb dX4_earns_44 rfl (lv_at hl 0 rfl) ?_
    refine rg_w hx hb hts h_iX4 hown hC 1 (by decide) h_f26 dX4_earns_45 ?_
    refine lv_iload_n hx hb dX4_earns_48 rfl (lv_at hl 1 rfl) ?_
    refine lv_iconst (v := 2) hx hb dX4_earns_49 (by decide) ?_
    refine r_iVp (n := 2) hF (c_X3_of l D cI b 1 θ1 τ5 ρ (by decide) p0 (2 : Int32) (mem_ix hW c2) ⟨2, by decide, rfl⟩) gX4_earns_X3_of rfl rfl rfl (by decide +kernel) ⟨Nat.le_of_ble_eq_true rfl, Nat.le_of_ble_eq_true rfl⟩ hC hA (hC.recvS (by decide)) rfl hl.1 rfl (Nat.le_of_ble_eq_true rfl) dX4_earns_50 ⟨Nat.zero_le _, Nat.zero_le _⟩ ?_
    clear hC; intro H locs hC
    refine lv_aload_n hx hb dX4_earns_53 rfl (lv_at hl 0 rfl) ?_
    refine rg_w hx hb hts h_iX4 hown hC 0 (by decide) h_f22 dX4_earns_54 ?_
    refine lv_iload_n hx hb dX4_earns_57 rfl (lv_at hl 1 rfl) ?_
    refine lv_iconst (v := 2) hx hb dX4_earns_58 (by decide) ?_
    refine r_iVp (n := 2) hF (c_X3_of l D cI b 0 θ1 ρ τ5 (by decide) p0 (2 : Int32) (mem_ix hW c2) ⟨2, by decide, rfl⟩) gX4_earns_X3_of rfl rfl rfl (by decide +kernel) ⟨Nat.le_of_ble_eq_true rfl, Nat.le_of_ble_eq_true rfl⟩ (hC.sw (by decide)) hA ((hC.sw (by decide)).recvS (by decide)) rfl hl.1 rfl (Nat.le_of_ble_eq_true rfl) dX4_earns_59 ⟨Nat.zero_le _, Nat.zero_le _⟩ ?_
    clear hC; intro H locs hC
    have hC := hC.sw (by decide)
    refine lv_isub hx hb dX4_earns_62 ?_
    have e : fX4_earns θ τ ρ p0 = (((fX3_of τ5 p0 (2 : Int32)) - (fX3_of ρ p0 (2 : Int32))), θ1, τ5) := by subst eθ1 eτ3 eτ4 eτ5; unfold fX4_earns; exact ((if_neg c2).trans rfl)
    exact r_iret hx hb hr hlocks hC dX4_earns_63 ⟨by rw [e], by rw [e], by rw [e]⟩
  · refine lv_aload_n hx hb dX4_earns_13 rfl (lv_at hl 0 rfl) ?_
    refine lv_iconst (v := 1) hx hb dX4_earns_14 (by decide) ?_
    refine r_iVm (n := 1) hF (c_X4_no l D cI b 1 θ1 τ ρ (1 : Int32)) gX4_earns_X4_no rfl rfl rfl (by decide +kernel) ⟨Nat.le_of_ble_eq_true rfl, Nat.le_of_ble_eq_true rfl⟩ hC hA hC.recvM rfl hl.1 rfl (Nat.le_of_ble_eq_true rfl) dX4_earns_15 ⟨Nat.zero_le _, Nat.zero_le _⟩ ?_
    clear hC; intro H locs θ6 eθ6 hC
    have e : fX4_earns θ τ ρ p0 = ((fX4_no θ1 (1 : Int32)).1, θ6, τ) := by subst eθ1 eθ6; unfold fX4_earns; exact ((if_pos c2).trans rfl)
    exact r_iret hx hb hr hlocks hC dX4_earns_18 ⟨by rw [e], by rw [e], by rw [e]⟩
abbrev rmX4_dies : Room := { frames := 6, cells := 0, slots := 0, locals := 132 }
def fX4_dies_b1 (p0 : Int32) (θ1 : (Nat → Nat → Int32)) (i1x : Nat) (σL1 : (Nat → Nat → Int32)) : Int32 × (Nat → Nat → Int32) × (Nat → Nat → Int32) ⊕ (Nat → Nat → Int32) :=
    if (fX3_of σL1 p0 (6 : Int32)) = (2 : Int32) then
      .inl ((nI i1x), θ1, σL1)
    else
      let τ6 : (Nat → Nat → Int32) := (fX3_pass θ1 σL1)
      .inr τ6
def fX4_dies_k1 (θ1 : (Nat → Nat → Int32)) (σL1 : (Nat → Nat → Int32)) : Int32 × (Nat → Nat → Int32) × (Nat → Nat → Int32) :=
    ((-1 : Int32), θ1, σL1)
def fX4_dies_k1x (θ1 : (Nat → Nat → Int32)) (x : Int32 × (Nat → Nat → Int32) × (Nat → Nat → Int32) ⊕ (Nat → Nat → Int32)) : Int32 × (Nat → Nat → Int32) × (Nat → Nat → Int32) := match x with
    | .inl r => r
    | .inr y => fX4_dies_k1 θ1 y
def fX4_dies (θ : (Nat → Nat → Int32)) (τ : (Nat → Nat → Int32)) (ρ : (Nat → Nat → Int32)) (p0 : Int32) : Int32 × (Nat → Nat → Int32) × (Nat → Nat → Int32) :=
    let θ1 : (Nat → Nat → Int32) := up2 θ 0 0 (0 : Int32)
    if (fX4_isMember ρ p0) = 0 then
      let θ8 : (Nat → Nat → Int32) := (fX4_no θ1 (1 : Int32)).2
      ((fX4_no θ1 (1 : Int32)).1, θ8, τ)
    else
      let τ3 : (Nat → Nat → Int32) := (fX3_become τ ρ)
      fX4_dies_k1x θ1 (itE (fun i x => fX4_dies_b1 p0 θ1 i x) 0 101 τ3)
set_option maxHeartbeats 400000 in
set_option maxRecDepth 100000 in
theorem c_X4_dies (l : Launch) (D : va_G) (cI : ClassId) (b : Nat → Nat) (θ τ ρ : (Nat → Nat → Int32)) (p0 : Int32) (N : Nat) (hW : wf ρ N) (w : Nat) (hwk : ρ 0 0 = nI w) (hwb : w + 200 < 2 ^ 31) : rMi l yX4_dies wsX4_dies rmX4_dies D cI b [.ref (b 0), .int p0] 1 θ τ ρ (fX4_dies θ τ ρ p0).1 (fX4_dies θ τ ρ p0).2.1 (fX4_dies θ τ ρ p0).2.2 := by
  intro sz
  refine r_head (cc := cX4_dies) (maxL := 3) (ret := (some .int)) (plainFor_of_name (by decide)) rfl (Nat.le_of_ble_eq_true rfl) ?_
  intro p e S m below meth c hx hb hr hml hown hts hlocks hnm hsz hA hC ls hl
  have hF : CallFix p m c cX4_dies 3 S [.ref (b 0), .int p0].toArray wsX4_dies RX4 := ⟨hx, hb, hml, hown, hts⟩
  have h_f29 : (Cond.fieldLink RX4 29 "CombersSocietyModel" "thrown" "I").before [.ref (b 0), .int p0].toArray S = true := hts _ (by decide +kernel)
  have h_iX4 : ∀ w ∈ u_ws RX4 TX4 5, w ∈ wsX4_dies := by decide +kernel
  have h_f26 : (Cond.fieldLink RX4 26 "CombersSocietyModel" "ahead" "LCombersSocietyModel$State;").before [.ref (b 0), .int p0].toArray S = true := hts _ (by decide +kernel)
  have h_f22 : (Cond.fieldLink RX4 22 "CombersSocietyModel" "s" "LCombersSocietyModel$State;").before [.ref (b 0), .int p0].toArray S = true := hts _ (by decide +kernel)
  have hl : lv_has ls 3 [(0, .ref (b 0)), (1, .int p0)] := hl
  refine lv_aload_n hx hb dX4_dies_0 rfl (lv_at hl 0 rfl) ?_
  refine lv_iconst (v := 0) hx hb dX4_dies_1 (by decide) ?_
  refine rp_m hx hb hts h_iX4 hown hC 0 (by decide) h_f29 dX4_dies_2 ?_
  clear hC; intro H locs θ1 eθ1 hC
  refine lv_aload_n hx hb dX4_dies_5 rfl (lv_at hl 0 rfl) ?_
  refine lv_iload_n hx hb dX4_dies_6 rfl (lv_at hl 1 rfl) ?_
  refine r_iVp (n := 1) hF (c_X4_isMember l D cI b θ1 ρ τ p0) gX4_dies_X4_isMember rfl rfl rfl (by decide +kernel) ⟨Nat.le_of_ble_eq_true rfl, Nat.le_of_ble_eq_true rfl⟩ (hC.sw (by decide)) hA hC.recvM rfl hl.1 rfl (Nat.le_of_ble_eq_true rfl) dX4_dies_7 ⟨Nat.zero_le _, Nat.zero_le _⟩ ?_
  clear hC; intro H locs hC
  have hC := hC.sw (by decide)
  refine lv_if_ne (tgt := 19) hx hb dX4_dies_10 (by decide) (fun c2 => ?_) (fun c2 => ?_)
  · refine lv_aload_n hx hb dX4_dies_19 rfl (lv_at hl 0 rfl) ?_
    refine rg_w hx hb hts h_iX4 hown hC 1 (by decide) h_f26 dX4_dies_20 ?_
    refine lv_aload_n hx hb dX4_dies_23 rfl (lv_at hl 0 rfl) ?_
    refine rg_w hx hb hts h_iX4 hown hC 0 (by decide) h_f22 dX4_dies_24 ?_
    refine r_iVv (n := 1) hF (c_X3_become l D cI b 1 θ1 τ ρ (by decide) ) gX4_dies_X3_become rfl rfl rfl (by decide +kernel) ⟨Nat.le_of_ble_eq_true rfl, Nat.le_of_ble_eq_true rfl⟩ hC hA (hC.recvS (by decide)) rfl hl.1 rfl (Nat.le_of_ble_eq_true rfl) dX4_dies_27 ⟨Nat.zero_le _, Nat.zero_le _⟩ ?_
    clear hC; intro H locs τ3 eτ3 hC
    have hwτ3 : wf τ3 N := by rw [← eτ3]; exact wf_X3_become hW
    refine lv_iconst (v := 0) hx hb dX4_dies_30 (by decide) ?_
    refine lv_istore_n (lv' := [(2, .int (0 : Int32)), (0, .ref (b 0)), (1, .int p0)]) hx hb dX4_dies_31 rfl hl (by decide) rfl ?_
    clear hl; intro ls hl
    have loop1 : ∀ (n1x i1x : Nat) (σL1 : (Nat → Nat → Int32)), i1x + n1x = 101 → itE (fun i x => fX4_dies_b1 p0 θ1 i x) i1x n1x σL1 = itE (fun i x => fX4_dies_b1 p0 θ1 i x) 0 101 τ3 → wf σL1 N → σL1 0 0 = nI (w + i1x) → ∀ (H : Heap) (locs : List Loc), rB D cI b S (rA b sz) S.heap H locs 1 θ1 σL1 ρ → ∀ ls : Array Slot, lv_has ls 3 [(2, .int (nI i1x)), (0, .ref (b 0)), (1, .int p0)] → W p l e (headSpec wsX4_dies rmX4_dies).room S m [.ref (b 0), .int p0].toArray below meth c H locs 0 0 (MQ below (va_Qi (fun r' (_ : Unit) => r' = (fX4_dies θ τ ρ p0).1) (rPost D cI b 1 (fX4_dies θ τ ρ p0).2.1 (fX4_dies θ τ ρ p0).2.2 ρ) (rA b sz)) [.ref (b 0), .int p0].toArray S 0 0 (rA b sz)) (F0 m 32 ls []) := by
      clear hC hl
      intro n1x
      induction n1x with
      | zero =>
        intro i1x σL1 hin1 hX1 hW1 hI1 H locs hC ls hl
        obtain rfl : 101 = i1x := by omega
        have q1 : fX4_dies θ τ ρ p0 = fX4_dies_k1 θ1 σL1 := by subst eθ1 eτ3; unfold fX4_dies; exact ((if_neg c2).trans ((congrArg (fX4_dies_k1x _) hX1.symm).trans rfl))
        refine lv_iload_n hx hb dX4_dies_32 rfl (lv_at hl 0 rfl) ?_
        refine lv_bipush (v := 100) hx hb dX4_dies_33 (by decide) ?_
        refine lv_icmp_gt (tgt := 67) hx hb dX4_dies_35 (by decide) (fun c7 => ?_) (fun c7 => absurd (by decide) c7)
        refine lv_iconst (v := -1) hx hb dX4_dies_67 (by decide) ?_
        have e0 : fX4_dies_k1 θ1 σL1 = ((-1 : Int32), θ1, σL1) := by subst eθ1 eτ3; exact rfl
        have e : fX4_dies θ τ ρ p0 = ((-1 : Int32), θ1, σL1) := (q1.trans e0)
        exact r_iret hx hb hr hlocks hC dX4_dies_68 ⟨by rw [e], by rw [e], by rw [e]⟩
      | succ n1x ih1 =>
        intro i1x σL1 hin1 hX1 hW1 hI1 H locs hC ls hl
        refine lv_iload_n hx hb dX4_dies_32 rfl (lv_at hl 0 rfl) ?_
        refine lv_bipush (v := 100) hx hb dX4_dies_33 (by decide) ?_
        refine lv_icmp_gt (tgt := 67) hx hb dX4_dies_35 (by decide) (fun c4 => absurd c4 (show ¬ (100 : Int32) < nI i1x from (nI_nlt (a := 100) (b := i1x) (by omega) (by decide) : ¬ nI 100 < nI i1x))) (fun c4 => ?_)
        refine lv_aload_n hx hb dX4_dies_38 rfl (lv_at hl 1 rfl) ?_
        refine rg_w hx hb hts h_iX4 hown hC 1 (by decide) h_f26 dX4_dies_39 ?_
        refine lv_iload_n hx hb dX4_dies_42 rfl (lv_at hl 2 rfl) ?_
        refine lv_bipush (v := 6) hx hb dX4_dies_43 (by decide) ?_
        refine r_iVp (n := 2) hF (c_X3_of l D cI b 1 θ1 σL1 ρ (by decide) p0 (6 : Int32) (mem_ix hW c2) ⟨6, by decide, rfl⟩) gX4_dies_X3_of rfl rfl rfl (by decide +kernel) ⟨Nat.le_of_ble_eq_true rfl, Nat.le_of_ble_eq_true rfl⟩ hC hA (hC.recvS (by decide)) rfl hl.1 rfl (Nat.le_of_ble_eq_true rfl) dX4_dies_45 ⟨Nat.zero_le _, Nat.zero_le _⟩ ?_
        clear hC; intro H locs hC
        refine lv_iconst (v := 2) hx hb dX4_dies_48 (by decide) ?_
        refine lv_icmp_ne (tgt := 54) hx hb dX4_dies_49 (by decide) (fun c5 => ?_) (fun c5 => ?_)
        · refine lv_aload_n hx hb dX4_dies_54 rfl (lv_at hl 1 rfl) ?_
          refine rg_w hx hb hts h_iX4 hown hC 1 (by decide) h_f26 dX4_dies_55 ?_
          refine r_iVv (n := 0) hF (c_X3_pass l D cI b 1 θ1 σL1 ρ (by decide)  N hW1 (by rw [hI1]; exact nI_pos (by omega))) gX4_dies_X3_pass rfl rfl rfl (by decide +kernel) ⟨Nat.le_of_ble_eq_true rfl, Nat.le_of_ble_eq_true rfl⟩ hC hA (hC.recvS (by decide)) rfl hl.1 rfl (Nat.le_of_ble_eq_true rfl) dX4_dies_58 ⟨Nat.zero_le _, Nat.zero_le _⟩ ?_
          clear hC; intro H locs τ6 eτ6 hC
          have hwτ6 : wf τ6 N := by rw [← eτ6]; exact wf_X3_pass hW1
          refine lv_iinc (v := (nI (i1x + 1))) (lv' := [(2, .int (nI (i1x + 1))), (0, .ref (b 0)), (1, .int p0)]) hx hb dX4_dies_61 hl (k := 0) rfl (nI_1 i1x) (by decide) rfl ?_
          clear hl; intro ls hl
          refine lv_goto (tgt := 32) hx hb dX4_dies_64 (by decide) ?_
          have e : fX4_dies_b1 p0 θ1 i1x σL1 = .inr τ6 := by subst eτ6; unfold fX4_dies_b1; exact ((if_neg c5).trans rfl)
          exact ih1 (i1x + 1) τ6 (by omega) ((itE_inr e).symm.trans hX1) hwτ6 (by rw [← eτ6, fX3_pass_00 hW1, hI1]; exact nI_1 _) _ _ hC ls (lv_sub hl [0, 1, 2] rfl)
        · refine lv_iload_n hx hb dX4_dies_52 rfl (lv_at hl 0 rfl) ?_
          have e : fX4_dies_b1 p0 θ1 i1x σL1 = .inl ((nI i1x), θ1, σL1) := by unfold fX4_dies_b1; exact ((if_pos c5).trans rfl)
          have qq : fX4_dies θ τ ρ p0 = fX4_dies_k1x θ1 (itE (fun i x => fX4_dies_b1 p0 θ1 i x) 0 101 τ3) := by subst eθ1 eτ3; unfold fX4_dies; exact ((if_neg c2).trans rfl)
          have e : fX4_dies θ τ ρ p0 = ((nI i1x), θ1, σL1) := (qq.trans ((congrArg (fX4_dies_k1x _) (hX1.symm.trans (itE_inl e))).trans rfl))
          exact r_iret hx hb hr hlocks hC dX4_dies_53 ⟨by rw [e], by rw [e], by rw [e]⟩
    exact loop1 101 0 τ3 (by omega) rfl hwτ3 (by rw [← eτ3, fX3_become_0 (by decide)]; exact hwk) _ _ hC ls (lv_sub hl [0, 1, 2] rfl)
  · refine lv_aload_n hx hb dX4_dies_13 rfl (lv_at hl 0 rfl) ?_
    refine lv_iconst (v := 1) hx hb dX4_dies_14 (by decide) ?_
    refine r_iVm (n := 1) hF (c_X4_no l D cI b 1 θ1 τ ρ (1 : Int32)) gX4_dies_X4_no rfl rfl rfl (by decide +kernel) ⟨Nat.le_of_ble_eq_true rfl, Nat.le_of_ble_eq_true rfl⟩ hC hA hC.recvM rfl hl.1 rfl (Nat.le_of_ble_eq_true rfl) dX4_dies_15 ⟨Nat.zero_le _, Nat.zero_le _⟩ ?_
    clear hC; intro H locs θ8 eθ8 hC
    have e : fX4_dies θ τ ρ p0 = ((fX4_no θ1 (1 : Int32)).1, θ8, τ) := by subst eθ1 eθ8; unfold fX4_dies; exact ((if_pos c2).trans rfl)
    exact r_iret hx hb hr hlocks hC dX4_dies_18 ⟨by rw [e], by rw [e], by rw [e]⟩
abbrev rmX4_lasts : Room := { frames := 6, cells := 0, slots := 0, locals := 132 }
def fX4_lasts_b1 (θ1 : (Nat → Nat → Int32)) (i1x : Nat) (σL1 : (Nat → Nat → Int32)) : Int32 × (Nat → Nat → Int32) × (Nat → Nat → Int32) ⊕ (Nat → Nat → Int32) :=
    let τ4 : (Nat → Nat → Int32) := (fX3_pass θ1 σL1)
    if (τ4 0 8) = 0 then
      .inr τ4
    else
      .inl ((nI i1x), θ1, τ4)
def fX4_lasts_k1 (θ1 : (Nat → Nat → Int32)) (σL1 : (Nat → Nat → Int32)) : Int32 × (Nat → Nat → Int32) × (Nat → Nat → Int32) :=
    ((-1 : Int32), θ1, σL1)
def fX4_lasts_k1x (θ1 : (Nat → Nat → Int32)) (x : Int32 × (Nat → Nat → Int32) × (Nat → Nat → Int32) ⊕ (Nat → Nat → Int32)) : Int32 × (Nat → Nat → Int32) × (Nat → Nat → Int32) := match x with
    | .inl r => r
    | .inr y => fX4_lasts_k1 θ1 y
def fX4_lasts (θ : (Nat → Nat → Int32)) (τ : (Nat → Nat → Int32)) (ρ : (Nat → Nat → Int32)) : Int32 × (Nat → Nat → Int32) × (Nat → Nat → Int32) :=
    let θ1 : (Nat → Nat → Int32) := up2 θ 0 0 (0 : Int32)
    let τ2 : (Nat → Nat → Int32) := (fX3_become τ ρ)
    fX4_lasts_k1x θ1 (itE (fun i x => fX4_lasts_b1 θ1 i x) 1 100 τ2)
set_option maxHeartbeats 400000 in
set_option maxRecDepth 100000 in
theorem c_X4_lasts (l : Launch) (D : va_G) (cI : ClassId) (b : Nat → Nat) (θ τ ρ : (Nat → Nat → Int32)) (N : Nat) (hW : wf ρ N) (w : Nat) (hwk : ρ 0 0 = nI w) (hwb : w + 200 < 2 ^ 31) : rMi l yX4_lasts wsX4_lasts rmX4_lasts D cI b [.ref (b 0)] 1 θ τ ρ (fX4_lasts θ τ ρ).1 (fX4_lasts θ τ ρ).2.1 (fX4_lasts θ τ ρ).2.2 := by
  intro sz
  refine r_head (cc := cX4_lasts) (maxL := 2) (ret := (some .int)) (plainFor_of_name (by decide)) rfl (Nat.le_of_ble_eq_true rfl) ?_
  intro p e S m below meth c hx hb hr hml hown hts hlocks hnm hsz hA hC ls hl
  have hF : CallFix p m c cX4_lasts 2 S [.ref (b 0)].toArray wsX4_lasts RX4 := ⟨hx, hb, hml, hown, hts⟩
  have h_f29 : (Cond.fieldLink RX4 29 "CombersSocietyModel" "thrown" "I").before [.ref (b 0)].toArray S = true := hts _ (by decide +kernel)
  have h_iX4 : ∀ w ∈ u_ws RX4 TX4 5, w ∈ wsX4_lasts := by decide +kernel
  have h_f26 : (Cond.fieldLink RX4 26 "CombersSocietyModel" "ahead" "LCombersSocietyModel$State;").before [.ref (b 0)].toArray S = true := hts _ (by decide +kernel)
  have h_f22 : (Cond.fieldLink RX4 22 "CombersSocietyModel" "s" "LCombersSocietyModel$State;").before [.ref (b 0)].toArray S = true := hts _ (by decide +kernel)
  have h_f138 : (nw138).before [.ref (b 0)].toArray S = true := va_Nw.use rfl hC.2.2.2.2.nw138
  have h_iX3 : ∀ w ∈ u_ws RX3 TX3 12, w ∈ wsX4_lasts := by decide +kernel
  have hl : lv_has ls 2 [(0, .ref (b 0))] := hl
  refine lv_aload_n hx hb dX4_lasts_0 rfl (lv_at hl 0 rfl) ?_
  refine lv_iconst (v := 0) hx hb dX4_lasts_1 (by decide) ?_
  refine rp_m hx hb hts h_iX4 hown hC 0 (by decide) h_f29 dX4_lasts_2 ?_
  clear hC; intro H locs θ1 eθ1 hC
  refine lv_aload_n hx hb dX4_lasts_5 rfl (lv_at hl 0 rfl) ?_
  refine rg_w hx hb hts h_iX4 hown hC 1 (by decide) h_f26 dX4_lasts_6 ?_
  refine lv_aload_n hx hb dX4_lasts_9 rfl (lv_at hl 0 rfl) ?_
  refine rg_w hx hb hts h_iX4 hown hC 0 (by decide) h_f22 dX4_lasts_10 ?_
  refine r_iVv (n := 1) hF (c_X3_become l D cI b 1 θ1 τ ρ (by decide) ) gX4_lasts_X3_become rfl rfl rfl (by decide +kernel) ⟨Nat.le_of_ble_eq_true rfl, Nat.le_of_ble_eq_true rfl⟩ hC hA (hC.recvS (by decide)) rfl hl.1 rfl (Nat.le_of_ble_eq_true rfl) dX4_lasts_13 ⟨Nat.zero_le _, Nat.zero_le _⟩ ?_
  clear hC; intro H locs τ2 eτ2 hC
  have hwτ2 : wf τ2 N := by rw [← eτ2]; exact wf_X3_become hW
  refine lv_iconst (v := 1) hx hb dX4_lasts_16 (by decide) ?_
  refine lv_istore_n (lv' := [(1, .int (1 : Int32)), (0, .ref (b 0))]) hx hb dX4_lasts_17 rfl hl (by decide) rfl ?_
  clear hl; intro ls hl
  have loop1 : ∀ (n1x i1x : Nat) (σL1 : (Nat → Nat → Int32)), i1x + n1x = 101 → itE (fun i x => fX4_lasts_b1 θ1 i x) i1x n1x σL1 = itE (fun i x => fX4_lasts_b1 θ1 i x) 1 100 τ2 → wf σL1 N → (∃ u, u + 1 = w + i1x ∧ σL1 0 0 = nI u) → ∀ (H : Heap) (locs : List Loc), rB D cI b S (rA b sz) S.heap H locs 1 θ1 σL1 ρ → ∀ ls : Array Slot, lv_has ls 2 [(1, .int (nI i1x)), (0, .ref (b 0))] → W p l e (headSpec wsX4_lasts rmX4_lasts).room S m [.ref (b 0)].toArray below meth c H locs 0 0 (MQ below (va_Qi (fun r' (_ : Unit) => r' = (fX4_lasts θ τ ρ).1) (rPost D cI b 1 (fX4_lasts θ τ ρ).2.1 (fX4_lasts θ τ ρ).2.2 ρ) (rA b sz)) [.ref (b 0)].toArray S 0 0 (rA b sz)) (F0 m 18 ls []) := by
    clear hC hl
    intro n1x
    induction n1x with
    | zero =>
      intro i1x σL1 hin1 hX1 hW1 hI1 H locs hC ls hl
      obtain rfl : 101 = i1x := by omega
      have q1 : fX4_lasts θ τ ρ = fX4_lasts_k1 θ1 σL1 := by subst eθ1 eτ2; unfold fX4_lasts; exact ((congrArg (fX4_lasts_k1x _) hX1.symm).trans rfl)
      refine lv_iload_n hx hb dX4_lasts_18 rfl (lv_at hl 0 rfl) ?_
      refine lv_bipush (v := 100) hx hb dX4_lasts_19 (by decide) ?_
      refine lv_icmp_gt (tgt := 49) hx hb dX4_lasts_21 (by decide) (fun c6 => ?_) (fun c6 => absurd (by decide) c6)
      refine lv_iconst (v := -1) hx hb dX4_lasts_49 (by decide) ?_
      have e0 : fX4_lasts_k1 θ1 σL1 = ((-1 : Int32), θ1, σL1) := by subst eθ1 eτ2; exact rfl
      have e : fX4_lasts θ τ ρ = ((-1 : Int32), θ1, σL1) := (q1.trans e0)
      exact r_iret hx hb hr hlocks hC dX4_lasts_50 ⟨by rw [e], by rw [e], by rw [e]⟩
    | succ n1x ih1 =>
      intro i1x σL1 hin1 hX1 hW1 hI1 H locs hC ls hl
      refine lv_iload_n hx hb dX4_lasts_18 rfl (lv_at hl 0 rfl) ?_
      refine lv_bipush (v := 100) hx hb dX4_lasts_19 (by decide) ?_
      refine lv_icmp_gt (tgt := 49) hx hb dX4_lasts_21 (by decide) (fun c3 => absurd c3 (show ¬ (100 : Int32) < nI i1x from (nI_nlt (a := 100) (b := i1x) (by omega) (by decide) : ¬ nI 100 < nI i1x))) (fun c3 => ?_)
      refine lv_aload_n hx hb dX4_lasts_24 rfl (lv_at hl 1 rfl) ?_
      refine rg_w hx hb hts h_iX4 hown hC 1 (by decide) h_f26 dX4_lasts_25 ?_
      refine r_iVv (n := 0) hF (c_X3_pass l D cI b 1 θ1 σL1 ρ (by decide)  N hW1 (by obtain ⟨u, hu, hv⟩ := hI1; rw [hv]; exact nI_pos (by omega))) gX4_lasts_X3_pass rfl rfl rfl (by decide +kernel) ⟨Nat.le_of_ble_eq_true rfl, Nat.le_of_ble_eq_true rfl⟩ hC hA (hC.recvS (by decide)) rfl hl.1 rfl (Nat.le_of_ble_eq_true rfl) dX4_lasts_28 ⟨Nat.zero_le _, Nat.zero_le _⟩ ?_
      clear hC; intro H locs τ4 eτ4 hC
      have hwτ4 : wf τ4 N := by rw [← eτ4]; exact wf_X3_pass hW1
      refine lv_aload_n hx hb dX4_lasts_31 rfl (lv_at hl 1 rfl) ?_
      refine rg_w hx hb hts h_iX4 hown hC 1 (by decide) h_f26 dX4_lasts_32 ?_
      refine rg_sN hx hb hts h_iX3 hown hC (by decide) 8 (by decide) h_f138 dX4_lasts_35 ?_
      refine lv_if_eq (tgt := 43) hx hb dX4_lasts_38 (by decide) (fun c5 => ?_) (fun c5 => ?_)
      · refine lv_iinc (v := (nI (i1x + 1))) (lv' := [(1, .int (nI (i1x + 1))), (0, .ref (b 0))]) hx hb dX4_lasts_43 hl (k := 0) rfl (nI_1 i1x) (by decide) rfl ?_
        clear hl; intro ls hl
        refine lv_goto (tgt := 18) hx hb dX4_lasts_46 (by decide) ?_
        have e : fX4_lasts_b1 θ1 i1x σL1 = .inr τ4 := by subst eτ4; unfold fX4_lasts_b1; exact ((if_pos c5).trans rfl)
        exact ih1 (i1x + 1) τ4 (by omega) ((itE_inr e).symm.trans hX1) hwτ4 (by obtain ⟨u, hu, hv⟩ := hI1; exact ⟨u + 1, by omega, by rw [← eτ4, fX3_pass_00 hW1, hv]; exact nI_1 _⟩) _ _ hC ls (lv_sub hl [0, 1] rfl)
      · refine lv_iload_n hx hb dX4_lasts_41 rfl (lv_at hl 0 rfl) ?_
        have e : fX4_lasts_b1 θ1 i1x σL1 = .inl ((nI i1x), θ1, τ4) := by subst eτ4; unfold fX4_lasts_b1; exact ((if_neg c5).trans rfl)
        have qq : fX4_lasts θ τ ρ = fX4_lasts_k1x θ1 (itE (fun i x => fX4_lasts_b1 θ1 i x) 1 100 τ2) := by subst eθ1 eτ2; unfold fX4_lasts; exact rfl
        have e : fX4_lasts θ τ ρ = ((nI i1x), θ1, τ4) := (qq.trans ((congrArg (fX4_lasts_k1x _) (hX1.symm.trans (itE_inl e))).trans rfl))
        exact r_iret hx hb hr hlocks hC dX4_lasts_42 ⟨by rw [e], by rw [e], by rw [e]⟩
  exact loop1 100 1 τ2 (by omega) rfl hwτ2 ⟨w, rfl, by rw [← eτ2, fX3_become_0 (by decide)]; exact hwk⟩ _ _ hC ls (lv_sub hl [0, 1] rfl)
abbrev rmX4_advise : Room := { frames := 6, cells := 0, slots := 0, locals := 132 }
def fX4_advise_b2 (θ1 : (Nat → Nat → Int32)) (i2x : Nat) (σL2 : (Nat → Nat → Int32)) : (Nat → Nat → Int32) :=
    let τ9 : (Nat → Nat → Int32) := (fX3_pass θ1 σL2)
    τ9
def fX4_advise_k2 (v1_3 : Int32) (v1_2 : Int32) (i1x : Nat) (σL2 : (Nat → Nat → Int32)) : Int32 × Int32 × (Nat → Nat → Int32) :=
    if v1_3 < (σL2 0 5) then
      ((σL2 0 5), (nI i1x), σL2)
    else
      (v1_3, v1_2, σL2)
def fX4_advise_b1 (ρ : (Nat → Nat → Int32)) (p0 : Int32) (θ1 : (Nat → Nat → Int32)) (i1x : Nat) (v1_3 : Int32) (v1_2 : Int32) (σL1 : (Nat → Nat → Int32)) : Int32 × Int32 × (Nat → Nat → Int32) :=
    if (fX4_others ρ p0 (nI i1x)) < (4 : Int32) then
      let τ6 : (Nat → Nat → Int32) := (fX3_become σL1 ρ)
      let τ7 : (Nat → Nat → Int32) := (fX3_set τ6 p0 (5 : Int32) (nI i1x))
      fX4_advise_k2 v1_3 v1_2 i1x (itR (fun i x => fX4_advise_b2 θ1 i x) 0 6 τ7)
    else
      (v1_3, v1_2, σL1)
def fX4_advise_k1 (θ1 : (Nat → Nat → Int32)) (v1_3 : Int32) (v1_2 : Int32) (σL1 : (Nat → Nat → Int32)) : Int32 × (Nat → Nat → Int32) × (Nat → Nat → Int32) :=
    (v1_2, θ1, σL1)
def fX4_advise_k1x (θ1 : (Nat → Nat → Int32)) (x : Int32 × Int32 × (Nat → Nat → Int32)) : Int32 × (Nat → Nat → Int32) × (Nat → Nat → Int32) := fX4_advise_k1 θ1 x.1 x.2.1 x.2.2
def fX4_advise (θ : (Nat → Nat → Int32)) (τ : (Nat → Nat → Int32)) (ρ : (Nat → Nat → Int32)) (p0 : Int32) : Int32 × (Nat → Nat → Int32) × (Nat → Nat → Int32) :=
    let θ1 : (Nat → Nat → Int32) := up2 θ 0 0 (0 : Int32)
    if (fX4_isMember ρ p0) = 0 then
      let θ14 : (Nat → Nat → Int32) := (fX4_no θ1 (1 : Int32)).2
      ((fX4_no θ1 (1 : Int32)).1, θ14, τ)
    else
      if (fX4_isDead ρ p0) = 0 then
        fX4_advise_k1x θ1 (itR (fun i x => fX4_advise_b1 ρ p0 θ1 i x.1 x.2.1 x.2.2) 0 3 ((-1 : Int32), (-1 : Int32), τ))
      else
        let θ13 : (Nat → Nat → Int32) := (fX4_no θ1 (2 : Int32)).2
        ((fX4_no θ1 (2 : Int32)).1, θ13, τ)
set_option maxHeartbeats 400000 in
set_option maxRecDepth 100000 in
theorem c_X4_advise (l : Launch) (D : va_G) (cI : ClassId) (b : Nat → Nat) (θ τ ρ : (Nat → Nat → Int32)) (p0 : Int32) (N : Nat) (hW : wf ρ N) (w : Nat) (hwk : ρ 0 0 = nI w) (hwb : w + 200 < 2 ^ 31) : rMi l yX4_advise wsX4_advise rmX4_advise D cI b [.ref (b 0), .int p0] 1 θ τ ρ (fX4_advise θ τ ρ p0).1 (fX4_advise θ τ ρ p0).2.1 (fX4_advise θ τ ρ p0).2.2 := by
  intro sz
  refine r_head (cc := cX4_advise) (maxL := 6) (ret := (some .int)) (plainFor_of_name (by decide)) rfl (Nat.le_of_ble_eq_true rfl) ?_
  intro p e S m below meth c hx hb hr hml hown hts hlocks hnm hsz hA hC ls hl
  have hF : CallFix p m c cX4_advise 6 S [.ref (b 0), .int p0].toArray wsX4_advise RX4 := ⟨hx, hb, hml, hown, hts⟩
  have h_f29 : (Cond.fieldLink RX4 29 "CombersSocietyModel" "thrown" "I").before [.ref (b 0), .int p0].toArray S = true := hts _ (by decide +kernel)
  have h_iX4 : ∀ w ∈ u_ws RX4 TX4 5, w ∈ wsX4_advise := by decide +kernel
  have h_f26 : (Cond.fieldLink RX4 26 "CombersSocietyModel" "ahead" "LCombersSocietyModel$State;").before [.ref (b 0), .int p0].toArray S = true := hts _ (by decide +kernel)
  have h_f22 : (Cond.fieldLink RX4 22 "CombersSocietyModel" "s" "LCombersSocietyModel$State;").before [.ref (b 0), .int p0].toArray S = true := hts _ (by decide +kernel)
  have h_f85 : (nw85).before [.ref (b 0), .int p0].toArray S = true := va_Nw.use rfl hC.2.2.2.2.nw85
  have h_iX3 : ∀ w ∈ u_ws RX3 TX3 12, w ∈ wsX4_advise := by decide +kernel
  have hl : lv_has ls 6 [(0, .ref (b 0)), (1, .int p0)] := hl
  refine lv_aload_n hx hb dX4_advise_0 rfl (lv_at hl 0 rfl) ?_
  refine lv_iconst (v := 0) hx hb dX4_advise_1 (by decide) ?_
  refine rp_m hx hb hts h_iX4 hown hC 0 (by decide) h_f29 dX4_advise_2 ?_
  clear hC; intro H locs θ1 eθ1 hC
  refine lv_aload_n hx hb dX4_advise_5 rfl (lv_at hl 0 rfl) ?_
  refine lv_iload_n hx hb dX4_advise_6 rfl (lv_at hl 1 rfl) ?_
  refine r_iVp (n := 1) hF (c_X4_isMember l D cI b θ1 ρ τ p0) gX4_advise_X4_isMember rfl rfl rfl (by decide +kernel) ⟨Nat.le_of_ble_eq_true rfl, Nat.le_of_ble_eq_true rfl⟩ (hC.sw (by decide)) hA hC.recvM rfl hl.1 rfl (Nat.le_of_ble_eq_true rfl) dX4_advise_7 ⟨Nat.zero_le _, Nat.zero_le _⟩ ?_
  clear hC; intro H locs hC
  have hC := hC.sw (by decide)
  refine lv_if_ne (tgt := 19) hx hb dX4_advise_10 (by decide) (fun c2 => ?_) (fun c2 => ?_)
  · refine lv_aload_n hx hb dX4_advise_19 rfl (lv_at hl 0 rfl) ?_
    refine lv_iload_n hx hb dX4_advise_20 rfl (lv_at hl 1 rfl) ?_
    refine r_iVp (n := 1) hF (c_X4_isDead l D cI b θ1 ρ τ p0 (mem_ix hW c2)) gX4_advise_X4_isDead rfl rfl rfl (by decide +kernel) ⟨Nat.le_of_ble_eq_true rfl, Nat.le_of_ble_eq_true rfl⟩ (hC.sw (by decide)) hA hC.recvM rfl hl.1 rfl (Nat.le_of_ble_eq_true rfl) dX4_advise_21 ⟨Nat.zero_le _, Nat.zero_le _⟩ ?_
    clear hC; intro H locs hC
    have hC := hC.sw (by decide)
    refine lv_if_eq (tgt := 33) hx hb dX4_advise_24 (by decide) (fun c3 => ?_) (fun c3 => ?_)
    · refine lv_iconst (v := -1) hx hb dX4_advise_33 (by decide) ?_
      refine lv_istore_n (lv' := [(2, .int (-1 : Int32)), (0, .ref (b 0)), (1, .int p0)]) hx hb dX4_advise_34 rfl hl (by decide) rfl ?_
      clear hl; intro ls hl
      refine lv_iconst (v := -1) hx hb dX4_advise_35 (by decide) ?_
      refine lv_istore_n (lv' := [(3, .int (-1 : Int32)), (2, .int (-1 : Int32)), (0, .ref (b 0)), (1, .int p0)]) hx hb dX4_advise_36 rfl hl (by decide) rfl ?_
      clear hl; intro ls hl
      refine lv_iconst (v := 0) hx hb dX4_advise_37 (by decide) ?_
      refine lv_istore (lv' := [(4, .int (0 : Int32)), (3, .int (-1 : Int32)), (2, .int (-1 : Int32)), (0, .ref (b 0)), (1, .int p0)]) hx hb dX4_advise_38 hl (by decide) rfl ?_
      clear hl; intro ls hl
      have loop1 : ∀ (n1x i1x : Nat) (v1_3 : Int32) (v1_2 : Int32) (σL1 : (Nat → Nat → Int32)), i1x + n1x = 3 → itR (fun i x => fX4_advise_b1 ρ p0 θ1 i x.1 x.2.1 x.2.2) i1x n1x (v1_3, v1_2, σL1) = itR (fun i x => fX4_advise_b1 ρ p0 θ1 i x.1 x.2.1 x.2.2) 0 3 ((-1 : Int32), (-1 : Int32), τ) → ∀ (H : Heap) (locs : List Loc), rB D cI b S (rA b sz) S.heap H locs 1 θ1 σL1 ρ → ∀ ls : Array Slot, lv_has ls 6 [(4, .int (nI i1x)), (3, .int v1_3), (2, .int v1_2), (0, .ref (b 0)), (1, .int p0)] → W p l e (headSpec wsX4_advise rmX4_advise).room S m [.ref (b 0), .int p0].toArray below meth c H locs 0 0 (MQ below (va_Qi (fun r' (_ : Unit) => r' = (fX4_advise θ τ ρ p0).1) (rPost D cI b 1 (fX4_advise θ τ ρ p0).2.1 (fX4_advise θ τ ρ p0).2.2 ρ) (rA b sz)) [.ref (b 0), .int p0].toArray S 0 0 (rA b sz)) (F0 m 40 ls []) := by
        clear hC hl
        intro n1x
        induction n1x with
        | zero =>
          intro i1x v1_3 v1_2 σL1 hin1 hX1 H locs hC ls hl
          obtain rfl : 3 = i1x := by omega
          have q1 : fX4_advise θ τ ρ p0 = fX4_advise_k1 θ1 v1_3 v1_2 σL1 := by subst eθ1; unfold fX4_advise; exact ((if_neg c2).trans ((if_pos c3).trans ((congrArg (fX4_advise_k1x _) hX1.symm).trans rfl)))
          refine lv_iload hx hb dX4_advise_40 (lv_at hl 0 rfl) ?_
          refine lv_iconst (v := 3) hx hb dX4_advise_42 (by decide) ?_
          refine lv_icmp_ge (tgt := 136) hx hb dX4_advise_43 (by decide) (fun c12 => ?_) (fun c12 => absurd (by decide) c12)
          refine lv_iload_n hx hb dX4_advise_136 rfl (lv_at hl 2 rfl) ?_
          have e0 : fX4_advise_k1 θ1 v1_3 v1_2 σL1 = (v1_2, θ1, σL1) := by subst eθ1; exact rfl
          have e : fX4_advise θ τ ρ p0 = (v1_2, θ1, σL1) := (q1.trans e0)
          exact r_iret hx hb hr hlocks hC dX4_advise_137 ⟨by rw [e], by rw [e], by rw [e]⟩
        | succ n1x ih1 =>
          intro i1x v1_3 v1_2 σL1 hin1 hX1 H locs hC ls hl
          refine lv_iload hx hb dX4_advise_40 (lv_at hl 0 rfl) ?_
          refine lv_iconst (v := 3) hx hb dX4_advise_42 (by decide) ?_
          refine lv_icmp_ge (tgt := 136) hx hb dX4_advise_43 (by decide) (fun c4 => absurd c4 (show ¬ (3 : Int32) ≤ nI i1x from (nI_ge (a := i1x) (b := 3) (by omega) (by decide) : ¬ nI 3 ≤ nI i1x))) (fun c4 => ?_)
          refine lv_aload_n hx hb dX4_advise_46 rfl (lv_at hl 3 rfl) ?_
          refine lv_iload_n hx hb dX4_advise_47 rfl (lv_at hl 4 rfl) ?_
          refine lv_iload hx hb dX4_advise_48 (lv_at hl 0 rfl) ?_
          refine r_iVp (n := 2) hF (c_X4_others l D cI b θ1 ρ σL1 p0 (nI i1x) (mem_ix hW c2) N hW) gX4_advise_X4_others rfl rfl rfl (by decide +kernel) ⟨Nat.le_of_ble_eq_true rfl, Nat.le_of_ble_eq_true rfl⟩ (hC.sw (by decide)) hA hC.recvM rfl hl.1 rfl (Nat.le_of_ble_eq_true rfl) dX4_advise_50 ⟨Nat.zero_le _, Nat.zero_le _⟩ ?_
          clear hC; intro H locs hC
          have hC := hC.sw (by decide)
          refine lv_iconst (v := 4) hx hb dX4_advise_53 (by decide) ?_
          refine lv_icmp_lt (tgt := 60) hx hb dX4_advise_54 (by decide) (fun c5 => ?_) (fun c5 => ?_)
          · refine lv_aload_n hx hb dX4_advise_60 rfl (lv_at hl 3 rfl) ?_
            refine rg_w hx hb hts h_iX4 hown hC 1 (by decide) h_f26 dX4_advise_61 ?_
            refine lv_aload_n hx hb dX4_advise_64 rfl (lv_at hl 3 rfl) ?_
            refine rg_w hx hb hts h_iX4 hown hC 0 (by decide) h_f22 dX4_advise_65 ?_
            refine r_iVv (n := 1) hF (c_X3_become l D cI b 1 θ1 σL1 ρ (by decide) ) gX4_advise_X3_become rfl rfl rfl (by decide +kernel) ⟨Nat.le_of_ble_eq_true rfl, Nat.le_of_ble_eq_true rfl⟩ hC hA (hC.recvS (by decide)) rfl hl.1 rfl (Nat.le_of_ble_eq_true rfl) dX4_advise_68 ⟨Nat.zero_le _, Nat.zero_le _⟩ ?_
            clear hC; intro H locs τ6 eτ6 hC
            have hwτ6 : wf τ6 N := by rw [← eτ6]; exact wf_X3_become hW
            refine lv_aload_n hx hb dX4_advise_71 rfl (lv_at hl 3 rfl) ?_
            refine rg_w hx hb hts h_iX4 hown hC 1 (by decide) h_f26 dX4_advise_72 ?_
            refine lv_iload_n hx hb dX4_advise_75 rfl (lv_at hl 4 rfl) ?_
            refine lv_iconst (v := 5) hx hb dX4_advise_76 (by decide) ?_
            refine lv_iload hx hb dX4_advise_77 (lv_at hl 0 rfl) ?_
            refine r_iVv (n := 3) hF (c_X3_set l D cI b 1 θ1 τ6 ρ (by decide) p0 (5 : Int32) (nI i1x) (mem_ix hW c2) ⟨5, by decide, rfl⟩) gX4_advise_X3_set rfl rfl rfl (by decide +kernel) ⟨Nat.le_of_ble_eq_true rfl, Nat.le_of_ble_eq_true rfl⟩ hC hA (hC.recvS (by decide)) rfl hl.1 rfl (Nat.le_of_ble_eq_true rfl) dX4_advise_79 ⟨Nat.zero_le _, Nat.zero_le _⟩ ?_
            clear hC; intro H locs τ7 eτ7 hC
            have hwτ7 : wf τ7 N := by rw [← eτ7]; exact wf_X3_setAT hwτ6 (mem_ix hW c2) (atR_of (by omega))
            refine lv_iconst (v := 0) hx hb dX4_advise_82 (by decide) ?_
            refine lv_istore (lv' := [(5, .int (0 : Int32)), (4, .int (nI i1x)), (3, .int v1_3), (2, .int v1_2), (0, .ref (b 0)), (1, .int p0)]) hx hb dX4_advise_83 hl (by decide) rfl ?_
            clear hl; intro ls hl
            have loop2 : ∀ (n2x i2x : Nat) (σL2 : (Nat → Nat → Int32)), i2x + n2x = 6 → itR (fun i x => fX4_advise_b2 θ1 i x) i2x n2x σL2 = itR (fun i x => fX4_advise_b2 θ1 i x) 0 6 τ7 → wf σL2 N → σL2 0 0 = nI (w + i2x) → ∀ (H : Heap) (locs : List Loc), rB D cI b S (rA b sz) S.heap H locs 1 θ1 σL2 ρ → ∀ ls : Array Slot, lv_has ls 6 [(5, .int (nI i2x)), (4, .int (nI i1x)), (3, .int v1_3), (2, .int v1_2), (0, .ref (b 0)), (1, .int p0)] → W p l e (headSpec wsX4_advise rmX4_advise).room S m [.ref (b 0), .int p0].toArray below meth c H locs 0 0 (MQ below (va_Qi (fun r' (_ : Unit) => r' = (fX4_advise θ τ ρ p0).1) (rPost D cI b 1 (fX4_advise θ τ ρ p0).2.1 (fX4_advise θ τ ρ p0).2.2 ρ) (rA b sz)) [.ref (b 0), .int p0].toArray S 0 0 (rA b sz)) (F0 m 85 ls []) := by
              clear hC hl
              intro n2x
              induction n2x with
              | zero =>
                intro i2x σL2 hin2 hX2 hW2 hI2 H locs hC ls hl
                obtain rfl : 6 = i2x := by omega
                have q2 : fX4_advise_b1 ρ p0 θ1 i1x v1_3 v1_2 σL1 = fX4_advise_k2 v1_3 v1_2 i1x σL2 := by subst eτ6 eτ7; unfold fX4_advise_b1; exact ((if_pos c5).trans ((congrArg (fX4_advise_k2 _ _ _) hX2.symm).trans rfl))
                refine lv_iload hx hb dX4_advise_85 (lv_at hl 0 rfl) ?_
                refine lv_bipush (v := 6) hx hb dX4_advise_87 (by decide) ?_
                refine lv_icmp_ge (tgt := 105) hx hb dX4_advise_89 (by decide) (fun c10 => ?_) (fun c10 => absurd (by decide) c10)
                refine lv_aload_n hx hb dX4_advise_105 rfl (lv_at hl 4 rfl) ?_
                refine rg_w hx hb hts h_iX4 hown hC 1 (by decide) h_f26 dX4_advise_106 ?_
                refine rg_sN hx hb hts h_iX3 hown hC (by decide) 5 (by decide) h_f85 dX4_advise_109 ?_
                refine lv_iload_n hx hb dX4_advise_112 rfl (lv_at hl 2 rfl) ?_
                refine lv_icmp_gt (tgt := 119) hx hb dX4_advise_113 (by decide) (fun c11 => ?_) (fun c11 => ?_)
                · refine lv_iload hx hb dX4_advise_119 (lv_at hl 1 rfl) ?_
                  refine lv_istore_n (lv' := [(2, .int (nI i1x)), (5, .int (nI 6)), (4, .int (nI i1x)), (3, .int v1_3), (0, .ref (b 0)), (1, .int p0)]) hx hb dX4_advise_121 rfl hl (by decide) rfl ?_
                  clear hl; intro ls hl
                  refine lv_aload_n hx hb dX4_advise_122 rfl (lv_at hl 4 rfl) ?_
                  refine rg_w hx hb hts h_iX4 hown hC 1 (by decide) h_f26 dX4_advise_123 ?_
                  refine rg_sN hx hb hts h_iX3 hown hC (by decide) 5 (by decide) h_f85 dX4_advise_126 ?_
                  refine lv_istore_n (lv' := [(3, .int (σL2 0 5)), (2, .int (nI i1x)), (5, .int (nI 6)), (4, .int (nI i1x)), (0, .ref (b 0)), (1, .int p0)]) hx hb dX4_advise_129 rfl hl (by decide) rfl ?_
                  clear hl; intro ls hl
                  refine lv_iinc (v := (nI (i1x + 1))) (lv' := [(4, .int (nI (i1x + 1))), (3, .int (σL2 0 5)), (2, .int (nI i1x)), (5, .int (nI 6)), (0, .ref (b 0)), (1, .int p0)]) hx hb dX4_advise_130 hl (k := 3) rfl (nI_1 i1x) (by decide) rfl ?_
                  clear hl; intro ls hl
                  refine lv_goto (tgt := 40) hx hb dX4_advise_133 (by decide) ?_
                  have e0 : fX4_advise_k2 v1_3 v1_2 i1x σL2 = ((σL2 0 5), (nI i1x), σL2) := by subst eτ6 eτ7; unfold fX4_advise_k2; exact ((if_pos c11).trans rfl)
                  have e : fX4_advise_b1 ρ p0 θ1 i1x v1_3 v1_2 σL1 = ((σL2 0 5), (nI i1x), σL2) := (q2.trans e0)
                  exact ih1 (i1x + 1) (σL2 0 5) (nI i1x) σL2 (by omega) (by rw [← e]; exact hX1) _ _ hC ls (lv_sub hl [0, 1, 2, 4, 5] rfl)
                · refine lv_goto (tgt := 130) hx hb dX4_advise_116 (by decide) ?_
                  refine lv_iinc (v := (nI (i1x + 1))) (lv' := [(4, .int (nI (i1x + 1))), (5, .int (nI 6)), (3, .int v1_3), (2, .int v1_2), (0, .ref (b 0)), (1, .int p0)]) hx hb dX4_advise_130 hl (k := 1) rfl (nI_1 i1x) (by decide) rfl ?_
                  clear hl; intro ls hl
                  refine lv_goto (tgt := 40) hx hb dX4_advise_133 (by decide) ?_
                  have e0 : fX4_advise_k2 v1_3 v1_2 i1x σL2 = (v1_3, v1_2, σL2) := by subst eτ6 eτ7; unfold fX4_advise_k2; exact ((if_neg c11).trans rfl)
                  have e : fX4_advise_b1 ρ p0 θ1 i1x v1_3 v1_2 σL1 = (v1_3, v1_2, σL2) := (q2.trans e0)
                  exact ih1 (i1x + 1) v1_3 v1_2 σL2 (by omega) (by rw [← e]; exact hX1) _ _ hC ls (lv_sub hl [0, 2, 3, 4, 5] rfl)
              | succ n2x ih2 =>
                intro i2x σL2 hin2 hX2 hW2 hI2 H locs hC ls hl
                refine lv_iload hx hb dX4_advise_85 (lv_at hl 0 rfl) ?_
                refine lv_bipush (v := 6) hx hb dX4_advise_87 (by decide) ?_
                refine lv_icmp_ge (tgt := 105) hx hb dX4_advise_89 (by decide) (fun c8 => absurd c8 (show ¬ (6 : Int32) ≤ nI i2x from (nI_ge (a := i2x) (b := 6) (by omega) (by decide) : ¬ nI 6 ≤ nI i2x))) (fun c8 => ?_)
                refine lv_aload_n hx hb dX4_advise_92 rfl (lv_at hl 4 rfl) ?_
                refine rg_w hx hb hts h_iX4 hown hC 1 (by decide) h_f26 dX4_advise_93 ?_
                refine r_iVv (n := 0) hF (c_X3_pass l D cI b 1 θ1 σL2 ρ (by decide)  N hW2 (by rw [hI2]; exact nI_pos (by omega))) gX4_advise_X3_pass rfl rfl rfl (by decide +kernel) ⟨Nat.le_of_ble_eq_true rfl, Nat.le_of_ble_eq_true rfl⟩ hC hA (hC.recvS (by decide)) rfl hl.1 rfl (Nat.le_of_ble_eq_true rfl) dX4_advise_96 ⟨Nat.zero_le _, Nat.zero_le _⟩ ?_
                clear hC; intro H locs τ9 eτ9 hC
                have hwτ9 : wf τ9 N := by rw [← eτ9]; exact wf_X3_pass hW2
                refine lv_iinc (v := (nI (i2x + 1))) (lv' := [(5, .int (nI (i2x + 1))), (4, .int (nI i1x)), (3, .int v1_3), (2, .int v1_2), (0, .ref (b 0)), (1, .int p0)]) hx hb dX4_advise_99 hl (k := 0) rfl (nI_1 i2x) (by decide) rfl ?_
                clear hl; intro ls hl
                refine lv_goto (tgt := 85) hx hb dX4_advise_102 (by decide) ?_
                have e : fX4_advise_b2 θ1 i2x σL2 = τ9 := by subst eτ9; exact rfl
                exact ih2 (i2x + 1) τ9 (by omega) (by rw [← e]; exact hX2) hwτ9 (by rw [← eτ9, fX3_pass_00 hW2, hI2]; exact nI_1 _) _ _ hC ls (lv_sub hl [0, 1, 2, 3, 4, 5] rfl)
            exact loop2 6 0 τ7 (by omega) rfl hwτ7 (by rw [← eτ7, fX3_set_00, ← eτ6, fX3_become_0 (by decide)]; exact hwk) _ _ hC ls (lv_sub hl [0, 1, 2, 3, 4, 5] rfl)
          · refine lv_goto (tgt := 130) hx hb dX4_advise_57 (by decide) ?_
            refine lv_iinc (v := (nI (i1x + 1))) (lv' := [(4, .int (nI (i1x + 1))), (3, .int v1_3), (2, .int v1_2), (0, .ref (b 0)), (1, .int p0)]) hx hb dX4_advise_130 hl (k := 0) rfl (nI_1 i1x) (by decide) rfl ?_
            clear hl; intro ls hl
            refine lv_goto (tgt := 40) hx hb dX4_advise_133 (by decide) ?_
            have e : fX4_advise_b1 ρ p0 θ1 i1x v1_3 v1_2 σL1 = (v1_3, v1_2, σL1) := by unfold fX4_advise_b1; exact ((if_neg c5).trans rfl)
            exact ih1 (i1x + 1) v1_3 v1_2 σL1 (by omega) (by rw [← e]; exact hX1) _ _ hC ls (lv_sub hl [0, 1, 2, 3, 4] rfl)
      exact loop1 3 0 (-1 : Int32) (-1 : Int32) τ (by omega) rfl _ _ hC ls (lv_sub hl [0, 1, 2, 3, 4] rfl)
    · refine lv_aload_n hx hb dX4_advise_27 rfl (lv_at hl 0 rfl) ?_
      refine lv_iconst (v := 2) hx hb dX4_advise_28 (by decide) ?_
      refine r_iVm (n := 1) hF (c_X4_no l D cI b 1 θ1 τ ρ (2 : Int32)) gX4_advise_X4_no rfl rfl rfl (by decide +kernel) ⟨Nat.le_of_ble_eq_true rfl, Nat.le_of_ble_eq_true rfl⟩ hC hA hC.recvM rfl hl.1 rfl (Nat.le_of_ble_eq_true rfl) dX4_advise_29 ⟨Nat.zero_le _, Nat.zero_le _⟩ ?_
      clear hC; intro H locs θ13 eθ13 hC
      have e : fX4_advise θ τ ρ p0 = ((fX4_no θ1 (2 : Int32)).1, θ13, τ) := by subst eθ1 eθ13; unfold fX4_advise; exact ((if_neg c2).trans ((if_neg c3).trans rfl))
      exact r_iret hx hb hr hlocks hC dX4_advise_32 ⟨by rw [e], by rw [e], by rw [e]⟩
  · refine lv_aload_n hx hb dX4_advise_13 rfl (lv_at hl 0 rfl) ?_
    refine lv_iconst (v := 1) hx hb dX4_advise_14 (by decide) ?_
    refine r_iVm (n := 1) hF (c_X4_no l D cI b 1 θ1 τ ρ (1 : Int32)) gX4_advise_X4_no rfl rfl rfl (by decide +kernel) ⟨Nat.le_of_ble_eq_true rfl, Nat.le_of_ble_eq_true rfl⟩ hC hA hC.recvM rfl hl.1 rfl (Nat.le_of_ble_eq_true rfl) dX4_advise_15 ⟨Nat.zero_le _, Nat.zero_le _⟩ ?_
    clear hC; intro H locs θ14 eθ14 hC
    have e : fX4_advise θ τ ρ p0 = ((fX4_no θ1 (1 : Int32)).1, θ14, τ) := by subst eθ1 eθ14; unfold fX4_advise; exact ((if_pos c2).trans rfl)
    exact r_iret hx hb hr hlocks hC dX4_advise_18 ⟨by rw [e], by rw [e], by rw [e]⟩
