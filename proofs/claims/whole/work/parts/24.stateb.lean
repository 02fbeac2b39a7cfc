abbrev rmX3_comb : Room := { frames := 4, cells := 0, slots := 0, locals := 88 }
def fX3_comb_b1 (i1x : Nat) (σL1 : (Nat → Nat → Int32)) : (Nat → Nat → Int32) :=
    if (fX3_combs σL1 (nI i1x)) = 0 then
      σL1
    else
      let τ3 : (Nat → Nat → Int32) := up2 σL1 0 4 ((σL1 0 4) - (mnI (σL1 0 4) (fX3_pounds σL1 (nI i1x))))
      let τ4 : (Nat → Nat → Int32) := up2 τ3 0 5 ((τ3 0 5) + (mnI (σL1 0 4) (fX3_pounds σL1 (nI i1x))))
      let τ5 : (Nat → Nat → Int32) := (fX3_set τ4 (nI i1x) (2 : Int32) ((fX3_of τ4 (nI i1x) (2 : Int32)) + ((mnI (σL1 0 4) (fX3_pounds σL1 (nI i1x))) / (2 : Int32))))
      τ5
def fX3_comb_k1 (σL1 : (Nat → Nat → Int32)) : (Nat → Nat → Int32) :=
    σL1
def fX3_comb (τ : (Nat → Nat → Int32)) : (Nat → Nat → Int32) :=
    (fun x => fX3_comb_k1 x) (itR (fun i x => fX3_comb_b1 i x) 0 (wfn τ) τ)
theorem wf_X3_comb_b1 {x : Nat → Nat → Int32} {N i : Nat} (hi : i < 12) (hx : wf x N) : wf (fX3_comb_b1 i x) N := by
  unfold fX3_comb_b1
  split
  · exact hx
  · exact wf_X3_set (wf_up0 (wf_up0 hx (by decide)) (by decide)) ⟨i, hi, rfl⟩ ⟨2, by decide, rfl⟩ (by decide)
theorem wf_X3_comb {τ : Nat → Nat → Int32} {N : Nat} (h : wf τ N) : wf (fX3_comb τ) N := by
  unfold fX3_comb fX3_comb_k1
  exact itR_pres (P := fun x => wf x N) (f := fun i x => fX3_comb_b1 i x) (N := 12) (fun i x hi hx => wf_X3_comb_b1 hi hx) (wfn τ) 0 τ (by rw [wfn_eq h]; have := h.2.1; omega) h
theorem fX3_comb_00 {τ : Nat → Nat → Int32} {N : Nat} (h : wf τ N) : fX3_comb τ 0 0 = τ 0 0 := by
  have step : ∀ (i : Nat) (x : Nat → Nat → Int32), i < 12 → x 0 0 = τ 0 0 → (fX3_comb_b1 i x) 0 0 = τ 0 0 := by
    intro i x hi hx
    unfold fX3_comb_b1
    split
    · exact hx
    · dsimp only
      rw [fX3_set_00]
      simpa [up2] using hx
  unfold fX3_comb fX3_comb_k1
  exact itR_pres (P := fun x => x 0 0 = τ 0 0) (f := fun i x => fX3_comb_b1 i x) step (wfn τ) 0 τ (by rw [wfn_eq h]; have := h.2.1; omega) rfl
set_option maxHeartbeats 400000 in
set_option maxRecDepth 100000 in
theorem c_X3_comb (l : Launch) (D : va_G) (cI : ClassId) (b : Nat → Nat) (s : Nat) (θ τ ρ : (Nat → Nat → Int32)) (hs : s < 2) (N : Nat) (hW : wf τ N) : rMv l yX3_comb wsX3_comb rmX3_comb D cI b [.ref (b (3*s+2+0))] s θ τ ρ θ (fX3_comb τ) := by
  intro sz
  refine r_head (cc := cX3_comb) (maxL := 3) (ret := none) (plainFor_of_name (by decide)) rfl (Nat.le_of_ble_eq_true rfl) ?_
  intro p e S m below meth c hx hb hr hml hown hts hlocks hnm hsz hA hC ls hl
  have hF : CallFix p m c cX3_comb 3 S [.ref (b (3*s+2+0))].toArray wsX3_comb RX3 := ⟨hx, hb, hml, hown, hts⟩
  have h_f35 : (Cond.fieldLink RX3 35 "CombersSocietyModel$State" "members" "I").before [.ref (b (3*s+2+0))].toArray S = true := hts _ (by decide +kernel)
  have h_iX3 : ∀ w ∈ u_ws RX3 TX3 12, w ∈ wsX3_comb := by decide +kernel
  have h_f22 : (Cond.fieldLink RX3 22 "CombersSocietyModel$State" "wool" "I").before [.ref (b (3*s+2+0))].toArray S = true := hts _ (by decide +kernel)
  have h_ml69 : (Cond.methodLink RX3 69 Lib.Math.min.name).before [.ref (b (3*s+2+0))].toArray S = true := hts _ (by decide +kernel)
  have h_ms69 : (Cond.static Lib.Math.min.name).before [.ref (b (3*s+2+0))].toArray S = true := hts _ (by decide +kernel)
  have h_mini : (Cond.initialized "java/lang/Math").before [.ref (b (3*s+2+0))].toArray S = true := hts _ (by decide +kernel)
  have h_mc69 : (Cond.code Lib.Math.min.name Lib.Math.min.code 2 (some .int)).before [.ref (b (3*s+2+0))].toArray S = true := hts _ (by decide +kernel)
  have h_f38 : (Cond.fieldLink RX3 38 "CombersSocietyModel$State" "tops" "I").before [.ref (b (3*s+2+0))].toArray S = true := hts _ (by decide +kernel)
  have hl : lv_has ls 3 [(0, .ref (b (3*s+2+0)))] := hl
  refine lv_iconst (v := 0) hx hb dX3_comb_0 (by decide) ?_
  refine lv_istore_n (lv' := [(1, .int (0 : Int32)), (0, .ref (b (3*s+2+0)))]) hx hb dX3_comb_1 rfl hl (by decide) rfl ?_
  clear hl; intro ls hl
  have loop1 : ∀ (n1x i1x : Nat) (σL1 : (Nat → Nat → Int32)), i1x + n1x = N → itR (fun i x => fX3_comb_b1 i x) i1x n1x σL1 = itR (fun i x => fX3_comb_b1 i x) 0 (wfn τ) τ → wf σL1 N → ∀ (H : Heap) (locs : List Loc), rB D cI b S (rA b sz) S.heap H locs s θ σL1 ρ → ∀ ls : Array Slot, lv_has ls 3 [(1, .int (nI i1x)), (0, .ref (b (3*s+2+0)))] → W p l e (headSpec wsX3_comb rmX3_comb).room S m [.ref (b (3*s+2+0))].toArray below meth c H locs 0 0 (MQ below (va_Qv (fun (_ : Unit) => True) (rPost D cI b s θ (fX3_comb τ) ρ) (rA b sz)) [.ref (b (3*s+2+0))].toArray S 0 0 (rA b sz)) (F0 m 2 ls []) := by
    clear hC hl
    intro n1x
    induction n1x with
    | zero =>
      intro i1x σL1 hin1 hX1 hW1 H locs hC ls hl
      obtain rfl : N = i1x := by omega
      refine lv_iload_n hx hb dX3_comb_2 rfl (lv_at hl 0 rfl) ?_
      refine lv_aload_n hx hb dX3_comb_3 rfl (lv_at hl 1 rfl) ?_
      refine rg_s hx hb hts h_iX3 hown hC hs 1 (by decide) h_f35 dX3_comb_4 ?_
      refine lv_icmp_ge (tgt := 76) hx hb dX3_comb_7 (by decide) (fun c6 => ?_) (fun c6 => absurd (wf_ex hW1) c6)
      have e : fX3_comb τ = σL1 := by exact ((congrArg (fun x => fX3_comb_k1 x) hX1.symm).trans rfl)
      exact r_vret hx hb hr hlocks hC dX3_comb_76 ⟨rfl, by rw [e]⟩
    | succ n1x ih1 =>
      intro i1x σL1 hin1 hX1 hW1 H locs hC ls hl
      have hN12 := wf_12 hW1
      refine lv_iload_n hx hb dX3_comb_2 rfl (lv_at hl 0 rfl) ?_
      refine lv_aload_n hx hb dX3_comb_3 rfl (lv_at hl 1 rfl) ?_
      refine rg_s hx hb hts h_iX3 hown hC hs 1 (by decide) h_f35 dX3_comb_4 ?_
      refine lv_icmp_ge (tgt := 76) hx hb dX3_comb_7 (by decide) (fun c1 => absurd c1 (wf_in hW1 (by omega))) (fun c1 => ?_)
      refine lv_aload_n hx hb dX3_comb_10 rfl (lv_at hl 1 rfl) ?_
      refine lv_iload_n hx hb dX3_comb_11 rfl (lv_at hl 0 rfl) ?_
      refine r_iVp (n := 1) hF (c_X3_combs l D cI b s θ σL1 ρ hs (nI i1x) ⟨i1x, by omega, rfl⟩) gX3_comb_X3_combs rfl rfl rfl (by decide +kernel) ⟨Nat.le_of_ble_eq_true rfl, Nat.le_of_ble_eq_true rfl⟩ hC hA (hC.recvS hs) rfl hl.1 rfl (Nat.le_of_ble_eq_true rfl) dX3_comb_12 ⟨Nat.zero_le _, Nat.zero_le _⟩ ?_
      clear hC; intro H locs hC
      refine lv_if_ne (tgt := 21) hx hb dX3_comb_15 (by decide) (fun c2 => ?_) (fun c2 => ?_)
      · refine lv_aload_n hx hb dX3_comb_21 rfl (lv_at hl 1 rfl) ?_
        refine rg_s hx hb hts h_iX3 hown hC hs 4 (by decide) h_f22 dX3_comb_22 ?_
        refine lv_aload_n hx hb dX3_comb_25 rfl (lv_at hl 1 rfl) ?_
        refine lv_iload_n hx hb dX3_comb_26 rfl (lv_at hl 0 rfl) ?_
        refine r_iVp (n := 1) hF (c_X3_pounds l D cI b s θ σL1 ρ hs (nI i1x) ⟨i1x, by omega, rfl⟩ N hW1 (combs_at hW1 (by omega) c2)) gX3_comb_X3_pounds rfl rfl rfl (by decide +kernel) ⟨Nat.le_of_ble_eq_true rfl, Nat.le_of_ble_eq_true rfl⟩ hC hA (hC.recvS hs) rfl hl.1 rfl (Nat.le_of_ble_eq_true rfl) dX3_comb_27 ⟨Nat.zero_le _, Nat.zero_le _⟩ ?_
        clear hC; intro H locs hC
        refine c_mmin hx hb (hml.trans hl.1.symm) hown h_ml69 h_ms69 h_mini h_mc69 (Nat.le_of_ble_eq_true rfl) (Nat.le_of_ble_eq_true rfl) (Nat.zero_le _) (Nat.zero_le _) dX3_comb_30 ?_
        refine lv_istore_n (lv' := [(2, .int (mnI (σL1 0 4) (fX3_pounds σL1 (nI i1x)))), (1, .int (nI i1x)), (0, .ref (b (3*s+2+0)))]) hx hb dX3_comb_33 rfl hl (by decide) rfl ?_
        clear hl; intro ls hl
        refine lv_aload_n hx hb dX3_comb_34 rfl (lv_at hl 2 rfl) ?_
        refine lv_dup hx hb dX3_comb_35 rfl ?_
        refine rg_s hx hb hts h_iX3 hown hC hs 4 (by decide) h_f22 dX3_comb_36 ?_
        refine lv_iload_n hx hb dX3_comb_39 rfl (lv_at hl 0 rfl) ?_
        refine lv_isub hx hb dX3_comb_40 ?_
        refine rp_s hx hb hts h_iX3 hown hC hs 4 (by decide) h_f22 dX3_comb_41 ?_
        clear hC; intro H locs τ3 eτ3 hC
        have hwτ3 : wf τ3 N := by rw [← eτ3]; exact wf_up0 hW1 (by decide)
        refine lv_aload_n hx hb dX3_comb_44 rfl (lv_at hl 2 rfl) ?_
        refine lv_dup hx hb dX3_comb_45 rfl ?_
        refine rg_s hx hb hts h_iX3 hown hC hs 5 (by decide) h_f38 dX3_comb_46 ?_
        refine lv_iload_n hx hb dX3_comb_49 rfl (lv_at hl 0 rfl) ?_
        refine lv_iadd hx hb dX3_comb_50 ?_
        refine rp_s hx hb hts h_iX3 hown hC hs 5 (by decide) h_f38 dX3_comb_51 ?_
        clear hC; intro H locs τ4 eτ4 hC
        have hwτ4 : wf τ4 N := by rw [← eτ4]; exact wf_up0 hwτ3 (by decide)
        refine lv_aload_n hx hb dX3_comb_54 rfl (lv_at hl 2 rfl) ?_
        refine lv_iload_n hx hb dX3_comb_55 rfl (lv_at hl 1 rfl) ?_
        refine lv_iconst (v := 2) hx hb dX3_comb_56 (by decide) ?_
        refine lv_aload_n hx hb dX3_comb_57 rfl (lv_at hl 2 rfl) ?_
        refine lv_iload_n hx hb dX3_comb_58 rfl (lv_at hl 1 rfl) ?_
        refine lv_iconst (v := 2) hx hb dX3_comb_59 (by decide) ?_
        refine r_iVp (n := 2) hF (c_X3_of l D cI b s θ τ4 ρ hs (nI i1x) (2 : Int32) ⟨i1x, by omega, rfl⟩ ⟨2, by decide, rfl⟩) gX3_comb_X3_of rfl rfl rfl (by decide +kernel) ⟨Nat.le_of_ble_eq_true rfl, Nat.le_of_ble_eq_true rfl⟩ hC hA (hC.recvS hs) rfl hl.1 rfl (Nat.le_of_ble_eq_true rfl) dX3_comb_60 ⟨Nat.zero_le _, Nat.zero_le _⟩ ?_
        clear hC; intro H locs hC
        refine lv_iload_n hx hb dX3_comb_63 rfl (lv_at hl 0 rfl) ?_
        refine lv_iconst (v := 2) hx hb dX3_comb_64 (by decide) ?_
        refine lv_idiv hx hb dX3_comb_65 (by decide) ?_
        refine lv_iadd hx hb dX3_comb_66 ?_
        refine r_iVv (n := 3) hF (c_X3_set l D cI b s θ τ4 ρ hs (nI i1x) (2 : Int32) ((fX3_of τ4 (nI i1x) (2 : Int32)) + ((mnI (σL1 0 4) (fX3_pounds σL1 (nI i1x))) / (2 : Int32))) ⟨i1x, by omega, rfl⟩ ⟨2, by decide, rfl⟩) gX3_comb_X3_set rfl rfl rfl (by decide +kernel) ⟨Nat.le_of_ble_eq_true rfl, Nat.le_of_ble_eq_true rfl⟩ hC hA (hC.recvS hs) rfl hl.1 rfl (Nat.le_of_ble_eq_true rfl) dX3_comb_67 ⟨Nat.zero_le _, Nat.zero_le _⟩ ?_
        clear hC; intro H locs τ5 eτ5 hC
        have hwτ5 : wf τ5 N := by rw [← eτ5]; exact wf_X3_set hwτ4 ⟨i1x, by omega, rfl⟩ ⟨2, by decide, rfl⟩ (by decide)
        refine lv_iinc (v := (nI (i1x + 1))) (lv' := [(1, .int (nI (i1x + 1))), (2, .int (mnI (σL1 0 4) (fX3_pounds σL1 (nI i1x)))), (0, .ref (b (3*s+2+0)))]) hx hb dX3_comb_70 hl (k := 1) rfl (nI_1 i1x) (by decide) rfl ?_
        clear hl; intro ls hl
        refine lv_goto (tgt := 2) hx hb dX3_comb_73 (by decide) ?_
        have e : fX3_comb_b1 i1x σL1 = τ5 := by subst eτ3 eτ4 eτ5; exact ((if_neg c2).trans rfl)
        exact ih1 (i1x + 1) τ5 (by omega) (by rw [← e]; exact hX1) hwτ5 _ _ hC ls (lv_sub hl [0, 2] rfl)
      · refine lv_goto (tgt := 70) hx hb dX3_comb_18 (by decide) ?_
        refine lv_iinc (v := (nI (i1x + 1))) (lv' := [(1, .int (nI (i1x + 1))), (0, .ref (b (3*s+2+0)))]) hx hb dX3_comb_70 hl (k := 0) rfl (nI_1 i1x) (by decide) rfl ?_
        clear hl; intro ls hl
        refine lv_goto (tgt := 2) hx hb dX3_comb_73 (by decide) ?_
        have e : fX3_comb_b1 i1x σL1 = σL1 := by exact ((if_pos c2).trans rfl)
        exact ih1 (i1x + 1) σL1 (by omega) (by rw [← e]; exact hX1) hW1 _ _ hC ls (lv_sub hl [0, 1] rfl)
  exact loop1 N 0 τ (by omega) (by rw [wfn_eq hW]) hW _ _ hC ls (lv_sub hl [0, 1] rfl)
abbrev rmX3_fever : Room := { frames := 2, cells := 0, slots := 0, locals := 43 }
def fX3_fever_b1 (θ : (Nat → Nat → Int32)) (τ : (Nat → Nat → Int32)) (i1x : Nat) (σL1 : (Nat → Nat → Int32)) : (Nat → Nat → Int32) :=
    if (θ 1 (((τ 0 0) - (τ 0 0) / (8 : Int32) * (8 : Int32))).toNatClampNeg) = (-1 : Int32) then
      σL1
    else
      if (fX3_combs σL1 (nI i1x)) = 0 then
        σL1
      else
        if (fX3_of σL1 (nI i1x) (5 : Int32)) = (θ 1 (((τ 0 0) - (τ 0 0) / (8 : Int32) * (8 : Int32))).toNatClampNeg) then
          let τ5 : (Nat → Nat → Int32) := (fX3_set σL1 (nI i1x) (6 : Int32) (1 : Int32))
          let τ6 : (Nat → Nat → Int32) := (fX3_set τ5 (nI i1x) (7 : Int32) ((6 : Int32) - ((fX3_of τ5 (nI i1x) (1 : Int32)) / (4 : Int32))))
          let τ7 : (Nat → Nat → Int32) := (fX3_set τ6 (nI i1x) (8 : Int32) (0 : Int32))
          τ7
        else
          σL1
def fX3_fever_k1 (σL1 : (Nat → Nat → Int32)) : (Nat → Nat → Int32) :=
    σL1
def fX3_fever (θ : (Nat → Nat → Int32)) (τ : (Nat → Nat → Int32)) : (Nat → Nat → Int32) :=
    (fun x => fX3_fever_k1 x) (itR (fun i x => fX3_fever_b1 θ τ i x) 0 (wfn τ) τ)
theorem wf_X3_fever_b1 {θ t x : Nat → Nat → Int32} {N i : Nat} (hi : i < 12) (hx : wf x N) : wf (fX3_fever_b1 θ t i x) N := by
  unfold fX3_fever_b1
  repeat' split
  all_goals first | with_reducible exact hx | exact wf_X3_set (wf_X3_set (wf_X3_set hx ⟨i, hi, rfl⟩ ⟨6, by decide, rfl⟩ (by decide)) ⟨i, hi, rfl⟩ ⟨7, by decide, rfl⟩ (by decide)) ⟨i, hi, rfl⟩ ⟨8, by decide, rfl⟩ (by decide)
theorem wf_X3_fever {θ τ : Nat → Nat → Int32} {N : Nat} (h : wf τ N) : wf (fX3_fever θ τ) N := by
  unfold fX3_fever fX3_fever_k1
  exact itR_pres (P := fun x => wf x N) (f := fun i x => fX3_fever_b1 θ τ i x) (N := 12) (fun i x hi hx => wf_X3_fever_b1 hi hx) (wfn τ) 0 τ (by rw [wfn_eq h]; have := h.2.1; omega) h
set_option maxHeartbeats 400000 in
set_option maxRecDepth 100000 in
theorem c_X3_fever (l : Launch) (D : va_G) (cI : ClassId) (b : Nat → Nat) (s : Nat) (θ τ ρ : (Nat → Nat → Int32)) (hs : s < 2) (N : Nat) (hW : wf τ N) (hwk : ¬ τ 0 0 < 0) : rMv l yX3_fever wsX3_fever rmX3_fever D cI b [.ref (b (3*s+2+0))] s θ τ ρ θ (fX3_fever θ τ) := by
  intro sz
  refine r_head (cc := cX3_fever) (maxL := 3) (ret := none) (plainFor_of_name (by decide)) rfl (Nat.le_of_ble_eq_true rfl) ?_
  intro p e S m below meth c hx hb hr hml hown hts hlocks hnm hsz hA hC ls hl
  have hF : CallFix p m c cX3_fever 3 S [.ref (b (3*s+2+0))].toArray wsX3_fever RX3 := ⟨hx, hb, hml, hown, hts⟩
  have h_f3 : (Cond.fieldLink RX3 3 "CombersSocietyModel$State" "this$0" "LCombersSocietyModel;").before [.ref (b (3*s+2+0))].toArray S = true := hts _ (by decide +kernel)
  have h_iX3 : ∀ w ∈ u_ws RX3 TX3 12, w ∈ wsX3_fever := by decide +kernel
  have h_f84 : (nw84).before [.ref (b (3*s+2+0))].toArray S = true := va_Nw.use rfl hC.2.2.2.2.nw84
  have h_iX4 : ∀ w ∈ u_ws RX4 TX4 5, w ∈ wsX3_fever := by decide +kernel
  have h_f32 : (Cond.fieldLink RX3 32 "CombersSocietyModel$State" "week" "I").before [.ref (b (3*s+2+0))].toArray S = true := hts _ (by decide +kernel)
  have h_f35 : (Cond.fieldLink RX3 35 "CombersSocietyModel$State" "members" "I").before [.ref (b (3*s+2+0))].toArray S = true := hts _ (by decide +kernel)
  have hl : lv_has ls 3 [(0, .ref (b (3*s+2+0)))] := hl
  refine lv_aload_n hx hb dX3_fever_0 rfl (lv_at hl 0 rfl) ?_
  refine rg_t hx hb hts h_iX3 hown hC hs h_f3 dX3_fever_1 ?_
  refine rg_fN hx hb hts h_iX4 hown hC h_f84 dX3_fever_4 ?_
  refine lv_aload_n hx hb dX3_fever_7 rfl (lv_at hl 0 rfl) ?_
  refine rg_s hx hb hts h_iX3 hown hC hs 0 (by decide) h_f32 dX3_fever_8 ?_
  refine lv_bipush (v := 8) hx hb dX3_fever_11 (by decide) ?_
  refine lv_irem hx hb dX3_fever_13 (by decide) ?_
  refine r_fld hx hb hC (j := (((τ 0 0) - (τ 0 0) / (8 : Int32) * (8 : Int32))).toNatClampNeg) (ixt (rem8 hwk) (by decide)).1 (ixt (rem8 hwk) (by decide)).2 dX3_fever_14 ?_
  refine lv_istore_n (lv' := [(1, .int (θ 1 (((τ 0 0) - (τ 0 0) / (8 : Int32) * (8 : Int32))).toNatClampNeg)), (0, .ref (b (3*s+2+0)))]) hx hb dX3_fever_15 rfl hl (by decide) rfl ?_
  clear hl; intro ls hl
  refine lv_iconst (v := 0) hx hb dX3_fever_16 (by decide) ?_
  refine lv_istore_n (lv' := [(2, .int (0 : Int32)), (1, .int (θ 1 (((τ 0 0) - (τ 0 0) / (8 : Int32) * (8 : Int32))).toNatClampNeg)), (0, .ref (b (3*s+2+0)))]) hx hb dX3_fever_17 rfl hl (by decide) rfl ?_
  clear hl; intro ls hl
  have loop1 : ∀ (n1x i1x : Nat) (σL1 : (Nat → Nat → Int32)), i1x + n1x = N → itR (fun i x => fX3_fever_b1 θ τ i x) i1x n1x σL1 = itR (fun i x => fX3_fever_b1 θ τ i x) 0 (wfn τ) τ → wf σL1 N → ∀ (H : Heap) (locs : List Loc), rB D cI b S (rA b sz) S.heap H locs s θ σL1 ρ → ∀ ls : Array Slot, lv_has ls 3 [(2, .int (nI i1x)), (1, .int (θ 1 (((τ 0 0) - (τ 0 0) / (8 : Int32) * (8 : Int32))).toNatClampNeg)), (0, .ref (b (3*s+2+0)))] → W p l e (headSpec wsX3_fever rmX3_fever).room S m [.ref (b (3*s+2+0))].toArray below meth c H locs 0 0 (MQ below (va_Qv (fun (_ : Unit) => True) (rPost D cI b s θ (fX3_fever θ τ) ρ) (rA b sz)) [.ref (b (3*s+2+0))].toArray S 0 0 (rA b sz)) (F0 m 18 ls []) := by
    clear hC hl
    intro n1x
    induction n1x with
    | zero =>
      intro i1x σL1 hin1 hX1 hW1 H locs hC ls hl
      obtain rfl : N = i1x := by omega
      refine lv_iload_n hx hb dX3_fever_18 rfl (lv_at hl 0 rfl) ?_
      refine lv_aload_n hx hb dX3_fever_19 rfl (lv_at hl 2 rfl) ?_
      refine rg_s hx hb hts h_iX3 hown hC hs 1 (by decide) h_f35 dX3_fever_20 ?_
      refine lv_icmp_ge (tgt := 92) hx hb dX3_fever_23 (by decide) (fun c8 => ?_) (fun c8 => absurd (wf_ex hW1) c8)
      have e : fX3_fever θ τ = σL1 := by exact ((congrArg (fun x => fX3_fever_k1 x) hX1.symm).trans rfl)
      exact r_vret hx hb hr hlocks hC dX3_fever_92 ⟨rfl, by rw [e]⟩
    | succ n1x ih1 =>
      intro i1x σL1 hin1 hX1 hW1 H locs hC ls hl
      have hN12 := wf_12 hW1
      refine lv_iload_n hx hb dX3_fever_18 rfl (lv_at hl 0 rfl) ?_
      refine lv_aload_n hx hb dX3_fever_19 rfl (lv_at hl 2 rfl) ?_
      refine rg_s hx hb hts h_iX3 hown hC hs 1 (by decide) h_f35 dX3_fever_20 ?_
      refine lv_icmp_ge (tgt := 92) hx hb dX3_fever_23 (by decide) (fun c1 => absurd c1 (wf_in hW1 (by omega))) (fun c1 => ?_)
      refine lv_iload_n hx hb dX3_fever_26 rfl (lv_at hl 1 rfl) ?_
      refine lv_iconst (v := -1) hx hb dX3_fever_27 (by decide) ?_
      refine lv_icmp_eq (tgt := 86) hx hb dX3_fever_28 (by decide) (fun c2 => ?_) (fun c2 => ?_)
      · refine lv_iinc (v := (nI (i1x + 1))) (lv' := [(2, .int (nI (i1x + 1))), (1, .int (θ 1 (((τ 0 0) - (τ 0 0) / (8 : Int32) * (8 : Int32))).toNatClampNeg)), (0, .ref (b (3*s+2+0)))]) hx hb dX3_fever_86 hl (k := 0) rfl (nI_1 i1x) (by decide) rfl ?_
        clear hl; intro ls hl
        refine lv_goto (tgt := 18) hx hb dX3_fever_89 (by decide) ?_
        have e : fX3_fever_b1 θ τ i1x σL1 = σL1 := by exact ((if_pos c2).trans rfl)
        exact ih1 (i1x + 1) σL1 (by omega) (by rw [← e]; exact hX1) hW1 _ _ hC ls (lv_sub hl [0, 1, 2] rfl)
      · refine lv_aload_n hx hb dX3_fever_31 rfl (lv_at hl 2 rfl) ?_
        refine lv_iload_n hx hb dX3_fever_32 rfl (lv_at hl 0 rfl) ?_
        refine r_iVp (n := 1) hF (c_X3_combs l D cI b s θ σL1 ρ hs (nI i1x) ⟨i1x, by omega, rfl⟩) gX3_fever_X3_combs rfl rfl rfl (by decide +kernel) ⟨Nat.le_of_ble_eq_true rfl, Nat.le_of_ble_eq_true rfl⟩ hC hA (hC.recvS hs) rfl hl.1 rfl (Nat.le_of_ble_eq_true rfl) dX3_fever_33 ⟨Nat.zero_le _, Nat.zero_le _⟩ ?_
        clear hC; intro H locs hC
        refine lv_if_eq (tgt := 86) hx hb dX3_fever_36 (by decide) (fun c3 => ?_) (fun c3 => ?_)
        · refine lv_iinc (v := (nI (i1x + 1))) (lv' := [(2, .int (nI (i1x + 1))), (1, .int (θ 1 (((τ 0 0) - (τ 0 0) / (8 : Int32) * (8 : Int32))).toNatClampNeg)), (0, .ref (b (3*s+2+0)))]) hx hb dX3_fever_86 hl (k := 0) rfl (nI_1 i1x) (by decide) rfl ?_
          clear hl; intro ls hl
          refine lv_goto (tgt := 18) hx hb dX3_fever_89 (by decide) ?_
          have e : fX3_fever_b1 θ τ i1x σL1 = σL1 := by exact ((if_neg c2).trans ((if_pos c3).trans rfl))
          exact ih1 (i1x + 1) σL1 (by omega) (by rw [← e]; exact hX1) hW1 _ _ hC ls (lv_sub hl [0, 1, 2] rfl)
        · refine lv_aload_n hx hb dX3_fever_39 rfl (lv_at hl 2 rfl) ?_
          refine lv_iload_n hx hb dX3_fever_40 rfl (lv_at hl 0 rfl) ?_
          refine lv_iconst (v := 5) hx hb dX3_fever_41 (by decide) ?_
          refine r_iVp (n := 2) hF (c_X3_of l D cI b s θ σL1 ρ hs (nI i1x) (5 : Int32) ⟨i1x, by omega, rfl⟩ ⟨5, by decide, rfl⟩) gX3_fever_X3_of rfl rfl rfl (by decide +kernel) ⟨Nat.le_of_ble_eq_true rfl, Nat.le_of_ble_eq_true rfl⟩ hC hA (hC.recvS hs) rfl hl.1 rfl (Nat.le_of_ble_eq_true rfl) dX3_fever_42 ⟨Nat.zero_le _, Nat.zero_le _⟩ ?_
          clear hC; intro H locs hC
          refine lv_iload_n hx hb dX3_fever_45 rfl (lv_at hl 1 rfl) ?_
          refine lv_icmp_eq (tgt := 52) hx hb dX3_fever_46 (by decide) (fun c4 => ?_) (fun c4 => ?_)
          · refine lv_aload_n hx hb dX3_fever_52 rfl (lv_at hl 2 rfl) ?_
            refine lv_iload_n hx hb dX3_fever_53 rfl (lv_at hl 0 rfl) ?_
            refine lv_bipush (v := 6) hx hb dX3_fever_54 (by decide) ?_
            refine lv_iconst (v := 1) hx hb dX3_fever_56 (by decide) ?_
            refine r_iVv (n := 3) hF (c_X3_set l D cI b s θ σL1 ρ hs (nI i1x) (6 : Int32) (1 : Int32) ⟨i1x, by omega, rfl⟩ ⟨6, by decide, rfl⟩) gX3_fever_X3_set rfl rfl rfl (by decide +kernel) ⟨Nat.le_of_ble_eq_true rfl, Nat.le_of_ble_eq_true rfl⟩ hC hA (hC.recvS hs) rfl hl.1 rfl (Nat.le_of_ble_eq_true rfl) dX3_fever_57 ⟨Nat.zero_le _, Nat.zero_le _⟩ ?_
            clear hC; intro H locs τ5 eτ5 hC
            have hwτ5 : wf τ5 N := by rw [← eτ5]; exact wf_X3_set hW1 ⟨i1x, by omega, rfl⟩ ⟨6, by decide, rfl⟩ (by decide)
            refine lv_aload_n hx hb dX3_fever_60 rfl (lv_at hl 2 rfl) ?_
            refine lv_iload_n hx hb dX3_fever_61 rfl (lv_at hl 0 rfl) ?_
            refine lv_bipush (v := 7) hx hb dX3_fever_62 (by decide) ?_
            refine lv_bipush (v := 6) hx hb dX3_fever_64 (by decide) ?_
            refine lv_aload_n hx hb dX3_fever_66 rfl (lv_at hl 2 rfl) ?_
            refine lv_iload_n hx hb dX3_fever_67 rfl (lv_at hl 0 rfl) ?_
            refine lv_iconst (v := 1) hx hb dX3_fever_68 (by decide) ?_
            refine r_iVp (n := 2) hF (c_X3_of l D cI b s θ τ5 ρ hs (nI i1x) (1 : Int32) ⟨i1x, by omega, rfl⟩ ⟨1, by decide, rfl⟩) gX3_fever_X3_of rfl rfl rfl (by decide +kernel) ⟨Nat.le_of_ble_eq_true rfl, Nat.le_of_ble_eq_true rfl⟩ hC hA (hC.recvS hs) rfl hl.1 rfl (Nat.le_of_ble_eq_true rfl) dX3_fever_69 ⟨Nat.zero_le _, Nat.zero_le _⟩ ?_
            clear hC; intro H locs hC
            refine lv_iconst (v := 4) hx hb dX3_fever_72 (by decide) ?_
            refine lv_idiv hx hb dX3_fever_73 (by decide) ?_
            refine lv_isub hx hb dX3_fever_74 ?_
            refine r_iVv (n := 3) hF (c_X3_set l D cI b s θ τ5 ρ hs (nI i1x) (7 : Int32) ((6 : Int32) - ((fX3_of τ5 (nI i1x) (1 : Int32)) / (4 : Int32))) ⟨i1x, by omega, rfl⟩ ⟨7, by decide, rfl⟩) gX3_fever_X3_set rfl rfl rfl (by decide +kernel) ⟨Nat.le_of_ble_eq_true rfl, Nat.le_of_ble_eq_true rfl⟩ hC hA (hC.recvS hs) rfl hl.1 rfl (Nat.le_of_ble_eq_true rfl) dX3_fever_75 ⟨Nat.zero_le _, Nat.zero_le _⟩ ?_
            clear hC; intro H locs τ6 eτ6 hC
            have hwτ6 : wf τ6 N := by rw [← eτ6]; exact wf_X3_set hwτ5 ⟨i1x, by omega, rfl⟩ ⟨7, by decide, rfl⟩ (by decide)
            refine lv_aload_n hx hb dX3_fever_78 rfl (lv_at hl 2 rfl) ?_
            refine lv_iload_n hx hb dX3_fever_79 rfl (lv_at hl 0 rfl) ?_
            refine lv_bipush (v := 8) hx hb dX3_fever_80 (by decide) ?_
            refine lv_iconst (v := 0) hx hb dX3_fever_82 (by decide) ?_
            refine r_iVv (n := 3) hF (c_X3_set l D cI b s θ τ6 ρ hs (nI i1x) (8 : Int32) (0 : Int32) ⟨i1x, by omega, rfl⟩ ⟨8, by decide, rfl⟩) gX3_fever_X3_set rfl rfl rfl (by decide +kernel) ⟨Nat.le_of_ble_eq_true rfl, Nat.le_of_ble_eq_true rfl⟩ hC hA (hC.recvS hs) rfl hl.1 rfl (Nat.le_of_ble_eq_true rfl) dX3_fever_83 ⟨Nat.zero_le _, Nat.zero_le _⟩ ?_
            clear hC; intro H locs τ7 eτ7 hC
            have hwτ7 : wf τ7 N := by rw [← eτ7]; exact wf_X3_set hwτ6 ⟨i1x, by omega, rfl⟩ ⟨8, by decide, rfl⟩ (by decide)
            refine lv_iinc (v := (nI (i1x + 1))) (lv' := [(2, .int (nI (i1x + 1))), (1, .int (θ 1 (((τ 0 0) - (τ 0 0) / (8 : Int32) * (8 : Int32))).toNatClampNeg)), (0, .ref (b (3*s+2+0)))]) hx hb dX3_fever_86 hl (k := 0) rfl (nI_1 i1x) (by decide) rfl ?_
            clear hl; intro ls hl
            refine lv_goto (tgt := 18) hx hb dX3_fever_89 (by decide) ?_
            have e : fX3_fever_b1 θ τ i1x σL1 = τ7 := by subst eτ5 eτ6 eτ7; exact ((if_neg c2).trans ((if_neg c3).trans ((if_pos c4).trans rfl)))
            exact ih1 (i1x + 1) τ7 (by omega) (by rw [← e]; exact hX1) hwτ7 _ _ hC ls (lv_sub hl [0, 1, 2] rfl)
          · refine lv_goto (tgt := 86) hx hb dX3_fever_49 (by decide) ?_
            refine lv_iinc (v := (nI (i1x + 1))) (lv' := [(2, .int (nI (i1x + 1))), (1, .int (θ 1 (((τ 0 0) - (τ 0 0) / (8 : Int32) * (8 : Int32))).toNatClampNeg)), (0, .ref (b (3*s+2+0)))]) hx hb dX3_fever_86 hl (k := 0) rfl (nI_1 i1x) (by decide) rfl ?_
            clear hl; intro ls hl
            refine lv_goto (tgt := 18) hx hb dX3_fever_89 (by decide) ?_
            have e : fX3_fever_b1 θ τ i1x σL1 = σL1 := by exact ((if_neg c2).trans ((if_neg c3).trans ((if_neg c4).trans rfl)))
            exact ih1 (i1x + 1) σL1 (by omega) (by rw [← e]; exact hX1) hW1 _ _ hC ls (lv_sub hl [0, 1, 2] rfl)
  exact loop1 N 0 τ (by omega) (by rw [wfn_eq hW]) hW _ _ hC ls (lv_sub hl [0, 1, 2] rfl)
abbrev rmX3_heal : Room := { frames := 1, cells := 0, slots := 0, locals := 23 }
def fX3_heal (τ : (Nat → Nat → Int32)) (p0 : Int32) (p1 : Int32) : (Nat → Nat → Int32) :=
    let τ1 : (Nat → Nat → Int32) := (fX3_set τ p0 (6 : Int32) p1)
    let τ2 : (Nat → Nat → Int32) := (fX3_set τ1 p0 (7 : Int32) (0 : Int32))
    let τ3 : (Nat → Nat → Int32) := (fX3_set τ2 p0 (8 : Int32) (0 : Int32))
    if p1 = 0 then
      τ3
    else
      let τ5 : (Nat → Nat → Int32) := (fX3_set τ3 p0 (5 : Int32) (-1 : Int32))
      let τ6 : (Nat → Nat → Int32) := (fX3_set τ5 p0 (4 : Int32) (0 : Int32))
      let τ7 : (Nat → Nat → Int32) := (fX3_set τ6 p0 (3 : Int32) (0 : Int32))
      τ7
theorem wf_X3_heal {τ : Nat → Nat → Int32} {N : Nat} {p0 p1 : Int32} (h : wf τ N) (h0 : Ix p0 12) : wf (fX3_heal τ p0 p1) N := by
  have h1 := wf_X3_set (v := 0) (wf_X3_set (v := 0) (wf_X3_set (v := p1) h h0 ⟨6, by decide, rfl⟩ (by decide)) h0 ⟨7, by decide, rfl⟩ (by decide)) h0 ⟨8, by decide, rfl⟩ (by decide)
  unfold fX3_heal
  split
  · exact h1
  · exact wf_X3_set (wf_X3_set (wf_X3_setAT h1 h0 (Or.inl rfl)) h0 ⟨4, by decide, rfl⟩ (by decide)) h0 ⟨3, by decide, rfl⟩ (by decide)
set_option maxHeartbeats 400000 in
set_option maxRecDepth 100000 in
theorem c_X3_heal (l : Launch) (D : va_G) (cI : ClassId) (b : Nat → Nat) (s : Nat) (θ τ ρ : (Nat → Nat → Int32)) (hs : s < 2) (p0 : Int32) (p1 : Int32) (hx0 : Ix p0 12) : rMv l yX3_heal wsX3_heal rmX3_heal D cI b [.ref (b (3*s+2+0)), .int p0, .int p1] s θ τ ρ θ (fX3_heal τ p0 p1) := by
  intro sz
  refine r_head (cc := cX3_heal) (maxL := 3) (ret := none) (plainFor_of_name (by decide)) rfl (Nat.le_of_ble_eq_true rfl) ?_
  intro p e S m below meth c hx hb hr hml hown hts hlocks hnm hsz hA hC ls hl
  have hF : CallFix p m c cX3_heal 3 S [.ref (b (3*s+2+0)), .int p0, .int p1].toArray wsX3_heal RX3 := ⟨hx, hb, hml, hown, hts⟩
  have hl : lv_has ls 3 [(0, .ref (b (3*s+2+0))), (1, .int p0), (2, .int p1)] := hl
  refine lv_aload_n hx hb dX3_heal_0 rfl (lv_at hl 0 rfl) ?_
  refine lv_iload_n hx hb dX3_heal_1 rfl (lv_at hl 1 rfl) ?_
  refine lv_bipush (v := 6) hx hb dX3_heal_2 (by decide) ?_
  refine lv_iload_n hx hb dX3_heal_4 rfl (lv_at hl 2 rfl) ?_
  refine r_iVv (n := 3) hF (c_X3_set l D cI b s θ τ ρ hs p0 (6 : Int32) p1 hx0 ⟨6, by decide, rfl⟩) gX3_heal_X3_set rfl rfl rfl (by decide +kernel) ⟨Nat.le_of_ble_eq_true rfl, Nat.le_of_ble_eq_true rfl⟩ hC hA (hC.recvS hs) rfl hl.1 rfl (Nat.le_of_ble_eq_true rfl) dX3_heal_5 ⟨Nat.zero_le _, Nat.zero_le _⟩ ?_
  clear hC; intro H locs τ1 eτ1 hC
  refine lv_aload_n hx hb dX3_heal_8 rfl (lv_at hl 0 rfl) ?_
  refine lv_iload_n hx hb dX3_heal_9 rfl (lv_at hl 1 rfl) ?_
  refine lv_bipush (v := 7) hx hb dX3_heal_10 (by decide) ?_
  refine lv_iconst (v := 0) hx hb dX3_heal_12 (by decide) ?_
  refine r_iVv (n := 3) hF (c_X3_set l D cI b s θ τ1 ρ hs p0 (7 : Int32) (0 : Int32) hx0 ⟨7, by decide, rfl⟩) gX3_heal_X3_set rfl rfl rfl (by decide +kernel) ⟨Nat.le_of_ble_eq_true rfl, Nat.le_of_ble_eq_true rfl⟩ hC hA (hC.recvS hs) rfl hl.1 rfl (Nat.le_of_ble_eq_true rfl) dX3_heal_13 ⟨Nat.zero_le _, Nat.zero_le _⟩ ?_
  clear hC; intro H locs τ2 eτ2 hC
  refine lv_aload_n hx hb dX3_heal_16 rfl (lv_at hl 0 rfl) ?_
  refine lv_iload_n hx hb dX3_heal_17 rfl (lv_at hl 1 rfl) ?_
  refine lv_bipush (v := 8) hx hb dX3_heal_18 (by decide) ?_
  refine lv_iconst (v := 0) hx hb dX3_heal_20 (by decide) ?_
  refine r_iVv (n := 3) hF (c_X3_set l D cI b s θ τ2 ρ hs p0 (8 : Int32) (0 : Int32) hx0 ⟨8, by decide, rfl⟩) gX3_heal_X3_set rfl rfl rfl (by decide +kernel) ⟨Nat.le_of_ble_eq_true rfl, Nat.le_of_ble_eq_true rfl⟩ hC hA (hC.recvS hs) rfl hl.1 rfl (Nat.le_of_ble_eq_true rfl) dX3_heal_21 ⟨Nat.zero_le _, Nat.zero_le _⟩ ?_
  clear hC; intro H locs τ3 eτ3 hC
  refine lv_iload_n hx hb dX3_heal_24 rfl (lv_at hl 2 rfl) ?_
  refine lv_if_ne (tgt := 29) hx hb dX3_heal_25 (by decide) (fun c4 => ?_) (fun c4 => ?_)
  · refine lv_aload_n hx hb dX3_heal_29 rfl (lv_at hl 0 rfl) ?_
    refine lv_iload_n hx hb dX3_heal_30 rfl (lv_at hl 1 rfl) ?_
    refine lv_iconst (v := 5) hx hb dX3_heal_31 (by decide) ?_
    refine lv_iconst (v := -1) hx hb dX3_heal_32 (by decide) ?_
    refine r_iVv (n := 3) hF (c_X3_set l D cI b s θ τ3 ρ hs p0 (5 : Int32) (-1 : Int32) hx0 ⟨5, by decide, rfl⟩) gX3_heal_X3_set rfl rfl rfl (by decide +kernel) ⟨Nat.le_of_ble_eq_true rfl, Nat.le_of_ble_eq_true rfl⟩ hC hA (hC.recvS hs) rfl hl.1 rfl (Nat.le_of_ble_eq_true rfl) dX3_heal_33 ⟨Nat.zero_le _, Nat.zero_le _⟩ ?_
    clear hC; intro H locs τ5 eτ5 hC
    refine lv_aload_n hx hb dX3_heal_36 rfl (lv_at hl 0 rfl) ?_
    refine lv_iload_n hx hb dX3_heal_37 rfl (lv_at hl 1 rfl) ?_
    refine lv_iconst (v := 4) hx hb dX3_heal_38 (by decide) ?_
    refine lv_iconst (v := 0) hx hb dX3_heal_39 (by decide) ?_
    refine r_iVv (n := 3) hF (c_X3_set l D cI b s θ τ5 ρ hs p0 (4 : Int32) (0 : Int32) hx0 ⟨4, by decide, rfl⟩) gX3_heal_X3_set rfl rfl rfl (by decide +kernel) ⟨Nat.le_of_ble_eq_true rfl, Nat.le_of_ble_eq_true rfl⟩ hC hA (hC.recvS hs) rfl hl.1 rfl (Nat.le_of_ble_eq_true rfl) dX3_heal_40 ⟨Nat.zero_le _, Nat.zero_le _⟩ ?_
    clear hC; intro H locs τ6 eτ6 hC
    refine lv_aload_n hx hb dX3_heal_43 rfl (lv_at hl 0 rfl) ?_
    refine lv_iload_n hx hb dX3_heal_44 rfl (lv_at hl 1 rfl) ?_
    refine lv_iconst (v := 3) hx hb dX3_heal_45 (by decide) ?_
    refine lv_iconst (v := 0) hx hb dX3_heal_46 (by decide) ?_
    refine r_iVv (n := 3) hF (c_X3_set l D cI b s θ τ6 ρ hs p0 (3 : Int32) (0 : Int32) hx0 ⟨3, by decide, rfl⟩) gX3_heal_X3_set rfl rfl rfl (by decide +kernel) ⟨Nat.le_of_ble_eq_true rfl, Nat.le_of_ble_eq_true rfl⟩ hC hA (hC.recvS hs) rfl hl.1 rfl (Nat.le_of_ble_eq_true rfl) dX3_heal_47 ⟨Nat.zero_le _, Nat.zero_le _⟩ ?_
    clear hC; intro H locs τ7 eτ7 hC
    have e : fX3_heal τ p0 p1 = τ7 := by subst eτ1 eτ2 eτ3 eτ5 eτ6 eτ7; exact ((if_neg c4).trans rfl)
    exact r_vret hx hb hr hlocks hC dX3_heal_50 ⟨rfl, by rw [e]⟩
  · have e : fX3_heal τ p0 p1 = τ3 := by subst eτ1 eτ2 eτ3; exact ((if_pos c4).trans rfl)
    exact r_vret hx hb hr hlocks hC dX3_heal_28 ⟨rfl, by rw [e]⟩
abbrev rmX3_pay : Room := { frames := 1, cells := 0, slots := 0, locals := 13 }
def fX3_pay (τ : (Nat → Nat → Int32)) (p0 : Int32) : Int32 × (Nat → Nat → Int32) :=
    if p0 ≤ (mnI (τ 0 2) p0) then
      let τ2 : (Nat → Nat → Int32) := up2 τ 0 2 ((τ 0 2) - (mnI (τ 0 2) p0))
      ((mnI (τ 0 2) p0), τ2)
    else
      let τ3 : (Nat → Nat → Int32) := up2 τ 0 8 (1 : Int32)
      let τ4 : (Nat → Nat → Int32) := up2 τ3 0 2 ((τ3 0 2) - (mnI (τ 0 2) p0))
      ((mnI (τ 0 2) p0), τ4)
theorem wf_X3_pay {τ : Nat → Nat → Int32} {N : Nat} {p0 : Int32} (h : wf τ N) : wf (fX3_pay τ p0).2 N := by
  unfold fX3_pay
  split
  · exact wf_up0 h (by decide)
  · exact wf_up0 (wf_up0 h (by decide)) (by decide)
set_option maxHeartbeats 400000 in
set_option maxRecDepth 100000 in
theorem c_X3_pay (l : Launch) (D : va_G) (cI : ClassId) (b : Nat → Nat) (s : Nat) (θ τ ρ : (Nat → Nat → Int32)) (hs : s < 2) (p0 : Int32) : rMi l yX3_pay wsX3_pay rmX3_pay D cI b [.ref (b (3*s+2+0)), .int p0] s θ τ ρ (fX3_pay τ p0).1 θ (fX3_pay τ p0).2 := by
  intro sz
  refine r_head (cc := cX3_pay) (maxL := 3) (ret := (some .int)) (plainFor_of_name (by decide)) rfl (Nat.le_of_ble_eq_true rfl) ?_
  intro p e S m below meth c hx hb hr hml hown hts hlocks hnm hsz hA hC ls hl
  have h_f15 : (Cond.fieldLink RX3 15 "CombersSocietyModel$State" "box" "I").before [.ref (b (3*s+2+0)), .int p0].toArray S = true := hts _ (by decide +kernel)
  have h_iX3 : ∀ w ∈ u_ws RX3 TX3 12, w ∈ wsX3_pay := by decide +kernel
  have h_ml69 : (Cond.methodLink RX3 69 Lib.Math.min.name).before [.ref (b (3*s+2+0)), .int p0].toArray S = true := hts _ (by decide +kernel)
  have h_ms69 : (Cond.static Lib.Math.min.name).before [.ref (b (3*s+2+0)), .int p0].toArray S = true := hts _ (by decide +kernel)
  have h_mini : (Cond.initialized "java/lang/Math").before [.ref (b (3*s+2+0)), .int p0].toArray S = true := hts _ (by decide +kernel)
  have h_mc69 : (Cond.code Lib.Math.min.name Lib.Math.min.code 2 (some .int)).before [.ref (b (3*s+2+0)), .int p0].toArray S = true := hts _ (by decide +kernel)
  have h_f47 : (Cond.fieldLink RX3 47 "CombersSocietyModel$State" "isShort" "Z").before [.ref (b (3*s+2+0)), .int p0].toArray S = true := hts _ (by decide +kernel)
  have hl : lv_has ls 3 [(0, .ref (b (3*s+2+0))), (1, .int p0)] := hl
  refine lv_aload_n hx hb dX3_pay_0 rfl (lv_at hl 0 rfl) ?_
  refine rg_s hx hb hts h_iX3 hown hC hs 2 (by decide) h_f15 dX3_pay_1 ?_
  refine lv_iload_n hx hb dX3_pay_4 rfl (lv_at hl 1 rfl) ?_
  refine c_mmin hx hb (hml.trans hl.1.symm) hown h_ml69 h_ms69 h_mini h_mc69 (Nat.le_of_ble_eq_true rfl) (Nat.le_of_ble_eq_true rfl) (Nat.zero_le _) (Nat.zero_le _) dX3_pay_5 ?_
  refine lv_istore_n (lv' := [(2, .int (mnI (τ 0 2) p0)), (0, .ref (b (3*s+2+0))), (1, .int p0)]) hx hb dX3_pay_8 rfl hl (by decide) rfl ?_
  clear hl; intro ls hl
  refine lv_iload_n hx hb dX3_pay_9 rfl (lv_at hl 0 rfl) ?_
  refine lv_iload_n hx hb dX3_pay_10 rfl (lv_at hl 2 rfl) ?_
  refine lv_icmp_ge (tgt := 19) hx hb dX3_pay_11 (by decide) (fun c1 => ?_) (fun c1 => ?_)
  · refine lv_aload_n hx hb dX3_pay_19 rfl (lv_at hl 1 rfl) ?_
    refine lv_dup hx hb dX3_pay_20 rfl ?_
    refine rg_s hx hb hts h_iX3 hown hC hs 2 (by decide) h_f15 dX3_pay_21 ?_
    refine lv_iload_n hx hb dX3_pay_24 rfl (lv_at hl 0 rfl) ?_
    refine lv_isub hx hb dX3_pay_25 ?_
    refine rp_s hx hb hts h_iX3 hown hC hs 2 (by decide) h_f15 dX3_pay_26 ?_
    clear hC; intro H locs τ2 eτ2 hC
    refine lv_iload_n hx hb dX3_pay_29 rfl (lv_at hl 0 rfl) ?_
    have e : fX3_pay τ p0 = ((mnI (τ 0 2) p0), τ2) := by subst eτ2; exact ((if_pos c1).trans rfl)
    exact r_iret hx hb hr hlocks hC dX3_pay_30 ⟨by rw [e], rfl, by rw [e]⟩
  · refine lv_aload_n hx hb dX3_pay_14 rfl (lv_at hl 1 rfl) ?_
    refine lv_iconst (v := 1) hx hb dX3_pay_15 (by decide) ?_
    refine rp_sb hx hb hts h_iX3 hown hC hs (Or.inr rfl) h_f47 dX3_pay_16 ?_
    clear hC; intro H locs τ3 eτ3 hC
    refine lv_aload_n hx hb dX3_pay_19 rfl (lv_at hl 1 rfl) ?_
    refine lv_dup hx hb dX3_pay_20 rfl ?_
    refine rg_s hx hb hts h_iX3 hown hC hs 2 (by decide) h_f15 dX3_pay_21 ?_
    refine lv_iload_n hx hb dX3_pay_24 rfl (lv_at hl 0 rfl) ?_
    refine lv_isub hx hb dX3_pay_25 ?_
    refine rp_s hx hb hts h_iX3 hown hC hs 2 (by decide) h_f15 dX3_pay_26 ?_
    clear hC; intro H locs τ4 eτ4 hC
    refine lv_iload_n hx hb dX3_pay_29 rfl (lv_at hl 0 rfl) ?_
    have e : fX3_pay τ p0 = ((mnI (τ 0 2) p0), τ4) := by subst eτ3 eτ4; exact ((if_neg c1).trans rfl)
    exact r_iret hx hb hr hlocks hC dX3_pay_30 ⟨by rw [e], rfl, by rw [e]⟩
abbrev rmX3_nurse : Room := { frames := 2, cells := 0, slots := 0, locals := 45 }
def fX3_nurse (τ : (Nat → Nat → Int32)) (p0 : Int32) : (Nat → Nat → Int32) :=
    let τ1 : (Nat → Nat → Int32) := (fX3_set τ p0 (1 : Int32) ((fX3_of τ p0 (1 : Int32)) - (1 : Int32)))
    if (fX3_of τ1 p0 (1 : Int32)) = 0 then
      let τ19 : (Nat → Nat → Int32) := (fX3_heal τ1 p0 (2 : Int32))
      τ19
    else
      let τ3 : (Nat → Nat → Int32) := (fX3_set τ1 p0 (8 : Int32) ((fX3_of τ1 p0 (8 : Int32)) + (1 : Int32)))
      let τ4 : (Nat → Nat → Int32) := (fX3_set τ3 p0 (7 : Int32) ((fX3_of τ3 p0 (7 : Int32)) - (1 : Int32)))
      if (3 : Int32) ≤ (fX3_of τ4 p0 (4 : Int32)) then
        if (fX3_of τ4 p0 (7 : Int32)) = 0 then
          let τ7 : (Nat → Nat → Int32) := (fX3_heal τ4 p0 (0 : Int32))
          τ7
        else
          τ4
      else
        if (3 : Int32) < (fX3_of τ4 p0 (8 : Int32)) then
          let τ9 : (Nat → Nat → Int32) := (fX3_pay τ4 (2 : Int32)).2
          let τ10 : (Nat → Nat → Int32) := up2 τ9 0 6 ((τ9 0 6) + (fX3_pay τ4 (2 : Int32)).1)
          let τ11 : (Nat → Nat → Int32) := (fX3_set τ10 p0 (2 : Int32) ((fX3_of τ10 p0 (2 : Int32)) + (fX3_pay τ4 (2 : Int32)).1))
          if (fX3_of τ11 p0 (7 : Int32)) = 0 then
            let τ13 : (Nat → Nat → Int32) := (fX3_heal τ11 p0 (0 : Int32))
            τ13
          else
            τ11
        else
          let τ14 : (Nat → Nat → Int32) := (fX3_pay τ4 (5 : Int32)).2
          let τ15 : (Nat → Nat → Int32) := up2 τ14 0 6 ((τ14 0 6) + (fX3_pay τ4 (5 : Int32)).1)
          let τ16 : (Nat → Nat → Int32) := (fX3_set τ15 p0 (2 : Int32) ((fX3_of τ15 p0 (2 : Int32)) + (fX3_pay τ4 (5 : Int32)).1))
          if (fX3_of τ16 p0 (7 : Int32)) = 0 then
            let τ18 : (Nat → Nat → Int32) := (fX3_heal τ16 p0 (0 : Int32))
            τ18
          else
            τ16
theorem wf_X3_nurse {τ : Nat → Nat → Int32} {N : Nat} {p0 : Int32} (h : wf τ N) (h0 : Ix p0 12) : wf (fX3_nurse τ p0) N := by
  unfold fX3_nurse
  dsimp only
  repeat' split
  all_goals repeat' first
    | with_reducible exact h0
    | with_reducible exact h
    | (with_reducible refine wf_X3_heal ?_ ?_)
    | (with_reducible refine wf_set1 ?_ ?_)
    | (with_reducible refine wf_set8 ?_ ?_)
    | (with_reducible refine wf_set7 ?_ ?_)
    | (with_reducible refine wf_set2 ?_ ?_)
    | (with_reducible refine wf_up0_2 ?_)
    | (with_reducible refine wf_up0_6 ?_)
    | (with_reducible refine wf_X3_pay ?_)
set_option maxHeartbeats 400000 in
set_option maxRecDepth 100000 in
theorem c_X3_nurse (l : Launch) (D : va_G) (cI : ClassId) (b : Nat → Nat) (s : Nat) (θ τ ρ : (Nat → Nat → Int32)) (hs : s < 2) (p0 : Int32) (hx0 : Ix p0 12) : rMv l yX3_nurse wsX3_nurse rmX3_nurse D cI b [.ref (b (3*s+2+0)), .int p0] s θ τ ρ θ (fX3_nurse τ p0) := by
  intro sz
  refine r_head (cc := cX3_nurse) (maxL := 3) (ret := none) (plainFor_of_name (by decide)) rfl (Nat.le_of_ble_eq_true rfl) ?_
  intro p e S m below meth c hx hb hr hml hown hts hlocks hnm hsz hA hC ls hl
  have hF : CallFix p m c cX3_nurse 3 S [.ref (b (3*s+2+0)), .int p0].toArray wsX3_nurse RX3 := ⟨hx, hb, hml, hown, hts⟩
  have h_f41 : (Cond.fieldLink RX3 41 "CombersSocietyModel$State" "nursed" "I").before [.ref (b (3*s+2+0)), .int p0].toArray S = true := hts _ (by decide +kernel)
  have h_iX3 : ∀ w ∈ u_ws RX3 TX3 12, w ∈ wsX3_nurse := by decide +kernel
  have hl : lv_has ls 3 [(0, .ref (b (3*s+2+0))), (1, .int p0)] := hl
  refine lv_aload_n hx hb dX3_nurse_0 rfl (lv_at hl 0 rfl) ?_
  refine lv_iload_n hx hb dX3_nurse_1 rfl (lv_at hl 1 rfl) ?_
  refine lv_iconst (v := 1) hx hb dX3_nurse_2 (by decide) ?_
  refine lv_aload_n hx hb dX3_nurse_3 rfl (lv_at hl 0 rfl) ?_
  refine lv_iload_n hx hb dX3_nurse_4 rfl (lv_at hl 1 rfl) ?_
  refine lv_iconst (v := 1) hx hb dX3_nurse_5 (by decide) ?_
  refine r_iVp (n := 2) hF (c_X3_of l D cI b s θ τ ρ hs p0 (1 : Int32) hx0 ⟨1, by decide, rfl⟩) gX3_nurse_X3_of rfl rfl rfl (by decide +kernel) ⟨Nat.le_of_ble_eq_true rfl, Nat.le_of_ble_eq_true rfl⟩ hC hA (hC.recvS hs) rfl hl.1 rfl (Nat.le_of_ble_eq_true rfl) dX3_nurse_6 ⟨Nat.zero_le _, Nat.zero_le _⟩ ?_
  clear hC; intro H locs hC
  refine lv_iconst (v := 1) hx hb dX3_nurse_9 (by decide) ?_
  refine lv_isub hx hb dX3_nurse_10 ?_
  refine r_iVv (n := 3) hF (c_X3_set l D cI b s θ τ ρ hs p0 (1 : Int32) ((fX3_of τ p0 (1 : Int32)) - (1 : Int32)) hx0 ⟨1, by decide, rfl⟩) gX3_nurse_X3_set rfl rfl rfl (by decide +kernel) ⟨Nat.le_of_ble_eq_true rfl, Nat.le_of_ble_eq_true rfl⟩ hC hA (hC.recvS hs) rfl hl.1 rfl (Nat.le_of_ble_eq_true rfl) dX3_nurse_11 ⟨Nat.zero_le _, Nat.zero_le _⟩ ?_
  clear hC; intro H locs τ1 eτ1 hC
  refine lv_aload_n hx hb dX3_nurse_14 rfl (lv_at hl 0 rfl) ?_
  refine lv_iload_n hx hb dX3_nurse_15 rfl (lv_at hl 1 rfl) ?_
  refine lv_iconst (v := 1) hx hb dX3_nurse_16 (by decide) ?_
  refine r_iVp (n := 2) hF (c_X3_of l D cI b s θ τ1 ρ hs p0 (1 : Int32) hx0 ⟨1, by decide, rfl⟩) gX3_nurse_X3_of rfl rfl rfl (by decide +kernel) ⟨Nat.le_of_ble_eq_true rfl, Nat.le_of_ble_eq_true rfl⟩ hC hA (hC.recvS hs) rfl hl.1 rfl (Nat.le_of_ble_eq_true rfl) dX3_nurse_17 ⟨Nat.zero_le _, Nat.zero_le _⟩ ?_
  clear hC; intro H locs hC
  refine lv_if_ne (tgt := 30) hx hb dX3_nurse_20 (by decide) (fun c2 => ?_) (fun c2 => ?_)
  · refine lv_aload_n hx hb dX3_nurse_30 rfl (lv_at hl 0 rfl) ?_
    refine lv_iload_n hx hb dX3_nurse_31 rfl (lv_at hl 1 rfl) ?_
    refine lv_bipush (v := 8) hx hb dX3_nurse_32 (by decide) ?_
    refine lv_aload_n hx hb dX3_nurse_34 rfl (lv_at hl 0 rfl) ?_
    refine lv_iload_n hx hb dX3_nurse_35 rfl (lv_at hl 1 rfl) ?_
    refine lv_bipush (v := 8) hx hb dX3_nurse_36 (by decide) ?_
    refine r_iVp (n := 2) hF (c_X3_of l D cI b s θ τ1 ρ hs p0 (8 : Int32) hx0 ⟨8, by decide, rfl⟩) gX3_nurse_X3_of rfl rfl rfl (by decide +kernel) ⟨Nat.le_of_ble_eq_true rfl, Nat.le_of_ble_eq_true rfl⟩ hC hA (hC.recvS hs) rfl hl.1 rfl (Nat.le_of_ble_eq_true rfl) dX3_nurse_38 ⟨Nat.zero_le _, Nat.zero_le _⟩ ?_
    clear hC; intro H locs hC
    refine lv_iconst (v := 1) hx hb dX3_nurse_41 (by decide) ?_
    refine lv_iadd hx hb dX3_nurse_42 ?_
    refine r_iVv (n := 3) hF (c_X3_set l D cI b s θ τ1 ρ hs p0 (8 : Int32) ((fX3_of τ1 p0 (8 : Int32)) + (1 : Int32)) hx0 ⟨8, by decide, rfl⟩) gX3_nurse_X3_set rfl rfl rfl (by decide +kernel) ⟨Nat.le_of_ble_eq_true rfl, Nat.le_of_ble_eq_true rfl⟩ hC hA (hC.recvS hs) rfl hl.1 rfl (Nat.le_of_ble_eq_true rfl) dX3_nurse_43 ⟨Nat.zero_le _, Nat.zero_le _⟩ ?_
    clear hC; intro H locs τ3 eτ3 hC
    refine lv_aload_n hx hb dX3_nurse_46 rfl (lv_at hl 0 rfl) ?_
    refine lv_iload_n hx hb dX3_nurse_47 rfl (lv_at hl 1 rfl) ?_
    refine lv_bipush (v := 7) hx hb dX3_nurse_48 (by decide) ?_
    refine lv_aload_n hx hb dX3_nurse_50 rfl (lv_at hl 0 rfl) ?_
    refine lv_iload_n hx hb dX3_nurse_51 rfl (lv_at hl 1 rfl) ?_
    refine lv_bipush (v := 7) hx hb dX3_nurse_52 (by decide) ?_
    refine r_iVp (n := 2) hF (c_X3_of l D cI b s θ τ3 ρ hs p0 (7 : Int32) hx0 ⟨7, by decide, rfl⟩) gX3_nurse_X3_of rfl rfl rfl (by decide +kernel) ⟨Nat.le_of_ble_eq_true rfl, Nat.le_of_ble_eq_true rfl⟩ hC hA (hC.recvS hs) rfl hl.1 rfl (Nat.le_of_ble_eq_true rfl) dX3_nurse_54 ⟨Nat.zero_le _, Nat.zero_le _⟩ ?_
    clear hC; intro H locs hC
    refine lv_iconst (v := 1) hx hb dX3_nurse_57 (by decide) ?_
    refine lv_isub hx hb dX3_nurse_58 ?_
    refine r_iVv (n := 3) hF (c_X3_set l D cI b s θ τ3 ρ hs p0 (7 : Int32) ((fX3_of τ3 p0 (7 : Int32)) - (1 : Int32)) hx0 ⟨7, by decide, rfl⟩) gX3_nurse_X3_set rfl rfl rfl (by decide +kernel) ⟨Nat.le_of_ble_eq_true rfl, Nat.le_of_ble_eq_true rfl⟩ hC hA (hC.recvS hs) rfl hl.1 rfl (Nat.le_of_ble_eq_true rfl) dX3_nurse_59 ⟨Nat.zero_le _, Nat.zero_le _⟩ ?_
    clear hC; intro H locs τ4 eτ4 hC
    refine lv_aload_n hx hb dX3_nurse_62 rfl (lv_at hl 0 rfl) ?_
    refine lv_iload_n hx hb dX3_nurse_63 rfl (lv_at hl 1 rfl) ?_
    refine lv_iconst (v := 4) hx hb dX3_nurse_64 (by decide) ?_
    refine r_iVp (n := 2) hF (c_X3_of l D cI b s θ τ4 ρ hs p0 (4 : Int32) hx0 ⟨4, by decide, rfl⟩) gX3_nurse_X3_of rfl rfl rfl (by decide +kernel) ⟨Nat.le_of_ble_eq_true rfl, Nat.le_of_ble_eq_true rfl⟩ hC hA (hC.recvS hs) rfl hl.1 rfl (Nat.le_of_ble_eq_true rfl) dX3_nurse_65 ⟨Nat.zero_le _, Nat.zero_le _⟩ ?_
    clear hC; intro H locs hC
    refine lv_iconst (v := 3) hx hb dX3_nurse_68 (by decide) ?_
    refine lv_icmp_ge (tgt := 117) hx hb dX3_nurse_69 (by decide) (fun c5 => ?_) (fun c5 => ?_)
    · refine lv_aload_n hx hb dX3_nurse_117 rfl (lv_at hl 0 rfl) ?_
      refine lv_iload_n hx hb dX3_nurse_118 rfl (lv_at hl 1 rfl) ?_
      refine lv_bipush (v := 7) hx hb dX3_nurse_119 (by decide) ?_
      refine r_iVp (n := 2) hF (c_X3_of l D cI b s θ τ4 ρ hs p0 (7 : Int32) hx0 ⟨7, by decide, rfl⟩) gX3_nurse_X3_of rfl rfl rfl (by decide +kernel) ⟨Nat.le_of_ble_eq_true rfl, Nat.le_of_ble_eq_true rfl⟩ hC hA (hC.recvS hs) rfl hl.1 rfl (Nat.le_of_ble_eq_true rfl) dX3_nurse_121 ⟨Nat.zero_le _, Nat.zero_le _⟩ ?_
      clear hC; intro H locs hC
      refine lv_if_ne (tgt := 133) hx hb dX3_nurse_124 (by decide) (fun c6 => ?_) (fun c6 => ?_)
      · have e : fX3_nurse τ p0 = τ4 := by subst eτ1 eτ3 eτ4; exact ((if_neg c2).trans ((if_pos c5).trans ((if_neg c6).trans rfl)))
        exact r_vret hx hb hr hlocks hC dX3_nurse_133 ⟨rfl, by rw [e]⟩
      · refine lv_aload_n hx hb dX3_nurse_127 rfl (lv_at hl 0 rfl) ?_
        refine lv_iload_n hx hb dX3_nurse_128 rfl (lv_at hl 1 rfl) ?_
        refine lv_iconst (v := 0) hx hb dX3_nurse_129 (by decide) ?_
        refine r_iVv (n := 2) hF (c_X3_heal l D cI b s θ τ4 ρ hs p0 (0 : Int32) hx0) gX3_nurse_X3_heal rfl rfl rfl (by decide +kernel) ⟨Nat.le_of_ble_eq_true rfl, Nat.le_of_ble_eq_true rfl⟩ hC hA (hC.recvS hs) rfl hl.1 rfl (Nat.le_of_ble_eq_true rfl) dX3_nurse_130 ⟨Nat.zero_le _, Nat.zero_le _⟩ ?_
        clear hC; intro H locs τ7 eτ7 hC
        have e : fX3_nurse τ p0 = τ7 := by subst eτ1 eτ3 eτ4 eτ7; exact ((if_neg c2).trans ((if_pos c5).trans ((if_pos c6).trans rfl)))
        exact r_vret hx hb hr hlocks hC dX3_nurse_133 ⟨rfl, by rw [e]⟩
    · refine lv_aload_n hx hb dX3_nurse_72 rfl (lv_at hl 0 rfl) ?_
      refine lv_aload_n hx hb dX3_nurse_73 rfl (lv_at hl 0 rfl) ?_
      refine lv_iload_n hx hb dX3_nurse_74 rfl (lv_at hl 1 rfl) ?_
      refine lv_bipush (v := 8) hx hb dX3_nurse_75 (by decide) ?_
      refine r_iVp (n := 2) hF (c_X3_of l D cI b s θ τ4 ρ hs p0 (8 : Int32) hx0 ⟨8, by decide, rfl⟩) gX3_nurse_X3_of rfl rfl rfl (by decide +kernel) ⟨Nat.le_of_ble_eq_true rfl, Nat.le_of_ble_eq_true rfl⟩ hC hA (hC.recvS hs) rfl hl.1 rfl (Nat.le_of_ble_eq_true rfl) dX3_nurse_77 ⟨Nat.zero_le _, Nat.zero_le _⟩ ?_
      clear hC; intro H locs hC
      refine lv_iconst (v := 3) hx hb dX3_nurse_80 (by decide) ?_
      refine lv_icmp_gt (tgt := 88) hx hb dX3_nurse_81 (by decide) (fun c8 => ?_) (fun c8 => ?_)
      · refine lv_iconst (v := 2) hx hb dX3_nurse_88 (by decide) ?_
        refine r_iVi (n := 1) hF (c_X3_pay l D cI b s θ τ4 ρ hs (2 : Int32)) gX3_nurse_X3_pay rfl rfl rfl (by decide +kernel) ⟨Nat.le_of_ble_eq_true rfl, Nat.le_of_ble_eq_true rfl⟩ hC hA (hC.recvS hs) rfl hl.1 rfl (Nat.le_of_ble_eq_true rfl) dX3_nurse_89 ⟨Nat.zero_le _, Nat.zero_le _⟩ ?_
        clear hC; intro H locs τ9 eτ9 hC
        refine lv_istore_n (lv' := [(2, .int (fX3_pay τ4 (2 : Int32)).1), (0, .ref (b (3*s+2+0))), (1, .int p0)]) hx hb dX3_nurse_92 rfl hl (by decide) rfl ?_
        clear hl; intro ls hl
        refine lv_aload_n hx hb dX3_nurse_93 rfl (lv_at hl 1 rfl) ?_
        refine lv_dup hx hb dX3_nurse_94 rfl ?_
        refine rg_s hx hb hts h_iX3 hown hC hs 6 (by decide) h_f41 dX3_nurse_95 ?_
        refine lv_iload_n hx hb dX3_nurse_98 rfl (lv_at hl 0 rfl) ?_
        refine lv_iadd hx hb dX3_nurse_99 ?_
        refine rp_s hx hb hts h_iX3 hown hC hs 6 (by decide) h_f41 dX3_nurse_100 ?_
        clear hC; intro H locs τ10 eτ10 hC
        refine lv_aload_n hx hb dX3_nurse_103 rfl (lv_at hl 1 rfl) ?_
        refine lv_iload_n hx hb dX3_nurse_104 rfl (lv_at hl 2 rfl) ?_
        refine lv_iconst (v := 2) hx hb dX3_nurse_105 (by decide) ?_
        refine lv_aload_n hx hb dX3_nurse_106 rfl (lv_at hl 1 rfl) ?_
        refine lv_iload_n hx hb dX3_nurse_107 rfl (lv_at hl 2 rfl) ?_
        refine lv_iconst (v := 2) hx hb dX3_nurse_108 (by decide) ?_
        refine r_iVp (n := 2) hF (c_X3_of l D cI b s θ τ10 ρ hs p0 (2 : Int32) hx0 ⟨2, by decide, rfl⟩) gX3_nurse_X3_of rfl rfl rfl (by decide +kernel) ⟨Nat.le_of_ble_eq_true rfl, Nat.le_of_ble_eq_true rfl⟩ hC hA (hC.recvS hs) rfl hl.1 rfl (Nat.le_of_ble_eq_true rfl) dX3_nurse_109 ⟨Nat.zero_le _, Nat.zero_le _⟩ ?_
        clear hC; intro H locs hC
        refine lv_iload_n hx hb dX3_nurse_112 rfl (lv_at hl 0 rfl) ?_
        refine lv_iadd hx hb dX3_nurse_113 ?_
        refine r_iVv (n := 3) hF (c_X3_set l D cI b s θ τ10 ρ hs p0 (2 : Int32) ((fX3_of τ10 p0 (2 : Int32)) + (fX3_pay τ4 (2 : Int32)).1) hx0 ⟨2, by decide, rfl⟩) gX3_nurse_X3_set rfl rfl rfl (by decide +kernel) ⟨Nat.le_of_ble_eq_true rfl, Nat.le_of_ble_eq_true rfl⟩ hC hA (hC.recvS hs) rfl hl.1 rfl (Nat.le_of_ble_eq_true rfl) dX3_nurse_114 ⟨Nat.zero_le _, Nat.zero_le _⟩ ?_
        clear hC; intro H locs τ11 eτ11 hC
        refine lv_aload_n hx hb dX3_nurse_117 rfl (lv_at hl 1 rfl) ?_
        refine lv_iload_n hx hb dX3_nurse_118 rfl (lv_at hl 2 rfl) ?_
        refine lv_bipush (v := 7) hx hb dX3_nurse_119 (by decide) ?_
        refine r_iVp (n := 2) hF (c_X3_of l D cI b s θ τ11 ρ hs p0 (7 : Int32) hx0 ⟨7, by decide, rfl⟩) gX3_nurse_X3_of rfl rfl rfl (by decide +kernel) ⟨Nat.le_of_ble_eq_true rfl, Nat.le_of_ble_eq_true rfl⟩ hC hA (hC.recvS hs) rfl hl.1 rfl (Nat.le_of_ble_eq_true rfl) dX3_nurse_121 ⟨Nat.zero_le _, Nat.zero_le _⟩ ?_
        clear hC; intro H locs hC
        refine lv_if_ne (tgt := 133) hx hb dX3_nurse_124 (by decide) (fun c12 => ?_) (fun c12 => ?_)
        · have e : fX3_nurse τ p0 = τ11 := by subst eτ1 eτ3 eτ4 eτ9 eτ10 eτ11; exact ((if_neg c2).trans ((if_neg c5).trans ((if_pos c8).trans ((if_neg c12).trans rfl))))
          exact r_vret hx hb hr hlocks hC dX3_nurse_133 ⟨rfl, by rw [e]⟩
        · refine lv_aload_n hx hb dX3_nurse_127 rfl (lv_at hl 1 rfl) ?_
          refine lv_iload_n hx hb dX3_nurse_128 rfl (lv_at hl 2 rfl) ?_
          refine lv_iconst (v := 0) hx hb dX3_nurse_129 (by decide) ?_
          refine r_iVv (n := 2) hF (c_X3_heal l D cI b s θ τ11 ρ hs p0 (0 : Int32) hx0) gX3_nurse_X3_heal rfl rfl rfl (by decide +kernel) ⟨Nat.le_of_ble_eq_true rfl, Nat.le_of_ble_eq_true rfl⟩ hC hA (hC.recvS hs) rfl hl.1 rfl (Nat.le_of_ble_eq_true rfl) dX3_nurse_130 ⟨Nat.zero_le _, Nat.zero_le _⟩ ?_
          clear hC; intro H locs τ13 eτ13 hC
          have e : fX3_nurse τ p0 = τ13 := by subst eτ1 eτ3 eτ4 eτ9 eτ10 eτ11 eτ13; exact ((if_neg c2).trans ((if_neg c5).trans ((if_pos c8).trans ((if_pos c12).trans rfl))))
          exact r_vret hx hb hr hlocks hC dX3_nurse_133 ⟨rfl, by rw [e]⟩
      · refine lv_iconst (v := 5) hx hb dX3_nurse_84 (by decide) ?_
        refine lv_goto (tgt := 89) hx hb dX3_nurse_85 (by decide) ?_
        refine r_iVi (n := 1) hF (c_X3_pay l D cI b s θ τ4 ρ hs (5 : Int32)) gX3_nurse_X3_pay rfl rfl rfl (by decide +kernel) ⟨Nat.le_of_ble_eq_true rfl, Nat.le_of_ble_eq_true rfl⟩ hC hA (hC.recvS hs) rfl hl.1 rfl (Nat.le_of_ble_eq_true rfl) dX3_nurse_89 ⟨Nat.zero_le _, Nat.zero_le _⟩ ?_
        clear hC; intro H locs τ14 eτ14 hC
        refine lv_istore_n (lv' := [(2, .int (fX3_pay τ4 (5 : Int32)).1), (0, .ref (b (3*s+2+0))), (1, .int p0)]) hx hb dX3_nurse_92 rfl hl (by decide) rfl ?_
        clear hl; intro ls hl
        refine lv_aload_n hx hb dX3_nurse_93 rfl (lv_at hl 1 rfl) ?_
        refine lv_dup hx hb dX3_nurse_94 rfl ?_
        refine rg_s hx hb hts h_iX3 hown hC hs 6 (by decide) h_f41 dX3_nurse_95 ?_
        refine lv_iload_n hx hb dX3_nurse_98 rfl (lv_at hl 0 rfl) ?_
        refine lv_iadd hx hb dX3_nurse_99 ?_
        refine rp_s hx hb hts h_iX3 hown hC hs 6 (by decide) h_f41 dX3_nurse_100 ?_
        clear hC; intro H locs τ15 eτ15 hC
        refine lv_aload_n hx hb dX3_nurse_103 rfl (lv_at hl 1 rfl) ?_
        refine lv_iload_n hx hb dX3_nurse_104 rfl (lv_at hl 2 rfl) ?_
        refine lv_iconst (v := 2) hx hb dX3_nurse_105 (by decide) ?_
        refine lv_aload_n hx hb dX3_nurse_106 rfl (lv_at hl 1 rfl) ?_
        refine lv_iload_n hx hb dX3_nurse_107 rfl (lv_at hl 2 rfl) ?_
        refine lv_iconst (v := 2) hx hb dX3_nurse_108 (by decide) ?_
        refine r_iVp (n := 2) hF (c_X3_of l D cI b s θ τ15 ρ hs p0 (2 : Int32) hx0 ⟨2, by decide, rfl⟩) gX3_nurse_X3_of rfl rfl rfl (by decide +kernel) ⟨Nat.le_of_ble_eq_true rfl, Nat.le_of_ble_eq_true rfl⟩ hC hA (hC.recvS hs) rfl hl.1 rfl (Nat.le_of_ble_eq_true rfl) dX3_nurse_109 ⟨Nat.zero_le _, Nat.zero_le _⟩ ?_
        clear hC; intro H locs hC
        refine lv_iload_n hx hb dX3_nurse_112 rfl (lv_at hl 0 rfl) ?_
        refine lv_iadd hx hb dX3_nurse_113 ?_
        refine r_iVv (n := 3) hF (c_X3_set l D cI b s θ τ15 ρ hs p0 (2 : Int32) ((fX3_of τ15 p0 (2 : Int32)) + (fX3_pay τ4 (5 : Int32)).1) hx0 ⟨2, by decide, rfl⟩) gX3_nurse_X3_set rfl rfl rfl (by decide +kernel) ⟨Nat.le_of_ble_eq_true rfl, Nat.le_of_ble_eq_true rfl⟩ hC hA (hC.recvS hs) rfl hl.1 rfl (Nat.le_of_ble_eq_true rfl) dX3_nurse_114 ⟨Nat.zero_le _, Nat.zero_le _⟩ ?_
        clear hC; intro H locs τ16 eτ16 hC
        refine lv_aload_n hx hb dX3_nurse_117 rfl (lv_at hl 1 rfl) ?_
        refine lv_iload_n hx hb dX3_nurse_118 rfl (lv_at hl 2 rfl) ?_
        refine lv_bipush (v := 7) hx hb dX3_nurse_119 (by decide) ?_
        refine r_iVp (n := 2) hF (c_X3_of l D cI b s θ τ16 ρ hs p0 (7 : Int32) hx0 ⟨7, by decide, rfl⟩) gX3_nurse_X3_of rfl rfl rfl (by decide +kernel) ⟨Nat.le_of_ble_eq_true rfl, Nat.le_of_ble_eq_true rfl⟩ hC hA (hC.recvS hs) rfl hl.1 rfl (Nat.le_of_ble_eq_true rfl) dX3_nurse_121 ⟨Nat.zero_le _, Nat.zero_le _⟩ ?_
        clear hC; intro H locs hC
        refine lv_if_ne (tgt := 133) hx hb dX3_nurse_124 (by decide) (fun c17 => ?_) (fun c17 => ?_)
        · have e : fX3_nurse τ p0 = τ16 := by subst eτ1 eτ3 eτ4 eτ14 eτ15 eτ16; exact ((if_neg c2).trans ((if_neg c5).trans ((if_neg c8).trans ((if_neg c17).trans rfl))))
          exact r_vret hx hb hr hlocks hC dX3_nurse_133 ⟨rfl, by rw [e]⟩
        · refine lv_aload_n hx hb dX3_nurse_127 rfl (lv_at hl 1 rfl) ?_
          refine lv_iload_n hx hb dX3_nurse_128 rfl (lv_at hl 2 rfl) ?_
          refine lv_iconst (v := 0) hx hb dX3_nurse_129 (by decide) ?_
          refine r_iVv (n := 2) hF (c_X3_heal l D cI b s θ τ16 ρ hs p0 (0 : Int32) hx0) gX3_nurse_X3_heal rfl rfl rfl (by decide +kernel) ⟨Nat.le_of_ble_eq_true rfl, Nat.le_of_ble_eq_true rfl⟩ hC hA (hC.recvS hs) rfl hl.1 rfl (Nat.le_of_ble_eq_true rfl) dX3_nurse_130 ⟨Nat.zero_le _, Nat.zero_le _⟩ ?_
          clear hC; intro H locs τ18 eτ18 hC
          have e : fX3_nurse τ p0 = τ18 := by subst eτ1 eτ3 eτ4 eτ14 eτ15 eτ16 eτ18; exact ((if_neg c2).trans ((if_neg c5).trans ((if_neg c8).trans ((if_pos c17).trans rfl))))
          exact r_vret hx hb hr hlocks hC dX3_nurse_133 ⟨rfl, by rw [e]⟩
  · refine lv_aload_n hx hb dX3_nurse_23 rfl (lv_at hl 0 rfl) ?_
    refine lv_iload_n hx hb dX3_nurse_24 rfl (lv_at hl 1 rfl) ?_
    refine lv_iconst (v := 2) hx hb dX3_nurse_25 (by decide) ?_
    refine r_iVv (n := 2) hF (c_X3_heal l D cI b s θ τ1 ρ hs p0 (2 : Int32) hx0) gX3_nurse_X3_heal rfl rfl rfl (by decide +kernel) ⟨Nat.le_of_ble_eq_true rfl, Nat.le_of_ble_eq_true rfl⟩ hC hA (hC.recvS hs) rfl hl.1 rfl (Nat.le_of_ble_eq_true rfl) dX3_nurse_26 ⟨Nat.zero_le _, Nat.zero_le _⟩ ?_
    clear hC; intro H locs τ19 eτ19 hC
    have e : fX3_nurse τ p0 = τ19 := by subst eτ1 eτ19; exact ((if_pos c2).trans rfl)
    exact r_vret hx hb hr hlocks hC dX3_nurse_29 ⟨rfl, by rw [e]⟩
abbrev rmX3_payDues : Room := { frames := 1, cells := 0, slots := 0, locals := 23 }
def fX3_payDues (θ : (Nat → Nat → Int32)) (τ : (Nat → Nat → Int32)) (p0 : Int32) : (Nat → Nat → Int32) :=
    if (fX3_of τ p0 (2 : Int32)) < (θ 0 1) then
      let τ3 : (Nat → Nat → Int32) := (fX3_set τ p0 (4 : Int32) (mnI (9 : Int32) ((fX3_of τ p0 (4 : Int32)) + (1 : Int32))))
      τ3
    else
      let τ6 : (Nat → Nat → Int32) := (fX3_set τ p0 (4 : Int32) (0 : Int32))
      let τ8 : (Nat → Nat → Int32) := (fX3_set τ6 p0 (2 : Int32) ((fX3_of τ6 p0 (2 : Int32)) - (θ 0 1)))
      let τ9 : (Nat → Nat → Int32) := up2 τ8 0 2 ((τ8 0 2) + (θ 0 1))
      τ9
theorem wf_X3_payDues {θ τ : Nat → Nat → Int32} {N : Nat} {p0 : Int32} (h : wf τ N) (h0 : Ix p0 12) : wf (fX3_payDues θ τ p0) N := by
  unfold fX3_payDues
  dsimp only
  repeat' split
  all_goals repeat' first
    | with_reducible exact h0
    | with_reducible exact h
    | (with_reducible refine wf_set4 ?_ ?_)
    | (with_reducible refine wf_set2 ?_ ?_)
    | (with_reducible refine wf_up0_2 ?_)
    | (with_reducible refine wf_up0_6 ?_)
set_option maxHeartbeats 400000 in
set_option maxRecDepth 100000 in
theorem c_X3_payDues (l : Launch) (D : va_G) (cI : ClassId) (b : Nat → Nat) (s : Nat) (θ τ ρ : (Nat → Nat → Int32)) (hs : s < 2) (p0 : Int32) (hx0 : Ix p0 12) : rMv l yX3_payDues wsX3_payDues rmX3_payDues D cI b [.ref (b (3*s+2+0)), .int p0] s θ τ ρ θ (fX3_payDues θ τ p0) := by
  intro sz
  refine r_head (cc := cX3_payDues) (maxL := 3) (ret := none) (plainFor_of_name (by decide)) rfl (Nat.le_of_ble_eq_true rfl) ?_
  intro p e S m below meth c hx hb hr hml hown hts hlocks hnm hsz hA hC ls hl
  have hF : CallFix p m c cX3_payDues 3 S [.ref (b (3*s+2+0)), .int p0].toArray wsX3_payDues RX3 := ⟨hx, hb, hml, hown, hts⟩
  have h_f3 : (Cond.fieldLink RX3 3 "CombersSocietyModel$State" "this$0" "LCombersSocietyModel;").before [.ref (b (3*s+2+0)), .int p0].toArray S = true := hts _ (by decide +kernel)
  have h_iX3 : ∀ w ∈ u_ws RX3 TX3 12, w ∈ wsX3_payDues := by decide +kernel
  have h_f94 : (nw94).before [.ref (b (3*s+2+0)), .int p0].toArray S = true := va_Nw.use rfl hC.2.2.2.2.nw94
  have h_iX4 : ∀ w ∈ u_ws RX4 TX4 5, w ∈ wsX3_payDues := by decide +kernel
  have h_ml69 : (Cond.methodLink RX3 69 Lib.Math.min.name).before [.ref (b (3*s+2+0)), .int p0].toArray S = true := hts _ (by decide +kernel)
  have h_ms69 : (Cond.static Lib.Math.min.name).before [.ref (b (3*s+2+0)), .int p0].toArray S = true := hts _ (by decide +kernel)
  have h_mini : (Cond.initialized "java/lang/Math").before [.ref (b (3*s+2+0)), .int p0].toArray S = true := hts _ (by decide +kernel)
  have h_mc69 : (Cond.code Lib.Math.min.name Lib.Math.min.code 2 (some .int)).before [.ref (b (3*s+2+0)), .int p0].toArray S = true := hts _ (by decide +kernel)
  have h_f15 : (Cond.fieldLink RX3 15 "CombersSocietyModel$State" "box" "I").before [.ref (b (3*s+2+0)), .int p0].toArray S = true := hts _ (by decide +kernel)
  have hl : lv_has ls 3 [(0, .ref (b (3*s+2+0))), (1, .int p0)] := hl
  refine lv_aload_n hx hb dX3_payDues_0 rfl (lv_at hl 0 rfl) ?_
  refine lv_iload_n hx hb dX3_payDues_1 rfl (lv_at hl 1 rfl) ?_
  refine lv_iconst (v := 2) hx hb dX3_payDues_2 (by decide) ?_
  refine r_iVp (n := 2) hF (c_X3_of l D cI b s θ τ ρ hs p0 (2 : Int32) hx0 ⟨2, by decide, rfl⟩) gX3_payDues_X3_of rfl rfl rfl (by decide +kernel) ⟨Nat.le_of_ble_eq_true rfl, Nat.le_of_ble_eq_true rfl⟩ hC hA (hC.recvS hs) rfl hl.1 rfl (Nat.le_of_ble_eq_true rfl) dX3_payDues_3 ⟨Nat.zero_le _, Nat.zero_le _⟩ ?_
  clear hC; intro H locs hC
  refine lv_aload_n hx hb dX3_payDues_6 rfl (lv_at hl 0 rfl) ?_
  refine rg_t hx hb hts h_iX3 hown hC hs h_f3 dX3_payDues_7 ?_
  refine rg_mN hx hb hts h_iX4 hown hC 1 (by decide) h_f94 dX3_payDues_10 ?_
  refine lv_icmp_lt (tgt := 20) hx hb dX3_payDues_13 (by decide) (fun c1 => ?_) (fun c1 => ?_)
  · refine lv_iconst (v := 0) hx hb dX3_payDues_20 (by decide) ?_
    refine lv_istore_n (lv' := [(2, .int (0 : Int32)), (0, .ref (b (3*s+2+0))), (1, .int p0)]) hx hb dX3_payDues_21 rfl hl (by decide) rfl ?_
    clear hl; intro ls hl
    refine lv_aload_n hx hb dX3_payDues_22 rfl (lv_at hl 1 rfl) ?_
    refine lv_iload_n hx hb dX3_payDues_23 rfl (lv_at hl 2 rfl) ?_
    refine lv_iconst (v := 4) hx hb dX3_payDues_24 (by decide) ?_
    refine lv_iload_n hx hb dX3_payDues_25 rfl (lv_at hl 0 rfl) ?_
    refine lv_if_eq (tgt := 33) hx hb dX3_payDues_26 (by decide) (fun c2 => ?_) (fun c2 => absurd (by decide) c2)
    refine lv_bipush (v := 9) hx hb dX3_payDues_33 (by decide) ?_
    refine lv_aload_n hx hb dX3_payDues_35 rfl (lv_at hl 1 rfl) ?_
    refine lv_iload_n hx hb dX3_payDues_36 rfl (lv_at hl 2 rfl) ?_
    refine lv_iconst (v := 4) hx hb dX3_payDues_37 (by decide) ?_
    refine r_iVp (n := 2) hF (c_X3_of l D cI b s θ τ ρ hs p0 (4 : Int32) hx0 ⟨4, by decide, rfl⟩) gX3_payDues_X3_of rfl rfl rfl (by decide +kernel) ⟨Nat.le_of_ble_eq_true rfl, Nat.le_of_ble_eq_true rfl⟩ hC hA (hC.recvS hs) rfl hl.1 rfl (Nat.le_of_ble_eq_true rfl) dX3_payDues_38 ⟨Nat.zero_le _, Nat.zero_le _⟩ ?_
    clear hC; intro H locs hC
    refine lv_iconst (v := 1) hx hb dX3_payDues_41 (by decide) ?_
    refine lv_iadd hx hb dX3_payDues_42 ?_
    refine c_mmin hx hb (hml.trans hl.1.symm) hown h_ml69 h_ms69 h_mini h_mc69 (Nat.le_of_ble_eq_true rfl) (Nat.le_of_ble_eq_true rfl) (Nat.zero_le _) (Nat.zero_le _) dX3_payDues_43 ?_
    refine r_iVv (n := 3) hF (c_X3_set l D cI b s θ τ ρ hs p0 (4 : Int32) (mnI (9 : Int32) ((fX3_of τ p0 (4 : Int32)) + (1 : Int32))) hx0 ⟨4, by decide, rfl⟩) gX3_payDues_X3_set rfl rfl rfl (by decide +kernel) ⟨Nat.le_of_ble_eq_true rfl, Nat.le_of_ble_eq_true rfl⟩ hC hA (hC.recvS hs) rfl hl.1 rfl (Nat.le_of_ble_eq_true rfl) dX3_payDues_46 ⟨Nat.zero_le _, Nat.zero_le _⟩ ?_
    clear hC; intro H locs τ3 eτ3 hC
    refine lv_iload_n hx hb dX3_payDues_49 rfl (lv_at hl 0 rfl) ?_
    refine lv_if_ne (tgt := 54) hx hb dX3_payDues_50 (by decide) (fun c4 => absurd (by decide) c4) (fun c4 => ?_)
    have e : fX3_payDues θ τ p0 = τ3 := by subst eτ3; exact ((if_pos c1).trans rfl)
    exact r_vret hx hb hr hlocks hC dX3_payDues_53 ⟨rfl, by rw [e]⟩
  · refine lv_iconst (v := 1) hx hb dX3_payDues_16 (by decide) ?_
    refine lv_goto (tgt := 21) hx hb dX3_payDues_17 (by decide) ?_
    refine lv_istore_n (lv' := [(2, .int (1 : Int32)), (0, .ref (b (3*s+2+0))), (1, .int p0)]) hx hb dX3_payDues_21 rfl hl (by decide) rfl ?_
    clear hl; intro ls hl
    refine lv_aload_n hx hb dX3_payDues_22 rfl (lv_at hl 1 rfl) ?_
    refine lv_iload_n hx hb dX3_payDues_23 rfl (lv_at hl 2 rfl) ?_
    refine lv_iconst (v := 4) hx hb dX3_payDues_24 (by decide) ?_
    refine lv_iload_n hx hb dX3_payDues_25 rfl (lv_at hl 0 rfl) ?_
    refine lv_if_eq (tgt := 33) hx hb dX3_payDues_26 (by decide) (fun c5 => absurd c5 (by decide)) (fun c5 => ?_)
    refine lv_iconst (v := 0) hx hb dX3_payDues_29 (by decide) ?_
    refine lv_goto (tgt := 46) hx hb dX3_payDues_30 (by decide) ?_
    refine r_iVv (n := 3) hF (c_X3_set l D cI b s θ τ ρ hs p0 (4 : Int32) (0 : Int32) hx0 ⟨4, by decide, rfl⟩) gX3_payDues_X3_set rfl rfl rfl (by decide +kernel) ⟨Nat.le_of_ble_eq_true rfl, Nat.le_of_ble_eq_true rfl⟩ hC hA (hC.recvS hs) rfl hl.1 rfl (Nat.le_of_ble_eq_true rfl) dX3_payDues_46 ⟨Nat.zero_le _, Nat.zero_le _⟩ ?_
    clear hC; intro H locs τ6 eτ6 hC
    refine lv_iload_n hx hb dX3_payDues_49 rfl (lv_at hl 0 rfl) ?_
    refine lv_if_ne (tgt := 54) hx hb dX3_payDues_50 (by decide) (fun c7 => ?_) (fun c7 => absurd c7 (by decide))
    refine lv_aload_n hx hb dX3_payDues_54 rfl (lv_at hl 1 rfl) ?_
    refine lv_iload_n hx hb dX3_payDues_55 rfl (lv_at hl 2 rfl) ?_
    refine lv_iconst (v := 2) hx hb dX3_payDues_56 (by decide) ?_
    refine lv_aload_n hx hb dX3_payDues_57 rfl (lv_at hl 1 rfl) ?_
    refine lv_iload_n hx hb dX3_payDues_58 rfl (lv_at hl 2 rfl) ?_
    refine lv_iconst (v := 2) hx hb dX3_payDues_59 (by decide) ?_
    refine r_iVp (n := 2) hF (c_X3_of l D cI b s θ τ6 ρ hs p0 (2 : Int32) hx0 ⟨2, by decide, rfl⟩) gX3_payDues_X3_of rfl rfl rfl (by decide +kernel) ⟨Nat.le_of_ble_eq_true rfl, Nat.le_of_ble_eq_true rfl⟩ hC hA (hC.recvS hs) rfl hl.1 rfl (Nat.le_of_ble_eq_true rfl) dX3_payDues_60 ⟨Nat.zero_le _, Nat.zero_le _⟩ ?_
    clear hC; intro H locs hC
    refine lv_aload_n hx hb dX3_payDues_63 rfl (lv_at hl 1 rfl) ?_
    refine rg_t hx hb hts h_iX3 hown hC hs h_f3 dX3_payDues_64 ?_
    refine rg_mN hx hb hts h_iX4 hown hC 1 (by decide) h_f94 dX3_payDues_67 ?_
    refine lv_isub hx hb dX3_payDues_70 ?_
    refine r_iVv (n := 3) hF (c_X3_set l D cI b s θ τ6 ρ hs p0 (2 : Int32) ((fX3_of τ6 p0 (2 : Int32)) - (θ 0 1)) hx0 ⟨2, by decide, rfl⟩) gX3_payDues_X3_set rfl rfl rfl (by decide +kernel) ⟨Nat.le_of_ble_eq_true rfl, Nat.le_of_ble_eq_true rfl⟩ hC hA (hC.recvS hs) rfl hl.1 rfl (Nat.le_of_ble_eq_true rfl) dX3_payDues_71 ⟨Nat.zero_le _, Nat.zero_le _⟩ ?_
    clear hC; intro H locs τ8 eτ8 hC
    refine lv_aload_n hx hb dX3_payDues_74 rfl (lv_at hl 1 rfl) ?_
    refine lv_dup hx hb dX3_payDues_75 rfl ?_
    refine rg_s hx hb hts h_iX3 hown hC hs 2 (by decide) h_f15 dX3_payDues_76 ?_
    refine lv_aload_n hx hb dX3_payDues_79 rfl (lv_at hl 1 rfl) ?_
    refine rg_t hx hb hts h_iX3 hown hC hs h_f3 dX3_payDues_80 ?_
    refine rg_mN hx hb hts h_iX4 hown hC 1 (by decide) h_f94 dX3_payDues_83 ?_
    refine lv_iadd hx hb dX3_payDues_86 ?_
    refine rp_s hx hb hts h_iX3 hown hC hs 2 (by decide) h_f15 dX3_payDues_87 ?_
    clear hC; intro H locs τ9 eτ9 hC
    have e : fX3_payDues θ τ p0 = τ9 := by subst eτ6 eτ8 eτ9; exact ((if_neg c1).trans rfl)
    exact r_vret hx hb hr hlocks hC dX3_payDues_90 ⟨rfl, by rw [e]⟩
abbrev rmX3_settle : Room := { frames := 1, cells := 0, slots := 0, locals := 23 }
def fX3_settle (τ : (Nat → Nat → Int32)) (p0 : Int32) : Int32 × (Nat → Nat → Int32) :=
    let τ1 : (Nat → Nat → Int32) := (fX3_set τ p0 (3 : Int32) ((fX3_of τ p0 (3 : Int32)) - (mnI (fX3_of τ p0 (3 : Int32)) (fX3_of τ p0 (2 : Int32)))))
    let τ2 : (Nat → Nat → Int32) := (fX3_set τ1 p0 (2 : Int32) ((fX3_of τ1 p0 (2 : Int32)) - (mnI (fX3_of τ p0 (3 : Int32)) (fX3_of τ p0 (2 : Int32)))))
    let τ3 : (Nat → Nat → Int32) := up2 τ2 0 2 ((τ2 0 2) + (mnI (fX3_of τ p0 (3 : Int32)) (fX3_of τ p0 (2 : Int32))))
    ((fX3_of τ3 p0 (3 : Int32)), τ3)
theorem wf_X3_settle {τ : Nat → Nat → Int32} {N : Nat} {p0 : Int32} (h : wf τ N) (h0 : Ix p0 12) : wf (fX3_settle τ p0).2 N := by
  unfold fX3_settle
  exact wf_up0 (wf_X3_set (wf_X3_set h h0 ⟨3, by decide, rfl⟩ (by decide)) h0 ⟨2, by decide, rfl⟩ (by decide)) (by decide)
set_option maxHeartbeats 400000 in
set_option maxRecDepth 100000 in
theorem c_X3_settle (l : Launch) (D : va_G) (cI : ClassId) (b : Nat → Nat) (s : Nat) (θ τ ρ : (Nat → Nat → Int32)) (hs : s < 2) (p0 : Int32) (hx0 : Ix p0 12) : rMi l yX3_settle wsX3_settle rmX3_settle D cI b [.ref (b (3*s+2+0)), .int p0] s θ τ ρ (fX3_settle τ p0).1 θ (fX3_settle τ p0).2 := by
  intro sz
  refine r_head (cc := cX3_settle) (maxL := 3) (ret := (some .int)) (plainFor_of_name (by decide)) rfl (Nat.le_of_ble_eq_true rfl) ?_
  intro p e S m below meth c hx hb hr hml hown hts hlocks hnm hsz hA hC ls hl
  have hF : CallFix p m c cX3_settle 3 S [.ref (b (3*s+2+0)), .int p0].toArray wsX3_settle RX3 := ⟨hx, hb, hml, hown, hts⟩
  have h_ml69 : (Cond.methodLink RX3 69 Lib.Math.min.name).before [.ref (b (3*s+2+0)), .int p0].toArray S = true := hts _ (by decide +kernel)
  have h_ms69 : (Cond.static Lib.Math.min.name).before [.ref (b (3*s+2+0)), .int p0].toArray S = true := hts _ (by decide +kernel)
  have h_mini : (Cond.initialized "java/lang/Math").before [.ref (b (3*s+2+0)), .int p0].toArray S = true := hts _ (by decide +kernel)
  have h_mc69 : (Cond.code Lib.Math.min.name Lib.Math.min.code 2 (some .int)).before [.ref (b (3*s+2+0)), .int p0].toArray S = true := hts _ (by decide +kernel)
  have h_f15 : (Cond.fieldLink RX3 15 "CombersSocietyModel$State" "box" "I").before [.ref (b (3*s+2+0)), .int p0].toArray S = true := hts _ (by decide +kernel)
  have h_iX3 : ∀ w ∈ u_ws RX3 TX3 12, w ∈ wsX3_settle := by decide +kernel
  have hl : lv_has ls 3 [(0, .ref (b (3*s+2+0))), (1, .int p0)] := hl
  refine lv_aload_n hx hb dX3_settle_0 rfl (lv_at hl 0 rfl) ?_
  refine lv_iload_n hx hb dX3_settle_1 rfl (lv_at hl 1 rfl) ?_
  refine lv_iconst (v := 3) hx hb dX3_settle_2 (by decide) ?_
  refine r_iVp (n := 2) hF (c_X3_of l D cI b s θ τ ρ hs p0 (3 : Int32) hx0 ⟨3, by decide, rfl⟩) gX3_settle_X3_of rfl rfl rfl (by decide +kernel) ⟨Nat.le_of_ble_eq_true rfl, Nat.le_of_ble_eq_true rfl⟩ hC hA (hC.recvS hs) rfl hl.1 rfl (Nat.le_of_ble_eq_true rfl) dX3_settle_3 ⟨Nat.zero_le _, Nat.zero_le _⟩ ?_
  clear hC; intro H locs hC
  refine lv_aload_n hx hb dX3_settle_6 rfl (lv_at hl 0 rfl) ?_
  refine lv_iload_n hx hb dX3_settle_7 rfl (lv_at hl 1 rfl) ?_
  refine lv_iconst (v := 2) hx hb dX3_settle_8 (by decide) ?_
  refine r_iVp (n := 2) hF (c_X3_of l D cI b s θ τ ρ hs p0 (2 : Int32) hx0 ⟨2, by decide, rfl⟩) gX3_settle_X3_of rfl rfl rfl (by decide +kernel) ⟨Nat.le_of_ble_eq_true rfl, Nat.le_of_ble_eq_true rfl⟩ hC hA (hC.recvS hs) rfl hl.1 rfl (Nat.le_of_ble_eq_true rfl) dX3_settle_9 ⟨Nat.zero_le _, Nat.zero_le _⟩ ?_
  clear hC; intro H locs hC
  refine c_mmin hx hb (hml.trans hl.1.symm) hown h_ml69 h_ms69 h_mini h_mc69 (Nat.le_of_ble_eq_true rfl) (Nat.le_of_ble_eq_true rfl) (Nat.zero_le _) (Nat.zero_le _) dX3_settle_12 ?_
  refine lv_istore_n (lv' := [(2, .int (mnI (fX3_of τ p0 (3 : Int32)) (fX3_of τ p0 (2 : Int32)))), (0, .ref (b (3*s+2+0))), (1, .int p0)]) hx hb dX3_settle_15 rfl hl (by decide) rfl ?_
  clear hl; intro ls hl
  refine lv_aload_n hx hb dX3_settle_16 rfl (lv_at hl 1 rfl) ?_
  refine lv_iload_n hx hb dX3_settle_17 rfl (lv_at hl 2 rfl) ?_
  refine lv_iconst (v := 3) hx hb dX3_settle_18 (by decide) ?_
  refine lv_aload_n hx hb dX3_settle_19 rfl (lv_at hl 1 rfl) ?_
  refine lv_iload_n hx hb dX3_settle_20 rfl (lv_at hl 2 rfl) ?_
  refine lv_iconst (v := 3) hx hb dX3_settle_21 (by decide) ?_
  refine r_iVp (n := 2) hF (c_X3_of l D cI b s θ τ ρ hs p0 (3 : Int32) hx0 ⟨3, by decide, rfl⟩) gX3_settle_X3_of rfl rfl rfl (by decide +kernel) ⟨Nat.le_of_ble_eq_true rfl, Nat.le_of_ble_eq_true rfl⟩ hC hA (hC.recvS hs) rfl hl.1 rfl (Nat.le_of_ble_eq_true rfl) dX3_settle_22 ⟨Nat.zero_le _, Nat.zero_le _⟩ ?_
  clear hC; intro H locs hC
  refine lv_iload_n hx hb dX3_settle_25 rfl (lv_at hl 0 rfl) ?_
  refine lv_isub hx hb dX3_settle_26 ?_
  refine r_iVv (n := 3) hF (c_X3_set l D cI b s θ τ ρ hs p0 (3 : Int32) ((fX3_of τ p0 (3 : Int32)) - (mnI (fX3_of τ p0 (3 : Int32)) (fX3_of τ p0 (2 : Int32)))) hx0 ⟨3, by decide, rfl⟩) gX3_settle_X3_set rfl rfl rfl (by decide +kernel) ⟨Nat.le_of_ble_eq_true rfl, Nat.le_of_ble_eq_true rfl⟩ hC hA (hC.recvS hs) rfl hl.1 rfl (Nat.le_of_ble_eq_true rfl) dX3_settle_27 ⟨Nat.zero_le _, Nat.zero_le _⟩ ?_
  clear hC; intro H locs τ1 eτ1 hC
  refine lv_aload_n hx hb dX3_settle_30 rfl (lv_at hl 1 rfl) ?_
  refine lv_iload_n hx hb dX3_settle_31 rfl (lv_at hl 2 rfl) ?_
  refine lv_iconst (v := 2) hx hb dX3_settle_32 (by decide) ?_
  refine lv_aload_n hx hb dX3_settle_33 rfl (lv_at hl 1 rfl) ?_
  refine lv_iload_n hx hb dX3_settle_34 rfl (lv_at hl 2 rfl) ?_
  refine lv_iconst (v := 2) hx hb dX3_settle_35 (by decide) ?_
  refine r_iVp (n := 2) hF (c_X3_of l D cI b s θ τ1 ρ hs p0 (2 : Int32) hx0 ⟨2, by decide, rfl⟩) gX3_settle_X3_of rfl rfl rfl (by decide +kernel) ⟨Nat.le_of_ble_eq_true rfl, Nat.le_of_ble_eq_true rfl⟩ hC hA (hC.recvS hs) rfl hl.1 rfl (Nat.le_of_ble_eq_true rfl) dX3_settle_36 ⟨Nat.zero_le _, Nat.zero_le _⟩ ?_
  clear hC; intro H locs hC
  refine lv_iload_n hx hb dX3_settle_39 rfl (lv_at hl 0 rfl) ?_
  refine lv_isub hx hb dX3_settle_40 ?_
  refine r_iVv (n := 3) hF (c_X3_set l D cI b s θ τ1 ρ hs p0 (2 : Int32) ((fX3_of τ1 p0 (2 : Int32)) - (mnI (fX3_of τ p0 (3 : Int32)) (fX3_of τ p0 (2 : Int32)))) hx0 ⟨2, by decide, rfl⟩) gX3_settle_X3_set rfl rfl rfl (by decide +kernel) ⟨Nat.le_of_ble_eq_true rfl, Nat.le_of_ble_eq_true rfl⟩ hC hA (hC.recvS hs) rfl hl.1 rfl (Nat.le_of_ble_eq_true rfl) dX3_settle_41 ⟨Nat.zero_le _, Nat.zero_le _⟩ ?_
  clear hC; intro H locs τ2 eτ2 hC
  refine lv_aload_n hx hb dX3_settle_44 rfl (lv_at hl 1 rfl) ?_
  refine lv_dup hx hb dX3_settle_45 rfl ?_
  refine rg_s hx hb hts h_iX3 hown hC hs 2 (by decide) h_f15 dX3_settle_46 ?_
  refine lv_iload_n hx hb dX3_settle_49 rfl (lv_at hl 0 rfl) ?_
  refine lv_iadd hx hb dX3_settle_50 ?_
  refine rp_s hx hb hts h_iX3 hown hC hs 2 (by decide) h_f15 dX3_settle_51 ?_
  clear hC; intro H locs τ3 eτ3 hC
  refine lv_aload_n hx hb dX3_settle_54 rfl (lv_at hl 1 rfl) ?_
  refine lv_iload_n hx hb dX3_settle_55 rfl (lv_at hl 2 rfl) ?_
  refine lv_iconst (v := 3) hx hb dX3_settle_56 (by decide) ?_
  refine r_iVp (n := 2) hF (c_X3_of l D cI b s θ τ3 ρ hs p0 (3 : Int32) hx0 ⟨3, by decide, rfl⟩) gX3_settle_X3_of rfl rfl rfl (by decide +kernel) ⟨Nat.le_of_ble_eq_true rfl, Nat.le_of_ble_eq_true rfl⟩ hC hA (hC.recvS hs) rfl hl.1 rfl (Nat.le_of_ble_eq_true rfl) dX3_settle_57 ⟨Nat.zero_le _, Nat.zero_le _⟩ ?_
  clear hC; intro H locs hC
  have e : fX3_settle τ p0 = ((fX3_of τ3 p0 (3 : Int32)), τ3) := by subst eτ1 eτ2 eτ3; exact rfl
  exact r_iret hx hb hr hlocks hC dX3_settle_60 ⟨by rw [e], rfl, by rw [e]⟩
abbrev rmX3_drink : Room := { frames := 2, cells := 0, slots := 0, locals := 45 }
def fX3_drink (τ : (Nat → Nat → Int32)) (p0 : Int32) : (Nat → Nat → Int32) :=
    if (12 : Int32) ≤ (fX3_of τ p0 (3 : Int32)) then
      let τ2 : (Nat → Nat → Int32) := (fX3_settle τ p0).2
      let τ3 : (Nat → Nat → Int32) := (fX3_set τ2 p0 (1 : Int32) (mnI (20 : Int32) ((fX3_of τ2 p0 (1 : Int32)) + (1 : Int32))))
      τ3
    else
      let τ4 : (Nat → Nat → Int32) := (fX3_set τ p0 (3 : Int32) (((fX3_of τ p0 (3 : Int32)) + (1 : Int32)) + ((fX3_of τ p0 (2 : Int32)) / (8 : Int32))))
      let τ5 : (Nat → Nat → Int32) := (fX3_settle τ4 p0).2
      let τ6 : (Nat → Nat → Int32) := (fX3_set τ5 p0 (1 : Int32) (mnI (20 : Int32) ((fX3_of τ5 p0 (1 : Int32)) + (1 : Int32))))
      τ6
theorem wf_X3_drink {τ : Nat → Nat → Int32} {N : Nat} {p0 : Int32} (h : wf τ N) (h0 : Ix p0 12) : wf (fX3_drink τ p0) N := by
  unfold fX3_drink
  dsimp only
  repeat' split
  all_goals repeat' first
    | with_reducible exact h0
    | with_reducible exact h
    | (with_reducible refine wf_set3 ?_ ?_)
    | (with_reducible refine wf_set1 ?_ ?_)
    | (with_reducible refine wf_X3_settle ?_ ?_)
set_option maxHeartbeats 400000 in
set_option maxRecDepth 100000 in
theorem c_X3_drink (l : Launch) (D : va_G) (cI : ClassId) (b : Nat → Nat) (s : Nat) (θ τ ρ : (Nat → Nat → Int32)) (hs : s < 2) (p0 : Int32) (hx0 : Ix p0 12) : rMv l yX3_drink wsX3_drink rmX3_drink D cI b [.ref (b (3*s+2+0)), .int p0] s θ τ ρ θ (fX3_drink τ p0) := by
  intro sz
  refine r_head (cc := cX3_drink) (maxL := 2) (ret := none) (plainFor_of_name (by decide)) rfl (Nat.le_of_ble_eq_true rfl) ?_
  intro p e S m below meth c hx hb hr hml hown hts hlocks hnm hsz hA hC ls hl
  have hF : CallFix p m c cX3_drink 2 S [.ref (b (3*s+2+0)), .int p0].toArray wsX3_drink RX3 := ⟨hx, hb, hml, hown, hts⟩
  have h_ml69 : (Cond.methodLink RX3 69 Lib.Math.min.name).before [.ref (b (3*s+2+0)), .int p0].toArray S = true := hts _ (by decide +kernel)
  have h_ms69 : (Cond.static Lib.Math.min.name).before [.ref (b (3*s+2+0)), .int p0].toArray S = true := hts _ (by decide +kernel)
  have h_mini : (Cond.initialized "java/lang/Math").before [.ref (b (3*s+2+0)), .int p0].toArray S = true := hts _ (by decide +kernel)
  have h_mc69 : (Cond.code Lib.Math.min.name Lib.Math.min.code 2 (some .int)).before [.ref (b (3*s+2+0)), .int p0].toArray S = true := hts _ (by decide +kernel)
  have hl : lv_has ls 2 [(0, .ref (b (3*s+2+0))), (1, .int p0)] := hl
  refine lv_aload_n hx hb dX3_drink_0 rfl (lv_at hl 0 rfl) ?_
  refine lv_iload_n hx hb dX3_drink_1 rfl (lv_at hl 1 rfl) ?_
  refine lv_iconst (v := 3) hx hb dX3_drink_2 (by decide) ?_
  refine r_iVp (n := 2) hF (c_X3_of l D cI b s θ τ ρ hs p0 (3 : Int32) hx0 ⟨3, by decide, rfl⟩) gX3_drink_X3_of rfl rfl rfl (by decide +kernel) ⟨Nat.le_of_ble_eq_true rfl, Nat.le_of_ble_eq_true rfl⟩ hC hA (hC.recvS hs) rfl hl.1 rfl (Nat.le_of_ble_eq_true rfl) dX3_drink_3 ⟨Nat.zero_le _, Nat.zero_le _⟩ ?_
  clear hC; intro H locs hC
  refine lv_bipush (v := 12) hx hb dX3_drink_6 (by decide) ?_
  refine lv_icmp_ge (tgt := 35) hx hb dX3_drink_8 (by decide) (fun c1 => ?_) (fun c1 => ?_)
  · refine lv_aload_n hx hb dX3_drink_35 rfl (lv_at hl 0 rfl) ?_
    refine lv_iload_n hx hb dX3_drink_36 rfl (lv_at hl 1 rfl) ?_
    refine r_iVi (n := 1) hF (c_X3_settle l D cI b s θ τ ρ hs p0 hx0) gX3_drink_X3_settle rfl rfl rfl (by decide +kernel) ⟨Nat.le_of_ble_eq_true rfl, Nat.le_of_ble_eq_true rfl⟩ hC hA (hC.recvS hs) rfl hl.1 rfl (Nat.le_of_ble_eq_true rfl) dX3_drink_37 ⟨Nat.zero_le _, Nat.zero_le _⟩ ?_
    clear hC; intro H locs τ2 eτ2 hC
    refine lv_pop hx hb dX3_drink_40 rfl ?_
    refine lv_aload_n hx hb dX3_drink_41 rfl (lv_at hl 0 rfl) ?_
    refine lv_iload_n hx hb dX3_drink_42 rfl (lv_at hl 1 rfl) ?_
    refine lv_iconst (v := 1) hx hb dX3_drink_43 (by decide) ?_
    refine lv_bipush (v := 20) hx hb dX3_drink_44 (by decide) ?_
    refine lv_aload_n hx hb dX3_drink_46 rfl (lv_at hl 0 rfl) ?_
    refine lv_iload_n hx hb dX3_drink_47 rfl (lv_at hl 1 rfl) ?_
    refine lv_iconst (v := 1) hx hb dX3_drink_48 (by decide) ?_
    refine r_iVp (n := 2) hF (c_X3_of l D cI b s θ τ2 ρ hs p0 (1 : Int32) hx0 ⟨1, by decide, rfl⟩) gX3_drink_X3_of rfl rfl rfl (by decide +kernel) ⟨Nat.le_of_ble_eq_true rfl, Nat.le_of_ble_eq_true rfl⟩ hC hA (hC.recvS hs) rfl hl.1 rfl (Nat.le_of_ble_eq_true rfl) dX3_drink_49 ⟨Nat.zero_le _, Nat.zero_le _⟩ ?_
    clear hC; intro H locs hC
    refine lv_iconst (v := 1) hx hb dX3_drink_52 (by decide) ?_
    refine lv_iadd hx hb dX3_drink_53 ?_
    refine c_mmin hx hb (hml.trans hl.1.symm) hown h_ml69 h_ms69 h_mini h_mc69 (Nat.le_of_ble_eq_true rfl) (Nat.le_of_ble_eq_true rfl) (Nat.zero_le _) (Nat.zero_le _) dX3_drink_54 ?_
    refine r_iVv (n := 3) hF (c_X3_set l D cI b s θ τ2 ρ hs p0 (1 : Int32) (mnI (20 : Int32) ((fX3_of τ2 p0 (1 : Int32)) + (1 : Int32))) hx0 ⟨1, by decide, rfl⟩) gX3_drink_X3_set rfl rfl rfl (by decide +kernel) ⟨Nat.le_of_ble_eq_true rfl, Nat.le_of_ble_eq_true rfl⟩ hC hA (hC.recvS hs) rfl hl.1 rfl (Nat.le_of_ble_eq_true rfl) dX3_drink_57 ⟨Nat.zero_le _, Nat.zero_le _⟩ ?_
    clear hC; intro H locs τ3 eτ3 hC
    have e : fX3_drink τ p0 = τ3 := by subst eτ2 eτ3; exact ((if_pos c1).trans rfl)
    exact r_vret hx hb hr hlocks hC dX3_drink_60 ⟨rfl, by rw [e]⟩
  · refine lv_aload_n hx hb dX3_drink_11 rfl (lv_at hl 0 rfl) ?_
    refine lv_iload_n hx hb dX3_drink_12 rfl (lv_at hl 1 rfl) ?_
    refine lv_iconst (v := 3) hx hb dX3_drink_13 (by decide) ?_
    refine lv_aload_n hx hb dX3_drink_14 rfl (lv_at hl 0 rfl) ?_
    refine lv_iload_n hx hb dX3_drink_15 rfl (lv_at hl 1 rfl) ?_
    refine lv_iconst (v := 3) hx hb dX3_drink_16 (by decide) ?_
    refine r_iVp (n := 2) hF (c_X3_of l D cI b s θ τ ρ hs p0 (3 : Int32) hx0 ⟨3, by decide, rfl⟩) gX3_drink_X3_of rfl rfl rfl (by decide +kernel) ⟨Nat.le_of_ble_eq_true rfl, Nat.le_of_ble_eq_true rfl⟩ hC hA (hC.recvS hs) rfl hl.1 rfl (Nat.le_of_ble_eq_true rfl) dX3_drink_17 ⟨Nat.zero_le _, Nat.zero_le _⟩ ?_
    clear hC; intro H locs hC
    refine lv_iconst (v := 1) hx hb dX3_drink_20 (by decide) ?_
    refine lv_iadd hx hb dX3_drink_21 ?_
    refine lv_aload_n hx hb dX3_drink_22 rfl (lv_at hl 0 rfl) ?_
    refine lv_iload_n hx hb dX3_drink_23 rfl (lv_at hl 1 rfl) ?_
    refine lv_iconst (v := 2) hx hb dX3_drink_24 (by decide) ?_
    refine r_iVp (n := 2) hF (c_X3_of l D cI b s θ τ ρ hs p0 (2 : Int32) hx0 ⟨2, by decide, rfl⟩) gX3_drink_X3_of rfl rfl rfl (by decide +kernel) ⟨Nat.le_of_ble_eq_true rfl, Nat.le_of_ble_eq_true rfl⟩ hC hA (hC.recvS hs) rfl hl.1 rfl (Nat.le_of_ble_eq_true rfl) dX3_drink_25 ⟨Nat.zero_le _, Nat.zero_le _⟩ ?_
    clear hC; intro H locs hC
    refine lv_bipush (v := 8) hx hb dX3_drink_28 (by decide) ?_
    refine lv_idiv hx hb dX3_drink_30 (by decide) ?_
    refine lv_iadd hx hb dX3_drink_31 ?_
    refine r_iVv (n := 3) hF (c_X3_set l D cI b s θ τ ρ hs p0 (3 : Int32) (((fX3_of τ p0 (3 : Int32)) + (1 : Int32)) + ((fX3_of τ p0 (2 : Int32)) / (8 : Int32))) hx0 ⟨3, by decide, rfl⟩) gX3_drink_X3_set rfl rfl rfl (by decide +kernel) ⟨Nat.le_of_ble_eq_true rfl, Nat.le_of_ble_eq_true rfl⟩ hC hA (hC.recvS hs) rfl hl.1 rfl (Nat.le_of_ble_eq_true rfl) dX3_drink_32 ⟨Nat.zero_le _, Nat.zero_le _⟩ ?_
    clear hC; intro H locs τ4 eτ4 hC
    refine lv_aload_n hx hb dX3_drink_35 rfl (lv_at hl 0 rfl) ?_
    refine lv_iload_n hx hb dX3_drink_36 rfl (lv_at hl 1 rfl) ?_
    refine r_iVi (n := 1) hF (c_X3_settle l D cI b s θ τ4 ρ hs p0 hx0) gX3_drink_X3_settle rfl rfl rfl (by decide +kernel) ⟨Nat.le_of_ble_eq_true rfl, Nat.le_of_ble_eq_true rfl⟩ hC hA (hC.recvS hs) rfl hl.1 rfl (Nat.le_of_ble_eq_true rfl) dX3_drink_37 ⟨Nat.zero_le _, Nat.zero_le _⟩ ?_
    clear hC; intro H locs τ5 eτ5 hC
    refine lv_pop hx hb dX3_drink_40 rfl ?_
    refine lv_aload_n hx hb dX3_drink_41 rfl (lv_at hl 0 rfl) ?_
    refine lv_iload_n hx hb dX3_drink_42 rfl (lv_at hl 1 rfl) ?_
    refine lv_iconst (v := 1) hx hb dX3_drink_43 (by decide) ?_
    refine lv_bipush (v := 20) hx hb dX3_drink_44 (by decide) ?_
    refine lv_aload_n hx hb dX3_drink_46 rfl (lv_at hl 0 rfl) ?_
    refine lv_iload_n hx hb dX3_drink_47 rfl (lv_at hl 1 rfl) ?_
    refine lv_iconst (v := 1) hx hb dX3_drink_48 (by decide) ?_
    refine r_iVp (n := 2) hF (c_X3_of l D cI b s θ τ5 ρ hs p0 (1 : Int32) hx0 ⟨1, by decide, rfl⟩) gX3_drink_X3_of rfl rfl rfl (by decide +kernel) ⟨Nat.le_of_ble_eq_true rfl, Nat.le_of_ble_eq_true rfl⟩ hC hA (hC.recvS hs) rfl hl.1 rfl (Nat.le_of_ble_eq_true rfl) dX3_drink_49 ⟨Nat.zero_le _, Nat.zero_le _⟩ ?_
    clear hC; intro H locs hC
    refine lv_iconst (v := 1) hx hb dX3_drink_52 (by decide) ?_
    refine lv_iadd hx hb dX3_drink_53 ?_
    refine c_mmin hx hb (hml.trans hl.1.symm) hown h_ml69 h_ms69 h_mini h_mc69 (Nat.le_of_ble_eq_true rfl) (Nat.le_of_ble_eq_true rfl) (Nat.zero_le _) (Nat.zero_le _) dX3_drink_54 ?_
    refine r_iVv (n := 3) hF (c_X3_set l D cI b s θ τ5 ρ hs p0 (1 : Int32) (mnI (20 : Int32) ((fX3_of τ5 p0 (1 : Int32)) + (1 : Int32))) hx0 ⟨1, by decide, rfl⟩) gX3_drink_X3_set rfl rfl rfl (by decide +kernel) ⟨Nat.le_of_ble_eq_true rfl, Nat.le_of_ble_eq_true rfl⟩ hC hA (hC.recvS hs) rfl hl.1 rfl (Nat.le_of_ble_eq_true rfl) dX3_drink_57 ⟨Nat.zero_le _, Nat.zero_le _⟩ ?_
    clear hC; intro H locs τ6 eτ6 hC
    have e : fX3_drink τ p0 = τ6 := by subst eτ4 eτ5 eτ6; exact ((if_neg c1).trans rfl)
    exact r_vret hx hb hr hlocks hC dX3_drink_60 ⟨rfl, by rw [e]⟩
abbrev rmX3_bury : Room := { frames := 2, cells := 0, slots := 0, locals := 35 }
def fX3_bury_b1 (i1x : Nat) (σL1 : (Nat → Nat → Int32)) : (Nat → Nat → Int32) :=
    if (fX3_of σL1 (nI i1x) (6 : Int32)) = (2 : Int32) then
      σL1
    else
      if (fX3_of σL1 (nI i1x) (2 : Int32)) = 0 then
        σL1
      else
        let τ8 : (Nat → Nat → Int32) := (fX3_set σL1 (nI i1x) (2 : Int32) ((fX3_of σL1 (nI i1x) (2 : Int32)) - (1 : Int32)))
        let τ9 : (Nat → Nat → Int32) := up2 τ8 0 2 ((τ8 0 2) + (1 : Int32))
        τ9
def fX3_bury_k1 (σL1 : (Nat → Nat → Int32)) : (Nat → Nat → Int32) :=
    σL1
def fX3_bury (τ : (Nat → Nat → Int32)) (p0 : Int32) : (Nat → Nat → Int32) :=
    let τ1 : (Nat → Nat → Int32) := (fX3_pay τ (12 : Int32)).2
    let τ2 : (Nat → Nat → Int32) := up2 τ1 0 7 ((τ 0 7) + (fX3_pay τ (12 : Int32)).1)
    let τ3 : (Nat → Nat → Int32) := up2 τ2 0 2 ((τ2 0 2) + (fX3_of τ2 p0 (2 : Int32)))
    let τ4 : (Nat → Nat → Int32) := (fX3_set τ3 p0 (2 : Int32) (0 : Int32))
    (fun x => fX3_bury_k1 x) (itR (fun i x => fX3_bury_b1 i x) 0 (wfn τ4) τ4)
theorem wf_X3_bury_b1 {x : Nat → Nat → Int32} {N i : Nat} (hi : i < 12) (hx : wf x N) : wf (fX3_bury_b1 i x) N := by
  unfold fX3_bury_b1
  repeat' split
  all_goals first | with_reducible exact hx | exact wf_up0 (wf_X3_set hx ⟨i, hi, rfl⟩ ⟨2, by decide, rfl⟩ (by decide)) (by decide)
theorem wf_X3_bury {τ : Nat → Nat → Int32} {N : Nat} {p0 : Int32} (h : wf τ N) (h0 : Ix p0 12) : wf (fX3_bury τ p0) N := by
  unfold fX3_bury fX3_bury_k1
  have h1 : wf (fX3_set (up2 (up2 (fX3_pay τ 12).2 0 7 (τ 0 7 + (fX3_pay τ 12).1)) 0 2 (up2 (fX3_pay τ 12).2 0 7 (τ 0 7 + (fX3_pay τ 12).1) 0 2 + fX3_of (up2 (fX3_pay τ 12).2 0 7 (τ 0 7 + (fX3_pay τ 12).1)) p0 2)) p0 2 0) N := wf_X3_set (wf_up0 (wf_up0 (wf_X3_pay h) (by decide)) (by decide)) h0 ⟨2, by decide, rfl⟩ (by decide)
  exact itR_pres (P := fun x => wf x N) (f := fun i x => fX3_bury_b1 i x) (N := 12) (fun i x hi hx => wf_X3_bury_b1 hi hx) _ 0 _ (by rw [wfn_eq h1]; have := h1.2.1; omega) h1
set_option maxHeartbeats 400000 in
set_option maxRecDepth 100000 in
theorem c_X3_bury (l : Launch) (D : va_G) (cI : ClassId) (b : Nat → Nat) (s : Nat) (θ τ ρ : (Nat → Nat → Int32)) (hs : s < 2) (p0 : Int32) (hx0 : Ix p0 12) (N : Nat) (hW : wf τ N) : rMv l yX3_bury wsX3_bury rmX3_bury D cI b [.ref (b (3*s+2+0)), .int p0] s θ τ ρ θ (fX3_bury τ p0) := by
  intro sz
  refine r_head (cc := cX3_bury) (maxL := 3) (ret := none) (plainFor_of_name (by decide)) rfl (Nat.le_of_ble_eq_true rfl) ?_
  intro p e S m below meth c hx hb hr hml hown hts hlocks hnm hsz hA hC ls hl
  have hF : CallFix p m c cX3_bury 3 S [.ref (b (3*s+2+0)), .int p0].toArray wsX3_bury RX3 := ⟨hx, hb, hml, hown, hts⟩
  have h_f44 : (Cond.fieldLink RX3 44 "CombersSocietyModel$State" "buried" "I").before [.ref (b (3*s+2+0)), .int p0].toArray S = true := hts _ (by decide +kernel)
  have h_iX3 : ∀ w ∈ u_ws RX3 TX3 12, w ∈ wsX3_bury := by decide +kernel
  have h_f15 : (Cond.fieldLink RX3 15 "CombersSocietyModel$State" "box" "I").before [.ref (b (3*s+2+0)), .int p0].toArray S = true := hts _ (by decide +kernel)
  have h_f35 : (Cond.fieldLink RX3 35 "CombersSocietyModel$State" "members" "I").before [.ref (b (3*s+2+0)), .int p0].toArray S = true := hts _ (by decide +kernel)
  have hl : lv_has ls 3 [(0, .ref (b (3*s+2+0))), (1, .int p0)] := hl
  refine lv_aload_n hx hb dX3_bury_0 rfl (lv_at hl 0 rfl) ?_
  refine lv_dup hx hb dX3_bury_1 rfl ?_
  refine rg_s hx hb hts h_iX3 hown hC hs 7 (by decide) h_f44 dX3_bury_2 ?_
  refine lv_aload_n hx hb dX3_bury_5 rfl (lv_at hl 0 rfl) ?_
  refine lv_bipush (v := 12) hx hb dX3_bury_6 (by decide) ?_
  refine r_iVi (n := 1) hF (c_X3_pay l D cI b s θ τ ρ hs (12 : Int32)) gX3_bury_X3_pay rfl rfl rfl (by decide +kernel) ⟨Nat.le_of_ble_eq_true rfl, Nat.le_of_ble_eq_true rfl⟩ hC hA (hC.recvS hs) rfl hl.1 rfl (Nat.le_of_ble_eq_true rfl) dX3_bury_8 ⟨Nat.zero_le _, Nat.zero_le _⟩ ?_
  clear hC; intro H locs τ1 eτ1 hC
  have hwτ1 : wf τ1 N := by rw [← eτ1]; exact wf_X3_pay hW 
  refine lv_iadd hx hb dX3_bury_11 ?_
  refine rp_s hx hb hts h_iX3 hown hC hs 7 (by decide) h_f44 dX3_bury_12 ?_
  clear hC; intro H locs τ2 eτ2 hC
  have hwτ2 : wf τ2 N := by rw [← eτ2]; exact wf_up0 hwτ1 (by decide)
  refine lv_aload_n hx hb dX3_bury_15 rfl (lv_at hl 0 rfl) ?_
  refine lv_dup hx hb dX3_bury_16 rfl ?_
  refine rg_s hx hb hts h_iX3 hown hC hs 2 (by decide) h_f15 dX3_bury_17 ?_
  refine lv_aload_n hx hb dX3_bury_20 rfl (lv_at hl 0 rfl) ?_
  refine lv_iload_n hx hb dX3_bury_21 rfl (lv_at hl 1 rfl) ?_
  refine lv_iconst (v := 2) hx hb dX3_bury_22 (by decide) ?_
  refine r_iVp (n := 2) hF (c_X3_of l D cI b s θ τ2 ρ hs p0 (2 : Int32) hx0 ⟨2, by decide, rfl⟩) gX3_bury_X3_of rfl rfl rfl (by decide +kernel) ⟨Nat.le_of_ble_eq_true rfl, Nat.le_of_ble_eq_true rfl⟩ hC hA (hC.recvS hs) rfl hl.1 rfl (Nat.le_of_ble_eq_true rfl) dX3_bury_23 ⟨Nat.zero_le _, Nat.zero_le _⟩ ?_
  clear hC; intro H locs hC
  refine lv_iadd hx hb dX3_bury_26 ?_
  refine rp_s hx hb hts h_iX3 hown hC hs 2 (by decide) h_f15 dX3_bury_27 ?_
  clear hC; intro H locs τ3 eτ3 hC
  have hwτ3 : wf τ3 N := by rw [← eτ3]; exact wf_up0 hwτ2 (by decide)
  refine lv_aload_n hx hb dX3_bury_30 rfl (lv_at hl 0 rfl) ?_
  refine lv_iload_n hx hb dX3_bury_31 rfl (lv_at hl 1 rfl) ?_
  refine lv_iconst (v := 2) hx hb dX3_bury_32 (by decide) ?_
  refine lv_iconst (v := 0) hx hb dX3_bury_33 (by decide) ?_
  refine r_iVv (n := 3) hF (c_X3_set l D cI b s θ τ3 ρ hs p0 (2 : Int32) (0 : Int32) hx0 ⟨2, by decide, rfl⟩) gX3_bury_X3_set rfl rfl rfl (by decide +kernel) ⟨Nat.le_of_ble_eq_true rfl, Nat.le_of_ble_eq_true rfl⟩ hC hA (hC.recvS hs) rfl hl.1 rfl (Nat.le_of_ble_eq_true rfl) dX3_bury_34 ⟨Nat.zero_le _, Nat.zero_le _⟩ ?_
  clear hC; intro H locs τ4 eτ4 hC
  have hwτ4 : wf τ4 N := by rw [← eτ4]; exact wf_X3_set hwτ3 hx0 ⟨2, by decide, rfl⟩ (by decide)
  refine lv_iconst (v := 0) hx hb dX3_bury_37 (by decide) ?_
  refine lv_istore_n (lv' := [(2, .int (0 : Int32)), (0, .ref (b (3*s+2+0))), (1, .int p0)]) hx hb dX3_bury_38 rfl hl (by decide) rfl ?_
  clear hl; intro ls hl
  have loop1 : ∀ (n1x i1x : Nat) (σL1 : (Nat → Nat → Int32)), i1x + n1x = N → itR (fun i x => fX3_bury_b1 i x) i1x n1x σL1 = itR (fun i x => fX3_bury_b1 i x) 0 (wfn τ4) τ4 → wf σL1 N → ∀ (H : Heap) (locs : List Loc), rB D cI b S (rA b sz) S.heap H locs s θ σL1 ρ → ∀ ls : Array Slot, lv_has ls 3 [(2, .int (nI i1x)), (0, .ref (b (3*s+2+0))), (1, .int p0)] → W p l e (headSpec wsX3_bury rmX3_bury).room S m [.ref (b (3*s+2+0)), .int p0].toArray below meth c H locs 0 0 (MQ below (va_Qv (fun (_ : Unit) => True) (rPost D cI b s θ (fX3_bury τ p0) ρ) (rA b sz)) [.ref (b (3*s+2+0)), .int p0].toArray S 0 0 (rA b sz)) (F0 m 39 ls []) := by
    clear hC hl
    intro n1x
    induction n1x with
    | zero =>
      intro i1x σL1 hin1 hX1 hW1 H locs hC ls hl
      obtain rfl : N = i1x := by omega
      refine lv_iload_n hx hb dX3_bury_39 rfl (lv_at hl 0 rfl) ?_
      refine lv_aload_n hx hb dX3_bury_40 rfl (lv_at hl 1 rfl) ?_
      refine rg_s hx hb hts h_iX3 hown hC hs 1 (by decide) h_f35 dX3_bury_41 ?_
      refine lv_icmp_ge (tgt := 100) hx hb dX3_bury_44 (by decide) (fun c10 => ?_) (fun c10 => absurd (wf_ex hW1) c10)
      have e : fX3_bury τ p0 = σL1 := by subst eτ1 eτ2 eτ3 eτ4; exact ((congrArg (fun x => fX3_bury_k1 x) hX1.symm).trans rfl)
      exact r_vret hx hb hr hlocks hC dX3_bury_100 ⟨rfl, by rw [e]⟩
    | succ n1x ih1 =>
      intro i1x σL1 hin1 hX1 hW1 H locs hC ls hl
      have hN12 := wf_12 hW1
      refine lv_iload_n hx hb dX3_bury_39 rfl (lv_at hl 0 rfl) ?_
      refine lv_aload_n hx hb dX3_bury_40 rfl (lv_at hl 1 rfl) ?_
      refine rg_s hx hb hts h_iX3 hown hC hs 1 (by decide) h_f35 dX3_bury_41 ?_
      refine lv_icmp_ge (tgt := 100) hx hb dX3_bury_44 (by decide) (fun c5 => absurd c5 (wf_in hW1 (by omega))) (fun c5 => ?_)
      refine lv_aload_n hx hb dX3_bury_47 rfl (lv_at hl 1 rfl) ?_
      refine lv_iload_n hx hb dX3_bury_48 rfl (lv_at hl 0 rfl) ?_
      refine lv_bipush (v := 6) hx hb dX3_bury_49 (by decide) ?_
      refine r_iVp (n := 2) hF (c_X3_of l D cI b s θ σL1 ρ hs (nI i1x) (6 : Int32) ⟨i1x, by omega, rfl⟩ ⟨6, by decide, rfl⟩) gX3_bury_X3_of rfl rfl rfl (by decide +kernel) ⟨Nat.le_of_ble_eq_true rfl, Nat.le_of_ble_eq_true rfl⟩ hC hA (hC.recvS hs) rfl hl.1 rfl (Nat.le_of_ble_eq_true rfl) dX3_bury_51 ⟨Nat.zero_le _, Nat.zero_le _⟩ ?_
      clear hC; intro H locs hC
      refine lv_iconst (v := 2) hx hb dX3_bury_54 (by decide) ?_
      refine lv_icmp_eq (tgt := 94) hx hb dX3_bury_55 (by decide) (fun c6 => ?_) (fun c6 => ?_)
      · refine lv_iinc (v := (nI (i1x + 1))) (lv' := [(2, .int (nI (i1x + 1))), (0, .ref (b (3*s+2+0))), (1, .int p0)]) hx hb dX3_bury_94 hl (k := 0) rfl (nI_1 i1x) (by decide) rfl ?_
        clear hl; intro ls hl
        refine lv_goto (tgt := 39) hx hb dX3_bury_97 (by decide) ?_
        have e : fX3_bury_b1 i1x σL1 = σL1 := by exact ((if_pos c6).trans rfl)
        exact ih1 (i1x + 1) σL1 (by omega) (by rw [← e]; exact hX1) hW1 _ _ hC ls (lv_sub hl [0, 1, 2] rfl)
      · refine lv_aload_n hx hb dX3_bury_58 rfl (lv_at hl 1 rfl) ?_
        refine lv_iload_n hx hb dX3_bury_59 rfl (lv_at hl 0 rfl) ?_
        refine lv_iconst (v := 2) hx hb dX3_bury_60 (by decide) ?_
        refine r_iVp (n := 2) hF (c_X3_of l D cI b s θ σL1 ρ hs (nI i1x) (2 : Int32) ⟨i1x, by omega, rfl⟩ ⟨2, by decide, rfl⟩) gX3_bury_X3_of rfl rfl rfl (by decide +kernel) ⟨Nat.le_of_ble_eq_true rfl, Nat.le_of_ble_eq_true rfl⟩ hC hA (hC.recvS hs) rfl hl.1 rfl (Nat.le_of_ble_eq_true rfl) dX3_bury_61 ⟨Nat.zero_le _, Nat.zero_le _⟩ ?_
        clear hC; intro H locs hC
        refine lv_if_ne (tgt := 70) hx hb dX3_bury_64 (by decide) (fun c7 => ?_) (fun c7 => ?_)
        · refine lv_aload_n hx hb dX3_bury_70 rfl (lv_at hl 1 rfl) ?_
          refine lv_iload_n hx hb dX3_bury_71 rfl (lv_at hl 0 rfl) ?_
          refine lv_iconst (v := 2) hx hb dX3_bury_72 (by decide) ?_
          refine lv_aload_n hx hb dX3_bury_73 rfl (lv_at hl 1 rfl) ?_
          refine lv_iload_n hx hb dX3_bury_74 rfl (lv_at hl 0 rfl) ?_
          refine lv_iconst (v := 2) hx hb dX3_bury_75 (by decide) ?_
          refine r_iVp (n := 2) hF (c_X3_of l D cI b s θ σL1 ρ hs (nI i1x) (2 : Int32) ⟨i1x, by omega, rfl⟩ ⟨2, by decide, rfl⟩) gX3_bury_X3_of rfl rfl rfl (by decide +kernel) ⟨Nat.le_of_ble_eq_true rfl, Nat.le_of_ble_eq_true rfl⟩ hC hA (hC.recvS hs) rfl hl.1 rfl (Nat.le_of_ble_eq_true rfl) dX3_bury_76 ⟨Nat.zero_le _, Nat.zero_le _⟩ ?_
          clear hC; intro H locs hC
          refine lv_iconst (v := 1) hx hb dX3_bury_79 (by decide) ?_
          refine lv_isub hx hb dX3_bury_80 ?_
          refine r_iVv (n := 3) hF (c_X3_set l D cI b s θ σL1 ρ hs (nI i1x) (2 : Int32) ((fX3_of σL1 (nI i1x) (2 : Int32)) - (1 : Int32)) ⟨i1x, by omega, rfl⟩ ⟨2, by decide, rfl⟩) gX3_bury_X3_set rfl rfl rfl (by decide +kernel) ⟨Nat.le_of_ble_eq_true rfl, Nat.le_of_ble_eq_true rfl⟩ hC hA (hC.recvS hs) rfl hl.1 rfl (Nat.le_of_ble_eq_true rfl) dX3_bury_81 ⟨Nat.zero_le _, Nat.zero_le _⟩ ?_
          clear hC; intro H locs τ8 eτ8 hC
          have hwτ8 : wf τ8 N := by rw [← eτ8]; exact wf_X3_set hW1 ⟨i1x, by omega, rfl⟩ ⟨2, by decide, rfl⟩ (by decide)
          refine lv_aload_n hx hb dX3_bury_84 rfl (lv_at hl 1 rfl) ?_
          refine lv_dup hx hb dX3_bury_85 rfl ?_
          refine rg_s hx hb hts h_iX3 hown hC hs 2 (by decide) h_f15 dX3_bury_86 ?_
          refine lv_iconst (v := 1) hx hb dX3_bury_89 (by decide) ?_
          refine lv_iadd hx hb dX3_bury_90 ?_
          refine rp_s hx hb hts h_iX3 hown hC hs 2 (by decide) h_f15 dX3_bury_91 ?_
          clear hC; intro H locs τ9 eτ9 hC
          have hwτ9 : wf τ9 N := by rw [← eτ9]; exact wf_up0 hwτ8 (by decide)
          refine lv_iinc (v := (nI (i1x + 1))) (lv' := [(2, .int (nI (i1x + 1))), (0, .ref (b (3*s+2+0))), (1, .int p0)]) hx hb dX3_bury_94 hl (k := 0) rfl (nI_1 i1x) (by decide) rfl ?_
          clear hl; intro ls hl
          refine lv_goto (tgt := 39) hx hb dX3_bury_97 (by decide) ?_
          have e : fX3_bury_b1 i1x σL1 = τ9 := by subst eτ8 eτ9; exact ((if_neg c6).trans ((if_neg c7).trans rfl))
          exact ih1 (i1x + 1) τ9 (by omega) (by rw [← e]; exact hX1) hwτ9 _ _ hC ls (lv_sub hl [0, 1, 2] rfl)
        · refine lv_goto (tgt := 94) hx hb dX3_bury_67 (by decide) ?_
          refine lv_iinc (v := (nI (i1x + 1))) (lv' := [(2, .int (nI (i1x + 1))), (0, .ref (b (3*s+2+0))), (1, .int p0)]) hx hb dX3_bury_94 hl (k := 0) rfl (nI_1 i1x) (by decide) rfl ?_
          clear hl; intro ls hl
          refine lv_goto (tgt := 39) hx hb dX3_bury_97 (by decide) ?_
          have e : fX3_bury_b1 i1x σL1 = σL1 := by exact ((if_neg c6).trans ((if_pos c7).trans rfl))
          exact ih1 (i1x + 1) σL1 (by omega) (by rw [← e]; exact hX1) hW1 _ _ hC ls (lv_sub hl [0, 1, 2] rfl)
  exact loop1 N 0 τ4 (by omega) (by rw [wfn_eq hwτ4]) hwτ4 _ _ hC ls (lv_sub hl [0, 1, 2] rfl)
