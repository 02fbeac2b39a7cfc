abbrev rmX1_copyFrom : Room := { frames := 1, cells := 0, slots := 0, locals := 21 }
def fX1_copyFrom_b3 (ρ : (Nat → Nat → Int32)) (i3x : Nat) (σL3 : (Nat → Nat → Int32)) : (Nat → Nat → Int32) :=
    let σ17 : (Nat → Nat → Int32) := (fX0_copyFrom σL3 ρ i3x)
    σ17
def fX1_copyFrom_k3 (σL3 : (Nat → Nat → Int32)) : (Nat → Nat → Int32) :=
    σL3
def fX1_copyFrom_b2 (ρ : (Nat → Nat → Int32)) (i2x : Nat) (σL2 : (Nat → Nat → Int32)) : (Nat → Nat → Int32) :=
    let σ14 : (Nat → Nat → Int32) := up2 σL2 2 i2x (ρ 2 i2x)
    σ14
def fX1_copyFrom_k2 (ρ : (Nat → Nat → Int32)) (σL2 : (Nat → Nat → Int32)) : (Nat → Nat → Int32) :=
    (fun x => fX1_copyFrom_k3 x) (itR (fun i x => fX1_copyFrom_b3 ρ i x) 0 12 σL2)
def fX1_copyFrom_b1 (ρ : (Nat → Nat → Int32)) (i1x : Nat) (σL1 : (Nat → Nat → Int32)) : (Nat → Nat → Int32) :=
    let σ11 : (Nat → Nat → Int32) := up2 σL1 1 i1x (ρ 1 i1x)
    σ11
def fX1_copyFrom_k1 (ρ : (Nat → Nat → Int32)) (σL1 : (Nat → Nat → Int32)) : (Nat → Nat → Int32) :=
    (fun x => fX1_copyFrom_k2 ρ x) (itR (fun i x => fX1_copyFrom_b2 ρ i x) 0 3 σL1)
def fX1_copyFrom (σ : (Nat → Nat → Int32)) (ρ : (Nat → Nat → Int32)) : (Nat → Nat → Int32) :=
    let σ1 : (Nat → Nat → Int32) := up2 σ 0 0 (ρ 0 0)
    let σ2 : (Nat → Nat → Int32) := up2 σ1 0 1 (ρ 0 1)
    let σ3 : (Nat → Nat → Int32) := up2 σ2 0 2 (ρ 0 2)
    let σ4 : (Nat → Nat → Int32) := up2 σ3 0 3 (ρ 0 3)
    let σ5 : (Nat → Nat → Int32) := up2 σ4 0 4 (ρ 0 4)
    let σ6 : (Nat → Nat → Int32) := up2 σ5 0 5 (ρ 0 5)
    let σ7 : (Nat → Nat → Int32) := up2 σ6 0 6 (ρ 0 6)
    let σ8 : (Nat → Nat → Int32) := up2 σ7 0 7 (ρ 0 7)
    let σ9 : (Nat → Nat → Int32) := up2 σ8 0 8 (ρ 0 8)
    (fun x => fX1_copyFrom_k1 ρ x) (itR (fun i x => fX1_copyFrom_b1 ρ i x) 0 8 σ9)
set_option maxHeartbeats 400000 in
set_option maxRecDepth 100000 in
theorem c_X1_copyFrom (l : Launch) (D : va_G) (cI cM : ClassId) (a : Nat → Nat) (s : Nat) (σ ρ : (Nat → Nat → Int32)) (hs : s < 2)  (hU : ∀ i, i < 12 → ρ (i+5) 9 = 0 ∨ ρ (i+5) 9 = 1) : cMv l yX1_copyFrom wsX1_copyFrom rmX1_copyFrom D cI cM a [.ref (a (17*s+0)), .ref (a (17*(1-s)+0))] s σ ρ (fX1_copyFrom σ ρ) := by
  intro sz
  refine c_head (cc := cX1_copyFrom) (maxL := 3) (ret := none) (plainFor_of_name (by decide)) rfl (Nat.le_of_ble_eq_true rfl) ?_
  intro p e S m below meth c hx hb hr hml hown hts hlocks hnm hsz hA hC ls hl
  have hF : CallFix p m c cX1_copyFrom 3 S [.ref (a (17*s+0)), .ref (a (17*(1-s)+0))].toArray wsX1_copyFrom RX1 := ⟨hx, hb, hml, hown, hts⟩
  have h_f41 : (Cond.fieldLink RX1 41 "CombersSociety$Society" "week" "I").before [.ref (a (17*s+0)), .ref (a (17*(1-s)+0))].toArray S = true := hts _ (by decide +kernel)
  have h_iX1 : ∀ w ∈ u_ws RX1 TX1 14, w ∈ wsX1_copyFrom := by decide +kernel
  have h_f44 : (Cond.fieldLink RX1 44 "CombersSociety$Society" "joined" "I").before [.ref (a (17*s+0)), .ref (a (17*(1-s)+0))].toArray S = true := hts _ (by decide +kernel)
  have h_f9 : (Cond.fieldLink RX1 9 "CombersSociety$Society" "box" "I").before [.ref (a (17*s+0)), .ref (a (17*(1-s)+0))].toArray S = true := hts _ (by decide +kernel)
  have h_f15 : (Cond.fieldLink RX1 15 "CombersSociety$Society" "coals" "I").before [.ref (a (17*s+0)), .ref (a (17*(1-s)+0))].toArray S = true := hts _ (by decide +kernel)
  have h_f18 : (Cond.fieldLink RX1 18 "CombersSociety$Society" "wool" "I").before [.ref (a (17*s+0)), .ref (a (17*(1-s)+0))].toArray S = true := hts _ (by decide +kernel)
  have h_f47 : (Cond.fieldLink RX1 47 "CombersSociety$Society" "tops" "I").before [.ref (a (17*s+0)), .ref (a (17*(1-s)+0))].toArray S = true := hts _ (by decide +kernel)
  have h_f21 : (Cond.fieldLink RX1 21 "CombersSociety$Society" "dues" "I").before [.ref (a (17*s+0)), .ref (a (17*(1-s)+0))].toArray S = true := hts _ (by decide +kernel)
  have h_f50 : (Cond.fieldLink RX1 50 "CombersSociety$Society" "sickPaid" "I").before [.ref (a (17*s+0)), .ref (a (17*(1-s)+0))].toArray S = true := hts _ (by decide +kernel)
  have h_f53 : (Cond.fieldLink RX1 53 "CombersSociety$Society" "funeralsPaid" "I").before [.ref (a (17*s+0)), .ref (a (17*(1-s)+0))].toArray S = true := hts _ (by decide +kernel)
  have h_f24 : (Cond.fieldLink RX1 24 "CombersSociety$Society" "fevers" "[I").before [.ref (a (17*s+0)), .ref (a (17*(1-s)+0))].toArray S = true := hts _ (by decide +kernel)
  have h_f28 : (Cond.fieldLink RX1 28 "CombersSociety$Society" "heats" "[I").before [.ref (a (17*s+0)), .ref (a (17*(1-s)+0))].toArray S = true := hts _ (by decide +kernel)
  have h_f36 : (Cond.fieldLink RX1 36 "CombersSociety$Society" "members" "[LCombersSociety$Member;").before [.ref (a (17*s+0)), .ref (a (17*(1-s)+0))].toArray S = true := hts _ (by decide +kernel)
  have hl : lv_has ls 3 [(0, .ref (a (17*s+0))), (1, .ref (a (17*(1-s)+0)))] := hl
  refine lv_aload_n hx hb dX1_copyFrom_0 rfl (lv_at hl 0 rfl) ?_
  refine lv_aload_n hx hb dX1_copyFrom_1 rfl (lv_at hl 1 rfl) ?_
  refine cg_s hx hb hts h_iX1 hown (hC.sw hs) (by omega) 0 (by decide) h_f41 dX1_copyFrom_2 ?_
  refine cp_s hx hb hts h_iX1 hown hC hs 0 (by decide) h_f41 dX1_copyFrom_5 ?_
  clear hC; intro H locs σ1 eσ1 hC
  refine lv_aload_n hx hb dX1_copyFrom_8 rfl (lv_at hl 0 rfl) ?_
  refine lv_aload_n hx hb dX1_copyFrom_9 rfl (lv_at hl 1 rfl) ?_
  refine cg_s hx hb hts h_iX1 hown (hC.sw hs) (by omega) 1 (by decide) h_f44 dX1_copyFrom_10 ?_
  refine cp_s hx hb hts h_iX1 hown hC hs 1 (by decide) h_f44 dX1_copyFrom_13 ?_
  clear hC; intro H locs σ2 eσ2 hC
  refine lv_aload_n hx hb dX1_copyFrom_16 rfl (lv_at hl 0 rfl) ?_
  refine lv_aload_n hx hb dX1_copyFrom_17 rfl (lv_at hl 1 rfl) ?_
  refine cg_s hx hb hts h_iX1 hown (hC.sw hs) (by omega) 2 (by decide) h_f9 dX1_copyFrom_18 ?_
  refine cp_s hx hb hts h_iX1 hown hC hs 2 (by decide) h_f9 dX1_copyFrom_21 ?_
  clear hC; intro H locs σ3 eσ3 hC
  refine lv_aload_n hx hb dX1_copyFrom_24 rfl (lv_at hl 0 rfl) ?_
  refine lv_aload_n hx hb dX1_copyFrom_25 rfl (lv_at hl 1 rfl) ?_
  refine cg_s hx hb hts h_iX1 hown (hC.sw hs) (by omega) 3 (by decide) h_f15 dX1_copyFrom_26 ?_
  refine cp_s hx hb hts h_iX1 hown hC hs 3 (by decide) h_f15 dX1_copyFrom_29 ?_
  clear hC; intro H locs σ4 eσ4 hC
  refine lv_aload_n hx hb dX1_copyFrom_32 rfl (lv_at hl 0 rfl) ?_
  refine lv_aload_n hx hb dX1_copyFrom_33 rfl (lv_at hl 1 rfl) ?_
  refine cg_s hx hb hts h_iX1 hown (hC.sw hs) (by omega) 4 (by decide) h_f18 dX1_copyFrom_34 ?_
  refine cp_s hx hb hts h_iX1 hown hC hs 4 (by decide) h_f18 dX1_copyFrom_37 ?_
  clear hC; intro H locs σ5 eσ5 hC
  refine lv_aload_n hx hb dX1_copyFrom_40 rfl (lv_at hl 0 rfl) ?_
  refine lv_aload_n hx hb dX1_copyFrom_41 rfl (lv_at hl 1 rfl) ?_
  refine cg_s hx hb hts h_iX1 hown (hC.sw hs) (by omega) 5 (by decide) h_f47 dX1_copyFrom_42 ?_
  refine cp_s hx hb hts h_iX1 hown hC hs 5 (by decide) h_f47 dX1_copyFrom_45 ?_
  clear hC; intro H locs σ6 eσ6 hC
  refine lv_aload_n hx hb dX1_copyFrom_48 rfl (lv_at hl 0 rfl) ?_
  refine lv_aload_n hx hb dX1_copyFrom_49 rfl (lv_at hl 1 rfl) ?_
  refine cg_s hx hb hts h_iX1 hown (hC.sw hs) (by omega) 6 (by decide) h_f21 dX1_copyFrom_50 ?_
  refine cp_s hx hb hts h_iX1 hown hC hs 6 (by decide) h_f21 dX1_copyFrom_53 ?_
  clear hC; intro H locs σ7 eσ7 hC
  refine lv_aload_n hx hb dX1_copyFrom_56 rfl (lv_at hl 0 rfl) ?_
  refine lv_aload_n hx hb dX1_copyFrom_57 rfl (lv_at hl 1 rfl) ?_
  refine cg_s hx hb hts h_iX1 hown (hC.sw hs) (by omega) 7 (by decide) h_f50 dX1_copyFrom_58 ?_
  refine cp_s hx hb hts h_iX1 hown hC hs 7 (by decide) h_f50 dX1_copyFrom_61 ?_
  clear hC; intro H locs σ8 eσ8 hC
  refine lv_aload_n hx hb dX1_copyFrom_64 rfl (lv_at hl 0 rfl) ?_
  refine lv_aload_n hx hb dX1_copyFrom_65 rfl (lv_at hl 1 rfl) ?_
  refine cg_s hx hb hts h_iX1 hown (hC.sw hs) (by omega) 8 (by decide) h_f53 dX1_copyFrom_66 ?_
  refine cp_s hx hb hts h_iX1 hown hC hs 8 (by decide) h_f53 dX1_copyFrom_69 ?_
  clear hC; intro H locs σ9 eσ9 hC
  refine lv_iconst (v := 0) hx hb dX1_copyFrom_72 (by decide) ?_
  refine lv_istore_n (lv' := [(2, .int (0 : Int32)), (0, .ref (a (17*s+0))), (1, .ref (a (17*(1-s)+0)))]) hx hb dX1_copyFrom_73 rfl hl (by decide) rfl ?_
  clear hl; intro ls hl
  have loop1 : ∀ (n1x i1x : Nat) (σL1 : (Nat → Nat → Int32)), i1x + n1x = 8 → itR (fun i x => fX1_copyFrom_b1 ρ i x) i1x n1x σL1 = itR (fun i x => fX1_copyFrom_b1 ρ i x) 0 8 σ9 → ∀ (H : Heap) (locs : List Loc), cB D cI cM a S (cA a sz) S.heap H locs s σL1 ρ → ∀ ls : Array Slot, lv_has ls 3 [(2, .int (nI i1x)), (0, .ref (a (17*s+0))), (1, .ref (a (17*(1-s)+0)))] → W p l e (headSpec wsX1_copyFrom rmX1_copyFrom).room S m [.ref (a (17*s+0)), .ref (a (17*(1-s)+0))].toArray below meth c H locs 0 0 (MQ below (va_Qv (fun (_ : Unit) => True) (cPost D cI cM a s (fX1_copyFrom σ ρ) ρ) (cA a sz)) [.ref (a (17*s+0)), .ref (a (17*(1-s)+0))].toArray S 0 0 (cA a sz)) (F0 m 74 ls []) := by
    clear hC hl
    intro n1x
    induction n1x with
    | zero =>
      intro i1x σL1 hin1 hX1 H locs hC ls hl
      obtain rfl : 8 = i1x := by omega
      refine lv_iload_n hx hb dX1_copyFrom_74 rfl (lv_at hl 0 rfl) ?_
      refine lv_bipush (v := 8) hx hb dX1_copyFrom_75 (by decide) ?_
      refine lv_icmp_ge (tgt := 98) hx hb dX1_copyFrom_77 (by decide) (fun c12 => ?_) (fun c12 => absurd (by decide) c12)
      refine lv_iconst (v := 0) hx hb dX1_copyFrom_98 (by decide) ?_
      refine lv_istore_n (lv' := [(2, .int (0 : Int32)), (0, .ref (a (17*s+0))), (1, .ref (a (17*(1-s)+0)))]) hx hb dX1_copyFrom_99 rfl hl (by decide) rfl ?_
      clear hl; intro ls hl
      have loop2 : ∀ (n2x i2x : Nat) (σL2 : (Nat → Nat → Int32)), i2x + n2x = 3 → itR (fun i x => fX1_copyFrom_b2 ρ i x) i2x n2x σL2 = itR (fun i x => fX1_copyFrom_b2 ρ i x) 0 3 σL1 → ∀ (H : Heap) (locs : List Loc), cB D cI cM a S (cA a sz) S.heap H locs s σL2 ρ → ∀ ls : Array Slot, lv_has ls 3 [(2, .int (nI i2x)), (0, .ref (a (17*s+0))), (1, .ref (a (17*(1-s)+0)))] → W p l e (headSpec wsX1_copyFrom rmX1_copyFrom).room S m [.ref (a (17*s+0)), .ref (a (17*(1-s)+0))].toArray below meth c H locs 0 0 (MQ below (va_Qv (fun (_ : Unit) => True) (cPost D cI cM a s (fX1_copyFrom σ ρ) ρ) (cA a sz)) [.ref (a (17*s+0)), .ref (a (17*(1-s)+0))].toArray S 0 0 (cA a sz)) (F0 m 100 ls []) := by
        clear hC hl
        intro n2x
        induction n2x with
        | zero =>
          intro i2x σL2 hin2 hX2 H locs hC ls hl
          obtain rfl : 3 = i2x := by omega
          refine lv_iload_n hx hb dX1_copyFrom_100 rfl (lv_at hl 0 rfl) ?_
          refine lv_iconst (v := 3) hx hb dX1_copyFrom_101 (by decide) ?_
          refine lv_icmp_ge (tgt := 123) hx hb dX1_copyFrom_102 (by decide) (fun c15 => ?_) (fun c15 => absurd (by decide) c15)
          refine lv_iconst (v := 0) hx hb dX1_copyFrom_123 (by decide) ?_
          refine lv_istore_n (lv' := [(2, .int (0 : Int32)), (0, .ref (a (17*s+0))), (1, .ref (a (17*(1-s)+0)))]) hx hb dX1_copyFrom_124 rfl hl (by decide) rfl ?_
          clear hl; intro ls hl
          have loop3 : ∀ (n3x i3x : Nat) (σL3 : (Nat → Nat → Int32)), i3x + n3x = 12 → itR (fun i x => fX1_copyFrom_b3 ρ i x) i3x n3x σL3 = itR (fun i x => fX1_copyFrom_b3 ρ i x) 0 12 σL2 → ∀ (H : Heap) (locs : List Loc), cB D cI cM a S (cA a sz) S.heap H locs s σL3 ρ → ∀ ls : Array Slot, lv_has ls 3 [(2, .int (nI i3x)), (0, .ref (a (17*s+0))), (1, .ref (a (17*(1-s)+0)))] → W p l e (headSpec wsX1_copyFrom rmX1_copyFrom).room S m [.ref (a (17*s+0)), .ref (a (17*(1-s)+0))].toArray below meth c H locs 0 0 (MQ below (va_Qv (fun (_ : Unit) => True) (cPost D cI cM a s (fX1_copyFrom σ ρ) ρ) (cA a sz)) [.ref (a (17*s+0)), .ref (a (17*(1-s)+0))].toArray S 0 0 (cA a sz)) (F0 m 125 ls []) := by
            clear hC hl
            intro n3x
            induction n3x with
            | zero =>
              intro i3x σL3 hin3 hX3 H locs hC ls hl
              obtain rfl : 12 = i3x := by omega
              refine lv_iload_n hx hb dX1_copyFrom_125 rfl (lv_at hl 0 rfl) ?_
              refine lv_bipush (v := 12) hx hb dX1_copyFrom_126 (by decide) ?_
              refine lv_icmp_ge (tgt := 152) hx hb dX1_copyFrom_128 (by decide) (fun c18 => ?_) (fun c18 => absurd (by decide) c18)
              have e : fX1_copyFrom σ ρ = σL3 := by subst eσ1 eσ2 eσ3 eσ4 eσ5 eσ6 eσ7 eσ8 eσ9; exact ((congrArg (fun x => fX1_copyFrom_k1 ρ x) hX1.symm).trans ((congrArg (fun x => fX1_copyFrom_k2 ρ x) hX2.symm).trans ((congrArg (fun x => fX1_copyFrom_k3 x) hX3.symm).trans rfl)))
              exact c_vret hx hb hr hlocks hC dX1_copyFrom_152 (by rw [e])
            | succ n3x ih3 =>
              intro i3x σL3 hin3 hX3 H locs hC ls hl
              refine lv_iload_n hx hb dX1_copyFrom_125 rfl (lv_at hl 0 rfl) ?_
              refine lv_bipush (v := 12) hx hb dX1_copyFrom_126 (by decide) ?_
              refine lv_icmp_ge (tgt := 152) hx hb dX1_copyFrom_128 (by decide) (fun c16 => absurd c16 (show ¬ (12 : Int32) ≤ nI i3x from (nI_ge (a := i3x) (b := 12) (by omega) (by decide) : ¬ nI 12 ≤ nI i3x))) (fun c16 => ?_)
              refine lv_aload_n hx hb dX1_copyFrom_131 rfl (lv_at hl 1 rfl) ?_
              refine cg_r hx hb hts h_iX1 hown hC hs 3 (by decide) h_f36 dX1_copyFrom_132 ?_
              refine lv_iload_n hx hb dX1_copyFrom_135 rfl (lv_at hl 0 rfl) ?_
              refine c_mld hx hb hC hs (j := i3x) rfl (show _ < 12 by omega) dX1_copyFrom_136 ?_
              refine lv_aload_n hx hb dX1_copyFrom_137 rfl (lv_at hl 2 rfl) ?_
              refine cg_r hx hb hts h_iX1 hown (hC.sw hs) (by omega) 3 (by decide) h_f36 dX1_copyFrom_138 ?_
              refine lv_iload_n hx hb dX1_copyFrom_141 rfl (lv_at hl 0 rfl) ?_
              refine c_mld hx hb (hC.sw hs) (by omega) (j := i3x) rfl (show _ < 12 by omega) dX1_copyFrom_142 ?_
              refine c_iVv (n := 1) hF (c_X0_copyFrom l D cI cM a s σL3 ρ hs i3x (show _ < 12 by omega) (hU _ (by omega))) gX1_copyFrom_X0_copyFrom rfl rfl rfl (by decide +kernel) ⟨Nat.le_of_ble_eq_true rfl, Nat.le_of_ble_eq_true rfl⟩ hC hA (hC.recvM hs (show _ < 12 by omega)) rfl hl.1 rfl (Nat.le_of_ble_eq_true rfl) dX1_copyFrom_143 ⟨Nat.zero_le _, Nat.zero_le _⟩ ?_
              clear hC; intro H locs σ17 eσ17 hC
              refine lv_iinc (v := (nI (i3x + 1))) (lv' := [(2, .int (nI (i3x + 1))), (0, .ref (a (17*s+0))), (1, .ref (a (17*(1-s)+0)))]) hx hb dX1_copyFrom_146 hl (k := 0) rfl (nI_1 i3x) (by decide) rfl ?_
              clear hl; intro ls hl
              refine lv_goto (tgt := 125) hx hb dX1_copyFrom_149 (by decide) ?_
              have e : fX1_copyFrom_b3 ρ i3x σL3 = σ17 := by subst eσ17; exact rfl
              exact ih3 (i3x + 1) σ17 (by omega) (by rw [← e]; exact hX3) _ _ hC ls (lv_sub hl [0, 1, 2] rfl)
          exact loop3 12 0 σL2 (by omega) rfl _ _ hC ls (lv_sub hl [0, 1, 2] rfl)
        | succ n2x ih2 =>
          intro i2x σL2 hin2 hX2 H locs hC ls hl
          refine lv_iload_n hx hb dX1_copyFrom_100 rfl (lv_at hl 0 rfl) ?_
          refine lv_iconst (v := 3) hx hb dX1_copyFrom_101 (by decide) ?_
          refine lv_icmp_ge (tgt := 123) hx hb dX1_copyFrom_102 (by decide) (fun c13 => absurd c13 (show ¬ (3 : Int32) ≤ nI i2x from (nI_ge (a := i2x) (b := 3) (by omega) (by decide) : ¬ nI 3 ≤ nI i2x))) (fun c13 => ?_)
          refine lv_aload_n hx hb dX1_copyFrom_105 rfl (lv_at hl 1 rfl) ?_
          refine cg_r hx hb hts h_iX1 hown hC hs 1 (by decide) h_f28 dX1_copyFrom_106 ?_
          refine lv_iload_n hx hb dX1_copyFrom_109 rfl (lv_at hl 0 rfl) ?_
          refine lv_aload_n hx hb dX1_copyFrom_110 rfl (lv_at hl 2 rfl) ?_
          refine cg_r hx hb hts h_iX1 hown (hC.sw hs) (by omega) 1 (by decide) h_f28 dX1_copyFrom_111 ?_
          refine lv_iload_n hx hb dX1_copyFrom_114 rfl (lv_at hl 0 rfl) ?_
          refine c_ild hx hb (hC.sw hs) (by omega) 2 (by decide) (by decide) (j := i2x) rfl (show _ < 3 by omega) dX1_copyFrom_115 ?_
          refine c_ist hx hb hC hs 2 (by decide) (by decide) (j := i2x) rfl (show _ < 3 by omega) dX1_copyFrom_116 ?_
          clear hC; intro H locs σ14 eσ14 hC
          refine lv_iinc (v := (nI (i2x + 1))) (lv' := [(2, .int (nI (i2x + 1))), (0, .ref (a (17*s+0))), (1, .ref (a (17*(1-s)+0)))]) hx hb dX1_copyFrom_117 hl (k := 0) rfl (nI_1 i2x) (by decide) rfl ?_
          clear hl; intro ls hl
          refine lv_goto (tgt := 100) hx hb dX1_copyFrom_120 (by decide) ?_
          have e : fX1_copyFrom_b2 ρ i2x σL2 = σ14 := by subst eσ14; exact rfl
          exact ih2 (i2x + 1) σ14 (by omega) (by rw [← e]; exact hX2) _ _ hC ls (lv_sub hl [0, 1, 2] rfl)
      exact loop2 3 0 σL1 (by omega) rfl _ _ hC ls (lv_sub hl [0, 1, 2] rfl)
    | succ n1x ih1 =>
      intro i1x σL1 hin1 hX1 H locs hC ls hl
      refine lv_iload_n hx hb dX1_copyFrom_74 rfl (lv_at hl 0 rfl) ?_
      refine lv_bipush (v := 8) hx hb dX1_copyFrom_75 (by decide) ?_
      refine lv_icmp_ge (tgt := 98) hx hb dX1_copyFrom_77 (by decide) (fun c10 => absurd c10 (show ¬ (8 : Int32) ≤ nI i1x from (nI_ge (a := i1x) (b := 8) (by omega) (by decide) : ¬ nI 8 ≤ nI i1x))) (fun c10 => ?_)
      refine lv_aload_n hx hb dX1_copyFrom_80 rfl (lv_at hl 1 rfl) ?_
      refine cg_r hx hb hts h_iX1 hown hC hs 0 (by decide) h_f24 dX1_copyFrom_81 ?_
      refine lv_iload_n hx hb dX1_copyFrom_84 rfl (lv_at hl 0 rfl) ?_
      refine lv_aload_n hx hb dX1_copyFrom_85 rfl (lv_at hl 2 rfl) ?_
      refine cg_r hx hb hts h_iX1 hown (hC.sw hs) (by omega) 0 (by decide) h_f24 dX1_copyFrom_86 ?_
      refine lv_iload_n hx hb dX1_copyFrom_89 rfl (lv_at hl 0 rfl) ?_
      refine c_ild hx hb (hC.sw hs) (by omega) 1 (by decide) (by decide) (j := i1x) rfl (show _ < 8 by omega) dX1_copyFrom_90 ?_
      refine c_ist hx hb hC hs 1 (by decide) (by decide) (j := i1x) rfl (show _ < 8 by omega) dX1_copyFrom_91 ?_
      clear hC; intro H locs σ11 eσ11 hC
      refine lv_iinc (v := (nI (i1x + 1))) (lv' := [(2, .int (nI (i1x + 1))), (0, .ref (a (17*s+0))), (1, .ref (a (17*(1-s)+0)))]) hx hb dX1_copyFrom_92 hl (k := 0) rfl (nI_1 i1x) (by decide) rfl ?_
      clear hl; intro ls hl
      refine lv_goto (tgt := 74) hx hb dX1_copyFrom_95 (by decide) ?_
      have e : fX1_copyFrom_b1 ρ i1x σL1 = σ11 := by subst eσ11; exact rfl
      exact ih1 (i1x + 1) σ11 (by omega) (by rw [← e]; exact hX1) _ _ hC ls (lv_sub hl [0, 1, 2] rfl)
  exact loop1 8 0 σ9 (by omega) rfl _ _ hC ls (lv_sub hl [0, 1, 2] rfl)
abbrev rmX1_payOut : Room := { frames := 1, cells := 0, slots := 0, locals := 13 }
def fX1_payOut (σ : (Nat → Nat → Int32)) (p0 : Int32) : Int32 × (Nat → Nat → Int32) :=
    if p0 ≤ (σ 0 2) then
      let σ2 : (Nat → Nat → Int32) := up2 σ 0 2 ((σ 0 2) - (mnI p0 (σ 0 2)))
      ((mnI p0 (σ 0 2)), σ2)
    else
      let σ3 : (Nat → Nat → Int32) := up2 σ 0 9 (1 : Int32)
      let σ4 : (Nat → Nat → Int32) := up2 σ3 0 2 ((σ3 0 2) - (mnI p0 (σ3 0 2)))
      ((mnI p0 (σ3 0 2)), σ4)
set_option maxHeartbeats 400000 in
set_option maxRecDepth 100000 in
theorem c_X1_payOut (l : Launch) (D : va_G) (cI cM : ClassId) (a : Nat → Nat) (s : Nat) (σ ρ : (Nat → Nat → Int32)) (hs : s < 2) (p0 : Int32) : cMi l yX1_payOut wsX1_payOut rmX1_payOut D cI cM a [.ref (a (17*s+0)), .int p0] s σ ρ (fX1_payOut σ p0).1 (fX1_payOut σ p0).2 := by
  intro sz
  refine c_head (cc := cX1_payOut) (maxL := 3) (ret := (some .int)) (plainFor_of_name (by decide)) rfl (Nat.le_of_ble_eq_true rfl) ?_
  intro p e S m below meth c hx hb hr hml hown hts hlocks hnm hsz hA hC ls hl
  have h_f9 : (Cond.fieldLink RX1 9 "CombersSociety$Society" "box" "I").before [.ref (a (17*s+0)), .int p0].toArray S = true := hts _ (by decide +kernel)
  have h_iX1 : ∀ w ∈ u_ws RX1 TX1 14, w ∈ wsX1_payOut := by decide +kernel
  have h_ml130 : (Cond.methodLink RX1 130 Lib.Math.min.name).before [.ref (a (17*s+0)), .int p0].toArray S = true := hts _ (by decide +kernel)
  have h_ms130 : (Cond.static Lib.Math.min.name).before [.ref (a (17*s+0)), .int p0].toArray S = true := hts _ (by decide +kernel)
  have h_mini : (Cond.initialized "java/lang/Math").before [.ref (a (17*s+0)), .int p0].toArray S = true := hts _ (by decide +kernel)
  have h_mc130 : (Cond.code Lib.Math.min.name Lib.Math.min.code 2 (some .int)).before [.ref (a (17*s+0)), .int p0].toArray S = true := hts _ (by decide +kernel)
  have h_f99 : (Cond.fieldLink RX1 99 "CombersSociety$Society" "fellShort" "Z").before [.ref (a (17*s+0)), .int p0].toArray S = true := hts _ (by decide +kernel)
  have hl : lv_has ls 3 [(0, .ref (a (17*s+0))), (1, .int p0)] := hl
  refine lv_aload_n hx hb dX1_payOut_0 rfl (lv_at hl 0 rfl) ?_
  refine cg_s hx hb hts h_iX1 hown hC hs 2 (by decide) h_f9 dX1_payOut_1 ?_
  refine lv_iload_n hx hb dX1_payOut_4 rfl (lv_at hl 1 rfl) ?_
  refine lv_icmp_ge (tgt := 13) hx hb dX1_payOut_5 (by decide) (fun c1 => ?_) (fun c1 => ?_)
  · refine lv_iload_n hx hb dX1_payOut_13 rfl (lv_at hl 1 rfl) ?_
    refine lv_aload_n hx hb dX1_payOut_14 rfl (lv_at hl 0 rfl) ?_
    refine cg_s hx hb hts h_iX1 hown hC hs 2 (by decide) h_f9 dX1_payOut_15 ?_
    refine c_mmin hx hb (hml.trans hl.1.symm) hown h_ml130 h_ms130 h_mini h_mc130 (Nat.le_of_ble_eq_true rfl) (Nat.le_of_ble_eq_true rfl) (Nat.zero_le _) (Nat.zero_le _) dX1_payOut_18 ?_
    refine lv_istore_n (lv' := [(2, .int (mnI p0 (σ 0 2))), (0, .ref (a (17*s+0))), (1, .int p0)]) hx hb dX1_payOut_21 rfl hl (by decide) rfl ?_
    clear hl; intro ls hl
    refine lv_aload_n hx hb dX1_payOut_22 rfl (lv_at hl 1 rfl) ?_
    refine lv_dup hx hb dX1_payOut_23 rfl ?_
    refine cg_s hx hb hts h_iX1 hown hC hs 2 (by decide) h_f9 dX1_payOut_24 ?_
    refine lv_iload_n hx hb dX1_payOut_27 rfl (lv_at hl 0 rfl) ?_
    refine lv_isub hx hb dX1_payOut_28 ?_
    refine cp_s hx hb hts h_iX1 hown hC hs 2 (by decide) h_f9 dX1_payOut_29 ?_
    clear hC; intro H locs σ2 eσ2 hC
    refine lv_iload_n hx hb dX1_payOut_32 rfl (lv_at hl 0 rfl) ?_
    have e : fX1_payOut σ p0 = ((mnI p0 (σ 0 2)), σ2) := by subst eσ2; exact ((if_pos c1).trans rfl)
    exact c_iret hx hb hr hlocks hC dX1_payOut_33 ⟨by rw [e], by rw [e]⟩
  · refine lv_aload_n hx hb dX1_payOut_8 rfl (lv_at hl 0 rfl) ?_
    refine lv_iconst (v := 1) hx hb dX1_payOut_9 (by decide) ?_
    refine cp_sb hx hb hts h_iX1 hown hC hs (Or.inr rfl) h_f99 dX1_payOut_10 ?_
    clear hC; intro H locs σ3 eσ3 hC
    refine lv_iload_n hx hb dX1_payOut_13 rfl (lv_at hl 1 rfl) ?_
    refine lv_aload_n hx hb dX1_payOut_14 rfl (lv_at hl 0 rfl) ?_
    refine cg_s hx hb hts h_iX1 hown hC hs 2 (by decide) h_f9 dX1_payOut_15 ?_
    refine c_mmin hx hb (hml.trans hl.1.symm) hown h_ml130 h_ms130 h_mini h_mc130 (Nat.le_of_ble_eq_true rfl) (Nat.le_of_ble_eq_true rfl) (Nat.zero_le _) (Nat.zero_le _) dX1_payOut_18 ?_
    refine lv_istore_n (lv' := [(2, .int (mnI p0 (σ3 0 2))), (0, .ref (a (17*s+0))), (1, .int p0)]) hx hb dX1_payOut_21 rfl hl (by decide) rfl ?_
    clear hl; intro ls hl
    refine lv_aload_n hx hb dX1_payOut_22 rfl (lv_at hl 1 rfl) ?_
    refine lv_dup hx hb dX1_payOut_23 rfl ?_
    refine cg_s hx hb hts h_iX1 hown hC hs 2 (by decide) h_f9 dX1_payOut_24 ?_
    refine lv_iload_n hx hb dX1_payOut_27 rfl (lv_at hl 0 rfl) ?_
    refine lv_isub hx hb dX1_payOut_28 ?_
    refine cp_s hx hb hts h_iX1 hown hC hs 2 (by decide) h_f9 dX1_payOut_29 ?_
    clear hC; intro H locs σ4 eσ4 hC
    refine lv_iload_n hx hb dX1_payOut_32 rfl (lv_at hl 0 rfl) ?_
    have e : fX1_payOut σ p0 = ((mnI p0 (σ3 0 2)), σ4) := by subst eσ3 eσ4; exact ((if_neg c1).trans rfl)
    exact c_iret hx hb hr hlocks hC dX1_payOut_33 ⟨by rw [e], by rw [e]⟩
abbrev rmX1_nurse : Room := { frames := 2, cells := 0, slots := 0, locals := 35 }
def fX1_nurse (σ : (Nat → Nat → Int32)) (j : Nat) : (Nat → Nat → Int32) :=
    let σ1 : (Nat → Nat → Int32) := up2 σ (j+5) 1 ((σ (j+5) 1) - (1 : Int32))
    if 0 < (σ1 (j+5) 1) then
      let σ3 : (Nat → Nat → Int32) := up2 σ1 (j+5) 8 ((σ1 (j+5) 8) + (1 : Int32))
      let σ4 : (Nat → Nat → Int32) := up2 σ3 (j+5) 7 ((σ3 (j+5) 7) - (1 : Int32))
      if (3 : Int32) ≤ (σ4 (j+5) 4) then
        if 0 < (σ4 (j+5) 7) then
          σ4
        else
          let σ7 : (Nat → Nat → Int32) := (fX0_getWell σ4 j)
          σ7
      else
        if (3 : Int32) < (σ4 (j+5) 8) then
          let σ9 : (Nat → Nat → Int32) := (fX1_payOut σ4 (2 : Int32)).2
          let σ10 : (Nat → Nat → Int32) := up2 σ9 (j+5) 2 ((σ9 (j+5) 2) + (fX1_payOut σ4 (2 : Int32)).1)
          let σ11 : (Nat → Nat → Int32) := up2 σ10 0 7 ((σ10 0 7) + (fX1_payOut σ4 (2 : Int32)).1)
          if 0 < (σ11 (j+5) 7) then
            σ11
          else
            let σ13 : (Nat → Nat → Int32) := (fX0_getWell σ11 j)
            σ13
        else
          let σ14 : (Nat → Nat → Int32) := (fX1_payOut σ4 (5 : Int32)).2
          let σ15 : (Nat → Nat → Int32) := up2 σ14 (j+5) 2 ((σ14 (j+5) 2) + (fX1_payOut σ4 (5 : Int32)).1)
          let σ16 : (Nat → Nat → Int32) := up2 σ15 0 7 ((σ15 0 7) + (fX1_payOut σ4 (5 : Int32)).1)
          if 0 < (σ16 (j+5) 7) then
            σ16
          else
            let σ18 : (Nat → Nat → Int32) := (fX0_getWell σ16 j)
            σ18
    else
      let σ19 : (Nat → Nat → Int32) := (fX0_die σ1 j)
      σ19
set_option maxHeartbeats 400000 in
set_option maxRecDepth 100000 in
theorem c_X1_nurse (l : Launch) (D : va_G) (cI cM : ClassId) (a : Nat → Nat) (s : Nat) (σ ρ : (Nat → Nat → Int32)) (hs : s < 2) (j : Nat) (hj : j < 12) : cMv l yX1_nurse wsX1_nurse rmX1_nurse D cI cM a [.ref (a (17*s+0)), .ref (a (17*s+(j+5)))] s σ ρ (fX1_nurse σ j) := by
  intro sz
  refine c_head (cc := cX1_nurse) (maxL := 3) (ret := none) (plainFor_of_name (by decide)) rfl (Nat.le_of_ble_eq_true rfl) ?_
  intro p e S m below meth c hx hb hr hml hown hts hlocks hnm hsz hA hC ls hl
  have hF : CallFix p m c cX1_nurse 3 S [.ref (a (17*s+0)), .ref (a (17*s+(j+5)))].toArray wsX1_nurse RX1 := ⟨hx, hb, hml, hown, hts⟩
  have h_f149 : (Cond.fieldLink RX1 149 "CombersSociety$Member" "strength" "I").before [.ref (a (17*s+0)), .ref (a (17*s+(j+5)))].toArray S = true := hts _ (by decide +kernel)
  have h_iX0 : ∀ w ∈ u_ws RX0 TX0 10, w ∈ wsX1_nurse := by decide +kernel
  have h_f155 : (Cond.fieldLink RX1 155 "CombersSociety$Member" "weeksSick" "I").before [.ref (a (17*s+0)), .ref (a (17*s+(j+5)))].toArray S = true := hts _ (by decide +kernel)
  have h_f158 : (Cond.fieldLink RX1 158 "CombersSociety$Member" "weeksLeft" "I").before [.ref (a (17*s+0)), .ref (a (17*s+(j+5)))].toArray S = true := hts _ (by decide +kernel)
  have h_f161 : (Cond.fieldLink RX1 161 "CombersSociety$Member" "unpaid" "I").before [.ref (a (17*s+0)), .ref (a (17*s+(j+5)))].toArray S = true := hts _ (by decide +kernel)
  have h_f80 : (Cond.fieldLink RX1 80 "CombersSociety$Member" "coins" "I").before [.ref (a (17*s+0)), .ref (a (17*s+(j+5)))].toArray S = true := hts _ (by decide +kernel)
  have h_f50 : (Cond.fieldLink RX1 50 "CombersSociety$Society" "sickPaid" "I").before [.ref (a (17*s+0)), .ref (a (17*s+(j+5)))].toArray S = true := hts _ (by decide +kernel)
  have h_iX1 : ∀ w ∈ u_ws RX1 TX1 14, w ∈ wsX1_nurse := by decide +kernel
  have hl : lv_has ls 3 [(0, .ref (a (17*s+0))), (1, .ref (a (17*s+(j+5))))] := hl
  refine lv_aload_n hx hb dX1_nurse_0 rfl (lv_at hl 1 rfl) ?_
  refine lv_dup hx hb dX1_nurse_1 rfl ?_
  refine cg_m hx hb hts h_iX0 hown hC hs hj 1 (by decide) h_f149 dX1_nurse_2 ?_
  refine lv_iconst (v := 1) hx hb dX1_nurse_5 (by decide) ?_
  refine lv_isub hx hb dX1_nurse_6 ?_
  refine cp_m hx hb hts h_iX0 hown hC hs hj 1 (by decide) h_f149 dX1_nurse_7 ?_
  clear hC; intro H locs σ1 eσ1 hC
  refine lv_aload_n hx hb dX1_nurse_10 rfl (lv_at hl 1 rfl) ?_
  refine cg_m hx hb hts h_iX0 hown hC hs hj 1 (by decide) h_f149 dX1_nurse_11 ?_
  refine lv_if_gt (tgt := 22) hx hb dX1_nurse_14 (by decide) (fun c2 => ?_) (fun c2 => ?_)
  · refine lv_aload_n hx hb dX1_nurse_22 rfl (lv_at hl 1 rfl) ?_
    refine lv_dup hx hb dX1_nurse_23 rfl ?_
    refine cg_m hx hb hts h_iX0 hown hC hs hj 8 (by decide) h_f155 dX1_nurse_24 ?_
    refine lv_iconst (v := 1) hx hb dX1_nurse_27 (by decide) ?_
    refine lv_iadd hx hb dX1_nurse_28 ?_
    refine cp_m hx hb hts h_iX0 hown hC hs hj 8 (by decide) h_f155 dX1_nurse_29 ?_
    clear hC; intro H locs σ3 eσ3 hC
    refine lv_aload_n hx hb dX1_nurse_32 rfl (lv_at hl 1 rfl) ?_
    refine lv_dup hx hb dX1_nurse_33 rfl ?_
    refine cg_m hx hb hts h_iX0 hown hC hs hj 7 (by decide) h_f158 dX1_nurse_34 ?_
    refine lv_iconst (v := 1) hx hb dX1_nurse_37 (by decide) ?_
    refine lv_isub hx hb dX1_nurse_38 ?_
    refine cp_m hx hb hts h_iX0 hown hC hs hj 7 (by decide) h_f158 dX1_nurse_39 ?_
    clear hC; intro H locs σ4 eσ4 hC
    refine lv_aload_n hx hb dX1_nurse_42 rfl (lv_at hl 1 rfl) ?_
    refine cg_m hx hb hts h_iX0 hown hC hs hj 4 (by decide) h_f161 dX1_nurse_43 ?_
    refine lv_iconst (v := 3) hx hb dX1_nurse_46 (by decide) ?_
    refine lv_icmp_ge (tgt := 88) hx hb dX1_nurse_47 (by decide) (fun c5 => ?_) (fun c5 => ?_)
    · refine lv_aload_n hx hb dX1_nurse_88 rfl (lv_at hl 1 rfl) ?_
      refine cg_m hx hb hts h_iX0 hown hC hs hj 7 (by decide) h_f158 dX1_nurse_89 ?_
      refine lv_if_gt (tgt := 99) hx hb dX1_nurse_92 (by decide) (fun c6 => ?_) (fun c6 => ?_)
      · have e : fX1_nurse σ j = σ4 := by subst eσ1 eσ3 eσ4; exact ((if_pos c2).trans ((if_pos c5).trans ((if_pos c6).trans rfl)))
        exact c_vret hx hb hr hlocks hC dX1_nurse_99 (by rw [e])
      · refine lv_aload_n hx hb dX1_nurse_95 rfl (lv_at hl 1 rfl) ?_
        refine c_iVv (n := 0) hF (c_X0_getWell l D cI cM a s σ4 ρ hs j hj ) gX1_nurse_X0_getWell rfl rfl rfl (by decide +kernel) ⟨Nat.le_of_ble_eq_true rfl, Nat.le_of_ble_eq_true rfl⟩ hC hA (hC.recvM hs hj) rfl hl.1 rfl (Nat.le_of_ble_eq_true rfl) dX1_nurse_96 ⟨Nat.zero_le _, Nat.zero_le _⟩ ?_
        clear hC; intro H locs σ7 eσ7 hC
        have e : fX1_nurse σ j = σ7 := by subst eσ1 eσ3 eσ4 eσ7; exact ((if_pos c2).trans ((if_pos c5).trans ((if_neg c6).trans rfl)))
        exact c_vret hx hb hr hlocks hC dX1_nurse_99 (by rw [e])
    · refine lv_aload_n hx hb dX1_nurse_50 rfl (lv_at hl 0 rfl) ?_
      refine lv_aload_n hx hb dX1_nurse_51 rfl (lv_at hl 1 rfl) ?_
      refine cg_m hx hb hts h_iX0 hown hC hs hj 8 (by decide) h_f155 dX1_nurse_52 ?_
      refine lv_iconst (v := 3) hx hb dX1_nurse_55 (by decide) ?_
      refine lv_icmp_gt (tgt := 63) hx hb dX1_nurse_56 (by decide) (fun c8 => ?_) (fun c8 => ?_)
      · refine lv_iconst (v := 2) hx hb dX1_nurse_63 (by decide) ?_
        refine c_iVi (n := 1) hF (c_X1_payOut l D cI cM a s σ4 ρ hs (2 : Int32) ) gX1_nurse_X1_payOut rfl rfl rfl (by decide +kernel) ⟨Nat.le_of_ble_eq_true rfl, Nat.le_of_ble_eq_true rfl⟩ hC hA (hC.recvS hs) rfl hl.1 rfl (Nat.le_of_ble_eq_true rfl) dX1_nurse_64 ⟨Nat.zero_le _, Nat.zero_le _⟩ ?_
        clear hC; intro H locs σ9 eσ9 hC
        refine lv_istore_n (lv' := [(2, .int (fX1_payOut σ4 (2 : Int32)).1), (0, .ref (a (17*s+0))), (1, .ref (a (17*s+(j+5))))]) hx hb dX1_nurse_67 rfl hl (by decide) rfl ?_
        clear hl; intro ls hl
        refine lv_aload_n hx hb dX1_nurse_68 rfl (lv_at hl 2 rfl) ?_
        refine lv_dup hx hb dX1_nurse_69 rfl ?_
        refine cg_m hx hb hts h_iX0 hown hC hs hj 2 (by decide) h_f80 dX1_nurse_70 ?_
        refine lv_iload_n hx hb dX1_nurse_73 rfl (lv_at hl 0 rfl) ?_
        refine lv_iadd hx hb dX1_nurse_74 ?_
        refine cp_m hx hb hts h_iX0 hown hC hs hj 2 (by decide) h_f80 dX1_nurse_75 ?_
        clear hC; intro H locs σ10 eσ10 hC
        refine lv_aload_n hx hb dX1_nurse_78 rfl (lv_at hl 1 rfl) ?_
        refine lv_dup hx hb dX1_nurse_79 rfl ?_
        refine cg_s hx hb hts h_iX1 hown hC hs 7 (by decide) h_f50 dX1_nurse_80 ?_
        refine lv_iload_n hx hb dX1_nurse_83 rfl (lv_at hl 0 rfl) ?_
        refine lv_iadd hx hb dX1_nurse_84 ?_
        refine cp_s hx hb hts h_iX1 hown hC hs 7 (by decide) h_f50 dX1_nurse_85 ?_
        clear hC; intro H locs σ11 eσ11 hC
        refine lv_aload_n hx hb dX1_nurse_88 rfl (lv_at hl 2 rfl) ?_
        refine cg_m hx hb hts h_iX0 hown hC hs hj 7 (by decide) h_f158 dX1_nurse_89 ?_
        refine lv_if_gt (tgt := 99) hx hb dX1_nurse_92 (by decide) (fun c12 => ?_) (fun c12 => ?_)
        · have e : fX1_nurse σ j = σ11 := by subst eσ1 eσ3 eσ4 eσ9 eσ10 eσ11; exact ((if_pos c2).trans ((if_neg c5).trans ((if_pos c8).trans ((if_pos c12).trans rfl))))
          exact c_vret hx hb hr hlocks hC dX1_nurse_99 (by rw [e])
        · refine lv_aload_n hx hb dX1_nurse_95 rfl (lv_at hl 2 rfl) ?_
          refine c_iVv (n := 0) hF (c_X0_getWell l D cI cM a s σ11 ρ hs j hj ) gX1_nurse_X0_getWell rfl rfl rfl (by decide +kernel) ⟨Nat.le_of_ble_eq_true rfl, Nat.le_of_ble_eq_true rfl⟩ hC hA (hC.recvM hs hj) rfl hl.1 rfl (Nat.le_of_ble_eq_true rfl) dX1_nurse_96 ⟨Nat.zero_le _, Nat.zero_le _⟩ ?_
          clear hC; intro H locs σ13 eσ13 hC
          have e : fX1_nurse σ j = σ13 := by subst eσ1 eσ3 eσ4 eσ9 eσ10 eσ11 eσ13; exact ((if_pos c2).trans ((if_neg c5).trans ((if_pos c8).trans ((if_neg c12).trans rfl))))
          exact c_vret hx hb hr hlocks hC dX1_nurse_99 (by rw [e])
      · refine lv_iconst (v := 5) hx hb dX1_nurse_59 (by decide) ?_
        refine lv_goto (tgt := 64) hx hb dX1_nurse_60 (by decide) ?_
        refine c_iVi (n := 1) hF (c_X1_payOut l D cI cM a s σ4 ρ hs (5 : Int32) ) gX1_nurse_X1_payOut rfl rfl rfl (by decide +kernel) ⟨Nat.le_of_ble_eq_true rfl, Nat.le_of_ble_eq_true rfl⟩ hC hA (hC.recvS hs) rfl hl.1 rfl (Nat.le_of_ble_eq_true rfl) dX1_nurse_64 ⟨Nat.zero_le _, Nat.zero_le _⟩ ?_
        clear hC; intro H locs σ14 eσ14 hC
        refine lv_istore_n (lv' := [(2, .int (fX1_payOut σ4 (5 : Int32)).1), (0, .ref (a (17*s+0))), (1, .ref (a (17*s+(j+5))))]) hx hb dX1_nurse_67 rfl hl (by decide) rfl ?_
        clear hl; intro ls hl
        refine lv_aload_n hx hb dX1_nurse_68 rfl (lv_at hl 2 rfl) ?_
        refine lv_dup hx hb dX1_nurse_69 rfl ?_
        refine cg_m hx hb hts h_iX0 hown hC hs hj 2 (by decide) h_f80 dX1_nurse_70 ?_
        refine lv_iload_n hx hb dX1_nurse_73 rfl (lv_at hl 0 rfl) ?_
        refine lv_iadd hx hb dX1_nurse_74 ?_
        refine cp_m hx hb hts h_iX0 hown hC hs hj 2 (by decide) h_f80 dX1_nurse_75 ?_
        clear hC; intro H locs σ15 eσ15 hC
        refine lv_aload_n hx hb dX1_nurse_78 rfl (lv_at hl 1 rfl) ?_
        refine lv_dup hx hb dX1_nurse_79 rfl ?_
        refine cg_s hx hb hts h_iX1 hown hC hs 7 (by decide) h_f50 dX1_nurse_80 ?_
        refine lv_iload_n hx hb dX1_nurse_83 rfl (lv_at hl 0 rfl) ?_
        refine lv_iadd hx hb dX1_nurse_84 ?_
        refine cp_s hx hb hts h_iX1 hown hC hs 7 (by decide) h_f50 dX1_nurse_85 ?_
        clear hC; intro H locs σ16 eσ16 hC
        refine lv_aload_n hx hb dX1_nurse_88 rfl (lv_at hl 2 rfl) ?_
        refine cg_m hx hb hts h_iX0 hown hC hs hj 7 (by decide) h_f158 dX1_nurse_89 ?_
        refine lv_if_gt (tgt := 99) hx hb dX1_nurse_92 (by decide) (fun c17 => ?_) (fun c17 => ?_)
        · have e : fX1_nurse σ j = σ16 := by subst eσ1 eσ3 eσ4 eσ14 eσ15 eσ16; exact ((if_pos c2).trans ((if_neg c5).trans ((if_neg c8).trans ((if_pos c17).trans rfl))))
          exact c_vret hx hb hr hlocks hC dX1_nurse_99 (by rw [e])
        · refine lv_aload_n hx hb dX1_nurse_95 rfl (lv_at hl 2 rfl) ?_
          refine c_iVv (n := 0) hF (c_X0_getWell l D cI cM a s σ16 ρ hs j hj ) gX1_nurse_X0_getWell rfl rfl rfl (by decide +kernel) ⟨Nat.le_of_ble_eq_true rfl, Nat.le_of_ble_eq_true rfl⟩ hC hA (hC.recvM hs hj) rfl hl.1 rfl (Nat.le_of_ble_eq_true rfl) dX1_nurse_96 ⟨Nat.zero_le _, Nat.zero_le _⟩ ?_
          clear hC; intro H locs σ18 eσ18 hC
          have e : fX1_nurse σ j = σ18 := by subst eσ1 eσ3 eσ4 eσ14 eσ15 eσ16 eσ18; exact ((if_pos c2).trans ((if_neg c5).trans ((if_neg c8).trans ((if_neg c17).trans rfl))))
          exact c_vret hx hb hr hlocks hC dX1_nurse_99 (by rw [e])
  · refine lv_aload_n hx hb dX1_nurse_17 rfl (lv_at hl 1 rfl) ?_
    refine c_iVv (n := 0) hF (c_X0_die l D cI cM a s σ1 ρ hs j hj ) gX1_nurse_X0_die rfl rfl rfl (by decide +kernel) ⟨Nat.le_of_ble_eq_true rfl, Nat.le_of_ble_eq_true rfl⟩ hC hA (hC.recvM hs hj) rfl hl.1 rfl (Nat.le_of_ble_eq_true rfl) dX1_nurse_18 ⟨Nat.zero_le _, Nat.zero_le _⟩ ?_
    clear hC; intro H locs σ19 eσ19 hC
    have e : fX1_nurse σ j = σ19 := by subst eσ1 eσ19; exact ((if_neg c2).trans rfl)
    exact c_vret hx hb hr hlocks hC dX1_nurse_21 (by rw [e])
abbrev rmX1_nurseSick : Room := { frames := 3, cells := 0, slots := 0, locals := 57 }
def fX1_nurseSick_b1 (i1x : Nat) (σL1 : (Nat → Nat → Int32)) : (Nat → Nat → Int32) :=
    if (σL1 (i1x+5) 6) = (1 : Int32) then
      let σ3 : (Nat → Nat → Int32) := (fX1_nurse σL1 i1x)
      σ3
    else
      σL1
def fX1_nurseSick_k1 (σL1 : (Nat → Nat → Int32)) : (Nat → Nat → Int32) :=
    σL1
def fX1_nurseSick (σ : (Nat → Nat → Int32)) : (Nat → Nat → Int32) :=
    (fun x => fX1_nurseSick_k1 x) (itR (fun i x => fX1_nurseSick_b1 i x) 0 12 σ)
set_option maxHeartbeats 400000 in
set_option maxRecDepth 100000 in
theorem c_X1_nurseSick (l : Launch) (D : va_G) (cI cM : ClassId) (a : Nat → Nat) (s : Nat) (σ ρ : (Nat → Nat → Int32)) (hs : s < 2)  : cMv l yX1_nurseSick wsX1_nurseSick rmX1_nurseSick D cI cM a [.ref (a (17*s+0))] s σ ρ (fX1_nurseSick σ) := by
  intro sz
  refine c_head (cc := cX1_nurseSick) (maxL := 5) (ret := none) (plainFor_of_name (by decide)) rfl (Nat.le_of_ble_eq_true rfl) ?_
  intro p e S m below meth c hx hb hr hml hown hts hlocks hnm hsz hA hC ls hl
  have hF : CallFix p m c cX1_nurseSick 5 S [.ref (a (17*s+0))].toArray wsX1_nurseSick RX1 := ⟨hx, hb, hml, hown, hts⟩
  have h_f36 : (Cond.fieldLink RX1 36 "CombersSociety$Society" "members" "[LCombersSociety$Member;").before [.ref (a (17*s+0))].toArray S = true := hts _ (by decide +kernel)
  have h_iX1 : ∀ w ∈ u_ws RX1 TX1 14, w ∈ wsX1_nurseSick := by decide +kernel
  have h_f60 : (Cond.fieldLink RX1 60 "CombersSociety$Member" "health" "I").before [.ref (a (17*s+0))].toArray S = true := hts _ (by decide +kernel)
  have h_iX0 : ∀ w ∈ u_ws RX0 TX0 10, w ∈ wsX1_nurseSick := by decide +kernel
  have hl : lv_has ls 5 [(0, .ref (a (17*s+0)))] := hl
  refine lv_aload_n hx hb dX1_nurseSick_0 rfl (lv_at hl 0 rfl) ?_
  refine cg_r hx hb hts h_iX1 hown hC hs 3 (by decide) h_f36 dX1_nurseSick_1 ?_
  refine lv_astore_n (lv' := [(1, .ref (a (17*s+(3+1)))), (0, .ref (a (17*s+0)))]) hx hb dX1_nurseSick_4 rfl hl (by decide) rfl ?_
  clear hl; intro ls hl
  refine lv_aload_n hx hb dX1_nurseSick_5 rfl (lv_at hl 0 rfl) ?_
  refine c_mlen hx hb hC hs dX1_nurseSick_6 ?_
  refine lv_istore_n (lv' := [(2, .int (12 : Int32)), (1, .ref (a (17*s+(3+1)))), (0, .ref (a (17*s+0)))]) hx hb dX1_nurseSick_7 rfl hl (by decide) rfl ?_
  clear hl; intro ls hl
  refine lv_iconst (v := 0) hx hb dX1_nurseSick_8 (by decide) ?_
  refine lv_istore_n (lv' := [(3, .int (0 : Int32)), (2, .int (12 : Int32)), (1, .ref (a (17*s+(3+1)))), (0, .ref (a (17*s+0)))]) hx hb dX1_nurseSick_9 rfl hl (by decide) rfl ?_
  clear hl; intro ls hl
  have loop1 : ∀ (n1x i1x : Nat) (σL1 : (Nat → Nat → Int32)), i1x + n1x = 12 → itR (fun i x => fX1_nurseSick_b1 i x) i1x n1x σL1 = itR (fun i x => fX1_nurseSick_b1 i x) 0 12 σ → ∀ (H : Heap) (locs : List Loc), cB D cI cM a S (cA a sz) S.heap H locs s σL1 ρ → ∀ ls : Array Slot, lv_has ls 5 [(3, .int (nI i1x)), (2, .int (12 : Int32)), (1, .ref (a (17*s+(3+1)))), (0, .ref (a (17*s+0)))] → W p l e (headSpec wsX1_nurseSick rmX1_nurseSick).room S m [.ref (a (17*s+0))].toArray below meth c H locs 0 0 (MQ below (va_Qv (fun (_ : Unit) => True) (cPost D cI cM a s (fX1_nurseSick σ) ρ) (cA a sz)) [.ref (a (17*s+0))].toArray S 0 0 (cA a sz)) (F0 m 10 ls []) := by
    clear hC hl
    intro n1x
    induction n1x with
    | zero =>
      intro i1x σL1 hin1 hX1 H locs hC ls hl
      obtain rfl : 12 = i1x := by omega
      refine lv_iload_n hx hb dX1_nurseSick_10 rfl (lv_at hl 0 rfl) ?_
      refine lv_iload_n hx hb dX1_nurseSick_11 rfl (lv_at hl 1 rfl) ?_
      refine lv_icmp_ge (tgt := 41) hx hb dX1_nurseSick_12 (by decide) (fun c4 => ?_) (fun c4 => absurd (by decide) c4)
      have e : fX1_nurseSick σ = σL1 := by exact ((congrArg (fun x => fX1_nurseSick_k1 x) hX1.symm).trans rfl)
      exact c_vret hx hb hr hlocks hC dX1_nurseSick_41 (by rw [e])
    | succ n1x ih1 =>
      intro i1x σL1 hin1 hX1 H locs hC ls hl
      refine lv_iload_n hx hb dX1_nurseSick_10 rfl (lv_at hl 0 rfl) ?_
      refine lv_iload_n hx hb dX1_nurseSick_11 rfl (lv_at hl 1 rfl) ?_
      refine lv_icmp_ge (tgt := 41) hx hb dX1_nurseSick_12 (by decide) (fun c1 => absurd c1 (show ¬ (12 : Int32) ≤ nI i1x from (nI_ge (a := i1x) (b := 12) (by omega) (by decide) : ¬ nI 12 ≤ nI i1x))) (fun c1 => ?_)
      refine lv_aload_n hx hb dX1_nurseSick_15 rfl (lv_at hl 2 rfl) ?_
      refine lv_iload_n hx hb dX1_nurseSick_16 rfl (lv_at hl 0 rfl) ?_
      refine c_mld hx hb hC hs (j := i1x) rfl (show _ < 12 by omega) dX1_nurseSick_17 ?_
      refine lv_astore (lv' := [(4, .ref (a (17*s+(i1x+5)))), (3, .int (nI i1x)), (2, .int (12 : Int32)), (1, .ref (a (17*s+(3+1)))), (0, .ref (a (17*s+0)))]) hx hb dX1_nurseSick_18 hl (by decide) rfl ?_
      clear hl; intro ls hl
      refine lv_aload hx hb dX1_nurseSick_20 (lv_at hl 0 rfl) ?_
      refine cg_m hx hb hts h_iX0 hown hC hs (show _ < 12 by omega) 6 (by decide) h_f60 dX1_nurseSick_22 ?_
      refine lv_iconst (v := 1) hx hb dX1_nurseSick_25 (by decide) ?_
      refine lv_icmp_ne (tgt := 35) hx hb dX1_nurseSick_26 (by decide) (fun c2 => ?_) (fun c2 => ?_)
      · refine lv_iinc (v := (nI (i1x + 1))) (lv' := [(3, .int (nI (i1x + 1))), (4, .ref (a (17*s+(i1x+5)))), (2, .int (12 : Int32)), (1, .ref (a (17*s+(3+1)))), (0, .ref (a (17*s+0)))]) hx hb dX1_nurseSick_35 hl (k := 1) rfl (nI_1 i1x) (by decide) rfl ?_
        clear hl; intro ls hl
        refine lv_goto (tgt := 10) hx hb dX1_nurseSick_38 (by decide) ?_
        have e : fX1_nurseSick_b1 i1x σL1 = σL1 := by exact ((if_neg c2).trans rfl)
        exact ih1 (i1x + 1) σL1 (by omega) (by rw [← e]; exact hX1) _ _ hC ls (lv_sub hl [0, 2, 3, 4] rfl)
      · refine lv_aload_n hx hb dX1_nurseSick_29 rfl (lv_at hl 4 rfl) ?_
        refine lv_aload hx hb dX1_nurseSick_30 (lv_at hl 0 rfl) ?_
        refine c_iVv (n := 1) hF (c_X1_nurse l D cI cM a s σL1 ρ hs i1x (show _ < 12 by omega) ) gX1_nurseSick_X1_nurse rfl rfl rfl (by decide +kernel) ⟨Nat.le_of_ble_eq_true rfl, Nat.le_of_ble_eq_true rfl⟩ hC hA (hC.recvS hs) rfl hl.1 rfl (Nat.le_of_ble_eq_true rfl) dX1_nurseSick_32 ⟨Nat.zero_le _, Nat.zero_le _⟩ ?_
        clear hC; intro H locs σ3 eσ3 hC
        refine lv_iinc (v := (nI (i1x + 1))) (lv' := [(3, .int (nI (i1x + 1))), (4, .ref (a (17*s+(i1x+5)))), (2, .int (12 : Int32)), (1, .ref (a (17*s+(3+1)))), (0, .ref (a (17*s+0)))]) hx hb dX1_nurseSick_35 hl (k := 1) rfl (nI_1 i1x) (by decide) rfl ?_
        clear hl; intro ls hl
        refine lv_goto (tgt := 10) hx hb dX1_nurseSick_38 (by decide) ?_
        have e : fX1_nurseSick_b1 i1x σL1 = σ3 := by subst eσ3; exact ((if_pos c2).trans rfl)
        exact ih1 (i1x + 1) σ3 (by omega) (by rw [← e]; exact hX1) _ _ hC ls (lv_sub hl [0, 2, 3, 4] rfl)
  exact loop1 12 0 σ (by omega) rfl _ _ hC ls (lv_sub hl [0, 1, 2, 3] rfl)
abbrev rmX1_bury : Room := { frames := 2, cells := 0, slots := 0, locals := 35 }
def fX1_bury_b1 (i1x : Nat) (σL1 : (Nat → Nat → Int32)) : (Nat → Nat → Int32) :=
    if (fX0_lives σL1 i1x) = 0 then
      σL1
    else
      if (σL1 (i1x+5) 2) ≤ 0 then
        σL1
      else
        let σ9 : (Nat → Nat → Int32) := up2 σL1 (i1x+5) 2 ((σL1 (i1x+5) 2) - (1 : Int32))
        let σ10 : (Nat → Nat → Int32) := up2 σ9 0 2 ((σ9 0 2) + (1 : Int32))
        σ10
def fX1_bury_k1 (σL1 : (Nat → Nat → Int32)) : (Nat → Nat → Int32) :=
    σL1
def fX1_bury (σ : (Nat → Nat → Int32)) (j : Nat) : (Nat → Nat → Int32) :=
    let σ1 : (Nat → Nat → Int32) := (fX1_payOut σ (12 : Int32)).2
    let σ2 : (Nat → Nat → Int32) := up2 σ1 0 8 ((σ 0 8) + (fX1_payOut σ (12 : Int32)).1)
    let σ3 : (Nat → Nat → Int32) := up2 σ2 0 2 ((σ2 0 2) + (σ2 (j+5) 2))
    let σ4 : (Nat → Nat → Int32) := up2 σ3 (j+5) 2 (0 : Int32)
    let σ5 : (Nat → Nat → Int32) := up2 σ4 (j+5) 9 (0 : Int32)
    (fun x => fX1_bury_k1 x) (itR (fun i x => fX1_bury_b1 i x) 0 12 σ5)
set_option maxHeartbeats 400000 in
set_option maxRecDepth 100000 in
theorem c_X1_bury (l : Launch) (D : va_G) (cI cM : ClassId) (a : Nat → Nat) (s : Nat) (σ ρ : (Nat → Nat → Int32)) (hs : s < 2) (j : Nat) (hj : j < 12) : cMv l yX1_bury wsX1_bury rmX1_bury D cI cM a [.ref (a (17*s+0)), .ref (a (17*s+(j+5)))] s σ ρ (fX1_bury σ j) := by
  intro sz
  refine c_head (cc := cX1_bury) (maxL := 6) (ret := none) (plainFor_of_name (by decide)) rfl (Nat.le_of_ble_eq_true rfl) ?_
  intro p e S m below meth c hx hb hr hml hown hts hlocks hnm hsz hA hC ls hl
  have hF : CallFix p m c cX1_bury 6 S [.ref (a (17*s+0)), .ref (a (17*s+(j+5)))].toArray wsX1_bury RX1 := ⟨hx, hb, hml, hown, hts⟩
  have h_f53 : (Cond.fieldLink RX1 53 "CombersSociety$Society" "funeralsPaid" "I").before [.ref (a (17*s+0)), .ref (a (17*s+(j+5)))].toArray S = true := hts _ (by decide +kernel)
  have h_iX1 : ∀ w ∈ u_ws RX1 TX1 14, w ∈ wsX1_bury := by decide +kernel
  have h_f9 : (Cond.fieldLink RX1 9 "CombersSociety$Society" "box" "I").before [.ref (a (17*s+0)), .ref (a (17*s+(j+5)))].toArray S = true := hts _ (by decide +kernel)
  have h_f80 : (Cond.fieldLink RX1 80 "CombersSociety$Member" "coins" "I").before [.ref (a (17*s+0)), .ref (a (17*s+(j+5)))].toArray S = true := hts _ (by decide +kernel)
  have h_iX0 : ∀ w ∈ u_ws RX0 TX0 10, w ∈ wsX1_bury := by decide +kernel
  have h_f176 : (Cond.fieldLink RX1 176 "CombersSociety$Member" "unburied" "Z").before [.ref (a (17*s+0)), .ref (a (17*s+(j+5)))].toArray S = true := hts _ (by decide +kernel)
  have h_f36 : (Cond.fieldLink RX1 36 "CombersSociety$Society" "members" "[LCombersSociety$Member;").before [.ref (a (17*s+0)), .ref (a (17*s+(j+5)))].toArray S = true := hts _ (by decide +kernel)
  have hl : lv_has ls 6 [(0, .ref (a (17*s+0))), (1, .ref (a (17*s+(j+5))))] := hl
  refine lv_aload_n hx hb dX1_bury_0 rfl (lv_at hl 0 rfl) ?_
  refine lv_dup hx hb dX1_bury_1 rfl ?_
  refine cg_s hx hb hts h_iX1 hown hC hs 8 (by decide) h_f53 dX1_bury_2 ?_
  refine lv_aload_n hx hb dX1_bury_5 rfl (lv_at hl 0 rfl) ?_
  refine lv_bipush (v := 12) hx hb dX1_bury_6 (by decide) ?_
  refine c_iVi (n := 1) hF (c_X1_payOut l D cI cM a s σ ρ hs (12 : Int32) ) gX1_bury_X1_payOut rfl rfl rfl (by decide +kernel) ⟨Nat.le_of_ble_eq_true rfl, Nat.le_of_ble_eq_true rfl⟩ hC hA (hC.recvS hs) rfl hl.1 rfl (Nat.le_of_ble_eq_true rfl) dX1_bury_8 ⟨Nat.zero_le _, Nat.zero_le _⟩ ?_
  clear hC; intro H locs σ1 eσ1 hC
  refine lv_iadd hx hb dX1_bury_11 ?_
  refine cp_s hx hb hts h_iX1 hown hC hs 8 (by decide) h_f53 dX1_bury_12 ?_
  clear hC; intro H locs σ2 eσ2 hC
  refine lv_aload_n hx hb dX1_bury_15 rfl (lv_at hl 0 rfl) ?_
  refine lv_dup hx hb dX1_bury_16 rfl ?_
  refine cg_s hx hb hts h_iX1 hown hC hs 2 (by decide) h_f9 dX1_bury_17 ?_
  refine lv_aload_n hx hb dX1_bury_20 rfl (lv_at hl 1 rfl) ?_
  refine cg_m hx hb hts h_iX0 hown hC hs hj 2 (by decide) h_f80 dX1_bury_21 ?_
  refine lv_iadd hx hb dX1_bury_24 ?_
  refine cp_s hx hb hts h_iX1 hown hC hs 2 (by decide) h_f9 dX1_bury_25 ?_
  clear hC; intro H locs σ3 eσ3 hC
  refine lv_aload_n hx hb dX1_bury_28 rfl (lv_at hl 1 rfl) ?_
  refine lv_iconst (v := 0) hx hb dX1_bury_29 (by decide) ?_
  refine cp_m hx hb hts h_iX0 hown hC hs hj 2 (by decide) h_f80 dX1_bury_30 ?_
  clear hC; intro H locs σ4 eσ4 hC
  refine lv_aload_n hx hb dX1_bury_33 rfl (lv_at hl 1 rfl) ?_
  refine lv_iconst (v := 0) hx hb dX1_bury_34 (by decide) ?_
  refine cp_mb hx hb hts h_iX0 hown hC hs hj (Or.inl rfl) h_f176 dX1_bury_35 ?_
  clear hC; intro H locs σ5 eσ5 hC
  refine lv_aload_n hx hb dX1_bury_38 rfl (lv_at hl 0 rfl) ?_
  refine cg_r hx hb hts h_iX1 hown hC hs 3 (by decide) h_f36 dX1_bury_39 ?_
  refine lv_astore_n (lv' := [(2, .ref (a (17*s+(3+1)))), (0, .ref (a (17*s+0))), (1, .ref (a (17*s+(j+5))))]) hx hb dX1_bury_42 rfl hl (by decide) rfl ?_
  clear hl; intro ls hl
  refine lv_aload_n hx hb dX1_bury_43 rfl (lv_at hl 0 rfl) ?_
  refine c_mlen hx hb hC hs dX1_bury_44 ?_
  refine lv_istore_n (lv' := [(3, .int (12 : Int32)), (2, .ref (a (17*s+(3+1)))), (0, .ref (a (17*s+0))), (1, .ref (a (17*s+(j+5))))]) hx hb dX1_bury_45 rfl hl (by decide) rfl ?_
  clear hl; intro ls hl
  refine lv_iconst (v := 0) hx hb dX1_bury_46 (by decide) ?_
  refine lv_istore (lv' := [(4, .int (0 : Int32)), (3, .int (12 : Int32)), (2, .ref (a (17*s+(3+1)))), (0, .ref (a (17*s+0))), (1, .ref (a (17*s+(j+5))))]) hx hb dX1_bury_47 hl (by decide) rfl ?_
  clear hl; intro ls hl
  have loop1 : ∀ (n1x i1x : Nat) (σL1 : (Nat → Nat → Int32)), i1x + n1x = 12 → itR (fun i x => fX1_bury_b1 i x) i1x n1x σL1 = itR (fun i x => fX1_bury_b1 i x) 0 12 σ5 → ∀ (H : Heap) (locs : List Loc), cB D cI cM a S (cA a sz) S.heap H locs s σL1 ρ → ∀ ls : Array Slot, lv_has ls 6 [(4, .int (nI i1x)), (3, .int (12 : Int32)), (2, .ref (a (17*s+(3+1)))), (0, .ref (a (17*s+0))), (1, .ref (a (17*s+(j+5))))] → W p l e (headSpec wsX1_bury rmX1_bury).room S m [.ref (a (17*s+0)), .ref (a (17*s+(j+5)))].toArray below meth c H locs 0 0 (MQ below (va_Qv (fun (_ : Unit) => True) (cPost D cI cM a s (fX1_bury σ j) ρ) (cA a sz)) [.ref (a (17*s+0)), .ref (a (17*s+(j+5)))].toArray S 0 0 (cA a sz)) (F0 m 49 ls []) := by
    clear hC hl
    intro n1x
    induction n1x with
    | zero =>
      intro i1x σL1 hin1 hX1 H locs hC ls hl
      obtain rfl : 12 = i1x := by omega
      refine lv_iload hx hb dX1_bury_49 (lv_at hl 0 rfl) ?_
      refine lv_iload_n hx hb dX1_bury_51 rfl (lv_at hl 1 rfl) ?_
      refine lv_icmp_ge (tgt := 104) hx hb dX1_bury_52 (by decide) (fun c11 => ?_) (fun c11 => absurd (by decide) c11)
      have e : fX1_bury σ j = σL1 := by subst eσ1 eσ2 eσ3 eσ4 eσ5; exact ((congrArg (fun x => fX1_bury_k1 x) hX1.symm).trans rfl)
      exact c_vret hx hb hr hlocks hC dX1_bury_104 (by rw [e])
    | succ n1x ih1 =>
      intro i1x σL1 hin1 hX1 H locs hC ls hl
      refine lv_iload hx hb dX1_bury_49 (lv_at hl 0 rfl) ?_
      refine lv_iload_n hx hb dX1_bury_51 rfl (lv_at hl 1 rfl) ?_
      refine lv_icmp_ge (tgt := 104) hx hb dX1_bury_52 (by decide) (fun c6 => absurd c6 (show ¬ (12 : Int32) ≤ nI i1x from (nI_ge (a := i1x) (b := 12) (by omega) (by decide) : ¬ nI 12 ≤ nI i1x))) (fun c6 => ?_)
      refine lv_aload_n hx hb dX1_bury_55 rfl (lv_at hl 2 rfl) ?_
      refine lv_iload hx hb dX1_bury_56 (lv_at hl 0 rfl) ?_
      refine c_mld hx hb hC hs (j := i1x) rfl (show _ < 12 by omega) dX1_bury_58 ?_
      refine lv_astore (lv' := [(5, .ref (a (17*s+(i1x+5)))), (4, .int (nI i1x)), (3, .int (12 : Int32)), (2, .ref (a (17*s+(3+1)))), (0, .ref (a (17*s+0))), (1, .ref (a (17*s+(j+5))))]) hx hb dX1_bury_59 hl (by decide) rfl ?_
      clear hl; intro ls hl
      refine lv_aload hx hb dX1_bury_61 (lv_at hl 0 rfl) ?_
      refine c_iVp (n := 0) hF (c_X0_lives l D cI cM a s σL1 ρ hs i1x (show _ < 12 by omega) ) gX1_bury_X0_lives rfl rfl rfl (by decide +kernel) ⟨Nat.le_of_ble_eq_true rfl, Nat.le_of_ble_eq_true rfl⟩ hC hA (hC.recvM hs (show _ < 12 by omega)) rfl hl.1 rfl (Nat.le_of_ble_eq_true rfl) dX1_bury_63 ⟨Nat.zero_le _, Nat.zero_le _⟩ ?_
      clear hC; intro H locs hC
      refine lv_if_eq (tgt := 98) hx hb dX1_bury_66 (by decide) (fun c7 => ?_) (fun c7 => ?_)
      · refine lv_iinc (v := (nI (i1x + 1))) (lv' := [(4, .int (nI (i1x + 1))), (5, .ref (a (17*s+(i1x+5)))), (3, .int (12 : Int32)), (2, .ref (a (17*s+(3+1)))), (0, .ref (a (17*s+0))), (1, .ref (a (17*s+(j+5))))]) hx hb dX1_bury_98 hl (k := 1) rfl (nI_1 i1x) (by decide) rfl ?_
        clear hl; intro ls hl
        refine lv_goto (tgt := 49) hx hb dX1_bury_101 (by decide) ?_
        have e : fX1_bury_b1 i1x σL1 = σL1 := by exact ((if_pos c7).trans rfl)
        exact ih1 (i1x + 1) σL1 (by omega) (by rw [← e]; exact hX1) _ _ hC ls (lv_sub hl [0, 2, 3, 4, 5] rfl)
      · refine lv_aload hx hb dX1_bury_69 (lv_at hl 0 rfl) ?_
        refine cg_m hx hb hts h_iX0 hown hC hs (show _ < 12 by omega) 2 (by decide) h_f80 dX1_bury_71 ?_
        refine lv_if_le (tgt := 98) hx hb dX1_bury_74 (by decide) (fun c8 => ?_) (fun c8 => ?_)
        · refine lv_iinc (v := (nI (i1x + 1))) (lv' := [(4, .int (nI (i1x + 1))), (5, .ref (a (17*s+(i1x+5)))), (3, .int (12 : Int32)), (2, .ref (a (17*s+(3+1)))), (0, .ref (a (17*s+0))), (1, .ref (a (17*s+(j+5))))]) hx hb dX1_bury_98 hl (k := 1) rfl (nI_1 i1x) (by decide) rfl ?_
          clear hl; intro ls hl
          refine lv_goto (tgt := 49) hx hb dX1_bury_101 (by decide) ?_
          have e : fX1_bury_b1 i1x σL1 = σL1 := by exact ((if_neg c7).trans ((if_pos c8).trans rfl))
          exact ih1 (i1x + 1) σL1 (by omega) (by rw [← e]; exact hX1) _ _ hC ls (lv_sub hl [0, 2, 3, 4, 5] rfl)
        · refine lv_aload hx hb dX1_bury_77 (lv_at hl 0 rfl) ?_
          refine lv_dup hx hb dX1_bury_79 rfl ?_
          refine cg_m hx hb hts h_iX0 hown hC hs (show _ < 12 by omega) 2 (by decide) h_f80 dX1_bury_80 ?_
          refine lv_iconst (v := 1) hx hb dX1_bury_83 (by decide) ?_
          refine lv_isub hx hb dX1_bury_84 ?_
          refine cp_m hx hb hts h_iX0 hown hC hs (show _ < 12 by omega) 2 (by decide) h_f80 dX1_bury_85 ?_
          clear hC; intro H locs σ9 eσ9 hC
          refine lv_aload_n hx hb dX1_bury_88 rfl (lv_at hl 4 rfl) ?_
          refine lv_dup hx hb dX1_bury_89 rfl ?_
          refine cg_s hx hb hts h_iX1 hown hC hs 2 (by decide) h_f9 dX1_bury_90 ?_
          refine lv_iconst (v := 1) hx hb dX1_bury_93 (by decide) ?_
          refine lv_iadd hx hb dX1_bury_94 ?_
          refine cp_s hx hb hts h_iX1 hown hC hs 2 (by decide) h_f9 dX1_bury_95 ?_
          clear hC; intro H locs σ10 eσ10 hC
          refine lv_iinc (v := (nI (i1x + 1))) (lv' := [(4, .int (nI (i1x + 1))), (5, .ref (a (17*s+(i1x+5)))), (3, .int (12 : Int32)), (2, .ref (a (17*s+(3+1)))), (0, .ref (a (17*s+0))), (1, .ref (a (17*s+(j+5))))]) hx hb dX1_bury_98 hl (k := 1) rfl (nI_1 i1x) (by decide) rfl ?_
          clear hl; intro ls hl
          refine lv_goto (tgt := 49) hx hb dX1_bury_101 (by decide) ?_
          have e : fX1_bury_b1 i1x σL1 = σ10 := by subst eσ9 eσ10; exact ((if_neg c7).trans ((if_neg c8).trans rfl))
          exact ih1 (i1x + 1) σ10 (by omega) (by rw [← e]; exact hX1) _ _ hC ls (lv_sub hl [0, 2, 3, 4, 5] rfl)
  exact loop1 12 0 σ5 (by omega) rfl _ _ hC ls (lv_sub hl [0, 1, 2, 3, 4] rfl)
abbrev rmX1_holdFunerals : Room := { frames := 3, cells := 0, slots := 0, locals := 60 }
def fX1_holdFunerals_b1 (i1x : Nat) (σL1 : (Nat → Nat → Int32)) : (Nat → Nat → Int32) :=
    if (σL1 (i1x+5) 9) = 0 then
      σL1
    else
      let σ3 : (Nat → Nat → Int32) := (fX1_bury σL1 i1x)
      σ3
def fX1_holdFunerals_k1 (σL1 : (Nat → Nat → Int32)) : (Nat → Nat → Int32) :=
    σL1
def fX1_holdFunerals (σ : (Nat → Nat → Int32)) : (Nat → Nat → Int32) :=
    (fun x => fX1_holdFunerals_k1 x) (itR (fun i x => fX1_holdFunerals_b1 i x) 0 12 σ)
set_option maxHeartbeats 400000 in
set_option maxRecDepth 100000 in
theorem c_X1_holdFunerals (l : Launch) (D : va_G) (cI cM : ClassId) (a : Nat → Nat) (s : Nat) (σ ρ : (Nat → Nat → Int32)) (hs : s < 2)  : cMv l yX1_holdFunerals wsX1_holdFunerals rmX1_holdFunerals D cI cM a [.ref (a (17*s+0))] s σ ρ (fX1_holdFunerals σ) := by
  intro sz
  refine c_head (cc := cX1_holdFunerals) (maxL := 5) (ret := none) (plainFor_of_name (by decide)) rfl (Nat.le_of_ble_eq_true rfl) ?_
  intro p e S m below meth c hx hb hr hml hown hts hlocks hnm hsz hA hC ls hl
  have hF : CallFix p m c cX1_holdFunerals 5 S [.ref (a (17*s+0))].toArray wsX1_holdFunerals RX1 := ⟨hx, hb, hml, hown, hts⟩
  have h_f36 : (Cond.fieldLink RX1 36 "CombersSociety$Society" "members" "[LCombersSociety$Member;").before [.ref (a (17*s+0))].toArray S = true := hts _ (by decide +kernel)
  have h_iX1 : ∀ w ∈ u_ws RX1 TX1 14, w ∈ wsX1_holdFunerals := by decide +kernel
  have h_f176 : (Cond.fieldLink RX1 176 "CombersSociety$Member" "unburied" "Z").before [.ref (a (17*s+0))].toArray S = true := hts _ (by decide +kernel)
  have h_iX0 : ∀ w ∈ u_ws RX0 TX0 10, w ∈ wsX1_holdFunerals := by decide +kernel
  have hl : lv_has ls 5 [(0, .ref (a (17*s+0)))] := hl
  refine lv_aload_n hx hb dX1_holdFunerals_0 rfl (lv_at hl 0 rfl) ?_
  refine cg_r hx hb hts h_iX1 hown hC hs 3 (by decide) h_f36 dX1_holdFunerals_1 ?_
  refine lv_astore_n (lv' := [(1, .ref (a (17*s+(3+1)))), (0, .ref (a (17*s+0)))]) hx hb dX1_holdFunerals_4 rfl hl (by decide) rfl ?_
  clear hl; intro ls hl
  refine lv_aload_n hx hb dX1_holdFunerals_5 rfl (lv_at hl 0 rfl) ?_
  refine c_mlen hx hb hC hs dX1_holdFunerals_6 ?_
  refine lv_istore_n (lv' := [(2, .int (12 : Int32)), (1, .ref (a (17*s+(3+1)))), (0, .ref (a (17*s+0)))]) hx hb dX1_holdFunerals_7 rfl hl (by decide) rfl ?_
  clear hl; intro ls hl
  refine lv_iconst (v := 0) hx hb dX1_holdFunerals_8 (by decide) ?_
  refine lv_istore_n (lv' := [(3, .int (0 : Int32)), (2, .int (12 : Int32)), (1, .ref (a (17*s+(3+1)))), (0, .ref (a (17*s+0)))]) hx hb dX1_holdFunerals_9 rfl hl (by decide) rfl ?_
  clear hl; intro ls hl
  have loop1 : ∀ (n1x i1x : Nat) (σL1 : (Nat → Nat → Int32)), i1x + n1x = 12 → itR (fun i x => fX1_holdFunerals_b1 i x) i1x n1x σL1 = itR (fun i x => fX1_holdFunerals_b1 i x) 0 12 σ → ∀ (H : Heap) (locs : List Loc), cB D cI cM a S (cA a sz) S.heap H locs s σL1 ρ → ∀ ls : Array Slot, lv_has ls 5 [(3, .int (nI i1x)), (2, .int (12 : Int32)), (1, .ref (a (17*s+(3+1)))), (0, .ref (a (17*s+0)))] → W p l e (headSpec wsX1_holdFunerals rmX1_holdFunerals).room S m [.ref (a (17*s+0))].toArray below meth c H locs 0 0 (MQ below (va_Qv (fun (_ : Unit) => True) (cPost D cI cM a s (fX1_holdFunerals σ) ρ) (cA a sz)) [.ref (a (17*s+0))].toArray S 0 0 (cA a sz)) (F0 m 10 ls []) := by
    clear hC hl
    intro n1x
    induction n1x with
    | zero =>
      intro i1x σL1 hin1 hX1 H locs hC ls hl
      obtain rfl : 12 = i1x := by omega
      refine lv_iload_n hx hb dX1_holdFunerals_10 rfl (lv_at hl 0 rfl) ?_
      refine lv_iload_n hx hb dX1_holdFunerals_11 rfl (lv_at hl 1 rfl) ?_
      refine lv_icmp_ge (tgt := 40) hx hb dX1_holdFunerals_12 (by decide) (fun c4 => ?_) (fun c4 => absurd (by decide) c4)
      have e : fX1_holdFunerals σ = σL1 := by exact ((congrArg (fun x => fX1_holdFunerals_k1 x) hX1.symm).trans rfl)
      exact c_vret hx hb hr hlocks hC dX1_holdFunerals_40 (by rw [e])
    | succ n1x ih1 =>
      intro i1x σL1 hin1 hX1 H locs hC ls hl
      refine lv_iload_n hx hb dX1_holdFunerals_10 rfl (lv_at hl 0 rfl) ?_
      refine lv_iload_n hx hb dX1_holdFunerals_11 rfl (lv_at hl 1 rfl) ?_
      refine lv_icmp_ge (tgt := 40) hx hb dX1_holdFunerals_12 (by decide) (fun c1 => absurd c1 (show ¬ (12 : Int32) ≤ nI i1x from (nI_ge (a := i1x) (b := 12) (by omega) (by decide) : ¬ nI 12 ≤ nI i1x))) (fun c1 => ?_)
      refine lv_aload_n hx hb dX1_holdFunerals_15 rfl (lv_at hl 2 rfl) ?_
      refine lv_iload_n hx hb dX1_holdFunerals_16 rfl (lv_at hl 0 rfl) ?_
      refine c_mld hx hb hC hs (j := i1x) rfl (show _ < 12 by omega) dX1_holdFunerals_17 ?_
      refine lv_astore (lv' := [(4, .ref (a (17*s+(i1x+5)))), (3, .int (nI i1x)), (2, .int (12 : Int32)), (1, .ref (a (17*s+(3+1)))), (0, .ref (a (17*s+0)))]) hx hb dX1_holdFunerals_18 hl (by decide) rfl ?_
      clear hl; intro ls hl
      refine lv_aload hx hb dX1_holdFunerals_20 (lv_at hl 0 rfl) ?_
      refine cg_m hx hb hts h_iX0 hown hC hs (show _ < 12 by omega) 9 (by decide) h_f176 dX1_holdFunerals_22 ?_
      refine lv_if_eq (tgt := 34) hx hb dX1_holdFunerals_25 (by decide) (fun c2 => ?_) (fun c2 => ?_)
      · refine lv_iinc (v := (nI (i1x + 1))) (lv' := [(3, .int (nI (i1x + 1))), (4, .ref (a (17*s+(i1x+5)))), (2, .int (12 : Int32)), (1, .ref (a (17*s+(3+1)))), (0, .ref (a (17*s+0)))]) hx hb dX1_holdFunerals_34 hl (k := 1) rfl (nI_1 i1x) (by decide) rfl ?_
        clear hl; intro ls hl
        refine lv_goto (tgt := 10) hx hb dX1_holdFunerals_37 (by decide) ?_
        have e : fX1_holdFunerals_b1 i1x σL1 = σL1 := by exact ((if_pos c2).trans rfl)
        exact ih1 (i1x + 1) σL1 (by omega) (by rw [← e]; exact hX1) _ _ hC ls (lv_sub hl [0, 2, 3, 4] rfl)
      · refine lv_aload_n hx hb dX1_holdFunerals_28 rfl (lv_at hl 4 rfl) ?_
        refine lv_aload hx hb dX1_holdFunerals_29 (lv_at hl 0 rfl) ?_
        refine c_iVv (n := 1) hF (c_X1_bury l D cI cM a s σL1 ρ hs i1x (show _ < 12 by omega) ) gX1_holdFunerals_X1_bury rfl rfl rfl (by decide +kernel) ⟨Nat.le_of_ble_eq_true rfl, Nat.le_of_ble_eq_true rfl⟩ hC hA (hC.recvS hs) rfl hl.1 rfl (Nat.le_of_ble_eq_true rfl) dX1_holdFunerals_31 ⟨Nat.zero_le _, Nat.zero_le _⟩ ?_
        clear hC; intro H locs σ3 eσ3 hC
        refine lv_iinc (v := (nI (i1x + 1))) (lv' := [(3, .int (nI (i1x + 1))), (4, .ref (a (17*s+(i1x+5)))), (2, .int (12 : Int32)), (1, .ref (a (17*s+(3+1)))), (0, .ref (a (17*s+0)))]) hx hb dX1_holdFunerals_34 hl (k := 1) rfl (nI_1 i1x) (by decide) rfl ?_
        clear hl; intro ls hl
        refine lv_goto (tgt := 10) hx hb dX1_holdFunerals_37 (by decide) ?_
        have e : fX1_holdFunerals_b1 i1x σL1 = σ3 := by subst eσ3; exact ((if_neg c2).trans rfl)
        exact ih1 (i1x + 1) σ3 (by omega) (by rw [← e]; exact hX1) _ _ hC ls (lv_sub hl [0, 2, 3, 4] rfl)
  exact loop1 12 0 σ (by omega) rfl _ _ hC ls (lv_sub hl [0, 1, 2, 3] rfl)
abbrev rmX1_takeDues : Room := { frames := 2, cells := 0, slots := 0, locals := 35 }
def fX1_takeDues_b1 (i1x : Nat) (σL1 : (Nat → Nat → Int32)) : (Nat → Nat → Int32) :=
    if (σL1 (i1x+5) 6) = 0 then
      let σ3 : (Nat → Nat → Int32) := (fX0_payDues σL1 i1x (σL1 0 6)).2
      let σ4 : (Nat → Nat → Int32) := up2 σ3 0 2 ((σL1 0 2) + (fX0_payDues σL1 i1x (σL1 0 6)).1)
      σ4
    else
      σL1
def fX1_takeDues_k1 (σL1 : (Nat → Nat → Int32)) : (Nat → Nat → Int32) :=
    σL1
def fX1_takeDues (σ : (Nat → Nat → Int32)) : (Nat → Nat → Int32) :=
    (fun x => fX1_takeDues_k1 x) (itR (fun i x => fX1_takeDues_b1 i x) 0 12 σ)
set_option maxHeartbeats 400000 in
set_option maxRecDepth 100000 in
theorem c_X1_takeDues (l : Launch) (D : va_G) (cI cM : ClassId) (a : Nat → Nat) (s : Nat) (σ ρ : (Nat → Nat → Int32)) (hs : s < 2)  : cMv l yX1_takeDues wsX1_takeDues rmX1_takeDues D cI cM a [.ref (a (17*s+0))] s σ ρ (fX1_takeDues σ) := by
  intro sz
  refine c_head (cc := cX1_takeDues) (maxL := 5) (ret := none) (plainFor_of_name (by decide)) rfl (Nat.le_of_ble_eq_true rfl) ?_
  intro p e S m below meth c hx hb hr hml hown hts hlocks hnm hsz hA hC ls hl
  have hF : CallFix p m c cX1_takeDues 5 S [.ref (a (17*s+0))].toArray wsX1_takeDues RX1 := ⟨hx, hb, hml, hown, hts⟩
  have h_f36 : (Cond.fieldLink RX1 36 "CombersSociety$Society" "members" "[LCombersSociety$Member;").before [.ref (a (17*s+0))].toArray S = true := hts _ (by decide +kernel)
  have h_iX1 : ∀ w ∈ u_ws RX1 TX1 14, w ∈ wsX1_takeDues := by decide +kernel
  have h_f60 : (Cond.fieldLink RX1 60 "CombersSociety$Member" "health" "I").before [.ref (a (17*s+0))].toArray S = true := hts _ (by decide +kernel)
  have h_iX0 : ∀ w ∈ u_ws RX0 TX0 10, w ∈ wsX1_takeDues := by decide +kernel
  have h_f9 : (Cond.fieldLink RX1 9 "CombersSociety$Society" "box" "I").before [.ref (a (17*s+0))].toArray S = true := hts _ (by decide +kernel)
  have h_f21 : (Cond.fieldLink RX1 21 "CombersSociety$Society" "dues" "I").before [.ref (a (17*s+0))].toArray S = true := hts _ (by decide +kernel)
  have hl : lv_has ls 5 [(0, .ref (a (17*s+0)))] := hl
  refine lv_aload_n hx hb dX1_takeDues_0 rfl (lv_at hl 0 rfl) ?_
  refine cg_r hx hb hts h_iX1 hown hC hs 3 (by decide) h_f36 dX1_takeDues_1 ?_
  refine lv_astore_n (lv' := [(1, .ref (a (17*s+(3+1)))), (0, .ref (a (17*s+0)))]) hx hb dX1_takeDues_4 rfl hl (by decide) rfl ?_
  clear hl; intro ls hl
  refine lv_aload_n hx hb dX1_takeDues_5 rfl (lv_at hl 0 rfl) ?_
  refine c_mlen hx hb hC hs dX1_takeDues_6 ?_
  refine lv_istore_n (lv' := [(2, .int (12 : Int32)), (1, .ref (a (17*s+(3+1)))), (0, .ref (a (17*s+0)))]) hx hb dX1_takeDues_7 rfl hl (by decide) rfl ?_
  clear hl; intro ls hl
  refine lv_iconst (v := 0) hx hb dX1_takeDues_8 (by decide) ?_
  refine lv_istore_n (lv' := [(3, .int (0 : Int32)), (2, .int (12 : Int32)), (1, .ref (a (17*s+(3+1)))), (0, .ref (a (17*s+0)))]) hx hb dX1_takeDues_9 rfl hl (by decide) rfl ?_
  clear hl; intro ls hl
  have loop1 : ∀ (n1x i1x : Nat) (σL1 : (Nat → Nat → Int32)), i1x + n1x = 12 → itR (fun i x => fX1_takeDues_b1 i x) i1x n1x σL1 = itR (fun i x => fX1_takeDues_b1 i x) 0 12 σ → ∀ (H : Heap) (locs : List Loc), cB D cI cM a S (cA a sz) S.heap H locs s σL1 ρ → ∀ ls : Array Slot, lv_has ls 5 [(3, .int (nI i1x)), (2, .int (12 : Int32)), (1, .ref (a (17*s+(3+1)))), (0, .ref (a (17*s+0)))] → W p l e (headSpec wsX1_takeDues rmX1_takeDues).room S m [.ref (a (17*s+0))].toArray below meth c H locs 0 0 (MQ below (va_Qv (fun (_ : Unit) => True) (cPost D cI cM a s (fX1_takeDues σ) ρ) (cA a sz)) [.ref (a (17*s+0))].toArray S 0 0 (cA a sz)) (F0 m 10 ls []) := by
    clear hC hl
    intro n1x
    induction n1x with
    | zero =>
      intro i1x σL1 hin1 hX1 H locs hC ls hl
      obtain rfl : 12 = i1x := by omega
      refine lv_iload_n hx hb dX1_takeDues_10 rfl (lv_at hl 0 rfl) ?_
      refine lv_iload_n hx hb dX1_takeDues_11 rfl (lv_at hl 1 rfl) ?_
      refine lv_icmp_ge (tgt := 52) hx hb dX1_takeDues_12 (by decide) (fun c5 => ?_) (fun c5 => absurd (by decide) c5)
      have e : fX1_takeDues σ = σL1 := by exact ((congrArg (fun x => fX1_takeDues_k1 x) hX1.symm).trans rfl)
      exact c_vret hx hb hr hlocks hC dX1_takeDues_52 (by rw [e])
    | succ n1x ih1 =>
      intro i1x σL1 hin1 hX1 H locs hC ls hl
      refine lv_iload_n hx hb dX1_takeDues_10 rfl (lv_at hl 0 rfl) ?_
      refine lv_iload_n hx hb dX1_takeDues_11 rfl (lv_at hl 1 rfl) ?_
      refine lv_icmp_ge (tgt := 52) hx hb dX1_takeDues_12 (by decide) (fun c1 => absurd c1 (show ¬ (12 : Int32) ≤ nI i1x from (nI_ge (a := i1x) (b := 12) (by omega) (by decide) : ¬ nI 12 ≤ nI i1x))) (fun c1 => ?_)
      refine lv_aload_n hx hb dX1_takeDues_15 rfl (lv_at hl 2 rfl) ?_
      refine lv_iload_n hx hb dX1_takeDues_16 rfl (lv_at hl 0 rfl) ?_
      refine c_mld hx hb hC hs (j := i1x) rfl (show _ < 12 by omega) dX1_takeDues_17 ?_
      refine lv_astore (lv' := [(4, .ref (a (17*s+(i1x+5)))), (3, .int (nI i1x)), (2, .int (12 : Int32)), (1, .ref (a (17*s+(3+1)))), (0, .ref (a (17*s+0)))]) hx hb dX1_takeDues_18 hl (by decide) rfl ?_
      clear hl; intro ls hl
      refine lv_aload hx hb dX1_takeDues_20 (lv_at hl 0 rfl) ?_
      refine cg_m hx hb hts h_iX0 hown hC hs (show _ < 12 by omega) 6 (by decide) h_f60 dX1_takeDues_22 ?_
      refine lv_if_ne (tgt := 46) hx hb dX1_takeDues_25 (by decide) (fun c2 => ?_) (fun c2 => ?_)
      · refine lv_iinc (v := (nI (i1x + 1))) (lv' := [(3, .int (nI (i1x + 1))), (4, .ref (a (17*s+(i1x+5)))), (2, .int (12 : Int32)), (1, .ref (a (17*s+(3+1)))), (0, .ref (a (17*s+0)))]) hx hb dX1_takeDues_46 hl (k := 1) rfl (nI_1 i1x) (by decide) rfl ?_
        clear hl; intro ls hl
        refine lv_goto (tgt := 10) hx hb dX1_takeDues_49 (by decide) ?_
        have e : fX1_takeDues_b1 i1x σL1 = σL1 := by exact ((if_neg c2).trans rfl)
        exact ih1 (i1x + 1) σL1 (by omega) (by rw [← e]; exact hX1) _ _ hC ls (lv_sub hl [0, 2, 3, 4] rfl)
      · refine lv_aload_n hx hb dX1_takeDues_28 rfl (lv_at hl 4 rfl) ?_
        refine lv_dup hx hb dX1_takeDues_29 rfl ?_
        refine cg_s hx hb hts h_iX1 hown hC hs 2 (by decide) h_f9 dX1_takeDues_30 ?_
        refine lv_aload hx hb dX1_takeDues_33 (lv_at hl 0 rfl) ?_
        refine lv_aload_n hx hb dX1_takeDues_35 rfl (lv_at hl 4 rfl) ?_
        refine cg_s hx hb hts h_iX1 hown hC hs 6 (by decide) h_f21 dX1_takeDues_36 ?_
        refine c_iVi (n := 1) hF (c_X0_payDues l D cI cM a s σL1 ρ hs i1x (show _ < 12 by omega) (σL1 0 6) ) gX1_takeDues_X0_payDues rfl rfl rfl (by decide +kernel) ⟨Nat.le_of_ble_eq_true rfl, Nat.le_of_ble_eq_true rfl⟩ hC hA (hC.recvM hs (show _ < 12 by omega)) rfl hl.1 rfl (Nat.le_of_ble_eq_true rfl) dX1_takeDues_39 ⟨Nat.zero_le _, Nat.zero_le _⟩ ?_
        clear hC; intro H locs σ3 eσ3 hC
        refine lv_iadd hx hb dX1_takeDues_42 ?_
        refine cp_s hx hb hts h_iX1 hown hC hs 2 (by decide) h_f9 dX1_takeDues_43 ?_
        clear hC; intro H locs σ4 eσ4 hC
        refine lv_iinc (v := (nI (i1x + 1))) (lv' := [(3, .int (nI (i1x + 1))), (4, .ref (a (17*s+(i1x+5)))), (2, .int (12 : Int32)), (1, .ref (a (17*s+(3+1)))), (0, .ref (a (17*s+0)))]) hx hb dX1_takeDues_46 hl (k := 1) rfl (nI_1 i1x) (by decide) rfl ?_
        clear hl; intro ls hl
        refine lv_goto (tgt := 10) hx hb dX1_takeDues_49 (by decide) ?_
        have e : fX1_takeDues_b1 i1x σL1 = σ4 := by subst eσ3 eσ4; exact ((if_pos c2).trans rfl)
        exact ih1 (i1x + 1) σ4 (by omega) (by rw [← e]; exact hX1) _ _ hC ls (lv_sub hl [0, 2, 3, 4] rfl)
  exact loop1 12 0 σ (by omega) rfl _ _ hC ls (lv_sub hl [0, 1, 2, 3] rfl)
abbrev rmX1_holdClubNight : Room := { frames := 3, cells := 0, slots := 0, locals := 55 }
def fX1_holdClubNight_b1 (i1x : Nat) (σL1 : (Nat → Nat → Int32)) : (Nat → Nat → Int32) :=
    if (σL1 (i1x+5) 6) = 0 then
      let σ3 : (Nat → Nat → Int32) := (fX0_spendClubNight σL1 i1x).2
      let σ4 : (Nat → Nat → Int32) := up2 σ3 0 2 ((σL1 0 2) + (fX0_spendClubNight σL1 i1x).1)
      σ4
    else
      σL1
def fX1_holdClubNight_k1 (σL1 : (Nat → Nat → Int32)) : (Nat → Nat → Int32) :=
    σL1
def fX1_holdClubNight (σ : (Nat → Nat → Int32)) : (Nat → Nat → Int32) :=
    (fun x => fX1_holdClubNight_k1 x) (itR (fun i x => fX1_holdClubNight_b1 i x) 0 12 σ)
set_option maxHeartbeats 400000 in
set_option maxRecDepth 100000 in
theorem c_X1_holdClubNight (l : Launch) (D : va_G) (cI cM : ClassId) (a : Nat → Nat) (s : Nat) (σ ρ : (Nat → Nat → Int32)) (hs : s < 2)  : cMv l yX1_holdClubNight wsX1_holdClubNight rmX1_holdClubNight D cI cM a [.ref (a (17*s+0))] s σ ρ (fX1_holdClubNight σ) := by
  intro sz
  refine c_head (cc := cX1_holdClubNight) (maxL := 5) (ret := none) (plainFor_of_name (by decide)) rfl (Nat.le_of_ble_eq_true rfl) ?_
  intro p e S m below meth c hx hb hr hml hown hts hlocks hnm hsz hA hC ls hl
  have hF : CallFix p m c cX1_holdClubNight 5 S [.ref (a (17*s+0))].toArray wsX1_holdClubNight RX1 := ⟨hx, hb, hml, hown, hts⟩
  have h_f36 : (Cond.fieldLink RX1 36 "CombersSociety$Society" "members" "[LCombersSociety$Member;").before [.ref (a (17*s+0))].toArray S = true := hts _ (by decide +kernel)
  have h_iX1 : ∀ w ∈ u_ws RX1 TX1 14, w ∈ wsX1_holdClubNight := by decide +kernel
  have h_f60 : (Cond.fieldLink RX1 60 "CombersSociety$Member" "health" "I").before [.ref (a (17*s+0))].toArray S = true := hts _ (by decide +kernel)
  have h_iX0 : ∀ w ∈ u_ws RX0 TX0 10, w ∈ wsX1_holdClubNight := by decide +kernel
  have h_f9 : (Cond.fieldLink RX1 9 "CombersSociety$Society" "box" "I").before [.ref (a (17*s+0))].toArray S = true := hts _ (by decide +kernel)
  have hl : lv_has ls 5 [(0, .ref (a (17*s+0)))] := hl
  refine lv_aload_n hx hb dX1_holdClubNight_0 rfl (lv_at hl 0 rfl) ?_
  refine cg_r hx hb hts h_iX1 hown hC hs 3 (by decide) h_f36 dX1_holdClubNight_1 ?_
  refine lv_astore_n (lv' := [(1, .ref (a (17*s+(3+1)))), (0, .ref (a (17*s+0)))]) hx hb dX1_holdClubNight_4 rfl hl (by decide) rfl ?_
  clear hl; intro ls hl
  refine lv_aload_n hx hb dX1_holdClubNight_5 rfl (lv_at hl 0 rfl) ?_
  refine c_mlen hx hb hC hs dX1_holdClubNight_6 ?_
  refine lv_istore_n (lv' := [(2, .int (12 : Int32)), (1, .ref (a (17*s+(3+1)))), (0, .ref (a (17*s+0)))]) hx hb dX1_holdClubNight_7 rfl hl (by decide) rfl ?_
  clear hl; intro ls hl
  refine lv_iconst (v := 0) hx hb dX1_holdClubNight_8 (by decide) ?_
  refine lv_istore_n (lv' := [(3, .int (0 : Int32)), (2, .int (12 : Int32)), (1, .ref (a (17*s+(3+1)))), (0, .ref (a (17*s+0)))]) hx hb dX1_holdClubNight_9 rfl hl (by decide) rfl ?_
  clear hl; intro ls hl
  have loop1 : ∀ (n1x i1x : Nat) (σL1 : (Nat → Nat → Int32)), i1x + n1x = 12 → itR (fun i x => fX1_holdClubNight_b1 i x) i1x n1x σL1 = itR (fun i x => fX1_holdClubNight_b1 i x) 0 12 σ → ∀ (H : Heap) (locs : List Loc), cB D cI cM a S (cA a sz) S.heap H locs s σL1 ρ → ∀ ls : Array Slot, lv_has ls 5 [(3, .int (nI i1x)), (2, .int (12 : Int32)), (1, .ref (a (17*s+(3+1)))), (0, .ref (a (17*s+0)))] → W p l e (headSpec wsX1_holdClubNight rmX1_holdClubNight).room S m [.ref (a (17*s+0))].toArray below meth c H locs 0 0 (MQ below (va_Qv (fun (_ : Unit) => True) (cPost D cI cM a s (fX1_holdClubNight σ) ρ) (cA a sz)) [.ref (a (17*s+0))].toArray S 0 0 (cA a sz)) (F0 m 10 ls []) := by
    clear hC hl
    intro n1x
    induction n1x with
    | zero =>
      intro i1x σL1 hin1 hX1 H locs hC ls hl
      obtain rfl : 12 = i1x := by omega
      refine lv_iload_n hx hb dX1_holdClubNight_10 rfl (lv_at hl 0 rfl) ?_
      refine lv_iload_n hx hb dX1_holdClubNight_11 rfl (lv_at hl 1 rfl) ?_
      refine lv_icmp_ge (tgt := 48) hx hb dX1_holdClubNight_12 (by decide) (fun c5 => ?_) (fun c5 => absurd (by decide) c5)
      have e : fX1_holdClubNight σ = σL1 := by exact ((congrArg (fun x => fX1_holdClubNight_k1 x) hX1.symm).trans rfl)
      exact c_vret hx hb hr hlocks hC dX1_holdClubNight_48 (by rw [e])
    | succ n1x ih1 =>
      intro i1x σL1 hin1 hX1 H locs hC ls hl
      refine lv_iload_n hx hb dX1_holdClubNight_10 rfl (lv_at hl 0 rfl) ?_
      refine lv_iload_n hx hb dX1_holdClubNight_11 rfl (lv_at hl 1 rfl) ?_
      refine lv_icmp_ge (tgt := 48) hx hb dX1_holdClubNight_12 (by decide) (fun c1 => absurd c1 (show ¬ (12 : Int32) ≤ nI i1x from (nI_ge (a := i1x) (b := 12) (by omega) (by decide) : ¬ nI 12 ≤ nI i1x))) (fun c1 => ?_)
      refine lv_aload_n hx hb dX1_holdClubNight_15 rfl (lv_at hl 2 rfl) ?_
      refine lv_iload_n hx hb dX1_holdClubNight_16 rfl (lv_at hl 0 rfl) ?_
      refine c_mld hx hb hC hs (j := i1x) rfl (show _ < 12 by omega) dX1_holdClubNight_17 ?_
      refine lv_astore (lv' := [(4, .ref (a (17*s+(i1x+5)))), (3, .int (nI i1x)), (2, .int (12 : Int32)), (1, .ref (a (17*s+(3+1)))), (0, .ref (a (17*s+0)))]) hx hb dX1_holdClubNight_18 hl (by decide) rfl ?_
      clear hl; intro ls hl
      refine lv_aload hx hb dX1_holdClubNight_20 (lv_at hl 0 rfl) ?_
      refine cg_m hx hb hts h_iX0 hown hC hs (show _ < 12 by omega) 6 (by decide) h_f60 dX1_holdClubNight_22 ?_
      refine lv_if_ne (tgt := 42) hx hb dX1_holdClubNight_25 (by decide) (fun c2 => ?_) (fun c2 => ?_)
      · refine lv_iinc (v := (nI (i1x + 1))) (lv' := [(3, .int (nI (i1x + 1))), (4, .ref (a (17*s+(i1x+5)))), (2, .int (12 : Int32)), (1, .ref (a (17*s+(3+1)))), (0, .ref (a (17*s+0)))]) hx hb dX1_holdClubNight_42 hl (k := 1) rfl (nI_1 i1x) (by decide) rfl ?_
        clear hl; intro ls hl
        refine lv_goto (tgt := 10) hx hb dX1_holdClubNight_45 (by decide) ?_
        have e : fX1_holdClubNight_b1 i1x σL1 = σL1 := by exact ((if_neg c2).trans rfl)
        exact ih1 (i1x + 1) σL1 (by omega) (by rw [← e]; exact hX1) _ _ hC ls (lv_sub hl [0, 2, 3, 4] rfl)
      · refine lv_aload_n hx hb dX1_holdClubNight_28 rfl (lv_at hl 4 rfl) ?_
        refine lv_dup hx hb dX1_holdClubNight_29 rfl ?_
        refine cg_s hx hb hts h_iX1 hown hC hs 2 (by decide) h_f9 dX1_holdClubNight_30 ?_
        refine lv_aload hx hb dX1_holdClubNight_33 (lv_at hl 0 rfl) ?_
        refine c_iVi (n := 0) hF (c_X0_spendClubNight l D cI cM a s σL1 ρ hs i1x (show _ < 12 by omega) ) gX1_holdClubNight_X0_spendClubNight rfl rfl rfl (by decide +kernel) ⟨Nat.le_of_ble_eq_true rfl, Nat.le_of_ble_eq_true rfl⟩ hC hA (hC.recvM hs (show _ < 12 by omega)) rfl hl.1 rfl (Nat.le_of_ble_eq_true rfl) dX1_holdClubNight_35 ⟨Nat.zero_le _, Nat.zero_le _⟩ ?_
        clear hC; intro H locs σ3 eσ3 hC
        refine lv_iadd hx hb dX1_holdClubNight_38 ?_
        refine cp_s hx hb hts h_iX1 hown hC hs 2 (by decide) h_f9 dX1_holdClubNight_39 ?_
        clear hC; intro H locs σ4 eσ4 hC
        refine lv_iinc (v := (nI (i1x + 1))) (lv' := [(3, .int (nI (i1x + 1))), (4, .ref (a (17*s+(i1x+5)))), (2, .int (12 : Int32)), (1, .ref (a (17*s+(3+1)))), (0, .ref (a (17*s+0)))]) hx hb dX1_holdClubNight_42 hl (k := 1) rfl (nI_1 i1x) (by decide) rfl ?_
        clear hl; intro ls hl
        refine lv_goto (tgt := 10) hx hb dX1_holdClubNight_45 (by decide) ?_
        have e : fX1_holdClubNight_b1 i1x σL1 = σ4 := by subst eσ3 eσ4; exact ((if_pos c2).trans rfl)
        exact ih1 (i1x + 1) σ4 (by omega) (by rw [← e]; exact hX1) _ _ hC ls (lv_sub hl [0, 2, 3, 4] rfl)
  exact loop1 12 0 σ (by omega) rfl _ _ hC ls (lv_sub hl [0, 1, 2, 3] rfl)
abbrev rmX1_spreadFever : Room := { frames := 1, cells := 0, slots := 0, locals := 22 }
def fX1_spreadFever_b1 (σ : (Nat → Nat → Int32)) (i1x : Nat) (σL1 : (Nat → Nat → Int32)) : (Nat → Nat → Int32) :=
    if (fX0_combs σL1 i1x) = 0 then
      σL1
    else
      if (σL1 (i1x+5) 5) = (σ 1 ((fJ9_floorMod_7cf53 (σ 0 0) (8 : Int32))).toNatClampNeg) then
        let σ4 : (Nat → Nat → Int32) := (fX0_fallSick σL1 i1x)
        σ4
      else
        σL1
def fX1_spreadFever_k1 (σL1 : (Nat → Nat → Int32)) : (Nat → Nat → Int32) :=
    σL1
def fX1_spreadFever (σ : (Nat → Nat → Int32)) : (Nat → Nat → Int32) :=
    (fun x => fX1_spreadFever_k1 x) (itR (fun i x => fX1_spreadFever_b1 σ i x) 0 12 σ)
set_option maxHeartbeats 400000 in
set_option maxRecDepth 100000 in
theorem c_X1_spreadFever (l : Launch) (D : va_G) (cI cM : ClassId) (a : Nat → Nat) (s : Nat) (σ ρ : (Nat → Nat → Int32)) (hs : s < 2)  : cMv l yX1_spreadFever wsX1_spreadFever rmX1_spreadFever D cI cM a [.ref (a (17*s+0))] s σ ρ (fX1_spreadFever σ) := by
  intro sz
  refine c_head (cc := cX1_spreadFever) (maxL := 6) (ret := none) (plainFor_of_name (by decide)) rfl (Nat.le_of_ble_eq_true rfl) ?_
  intro p e S m below meth c hx hb hr hml hown hts hlocks hnm hsz hA hC ls hl
  have hF : CallFix p m c cX1_spreadFever 6 S [.ref (a (17*s+0))].toArray wsX1_spreadFever RX1 := ⟨hx, hb, hml, hown, hts⟩
  have h_f24 : (Cond.fieldLink RX1 24 "CombersSociety$Society" "fevers" "[I").before [.ref (a (17*s+0))].toArray S = true := hts _ (by decide +kernel)
  have h_iX1 : ∀ w ∈ u_ws RX1 TX1 14, w ∈ wsX1_spreadFever := by decide +kernel
  have h_f41 : (Cond.fieldLink RX1 41 "CombersSociety$Society" "week" "I").before [.ref (a (17*s+0))].toArray S = true := hts _ (by decide +kernel)
  have h_f36 : (Cond.fieldLink RX1 36 "CombersSociety$Society" "members" "[LCombersSociety$Member;").before [.ref (a (17*s+0))].toArray S = true := hts _ (by decide +kernel)
  have h_f63 : (Cond.fieldLink RX1 63 "CombersSociety$Member" "pot" "I").before [.ref (a (17*s+0))].toArray S = true := hts _ (by decide +kernel)
  have h_iX0 : ∀ w ∈ u_ws RX0 TX0 10, w ∈ wsX1_spreadFever := by decide +kernel
  have hl : lv_has ls 6 [(0, .ref (a (17*s+0)))] := hl
  refine lv_aload_n hx hb dX1_spreadFever_0 rfl (lv_at hl 0 rfl) ?_
  refine cg_r hx hb hts h_iX1 hown hC hs 0 (by decide) h_f24 dX1_spreadFever_1 ?_
  refine lv_aload_n hx hb dX1_spreadFever_4 rfl (lv_at hl 0 rfl) ?_
  refine cg_s hx hb hts h_iX1 hown hC hs 0 (by decide) h_f41 dX1_spreadFever_5 ?_
  refine lv_bipush (v := 8) hx hb dX1_spreadFever_8 (by decide) ?_
  refine c_iSi (n := 2) hF (c_J9_floorMod_7cf53 l D cI cM a s σ ρ (σ 0 0) (8 : Int32) (by decide)) gX1_spreadFever_J9_floorMod_7cf53 rfl rfl rfl (by decide +kernel) ⟨Nat.le_of_ble_eq_true rfl, Nat.le_of_ble_eq_true rfl⟩ hC hA rfl hl.1 rfl (Nat.le_of_ble_eq_true rfl) dX1_spreadFever_10 ⟨Nat.zero_le _, Nat.zero_le _⟩ ?_
  clear hC; intro H locs hC
  refine c_ild hx hb hC hs 1 (by decide) (by decide) (j := ((fJ9_floorMod_7cf53 (σ 0 0) (8 : Int32))).toNatClampNeg) (fm_ix _).1 (fm_ix _).2 dX1_spreadFever_13 ?_
  refine lv_istore_n (lv' := [(1, .int (σ 1 ((fJ9_floorMod_7cf53 (σ 0 0) (8 : Int32))).toNatClampNeg)), (0, .ref (a (17*s+0)))]) hx hb dX1_spreadFever_14 rfl hl (by decide) rfl ?_
  clear hl; intro ls hl
  refine lv_aload_n hx hb dX1_spreadFever_15 rfl (lv_at hl 1 rfl) ?_
  refine cg_r hx hb hts h_iX1 hown hC hs 3 (by decide) h_f36 dX1_spreadFever_16 ?_
  refine lv_astore_n (lv' := [(2, .ref (a (17*s+(3+1)))), (1, .int (σ 1 ((fJ9_floorMod_7cf53 (σ 0 0) (8 : Int32))).toNatClampNeg)), (0, .ref (a (17*s+0)))]) hx hb dX1_spreadFever_19 rfl hl (by decide) rfl ?_
  clear hl; intro ls hl
  refine lv_aload_n hx hb dX1_spreadFever_20 rfl (lv_at hl 0 rfl) ?_
  refine c_mlen hx hb hC hs dX1_spreadFever_21 ?_
  refine lv_istore_n (lv' := [(3, .int (12 : Int32)), (2, .ref (a (17*s+(3+1)))), (1, .int (σ 1 ((fJ9_floorMod_7cf53 (σ 0 0) (8 : Int32))).toNatClampNeg)), (0, .ref (a (17*s+0)))]) hx hb dX1_spreadFever_22 rfl hl (by decide) rfl ?_
  clear hl; intro ls hl
  refine lv_iconst (v := 0) hx hb dX1_spreadFever_23 (by decide) ?_
  refine lv_istore (lv' := [(4, .int (0 : Int32)), (3, .int (12 : Int32)), (2, .ref (a (17*s+(3+1)))), (1, .int (σ 1 ((fJ9_floorMod_7cf53 (σ 0 0) (8 : Int32))).toNatClampNeg)), (0, .ref (a (17*s+0)))]) hx hb dX1_spreadFever_24 hl (by decide) rfl ?_
  clear hl; intro ls hl
  have loop1 : ∀ (n1x i1x : Nat) (σL1 : (Nat → Nat → Int32)), i1x + n1x = 12 → itR (fun i x => fX1_spreadFever_b1 σ i x) i1x n1x σL1 = itR (fun i x => fX1_spreadFever_b1 σ i x) 0 12 σ → ∀ (H : Heap) (locs : List Loc), cB D cI cM a S (cA a sz) S.heap H locs s σL1 ρ → ∀ ls : Array Slot, lv_has ls 6 [(4, .int (nI i1x)), (3, .int (12 : Int32)), (2, .ref (a (17*s+(3+1)))), (1, .int (σ 1 ((fJ9_floorMod_7cf53 (σ 0 0) (8 : Int32))).toNatClampNeg)), (0, .ref (a (17*s+0)))] → W p l e (headSpec wsX1_spreadFever rmX1_spreadFever).room S m [.ref (a (17*s+0))].toArray below meth c H locs 0 0 (MQ below (va_Qv (fun (_ : Unit) => True) (cPost D cI cM a s (fX1_spreadFever σ) ρ) (cA a sz)) [.ref (a (17*s+0))].toArray S 0 0 (cA a sz)) (F0 m 26 ls []) := by
    clear hC hl
    intro n1x
    induction n1x with
    | zero =>
      intro i1x σL1 hin1 hX1 H locs hC ls hl
      obtain rfl : 12 = i1x := by omega
      refine lv_iload hx hb dX1_spreadFever_26 (lv_at hl 0 rfl) ?_
      refine lv_iload_n hx hb dX1_spreadFever_28 rfl (lv_at hl 1 rfl) ?_
      refine lv_icmp_ge (tgt := 66) hx hb dX1_spreadFever_29 (by decide) (fun c5 => ?_) (fun c5 => absurd (by decide) c5)
      have e : fX1_spreadFever σ = σL1 := by exact ((congrArg (fun x => fX1_spreadFever_k1 x) hX1.symm).trans rfl)
      exact c_vret hx hb hr hlocks hC dX1_spreadFever_66 (by rw [e])
    | succ n1x ih1 =>
      intro i1x σL1 hin1 hX1 H locs hC ls hl
      refine lv_iload hx hb dX1_spreadFever_26 (lv_at hl 0 rfl) ?_
      refine lv_iload_n hx hb dX1_spreadFever_28 rfl (lv_at hl 1 rfl) ?_
      refine lv_icmp_ge (tgt := 66) hx hb dX1_spreadFever_29 (by decide) (fun c1 => absurd c1 (show ¬ (12 : Int32) ≤ nI i1x from (nI_ge (a := i1x) (b := 12) (by omega) (by decide) : ¬ nI 12 ≤ nI i1x))) (fun c1 => ?_)
      refine lv_aload_n hx hb dX1_spreadFever_32 rfl (lv_at hl 2 rfl) ?_
      refine lv_iload hx hb dX1_spreadFever_33 (lv_at hl 0 rfl) ?_
      refine c_mld hx hb hC hs (j := i1x) rfl (show _ < 12 by omega) dX1_spreadFever_35 ?_
      refine lv_astore (lv' := [(5, .ref (a (17*s+(i1x+5)))), (4, .int (nI i1x)), (3, .int (12 : Int32)), (2, .ref (a (17*s+(3+1)))), (1, .int (σ 1 ((fJ9_floorMod_7cf53 (σ 0 0) (8 : Int32))).toNatClampNeg)), (0, .ref (a (17*s+0)))]) hx hb dX1_spreadFever_36 hl (by decide) rfl ?_
      clear hl; intro ls hl
      refine lv_aload hx hb dX1_spreadFever_38 (lv_at hl 0 rfl) ?_
      refine c_iVp (n := 0) hF (c_X0_combs l D cI cM a s σL1 ρ hs i1x (show _ < 12 by omega) ) gX1_spreadFever_X0_combs rfl rfl rfl (by decide +kernel) ⟨Nat.le_of_ble_eq_true rfl, Nat.le_of_ble_eq_true rfl⟩ hC hA (hC.recvM hs (show _ < 12 by omega)) rfl hl.1 rfl (Nat.le_of_ble_eq_true rfl) dX1_spreadFever_40 ⟨Nat.zero_le _, Nat.zero_le _⟩ ?_
      clear hC; intro H locs hC
      refine lv_if_eq (tgt := 60) hx hb dX1_spreadFever_43 (by decide) (fun c2 => ?_) (fun c2 => ?_)
      · refine lv_iinc (v := (nI (i1x + 1))) (lv' := [(4, .int (nI (i1x + 1))), (5, .ref (a (17*s+(i1x+5)))), (3, .int (12 : Int32)), (2, .ref (a (17*s+(3+1)))), (1, .int (σ 1 ((fJ9_floorMod_7cf53 (σ 0 0) (8 : Int32))).toNatClampNeg)), (0, .ref (a (17*s+0)))]) hx hb dX1_spreadFever_60 hl (k := 1) rfl (nI_1 i1x) (by decide) rfl ?_
        clear hl; intro ls hl
        refine lv_goto (tgt := 26) hx hb dX1_spreadFever_63 (by decide) ?_
        have e : fX1_spreadFever_b1 σ i1x σL1 = σL1 := by exact ((if_pos c2).trans rfl)
        exact ih1 (i1x + 1) σL1 (by omega) (by rw [← e]; exact hX1) _ _ hC ls (lv_sub hl [0, 2, 3, 4, 5] rfl)
      · refine lv_aload hx hb dX1_spreadFever_46 (lv_at hl 0 rfl) ?_
        refine cg_m hx hb hts h_iX0 hown hC hs (show _ < 12 by omega) 5 (by decide) h_f63 dX1_spreadFever_48 ?_
        refine lv_iload_n hx hb dX1_spreadFever_51 rfl (lv_at hl 4 rfl) ?_
        refine lv_icmp_ne (tgt := 60) hx hb dX1_spreadFever_52 (by decide) (fun c3 => ?_) (fun c3 => ?_)
        · refine lv_iinc (v := (nI (i1x + 1))) (lv' := [(4, .int (nI (i1x + 1))), (5, .ref (a (17*s+(i1x+5)))), (3, .int (12 : Int32)), (2, .ref (a (17*s+(3+1)))), (1, .int (σ 1 ((fJ9_floorMod_7cf53 (σ 0 0) (8 : Int32))).toNatClampNeg)), (0, .ref (a (17*s+0)))]) hx hb dX1_spreadFever_60 hl (k := 1) rfl (nI_1 i1x) (by decide) rfl ?_
          clear hl; intro ls hl
          refine lv_goto (tgt := 26) hx hb dX1_spreadFever_63 (by decide) ?_
          have e : fX1_spreadFever_b1 σ i1x σL1 = σL1 := by exact ((if_neg c2).trans ((if_neg c3).trans rfl))
          exact ih1 (i1x + 1) σL1 (by omega) (by rw [← e]; exact hX1) _ _ hC ls (lv_sub hl [0, 2, 3, 4, 5] rfl)
        · refine lv_aload hx hb dX1_spreadFever_55 (lv_at hl 0 rfl) ?_
          refine c_iVv (n := 0) hF (c_X0_fallSick l D cI cM a s σL1 ρ hs i1x (show _ < 12 by omega) ) gX1_spreadFever_X0_fallSick rfl rfl rfl (by decide +kernel) ⟨Nat.le_of_ble_eq_true rfl, Nat.le_of_ble_eq_true rfl⟩ hC hA (hC.recvM hs (show _ < 12 by omega)) rfl hl.1 rfl (Nat.le_of_ble_eq_true rfl) dX1_spreadFever_57 ⟨Nat.zero_le _, Nat.zero_le _⟩ ?_
          clear hC; intro H locs σ4 eσ4 hC
          refine lv_iinc (v := (nI (i1x + 1))) (lv' := [(4, .int (nI (i1x + 1))), (5, .ref (a (17*s+(i1x+5)))), (3, .int (12 : Int32)), (2, .ref (a (17*s+(3+1)))), (1, .int (σ 1 ((fJ9_floorMod_7cf53 (σ 0 0) (8 : Int32))).toNatClampNeg)), (0, .ref (a (17*s+0)))]) hx hb dX1_spreadFever_60 hl (k := 1) rfl (nI_1 i1x) (by decide) rfl ?_
          clear hl; intro ls hl
          refine lv_goto (tgt := 26) hx hb dX1_spreadFever_63 (by decide) ?_
          have e : fX1_spreadFever_b1 σ i1x σL1 = σ4 := by subst eσ4; exact ((if_neg c2).trans ((if_pos c3).trans rfl))
          exact ih1 (i1x + 1) σ4 (by omega) (by rw [← e]; exact hX1) _ _ hC ls (lv_sub hl [0, 2, 3, 4, 5] rfl)
  exact loop1 12 0 σ (by omega) rfl _ _ hC ls (lv_sub hl [0, 1, 2, 3, 4] rfl)
abbrev rmX1_combWool : Room := { frames := 2, cells := 0, slots := 0, locals := 42 }
def fX1_combWool_b1 (i1x : Nat) (σL1 : (Nat → Nat → Int32)) : (Nat → Nat → Int32) :=
    let σ2 : (Nat → Nat → Int32) := up2 σL1 0 4 ((σL1 0 4) - (mnI (fX1_poundsOf σL1 i1x) (σL1 0 4)))
    let σ3 : (Nat → Nat → Int32) := up2 σ2 0 5 ((σ2 0 5) + (mnI (fX1_poundsOf σL1 i1x) (σL1 0 4)))
    let σ4 : (Nat → Nat → Int32) := up2 σ3 (i1x+5) 2 ((σ3 (i1x+5) 2) + ((mnI (fX1_poundsOf σL1 i1x) (σL1 0 4)) / (2 : Int32)))
    σ4
def fX1_combWool_k1 (σL1 : (Nat → Nat → Int32)) : (Nat → Nat → Int32) :=
    σL1
def fX1_combWool (σ : (Nat → Nat → Int32)) : (Nat → Nat → Int32) :=
    (fun x => fX1_combWool_k1 x) (itR (fun i x => fX1_combWool_b1 i x) 0 12 σ)
set_option maxHeartbeats 400000 in
set_option maxRecDepth 100000 in
theorem c_X1_combWool (l : Launch) (D : va_G) (cI cM : ClassId) (a : Nat → Nat) (s : Nat) (σ ρ : (Nat → Nat → Int32)) (hs : s < 2)  : cMv l yX1_combWool wsX1_combWool rmX1_combWool D cI cM a [.ref (a (17*s+0))] s σ ρ (fX1_combWool σ) := by
  intro sz
  refine c_head (cc := cX1_combWool) (maxL := 6) (ret := none) (plainFor_of_name (by decide)) rfl (Nat.le_of_ble_eq_true rfl) ?_
  intro p e S m below meth c hx hb hr hml hown hts hlocks hnm hsz hA hC ls hl
  have hF : CallFix p m c cX1_combWool 6 S [.ref (a (17*s+0))].toArray wsX1_combWool RX1 := ⟨hx, hb, hml, hown, hts⟩
  have h_f36 : (Cond.fieldLink RX1 36 "CombersSociety$Society" "members" "[LCombersSociety$Member;").before [.ref (a (17*s+0))].toArray S = true := hts _ (by decide +kernel)
  have h_iX1 : ∀ w ∈ u_ws RX1 TX1 14, w ∈ wsX1_combWool := by decide +kernel
  have h_f18 : (Cond.fieldLink RX1 18 "CombersSociety$Society" "wool" "I").before [.ref (a (17*s+0))].toArray S = true := hts _ (by decide +kernel)
  have h_ml130 : (Cond.methodLink RX1 130 Lib.Math.min.name).before [.ref (a (17*s+0))].toArray S = true := hts _ (by decide +kernel)
  have h_ms130 : (Cond.static Lib.Math.min.name).before [.ref (a (17*s+0))].toArray S = true := hts _ (by decide +kernel)
  have h_mini : (Cond.initialized "java/lang/Math").before [.ref (a (17*s+0))].toArray S = true := hts _ (by decide +kernel)
  have h_mc130 : (Cond.code Lib.Math.min.name Lib.Math.min.code 2 (some .int)).before [.ref (a (17*s+0))].toArray S = true := hts _ (by decide +kernel)
  have h_f47 : (Cond.fieldLink RX1 47 "CombersSociety$Society" "tops" "I").before [.ref (a (17*s+0))].toArray S = true := hts _ (by decide +kernel)
  have h_f80 : (Cond.fieldLink RX1 80 "CombersSociety$Member" "coins" "I").before [.ref (a (17*s+0))].toArray S = true := hts _ (by decide +kernel)
  have h_iX0 : ∀ w ∈ u_ws RX0 TX0 10, w ∈ wsX1_combWool := by decide +kernel
  have hl : lv_has ls 6 [(0, .ref (a (17*s+0)))] := hl
  refine lv_aload_n hx hb dX1_combWool_0 rfl (lv_at hl 0 rfl) ?_
  refine cg_r hx hb hts h_iX1 hown hC hs 3 (by decide) h_f36 dX1_combWool_1 ?_
  refine lv_astore_n (lv' := [(1, .ref (a (17*s+(3+1)))), (0, .ref (a (17*s+0)))]) hx hb dX1_combWool_4 rfl hl (by decide) rfl ?_
  clear hl; intro ls hl
  refine lv_aload_n hx hb dX1_combWool_5 rfl (lv_at hl 0 rfl) ?_
  refine c_mlen hx hb hC hs dX1_combWool_6 ?_
  refine lv_istore_n (lv' := [(2, .int (12 : Int32)), (1, .ref (a (17*s+(3+1)))), (0, .ref (a (17*s+0)))]) hx hb dX1_combWool_7 rfl hl (by decide) rfl ?_
  clear hl; intro ls hl
  refine lv_iconst (v := 0) hx hb dX1_combWool_8 (by decide) ?_
  refine lv_istore_n (lv' := [(3, .int (0 : Int32)), (2, .int (12 : Int32)), (1, .ref (a (17*s+(3+1)))), (0, .ref (a (17*s+0)))]) hx hb dX1_combWool_9 rfl hl (by decide) rfl ?_
  clear hl; intro ls hl
  have loop1 : ∀ (n1x i1x : Nat) (σL1 : (Nat → Nat → Int32)), i1x + n1x = 12 → itR (fun i x => fX1_combWool_b1 i x) i1x n1x σL1 = itR (fun i x => fX1_combWool_b1 i x) 0 12 σ → ∀ (H : Heap) (locs : List Loc), cB D cI cM a S (cA a sz) S.heap H locs s σL1 ρ → ∀ ls : Array Slot, lv_has ls 6 [(3, .int (nI i1x)), (2, .int (12 : Int32)), (1, .ref (a (17*s+(3+1)))), (0, .ref (a (17*s+0)))] → W p l e (headSpec wsX1_combWool rmX1_combWool).room S m [.ref (a (17*s+0))].toArray below meth c H locs 0 0 (MQ below (va_Qv (fun (_ : Unit) => True) (cPost D cI cM a s (fX1_combWool σ) ρ) (cA a sz)) [.ref (a (17*s+0))].toArray S 0 0 (cA a sz)) (F0 m 10 ls []) := by
    clear hC hl
    intro n1x
    induction n1x with
    | zero =>
      intro i1x σL1 hin1 hX1 H locs hC ls hl
      obtain rfl : 12 = i1x := by omega
      refine lv_iload_n hx hb dX1_combWool_10 rfl (lv_at hl 0 rfl) ?_
      refine lv_iload_n hx hb dX1_combWool_11 rfl (lv_at hl 1 rfl) ?_
      refine lv_icmp_ge (tgt := 77) hx hb dX1_combWool_12 (by decide) (fun c5 => ?_) (fun c5 => absurd (by decide) c5)
      have e : fX1_combWool σ = σL1 := by exact ((congrArg (fun x => fX1_combWool_k1 x) hX1.symm).trans rfl)
      exact c_vret hx hb hr hlocks hC dX1_combWool_77 (by rw [e])
    | succ n1x ih1 =>
      intro i1x σL1 hin1 hX1 H locs hC ls hl
      refine lv_iload_n hx hb dX1_combWool_10 rfl (lv_at hl 0 rfl) ?_
      refine lv_iload_n hx hb dX1_combWool_11 rfl (lv_at hl 1 rfl) ?_
      refine lv_icmp_ge (tgt := 77) hx hb dX1_combWool_12 (by decide) (fun c1 => absurd c1 (show ¬ (12 : Int32) ≤ nI i1x from (nI_ge (a := i1x) (b := 12) (by omega) (by decide) : ¬ nI 12 ≤ nI i1x))) (fun c1 => ?_)
      refine lv_aload_n hx hb dX1_combWool_15 rfl (lv_at hl 2 rfl) ?_
      refine lv_iload_n hx hb dX1_combWool_16 rfl (lv_at hl 0 rfl) ?_
      refine c_mld hx hb hC hs (j := i1x) rfl (show _ < 12 by omega) dX1_combWool_17 ?_
      refine lv_astore (lv' := [(4, .ref (a (17*s+(i1x+5)))), (3, .int (nI i1x)), (2, .int (12 : Int32)), (1, .ref (a (17*s+(3+1)))), (0, .ref (a (17*s+0)))]) hx hb dX1_combWool_18 hl (by decide) rfl ?_
      clear hl; intro ls hl
      refine lv_aload_n hx hb dX1_combWool_20 rfl (lv_at hl 4 rfl) ?_
      refine lv_aload hx hb dX1_combWool_21 (lv_at hl 0 rfl) ?_
      refine c_iVp (n := 1) hF (c_X1_poundsOf l D cI cM a s σL1 ρ hs i1x (show _ < 12 by omega) ) gX1_combWool_X1_poundsOf rfl rfl rfl (by decide +kernel) ⟨Nat.le_of_ble_eq_true rfl, Nat.le_of_ble_eq_true rfl⟩ hC hA (hC.recvS hs) rfl hl.1 rfl (Nat.le_of_ble_eq_true rfl) dX1_combWool_23 ⟨Nat.zero_le _, Nat.zero_le _⟩ ?_
      clear hC; intro H locs hC
      refine lv_aload_n hx hb dX1_combWool_26 rfl (lv_at hl 4 rfl) ?_
      refine cg_s hx hb hts h_iX1 hown hC hs 4 (by decide) h_f18 dX1_combWool_27 ?_
      refine c_mmin hx hb (hml.trans hl.1.symm) hown h_ml130 h_ms130 h_mini h_mc130 (Nat.le_of_ble_eq_true rfl) (Nat.le_of_ble_eq_true rfl) (Nat.zero_le _) (Nat.zero_le _) dX1_combWool_30 ?_
      refine lv_istore (lv' := [(5, .int (mnI (fX1_poundsOf σL1 i1x) (σL1 0 4))), (4, .ref (a (17*s+(i1x+5)))), (3, .int (nI i1x)), (2, .int (12 : Int32)), (1, .ref (a (17*s+(3+1)))), (0, .ref (a (17*s+0)))]) hx hb dX1_combWool_33 hl (by decide) rfl ?_
      clear hl; intro ls hl
      refine lv_aload_n hx hb dX1_combWool_35 rfl (lv_at hl 5 rfl) ?_
      refine lv_dup hx hb dX1_combWool_36 rfl ?_
      refine cg_s hx hb hts h_iX1 hown hC hs 4 (by decide) h_f18 dX1_combWool_37 ?_
      refine lv_iload hx hb dX1_combWool_40 (lv_at hl 0 rfl) ?_
      refine lv_isub hx hb dX1_combWool_42 ?_
      refine cp_s hx hb hts h_iX1 hown hC hs 4 (by decide) h_f18 dX1_combWool_43 ?_
      clear hC; intro H locs σ2 eσ2 hC
      refine lv_aload_n hx hb dX1_combWool_46 rfl (lv_at hl 5 rfl) ?_
      refine lv_dup hx hb dX1_combWool_47 rfl ?_
      refine cg_s hx hb hts h_iX1 hown hC hs 5 (by decide) h_f47 dX1_combWool_48 ?_
      refine lv_iload hx hb dX1_combWool_51 (lv_at hl 0 rfl) ?_
      refine lv_iadd hx hb dX1_combWool_53 ?_
      refine cp_s hx hb hts h_iX1 hown hC hs 5 (by decide) h_f47 dX1_combWool_54 ?_
      clear hC; intro H locs σ3 eσ3 hC
      refine lv_aload hx hb dX1_combWool_57 (lv_at hl 1 rfl) ?_
      refine lv_dup hx hb dX1_combWool_59 rfl ?_
      refine cg_m hx hb hts h_iX0 hown hC hs (show _ < 12 by omega) 2 (by decide) h_f80 dX1_combWool_60 ?_
      refine lv_iload hx hb dX1_combWool_63 (lv_at hl 0 rfl) ?_
      refine lv_iconst (v := 2) hx hb dX1_combWool_65 (by decide) ?_
      refine lv_idiv hx hb dX1_combWool_66 (by decide) ?_
      refine lv_iadd hx hb dX1_combWool_67 ?_
      refine cp_m hx hb hts h_iX0 hown hC hs (show _ < 12 by omega) 2 (by decide) h_f80 dX1_combWool_68 ?_
      clear hC; intro H locs σ4 eσ4 hC
      refine lv_iinc (v := (nI (i1x + 1))) (lv' := [(3, .int (nI (i1x + 1))), (5, .int (mnI (fX1_poundsOf σL1 i1x) (σL1 0 4))), (4, .ref (a (17*s+(i1x+5)))), (2, .int (12 : Int32)), (1, .ref (a (17*s+(3+1)))), (0, .ref (a (17*s+0)))]) hx hb dX1_combWool_71 hl (k := 2) rfl (nI_1 i1x) (by decide) rfl ?_
      clear hl; intro ls hl
      refine lv_goto (tgt := 10) hx hb dX1_combWool_74 (by decide) ?_
      have e : fX1_combWool_b1 i1x σL1 = σ4 := by subst eσ2 eσ3 eσ4; exact rfl
      exact ih1 (i1x + 1) σ4 (by omega) (by rw [← e]; exact hX1) _ _ hC ls (lv_sub hl [0, 3, 4, 5] rfl)
  exact loop1 12 0 σ (by omega) rfl _ _ hC ls (lv_sub hl [0, 1, 2, 3] rfl)
abbrev rmX1_lightFires : Room := { frames := 2, cells := 0, slots := 0, locals := 44 }
def fX1_lightFires_b1 (i1x : Nat) (σL1 : (Nat → Nat → Int32)) : (Nat → Nat → Int32) :=
    if (σL1 3 i1x) ≤ 0 then
      let σ4 : (Nat → Nat → Int32) := up2 σL1 2 i1x (mxI (0 : Int32) ((σL1 2 i1x) - (2 : Int32)))
      σ4
    else
      if (σL1 0 3) ≤ 0 then
        let σ6 : (Nat → Nat → Int32) := up2 σL1 2 i1x (mxI (0 : Int32) ((σL1 2 i1x) - (2 : Int32)))
        σ6
      else
        let σ7 : (Nat → Nat → Int32) := up2 σL1 0 3 ((σL1 0 3) - (1 : Int32))
        let σ8 : (Nat → Nat → Int32) := up2 σ7 2 i1x (mnI (9 : Int32) ((σ7 2 i1x) + (3 : Int32)))
        σ8
def fX1_lightFires_k1 (σL1 : (Nat → Nat → Int32)) : (Nat → Nat → Int32) :=
    σL1
def fX1_lightFires (σ : (Nat → Nat → Int32)) : (Nat → Nat → Int32) :=
    let σ1 : (Nat → Nat → Int32) := (fX1_countCombers σ)
    (fun x => fX1_lightFires_k1 x) (itR (fun i x => fX1_lightFires_b1 i x) 0 3 σ1)
set_option maxHeartbeats 400000 in
set_option maxRecDepth 100000 in
theorem c_X1_lightFires (l : Launch) (D : va_G) (cI cM : ClassId) (a : Nat → Nat) (s : Nat) (σ ρ : (Nat → Nat → Int32)) (hs : s < 2)  : cMv l yX1_lightFires wsX1_lightFires rmX1_lightFires D cI cM a [.ref (a (17*s+0))] s σ ρ (fX1_lightFires σ) := by
  intro sz
  refine c_head (cc := cX1_lightFires) (maxL := 2) (ret := none) (plainFor_of_name (by decide)) rfl (Nat.le_of_ble_eq_true rfl) ?_
  intro p e S m below meth c hx hb hr hml hown hts hlocks hnm hsz hA hC ls hl
  have hF : CallFix p m c cX1_lightFires 2 S [.ref (a (17*s+0))].toArray wsX1_lightFires RX1 := ⟨hx, hb, hml, hown, hts⟩
  have h_f31 : (Cond.fieldLink RX1 31 "CombersSociety$Society" "combing" "[I").before [.ref (a (17*s+0))].toArray S = true := hts _ (by decide +kernel)
  have h_iX1 : ∀ w ∈ u_ws RX1 TX1 14, w ∈ wsX1_lightFires := by decide +kernel
  have h_f28 : (Cond.fieldLink RX1 28 "CombersSociety$Society" "heats" "[I").before [.ref (a (17*s+0))].toArray S = true := hts _ (by decide +kernel)
  have h_ml133 : (Cond.methodLink RX1 133 Lib.Math.max.name).before [.ref (a (17*s+0))].toArray S = true := hts _ (by decide +kernel)
  have h_ms133 : (Cond.static Lib.Math.max.name).before [.ref (a (17*s+0))].toArray S = true := hts _ (by decide +kernel)
  have h_mini : (Cond.initialized "java/lang/Math").before [.ref (a (17*s+0))].toArray S = true := hts _ (by decide +kernel)
  have h_mc133 : (Cond.code Lib.Math.max.name Lib.Math.max.code 2 (some .int)).before [.ref (a (17*s+0))].toArray S = true := hts _ (by decide +kernel)
  have h_f15 : (Cond.fieldLink RX1 15 "CombersSociety$Society" "coals" "I").before [.ref (a (17*s+0))].toArray S = true := hts _ (by decide +kernel)
  have h_ml130 : (Cond.methodLink RX1 130 Lib.Math.min.name).before [.ref (a (17*s+0))].toArray S = true := hts _ (by decide +kernel)
  have h_ms130 : (Cond.static Lib.Math.min.name).before [.ref (a (17*s+0))].toArray S = true := hts _ (by decide +kernel)
  have h_mc130 : (Cond.code Lib.Math.min.name Lib.Math.min.code 2 (some .int)).before [.ref (a (17*s+0))].toArray S = true := hts _ (by decide +kernel)
  have hl : lv_has ls 2 [(0, .ref (a (17*s+0)))] := hl
  refine lv_aload_n hx hb dX1_lightFires_0 rfl (lv_at hl 0 rfl) ?_
  refine c_iVv (n := 0) hF (c_X1_countCombers l D cI cM a s σ ρ hs  ) gX1_lightFires_X1_countCombers rfl rfl rfl (by decide +kernel) ⟨Nat.le_of_ble_eq_true rfl, Nat.le_of_ble_eq_true rfl⟩ hC hA (hC.recvS hs) rfl hl.1 rfl (Nat.le_of_ble_eq_true rfl) dX1_lightFires_1 ⟨Nat.zero_le _, Nat.zero_le _⟩ ?_
  clear hC; intro H locs σ1 eσ1 hC
  refine lv_iconst (v := 0) hx hb dX1_lightFires_4 (by decide) ?_
  refine lv_istore_n (lv' := [(1, .int (0 : Int32)), (0, .ref (a (17*s+0)))]) hx hb dX1_lightFires_5 rfl hl (by decide) rfl ?_
  clear hl; intro ls hl
  have loop1 : ∀ (n1x i1x : Nat) (σL1 : (Nat → Nat → Int32)), i1x + n1x = 3 → itR (fun i x => fX1_lightFires_b1 i x) i1x n1x σL1 = itR (fun i x => fX1_lightFires_b1 i x) 0 3 σ1 → ∀ (H : Heap) (locs : List Loc), cB D cI cM a S (cA a sz) S.heap H locs s σL1 ρ → ∀ ls : Array Slot, lv_has ls 2 [(1, .int (nI i1x)), (0, .ref (a (17*s+0)))] → W p l e (headSpec wsX1_lightFires rmX1_lightFires).room S m [.ref (a (17*s+0))].toArray below meth c H locs 0 0 (MQ below (va_Qv (fun (_ : Unit) => True) (cPost D cI cM a s (fX1_lightFires σ) ρ) (cA a sz)) [.ref (a (17*s+0))].toArray S 0 0 (cA a sz)) (F0 m 6 ls []) := by
    clear hC hl
    intro n1x
    induction n1x with
    | zero =>
      intro i1x σL1 hin1 hX1 H locs hC ls hl
      obtain rfl : 3 = i1x := by omega
      refine lv_iload_n hx hb dX1_lightFires_6 rfl (lv_at hl 0 rfl) ?_
      refine lv_iconst (v := 3) hx hb dX1_lightFires_7 (by decide) ?_
      refine lv_icmp_ge (tgt := 83) hx hb dX1_lightFires_8 (by decide) (fun c9 => ?_) (fun c9 => absurd (by decide) c9)
      have e : fX1_lightFires σ = σL1 := by subst eσ1; exact ((congrArg (fun x => fX1_lightFires_k1 x) hX1.symm).trans rfl)
      exact c_vret hx hb hr hlocks hC dX1_lightFires_83 (by rw [e])
    | succ n1x ih1 =>
      intro i1x σL1 hin1 hX1 H locs hC ls hl
      refine lv_iload_n hx hb dX1_lightFires_6 rfl (lv_at hl 0 rfl) ?_
      refine lv_iconst (v := 3) hx hb dX1_lightFires_7 (by decide) ?_
      refine lv_icmp_ge (tgt := 83) hx hb dX1_lightFires_8 (by decide) (fun c2 => absurd c2 (show ¬ (3 : Int32) ≤ nI i1x from (nI_ge (a := i1x) (b := 3) (by omega) (by decide) : ¬ nI 3 ≤ nI i1x))) (fun c2 => ?_)
      refine lv_aload_n hx hb dX1_lightFires_11 rfl (lv_at hl 1 rfl) ?_
      refine cg_r hx hb hts h_iX1 hown hC hs 2 (by decide) h_f31 dX1_lightFires_12 ?_
      refine lv_iload_n hx hb dX1_lightFires_15 rfl (lv_at hl 0 rfl) ?_
      refine c_ild hx hb hC hs 3 (by decide) (by decide) (j := i1x) rfl (show _ < 3 by omega) dX1_lightFires_16 ?_
      refine lv_if_le (tgt := 59) hx hb dX1_lightFires_17 (by decide) (fun c3 => ?_) (fun c3 => ?_)
      · refine lv_aload_n hx hb dX1_lightFires_59 rfl (lv_at hl 1 rfl) ?_
        refine cg_r hx hb hts h_iX1 hown hC hs 1 (by decide) h_f28 dX1_lightFires_60 ?_
        refine lv_iload_n hx hb dX1_lightFires_63 rfl (lv_at hl 0 rfl) ?_
        refine lv_iconst (v := 0) hx hb dX1_lightFires_64 (by decide) ?_
        refine lv_aload_n hx hb dX1_lightFires_65 rfl (lv_at hl 1 rfl) ?_
        refine cg_r hx hb hts h_iX1 hown hC hs 1 (by decide) h_f28 dX1_lightFires_66 ?_
        refine lv_iload_n hx hb dX1_lightFires_69 rfl (lv_at hl 0 rfl) ?_
        refine c_ild hx hb hC hs 2 (by decide) (by decide) (j := i1x) rfl (show _ < 3 by omega) dX1_lightFires_70 ?_
        refine lv_iconst (v := 2) hx hb dX1_lightFires_71 (by decide) ?_
        refine lv_isub hx hb dX1_lightFires_72 ?_
        refine c_mmax hx hb (hml.trans hl.1.symm) hown h_ml133 h_ms133 h_mini h_mc133 (Nat.le_of_ble_eq_true rfl) (Nat.le_of_ble_eq_true rfl) (Nat.zero_le _) (Nat.zero_le _) dX1_lightFires_73 ?_
        refine c_ist hx hb hC hs 2 (by decide) (by decide) (j := i1x) rfl (show _ < 3 by omega) dX1_lightFires_76 ?_
        clear hC; intro H locs σ4 eσ4 hC
        refine lv_iinc (v := (nI (i1x + 1))) (lv' := [(1, .int (nI (i1x + 1))), (0, .ref (a (17*s+0)))]) hx hb dX1_lightFires_77 hl (k := 0) rfl (nI_1 i1x) (by decide) rfl ?_
        clear hl; intro ls hl
        refine lv_goto (tgt := 6) hx hb dX1_lightFires_80 (by decide) ?_
        have e : fX1_lightFires_b1 i1x σL1 = σ4 := by subst eσ4; exact ((if_pos c3).trans rfl)
        exact ih1 (i1x + 1) σ4 (by omega) (by rw [← e]; exact hX1) _ _ hC ls (lv_sub hl [0, 1] rfl)
      · refine lv_aload_n hx hb dX1_lightFires_20 rfl (lv_at hl 1 rfl) ?_
        refine cg_s hx hb hts h_iX1 hown hC hs 3 (by decide) h_f15 dX1_lightFires_21 ?_
        refine lv_if_le (tgt := 59) hx hb dX1_lightFires_24 (by decide) (fun c5 => ?_) (fun c5 => ?_)
        · refine lv_aload_n hx hb dX1_lightFires_59 rfl (lv_at hl 1 rfl) ?_
          refine cg_r hx hb hts h_iX1 hown hC hs 1 (by decide) h_f28 dX1_lightFires_60 ?_
          refine lv_iload_n hx hb dX1_lightFires_63 rfl (lv_at hl 0 rfl) ?_
          refine lv_iconst (v := 0) hx hb dX1_lightFires_64 (by decide) ?_
          refine lv_aload_n hx hb dX1_lightFires_65 rfl (lv_at hl 1 rfl) ?_
          refine cg_r hx hb hts h_iX1 hown hC hs 1 (by decide) h_f28 dX1_lightFires_66 ?_
          refine lv_iload_n hx hb dX1_lightFires_69 rfl (lv_at hl 0 rfl) ?_
          refine c_ild hx hb hC hs 2 (by decide) (by decide) (j := i1x) rfl (show _ < 3 by omega) dX1_lightFires_70 ?_
          refine lv_iconst (v := 2) hx hb dX1_lightFires_71 (by decide) ?_
          refine lv_isub hx hb dX1_lightFires_72 ?_
          refine c_mmax hx hb (hml.trans hl.1.symm) hown h_ml133 h_ms133 h_mini h_mc133 (Nat.le_of_ble_eq_true rfl) (Nat.le_of_ble_eq_true rfl) (Nat.zero_le _) (Nat.zero_le _) dX1_lightFires_73 ?_
          refine c_ist hx hb hC hs 2 (by decide) (by decide) (j := i1x) rfl (show _ < 3 by omega) dX1_lightFires_76 ?_
          clear hC; intro H locs σ6 eσ6 hC
          refine lv_iinc (v := (nI (i1x + 1))) (lv' := [(1, .int (nI (i1x + 1))), (0, .ref (a (17*s+0)))]) hx hb dX1_lightFires_77 hl (k := 0) rfl (nI_1 i1x) (by decide) rfl ?_
          clear hl; intro ls hl
          refine lv_goto (tgt := 6) hx hb dX1_lightFires_80 (by decide) ?_
          have e : fX1_lightFires_b1 i1x σL1 = σ6 := by subst eσ6; exact ((if_neg c3).trans ((if_pos c5).trans rfl))
          exact ih1 (i1x + 1) σ6 (by omega) (by rw [← e]; exact hX1) _ _ hC ls (lv_sub hl [0, 1] rfl)
        · refine lv_aload_n hx hb dX1_lightFires_27 rfl (lv_at hl 1 rfl) ?_
          refine lv_dup hx hb dX1_lightFires_28 rfl ?_
          refine cg_s hx hb hts h_iX1 hown hC hs 3 (by decide) h_f15 dX1_lightFires_29 ?_
          refine lv_iconst (v := 1) hx hb dX1_lightFires_32 (by decide) ?_
          refine lv_isub hx hb dX1_lightFires_33 ?_
          refine cp_s hx hb hts h_iX1 hown hC hs 3 (by decide) h_f15 dX1_lightFires_34 ?_
          clear hC; intro H locs σ7 eσ7 hC
          refine lv_aload_n hx hb dX1_lightFires_37 rfl (lv_at hl 1 rfl) ?_
          refine cg_r hx hb hts h_iX1 hown hC hs 1 (by decide) h_f28 dX1_lightFires_38 ?_
          refine lv_iload_n hx hb dX1_lightFires_41 rfl (lv_at hl 0 rfl) ?_
          refine lv_bipush (v := 9) hx hb dX1_lightFires_42 (by decide) ?_
          refine lv_aload_n hx hb dX1_lightFires_44 rfl (lv_at hl 1 rfl) ?_
          refine cg_r hx hb hts h_iX1 hown hC hs 1 (by decide) h_f28 dX1_lightFires_45 ?_
          refine lv_iload_n hx hb dX1_lightFires_48 rfl (lv_at hl 0 rfl) ?_
          refine c_ild hx hb hC hs 2 (by decide) (by decide) (j := i1x) rfl (show _ < 3 by omega) dX1_lightFires_49 ?_
          refine lv_iconst (v := 3) hx hb dX1_lightFires_50 (by decide) ?_
          refine lv_iadd hx hb dX1_lightFires_51 ?_
          refine c_mmin hx hb (hml.trans hl.1.symm) hown h_ml130 h_ms130 h_mini h_mc130 (Nat.le_of_ble_eq_true rfl) (Nat.le_of_ble_eq_true rfl) (Nat.zero_le _) (Nat.zero_le _) dX1_lightFires_52 ?_
          refine c_ist hx hb hC hs 2 (by decide) (by decide) (j := i1x) rfl (show _ < 3 by omega) dX1_lightFires_55 ?_
          clear hC; intro H locs σ8 eσ8 hC
          refine lv_goto (tgt := 77) hx hb dX1_lightFires_56 (by decide) ?_
          refine lv_iinc (v := (nI (i1x + 1))) (lv' := [(1, .int (nI (i1x + 1))), (0, .ref (a (17*s+0)))]) hx hb dX1_lightFires_77 hl (k := 0) rfl (nI_1 i1x) (by decide) rfl ?_
          clear hl; intro ls hl
          refine lv_goto (tgt := 6) hx hb dX1_lightFires_80 (by decide) ?_
          have e : fX1_lightFires_b1 i1x σL1 = σ8 := by subst eσ7 eσ8; exact ((if_neg c3).trans ((if_neg c5).trans rfl))
          exact ih1 (i1x + 1) σ8 (by omega) (by rw [← e]; exact hX1) _ _ hC ls (lv_sub hl [0, 1] rfl)
  exact loop1 3 0 σ1 (by omega) rfl _ _ hC ls (lv_sub hl [0, 1] rfl)
abbrev rmX1_liveWeek : Room := { frames := 4, cells := 0, slots := 0, locals := 84 }
def fX1_liveWeek (σ : (Nat → Nat → Int32)) : (Nat → Nat → Int32) :=
    let σ1 : (Nat → Nat → Int32) := up2 σ 0 9 (0 : Int32)
    let σ2 : (Nat → Nat → Int32) := (fX1_lightFires σ1)
    let σ3 : (Nat → Nat → Int32) := (fX1_combWool σ2)
    let σ4 : (Nat → Nat → Int32) := (fX1_spreadFever σ3)
    let σ5 : (Nat → Nat → Int32) := (fX1_nurseSick σ4)
    let σ6 : (Nat → Nat → Int32) := (fX1_takeDues σ5)
    if (fJ9_floorMod_7cf53 (σ6 0 0) (4 : Int32)) = (3 : Int32) then
      let σ10 : (Nat → Nat → Int32) := (fX1_holdClubNight σ6)
      let σ11 : (Nat → Nat → Int32) := (fX1_holdFunerals σ10)
      let σ12 : (Nat → Nat → Int32) := up2 σ11 0 0 ((σ11 0 0) + (1 : Int32))
      σ12
    else
      let σ8 : (Nat → Nat → Int32) := (fX1_holdFunerals σ6)
      let σ9 : (Nat → Nat → Int32) := up2 σ8 0 0 ((σ8 0 0) + (1 : Int32))
      σ9
set_option maxHeartbeats 400000 in
set_option maxRecDepth 100000 in
theorem c_X1_liveWeek (l : Launch) (D : va_G) (cI cM : ClassId) (a : Nat → Nat) (s : Nat) (σ ρ : (Nat → Nat → Int32)) (hs : s < 2)  : cMv l yX1_liveWeek wsX1_liveWeek rmX1_liveWeek D cI cM a [.ref (a (17*s+0))] s σ ρ (fX1_liveWeek σ) := by
  intro sz
  refine c_head (cc := cX1_liveWeek) (maxL := 1) (ret := none) (plainFor_of_name (by decide)) rfl (Nat.le_of_ble_eq_true rfl) ?_
  intro p e S m below meth c hx hb hr hml hown hts hlocks hnm hsz hA hC ls hl
  have hF : CallFix p m c cX1_liveWeek 1 S [.ref (a (17*s+0))].toArray wsX1_liveWeek RX1 := ⟨hx, hb, hml, hown, hts⟩
  have h_f99 : (Cond.fieldLink RX1 99 "CombersSociety$Society" "fellShort" "Z").before [.ref (a (17*s+0))].toArray S = true := hts _ (by decide +kernel)
  have h_iX1 : ∀ w ∈ u_ws RX1 TX1 14, w ∈ wsX1_liveWeek := by decide +kernel
  have h_f41 : (Cond.fieldLink RX1 41 "CombersSociety$Society" "week" "I").before [.ref (a (17*s+0))].toArray S = true := hts _ (by decide +kernel)
  have hl : lv_has ls 1 [(0, .ref (a (17*s+0)))] := hl
  refine lv_aload_n hx hb dX1_liveWeek_0 rfl (lv_at hl 0 rfl) ?_
  refine lv_iconst (v := 0) hx hb dX1_liveWeek_1 (by decide) ?_
  refine cp_sb hx hb hts h_iX1 hown hC hs (Or.inl rfl) h_f99 dX1_liveWeek_2 ?_
  clear hC; intro H locs σ1 eσ1 hC
  refine lv_aload_n hx hb dX1_liveWeek_5 rfl (lv_at hl 0 rfl) ?_
  refine c_iVv (n := 0) hF (c_X1_lightFires l D cI cM a s σ1 ρ hs  ) gX1_liveWeek_X1_lightFires rfl rfl rfl (by decide +kernel) ⟨Nat.le_of_ble_eq_true rfl, Nat.le_of_ble_eq_true rfl⟩ hC hA (hC.recvS hs) rfl hl.1 rfl (Nat.le_of_ble_eq_true rfl) dX1_liveWeek_6 ⟨Nat.zero_le _, Nat.zero_le _⟩ ?_
  clear hC; intro H locs σ2 eσ2 hC
  refine lv_aload_n hx hb dX1_liveWeek_9 rfl (lv_at hl 0 rfl) ?_
  refine c_iVv (n := 0) hF (c_X1_combWool l D cI cM a s σ2 ρ hs  ) gX1_liveWeek_X1_combWool rfl rfl rfl (by decide +kernel) ⟨Nat.le_of_ble_eq_true rfl, Nat.le_of_ble_eq_true rfl⟩ hC hA (hC.recvS hs) rfl hl.1 rfl (Nat.le_of_ble_eq_true rfl) dX1_liveWeek_10 ⟨Nat.zero_le _, Nat.zero_le _⟩ ?_
  clear hC; intro H locs σ3 eσ3 hC
  refine lv_aload_n hx hb dX1_liveWeek_13 rfl (lv_at hl 0 rfl) ?_
  refine c_iVv (n := 0) hF (c_X1_spreadFever l D cI cM a s σ3 ρ hs  ) gX1_liveWeek_X1_spreadFever rfl rfl rfl (by decide +kernel) ⟨Nat.le_of_ble_eq_true rfl, Nat.le_of_ble_eq_true rfl⟩ hC hA (hC.recvS hs) rfl hl.1 rfl (Nat.le_of_ble_eq_true rfl) dX1_liveWeek_14 ⟨Nat.zero_le _, Nat.zero_le _⟩ ?_
  clear hC; intro H locs σ4 eσ4 hC
  refine lv_aload_n hx hb dX1_liveWeek_17 rfl (lv_at hl 0 rfl) ?_
  refine c_iVv (n := 0) hF (c_X1_nurseSick l D cI cM a s σ4 ρ hs  ) gX1_liveWeek_X1_nurseSick rfl rfl rfl (by decide +kernel) ⟨Nat.le_of_ble_eq_true rfl, Nat.le_of_ble_eq_true rfl⟩ hC hA (hC.recvS hs) rfl hl.1 rfl (Nat.le_of_ble_eq_true rfl) dX1_liveWeek_18 ⟨Nat.zero_le _, Nat.zero_le _⟩ ?_
  clear hC; intro H locs σ5 eσ5 hC
  refine lv_aload_n hx hb dX1_liveWeek_21 rfl (lv_at hl 0 rfl) ?_
  refine c_iVv (n := 0) hF (c_X1_takeDues l D cI cM a s σ5 ρ hs  ) gX1_liveWeek_X1_takeDues rfl rfl rfl (by decide +kernel) ⟨Nat.le_of_ble_eq_true rfl, Nat.le_of_ble_eq_true rfl⟩ hC hA (hC.recvS hs) rfl hl.1 rfl (Nat.le_of_ble_eq_true rfl) dX1_liveWeek_22 ⟨Nat.zero_le _, Nat.zero_le _⟩ ?_
  clear hC; intro H locs σ6 eσ6 hC
  refine lv_aload_n hx hb dX1_liveWeek_25 rfl (lv_at hl 0 rfl) ?_
  refine cg_s hx hb hts h_iX1 hown hC hs 0 (by decide) h_f41 dX1_liveWeek_26 ?_
  refine lv_iconst (v := 4) hx hb dX1_liveWeek_29 (by decide) ?_
  refine c_iSi (n := 2) hF (c_J9_floorMod_7cf53 l D cI cM a s σ6 ρ (σ6 0 0) (4 : Int32) (by decide)) gX1_liveWeek_J9_floorMod_7cf53 rfl rfl rfl (by decide +kernel) ⟨Nat.le_of_ble_eq_true rfl, Nat.le_of_ble_eq_true rfl⟩ hC hA rfl hl.1 rfl (Nat.le_of_ble_eq_true rfl) dX1_liveWeek_30 ⟨Nat.zero_le _, Nat.zero_le _⟩ ?_
  clear hC; intro H locs hC
  refine lv_iconst (v := 3) hx hb dX1_liveWeek_33 (by decide) ?_
  refine lv_icmp_ne (tgt := 41) hx hb dX1_liveWeek_34 (by decide) (fun c7 => ?_) (fun c7 => ?_)
  · refine lv_aload_n hx hb dX1_liveWeek_41 rfl (lv_at hl 0 rfl) ?_
    refine c_iVv (n := 0) hF (c_X1_holdFunerals l D cI cM a s σ6 ρ hs  ) gX1_liveWeek_X1_holdFunerals rfl rfl rfl (by decide +kernel) ⟨Nat.le_of_ble_eq_true rfl, Nat.le_of_ble_eq_true rfl⟩ hC hA (hC.recvS hs) rfl hl.1 rfl (Nat.le_of_ble_eq_true rfl) dX1_liveWeek_42 ⟨Nat.zero_le _, Nat.zero_le _⟩ ?_
    clear hC; intro H locs σ8 eσ8 hC
    refine lv_aload_n hx hb dX1_liveWeek_45 rfl (lv_at hl 0 rfl) ?_
    refine lv_dup hx hb dX1_liveWeek_46 rfl ?_
    refine cg_s hx hb hts h_iX1 hown hC hs 0 (by decide) h_f41 dX1_liveWeek_47 ?_
    refine lv_iconst (v := 1) hx hb dX1_liveWeek_50 (by decide) ?_
    refine lv_iadd hx hb dX1_liveWeek_51 ?_
    refine cp_s hx hb hts h_iX1 hown hC hs 0 (by decide) h_f41 dX1_liveWeek_52 ?_
    clear hC; intro H locs σ9 eσ9 hC
    have e : fX1_liveWeek σ = σ9 := by subst eσ1 eσ2 eσ3 eσ4 eσ5 eσ6 eσ8 eσ9; exact ((if_neg c7).trans rfl)
    exact c_vret hx hb hr hlocks hC dX1_liveWeek_55 (by rw [e])
  · refine lv_aload_n hx hb dX1_liveWeek_37 rfl (lv_at hl 0 rfl) ?_
    refine c_iVv (n := 0) hF (c_X1_holdClubNight l D cI cM a s σ6 ρ hs  ) gX1_liveWeek_X1_holdClubNight rfl rfl rfl (by decide +kernel) ⟨Nat.le_of_ble_eq_true rfl, Nat.le_of_ble_eq_true rfl⟩ hC hA (hC.recvS hs) rfl hl.1 rfl (Nat.le_of_ble_eq_true rfl) dX1_liveWeek_38 ⟨Nat.zero_le _, Nat.zero_le _⟩ ?_
    clear hC; intro H locs σ10 eσ10 hC
    refine lv_aload_n hx hb dX1_liveWeek_41 rfl (lv_at hl 0 rfl) ?_
    refine c_iVv (n := 0) hF (c_X1_holdFunerals l D cI cM a s σ10 ρ hs  ) gX1_liveWeek_X1_holdFunerals rfl rfl rfl (by decide +kernel) ⟨Nat.le_of_ble_eq_true rfl, Nat.le_of_ble_eq_true rfl⟩ hC hA (hC.recvS hs) rfl hl.1 rfl (Nat.le_of_ble_eq_true rfl) dX1_liveWeek_42 ⟨Nat.zero_le _, Nat.zero_le _⟩ ?_
    clear hC; intro H locs σ11 eσ11 hC
    refine lv_aload_n hx hb dX1_liveWeek_45 rfl (lv_at hl 0 rfl) ?_
    refine lv_dup hx hb dX1_liveWeek_46 rfl ?_
    refine cg_s hx hb hts h_iX1 hown hC hs 0 (by decide) h_f41 dX1_liveWeek_47 ?_
    refine lv_iconst (v := 1) hx hb dX1_liveWeek_50 (by decide) ?_
    refine lv_iadd hx hb dX1_liveWeek_51 ?_
    refine cp_s hx hb hts h_iX1 hown hC hs 0 (by decide) h_f41 dX1_liveWeek_52 ?_
    clear hC; intro H locs σ12 eσ12 hC
    have e : fX1_liveWeek σ = σ12 := by subst eσ1 eσ2 eσ3 eσ4 eσ5 eσ6 eσ10 eσ11 eσ12; exact ((if_pos c7).trans rfl)
    exact c_vret hx hb hr hlocks hC dX1_liveWeek_55 (by rw [e])
abbrev rmX1_liveWeeks : Room := { frames := 5, cells := 0, slots := 0, locals := 104 }
def fX1_liveWeeks_b1 (i1x : Nat) (σL1 : (Nat → Nat → Int32)) : (Nat → Nat → Int32) :=
    let σ2 : (Nat → Nat → Int32) := (fX1_liveWeek σL1)
    σ2
def fX1_liveWeeks_k1 (σL1 : (Nat → Nat → Int32)) : (Nat → Nat → Int32) :=
    σL1
def fX1_liveWeeks (σ : (Nat → Nat → Int32)) (n0 : Nat) : (Nat → Nat → Int32) :=
    (fun x => fX1_liveWeeks_k1 x) (itR (fun i x => fX1_liveWeeks_b1 i x) 0 n0 σ)
set_option maxHeartbeats 400000 in
set_option maxRecDepth 100000 in
theorem c_X1_liveWeeks (l : Launch) (D : va_G) (cI cM : ClassId) (a : Nat → Nat) (s : Nat) (σ ρ : (Nat → Nat → Int32)) (hs : s < 2) (n0 : Nat) (hn0 : n0 < 2 ^ 31) : cMv l yX1_liveWeeks wsX1_liveWeeks rmX1_liveWeeks D cI cM a [.ref (a (17*s+0)), .int (nI n0)] s σ ρ (fX1_liveWeeks σ n0) := by
  intro sz
  refine c_head (cc := cX1_liveWeeks) (maxL := 3) (ret := none) (plainFor_of_name (by decide)) rfl (Nat.le_of_ble_eq_true rfl) ?_
  intro p e S m below meth c hx hb hr hml hown hts hlocks hnm hsz hA hC ls hl
  have hF : CallFix p m c cX1_liveWeeks 3 S [.ref (a (17*s+0)), .int (nI n0)].toArray wsX1_liveWeeks RX1 := ⟨hx, hb, hml, hown, hts⟩
  have hl : lv_has ls 3 [(0, .ref (a (17*s+0))), (1, .int (nI n0))] := hl
  refine lv_iconst (v := 0) hx hb dX1_liveWeeks_0 (by decide) ?_
  refine lv_istore_n (lv' := [(2, .int (0 : Int32)), (0, .ref (a (17*s+0))), (1, .int (nI n0))]) hx hb dX1_liveWeeks_1 rfl hl (by decide) rfl ?_
  clear hl; intro ls hl
  have loop1 : ∀ (n1x i1x : Nat) (σL1 : (Nat → Nat → Int32)), i1x + n1x = n0 → itR (fun i x => fX1_liveWeeks_b1 i x) i1x n1x σL1 = itR (fun i x => fX1_liveWeeks_b1 i x) 0 n0 σ → ∀ (H : Heap) (locs : List Loc), cB D cI cM a S (cA a sz) S.heap H locs s σL1 ρ → ∀ ls : Array Slot, lv_has ls 3 [(2, .int (nI i1x)), (0, .ref (a (17*s+0))), (1, .int (nI n0))] → W p l e (headSpec wsX1_liveWeeks rmX1_liveWeeks).room S m [.ref (a (17*s+0)), .int (nI n0)].toArray below meth c H locs 0 0 (MQ below (va_Qv (fun (_ : Unit) => True) (cPost D cI cM a s (fX1_liveWeeks σ n0) ρ) (cA a sz)) [.ref (a (17*s+0)), .int (nI n0)].toArray S 0 0 (cA a sz)) (F0 m 2 ls []) := by
    clear hC hl
    intro n1x
    induction n1x with
    | zero =>
      intro i1x σL1 hin1 hX1 H locs hC ls hl
      obtain rfl : n0 = i1x := by omega
      refine lv_iload_n hx hb dX1_liveWeeks_2 rfl (lv_at hl 0 rfl) ?_
      refine lv_iload_n hx hb dX1_liveWeeks_3 rfl (lv_at hl 2 rfl) ?_
      refine lv_icmp_ge (tgt := 17) hx hb dX1_liveWeeks_4 (by decide) (fun c3 => ?_) (fun c3 => absurd (nI_le (Nat.le_refl _) hn0) c3)
      have e : fX1_liveWeeks σ n0 = σL1 := by exact ((congrArg (fun x => fX1_liveWeeks_k1 x) hX1.symm).trans rfl)
      exact c_vret hx hb hr hlocks hC dX1_liveWeeks_17 (by rw [e])
    | succ n1x ih1 =>
      intro i1x σL1 hin1 hX1 H locs hC ls hl
      refine lv_iload_n hx hb dX1_liveWeeks_2 rfl (lv_at hl 0 rfl) ?_
      refine lv_iload_n hx hb dX1_liveWeeks_3 rfl (lv_at hl 2 rfl) ?_
      refine lv_icmp_ge (tgt := 17) hx hb dX1_liveWeeks_4 (by decide) (fun c1 => absurd c1 (nI_ge (by omega) hn0)) (fun c1 => ?_)
      refine lv_aload_n hx hb dX1_liveWeeks_7 rfl (lv_at hl 1 rfl) ?_
      refine c_iVv (n := 0) hF (c_X1_liveWeek l D cI cM a s σL1 ρ hs  ) gX1_liveWeeks_X1_liveWeek rfl rfl rfl (by decide +kernel) ⟨Nat.le_of_ble_eq_true rfl, Nat.le_of_ble_eq_true rfl⟩ hC hA (hC.recvS hs) rfl hl.1 rfl (Nat.le_of_ble_eq_true rfl) dX1_liveWeeks_8 ⟨Nat.zero_le _, Nat.zero_le _⟩ ?_
      clear hC; intro H locs σ2 eσ2 hC
      refine lv_iinc (v := (nI (i1x + 1))) (lv' := [(2, .int (nI (i1x + 1))), (0, .ref (a (17*s+0))), (1, .int (nI n0))]) hx hb dX1_liveWeeks_11 hl (k := 0) rfl (nI_1 i1x) (by decide) rfl ?_
      clear hl; intro ls hl
      refine lv_goto (tgt := 2) hx hb dX1_liveWeeks_14 (by decide) ?_
      have e : fX1_liveWeeks_b1 i1x σL1 = σ2 := by subst eσ2; exact rfl
      exact ih1 (i1x + 1) σ2 (by omega) (by rw [← e]; exact hX1) _ _ hC ls (lv_sub hl [0, 1, 2] rfl)
  exact loop1 n0 0 σ (by omega) rfl _ _ hC ls (lv_sub hl [0, 1, 2] rfl)
