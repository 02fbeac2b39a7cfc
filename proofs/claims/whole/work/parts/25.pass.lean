abbrev rmX3_pass : Room := { frames := 5, cells := 0, slots := 0, locals := 110 }
def fX3_pass_b4 (v1_1 : Int32) (i4x : Nat) (σL4 : (Nat → Nat → Int32)) : (Nat → Nat → Int32) :=
    if ((v1_1 >>> ((nI i4x) &&& 31)) &&& (1 : Int32)) = (1 : Int32) then
      let τ20 : (Nat → Nat → Int32) := (fX3_bury σL4 (nI i4x))
      τ20
    else
      σL4
def fX3_pass_k4 (σL4 : (Nat → Nat → Int32)) : (Nat → Nat → Int32) :=
    let τ22 : (Nat → Nat → Int32) := up2 σL4 0 0 ((σL4 0 0) + (1 : Int32))
    τ22
def fX3_pass_b3 (i3x : Nat) (σL3 : (Nat → Nat → Int32)) : (Nat → Nat → Int32) :=
    if ((σL3 0 0) - (σL3 0 0) / (4 : Int32) * (4 : Int32)) = (3 : Int32) then
      if (fX3_of σL3 (nI i3x) (6 : Int32)) = 0 then
        let τ16 : (Nat → Nat → Int32) := (fX3_drink σL3 (nI i3x))
        τ16
      else
        σL3
    else
      σL3
def fX3_pass_k3 (v1_1 : Int32) (σL3 : (Nat → Nat → Int32)) : (Nat → Nat → Int32) :=
    fX3_pass_k4 (itR (fun i x => fX3_pass_b4 v1_1 i x) 0 (wfn σL3) σL3)
def fX3_pass_b2 (θ : (Nat → Nat → Int32)) (i2x : Nat) (σL2 : (Nat → Nat → Int32)) : (Nat → Nat → Int32) :=
    if (fX3_of σL2 (nI i2x) (6 : Int32)) = 0 then
      let τ11 : (Nat → Nat → Int32) := (fX3_payDues θ σL2 (nI i2x))
      τ11
    else
      σL2
def fX3_pass_k2 (v1_1 : Int32) (σL2 : (Nat → Nat → Int32)) : (Nat → Nat → Int32) :=
    fX3_pass_k3 v1_1 (itR (fun i x => fX3_pass_b3 i x) 0 (wfn σL2) σL2)
def fX3_pass_b1 (i1x : Nat) (v1_1 : Int32) (σL1 : (Nat → Nat → Int32)) : Int32 × (Nat → Nat → Int32) :=
    if (fX3_of σL1 (nI i1x) (6 : Int32)) = (1 : Int32) then
      let τ6 : (Nat → Nat → Int32) := (fX3_nurse σL1 (nI i1x))
      if (fX3_of τ6 (nI i1x) (6 : Int32)) = (2 : Int32) then
        ((v1_1 ||| ((1 : Int32) <<< ((nI i1x) &&& 31))), τ6)
      else
        ((v1_1 ||| (0 : Int32)), τ6)
    else
      (v1_1, σL1)
def fX3_pass_k1 (θ : (Nat → Nat → Int32)) (v1_1 : Int32) (σL1 : (Nat → Nat → Int32)) : (Nat → Nat → Int32) :=
    fX3_pass_k2 v1_1 (itR (fun i x => fX3_pass_b2 θ i x) 0 (wfn σL1) σL1)
def fX3_pass_k1x (θ : (Nat → Nat → Int32)) (x : Int32 × (Nat → Nat → Int32)) : (Nat → Nat → Int32) := fX3_pass_k1 θ x.1 x.2
def fX3_pass (θ : (Nat → Nat → Int32)) (τ : (Nat → Nat → Int32)) : (Nat → Nat → Int32) :=
    let τ1 : (Nat → Nat → Int32) := (fX3_fire τ)
    let τ2 : (Nat → Nat → Int32) := (fX3_comb τ1)
    let τ3 : (Nat → Nat → Int32) := (fX3_fever θ τ2)
    fX3_pass_k1x θ (itR (fun i x => fX3_pass_b1 i x.1 x.2) 0 (wfn τ3) ((0 : Int32), τ3))
set_option maxHeartbeats 400000 in
set_option maxRecDepth 100000 in
theorem c_X3_pass (l : Launch) (D : va_G) (cI : ClassId) (b : Nat → Nat) (s : Nat) (θ τ ρ : (Nat → Nat → Int32)) (hs : s < 2) (N : Nat) (hW : wf τ N) (hwk : ¬ τ 0 0 < 0) : rMv l yX3_pass wsX3_pass rmX3_pass D cI b [.ref (b (3*s+2+0))] s θ τ ρ θ (fX3_pass θ τ) := by
  intro sz
  refine r_head (cc := cX3_pass) (maxL := 3) (ret := none) (plainFor_of_name (by decide)) rfl (Nat.le_of_ble_eq_true rfl) ?_
  intro p e S m below meth c hx hb hr hml hown hts hlocks hnm hsz hA hC ls hl
  have hF : CallFix p m c cX3_pass 3 S [.ref (b (3*s+2+0))].toArray wsX3_pass RX3 := ⟨hx, hb, hml, hown, hts⟩
  have h_f35 : (Cond.fieldLink RX3 35 "CombersSocietyModel$State" "members" "I").before [.ref (b (3*s+2+0))].toArray S = true := hts _ (by decide +kernel)
  have h_iX3 : ∀ w ∈ u_ws RX3 TX3 12, w ∈ wsX3_pass := by decide +kernel
  have h_f32 : (Cond.fieldLink RX3 32 "CombersSocietyModel$State" "week" "I").before [.ref (b (3*s+2+0))].toArray S = true := hts _ (by decide +kernel)
  have hl : lv_has ls 3 [(0, .ref (b (3*s+2+0)))] := hl
  refine lv_aload_n hx hb dX3_pass_0 rfl (lv_at hl 0 rfl) ?_
  refine r_iVv (n := 0) hF (c_X3_fire l D cI b s θ τ ρ hs  N hW) gX3_pass_X3_fire rfl rfl rfl (by decide +kernel) ⟨Nat.le_of_ble_eq_true rfl, Nat.le_of_ble_eq_true rfl⟩ hC hA (hC.recvS hs) rfl hl.1 rfl (Nat.le_of_ble_eq_true rfl) dX3_pass_1 ⟨Nat.zero_le _, Nat.zero_le _⟩ ?_
  clear hC; intro H locs τ1 eτ1 hC
  have hwτ1 : wf τ1 N := by rw [← eτ1]; exact wf_X3_fire hW 
  refine lv_aload_n hx hb dX3_pass_4 rfl (lv_at hl 0 rfl) ?_
  refine r_iVv (n := 0) hF (c_X3_comb l D cI b s θ τ1 ρ hs  N hwτ1) gX3_pass_X3_comb rfl rfl rfl (by decide +kernel) ⟨Nat.le_of_ble_eq_true rfl, Nat.le_of_ble_eq_true rfl⟩ hC hA (hC.recvS hs) rfl hl.1 rfl (Nat.le_of_ble_eq_true rfl) dX3_pass_5 ⟨Nat.zero_le _, Nat.zero_le _⟩ ?_
  clear hC; intro H locs τ2 eτ2 hC
  have hwτ2 : wf τ2 N := by rw [← eτ2]; exact wf_X3_comb hwτ1 
  refine lv_aload_n hx hb dX3_pass_8 rfl (lv_at hl 0 rfl) ?_
  refine r_iVv (n := 0) hF (c_X3_fever l D cI b s θ τ2 ρ hs  N hwτ2 (by rw [← eτ2, fX3_comb_00 hwτ1, ← eτ1, fX3_fire_00]; exact hwk)) gX3_pass_X3_fever rfl rfl rfl (by decide +kernel) ⟨Nat.le_of_ble_eq_true rfl, Nat.le_of_ble_eq_true rfl⟩ hC hA (hC.recvS hs) rfl hl.1 rfl (Nat.le_of_ble_eq_true rfl) dX3_pass_9 ⟨Nat.zero_le _, Nat.zero_le _⟩ ?_
  clear hC; intro H locs τ3 eτ3 hC
  have hwτ3 : wf τ3 N := by rw [← eτ3]; exact wf_X3_fever hwτ2
  refine lv_iconst (v := 0) hx hb dX3_pass_12 (by decide) ?_
  refine lv_istore_n (lv' := [(1, .int (0 : Int32)), (0, .ref (b (3*s+2+0)))]) hx hb dX3_pass_13 rfl hl (by decide) rfl ?_
  clear hl; intro ls hl
  refine lv_iconst (v := 0) hx hb dX3_pass_14 (by decide) ?_
  refine lv_istore_n (lv' := [(2, .int (0 : Int32)), (1, .int (0 : Int32)), (0, .ref (b (3*s+2+0)))]) hx hb dX3_pass_15 rfl hl (by decide) rfl ?_
  clear hl; intro ls hl
  have loop1 : ∀ (n1x i1x : Nat) (v1_1 : Int32) (σL1 : (Nat → Nat → Int32)), i1x + n1x = N → itR (fun i x => fX3_pass_b1 i x.1 x.2) i1x n1x (v1_1, σL1) = itR (fun i x => fX3_pass_b1 i x.1 x.2) 0 (wfn τ3) ((0 : Int32), τ3) → wf σL1 N → ∀ (H : Heap) (locs : List Loc), rB D cI b S (rA b sz) S.heap H locs s θ σL1 ρ → ∀ ls : Array Slot, lv_has ls 3 [(2, .int (nI i1x)), (1, .int v1_1), (0, .ref (b (3*s+2+0)))] → W p l e (headSpec wsX3_pass rmX3_pass).room S m [.ref (b (3*s+2+0))].toArray below meth c H locs 0 0 (MQ below (va_Qv (fun (_ : Unit) => True) (rPost D cI b s θ (fX3_pass θ τ) ρ) (rA b sz)) [.ref (b (3*s+2+0))].toArray S 0 0 (rA b sz)) (F0 m 16 ls []) := by
    clear hC hl
    intro n1x
    induction n1x with
    | zero =>
      intro i1x v1_1 σL1 hin1 hX1 hW1 H locs hC ls hl
      obtain rfl : N = i1x := by omega
      have q1 : fX3_pass θ τ = fX3_pass_k1 θ v1_1 σL1 := by subst eτ1 eτ2 eτ3; exact ((congrArg (fX3_pass_k1x θ) hX1.symm).trans rfl)
      refine lv_iload_n hx hb dX3_pass_16 rfl (lv_at hl 0 rfl) ?_
      refine lv_aload_n hx hb dX3_pass_17 rfl (lv_at hl 2 rfl) ?_
      refine rg_s hx hb hts h_iX3 hown hC hs 1 (by decide) h_f35 dX3_pass_18 ?_
      refine lv_icmp_ge (tgt := 70) hx hb dX3_pass_21 (by decide) (fun c8 => ?_) (fun c8 => absurd (wf_ex hW1) c8)
      refine lv_iconst (v := 0) hx hb dX3_pass_70 (by decide) ?_
      refine lv_istore_n (lv' := [(2, .int (0 : Int32)), (1, .int v1_1), (0, .ref (b (3*s+2+0)))]) hx hb dX3_pass_71 rfl hl (by decide) rfl ?_
      clear hl; intro ls hl
      have loop2 : ∀ (n2x i2x : Nat) (σL2 : (Nat → Nat → Int32)), i2x + n2x = N → itR (fun i x => fX3_pass_b2 θ i x) i2x n2x σL2 = itR (fun i x => fX3_pass_b2 θ i x) 0 (wfn σL1) σL1 → wf σL2 N → ∀ (H : Heap) (locs : List Loc), rB D cI b S (rA b sz) S.heap H locs s θ σL2 ρ → ∀ ls : Array Slot, lv_has ls 3 [(2, .int (nI i2x)), (1, .int v1_1), (0, .ref (b (3*s+2+0)))] → W p l e (headSpec wsX3_pass rmX3_pass).room S m [.ref (b (3*s+2+0))].toArray below meth c H locs 0 0 (MQ below (va_Qv (fun (_ : Unit) => True) (rPost D cI b s θ (fX3_pass θ τ) ρ) (rA b sz)) [.ref (b (3*s+2+0))].toArray S 0 0 (rA b sz)) (F0 m 72 ls []) := by
        clear hC hl
        intro n2x
        induction n2x with
        | zero =>
          intro i2x σL2 hin2 hX2 hW2 H locs hC ls hl
          obtain rfl : N = i2x := by omega
          have q2 : fX3_pass_k1 θ v1_1 σL1 = fX3_pass_k2 v1_1 σL2 := by subst eτ1 eτ2 eτ3; exact ((congrArg (fX3_pass_k2 v1_1) hX2.symm).trans rfl)
          refine lv_iload_n hx hb dX3_pass_72 rfl (lv_at hl 0 rfl) ?_
          refine lv_aload_n hx hb dX3_pass_73 rfl (lv_at hl 2 rfl) ?_
          refine rg_s hx hb hts h_iX3 hown hC hs 1 (by decide) h_f35 dX3_pass_74 ?_
          refine lv_icmp_ge (tgt := 101) hx hb dX3_pass_77 (by decide) (fun c12 => ?_) (fun c12 => absurd (wf_ex hW2) c12)
          refine lv_iconst (v := 0) hx hb dX3_pass_101 (by decide) ?_
          refine lv_istore_n (lv' := [(2, .int (0 : Int32)), (1, .int v1_1), (0, .ref (b (3*s+2+0)))]) hx hb dX3_pass_102 rfl hl (by decide) rfl ?_
          clear hl; intro ls hl
          have loop3 : ∀ (n3x i3x : Nat) (σL3 : (Nat → Nat → Int32)), i3x + n3x = N → itR (fun i x => fX3_pass_b3 i x) i3x n3x σL3 = itR (fun i x => fX3_pass_b3 i x) 0 (wfn σL2) σL2 → wf σL3 N → ∀ (H : Heap) (locs : List Loc), rB D cI b S (rA b sz) S.heap H locs s θ σL3 ρ → ∀ ls : Array Slot, lv_has ls 3 [(2, .int (nI i3x)), (1, .int v1_1), (0, .ref (b (3*s+2+0)))] → W p l e (headSpec wsX3_pass rmX3_pass).room S m [.ref (b (3*s+2+0))].toArray below meth c H locs 0 0 (MQ below (va_Qv (fun (_ : Unit) => True) (rPost D cI b s θ (fX3_pass θ τ) ρ) (rA b sz)) [.ref (b (3*s+2+0))].toArray S 0 0 (rA b sz)) (F0 m 103 ls []) := by
            clear hC hl
            intro n3x
            induction n3x with
            | zero =>
              intro i3x σL3 hin3 hX3 hW3 H locs hC ls hl
              obtain rfl : N = i3x := by omega
              have q3 : fX3_pass_k2 v1_1 σL2 = fX3_pass_k3 v1_1 σL3 := by subst eτ1 eτ2 eτ3; exact ((congrArg (fX3_pass_k3 v1_1) hX3.symm).trans rfl)
              refine lv_iload_n hx hb dX3_pass_103 rfl (lv_at hl 0 rfl) ?_
              refine lv_aload_n hx hb dX3_pass_104 rfl (lv_at hl 2 rfl) ?_
              refine rg_s hx hb hts h_iX3 hown hC hs 1 (by decide) h_f35 dX3_pass_105 ?_
              refine lv_icmp_ge (tgt := 142) hx hb dX3_pass_108 (by decide) (fun c17 => ?_) (fun c17 => absurd (wf_ex hW3) c17)
              refine lv_iconst (v := 0) hx hb dX3_pass_142 (by decide) ?_
              refine lv_istore_n (lv' := [(2, .int (0 : Int32)), (1, .int v1_1), (0, .ref (b (3*s+2+0)))]) hx hb dX3_pass_143 rfl hl (by decide) rfl ?_
              clear hl; intro ls hl
              have loop4 : ∀ (n4x i4x : Nat) (σL4 : (Nat → Nat → Int32)), i4x + n4x = N → itR (fun i x => fX3_pass_b4 v1_1 i x) i4x n4x σL4 = itR (fun i x => fX3_pass_b4 v1_1 i x) 0 (wfn σL3) σL3 → wf σL4 N → ∀ (H : Heap) (locs : List Loc), rB D cI b S (rA b sz) S.heap H locs s θ σL4 ρ → ∀ ls : Array Slot, lv_has ls 3 [(2, .int (nI i4x)), (1, .int v1_1), (0, .ref (b (3*s+2+0)))] → W p l e (headSpec wsX3_pass rmX3_pass).room S m [.ref (b (3*s+2+0))].toArray below meth c H locs 0 0 (MQ below (va_Qv (fun (_ : Unit) => True) (rPost D cI b s θ (fX3_pass θ τ) ρ) (rA b sz)) [.ref (b (3*s+2+0))].toArray S 0 0 (rA b sz)) (F0 m 144 ls []) := by
                clear hC hl
                intro n4x
                induction n4x with
                | zero =>
                  intro i4x σL4 hin4 hX4 hW4 H locs hC ls hl
                  obtain rfl : N = i4x := by omega
                  have q4 : fX3_pass_k3 v1_1 σL3 = fX3_pass_k4 σL4 := by subst eτ1 eτ2 eτ3; exact ((congrArg (fX3_pass_k4) hX4.symm).trans rfl)
                  refine lv_iload_n hx hb dX3_pass_144 rfl (lv_at hl 0 rfl) ?_
                  refine lv_aload_n hx hb dX3_pass_145 rfl (lv_at hl 2 rfl) ?_
                  refine rg_s hx hb hts h_iX3 hown hC hs 1 (by decide) h_f35 dX3_pass_146 ?_
                  refine lv_icmp_ge (tgt := 172) hx hb dX3_pass_149 (by decide) (fun c21 => ?_) (fun c21 => absurd (wf_ex hW4) c21)
                  refine lv_aload_n hx hb dX3_pass_172 rfl (lv_at hl 2 rfl) ?_
                  refine lv_dup hx hb dX3_pass_173 rfl ?_
                  refine rg_s hx hb hts h_iX3 hown hC hs 0 (by decide) h_f32 dX3_pass_174 ?_
                  refine lv_iconst (v := 1) hx hb dX3_pass_177 (by decide) ?_
                  refine lv_iadd hx hb dX3_pass_178 ?_
                  refine rp_s hx hb hts h_iX3 hown hC hs 0 (by decide) h_f32 dX3_pass_179 ?_
                  clear hC; intro H locs τ22 eτ22 hC
                  have hwτ22 : wf τ22 N := by rw [← eτ22]; exact wf_up0 hW4 (by decide)
                  have e0 : fX3_pass_k4 σL4 = τ22 := by subst eτ1 eτ2 eτ3 eτ22; exact rfl
                  have e : fX3_pass θ τ = τ22 := (q1.trans (q2.trans (q3.trans (q4.trans e0))))
                  exact r_vret hx hb hr hlocks hC dX3_pass_182 ⟨rfl, by rw [e]⟩
                | succ n4x ih4 =>
                  intro i4x σL4 hin4 hX4 hW4 H locs hC ls hl
                  have hN12 := wf_12 hW4
                  refine lv_iload_n hx hb dX3_pass_144 rfl (lv_at hl 0 rfl) ?_
                  refine lv_aload_n hx hb dX3_pass_145 rfl (lv_at hl 2 rfl) ?_
                  refine rg_s hx hb hts h_iX3 hown hC hs 1 (by decide) h_f35 dX3_pass_146 ?_
                  refine lv_icmp_ge (tgt := 172) hx hb dX3_pass_149 (by decide) (fun c18 => absurd c18 (wf_in hW4 (by omega))) (fun c18 => ?_)
                  refine lv_iload_n hx hb dX3_pass_152 rfl (lv_at hl 1 rfl) ?_
                  refine lv_iload_n hx hb dX3_pass_153 rfl (lv_at hl 0 rfl) ?_
                  refine lv_ishr hx hb dX3_pass_154 ?_
                  refine lv_iconst (v := 1) hx hb dX3_pass_155 (by decide) ?_
                  refine lv_iand hx hb dX3_pass_156 ?_
                  refine lv_iconst (v := 1) hx hb dX3_pass_157 (by decide) ?_
                  refine lv_icmp_ne (tgt := 166) hx hb dX3_pass_158 (by decide) (fun c19 => ?_) (fun c19 => ?_)
                  · refine lv_iinc (v := (nI (i4x + 1))) (lv' := [(2, .int (nI (i4x + 1))), (1, .int v1_1), (0, .ref (b (3*s+2+0)))]) hx hb dX3_pass_166 hl (k := 0) rfl (nI_1 i4x) (by decide) rfl ?_
                    clear hl; intro ls hl
                    refine lv_goto (tgt := 144) hx hb dX3_pass_169 (by decide) ?_
                    have e : fX3_pass_b4 v1_1 i4x σL4 = σL4 := by exact ((if_neg c19).trans rfl)
                    exact ih4 (i4x + 1) σL4 (by omega) (by rw [← e]; exact hX4) hW4 _ _ hC ls (lv_sub hl [0, 1, 2] rfl)
                  · refine lv_aload_n hx hb dX3_pass_161 rfl (lv_at hl 2 rfl) ?_
                    refine lv_iload_n hx hb dX3_pass_162 rfl (lv_at hl 0 rfl) ?_
                    refine r_iVv (n := 1) hF (c_X3_bury l D cI b s θ σL4 ρ hs (nI i4x) ⟨i4x, by omega, rfl⟩ N hW4) gX3_pass_X3_bury rfl rfl rfl (by decide +kernel) ⟨Nat.le_of_ble_eq_true rfl, Nat.le_of_ble_eq_true rfl⟩ hC hA (hC.recvS hs) rfl hl.1 rfl (Nat.le_of_ble_eq_true rfl) dX3_pass_163 ⟨Nat.zero_le _, Nat.zero_le _⟩ ?_
                    clear hC; intro H locs τ20 eτ20 hC
                    have hwτ20 : wf τ20 N := by rw [← eτ20]; exact wf_X3_bury hW4 ⟨i4x, by omega, rfl⟩
                    refine lv_iinc (v := (nI (i4x + 1))) (lv' := [(2, .int (nI (i4x + 1))), (1, .int v1_1), (0, .ref (b (3*s+2+0)))]) hx hb dX3_pass_166 hl (k := 0) rfl (nI_1 i4x) (by decide) rfl ?_
                    clear hl; intro ls hl
                    refine lv_goto (tgt := 144) hx hb dX3_pass_169 (by decide) ?_
                    have e : fX3_pass_b4 v1_1 i4x σL4 = τ20 := by subst eτ20; exact ((if_pos c19).trans rfl)
                    exact ih4 (i4x + 1) τ20 (by omega) (by rw [← e]; exact hX4) hwτ20 _ _ hC ls (lv_sub hl [0, 1, 2] rfl)
              exact loop4 N 0 σL3 (by omega) (by rw [wfn_eq hW3]) hW3 _ _ hC ls (lv_sub hl [0, 1, 2] rfl)
            | succ n3x ih3 =>
              intro i3x σL3 hin3 hX3 hW3 H locs hC ls hl
              have hN12 := wf_12 hW3
              refine lv_iload_n hx hb dX3_pass_103 rfl (lv_at hl 0 rfl) ?_
              refine lv_aload_n hx hb dX3_pass_104 rfl (lv_at hl 2 rfl) ?_
              refine rg_s hx hb hts h_iX3 hown hC hs 1 (by decide) h_f35 dX3_pass_105 ?_
              refine lv_icmp_ge (tgt := 142) hx hb dX3_pass_108 (by decide) (fun c13 => absurd c13 (wf_in hW3 (by omega))) (fun c13 => ?_)
              refine lv_aload_n hx hb dX3_pass_111 rfl (lv_at hl 2 rfl) ?_
              refine rg_s hx hb hts h_iX3 hown hC hs 0 (by decide) h_f32 dX3_pass_112 ?_
              refine lv_iconst (v := 4) hx hb dX3_pass_115 (by decide) ?_
              refine lv_irem hx hb dX3_pass_116 (by decide) ?_
              refine lv_iconst (v := 3) hx hb dX3_pass_117 (by decide) ?_
              refine lv_icmp_ne (tgt := 136) hx hb dX3_pass_118 (by decide) (fun c14 => ?_) (fun c14 => ?_)
              · refine lv_iinc (v := (nI (i3x + 1))) (lv' := [(2, .int (nI (i3x + 1))), (1, .int v1_1), (0, .ref (b (3*s+2+0)))]) hx hb dX3_pass_136 hl (k := 0) rfl (nI_1 i3x) (by decide) rfl ?_
                clear hl; intro ls hl
                refine lv_goto (tgt := 103) hx hb dX3_pass_139 (by decide) ?_
                have e : fX3_pass_b3 i3x σL3 = σL3 := by exact ((if_neg c14).trans rfl)
                exact ih3 (i3x + 1) σL3 (by omega) (by rw [← e]; exact hX3) hW3 _ _ hC ls (lv_sub hl [0, 1, 2] rfl)
              · refine lv_aload_n hx hb dX3_pass_121 rfl (lv_at hl 2 rfl) ?_
                refine lv_iload_n hx hb dX3_pass_122 rfl (lv_at hl 0 rfl) ?_
                refine lv_bipush (v := 6) hx hb dX3_pass_123 (by decide) ?_
                refine r_iVp (n := 2) hF (c_X3_of l D cI b s θ σL3 ρ hs (nI i3x) (6 : Int32) ⟨i3x, by omega, rfl⟩ ⟨6, by decide, rfl⟩) gX3_pass_X3_of rfl rfl rfl (by decide +kernel) ⟨Nat.le_of_ble_eq_true rfl, Nat.le_of_ble_eq_true rfl⟩ hC hA (hC.recvS hs) rfl hl.1 rfl (Nat.le_of_ble_eq_true rfl) dX3_pass_125 ⟨Nat.zero_le _, Nat.zero_le _⟩ ?_
                clear hC; intro H locs hC
                refine lv_if_ne (tgt := 136) hx hb dX3_pass_128 (by decide) (fun c15 => ?_) (fun c15 => ?_)
                · refine lv_iinc (v := (nI (i3x + 1))) (lv' := [(2, .int (nI (i3x + 1))), (1, .int v1_1), (0, .ref (b (3*s+2+0)))]) hx hb dX3_pass_136 hl (k := 0) rfl (nI_1 i3x) (by decide) rfl ?_
                  clear hl; intro ls hl
                  refine lv_goto (tgt := 103) hx hb dX3_pass_139 (by decide) ?_
                  have e : fX3_pass_b3 i3x σL3 = σL3 := by exact ((if_pos c14).trans ((if_neg c15).trans rfl))
                  exact ih3 (i3x + 1) σL3 (by omega) (by rw [← e]; exact hX3) hW3 _ _ hC ls (lv_sub hl [0, 1, 2] rfl)
                · refine lv_aload_n hx hb dX3_pass_131 rfl (lv_at hl 2 rfl) ?_
                  refine lv_iload_n hx hb dX3_pass_132 rfl (lv_at hl 0 rfl) ?_
                  refine r_iVv (n := 1) hF (c_X3_drink l D cI b s θ σL3 ρ hs (nI i3x) ⟨i3x, by omega, rfl⟩) gX3_pass_X3_drink rfl rfl rfl (by decide +kernel) ⟨Nat.le_of_ble_eq_true rfl, Nat.le_of_ble_eq_true rfl⟩ hC hA (hC.recvS hs) rfl hl.1 rfl (Nat.le_of_ble_eq_true rfl) dX3_pass_133 ⟨Nat.zero_le _, Nat.zero_le _⟩ ?_
                  clear hC; intro H locs τ16 eτ16 hC
                  have hwτ16 : wf τ16 N := by rw [← eτ16]; exact wf_X3_drink hW3 ⟨i3x, by omega, rfl⟩
                  refine lv_iinc (v := (nI (i3x + 1))) (lv' := [(2, .int (nI (i3x + 1))), (1, .int v1_1), (0, .ref (b (3*s+2+0)))]) hx hb dX3_pass_136 hl (k := 0) rfl (nI_1 i3x) (by decide) rfl ?_
                  clear hl; intro ls hl
                  refine lv_goto (tgt := 103) hx hb dX3_pass_139 (by decide) ?_
                  have e : fX3_pass_b3 i3x σL3 = τ16 := by subst eτ16; exact ((if_pos c14).trans ((if_pos c15).trans rfl))
                  exact ih3 (i3x + 1) τ16 (by omega) (by rw [← e]; exact hX3) hwτ16 _ _ hC ls (lv_sub hl [0, 1, 2] rfl)
          exact loop3 N 0 σL2 (by omega) (by rw [wfn_eq hW2]) hW2 _ _ hC ls (lv_sub hl [0, 1, 2] rfl)
        | succ n2x ih2 =>
          intro i2x σL2 hin2 hX2 hW2 H locs hC ls hl
          have hN12 := wf_12 hW2
          refine lv_iload_n hx hb dX3_pass_72 rfl (lv_at hl 0 rfl) ?_
          refine lv_aload_n hx hb dX3_pass_73 rfl (lv_at hl 2 rfl) ?_
          refine rg_s hx hb hts h_iX3 hown hC hs 1 (by decide) h_f35 dX3_pass_74 ?_
          refine lv_icmp_ge (tgt := 101) hx hb dX3_pass_77 (by decide) (fun c9 => absurd c9 (wf_in hW2 (by omega))) (fun c9 => ?_)
          refine lv_aload_n hx hb dX3_pass_80 rfl (lv_at hl 2 rfl) ?_
          refine lv_iload_n hx hb dX3_pass_81 rfl (lv_at hl 0 rfl) ?_
          refine lv_bipush (v := 6) hx hb dX3_pass_82 (by decide) ?_
          refine r_iVp (n := 2) hF (c_X3_of l D cI b s θ σL2 ρ hs (nI i2x) (6 : Int32) ⟨i2x, by omega, rfl⟩ ⟨6, by decide, rfl⟩) gX3_pass_X3_of rfl rfl rfl (by decide +kernel) ⟨Nat.le_of_ble_eq_true rfl, Nat.le_of_ble_eq_true rfl⟩ hC hA (hC.recvS hs) rfl hl.1 rfl (Nat.le_of_ble_eq_true rfl) dX3_pass_84 ⟨Nat.zero_le _, Nat.zero_le _⟩ ?_
          clear hC; intro H locs hC
          refine lv_if_ne (tgt := 95) hx hb dX3_pass_87 (by decide) (fun c10 => ?_) (fun c10 => ?_)
          · refine lv_iinc (v := (nI (i2x + 1))) (lv' := [(2, .int (nI (i2x + 1))), (1, .int v1_1), (0, .ref (b (3*s+2+0)))]) hx hb dX3_pass_95 hl (k := 0) rfl (nI_1 i2x) (by decide) rfl ?_
            clear hl; intro ls hl
            refine lv_goto (tgt := 72) hx hb dX3_pass_98 (by decide) ?_
            have e : fX3_pass_b2 θ i2x σL2 = σL2 := by exact ((if_neg c10).trans rfl)
            exact ih2 (i2x + 1) σL2 (by omega) (by rw [← e]; exact hX2) hW2 _ _ hC ls (lv_sub hl [0, 1, 2] rfl)
          · refine lv_aload_n hx hb dX3_pass_90 rfl (lv_at hl 2 rfl) ?_
            refine lv_iload_n hx hb dX3_pass_91 rfl (lv_at hl 0 rfl) ?_
            refine r_iVv (n := 1) hF (c_X3_payDues l D cI b s θ σL2 ρ hs (nI i2x) ⟨i2x, by omega, rfl⟩) gX3_pass_X3_payDues rfl rfl rfl (by decide +kernel) ⟨Nat.le_of_ble_eq_true rfl, Nat.le_of_ble_eq_true rfl⟩ hC hA (hC.recvS hs) rfl hl.1 rfl (Nat.le_of_ble_eq_true rfl) dX3_pass_92 ⟨Nat.zero_le _, Nat.zero_le _⟩ ?_
            clear hC; intro H locs τ11 eτ11 hC
            have hwτ11 : wf τ11 N := by rw [← eτ11]; exact wf_X3_payDues hW2 ⟨i2x, by omega, rfl⟩
            refine lv_iinc (v := (nI (i2x + 1))) (lv' := [(2, .int (nI (i2x + 1))), (1, .int v1_1), (0, .ref (b (3*s+2+0)))]) hx hb dX3_pass_95 hl (k := 0) rfl (nI_1 i2x) (by decide) rfl ?_
            clear hl; intro ls hl
            refine lv_goto (tgt := 72) hx hb dX3_pass_98 (by decide) ?_
            have e : fX3_pass_b2 θ i2x σL2 = τ11 := by subst eτ11; exact ((if_pos c10).trans rfl)
            exact ih2 (i2x + 1) τ11 (by omega) (by rw [← e]; exact hX2) hwτ11 _ _ hC ls (lv_sub hl [0, 1, 2] rfl)
      exact loop2 N 0 σL1 (by omega) (by rw [wfn_eq hW1]) hW1 _ _ hC ls (lv_sub hl [0, 1, 2] rfl)
    | succ n1x ih1 =>
      intro i1x v1_1 σL1 hin1 hX1 hW1 H locs hC ls hl
      have hN12 := wf_12 hW1
      refine lv_iload_n hx hb dX3_pass_16 rfl (lv_at hl 0 rfl) ?_
      refine lv_aload_n hx hb dX3_pass_17 rfl (lv_at hl 2 rfl) ?_
      refine rg_s hx hb hts h_iX3 hown hC hs 1 (by decide) h_f35 dX3_pass_18 ?_
      refine lv_icmp_ge (tgt := 70) hx hb dX3_pass_21 (by decide) (fun c4 => absurd c4 (wf_in hW1 (by omega))) (fun c4 => ?_)
      refine lv_aload_n hx hb dX3_pass_24 rfl (lv_at hl 2 rfl) ?_
      refine lv_iload_n hx hb dX3_pass_25 rfl (lv_at hl 0 rfl) ?_
      refine lv_bipush (v := 6) hx hb dX3_pass_26 (by decide) ?_
      refine r_iVp (n := 2) hF (c_X3_of l D cI b s θ σL1 ρ hs (nI i1x) (6 : Int32) ⟨i1x, by omega, rfl⟩ ⟨6, by decide, rfl⟩) gX3_pass_X3_of rfl rfl rfl (by decide +kernel) ⟨Nat.le_of_ble_eq_true rfl, Nat.le_of_ble_eq_true rfl⟩ hC hA (hC.recvS hs) rfl hl.1 rfl (Nat.le_of_ble_eq_true rfl) dX3_pass_28 ⟨Nat.zero_le _, Nat.zero_le _⟩ ?_
      clear hC; intro H locs hC
      refine lv_iconst (v := 1) hx hb dX3_pass_31 (by decide) ?_
      refine lv_icmp_eq (tgt := 38) hx hb dX3_pass_32 (by decide) (fun c5 => ?_) (fun c5 => ?_)
      · refine lv_aload_n hx hb dX3_pass_38 rfl (lv_at hl 2 rfl) ?_
        refine lv_iload_n hx hb dX3_pass_39 rfl (lv_at hl 0 rfl) ?_
        refine r_iVv (n := 1) hF (c_X3_nurse l D cI b s θ σL1 ρ hs (nI i1x) ⟨i1x, by omega, rfl⟩) gX3_pass_X3_nurse rfl rfl rfl (by decide +kernel) ⟨Nat.le_of_ble_eq_true rfl, Nat.le_of_ble_eq_true rfl⟩ hC hA (hC.recvS hs) rfl hl.1 rfl (Nat.le_of_ble_eq_true rfl) dX3_pass_40 ⟨Nat.zero_le _, Nat.zero_le _⟩ ?_
        clear hC; intro H locs τ6 eτ6 hC
        have hwτ6 : wf τ6 N := by rw [← eτ6]; exact wf_X3_nurse hW1 ⟨i1x, by omega, rfl⟩
        refine lv_iload_n hx hb dX3_pass_43 rfl (lv_at hl 1 rfl) ?_
        refine lv_aload_n hx hb dX3_pass_44 rfl (lv_at hl 2 rfl) ?_
        refine lv_iload_n hx hb dX3_pass_45 rfl (lv_at hl 0 rfl) ?_
        refine lv_bipush (v := 6) hx hb dX3_pass_46 (by decide) ?_
        refine r_iVp (n := 2) hF (c_X3_of l D cI b s θ τ6 ρ hs (nI i1x) (6 : Int32) ⟨i1x, by omega, rfl⟩ ⟨6, by decide, rfl⟩) gX3_pass_X3_of rfl rfl rfl (by decide +kernel) ⟨Nat.le_of_ble_eq_true rfl, Nat.le_of_ble_eq_true rfl⟩ hC hA (hC.recvS hs) rfl hl.1 rfl (Nat.le_of_ble_eq_true rfl) dX3_pass_48 ⟨Nat.zero_le _, Nat.zero_le _⟩ ?_
        clear hC; intro H locs hC
        refine lv_iconst (v := 2) hx hb dX3_pass_51 (by decide) ?_
        refine lv_icmp_ne (tgt := 61) hx hb dX3_pass_52 (by decide) (fun c7 => ?_) (fun c7 => ?_)
        · refine lv_iconst (v := 0) hx hb dX3_pass_61 (by decide) ?_
          refine lv_ior hx hb dX3_pass_62 ?_
          refine lv_istore_n (lv' := [(1, .int (v1_1 ||| (0 : Int32))), (2, .int (nI i1x)), (0, .ref (b (3*s+2+0)))]) hx hb dX3_pass_63 rfl hl (by decide) rfl ?_
          clear hl; intro ls hl
          refine lv_iinc (v := (nI (i1x + 1))) (lv' := [(2, .int (nI (i1x + 1))), (1, .int (v1_1 ||| (0 : Int32))), (0, .ref (b (3*s+2+0)))]) hx hb dX3_pass_64 hl (k := 1) rfl (nI_1 i1x) (by decide) rfl ?_
          clear hl; intro ls hl
          refine lv_goto (tgt := 16) hx hb dX3_pass_67 (by decide) ?_
          have e : fX3_pass_b1 i1x v1_1 σL1 = ((v1_1 ||| (0 : Int32)), τ6) := by subst eτ6; exact ((if_pos c5).trans ((if_neg c7).trans rfl))
          exact ih1 (i1x + 1) (v1_1 ||| (0 : Int32)) τ6 (by omega) (by rw [← e]; exact hX1) hwτ6 _ _ hC ls (lv_sub hl [0, 1, 2] rfl)
        · refine lv_iconst (v := 1) hx hb dX3_pass_55 (by decide) ?_
          refine lv_iload_n hx hb dX3_pass_56 rfl (lv_at hl 0 rfl) ?_
          refine lv_ishl hx hb dX3_pass_57 ?_
          refine lv_goto (tgt := 62) hx hb dX3_pass_58 (by decide) ?_
          refine lv_ior hx hb dX3_pass_62 ?_
          refine lv_istore_n (lv' := [(1, .int (v1_1 ||| ((1 : Int32) <<< ((nI i1x) &&& 31)))), (2, .int (nI i1x)), (0, .ref (b (3*s+2+0)))]) hx hb dX3_pass_63 rfl hl (by decide) rfl ?_
          clear hl; intro ls hl
          refine lv_iinc (v := (nI (i1x + 1))) (lv' := [(2, .int (nI (i1x + 1))), (1, .int (v1_1 ||| ((1 : Int32) <<< ((nI i1x) &&& 31)))), (0, .ref (b (3*s+2+0)))]) hx hb dX3_pass_64 hl (k := 1) rfl (nI_1 i1x) (by decide) rfl ?_
          clear hl; intro ls hl
          refine lv_goto (tgt := 16) hx hb dX3_pass_67 (by decide) ?_
          have e : fX3_pass_b1 i1x v1_1 σL1 = ((v1_1 ||| ((1 : Int32) <<< ((nI i1x) &&& 31))), τ6) := by subst eτ6; exact ((if_pos c5).trans ((if_pos c7).trans rfl))
          exact ih1 (i1x + 1) (v1_1 ||| ((1 : Int32) <<< ((nI i1x) &&& 31))) τ6 (by omega) (by rw [← e]; exact hX1) hwτ6 _ _ hC ls (lv_sub hl [0, 1, 2] rfl)
      · refine lv_goto (tgt := 64) hx hb dX3_pass_35 (by decide) ?_
        refine lv_iinc (v := (nI (i1x + 1))) (lv' := [(2, .int (nI (i1x + 1))), (1, .int v1_1), (0, .ref (b (3*s+2+0)))]) hx hb dX3_pass_64 hl (k := 0) rfl (nI_1 i1x) (by decide) rfl ?_
        clear hl; intro ls hl
        refine lv_goto (tgt := 16) hx hb dX3_pass_67 (by decide) ?_
        have e : fX3_pass_b1 i1x v1_1 σL1 = (v1_1, σL1) := by exact ((if_neg c5).trans rfl)
        exact ih1 (i1x + 1) v1_1 σL1 (by omega) (by rw [← e]; exact hX1) hW1 _ _ hC ls (lv_sub hl [0, 1, 2] rfl)
  exact loop1 N 0 (0 : Int32) τ3 (by omega) (by rw [wfn_eq hwτ3]) hwτ3 _ _ hC ls (lv_sub hl [0, 1, 2] rfl)
