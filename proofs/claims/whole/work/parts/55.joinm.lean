/-! CombersSocietyModel.join: makes a row of nine -/
def rMj (l : Launch) (y : MethodName) (ws : List Cond) (rm : Room) (D : va_G) (cI : ClassId) (b : Nat → Nat) (av : List Value) (s : Nat) (θ τ ρ : Nat → Nat → Int32) (r : Int32) (θ2 τ2 : Nat → Nat → Int32) : Prop :=
  ∀ sz, Met l y ws rm (va_Pc av (rPre D cI b sz s θ τ ρ)) (va_Qi (fun r' (_ : Unit) => r' = r) (rPost D cI b s θ2 τ2 ρ) (rA b sz)) 1 9 (rA b sz)
abbrev rmX4_join : Room := { frames := 2, cells := 1, slots := 9, locals := 60 }
set_option maxHeartbeats 4000000 in
set_option maxRecDepth 100000 in
theorem c_X4_join (l : Launch) (D : va_G) (cI : ClassId) (b : Nat → Nat) (θ τ ρ : (Nat → Nat → Int32)) (p0 p1 : Int32) (N : Nat) (hW : wf τ N) : rMj l yX4_join wsX4_join rmX4_join D cI b [.ref (b 0), .int p0, .int p1] 0 θ τ ρ (fX4_join θ τ p0 p1).1 (fX4_join θ τ p0 p1).2.1 (fX4_join θ τ p0 p1).2.2 := by
  intro sz
  refine r_head (cc := cX4_join) (maxL := 4) (ret := (some .int)) (plainFor_of_name (by decide)) rfl (Nat.le_of_ble_eq_true rfl) ?_
  intro p e S m below meth c hx hb hr hml hown hts hlocks hnm hsz hA hC ls hl
  have hF : CallFix p m c cX4_join 4 S [.ref (b 0), .int p0, .int p1].toArray wsX4_join RX4 := ⟨hx, hb, hml, hown, hts⟩
  have h_f29 : (Cond.fieldLink RX4 29 "CombersSocietyModel" "thrown" "I").before [.ref (b 0), .int p0, .int p1].toArray S = true := hts _ (by decide +kernel)
  have h_iX4 : ∀ w ∈ u_ws RX4 TX4 5, w ∈ wsX4_join := by decide +kernel
  have h_f22 : (Cond.fieldLink RX4 22 "CombersSocietyModel" "s" "LCombersSocietyModel$State;").before [.ref (b 0), .int p0, .int p1].toArray S = true := hts _ (by decide +kernel)
  have h_iX3 : ∀ w ∈ u_ws RX3 TX3 12, w ∈ wsX4_join := by decide +kernel
  have h_f32 : (nw32).before [.ref (b 0), .int p0, .int p1].toArray S = true := va_Nw.use rfl hC.2.2.2.2.nw32
  have h_f50 : (nw50).before [.ref (b 0), .int p0, .int p1].toArray S = true := va_Nw.use rfl hC.2.2.2.2.nw50
  have hl : lv_has ls 4 [(0, .ref (b 0)), (1, .int p0), (2, .int p1)] := hl
  refine lv_aload_n hx hb dX4_join_0 rfl (lv_at hl 0 rfl) ?_
  refine lv_iconst (v := 0) hx hb dX4_join_1 (by decide) ?_
  refine rp_m hx hb hts h_iX4 hown hC 0 (by decide) h_f29 dX4_join_2 ?_
  clear hC; intro H locs θ1 eθ1 hC
  refine lv_iload_n hx hb dX4_join_5 rfl (lv_at hl 1 rfl) ?_
  refine lv_iconst (v := 1) hx hb dX4_join_6 (by decide) ?_
  refine lv_bipush (v := 9) hx hb dX4_join_7 (by decide) ?_
  refine r_iSi (n := 3) hF (c_X4_isIn l D cI b 0 θ1 τ ρ p0 (1 : Int32) (9 : Int32)) gX4_join_X4_isIn rfl rfl rfl (by decide +kernel) ⟨Nat.le_of_ble_eq_true rfl, Nat.le_of_ble_eq_true rfl⟩ hC hA rfl hl.1 rfl (Nat.le_of_ble_eq_true rfl) dX4_join_9 ⟨Nat.zero_le _, Nat.zero_le _⟩ ?_
  clear hC; intro H locs hC
  refine lv_if_eq (tgt := 25) hx hb dX4_join_12 (by decide) (fun c1 => ?_) (fun c1 => ?_)
  · refine lv_aload_n hx hb dX4_join_25 rfl (lv_at hl 0 rfl) ?_
    refine lv_iconst (v := 1) hx hb dX4_join_26 (by decide) ?_
    refine r_iVm (n := 1) hF (c_X4_no l D cI b 0 θ1 τ ρ (1 : Int32)) gX4_join_X4_no rfl rfl rfl (by decide +kernel) ⟨Nat.le_of_ble_eq_true rfl, Nat.le_of_ble_eq_true rfl⟩ hC hA hC.recvM rfl hl.1 rfl (Nat.le_of_ble_eq_true rfl) dX4_join_27 ⟨Nat.zero_le _, Nat.zero_le _⟩ ?_
    clear hC; intro H locs θ6 eθ6 hC
    have e : fX4_join θ τ p0 p1 = ((fX4_no θ1 (1 : Int32)).1, θ6, τ) := by subst eθ1 eθ6; exact ((if_pos c1).trans rfl)
    refine W.widen (k := 1) (n := 9) (by decide) (by decide) ?_
    exact r_iret hx hb hr hlocks hC dX4_join_30 ⟨by rw [e], by rw [e], by rw [e]⟩
  refine lv_iload_n hx hb dX4_join_15 rfl (lv_at hl 2 rfl) ?_
  refine lv_iconst (v := 1) hx hb dX4_join_16 (by decide) ?_
  refine lv_bipush (v := 20) hx hb dX4_join_17 (by decide) ?_
  refine r_iSi (n := 3) hF (c_X4_isIn l D cI b 0 θ1 τ ρ p1 (1 : Int32) (20 : Int32)) gX4_join_X4_isIn rfl rfl rfl (by decide +kernel) ⟨Nat.le_of_ble_eq_true rfl, Nat.le_of_ble_eq_true rfl⟩ hC hA rfl hl.1 rfl (Nat.le_of_ble_eq_true rfl) dX4_join_19 ⟨Nat.zero_le _, Nat.zero_le _⟩ ?_
  clear hC; intro H locs hC
  refine lv_if_ne (tgt := 31) hx hb dX4_join_22 (by decide) (fun c2 => ?_) (fun c2 => ?_)
  rotate_left
  · refine lv_aload_n hx hb dX4_join_25 rfl (lv_at hl 0 rfl) ?_
    refine lv_iconst (v := 1) hx hb dX4_join_26 (by decide) ?_
    refine r_iVm (n := 1) hF (c_X4_no l D cI b 0 θ1 τ ρ (1 : Int32)) gX4_join_X4_no rfl rfl rfl (by decide +kernel) ⟨Nat.le_of_ble_eq_true rfl, Nat.le_of_ble_eq_true rfl⟩ hC hA hC.recvM rfl hl.1 rfl (Nat.le_of_ble_eq_true rfl) dX4_join_27 ⟨Nat.zero_le _, Nat.zero_le _⟩ ?_
    clear hC; intro H locs θ6 eθ6 hC
    have e : fX4_join θ τ p0 p1 = ((fX4_no θ1 (1 : Int32)).1, θ6, τ) := by subst eθ1 eθ6; exact ((if_neg c1).trans ((if_pos c2).trans rfl))
    refine W.widen (k := 1) (n := 9) (by decide) (by decide) ?_
    exact r_iret hx hb hr hlocks hC dX4_join_30 ⟨by rw [e], by rw [e], by rw [e]⟩
  refine lv_aload_n hx hb dX4_join_31 rfl (lv_at hl 0 rfl) ?_
  refine rg_w hx hb hts h_iX4 hown hC 0 (by decide) h_f22 dX4_join_32 ?_
  refine rg_sN hx hb hts h_iX3 hown hC (by decide) 1 (by decide) h_f32 dX4_join_35 ?_
  refine lv_bipush (v := 12) hx hb dX4_join_38 (by decide) ?_
  refine lv_icmp_ne (tgt := 49) hx hb dX4_join_40 (by decide) (fun c3 => ?_) (fun c3 => ?_)
  rotate_left
  · refine lv_aload_n hx hb dX4_join_43 rfl (lv_at hl 0 rfl) ?_
    refine lv_iconst (v := 2) hx hb dX4_join_44 (by decide) ?_
    refine r_iVm (n := 1) hF (c_X4_no l D cI b 0 θ1 τ ρ (2 : Int32)) gX4_join_X4_no rfl rfl rfl (by decide +kernel) ⟨Nat.le_of_ble_eq_true rfl, Nat.le_of_ble_eq_true rfl⟩ hC hA hC.recvM rfl hl.1 rfl (Nat.le_of_ble_eq_true rfl) dX4_join_45 ⟨Nat.zero_le _, Nat.zero_le _⟩ ?_
    clear hC; intro H locs θ6 eθ6 hC
    have e : fX4_join θ τ p0 p1 = ((fX4_no θ1 (2 : Int32)).1, θ6, τ) := by subst eθ1 eθ6; exact ((if_neg c1).trans ((if_neg c2).trans ((if_pos c3).trans rfl)))
    refine W.widen (k := 1) (n := 9) (by decide) (by decide) ?_
    exact r_iret hx hb hr hlocks hC dX4_join_48 ⟨by rw [e], by rw [e], by rw [e]⟩
  have hN11 : N ≤ 11 := by
    have h12 := hW.2.1
    have hne : N ≠ 12 := fun q => c3 (by rw [hW.1, q]; rfl)
    omega
  have e9 : ((9 : Int32) * τ 0 1) = nI (9 * N) := by rw [hW.1, show (9 : Int32) = nI 9 from rfl, pk_mul]
  refine lv_bipush (v := 9) hx hb dX4_join_49 (by decide) ?_
  obtain ⟨hK, hP, hD, hS, hN⟩ := hC
  refine va_newa (atype := .int) (ty := .int) (N' := 9) (a0 := (9, .inl (fun _ => 0))) hx hb (hts (.arrayClass .int) (by decide +kernel)) rfl hK hP hD hS hA (fun cA => rfl) (by decide) rfl (by decide) (by show 0 + 1 ≤ 1; decide) (by show 0 + 9 ≤ 9; decide) dX4_join_51 (fun q cI' H hK' hP hD hS => ?_)
  obtain rfl : cI = cI' := u_int_eq2 0 1 hK' hK' rfl rfl
  have hget : ∀ e : va_E, (rW cI b 0 θ1 τ ρ ++ [(q, e)])[8]? = some (q, e) := fun e => by
    have h := ap_r (xs := rW cI b 0 θ1 τ ρ) (ys := [((q, e) : Nat × va_E)]) (k := 0) rfl
    have h8 : (rW cI b 0 θ1 τ ρ).length = 8 := by simp [rW, gws]
    rwa [h8] at h
  have hset : ∀ e e' : va_E, (rW cI b 0 θ1 τ ρ ++ [(q, e)]).set 8 (q, e') = rW cI b 0 θ1 τ ρ ++ [(q, e')] := fun e e' => by
    have h8 : (rW cI b 0 θ1 τ ρ).length = 8 := by simp [rW, gws]
    rw [List.set_append_right _ _ (by omega), h8]
    rfl
  refine lv_dup hx hb dX4_join_53 rfl ?_
  refine lv_iconst (v := 0) hx hb dX4_join_54 (by decide) ?_
  refine lv_iload_n hx hb dX4_join_55 rfl (lv_at hl 1 rfl) ?_
  refine va_iast (D := D) hx hb hK' hP hD hS 8 0 (hget _) rfl (vp_in_nI (n := 0) (N := 9) (by decide) (by decide)) dX4_join_56 (fun H locs hP hD hS => ?_)
  rw [hset] at hP hD
  refine lv_dup hx hb dX4_join_57 rfl ?_
  refine lv_iconst (v := 1) hx hb dX4_join_58 (by decide) ?_
  refine lv_iload_n hx hb dX4_join_59 rfl (lv_at hl 2 rfl) ?_
  refine va_iast (D := D) hx hb hK' hP hD hS 8 0 (hget _) rfl (vp_in_nI (n := 1) (N := 9) (by decide) (by decide)) dX4_join_60 (fun H locs hP hD hS => ?_)
  rw [hset] at hP hD
  refine lv_dup hx hb dX4_join_61 rfl ?_
  refine lv_iconst (v := 2) hx hb dX4_join_62 (by decide) ?_
  refine lv_bipush (v := 10) hx hb dX4_join_63 (by decide) ?_
  refine va_iast (D := D) hx hb hK' hP hD hS 8 0 (hget _) rfl (vp_in_nI (n := 2) (N := 9) (by decide) (by decide)) dX4_join_65 (fun H locs hP hD hS => ?_)
  rw [hset] at hP hD
  refine lv_dup hx hb dX4_join_66 rfl ?_
  refine lv_iconst (v := 3) hx hb dX4_join_67 (by decide) ?_
  refine lv_iconst (v := 0) hx hb dX4_join_68 (by decide) ?_
  refine va_iast (D := D) hx hb hK' hP hD hS 8 0 (hget _) rfl (vp_in_nI (n := 3) (N := 9) (by decide) (by decide)) dX4_join_69 (fun H locs hP hD hS => ?_)
  rw [hset] at hP hD
  refine lv_dup hx hb dX4_join_70 rfl ?_
  refine lv_iconst (v := 4) hx hb dX4_join_71 (by decide) ?_
  refine lv_iconst (v := 0) hx hb dX4_join_72 (by decide) ?_
  refine va_iast (D := D) hx hb hK' hP hD hS 8 0 (hget _) rfl (vp_in_nI (n := 4) (N := 9) (by decide) (by decide)) dX4_join_73 (fun H locs hP hD hS => ?_)
  rw [hset] at hP hD
  refine lv_dup hx hb dX4_join_74 rfl ?_
  refine lv_iconst (v := 5) hx hb dX4_join_75 (by decide) ?_
  refine lv_iconst (v := -1) hx hb dX4_join_76 (by decide) ?_
  refine va_iast (D := D) hx hb hK' hP hD hS 8 0 (hget _) rfl (vp_in_nI (n := 5) (N := 9) (by decide) (by decide)) dX4_join_77 (fun H locs hP hD hS => ?_)
  rw [hset] at hP hD
  refine lv_dup hx hb dX4_join_78 rfl ?_
  refine lv_bipush (v := 6) hx hb dX4_join_79 (by decide) ?_
  refine lv_iconst (v := 0) hx hb dX4_join_81 (by decide) ?_
  refine va_iast (D := D) hx hb hK' hP hD hS 8 0 (hget _) rfl (vp_in_nI (n := 6) (N := 9) (by decide) (by decide)) dX4_join_82 (fun H locs hP hD hS => ?_)
  rw [hset] at hP hD
  refine lv_dup hx hb dX4_join_83 rfl ?_
  refine lv_bipush (v := 7) hx hb dX4_join_84 (by decide) ?_
  refine lv_iconst (v := 0) hx hb dX4_join_86 (by decide) ?_
  refine va_iast (D := D) hx hb hK' hP hD hS 8 0 (hget _) rfl (vp_in_nI (n := 7) (N := 9) (by decide) (by decide)) dX4_join_87 (fun H locs hP hD hS => ?_)
  rw [hset] at hP hD
  refine lv_dup hx hb dX4_join_88 rfl ?_
  refine lv_bipush (v := 8) hx hb dX4_join_89 (by decide) ?_
  refine lv_iconst (v := 0) hx hb dX4_join_91 (by decide) ?_
  refine va_iast (D := D) hx hb hK' hP hD hS 8 0 (hget _) rfl (vp_in_nI (n := 8) (N := 9) (by decide) (by decide)) dX4_join_92 (fun H locs hP hD hS => ?_)
  rw [hset] at hP hD
  have hP : va_P D vwCl (rW cI b 0 θ1 τ ρ ++ [(q, .inl (cI, 9, .inl (jrow p0 p1)))]) H := hP
  have hD : va_D (rA b sz) (rW cI b 0 θ1 τ ρ ++ [(q, .inl (cI, 9, .inl (jrow p0 p1)))]) := hD
  refine lv_astore_n (lv' := [(3, .ref q), (0, .ref (b 0)), (1, .int p0), (2, .int p1)]) hx hb dX4_join_93 rfl hl (by decide) rfl ?_
  clear hl; intro ls hl
  refine lv_aload_n hx hb dX4_join_94 rfl (lv_at hl 0 rfl) ?_
  refine lv_iconst (v := 0) hx hb dX4_join_95 (by decide) ?_
  refine lv_aload_n hx hb dX4_join_96 rfl (lv_at hl 1 rfl) ?_
  have hC : rB D cI b S (rA b sz) S.heap H _ 0 θ1 τ ρ := ⟨hK, hP.left, hD.left, hS, hN⟩
  refine rg_w hx hb hts h_iX4 hown hC 0 (by decide) h_f22 dX4_join_97 ?_
  refine rg_rN hx hb hts h_iX3 hown hC (by decide) 1 (by decide) h_f50 dX4_join_100 ?_
  refine lv_bipush (v := 9) hx hb dX4_join_103 (by decide) ?_
  refine lv_aload_n hx hb dX4_join_105 rfl (lv_at hl 1 rfl) ?_
  refine rg_w hx hb hts h_iX4 hown hC 0 (by decide) h_f22 dX4_join_106 ?_
  refine rg_sN hx hb hts h_iX3 hown hC (by decide) 1 (by decide) h_f32 dX4_join_109 ?_
  refine lv_imul hx hb dX4_join_112 ?_
  refine lv_bipush (v := 9) hx hb dX4_join_113 (by decide) ?_
  have g1 : (rW cI b 0 θ1 τ ρ)[4]? = some (b 4, .inl (cI, 108, .inl (τ 2))) := rB.get (cI := cI) (b := b) (s := 0) (r := 2) (by decide) (by decide)
  have hcl : ((9 : Int32) * τ 0 1).toNatClampNeg = 9 * N := by rw [e9, nI_clamp (by omega)]
  have h9c : (9 : Int32).toNatClampNeg = 9 := rfl
  have h0c : (0 : Int32).toNatClampNeg = 0 := rfl
  refine va_copyi hx hb (hml.trans hl.1.symm) hown (hts (.methodLink RX4 53 arraycopyName) (by decide +kernel)) (hts (.native arraycopyName) (by decide +kernel)) (hts (.static arraycopyName) (by decide +kernel)) (hts (.initialized "java/lang/System") (by decide +kernel)) hK' hP hD hS 8 4 0 0 (hget _) (ap_l g1) rfl rfl rfl (by decide) (by rw [e9]; exact nI_pos (by omega)) (by decide) (by decide) (by rw [hcl, h9c]; omega) (fun i hi => rfl) (Nat.le_of_ble_eq_true rfl) (Nat.le_of_ble_eq_true rfl) dX4_join_115 (fun H locs hP hD hS => ?_)
  rw [h0c, h9c, List.set_append_left _ _ (by simp [rW, gws])] at hP hD
  have hC := hC.set (s := 0) (r := 2) (τ' := jput τ p0 p1) (by decide) (by decide) rfl (fun r' h' => by simp [jput, h']) hP.left hD.left hS
  refine lv_aload_n hx hb dX4_join_118 rfl (lv_at hl 1 rfl) ?_
  refine rg_w hx hb hts h_iX4 hown hC 0 (by decide) h_f22 dX4_join_119 ?_
  refine lv_dup hx hb dX4_join_122 rfl ?_
  refine rg_sN hx hb hts h_iX3 hown hC (by decide) 1 (by decide) h_f32 dX4_join_123 ?_
  refine lv_iconst (v := 1) hx hb dX4_join_126 (by decide) ?_
  refine lv_iadd hx hb dX4_join_127 ?_
  refine rp_sN hx hb hts h_iX3 hown hC (by decide) 1 (by decide) h_f32 dX4_join_128 ?_
  intro H locs τ5 eτ5 hC
  refine lv_aload_n hx hb dX4_join_131 rfl (lv_at hl 1 rfl) ?_
  refine rg_w hx hb hts h_iX4 hown hC 0 (by decide) h_f22 dX4_join_132 ?_
  refine rg_sN hx hb hts h_iX3 hown hC (by decide) 1 (by decide) h_f32 dX4_join_135 ?_
  refine lv_iconst (v := 1) hx hb dX4_join_138 (by decide) ?_
  refine lv_isub hx hb dX4_join_139 ?_
  have e : fX4_join θ τ p0 p1 = ((τ5 0 1) - 1, θ1, τ5) := by subst eθ1 eτ5; exact ((if_neg c1).trans ((if_neg c2).trans ((if_neg c3).trans rfl)))
  exact r_iret hx hb hr hlocks hC dX4_join_140 ⟨by rw [e], by rw [e], by rw [e]⟩
