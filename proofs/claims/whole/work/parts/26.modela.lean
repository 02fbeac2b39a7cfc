theorem wf_X3_become {τ ρ : Nat → Nat → Int32} {N : Nat} (h : wf ρ N) : wf (fX3_become τ ρ) N := by
  refine ⟨?_, h.2.1, fun m hm => ?_⟩
  · rw [show fX3_become τ ρ 0 1 = ρ 0 1 by simp [fX3_become, rowC, up2]]; exact h.1
  · rw [show fX3_become τ ρ 2 (9*m+5) = ρ 2 (9*m+5) by simp [fX3_become, rowC, up2, va_cpy, show 9*m+5 < 108 by have := h.2.1; omega]]; exact h.2.2 m hm
theorem fX3_become_0 {τ ρ : Nat → Nat → Int32} {k : Nat} (hk : k < 8) : fX3_become τ ρ 0 k = ρ 0 k := by
  rcases (show k = 0 ∨ k = 1 ∨ k = 2 ∨ k = 3 ∨ k = 4 ∨ k = 5 ∨ k = 6 ∨ k = 7 by omega) with rfl | rfl | rfl | rfl | rfl | rfl | rfl | rfl <;> simp [fX3_become, rowC, up2]
abbrev rmX4_isIn : Room := { frames := 0, cells := 0, slots := 0, locals := 0 }
def fX4_isIn (p0 : Int32) (p1 : Int32) (p2 : Int32) : Int32 :=
    if p0 < p1 then
      (0 : Int32)
    else
      if p2 < p0 then
        (0 : Int32)
      else
        (1 : Int32)
theorem fX4_isIn_01 (p0 p1 p2 : Int32) : fX4_isIn p0 p1 p2 = 0 ∨ fX4_isIn p0 p1 p2 = 1 := by
  unfold fX4_isIn
  repeat' split
  all_goals first | exact Or.inl rfl | exact Or.inr rfl
theorem isIn_le {p0 p1 p2 : Int32} (h : ¬ fX4_isIn p0 p1 p2 = 0) : ¬ p0 < p1 ∧ ¬ p2 < p0 := by
  unfold fX4_isIn at h
  split at h
  · exact absurd rfl h
  · split at h
    · exact absurd rfl h
    · exact ⟨by assumption, by assumption⟩
theorem isIn_ix {p0 p2 : Int32} {N : Nat} (h : ¬ fX4_isIn p0 (0 : Int32) p2 = 0) (hN : p2.toInt + 1 = (N : Int)) (h31 : N < 2 ^ 31) : Ix p0 N := by
  obtain ⟨h1, h2⟩ := isIn_le h
  obtain ⟨j, hj, rfl⟩ := nI_of h1
  refine ⟨j, ?_, rfl⟩
  rw [Int32.lt_iff_toInt_lt, nI_toInt hj] at h2
  omega
set_option maxHeartbeats 400000 in
set_option maxRecDepth 100000 in
theorem c_X4_isIn (l : Launch) (D : va_G) (cI : ClassId) (b : Nat → Nat) (s : Nat) (θ τ ρ : (Nat → Nat → Int32)) (p0 : Int32) (p1 : Int32) (p2 : Int32) : rMi l yX4_isIn wsX4_isIn rmX4_isIn D cI b [.int p0, .int p1, .int p2] s θ τ ρ (fX4_isIn p0 p1 p2) θ τ := by
  intro sz
  refine r_head (cc := cX4_isIn) (maxL := 3) (ret := (some .boolean)) (plainFor_of_name (by decide)) rfl (Nat.le_of_ble_eq_true rfl) ?_
  intro p e S m below meth c hx hb hr hml hown hts hlocks hnm hsz hA hC ls hl
  have hl : lv_has ls 3 [(0, .int p0), (1, .int p1), (2, .int p2)] := hl
  refine lv_iload_n hx hb dX4_isIn_0 rfl (lv_at hl 0 rfl) ?_
  refine lv_iload_n hx hb dX4_isIn_1 rfl (lv_at hl 1 rfl) ?_
  refine lv_icmp_lt (tgt := 14) hx hb dX4_isIn_2 (by decide) (fun c1 => ?_) (fun c1 => ?_)
  · refine lv_iconst (v := 0) hx hb dX4_isIn_14 (by decide) ?_
    have e : fX4_isIn p0 p1 p2 = (0 : Int32) := by exact ((if_pos c1).trans rfl)
    exact r_zret hx hb hr hlocks hC dX4_isIn_15 (Or.inl rfl) ⟨by rw [e], rfl, rfl⟩
  · refine lv_iload_n hx hb dX4_isIn_5 rfl (lv_at hl 0 rfl) ?_
    refine lv_iload_n hx hb dX4_isIn_6 rfl (lv_at hl 2 rfl) ?_
    refine lv_icmp_gt (tgt := 14) hx hb dX4_isIn_7 (by decide) (fun c2 => ?_) (fun c2 => ?_)
    · refine lv_iconst (v := 0) hx hb dX4_isIn_14 (by decide) ?_
      have e : fX4_isIn p0 p1 p2 = (0 : Int32) := by exact ((if_neg c1).trans ((if_pos c2).trans rfl))
      exact r_zret hx hb hr hlocks hC dX4_isIn_15 (Or.inl rfl) ⟨by rw [e], rfl, rfl⟩
    · refine lv_iconst (v := 1) hx hb dX4_isIn_10 (by decide) ?_
      refine lv_goto (tgt := 15) hx hb dX4_isIn_11 (by decide) ?_
      have e : fX4_isIn p0 p1 p2 = (1 : Int32) := by exact ((if_neg c1).trans ((if_neg c2).trans rfl))
      exact r_zret hx hb hr hlocks hC dX4_isIn_15 (Or.inr rfl) ⟨by rw [e], rfl, rfl⟩
abbrev rmX4_thrown : Room := { frames := 0, cells := 0, slots := 0, locals := 0 }
def fX4_thrown (θ : (Nat → Nat → Int32)) : Int32 :=
    (θ 0 0)
set_option maxHeartbeats 400000 in
set_option maxRecDepth 100000 in
theorem c_X4_thrown (l : Launch) (D : va_G) (cI : ClassId) (b : Nat → Nat) (s : Nat) (θ τ ρ : (Nat → Nat → Int32))  : rMi l yX4_thrown wsX4_thrown rmX4_thrown D cI b [.ref (b 0)] s θ τ ρ (fX4_thrown θ) θ τ := by
  intro sz
  refine r_head (cc := cX4_thrown) (maxL := 1) (ret := (some .int)) (plainFor_of_name (by decide)) rfl (Nat.le_of_ble_eq_true rfl) ?_
  intro p e S m below meth c hx hb hr hml hown hts hlocks hnm hsz hA hC ls hl
  have h_f29 : (Cond.fieldLink RX4 29 "CombersSocietyModel" "thrown" "I").before [.ref (b 0)].toArray S = true := hts _ (by decide +kernel)
  have h_iX4 : ∀ w ∈ u_ws RX4 TX4 5, w ∈ wsX4_thrown := by decide +kernel
  have hl : lv_has ls 1 [(0, .ref (b 0))] := hl
  refine lv_aload_n hx hb dX4_thrown_0 rfl (lv_at hl 0 rfl) ?_
  refine rg_m hx hb hts h_iX4 hown hC 0 (by decide) h_f29 dX4_thrown_1 ?_
  have e : fX4_thrown θ = (θ 0 0) := by exact rfl
  exact r_iret hx hb hr hlocks hC dX4_thrown_4 ⟨by rw [e], rfl, rfl⟩
abbrev rmX4_no : Room := { frames := 0, cells := 0, slots := 0, locals := 0 }
def fX4_no (θ : (Nat → Nat → Int32)) (p0 : Int32) : Int32 × (Nat → Nat → Int32) :=
    let θ1 : (Nat → Nat → Int32) := up2 θ 0 0 p0
    ((0 : Int32), θ1)
set_option maxHeartbeats 400000 in
set_option maxRecDepth 100000 in
theorem c_X4_no (l : Launch) (D : va_G) (cI : ClassId) (b : Nat → Nat) (s : Nat) (θ τ ρ : (Nat → Nat → Int32)) (p0 : Int32) : rMi l yX4_no wsX4_no rmX4_no D cI b [.ref (b 0), .int p0] s θ τ ρ (fX4_no θ p0).1 (fX4_no θ p0).2 τ := by
  intro sz
  refine r_head (cc := cX4_no) (maxL := 2) (ret := (some .int)) (plainFor_of_name (by decide)) rfl (Nat.le_of_ble_eq_true rfl) ?_
  intro p e S m below meth c hx hb hr hml hown hts hlocks hnm hsz hA hC ls hl
  have h_f29 : (Cond.fieldLink RX4 29 "CombersSocietyModel" "thrown" "I").before [.ref (b 0), .int p0].toArray S = true := hts _ (by decide +kernel)
  have h_iX4 : ∀ w ∈ u_ws RX4 TX4 5, w ∈ wsX4_no := by decide +kernel
  have hl : lv_has ls 2 [(0, .ref (b 0)), (1, .int p0)] := hl
  refine lv_aload_n hx hb dX4_no_0 rfl (lv_at hl 0 rfl) ?_
  refine lv_iload_n hx hb dX4_no_1 rfl (lv_at hl 1 rfl) ?_
  refine rp_m hx hb hts h_iX4 hown hC 0 (by decide) h_f29 dX4_no_2 ?_
  clear hC; intro H locs θ1 eθ1 hC
  refine lv_iconst (v := 0) hx hb dX4_no_5 (by decide) ?_
  have e : fX4_no θ p0 = ((0 : Int32), θ1) := by subst eθ1; exact rfl
  exact r_iret hx hb hr hlocks hC dX4_no_6 ⟨by rw [e], by rw [e], rfl⟩
abbrev rmX4_isMember : Room := { frames := 1, cells := 0, slots := 0, locals := 22 }
def fX4_isMember (τ : (Nat → Nat → Int32)) (p0 : Int32) : Int32 :=
    (fX4_isIn p0 (0 : Int32) ((τ 0 1) - (1 : Int32)))
theorem fX4_isMember_01 (τ : Nat → Nat → Int32) (p0 : Int32) : fX4_isMember τ p0 = 0 ∨ fX4_isMember τ p0 = 1 := fX4_isIn_01 _ _ _
theorem mem_ixN {τ : Nat → Nat → Int32} {N : Nat} {p0 : Int32} (hW : wf τ N) (h : ¬ fX4_isMember τ p0 = 0) : Ix p0 N := by
  unfold fX4_isMember at h
  obtain ⟨h1, h2⟩ := isIn_le h
  obtain ⟨j, hj, rfl⟩ := nI_of h1
  refine ⟨j, ?_, rfl⟩
  have h12 := hW.2.1
  rw [hW.1] at h2
  rcases Nat.lt_or_ge j N with q | q
  · exact q
  · exfalso
    apply h2
    rw [Int32.lt_iff_toInt_lt, nI_toInt hj]
    rcases Nat.eq_zero_or_pos N with z | z
    · subst z
      show (nI 0 - 1).toInt < _
      have : (nI 0 - 1).toInt = -1 := by decide
      omega
    · rw [show (1 : Int32) = nI 1 from rfl, pk_sub_toInt (by omega) (by decide)]
      omega
theorem mem_ix {τ : Nat → Nat → Int32} {N : Nat} {p0 : Int32} (hW : wf τ N) (h : ¬ fX4_isMember τ p0 = 0) : Ix p0 12 := by
  obtain ⟨j, hj, e⟩ := mem_ixN hW h
  exact ⟨j, by have := hW.2.1; omega, e⟩
set_option maxHeartbeats 400000 in
set_option maxRecDepth 100000 in
theorem c_X4_isMember (l : Launch) (D : va_G) (cI : ClassId) (b : Nat → Nat) (θ τ ρ : (Nat → Nat → Int32)) (p0 : Int32) : rMi l yX4_isMember wsX4_isMember rmX4_isMember D cI b [.ref (b 0), .int p0] 0 θ τ ρ (fX4_isMember τ p0) θ τ := by
  intro sz
  refine r_head (cc := cX4_isMember) (maxL := 2) (ret := (some .boolean)) (plainFor_of_name (by decide)) rfl (Nat.le_of_ble_eq_true rfl) ?_
  intro p e S m below meth c hx hb hr hml hown hts hlocks hnm hsz hA hC ls hl
  have hF : CallFix p m c cX4_isMember 2 S [.ref (b 0), .int p0].toArray wsX4_isMember RX4 := ⟨hx, hb, hml, hown, hts⟩
  have h_f22 : (Cond.fieldLink RX4 22 "CombersSocietyModel" "s" "LCombersSocietyModel$State;").before [.ref (b 0), .int p0].toArray S = true := hts _ (by decide +kernel)
  have h_iX4 : ∀ w ∈ u_ws RX4 TX4 5, w ∈ wsX4_isMember := by decide +kernel
  have h_f32 : (nw32).before [.ref (b 0), .int p0].toArray S = true := va_Nw.use rfl hC.2.2.2.2.nw32
  have h_iX3 : ∀ w ∈ u_ws RX3 TX3 12, w ∈ wsX4_isMember := by decide +kernel
  have hl : lv_has ls 2 [(0, .ref (b 0)), (1, .int p0)] := hl
  refine lv_iload_n hx hb dX4_isMember_0 rfl (lv_at hl 1 rfl) ?_
  refine lv_iconst (v := 0) hx hb dX4_isMember_1 (by decide) ?_
  refine lv_aload_n hx hb dX4_isMember_2 rfl (lv_at hl 0 rfl) ?_
  refine rg_w hx hb hts h_iX4 hown hC 0 (by decide) h_f22 dX4_isMember_3 ?_
  refine rg_sN hx hb hts h_iX3 hown hC (by decide) 1 (by decide) h_f32 dX4_isMember_6 ?_
  refine lv_iconst (v := 1) hx hb dX4_isMember_9 (by decide) ?_
  refine lv_isub hx hb dX4_isMember_10 ?_
  refine r_iSi (n := 3) hF (c_X4_isIn l D cI b 0 θ τ ρ p0 (0 : Int32) ((τ 0 1) - (1 : Int32))) gX4_isMember_X4_isIn rfl rfl rfl (by decide +kernel) ⟨Nat.le_of_ble_eq_true rfl, Nat.le_of_ble_eq_true rfl⟩ hC hA rfl hl.1 rfl (Nat.le_of_ble_eq_true rfl) dX4_isMember_11 ⟨Nat.zero_le _, Nat.zero_le _⟩ ?_
  clear hC; intro H locs hC
  have e : fX4_isMember τ p0 = (fX4_isIn p0 (0 : Int32) ((τ 0 1) - (1 : Int32))) := by exact rfl
  exact r_zret hx hb hr hlocks hC dX4_isMember_14 (fX4_isIn_01 p0 (0 : Int32) ((τ 0 1) - (1 : Int32))) ⟨by rw [e], rfl, rfl⟩
abbrev rmX4_isDead : Room := { frames := 1, cells := 0, slots := 0, locals := 22 }
def fX4_isDead (τ : (Nat → Nat → Int32)) (p0 : Int32) : Int32 :=
    if (fX3_of τ p0 (6 : Int32)) = (2 : Int32) then
      (1 : Int32)
    else
      (0 : Int32)
set_option maxHeartbeats 400000 in
set_option maxRecDepth 100000 in
theorem c_X4_isDead (l : Launch) (D : va_G) (cI : ClassId) (b : Nat → Nat) (θ τ ρ : (Nat → Nat → Int32)) (p0 : Int32) (hx0 : Ix p0 12) : rMi l yX4_isDead wsX4_isDead rmX4_isDead D cI b [.ref (b 0), .int p0] 0 θ τ ρ (fX4_isDead τ p0) θ τ := by
  intro sz
  refine r_head (cc := cX4_isDead) (maxL := 2) (ret := (some .boolean)) (plainFor_of_name (by decide)) rfl (Nat.le_of_ble_eq_true rfl) ?_
  intro p e S m below meth c hx hb hr hml hown hts hlocks hnm hsz hA hC ls hl
  have hF : CallFix p m c cX4_isDead 2 S [.ref (b 0), .int p0].toArray wsX4_isDead RX4 := ⟨hx, hb, hml, hown, hts⟩
  have h_f22 : (Cond.fieldLink RX4 22 "CombersSocietyModel" "s" "LCombersSocietyModel$State;").before [.ref (b 0), .int p0].toArray S = true := hts _ (by decide +kernel)
  have h_iX4 : ∀ w ∈ u_ws RX4 TX4 5, w ∈ wsX4_isDead := by decide +kernel
  have hl : lv_has ls 2 [(0, .ref (b 0)), (1, .int p0)] := hl
  refine lv_aload_n hx hb dX4_isDead_0 rfl (lv_at hl 0 rfl) ?_
  refine rg_w hx hb hts h_iX4 hown hC 0 (by decide) h_f22 dX4_isDead_1 ?_
  refine lv_iload_n hx hb dX4_isDead_4 rfl (lv_at hl 1 rfl) ?_
  refine lv_bipush (v := 6) hx hb dX4_isDead_5 (by decide) ?_
  refine r_iVp (n := 2) hF (c_X3_of l D cI b 0 θ τ ρ (by decide) p0 (6 : Int32) hx0 ⟨6, by decide, rfl⟩) gX4_isDead_X3_of rfl rfl rfl (by decide +kernel) ⟨Nat.le_of_ble_eq_true rfl, Nat.le_of_ble_eq_true rfl⟩ hC hA (hC.recvS (by decide)) rfl hl.1 rfl (Nat.le_of_ble_eq_true rfl) dX4_isDead_7 ⟨Nat.zero_le _, Nat.zero_le _⟩ ?_
  clear hC; intro H locs hC
  refine lv_iconst (v := 2) hx hb dX4_isDead_10 (by decide) ?_
  refine lv_icmp_ne (tgt := 18) hx hb dX4_isDead_11 (by decide) (fun c1 => ?_) (fun c1 => ?_)
  · refine lv_iconst (v := 0) hx hb dX4_isDead_18 (by decide) ?_
    have e : fX4_isDead τ p0 = (0 : Int32) := by exact ((if_neg c1).trans rfl)
    exact r_zret hx hb hr hlocks hC dX4_isDead_19 (Or.inl rfl) ⟨by rw [e], rfl, rfl⟩
  · refine lv_iconst (v := 1) hx hb dX4_isDead_14 (by decide) ?_
    refine lv_goto (tgt := 19) hx hb dX4_isDead_15 (by decide) ?_
    have e : fX4_isDead τ p0 = (1 : Int32) := by exact ((if_pos c1).trans rfl)
    exact r_zret hx hb hr hlocks hC dX4_isDead_19 (Or.inr rfl) ⟨by rw [e], rfl, rfl⟩
abbrev rmX4_others : Room := { frames := 2, cells := 0, slots := 0, locals := 45 }
def fX4_others (τ : (Nat → Nat → Int32)) (p0 : Int32) (p1 : Int32) : Int32 :=
    if (fX3_of τ p0 (5 : Int32)) = p1 then
      ((fX3_there τ p1) - (1 : Int32))
    else
      ((fX3_there τ p1) - (0 : Int32))
set_option maxHeartbeats 400000 in
set_option maxRecDepth 100000 in
theorem c_X4_others (l : Launch) (D : va_G) (cI : ClassId) (b : Nat → Nat) (θ τ ρ : (Nat → Nat → Int32)) (p0 : Int32) (p1 : Int32) (hx0 : Ix p0 12) (N : Nat) (hW : wf τ N) : rMi l yX4_others wsX4_others rmX4_others D cI b [.ref (b 0), .int p0, .int p1] 0 θ τ ρ (fX4_others τ p0 p1) θ τ := by
  intro sz
  refine r_head (cc := cX4_others) (maxL := 3) (ret := (some .int)) (plainFor_of_name (by decide)) rfl (Nat.le_of_ble_eq_true rfl) ?_
  intro p e S m below meth c hx hb hr hml hown hts hlocks hnm hsz hA hC ls hl
  have hF : CallFix p m c cX4_others 3 S [.ref (b 0), .int p0, .int p1].toArray wsX4_others RX4 := ⟨hx, hb, hml, hown, hts⟩
  have h_f22 : (Cond.fieldLink RX4 22 "CombersSocietyModel" "s" "LCombersSocietyModel$State;").before [.ref (b 0), .int p0, .int p1].toArray S = true := hts _ (by decide +kernel)
  have h_iX4 : ∀ w ∈ u_ws RX4 TX4 5, w ∈ wsX4_others := by decide +kernel
  have hl : lv_has ls 3 [(0, .ref (b 0)), (1, .int p0), (2, .int p1)] := hl
  refine lv_aload_n hx hb dX4_others_0 rfl (lv_at hl 0 rfl) ?_
  refine rg_w hx hb hts h_iX4 hown hC 0 (by decide) h_f22 dX4_others_1 ?_
  refine lv_iload_n hx hb dX4_others_4 rfl (lv_at hl 2 rfl) ?_
  refine r_iVp (n := 1) hF (c_X3_there l D cI b 0 θ τ ρ (by decide) p1 N hW) gX4_others_X3_there rfl rfl rfl (by decide +kernel) ⟨Nat.le_of_ble_eq_true rfl, Nat.le_of_ble_eq_true rfl⟩ hC hA (hC.recvS (by decide)) rfl hl.1 rfl (Nat.le_of_ble_eq_true rfl) dX4_others_5 ⟨Nat.zero_le _, Nat.zero_le _⟩ ?_
  clear hC; intro H locs hC
  refine lv_aload_n hx hb dX4_others_8 rfl (lv_at hl 0 rfl) ?_
  refine rg_w hx hb hts h_iX4 hown hC 0 (by decide) h_f22 dX4_others_9 ?_
  refine lv_iload_n hx hb dX4_others_12 rfl (lv_at hl 1 rfl) ?_
  refine lv_iconst (v := 5) hx hb dX4_others_13 (by decide) ?_
  refine r_iVp (n := 2) hF (c_X3_of l D cI b 0 θ τ ρ (by decide) p0 (5 : Int32) hx0 ⟨5, by decide, rfl⟩) gX4_others_X3_of rfl rfl rfl (by decide +kernel) ⟨Nat.le_of_ble_eq_true rfl, Nat.le_of_ble_eq_true rfl⟩ hC hA (hC.recvS (by decide)) rfl hl.1 rfl (Nat.le_of_ble_eq_true rfl) dX4_others_14 ⟨Nat.zero_le _, Nat.zero_le _⟩ ?_
  clear hC; intro H locs hC
  refine lv_iload_n hx hb dX4_others_17 rfl (lv_at hl 2 rfl) ?_
  refine lv_icmp_ne (tgt := 25) hx hb dX4_others_18 (by decide) (fun c1 => ?_) (fun c1 => ?_)
  · refine lv_iconst (v := 0) hx hb dX4_others_25 (by decide) ?_
    refine lv_isub hx hb dX4_others_26 ?_
    have e : fX4_others τ p0 p1 = ((fX3_there τ p1) - (0 : Int32)) := by exact ((if_neg c1).trans rfl)
    exact r_iret hx hb hr hlocks hC dX4_others_27 ⟨by rw [e], rfl, rfl⟩
  · refine lv_iconst (v := 1) hx hb dX4_others_21 (by decide) ?_
    refine lv_goto (tgt := 26) hx hb dX4_others_22 (by decide) ?_
    refine lv_isub hx hb dX4_others_26 ?_
    have e : fX4_others τ p0 p1 = ((fX3_there τ p1) - (1 : Int32)) := by exact ((if_pos c1).trans rfl)
    exact r_iret hx hb hr hlocks hC dX4_others_27 ⟨by rw [e], rfl, rfl⟩
abbrev rmX4_counted : Room := { frames := 2, cells := 0, slots := 0, locals := 45 }
def fX4_counted (τ : (Nat → Nat → Int32)) (p1 : Int32) : Int32 :=
    if p1 = 0 then
      (τ 0 0)
    else
      if p1 = 1 then
        (τ 0 1)
      else
        if p1 = 2 then
          (fX3_many τ (p1 - (2 : Int32)))
        else
          if p1 = 3 then
            (fX3_many τ (p1 - (2 : Int32)))
          else
            if p1 = 4 then
              (fX3_many τ (p1 - (2 : Int32)))
            else
              if p1 = 5 then
                (τ 0 2)
              else
                if p1 = 6 then
                  (τ 0 3)
                else
                  if p1 = 7 then
                    (τ 0 4)
                  else
                    if p1 = 8 then
                      (τ 0 5)
                    else
                      if p1 = 9 then
                        (fX3_all τ (2 : Int32))
                      else
                        if p1 = 10 then
                          (fX3_all τ (3 : Int32))
                        else
                          if p1 = 11 then
                            (τ 0 6)
                          else
                            (τ 0 7)
set_option maxHeartbeats 400000 in
set_option maxRecDepth 100000 in
theorem c_X4_counted (l : Launch) (D : va_G) (cI : ClassId) (b : Nat → Nat) (s : Nat) (θ τ ρ : (Nat → Nat → Int32)) (hs : s < 2) (p1 : Int32) (N : Nat) (hW : wf τ N) : rMi l yX4_counted wsX4_counted rmX4_counted D cI b [.ref (b (3*s+2+0)), .int p1] s θ τ ρ (fX4_counted τ p1) θ τ := by
  intro sz
  refine r_head (cc := cX4_counted) (maxL := 2) (ret := (some .int)) (plainFor_of_name (by decide)) rfl (Nat.le_of_ble_eq_true rfl) ?_
  intro p e S m below meth c hx hb hr hml hown hts hlocks hnm hsz hA hC ls hl
  have hF : CallFix p m c cX4_counted 2 S [.ref (b (3*s+2+0)), .int p1].toArray wsX4_counted RX4 := ⟨hx, hb, hml, hown, hts⟩
  have h_f113 : (nw113).before [.ref (b (3*s+2+0)), .int p1].toArray S = true := va_Nw.use rfl hC.2.2.2.2.nw113
  have h_iX3 : ∀ w ∈ u_ws RX3 TX3 12, w ∈ wsX4_counted := by decide +kernel
  have h_f32 : (nw32).before [.ref (b (3*s+2+0)), .int p1].toArray S = true := va_Nw.use rfl hC.2.2.2.2.nw32
  have h_f76 : (nw76).before [.ref (b (3*s+2+0)), .int p1].toArray S = true := va_Nw.use rfl hC.2.2.2.2.nw76
  have h_f79 : (nw79).before [.ref (b (3*s+2+0)), .int p1].toArray S = true := va_Nw.use rfl hC.2.2.2.2.nw79
  have h_f82 : (nw82).before [.ref (b (3*s+2+0)), .int p1].toArray S = true := va_Nw.use rfl hC.2.2.2.2.nw82
  have h_f85 : (nw85).before [.ref (b (3*s+2+0)), .int p1].toArray S = true := va_Nw.use rfl hC.2.2.2.2.nw85
  have h_f122 : (nw122).before [.ref (b (3*s+2+0)), .int p1].toArray S = true := va_Nw.use rfl hC.2.2.2.2.nw122
  have h_f125 : (nw125).before [.ref (b (3*s+2+0)), .int p1].toArray S = true := va_Nw.use rfl hC.2.2.2.2.nw125
  have hl : lv_has ls 2 [(0, .ref (b (3*s+2+0))), (1, .int p1)] := hl
  refine lv_iload_n hx hb dX4_counted_0 rfl (lv_at hl 1 rfl) ?_
  by_cases hs0 : p1 = 0
  · refine lv_tableIn (off := 63) (tgt := 64) hx hb dX4_counted_1 (by rw [hs0]; decide) (by rw [hs0]; decide) (by rw [hs0]; rfl) (by decide) ?_
    refine lv_aload_n hx hb dX4_counted_64 rfl (lv_at hl 0 rfl) ?_
    refine rg_sN hx hb hts h_iX3 hown hC hs 0 (by decide) h_f113 dX4_counted_65 ?_
    have e : fX4_counted τ p1 = (τ 0 0) := by exact ((if_pos hs0).trans rfl)
    exact r_iret hx hb hr hlocks hC dX4_counted_68 ⟨by rw [e], rfl, rfl⟩
  · by_cases hs1 : p1 = 1
    · refine lv_tableIn (off := 68) (tgt := 69) hx hb dX4_counted_1 (by rw [hs1]; decide) (by rw [hs1]; decide) (by rw [hs1]; rfl) (by decide) ?_
      refine lv_aload_n hx hb dX4_counted_69 rfl (lv_at hl 0 rfl) ?_
      refine rg_sN hx hb hts h_iX3 hown hC hs 1 (by decide) h_f32 dX4_counted_70 ?_
      have e : fX4_counted τ p1 = (τ 0 1) := by exact ((if_neg hs0).trans ((if_pos hs1).trans rfl))
      exact r_iret hx hb hr hlocks hC dX4_counted_73 ⟨by rw [e], rfl, rfl⟩
    · by_cases hs2 : p1 = 2
      · refine lv_tableIn (off := 73) (tgt := 74) hx hb dX4_counted_1 (by rw [hs2]; decide) (by rw [hs2]; decide) (by rw [hs2]; rfl) (by decide) ?_
        refine lv_aload_n hx hb dX4_counted_74 rfl (lv_at hl 0 rfl) ?_
        refine lv_iload_n hx hb dX4_counted_75 rfl (lv_at hl 1 rfl) ?_
        refine lv_iconst (v := 2) hx hb dX4_counted_76 (by decide) ?_
        refine lv_isub hx hb dX4_counted_77 ?_
        refine r_iVp (n := 1) hF (c_X3_many l D cI b s θ τ ρ hs (p1 - (2 : Int32)) N hW) gX4_counted_X3_many rfl rfl rfl (by decide +kernel) ⟨Nat.le_of_ble_eq_true rfl, Nat.le_of_ble_eq_true rfl⟩ hC hA (hC.recvS hs) rfl hl.1 rfl (Nat.le_of_ble_eq_true rfl) dX4_counted_78 ⟨Nat.zero_le _, Nat.zero_le _⟩ ?_
        clear hC; intro H locs hC
        have e : fX4_counted τ p1 = (fX3_many τ (p1 - (2 : Int32))) := by exact ((if_neg hs0).trans ((if_neg hs1).trans ((if_pos hs2).trans rfl)))
        exact r_iret hx hb hr hlocks hC dX4_counted_81 ⟨by rw [e], rfl, rfl⟩
      · by_cases hs3 : p1 = 3
        · refine lv_tableIn (off := 73) (tgt := 74) hx hb dX4_counted_1 (by rw [hs3]; decide) (by rw [hs3]; decide) (by rw [hs3]; rfl) (by decide) ?_
          refine lv_aload_n hx hb dX4_counted_74 rfl (lv_at hl 0 rfl) ?_
          refine lv_iload_n hx hb dX4_counted_75 rfl (lv_at hl 1 rfl) ?_
          refine lv_iconst (v := 2) hx hb dX4_counted_76 (by decide) ?_
          refine lv_isub hx hb dX4_counted_77 ?_
          refine r_iVp (n := 1) hF (c_X3_many l D cI b s θ τ ρ hs (p1 - (2 : Int32)) N hW) gX4_counted_X3_many rfl rfl rfl (by decide +kernel) ⟨Nat.le_of_ble_eq_true rfl, Nat.le_of_ble_eq_true rfl⟩ hC hA (hC.recvS hs) rfl hl.1 rfl (Nat.le_of_ble_eq_true rfl) dX4_counted_78 ⟨Nat.zero_le _, Nat.zero_le _⟩ ?_
          clear hC; intro H locs hC
          have e : fX4_counted τ p1 = (fX3_many τ (p1 - (2 : Int32))) := by exact ((if_neg hs0).trans ((if_neg hs1).trans ((if_neg hs2).trans ((if_pos hs3).trans rfl))))
          exact r_iret hx hb hr hlocks hC dX4_counted_81 ⟨by rw [e], rfl, rfl⟩
        · by_cases hs4 : p1 = 4
          · refine lv_tableIn (off := 73) (tgt := 74) hx hb dX4_counted_1 (by rw [hs4]; decide) (by rw [hs4]; decide) (by rw [hs4]; rfl) (by decide) ?_
            refine lv_aload_n hx hb dX4_counted_74 rfl (lv_at hl 0 rfl) ?_
            refine lv_iload_n hx hb dX4_counted_75 rfl (lv_at hl 1 rfl) ?_
            refine lv_iconst (v := 2) hx hb dX4_counted_76 (by decide) ?_
            refine lv_isub hx hb dX4_counted_77 ?_
            refine r_iVp (n := 1) hF (c_X3_many l D cI b s θ τ ρ hs (p1 - (2 : Int32)) N hW) gX4_counted_X3_many rfl rfl rfl (by decide +kernel) ⟨Nat.le_of_ble_eq_true rfl, Nat.le_of_ble_eq_true rfl⟩ hC hA (hC.recvS hs) rfl hl.1 rfl (Nat.le_of_ble_eq_true rfl) dX4_counted_78 ⟨Nat.zero_le _, Nat.zero_le _⟩ ?_
            clear hC; intro H locs hC
            have e : fX4_counted τ p1 = (fX3_many τ (p1 - (2 : Int32))) := by exact ((if_neg hs0).trans ((if_neg hs1).trans ((if_neg hs2).trans ((if_neg hs3).trans ((if_pos hs4).trans rfl)))))
            exact r_iret hx hb hr hlocks hC dX4_counted_81 ⟨by rw [e], rfl, rfl⟩
          · by_cases hs5 : p1 = 5
            · refine lv_tableIn (off := 81) (tgt := 82) hx hb dX4_counted_1 (by rw [hs5]; decide) (by rw [hs5]; decide) (by rw [hs5]; rfl) (by decide) ?_
              refine lv_aload_n hx hb dX4_counted_82 rfl (lv_at hl 0 rfl) ?_
              refine rg_sN hx hb hts h_iX3 hown hC hs 2 (by decide) h_f76 dX4_counted_83 ?_
              have e : fX4_counted τ p1 = (τ 0 2) := by exact ((if_neg hs0).trans ((if_neg hs1).trans ((if_neg hs2).trans ((if_neg hs3).trans ((if_neg hs4).trans ((if_pos hs5).trans rfl))))))
              exact r_iret hx hb hr hlocks hC dX4_counted_86 ⟨by rw [e], rfl, rfl⟩
            · by_cases hs6 : p1 = 6
              · refine lv_tableIn (off := 86) (tgt := 87) hx hb dX4_counted_1 (by rw [hs6]; decide) (by rw [hs6]; decide) (by rw [hs6]; rfl) (by decide) ?_
                refine lv_aload_n hx hb dX4_counted_87 rfl (lv_at hl 0 rfl) ?_
                refine rg_sN hx hb hts h_iX3 hown hC hs 3 (by decide) h_f79 dX4_counted_88 ?_
                have e : fX4_counted τ p1 = (τ 0 3) := by exact ((if_neg hs0).trans ((if_neg hs1).trans ((if_neg hs2).trans ((if_neg hs3).trans ((if_neg hs4).trans ((if_neg hs5).trans ((if_pos hs6).trans rfl)))))))
                exact r_iret hx hb hr hlocks hC dX4_counted_91 ⟨by rw [e], rfl, rfl⟩
              · by_cases hs7 : p1 = 7
                · refine lv_tableIn (off := 91) (tgt := 92) hx hb dX4_counted_1 (by rw [hs7]; decide) (by rw [hs7]; decide) (by rw [hs7]; rfl) (by decide) ?_
                  refine lv_aload_n hx hb dX4_counted_92 rfl (lv_at hl 0 rfl) ?_
                  refine rg_sN hx hb hts h_iX3 hown hC hs 4 (by decide) h_f82 dX4_counted_93 ?_
                  have e : fX4_counted τ p1 = (τ 0 4) := by exact ((if_neg hs0).trans ((if_neg hs1).trans ((if_neg hs2).trans ((if_neg hs3).trans ((if_neg hs4).trans ((if_neg hs5).trans ((if_neg hs6).trans ((if_pos hs7).trans rfl))))))))
                  exact r_iret hx hb hr hlocks hC dX4_counted_96 ⟨by rw [e], rfl, rfl⟩
                · by_cases hs8 : p1 = 8
                  · refine lv_tableIn (off := 96) (tgt := 97) hx hb dX4_counted_1 (by rw [hs8]; decide) (by rw [hs8]; decide) (by rw [hs8]; rfl) (by decide) ?_
                    refine lv_aload_n hx hb dX4_counted_97 rfl (lv_at hl 0 rfl) ?_
                    refine rg_sN hx hb hts h_iX3 hown hC hs 5 (by decide) h_f85 dX4_counted_98 ?_
                    have e : fX4_counted τ p1 = (τ 0 5) := by exact ((if_neg hs0).trans ((if_neg hs1).trans ((if_neg hs2).trans ((if_neg hs3).trans ((if_neg hs4).trans ((if_neg hs5).trans ((if_neg hs6).trans ((if_neg hs7).trans ((if_pos hs8).trans rfl)))))))))
                    exact r_iret hx hb hr hlocks hC dX4_counted_101 ⟨by rw [e], rfl, rfl⟩
                  · by_cases hs9 : p1 = 9
                    · refine lv_tableIn (off := 101) (tgt := 102) hx hb dX4_counted_1 (by rw [hs9]; decide) (by rw [hs9]; decide) (by rw [hs9]; rfl) (by decide) ?_
                      refine lv_aload_n hx hb dX4_counted_102 rfl (lv_at hl 0 rfl) ?_
                      refine lv_iconst (v := 2) hx hb dX4_counted_103 (by decide) ?_
                      refine r_iVp (n := 1) hF (c_X3_all l D cI b s θ τ ρ hs (2 : Int32) ⟨2, by decide, rfl⟩ N hW) gX4_counted_X3_all rfl rfl rfl (by decide +kernel) ⟨Nat.le_of_ble_eq_true rfl, Nat.le_of_ble_eq_true rfl⟩ hC hA (hC.recvS hs) rfl hl.1 rfl (Nat.le_of_ble_eq_true rfl) dX4_counted_104 ⟨Nat.zero_le _, Nat.zero_le _⟩ ?_
                      clear hC; intro H locs hC
                      have e : fX4_counted τ p1 = (fX3_all τ (2 : Int32)) := by exact ((if_neg hs0).trans ((if_neg hs1).trans ((if_neg hs2).trans ((if_neg hs3).trans ((if_neg hs4).trans ((if_neg hs5).trans ((if_neg hs6).trans ((if_neg hs7).trans ((if_neg hs8).trans ((if_pos hs9).trans rfl))))))))))
                      exact r_iret hx hb hr hlocks hC dX4_counted_107 ⟨by rw [e], rfl, rfl⟩
                    · by_cases hs10 : p1 = 10
                      · refine lv_tableIn (off := 107) (tgt := 108) hx hb dX4_counted_1 (by rw [hs10]; decide) (by rw [hs10]; decide) (by rw [hs10]; rfl) (by decide) ?_
                        refine lv_aload_n hx hb dX4_counted_108 rfl (lv_at hl 0 rfl) ?_
                        refine lv_iconst (v := 3) hx hb dX4_counted_109 (by decide) ?_
                        refine r_iVp (n := 1) hF (c_X3_all l D cI b s θ τ ρ hs (3 : Int32) ⟨3, by decide, rfl⟩ N hW) gX4_counted_X3_all rfl rfl rfl (by decide +kernel) ⟨Nat.le_of_ble_eq_true rfl, Nat.le_of_ble_eq_true rfl⟩ hC hA (hC.recvS hs) rfl hl.1 rfl (Nat.le_of_ble_eq_true rfl) dX4_counted_110 ⟨Nat.zero_le _, Nat.zero_le _⟩ ?_
                        clear hC; intro H locs hC
                        have e : fX4_counted τ p1 = (fX3_all τ (3 : Int32)) := by exact ((if_neg hs0).trans ((if_neg hs1).trans ((if_neg hs2).trans ((if_neg hs3).trans ((if_neg hs4).trans ((if_neg hs5).trans ((if_neg hs6).trans ((if_neg hs7).trans ((if_neg hs8).trans ((if_neg hs9).trans ((if_pos hs10).trans rfl)))))))))))
                        exact r_iret hx hb hr hlocks hC dX4_counted_113 ⟨by rw [e], rfl, rfl⟩
                      · by_cases hs11 : p1 = 11
                        · refine lv_tableIn (off := 113) (tgt := 114) hx hb dX4_counted_1 (by rw [hs11]; decide) (by rw [hs11]; decide) (by rw [hs11]; rfl) (by decide) ?_
                          refine lv_aload_n hx hb dX4_counted_114 rfl (lv_at hl 0 rfl) ?_
                          refine rg_sN hx hb hts h_iX3 hown hC hs 6 (by decide) h_f122 dX4_counted_115 ?_
                          have e : fX4_counted τ p1 = (τ 0 6) := by exact ((if_neg hs0).trans ((if_neg hs1).trans ((if_neg hs2).trans ((if_neg hs3).trans ((if_neg hs4).trans ((if_neg hs5).trans ((if_neg hs6).trans ((if_neg hs7).trans ((if_neg hs8).trans ((if_neg hs9).trans ((if_neg hs10).trans ((if_pos hs11).trans rfl))))))))))))
                          exact r_iret hx hb hr hlocks hC dX4_counted_118 ⟨by rw [e], rfl, rfl⟩
                        · refine lv_tableOut (tgt := 119) hx hb dX4_counted_1 (by have q0 := lv_neT (a := 0) hs0 (by decide); have q1 := lv_neT (a := 1) hs1 (by decide); have q2 := lv_neT (a := 2) hs2 (by decide); have q3 := lv_neT (a := 3) hs3 (by decide); have q4 := lv_neT (a := 4) hs4 (by decide); have q5 := lv_neT (a := 5) hs5 (by decide); have q6 := lv_neT (a := 6) hs6 (by decide); have q7 := lv_neT (a := 7) hs7 (by decide); have q8 := lv_neT (a := 8) hs8 (by decide); have q9 := lv_neT (a := 9) hs9 (by decide); have q10 := lv_neT (a := 10) hs10 (by decide); have q11 := lv_neT (a := 11) hs11 (by decide); omega) (by decide) ?_
                          refine lv_aload_n hx hb dX4_counted_119 rfl (lv_at hl 0 rfl) ?_
                          refine rg_sN hx hb hts h_iX3 hown hC hs 7 (by decide) h_f125 dX4_counted_120 ?_
                          have e : fX4_counted τ p1 = (τ 0 7) := by exact ((if_neg hs0).trans ((if_neg hs1).trans ((if_neg hs2).trans ((if_neg hs3).trans ((if_neg hs4).trans ((if_neg hs5).trans ((if_neg hs6).trans ((if_neg hs7).trans ((if_neg hs8).trans ((if_neg hs9).trans ((if_neg hs10).trans ((if_neg hs11).trans rfl))))))))))))
                          exact r_iret hx hb hr hlocks hC dX4_counted_123 ⟨by rw [e], rfl, rfl⟩
abbrev rmX4_place : Room := { frames := 3, cells := 0, slots := 0, locals := 67 }
def fX4_place (θ : (Nat → Nat → Int32)) (τ : (Nat → Nat → Int32)) (p0 : Int32) (p1 : Int32) : Int32 × (Nat → Nat → Int32) × (Nat → Nat → Int32) :=
    let θ1 : (Nat → Nat → Int32) := up2 θ 0 0 (0 : Int32)
    if (fX4_isMember τ p0) = 0 then
      let θ3 : (Nat → Nat → Int32) := (fX4_no θ1 (1 : Int32)).2
      ((fX4_no θ1 (1 : Int32)).1, θ3, τ)
    else
      if (fX4_isIn p1 (-1 : Int32) (2 : Int32)) = 0 then
        let θ12 : (Nat → Nat → Int32) := (fX4_no θ1 (1 : Int32)).2
        ((fX4_no θ1 (1 : Int32)).1, θ12, τ)
      else
        if (fX4_isDead τ p0) = 0 then
          if p1 = (-1 : Int32) then
            let τ8 : (Nat → Nat → Int32) := (fX3_set τ p0 (5 : Int32) p1)
            ((fX3_of τ p0 (5 : Int32)), θ1, τ8)
          else
            if (fX4_others τ p0 p1) < (4 : Int32) then
              let τ10 : (Nat → Nat → Int32) := (fX3_set τ p0 (5 : Int32) p1)
              ((fX3_of τ p0 (5 : Int32)), θ1, τ10)
            else
              let θ11 : (Nat → Nat → Int32) := (fX4_no θ1 (2 : Int32)).2
              ((fX4_no θ1 (2 : Int32)).1, θ11, τ)
        else
          let θ6 : (Nat → Nat → Int32) := (fX4_no θ1 (2 : Int32)).2
          ((fX4_no θ1 (2 : Int32)).1, θ6, τ)
set_option maxHeartbeats 400000 in
set_option maxRecDepth 100000 in
theorem c_X4_place (l : Launch) (D : va_G) (cI : ClassId) (b : Nat → Nat) (θ τ ρ : (Nat → Nat → Int32)) (p0 : Int32) (p1 : Int32) (N : Nat) (hW : wf τ N) : rMi l yX4_place wsX4_place rmX4_place D cI b [.ref (b 0), .int p0, .int p1] 0 θ τ ρ (fX4_place θ τ p0 p1).1 (fX4_place θ τ p0 p1).2.1 (fX4_place θ τ p0 p1).2.2 := by
  intro sz
  refine r_head (cc := cX4_place) (maxL := 4) (ret := (some .int)) (plainFor_of_name (by decide)) rfl (Nat.le_of_ble_eq_true rfl) ?_
  intro p e S m below meth c hx hb hr hml hown hts hlocks hnm hsz hA hC ls hl
  have hF : CallFix p m c cX4_place 4 S [.ref (b 0), .int p0, .int p1].toArray wsX4_place RX4 := ⟨hx, hb, hml, hown, hts⟩
  have h_f29 : (Cond.fieldLink RX4 29 "CombersSocietyModel" "thrown" "I").before [.ref (b 0), .int p0, .int p1].toArray S = true := hts _ (by decide +kernel)
  have h_iX4 : ∀ w ∈ u_ws RX4 TX4 5, w ∈ wsX4_place := by decide +kernel
  have h_f22 : (Cond.fieldLink RX4 22 "CombersSocietyModel" "s" "LCombersSocietyModel$State;").before [.ref (b 0), .int p0, .int p1].toArray S = true := hts _ (by decide +kernel)
  have hl : lv_has ls 4 [(0, .ref (b 0)), (1, .int p0), (2, .int p1)] := hl
  refine lv_aload_n hx hb dX4_place_0 rfl (lv_at hl 0 rfl) ?_
  refine lv_iconst (v := 0) hx hb dX4_place_1 (by decide) ?_
  refine rp_m hx hb hts h_iX4 hown hC 0 (by decide) h_f29 dX4_place_2 ?_
  clear hC; intro H locs θ1 eθ1 hC
  refine lv_aload_n hx hb dX4_place_5 rfl (lv_at hl 0 rfl) ?_
  refine lv_iload_n hx hb dX4_place_6 rfl (lv_at hl 1 rfl) ?_
  refine r_iVp (n := 1) hF (c_X4_isMember l D cI b θ1 τ ρ p0) gX4_place_X4_isMember rfl rfl rfl (by decide +kernel) ⟨Nat.le_of_ble_eq_true rfl, Nat.le_of_ble_eq_true rfl⟩ hC hA hC.recvM rfl hl.1 rfl (Nat.le_of_ble_eq_true rfl) dX4_place_7 ⟨Nat.zero_le _, Nat.zero_le _⟩ ?_
  clear hC; intro H locs hC
  refine lv_if_eq (tgt := 22) hx hb dX4_place_10 (by decide) (fun c2 => ?_) (fun c2 => ?_)
  · refine lv_aload_n hx hb dX4_place_22 rfl (lv_at hl 0 rfl) ?_
    refine lv_iconst (v := 1) hx hb dX4_place_23 (by decide) ?_
    refine r_iVm (n := 1) hF (c_X4_no l D cI b 0 θ1 τ ρ (1 : Int32)) gX4_place_X4_no rfl rfl rfl (by decide +kernel) ⟨Nat.le_of_ble_eq_true rfl, Nat.le_of_ble_eq_true rfl⟩ hC hA hC.recvM rfl hl.1 rfl (Nat.le_of_ble_eq_true rfl) dX4_place_24 ⟨Nat.zero_le _, Nat.zero_le _⟩ ?_
    clear hC; intro H locs θ3 eθ3 hC
    have e : fX4_place θ τ p0 p1 = ((fX4_no θ1 (1 : Int32)).1, θ3, τ) := by subst eθ1 eθ3; exact ((if_pos c2).trans rfl)
    exact r_iret hx hb hr hlocks hC dX4_place_27 ⟨by rw [e], by rw [e], by rw [e]⟩
  · refine lv_iload_n hx hb dX4_place_13 rfl (lv_at hl 2 rfl) ?_
    refine lv_iconst (v := -1) hx hb dX4_place_14 (by decide) ?_
    refine lv_iconst (v := 2) hx hb dX4_place_15 (by decide) ?_
    refine r_iSi (n := 3) hF (c_X4_isIn l D cI b 0 θ1 τ ρ p1 (-1 : Int32) (2 : Int32)) gX4_place_X4_isIn rfl rfl rfl (by decide +kernel) ⟨Nat.le_of_ble_eq_true rfl, Nat.le_of_ble_eq_true rfl⟩ hC hA rfl hl.1 rfl (Nat.le_of_ble_eq_true rfl) dX4_place_16 ⟨Nat.zero_le _, Nat.zero_le _⟩ ?_
    clear hC; intro H locs hC
    refine lv_if_ne (tgt := 28) hx hb dX4_place_19 (by decide) (fun c4 => ?_) (fun c4 => ?_)
    · refine lv_aload_n hx hb dX4_place_28 rfl (lv_at hl 0 rfl) ?_
      refine lv_iload_n hx hb dX4_place_29 rfl (lv_at hl 1 rfl) ?_
      refine r_iVp (n := 1) hF (c_X4_isDead l D cI b θ1 τ ρ p0 (mem_ix hW c2)) gX4_place_X4_isDead rfl rfl rfl (by decide +kernel) ⟨Nat.le_of_ble_eq_true rfl, Nat.le_of_ble_eq_true rfl⟩ hC hA hC.recvM rfl hl.1 rfl (Nat.le_of_ble_eq_true rfl) dX4_place_30 ⟨Nat.zero_le _, Nat.zero_le _⟩ ?_
      clear hC; intro H locs hC
      refine lv_if_ne (tgt := 51) hx hb dX4_place_33 (by decide) (fun c5 => ?_) (fun c5 => ?_)
      · refine lv_aload_n hx hb dX4_place_51 rfl (lv_at hl 0 rfl) ?_
        refine lv_iconst (v := 2) hx hb dX4_place_52 (by decide) ?_
        refine r_iVm (n := 1) hF (c_X4_no l D cI b 0 θ1 τ ρ (2 : Int32)) gX4_place_X4_no rfl rfl rfl (by decide +kernel) ⟨Nat.le_of_ble_eq_true rfl, Nat.le_of_ble_eq_true rfl⟩ hC hA hC.recvM rfl hl.1 rfl (Nat.le_of_ble_eq_true rfl) dX4_place_53 ⟨Nat.zero_le _, Nat.zero_le _⟩ ?_
        clear hC; intro H locs θ6 eθ6 hC
        have e : fX4_place θ τ p0 p1 = ((fX4_no θ1 (2 : Int32)).1, θ6, τ) := by subst eθ1 eθ6; exact ((if_neg c2).trans ((if_neg c4).trans ((if_neg c5).trans rfl)))
        exact r_iret hx hb hr hlocks hC dX4_place_56 ⟨by rw [e], by rw [e], by rw [e]⟩
      · refine lv_iload_n hx hb dX4_place_36 rfl (lv_at hl 2 rfl) ?_
        refine lv_iconst (v := -1) hx hb dX4_place_37 (by decide) ?_
        refine lv_icmp_eq (tgt := 57) hx hb dX4_place_38 (by decide) (fun c7 => ?_) (fun c7 => ?_)
        · refine lv_aload_n hx hb dX4_place_57 rfl (lv_at hl 0 rfl) ?_
          refine rg_w hx hb hts h_iX4 hown hC 0 (by decide) h_f22 dX4_place_58 ?_
          refine lv_iload_n hx hb dX4_place_61 rfl (lv_at hl 1 rfl) ?_
          refine lv_iconst (v := 5) hx hb dX4_place_62 (by decide) ?_
          refine r_iVp (n := 2) hF (c_X3_of l D cI b 0 θ1 τ ρ (by decide) p0 (5 : Int32) (mem_ix hW c2) ⟨5, by decide, rfl⟩) gX4_place_X3_of rfl rfl rfl (by decide +kernel) ⟨Nat.le_of_ble_eq_true rfl, Nat.le_of_ble_eq_true rfl⟩ hC hA (hC.recvS (by decide)) rfl hl.1 rfl (Nat.le_of_ble_eq_true rfl) dX4_place_63 ⟨Nat.zero_le _, Nat.zero_le _⟩ ?_
          clear hC; intro H locs hC
          refine lv_istore_n (lv' := [(3, .int (fX3_of τ p0 (5 : Int32))), (0, .ref (b 0)), (1, .int p0), (2, .int p1)]) hx hb dX4_place_66 rfl hl (by decide) rfl ?_
          clear hl; intro ls hl
          refine lv_aload_n hx hb dX4_place_67 rfl (lv_at hl 1 rfl) ?_
          refine rg_w hx hb hts h_iX4 hown hC 0 (by decide) h_f22 dX4_place_68 ?_
          refine lv_iload_n hx hb dX4_place_71 rfl (lv_at hl 2 rfl) ?_
          refine lv_iconst (v := 5) hx hb dX4_place_72 (by decide) ?_
          refine lv_iload_n hx hb dX4_place_73 rfl (lv_at hl 3 rfl) ?_
          refine r_iVv (n := 3) hF (c_X3_set l D cI b 0 θ1 τ ρ (by decide) p0 (5 : Int32) p1 (mem_ix hW c2) ⟨5, by decide, rfl⟩) gX4_place_X3_set rfl rfl rfl (by decide +kernel) ⟨Nat.le_of_ble_eq_true rfl, Nat.le_of_ble_eq_true rfl⟩ hC hA (hC.recvS (by decide)) rfl hl.1 rfl (Nat.le_of_ble_eq_true rfl) dX4_place_74 ⟨Nat.zero_le _, Nat.zero_le _⟩ ?_
          clear hC; intro H locs τ8 eτ8 hC
          refine lv_iload_n hx hb dX4_place_77 rfl (lv_at hl 0 rfl) ?_
          have e : fX4_place θ τ p0 p1 = ((fX3_of τ p0 (5 : Int32)), θ1, τ8) := by subst eθ1 eτ8; exact ((if_neg c2).trans ((if_neg c4).trans ((if_pos c5).trans ((if_pos c7).trans rfl))))
          exact r_iret hx hb hr hlocks hC dX4_place_78 ⟨by rw [e], by rw [e], by rw [e]⟩
        · refine lv_aload_n hx hb dX4_place_41 rfl (lv_at hl 0 rfl) ?_
          refine lv_iload_n hx hb dX4_place_42 rfl (lv_at hl 1 rfl) ?_
          refine lv_iload_n hx hb dX4_place_43 rfl (lv_at hl 2 rfl) ?_
          refine r_iVp (n := 2) hF (c_X4_others l D cI b θ1 τ ρ p0 p1 (mem_ix hW c2) N hW) gX4_place_X4_others rfl rfl rfl (by decide +kernel) ⟨Nat.le_of_ble_eq_true rfl, Nat.le_of_ble_eq_true rfl⟩ hC hA hC.recvM rfl hl.1 rfl (Nat.le_of_ble_eq_true rfl) dX4_place_44 ⟨Nat.zero_le _, Nat.zero_le _⟩ ?_
          clear hC; intro H locs hC
          refine lv_iconst (v := 4) hx hb dX4_place_47 (by decide) ?_
          refine lv_icmp_lt (tgt := 57) hx hb dX4_place_48 (by decide) (fun c9 => ?_) (fun c9 => ?_)
          · refine lv_aload_n hx hb dX4_place_57 rfl (lv_at hl 0 rfl) ?_
            refine rg_w hx hb hts h_iX4 hown hC 0 (by decide) h_f22 dX4_place_58 ?_
            refine lv_iload_n hx hb dX4_place_61 rfl (lv_at hl 1 rfl) ?_
            refine lv_iconst (v := 5) hx hb dX4_place_62 (by decide) ?_
            refine r_iVp (n := 2) hF (c_X3_of l D cI b 0 θ1 τ ρ (by decide) p0 (5 : Int32) (mem_ix hW c2) ⟨5, by decide, rfl⟩) gX4_place_X3_of rfl rfl rfl (by decide +kernel) ⟨Nat.le_of_ble_eq_true rfl, Nat.le_of_ble_eq_true rfl⟩ hC hA (hC.recvS (by decide)) rfl hl.1 rfl (Nat.le_of_ble_eq_true rfl) dX4_place_63 ⟨Nat.zero_le _, Nat.zero_le _⟩ ?_
            clear hC; intro H locs hC
            refine lv_istore_n (lv' := [(3, .int (fX3_of τ p0 (5 : Int32))), (0, .ref (b 0)), (1, .int p0), (2, .int p1)]) hx hb dX4_place_66 rfl hl (by decide) rfl ?_
            clear hl; intro ls hl
            refine lv_aload_n hx hb dX4_place_67 rfl (lv_at hl 1 rfl) ?_
            refine rg_w hx hb hts h_iX4 hown hC 0 (by decide) h_f22 dX4_place_68 ?_
            refine lv_iload_n hx hb dX4_place_71 rfl (lv_at hl 2 rfl) ?_
            refine lv_iconst (v := 5) hx hb dX4_place_72 (by decide) ?_
            refine lv_iload_n hx hb dX4_place_73 rfl (lv_at hl 3 rfl) ?_
            refine r_iVv (n := 3) hF (c_X3_set l D cI b 0 θ1 τ ρ (by decide) p0 (5 : Int32) p1 (mem_ix hW c2) ⟨5, by decide, rfl⟩) gX4_place_X3_set rfl rfl rfl (by decide +kernel) ⟨Nat.le_of_ble_eq_true rfl, Nat.le_of_ble_eq_true rfl⟩ hC hA (hC.recvS (by decide)) rfl hl.1 rfl (Nat.le_of_ble_eq_true rfl) dX4_place_74 ⟨Nat.zero_le _, Nat.zero_le _⟩ ?_
            clear hC; intro H locs τ10 eτ10 hC
            refine lv_iload_n hx hb dX4_place_77 rfl (lv_at hl 0 rfl) ?_
            have e : fX4_place θ τ p0 p1 = ((fX3_of τ p0 (5 : Int32)), θ1, τ10) := by subst eθ1 eτ10; exact ((if_neg c2).trans ((if_neg c4).trans ((if_pos c5).trans ((if_neg c7).trans ((if_pos c9).trans rfl)))))
            exact r_iret hx hb hr hlocks hC dX4_place_78 ⟨by rw [e], by rw [e], by rw [e]⟩
          · refine lv_aload_n hx hb dX4_place_51 rfl (lv_at hl 0 rfl) ?_
            refine lv_iconst (v := 2) hx hb dX4_place_52 (by decide) ?_
            refine r_iVm (n := 1) hF (c_X4_no l D cI b 0 θ1 τ ρ (2 : Int32)) gX4_place_X4_no rfl rfl rfl (by decide +kernel) ⟨Nat.le_of_ble_eq_true rfl, Nat.le_of_ble_eq_true rfl⟩ hC hA hC.recvM rfl hl.1 rfl (Nat.le_of_ble_eq_true rfl) dX4_place_53 ⟨Nat.zero_le _, Nat.zero_le _⟩ ?_
            clear hC; intro H locs θ11 eθ11 hC
            have e : fX4_place θ τ p0 p1 = ((fX4_no θ1 (2 : Int32)).1, θ11, τ) := by subst eθ1 eθ11; exact ((if_neg c2).trans ((if_neg c4).trans ((if_pos c5).trans ((if_neg c7).trans ((if_neg c9).trans rfl)))))
            exact r_iret hx hb hr hlocks hC dX4_place_56 ⟨by rw [e], by rw [e], by rw [e]⟩
    · refine lv_aload_n hx hb dX4_place_22 rfl (lv_at hl 0 rfl) ?_
      refine lv_iconst (v := 1) hx hb dX4_place_23 (by decide) ?_
      refine r_iVm (n := 1) hF (c_X4_no l D cI b 0 θ1 τ ρ (1 : Int32)) gX4_place_X4_no rfl rfl rfl (by decide +kernel) ⟨Nat.le_of_ble_eq_true rfl, Nat.le_of_ble_eq_true rfl⟩ hC hA hC.recvM rfl hl.1 rfl (Nat.le_of_ble_eq_true rfl) dX4_place_24 ⟨Nat.zero_le _, Nat.zero_le _⟩ ?_
      clear hC; intro H locs θ12 eθ12 hC
      have e : fX4_place θ τ p0 p1 = ((fX4_no θ1 (1 : Int32)).1, θ12, τ) := by subst eθ1 eθ12; exact ((if_neg c2).trans ((if_pos c4).trans rfl))
      exact r_iret hx hb hr hlocks hC dX4_place_27 ⟨by rw [e], by rw [e], by rw [e]⟩
abbrev rmX4_give : Room := { frames := 2, cells := 0, slots := 0, locals := 43 }
def fX4_give (θ : (Nat → Nat → Int32)) (τ : (Nat → Nat → Int32)) (p0 : Int32) (p1 : Int32) (p2 : Int32) : Int32 × (Nat → Nat → Int32) × (Nat → Nat → Int32) :=
    let θ1 : (Nat → Nat → Int32) := up2 θ 0 0 (0 : Int32)
    if (fX4_isMember τ p0) = 0 then
      let θ3 : (Nat → Nat → Int32) := (fX4_no θ1 (1 : Int32)).2
      ((fX4_no θ1 (1 : Int32)).1, θ3, τ)
    else
      if (fX4_isMember τ p1) = 0 then
        let θ17 : (Nat → Nat → Int32) := (fX4_no θ1 (1 : Int32)).2
        ((fX4_no θ1 (1 : Int32)).1, θ17, τ)
      else
        if (fX4_isIn p2 (1 : Int32) (99 : Int32)) = 0 then
          let θ16 : (Nat → Nat → Int32) := (fX4_no θ1 (2 : Int32)).2
          ((fX4_no θ1 (2 : Int32)).1, θ16, τ)
        else
          if p0 = p1 then
            let θ7 : (Nat → Nat → Int32) := (fX4_no θ1 (3 : Int32)).2
            ((fX4_no θ1 (3 : Int32)).1, θ7, τ)
          else
            if (fX4_isDead τ p0) = 0 then
              if (fX4_isDead τ p1) = 0 then
                if p2 ≤ (fX3_of τ p0 (2 : Int32)) then
                  let τ13 : (Nat → Nat → Int32) := (fX3_set τ p0 (2 : Int32) ((fX3_of τ p0 (2 : Int32)) - p2))
                  let τ14 : (Nat → Nat → Int32) := (fX3_set τ13 p1 (2 : Int32) ((fX3_of τ13 p1 (2 : Int32)) + p2))
                  ((fX3_of τ14 p0 (2 : Int32)), θ1, τ14)
                else
                  let θ15 : (Nat → Nat → Int32) := (fX4_no θ1 (3 : Int32)).2
                  ((fX4_no θ1 (3 : Int32)).1, θ15, τ)
              else
                let θ11 : (Nat → Nat → Int32) := (fX4_no θ1 (3 : Int32)).2
                ((fX4_no θ1 (3 : Int32)).1, θ11, τ)
            else
              let θ9 : (Nat → Nat → Int32) := (fX4_no θ1 (3 : Int32)).2
              ((fX4_no θ1 (3 : Int32)).1, θ9, τ)
set_option maxHeartbeats 400000 in
set_option maxRecDepth 100000 in
theorem c_X4_give (l : Launch) (D : va_G) (cI : ClassId) (b : Nat → Nat) (θ τ ρ : (Nat → Nat → Int32)) (p0 : Int32) (p1 : Int32) (p2 : Int32) (N : Nat) (hW : wf τ N) : rMi l yX4_give wsX4_give rmX4_give D cI b [.ref (b 0), .int p0, .int p1, .int p2] 0 θ τ ρ (fX4_give θ τ p0 p1 p2).1 (fX4_give θ τ p0 p1 p2).2.1 (fX4_give θ τ p0 p1 p2).2.2 := by
  intro sz
  refine r_head (cc := cX4_give) (maxL := 4) (ret := (some .int)) (plainFor_of_name (by decide)) rfl (Nat.le_of_ble_eq_true rfl) ?_
  intro p e S m below meth c hx hb hr hml hown hts hlocks hnm hsz hA hC ls hl
  have hF : CallFix p m c cX4_give 4 S [.ref (b 0), .int p0, .int p1, .int p2].toArray wsX4_give RX4 := ⟨hx, hb, hml, hown, hts⟩
  have h_f29 : (Cond.fieldLink RX4 29 "CombersSocietyModel" "thrown" "I").before [.ref (b 0), .int p0, .int p1, .int p2].toArray S = true := hts _ (by decide +kernel)
  have h_iX4 : ∀ w ∈ u_ws RX4 TX4 5, w ∈ wsX4_give := by decide +kernel
  have h_f22 : (Cond.fieldLink RX4 22 "CombersSocietyModel" "s" "LCombersSocietyModel$State;").before [.ref (b 0), .int p0, .int p1, .int p2].toArray S = true := hts _ (by decide +kernel)
  have hl : lv_has ls 4 [(0, .ref (b 0)), (1, .int p0), (2, .int p1), (3, .int p2)] := hl
  refine lv_aload_n hx hb dX4_give_0 rfl (lv_at hl 0 rfl) ?_
  refine lv_iconst (v := 0) hx hb dX4_give_1 (by decide) ?_
  refine rp_m hx hb hts h_iX4 hown hC 0 (by decide) h_f29 dX4_give_2 ?_
  clear hC; intro H locs θ1 eθ1 hC
  refine lv_aload_n hx hb dX4_give_5 rfl (lv_at hl 0 rfl) ?_
  refine lv_iload_n hx hb dX4_give_6 rfl (lv_at hl 1 rfl) ?_
  refine r_iVp (n := 1) hF (c_X4_isMember l D cI b θ1 τ ρ p0) gX4_give_X4_isMember rfl rfl rfl (by decide +kernel) ⟨Nat.le_of_ble_eq_true rfl, Nat.le_of_ble_eq_true rfl⟩ hC hA hC.recvM rfl hl.1 rfl (Nat.le_of_ble_eq_true rfl) dX4_give_7 ⟨Nat.zero_le _, Nat.zero_le _⟩ ?_
  clear hC; intro H locs hC
  refine lv_if_eq (tgt := 21) hx hb dX4_give_10 (by decide) (fun c2 => ?_) (fun c2 => ?_)
  · refine lv_aload_n hx hb dX4_give_21 rfl (lv_at hl 0 rfl) ?_
    refine lv_iconst (v := 1) hx hb dX4_give_22 (by decide) ?_
    refine r_iVm (n := 1) hF (c_X4_no l D cI b 0 θ1 τ ρ (1 : Int32)) gX4_give_X4_no rfl rfl rfl (by decide +kernel) ⟨Nat.le_of_ble_eq_true rfl, Nat.le_of_ble_eq_true rfl⟩ hC hA hC.recvM rfl hl.1 rfl (Nat.le_of_ble_eq_true rfl) dX4_give_23 ⟨Nat.zero_le _, Nat.zero_le _⟩ ?_
    clear hC; intro H locs θ3 eθ3 hC
    have e : fX4_give θ τ p0 p1 p2 = ((fX4_no θ1 (1 : Int32)).1, θ3, τ) := by subst eθ1 eθ3; exact ((if_pos c2).trans rfl)
    exact r_iret hx hb hr hlocks hC dX4_give_26 ⟨by rw [e], by rw [e], by rw [e]⟩
  · refine lv_aload_n hx hb dX4_give_13 rfl (lv_at hl 0 rfl) ?_
    refine lv_iload_n hx hb dX4_give_14 rfl (lv_at hl 2 rfl) ?_
    refine r_iVp (n := 1) hF (c_X4_isMember l D cI b θ1 τ ρ p1) gX4_give_X4_isMember rfl rfl rfl (by decide +kernel) ⟨Nat.le_of_ble_eq_true rfl, Nat.le_of_ble_eq_true rfl⟩ hC hA hC.recvM rfl hl.1 rfl (Nat.le_of_ble_eq_true rfl) dX4_give_15 ⟨Nat.zero_le _, Nat.zero_le _⟩ ?_
    clear hC; intro H locs hC
    refine lv_if_ne (tgt := 27) hx hb dX4_give_18 (by decide) (fun c4 => ?_) (fun c4 => ?_)
    · refine lv_iload_n hx hb dX4_give_27 rfl (lv_at hl 3 rfl) ?_
      refine lv_iconst (v := 1) hx hb dX4_give_28 (by decide) ?_
      refine lv_bipush (v := 99) hx hb dX4_give_29 (by decide) ?_
      refine r_iSi (n := 3) hF (c_X4_isIn l D cI b 0 θ1 τ ρ p2 (1 : Int32) (99 : Int32)) gX4_give_X4_isIn rfl rfl rfl (by decide +kernel) ⟨Nat.le_of_ble_eq_true rfl, Nat.le_of_ble_eq_true rfl⟩ hC hA rfl hl.1 rfl (Nat.le_of_ble_eq_true rfl) dX4_give_31 ⟨Nat.zero_le _, Nat.zero_le _⟩ ?_
      clear hC; intro H locs hC
      refine lv_if_ne (tgt := 43) hx hb dX4_give_34 (by decide) (fun c5 => ?_) (fun c5 => ?_)
      · refine lv_iload_n hx hb dX4_give_43 rfl (lv_at hl 1 rfl) ?_
        refine lv_iload_n hx hb dX4_give_44 rfl (lv_at hl 2 rfl) ?_
        refine lv_icmp_eq (tgt := 77) hx hb dX4_give_45 (by decide) (fun c6 => ?_) (fun c6 => ?_)
        · refine lv_aload_n hx hb dX4_give_77 rfl (lv_at hl 0 rfl) ?_
          refine lv_iconst (v := 3) hx hb dX4_give_78 (by decide) ?_
          refine r_iVm (n := 1) hF (c_X4_no l D cI b 0 θ1 τ ρ (3 : Int32)) gX4_give_X4_no rfl rfl rfl (by decide +kernel) ⟨Nat.le_of_ble_eq_true rfl, Nat.le_of_ble_eq_true rfl⟩ hC hA hC.recvM rfl hl.1 rfl (Nat.le_of_ble_eq_true rfl) dX4_give_79 ⟨Nat.zero_le _, Nat.zero_le _⟩ ?_
          clear hC; intro H locs θ7 eθ7 hC
          have e : fX4_give θ τ p0 p1 p2 = ((fX4_no θ1 (3 : Int32)).1, θ7, τ) := by subst eθ1 eθ7; exact ((if_neg c2).trans ((if_neg c4).trans ((if_neg c5).trans ((if_pos c6).trans rfl))))
          exact r_iret hx hb hr hlocks hC dX4_give_82 ⟨by rw [e], by rw [e], by rw [e]⟩
        · refine lv_aload_n hx hb dX4_give_48 rfl (lv_at hl 0 rfl) ?_
          refine lv_iload_n hx hb dX4_give_49 rfl (lv_at hl 1 rfl) ?_
          refine r_iVp (n := 1) hF (c_X4_isDead l D cI b θ1 τ ρ p0 (mem_ix hW c2)) gX4_give_X4_isDead rfl rfl rfl (by decide +kernel) ⟨Nat.le_of_ble_eq_true rfl, Nat.le_of_ble_eq_true rfl⟩ hC hA hC.recvM rfl hl.1 rfl (Nat.le_of_ble_eq_true rfl) dX4_give_50 ⟨Nat.zero_le _, Nat.zero_le _⟩ ?_
          clear hC; intro H locs hC
          refine lv_if_ne (tgt := 77) hx hb dX4_give_53 (by decide) (fun c8 => ?_) (fun c8 => ?_)
          · refine lv_aload_n hx hb dX4_give_77 rfl (lv_at hl 0 rfl) ?_
            refine lv_iconst (v := 3) hx hb dX4_give_78 (by decide) ?_
            refine r_iVm (n := 1) hF (c_X4_no l D cI b 0 θ1 τ ρ (3 : Int32)) gX4_give_X4_no rfl rfl rfl (by decide +kernel) ⟨Nat.le_of_ble_eq_true rfl, Nat.le_of_ble_eq_true rfl⟩ hC hA hC.recvM rfl hl.1 rfl (Nat.le_of_ble_eq_true rfl) dX4_give_79 ⟨Nat.zero_le _, Nat.zero_le _⟩ ?_
            clear hC; intro H locs θ9 eθ9 hC
            have e : fX4_give θ τ p0 p1 p2 = ((fX4_no θ1 (3 : Int32)).1, θ9, τ) := by subst eθ1 eθ9; exact ((if_neg c2).trans ((if_neg c4).trans ((if_neg c5).trans ((if_neg c6).trans ((if_neg c8).trans rfl)))))
            exact r_iret hx hb hr hlocks hC dX4_give_82 ⟨by rw [e], by rw [e], by rw [e]⟩
          · refine lv_aload_n hx hb dX4_give_56 rfl (lv_at hl 0 rfl) ?_
            refine lv_iload_n hx hb dX4_give_57 rfl (lv_at hl 2 rfl) ?_
            refine r_iVp (n := 1) hF (c_X4_isDead l D cI b θ1 τ ρ p1 (mem_ix hW c4)) gX4_give_X4_isDead rfl rfl rfl (by decide +kernel) ⟨Nat.le_of_ble_eq_true rfl, Nat.le_of_ble_eq_true rfl⟩ hC hA hC.recvM rfl hl.1 rfl (Nat.le_of_ble_eq_true rfl) dX4_give_58 ⟨Nat.zero_le _, Nat.zero_le _⟩ ?_
            clear hC; intro H locs hC
            refine lv_if_ne (tgt := 77) hx hb dX4_give_61 (by decide) (fun c10 => ?_) (fun c10 => ?_)
            · refine lv_aload_n hx hb dX4_give_77 rfl (lv_at hl 0 rfl) ?_
              refine lv_iconst (v := 3) hx hb dX4_give_78 (by decide) ?_
              refine r_iVm (n := 1) hF (c_X4_no l D cI b 0 θ1 τ ρ (3 : Int32)) gX4_give_X4_no rfl rfl rfl (by decide +kernel) ⟨Nat.le_of_ble_eq_true rfl, Nat.le_of_ble_eq_true rfl⟩ hC hA hC.recvM rfl hl.1 rfl (Nat.le_of_ble_eq_true rfl) dX4_give_79 ⟨Nat.zero_le _, Nat.zero_le _⟩ ?_
              clear hC; intro H locs θ11 eθ11 hC
              have e : fX4_give θ τ p0 p1 p2 = ((fX4_no θ1 (3 : Int32)).1, θ11, τ) := by subst eθ1 eθ11; exact ((if_neg c2).trans ((if_neg c4).trans ((if_neg c5).trans ((if_neg c6).trans ((if_pos c8).trans ((if_neg c10).trans rfl))))))
              exact r_iret hx hb hr hlocks hC dX4_give_82 ⟨by rw [e], by rw [e], by rw [e]⟩
            · refine lv_aload_n hx hb dX4_give_64 rfl (lv_at hl 0 rfl) ?_
              refine rg_w hx hb hts h_iX4 hown hC 0 (by decide) h_f22 dX4_give_65 ?_
              refine lv_iload_n hx hb dX4_give_68 rfl (lv_at hl 1 rfl) ?_
              refine lv_iconst (v := 2) hx hb dX4_give_69 (by decide) ?_
              refine r_iVp (n := 2) hF (c_X3_of l D cI b 0 θ1 τ ρ (by decide) p0 (2 : Int32) (mem_ix hW c2) ⟨2, by decide, rfl⟩) gX4_give_X3_of rfl rfl rfl (by decide +kernel) ⟨Nat.le_of_ble_eq_true rfl, Nat.le_of_ble_eq_true rfl⟩ hC hA (hC.recvS (by decide)) rfl hl.1 rfl (Nat.le_of_ble_eq_true rfl) dX4_give_70 ⟨Nat.zero_le _, Nat.zero_le _⟩ ?_
              clear hC; intro H locs hC
              refine lv_iload_n hx hb dX4_give_73 rfl (lv_at hl 3 rfl) ?_
              refine lv_icmp_ge (tgt := 83) hx hb dX4_give_74 (by decide) (fun c12 => ?_) (fun c12 => ?_)
              · refine lv_aload_n hx hb dX4_give_83 rfl (lv_at hl 0 rfl) ?_
                refine rg_w hx hb hts h_iX4 hown hC 0 (by decide) h_f22 dX4_give_84 ?_
                refine lv_iload_n hx hb dX4_give_87 rfl (lv_at hl 1 rfl) ?_
                refine lv_iconst (v := 2) hx hb dX4_give_88 (by decide) ?_
                refine lv_aload_n hx hb dX4_give_89 rfl (lv_at hl 0 rfl) ?_
                refine rg_w hx hb hts h_iX4 hown hC 0 (by decide) h_f22 dX4_give_90 ?_
                refine lv_iload_n hx hb dX4_give_93 rfl (lv_at hl 1 rfl) ?_
                refine lv_iconst (v := 2) hx hb dX4_give_94 (by decide) ?_
                refine r_iVp (n := 2) hF (c_X3_of l D cI b 0 θ1 τ ρ (by decide) p0 (2 : Int32) (mem_ix hW c2) ⟨2, by decide, rfl⟩) gX4_give_X3_of rfl rfl rfl (by decide +kernel) ⟨Nat.le_of_ble_eq_true rfl, Nat.le_of_ble_eq_true rfl⟩ hC hA (hC.recvS (by decide)) rfl hl.1 rfl (Nat.le_of_ble_eq_true rfl) dX4_give_95 ⟨Nat.zero_le _, Nat.zero_le _⟩ ?_
                clear hC; intro H locs hC
                refine lv_iload_n hx hb dX4_give_98 rfl (lv_at hl 3 rfl) ?_
                refine lv_isub hx hb dX4_give_99 ?_
                refine r_iVv (n := 3) hF (c_X3_set l D cI b 0 θ1 τ ρ (by decide) p0 (2 : Int32) ((fX3_of τ p0 (2 : Int32)) - p2) (mem_ix hW c2) ⟨2, by decide, rfl⟩) gX4_give_X3_set rfl rfl rfl (by decide +kernel) ⟨Nat.le_of_ble_eq_true rfl, Nat.le_of_ble_eq_true rfl⟩ hC hA (hC.recvS (by decide)) rfl hl.1 rfl (Nat.le_of_ble_eq_true rfl) dX4_give_100 ⟨Nat.zero_le _, Nat.zero_le _⟩ ?_
                clear hC; intro H locs τ13 eτ13 hC
                have hwτ13 : wf τ13 N := by rw [← eτ13]; exact wf_X3_set hW (mem_ix hW c2) ⟨2, by decide, rfl⟩ (by decide)
                refine lv_aload_n hx hb dX4_give_103 rfl (lv_at hl 0 rfl) ?_
                refine rg_w hx hb hts h_iX4 hown hC 0 (by decide) h_f22 dX4_give_104 ?_
                refine lv_iload_n hx hb dX4_give_107 rfl (lv_at hl 2 rfl) ?_
                refine lv_iconst (v := 2) hx hb dX4_give_108 (by decide) ?_
                refine lv_aload_n hx hb dX4_give_109 rfl (lv_at hl 0 rfl) ?_
                refine rg_w hx hb hts h_iX4 hown hC 0 (by decide) h_f22 dX4_give_110 ?_
                refine lv_iload_n hx hb dX4_give_113 rfl (lv_at hl 2 rfl) ?_
                refine lv_iconst (v := 2) hx hb dX4_give_114 (by decide) ?_
                refine r_iVp (n := 2) hF (c_X3_of l D cI b 0 θ1 τ13 ρ (by decide) p1 (2 : Int32) (mem_ix hW c4) ⟨2, by decide, rfl⟩) gX4_give_X3_of rfl rfl rfl (by decide +kernel) ⟨Nat.le_of_ble_eq_true rfl, Nat.le_of_ble_eq_true rfl⟩ hC hA (hC.recvS (by decide)) rfl hl.1 rfl (Nat.le_of_ble_eq_true rfl) dX4_give_115 ⟨Nat.zero_le _, Nat.zero_le _⟩ ?_
                clear hC; intro H locs hC
                refine lv_iload_n hx hb dX4_give_118 rfl (lv_at hl 3 rfl) ?_
                refine lv_iadd hx hb dX4_give_119 ?_
                refine r_iVv (n := 3) hF (c_X3_set l D cI b 0 θ1 τ13 ρ (by decide) p1 (2 : Int32) ((fX3_of τ13 p1 (2 : Int32)) + p2) (mem_ix hW c4) ⟨2, by decide, rfl⟩) gX4_give_X3_set rfl rfl rfl (by decide +kernel) ⟨Nat.le_of_ble_eq_true rfl, Nat.le_of_ble_eq_true rfl⟩ hC hA (hC.recvS (by decide)) rfl hl.1 rfl (Nat.le_of_ble_eq_true rfl) dX4_give_120 ⟨Nat.zero_le _, Nat.zero_le _⟩ ?_
                clear hC; intro H locs τ14 eτ14 hC
                have hwτ14 : wf τ14 N := by rw [← eτ14]; exact wf_X3_set hwτ13 (mem_ix hW c4) ⟨2, by decide, rfl⟩ (by decide)
                refine lv_aload_n hx hb dX4_give_123 rfl (lv_at hl 0 rfl) ?_
                refine rg_w hx hb hts h_iX4 hown hC 0 (by decide) h_f22 dX4_give_124 ?_
                refine lv_iload_n hx hb dX4_give_127 rfl (lv_at hl 1 rfl) ?_
                refine lv_iconst (v := 2) hx hb dX4_give_128 (by decide) ?_
                refine r_iVp (n := 2) hF (c_X3_of l D cI b 0 θ1 τ14 ρ (by decide) p0 (2 : Int32) (mem_ix hW c2) ⟨2, by decide, rfl⟩) gX4_give_X3_of rfl rfl rfl (by decide +kernel) ⟨Nat.le_of_ble_eq_true rfl, Nat.le_of_ble_eq_true rfl⟩ hC hA (hC.recvS (by decide)) rfl hl.1 rfl (Nat.le_of_ble_eq_true rfl) dX4_give_129 ⟨Nat.zero_le _, Nat.zero_le _⟩ ?_
                clear hC; intro H locs hC
                have e : fX4_give θ τ p0 p1 p2 = ((fX3_of τ14 p0 (2 : Int32)), θ1, τ14) := by subst eθ1 eτ13 eτ14; exact ((if_neg c2).trans ((if_neg c4).trans ((if_neg c5).trans ((if_neg c6).trans ((if_pos c8).trans ((if_pos c10).trans ((if_pos c12).trans rfl)))))))
                exact r_iret hx hb hr hlocks hC dX4_give_132 ⟨by rw [e], by rw [e], by rw [e]⟩
              · refine lv_aload_n hx hb dX4_give_77 rfl (lv_at hl 0 rfl) ?_
                refine lv_iconst (v := 3) hx hb dX4_give_78 (by decide) ?_
                refine r_iVm (n := 1) hF (c_X4_no l D cI b 0 θ1 τ ρ (3 : Int32)) gX4_give_X4_no rfl rfl rfl (by decide +kernel) ⟨Nat.le_of_ble_eq_true rfl, Nat.le_of_ble_eq_true rfl⟩ hC hA hC.recvM rfl hl.1 rfl (Nat.le_of_ble_eq_true rfl) dX4_give_79 ⟨Nat.zero_le _, Nat.zero_le _⟩ ?_
                clear hC; intro H locs θ15 eθ15 hC
                have e : fX4_give θ τ p0 p1 p2 = ((fX4_no θ1 (3 : Int32)).1, θ15, τ) := by subst eθ1 eθ15; exact ((if_neg c2).trans ((if_neg c4).trans ((if_neg c5).trans ((if_neg c6).trans ((if_pos c8).trans ((if_pos c10).trans ((if_neg c12).trans rfl)))))))
                exact r_iret hx hb hr hlocks hC dX4_give_82 ⟨by rw [e], by rw [e], by rw [e]⟩
      · refine lv_aload_n hx hb dX4_give_37 rfl (lv_at hl 0 rfl) ?_
        refine lv_iconst (v := 2) hx hb dX4_give_38 (by decide) ?_
        refine r_iVm (n := 1) hF (c_X4_no l D cI b 0 θ1 τ ρ (2 : Int32)) gX4_give_X4_no rfl rfl rfl (by decide +kernel) ⟨Nat.le_of_ble_eq_true rfl, Nat.le_of_ble_eq_true rfl⟩ hC hA hC.recvM rfl hl.1 rfl (Nat.le_of_ble_eq_true rfl) dX4_give_39 ⟨Nat.zero_le _, Nat.zero_le _⟩ ?_
        clear hC; intro H locs θ16 eθ16 hC
        have e : fX4_give θ τ p0 p1 p2 = ((fX4_no θ1 (2 : Int32)).1, θ16, τ) := by subst eθ1 eθ16; exact ((if_neg c2).trans ((if_neg c4).trans ((if_pos c5).trans rfl)))
        exact r_iret hx hb hr hlocks hC dX4_give_42 ⟨by rw [e], by rw [e], by rw [e]⟩
    · refine lv_aload_n hx hb dX4_give_21 rfl (lv_at hl 0 rfl) ?_
      refine lv_iconst (v := 1) hx hb dX4_give_22 (by decide) ?_
      refine r_iVm (n := 1) hF (c_X4_no l D cI b 0 θ1 τ ρ (1 : Int32)) gX4_give_X4_no rfl rfl rfl (by decide +kernel) ⟨Nat.le_of_ble_eq_true rfl, Nat.le_of_ble_eq_true rfl⟩ hC hA hC.recvM rfl hl.1 rfl (Nat.le_of_ble_eq_true rfl) dX4_give_23 ⟨Nat.zero_le _, Nat.zero_le _⟩ ?_
      clear hC; intro H locs θ17 eθ17 hC
      have e : fX4_give θ τ p0 p1 p2 = ((fX4_no θ1 (1 : Int32)).1, θ17, τ) := by subst eθ1 eθ17; exact ((if_neg c2).trans ((if_pos c4).trans rfl))
      exact r_iret hx hb hr hlocks hC dX4_give_26 ⟨by rw [e], by rw [e], by rw [e]⟩
abbrev rmX4_settle : Room := { frames := 2, cells := 0, slots := 0, locals := 45 }
def fX4_settle (θ : (Nat → Nat → Int32)) (τ : (Nat → Nat → Int32)) (p0 : Int32) : Int32 × (Nat → Nat → Int32) × (Nat → Nat → Int32) :=
    let θ1 : (Nat → Nat → Int32) := up2 θ 0 0 (0 : Int32)
    if (fX4_isMember τ p0) = 0 then
      let θ6 : (Nat → Nat → Int32) := (fX4_no θ1 (1 : Int32)).2
      ((fX4_no θ1 (1 : Int32)).1, θ6, τ)
    else
      if (fX4_isDead τ p0) = 0 then
        let τ4 : (Nat → Nat → Int32) := (fX3_settle τ p0).2
        ((fX3_settle τ p0).1, θ1, τ4)
      else
        let θ5 : (Nat → Nat → Int32) := (fX4_no θ1 (2 : Int32)).2
        ((fX4_no θ1 (2 : Int32)).1, θ5, τ)
set_option maxHeartbeats 400000 in
set_option maxRecDepth 100000 in
theorem c_X4_settle (l : Launch) (D : va_G) (cI : ClassId) (b : Nat → Nat) (θ τ ρ : (Nat → Nat → Int32)) (p0 : Int32) (N : Nat) (hW : wf τ N) : rMi l yX4_settle wsX4_settle rmX4_settle D cI b [.ref (b 0), .int p0] 0 θ τ ρ (fX4_settle θ τ p0).1 (fX4_settle θ τ p0).2.1 (fX4_settle θ τ p0).2.2 := by
  intro sz
  refine r_head (cc := cX4_settle) (maxL := 2) (ret := (some .int)) (plainFor_of_name (by decide)) rfl (Nat.le_of_ble_eq_true rfl) ?_
  intro p e S m below meth c hx hb hr hml hown hts hlocks hnm hsz hA hC ls hl
  have hF : CallFix p m c cX4_settle 2 S [.ref (b 0), .int p0].toArray wsX4_settle RX4 := ⟨hx, hb, hml, hown, hts⟩
  have h_f29 : (Cond.fieldLink RX4 29 "CombersSocietyModel" "thrown" "I").before [.ref (b 0), .int p0].toArray S = true := hts _ (by decide +kernel)
  have h_iX4 : ∀ w ∈ u_ws RX4 TX4 5, w ∈ wsX4_settle := by decide +kernel
  have h_f22 : (Cond.fieldLink RX4 22 "CombersSocietyModel" "s" "LCombersSocietyModel$State;").before [.ref (b 0), .int p0].toArray S = true := hts _ (by decide +kernel)
  have hl : lv_has ls 2 [(0, .ref (b 0)), (1, .int p0)] := hl
  refine lv_aload_n hx hb dX4_settle_0 rfl (lv_at hl 0 rfl) ?_
  refine lv_iconst (v := 0) hx hb dX4_settle_1 (by decide) ?_
  refine rp_m hx hb hts h_iX4 hown hC 0 (by decide) h_f29 dX4_settle_2 ?_
  clear hC; intro H locs θ1 eθ1 hC
  refine lv_aload_n hx hb dX4_settle_5 rfl (lv_at hl 0 rfl) ?_
  refine lv_iload_n hx hb dX4_settle_6 rfl (lv_at hl 1 rfl) ?_
  refine r_iVp (n := 1) hF (c_X4_isMember l D cI b θ1 τ ρ p0) gX4_settle_X4_isMember rfl rfl rfl (by decide +kernel) ⟨Nat.le_of_ble_eq_true rfl, Nat.le_of_ble_eq_true rfl⟩ hC hA hC.recvM rfl hl.1 rfl (Nat.le_of_ble_eq_true rfl) dX4_settle_7 ⟨Nat.zero_le _, Nat.zero_le _⟩ ?_
  clear hC; intro H locs hC
  refine lv_if_ne (tgt := 19) hx hb dX4_settle_10 (by decide) (fun c2 => ?_) (fun c2 => ?_)
  · refine lv_aload_n hx hb dX4_settle_19 rfl (lv_at hl 0 rfl) ?_
    refine lv_iload_n hx hb dX4_settle_20 rfl (lv_at hl 1 rfl) ?_
    refine r_iVp (n := 1) hF (c_X4_isDead l D cI b θ1 τ ρ p0 (mem_ix hW c2)) gX4_settle_X4_isDead rfl rfl rfl (by decide +kernel) ⟨Nat.le_of_ble_eq_true rfl, Nat.le_of_ble_eq_true rfl⟩ hC hA hC.recvM rfl hl.1 rfl (Nat.le_of_ble_eq_true rfl) dX4_settle_21 ⟨Nat.zero_le _, Nat.zero_le _⟩ ?_
    clear hC; intro H locs hC
    refine lv_if_eq (tgt := 35) hx hb dX4_settle_24 (by decide) (fun c3 => ?_) (fun c3 => ?_)
    · refine lv_aload_n hx hb dX4_settle_35 rfl (lv_at hl 0 rfl) ?_
      refine rg_w hx hb hts h_iX4 hown hC 0 (by decide) h_f22 dX4_settle_36 ?_
      refine lv_iload_n hx hb dX4_settle_39 rfl (lv_at hl 1 rfl) ?_
      refine r_iVi (n := 1) hF (c_X3_settle l D cI b 0 θ1 τ ρ (by decide) p0 (mem_ix hW c2)) gX4_settle_X3_settle rfl rfl rfl (by decide +kernel) ⟨Nat.le_of_ble_eq_true rfl, Nat.le_of_ble_eq_true rfl⟩ hC hA (hC.recvS (by decide)) rfl hl.1 rfl (Nat.le_of_ble_eq_true rfl) dX4_settle_40 ⟨Nat.zero_le _, Nat.zero_le _⟩ ?_
      clear hC; intro H locs τ4 eτ4 hC
      have hwτ4 : wf τ4 N := by rw [← eτ4]; exact wf_X3_settle hW (mem_ix hW c2)
      have e : fX4_settle θ τ p0 = ((fX3_settle τ p0).1, θ1, τ4) := by subst eθ1 eτ4; exact ((if_neg c2).trans ((if_pos c3).trans rfl))
      exact r_iret hx hb hr hlocks hC dX4_settle_43 ⟨by rw [e], by rw [e], by rw [e]⟩
    · refine lv_aload_n hx hb dX4_settle_27 rfl (lv_at hl 0 rfl) ?_
      refine lv_iconst (v := 2) hx hb dX4_settle_28 (by decide) ?_
      refine r_iVm (n := 1) hF (c_X4_no l D cI b 0 θ1 τ ρ (2 : Int32)) gX4_settle_X4_no rfl rfl rfl (by decide +kernel) ⟨Nat.le_of_ble_eq_true rfl, Nat.le_of_ble_eq_true rfl⟩ hC hA hC.recvM rfl hl.1 rfl (Nat.le_of_ble_eq_true rfl) dX4_settle_29 ⟨Nat.zero_le _, Nat.zero_le _⟩ ?_
      clear hC; intro H locs θ5 eθ5 hC
      refine lv_goto (tgt := 43) hx hb dX4_settle_32 (by decide) ?_
      have e : fX4_settle θ τ p0 = ((fX4_no θ1 (2 : Int32)).1, θ5, τ) := by subst eθ1 eθ5; exact ((if_neg c2).trans ((if_neg c3).trans rfl))
      exact r_iret hx hb hr hlocks hC dX4_settle_43 ⟨by rw [e], by rw [e], by rw [e]⟩
  · refine lv_aload_n hx hb dX4_settle_13 rfl (lv_at hl 0 rfl) ?_
    refine lv_iconst (v := 1) hx hb dX4_settle_14 (by decide) ?_
    refine r_iVm (n := 1) hF (c_X4_no l D cI b 0 θ1 τ ρ (1 : Int32)) gX4_settle_X4_no rfl rfl rfl (by decide +kernel) ⟨Nat.le_of_ble_eq_true rfl, Nat.le_of_ble_eq_true rfl⟩ hC hA hC.recvM rfl hl.1 rfl (Nat.le_of_ble_eq_true rfl) dX4_settle_15 ⟨Nat.zero_le _, Nat.zero_le _⟩ ?_
    clear hC; intro H locs θ6 eθ6 hC
    have e : fX4_settle θ τ p0 = ((fX4_no θ1 (1 : Int32)).1, θ6, τ) := by subst eθ1 eθ6; exact ((if_pos c2).trans rfl)
    exact r_iret hx hb hr hlocks hC dX4_settle_18 ⟨by rw [e], by rw [e], by rw [e]⟩
abbrev rmX4_told : Room := { frames := 2, cells := 0, slots := 0, locals := 43 }
def fX4_told (θ : (Nat → Nat → Int32)) (τ : (Nat → Nat → Int32)) (p0 : Int32) (p1 : Int32) : Int32 × (Nat → Nat → Int32) :=
    let θ1 : (Nat → Nat → Int32) := up2 θ 0 0 (0 : Int32)
    if (fX4_isMember τ p0) = 0 then
      let θ3 : (Nat → Nat → Int32) := (fX4_no θ1 (1 : Int32)).2
      ((fX4_no θ1 (1 : Int32)).1, θ3)
    else
      if (fX4_isIn p1 (0 : Int32) (8 : Int32)) = 0 then
        let θ5 : (Nat → Nat → Int32) := (fX4_no θ1 (1 : Int32)).2
        ((fX4_no θ1 (1 : Int32)).1, θ5)
      else
        ((fX3_of τ p0 p1), θ1)
set_option maxHeartbeats 400000 in
set_option maxRecDepth 100000 in
theorem c_X4_told (l : Launch) (D : va_G) (cI : ClassId) (b : Nat → Nat) (θ τ ρ : (Nat → Nat → Int32)) (p0 : Int32) (p1 : Int32) (N : Nat) (hW : wf τ N) : rMi l yX4_told wsX4_told rmX4_told D cI b [.ref (b 0), .int p0, .int p1] 0 θ τ ρ (fX4_told θ τ p0 p1).1 (fX4_told θ τ p0 p1).2 τ := by
  intro sz
  refine r_head (cc := cX4_told) (maxL := 3) (ret := (some .int)) (plainFor_of_name (by decide)) rfl (Nat.le_of_ble_eq_true rfl) ?_
  intro p e S m below meth c hx hb hr hml hown hts hlocks hnm hsz hA hC ls hl
  have hF : CallFix p m c cX4_told 3 S [.ref (b 0), .int p0, .int p1].toArray wsX4_told RX4 := ⟨hx, hb, hml, hown, hts⟩
  have h_f29 : (Cond.fieldLink RX4 29 "CombersSocietyModel" "thrown" "I").before [.ref (b 0), .int p0, .int p1].toArray S = true := hts _ (by decide +kernel)
  have h_iX4 : ∀ w ∈ u_ws RX4 TX4 5, w ∈ wsX4_told := by decide +kernel
  have h_f22 : (Cond.fieldLink RX4 22 "CombersSocietyModel" "s" "LCombersSocietyModel$State;").before [.ref (b 0), .int p0, .int p1].toArray S = true := hts _ (by decide +kernel)
  have hl : lv_has ls 3 [(0, .ref (b 0)), (1, .int p0), (2, .int p1)] := hl
  refine lv_aload_n hx hb dX4_told_0 rfl (lv_at hl 0 rfl) ?_
  refine lv_iconst (v := 0) hx hb dX4_told_1 (by decide) ?_
  refine rp_m hx hb hts h_iX4 hown hC 0 (by decide) h_f29 dX4_told_2 ?_
  clear hC; intro H locs θ1 eθ1 hC
  refine lv_aload_n hx hb dX4_told_5 rfl (lv_at hl 0 rfl) ?_
  refine lv_iload_n hx hb dX4_told_6 rfl (lv_at hl 1 rfl) ?_
  refine r_iVp (n := 1) hF (c_X4_isMember l D cI b θ1 τ ρ p0) gX4_told_X4_isMember rfl rfl rfl (by decide +kernel) ⟨Nat.le_of_ble_eq_true rfl, Nat.le_of_ble_eq_true rfl⟩ hC hA hC.recvM rfl hl.1 rfl (Nat.le_of_ble_eq_true rfl) dX4_told_7 ⟨Nat.zero_le _, Nat.zero_le _⟩ ?_
  clear hC; intro H locs hC
  refine lv_if_eq (tgt := 35) hx hb dX4_told_10 (by decide) (fun c2 => ?_) (fun c2 => ?_)
  · refine lv_aload_n hx hb dX4_told_35 rfl (lv_at hl 0 rfl) ?_
    refine lv_iconst (v := 1) hx hb dX4_told_36 (by decide) ?_
    refine r_iVm (n := 1) hF (c_X4_no l D cI b 0 θ1 τ ρ (1 : Int32)) gX4_told_X4_no rfl rfl rfl (by decide +kernel) ⟨Nat.le_of_ble_eq_true rfl, Nat.le_of_ble_eq_true rfl⟩ hC hA hC.recvM rfl hl.1 rfl (Nat.le_of_ble_eq_true rfl) dX4_told_37 ⟨Nat.zero_le _, Nat.zero_le _⟩ ?_
    clear hC; intro H locs θ3 eθ3 hC
    have e : fX4_told θ τ p0 p1 = ((fX4_no θ1 (1 : Int32)).1, θ3) := by subst eθ1 eθ3; exact ((if_pos c2).trans rfl)
    exact r_iret hx hb hr hlocks hC dX4_told_40 ⟨by rw [e], by rw [e], rfl⟩
  · refine lv_iload_n hx hb dX4_told_13 rfl (lv_at hl 2 rfl) ?_
    refine lv_iconst (v := 0) hx hb dX4_told_14 (by decide) ?_
    refine lv_bipush (v := 8) hx hb dX4_told_15 (by decide) ?_
    refine r_iSi (n := 3) hF (c_X4_isIn l D cI b 0 θ1 τ ρ p1 (0 : Int32) (8 : Int32)) gX4_told_X4_isIn rfl rfl rfl (by decide +kernel) ⟨Nat.le_of_ble_eq_true rfl, Nat.le_of_ble_eq_true rfl⟩ hC hA rfl hl.1 rfl (Nat.le_of_ble_eq_true rfl) dX4_told_17 ⟨Nat.zero_le _, Nat.zero_le _⟩ ?_
    clear hC; intro H locs hC
    refine lv_if_eq (tgt := 35) hx hb dX4_told_20 (by decide) (fun c4 => ?_) (fun c4 => ?_)
    · refine lv_aload_n hx hb dX4_told_35 rfl (lv_at hl 0 rfl) ?_
      refine lv_iconst (v := 1) hx hb dX4_told_36 (by decide) ?_
      refine r_iVm (n := 1) hF (c_X4_no l D cI b 0 θ1 τ ρ (1 : Int32)) gX4_told_X4_no rfl rfl rfl (by decide +kernel) ⟨Nat.le_of_ble_eq_true rfl, Nat.le_of_ble_eq_true rfl⟩ hC hA hC.recvM rfl hl.1 rfl (Nat.le_of_ble_eq_true rfl) dX4_told_37 ⟨Nat.zero_le _, Nat.zero_le _⟩ ?_
      clear hC; intro H locs θ5 eθ5 hC
      have e : fX4_told θ τ p0 p1 = ((fX4_no θ1 (1 : Int32)).1, θ5) := by subst eθ1 eθ5; exact ((if_neg c2).trans ((if_pos c4).trans rfl))
      exact r_iret hx hb hr hlocks hC dX4_told_40 ⟨by rw [e], by rw [e], rfl⟩
    · refine lv_aload_n hx hb dX4_told_23 rfl (lv_at hl 0 rfl) ?_
      refine rg_w hx hb hts h_iX4 hown hC 0 (by decide) h_f22 dX4_told_24 ?_
      refine lv_iload_n hx hb dX4_told_27 rfl (lv_at hl 1 rfl) ?_
      refine lv_iload_n hx hb dX4_told_28 rfl (lv_at hl 2 rfl) ?_
      refine r_iVp (n := 2) hF (c_X3_of l D cI b 0 θ1 τ ρ (by decide) p0 p1 (mem_ix hW c2) (isIn_ix c4 (N := 9) (by decide) (by decide))) gX4_told_X3_of rfl rfl rfl (by decide +kernel) ⟨Nat.le_of_ble_eq_true rfl, Nat.le_of_ble_eq_true rfl⟩ hC hA (hC.recvS (by decide)) rfl hl.1 rfl (Nat.le_of_ble_eq_true rfl) dX4_told_29 ⟨Nat.zero_le _, Nat.zero_le _⟩ ?_
      clear hC; intro H locs hC
      refine lv_goto (tgt := 40) hx hb dX4_told_32 (by decide) ?_
      have e : fX4_told θ τ p0 p1 = ((fX3_of τ p0 p1), θ1) := by subst eθ1; exact ((if_neg c2).trans ((if_neg c4).trans rfl))
      exact r_iret hx hb hr hlocks hC dX4_told_40 ⟨by rw [e], by rw [e], rfl⟩
abbrev rmX4_owes : Room := { frames := 1, cells := 0, slots := 0, locals := 22 }
def fX4_owes_b1 (τ : (Nat → Nat → Int32)) (i1x : Nat) (v1_2 : Int32) (v1_1 : Int32) : Int32 × Int32 :=
    if v1_2 < (fX3_of τ (nI i1x) (3 : Int32)) then
      ((fX3_of τ (nI i1x) (3 : Int32)), (nI i1x))
    else
      (v1_2, v1_1)
def fX4_owes_k1 (θ1 : (Nat → Nat → Int32)) (v1_2 : Int32) (v1_1 : Int32) : Int32 × (Nat → Nat → Int32) :=
    (v1_1, θ1)
def fX4_owes_k1x (θ1 : (Nat → Nat → Int32)) (x : Int32 × Int32) : Int32 × (Nat → Nat → Int32) := fX4_owes_k1 θ1 x.1 x.2
def fX4_owes (θ : (Nat → Nat → Int32)) (τ : (Nat → Nat → Int32)) : Int32 × (Nat → Nat → Int32) :=
    let θ1 : (Nat → Nat → Int32) := up2 θ 0 0 (0 : Int32)
    fX4_owes_k1x θ1 (itR (fun i x => fX4_owes_b1 τ i x.1 x.2) 0 (wfn τ) ((0 : Int32), (-1 : Int32)))
set_option maxHeartbeats 400000 in
set_option maxRecDepth 100000 in
theorem c_X4_owes (l : Launch) (D : va_G) (cI : ClassId) (b : Nat → Nat) (θ τ ρ : (Nat → Nat → Int32)) (N : Nat) (hW : wf τ N) : rMi l yX4_owes wsX4_owes rmX4_owes D cI b [.ref (b 0)] 0 θ τ ρ (fX4_owes θ τ).1 (fX4_owes θ τ).2 τ := by
  intro sz
  refine r_head (cc := cX4_owes) (maxL := 4) (ret := (some .int)) (plainFor_of_name (by decide)) rfl (Nat.le_of_ble_eq_true rfl) ?_
  intro p e S m below meth c hx hb hr hml hown hts hlocks hnm hsz hA hC ls hl
  have hF : CallFix p m c cX4_owes 4 S [.ref (b 0)].toArray wsX4_owes RX4 := ⟨hx, hb, hml, hown, hts⟩
  have h_f29 : (Cond.fieldLink RX4 29 "CombersSocietyModel" "thrown" "I").before [.ref (b 0)].toArray S = true := hts _ (by decide +kernel)
  have h_iX4 : ∀ w ∈ u_ws RX4 TX4 5, w ∈ wsX4_owes := by decide +kernel
  have h_f22 : (Cond.fieldLink RX4 22 "CombersSocietyModel" "s" "LCombersSocietyModel$State;").before [.ref (b 0)].toArray S = true := hts _ (by decide +kernel)
  have h_f32 : (nw32).before [.ref (b 0)].toArray S = true := va_Nw.use rfl hC.2.2.2.2.nw32
  have h_iX3 : ∀ w ∈ u_ws RX3 TX3 12, w ∈ wsX4_owes := by decide +kernel
  have hl : lv_has ls 4 [(0, .ref (b 0))] := hl
  refine lv_aload_n hx hb dX4_owes_0 rfl (lv_at hl 0 rfl) ?_
  refine lv_iconst (v := 0) hx hb dX4_owes_1 (by decide) ?_
  refine rp_m hx hb hts h_iX4 hown hC 0 (by decide) h_f29 dX4_owes_2 ?_
  clear hC; intro H locs θ1 eθ1 hC
  refine lv_iconst (v := -1) hx hb dX4_owes_5 (by decide) ?_
  refine lv_istore_n (lv' := [(1, .int (-1 : Int32)), (0, .ref (b 0))]) hx hb dX4_owes_6 rfl hl (by decide) rfl ?_
  clear hl; intro ls hl
  refine lv_iconst (v := 0) hx hb dX4_owes_7 (by decide) ?_
  refine lv_istore_n (lv' := [(2, .int (0 : Int32)), (1, .int (-1 : Int32)), (0, .ref (b 0))]) hx hb dX4_owes_8 rfl hl (by decide) rfl ?_
  clear hl; intro ls hl
  refine lv_iconst (v := 0) hx hb dX4_owes_9 (by decide) ?_
  refine lv_istore_n (lv' := [(3, .int (0 : Int32)), (2, .int (0 : Int32)), (1, .int (-1 : Int32)), (0, .ref (b 0))]) hx hb dX4_owes_10 rfl hl (by decide) rfl ?_
  clear hl; intro ls hl
  have loop1 : ∀ (n1x i1x : Nat) (v1_2 : Int32) (v1_1 : Int32), i1x + n1x = N → itR (fun i x => fX4_owes_b1 τ i x.1 x.2) i1x n1x (v1_2, v1_1) = itR (fun i x => fX4_owes_b1 τ i x.1 x.2) 0 (wfn τ) ((0 : Int32), (-1 : Int32)) → ∀ (H : Heap) (locs : List Loc), rB D cI b S (rA b sz) S.heap H locs 0 θ1 τ ρ → ∀ ls : Array Slot, lv_has ls 4 [(3, .int (nI i1x)), (2, .int v1_2), (1, .int v1_1), (0, .ref (b 0))] → W p l e (headSpec wsX4_owes rmX4_owes).room S m [.ref (b 0)].toArray below meth c H locs 0 0 (MQ below (va_Qi (fun r' (_ : Unit) => r' = (fX4_owes θ τ).1) (rPost D cI b 0 (fX4_owes θ τ).2 τ ρ) (rA b sz)) [.ref (b 0)].toArray S 0 0 (rA b sz)) (F0 m 11 ls []) := by
    clear hC hl
    intro n1x
    induction n1x with
    | zero =>
      intro i1x v1_2 v1_1 hin1 hX1 H locs hC ls hl
      obtain rfl : N = i1x := by omega
      have q1 : fX4_owes θ τ = fX4_owes_k1 θ1 v1_2 v1_1 := by subst eθ1; exact ((congrArg (fX4_owes_k1x _) hX1.symm).trans rfl)
      refine lv_iload_n hx hb dX4_owes_11 rfl (lv_at hl 0 rfl) ?_
      refine lv_aload_n hx hb dX4_owes_12 rfl (lv_at hl 3 rfl) ?_
      refine rg_w hx hb hts h_iX4 hown hC 0 (by decide) h_f22 dX4_owes_13 ?_
      refine rg_sN hx hb hts h_iX3 hown hC (by decide) 1 (by decide) h_f32 dX4_owes_16 ?_
      refine lv_icmp_ge (tgt := 56) hx hb dX4_owes_19 (by decide) (fun c4 => ?_) (fun c4 => absurd (wf_ex hW) c4)
      refine lv_iload_n hx hb dX4_owes_56 rfl (lv_at hl 2 rfl) ?_
      have e0 : fX4_owes_k1 θ1 v1_2 v1_1 = (v1_1, θ1) := by subst eθ1; exact rfl
      have e : fX4_owes θ τ = (v1_1, θ1) := (q1.trans e0)
      exact r_iret hx hb hr hlocks hC dX4_owes_57 ⟨by rw [e], by rw [e], rfl⟩
    | succ n1x ih1 =>
      intro i1x v1_2 v1_1 hin1 hX1 H locs hC ls hl
      have hN12 := wf_12 hW
      refine lv_iload_n hx hb dX4_owes_11 rfl (lv_at hl 0 rfl) ?_
      refine lv_aload_n hx hb dX4_owes_12 rfl (lv_at hl 3 rfl) ?_
      refine rg_w hx hb hts h_iX4 hown hC 0 (by decide) h_f22 dX4_owes_13 ?_
      refine rg_sN hx hb hts h_iX3 hown hC (by decide) 1 (by decide) h_f32 dX4_owes_16 ?_
      refine lv_icmp_ge (tgt := 56) hx hb dX4_owes_19 (by decide) (fun c2 => absurd c2 (wf_in hW (by omega))) (fun c2 => ?_)
      refine lv_aload_n hx hb dX4_owes_22 rfl (lv_at hl 3 rfl) ?_
      refine rg_w hx hb hts h_iX4 hown hC 0 (by decide) h_f22 dX4_owes_23 ?_
      refine lv_iload_n hx hb dX4_owes_26 rfl (lv_at hl 0 rfl) ?_
      refine lv_iconst (v := 3) hx hb dX4_owes_27 (by decide) ?_
      refine r_iVp (n := 2) hF (c_X3_of l D cI b 0 θ1 τ ρ (by decide) (nI i1x) (3 : Int32) ⟨i1x, by omega, rfl⟩ ⟨3, by decide, rfl⟩) gX4_owes_X3_of rfl rfl rfl (by decide +kernel) ⟨Nat.le_of_ble_eq_true rfl, Nat.le_of_ble_eq_true rfl⟩ hC hA (hC.recvS (by decide)) rfl hl.1 rfl (Nat.le_of_ble_eq_true rfl) dX4_owes_28 ⟨Nat.zero_le _, Nat.zero_le _⟩ ?_
      clear hC; intro H locs hC
      refine lv_iload_n hx hb dX4_owes_31 rfl (lv_at hl 1 rfl) ?_
      refine lv_icmp_gt (tgt := 38) hx hb dX4_owes_32 (by decide) (fun c3 => ?_) (fun c3 => ?_)
      · refine lv_iload_n hx hb dX4_owes_38 rfl (lv_at hl 0 rfl) ?_
        refine lv_istore_n (lv' := [(1, .int (nI i1x)), (3, .int (nI i1x)), (2, .int v1_2), (0, .ref (b 0))]) hx hb dX4_owes_39 rfl hl (by decide) rfl ?_
        clear hl; intro ls hl
        refine lv_aload_n hx hb dX4_owes_40 rfl (lv_at hl 3 rfl) ?_
        refine rg_w hx hb hts h_iX4 hown hC 0 (by decide) h_f22 dX4_owes_41 ?_
        refine lv_iload_n hx hb dX4_owes_44 rfl (lv_at hl 1 rfl) ?_
        refine lv_iconst (v := 3) hx hb dX4_owes_45 (by decide) ?_
        refine r_iVp (n := 2) hF (c_X3_of l D cI b 0 θ1 τ ρ (by decide) (nI i1x) (3 : Int32) ⟨i1x, by omega, rfl⟩ ⟨3, by decide, rfl⟩) gX4_owes_X3_of rfl rfl rfl (by decide +kernel) ⟨Nat.le_of_ble_eq_true rfl, Nat.le_of_ble_eq_true rfl⟩ hC hA (hC.recvS (by decide)) rfl hl.1 rfl (Nat.le_of_ble_eq_true rfl) dX4_owes_46 ⟨Nat.zero_le _, Nat.zero_le _⟩ ?_
        clear hC; intro H locs hC
        refine lv_istore_n (lv' := [(2, .int (fX3_of τ (nI i1x) (3 : Int32))), (1, .int (nI i1x)), (3, .int (nI i1x)), (0, .ref (b 0))]) hx hb dX4_owes_49 rfl hl (by decide) rfl ?_
        clear hl; intro ls hl
        refine lv_iinc (v := (nI (i1x + 1))) (lv' := [(3, .int (nI (i1x + 1))), (2, .int (fX3_of τ (nI i1x) (3 : Int32))), (1, .int (nI i1x)), (0, .ref (b 0))]) hx hb dX4_owes_50 hl (k := 2) rfl (nI_1 i1x) (by decide) rfl ?_
        clear hl; intro ls hl
        refine lv_goto (tgt := 11) hx hb dX4_owes_53 (by decide) ?_
        have e : fX4_owes_b1 τ i1x v1_2 v1_1 = ((fX3_of τ (nI i1x) (3 : Int32)), (nI i1x)) := by exact ((if_pos c3).trans rfl)
        exact ih1 (i1x + 1) (fX3_of τ (nI i1x) (3 : Int32)) (nI i1x) (by omega) (by rw [← e]; exact hX1) _ _ hC ls (lv_sub hl [0, 1, 2, 3] rfl)
      · refine lv_goto (tgt := 50) hx hb dX4_owes_35 (by decide) ?_
        refine lv_iinc (v := (nI (i1x + 1))) (lv' := [(3, .int (nI (i1x + 1))), (2, .int v1_2), (1, .int v1_1), (0, .ref (b 0))]) hx hb dX4_owes_50 hl (k := 0) rfl (nI_1 i1x) (by decide) rfl ?_
        clear hl; intro ls hl
        refine lv_goto (tgt := 11) hx hb dX4_owes_53 (by decide) ?_
        have e : fX4_owes_b1 τ i1x v1_2 v1_1 = (v1_2, v1_1) := by exact ((if_neg c3).trans rfl)
        exact ih1 (i1x + 1) v1_2 v1_1 (by omega) (by rw [← e]; exact hX1) _ _ hC ls (lv_sub hl [0, 1, 2, 3] rfl)
  exact loop1 N 0 (0 : Int32) (-1 : Int32) (by omega) (by rw [wfn_eq hW]) _ _ hC ls (lv_sub hl [0, 1, 2, 3] rfl)
abbrev rmX4_setFever : Room := { frames := 1, cells := 0, slots := 0, locals := 22 }
def fX4_setFever (θ : (Nat → Nat → Int32)) (p0 : Int32) (p1 : Int32) : Int32 × (Nat → Nat → Int32) :=
    let θ1 : (Nat → Nat → Int32) := up2 θ 0 0 (0 : Int32)
    if (fX4_isIn p0 (0 : Int32) (7 : Int32)) = 0 then
      let θ6 : (Nat → Nat → Int32) := (fX4_no θ1 (1 : Int32)).2
      ((fX4_no θ1 (1 : Int32)).1, θ6)
    else
      if (fX4_isIn p1 (-1 : Int32) (2 : Int32)) = 0 then
        let θ5 : (Nat → Nat → Int32) := (fX4_no θ1 (2 : Int32)).2
        ((fX4_no θ1 (2 : Int32)).1, θ5)
      else
        let θ4 : (Nat → Nat → Int32) := up2 θ1 1 (p0).toNatClampNeg p1
        ((θ1 1 (p0).toNatClampNeg), θ4)
set_option maxHeartbeats 400000 in
set_option maxRecDepth 100000 in
theorem c_X4_setFever (l : Launch) (D : va_G) (cI : ClassId) (b : Nat → Nat) (θ τ ρ : (Nat → Nat → Int32)) (p0 : Int32) (p1 : Int32) : rMi l yX4_setFever wsX4_setFever rmX4_setFever D cI b [.ref (b 0), .int p0, .int p1] 0 θ τ ρ (fX4_setFever θ p0 p1).1 (fX4_setFever θ p0 p1).2 τ := by
  intro sz
  refine r_head (cc := cX4_setFever) (maxL := 4) (ret := (some .int)) (plainFor_of_name (by decide)) rfl (Nat.le_of_ble_eq_true rfl) ?_
  intro p e S m below meth c hx hb hr hml hown hts hlocks hnm hsz hA hC ls hl
  have hF : CallFix p m c cX4_setFever 4 S [.ref (b 0), .int p0, .int p1].toArray wsX4_setFever RX4 := ⟨hx, hb, hml, hown, hts⟩
  have h_f29 : (Cond.fieldLink RX4 29 "CombersSocietyModel" "thrown" "I").before [.ref (b 0), .int p0, .int p1].toArray S = true := hts _ (by decide +kernel)
  have h_iX4 : ∀ w ∈ u_ws RX4 TX4 5, w ∈ wsX4_setFever := by decide +kernel
  have h_f13 : (Cond.fieldLink RX4 13 "CombersSocietyModel" "fevers" "[I").before [.ref (b 0), .int p0, .int p1].toArray S = true := hts _ (by decide +kernel)
  have hl : lv_has ls 4 [(0, .ref (b 0)), (1, .int p0), (2, .int p1)] := hl
  refine lv_aload_n hx hb dX4_setFever_0 rfl (lv_at hl 0 rfl) ?_
  refine lv_iconst (v := 0) hx hb dX4_setFever_1 (by decide) ?_
  refine rp_m hx hb hts h_iX4 hown hC 0 (by decide) h_f29 dX4_setFever_2 ?_
  clear hC; intro H locs θ1 eθ1 hC
  refine lv_iload_n hx hb dX4_setFever_5 rfl (lv_at hl 1 rfl) ?_
  refine lv_iconst (v := 0) hx hb dX4_setFever_6 (by decide) ?_
  refine lv_bipush (v := 7) hx hb dX4_setFever_7 (by decide) ?_
  refine r_iSi (n := 3) hF (c_X4_isIn l D cI b 0 θ1 τ ρ p0 (0 : Int32) (7 : Int32)) gX4_setFever_X4_isIn rfl rfl rfl (by decide +kernel) ⟨Nat.le_of_ble_eq_true rfl, Nat.le_of_ble_eq_true rfl⟩ hC hA rfl hl.1 rfl (Nat.le_of_ble_eq_true rfl) dX4_setFever_9 ⟨Nat.zero_le _, Nat.zero_le _⟩ ?_
  clear hC; intro H locs hC
  refine lv_if_ne (tgt := 21) hx hb dX4_setFever_12 (by decide) (fun c2 => ?_) (fun c2 => ?_)
  · refine lv_iload_n hx hb dX4_setFever_21 rfl (lv_at hl 2 rfl) ?_
    refine lv_iconst (v := -1) hx hb dX4_setFever_22 (by decide) ?_
    refine lv_iconst (v := 2) hx hb dX4_setFever_23 (by decide) ?_
    refine r_iSi (n := 3) hF (c_X4_isIn l D cI b 0 θ1 τ ρ p1 (-1 : Int32) (2 : Int32)) gX4_setFever_X4_isIn rfl rfl rfl (by decide +kernel) ⟨Nat.le_of_ble_eq_true rfl, Nat.le_of_ble_eq_true rfl⟩ hC hA rfl hl.1 rfl (Nat.le_of_ble_eq_true rfl) dX4_setFever_24 ⟨Nat.zero_le _, Nat.zero_le _⟩ ?_
    clear hC; intro H locs hC
    refine lv_if_ne (tgt := 36) hx hb dX4_setFever_27 (by decide) (fun c3 => ?_) (fun c3 => ?_)
    · refine lv_aload_n hx hb dX4_setFever_36 rfl (lv_at hl 0 rfl) ?_
      refine rg_f hx hb hts h_iX4 hown hC h_f13 dX4_setFever_37 ?_
      refine lv_iload_n hx hb dX4_setFever_40 rfl (lv_at hl 1 rfl) ?_
      refine r_fld hx hb hC (j := (p0).toNatClampNeg) (ixt (isIn_ix c2 (N := 8) (by decide) (by decide)) (by decide)).1 (ixt (isIn_ix c2 (N := 8) (by decide) (by decide)) (by decide)).2 dX4_setFever_41 ?_
      refine lv_istore_n (lv' := [(3, .int (θ1 1 (p0).toNatClampNeg)), (0, .ref (b 0)), (1, .int p0), (2, .int p1)]) hx hb dX4_setFever_42 rfl hl (by decide) rfl ?_
      clear hl; intro ls hl
      refine lv_aload_n hx hb dX4_setFever_43 rfl (lv_at hl 1 rfl) ?_
      refine rg_f hx hb hts h_iX4 hown hC h_f13 dX4_setFever_44 ?_
      refine lv_iload_n hx hb dX4_setFever_47 rfl (lv_at hl 2 rfl) ?_
      refine lv_iload_n hx hb dX4_setFever_48 rfl (lv_at hl 3 rfl) ?_
      refine r_fst hx hb hC (j := (p0).toNatClampNeg) (ixt (isIn_ix c2 (N := 8) (by decide) (by decide)) (by decide)).1 (ixt (isIn_ix c2 (N := 8) (by decide) (by decide)) (by decide)).2 dX4_setFever_49 ?_
      clear hC; intro H locs θ4 eθ4 hC
      refine lv_iload_n hx hb dX4_setFever_50 rfl (lv_at hl 0 rfl) ?_
      have e : fX4_setFever θ p0 p1 = ((θ1 1 (p0).toNatClampNeg), θ4) := by subst eθ1 eθ4; exact ((if_neg c2).trans ((if_neg c3).trans rfl))
      exact r_iret hx hb hr hlocks hC dX4_setFever_51 ⟨by rw [e], by rw [e], rfl⟩
    · refine lv_aload_n hx hb dX4_setFever_30 rfl (lv_at hl 0 rfl) ?_
      refine lv_iconst (v := 2) hx hb dX4_setFever_31 (by decide) ?_
      refine r_iVm (n := 1) hF (c_X4_no l D cI b 0 θ1 τ ρ (2 : Int32)) gX4_setFever_X4_no rfl rfl rfl (by decide +kernel) ⟨Nat.le_of_ble_eq_true rfl, Nat.le_of_ble_eq_true rfl⟩ hC hA hC.recvM rfl hl.1 rfl (Nat.le_of_ble_eq_true rfl) dX4_setFever_32 ⟨Nat.zero_le _, Nat.zero_le _⟩ ?_
      clear hC; intro H locs θ5 eθ5 hC
      have e : fX4_setFever θ p0 p1 = ((fX4_no θ1 (2 : Int32)).1, θ5) := by subst eθ1 eθ5; exact ((if_neg c2).trans ((if_pos c3).trans rfl))
      exact r_iret hx hb hr hlocks hC dX4_setFever_35 ⟨by rw [e], by rw [e], rfl⟩
  · refine lv_aload_n hx hb dX4_setFever_15 rfl (lv_at hl 0 rfl) ?_
    refine lv_iconst (v := 1) hx hb dX4_setFever_16 (by decide) ?_
    refine r_iVm (n := 1) hF (c_X4_no l D cI b 0 θ1 τ ρ (1 : Int32)) gX4_setFever_X4_no rfl rfl rfl (by decide +kernel) ⟨Nat.le_of_ble_eq_true rfl, Nat.le_of_ble_eq_true rfl⟩ hC hA hC.recvM rfl hl.1 rfl (Nat.le_of_ble_eq_true rfl) dX4_setFever_17 ⟨Nat.zero_le _, Nat.zero_le _⟩ ?_
    clear hC; intro H locs θ6 eθ6 hC
    have e : fX4_setFever θ p0 p1 = ((fX4_no θ1 (1 : Int32)).1, θ6) := by subst eθ1 eθ6; exact ((if_pos c2).trans rfl)
    exact r_iret hx hb hr hlocks hC dX4_setFever_20 ⟨by rw [e], by rw [e], rfl⟩
abbrev rmX4_setDues : Room := { frames := 1, cells := 0, slots := 0, locals := 22 }
def fX4_setDues (θ : (Nat → Nat → Int32)) (p0 : Int32) : Int32 × (Nat → Nat → Int32) :=
    let θ1 : (Nat → Nat → Int32) := up2 θ 0 0 (0 : Int32)
    if (fX4_isIn p0 (0 : Int32) (3 : Int32)) = 0 then
      let θ4 : (Nat → Nat → Int32) := (fX4_no θ1 (1 : Int32)).2
      ((fX4_no θ1 (1 : Int32)).1, θ4)
    else
      let θ3 : (Nat → Nat → Int32) := up2 θ1 0 1 p0
      ((θ1 0 1), θ3)
set_option maxHeartbeats 400000 in
set_option maxRecDepth 100000 in
theorem c_X4_setDues (l : Launch) (D : va_G) (cI : ClassId) (b : Nat → Nat) (θ τ ρ : (Nat → Nat → Int32)) (p0 : Int32) : rMi l yX4_setDues wsX4_setDues rmX4_setDues D cI b [.ref (b 0), .int p0] 0 θ τ ρ (fX4_setDues θ p0).1 (fX4_setDues θ p0).2 τ := by
  intro sz
  refine r_head (cc := cX4_setDues) (maxL := 3) (ret := (some .int)) (plainFor_of_name (by decide)) rfl (Nat.le_of_ble_eq_true rfl) ?_
  intro p e S m below meth c hx hb hr hml hown hts hlocks hnm hsz hA hC ls hl
  have hF : CallFix p m c cX4_setDues 3 S [.ref (b 0), .int p0].toArray wsX4_setDues RX4 := ⟨hx, hb, hml, hown, hts⟩
  have h_f29 : (Cond.fieldLink RX4 29 "CombersSocietyModel" "thrown" "I").before [.ref (b 0), .int p0].toArray S = true := hts _ (by decide +kernel)
  have h_iX4 : ∀ w ∈ u_ws RX4 TX4 5, w ∈ wsX4_setDues := by decide +kernel
  have h_f7 : (Cond.fieldLink RX4 7 "CombersSocietyModel" "dues" "I").before [.ref (b 0), .int p0].toArray S = true := hts _ (by decide +kernel)
  have hl : lv_has ls 3 [(0, .ref (b 0)), (1, .int p0)] := hl
  refine lv_aload_n hx hb dX4_setDues_0 rfl (lv_at hl 0 rfl) ?_
  refine lv_iconst (v := 0) hx hb dX4_setDues_1 (by decide) ?_
  refine rp_m hx hb hts h_iX4 hown hC 0 (by decide) h_f29 dX4_setDues_2 ?_
  clear hC; intro H locs θ1 eθ1 hC
  refine lv_iload_n hx hb dX4_setDues_5 rfl (lv_at hl 1 rfl) ?_
  refine lv_iconst (v := 0) hx hb dX4_setDues_6 (by decide) ?_
  refine lv_iconst (v := 3) hx hb dX4_setDues_7 (by decide) ?_
  refine r_iSi (n := 3) hF (c_X4_isIn l D cI b 0 θ1 τ ρ p0 (0 : Int32) (3 : Int32)) gX4_setDues_X4_isIn rfl rfl rfl (by decide +kernel) ⟨Nat.le_of_ble_eq_true rfl, Nat.le_of_ble_eq_true rfl⟩ hC hA rfl hl.1 rfl (Nat.le_of_ble_eq_true rfl) dX4_setDues_8 ⟨Nat.zero_le _, Nat.zero_le _⟩ ?_
  clear hC; intro H locs hC
  refine lv_if_ne (tgt := 20) hx hb dX4_setDues_11 (by decide) (fun c2 => ?_) (fun c2 => ?_)
  · refine lv_aload_n hx hb dX4_setDues_20 rfl (lv_at hl 0 rfl) ?_
    refine rg_m hx hb hts h_iX4 hown hC 1 (by decide) h_f7 dX4_setDues_21 ?_
    refine lv_istore_n (lv' := [(2, .int (θ1 0 1)), (0, .ref (b 0)), (1, .int p0)]) hx hb dX4_setDues_24 rfl hl (by decide) rfl ?_
    clear hl; intro ls hl
    refine lv_aload_n hx hb dX4_setDues_25 rfl (lv_at hl 1 rfl) ?_
    refine lv_iload_n hx hb dX4_setDues_26 rfl (lv_at hl 2 rfl) ?_
    refine rp_m hx hb hts h_iX4 hown hC 1 (by decide) h_f7 dX4_setDues_27 ?_
    clear hC; intro H locs θ3 eθ3 hC
    refine lv_iload_n hx hb dX4_setDues_30 rfl (lv_at hl 0 rfl) ?_
    have e : fX4_setDues θ p0 = ((θ1 0 1), θ3) := by subst eθ1 eθ3; exact ((if_neg c2).trans rfl)
    exact r_iret hx hb hr hlocks hC dX4_setDues_31 ⟨by rw [e], by rw [e], rfl⟩
  · refine lv_aload_n hx hb dX4_setDues_14 rfl (lv_at hl 0 rfl) ?_
    refine lv_iconst (v := 1) hx hb dX4_setDues_15 (by decide) ?_
    refine r_iVm (n := 1) hF (c_X4_no l D cI b 0 θ1 τ ρ (1 : Int32)) gX4_setDues_X4_no rfl rfl rfl (by decide +kernel) ⟨Nat.le_of_ble_eq_true rfl, Nat.le_of_ble_eq_true rfl⟩ hC hA hC.recvM rfl hl.1 rfl (Nat.le_of_ble_eq_true rfl) dX4_setDues_16 ⟨Nat.zero_le _, Nat.zero_le _⟩ ?_
    clear hC; intro H locs θ4 eθ4 hC
    have e : fX4_setDues θ p0 = ((fX4_no θ1 (1 : Int32)).1, θ4) := by subst eθ1 eθ4; exact ((if_pos c2).trans rfl)
    exact r_iret hx hb hr hlocks hC dX4_setDues_19 ⟨by rw [e], by rw [e], rfl⟩
abbrev rmX4_buy : Room := { frames := 1, cells := 0, slots := 0, locals := 22 }
def fX4_buy (θ : (Nat → Nat → Int32)) (τ : (Nat → Nat → Int32)) (p0 : Int32) (p1 : Int32) : Int32 × (Nat → Nat → Int32) × (Nat → Nat → Int32) :=
    let θ1 : (Nat → Nat → Int32) := up2 θ 0 0 (0 : Int32)
    if (fX4_isIn p0 (0 : Int32) (1 : Int32)) = 0 then
      let θ38 : (Nat → Nat → Int32) := (fX4_no θ1 (1 : Int32)).2
      ((fX4_no θ1 (1 : Int32)).1, θ38, τ)
    else
      if (fX4_isIn p1 (1 : Int32) (200 : Int32)) = 0 then
        let θ37 : (Nat → Nat → Int32) := (fX4_no θ1 (2 : Int32)).2
        ((fX4_no θ1 (2 : Int32)).1, θ37, τ)
      else
        if p0 = 0 then
          if p1 ≤ (τ 0 2) then
            let τ22 : (Nat → Nat → Int32) := up2 τ 0 2 ((τ 0 2) - p1)
            if p0 = 0 then
              let τ30 : (Nat → Nat → Int32) := up2 τ22 0 3 ((τ22 0 3) + p1)
              if p0 = (1 : Int32) then
                let τ34 : (Nat → Nat → Int32) := up2 τ30 0 4 ((τ30 0 4) + p1)
                if p0 = 0 then
                  ((τ34 0 3), θ1, τ34)
                else
                  ((τ34 0 4), θ1, τ34)
              else
                let τ32 : (Nat → Nat → Int32) := up2 τ30 0 4 ((τ30 0 4) + (0 : Int32))
                if p0 = 0 then
                  ((τ32 0 3), θ1, τ32)
                else
                  ((τ32 0 4), θ1, τ32)
            else
              let τ24 : (Nat → Nat → Int32) := up2 τ22 0 3 ((τ22 0 3) + (0 : Int32))
              if p0 = (1 : Int32) then
                let τ28 : (Nat → Nat → Int32) := up2 τ24 0 4 ((τ24 0 4) + p1)
                if p0 = 0 then
                  ((τ28 0 3), θ1, τ28)
                else
                  ((τ28 0 4), θ1, τ28)
              else
                let τ26 : (Nat → Nat → Int32) := up2 τ24 0 4 ((τ24 0 4) + (0 : Int32))
                if p0 = 0 then
                  ((τ26 0 3), θ1, τ26)
                else
                  ((τ26 0 4), θ1, τ26)
          else
            let θ36 : (Nat → Nat → Int32) := (fX4_no θ1 (3 : Int32)).2
            ((fX4_no θ1 (3 : Int32)).1, θ36, τ)
        else
          if ((p1 + (2 : Int32)) / (3 : Int32)) ≤ (τ 0 2) then
            let τ6 : (Nat → Nat → Int32) := up2 τ 0 2 ((τ 0 2) - ((p1 + (2 : Int32)) / (3 : Int32)))
            if p0 = 0 then
              let τ14 : (Nat → Nat → Int32) := up2 τ6 0 3 ((τ6 0 3) + p1)
              if p0 = (1 : Int32) then
                let τ18 : (Nat → Nat → Int32) := up2 τ14 0 4 ((τ14 0 4) + p1)
                if p0 = 0 then
                  ((τ18 0 3), θ1, τ18)
                else
                  ((τ18 0 4), θ1, τ18)
              else
                let τ16 : (Nat → Nat → Int32) := up2 τ14 0 4 ((τ14 0 4) + (0 : Int32))
                if p0 = 0 then
                  ((τ16 0 3), θ1, τ16)
                else
                  ((τ16 0 4), θ1, τ16)
            else
              let τ8 : (Nat → Nat → Int32) := up2 τ6 0 3 ((τ6 0 3) + (0 : Int32))
              if p0 = (1 : Int32) then
                let τ12 : (Nat → Nat → Int32) := up2 τ8 0 4 ((τ8 0 4) + p1)
                if p0 = 0 then
                  ((τ12 0 3), θ1, τ12)
                else
                  ((τ12 0 4), θ1, τ12)
              else
                let τ10 : (Nat → Nat → Int32) := up2 τ8 0 4 ((τ8 0 4) + (0 : Int32))
                if p0 = 0 then
                  ((τ10 0 3), θ1, τ10)
                else
                  ((τ10 0 4), θ1, τ10)
          else
            let θ20 : (Nat → Nat → Int32) := (fX4_no θ1 (3 : Int32)).2
            ((fX4_no θ1 (3 : Int32)).1, θ20, τ)
set_option maxHeartbeats 400000 in
set_option maxRecDepth 100000 in
theorem c_X4_buy (l : Launch) (D : va_G) (cI : ClassId) (b : Nat → Nat) (θ τ ρ : (Nat → Nat → Int32)) (p0 : Int32) (p1 : Int32) : rMi l yX4_buy wsX4_buy rmX4_buy D cI b [.ref (b 0), .int p0, .int p1] 0 θ τ ρ (fX4_buy θ τ p0 p1).1 (fX4_buy θ τ p0 p1).2.1 (fX4_buy θ τ p0 p1).2.2 := by
  intro sz
  refine r_head (cc := cX4_buy) (maxL := 4) (ret := (some .int)) (plainFor_of_name (by decide)) rfl (Nat.le_of_ble_eq_true rfl) ?_
  intro p e S m below meth c hx hb hr hml hown hts hlocks hnm hsz hA hC ls hl
  have hF : CallFix p m c cX4_buy 4 S [.ref (b 0), .int p0, .int p1].toArray wsX4_buy RX4 := ⟨hx, hb, hml, hown, hts⟩
  have h_f29 : (Cond.fieldLink RX4 29 "CombersSocietyModel" "thrown" "I").before [.ref (b 0), .int p0, .int p1].toArray S = true := hts _ (by decide +kernel)
  have h_iX4 : ∀ w ∈ u_ws RX4 TX4 5, w ∈ wsX4_buy := by decide +kernel
  have h_f22 : (Cond.fieldLink RX4 22 "CombersSocietyModel" "s" "LCombersSocietyModel$State;").before [.ref (b 0), .int p0, .int p1].toArray S = true := hts _ (by decide +kernel)
  have h_f76 : (nw76).before [.ref (b 0), .int p0, .int p1].toArray S = true := va_Nw.use rfl hC.2.2.2.2.nw76
  have h_iX3 : ∀ w ∈ u_ws RX3 TX3 12, w ∈ wsX4_buy := by decide +kernel
  have h_f79 : (nw79).before [.ref (b 0), .int p0, .int p1].toArray S = true := va_Nw.use rfl hC.2.2.2.2.nw79
  have h_f82 : (nw82).before [.ref (b 0), .int p0, .int p1].toArray S = true := va_Nw.use rfl hC.2.2.2.2.nw82
  have hl : lv_has ls 4 [(0, .ref (b 0)), (1, .int p0), (2, .int p1)] := hl
  refine lv_aload_n hx hb dX4_buy_0 rfl (lv_at hl 0 rfl) ?_
  refine lv_iconst (v := 0) hx hb dX4_buy_1 (by decide) ?_
  refine rp_m hx hb hts h_iX4 hown hC 0 (by decide) h_f29 dX4_buy_2 ?_
  clear hC; intro H locs θ1 eθ1 hC
  refine lv_iload_n hx hb dX4_buy_5 rfl (lv_at hl 1 rfl) ?_
  refine lv_iconst (v := 0) hx hb dX4_buy_6 (by decide) ?_
  refine lv_iconst (v := 1) hx hb dX4_buy_7 (by decide) ?_
  refine r_iSi (n := 3) hF (c_X4_isIn l D cI b 0 θ1 τ ρ p0 (0 : Int32) (1 : Int32)) gX4_buy_X4_isIn rfl rfl rfl (by decide +kernel) ⟨Nat.le_of_ble_eq_true rfl, Nat.le_of_ble_eq_true rfl⟩ hC hA rfl hl.1 rfl (Nat.le_of_ble_eq_true rfl) dX4_buy_8 ⟨Nat.zero_le _, Nat.zero_le _⟩ ?_
  clear hC; intro H locs hC
  refine lv_if_ne (tgt := 20) hx hb dX4_buy_11 (by decide) (fun c2 => ?_) (fun c2 => ?_)
  · refine lv_iload_n hx hb dX4_buy_20 rfl (lv_at hl 2 rfl) ?_
    refine lv_iconst (v := 1) hx hb dX4_buy_21 (by decide) ?_
    refine lv_sipush (v := 200) hx hb dX4_buy_22 (by decide) ?_
    refine r_iSi (n := 3) hF (c_X4_isIn l D cI b 0 θ1 τ ρ p1 (1 : Int32) (200 : Int32)) gX4_buy_X4_isIn rfl rfl rfl (by decide +kernel) ⟨Nat.le_of_ble_eq_true rfl, Nat.le_of_ble_eq_true rfl⟩ hC hA rfl hl.1 rfl (Nat.le_of_ble_eq_true rfl) dX4_buy_25 ⟨Nat.zero_le _, Nat.zero_le _⟩ ?_
    clear hC; intro H locs hC
    refine lv_if_ne (tgt := 37) hx hb dX4_buy_28 (by decide) (fun c3 => ?_) (fun c3 => ?_)
    · refine lv_iload_n hx hb dX4_buy_37 rfl (lv_at hl 1 rfl) ?_
      refine lv_if_ne (tgt := 45) hx hb dX4_buy_38 (by decide) (fun c4 => ?_) (fun c4 => ?_)
      · refine lv_iload_n hx hb dX4_buy_45 rfl (lv_at hl 2 rfl) ?_
        refine lv_iconst (v := 2) hx hb dX4_buy_46 (by decide) ?_
        refine lv_iadd hx hb dX4_buy_47 ?_
        refine lv_iconst (v := 3) hx hb dX4_buy_48 (by decide) ?_
        refine lv_idiv hx hb dX4_buy_49 (by decide) ?_
        refine lv_istore_n (lv' := [(3, .int ((p1 + (2 : Int32)) / (3 : Int32))), (0, .ref (b 0)), (1, .int p0), (2, .int p1)]) hx hb dX4_buy_50 rfl hl (by decide) rfl ?_
        clear hl; intro ls hl
        refine lv_aload_n hx hb dX4_buy_51 rfl (lv_at hl 1 rfl) ?_
        refine rg_w hx hb hts h_iX4 hown hC 0 (by decide) h_f22 dX4_buy_52 ?_
        refine rg_sN hx hb hts h_iX3 hown hC (by decide) 2 (by decide) h_f76 dX4_buy_55 ?_
        refine lv_iload_n hx hb dX4_buy_58 rfl (lv_at hl 0 rfl) ?_
        refine lv_icmp_ge (tgt := 68) hx hb dX4_buy_59 (by decide) (fun c5 => ?_) (fun c5 => ?_)
        · refine lv_aload_n hx hb dX4_buy_68 rfl (lv_at hl 1 rfl) ?_
          refine rg_w hx hb hts h_iX4 hown hC 0 (by decide) h_f22 dX4_buy_69 ?_
          refine lv_dup hx hb dX4_buy_72 rfl ?_
          refine rg_sN hx hb hts h_iX3 hown hC (by decide) 2 (by decide) h_f76 dX4_buy_73 ?_
          refine lv_iload_n hx hb dX4_buy_76 rfl (lv_at hl 0 rfl) ?_
          refine lv_isub hx hb dX4_buy_77 ?_
          refine rp_sN hx hb hts h_iX3 hown hC (by decide) 2 (by decide) h_f76 dX4_buy_78 ?_
          clear hC; intro H locs τ6 eτ6 hC
          refine lv_aload_n hx hb dX4_buy_81 rfl (lv_at hl 1 rfl) ?_
          refine rg_w hx hb hts h_iX4 hown hC 0 (by decide) h_f22 dX4_buy_82 ?_
          refine lv_dup hx hb dX4_buy_85 rfl ?_
          refine rg_sN hx hb hts h_iX3 hown hC (by decide) 3 (by decide) h_f79 dX4_buy_86 ?_
          refine lv_iload_n hx hb dX4_buy_89 rfl (lv_at hl 2 rfl) ?_
          refine lv_if_ne (tgt := 97) hx hb dX4_buy_90 (by decide) (fun c7 => ?_) (fun c7 => ?_)
          · refine lv_iconst (v := 0) hx hb dX4_buy_97 (by decide) ?_
            refine lv_iadd hx hb dX4_buy_98 ?_
            refine rp_sN hx hb hts h_iX3 hown hC (by decide) 3 (by decide) h_f79 dX4_buy_99 ?_
            clear hC; intro H locs τ8 eτ8 hC
            refine lv_aload_n hx hb dX4_buy_102 rfl (lv_at hl 1 rfl) ?_
            refine rg_w hx hb hts h_iX4 hown hC 0 (by decide) h_f22 dX4_buy_103 ?_
            refine lv_dup hx hb dX4_buy_106 rfl ?_
            refine rg_sN hx hb hts h_iX3 hown hC (by decide) 4 (by decide) h_f82 dX4_buy_107 ?_
            refine lv_iload_n hx hb dX4_buy_110 rfl (lv_at hl 2 rfl) ?_
            refine lv_iconst (v := 1) hx hb dX4_buy_111 (by decide) ?_
            refine lv_icmp_ne (tgt := 119) hx hb dX4_buy_112 (by decide) (fun c9 => ?_) (fun c9 => ?_)
            · refine lv_iconst (v := 0) hx hb dX4_buy_119 (by decide) ?_
              refine lv_iadd hx hb dX4_buy_120 ?_
              refine rp_sN hx hb hts h_iX3 hown hC (by decide) 4 (by decide) h_f82 dX4_buy_121 ?_
              clear hC; intro H locs τ10 eτ10 hC
              refine lv_iload_n hx hb dX4_buy_124 rfl (lv_at hl 2 rfl) ?_
              refine lv_if_ne (tgt := 138) hx hb dX4_buy_125 (by decide) (fun c11 => ?_) (fun c11 => ?_)
              · refine lv_aload_n hx hb dX4_buy_138 rfl (lv_at hl 1 rfl) ?_
                refine rg_w hx hb hts h_iX4 hown hC 0 (by decide) h_f22 dX4_buy_139 ?_
                refine rg_sN hx hb hts h_iX3 hown hC (by decide) 4 (by decide) h_f82 dX4_buy_142 ?_
                have e : fX4_buy θ τ p0 p1 = ((τ10 0 4), θ1, τ10) := by subst eθ1 eτ6 eτ8 eτ10; exact ((if_neg c2).trans ((if_neg c3).trans ((if_neg c4).trans ((if_pos c5).trans ((if_neg c7).trans ((if_neg c9).trans ((if_neg c11).trans rfl)))))))
                exact r_iret hx hb hr hlocks hC dX4_buy_145 ⟨by rw [e], by rw [e], by rw [e]⟩
              · refine lv_aload_n hx hb dX4_buy_128 rfl (lv_at hl 1 rfl) ?_
                refine rg_w hx hb hts h_iX4 hown hC 0 (by decide) h_f22 dX4_buy_129 ?_
                refine rg_sN hx hb hts h_iX3 hown hC (by decide) 3 (by decide) h_f79 dX4_buy_132 ?_
                refine lv_goto (tgt := 145) hx hb dX4_buy_135 (by decide) ?_
                have e : fX4_buy θ τ p0 p1 = ((τ10 0 3), θ1, τ10) := by subst eθ1 eτ6 eτ8 eτ10; exact ((if_neg c2).trans ((if_neg c3).trans ((if_neg c4).trans ((if_pos c5).trans ((if_neg c7).trans ((if_neg c9).trans ((if_pos c11).trans rfl)))))))
                exact r_iret hx hb hr hlocks hC dX4_buy_145 ⟨by rw [e], by rw [e], by rw [e]⟩
            · refine lv_iload_n hx hb dX4_buy_115 rfl (lv_at hl 3 rfl) ?_
              refine lv_goto (tgt := 120) hx hb dX4_buy_116 (by decide) ?_
              refine lv_iadd hx hb dX4_buy_120 ?_
              refine rp_sN hx hb hts h_iX3 hown hC (by decide) 4 (by decide) h_f82 dX4_buy_121 ?_
              clear hC; intro H locs τ12 eτ12 hC
              refine lv_iload_n hx hb dX4_buy_124 rfl (lv_at hl 2 rfl) ?_
              refine lv_if_ne (tgt := 138) hx hb dX4_buy_125 (by decide) (fun c13 => ?_) (fun c13 => ?_)
              · refine lv_aload_n hx hb dX4_buy_138 rfl (lv_at hl 1 rfl) ?_
                refine rg_w hx hb hts h_iX4 hown hC 0 (by decide) h_f22 dX4_buy_139 ?_
                refine rg_sN hx hb hts h_iX3 hown hC (by decide) 4 (by decide) h_f82 dX4_buy_142 ?_
                have e : fX4_buy θ τ p0 p1 = ((τ12 0 4), θ1, τ12) := by subst eθ1 eτ6 eτ8 eτ12; exact ((if_neg c2).trans ((if_neg c3).trans ((if_neg c4).trans ((if_pos c5).trans ((if_neg c7).trans ((if_pos c9).trans ((if_neg c13).trans rfl)))))))
                exact r_iret hx hb hr hlocks hC dX4_buy_145 ⟨by rw [e], by rw [e], by rw [e]⟩
              · refine lv_aload_n hx hb dX4_buy_128 rfl (lv_at hl 1 rfl) ?_
                refine rg_w hx hb hts h_iX4 hown hC 0 (by decide) h_f22 dX4_buy_129 ?_
                refine rg_sN hx hb hts h_iX3 hown hC (by decide) 3 (by decide) h_f79 dX4_buy_132 ?_
                refine lv_goto (tgt := 145) hx hb dX4_buy_135 (by decide) ?_
                have e : fX4_buy θ τ p0 p1 = ((τ12 0 3), θ1, τ12) := by subst eθ1 eτ6 eτ8 eτ12; exact ((if_neg c2).trans ((if_neg c3).trans ((if_neg c4).trans ((if_pos c5).trans ((if_neg c7).trans ((if_pos c9).trans ((if_pos c13).trans rfl)))))))
                exact r_iret hx hb hr hlocks hC dX4_buy_145 ⟨by rw [e], by rw [e], by rw [e]⟩
          · refine lv_iload_n hx hb dX4_buy_93 rfl (lv_at hl 3 rfl) ?_
            refine lv_goto (tgt := 98) hx hb dX4_buy_94 (by decide) ?_
            refine lv_iadd hx hb dX4_buy_98 ?_
            refine rp_sN hx hb hts h_iX3 hown hC (by decide) 3 (by decide) h_f79 dX4_buy_99 ?_
            clear hC; intro H locs τ14 eτ14 hC
            refine lv_aload_n hx hb dX4_buy_102 rfl (lv_at hl 1 rfl) ?_
            refine rg_w hx hb hts h_iX4 hown hC 0 (by decide) h_f22 dX4_buy_103 ?_
            refine lv_dup hx hb dX4_buy_106 rfl ?_
            refine rg_sN hx hb hts h_iX3 hown hC (by decide) 4 (by decide) h_f82 dX4_buy_107 ?_
            refine lv_iload_n hx hb dX4_buy_110 rfl (lv_at hl 2 rfl) ?_
            refine lv_iconst (v := 1) hx hb dX4_buy_111 (by decide) ?_
            refine lv_icmp_ne (tgt := 119) hx hb dX4_buy_112 (by decide) (fun c15 => ?_) (fun c15 => ?_)
            · refine lv_iconst (v := 0) hx hb dX4_buy_119 (by decide) ?_
              refine lv_iadd hx hb dX4_buy_120 ?_
              refine rp_sN hx hb hts h_iX3 hown hC (by decide) 4 (by decide) h_f82 dX4_buy_121 ?_
              clear hC; intro H locs τ16 eτ16 hC
              refine lv_iload_n hx hb dX4_buy_124 rfl (lv_at hl 2 rfl) ?_
              refine lv_if_ne (tgt := 138) hx hb dX4_buy_125 (by decide) (fun c17 => ?_) (fun c17 => ?_)
              · refine lv_aload_n hx hb dX4_buy_138 rfl (lv_at hl 1 rfl) ?_
                refine rg_w hx hb hts h_iX4 hown hC 0 (by decide) h_f22 dX4_buy_139 ?_
                refine rg_sN hx hb hts h_iX3 hown hC (by decide) 4 (by decide) h_f82 dX4_buy_142 ?_
                have e : fX4_buy θ τ p0 p1 = ((τ16 0 4), θ1, τ16) := by subst eθ1 eτ6 eτ14 eτ16; exact ((if_neg c2).trans ((if_neg c3).trans ((if_neg c4).trans ((if_pos c5).trans ((if_pos c7).trans ((if_neg c15).trans ((if_neg c17).trans rfl)))))))
                exact r_iret hx hb hr hlocks hC dX4_buy_145 ⟨by rw [e], by rw [e], by rw [e]⟩
              · refine lv_aload_n hx hb dX4_buy_128 rfl (lv_at hl 1 rfl) ?_
                refine rg_w hx hb hts h_iX4 hown hC 0 (by decide) h_f22 dX4_buy_129 ?_
                refine rg_sN hx hb hts h_iX3 hown hC (by decide) 3 (by decide) h_f79 dX4_buy_132 ?_
                refine lv_goto (tgt := 145) hx hb dX4_buy_135 (by decide) ?_
                have e : fX4_buy θ τ p0 p1 = ((τ16 0 3), θ1, τ16) := by subst eθ1 eτ6 eτ14 eτ16; exact ((if_neg c2).trans ((if_neg c3).trans ((if_neg c4).trans ((if_pos c5).trans ((if_pos c7).trans ((if_neg c15).trans ((if_pos c17).trans rfl)))))))
                exact r_iret hx hb hr hlocks hC dX4_buy_145 ⟨by rw [e], by rw [e], by rw [e]⟩
            · refine lv_iload_n hx hb dX4_buy_115 rfl (lv_at hl 3 rfl) ?_
              refine lv_goto (tgt := 120) hx hb dX4_buy_116 (by decide) ?_
              refine lv_iadd hx hb dX4_buy_120 ?_
              refine rp_sN hx hb hts h_iX3 hown hC (by decide) 4 (by decide) h_f82 dX4_buy_121 ?_
              clear hC; intro H locs τ18 eτ18 hC
              refine lv_iload_n hx hb dX4_buy_124 rfl (lv_at hl 2 rfl) ?_
              refine lv_if_ne (tgt := 138) hx hb dX4_buy_125 (by decide) (fun c19 => ?_) (fun c19 => ?_)
              · refine lv_aload_n hx hb dX4_buy_138 rfl (lv_at hl 1 rfl) ?_
                refine rg_w hx hb hts h_iX4 hown hC 0 (by decide) h_f22 dX4_buy_139 ?_
                refine rg_sN hx hb hts h_iX3 hown hC (by decide) 4 (by decide) h_f82 dX4_buy_142 ?_
                have e : fX4_buy θ τ p0 p1 = ((τ18 0 4), θ1, τ18) := by subst eθ1 eτ6 eτ14 eτ18; exact ((if_neg c2).trans ((if_neg c3).trans ((if_neg c4).trans ((if_pos c5).trans ((if_pos c7).trans ((if_pos c15).trans ((if_neg c19).trans rfl)))))))
                exact r_iret hx hb hr hlocks hC dX4_buy_145 ⟨by rw [e], by rw [e], by rw [e]⟩
              · refine lv_aload_n hx hb dX4_buy_128 rfl (lv_at hl 1 rfl) ?_
                refine rg_w hx hb hts h_iX4 hown hC 0 (by decide) h_f22 dX4_buy_129 ?_
                refine rg_sN hx hb hts h_iX3 hown hC (by decide) 3 (by decide) h_f79 dX4_buy_132 ?_
                refine lv_goto (tgt := 145) hx hb dX4_buy_135 (by decide) ?_
                have e : fX4_buy θ τ p0 p1 = ((τ18 0 3), θ1, τ18) := by subst eθ1 eτ6 eτ14 eτ18; exact ((if_neg c2).trans ((if_neg c3).trans ((if_neg c4).trans ((if_pos c5).trans ((if_pos c7).trans ((if_pos c15).trans ((if_pos c19).trans rfl)))))))
                exact r_iret hx hb hr hlocks hC dX4_buy_145 ⟨by rw [e], by rw [e], by rw [e]⟩
        · refine lv_aload_n hx hb dX4_buy_62 rfl (lv_at hl 1 rfl) ?_
          refine lv_iconst (v := 3) hx hb dX4_buy_63 (by decide) ?_
          refine r_iVm (n := 1) hF (c_X4_no l D cI b 0 θ1 τ ρ (3 : Int32)) gX4_buy_X4_no rfl rfl rfl (by decide +kernel) ⟨Nat.le_of_ble_eq_true rfl, Nat.le_of_ble_eq_true rfl⟩ hC hA hC.recvM rfl hl.1 rfl (Nat.le_of_ble_eq_true rfl) dX4_buy_64 ⟨Nat.zero_le _, Nat.zero_le _⟩ ?_
          clear hC; intro H locs θ20 eθ20 hC
          have e : fX4_buy θ τ p0 p1 = ((fX4_no θ1 (3 : Int32)).1, θ20, τ) := by subst eθ1 eθ20; exact ((if_neg c2).trans ((if_neg c3).trans ((if_neg c4).trans ((if_neg c5).trans rfl))))
          exact r_iret hx hb hr hlocks hC dX4_buy_67 ⟨by rw [e], by rw [e], by rw [e]⟩
      · refine lv_iload_n hx hb dX4_buy_41 rfl (lv_at hl 2 rfl) ?_
        refine lv_goto (tgt := 50) hx hb dX4_buy_42 (by decide) ?_
        refine lv_istore_n (lv' := [(3, .int p1), (0, .ref (b 0)), (1, .int p0), (2, .int p1)]) hx hb dX4_buy_50 rfl hl (by decide) rfl ?_
        clear hl; intro ls hl
        refine lv_aload_n hx hb dX4_buy_51 rfl (lv_at hl 1 rfl) ?_
        refine rg_w hx hb hts h_iX4 hown hC 0 (by decide) h_f22 dX4_buy_52 ?_
        refine rg_sN hx hb hts h_iX3 hown hC (by decide) 2 (by decide) h_f76 dX4_buy_55 ?_
        refine lv_iload_n hx hb dX4_buy_58 rfl (lv_at hl 0 rfl) ?_
        refine lv_icmp_ge (tgt := 68) hx hb dX4_buy_59 (by decide) (fun c21 => ?_) (fun c21 => ?_)
        · refine lv_aload_n hx hb dX4_buy_68 rfl (lv_at hl 1 rfl) ?_
          refine rg_w hx hb hts h_iX4 hown hC 0 (by decide) h_f22 dX4_buy_69 ?_
          refine lv_dup hx hb dX4_buy_72 rfl ?_
          refine rg_sN hx hb hts h_iX3 hown hC (by decide) 2 (by decide) h_f76 dX4_buy_73 ?_
          refine lv_iload_n hx hb dX4_buy_76 rfl (lv_at hl 0 rfl) ?_
          refine lv_isub hx hb dX4_buy_77 ?_
          refine rp_sN hx hb hts h_iX3 hown hC (by decide) 2 (by decide) h_f76 dX4_buy_78 ?_
          clear hC; intro H locs τ22 eτ22 hC
          refine lv_aload_n hx hb dX4_buy_81 rfl (lv_at hl 1 rfl) ?_
          refine rg_w hx hb hts h_iX4 hown hC 0 (by decide) h_f22 dX4_buy_82 ?_
          refine lv_dup hx hb dX4_buy_85 rfl ?_
          refine rg_sN hx hb hts h_iX3 hown hC (by decide) 3 (by decide) h_f79 dX4_buy_86 ?_
          refine lv_iload_n hx hb dX4_buy_89 rfl (lv_at hl 2 rfl) ?_
          refine lv_if_ne (tgt := 97) hx hb dX4_buy_90 (by decide) (fun c23 => ?_) (fun c23 => ?_)
          · refine lv_iconst (v := 0) hx hb dX4_buy_97 (by decide) ?_
            refine lv_iadd hx hb dX4_buy_98 ?_
            refine rp_sN hx hb hts h_iX3 hown hC (by decide) 3 (by decide) h_f79 dX4_buy_99 ?_
            clear hC; intro H locs τ24 eτ24 hC
            refine lv_aload_n hx hb dX4_buy_102 rfl (lv_at hl 1 rfl) ?_
            refine rg_w hx hb hts h_iX4 hown hC 0 (by decide) h_f22 dX4_buy_103 ?_
            refine lv_dup hx hb dX4_buy_106 rfl ?_
            refine rg_sN hx hb hts h_iX3 hown hC (by decide) 4 (by decide) h_f82 dX4_buy_107 ?_
            refine lv_iload_n hx hb dX4_buy_110 rfl (lv_at hl 2 rfl) ?_
            refine lv_iconst (v := 1) hx hb dX4_buy_111 (by decide) ?_
            refine lv_icmp_ne (tgt := 119) hx hb dX4_buy_112 (by decide) (fun c25 => ?_) (fun c25 => ?_)
            · refine lv_iconst (v := 0) hx hb dX4_buy_119 (by decide) ?_
              refine lv_iadd hx hb dX4_buy_120 ?_
              refine rp_sN hx hb hts h_iX3 hown hC (by decide) 4 (by decide) h_f82 dX4_buy_121 ?_
              clear hC; intro H locs τ26 eτ26 hC
              refine lv_iload_n hx hb dX4_buy_124 rfl (lv_at hl 2 rfl) ?_
              refine lv_if_ne (tgt := 138) hx hb dX4_buy_125 (by decide) (fun c27 => ?_) (fun c27 => ?_)
              · refine lv_aload_n hx hb dX4_buy_138 rfl (lv_at hl 1 rfl) ?_
                refine rg_w hx hb hts h_iX4 hown hC 0 (by decide) h_f22 dX4_buy_139 ?_
                refine rg_sN hx hb hts h_iX3 hown hC (by decide) 4 (by decide) h_f82 dX4_buy_142 ?_
                have e : fX4_buy θ τ p0 p1 = ((τ26 0 4), θ1, τ26) := by subst eθ1 eτ22 eτ24 eτ26; exact ((if_neg c2).trans ((if_neg c3).trans ((if_pos c4).trans ((if_pos c21).trans ((if_neg c23).trans ((if_neg c25).trans ((if_neg c27).trans rfl)))))))
                exact r_iret hx hb hr hlocks hC dX4_buy_145 ⟨by rw [e], by rw [e], by rw [e]⟩
              · refine lv_aload_n hx hb dX4_buy_128 rfl (lv_at hl 1 rfl) ?_
                refine rg_w hx hb hts h_iX4 hown hC 0 (by decide) h_f22 dX4_buy_129 ?_
                refine rg_sN hx hb hts h_iX3 hown hC (by decide) 3 (by decide) h_f79 dX4_buy_132 ?_
                refine lv_goto (tgt := 145) hx hb dX4_buy_135 (by decide) ?_
                have e : fX4_buy θ τ p0 p1 = ((τ26 0 3), θ1, τ26) := by subst eθ1 eτ22 eτ24 eτ26; exact ((if_neg c2).trans ((if_neg c3).trans ((if_pos c4).trans ((if_pos c21).trans ((if_neg c23).trans ((if_neg c25).trans ((if_pos c27).trans rfl)))))))
                exact r_iret hx hb hr hlocks hC dX4_buy_145 ⟨by rw [e], by rw [e], by rw [e]⟩
            · refine lv_iload_n hx hb dX4_buy_115 rfl (lv_at hl 3 rfl) ?_
              refine lv_goto (tgt := 120) hx hb dX4_buy_116 (by decide) ?_
              refine lv_iadd hx hb dX4_buy_120 ?_
              refine rp_sN hx hb hts h_iX3 hown hC (by decide) 4 (by decide) h_f82 dX4_buy_121 ?_
              clear hC; intro H locs τ28 eτ28 hC
              refine lv_iload_n hx hb dX4_buy_124 rfl (lv_at hl 2 rfl) ?_
              refine lv_if_ne (tgt := 138) hx hb dX4_buy_125 (by decide) (fun c29 => ?_) (fun c29 => ?_)
              · refine lv_aload_n hx hb dX4_buy_138 rfl (lv_at hl 1 rfl) ?_
                refine rg_w hx hb hts h_iX4 hown hC 0 (by decide) h_f22 dX4_buy_139 ?_
                refine rg_sN hx hb hts h_iX3 hown hC (by decide) 4 (by decide) h_f82 dX4_buy_142 ?_
                have e : fX4_buy θ τ p0 p1 = ((τ28 0 4), θ1, τ28) := by subst eθ1 eτ22 eτ24 eτ28; exact ((if_neg c2).trans ((if_neg c3).trans ((if_pos c4).trans ((if_pos c21).trans ((if_neg c23).trans ((if_pos c25).trans ((if_neg c29).trans rfl)))))))
                exact r_iret hx hb hr hlocks hC dX4_buy_145 ⟨by rw [e], by rw [e], by rw [e]⟩
              · refine lv_aload_n hx hb dX4_buy_128 rfl (lv_at hl 1 rfl) ?_
                refine rg_w hx hb hts h_iX4 hown hC 0 (by decide) h_f22 dX4_buy_129 ?_
                refine rg_sN hx hb hts h_iX3 hown hC (by decide) 3 (by decide) h_f79 dX4_buy_132 ?_
                refine lv_goto (tgt := 145) hx hb dX4_buy_135 (by decide) ?_
                have e : fX4_buy θ τ p0 p1 = ((τ28 0 3), θ1, τ28) := by subst eθ1 eτ22 eτ24 eτ28; exact ((if_neg c2).trans ((if_neg c3).trans ((if_pos c4).trans ((if_pos c21).trans ((if_neg c23).trans ((if_pos c25).trans ((if_pos c29).trans rfl)))))))
                exact r_iret hx hb hr hlocks hC dX4_buy_145 ⟨by rw [e], by rw [e], by rw [e]⟩
          · refine lv_iload_n hx hb dX4_buy_93 rfl (lv_at hl 3 rfl) ?_
            refine lv_goto (tgt := 98) hx hb dX4_buy_94 (by decide) ?_
            refine lv_iadd hx hb dX4_buy_98 ?_
            refine rp_sN hx hb hts h_iX3 hown hC (by decide) 3 (by decide) h_f79 dX4_buy_99 ?_
            clear hC; intro H locs τ30 eτ30 hC
            refine lv_aload_n hx hb dX4_buy_102 rfl (lv_at hl 1 rfl) ?_
            refine rg_w hx hb hts h_iX4 hown hC 0 (by decide) h_f22 dX4_buy_103 ?_
            refine lv_dup hx hb dX4_buy_106 rfl ?_
            refine rg_sN hx hb hts h_iX3 hown hC (by decide) 4 (by decide) h_f82 dX4_buy_107 ?_
            refine lv_iload_n hx hb dX4_buy_110 rfl (lv_at hl 2 rfl) ?_
            refine lv_iconst (v := 1) hx hb dX4_buy_111 (by decide) ?_
            refine lv_icmp_ne (tgt := 119) hx hb dX4_buy_112 (by decide) (fun c31 => ?_) (fun c31 => ?_)
            · refine lv_iconst (v := 0) hx hb dX4_buy_119 (by decide) ?_
              refine lv_iadd hx hb dX4_buy_120 ?_
              refine rp_sN hx hb hts h_iX3 hown hC (by decide) 4 (by decide) h_f82 dX4_buy_121 ?_
              clear hC; intro H locs τ32 eτ32 hC
              refine lv_iload_n hx hb dX4_buy_124 rfl (lv_at hl 2 rfl) ?_
              refine lv_if_ne (tgt := 138) hx hb dX4_buy_125 (by decide) (fun c33 => ?_) (fun c33 => ?_)
              · refine lv_aload_n hx hb dX4_buy_138 rfl (lv_at hl 1 rfl) ?_
                refine rg_w hx hb hts h_iX4 hown hC 0 (by decide) h_f22 dX4_buy_139 ?_
                refine rg_sN hx hb hts h_iX3 hown hC (by decide) 4 (by decide) h_f82 dX4_buy_142 ?_
                have e : fX4_buy θ τ p0 p1 = ((τ32 0 4), θ1, τ32) := by subst eθ1 eτ22 eτ30 eτ32; exact ((if_neg c2).trans ((if_neg c3).trans ((if_pos c4).trans ((if_pos c21).trans ((if_pos c23).trans ((if_neg c31).trans ((if_neg c33).trans rfl)))))))
                exact r_iret hx hb hr hlocks hC dX4_buy_145 ⟨by rw [e], by rw [e], by rw [e]⟩
              · refine lv_aload_n hx hb dX4_buy_128 rfl (lv_at hl 1 rfl) ?_
                refine rg_w hx hb hts h_iX4 hown hC 0 (by decide) h_f22 dX4_buy_129 ?_
                refine rg_sN hx hb hts h_iX3 hown hC (by decide) 3 (by decide) h_f79 dX4_buy_132 ?_
                refine lv_goto (tgt := 145) hx hb dX4_buy_135 (by decide) ?_
                have e : fX4_buy θ τ p0 p1 = ((τ32 0 3), θ1, τ32) := by subst eθ1 eτ22 eτ30 eτ32; exact ((if_neg c2).trans ((if_neg c3).trans ((if_pos c4).trans ((if_pos c21).trans ((if_pos c23).trans ((if_neg c31).trans ((if_pos c33).trans rfl)))))))
                exact r_iret hx hb hr hlocks hC dX4_buy_145 ⟨by rw [e], by rw [e], by rw [e]⟩
            · refine lv_iload_n hx hb dX4_buy_115 rfl (lv_at hl 3 rfl) ?_
              refine lv_goto (tgt := 120) hx hb dX4_buy_116 (by decide) ?_
              refine lv_iadd hx hb dX4_buy_120 ?_
              refine rp_sN hx hb hts h_iX3 hown hC (by decide) 4 (by decide) h_f82 dX4_buy_121 ?_
              clear hC; intro H locs τ34 eτ34 hC
              refine lv_iload_n hx hb dX4_buy_124 rfl (lv_at hl 2 rfl) ?_
              refine lv_if_ne (tgt := 138) hx hb dX4_buy_125 (by decide) (fun c35 => ?_) (fun c35 => ?_)
              · refine lv_aload_n hx hb dX4_buy_138 rfl (lv_at hl 1 rfl) ?_
                refine rg_w hx hb hts h_iX4 hown hC 0 (by decide) h_f22 dX4_buy_139 ?_
                refine rg_sN hx hb hts h_iX3 hown hC (by decide) 4 (by decide) h_f82 dX4_buy_142 ?_
                have e : fX4_buy θ τ p0 p1 = ((τ34 0 4), θ1, τ34) := by subst eθ1 eτ22 eτ30 eτ34; exact ((if_neg c2).trans ((if_neg c3).trans ((if_pos c4).trans ((if_pos c21).trans ((if_pos c23).trans ((if_pos c31).trans ((if_neg c35).trans rfl)))))))
                exact r_iret hx hb hr hlocks hC dX4_buy_145 ⟨by rw [e], by rw [e], by rw [e]⟩
              · refine lv_aload_n hx hb dX4_buy_128 rfl (lv_at hl 1 rfl) ?_
                refine rg_w hx hb hts h_iX4 hown hC 0 (by decide) h_f22 dX4_buy_129 ?_
                refine rg_sN hx hb hts h_iX3 hown hC (by decide) 3 (by decide) h_f79 dX4_buy_132 ?_
                refine lv_goto (tgt := 145) hx hb dX4_buy_135 (by decide) ?_
                have e : fX4_buy θ τ p0 p1 = ((τ34 0 3), θ1, τ34) := by subst eθ1 eτ22 eτ30 eτ34; exact ((if_neg c2).trans ((if_neg c3).trans ((if_pos c4).trans ((if_pos c21).trans ((if_pos c23).trans ((if_pos c31).trans ((if_pos c35).trans rfl)))))))
                exact r_iret hx hb hr hlocks hC dX4_buy_145 ⟨by rw [e], by rw [e], by rw [e]⟩
        · refine lv_aload_n hx hb dX4_buy_62 rfl (lv_at hl 1 rfl) ?_
          refine lv_iconst (v := 3) hx hb dX4_buy_63 (by decide) ?_
          refine r_iVm (n := 1) hF (c_X4_no l D cI b 0 θ1 τ ρ (3 : Int32)) gX4_buy_X4_no rfl rfl rfl (by decide +kernel) ⟨Nat.le_of_ble_eq_true rfl, Nat.le_of_ble_eq_true rfl⟩ hC hA hC.recvM rfl hl.1 rfl (Nat.le_of_ble_eq_true rfl) dX4_buy_64 ⟨Nat.zero_le _, Nat.zero_le _⟩ ?_
          clear hC; intro H locs θ36 eθ36 hC
          have e : fX4_buy θ τ p0 p1 = ((fX4_no θ1 (3 : Int32)).1, θ36, τ) := by subst eθ1 eθ36; exact ((if_neg c2).trans ((if_neg c3).trans ((if_pos c4).trans ((if_neg c21).trans rfl))))
          exact r_iret hx hb hr hlocks hC dX4_buy_67 ⟨by rw [e], by rw [e], by rw [e]⟩
    · refine lv_aload_n hx hb dX4_buy_31 rfl (lv_at hl 0 rfl) ?_
      refine lv_iconst (v := 2) hx hb dX4_buy_32 (by decide) ?_
      refine r_iVm (n := 1) hF (c_X4_no l D cI b 0 θ1 τ ρ (2 : Int32)) gX4_buy_X4_no rfl rfl rfl (by decide +kernel) ⟨Nat.le_of_ble_eq_true rfl, Nat.le_of_ble_eq_true rfl⟩ hC hA hC.recvM rfl hl.1 rfl (Nat.le_of_ble_eq_true rfl) dX4_buy_33 ⟨Nat.zero_le _, Nat.zero_le _⟩ ?_
      clear hC; intro H locs θ37 eθ37 hC
      have e : fX4_buy θ τ p0 p1 = ((fX4_no θ1 (2 : Int32)).1, θ37, τ) := by subst eθ1 eθ37; exact ((if_neg c2).trans ((if_pos c3).trans rfl))
      exact r_iret hx hb hr hlocks hC dX4_buy_36 ⟨by rw [e], by rw [e], by rw [e]⟩
  · refine lv_aload_n hx hb dX4_buy_14 rfl (lv_at hl 0 rfl) ?_
    refine lv_iconst (v := 1) hx hb dX4_buy_15 (by decide) ?_
    refine r_iVm (n := 1) hF (c_X4_no l D cI b 0 θ1 τ ρ (1 : Int32)) gX4_buy_X4_no rfl rfl rfl (by decide +kernel) ⟨Nat.le_of_ble_eq_true rfl, Nat.le_of_ble_eq_true rfl⟩ hC hA hC.recvM rfl hl.1 rfl (Nat.le_of_ble_eq_true rfl) dX4_buy_16 ⟨Nat.zero_le _, Nat.zero_le _⟩ ?_
    clear hC; intro H locs θ38 eθ38 hC
    have e : fX4_buy θ τ p0 p1 = ((fX4_no θ1 (1 : Int32)).1, θ38, τ) := by subst eθ1 eθ38; exact ((if_pos c2).trans rfl)
    exact r_iret hx hb hr hlocks hC dX4_buy_19 ⟨by rw [e], by rw [e], by rw [e]⟩
abbrev rmX4_sell : Room := { frames := 1, cells := 0, slots := 0, locals := 22 }
def fX4_sell (θ : (Nat → Nat → Int32)) (τ : (Nat → Nat → Int32)) (p0 : Int32) : Int32 × (Nat → Nat → Int32) × (Nat → Nat → Int32) :=
    let θ1 : (Nat → Nat → Int32) := up2 θ 0 0 (0 : Int32)
    if (fX4_isIn p0 (1 : Int32) (500 : Int32)) = 0 then
      let θ7 : (Nat → Nat → Int32) := (fX4_no θ1 (1 : Int32)).2
      ((fX4_no θ1 (1 : Int32)).1, θ7, τ)
    else
      if p0 ≤ (τ 0 5) then
        let τ4 : (Nat → Nat → Int32) := up2 τ 0 5 ((τ 0 5) - p0)
        let τ5 : (Nat → Nat → Int32) := up2 τ4 0 2 ((τ4 0 2) + (p0 / (2 : Int32)))
        ((τ5 0 2), θ1, τ5)
      else
        let θ6 : (Nat → Nat → Int32) := (fX4_no θ1 (2 : Int32)).2
        ((fX4_no θ1 (2 : Int32)).1, θ6, τ)
set_option maxHeartbeats 400000 in
set_option maxRecDepth 100000 in
theorem c_X4_sell (l : Launch) (D : va_G) (cI : ClassId) (b : Nat → Nat) (θ τ ρ : (Nat → Nat → Int32)) (p0 : Int32) : rMi l yX4_sell wsX4_sell rmX4_sell D cI b [.ref (b 0), .int p0] 0 θ τ ρ (fX4_sell θ τ p0).1 (fX4_sell θ τ p0).2.1 (fX4_sell θ τ p0).2.2 := by
  intro sz
  refine r_head (cc := cX4_sell) (maxL := 2) (ret := (some .int)) (plainFor_of_name (by decide)) rfl (Nat.le_of_ble_eq_true rfl) ?_
  intro p e S m below meth c hx hb hr hml hown hts hlocks hnm hsz hA hC ls hl
  have hF : CallFix p m c cX4_sell 2 S [.ref (b 0), .int p0].toArray wsX4_sell RX4 := ⟨hx, hb, hml, hown, hts⟩
  have h_f29 : (Cond.fieldLink RX4 29 "CombersSocietyModel" "thrown" "I").before [.ref (b 0), .int p0].toArray S = true := hts _ (by decide +kernel)
  have h_iX4 : ∀ w ∈ u_ws RX4 TX4 5, w ∈ wsX4_sell := by decide +kernel
  have h_f22 : (Cond.fieldLink RX4 22 "CombersSocietyModel" "s" "LCombersSocietyModel$State;").before [.ref (b 0), .int p0].toArray S = true := hts _ (by decide +kernel)
  have h_f85 : (nw85).before [.ref (b 0), .int p0].toArray S = true := va_Nw.use rfl hC.2.2.2.2.nw85
  have h_iX3 : ∀ w ∈ u_ws RX3 TX3 12, w ∈ wsX4_sell := by decide +kernel
  have h_f76 : (nw76).before [.ref (b 0), .int p0].toArray S = true := va_Nw.use rfl hC.2.2.2.2.nw76
  have hl : lv_has ls 2 [(0, .ref (b 0)), (1, .int p0)] := hl
  refine lv_aload_n hx hb dX4_sell_0 rfl (lv_at hl 0 rfl) ?_
  refine lv_iconst (v := 0) hx hb dX4_sell_1 (by decide) ?_
  refine rp_m hx hb hts h_iX4 hown hC 0 (by decide) h_f29 dX4_sell_2 ?_
  clear hC; intro H locs θ1 eθ1 hC
  refine lv_iload_n hx hb dX4_sell_5 rfl (lv_at hl 1 rfl) ?_
  refine lv_iconst (v := 1) hx hb dX4_sell_6 (by decide) ?_
  refine lv_sipush (v := 500) hx hb dX4_sell_7 (by decide) ?_
  refine r_iSi (n := 3) hF (c_X4_isIn l D cI b 0 θ1 τ ρ p0 (1 : Int32) (500 : Int32)) gX4_sell_X4_isIn rfl rfl rfl (by decide +kernel) ⟨Nat.le_of_ble_eq_true rfl, Nat.le_of_ble_eq_true rfl⟩ hC hA rfl hl.1 rfl (Nat.le_of_ble_eq_true rfl) dX4_sell_10 ⟨Nat.zero_le _, Nat.zero_le _⟩ ?_
  clear hC; intro H locs hC
  refine lv_if_ne (tgt := 22) hx hb dX4_sell_13 (by decide) (fun c2 => ?_) (fun c2 => ?_)
  · refine lv_aload_n hx hb dX4_sell_22 rfl (lv_at hl 0 rfl) ?_
    refine rg_w hx hb hts h_iX4 hown hC 0 (by decide) h_f22 dX4_sell_23 ?_
    refine rg_sN hx hb hts h_iX3 hown hC (by decide) 5 (by decide) h_f85 dX4_sell_26 ?_
    refine lv_iload_n hx hb dX4_sell_29 rfl (lv_at hl 1 rfl) ?_
    refine lv_icmp_ge (tgt := 39) hx hb dX4_sell_30 (by decide) (fun c3 => ?_) (fun c3 => ?_)
    · refine lv_aload_n hx hb dX4_sell_39 rfl (lv_at hl 0 rfl) ?_
      refine rg_w hx hb hts h_iX4 hown hC 0 (by decide) h_f22 dX4_sell_40 ?_
      refine lv_dup hx hb dX4_sell_43 rfl ?_
      refine rg_sN hx hb hts h_iX3 hown hC (by decide) 5 (by decide) h_f85 dX4_sell_44 ?_
      refine lv_iload_n hx hb dX4_sell_47 rfl (lv_at hl 1 rfl) ?_
      refine lv_isub hx hb dX4_sell_48 ?_
      refine rp_sN hx hb hts h_iX3 hown hC (by decide) 5 (by decide) h_f85 dX4_sell_49 ?_
      clear hC; intro H locs τ4 eτ4 hC
      refine lv_aload_n hx hb dX4_sell_52 rfl (lv_at hl 0 rfl) ?_
      refine rg_w hx hb hts h_iX4 hown hC 0 (by decide) h_f22 dX4_sell_53 ?_
      refine lv_dup hx hb dX4_sell_56 rfl ?_
      refine rg_sN hx hb hts h_iX3 hown hC (by decide) 2 (by decide) h_f76 dX4_sell_57 ?_
      refine lv_iload_n hx hb dX4_sell_60 rfl (lv_at hl 1 rfl) ?_
      refine lv_iconst (v := 2) hx hb dX4_sell_61 (by decide) ?_
      refine lv_idiv hx hb dX4_sell_62 (by decide) ?_
      refine lv_iadd hx hb dX4_sell_63 ?_
      refine rp_sN hx hb hts h_iX3 hown hC (by decide) 2 (by decide) h_f76 dX4_sell_64 ?_
      clear hC; intro H locs τ5 eτ5 hC
      refine lv_aload_n hx hb dX4_sell_67 rfl (lv_at hl 0 rfl) ?_
      refine rg_w hx hb hts h_iX4 hown hC 0 (by decide) h_f22 dX4_sell_68 ?_
      refine rg_sN hx hb hts h_iX3 hown hC (by decide) 2 (by decide) h_f76 dX4_sell_71 ?_
      have e : fX4_sell θ τ p0 = ((τ5 0 2), θ1, τ5) := by subst eθ1 eτ4 eτ5; exact ((if_neg c2).trans ((if_pos c3).trans rfl))
      exact r_iret hx hb hr hlocks hC dX4_sell_74 ⟨by rw [e], by rw [e], by rw [e]⟩
    · refine lv_aload_n hx hb dX4_sell_33 rfl (lv_at hl 0 rfl) ?_
      refine lv_iconst (v := 2) hx hb dX4_sell_34 (by decide) ?_
      refine r_iVm (n := 1) hF (c_X4_no l D cI b 0 θ1 τ ρ (2 : Int32)) gX4_sell_X4_no rfl rfl rfl (by decide +kernel) ⟨Nat.le_of_ble_eq_true rfl, Nat.le_of_ble_eq_true rfl⟩ hC hA hC.recvM rfl hl.1 rfl (Nat.le_of_ble_eq_true rfl) dX4_sell_35 ⟨Nat.zero_le _, Nat.zero_le _⟩ ?_
      clear hC; intro H locs θ6 eθ6 hC
      have e : fX4_sell θ τ p0 = ((fX4_no θ1 (2 : Int32)).1, θ6, τ) := by subst eθ1 eθ6; exact ((if_neg c2).trans ((if_neg c3).trans rfl))
      exact r_iret hx hb hr hlocks hC dX4_sell_38 ⟨by rw [e], by rw [e], by rw [e]⟩
  · refine lv_aload_n hx hb dX4_sell_16 rfl (lv_at hl 0 rfl) ?_
    refine lv_iconst (v := 1) hx hb dX4_sell_17 (by decide) ?_
    refine r_iVm (n := 1) hF (c_X4_no l D cI b 0 θ1 τ ρ (1 : Int32)) gX4_sell_X4_no rfl rfl rfl (by decide +kernel) ⟨Nat.le_of_ble_eq_true rfl, Nat.le_of_ble_eq_true rfl⟩ hC hA hC.recvM rfl hl.1 rfl (Nat.le_of_ble_eq_true rfl) dX4_sell_18 ⟨Nat.zero_le _, Nat.zero_le _⟩ ?_
    clear hC; intro H locs θ7 eθ7 hC
    have e : fX4_sell θ τ p0 = ((fX4_no θ1 (1 : Int32)).1, θ7, τ) := by subst eθ1 eθ7; exact ((if_pos c2).trans rfl)
    exact r_iret hx hb hr hlocks hC dX4_sell_21 ⟨by rw [e], by rw [e], by rw [e]⟩
abbrev rmX4_count : Room := { frames := 3, cells := 0, slots := 0, locals := 66 }
def fX4_count (θ : (Nat → Nat → Int32)) (τ : (Nat → Nat → Int32)) (p0 : Int32) : Int32 × (Nat → Nat → Int32) :=
    let θ1 : (Nat → Nat → Int32) := up2 θ 0 0 (0 : Int32)
    if (fX4_isIn p0 (0 : Int32) (12 : Int32)) = 0 then
      let θ3 : (Nat → Nat → Int32) := (fX4_no θ1 (1 : Int32)).2
      ((fX4_no θ1 (1 : Int32)).1, θ3)
    else
      ((fX4_counted τ p0), θ1)
set_option maxHeartbeats 400000 in
set_option maxRecDepth 100000 in
theorem c_X4_count (l : Launch) (D : va_G) (cI : ClassId) (b : Nat → Nat) (θ τ ρ : (Nat → Nat → Int32)) (p0 : Int32) (N : Nat) (hW : wf τ N) : rMi l yX4_count wsX4_count rmX4_count D cI b [.ref (b 0), .int p0] 0 θ τ ρ (fX4_count θ τ p0).1 (fX4_count θ τ p0).2 τ := by
  intro sz
  refine r_head (cc := cX4_count) (maxL := 2) (ret := (some .int)) (plainFor_of_name (by decide)) rfl (Nat.le_of_ble_eq_true rfl) ?_
  intro p e S m below meth c hx hb hr hml hown hts hlocks hnm hsz hA hC ls hl
  have hF : CallFix p m c cX4_count 2 S [.ref (b 0), .int p0].toArray wsX4_count RX4 := ⟨hx, hb, hml, hown, hts⟩
  have h_f29 : (Cond.fieldLink RX4 29 "CombersSocietyModel" "thrown" "I").before [.ref (b 0), .int p0].toArray S = true := hts _ (by decide +kernel)
  have h_iX4 : ∀ w ∈ u_ws RX4 TX4 5, w ∈ wsX4_count := by decide +kernel
  have h_f22 : (Cond.fieldLink RX4 22 "CombersSocietyModel" "s" "LCombersSocietyModel$State;").before [.ref (b 0), .int p0].toArray S = true := hts _ (by decide +kernel)
  have hl : lv_has ls 2 [(0, .ref (b 0)), (1, .int p0)] := hl
  refine lv_aload_n hx hb dX4_count_0 rfl (lv_at hl 0 rfl) ?_
  refine lv_iconst (v := 0) hx hb dX4_count_1 (by decide) ?_
  refine rp_m hx hb hts h_iX4 hown hC 0 (by decide) h_f29 dX4_count_2 ?_
  clear hC; intro H locs θ1 eθ1 hC
  refine lv_iload_n hx hb dX4_count_5 rfl (lv_at hl 1 rfl) ?_
  refine lv_iconst (v := 0) hx hb dX4_count_6 (by decide) ?_
  refine lv_bipush (v := 12) hx hb dX4_count_7 (by decide) ?_
  refine r_iSi (n := 3) hF (c_X4_isIn l D cI b 0 θ1 τ ρ p0 (0 : Int32) (12 : Int32)) gX4_count_X4_isIn rfl rfl rfl (by decide +kernel) ⟨Nat.le_of_ble_eq_true rfl, Nat.le_of_ble_eq_true rfl⟩ hC hA rfl hl.1 rfl (Nat.le_of_ble_eq_true rfl) dX4_count_9 ⟨Nat.zero_le _, Nat.zero_le _⟩ ?_
  clear hC; intro H locs hC
  refine lv_if_eq (tgt := 26) hx hb dX4_count_12 (by decide) (fun c2 => ?_) (fun c2 => ?_)
  · refine lv_aload_n hx hb dX4_count_26 rfl (lv_at hl 0 rfl) ?_
    refine lv_iconst (v := 1) hx hb dX4_count_27 (by decide) ?_
    refine r_iVm (n := 1) hF (c_X4_no l D cI b 0 θ1 τ ρ (1 : Int32)) gX4_count_X4_no rfl rfl rfl (by decide +kernel) ⟨Nat.le_of_ble_eq_true rfl, Nat.le_of_ble_eq_true rfl⟩ hC hA hC.recvM rfl hl.1 rfl (Nat.le_of_ble_eq_true rfl) dX4_count_28 ⟨Nat.zero_le _, Nat.zero_le _⟩ ?_
    clear hC; intro H locs θ3 eθ3 hC
    have e : fX4_count θ τ p0 = ((fX4_no θ1 (1 : Int32)).1, θ3) := by subst eθ1 eθ3; exact ((if_pos c2).trans rfl)
    exact r_iret hx hb hr hlocks hC dX4_count_31 ⟨by rw [e], by rw [e], rfl⟩
  · refine lv_aload_n hx hb dX4_count_15 rfl (lv_at hl 0 rfl) ?_
    refine rg_w hx hb hts h_iX4 hown hC 0 (by decide) h_f22 dX4_count_16 ?_
    refine lv_iload_n hx hb dX4_count_19 rfl (lv_at hl 1 rfl) ?_
    refine r_iSi (n := 2) hF (c_X4_counted l D cI b 0 θ1 τ ρ (by decide) p0 N hW) gX4_count_X4_counted rfl rfl rfl (by decide +kernel) ⟨Nat.le_of_ble_eq_true rfl, Nat.le_of_ble_eq_true rfl⟩ hC hA rfl hl.1 rfl (Nat.le_of_ble_eq_true rfl) dX4_count_20 ⟨Nat.zero_le _, Nat.zero_le _⟩ ?_
    clear hC; intro H locs hC
    refine lv_goto (tgt := 31) hx hb dX4_count_23 (by decide) ?_
    have e : fX4_count θ τ p0 = ((fX4_counted τ p0), θ1) := by subst eθ1; exact ((if_neg c2).trans rfl)
    exact r_iret hx hb hr hlocks hC dX4_count_31 ⟨by rw [e], by rw [e], rfl⟩
