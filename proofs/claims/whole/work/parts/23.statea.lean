abbrev rmX3_of : Room := { frames := 0, cells := 0, slots := 0, locals := 0 }
def fX3_of (τ : (Nat → Nat → Int32)) (p0 : Int32) (p1 : Int32) : Int32 :=
    (τ 2 ((((9 : Int32) * p0) + p1)).toNatClampNeg)
set_option maxHeartbeats 400000 in
set_option maxRecDepth 100000 in
theorem c_X3_of (l : Launch) (D : va_G) (cI : ClassId) (b : Nat → Nat) (s : Nat) (θ τ ρ : (Nat → Nat → Int32)) (hs : s < 2) (p0 : Int32) (p1 : Int32) (hx0 : Ix p0 12) (hx1 : Ix p1 9) : rMi l yX3_of wsX3_of rmX3_of D cI b [.ref (b (3*s+2+0)), .int p0, .int p1] s θ τ ρ (fX3_of τ p0 p1) θ τ := by
  intro sz
  refine r_head (cc := cX3_of) (maxL := 3) (ret := (some .int)) (plainFor_of_name (by decide)) rfl (Nat.le_of_ble_eq_true rfl) ?_
  intro p e S m below meth c hx hb hr hml hown hts hlocks hnm hsz hA hC ls hl
  have h_f29 : (Cond.fieldLink RX3 29 "CombersSocietyModel$State" "rows" "[I").before [.ref (b (3*s+2+0)), .int p0, .int p1].toArray S = true := hts _ (by decide +kernel)
  have h_iX3 : ∀ w ∈ u_ws RX3 TX3 12, w ∈ wsX3_of := by decide +kernel
  have hl : lv_has ls 3 [(0, .ref (b (3*s+2+0))), (1, .int p0), (2, .int p1)] := hl
  refine lv_aload_n hx hb dX3_of_0 rfl (lv_at hl 0 rfl) ?_
  refine rg_r hx hb hts h_iX3 hown hC hs 1 (by decide) h_f29 dX3_of_1 ?_
  refine lv_bipush (v := 9) hx hb dX3_of_4 (by decide) ?_
  refine lv_iload_n hx hb dX3_of_6 rfl (lv_at hl 1 rfl) ?_
  refine lv_imul hx hb dX3_of_7 ?_
  refine lv_iload_n hx hb dX3_of_8 rfl (lv_at hl 2 rfl) ?_
  refine lv_iadd hx hb dX3_of_9 ?_
  refine r_ild hx hb hC hs 2 (by decide) (by decide) (j := ((((9 : Int32) * p0) + p1)).toNatClampNeg) (ixt (ix9 hx0 hx1) (by decide)).1 (ixt (ix9 hx0 hx1) (by decide)).2 dX3_of_10 ?_
  have e : fX3_of τ p0 p1 = (τ 2 ((((9 : Int32) * p0) + p1)).toNatClampNeg) := by exact rfl
  exact r_iret hx hb hr hlocks hC dX3_of_11 ⟨by rw [e], rfl, rfl⟩
abbrev rmX3_set : Room := { frames := 0, cells := 0, slots := 0, locals := 0 }
def fX3_set (τ : (Nat → Nat → Int32)) (p0 : Int32) (p1 : Int32) (p2 : Int32) : (Nat → Nat → Int32) :=
    let τ1 : (Nat → Nat → Int32) := up2 τ 2 ((((9 : Int32) * p0) + p1)).toNatClampNeg p2
    τ1
theorem wf_X3_set {τ : Nat → Nat → Int32} {N : Nat} {p0 p1 v : Int32} (h : wf τ N) (h0 : Ix p0 12) (h1 : Ix p1 9) (h5 : ¬ p1 = 5) : wf (fX3_set τ p0 p1 v) N := by
  obtain ⟨i, hi, rfl⟩ := h0
  obtain ⟨j, hj, rfl⟩ := h1
  unfold fX3_set
  rw [ix9v hi hj]
  exact wf_up2 h (fun m hm e => absurd (show nI j = 5 by rw [show j = 5 by omega]; rfl) h5)
theorem wf_X3_setAT {τ : Nat → Nat → Int32} {N : Nat} {p0 v : Int32} (h : wf τ N) (h0 : Ix p0 12) (hv : atR v) : wf (fX3_set τ p0 (5 : Int32) v) N := by
  obtain ⟨i, hi, rfl⟩ := h0
  unfold fX3_set
  rw [show (5 : Int32) = nI 5 from rfl, ix9v hi (by decide)]
  exact wf_up2 h (fun m hm e => hv)
theorem wf_set0 {τ : Nat → Nat → Int32} {N : Nat} {p0 v : Int32} (h : wf τ N) (h0 : Ix p0 12) : wf (fX3_set τ p0 (0 : Int32) v) N := wf_X3_set h h0 ⟨0, by decide, rfl⟩ (by decide)
theorem wf_set1 {τ : Nat → Nat → Int32} {N : Nat} {p0 v : Int32} (h : wf τ N) (h0 : Ix p0 12) : wf (fX3_set τ p0 (1 : Int32) v) N := wf_X3_set h h0 ⟨1, by decide, rfl⟩ (by decide)
theorem wf_set2 {τ : Nat → Nat → Int32} {N : Nat} {p0 v : Int32} (h : wf τ N) (h0 : Ix p0 12) : wf (fX3_set τ p0 (2 : Int32) v) N := wf_X3_set h h0 ⟨2, by decide, rfl⟩ (by decide)
theorem wf_set3 {τ : Nat → Nat → Int32} {N : Nat} {p0 v : Int32} (h : wf τ N) (h0 : Ix p0 12) : wf (fX3_set τ p0 (3 : Int32) v) N := wf_X3_set h h0 ⟨3, by decide, rfl⟩ (by decide)
theorem wf_set4 {τ : Nat → Nat → Int32} {N : Nat} {p0 v : Int32} (h : wf τ N) (h0 : Ix p0 12) : wf (fX3_set τ p0 (4 : Int32) v) N := wf_X3_set h h0 ⟨4, by decide, rfl⟩ (by decide)
theorem wf_set6 {τ : Nat → Nat → Int32} {N : Nat} {p0 v : Int32} (h : wf τ N) (h0 : Ix p0 12) : wf (fX3_set τ p0 (6 : Int32) v) N := wf_X3_set h h0 ⟨6, by decide, rfl⟩ (by decide)
theorem wf_set7 {τ : Nat → Nat → Int32} {N : Nat} {p0 v : Int32} (h : wf τ N) (h0 : Ix p0 12) : wf (fX3_set τ p0 (7 : Int32) v) N := wf_X3_set h h0 ⟨7, by decide, rfl⟩ (by decide)
theorem wf_set8 {τ : Nat → Nat → Int32} {N : Nat} {p0 v : Int32} (h : wf τ N) (h0 : Ix p0 12) : wf (fX3_set τ p0 (8 : Int32) v) N := wf_X3_set h h0 ⟨8, by decide, rfl⟩ (by decide)
theorem wf_up0_0 {τ : Nat → Nat → Int32} {N : Nat} {v : Int32} (h : wf τ N) : wf (up2 τ 0 0 v) N := wf_up0 h (by decide)
theorem wf_up0_2 {τ : Nat → Nat → Int32} {N : Nat} {v : Int32} (h : wf τ N) : wf (up2 τ 0 2 v) N := wf_up0 h (by decide)
theorem wf_up0_3 {τ : Nat → Nat → Int32} {N : Nat} {v : Int32} (h : wf τ N) : wf (up2 τ 0 3 v) N := wf_up0 h (by decide)
theorem wf_up0_4 {τ : Nat → Nat → Int32} {N : Nat} {v : Int32} (h : wf τ N) : wf (up2 τ 0 4 v) N := wf_up0 h (by decide)
theorem wf_up0_5 {τ : Nat → Nat → Int32} {N : Nat} {v : Int32} (h : wf τ N) : wf (up2 τ 0 5 v) N := wf_up0 h (by decide)
theorem wf_up0_6 {τ : Nat → Nat → Int32} {N : Nat} {v : Int32} (h : wf τ N) : wf (up2 τ 0 6 v) N := wf_up0 h (by decide)
theorem wf_up0_7 {τ : Nat → Nat → Int32} {N : Nat} {v : Int32} (h : wf τ N) : wf (up2 τ 0 7 v) N := wf_up0 h (by decide)
theorem wf_up0_8 {τ : Nat → Nat → Int32} {N : Nat} {v : Int32} (h : wf τ N) : wf (up2 τ 0 8 v) N := wf_up0 h (by decide)
theorem fX3_set_00 {τ : Nat → Nat → Int32} {p0 p1 v : Int32} {k : Nat} : fX3_set τ p0 p1 v 0 k = τ 0 k := by simp [fX3_set, up2]
set_option maxHeartbeats 400000 in
set_option maxRecDepth 100000 in
theorem c_X3_set (l : Launch) (D : va_G) (cI : ClassId) (b : Nat → Nat) (s : Nat) (θ τ ρ : (Nat → Nat → Int32)) (hs : s < 2) (p0 : Int32) (p1 : Int32) (p2 : Int32) (hx0 : Ix p0 12) (hx1 : Ix p1 9) : rMv l yX3_set wsX3_set rmX3_set D cI b [.ref (b (3*s+2+0)), .int p0, .int p1, .int p2] s θ τ ρ θ (fX3_set τ p0 p1 p2) := by
  intro sz
  refine r_head (cc := cX3_set) (maxL := 4) (ret := none) (plainFor_of_name (by decide)) rfl (Nat.le_of_ble_eq_true rfl) ?_
  intro p e S m below meth c hx hb hr hml hown hts hlocks hnm hsz hA hC ls hl
  have h_f29 : (Cond.fieldLink RX3 29 "CombersSocietyModel$State" "rows" "[I").before [.ref (b (3*s+2+0)), .int p0, .int p1, .int p2].toArray S = true := hts _ (by decide +kernel)
  have h_iX3 : ∀ w ∈ u_ws RX3 TX3 12, w ∈ wsX3_set := by decide +kernel
  have hl : lv_has ls 4 [(0, .ref (b (3*s+2+0))), (1, .int p0), (2, .int p1), (3, .int p2)] := hl
  refine lv_aload_n hx hb dX3_set_0 rfl (lv_at hl 0 rfl) ?_
  refine rg_r hx hb hts h_iX3 hown hC hs 1 (by decide) h_f29 dX3_set_1 ?_
  refine lv_bipush (v := 9) hx hb dX3_set_4 (by decide) ?_
  refine lv_iload_n hx hb dX3_set_6 rfl (lv_at hl 1 rfl) ?_
  refine lv_imul hx hb dX3_set_7 ?_
  refine lv_iload_n hx hb dX3_set_8 rfl (lv_at hl 2 rfl) ?_
  refine lv_iadd hx hb dX3_set_9 ?_
  refine lv_iload_n hx hb dX3_set_10 rfl (lv_at hl 3 rfl) ?_
  refine r_ist hx hb hC hs 2 (by decide) (by decide) (j := ((((9 : Int32) * p0) + p1)).toNatClampNeg) (ixt (ix9 hx0 hx1) (by decide)).1 (ixt (ix9 hx0 hx1) (by decide)).2 dX3_set_11 ?_
  clear hC; intro H locs τ1 eτ1 hC
  have e : fX3_set τ p0 p1 p2 = τ1 := by subst eτ1; exact rfl
  exact r_vret hx hb hr hlocks hC dX3_set_12 ⟨rfl, by rw [e]⟩
abbrev rmX3_combs : Room := { frames := 1, cells := 0, slots := 0, locals := 22 }
def fX3_combs (τ : (Nat → Nat → Int32)) (p0 : Int32) : Int32 :=
    if (fX3_of τ p0 (6 : Int32)) = 0 then
      if (fX3_of τ p0 (5 : Int32)) = (-1 : Int32) then
        (0 : Int32)
      else
        (1 : Int32)
    else
      (0 : Int32)
theorem combs_at {τ : Nat → Nat → Int32} {N i : Nat} (h : wf τ N) (hi : i < N) (hc : ¬ fX3_combs τ (nI i) = 0) : Ix (fX3_of τ (nI i) (5 : Int32)) 3 := by
  have h12 := h.2.1
  have ha := h.2.2 i hi
  have e : fX3_of τ (nI i) (5 : Int32) = τ 2 (9*i+5) := by
    unfold fX3_of
    rw [show (5 : Int32) = nI 5 from rfl, ix9v (by omega) (by decide)]
  rw [e]
  unfold fX3_combs at hc
  rw [e] at hc
  rcases ha with h1 | h1 | h1 | h1
  · exfalso
    apply hc
    repeat' split
    all_goals first | rfl | simp_all
  · exact ⟨0, by decide, h1⟩
  · exact ⟨1, by decide, h1⟩
  · exact ⟨2, by decide, h1⟩
set_option maxHeartbeats 400000 in
set_option maxRecDepth 100000 in
theorem c_X3_combs (l : Launch) (D : va_G) (cI : ClassId) (b : Nat → Nat) (s : Nat) (θ τ ρ : (Nat → Nat → Int32)) (hs : s < 2) (p0 : Int32) (hx0 : Ix p0 12) : rMi l yX3_combs wsX3_combs rmX3_combs D cI b [.ref (b (3*s+2+0)), .int p0] s θ τ ρ (fX3_combs τ p0) θ τ := by
  intro sz
  refine r_head (cc := cX3_combs) (maxL := 2) (ret := (some .boolean)) (plainFor_of_name (by decide)) rfl (Nat.le_of_ble_eq_true rfl) ?_
  intro p e S m below meth c hx hb hr hml hown hts hlocks hnm hsz hA hC ls hl
  have hF : CallFix p m c cX3_combs 2 S [.ref (b (3*s+2+0)), .int p0].toArray wsX3_combs RX3 := ⟨hx, hb, hml, hown, hts⟩
  have hl : lv_has ls 2 [(0, .ref (b (3*s+2+0))), (1, .int p0)] := hl
  refine lv_aload_n hx hb dX3_combs_0 rfl (lv_at hl 0 rfl) ?_
  refine lv_iload_n hx hb dX3_combs_1 rfl (lv_at hl 1 rfl) ?_
  refine lv_bipush (v := 6) hx hb dX3_combs_2 (by decide) ?_
  refine r_iVp (n := 2) hF (c_X3_of l D cI b s θ τ ρ hs p0 (6 : Int32) hx0 ⟨6, by decide, rfl⟩) gX3_combs_X3_of rfl rfl rfl (by decide +kernel) ⟨Nat.le_of_ble_eq_true rfl, Nat.le_of_ble_eq_true rfl⟩ hC hA (hC.recvS hs) rfl hl.1 rfl (Nat.le_of_ble_eq_true rfl) dX3_combs_4 ⟨Nat.zero_le _, Nat.zero_le _⟩ ?_
  clear hC; intro H locs hC
  refine lv_if_ne (tgt := 24) hx hb dX3_combs_7 (by decide) (fun c1 => ?_) (fun c1 => ?_)
  · refine lv_iconst (v := 0) hx hb dX3_combs_24 (by decide) ?_
    have e : fX3_combs τ p0 = (0 : Int32) := by exact ((if_neg c1).trans rfl)
    exact r_zret hx hb hr hlocks hC dX3_combs_25 (Or.inl rfl) ⟨by rw [e], rfl, rfl⟩
  · refine lv_aload_n hx hb dX3_combs_10 rfl (lv_at hl 0 rfl) ?_
    refine lv_iload_n hx hb dX3_combs_11 rfl (lv_at hl 1 rfl) ?_
    refine lv_iconst (v := 5) hx hb dX3_combs_12 (by decide) ?_
    refine r_iVp (n := 2) hF (c_X3_of l D cI b s θ τ ρ hs p0 (5 : Int32) hx0 ⟨5, by decide, rfl⟩) gX3_combs_X3_of rfl rfl rfl (by decide +kernel) ⟨Nat.le_of_ble_eq_true rfl, Nat.le_of_ble_eq_true rfl⟩ hC hA (hC.recvS hs) rfl hl.1 rfl (Nat.le_of_ble_eq_true rfl) dX3_combs_13 ⟨Nat.zero_le _, Nat.zero_le _⟩ ?_
    clear hC; intro H locs hC
    refine lv_iconst (v := -1) hx hb dX3_combs_16 (by decide) ?_
    refine lv_icmp_eq (tgt := 24) hx hb dX3_combs_17 (by decide) (fun c2 => ?_) (fun c2 => ?_)
    · refine lv_iconst (v := 0) hx hb dX3_combs_24 (by decide) ?_
      have e : fX3_combs τ p0 = (0 : Int32) := by exact ((if_pos c1).trans ((if_pos c2).trans rfl))
      exact r_zret hx hb hr hlocks hC dX3_combs_25 (Or.inl rfl) ⟨by rw [e], rfl, rfl⟩
    · refine lv_iconst (v := 1) hx hb dX3_combs_20 (by decide) ?_
      refine lv_goto (tgt := 25) hx hb dX3_combs_21 (by decide) ?_
      have e : fX3_combs τ p0 = (1 : Int32) := by exact ((if_pos c1).trans ((if_neg c2).trans rfl))
      exact r_zret hx hb hr hlocks hC dX3_combs_25 (Or.inr rfl) ⟨by rw [e], rfl, rfl⟩
abbrev rmX3_combers : Room := { frames := 2, cells := 0, slots := 0, locals := 43 }
def fX3_combers_b1 (τ : (Nat → Nat → Int32)) (p0 : Int32) (i1x : Nat) (v1_2 : Int32) : Int32 :=
    if (fX3_combs τ (nI i1x)) = 0 then
      (v1_2 + (0 : Int32))
    else
      if (fX3_of τ (nI i1x) (5 : Int32)) = p0 then
        (v1_2 + (1 : Int32))
      else
        (v1_2 + (0 : Int32))
def fX3_combers_k1 (v1_2 : Int32) : Int32 :=
    v1_2
def fX3_combers (τ : (Nat → Nat → Int32)) (p0 : Int32) : Int32 :=
    (fun x => fX3_combers_k1 x) (itR (fun i x => fX3_combers_b1 τ p0 i x) 0 (wfn τ) (0 : Int32))
set_option maxHeartbeats 400000 in
set_option maxRecDepth 100000 in
theorem c_X3_combers (l : Launch) (D : va_G) (cI : ClassId) (b : Nat → Nat) (s : Nat) (θ τ ρ : (Nat → Nat → Int32)) (hs : s < 2) (p0 : Int32) (N : Nat) (hW : wf τ N) : rMi l yX3_combers wsX3_combers rmX3_combers D cI b [.ref (b (3*s+2+0)), .int p0] s θ τ ρ (fX3_combers τ p0) θ τ := by
  intro sz
  refine r_head (cc := cX3_combers) (maxL := 4) (ret := (some .int)) (plainFor_of_name (by decide)) rfl (Nat.le_of_ble_eq_true rfl) ?_
  intro p e S m below meth c hx hb hr hml hown hts hlocks hnm hsz hA hC ls hl
  have hF : CallFix p m c cX3_combers 4 S [.ref (b (3*s+2+0)), .int p0].toArray wsX3_combers RX3 := ⟨hx, hb, hml, hown, hts⟩
  have h_f35 : (Cond.fieldLink RX3 35 "CombersSocietyModel$State" "members" "I").before [.ref (b (3*s+2+0)), .int p0].toArray S = true := hts _ (by decide +kernel)
  have h_iX3 : ∀ w ∈ u_ws RX3 TX3 12, w ∈ wsX3_combers := by decide +kernel
  have hl : lv_has ls 4 [(0, .ref (b (3*s+2+0))), (1, .int p0)] := hl
  refine lv_iconst (v := 0) hx hb dX3_combers_0 (by decide) ?_
  refine lv_istore_n (lv' := [(2, .int (0 : Int32)), (0, .ref (b (3*s+2+0))), (1, .int p0)]) hx hb dX3_combers_1 rfl hl (by decide) rfl ?_
  clear hl; intro ls hl
  refine lv_iconst (v := 0) hx hb dX3_combers_2 (by decide) ?_
  refine lv_istore_n (lv' := [(3, .int (0 : Int32)), (2, .int (0 : Int32)), (0, .ref (b (3*s+2+0))), (1, .int p0)]) hx hb dX3_combers_3 rfl hl (by decide) rfl ?_
  clear hl; intro ls hl
  have loop1 : ∀ (n1x i1x : Nat) (v1_2 : Int32), i1x + n1x = N → itR (fun i x => fX3_combers_b1 τ p0 i x) i1x n1x v1_2 = itR (fun i x => fX3_combers_b1 τ p0 i x) 0 (wfn τ) (0 : Int32) → ∀ (H : Heap) (locs : List Loc), rB D cI b S (rA b sz) S.heap H locs s θ τ ρ → ∀ ls : Array Slot, lv_has ls 4 [(3, .int (nI i1x)), (2, .int v1_2), (0, .ref (b (3*s+2+0))), (1, .int p0)] → W p l e (headSpec wsX3_combers rmX3_combers).room S m [.ref (b (3*s+2+0)), .int p0].toArray below meth c H locs 0 0 (MQ below (va_Qi (fun r' (_ : Unit) => r' = (fX3_combers τ p0)) (rPost D cI b s θ τ ρ) (rA b sz)) [.ref (b (3*s+2+0)), .int p0].toArray S 0 0 (rA b sz)) (F0 m 4 ls []) := by
    clear hC hl
    intro n1x
    induction n1x with
    | zero =>
      intro i1x v1_2 hin1 hX1 H locs hC ls hl
      obtain rfl : N = i1x := by omega
      refine lv_iload_n hx hb dX3_combers_4 rfl (lv_at hl 0 rfl) ?_
      refine lv_aload_n hx hb dX3_combers_5 rfl (lv_at hl 2 rfl) ?_
      refine rg_s hx hb hts h_iX3 hown hC hs 1 (by decide) h_f35 dX3_combers_6 ?_
      refine lv_icmp_ge (tgt := 44) hx hb dX3_combers_9 (by decide) (fun c4 => ?_) (fun c4 => absurd (wf_ex hW) c4)
      refine lv_iload_n hx hb dX3_combers_44 rfl (lv_at hl 1 rfl) ?_
      have e : fX3_combers τ p0 = v1_2 := by exact ((congrArg (fun x => fX3_combers_k1 x) hX1.symm).trans rfl)
      exact r_iret hx hb hr hlocks hC dX3_combers_45 ⟨by rw [e], rfl, rfl⟩
    | succ n1x ih1 =>
      intro i1x v1_2 hin1 hX1 H locs hC ls hl
      have hN12 := wf_12 hW
      refine lv_iload_n hx hb dX3_combers_4 rfl (lv_at hl 0 rfl) ?_
      refine lv_aload_n hx hb dX3_combers_5 rfl (lv_at hl 2 rfl) ?_
      refine rg_s hx hb hts h_iX3 hown hC hs 1 (by decide) h_f35 dX3_combers_6 ?_
      refine lv_icmp_ge (tgt := 44) hx hb dX3_combers_9 (by decide) (fun c1 => absurd c1 (wf_in hW (by omega))) (fun c1 => ?_)
      refine lv_iload_n hx hb dX3_combers_12 rfl (lv_at hl 1 rfl) ?_
      refine lv_aload_n hx hb dX3_combers_13 rfl (lv_at hl 2 rfl) ?_
      refine lv_iload_n hx hb dX3_combers_14 rfl (lv_at hl 0 rfl) ?_
      refine r_iVp (n := 1) hF (c_X3_combs l D cI b s θ τ ρ hs (nI i1x) ⟨i1x, by omega, rfl⟩) gX3_combers_X3_combs rfl rfl rfl (by decide +kernel) ⟨Nat.le_of_ble_eq_true rfl, Nat.le_of_ble_eq_true rfl⟩ hC hA (hC.recvS hs) rfl hl.1 rfl (Nat.le_of_ble_eq_true rfl) dX3_combers_15 ⟨Nat.zero_le _, Nat.zero_le _⟩ ?_
      clear hC; intro H locs hC
      refine lv_if_eq (tgt := 35) hx hb dX3_combers_18 (by decide) (fun c2 => ?_) (fun c2 => ?_)
      · refine lv_iconst (v := 0) hx hb dX3_combers_35 (by decide) ?_
        refine lv_iadd hx hb dX3_combers_36 ?_
        refine lv_istore_n (lv' := [(2, .int (v1_2 + (0 : Int32))), (3, .int (nI i1x)), (0, .ref (b (3*s+2+0))), (1, .int p0)]) hx hb dX3_combers_37 rfl hl (by decide) rfl ?_
        clear hl; intro ls hl
        refine lv_iinc (v := (nI (i1x + 1))) (lv' := [(3, .int (nI (i1x + 1))), (2, .int (v1_2 + (0 : Int32))), (0, .ref (b (3*s+2+0))), (1, .int p0)]) hx hb dX3_combers_38 hl (k := 1) rfl (nI_1 i1x) (by decide) rfl ?_
        clear hl; intro ls hl
        refine lv_goto (tgt := 4) hx hb dX3_combers_41 (by decide) ?_
        have e : fX3_combers_b1 τ p0 i1x v1_2 = (v1_2 + (0 : Int32)) := by exact ((if_pos c2).trans rfl)
        exact ih1 (i1x + 1) (v1_2 + (0 : Int32)) (by omega) (by rw [← e]; exact hX1) _ _ hC ls (lv_sub hl [0, 1, 2, 3] rfl)
      · refine lv_aload_n hx hb dX3_combers_21 rfl (lv_at hl 2 rfl) ?_
        refine lv_iload_n hx hb dX3_combers_22 rfl (lv_at hl 0 rfl) ?_
        refine lv_iconst (v := 5) hx hb dX3_combers_23 (by decide) ?_
        refine r_iVp (n := 2) hF (c_X3_of l D cI b s θ τ ρ hs (nI i1x) (5 : Int32) ⟨i1x, by omega, rfl⟩ ⟨5, by decide, rfl⟩) gX3_combers_X3_of rfl rfl rfl (by decide +kernel) ⟨Nat.le_of_ble_eq_true rfl, Nat.le_of_ble_eq_true rfl⟩ hC hA (hC.recvS hs) rfl hl.1 rfl (Nat.le_of_ble_eq_true rfl) dX3_combers_24 ⟨Nat.zero_le _, Nat.zero_le _⟩ ?_
        clear hC; intro H locs hC
        refine lv_iload_n hx hb dX3_combers_27 rfl (lv_at hl 3 rfl) ?_
        refine lv_icmp_ne (tgt := 35) hx hb dX3_combers_28 (by decide) (fun c3 => ?_) (fun c3 => ?_)
        · refine lv_iconst (v := 0) hx hb dX3_combers_35 (by decide) ?_
          refine lv_iadd hx hb dX3_combers_36 ?_
          refine lv_istore_n (lv' := [(2, .int (v1_2 + (0 : Int32))), (3, .int (nI i1x)), (0, .ref (b (3*s+2+0))), (1, .int p0)]) hx hb dX3_combers_37 rfl hl (by decide) rfl ?_
          clear hl; intro ls hl
          refine lv_iinc (v := (nI (i1x + 1))) (lv' := [(3, .int (nI (i1x + 1))), (2, .int (v1_2 + (0 : Int32))), (0, .ref (b (3*s+2+0))), (1, .int p0)]) hx hb dX3_combers_38 hl (k := 1) rfl (nI_1 i1x) (by decide) rfl ?_
          clear hl; intro ls hl
          refine lv_goto (tgt := 4) hx hb dX3_combers_41 (by decide) ?_
          have e : fX3_combers_b1 τ p0 i1x v1_2 = (v1_2 + (0 : Int32)) := by exact ((if_neg c2).trans ((if_neg c3).trans rfl))
          exact ih1 (i1x + 1) (v1_2 + (0 : Int32)) (by omega) (by rw [← e]; exact hX1) _ _ hC ls (lv_sub hl [0, 1, 2, 3] rfl)
        · refine lv_iconst (v := 1) hx hb dX3_combers_31 (by decide) ?_
          refine lv_goto (tgt := 36) hx hb dX3_combers_32 (by decide) ?_
          refine lv_iadd hx hb dX3_combers_36 ?_
          refine lv_istore_n (lv' := [(2, .int (v1_2 + (1 : Int32))), (3, .int (nI i1x)), (0, .ref (b (3*s+2+0))), (1, .int p0)]) hx hb dX3_combers_37 rfl hl (by decide) rfl ?_
          clear hl; intro ls hl
          refine lv_iinc (v := (nI (i1x + 1))) (lv' := [(3, .int (nI (i1x + 1))), (2, .int (v1_2 + (1 : Int32))), (0, .ref (b (3*s+2+0))), (1, .int p0)]) hx hb dX3_combers_38 hl (k := 1) rfl (nI_1 i1x) (by decide) rfl ?_
          clear hl; intro ls hl
          refine lv_goto (tgt := 4) hx hb dX3_combers_41 (by decide) ?_
          have e : fX3_combers_b1 τ p0 i1x v1_2 = (v1_2 + (1 : Int32)) := by exact ((if_neg c2).trans ((if_pos c3).trans rfl))
          exact ih1 (i1x + 1) (v1_2 + (1 : Int32)) (by omega) (by rw [← e]; exact hX1) _ _ hC ls (lv_sub hl [0, 1, 2, 3] rfl)
  exact loop1 N 0 (0 : Int32) (by omega) (by rw [wfn_eq hW]) _ _ hC ls (lv_sub hl [0, 1, 2, 3] rfl)
abbrev rmX3_there : Room := { frames := 1, cells := 0, slots := 0, locals := 22 }
def fX3_there_b1 (τ : (Nat → Nat → Int32)) (p0 : Int32) (i1x : Nat) (v1_2 : Int32) : Int32 :=
    if (fX3_of τ (nI i1x) (5 : Int32)) = p0 then
      (v1_2 + (1 : Int32))
    else
      (v1_2 + (0 : Int32))
def fX3_there_k1 (v1_2 : Int32) : Int32 :=
    v1_2
def fX3_there (τ : (Nat → Nat → Int32)) (p0 : Int32) : Int32 :=
    (fun x => fX3_there_k1 x) (itR (fun i x => fX3_there_b1 τ p0 i x) 0 (wfn τ) (0 : Int32))
set_option maxHeartbeats 400000 in
set_option maxRecDepth 100000 in
theorem c_X3_there (l : Launch) (D : va_G) (cI : ClassId) (b : Nat → Nat) (s : Nat) (θ τ ρ : (Nat → Nat → Int32)) (hs : s < 2) (p0 : Int32) (N : Nat) (hW : wf τ N) : rMi l yX3_there wsX3_there rmX3_there D cI b [.ref (b (3*s+2+0)), .int p0] s θ τ ρ (fX3_there τ p0) θ τ := by
  intro sz
  refine r_head (cc := cX3_there) (maxL := 4) (ret := (some .int)) (plainFor_of_name (by decide)) rfl (Nat.le_of_ble_eq_true rfl) ?_
  intro p e S m below meth c hx hb hr hml hown hts hlocks hnm hsz hA hC ls hl
  have hF : CallFix p m c cX3_there 4 S [.ref (b (3*s+2+0)), .int p0].toArray wsX3_there RX3 := ⟨hx, hb, hml, hown, hts⟩
  have h_f35 : (Cond.fieldLink RX3 35 "CombersSocietyModel$State" "members" "I").before [.ref (b (3*s+2+0)), .int p0].toArray S = true := hts _ (by decide +kernel)
  have h_iX3 : ∀ w ∈ u_ws RX3 TX3 12, w ∈ wsX3_there := by decide +kernel
  have hl : lv_has ls 4 [(0, .ref (b (3*s+2+0))), (1, .int p0)] := hl
  refine lv_iconst (v := 0) hx hb dX3_there_0 (by decide) ?_
  refine lv_istore_n (lv' := [(2, .int (0 : Int32)), (0, .ref (b (3*s+2+0))), (1, .int p0)]) hx hb dX3_there_1 rfl hl (by decide) rfl ?_
  clear hl; intro ls hl
  refine lv_iconst (v := 0) hx hb dX3_there_2 (by decide) ?_
  refine lv_istore_n (lv' := [(3, .int (0 : Int32)), (2, .int (0 : Int32)), (0, .ref (b (3*s+2+0))), (1, .int p0)]) hx hb dX3_there_3 rfl hl (by decide) rfl ?_
  clear hl; intro ls hl
  have loop1 : ∀ (n1x i1x : Nat) (v1_2 : Int32), i1x + n1x = N → itR (fun i x => fX3_there_b1 τ p0 i x) i1x n1x v1_2 = itR (fun i x => fX3_there_b1 τ p0 i x) 0 (wfn τ) (0 : Int32) → ∀ (H : Heap) (locs : List Loc), rB D cI b S (rA b sz) S.heap H locs s θ τ ρ → ∀ ls : Array Slot, lv_has ls 4 [(3, .int (nI i1x)), (2, .int v1_2), (0, .ref (b (3*s+2+0))), (1, .int p0)] → W p l e (headSpec wsX3_there rmX3_there).room S m [.ref (b (3*s+2+0)), .int p0].toArray below meth c H locs 0 0 (MQ below (va_Qi (fun r' (_ : Unit) => r' = (fX3_there τ p0)) (rPost D cI b s θ τ ρ) (rA b sz)) [.ref (b (3*s+2+0)), .int p0].toArray S 0 0 (rA b sz)) (F0 m 4 ls []) := by
    clear hC hl
    intro n1x
    induction n1x with
    | zero =>
      intro i1x v1_2 hin1 hX1 H locs hC ls hl
      obtain rfl : N = i1x := by omega
      refine lv_iload_n hx hb dX3_there_4 rfl (lv_at hl 0 rfl) ?_
      refine lv_aload_n hx hb dX3_there_5 rfl (lv_at hl 2 rfl) ?_
      refine rg_s hx hb hts h_iX3 hown hC hs 1 (by decide) h_f35 dX3_there_6 ?_
      refine lv_icmp_ge (tgt := 36) hx hb dX3_there_9 (by decide) (fun c3 => ?_) (fun c3 => absurd (wf_ex hW) c3)
      refine lv_iload_n hx hb dX3_there_36 rfl (lv_at hl 1 rfl) ?_
      have e : fX3_there τ p0 = v1_2 := by exact ((congrArg (fun x => fX3_there_k1 x) hX1.symm).trans rfl)
      exact r_iret hx hb hr hlocks hC dX3_there_37 ⟨by rw [e], rfl, rfl⟩
    | succ n1x ih1 =>
      intro i1x v1_2 hin1 hX1 H locs hC ls hl
      have hN12 := wf_12 hW
      refine lv_iload_n hx hb dX3_there_4 rfl (lv_at hl 0 rfl) ?_
      refine lv_aload_n hx hb dX3_there_5 rfl (lv_at hl 2 rfl) ?_
      refine rg_s hx hb hts h_iX3 hown hC hs 1 (by decide) h_f35 dX3_there_6 ?_
      refine lv_icmp_ge (tgt := 36) hx hb dX3_there_9 (by decide) (fun c1 => absurd c1 (wf_in hW (by omega))) (fun c1 => ?_)
      refine lv_iload_n hx hb dX3_there_12 rfl (lv_at hl 1 rfl) ?_
      refine lv_aload_n hx hb dX3_there_13 rfl (lv_at hl 2 rfl) ?_
      refine lv_iload_n hx hb dX3_there_14 rfl (lv_at hl 0 rfl) ?_
      refine lv_iconst (v := 5) hx hb dX3_there_15 (by decide) ?_
      refine r_iVp (n := 2) hF (c_X3_of l D cI b s θ τ ρ hs (nI i1x) (5 : Int32) ⟨i1x, by omega, rfl⟩ ⟨5, by decide, rfl⟩) gX3_there_X3_of rfl rfl rfl (by decide +kernel) ⟨Nat.le_of_ble_eq_true rfl, Nat.le_of_ble_eq_true rfl⟩ hC hA (hC.recvS hs) rfl hl.1 rfl (Nat.le_of_ble_eq_true rfl) dX3_there_16 ⟨Nat.zero_le _, Nat.zero_le _⟩ ?_
      clear hC; intro H locs hC
      refine lv_iload_n hx hb dX3_there_19 rfl (lv_at hl 3 rfl) ?_
      refine lv_icmp_ne (tgt := 27) hx hb dX3_there_20 (by decide) (fun c2 => ?_) (fun c2 => ?_)
      · refine lv_iconst (v := 0) hx hb dX3_there_27 (by decide) ?_
        refine lv_iadd hx hb dX3_there_28 ?_
        refine lv_istore_n (lv' := [(2, .int (v1_2 + (0 : Int32))), (3, .int (nI i1x)), (0, .ref (b (3*s+2+0))), (1, .int p0)]) hx hb dX3_there_29 rfl hl (by decide) rfl ?_
        clear hl; intro ls hl
        refine lv_iinc (v := (nI (i1x + 1))) (lv' := [(3, .int (nI (i1x + 1))), (2, .int (v1_2 + (0 : Int32))), (0, .ref (b (3*s+2+0))), (1, .int p0)]) hx hb dX3_there_30 hl (k := 1) rfl (nI_1 i1x) (by decide) rfl ?_
        clear hl; intro ls hl
        refine lv_goto (tgt := 4) hx hb dX3_there_33 (by decide) ?_
        have e : fX3_there_b1 τ p0 i1x v1_2 = (v1_2 + (0 : Int32)) := by exact ((if_neg c2).trans rfl)
        exact ih1 (i1x + 1) (v1_2 + (0 : Int32)) (by omega) (by rw [← e]; exact hX1) _ _ hC ls (lv_sub hl [0, 1, 2, 3] rfl)
      · refine lv_iconst (v := 1) hx hb dX3_there_23 (by decide) ?_
        refine lv_goto (tgt := 28) hx hb dX3_there_24 (by decide) ?_
        refine lv_iadd hx hb dX3_there_28 ?_
        refine lv_istore_n (lv' := [(2, .int (v1_2 + (1 : Int32))), (3, .int (nI i1x)), (0, .ref (b (3*s+2+0))), (1, .int p0)]) hx hb dX3_there_29 rfl hl (by decide) rfl ?_
        clear hl; intro ls hl
        refine lv_iinc (v := (nI (i1x + 1))) (lv' := [(3, .int (nI (i1x + 1))), (2, .int (v1_2 + (1 : Int32))), (0, .ref (b (3*s+2+0))), (1, .int p0)]) hx hb dX3_there_30 hl (k := 1) rfl (nI_1 i1x) (by decide) rfl ?_
        clear hl; intro ls hl
        refine lv_goto (tgt := 4) hx hb dX3_there_33 (by decide) ?_
        have e : fX3_there_b1 τ p0 i1x v1_2 = (v1_2 + (1 : Int32)) := by exact ((if_pos c2).trans rfl)
        exact ih1 (i1x + 1) (v1_2 + (1 : Int32)) (by omega) (by rw [← e]; exact hX1) _ _ hC ls (lv_sub hl [0, 1, 2, 3] rfl)
  exact loop1 N 0 (0 : Int32) (by omega) (by rw [wfn_eq hW]) _ _ hC ls (lv_sub hl [0, 1, 2, 3] rfl)
abbrev rmX3_many : Room := { frames := 1, cells := 0, slots := 0, locals := 22 }
def fX3_many_b1 (τ : (Nat → Nat → Int32)) (p0 : Int32) (i1x : Nat) (v1_2 : Int32) : Int32 :=
    if (fX3_of τ (nI i1x) (6 : Int32)) = p0 then
      (v1_2 + (1 : Int32))
    else
      (v1_2 + (0 : Int32))
def fX3_many_k1 (v1_2 : Int32) : Int32 :=
    v1_2
def fX3_many (τ : (Nat → Nat → Int32)) (p0 : Int32) : Int32 :=
    (fun x => fX3_many_k1 x) (itR (fun i x => fX3_many_b1 τ p0 i x) 0 (wfn τ) (0 : Int32))
set_option maxHeartbeats 400000 in
set_option maxRecDepth 100000 in
theorem c_X3_many (l : Launch) (D : va_G) (cI : ClassId) (b : Nat → Nat) (s : Nat) (θ τ ρ : (Nat → Nat → Int32)) (hs : s < 2) (p0 : Int32) (N : Nat) (hW : wf τ N) : rMi l yX3_many wsX3_many rmX3_many D cI b [.ref (b (3*s+2+0)), .int p0] s θ τ ρ (fX3_many τ p0) θ τ := by
  intro sz
  refine r_head (cc := cX3_many) (maxL := 4) (ret := (some .int)) (plainFor_of_name (by decide)) rfl (Nat.le_of_ble_eq_true rfl) ?_
  intro p e S m below meth c hx hb hr hml hown hts hlocks hnm hsz hA hC ls hl
  have hF : CallFix p m c cX3_many 4 S [.ref (b (3*s+2+0)), .int p0].toArray wsX3_many RX3 := ⟨hx, hb, hml, hown, hts⟩
  have h_f35 : (Cond.fieldLink RX3 35 "CombersSocietyModel$State" "members" "I").before [.ref (b (3*s+2+0)), .int p0].toArray S = true := hts _ (by decide +kernel)
  have h_iX3 : ∀ w ∈ u_ws RX3 TX3 12, w ∈ wsX3_many := by decide +kernel
  have hl : lv_has ls 4 [(0, .ref (b (3*s+2+0))), (1, .int p0)] := hl
  refine lv_iconst (v := 0) hx hb dX3_many_0 (by decide) ?_
  refine lv_istore_n (lv' := [(2, .int (0 : Int32)), (0, .ref (b (3*s+2+0))), (1, .int p0)]) hx hb dX3_many_1 rfl hl (by decide) rfl ?_
  clear hl; intro ls hl
  refine lv_iconst (v := 0) hx hb dX3_many_2 (by decide) ?_
  refine lv_istore_n (lv' := [(3, .int (0 : Int32)), (2, .int (0 : Int32)), (0, .ref (b (3*s+2+0))), (1, .int p0)]) hx hb dX3_many_3 rfl hl (by decide) rfl ?_
  clear hl; intro ls hl
  have loop1 : ∀ (n1x i1x : Nat) (v1_2 : Int32), i1x + n1x = N → itR (fun i x => fX3_many_b1 τ p0 i x) i1x n1x v1_2 = itR (fun i x => fX3_many_b1 τ p0 i x) 0 (wfn τ) (0 : Int32) → ∀ (H : Heap) (locs : List Loc), rB D cI b S (rA b sz) S.heap H locs s θ τ ρ → ∀ ls : Array Slot, lv_has ls 4 [(3, .int (nI i1x)), (2, .int v1_2), (0, .ref (b (3*s+2+0))), (1, .int p0)] → W p l e (headSpec wsX3_many rmX3_many).room S m [.ref (b (3*s+2+0)), .int p0].toArray below meth c H locs 0 0 (MQ below (va_Qi (fun r' (_ : Unit) => r' = (fX3_many τ p0)) (rPost D cI b s θ τ ρ) (rA b sz)) [.ref (b (3*s+2+0)), .int p0].toArray S 0 0 (rA b sz)) (F0 m 4 ls []) := by
    clear hC hl
    intro n1x
    induction n1x with
    | zero =>
      intro i1x v1_2 hin1 hX1 H locs hC ls hl
      obtain rfl : N = i1x := by omega
      refine lv_iload_n hx hb dX3_many_4 rfl (lv_at hl 0 rfl) ?_
      refine lv_aload_n hx hb dX3_many_5 rfl (lv_at hl 2 rfl) ?_
      refine rg_s hx hb hts h_iX3 hown hC hs 1 (by decide) h_f35 dX3_many_6 ?_
      refine lv_icmp_ge (tgt := 37) hx hb dX3_many_9 (by decide) (fun c3 => ?_) (fun c3 => absurd (wf_ex hW) c3)
      refine lv_iload_n hx hb dX3_many_37 rfl (lv_at hl 1 rfl) ?_
      have e : fX3_many τ p0 = v1_2 := by exact ((congrArg (fun x => fX3_many_k1 x) hX1.symm).trans rfl)
      exact r_iret hx hb hr hlocks hC dX3_many_38 ⟨by rw [e], rfl, rfl⟩
    | succ n1x ih1 =>
      intro i1x v1_2 hin1 hX1 H locs hC ls hl
      have hN12 := wf_12 hW
      refine lv_iload_n hx hb dX3_many_4 rfl (lv_at hl 0 rfl) ?_
      refine lv_aload_n hx hb dX3_many_5 rfl (lv_at hl 2 rfl) ?_
      refine rg_s hx hb hts h_iX3 hown hC hs 1 (by decide) h_f35 dX3_many_6 ?_
      refine lv_icmp_ge (tgt := 37) hx hb dX3_many_9 (by decide) (fun c1 => absurd c1 (wf_in hW (by omega))) (fun c1 => ?_)
      refine lv_iload_n hx hb dX3_many_12 rfl (lv_at hl 1 rfl) ?_
      refine lv_aload_n hx hb dX3_many_13 rfl (lv_at hl 2 rfl) ?_
      refine lv_iload_n hx hb dX3_many_14 rfl (lv_at hl 0 rfl) ?_
      refine lv_bipush (v := 6) hx hb dX3_many_15 (by decide) ?_
      refine r_iVp (n := 2) hF (c_X3_of l D cI b s θ τ ρ hs (nI i1x) (6 : Int32) ⟨i1x, by omega, rfl⟩ ⟨6, by decide, rfl⟩) gX3_many_X3_of rfl rfl rfl (by decide +kernel) ⟨Nat.le_of_ble_eq_true rfl, Nat.le_of_ble_eq_true rfl⟩ hC hA (hC.recvS hs) rfl hl.1 rfl (Nat.le_of_ble_eq_true rfl) dX3_many_17 ⟨Nat.zero_le _, Nat.zero_le _⟩ ?_
      clear hC; intro H locs hC
      refine lv_iload_n hx hb dX3_many_20 rfl (lv_at hl 3 rfl) ?_
      refine lv_icmp_ne (tgt := 28) hx hb dX3_many_21 (by decide) (fun c2 => ?_) (fun c2 => ?_)
      · refine lv_iconst (v := 0) hx hb dX3_many_28 (by decide) ?_
        refine lv_iadd hx hb dX3_many_29 ?_
        refine lv_istore_n (lv' := [(2, .int (v1_2 + (0 : Int32))), (3, .int (nI i1x)), (0, .ref (b (3*s+2+0))), (1, .int p0)]) hx hb dX3_many_30 rfl hl (by decide) rfl ?_
        clear hl; intro ls hl
        refine lv_iinc (v := (nI (i1x + 1))) (lv' := [(3, .int (nI (i1x + 1))), (2, .int (v1_2 + (0 : Int32))), (0, .ref (b (3*s+2+0))), (1, .int p0)]) hx hb dX3_many_31 hl (k := 1) rfl (nI_1 i1x) (by decide) rfl ?_
        clear hl; intro ls hl
        refine lv_goto (tgt := 4) hx hb dX3_many_34 (by decide) ?_
        have e : fX3_many_b1 τ p0 i1x v1_2 = (v1_2 + (0 : Int32)) := by exact ((if_neg c2).trans rfl)
        exact ih1 (i1x + 1) (v1_2 + (0 : Int32)) (by omega) (by rw [← e]; exact hX1) _ _ hC ls (lv_sub hl [0, 1, 2, 3] rfl)
      · refine lv_iconst (v := 1) hx hb dX3_many_24 (by decide) ?_
        refine lv_goto (tgt := 29) hx hb dX3_many_25 (by decide) ?_
        refine lv_iadd hx hb dX3_many_29 ?_
        refine lv_istore_n (lv' := [(2, .int (v1_2 + (1 : Int32))), (3, .int (nI i1x)), (0, .ref (b (3*s+2+0))), (1, .int p0)]) hx hb dX3_many_30 rfl hl (by decide) rfl ?_
        clear hl; intro ls hl
        refine lv_iinc (v := (nI (i1x + 1))) (lv' := [(3, .int (nI (i1x + 1))), (2, .int (v1_2 + (1 : Int32))), (0, .ref (b (3*s+2+0))), (1, .int p0)]) hx hb dX3_many_31 hl (k := 1) rfl (nI_1 i1x) (by decide) rfl ?_
        clear hl; intro ls hl
        refine lv_goto (tgt := 4) hx hb dX3_many_34 (by decide) ?_
        have e : fX3_many_b1 τ p0 i1x v1_2 = (v1_2 + (1 : Int32)) := by exact ((if_pos c2).trans rfl)
        exact ih1 (i1x + 1) (v1_2 + (1 : Int32)) (by omega) (by rw [← e]; exact hX1) _ _ hC ls (lv_sub hl [0, 1, 2, 3] rfl)
  exact loop1 N 0 (0 : Int32) (by omega) (by rw [wfn_eq hW]) _ _ hC ls (lv_sub hl [0, 1, 2, 3] rfl)
abbrev rmX3_all : Room := { frames := 1, cells := 0, slots := 0, locals := 22 }
def fX3_all_b1 (τ : (Nat → Nat → Int32)) (p0 : Int32) (i1x : Nat) (v1_2 : Int32) : Int32 :=
    (v1_2 + (fX3_of τ (nI i1x) p0))
def fX3_all_k1 (v1_2 : Int32) : Int32 :=
    v1_2
def fX3_all (τ : (Nat → Nat → Int32)) (p0 : Int32) : Int32 :=
    (fun x => fX3_all_k1 x) (itR (fun i x => fX3_all_b1 τ p0 i x) 0 (wfn τ) (0 : Int32))
set_option maxHeartbeats 400000 in
set_option maxRecDepth 100000 in
theorem c_X3_all (l : Launch) (D : va_G) (cI : ClassId) (b : Nat → Nat) (s : Nat) (θ τ ρ : (Nat → Nat → Int32)) (hs : s < 2) (p0 : Int32) (hx0 : Ix p0 9) (N : Nat) (hW : wf τ N) : rMi l yX3_all wsX3_all rmX3_all D cI b [.ref (b (3*s+2+0)), .int p0] s θ τ ρ (fX3_all τ p0) θ τ := by
  intro sz
  refine r_head (cc := cX3_all) (maxL := 4) (ret := (some .int)) (plainFor_of_name (by decide)) rfl (Nat.le_of_ble_eq_true rfl) ?_
  intro p e S m below meth c hx hb hr hml hown hts hlocks hnm hsz hA hC ls hl
  have hF : CallFix p m c cX3_all 4 S [.ref (b (3*s+2+0)), .int p0].toArray wsX3_all RX3 := ⟨hx, hb, hml, hown, hts⟩
  have h_f35 : (Cond.fieldLink RX3 35 "CombersSocietyModel$State" "members" "I").before [.ref (b (3*s+2+0)), .int p0].toArray S = true := hts _ (by decide +kernel)
  have h_iX3 : ∀ w ∈ u_ws RX3 TX3 12, w ∈ wsX3_all := by decide +kernel
  have hl : lv_has ls 4 [(0, .ref (b (3*s+2+0))), (1, .int p0)] := hl
  refine lv_iconst (v := 0) hx hb dX3_all_0 (by decide) ?_
  refine lv_istore_n (lv' := [(2, .int (0 : Int32)), (0, .ref (b (3*s+2+0))), (1, .int p0)]) hx hb dX3_all_1 rfl hl (by decide) rfl ?_
  clear hl; intro ls hl
  refine lv_iconst (v := 0) hx hb dX3_all_2 (by decide) ?_
  refine lv_istore_n (lv' := [(3, .int (0 : Int32)), (2, .int (0 : Int32)), (0, .ref (b (3*s+2+0))), (1, .int p0)]) hx hb dX3_all_3 rfl hl (by decide) rfl ?_
  clear hl; intro ls hl
  have loop1 : ∀ (n1x i1x : Nat) (v1_2 : Int32), i1x + n1x = N → itR (fun i x => fX3_all_b1 τ p0 i x) i1x n1x v1_2 = itR (fun i x => fX3_all_b1 τ p0 i x) 0 (wfn τ) (0 : Int32) → ∀ (H : Heap) (locs : List Loc), rB D cI b S (rA b sz) S.heap H locs s θ τ ρ → ∀ ls : Array Slot, lv_has ls 4 [(3, .int (nI i1x)), (2, .int v1_2), (0, .ref (b (3*s+2+0))), (1, .int p0)] → W p l e (headSpec wsX3_all rmX3_all).room S m [.ref (b (3*s+2+0)), .int p0].toArray below meth c H locs 0 0 (MQ below (va_Qi (fun r' (_ : Unit) => r' = (fX3_all τ p0)) (rPost D cI b s θ τ ρ) (rA b sz)) [.ref (b (3*s+2+0)), .int p0].toArray S 0 0 (rA b sz)) (F0 m 4 ls []) := by
    clear hC hl
    intro n1x
    induction n1x with
    | zero =>
      intro i1x v1_2 hin1 hX1 H locs hC ls hl
      obtain rfl : N = i1x := by omega
      refine lv_iload_n hx hb dX3_all_4 rfl (lv_at hl 0 rfl) ?_
      refine lv_aload_n hx hb dX3_all_5 rfl (lv_at hl 2 rfl) ?_
      refine rg_s hx hb hts h_iX3 hown hC hs 1 (by decide) h_f35 dX3_all_6 ?_
      refine lv_icmp_ge (tgt := 27) hx hb dX3_all_9 (by decide) (fun c2 => ?_) (fun c2 => absurd (wf_ex hW) c2)
      refine lv_iload_n hx hb dX3_all_27 rfl (lv_at hl 1 rfl) ?_
      have e : fX3_all τ p0 = v1_2 := by exact ((congrArg (fun x => fX3_all_k1 x) hX1.symm).trans rfl)
      exact r_iret hx hb hr hlocks hC dX3_all_28 ⟨by rw [e], rfl, rfl⟩
    | succ n1x ih1 =>
      intro i1x v1_2 hin1 hX1 H locs hC ls hl
      have hN12 := wf_12 hW
      refine lv_iload_n hx hb dX3_all_4 rfl (lv_at hl 0 rfl) ?_
      refine lv_aload_n hx hb dX3_all_5 rfl (lv_at hl 2 rfl) ?_
      refine rg_s hx hb hts h_iX3 hown hC hs 1 (by decide) h_f35 dX3_all_6 ?_
      refine lv_icmp_ge (tgt := 27) hx hb dX3_all_9 (by decide) (fun c1 => absurd c1 (wf_in hW (by omega))) (fun c1 => ?_)
      refine lv_iload_n hx hb dX3_all_12 rfl (lv_at hl 1 rfl) ?_
      refine lv_aload_n hx hb dX3_all_13 rfl (lv_at hl 2 rfl) ?_
      refine lv_iload_n hx hb dX3_all_14 rfl (lv_at hl 0 rfl) ?_
      refine lv_iload_n hx hb dX3_all_15 rfl (lv_at hl 3 rfl) ?_
      refine r_iVp (n := 2) hF (c_X3_of l D cI b s θ τ ρ hs (nI i1x) p0 ⟨i1x, by omega, rfl⟩ hx0) gX3_all_X3_of rfl rfl rfl (by decide +kernel) ⟨Nat.le_of_ble_eq_true rfl, Nat.le_of_ble_eq_true rfl⟩ hC hA (hC.recvS hs) rfl hl.1 rfl (Nat.le_of_ble_eq_true rfl) dX3_all_16 ⟨Nat.zero_le _, Nat.zero_le _⟩ ?_
      clear hC; intro H locs hC
      refine lv_iadd hx hb dX3_all_19 ?_
      refine lv_istore_n (lv' := [(2, .int (v1_2 + (fX3_of τ (nI i1x) p0))), (3, .int (nI i1x)), (0, .ref (b (3*s+2+0))), (1, .int p0)]) hx hb dX3_all_20 rfl hl (by decide) rfl ?_
      clear hl; intro ls hl
      refine lv_iinc (v := (nI (i1x + 1))) (lv' := [(3, .int (nI (i1x + 1))), (2, .int (v1_2 + (fX3_of τ (nI i1x) p0))), (0, .ref (b (3*s+2+0))), (1, .int p0)]) hx hb dX3_all_21 hl (k := 1) rfl (nI_1 i1x) (by decide) rfl ?_
      clear hl; intro ls hl
      refine lv_goto (tgt := 4) hx hb dX3_all_24 (by decide) ?_
      have e : fX3_all_b1 τ p0 i1x v1_2 = (v1_2 + (fX3_of τ (nI i1x) p0)) := by exact rfl
      exact ih1 (i1x + 1) (v1_2 + (fX3_of τ (nI i1x) p0)) (by omega) (by rw [← e]; exact hX1) _ _ hC ls (lv_sub hl [0, 1, 2, 3] rfl)
  exact loop1 N 0 (0 : Int32) (by omega) (by rw [wfn_eq hW]) _ _ hC ls (lv_sub hl [0, 1, 2, 3] rfl)
abbrev rmX3_fire : Room := { frames := 3, cells := 0, slots := 0, locals := 66 }
def fX3_fire_b1 (i1x : Nat) (σL1 : (Nat → Nat → Int32)) : (Nat → Nat → Int32) :=
    if (fX3_combers σL1 (nI i1x)) ≤ 0 then
      let τ4 : (Nat → Nat → Int32) := up2 σL1 0 3 ((σL1 0 3) - (0 : Int32))
      let τ6 : (Nat → Nat → Int32) := up2 τ4 1 i1x (mxI (0 : Int32) ((τ4 1 i1x) - (2 : Int32)))
      τ6
    else
      if (σL1 0 3) ≤ 0 then
        let τ9 : (Nat → Nat → Int32) := up2 σL1 0 3 ((σL1 0 3) - (0 : Int32))
        let τ11 : (Nat → Nat → Int32) := up2 τ9 1 i1x (mxI (0 : Int32) ((τ9 1 i1x) - (2 : Int32)))
        τ11
      else
        let τ13 : (Nat → Nat → Int32) := up2 σL1 0 3 ((σL1 0 3) - (1 : Int32))
        let τ15 : (Nat → Nat → Int32) := up2 τ13 1 i1x (mnI (9 : Int32) ((τ13 1 i1x) + (3 : Int32)))
        τ15
def fX3_fire_k1 (σL1 : (Nat → Nat → Int32)) : (Nat → Nat → Int32) :=
    σL1
def fX3_fire (τ : (Nat → Nat → Int32)) : (Nat → Nat → Int32) :=
    (fun x => fX3_fire_k1 x) (itR (fun i x => fX3_fire_b1 i x) 0 3 τ)
theorem wf_X3_fire {τ : Nat → Nat → Int32} {N : Nat} (h : wf τ N) : wf (fX3_fire τ) N := by
  have step : ∀ (i : Nat) (x : Nat → Nat → Int32), i < 3 → wf x N → wf (fX3_fire_b1 i x) N := by
    intro i x hi hx
    unfold fX3_fire_b1
    repeat' split
    all_goals exact wf_up1 (wf_up0 hx (by decide))
  unfold fX3_fire fX3_fire_k1
  exact itR_pres (P := fun x => wf x N) (f := fun i x => fX3_fire_b1 i x) step 3 0 τ (by decide) h
theorem fX3_fire_00 {τ : Nat → Nat → Int32} : fX3_fire τ 0 0 = τ 0 0 := by
  have step : ∀ (i : Nat) (x : Nat → Nat → Int32), i < 3 → x 0 0 = τ 0 0 → (fX3_fire_b1 i x) 0 0 = τ 0 0 := by
    intro i x hi hx
    unfold fX3_fire_b1
    repeat' split
    all_goals (simp only [up2]; simpa using hx)
  unfold fX3_fire fX3_fire_k1
  exact itR_pres (P := fun x => x 0 0 = τ 0 0) (f := fun i x => fX3_fire_b1 i x) step 3 0 τ (by decide) rfl
set_option maxHeartbeats 400000 in
set_option maxRecDepth 100000 in
theorem c_X3_fire (l : Launch) (D : va_G) (cI : ClassId) (b : Nat → Nat) (s : Nat) (θ τ ρ : (Nat → Nat → Int32)) (hs : s < 2) (N : Nat) (hW : wf τ N) : rMv l yX3_fire wsX3_fire rmX3_fire D cI b [.ref (b (3*s+2+0))] s θ τ ρ θ (fX3_fire τ) := by
  intro sz
  refine r_head (cc := cX3_fire) (maxL := 3) (ret := none) (plainFor_of_name (by decide)) rfl (Nat.le_of_ble_eq_true rfl) ?_
  intro p e S m below meth c hx hb hr hml hown hts hlocks hnm hsz hA hC ls hl
  have hF : CallFix p m c cX3_fire 3 S [.ref (b (3*s+2+0))].toArray wsX3_fire RX3 := ⟨hx, hb, hml, hown, hts⟩
  have h_f19 : (Cond.fieldLink RX3 19 "CombersSocietyModel$State" "coals" "I").before [.ref (b (3*s+2+0))].toArray S = true := hts _ (by decide +kernel)
  have h_iX3 : ∀ w ∈ u_ws RX3 TX3 12, w ∈ wsX3_fire := by decide +kernel
  have h_f25 : (Cond.fieldLink RX3 25 "CombersSocietyModel$State" "heat" "[I").before [.ref (b (3*s+2+0))].toArray S = true := hts _ (by decide +kernel)
  have h_ml74 : (Cond.methodLink RX3 74 Lib.Math.max.name).before [.ref (b (3*s+2+0))].toArray S = true := hts _ (by decide +kernel)
  have h_ms74 : (Cond.static Lib.Math.max.name).before [.ref (b (3*s+2+0))].toArray S = true := hts _ (by decide +kernel)
  have h_mini : (Cond.initialized "java/lang/Math").before [.ref (b (3*s+2+0))].toArray S = true := hts _ (by decide +kernel)
  have h_mc74 : (Cond.code Lib.Math.max.name Lib.Math.max.code 2 (some .int)).before [.ref (b (3*s+2+0))].toArray S = true := hts _ (by decide +kernel)
  have h_ml69 : (Cond.methodLink RX3 69 Lib.Math.min.name).before [.ref (b (3*s+2+0))].toArray S = true := hts _ (by decide +kernel)
  have h_ms69 : (Cond.static Lib.Math.min.name).before [.ref (b (3*s+2+0))].toArray S = true := hts _ (by decide +kernel)
  have h_mc69 : (Cond.code Lib.Math.min.name Lib.Math.min.code 2 (some .int)).before [.ref (b (3*s+2+0))].toArray S = true := hts _ (by decide +kernel)
  have hl : lv_has ls 3 [(0, .ref (b (3*s+2+0)))] := hl
  refine lv_iconst (v := 0) hx hb dX3_fire_0 (by decide) ?_
  refine lv_istore_n (lv' := [(1, .int (0 : Int32)), (0, .ref (b (3*s+2+0)))]) hx hb dX3_fire_1 rfl hl (by decide) rfl ?_
  clear hl; intro ls hl
  have loop1 : ∀ (n1x i1x : Nat) (σL1 : (Nat → Nat → Int32)), i1x + n1x = 3 → itR (fun i x => fX3_fire_b1 i x) i1x n1x σL1 = itR (fun i x => fX3_fire_b1 i x) 0 3 τ → wf σL1 N → ∀ (H : Heap) (locs : List Loc), rB D cI b S (rA b sz) S.heap H locs s θ σL1 ρ → ∀ ls : Array Slot, lv_has ls 3 [(1, .int (nI i1x)), (0, .ref (b (3*s+2+0)))] → W p l e (headSpec wsX3_fire rmX3_fire).room S m [.ref (b (3*s+2+0))].toArray below meth c H locs 0 0 (MQ below (va_Qv (fun (_ : Unit) => True) (rPost D cI b s θ (fX3_fire τ) ρ) (rA b sz)) [.ref (b (3*s+2+0))].toArray S 0 0 (rA b sz)) (F0 m 2 ls []) := by
    clear hC hl
    intro n1x
    induction n1x with
    | zero =>
      intro i1x σL1 hin1 hX1 hW1 H locs hC ls hl
      obtain rfl : 3 = i1x := by omega
      refine lv_iload_n hx hb dX3_fire_2 rfl (lv_at hl 0 rfl) ?_
      refine lv_iconst (v := 3) hx hb dX3_fire_3 (by decide) ?_
      refine lv_icmp_ge (tgt := 90) hx hb dX3_fire_4 (by decide) (fun c16 => ?_) (fun c16 => absurd (by decide) c16)
      have e : fX3_fire τ = σL1 := by exact ((congrArg (fun x => fX3_fire_k1 x) hX1.symm).trans rfl)
      exact r_vret hx hb hr hlocks hC dX3_fire_90 ⟨rfl, by rw [e]⟩
    | succ n1x ih1 =>
      intro i1x σL1 hin1 hX1 hW1 H locs hC ls hl
      refine lv_iload_n hx hb dX3_fire_2 rfl (lv_at hl 0 rfl) ?_
      refine lv_iconst (v := 3) hx hb dX3_fire_3 (by decide) ?_
      refine lv_icmp_ge (tgt := 90) hx hb dX3_fire_4 (by decide) (fun c1 => absurd c1 (show ¬ (3 : Int32) ≤ nI i1x from (nI_ge (a := i1x) (b := 3) (by omega) (by decide) : ¬ nI 3 ≤ nI i1x))) (fun c1 => ?_)
      refine lv_aload_n hx hb dX3_fire_7 rfl (lv_at hl 1 rfl) ?_
      refine lv_iload_n hx hb dX3_fire_8 rfl (lv_at hl 0 rfl) ?_
      refine r_iVp (n := 1) hF (c_X3_combers l D cI b s θ σL1 ρ hs (nI i1x) N hW1) gX3_fire_X3_combers rfl rfl rfl (by decide +kernel) ⟨Nat.le_of_ble_eq_true rfl, Nat.le_of_ble_eq_true rfl⟩ hC hA (hC.recvS hs) rfl hl.1 rfl (Nat.le_of_ble_eq_true rfl) dX3_fire_9 ⟨Nat.zero_le _, Nat.zero_le _⟩ ?_
      clear hC; intro H locs hC
      refine lv_if_le (tgt := 26) hx hb dX3_fire_12 (by decide) (fun c2 => ?_) (fun c2 => ?_)
      · refine lv_iconst (v := 0) hx hb dX3_fire_26 (by decide) ?_
        refine lv_istore_n (lv' := [(2, .int (0 : Int32)), (1, .int (nI i1x)), (0, .ref (b (3*s+2+0)))]) hx hb dX3_fire_27 rfl hl (by decide) rfl ?_
        clear hl; intro ls hl
        refine lv_aload_n hx hb dX3_fire_28 rfl (lv_at hl 2 rfl) ?_
        refine lv_dup hx hb dX3_fire_29 rfl ?_
        refine rg_s hx hb hts h_iX3 hown hC hs 3 (by decide) h_f19 dX3_fire_30 ?_
        refine lv_iload_n hx hb dX3_fire_33 rfl (lv_at hl 0 rfl) ?_
        refine lv_if_eq (tgt := 41) hx hb dX3_fire_34 (by decide) (fun c3 => ?_) (fun c3 => absurd (by decide) c3)
        refine lv_iconst (v := 0) hx hb dX3_fire_41 (by decide) ?_
        refine lv_isub hx hb dX3_fire_42 ?_
        refine rp_s hx hb hts h_iX3 hown hC hs 3 (by decide) h_f19 dX3_fire_43 ?_
        clear hC; intro H locs τ4 eτ4 hC
        have hwτ4 : wf τ4 N := by rw [← eτ4]; exact wf_up0 hW1 (by decide)
        refine lv_aload_n hx hb dX3_fire_46 rfl (lv_at hl 2 rfl) ?_
        refine rg_r hx hb hts h_iX3 hown hC hs 0 (by decide) h_f25 dX3_fire_47 ?_
        refine lv_iload_n hx hb dX3_fire_50 rfl (lv_at hl 1 rfl) ?_
        refine lv_iload_n hx hb dX3_fire_51 rfl (lv_at hl 0 rfl) ?_
        refine lv_if_eq (tgt := 71) hx hb dX3_fire_52 (by decide) (fun c5 => ?_) (fun c5 => absurd (by decide) c5)
        refine lv_iconst (v := 0) hx hb dX3_fire_71 (by decide) ?_
        refine lv_aload_n hx hb dX3_fire_72 rfl (lv_at hl 2 rfl) ?_
        refine rg_r hx hb hts h_iX3 hown hC hs 0 (by decide) h_f25 dX3_fire_73 ?_
        refine lv_iload_n hx hb dX3_fire_76 rfl (lv_at hl 1 rfl) ?_
        refine r_ild hx hb hC hs 1 (by decide) (by decide) (j := i1x) rfl (show _ < 3 by omega) dX3_fire_77 ?_
        refine lv_iconst (v := 2) hx hb dX3_fire_78 (by decide) ?_
        refine lv_isub hx hb dX3_fire_79 ?_
        refine c_mmax hx hb (hml.trans hl.1.symm) hown h_ml74 h_ms74 h_mini h_mc74 (Nat.le_of_ble_eq_true rfl) (Nat.le_of_ble_eq_true rfl) (Nat.zero_le _) (Nat.zero_le _) dX3_fire_80 ?_
        refine r_ist hx hb hC hs 1 (by decide) (by decide) (j := i1x) rfl (show _ < 3 by omega) dX3_fire_83 ?_
        clear hC; intro H locs τ6 eτ6 hC
        have hwτ6 : wf τ6 N := by rw [← eτ6]; exact wf_up1 hwτ4
        refine lv_iinc (v := (nI (i1x + 1))) (lv' := [(1, .int (nI (i1x + 1))), (2, .int (0 : Int32)), (0, .ref (b (3*s+2+0)))]) hx hb dX3_fire_84 hl (k := 1) rfl (nI_1 i1x) (by decide) rfl ?_
        clear hl; intro ls hl
        refine lv_goto (tgt := 2) hx hb dX3_fire_87 (by decide) ?_
        have e : fX3_fire_b1 i1x σL1 = τ6 := by subst eτ4 eτ6; exact ((if_pos c2).trans rfl)
        exact ih1 (i1x + 1) τ6 (by omega) (by rw [← e]; exact hX1) hwτ6 _ _ hC ls (lv_sub hl [0, 2] rfl)
      · refine lv_aload_n hx hb dX3_fire_15 rfl (lv_at hl 1 rfl) ?_
        refine rg_s hx hb hts h_iX3 hown hC hs 3 (by decide) h_f19 dX3_fire_16 ?_
        refine lv_if_le (tgt := 26) hx hb dX3_fire_19 (by decide) (fun c7 => ?_) (fun c7 => ?_)
        · refine lv_iconst (v := 0) hx hb dX3_fire_26 (by decide) ?_
          refine lv_istore_n (lv' := [(2, .int (0 : Int32)), (1, .int (nI i1x)), (0, .ref (b (3*s+2+0)))]) hx hb dX3_fire_27 rfl hl (by decide) rfl ?_
          clear hl; intro ls hl
          refine lv_aload_n hx hb dX3_fire_28 rfl (lv_at hl 2 rfl) ?_
          refine lv_dup hx hb dX3_fire_29 rfl ?_
          refine rg_s hx hb hts h_iX3 hown hC hs 3 (by decide) h_f19 dX3_fire_30 ?_
          refine lv_iload_n hx hb dX3_fire_33 rfl (lv_at hl 0 rfl) ?_
          refine lv_if_eq (tgt := 41) hx hb dX3_fire_34 (by decide) (fun c8 => ?_) (fun c8 => absurd (by decide) c8)
          refine lv_iconst (v := 0) hx hb dX3_fire_41 (by decide) ?_
          refine lv_isub hx hb dX3_fire_42 ?_
          refine rp_s hx hb hts h_iX3 hown hC hs 3 (by decide) h_f19 dX3_fire_43 ?_
          clear hC; intro H locs τ9 eτ9 hC
          have hwτ9 : wf τ9 N := by rw [← eτ9]; exact wf_up0 hW1 (by decide)
          refine lv_aload_n hx hb dX3_fire_46 rfl (lv_at hl 2 rfl) ?_
          refine rg_r hx hb hts h_iX3 hown hC hs 0 (by decide) h_f25 dX3_fire_47 ?_
          refine lv_iload_n hx hb dX3_fire_50 rfl (lv_at hl 1 rfl) ?_
          refine lv_iload_n hx hb dX3_fire_51 rfl (lv_at hl 0 rfl) ?_
          refine lv_if_eq (tgt := 71) hx hb dX3_fire_52 (by decide) (fun c10 => ?_) (fun c10 => absurd (by decide) c10)
          refine lv_iconst (v := 0) hx hb dX3_fire_71 (by decide) ?_
          refine lv_aload_n hx hb dX3_fire_72 rfl (lv_at hl 2 rfl) ?_
          refine rg_r hx hb hts h_iX3 hown hC hs 0 (by decide) h_f25 dX3_fire_73 ?_
          refine lv_iload_n hx hb dX3_fire_76 rfl (lv_at hl 1 rfl) ?_
          refine r_ild hx hb hC hs 1 (by decide) (by decide) (j := i1x) rfl (show _ < 3 by omega) dX3_fire_77 ?_
          refine lv_iconst (v := 2) hx hb dX3_fire_78 (by decide) ?_
          refine lv_isub hx hb dX3_fire_79 ?_
          refine c_mmax hx hb (hml.trans hl.1.symm) hown h_ml74 h_ms74 h_mini h_mc74 (Nat.le_of_ble_eq_true rfl) (Nat.le_of_ble_eq_true rfl) (Nat.zero_le _) (Nat.zero_le _) dX3_fire_80 ?_
          refine r_ist hx hb hC hs 1 (by decide) (by decide) (j := i1x) rfl (show _ < 3 by omega) dX3_fire_83 ?_
          clear hC; intro H locs τ11 eτ11 hC
          have hwτ11 : wf τ11 N := by rw [← eτ11]; exact wf_up1 hwτ9
          refine lv_iinc (v := (nI (i1x + 1))) (lv' := [(1, .int (nI (i1x + 1))), (2, .int (0 : Int32)), (0, .ref (b (3*s+2+0)))]) hx hb dX3_fire_84 hl (k := 1) rfl (nI_1 i1x) (by decide) rfl ?_
          clear hl; intro ls hl
          refine lv_goto (tgt := 2) hx hb dX3_fire_87 (by decide) ?_
          have e : fX3_fire_b1 i1x σL1 = τ11 := by subst eτ9 eτ11; exact ((if_neg c2).trans ((if_pos c7).trans rfl))
          exact ih1 (i1x + 1) τ11 (by omega) (by rw [← e]; exact hX1) hwτ11 _ _ hC ls (lv_sub hl [0, 2] rfl)
        · refine lv_iconst (v := 1) hx hb dX3_fire_22 (by decide) ?_
          refine lv_goto (tgt := 27) hx hb dX3_fire_23 (by decide) ?_
          refine lv_istore_n (lv' := [(2, .int (1 : Int32)), (1, .int (nI i1x)), (0, .ref (b (3*s+2+0)))]) hx hb dX3_fire_27 rfl hl (by decide) rfl ?_
          clear hl; intro ls hl
          refine lv_aload_n hx hb dX3_fire_28 rfl (lv_at hl 2 rfl) ?_
          refine lv_dup hx hb dX3_fire_29 rfl ?_
          refine rg_s hx hb hts h_iX3 hown hC hs 3 (by decide) h_f19 dX3_fire_30 ?_
          refine lv_iload_n hx hb dX3_fire_33 rfl (lv_at hl 0 rfl) ?_
          refine lv_if_eq (tgt := 41) hx hb dX3_fire_34 (by decide) (fun c12 => absurd c12 (by decide)) (fun c12 => ?_)
          refine lv_iconst (v := 1) hx hb dX3_fire_37 (by decide) ?_
          refine lv_goto (tgt := 42) hx hb dX3_fire_38 (by decide) ?_
          refine lv_isub hx hb dX3_fire_42 ?_
          refine rp_s hx hb hts h_iX3 hown hC hs 3 (by decide) h_f19 dX3_fire_43 ?_
          clear hC; intro H locs τ13 eτ13 hC
          have hwτ13 : wf τ13 N := by rw [← eτ13]; exact wf_up0 hW1 (by decide)
          refine lv_aload_n hx hb dX3_fire_46 rfl (lv_at hl 2 rfl) ?_
          refine rg_r hx hb hts h_iX3 hown hC hs 0 (by decide) h_f25 dX3_fire_47 ?_
          refine lv_iload_n hx hb dX3_fire_50 rfl (lv_at hl 1 rfl) ?_
          refine lv_iload_n hx hb dX3_fire_51 rfl (lv_at hl 0 rfl) ?_
          refine lv_if_eq (tgt := 71) hx hb dX3_fire_52 (by decide) (fun c14 => absurd c14 (by decide)) (fun c14 => ?_)
          refine lv_bipush (v := 9) hx hb dX3_fire_55 (by decide) ?_
          refine lv_aload_n hx hb dX3_fire_57 rfl (lv_at hl 2 rfl) ?_
          refine rg_r hx hb hts h_iX3 hown hC hs 0 (by decide) h_f25 dX3_fire_58 ?_
          refine lv_iload_n hx hb dX3_fire_61 rfl (lv_at hl 1 rfl) ?_
          refine r_ild hx hb hC hs 1 (by decide) (by decide) (j := i1x) rfl (show _ < 3 by omega) dX3_fire_62 ?_
          refine lv_iconst (v := 3) hx hb dX3_fire_63 (by decide) ?_
          refine lv_iadd hx hb dX3_fire_64 ?_
          refine c_mmin hx hb (hml.trans hl.1.symm) hown h_ml69 h_ms69 h_mini h_mc69 (Nat.le_of_ble_eq_true rfl) (Nat.le_of_ble_eq_true rfl) (Nat.zero_le _) (Nat.zero_le _) dX3_fire_65 ?_
          refine lv_goto (tgt := 83) hx hb dX3_fire_68 (by decide) ?_
          refine r_ist hx hb hC hs 1 (by decide) (by decide) (j := i1x) rfl (show _ < 3 by omega) dX3_fire_83 ?_
          clear hC; intro H locs τ15 eτ15 hC
          have hwτ15 : wf τ15 N := by rw [← eτ15]; exact wf_up1 hwτ13
          refine lv_iinc (v := (nI (i1x + 1))) (lv' := [(1, .int (nI (i1x + 1))), (2, .int (1 : Int32)), (0, .ref (b (3*s+2+0)))]) hx hb dX3_fire_84 hl (k := 1) rfl (nI_1 i1x) (by decide) rfl ?_
          clear hl; intro ls hl
          refine lv_goto (tgt := 2) hx hb dX3_fire_87 (by decide) ?_
          have e : fX3_fire_b1 i1x σL1 = τ15 := by subst eτ13 eτ15; exact ((if_neg c2).trans ((if_neg c7).trans rfl))
          exact ih1 (i1x + 1) τ15 (by omega) (by rw [← e]; exact hX1) hwτ15 _ _ hC ls (lv_sub hl [0, 2] rfl)
  exact loop1 3 0 τ (by omega) rfl hW _ _ hC ls (lv_sub hl [0, 1] rfl)
abbrev rmX3_pounds : Room := { frames := 3, cells := 0, slots := 0, locals := 66 }
def fX3_pounds (τ : (Nat → Nat → Int32)) (p0 : Int32) : Int32 :=
    (mxI (0 : Int32) (((fX3_of τ p0 (0 : Int32)) + (τ 1 ((fX3_of τ p0 (5 : Int32))).toNatClampNeg)) - ((2 : Int32) * (mxI (0 : Int32) ((fX3_combers τ (fX3_of τ p0 (5 : Int32))) - (2 : Int32))))))
set_option maxHeartbeats 400000 in
set_option maxRecDepth 100000 in
theorem c_X3_pounds (l : Launch) (D : va_G) (cI : ClassId) (b : Nat → Nat) (s : Nat) (θ τ ρ : (Nat → Nat → Int32)) (hs : s < 2) (p0 : Int32) (hx0 : Ix p0 12) (N : Nat) (hW : wf τ N) (hAT : Ix (fX3_of τ p0 (5 : Int32)) 3) : rMi l yX3_pounds wsX3_pounds rmX3_pounds D cI b [.ref (b (3*s+2+0)), .int p0] s θ τ ρ (fX3_pounds τ p0) θ τ := by
  intro sz
  refine r_head (cc := cX3_pounds) (maxL := 3) (ret := (some .int)) (plainFor_of_name (by decide)) rfl (Nat.le_of_ble_eq_true rfl) ?_
  intro p e S m below meth c hx hb hr hml hown hts hlocks hnm hsz hA hC ls hl
  have hF : CallFix p m c cX3_pounds 3 S [.ref (b (3*s+2+0)), .int p0].toArray wsX3_pounds RX3 := ⟨hx, hb, hml, hown, hts⟩
  have h_f25 : (Cond.fieldLink RX3 25 "CombersSocietyModel$State" "heat" "[I").before [.ref (b (3*s+2+0)), .int p0].toArray S = true := hts _ (by decide +kernel)
  have h_iX3 : ∀ w ∈ u_ws RX3 TX3 12, w ∈ wsX3_pounds := by decide +kernel
  have h_ml74 : (Cond.methodLink RX3 74 Lib.Math.max.name).before [.ref (b (3*s+2+0)), .int p0].toArray S = true := hts _ (by decide +kernel)
  have h_ms74 : (Cond.static Lib.Math.max.name).before [.ref (b (3*s+2+0)), .int p0].toArray S = true := hts _ (by decide +kernel)
  have h_mini : (Cond.initialized "java/lang/Math").before [.ref (b (3*s+2+0)), .int p0].toArray S = true := hts _ (by decide +kernel)
  have h_mc74 : (Cond.code Lib.Math.max.name Lib.Math.max.code 2 (some .int)).before [.ref (b (3*s+2+0)), .int p0].toArray S = true := hts _ (by decide +kernel)
  have hl : lv_has ls 3 [(0, .ref (b (3*s+2+0))), (1, .int p0)] := hl
  refine lv_aload_n hx hb dX3_pounds_0 rfl (lv_at hl 0 rfl) ?_
  refine lv_iload_n hx hb dX3_pounds_1 rfl (lv_at hl 1 rfl) ?_
  refine lv_iconst (v := 5) hx hb dX3_pounds_2 (by decide) ?_
  refine r_iVp (n := 2) hF (c_X3_of l D cI b s θ τ ρ hs p0 (5 : Int32) hx0 ⟨5, by decide, rfl⟩) gX3_pounds_X3_of rfl rfl rfl (by decide +kernel) ⟨Nat.le_of_ble_eq_true rfl, Nat.le_of_ble_eq_true rfl⟩ hC hA (hC.recvS hs) rfl hl.1 rfl (Nat.le_of_ble_eq_true rfl) dX3_pounds_3 ⟨Nat.zero_le _, Nat.zero_le _⟩ ?_
  clear hC; intro H locs hC
  refine lv_istore_n (lv' := [(2, .int (fX3_of τ p0 (5 : Int32))), (0, .ref (b (3*s+2+0))), (1, .int p0)]) hx hb dX3_pounds_6 rfl hl (by decide) rfl ?_
  clear hl; intro ls hl
  refine lv_iconst (v := 0) hx hb dX3_pounds_7 (by decide) ?_
  refine lv_aload_n hx hb dX3_pounds_8 rfl (lv_at hl 1 rfl) ?_
  refine lv_iload_n hx hb dX3_pounds_9 rfl (lv_at hl 2 rfl) ?_
  refine lv_iconst (v := 0) hx hb dX3_pounds_10 (by decide) ?_
  refine r_iVp (n := 2) hF (c_X3_of l D cI b s θ τ ρ hs p0 (0 : Int32) hx0 ⟨0, by decide, rfl⟩) gX3_pounds_X3_of rfl rfl rfl (by decide +kernel) ⟨Nat.le_of_ble_eq_true rfl, Nat.le_of_ble_eq_true rfl⟩ hC hA (hC.recvS hs) rfl hl.1 rfl (Nat.le_of_ble_eq_true rfl) dX3_pounds_11 ⟨Nat.zero_le _, Nat.zero_le _⟩ ?_
  clear hC; intro H locs hC
  refine lv_aload_n hx hb dX3_pounds_14 rfl (lv_at hl 1 rfl) ?_
  refine rg_r hx hb hts h_iX3 hown hC hs 0 (by decide) h_f25 dX3_pounds_15 ?_
  refine lv_iload_n hx hb dX3_pounds_18 rfl (lv_at hl 0 rfl) ?_
  refine r_ild hx hb hC hs 1 (by decide) (by decide) (j := ((fX3_of τ p0 (5 : Int32))).toNatClampNeg) (ixt hAT (by decide)).1 (ixt hAT (by decide)).2 dX3_pounds_19 ?_
  refine lv_iadd hx hb dX3_pounds_20 ?_
  refine lv_iconst (v := 2) hx hb dX3_pounds_21 (by decide) ?_
  refine lv_iconst (v := 0) hx hb dX3_pounds_22 (by decide) ?_
  refine lv_aload_n hx hb dX3_pounds_23 rfl (lv_at hl 1 rfl) ?_
  refine lv_iload_n hx hb dX3_pounds_24 rfl (lv_at hl 0 rfl) ?_
  refine r_iVp (n := 1) hF (c_X3_combers l D cI b s θ τ ρ hs (fX3_of τ p0 (5 : Int32)) N hW) gX3_pounds_X3_combers rfl rfl rfl (by decide +kernel) ⟨Nat.le_of_ble_eq_true rfl, Nat.le_of_ble_eq_true rfl⟩ hC hA (hC.recvS hs) rfl hl.1 rfl (Nat.le_of_ble_eq_true rfl) dX3_pounds_25 ⟨Nat.zero_le _, Nat.zero_le _⟩ ?_
  clear hC; intro H locs hC
  refine lv_iconst (v := 2) hx hb dX3_pounds_28 (by decide) ?_
  refine lv_isub hx hb dX3_pounds_29 ?_
  refine c_mmax hx hb (hml.trans hl.1.symm) hown h_ml74 h_ms74 h_mini h_mc74 (Nat.le_of_ble_eq_true rfl) (Nat.le_of_ble_eq_true rfl) (Nat.zero_le _) (Nat.zero_le _) dX3_pounds_30 ?_
  refine lv_imul hx hb dX3_pounds_33 ?_
  refine lv_isub hx hb dX3_pounds_34 ?_
  refine c_mmax hx hb (hml.trans hl.1.symm) hown h_ml74 h_ms74 h_mini h_mc74 (Nat.le_of_ble_eq_true rfl) (Nat.le_of_ble_eq_true rfl) (Nat.zero_le _) (Nat.zero_le _) dX3_pounds_35 ?_
  have e : fX3_pounds τ p0 = (mxI (0 : Int32) (((fX3_of τ p0 (0 : Int32)) + (τ 1 ((fX3_of τ p0 (5 : Int32))).toNatClampNeg)) - ((2 : Int32) * (mxI (0 : Int32) ((fX3_combers τ (fX3_of τ p0 (5 : Int32))) - (2 : Int32)))))) := by exact rfl
  exact r_iret hx hb hr hlocks hC dX3_pounds_38 ⟨by rw [e], rfl, rfl⟩
abbrev rmX3_become : Room := { frames := 1, cells := 0, slots := 0, locals := 32 }
def fX3_become (τ : (Nat → Nat → Int32)) (ρ : (Nat → Nat → Int32)) : (Nat → Nat → Int32) :=
    let τ1 : (Nat → Nat → Int32) := up2 τ 0 0 (ρ 0 0)
    let τ2 : (Nat → Nat → Int32) := up2 τ1 0 1 (ρ 0 1)
    let τ3 : (Nat → Nat → Int32) := up2 τ2 0 2 (ρ 0 2)
    let τ4 : (Nat → Nat → Int32) := up2 τ3 0 3 (ρ 0 3)
    let τ5 : (Nat → Nat → Int32) := up2 τ4 0 4 (ρ 0 4)
    let τ6 : (Nat → Nat → Int32) := up2 τ5 0 5 (ρ 0 5)
    let τ7 : (Nat → Nat → Int32) := up2 τ6 0 6 (ρ 0 6)
    let τ8 : (Nat → Nat → Int32) := up2 τ7 0 7 (ρ 0 7)
    let τ9 : (Nat → Nat → Int32) := up2 τ8 0 8 (0 : Int32)
    let τ10 : (Nat → Nat → Int32) := rowC τ9 ρ 1 3
    let τ11 : (Nat → Nat → Int32) := rowC τ10 ρ 2 108
    τ11
set_option maxHeartbeats 400000 in
set_option maxRecDepth 100000 in
theorem c_X3_become (l : Launch) (D : va_G) (cI : ClassId) (b : Nat → Nat) (s : Nat) (θ τ ρ : (Nat → Nat → Int32)) (hs : s < 2)  : rMv l yX3_become wsX3_become rmX3_become D cI b [.ref (b (3*s+2+0)), .ref (b (3*(1-s)+2+0))] s θ τ ρ θ (fX3_become τ ρ) := by
  intro sz
  refine r_head (cc := cX3_become) (maxL := 2) (ret := none) (plainFor_of_name (by decide)) rfl (Nat.le_of_ble_eq_true rfl) ?_
  intro p e S m below meth c hx hb hr hml hown hts hlocks hnm hsz hA hC ls hl
  have h_f32 : (Cond.fieldLink RX3 32 "CombersSocietyModel$State" "week" "I").before [.ref (b (3*s+2+0)), .ref (b (3*(1-s)+2+0))].toArray S = true := hts _ (by decide +kernel)
  have h_iX3 : ∀ w ∈ u_ws RX3 TX3 12, w ∈ wsX3_become := by decide +kernel
  have h_f35 : (Cond.fieldLink RX3 35 "CombersSocietyModel$State" "members" "I").before [.ref (b (3*s+2+0)), .ref (b (3*(1-s)+2+0))].toArray S = true := hts _ (by decide +kernel)
  have h_f15 : (Cond.fieldLink RX3 15 "CombersSocietyModel$State" "box" "I").before [.ref (b (3*s+2+0)), .ref (b (3*(1-s)+2+0))].toArray S = true := hts _ (by decide +kernel)
  have h_f19 : (Cond.fieldLink RX3 19 "CombersSocietyModel$State" "coals" "I").before [.ref (b (3*s+2+0)), .ref (b (3*(1-s)+2+0))].toArray S = true := hts _ (by decide +kernel)
  have h_f22 : (Cond.fieldLink RX3 22 "CombersSocietyModel$State" "wool" "I").before [.ref (b (3*s+2+0)), .ref (b (3*(1-s)+2+0))].toArray S = true := hts _ (by decide +kernel)
  have h_f38 : (Cond.fieldLink RX3 38 "CombersSocietyModel$State" "tops" "I").before [.ref (b (3*s+2+0)), .ref (b (3*(1-s)+2+0))].toArray S = true := hts _ (by decide +kernel)
  have h_f41 : (Cond.fieldLink RX3 41 "CombersSocietyModel$State" "nursed" "I").before [.ref (b (3*s+2+0)), .ref (b (3*(1-s)+2+0))].toArray S = true := hts _ (by decide +kernel)
  have h_f44 : (Cond.fieldLink RX3 44 "CombersSocietyModel$State" "buried" "I").before [.ref (b (3*s+2+0)), .ref (b (3*(1-s)+2+0))].toArray S = true := hts _ (by decide +kernel)
  have h_f47 : (Cond.fieldLink RX3 47 "CombersSocietyModel$State" "isShort" "Z").before [.ref (b (3*s+2+0)), .ref (b (3*(1-s)+2+0))].toArray S = true := hts _ (by decide +kernel)
  have h_f25 : (Cond.fieldLink RX3 25 "CombersSocietyModel$State" "heat" "[I").before [.ref (b (3*s+2+0)), .ref (b (3*(1-s)+2+0))].toArray S = true := hts _ (by decide +kernel)
  have h_acl : (Cond.methodLink RX3 51 arraycopyName).before [.ref (b (3*s+2+0)), .ref (b (3*(1-s)+2+0))].toArray S = true := hts _ (by decide +kernel)
  have h_acn : (Cond.native arraycopyName).before [.ref (b (3*s+2+0)), .ref (b (3*(1-s)+2+0))].toArray S = true := hts _ (by decide +kernel)
  have h_acs : (Cond.static arraycopyName).before [.ref (b (3*s+2+0)), .ref (b (3*(1-s)+2+0))].toArray S = true := hts _ (by decide +kernel)
  have h_aci : (Cond.initialized "java/lang/System").before [.ref (b (3*s+2+0)), .ref (b (3*(1-s)+2+0))].toArray S = true := hts _ (by decide +kernel)
  have h_f29 : (Cond.fieldLink RX3 29 "CombersSocietyModel$State" "rows" "[I").before [.ref (b (3*s+2+0)), .ref (b (3*(1-s)+2+0))].toArray S = true := hts _ (by decide +kernel)
  have hl : lv_has ls 2 [(0, .ref (b (3*s+2+0))), (1, .ref (b (3*(1-s)+2+0)))] := hl
  refine lv_aload_n hx hb dX3_become_0 rfl (lv_at hl 0 rfl) ?_
  refine lv_aload_n hx hb dX3_become_1 rfl (lv_at hl 1 rfl) ?_
  refine rg_s hx hb hts h_iX3 hown (hC.sw hs) (by omega) 0 (by decide) h_f32 dX3_become_2 ?_
  refine rp_s hx hb hts h_iX3 hown hC hs 0 (by decide) h_f32 dX3_become_5 ?_
  clear hC; intro H locs τ1 eτ1 hC
  refine lv_aload_n hx hb dX3_become_8 rfl (lv_at hl 0 rfl) ?_
  refine lv_aload_n hx hb dX3_become_9 rfl (lv_at hl 1 rfl) ?_
  refine rg_s hx hb hts h_iX3 hown (hC.sw hs) (by omega) 1 (by decide) h_f35 dX3_become_10 ?_
  refine rp_s hx hb hts h_iX3 hown hC hs 1 (by decide) h_f35 dX3_become_13 ?_
  clear hC; intro H locs τ2 eτ2 hC
  refine lv_aload_n hx hb dX3_become_16 rfl (lv_at hl 0 rfl) ?_
  refine lv_aload_n hx hb dX3_become_17 rfl (lv_at hl 1 rfl) ?_
  refine rg_s hx hb hts h_iX3 hown (hC.sw hs) (by omega) 2 (by decide) h_f15 dX3_become_18 ?_
  refine rp_s hx hb hts h_iX3 hown hC hs 2 (by decide) h_f15 dX3_become_21 ?_
  clear hC; intro H locs τ3 eτ3 hC
  refine lv_aload_n hx hb dX3_become_24 rfl (lv_at hl 0 rfl) ?_
  refine lv_aload_n hx hb dX3_become_25 rfl (lv_at hl 1 rfl) ?_
  refine rg_s hx hb hts h_iX3 hown (hC.sw hs) (by omega) 3 (by decide) h_f19 dX3_become_26 ?_
  refine rp_s hx hb hts h_iX3 hown hC hs 3 (by decide) h_f19 dX3_become_29 ?_
  clear hC; intro H locs τ4 eτ4 hC
  refine lv_aload_n hx hb dX3_become_32 rfl (lv_at hl 0 rfl) ?_
  refine lv_aload_n hx hb dX3_become_33 rfl (lv_at hl 1 rfl) ?_
  refine rg_s hx hb hts h_iX3 hown (hC.sw hs) (by omega) 4 (by decide) h_f22 dX3_become_34 ?_
  refine rp_s hx hb hts h_iX3 hown hC hs 4 (by decide) h_f22 dX3_become_37 ?_
  clear hC; intro H locs τ5 eτ5 hC
  refine lv_aload_n hx hb dX3_become_40 rfl (lv_at hl 0 rfl) ?_
  refine lv_aload_n hx hb dX3_become_41 rfl (lv_at hl 1 rfl) ?_
  refine rg_s hx hb hts h_iX3 hown (hC.sw hs) (by omega) 5 (by decide) h_f38 dX3_become_42 ?_
  refine rp_s hx hb hts h_iX3 hown hC hs 5 (by decide) h_f38 dX3_become_45 ?_
  clear hC; intro H locs τ6 eτ6 hC
  refine lv_aload_n hx hb dX3_become_48 rfl (lv_at hl 0 rfl) ?_
  refine lv_aload_n hx hb dX3_become_49 rfl (lv_at hl 1 rfl) ?_
  refine rg_s hx hb hts h_iX3 hown (hC.sw hs) (by omega) 6 (by decide) h_f41 dX3_become_50 ?_
  refine rp_s hx hb hts h_iX3 hown hC hs 6 (by decide) h_f41 dX3_become_53 ?_
  clear hC; intro H locs τ7 eτ7 hC
  refine lv_aload_n hx hb dX3_become_56 rfl (lv_at hl 0 rfl) ?_
  refine lv_aload_n hx hb dX3_become_57 rfl (lv_at hl 1 rfl) ?_
  refine rg_s hx hb hts h_iX3 hown (hC.sw hs) (by omega) 7 (by decide) h_f44 dX3_become_58 ?_
  refine rp_s hx hb hts h_iX3 hown hC hs 7 (by decide) h_f44 dX3_become_61 ?_
  clear hC; intro H locs τ8 eτ8 hC
  refine lv_aload_n hx hb dX3_become_64 rfl (lv_at hl 0 rfl) ?_
  refine lv_iconst (v := 0) hx hb dX3_become_65 (by decide) ?_
  refine rp_sb hx hb hts h_iX3 hown hC hs (Or.inl rfl) h_f47 dX3_become_66 ?_
  clear hC; intro H locs τ9 eτ9 hC
  refine lv_aload_n hx hb dX3_become_69 rfl (lv_at hl 1 rfl) ?_
  refine rg_r hx hb hts h_iX3 hown (hC.sw hs) (by omega) 0 (by decide) h_f25 dX3_become_70 ?_
  refine lv_iconst (v := 0) hx hb dX3_become_73 (by decide) ?_
  refine lv_aload_n hx hb dX3_become_74 rfl (lv_at hl 0 rfl) ?_
  refine rg_r hx hb hts h_iX3 hown hC hs 0 (by decide) h_f25 dX3_become_75 ?_
  refine lv_iconst (v := 0) hx hb dX3_become_78 (by decide) ?_
  refine lv_iconst (v := 3) hx hb dX3_become_79 (by decide) ?_
  refine r_acp hx hb (hml.trans hl.1.symm) hown h_acl h_acn h_acs h_aci hC hs 1 3 (by decide) (Nat.le_of_ble_eq_true rfl) (Nat.le_of_ble_eq_true rfl) dX3_become_80 ?_
  clear hC; intro H locs τ10 eτ10 hC
  refine lv_aload_n hx hb dX3_become_83 rfl (lv_at hl 1 rfl) ?_
  refine rg_r hx hb hts h_iX3 hown (hC.sw hs) (by omega) 1 (by decide) h_f29 dX3_become_84 ?_
  refine lv_iconst (v := 0) hx hb dX3_become_87 (by decide) ?_
  refine lv_aload_n hx hb dX3_become_88 rfl (lv_at hl 0 rfl) ?_
  refine rg_r hx hb hts h_iX3 hown hC hs 1 (by decide) h_f29 dX3_become_89 ?_
  refine lv_iconst (v := 0) hx hb dX3_become_92 (by decide) ?_
  refine lv_aload_n hx hb dX3_become_93 rfl (lv_at hl 0 rfl) ?_
  refine rg_r hx hb hts h_iX3 hown hC hs 1 (by decide) h_f29 dX3_become_94 ?_
  refine r_rlen hx hb hC hs dX3_become_97 ?_
  refine r_acp hx hb (hml.trans hl.1.symm) hown h_acl h_acn h_acs h_aci hC hs 2 108 (by decide) (Nat.le_of_ble_eq_true rfl) (Nat.le_of_ble_eq_true rfl) dX3_become_98 ?_
  clear hC; intro H locs τ11 eτ11 hC
  have e : fX3_become τ ρ = τ11 := by subst eτ1 eτ2 eτ3 eτ4 eτ5 eτ6 eτ7 eτ8 eτ9 eτ10 eτ11; exact rfl
  exact r_vret hx hb hr hlocks hC dX3_become_101 ⟨rfl, by rw [e]⟩
