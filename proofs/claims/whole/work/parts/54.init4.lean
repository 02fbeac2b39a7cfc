/-! CombersSocietyModel() -/
def fvI : Nat → Nat → Int32
  | 0 => fAll 0
  | n+1 => upd (fvI n) n (-1)
theorem fvI_8 : ∀ j, j < 8 → fvI 8 j = -1 := by decide +kernel
/-- the numbers of a model just made -/
def thI : Mm := fun r => match r with
  | 0 => fun f => match f with
    | 1 => 1
    | _ => 0
  | 1 => fvI 8
  | _ => fun _ => 0
def tauI : Mm := fun r => match r with
  | 0 => fun f => match f with
    | 2 => 60
    | 3 => 30
    | 4 => 200
    | _ => 0
  | _ => fun _ => 0
def bAd (h0 q1 a a1 a2 b b1 b2 : Nat) : Nat → Nat := fun k => match k with
  | 0 => h0
  | 1 => q1
  | 2 => a
  | 3 => a1
  | 4 => a2
  | 5 => b
  | 6 => b1
  | _ => b2
def mPost (D : va_G) (A : Nat → Prop) : (Nat → Nat) → State → Prop := fun u U => ∃ cI, va_K D vwCl (rTys cI) U ∧ va_P D vwCl (rW cI u 0 thI tauI tauI) U.heap ∧ va_D A (rW cI u 0 thI tauI tauI)
theorem bAd_get {cI : ClassId} {h0 q1 a a1 a2 b b1 b2 : Nat} (k : Nat) (x : Nat × va_E) (hx : (rW cI (bAd h0 q1 a a1 a2 b b1 b2) 0 thI tauI tauI)[k]? = some x) : (([(h0, .inr (4, [.int 0, .int 1, .ref q1, .ref a, .ref b])), (q1, .inl (cI, 8, .inl (fvI 8)))] ++ sW cI a h0 a1 a2) ++ sW cI b h0 b1 b2 : va_W)[k]? = some x := by
  obtain ⟨hk, rfl⟩ := gws_inv hx
  rcases (show k = 0 ∨ k = 1 ∨ k = 2 ∨ k = 3 ∨ k = 4 ∨ k = 5 ∨ k = 6 ∨ k = 7 by omega) with rfl | rfl | rfl | rfl | rfl | rfl | rfl | rfl <;> rfl
abbrev md00 : List Value := [.int 0, .int 0, .null, .null, .null]
def nPreN (D : va_G) (tys : List (ClassId × FieldType)) (w : va_W) (sz : Nat) : State → Prop := fun U => nPre D tys w sz U ∧ rNw U
theorem nPreN.blind {D : va_G} {tys : List (ClassId × FieldType)} {w : va_W} {sz : Nat} {av : List Value} : FrameBlind (va_Pc av (nPreN D tys w sz)) := fun v U g mk q => by
  obtain ⟨q0, q1, qN⟩ := q
  have h := nPre.blind (D := D) (tys := tys) (w := w) (sz := sz) (av := av) v U g mk ⟨q0, q1⟩
  exact ⟨h.1, h.2, qN.calling⟩
theorem nPreN.at {D : va_G} {tys : List (ClassId × FieldType)} {w : va_W} {S : State} {A : Nat → Prop} {H : Heap} (hK : va_K D vwCl tys S) (hP : va_P D vwCl w H) (hD : va_D A w) (hN : rNw S) (av : List Value) : ∀ U : State, U.heap = H → S.WarmedH U.vm → va_Pc av (nPreN D tys w H.size) av.toArray U := by
  intro U hU hW
  have h := nPre.at hK hP hD av U hU hW
  exact ⟨h.1, h.2, hN.moved hW⟩
set_option maxHeartbeats 4000000 in
set_option maxRecDepth 100000 in
theorem i_X4 (l : Launch) (D : va_G) (h0 sz : Nat) : Met l yX4_init wsX4_init { frames := 2, cells := 7, slots := 254, locals := 33 } (va_Pc [.ref h0] (nPreN D [] [(h0, .inr (4, md00))] sz)) (va_Qv (fun u : Nat → Nat => u 0 = h0) (mPost D (va_A [(h0, .inr (4, md00))] sz)) (va_A [(h0, .inr (4, md00))] sz)) 7 254 (va_A [(h0, .inr (4, md00))] sz) := by
  refine Met.ofW (cc := cX4_init) (maxL := 1) (ret := none) (by decide) rfl ?_
  intro p e s m args below meth c s₁ B hml hv
  obtain ⟨rfl, ⟨hsz, hP, hK, hD0⟩, hN⟩ := hv
  have hx := B.exec
  have hb := B.bytes
  have hr := B.returns
  have hts := atoms_spec (ws := wsX4_init) B.pre
  have hown : s.vm.findClass RX4 = some m.cls := findClass_of_methodNamed B.named
  have hin : meth.name = "<init>" := (name_of_methodNamed B.named B.method).1
  subst hsz
  have hD := hD0.self (sz := s.heap.size)
  generalize hAe : va_A [(h0, .inr (4, md00))] s.heap.size = A at hD ⊢
  have hA : ∀ q : Nat, s.heap.size ≤ q → A q := fun q h => by rw [← hAe]; exact Or.inr h
  have hS : va_S A s.heap s.heap [] := va_S.rf
  have hl := lv_entry ([.ref h0]) (n := 1) (Nat.le_of_ble_eq_true rfl)
  rw [lg_entry_eq]
  generalize (lg_sl ([.ref h0]) ++ List.replicate (1 - (lg_sl ([.ref h0])).length) Slot.unset).toArray = ls at hl ⊢
  have hl : lv_has ls 1 [(0, .ref h0)] := hl
  have h_iX4 : ∀ w ∈ u_ws RX4 TX4 5, w ∈ wsX4_init := by decide +kernel
  have h_iX3 : ∀ w ∈ u_ws RX3 TX3 12, w ∈ wsX4_init := by decide +kernel
  have hfs : ∀ j, j < 12 → defaultValue (tyX3 j) = vp_V st00 j := fun j hj => by rcases (show j = 0 ∨ j = 1 ∨ j = 2 ∨ j = 3 ∨ j = 4 ∨ j = 5 ∨ j = 6 ∨ j = 7 ∨ j = 8 ∨ j = 9 ∨ j = 10 ∨ j = 11 by omega) with rfl | rfl | rfl | rfl | rfl | rfl | rfl | rfl | rfl | rfl | rfl | rfl <;> rfl
  refine lv_aload_n hx hb dX4_init_0 rfl (lv_at hl 0 rfl) ?_
  refine W.objInit hx hb hown (hts (.methodLink RX4 1 objectInit) (by decide +kernel)) (hts (.instanceMethod objectInit) (by decide +kernel)) (hts _ (List.mem_cons_of_mem _ (List.mem_append_left _ (List.mem_append_left _ (List.mem_of_getElem? (i := 2) rfl))))) rfl (by rw [hml]; exact hl.1) rfl dX4_init_1 (Nat.le_of_ble_eq_true rfl) (Nat.le_of_ble_eq_true rfl) ?_
  refine W.eq (g2 := F0 m 4 ls []) rfl ?_
  refine lv_aload_n hx hb dX4_init_4 rfl (lv_at hl 0 rfl) ?_
  refine lv_iconst (v := 1) hx hb dX4_init_5 (by decide) ?_
  refine va_put (D := D) (ci := 4) (v := .int 1) (ty := .int) (C := RX4) (T := TX4) (N := 5) hx hb hts h_iX4 tyX4 tyX4_ok nmX4 hown hK hP hD hS 0 rfl rfl 1 (by decide) (hts (.fieldLink RX4 7 "CombersSocietyModel" "dues" "I") (by decide +kernel)) (fun x hx => hx) rfl (tyX4_ok 1 (by decide)) rfl rfl (Nat.le_of_ble_eq_true rfl) dX4_init_6 (fun H locs hP hD hS => ?_)
  refine lv_aload_n hx hb dX4_init_9 rfl (lv_at hl 0 rfl) ?_
  refine lv_bipush (v := 8) hx hb dX4_init_10 (by decide) ?_
  refine va_newa (atype := .int) (ty := .int) (N' := 8) (a0 := (8, .inl (fAll 0))) hx hb (hts (.arrayClass .int) (by decide +kernel)) rfl hK hP hD hS hA (fun cA => rfl) (by decide) rfl (by decide) (by show 0 + 1 ≤ 7; decide) (by show 0 + 8 ≤ 254; decide) dX4_init_12 (fun q1 cI H hK hP hD hS => ?_)
  have hK : va_K D vwCl [(cI, .int)] s := hK
  have hP : va_P D vwCl ([(h0, .inr (4, [.int 0, .int 1, .null, .null, .null])), (q1, .inl (cI, 8, .inl (fvI 0)))]) H := hP
  have hD : va_D A ([(h0, .inr (4, [.int 0, .int 1, .null, .null, .null])), (q1, .inl (cI, 8, .inl (fvI 0)))]) := hD
  refine lv_dup hx hb dX4_init_14 rfl ?_
  refine lv_iconst (v := 0) hx hb dX4_init_15 (by decide) ?_
  refine lv_iconst (v := -1) hx hb dX4_init_16 (by decide) ?_
  refine va_iast (D := D) hx hb hK hP hD hS 1 0 rfl rfl (vp_in_nI (n := 0) (N := 8) (by decide) (by decide)) dX4_init_17 (fun H locs hP hD hS => ?_)
  have hP : va_P D vwCl ([(h0, .inr (4, [.int 0, .int 1, .null, .null, .null])), (q1, .inl (cI, 8, .inl (fvI 1)))]) H := hP
  have hD : va_D A ([(h0, .inr (4, [.int 0, .int 1, .null, .null, .null])), (q1, .inl (cI, 8, .inl (fvI 1)))]) := hD
  refine lv_dup hx hb dX4_init_18 rfl ?_
  refine lv_iconst (v := 1) hx hb dX4_init_19 (by decide) ?_
  refine lv_iconst (v := -1) hx hb dX4_init_20 (by decide) ?_
  refine va_iast (D := D) hx hb hK hP hD hS 1 0 rfl rfl (vp_in_nI (n := 1) (N := 8) (by decide) (by decide)) dX4_init_21 (fun H locs hP hD hS => ?_)
  have hP : va_P D vwCl ([(h0, .inr (4, [.int 0, .int 1, .null, .null, .null])), (q1, .inl (cI, 8, .inl (fvI 2)))]) H := hP
  have hD : va_D A ([(h0, .inr (4, [.int 0, .int 1, .null, .null, .null])), (q1, .inl (cI, 8, .inl (fvI 2)))]) := hD
  refine lv_dup hx hb dX4_init_22 rfl ?_
  refine lv_iconst (v := 2) hx hb dX4_init_23 (by decide) ?_
  refine lv_iconst (v := -1) hx hb dX4_init_24 (by decide) ?_
  refine va_iast (D := D) hx hb hK hP hD hS 1 0 rfl rfl (vp_in_nI (n := 2) (N := 8) (by decide) (by decide)) dX4_init_25 (fun H locs hP hD hS => ?_)
  have hP : va_P D vwCl ([(h0, .inr (4, [.int 0, .int 1, .null, .null, .null])), (q1, .inl (cI, 8, .inl (fvI 3)))]) H := hP
  have hD : va_D A ([(h0, .inr (4, [.int 0, .int 1, .null, .null, .null])), (q1, .inl (cI, 8, .inl (fvI 3)))]) := hD
  refine lv_dup hx hb dX4_init_26 rfl ?_
  refine lv_iconst (v := 3) hx hb dX4_init_27 (by decide) ?_
  refine lv_iconst (v := -1) hx hb dX4_init_28 (by decide) ?_
  refine va_iast (D := D) hx hb hK hP hD hS 1 0 rfl rfl (vp_in_nI (n := 3) (N := 8) (by decide) (by decide)) dX4_init_29 (fun H locs hP hD hS => ?_)
  have hP : va_P D vwCl ([(h0, .inr (4, [.int 0, .int 1, .null, .null, .null])), (q1, .inl (cI, 8, .inl (fvI 4)))]) H := hP
  have hD : va_D A ([(h0, .inr (4, [.int 0, .int 1, .null, .null, .null])), (q1, .inl (cI, 8, .inl (fvI 4)))]) := hD
  refine lv_dup hx hb dX4_init_30 rfl ?_
  refine lv_iconst (v := 4) hx hb dX4_init_31 (by decide) ?_
  refine lv_iconst (v := -1) hx hb dX4_init_32 (by decide) ?_
  refine va_iast (D := D) hx hb hK hP hD hS 1 0 rfl rfl (vp_in_nI (n := 4) (N := 8) (by decide) (by decide)) dX4_init_33 (fun H locs hP hD hS => ?_)
  have hP : va_P D vwCl ([(h0, .inr (4, [.int 0, .int 1, .null, .null, .null])), (q1, .inl (cI, 8, .inl (fvI 5)))]) H := hP
  have hD : va_D A ([(h0, .inr (4, [.int 0, .int 1, .null, .null, .null])), (q1, .inl (cI, 8, .inl (fvI 5)))]) := hD
  refine lv_dup hx hb dX4_init_34 rfl ?_
  refine lv_iconst (v := 5) hx hb dX4_init_35 (by decide) ?_
  refine lv_iconst (v := -1) hx hb dX4_init_36 (by decide) ?_
  refine va_iast (D := D) hx hb hK hP hD hS 1 0 rfl rfl (vp_in_nI (n := 5) (N := 8) (by decide) (by decide)) dX4_init_37 (fun H locs hP hD hS => ?_)
  have hP : va_P D vwCl ([(h0, .inr (4, [.int 0, .int 1, .null, .null, .null])), (q1, .inl (cI, 8, .inl (fvI 6)))]) H := hP
  have hD : va_D A ([(h0, .inr (4, [.int 0, .int 1, .null, .null, .null])), (q1, .inl (cI, 8, .inl (fvI 6)))]) := hD
  refine lv_dup hx hb dX4_init_38 rfl ?_
  refine lv_bipush (v := 6) hx hb dX4_init_39 (by decide) ?_
  refine lv_iconst (v := -1) hx hb dX4_init_41 (by decide) ?_
  refine va_iast (D := D) hx hb hK hP hD hS 1 0 rfl rfl (vp_in_nI (n := 6) (N := 8) (by decide) (by decide)) dX4_init_42 (fun H locs hP hD hS => ?_)
  have hP : va_P D vwCl ([(h0, .inr (4, [.int 0, .int 1, .null, .null, .null])), (q1, .inl (cI, 8, .inl (fvI 7)))]) H := hP
  have hD : va_D A ([(h0, .inr (4, [.int 0, .int 1, .null, .null, .null])), (q1, .inl (cI, 8, .inl (fvI 7)))]) := hD
  refine lv_dup hx hb dX4_init_43 rfl ?_
  refine lv_bipush (v := 7) hx hb dX4_init_44 (by decide) ?_
  refine lv_iconst (v := -1) hx hb dX4_init_46 (by decide) ?_
  refine va_iast (D := D) hx hb hK hP hD hS 1 0 rfl rfl (vp_in_nI (n := 7) (N := 8) (by decide) (by decide)) dX4_init_47 (fun H locs hP hD hS => ?_)
  have hP : va_P D vwCl ([(h0, .inr (4, [.int 0, .int 1, .null, .null, .null])), (q1, .inl (cI, 8, .inl (fvI 8)))]) H := hP
  have hD : va_D A ([(h0, .inr (4, [.int 0, .int 1, .null, .null, .null])), (q1, .inl (cI, 8, .inl (fvI 8)))]) := hD
  refine va_putF (D := D) (ci := 4) (v := .ref q1) (ty := .array .int) (C := RX4) (T := TX4) (N := 5) hx hb hts h_iX4 tyX4 tyX4_ok nmX4 hown hK hP hD hS 0 rfl rfl 2 (by decide) (hts (.fieldLink RX4 13 "CombersSocietyModel" "fevers" "[I") (by decide +kernel)) (fun x hx => hx) rfl hin rfl (tyX4_ok 2 (by decide)) rfl rfl (Nat.le_of_ble_eq_true rfl) dX4_init_48 (fun H locs hP hD hS => ?_)
  have hP : va_P D vwCl ([(h0, .inr (4, [.int 0, .int 1, .ref q1, .null, .null])), (q1, .inl (cI, 8, .inl (fvI 8)))]) H := hP
  have hD : va_D A ([(h0, .inr (4, [.int 0, .int 1, .ref q1, .null, .null])), (q1, .inl (cI, 8, .inl (fvI 8)))]) := hD
  refine lv_aload_n hx hb dX4_init_51 rfl (lv_at hl 0 rfl) ?_
  refine va_new (ci := 3) (fs := st00) (C := RX3) (T := TX3) (N := 12) hx hb hts h_iX3 tyX3 tyX3_ok hown (hts (.classLink RX4 17 RX3) (by decide +kernel)) (hts (.instantiable RX3 12) (by decide +kernel)) (hts (.initialized RX3) (by decide +kernel)) hK hP hD hS hA rfl hfs (by show 0 + 1 + 1 ≤ 7; decide) (by show 0 + 8 + 12 ≤ 254; decide) dX4_init_52 (fun a H hP hD hS => ?_)
  refine lv_dup hx hb dX4_init_55 rfl ?_
  refine lv_aload_n hx hb dX4_init_56 rfl (lv_at hl 0 rfl) ?_
  have hPc : va_P D vwCl [(a, .inr (3, st00))] H := hP.right
  have hDc : va_D A [((a, .inr (3, st00)) : Nat × va_E)] := hD.by (fun _ => ([(h0, .inr (4, [.int 0, .int 1, .ref q1, .null, .null])), (q1, .inl (cI, 8, .inl (fvI 8)))] : va_W).length) (fun k x hk => by
    have hk0 : k < 1 := (List.getElem?_eq_some_iff.mp hk).1
    obtain rfl : k = 0 := by omega
    exact ap_r (k := 0) hk) (fun i j hi hj _ => by
    have h1 : i < 1 := hi
    have h2 : j < 1 := hj
    omega)
  have hFc : ∀ q2, va_A [((a, .inr (3, st00)) : Nat × va_E)] H.size q2 → A q2 := fun q2 h => by
    rcases h with ⟨k, e', hk⟩ | h
    · exact hDc.2 k _ hk
    · exact hA q2 (Nat.le_trans hS.1 h)
  refine va_callv (va_runIN (As := [.ref h0]) (rest := [.ref a, .ref h0]) ⟨hx, hb, hml, hown, hts⟩ (i_X3 l D a h0 H.size) ⟨va_cnB 1 hts gX4_init_X3_init_n19 rfl rfl rfl hN.nw19 (hts (.initialized RX3) (by decide +kernel)) (by decide +kernel) ⟨Nat.le_of_ble_eq_true rfl, Nat.le_of_ble_eq_true rfl⟩, rfl, hts (.instanceMethod yX3_init) (by decide +kernel)⟩ ⟨nPre.blind, nPre.at (hK.sub (tys' := []) [] rfl) hPc hDc _⟩ rfl rfl hl.1 rfl (lv_room (Nat.le_of_ble_eq_true rfl)) dX4_init_57 ⟨(by show 0 + 1 + 1 + 2 ≤ 7; decide), (by show 0 + 8 + 12 + 111 ≤ 254; decide)⟩) hS (fun q _ h => hFc q h) hFc (fun u3 t H1 locs ht hvm _ hB hz1 hk1 hS => ?_)
  obtain ⟨cI', hK2, hP1, hD1⟩ := hB
  rw [ht] at hP1
  have hK2 := va_K.moved hvm.symm hK2
  obtain rfl : cI = cI' := u_int_eq2 0 0 hK hK2 rfl rfl
  obtain ⟨a1, a2⟩ := u3
  obtain ⟨hP, hD⟩ := grow_join2 hP hD hk1 hFc hP1 hD1
  refine va_putF (D := D) (ci := 4) (v := .ref a) (ty := .object RX3) (C := RX4) (T := TX4) (N := 5) hx hb hts h_iX4 tyX4 tyX4_ok nmX4 hown hK hP hD hS 0 (fs := [.int 0, .int 1, .ref q1, .null, .null]) rfl rfl 3 (by decide) (hts (.fieldLink RX4 22 "CombersSocietyModel" "s" "LCombersSocietyModel$State;") (by decide +kernel)) (fun x hx => hx) rfl hin rfl (tyX4_ok 3 (by decide)) rfl rfl (Nat.le_of_ble_eq_true rfl) dX4_init_60 (fun H locs hP hD hS => ?_)
  have hP : va_P D vwCl ([(h0, .inr (4, [.int 0, .int 1, .ref q1, .ref a, .null])), (q1, .inl (cI, 8, .inl (fvI 8)))] ++ sW cI a h0 a1 a2) H := hP
  have hD : va_D A ([(h0, .inr (4, [.int 0, .int 1, .ref q1, .ref a, .null])), (q1, .inl (cI, 8, .inl (fvI 8)))] ++ sW cI a h0 a1 a2) := hD
  refine lv_aload_n hx hb dX4_init_63 rfl (lv_at hl 0 rfl) ?_
  refine va_new (ci := 3) (fs := st00) (C := RX3) (T := TX3) (N := 12) hx hb hts h_iX3 tyX3 tyX3_ok hown (hts (.classLink RX4 17 RX3) (by decide +kernel)) (hts (.instantiable RX3 12) (by decide +kernel)) (hts (.initialized RX3) (by decide +kernel)) hK hP hD hS hA rfl hfs (by show 0 + 1 + 1 + 2 + 1 ≤ 7; decide) (by show 0 + 8 + 12 + 111 + 12 ≤ 254; decide) dX4_init_64 (fun b H hP hD hS => ?_)
  refine lv_dup hx hb dX4_init_67 rfl ?_
  refine lv_aload_n hx hb dX4_init_68 rfl (lv_at hl 0 rfl) ?_
  have hPc : va_P D vwCl [(b, .inr (3, st00))] H := hP.right
  have hDc : va_D A [((b, .inr (3, st00)) : Nat × va_E)] := hD.by (fun _ => ([(h0, .inr (4, [.int 0, .int 1, .ref q1, .ref a, .null])), (q1, .inl (cI, 8, .inl (fvI 8)))] ++ sW cI a h0 a1 a2 : va_W).length) (fun k x hk => by
    have hk0 : k < 1 := (List.getElem?_eq_some_iff.mp hk).1
    obtain rfl : k = 0 := by omega
    exact ap_r (k := 0) hk) (fun i j hi hj _ => by
    have h1 : i < 1 := hi
    have h2 : j < 1 := hj
    omega)
  have hFc : ∀ q2, va_A [((b, .inr (3, st00)) : Nat × va_E)] H.size q2 → A q2 := fun q2 h => by
    rcases h with ⟨k, e', hk⟩ | h
    · exact hDc.2 k _ hk
    · exact hA q2 (Nat.le_trans hS.1 h)
  refine va_callv (va_runIN (As := [.ref h0]) (rest := [.ref b, .ref h0]) ⟨hx, hb, hml, hown, hts⟩ (i_X3 l D b h0 H.size) ⟨va_cnB 1 hts gX4_init_X3_init_n19 rfl rfl rfl hN.nw19 (hts (.initialized RX3) (by decide +kernel)) (by decide +kernel) ⟨Nat.le_of_ble_eq_true rfl, Nat.le_of_ble_eq_true rfl⟩, rfl, hts (.instanceMethod yX3_init) (by decide +kernel)⟩ ⟨nPre.blind, nPre.at (hK.sub (tys' := []) [] rfl) hPc hDc _⟩ rfl rfl hl.1 rfl (lv_room (Nat.le_of_ble_eq_true rfl)) dX4_init_69 ⟨(by show 0 + 1 + 1 + 2 + 1 + 2 ≤ 7; decide), (by show 0 + 8 + 12 + 111 + 12 + 111 ≤ 254; decide)⟩) hS (fun q _ h => hFc q h) hFc (fun u4 t H1 locs ht hvm _ hB hz1 hk1 hS => ?_)
  obtain ⟨cI', hK2, hP1, hD1⟩ := hB
  rw [ht] at hP1
  have hK2 := va_K.moved hvm.symm hK2
  obtain rfl : cI = cI' := u_int_eq2 0 0 hK hK2 rfl rfl
  obtain ⟨b1, b2⟩ := u4
  obtain ⟨hP, hD⟩ := grow_join2 hP hD hk1 hFc hP1 hD1
  refine va_putF (D := D) (ci := 4) (v := .ref b) (ty := .object RX3) (C := RX4) (T := TX4) (N := 5) hx hb hts h_iX4 tyX4 tyX4_ok nmX4 hown hK hP hD hS 0 (fs := [.int 0, .int 1, .ref q1, .ref a, .null]) rfl rfl 4 (by decide) (hts (.fieldLink RX4 26 "CombersSocietyModel" "ahead" "LCombersSocietyModel$State;") (by decide +kernel)) (fun x hx => hx) rfl hin rfl (tyX4_ok 4 (by decide)) rfl rfl (Nat.le_of_ble_eq_true rfl) dX4_init_72 (fun H locs hP hD hS => ?_)
  have hP : va_P D vwCl (([(h0, .inr (4, [.int 0, .int 1, .ref q1, .ref a, .ref b])), (q1, .inl (cI, 8, .inl (fvI 8)))] ++ sW cI a h0 a1 a2) ++ sW cI b h0 b1 b2) H := hP
  have hD : va_D A (([(h0, .inr (4, [.int 0, .int 1, .ref q1, .ref a, .ref b])), (q1, .inl (cI, 8, .inl (fvI 8)))] ++ sW cI a h0 a1 a2) ++ sW cI b h0 b1 b2) := hD
  have hP9 := hP.by (fun k => k) (fun k x hx => bAd_get (cI := cI) k x hx)
  have hD9 := hD.by (fun k => k) (fun k x hx => bAd_get (cI := cI) k x hx) (fun _ _ _ _ e => e)
  exact W.vret hx hb hr (fun t ht hW => ⟨⟨bAd h0 q1 a a1 a2 b b1 b2, rfl, rfl, cI, va_K.moved hW.alike hK, by rw [ht]; exact hP9, hD9⟩, hS.F ht⟩) hS.2.2 dX4_init_75
