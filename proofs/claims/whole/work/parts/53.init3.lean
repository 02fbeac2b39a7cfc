/-! State(model), CombersSocietyModel() -/
abbrev stI : List Value := [.int 0, .int 0, .int 60, .int 30, .int 200, .int 0, .int 0, .int 0, .int 0]
abbrev st00 : List Value := [.int 0, .int 0, .int 0, .int 0, .int 0, .int 0, .int 0, .int 0, .int 0, .null, .null, .null]
def sW (cI : ClassId) (h0 hm q1 q2 : Nat) : va_W := [(h0, .inr (3, stI ++ [.ref q1, .ref q2, .ref hm])), (q1, .inl (cI, 3, .inl (fAll 0))), (q2, .inl (cI, 108, .inl (fAll 0)))]
def sPost (D : va_G) (h0 hm : Nat) (A : Nat → Prop) : Nat × Nat → State → Prop := fun u U => ∃ cI, va_K D vwCl (rTys cI) U ∧ va_P D vwCl (sW cI h0 hm u.1 u.2) U.heap ∧ va_D A (sW cI h0 hm u.1 u.2)
set_option maxHeartbeats 4000000 in
set_option maxRecDepth 100000 in
theorem i_X3 (l : Launch) (D : va_G) (h0 hm sz : Nat) : Met l yX3_init wsX3_init { frames := 1, cells := 2, slots := 111, locals := 12 } (va_Pc [.ref h0, .ref hm] (nPre D [] [(h0, .inr (3, st00))] sz)) (va_Qv (fun _ : Nat × Nat => True) (sPost D h0 hm (va_A [(h0, .inr (3, st00))] sz)) (va_A [(h0, .inr (3, st00))] sz)) 2 111 (va_A [(h0, .inr (3, st00))] sz) := by
  refine Met.ofW (cc := cX3_init) (maxL := 2) (ret := none) (by decide) rfl ?_
  intro p e s m args below meth c s₁ B hml hv
  obtain ⟨rfl, hsz, hP, hK, hD0⟩ := hv
  have hx := B.exec
  have hb := B.bytes
  have hr := B.returns
  have hts := atoms_spec (ws := wsX3_init) B.pre
  have hown : s.vm.findClass RX3 = some m.cls := findClass_of_methodNamed B.named
  have hin : meth.name = "<init>" := (name_of_methodNamed B.named B.method).1
  subst hsz
  have hD := hD0.self (sz := s.heap.size)
  generalize hAe : va_A [(h0, .inr (3, st00))] s.heap.size = A at hD ⊢
  have hA : ∀ q : Nat, s.heap.size ≤ q → A q := fun q h => by rw [← hAe]; exact Or.inr h
  have hS : va_S A s.heap s.heap [] := va_S.rf
  have hl := lv_entry ([.ref h0, .ref hm]) (n := 2) (Nat.le_of_ble_eq_true rfl)
  rw [lg_entry_eq]
  generalize (lg_sl ([.ref h0, .ref hm]) ++ List.replicate (2 - (lg_sl ([.ref h0, .ref hm])).length) Slot.unset).toArray = ls at hl ⊢
  have hl : lv_has ls 2 [(0, .ref h0), (1, .ref hm)] := hl
  have h_iX3 : ∀ w ∈ u_ws RX3 TX3 12, w ∈ wsX3_init := by decide +kernel
  refine lv_aload_n hx hb dX3_init_0 rfl (lv_at hl 0 rfl) ?_
  refine lv_aload_n hx hb dX3_init_1 rfl (lv_at hl 1 rfl) ?_
  refine va_putF (D := D) (ci := 3) (v := .ref hm) (ty := .object RX4) (C := RX3) (T := TX3) (N := 12) hx hb hts h_iX3 tyX3 tyX3_ok nmX3 hown hK hP hD hS 0 rfl rfl 11 (by decide) (hts (.fieldLink RX3 3 "CombersSocietyModel$State" "this$0" "LCombersSocietyModel;") (by decide +kernel)) (fun x hx => hx) rfl hin rfl (tyX3_ok 11 (by decide)) rfl rfl (by decide) dX3_init_2 (fun H locs hP hD hS => ?_)
  refine lv_aload_n hx hb dX3_init_5 rfl (lv_at hl 0 rfl) ?_
  refine W.objInit hx hb hown (hts (.methodLink RX3 9 objectInit) (by decide +kernel)) (hts (.instanceMethod objectInit) (by decide +kernel)) (hts _ (List.mem_cons_of_mem _ (List.mem_append_left _ (List.mem_of_getElem? (i := 3) rfl)))) rfl (by rw [hml]; exact hl.1) rfl dX3_init_6 (Nat.le_of_ble_eq_true rfl) (Nat.le_of_ble_eq_true rfl) ?_
  refine W.eq (g2 := F0 m 9 ls []) rfl ?_
  refine lv_aload_n hx hb dX3_init_9 rfl (lv_at hl 0 rfl) ?_
  refine lv_bipush (v := 60) hx hb dX3_init_10 (by decide) ?_
  refine va_put (D := D) (ci := 3) (v := .int 60) (ty := .int) (C := RX3) (T := TX3) (N := 12) hx hb hts h_iX3 tyX3 tyX3_ok nmX3 hown hK hP hD hS 0 rfl rfl 2 (by decide) (hts (.fieldLink RX3 15 "CombersSocietyModel$State" "box" "I") (by decide +kernel)) (fun x hx => hx) rfl (tyX3_ok 2 (by decide)) rfl rfl (Nat.le_of_ble_eq_true rfl) dX3_init_12 (fun H locs hP hD hS => ?_)
  refine lv_aload_n hx hb dX3_init_15 rfl (lv_at hl 0 rfl) ?_
  refine lv_bipush (v := 30) hx hb dX3_init_16 (by decide) ?_
  refine va_put (D := D) (ci := 3) (v := .int 30) (ty := .int) (C := RX3) (T := TX3) (N := 12) hx hb hts h_iX3 tyX3 tyX3_ok nmX3 hown hK hP hD hS 0 rfl rfl 3 (by decide) (hts (.fieldLink RX3 19 "CombersSocietyModel$State" "coals" "I") (by decide +kernel)) (fun x hx => hx) rfl (tyX3_ok 3 (by decide)) rfl rfl (Nat.le_of_ble_eq_true rfl) dX3_init_18 (fun H locs hP hD hS => ?_)
  refine lv_aload_n hx hb dX3_init_21 rfl (lv_at hl 0 rfl) ?_
  refine lv_sipush (v := 200) hx hb dX3_init_22 (by decide) ?_
  refine va_put (D := D) (ci := 3) (v := .int 200) (ty := .int) (C := RX3) (T := TX3) (N := 12) hx hb hts h_iX3 tyX3 tyX3_ok nmX3 hown hK hP hD hS 0 rfl rfl 4 (by decide) (hts (.fieldLink RX3 22 "CombersSocietyModel$State" "wool" "I") (by decide +kernel)) (fun x hx => hx) rfl (tyX3_ok 4 (by decide)) rfl rfl (Nat.le_of_ble_eq_true rfl) dX3_init_25 (fun H locs hP hD hS => ?_)
  have hP : va_P D vwCl [(h0, .inr (3, stI ++ [.null, .null, .ref hm]))] H := hP
  have hD : va_D A [(h0, .inr (3, stI ++ [.null, .null, .ref hm]))] := hD
  refine lv_aload_n hx hb dX3_init_28 rfl (lv_at hl 0 rfl) ?_
  refine lv_iconst (v := 3) hx hb dX3_init_29 (by decide) ?_
  refine va_newa (atype := .int) (ty := .int) (N' := 3) (a0 := (3, .inl (fAll 0))) hx hb (hts (.arrayClass .int) (by decide +kernel)) rfl hK hP hD hS hA (fun cA => rfl) (by decide) rfl (by decide) (by show 0 + 1 ≤ 2; decide) (by show 0 + 3 ≤ 111; decide) dX3_init_30 (fun q1 cI H hK hP hD hS => ?_)
  have hP : va_P D vwCl [(h0, .inr (3, stI ++ [.null, .null, .ref hm])), (q1, .inl (cI, 3, .inl (fAll 0)))] H := hP
  have hD : va_D A [(h0, .inr (3, stI ++ [.null, .null, .ref hm])), (q1, .inl (cI, 3, .inl (fAll 0)))] := hD
  have hK : va_K D vwCl [(cI, .int)] s := hK
  refine va_putF (D := D) (ci := 3) (v := .ref q1) (ty := .array .int) (C := RX3) (T := TX3) (N := 12) hx hb hts h_iX3 tyX3 tyX3_ok nmX3 hown hK hP hD hS 0 rfl rfl 9 (by decide) (hts (.fieldLink RX3 25 "CombersSocietyModel$State" "heat" "[I") (by decide +kernel)) (fun x hx => hx) rfl hin rfl (tyX3_ok 9 (by decide)) rfl rfl (Nat.le_of_ble_eq_true rfl) dX3_init_32 (fun H locs hP hD hS => ?_)
  have hP : va_P D vwCl [(h0, .inr (3, stI ++ [.ref q1, .null, .ref hm])), (q1, .inl (cI, 3, .inl (fAll 0)))] H := hP
  have hD : va_D A [(h0, .inr (3, stI ++ [.ref q1, .null, .ref hm])), (q1, .inl (cI, 3, .inl (fAll 0)))] := hD
  refine lv_aload_n hx hb dX3_init_35 rfl (lv_at hl 0 rfl) ?_
  refine lv_bipush (v := 108) hx hb dX3_init_36 (by decide) ?_
  refine va_newa (atype := .int) (ty := .int) (N' := 108) (a0 := (108, .inl (fAll 0))) hx hb (hts (.arrayClass .int) (by decide +kernel)) rfl hK hP hD hS hA (fun cA => rfl) (by decide) rfl (Nat.le_of_ble_eq_true rfl) (by show 0 + 1 + 1 ≤ 2; decide) (by show 0 + 3 + 108 ≤ 111; decide) dX3_init_38 (fun q2 cI' H hK hP hD hS => ?_)
  obtain rfl : cI = cI' := u_int_eq2 0 1 hK hK rfl rfl
  have hP : va_P D vwCl [(h0, .inr (3, stI ++ [.ref q1, .null, .ref hm])), (q1, .inl (cI, 3, .inl (fAll 0))), (q2, .inl (cI, 108, .inl (fAll 0)))] H := hP
  have hD : va_D A [(h0, .inr (3, stI ++ [.ref q1, .null, .ref hm])), (q1, .inl (cI, 3, .inl (fAll 0))), (q2, .inl (cI, 108, .inl (fAll 0)))] := hD
  refine va_putF (D := D) (ci := 3) (v := .ref q2) (ty := .array .int) (C := RX3) (T := TX3) (N := 12) hx hb hts h_iX3 tyX3 tyX3_ok nmX3 hown hK hP hD hS 0 rfl rfl 10 (by decide) (hts (.fieldLink RX3 29 "CombersSocietyModel$State" "rows" "[I") (by decide +kernel)) (fun x hx => hx) rfl hin rfl (tyX3_ok 10 (by decide)) rfl rfl (Nat.le_of_ble_eq_true rfl) dX3_init_40 (fun H locs hP hD hS => ?_)
  have hP : va_P D vwCl (sW cI h0 hm q1 q2) H := hP
  have hD : va_D A (sW cI h0 hm q1 q2) := hD
  have hK : va_K D vwCl (rTys cI) s := hK.sub [0] rfl
  exact W.vret hx hb hr (fun t ht hW => ⟨⟨(q1, q2), rfl, trivial, cI, va_K.moved hW.alike hK, by rw [ht]; exact hP, hD⟩, hS.F ht⟩) hS.2.2 dX3_init_43
