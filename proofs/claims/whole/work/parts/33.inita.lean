/-! THE CONSTRUCTORS OF THE CLASS: worlds that grow -/
abbrev mem00 : List Value := [.int 0, .int 0, .int 0, .int 0, .int 0, .int 0, .int 0, .int 0, .int 0, .int 0]
abbrev mem01 : List Value := [.int 0, .int 0, .int 0, .int 0, .int 0, .int (-1), .int 3, .int 0, .int 0, .int 0]
abbrev iw1 (h0 : Nat) (fs : List Value) : va_W := [(h0, .inr (0, fs))]
/-- a world before a method, and behind it -/
def nPre (D : va_G) (tys : List (ClassId × FieldType)) (w : va_W) (sz : Nat) : State → Prop := fun U => U.heap.size = sz ∧ va_P D vwCl w U.heap ∧ va_K D vwCl tys U ∧ va_D (fun _ => True) w
theorem nPre.blind {D : va_G} {tys : List (ClassId × FieldType)} {w : va_W} {sz : Nat} {av : List Value} : FrameBlind (va_Pc av (nPre D tys w sz)) := fun _ U g mk q => by
  obtain ⟨q0, q1, qP, qK, qD⟩ := q
  exact ⟨q0, q1, qP, va_K.moved (u := U) (U := U.calling g mk _) (Vm.Alike.refl U.vm) qK, qD⟩
theorem nPre.at {D : va_G} {tys : List (ClassId × FieldType)} {w : va_W} {S : State} {A : Nat → Prop} {H : Heap} (hK : va_K D vwCl tys S) (hP : va_P D vwCl w H) (hD : va_D A w) (av : List Value) : ∀ U : State, U.heap = H → S.WarmedH U.vm → va_Pc av (nPre D tys w H.size) av.toArray U := by
  intro U hU hW
  exact ⟨rfl, by rw [hU], by rw [hU]; exact hP, va_K.moved hW.alike hK, hD.weaken (fun _ _ _ _ => trivial)⟩
theorem i_X0 (l : Launch) (D : va_G) (h0 sz : Nat) : Met l yX0_init wsX0_init { frames := 1, cells := 0, slots := 0, locals := 12 } (va_Pc [.ref h0] (nPre D [] (iw1 h0 mem00) sz)) (va_Qv (fun _ : Unit => True) (fun _ U => va_P D vwCl (iw1 h0 mem01) U.heap ∧ va_K D vwCl [] U ∧ va_D (va_A (iw1 h0 mem00) sz) (iw1 h0 mem01)) (va_A (iw1 h0 mem00) sz)) 0 0 (va_A (iw1 h0 mem00) sz) := by
  refine Met.ofW (cc := cX0_init) (maxL := 1) (ret := none) (by decide) rfl ?_
  intro p e s m args below meth c s₁ B hml hv
  obtain ⟨rfl, hsz, hP, hK, hD0⟩ := hv
  have hx := B.exec
  have hb := B.bytes
  have hr := B.returns
  have hts := atoms_spec (ws := wsX0_init) B.pre
  have hown : s.vm.findClass RX0 = some m.cls := findClass_of_methodNamed B.named
  subst hsz
  have hD := hD0.self (sz := s.heap.size)
  generalize hAe : va_A (iw1 h0 mem00) s.heap.size = A at hD ⊢
  have hA : ∀ q : Nat, s.heap.size ≤ q → A q := fun q h => by rw [← hAe]; exact Or.inr h
  have hS : va_S A s.heap s.heap [] := va_S.rf
  have hl := lv_entry ([.ref h0]) (n := 1) (Nat.le_of_ble_eq_true rfl)
  rw [lg_entry_eq]
  generalize (lg_sl ([.ref h0]) ++ List.replicate (1 - (lg_sl ([.ref h0])).length) Slot.unset).toArray = ls at hl ⊢
  have hl : lv_has ls 1 [(0, .ref h0)] := hl
  have h_iX0 : ∀ w ∈ u_ws RX0 TX0 10, w ∈ wsX0_init := by decide +kernel
  refine lv_aload_n hx hb dX0_init_0 rfl (lv_at hl 0 rfl) ?_
  refine W.objInit hx hb hown (hts (.methodLink RX0 3 objectInit) (by decide +kernel)) (hts (.instanceMethod objectInit) (by decide +kernel)) (hts _ (List.mem_cons_of_mem _ (List.mem_append_left _ (List.mem_of_getElem? (i := 2) rfl)))) rfl (by rw [hml]; exact hl.1) rfl dX0_init_1 (Nat.le_of_ble_eq_true rfl) (Nat.le_of_ble_eq_true rfl) ?_
  refine W.eq (g2 := F0 m 4 ls []) rfl ?_
  refine lv_aload_n hx hb dX0_init_4 rfl (lv_at hl 0 rfl) ?_
  refine lv_iconst (v := -1) hx hb dX0_init_5 (by decide) ?_
  refine va_put (D := D) (ci := 0) (v := .int (-1)) (ty := .int) (C := RX0) (T := TX0) (N := 10) hx hb hts h_iX0 tyX0 tyX0_ok nmX0 hown hK hP hD hS 0 rfl rfl 5 (by decide) (hts (.fieldLink RX0 9 "CombersSociety$Member" "pot" "I") (by decide +kernel)) (fun x hx => hx) rfl (tyX0_ok 5 (by decide)) rfl rfl (by decide) dX0_init_6 (fun H locs hP hD hS => ?_)
  refine lv_aload_n hx hb dX0_init_9 rfl (lv_at hl 0 rfl) ?_
  refine lv_iconst (v := 3) hx hb dX0_init_10 (by decide) ?_
  refine va_put (D := D) (ci := 0) (v := .int 3) (ty := .int) (C := RX0) (T := TX0) (N := 10) hx hb hts h_iX0 tyX0 tyX0_ok nmX0 hown hK hP hD hS 0 rfl rfl 6 (by decide) (hts (.fieldLink RX0 15 "CombersSociety$Member" "health" "I") (by decide +kernel)) (fun x hx => hx) rfl (tyX0_ok 6 (by decide)) rfl rfl (by decide) dX0_init_11 (fun H locs hP hD hS => ?_)
  have hP : va_P D vwCl (iw1 h0 mem01) H := hP
  have hD : va_D A (iw1 h0 mem01) := hD
  exact W.vret hx hb hr (fun t ht hW => ⟨⟨(), rfl, trivial, by rw [ht]; exact hP, va_K.moved hW.alike hK, hD⟩, hS.F ht⟩) hS.2.2 dX0_init_14
