abbrev socI : List Value := [.int 0, .int 0, .int 60, .int 30, .int 200, .int 0, .int 1, .int 0, .int 0, .int 0]
abbrev soc00 : List Value := [.int 0, .int 0, .int 0, .int 0, .int 0, .int 0, .int 0, .int 0, .int 0, .int 0, .null, .null, .null, .null]
theorem u_int_eq {D : va_G} {tys : List (ClassId × FieldType)} {U : State} {c1 c2 : ClassId} (i j : Nat) (hK : va_K D vwCl tys U) (h1 : tys[i]? = some (c1, .int)) (h2 : tys[j]? = some (c2, .int)) : c1 = c2 := by
  have e1 := (hK.2 i _ h1).2
  have e2 := (hK.2 j _ h2).2
  exact Option.some.inj (e1.symm.trans e2)
def nPreO (D : va_G) (tys : List (ClassId × FieldType)) (w : va_W) (sz : Nat) : State → Prop := fun U => U.heap.size = sz ∧ va_P D vwCl w U.heap ∧ va_K D vwCl tys U ∧ va_D (fun _ => True) w ∧ va_AO RX0 U
theorem nPreO.blind {D : va_G} {tys : List (ClassId × FieldType)} {w : va_W} {sz : Nat} {av : List Value} : FrameBlind (va_Pc av (nPreO D tys w sz)) := fun _ U g mk q => by
  obtain ⟨q0, q1, qP, qK, qD, qO⟩ := q
  exact ⟨q0, q1, qP, va_K.moved (u := U) (U := U.calling g mk _) (Vm.Alike.refl U.vm) qK, qD, va_AO.moved (u := U) (U := U.calling g mk _) (Vm.Alike.refl U.vm) qO⟩
theorem nPreO.at {D : va_G} {tys : List (ClassId × FieldType)} {w : va_W} {S : State} {A : Nat → Prop} {H : Heap} (hK : va_K D vwCl tys S) (hP : va_P D vwCl w H) (hD : va_D A w) (hO : va_AO RX0 S) (av : List Value) : ∀ U : State, U.heap = H → S.WarmedH U.vm → va_Pc av (nPreO D tys w H.size) av.toArray U := by
  intro U hU hW
  exact ⟨rfl, by rw [hU], by rw [hU]; exact hP, va_K.moved hW.alike hK, hD.weaken (fun _ _ _ _ => trivial), va_AO.moved hW.alike hO⟩
/-- a society just made, its members the first n -/
abbrev fAll (x : Int32) : Nat → Int32 := fun _ => x
def iMs (b : Nat → Nat) (n : Nat) : Nat → Option Nat := fun i => if i < n then some (b i) else none
def iw5 (cI cM : ClassId) (h0 q1 q2 q3 q4 : Nat) (f1 : Nat → Int32) (b : Nat → Nat) (n : Nat) : va_W := [(h0, .inr (1, socI ++ [.ref q1, .ref q2, .ref q3, .ref q4])), (q1, .inl (cI, 8, .inl f1)), (q2, .inl (cI, 3, .inl (fAll 0))), (q3, .inl (cI, 3, .inl (fAll 0))), (q4, .inl (cM, 12, .inr (.inr (.inr (.inr (iMs b n))))))] ++ (List.range n).map (fun i => (b i, .inr (0, mem01)))
def iPost (D : va_G) (w0 : va_W) (sz h0 : Nat) : (Nat → Nat) × (Nat → Int32) → State → Prop := fun u U => ∃ cI cM, va_K D vwCl (cTys cI cM) U ∧ va_P D vwCl (iw5 cI cM h0 (u.1 1) (u.1 2) (u.1 3) (u.1 4) u.2 (fun i => u.1 (i+5)) 12) U.heap ∧ va_D (va_A w0 sz) (iw5 cI cM h0 (u.1 1) (u.1 2) (u.1 3) (u.1 4) u.2 (fun i => u.1 (i+5)) 12)
theorem iw5_succ {cI cM : ClassId} {h0 q1 q2 q3 q4 q i : Nat} {f1 : Nat → Int32} {b : Nat → Nat} : (iw5 cI cM h0 q1 q2 q3 q4 f1 b i ++ [((q, .inr (0, mem01)) : Nat × va_E)]).set 4 ((q4, .inl (cM, 12, .inr (.inr (.inr (.inr (va_up (iMs b i) i (some q))))))) : Nat × va_E) = iw5 cI cM h0 q1 q2 q3 q4 f1 (fun j => if j = i then q else b j) (i+1) := by
  have hM : va_up (iMs b i) i (some q) = iMs (fun j => if j = i then q else b j) (i+1) := by
    funext j
    simp only [va_up, iMs]
    by_cases h : j = i
    · subst h
      simp
    · by_cases h2 : j < i
      · rw [if_neg h, if_pos h2, if_pos (by omega), if_neg h]
      · rw [if_neg h, if_neg h2, if_neg (by omega)]
  have hL : (List.range i).map (fun j => ((b j, .inr (0, mem01)) : Nat × va_E)) = (List.range i).map (fun j => (((if j = i then q else b j), .inr (0, mem01)) : Nat × va_E)) := List.map_congr_left (fun j hj => by
    have := List.mem_range.mp hj
    rw [if_neg (show j ≠ i by omega)])
  unfold iw5
  rw [hM, hL, List.range_succ, List.map_append, List.append_assoc]
  simp
def iAd (q1 q2 q3 q4 : Nat) (b : Nat → Nat) : Nat → Nat
  | 0 => 0
  | 1 => q1
  | 2 => q2
  | 3 => q3
  | 4 => q4
  | i+5 => b i
/-- a call that changes the last cell alone -/
theorem grow_join {D : va_G} {A : Nat → Prop} {ws : va_W} {a : Nat} {e0 e : va_E} {H H1 : Heap} (hP : va_P D vwCl (ws ++ [(a, e0)]) H) (hD : va_D A (ws ++ [(a, e0)])) (hk : ∀ q : Nat, q < H.size → ¬ va_A [(a, e0)] H.size q → H1[q]? = H[q]?) (hP1 : va_P D vwCl [(a, e)] H1) : va_P D vwCl (ws ++ [(a, e)]) H1 ∧ va_D A (ws ++ [(a, e)]) := by
  have hlast : (ws ++ [(a, e0)])[ws.length]? = some (a, e0) := by simp
  have hPw : va_P D vwCl ws H := fun k q h => hP k q (by rw [List.getElem?_append_left (List.getElem?_eq_some_iff.mp h).1]; exact h)
  refine ⟨va_P.app (hPw.kept (fun k q h => ?_)) hP1, ?_⟩
  · have hkl : k < ws.length := (List.getElem?_eq_some_iff.mp h).1
    have h1 : (ws ++ [(a, e0)])[k]? = some q := by rw [List.getElem?_append_left hkl]; exact h
    have hlt := (hP k q h1).lt
    refine hk q.1 hlt (fun hA => ?_)
    rcases hA with ⟨j, e', hj⟩ | hge
    · have hj0 : j < 1 := (List.getElem?_eq_some_iff.mp hj).1
      obtain rfl : j = 0 := by omega
      have hq : (a, e0) = (q.1, e') := Option.some.inj hj
      have := hD.1 k ws.length q (a, e0) h1 hlast (congrArg Prod.fst hq).symm
      omega
    · omega
  · have h2 := hD.set (e := e) hlast
    rwa [List.set_append_right _ _ (Nat.le_refl _), Nat.sub_self] at h2

set_option maxHeartbeats 4000000 in
set_option maxRecDepth 100000 in
theorem i_X1 (l : Launch) (D : va_G) (h0 sz : Nat) : Met l yX1_init wsX1_init { frames := 2, cells := 16, slots := 146, locals := 32 } (va_Pc [.ref h0] (nPreO D [] [(h0, .inr (1, soc00))] sz)) (va_Qv (fun u : (Nat → Nat) × (Nat → Int32) => ∀ j, j < 8 → u.2 j = -1) (iPost D [(h0, .inr (1, soc00))] sz h0) (va_A [(h0, .inr (1, soc00))] sz)) 16 146 (va_A [(h0, .inr (1, soc00))] sz) := by
  refine Met.ofW (cc := cX1_init) (maxL := 2) (ret := none) (by decide) rfl ?_
  intro p e s m args below meth c s₁ B hml hv
  obtain ⟨rfl, hsz, hP, hK, hD0, hO⟩ := hv
  have hx := B.exec
  have hb := B.bytes
  have hr := B.returns
  have hts := atoms_spec (ws := wsX1_init) B.pre
  have hown : s.vm.findClass RX1 = some m.cls := findClass_of_methodNamed B.named
  have hin : meth.name = "<init>" := (name_of_methodNamed B.named B.method).1
  subst hsz
  have hD := hD0.self (sz := s.heap.size)
  generalize hAe : va_A [(h0, .inr (1, soc00))] s.heap.size = A at hD ⊢
  have hA : ∀ q : Nat, s.heap.size ≤ q → A q := fun q h => by rw [← hAe]; exact Or.inr h
  have hS : va_S A s.heap s.heap [] := va_S.rf
  have hl := lv_entry ([.ref h0]) (n := 2) (Nat.le_of_ble_eq_true rfl)
  rw [lg_entry_eq]
  generalize (lg_sl ([.ref h0]) ++ List.replicate (2 - (lg_sl ([.ref h0])).length) Slot.unset).toArray = ls at hl ⊢
  have hl : lv_has ls 2 [(0, .ref h0)] := hl
  have h_iX1 : ∀ w ∈ u_ws RX1 TX1 14, w ∈ wsX1_init := by decide +kernel
  have h_iX0 : ∀ w ∈ u_ws RX0 TX0 10, w ∈ wsX1_init := by decide +kernel
  refine lv_aload_n hx hb dX1_init_0 rfl (lv_at hl 0 rfl) ?_
  refine W.objInit hx hb hown (hts (.methodLink RX1 3 objectInit) (by decide +kernel)) (hts (.instanceMethod objectInit) (by decide +kernel)) (hts _ (List.mem_cons_of_mem _ (List.mem_append_left _ (List.mem_append_left _ (List.mem_of_getElem? (i := 2) rfl))))) rfl (by rw [hml]; exact hl.1) rfl dX1_init_1 (Nat.le_of_ble_eq_true rfl) (Nat.le_of_ble_eq_true rfl) ?_
  refine W.eq (g2 := F0 m 4 ls []) rfl ?_
  refine lv_aload_n hx hb dX1_init_4 rfl (lv_at hl 0 rfl) ?_
  refine lv_bipush (v := 60) hx hb dX1_init_5 (by decide) ?_
  refine va_put (D := D) (ci := 1) (v := .int 60) (ty := .int) (C := RX1) (T := TX1) (N := 14) hx hb hts h_iX1 tyX1 tyX1_ok nmX1 hown hK hP hD hS 0 rfl rfl 2 (by decide) (hts (.fieldLink RX1 9 "CombersSociety$Society" "box" "I") (by decide +kernel)) (fun x hx => hx) rfl (tyX1_ok 2 (by decide)) rfl rfl (by decide) dX1_init_7 (fun H locs hP hD hS => ?_)
  refine lv_aload_n hx hb dX1_init_10 rfl (lv_at hl 0 rfl) ?_
  refine lv_bipush (v := 30) hx hb dX1_init_11 (by decide) ?_
  refine va_put (D := D) (ci := 1) (v := .int 30) (ty := .int) (C := RX1) (T := TX1) (N := 14) hx hb hts h_iX1 tyX1 tyX1_ok nmX1 hown hK hP hD hS 0 rfl rfl 3 (by decide) (hts (.fieldLink RX1 15 "CombersSociety$Society" "coals" "I") (by decide +kernel)) (fun x hx => hx) rfl (tyX1_ok 3 (by decide)) rfl rfl (by decide) dX1_init_13 (fun H locs hP hD hS => ?_)
  refine lv_aload_n hx hb dX1_init_16 rfl (lv_at hl 0 rfl) ?_
  refine lv_sipush (v := 200) hx hb dX1_init_17 (by decide) ?_
  refine va_put (D := D) (ci := 1) (v := .int 200) (ty := .int) (C := RX1) (T := TX1) (N := 14) hx hb hts h_iX1 tyX1 tyX1_ok nmX1 hown hK hP hD hS 0 rfl rfl 4 (by decide) (hts (.fieldLink RX1 18 "CombersSociety$Society" "wool" "I") (by decide +kernel)) (fun x hx => hx) rfl (tyX1_ok 4 (by decide)) rfl rfl (by decide) dX1_init_20 (fun H locs hP hD hS => ?_)
  refine lv_aload_n hx hb dX1_init_23 rfl (lv_at hl 0 rfl) ?_
  refine lv_iconst (v := 1) hx hb dX1_init_24 (by decide) ?_
  refine va_put (D := D) (ci := 1) (v := .int 1) (ty := .int) (C := RX1) (T := TX1) (N := 14) hx hb hts h_iX1 tyX1 tyX1_ok nmX1 hown hK hP hD hS 0 rfl rfl 6 (by decide) (hts (.fieldLink RX1 21 "CombersSociety$Society" "dues" "I") (by decide +kernel)) (fun x hx => hx) rfl (tyX1_ok 6 (by decide)) rfl rfl (by decide) dX1_init_25 (fun H locs hP hD hS => ?_)
  have hP : va_P D vwCl [(h0, .inr (1, socI ++ [.null, .null, .null, .null]))] H := hP
  have hD : va_D A [(h0, .inr (1, socI ++ [.null, .null, .null, .null]))] := hD
  refine lv_aload_n hx hb dX1_init_28 rfl (lv_at hl 0 rfl) ?_
  refine lv_bipush (v := 8) hx hb dX1_init_29 (by decide) ?_
  refine va_newa (atype := .int) (ty := .int) (N' := 8) (a0 := (8, .inl (fAll 0))) hx hb (hts (.arrayClass .int) (by decide +kernel)) rfl hK hP hD hS hA (fun cA => rfl) (by decide) rfl (by decide) (by show 0 + 1 ≤ 16; decide) (by show 0 + 8 ≤ 146; decide) dX1_init_31 (fun q1 cI H hK hP hD hS => ?_)
  have hP : va_P D vwCl [(h0, .inr (1, socI ++ [.null, .null, .null, .null])), (q1, .inl (cI, 8, .inl (fAll 0)))] H := hP
  have hD : va_D A [(h0, .inr (1, socI ++ [.null, .null, .null, .null])), (q1, .inl (cI, 8, .inl (fAll 0)))] := hD
  have hK : va_K D vwCl [(cI, .int)] s := hK
  refine va_putF (D := D) (ci := 1) (v := .ref q1) (ty := .array .int) (C := RX1) (T := TX1) (N := 14) hx hb hts h_iX1 tyX1 tyX1_ok nmX1 hown hK hP hD hS 0 rfl rfl 10 (by decide) (hts (.fieldLink RX1 24 "CombersSociety$Society" "fevers" "[I") (by decide +kernel)) (fun x hx => hx) rfl hin rfl (tyX1_ok 10 (by decide)) rfl rfl (by decide) dX1_init_33 (fun H locs hP hD hS => ?_)
  have hP : va_P D vwCl [(h0, .inr (1, socI ++ [.ref q1, .null, .null, .null])), (q1, .inl (cI, 8, .inl (fAll 0)))] H := hP
  have hD : va_D A [(h0, .inr (1, socI ++ [.ref q1, .null, .null, .null])), (q1, .inl (cI, 8, .inl (fAll 0)))] := hD
  refine lv_iconst (v := 0) hx hb dX1_init_36 (by decide) ?_
  refine lv_istore_n (lv' := [(1, .int (0 : Int32)), (0, .ref h0)]) hx hb dX1_init_37 rfl hl (by decide) rfl ?_
  clear hl; intro ls hl
  have loop1 : ∀ (n i : Nat) (f : Nat → Int32), i + n = 8 → (∀ j, j < i → f j = -1) → ∀ (H : Heap) (locs : List Loc), va_P D vwCl [(h0, .inr (1, socI ++ [.ref q1, .null, .null, .null])), (q1, .inl (cI, 8, .inl f))] H → va_D A [(h0, .inr (1, socI ++ [.ref q1, .null, .null, .null])), (q1, .inl (cI, 8, .inl f))] → va_S A s.heap H locs → ∀ ls : Array Slot, lv_has ls 2 [(1, .int (nI i)), (0, .ref h0)] → (∀ (f : Nat → Int32), (∀ j, j < 8 → f j = -1) → ∀ (H : Heap) (locs : List Loc), va_P D vwCl [(h0, .inr (1, socI ++ [.ref q1, .null, .null, .null])), (q1, .inl (cI, 8, .inl f))] H → va_D A [(h0, .inr (1, socI ++ [.ref q1, .null, .null, .null])), (q1, .inl (cI, 8, .inl f))] → va_S A s.heap H locs → ∀ ls : Array Slot, lv_has ls 2 [(0, .ref h0)] → W p l e (headSpec wsX1_init { frames := 2, cells := 16, slots := 146, locals := 32 }).room s m [.ref h0].toArray below meth c H locs 1 8 (MQ below (va_Qv (fun u : (Nat → Nat) × (Nat → Int32) => ∀ j, j < 8 → u.2 j = -1) (iPost D [(h0, .inr (1, soc00))] s.heap.size h0) A) [.ref h0].toArray s 16 146 A) (F0 m 60 ls [])) → W p l e (headSpec wsX1_init { frames := 2, cells := 16, slots := 146, locals := 32 }).room s m [.ref h0].toArray below meth c H locs 1 8 (MQ below (va_Qv (fun u : (Nat → Nat) × (Nat → Int32) => ∀ j, j < 8 → u.2 j = -1) (iPost D [(h0, .inr (1, soc00))] s.heap.size h0) A) [.ref h0].toArray s 16 146 A) (F0 m 38 ls []) := by
    clear hP hD hS hl
    intro n
    induction n with
    | zero =>
      intro i f hi hf H locs hP hD hS ls hl kk
      obtain rfl : 8 = i := by omega
      refine lv_iload_n hx hb dX1_init_38 rfl (lv_at hl 0 rfl) ?_
      refine lv_aload_n hx hb dX1_init_39 rfl (lv_at hl 1 rfl) ?_
      refine va_get (D := D) (ci := 1) (C := RX1) (T := TX1) (N := 14) hx hb hts h_iX1 hown hK hP 0 rfl rfl 10 (by decide) (hts (.fieldLink RX1 24 "CombersSociety$Society" "fevers" "[I") (by decide +kernel)) (fun x hx => hx) rfl dX1_init_40 ?_
      refine va_alen (D := D) (v := 8) hx hb hK hP 1 0 rfl rfl rfl dX1_init_43 ?_
      refine lv_icmp_ge (tgt := 60) hx hb dX1_init_44 (by decide) (fun c4 => ?_) (fun c4 => absurd (by decide) c4)
      exact kk f hf H locs hP hD hS ls (lv_sub hl [1] rfl)
    | succ n ih =>
      intro i f hi hf H locs hP hD hS ls hl kk
      refine lv_iload_n hx hb dX1_init_38 rfl (lv_at hl 0 rfl) ?_
      refine lv_aload_n hx hb dX1_init_39 rfl (lv_at hl 1 rfl) ?_
      refine va_get (D := D) (ci := 1) (C := RX1) (T := TX1) (N := 14) hx hb hts h_iX1 hown hK hP 0 rfl rfl 10 (by decide) (hts (.fieldLink RX1 24 "CombersSociety$Society" "fevers" "[I") (by decide +kernel)) (fun x hx => hx) rfl dX1_init_40 ?_
      refine va_alen (D := D) (v := 8) hx hb hK hP 1 0 rfl rfl rfl dX1_init_43 ?_
      refine lv_icmp_ge (tgt := 60) hx hb dX1_init_44 (by decide) (fun c1 => absurd c1 (show ¬ (8 : Int32) ≤ nI i from (nI_ge (a := i) (b := 8) (by omega) (by decide) : ¬ nI 8 ≤ nI i))) (fun c1 => ?_)
      refine lv_aload_n hx hb dX1_init_47 rfl (lv_at hl 1 rfl) ?_
      refine va_get (D := D) (ci := 1) (C := RX1) (T := TX1) (N := 14) hx hb hts h_iX1 hown hK hP 0 rfl rfl 10 (by decide) (hts (.fieldLink RX1 24 "CombersSociety$Society" "fevers" "[I") (by decide +kernel)) (fun x hx => hx) rfl dX1_init_48 ?_
      refine lv_iload_n hx hb dX1_init_51 rfl (lv_at hl 0 rfl) ?_
      refine lv_iconst (v := -1) hx hb dX1_init_52 (by decide) ?_
      refine va_iast (D := D) hx hb hK hP hD hS 1 0 rfl rfl (vp_in_nI (show i < 8 by omega) (by decide)) dX1_init_53 (fun H locs hP hD hS => ?_)
      rw [nI_clamp (show i < 2 ^ 31 by omega)] at hP hD
      refine lv_iinc (v := (nI (i + 1))) (lv' := [(1, .int (nI (i + 1))), (0, .ref h0)]) hx hb dX1_init_54 hl (k := 0) rfl (nI_1 i) (by decide) rfl ?_
      clear hl; intro ls hl
      refine lv_goto (tgt := 38) hx hb dX1_init_57 (by decide) ?_
      exact ih (i + 1) (upd f i (-1)) (by omega) (fun j hj => by
        by_cases h : j = i
        · simp [upd, h]
        · simp only [upd, if_neg h]
          exact hf j (by omega)) H locs hP hD hS ls hl kk
  refine loop1 8 0 (fAll 0) rfl (fun j hj => by omega) H locs hP hD hS ls hl ?_
  clear loop1 hP hD hS hl
  intro f1 hf1 H locs hP hD hS ls hl
  refine lv_aload_n hx hb dX1_init_60 rfl (lv_at hl 0 rfl) ?_
  refine lv_iconst (v := 3) hx hb dX1_init_61 (by decide) ?_
  refine va_newa (atype := .int) (ty := .int) (N' := 3) (a0 := (3, .inl (fAll 0))) hx hb (hts (.arrayClass .int) (by decide +kernel)) rfl hK hP hD hS hA (fun cA => rfl) (by decide) rfl (by decide) (by show 1 + 1 ≤ 16; decide) (by show 8 + 3 ≤ 146; decide) dX1_init_62 (fun q2 cI2 H hK hP hD hS => ?_)
  obtain rfl : cI = cI2 := u_int_eq 0 1 hK rfl rfl
  have hP : va_P D vwCl [(h0, .inr (1, socI ++ [.ref q1, .null, .null, .null])), (q1, .inl (cI, 8, .inl f1)), (q2, .inl (cI, 3, .inl (fAll 0)))] H := hP
  have hD : va_D A [(h0, .inr (1, socI ++ [.ref q1, .null, .null, .null])), (q1, .inl (cI, 8, .inl f1)), (q2, .inl (cI, 3, .inl (fAll 0)))] := hD
  have hK : va_K D vwCl [(cI, .int)] s := hK.sub [0] rfl
  refine va_putF (D := D) (ci := 1) (v := .ref q2) (ty := .array .int) (C := RX1) (T := TX1) (N := 14) hx hb hts h_iX1 tyX1 tyX1_ok nmX1 hown hK hP hD hS 0 rfl rfl 11 (by decide) (hts (.fieldLink RX1 28 "CombersSociety$Society" "heats" "[I") (by decide +kernel)) (fun x hx => hx) rfl hin rfl (tyX1_ok 11 (by decide)) rfl rfl (Nat.le_of_ble_eq_true rfl) dX1_init_64 (fun H locs hP hD hS => ?_)
  have hP : va_P D vwCl [(h0, .inr (1, socI ++ [.ref q1, .ref q2, .null, .null])), (q1, .inl (cI, 8, .inl f1)), (q2, .inl (cI, 3, .inl (fAll 0)))] H := hP
  have hD : va_D A [(h0, .inr (1, socI ++ [.ref q1, .ref q2, .null, .null])), (q1, .inl (cI, 8, .inl f1)), (q2, .inl (cI, 3, .inl (fAll 0)))] := hD
  refine lv_aload_n hx hb dX1_init_67 rfl (lv_at hl 0 rfl) ?_
  refine lv_iconst (v := 3) hx hb dX1_init_68 (by decide) ?_
  refine va_newa (atype := .int) (ty := .int) (N' := 3) (a0 := (3, .inl (fAll 0))) hx hb (hts (.arrayClass .int) (by decide +kernel)) rfl hK hP hD hS hA (fun cA => rfl) (by decide) rfl (by decide) (by show 1 + 1 + 1 ≤ 16; decide) (by show 8 + 3 + 3 ≤ 146; decide) dX1_init_69 (fun q3 cI3 H hK hP hD hS => ?_)
  obtain rfl : cI = cI3 := u_int_eq 0 1 hK rfl rfl
  have hP : va_P D vwCl [(h0, .inr (1, socI ++ [.ref q1, .ref q2, .null, .null])), (q1, .inl (cI, 8, .inl f1)), (q2, .inl (cI, 3, .inl (fAll 0))), (q3, .inl (cI, 3, .inl (fAll 0)))] H := hP
  have hD : va_D A [(h0, .inr (1, socI ++ [.ref q1, .ref q2, .null, .null])), (q1, .inl (cI, 8, .inl f1)), (q2, .inl (cI, 3, .inl (fAll 0))), (q3, .inl (cI, 3, .inl (fAll 0)))] := hD
  have hK : va_K D vwCl [(cI, .int)] s := hK.sub [0] rfl
  refine va_putF (D := D) (ci := 1) (v := .ref q3) (ty := .array .int) (C := RX1) (T := TX1) (N := 14) hx hb hts h_iX1 tyX1 tyX1_ok nmX1 hown hK hP hD hS 0 rfl rfl 12 (by decide) (hts (.fieldLink RX1 31 "CombersSociety$Society" "combing" "[I") (by decide +kernel)) (fun x hx => hx) rfl hin rfl (tyX1_ok 12 (by decide)) rfl rfl (Nat.le_of_ble_eq_true rfl) dX1_init_71 (fun H locs hP hD hS => ?_)
  have hP : va_P D vwCl [(h0, .inr (1, socI ++ [.ref q1, .ref q2, .ref q3, .null])), (q1, .inl (cI, 8, .inl f1)), (q2, .inl (cI, 3, .inl (fAll 0))), (q3, .inl (cI, 3, .inl (fAll 0)))] H := hP
  have hD : va_D A [(h0, .inr (1, socI ++ [.ref q1, .ref q2, .ref q3, .null])), (q1, .inl (cI, 8, .inl f1)), (q2, .inl (cI, 3, .inl (fAll 0))), (q3, .inl (cI, 3, .inl (fAll 0)))] := hD
  refine lv_aload_n hx hb dX1_init_74 rfl (lv_at hl 0 rfl) ?_
  refine lv_bipush (v := 12) hx hb dX1_init_75 (by decide) ?_
  refine va_newq (C := RX0) (N' := 12) hx hb hown (hts (.classLink RX1 34 RX0) (by decide +kernel)) hO hK hP hD hS hA (by decide) rfl (by decide) (by show 1 + 1 + 1 + 1 ≤ 16; decide) (by show 8 + 3 + 3 + 12 ≤ 146; decide) dX1_init_77 (fun q4 cM H hK hP hD hS => ?_)
  have hP : va_P D vwCl [(h0, .inr (1, socI ++ [.ref q1, .ref q2, .ref q3, .null])), (q1, .inl (cI, 8, .inl f1)), (q2, .inl (cI, 3, .inl (fAll 0))), (q3, .inl (cI, 3, .inl (fAll 0))), (q4, .inl (cM, 12, .inr (.inr (.inr (.inr (fun _ => none))))))] H := hP
  have hD : va_D A [(h0, .inr (1, socI ++ [.ref q1, .ref q2, .ref q3, .null])), (q1, .inl (cI, 8, .inl f1)), (q2, .inl (cI, 3, .inl (fAll 0))), (q3, .inl (cI, 3, .inl (fAll 0))), (q4, .inl (cM, 12, .inr (.inr (.inr (.inr (fun _ => none))))))] := hD
  have hK : va_K D vwCl (cTys cI cM) s := hK
  refine va_putF (D := D) (ci := 1) (v := .ref q4) (ty := .array (.object RX0)) (C := RX1) (T := TX1) (N := 14) hx hb hts h_iX1 tyX1 tyX1_ok nmX1 hown hK hP hD hS 0 rfl rfl 13 (by decide) (hts (.fieldLink RX1 36 "CombersSociety$Society" "members" "[LCombersSociety$Member;") (by decide +kernel)) (fun x hx => hx) rfl hin rfl (tyX1_ok 13 (by decide)) rfl rfl (Nat.le_of_ble_eq_true rfl) dX1_init_80 (fun H locs hP hD hS => ?_)
  have hz : (fun _ : Nat => (none : Option Nat)) = iMs (fun _ => 0) 0 := by
    funext j
    simp [iMs]
  rw [hz] at hP hD
  have hP : va_P D vwCl (iw5 cI cM h0 q1 q2 q3 q4 f1 (fun _ => 0) 0) H := hP
  have hD : va_D A (iw5 cI cM h0 q1 q2 q3 q4 f1 (fun _ => 0) 0) := hD
  refine lv_iconst (v := 0) hx hb dX1_init_83 (by decide) ?_
  refine lv_istore_n (lv' := [(1, .int (0 : Int32)), (0, .ref h0)]) hx hb dX1_init_84 rfl hl (by decide) rfl ?_
  clear hl; intro ls hl
  have loop2 : ∀ (n i : Nat) (b : Nat → Nat), i + n = 12 → ∀ (H : Heap) (locs : List Loc), va_P D vwCl (iw5 cI cM h0 q1 q2 q3 q4 f1 b i) H → va_D A (iw5 cI cM h0 q1 q2 q3 q4 f1 b i) → va_S A s.heap H locs → ∀ ls : Array Slot, lv_has ls 2 [(1, .int (nI i)), (0, .ref h0)] → W p l e (headSpec wsX1_init { frames := 2, cells := 16, slots := 146, locals := 32 }).room s m [.ref h0].toArray below meth c H locs (4 + i) (26 + 10 * i) (MQ below (va_Qv (fun u : (Nat → Nat) × (Nat → Int32) => ∀ j, j < 8 → u.2 j = -1) (iPost D [(h0, .inr (1, soc00))] s.heap.size h0) A) [.ref h0].toArray s 16 146 A) (F0 m 85 ls []) := by
    clear hP hD hS hl
    intro n
    induction n with
    | zero =>
      intro i b hi H locs hP hD hS ls hl
      obtain rfl : 12 = i := by omega
      refine lv_iload_n hx hb dX1_init_85 rfl (lv_at hl 0 rfl) ?_
      refine lv_aload_n hx hb dX1_init_86 rfl (lv_at hl 1 rfl) ?_
      refine va_get (D := D) (ci := 1) (C := RX1) (T := TX1) (N := 14) hx hb hts h_iX1 hown hK hP 0 rfl rfl 13 (by decide) (hts (.fieldLink RX1 36 "CombersSociety$Society" "members" "[LCombersSociety$Member;") (by decide +kernel)) (fun x hx => hx) rfl dX1_init_87 ?_
      refine va_alen (D := D) (v := 12) hx hb hK hP 4 1 rfl rfl rfl dX1_init_90 ?_
      refine lv_icmp_ge (tgt := 113) hx hb dX1_init_91 (by decide) (fun c4 => ?_) (fun c4 => absurd (by decide) c4)
      exact W.vret hx hb hr (fun t ht hW => ⟨⟨(iAd q1 q2 q3 q4 b, f1), rfl, hf1, cI, cM, va_K.moved hW.alike hK, by rw [ht]; exact hP, by rw [hAe]; exact hD⟩, hS.F ht⟩) hS.2.2 dX1_init_113
    | succ n ih =>
      intro i b hi H locs hP hD hS ls hl
      refine lv_iload_n hx hb dX1_init_85 rfl (lv_at hl 0 rfl) ?_
      refine lv_aload_n hx hb dX1_init_86 rfl (lv_at hl 1 rfl) ?_
      refine va_get (D := D) (ci := 1) (C := RX1) (T := TX1) (N := 14) hx hb hts h_iX1 hown hK hP 0 rfl rfl 13 (by decide) (hts (.fieldLink RX1 36 "CombersSociety$Society" "members" "[LCombersSociety$Member;") (by decide +kernel)) (fun x hx => hx) rfl dX1_init_87 ?_
      refine va_alen (D := D) (v := 12) hx hb hK hP 4 1 rfl rfl rfl dX1_init_90 ?_
      refine lv_icmp_ge (tgt := 113) hx hb dX1_init_91 (by decide) (fun c1 => absurd c1 (show ¬ (12 : Int32) ≤ nI i from (nI_ge (a := i) (b := 12) (by omega) (by decide) : ¬ nI 12 ≤ nI i))) (fun c1 => ?_)
      refine lv_aload_n hx hb dX1_init_94 rfl (lv_at hl 1 rfl) ?_
      refine va_get (D := D) (ci := 1) (C := RX1) (T := TX1) (N := 14) hx hb hts h_iX1 hown hK hP 0 rfl rfl 13 (by decide) (hts (.fieldLink RX1 36 "CombersSociety$Society" "members" "[LCombersSociety$Member;") (by decide +kernel)) (fun x hx => hx) rfl dX1_init_95 ?_
      refine lv_iload_n hx hb dX1_init_98 rfl (lv_at hl 0 rfl) ?_
      refine va_new (ci := 0) (fs := mem00) (C := RX0) (T := TX0) (N := 10) hx hb hts h_iX0 tyX0 tyX0_ok hown (hts (.classLink RX1 34 RX0) (by decide +kernel)) (hts (.instantiable RX0 10) (by decide +kernel)) (hts (.initialized RX0) (by decide +kernel)) hK hP hD hS hA rfl (fun j hj => by rcases (show j = 0 ∨ j = 1 ∨ j = 2 ∨ j = 3 ∨ j = 4 ∨ j = 5 ∨ j = 6 ∨ j = 7 ∨ j = 8 ∨ j = 9 by omega) with rfl | rfl | rfl | rfl | rfl | rfl | rfl | rfl | rfl | rfl <;> rfl) (by show 4 + i + 1 ≤ 16; omega) (by show 26 + 10 * i + 10 ≤ 146; omega) dX1_init_99 (fun q H hP hD hS => ?_)
      refine W.widen (k := 4 + (i + 1)) (n := 26 + 10 * (i + 1)) (by omega) (by omega) ?_
      refine lv_dup hx hb dX1_init_102 rfl ?_
      have hlast : ((iw5 cI cM h0 q1 q2 q3 q4 f1 b i) ++ [(q, .inr (0, mem00))])[(iw5 cI cM h0 q1 q2 q3 q4 f1 b i).length]? = some ((q, .inr (0, mem00)) : Nat × va_E) := by simp
      have hPc : va_P D vwCl (iw1 q mem00) H := hP.by (fun _ => (iw5 cI cM h0 q1 q2 q3 q4 f1 b i).length) (fun k x hk => by
        have hk0 : k < 1 := (List.getElem?_eq_some_iff.mp hk).1
        obtain rfl : k = 0 := by omega
        exact hlast.trans hk)
      have hDc : va_D A (iw1 q mem00) := hD.by (fun _ => (iw5 cI cM h0 q1 q2 q3 q4 f1 b i).length) (fun k x hk => by
        have hk0 : k < 1 := (List.getElem?_eq_some_iff.mp hk).1
        obtain rfl : k = 0 := by omega
        exact hlast.trans hk) (fun i j hi hj _ => by
        have h1 : i < 1 := hi
        have h2 : j < 1 := hj
        omega)
      have hFc : ∀ q', va_A (iw1 q mem00) H.size q' → A q' := fun q' h => by
        rcases h with ⟨k, e', hk⟩ | h
        · exact hDc.2 k _ hk
        · exact hA q' (Nat.le_trans hS.1 h)
      refine va_callv (va_runI (As := []) (rest := [.ref q, .int (nI i), .ref q4]) ⟨hx, hb, hml, hown, hts⟩ (i_X0 l D q H.size) (cwI 0 hts gX1_init_X0_init rfl rfl rfl (hts (.initialized RX0) (by decide +kernel)) (hts (.methodLink RX1 40 yX0_init) (by decide +kernel)) (hts (.instanceMethod yX0_init) (by decide +kernel)) rfl (by decide +kernel) ⟨Nat.le_of_ble_eq_true rfl, Nat.le_of_ble_eq_true rfl⟩) ⟨nPre.blind, nPre.at (hK.sub (tys' := []) [] rfl) hPc hDc _⟩ rfl rfl hl.1 rfl (lv_room (Nat.le_of_ble_eq_true rfl)) dX1_init_103 ⟨(by show 4 + (i + 1) ≤ 16; omega), (by show 26 + 10 * (i + 1) ≤ 146; omega)⟩) hS (fun q _ h => hFc q h) hFc (fun u t H1 locs ht hvm _ hB hz1 hk1 hS => ?_)
      obtain ⟨hP1, -, -⟩ := hB
      rw [ht] at hP1
      obtain ⟨hP, hD⟩ := grow_join hP hD hk1 hP1
      have hlast : ((iw5 cI cM h0 q1 q2 q3 q4 f1 b i) ++ [(q, .inr (0, mem01))])[(iw5 cI cM h0 q1 q2 q3 q4 f1 b i).length]? = some ((q, .inr (0, mem01)) : Nat × va_E) := by simp
      refine va_astq (D := D) hx hb hK hP hD hS 4 1 (iw5 cI cM h0 q1 q2 q3 q4 f1 b i).length 0 rfl rfl hlast rfl (vp_in_nI (show i < 12 by omega) (by decide)) dX1_init_106 (fun H locs hP hD hS => ?_)
      rw [nI_clamp (show i < 2 ^ 31 by omega), iw5_succ] at hP hD
      refine lv_iinc (v := (nI (i + 1))) (lv' := [(1, .int (nI (i + 1))), (0, .ref h0)]) hx hb dX1_init_107 hl (k := 0) rfl (nI_1 i) (by decide) rfl ?_
      clear hl; intro ls hl
      refine lv_goto (tgt := 85) hx hb dX1_init_110 (by decide) ?_
      exact ih (i + 1) _ (by omega) _ _ hP hD hS ls hl
  exact loop2 12 0 _ rfl _ _ hP hD hS ls hl
