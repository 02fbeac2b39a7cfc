/-! CombersSociety() -/
theorem ap_l {α : Type} {xs ys : List α} {k : Nat} {q : α} (h : xs[k]? = some q) : (xs ++ ys)[k]? = some q := by
  rw [List.getElem?_append_left (List.getElem?_eq_some_iff.mp h).1]
  exact h
theorem ap_r {α : Type} {xs ys : List α} {k : Nat} {q : α} (h : ys[k]? = some q) : (xs ++ ys)[xs.length + k]? = some q := by
  rw [List.getElem?_append_right (Nat.le_add_right _ _), Nat.add_sub_cancel_left]
  exact h
theorem va_P.left {D : va_G} {xs ys : va_W} {H : Heap} (h : va_P D vwCl (xs ++ ys) H) : va_P D vwCl xs H := fun k q hk => h k q (ap_l hk)
theorem va_P.right {D : va_G} {xs ys : va_W} {H : Heap} (h : va_P D vwCl (xs ++ ys) H) : va_P D vwCl ys H := fun k q hk => h _ q (ap_r hk)
theorem va_D.left {A : Nat → Prop} {xs ys : va_W} (h : va_D A (xs ++ ys)) : va_D A xs := h.by (fun k => k) (fun _ _ hk => ap_l hk) (fun _ _ _ _ e => e)
theorem va_D.addr {A : Nat → Prop} {ws ws' : va_W} (h : va_D A ws) (he : ws'.map Prod.fst = ws.map Prod.fst) : va_D A ws' := by
  have key : ∀ (k : Nat) (q : Nat × va_E), ws'[k]? = some q → ∃ q', ws[k]? = some q' ∧ q'.1 = q.1 := by
    intro k q hk
    have h1 : (ws'.map Prod.fst)[k]? = some q.1 := by rw [List.getElem?_map, hk]; rfl
    rw [he, List.getElem?_map] at h1
    cases h2 : ws[k]? with
    | none => rw [h2] at h1; cases h1
    | some q' => rw [h2] at h1; exact ⟨q', rfl, Option.some.inj h1⟩
  refine ⟨fun i j p q hi hj hpq => ?_, fun k q hk => ?_⟩
  · obtain ⟨p', a1, a2⟩ := key i p hi
    obtain ⟨q', b1, b2⟩ := key j q hj
    exact h.1 i j p' q' a1 b1 (by rw [a2, b2, hpq])
  · obtain ⟨q', a1, a2⟩ := key k q hk
    rw [← a2]
    exact h.2 k q' a1
theorem grow_join2 {D : va_G} {A : Nat → Prop} {ws w1 : va_W} {a : Nat} {e0 : va_E} {H H1 : Heap} (hP : va_P D vwCl (ws ++ [(a, e0)]) H) (hD : va_D A (ws ++ [(a, e0)])) (hk : ∀ q : Nat, q < H.size → ¬ va_A [(a, e0)] H.size q → H1[q]? = H[q]?) (hF : ∀ q, va_A [(a, e0)] H.size q → A q) (hP1 : va_P D vwCl w1 H1) (hD1 : va_D (va_A [(a, e0)] H.size) w1) : va_P D vwCl (ws ++ w1) H1 ∧ va_D A (ws ++ w1) := by
  have hlast : (ws ++ [(a, e0)])[ws.length]? = some (a, e0) := by simp
  have apart : ∀ (k : Nat) (q : Nat × va_E), ws[k]? = some q → q.1 < H.size ∧ ¬ va_A [(a, e0)] H.size q.1 := by
    intro k q hq
    have hkl : k < ws.length := (List.getElem?_eq_some_iff.mp hq).1
    have hlt := (hP k q (ap_l hq)).lt
    refine ⟨hlt, fun hA => ?_⟩
    rcases hA with ⟨j, e', hj⟩ | hge
    · have hj0 : j < 1 := (List.getElem?_eq_some_iff.mp hj).1
      obtain rfl : j = 0 := by omega
      have hq2 : (a, e0) = (q.1, e') := Option.some.inj hj
      have := hD.1 k ws.length q (a, e0) (ap_l hq) hlast (congrArg Prod.fst hq2).symm
      omega
    · omega
  refine ⟨va_P.app (fun k q hq => ?_) hP1, va_D.app hD.left (hD1.weaken (fun k q _ h => hF q.1 h)) (fun i j x y hx hy hxy => ?_)⟩
  · obtain ⟨g1, g2⟩ := apart k q hq
    exact (hP k q (ap_l hq)).kept (hk q.1 g1 g2)
  · exact (apart i x hx).2 (by rw [hxy]; exact hD1.2 j y hy)
theorem u_obj_eq {D : va_G} {tys tys' : List (ClassId × FieldType)} {U : State} {c1 c2 : ClassId} {C : String} (i j : Nat) (hK : va_K D vwCl tys U) (hK' : va_K D vwCl tys' U) (h1 : tys[i]? = some (c1, .object C)) (h2 : tys'[j]? = some (c2, .object C)) : c1 = c2 := by
  obtain ⟨kA, comp, a1, a2, a3, a4⟩ := (hK.2 i _ h1).2
  obtain ⟨kB, comp', b1, b2, b3, b4⟩ := (hK'.2 j _ h2).2
  exact Option.some.inj (a4.symm.trans b4)
theorem u_int_eq2 {D : va_G} {tys tys' : List (ClassId × FieldType)} {U : State} {c1 c2 : ClassId} (i j : Nat) (hK : va_K D vwCl tys U) (hK' : va_K D vwCl tys' U) (h1 : tys[i]? = some (c1, .int)) (h2 : tys'[j]? = some (c2, .int)) : c1 = c2 := by
  have e1 := (hK.2 i _ h1).2
  have e2 := (hK'.2 j _ h2).2
  exact Option.some.inj (e1.symm.trans e2)
def wPost (D : va_G) (A : Nat → Prop) : (Nat → Nat) × (Nat → Int32) × (Nat → Int32) → State → Prop := fun u U => ∃ cI cM, va_K D vwCl (cTys cI cM) U ∧ va_P D vwCl (cW cI cM u.1 0 (sgI u.2.1) (sgI u.2.2)) U.heap ∧ va_D A (cW cI cM u.1 0 (sgI u.2.1) (sgI u.2.2))
theorem jw5_addr {cI cM : ClassId} {h0 q1 q2 q3 q4 : Nat} {f1 : Nat → Int32} {b : Nat → Nat} {g : Nat → Option Nat} : (jw5 cI cM h0 q1 q2 q3 q4 f1 b g).map Prod.fst = (iw5 cI cM h0 q1 q2 q3 q4 f1 b 12).map Prod.fst := by
  unfold jw5 iw5
  rw [List.map_append, List.map_append]
  rfl
theorem world_of {D : va_G} {A : Nat → Prop} {cI cM : ClassId} {h0 q q' : Nat} {u u' : Nat → Nat} {f1 f1' : Nat → Int32} {H : Heap} (hP : va_P D vwCl (([(h0, .inr (2, [.ref q, .ref q']))] ++ iw5 cI cM q (u 1) (u 2) (u 3) (u 4) f1 (fun i => u (i+5)) 12) ++ iw5 cI cM q' (u' 1) (u' 2) (u' 3) (u' 4) f1' (fun i => u' (i+5)) 12 : va_W) H) (hD : va_D A (([(h0, .inr (2, [.ref q, .ref q']))] ++ iw5 cI cM q (u 1) (u 2) (u 3) (u 4) f1 (fun i => u (i+5)) 12) ++ iw5 cI cM q' (u' 1) (u' 2) (u' 3) (u' 4) f1' (fun i => u' (i+5)) 12 : va_W)) :
    va_P D vwCl (cW cI cM (aAll h0 q u q' u') 0 (sgI f1) (sgI f1')) H ∧ va_D A (cW cI cM (aAll h0 q u q' u') 0 (sgI f1) (sgI f1')) := by
  have hg1 : ∀ j, j < 12 → (fun i => some (aAll h0 q u q' u' (17*0+(i+5)))) j = some ((fun i => u (i+5)) j) := by
    intro j hj
    show some (aAll h0 q u q' u' (17*0+(j+5))) = some (u (j+5))
    unfold aAll
    rw [if_neg (by omega), if_pos (by omega), if_neg (by omega), show 17*0+(j+5) = j+5 by omega]
  have hg2 : ∀ j, j < 12 → (fun i => some (aAll h0 q u q' u' (17*1+(i+5)))) j = some ((fun i => u' (i+5)) j) := by
    intro j hj
    show some (aAll h0 q u q' u' (17*1+(j+5))) = some (u' (j+5))
    unfold aAll
    rw [if_neg (by omega), if_neg (by omega), if_neg (by omega), show 17*1+(j+5)-17 = j+5 by omega]
  have hP2 := va_P.app (va_P.app hP.left.left (iw5.jw hg1 hP.left.right)) (iw5.jw hg2 hP.right)
  have hD2 : va_D A (([(h0, .inr (2, [.ref q, .ref q']))] ++ jw5 cI cM q (u 1) (u 2) (u 3) (u 4) f1 (fun i => u (i+5)) (fun i => some (aAll h0 q u q' u' (17*0+(i+5))))) ++ jw5 cI cM q' (u' 1) (u' 2) (u' 3) (u' 4) f1' (fun i => u' (i+5)) (fun i => some (aAll h0 q u q' u' (17*1+(i+5)))) : va_W) := hD.addr (by rw [List.map_append, List.map_append, List.map_append, List.map_append, jw5_addr, jw5_addr])
  refine ⟨hP2.by (fun k => if k = 34 then 0 else k + 1) (fun k x hx => aAll_get k x hx), hD2.by (fun k => if k = 34 then 0 else k + 1) (fun k x hx => aAll_get k x hx) (fun i j hi hj hij => ?_)⟩
  have hi' : i < 35 := by simpa [cW, gws] using hi
  have hj' : j < 35 := by simpa [cW, gws] using hj
  by_cases a1 : i = 34 <;> by_cases a2 : j = 34 <;> simp only [a1, a2, if_true, if_false] at hij <;> omega
set_option maxHeartbeats 4000000 in
set_option maxRecDepth 100000 in
theorem i_X2 (l : Launch) (D : va_G) (h0 sz : Nat) : Met l yX2_init wsX2_init { frames := 3, cells := 34, slots := 320, locals := 53 } (va_Pc [.ref h0] (nPreO D [] [(h0, .inr (2, [.null, .null]))] sz)) (va_Qv (fun u : (Nat → Nat) × (Nat → Int32) × (Nat → Int32) => u.1 34 = h0 ∧ (∀ j, j < 8 → u.2.1 j = -1) ∧ ∀ j, j < 8 → u.2.2 j = -1) (wPost D (va_A [(h0, .inr (2, [.null, .null]))] sz)) (va_A [(h0, .inr (2, [.null, .null]))] sz)) 34 320 (va_A [(h0, .inr (2, [.null, .null]))] sz) := by
  refine Met.ofW (cc := cX2_init) (maxL := 1) (ret := none) (by decide) rfl ?_
  intro p e s m args below meth c s₁ B hml hv
  obtain ⟨rfl, hsz, hP, hK, hD0, hO⟩ := hv
  have hx := B.exec
  have hb := B.bytes
  have hr := B.returns
  have hts := atoms_spec (ws := wsX2_init) B.pre
  have hown : s.vm.findClass RX2 = some m.cls := findClass_of_methodNamed B.named
  have hin : meth.name = "<init>" := (name_of_methodNamed B.named B.method).1
  subst hsz
  have hD := hD0.self (sz := s.heap.size)
  generalize hAe : va_A [(h0, .inr (2, [.null, .null]))] s.heap.size = A at hD ⊢
  have hA : ∀ q : Nat, s.heap.size ≤ q → A q := fun q h => by rw [← hAe]; exact Or.inr h
  have hS : va_S A s.heap s.heap [] := va_S.rf
  have hl := lv_entry ([.ref h0]) (n := 1) (Nat.le_of_ble_eq_true rfl)
  rw [lg_entry_eq]
  generalize (lg_sl ([.ref h0]) ++ List.replicate (1 - (lg_sl ([.ref h0])).length) Slot.unset).toArray = ls at hl ⊢
  have hl : lv_has ls 1 [(0, .ref h0)] := hl
  have h_iX1 : ∀ w ∈ u_ws RX1 TX1 14, w ∈ wsX2_init := by decide +kernel
  have h_iX2 : ∀ w ∈ u_ws RX2 TX2 2, w ∈ wsX2_init := by decide +kernel
  have hfs : ∀ j, j < 14 → defaultValue (tyX1 j) = vp_V soc00 j := fun j hj => by rcases (show j = 0 ∨ j = 1 ∨ j = 2 ∨ j = 3 ∨ j = 4 ∨ j = 5 ∨ j = 6 ∨ j = 7 ∨ j = 8 ∨ j = 9 ∨ j = 10 ∨ j = 11 ∨ j = 12 ∨ j = 13 by omega) with rfl | rfl | rfl | rfl | rfl | rfl | rfl | rfl | rfl | rfl | rfl | rfl | rfl | rfl <;> rfl
  refine lv_aload_n hx hb dX2_init_0 rfl (lv_at hl 0 rfl) ?_
  refine W.objInit hx hb hown (hts (.methodLink RX2 1 objectInit) (by decide +kernel)) (hts (.instanceMethod objectInit) (by decide +kernel)) (hts _ (List.mem_cons_of_mem _ (List.mem_append_left _ (List.mem_append_left _ (List.mem_append_left _ (List.mem_append_left _ (List.mem_of_getElem? (i := 2) rfl))))))) rfl (by rw [hml]; exact hl.1) rfl dX2_init_1 (Nat.le_of_ble_eq_true rfl) (Nat.le_of_ble_eq_true rfl) ?_
  refine W.eq (g2 := F0 m 4 ls []) rfl ?_
  refine lv_aload_n hx hb dX2_init_4 rfl (lv_at hl 0 rfl) ?_
  refine va_new (ci := 1) (fs := soc00) (C := RX1) (T := TX1) (N := 14) hx hb hts h_iX1 tyX1 tyX1_ok hown (hts (.classLink RX2 7 RX1) (by decide +kernel)) (hts (.instantiable RX1 14) (by decide +kernel)) (hts (.initialized RX1) (by decide +kernel)) hK hP hD hS hA rfl hfs (by show 0 + 1 ≤ 34; decide) (by show 0 + 14 ≤ 320; decide) dX2_init_5 (fun q H hP hD hS => ?_)
  refine lv_dup hx hb dX2_init_8 rfl ?_
  have hlast : ([(h0, .inr (2, [.null, .null]))] ++ [(q, .inr (1, soc00))] : va_W)[1]? = some ((q, .inr (1, soc00)) : Nat × va_E) := rfl
  have hPc : va_P D vwCl [(q, .inr (1, soc00))] H := hP.right
  have hDc : va_D A [(q, .inr (1, soc00))] := hD.sub [1] (by decide) rfl
  have hFc : ∀ q', va_A [((q, .inr (1, soc00)) : Nat × va_E)] H.size q' → A q' := fun q' h => by
    rcases h with ⟨k, e', hk⟩ | h
    · exact hDc.2 k _ hk
    · exact hA q' (Nat.le_trans hS.1 h)
  refine va_callv (va_runI (As := []) (rest := [.ref q, .ref h0]) ⟨hx, hb, hml, hown, hts⟩ (i_X1 l D q H.size) (cwI 0 hts gX2_init_X1_init rfl rfl rfl (hts (.initialized RX1) (by decide +kernel)) (hts (.methodLink RX2 9 yX1_init) (by decide +kernel)) (hts (.instanceMethod yX1_init) (by decide +kernel)) rfl (by decide +kernel) ⟨Nat.le_of_ble_eq_true rfl, Nat.le_of_ble_eq_true rfl⟩) ⟨nPreO.blind, nPreO.at (hK.sub (tys' := []) [] rfl) hPc hDc hO _⟩ rfl rfl hl.1 rfl (lv_room (Nat.le_of_ble_eq_true rfl)) dX2_init_9 ⟨(by show 0 + 1 + 16 ≤ 34; decide), (by show 0 + 14 + 146 ≤ 320; decide)⟩) hS (fun q _ h => hFc q h) hFc (fun u t H1 locs ht hvm hu hB hz1 hk1 hS => ?_)
  obtain ⟨cI, cM, hK1, hP1, hD1⟩ := hB
  rw [ht] at hP1
  have hK1 := va_K.moved hvm.symm hK1
  obtain ⟨hP, hD⟩ := grow_join2 hP hD hk1 hFc hP1 hD1
  refine va_putF (D := D) (ci := 2) (v := .ref q) (ty := .object RX1) (C := RX2) (T := TX2) (N := 2) hx hb hts h_iX2 tyX2 tyX2_ok nmX2 hown hK hP hD hS 0 (fs := [.null, .null]) rfl rfl 0 (by decide) (hts (.fieldLink RX2 10 "CombersSociety" "now" "LCombersSociety$Society;") (by decide +kernel)) (fun x hx => hx) rfl hin rfl (tyX2_ok 0 (by decide)) rfl rfl (by decide) dX2_init_12 (fun H locs hP hD hS => ?_)
  obtain ⟨u1, u2⟩ := u
  have hP : va_P D vwCl ([(h0, .inr (2, [.ref q, .null]))] ++ iw5 cI cM q (u1 1) (u1 2) (u1 3) (u1 4) u2 (fun i => u1 (i+5)) 12) H := hP
  have hD : va_D A ([(h0, .inr (2, [.ref q, .null]))] ++ iw5 cI cM q (u1 1) (u1 2) (u1 3) (u1 4) u2 (fun i => u1 (i+5)) 12) := hD
  refine lv_aload_n hx hb dX2_init_15 rfl (lv_at hl 0 rfl) ?_
  refine va_new (ci := 1) (fs := soc00) (C := RX1) (T := TX1) (N := 14) hx hb hts h_iX1 tyX1 tyX1_ok hown (hts (.classLink RX2 7 RX1) (by decide +kernel)) (hts (.instantiable RX1 14) (by decide +kernel)) (hts (.initialized RX1) (by decide +kernel)) hK hP hD hS hA rfl hfs (by show 0 + 1 + 16 + 1 ≤ 34; decide) (by show 0 + 14 + 146 + 14 ≤ 320; decide) dX2_init_16 (fun q' H hP hD hS => ?_)
  refine lv_dup hx hb dX2_init_19 rfl ?_
  have hPc : va_P D vwCl [(q', .inr (1, soc00))] H := hP.right
  have hDc : va_D A [((q', .inr (1, soc00)) : Nat × va_E)] := hD.by (fun _ => ([(h0, .inr (2, [.ref q, .null]))] ++ iw5 cI cM q (u1 1) (u1 2) (u1 3) (u1 4) u2 (fun i => u1 (i+5)) 12 : va_W).length) (fun k x hk => by
    have hk0 : k < 1 := (List.getElem?_eq_some_iff.mp hk).1
    obtain rfl : k = 0 := by omega
    exact ap_r (k := 0) hk) (fun i j hi hj _ => by
    have h1 : i < 1 := hi
    have h2 : j < 1 := hj
    omega)
  have hFc : ∀ q2, va_A [((q', .inr (1, soc00)) : Nat × va_E)] H.size q2 → A q2 := fun q2 h => by
    rcases h with ⟨k, e', hk⟩ | h
    · exact hDc.2 k _ hk
    · exact hA q2 (Nat.le_trans hS.1 h)
  refine va_callv (va_runI (As := []) (rest := [.ref q', .ref h0]) ⟨hx, hb, hml, hown, hts⟩ (i_X1 l D q' H.size) (cwI 0 hts gX2_init_X1_init rfl rfl rfl (hts (.initialized RX1) (by decide +kernel)) (hts (.methodLink RX2 9 yX1_init) (by decide +kernel)) (hts (.instanceMethod yX1_init) (by decide +kernel)) rfl (by decide +kernel) ⟨Nat.le_of_ble_eq_true rfl, Nat.le_of_ble_eq_true rfl⟩) ⟨nPreO.blind, nPreO.at (hK.sub (tys' := []) [] rfl) hPc hDc hO _⟩ rfl rfl hl.1 rfl (lv_room (Nat.le_of_ble_eq_true rfl)) dX2_init_20 ⟨(by show 0 + 1 + 16 + 1 + 16 ≤ 34; decide), (by show 0 + 14 + 146 + 14 + 146 ≤ 320; decide)⟩) hS (fun q _ h => hFc q h) hFc (fun u t H1 locs ht hvm hu' hB hz1 hk1 hS => ?_)
  obtain ⟨cI', cM', hK2, hP1, hD1⟩ := hB
  rw [ht] at hP1
  have hK2 := va_K.moved hvm.symm hK2
  obtain rfl : cI = cI' := u_int_eq2 0 0 hK1 hK2 rfl rfl
  obtain rfl : cM = cM' := u_obj_eq 1 1 hK1 hK2 rfl rfl
  obtain ⟨hP, hD⟩ := grow_join2 hP hD hk1 hFc hP1 hD1
  refine va_putF (D := D) (ci := 2) (v := .ref q') (ty := .object RX1) (C := RX2) (T := TX2) (N := 2) hx hb hts h_iX2 tyX2 tyX2_ok nmX2 hown hK hP hD hS 0 (fs := [.ref q, .null]) rfl rfl 1 (by decide) (hts (.fieldLink RX2 16 "CombersSociety" "trial" "LCombersSociety$Society;") (by decide +kernel)) (fun x hx => hx) rfl hin rfl (tyX2_ok 1 (by decide)) rfl rfl (Nat.le_refl 2) dX2_init_23 (fun H locs hP hD hS => ?_)
  obtain ⟨v1, v2⟩ := u
  obtain ⟨hP, hD⟩ := world_of (h0 := h0) (q := q) (q' := q') (u := u1) (u' := v1) (f1 := u2) (f1' := v2) (cI := cI) (cM := cM) hP hD
  exact W.vret hx hb hr (fun t ht hW => ⟨⟨(aAll h0 q u1 q' v1, u2, v2), rfl, ⟨rfl, hu, hu'⟩, cI, cM, va_K.moved hW.alike hK1, by rw [ht]; exact hP, hD⟩, hS.F ht⟩) hS.2.2 dX2_init_26
