set_option maxHeartbeats 4000000 in
set_option maxRecDepth 100000 in
/-- YOUR PART: from the entry, for every script of at most 2048 ints, the law comes to its end with true -/
theorem whole_start {p : Program} {e : Env} {s : State} {m : MethodId} {below : List Frame} {meth : Method} {c : Code} (l : Launch) (hflags : l.flags = flags0) {b L : Nat} {xs : Nat → Int32} (hL : L ≤ 2048) (C0 : lw_At p s m meth c b L xs) : W p l e room_1 s m #[Value.ref b] below meth c s.heap [] 0 0 (lw_Z below #[Value.ref b] s) (entryFrame m ([Value.ref b] : List Value).toArray 9) := by
  obtain ⟨hx, hb, hr, hml, hown, hts0, hX, hbl, hlocks, hgv⟩ := id C0
  have hl0 : l.stackTraces = false := by
    unfold Launch.stackTraces
    rw [hflags]
    decide
  have hts : ∀ w ∈ wsL_law, w.before #[Value.ref b] s = true := fun w hw => hts0 w (wsL_law_in w hw)
  have hown : s.vm.findClass RL = some m.cls := hown
  have F : CallFix p m c cL_law 9 s #[Value.ref b] wsL_law RL := ⟨hx, hb, hml, hown, hts⟩
  obtain ⟨D, hK⟩ := st_K hts
  have hcur : s.vm.findClass RX2 = some (D.1 2) := (hK.1 2 _ rfl).2.1
  have hN : lSt s := ⟨st_xN hts0 hcur, st_rNw hts0, st_xC hgv⟩
  have hO : va_AO RX0 s := va_AO.of (hts0 (.arrayOver (.object RX0)) (by decide +kernel))
  have hZ := st_xZ hts0 hgv
  generalize hAe : (fun q : Nat => s.heap.size ≤ q) = A at hZ
  have hA : ∀ q : Nat, s.heap.size ≤ q → A q := fun q h => by rw [← hAe]; exact h
  have hS : va_S A s.heap s.heap [] := va_S.rf
  have hP : va_P D vwCl [] s.heap := fun k q h => by simp at h
  have hD : va_D A [] := ⟨fun i j p q h => by simp at h, fun k q h => by simp at h⟩
  have hl := lv_entry ([.ref b]) (n := 9) (Nat.le_of_ble_eq_true rfl)
  rw [lg_entry_eq]
  generalize (lg_sl ([.ref b]) ++ List.replicate (9 - (lg_sl ([.ref b])).length) Slot.unset).toArray = ls at hl ⊢
  have hl : lv_has ls 9 [(0, .ref b)] := hl
  refine va_new (ci := 2) (fs := [.null, .null]) (C := RX2) (T := TX2) (N := 2) hx hb hts st_i2 tyX2 tyX2_ok hown (hts (.classLink RL 8 RX2) (by decide +kernel)) (hts (.instantiable RX2 2) (by decide +kernel)) (hts (.initialized RX2) (by decide +kernel)) hK hP hD hS hA rfl (fun j hj => by rcases (show j = 0 ∨ j = 1 by omega) with rfl | rfl <;> rfl) (by show 0 + 1 ≤ 601024; decide) (by show 0 + 2 ≤ 7293034; decide) dL_law_0 (fun q0 H hP hD hS => ?_)
  have hP : va_P D vwCl [(q0, .inr (2, [.null, .null]))] H := hP
  have hD : va_D A [((q0, .inr (2, [.null, .null])) : Nat × va_E)] := hD
  have hFc : ∀ q', va_A [((q0, .inr (2, [.null, .null])) : Nat × va_E)] H.size q' → A q' := fun q' h => by
    rcases h with ⟨k, e', hk⟩ | h
    · exact hD.2 k _ hk
    · exact hA q' (Nat.le_trans hS.1 h)
  refine lv_dup hx hb dL_law_3 rfl ?_
  refine va_callv (va_runI (As := []) (rest := [.ref q0]) F (i_X2 l D q0 H.size) (cwI 0 hts gL_law_X2_init rfl rfl rfl (hts (.initialized RX2) (by decide +kernel)) (hts (.methodLink RL 66 yX2_init) (by decide +kernel)) (hts (.instanceMethod yX2_init) (by decide +kernel)) rfl (by decide +kernel) ⟨Nat.le_of_ble_eq_true rfl, Nat.le_of_ble_eq_true rfl⟩) ⟨nPreO.blind, nPreO.at hK hP hD hO _⟩ rfl rfl hl.1 rfl (lv_room (Nat.le_of_ble_eq_true rfl)) dL_law_4 ⟨(by show 0 + 1 + 34 ≤ 601024; decide), (by show 0 + 2 + 320 ≤ 7293034; decide)⟩) hS (fun q _ h => hFc q h) hFc (fun u t H1 locs ht hvm hu hB hz1 hk1 hS => ?_)
  obtain ⟨cI, cM, hK1, hP1, hD1⟩ := hB
  obtain ⟨a, f1, f2⟩ := u
  obtain ⟨hq0, hf1, hf2⟩ := hu
  rw [ht] at hP1
  have hK1 := va_K.moved hvm.symm hK1
  have hDn : va_D A (cW cI cM a 0 (sgI f1) (sgI f2)) := hD1.weaken (fun k q hk h => hFc q.1 h)
  have hPn : va_P D vwCl (cW cI cM a 0 (sgI f1) (sgI f2)) H1 := hP1
  have hq0 : a 34 = q0 := hq0
  clear hP1 hD1 hFc hz1 hk1 hP hD
  subst hq0
  refine lv_astore_n (lv' := [(1, .ref (a 34)), (0, .ref b)]) hx hb dL_law_7 rfl hl (by decide) rfl ?_
  clear hl; intro ls hl
  refine va_new (ci := 4) (fs := md00) (C := RX4) (T := TX4) (N := 5) hx hb hts st_i4 tyX4 tyX4_ok hown (hts (.classLink RL 67 RX4) (by decide +kernel)) (hts (.instantiable RX4 5) (by decide +kernel)) (hts (.initialized RX4) (by decide +kernel)) hK1 hPn hDn hS hA rfl (fun j hj => by rcases (show j = 0 ∨ j = 1 ∨ j = 2 ∨ j = 3 ∨ j = 4 by omega) with rfl | rfl | rfl | rfl | rfl <;> rfl) (by show 0 + 1 + 34 + 1 ≤ 601024; decide) (by show 0 + 2 + 320 + 5 ≤ 7293034; decide) dL_law_8 (fun q4 H hP hD hS => ?_)
  have hPc : va_P D vwCl [(q4, .inr (4, md00))] H := hP.right
  have hDc : va_D A [((q4, .inr (4, md00)) : Nat × va_E)] := va_D.rgt hD
  have hFc : ∀ q', va_A [((q4, .inr (4, md00)) : Nat × va_E)] H.size q' → A q' := fun q' h => by
    rcases h with ⟨k, e', hk⟩ | h
    · exact hDc.2 k _ hk
    · exact hA q' (Nat.le_trans hS.1 h)
  refine lv_dup hx hb dL_law_11 rfl ?_
  refine va_callv (va_runI (As := []) (rest := [.ref q4]) F (i_X4 l D q4 H.size) (cwI 0 hts gL_law_X4_init rfl rfl rfl (hts (.initialized RX4) (by decide +kernel)) (hts (.methodLink RL 69 yX4_init) (by decide +kernel)) (hts (.instanceMethod yX4_init) (by decide +kernel)) rfl (by decide +kernel) ⟨Nat.le_of_ble_eq_true rfl, Nat.le_of_ble_eq_true rfl⟩) ⟨nPreN.blind, nPreN.at hK hPc hDc hN.2.1 _⟩ rfl rfl hl.1 rfl (lv_room (Nat.le_of_ble_eq_true rfl)) dL_law_12 ⟨(by show 0 + 1 + 34 + 1 + 7 ≤ 601024; decide), (by show 0 + 2 + 320 + 5 + 254 ≤ 7293034; decide)⟩) hS (fun q _ h => hFc q h) hFc (fun u t H1 locs ht hvm hu hB hz1 hk1 hS => ?_)
  obtain ⟨cI', hK2, hP1, hD1⟩ := hB
  rw [ht] at hP1
  have hK2 := va_K.moved hvm.symm hK2
  obtain rfl : cI = cI' := u_int_eq2 0 0 hK1 hK2 rfl rfl
  obtain ⟨hPm, hDm⟩ := grow_join2 hP hD hk1 hFc hP1 hD1
  have hu : u 0 = q4 := hu
  clear hP1 hD1 hFc hz1 hk1 hPc hDc hP hD
  subst hu
  refine lv_astore_n (lv' := [(2, .ref (u 0)), (1, .ref (a 34)), (0, .ref b)]) hx hb dL_law_15 rfl hl (by decide) rfl ?_
  clear hl; intro ls hl
  refine lv_iconst (v := 1) hx hb dL_law_16 (by decide) ?_
  refine va_newa (atype := .long) (ty := .long) (N' := 1) (a0 := (1, .inr (.inl (fun _ => 0)))) hx hb (hts (.arrayClass .long) (by decide +kernel)) rfl hK1 hPm hDm hS hA (fun cA => rfl) (by decide) rfl (by decide) (by show 0 + 1 + 34 + 1 + 7 + 1 ≤ 601024; decide) (by show 0 + 2 + 320 + 5 + 254 + 1 ≤ 7293034; decide) dL_law_17 (fun o cL H hK3 hP hD hS => ?_)
  have hC : lB D cI cM cL a o u s A s.heap H locs 0 (sgI f1) (sgI f2) (fun _ => 0) 0 thI tauI tauI :=
    ⟨hK3, va_P.app hP.left.left (va_P.app hP.right hP.left.right), va_rot hD, hS, lB.keepZ (B := A) hZ (fun q h1 h2 => hS.2.1 q h1 h2) (fun q h => h)⟩
  refine lv_astore_n (lv' := [(3, .ref o), (2, .ref (u 0)), (1, .ref (a 34)), (0, .ref b)]) hx hb dL_law_19 rfl hl (by decide) rfl ?_
  clear hl; intro ls hl
  refine lv_iconst (v := 0) hx hb dL_law_20 (by decide) ?_
  refine lv_istore (lv' := l0 b a o u 0) hx hb dL_law_21 hl (by decide) rfl ?_
  clear hl; intro ls hl
  subst hAe
  exact W.base (law_loop hl0 hL C0 F hN 513 0 rfl (by decide) s.drawn (Drawn.sameBut.refl s.drawn lw_cs) H locs (sgI f1) (sgI f2) (fun _ => 0) thI tauI tauI ls hC (inv0 hf1) hl)
