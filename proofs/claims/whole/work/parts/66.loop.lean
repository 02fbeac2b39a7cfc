/-! the law's loop -/
theorem Inv.up {k : Nat} {ν τ θ : Mm} (h : Inv k ν τ θ) (hk : k < 512) : Inv (k+1) ν τ θ := by
  obtain ⟨N, w, hR, hw, hw2⟩ := h
  have hB := Bk_ok (k := k) (by omega)
  exact ⟨N, w, hR.mono (by omega) hB.2.2, hw, by omega⟩
theorem lB.undraw {D : va_G} {cI cM cL : ClassId} {a : Nat → Nat} {o : Nat} {b : Nat → Nat} {S : State} {A : Nat → Prop} {H0 H : Heap} {locs : List Loc} {s : Nat} {σ ρ : Mm} {g : Nat → Int64} {j : Nat} {θ τ α : Mm} {d : Drawn} (h : lB D cI cM cL a o b (S.setDrawn d) A H0 H locs s σ ρ g j θ τ α) : lB D cI cM cL a o b S A H0 H locs s σ ρ g j θ τ α :=
  ⟨va_K.moved (u := S.setDrawn d) (U := S) (Vm.Alike.refl S.vm) h.1, h.2.1, h.2.2.1, h.2.2.2.1, ⟨vx_Zq.moved (u := S.setDrawn d) (U := S) (Vm.Alike.refl S.vm) h.2.2.2.2.1, vx_Zq.moved (u := S.setDrawn d) (U := S) (Vm.Alike.refl S.vm) h.2.2.2.2.2⟩⟩
theorem sub4 {k L : Nat} (hL : L ≤ 2048) (hk : k ≤ 512) (h : ¬ nI L - 4 < nI (4*k)) : 4*k+4 ≤ L := by
  have h1 : (nI L).toInt = (L : Int) := nI_toInt (by omega)
  have h2 : (nI (4*k)).toInt = ((4*k : Nat) : Int) := nI_toInt (by omega)
  have h3 : (nI L - 4).toInt = (nI L).toInt - (4 : Int32).toInt := iS (by rw [h1, tI_4]; omega) (by rw [h1, tI_4]; omega)
  rw [iL, h3, h1, h2, tI_4] at h
  omega
set_option maxHeartbeats 2000000 in
set_option maxRecDepth 100000 in
theorem law_loop {p : Program} {l : Launch} {e : Env} {s : State} {m : MethodId} {below : List Frame} {meth : Method} {c : Code} {sb L : Nat} {xs : Nat → Int32} {D : va_G} {cI cM cL : ClassId} {a : Nat → Nat} {o : Nat} {b : Nat → Nat} (hl0 : l.stackTraces = false) (hL : L ≤ 2048) (C0 : lw_At p s m meth c sb L xs) (F : CallFix p m c cL_law 9 s #[Value.ref sb] wsL_law RL) (hN : lSt s) :
    ∀ (n k : Nat), n + k = 513 → k ≤ 512 → ∀ (d : Drawn), s.drawn.sameBut d lw_cs → ∀ (H : Heap) (locs : List Loc) (ν t : Mm) (g : Nat → Int64) (θ τ α : Mm) (ls : Array Slot), lB D cI cM cL a o b s (fun q : Nat => s.heap.size ≤ q) s.heap H locs 0 ν t g 0 θ τ α → Inv k ν τ θ → lv_has ls 9 (l0 sb a o b k) →
      W p l e room_1 (s.setDrawn d) m #[Value.ref sb] below meth c H locs (44 + 2*k) (582 + 15*k) (lw_Z below #[Value.ref sb] s) (F0 m 23 ls []) := by
  obtain ⟨hx, hb, hr, hml, hown, hts, hX, hbl, hlocks, hgv⟩ := id C0
  have hA : ∀ q : Nat, s.heap.size ≤ q → (fun q : Nat => s.heap.size ≤ q) q := fun _ h => h
  have hbA : ¬ (fun q : Nat => s.heap.size ≤ q) sb := Nat.not_le.mpr hbl
  intro n
  induction n with
  | zero => intro k h1 h2; omega
  | succ n ih =>
    intro k hn hk d hd H locs ν t g θ τ α ls hC hI hl
    have hl : lv_has ls 9 [(4, .int (nI (4*k))), (3, .ref o), (2, .ref (b 0)), (1, .ref (a 34)), (0, .ref sb)] := hl
    have hXd : va_X sb L xs (s.setDrawn d) s.heap := hX
    refine lv_iload hx hb dL_law_23 (lv_at hl 0 rfl) ?_
    refine lv_aload_n hx hb dL_law_25 rfl (lv_at hl 4 rfl) ?_
    refine va_slen hx hb hXd hbl hbA hC.2.2.2.1 dL_law_26 ?_
    refine lv_iconst (v := 4) hx hb dL_law_27 (by decide) ?_
    refine lv_isub hx hb dL_law_28 ?_
    refine lv_icmp_gt (tgt := 1223) hx hb dL_law_29 (by decide) (fun _ => ?_) (fun c1 => ?_)
    · refine lv_iconst (v := 1) hx hb dL_law_1223 (by decide) ?_
      refine va_forget (fun q hq => hC.2.2.2.1.2.2 q hq) ?_
      refine W.widen (k := 601024) (n := 7293034) (by omega) (by omega) ?_
      exact lw_ret hd hx hb hr hlocks dL_law_1224
    have h4 : 4*k+4 ≤ L := sub4 hL hk c1
    have hk5 : k < 512 := by omega
    have K : ∀ (d : Drawn), s.drawn.sameBut d lw_cs → ∀ (H : Heap) (locs : List Loc) (ν t : Mm) (g : Nat → Int64) (θ τ α : Mm) (ls : Array Slot), lB D cI cM cL a o b s (fun q : Nat => s.heap.size ≤ q) s.heap H locs 0 ν t g 0 θ τ α → Inv (k+1) ν τ θ → lv_has ls 9 (l0 sb a o b k) →
        W p l e room_1 (s.setDrawn d) m #[Value.ref sb] below meth c H locs (44 + 2*k + 2) (582 + 15*k + 15) (lw_Z below #[Value.ref sb] s) (F0 m 1217 ls []) := by
      intro d hd H locs ν t g θ τ α ls hC hI hl
      have hl : lv_has ls 9 [(4, .int (nI (4*k))), (3, .ref o), (2, .ref (b 0)), (1, .ref (a 34)), (0, .ref sb)] := hl
      refine lv_iinc (v := nI (4*(k+1))) (lv' := l0 sb a o b (k+1)) hx hb dL_law_1217 hl (k := 0) rfl (show nI (4*k) + nI 4 = nI (4*(k+1)) by rw [nI_add, Nat.mul_add]) (by decide) rfl ?_
      intro ls hl
      refine lv_goto (tgt := 23) hx hb dL_law_1220 (by decide) ?_
      refine W.widen (k := 44 + 2*(k+1)) (n := 582 + 15*(k+1)) (by omega) (by omega) ?_
      exact ih (k+1) (by omega) (by omega) d hd H locs ν t g θ τ α ls hC hI hl
    have Kd : kont p l e (s.setDrawn d) m below meth c D cI cM cL a o b (fun q : Nat => s.heap.size ≤ q) s.heap sb k (44 + 2*k + 2) (582 + 15*k + 15) (lw_Z below #[Value.ref sb] s) :=
      fun H locs ν t g θ τ α ls hC hI hl => K d hd H locs ν t g θ τ α ls hC.undraw hI hl
    have Fd := CallFix.draw d F
    have hNd := hN.draw d
    have hCd := hC.draw d
    have hf : 44 + 2*k + 2 ≤ 601024 ∧ 582 + 15*k + 15 ≤ 7293034 := by omega
    refine lv_aload_n hx hb dL_law_32 rfl (lv_at hl 4 rfl) ?_
    refine lv_iload hx hb dL_law_33 (lv_at hl 0 rfl) ?_
    refine va_sld hx hb hXd hbl hbA hC.2.2.2.1 (vp_in_nI (n := 4*k) (N := L) (by omega) (by omega)) dL_law_35 ?_
    refine lv_bipush (v := 31) hx hb dL_law_36 (by decide) ?_
    refine lv_iand hx hb dL_law_38 ?_
    generalize xs (nI (4*k)).toNatClampNeg &&& (31 : Int32) = v
    by_cases hv : v.toInt < 0 ∨ 19 < v.toInt
    · refine lv_tableOut (tgt := 1217) hx hb dL_law_39 hv (by decide) ?_
      refine W.widen (k := 44 + 2*k + 2) (n := 582 + 15*k + 15) (by omega) (by omega) ?_
      exact K d hd H locs ν t g θ τ α ls hC (hI.up hk5) hl
    rcases (show v.toInt = 0 ∨ v.toInt = 1 ∨ v.toInt = 2 ∨ v.toInt = 3 ∨ v.toInt = 4 ∨ v.toInt = 5 ∨ v.toInt = 6 ∨ v.toInt = 7 ∨ v.toInt = 8 ∨ v.toInt = 9 ∨ v.toInt = 10 ∨ v.toInt = 11 ∨ v.toInt = 12 ∨ v.toInt = 13 ∨ v.toInt = 14 ∨ v.toInt = 15 ∨ v.toInt = 16 ∨ v.toInt = 17 ∨ v.toInt = 18 ∨ v.toInt = 19 by omega) with e | e | e | e | e | e | e | e | e | e | e | e | e | e | e | e | e | e | e | e
    · refine lv_tableIn (off := 93) (tgt := 132) hx hb dL_law_39 (by rw [e]; decide) (by rw [e]; decide) (by rw [e]; rfl) (by decide) ?_
      exact k_join hl0 Fd hNd hCd hA hXd hbl hbA hI hk5 hL h4 hf hl Kd
    · refine lv_tableIn (off := 161) (tgt := 200) hx hb dL_law_39 (by rw [e]; decide) (by rw [e]; decide) (by rw [e]; rfl) (by decide) ?_
      exact k_place hl0 Fd hNd hCd hA hXd hbl hbA hI hk5 hL h4 hf hl Kd
    · refine lv_tableIn (off := 229) (tgt := 268) hx hb dL_law_39 (by rw [e]; decide) (by rw [e]; decide) (by rw [e]; rfl) (by decide) ?_
      exact k_give hl0 Fd hNd hCd hA hXd hbl hbA hI hk5 hL h4 hf hl Kd
    · refine lv_tableIn (off := 309) (tgt := 348) hx hb dL_law_39 (by rw [e]; decide) (by rw [e]; decide) (by rw [e]; rfl) (by decide) ?_
      exact k_settle hl0 Fd hNd hCd hA hXd hbl hbA hI hk5 hL h4 hf hl Kd
    · refine lv_tableIn (off := 365) (tgt := 404) hx hb dL_law_39 (by rw [e]; decide) (by rw [e]; decide) (by rw [e]; rfl) (by decide) ?_
      exact k_told hl0 Fd hNd hCd hA hXd hbl hbA hI hk5 hL h4 hf hl Kd
    · refine lv_tableIn (off := 433) (tgt := 472) hx hb dL_law_39 (by rw [e]; decide) (by rw [e]; decide) (by rw [e]; rfl) (by decide) ?_
      exact k_owes hl0 Fd hNd hCd hA hXd hbl hbA hI hk5 hL h4 hf hl Kd
    · refine lv_tableIn (off := 446) (tgt := 485) hx hb dL_law_39 (by rw [e]; decide) (by rw [e]; decide) (by rw [e]; rfl) (by decide) ?_
      exact k_setFever hl0 Fd hNd hCd hA hXd hbl hbA hI hk5 hL h4 hf hl Kd
    · refine lv_tableIn (off := 514) (tgt := 553) hx hb dL_law_39 (by rw [e]; decide) (by rw [e]; decide) (by rw [e]; rfl) (by decide) ?_
      exact k_setDues hl0 Fd hNd hCd hA hXd hbl hbA hI hk5 hL h4 hf hl Kd
    · refine lv_tableIn (off := 570) (tgt := 609) hx hb dL_law_39 (by rw [e]; decide) (by rw [e]; decide) (by rw [e]; rfl) (by decide) ?_
      exact k_buy hl0 Fd hNd hCd hA hXd hbl hbA hI hk5 hL h4 hf hl Kd
    · refine lv_tableIn (off := 638) (tgt := 677) hx hb dL_law_39 (by rw [e]; decide) (by rw [e]; decide) (by rw [e]; rfl) (by decide) ?_
      exact k_sell hl0 Fd hNd hCd hA hXd hbl hbA hI hk5 hL h4 hf hl Kd
    · refine lv_tableIn (off := 694) (tgt := 733) hx hb dL_law_39 (by rw [e]; decide) (by rw [e]; decide) (by rw [e]; rfl) (by decide) ?_
      exact k_pot hl0 Fd hNd hCd hA hXd hbl hbA hI hk5 hL h4 hf hl Kd
    · refine lv_tableIn (off := 762) (tgt := 801) hx hb dL_law_39 (by rw [e]; decide) (by rw [e]; decide) (by rw [e]; rfl) (by decide) ?_
      exact k_count hl0 Fd hNd hCd hA hXd hbl hbA hI hk5 hL h4 hf hl Kd
    · refine lv_tableIn (off := 818) (tgt := 857) hx hb dL_law_39 (by rw [e]; decide) (by rw [e]; decide) (by rw [e]; rfl) (by decide) ?_
      exact k_pass hl0 Fd hNd hCd hA hXd hbl hbA hI hk5 hL h4 hf hl Kd
    · refine lv_tableIn (off := 874) (tgt := 913) hx hb dL_law_39 (by rw [e]; decide) (by rw [e]; decide) (by rw [e]; rfl) (by decide) ?_
      exact k_foresee hl0 Fd hNd hCd hA hXd hbl hbA hI hk5 hL h4 hf hl Kd
    · refine lv_tableIn (off := 942) (tgt := 981) hx hb dL_law_39 (by rw [e]; decide) (by rw [e]; decide) (by rw [e]; rfl) (by decide) ?_
      exact k_earns hl0 Fd hNd hCd hA hXd hbl hbA hI hk5 hL h4 hf hl Kd
    · refine lv_tableIn (off := 998) (tgt := 1037) hx hb dL_law_39 (by rw [e]; decide) (by rw [e]; decide) (by rw [e]; rfl) (by decide) ?_
      exact k_dies hl0 Fd hNd hCd hA hXd hbl hbA hI hk5 hL h4 hf hl Kd
    · refine lv_tableIn (off := 1054) (tgt := 1093) hx hb dL_law_39 (by rw [e]; decide) (by rw [e]; decide) (by rw [e]; rfl) (by decide) ?_
      exact k_lasts hl0 Fd hNd hCd hA hXd hbl hbA hI hk5 hL h4 hf hl Kd
    · refine lv_tableIn (off := 1067) (tgt := 1106) hx hb dL_law_39 (by rw [e]; decide) (by rw [e]; decide) (by rw [e]; rfl) (by decide) ?_
      exact k_advise hl0 Fd hNd hCd hA hXd hbl hbA hI hk5 hL h4 hf hl Kd
    · refine lv_tableIn (off := 1123) (tgt := 1162) hx hb dL_law_39 (by rw [e]; decide) (by rw [e]; decide) (by rw [e]; rfl) (by decide) ?_
      exact k_mean hd F hN hC hA hX hbl hbA hI hk5 hL h4 hf hl (fun d hd => K d hd)
    · refine lv_tableIn (off := 1164) (tgt := 1203) hx hb dL_law_39 (by rw [e]; decide) (by rw [e]; decide) (by rw [e]; rfl) (by decide) ?_
      exact k_digest hl0 Fd hNd hCd hA hXd hbl hbA hI hk5 hL h4 hf hl Kd
