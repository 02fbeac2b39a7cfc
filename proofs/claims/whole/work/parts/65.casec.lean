/-! the cases without a helper -/
theorem l_cmp_eq {x y : Int64} (h : x = y) : lg_cmp x y = 0 := by
  rw [h]
  exact l_cmp0 y
section CASEC
variable {p : Program} {l : Launch} {e : Env} {S : State} {m : MethodId} {below : List Frame} {meth : Method} {c : Code} {H H0 : Heap} {locs : List Loc} {cells slots : Nat} {Q : State → Prop}
variable {ls : Array Slot} {D : va_G} {cI cM cL : ClassId} {a : Nat → Nat} {o : Nat} {b : Nat → Nat} {A : Nat → Prop} {ν t θ τ α : Mm} {g : Nat → Int64} {sb L k : Nat} {xs : Nat → Int32}
set_option maxHeartbeats 1000000 in
set_option maxRecDepth 100000 in
theorem k_owes (hl0 : l.stackTraces = false) (F : CallFix p m c cL_law 9 S #[Value.ref sb] wsL_law RL) (hN : lSt S) (hC : lB D cI cM cL a o b S A H0 H locs 0 ν t g 0 θ τ α) (hA : ∀ q, H0.size ≤ q → A q) (hX : va_X sb L xs S H0) (hbl : sb < H0.size) (hbA : ¬ A sb) (hI : Inv k ν τ θ) (hk : k < 512) (hL : L ≤ 2048) (h4 : 4*k+4 ≤ L) (hf : cells + 2 ≤ 601024 ∧ slots + 15 ≤ 7293034) (hl : lv_has ls 9 (l0 sb a o b k))
    (kk : kont p l e S m below meth c D cI cM cL a o b A H0 sb k (cells + 2) (slots + 15) Q) : W p l e room_1 S m #[Value.ref sb] below meth c H locs cells slots Q (F0 m 472 ls []) := by
  obtain ⟨hx, hb, hml, hown, hts⟩ := id F
  obtain ⟨N, w, hR, hw, hw2⟩ := id hI
  have hW := hR.wfm
  have hwk : τ 0 0 = nI w := hR.sc.1.symm.trans hw
  have hl : lv_has ls 9 [(4, .int (nI (4*k))), (3, .ref o), (2, .ref (b 0)), (1, .ref (a 34)), (0, .ref sb)] := hl
  have hag := ag_owes (t := t) hI hk
  refine lv_aload_n hx hb dL_law_472 rfl (lv_at hl 3 rfl) ?_
  refine l_soc (n := 0) (As := []) (rest := []) F (c_X2_owes l D cI cM a ν t) gL_law_X2_owes rfl rfl rfl (by decide +kernel) ⟨Nat.le_of_ble_eq_true rfl, Nat.le_of_ble_eq_true rfl⟩ hN hC hA rfl hl.1 rfl (Nat.le_of_ble_eq_true rfl) dL_law_473 ⟨(show cells ≤ 601024 by omega), (show slots ≤ 7293034 by omega)⟩ ?_
  clear hC; intro H locs hC
  refine lv_aload_n hx hb dL_law_476 rfl (lv_at hl 2 rfl) ?_
  refine l_mod (n := 0) (mc := 0) (ms := 0) (As := []) (rest := [.int (fX2_owes ν t).1]) F (c_X4_owes l D cI b θ τ α N hW) gL_law_X4_owes rfl rfl rfl (by decide +kernel) ⟨Nat.le_of_ble_eq_true rfl, Nat.le_of_ble_eq_true rfl⟩ hN hC hA rfl hl.1 rfl (Nat.le_of_ble_eq_true rfl) dL_law_477 ⟨(show cells ≤ 601024 by omega), (show slots ≤ 7293034 by omega)⟩ ?_
  clear hC; intro H locs hC
  exact lv_icmp_eq (tgt := 1217) hx hb dL_law_480 (by decide) (fun _ => W.widen (k := cells + 2) (n := slots + 15) (by omega) (by omega) (kk H locs ((fX2_owes ν t).2.1) ((fX2_owes ν t).2.2) g ((fX4_owes θ τ).2) τ α ls hC (by rw [hag.2.1]; exact hag.2.2.2) hl)) (fun c1 => absurd hag.1 c1)
set_option maxHeartbeats 1000000 in
set_option maxRecDepth 100000 in
theorem k_lasts (hl0 : l.stackTraces = false) (F : CallFix p m c cL_law 9 S #[Value.ref sb] wsL_law RL) (hN : lSt S) (hC : lB D cI cM cL a o b S A H0 H locs 0 ν t g 0 θ τ α) (hA : ∀ q, H0.size ≤ q → A q) (hX : va_X sb L xs S H0) (hbl : sb < H0.size) (hbA : ¬ A sb) (hI : Inv k ν τ θ) (hk : k < 512) (hL : L ≤ 2048) (h4 : 4*k+4 ≤ L) (hf : cells + 2 ≤ 601024 ∧ slots + 15 ≤ 7293034) (hl : lv_has ls 9 (l0 sb a o b k))
    (kk : kont p l e S m below meth c D cI cM cL a o b A H0 sb k (cells + 2) (slots + 15) Q) : W p l e room_1 S m #[Value.ref sb] below meth c H locs cells slots Q (F0 m 1093 ls []) := by
  obtain ⟨hx, hb, hml, hown, hts⟩ := id F
  obtain ⟨N, w, hR, hw, hw2⟩ := id hI
  have hW := hR.wfm
  have hwk : τ 0 0 = nI w := hR.sc.1.symm.trans hw
  have hl : lv_has ls 9 [(4, .int (nI (4*k))), (3, .ref o), (2, .ref (b 0)), (1, .ref (a 34)), (0, .ref sb)] := hl
  have hag := ag_lasts (t := t) (α := α) hI hk
  have hC : lB D cI cM cL a o b S A H0 H locs 1 t ν g 0 θ τ α := hC.swC (s := 0) (by decide)
  refine lv_aload_n hx hb dL_law_1093 rfl (lv_at hl 3 rfl) ?_
  refine l_soc (n := 0) (As := []) (rest := []) F (c_X2_lasts l D cI cM a t ν hI.hU) gL_law_X2_lasts rfl rfl rfl (by decide +kernel) ⟨Nat.le_of_ble_eq_true rfl, Nat.le_of_ble_eq_true rfl⟩ hN hC hA rfl hl.1 rfl (Nat.le_of_ble_eq_true rfl) dL_law_1094 ⟨(show cells ≤ 601024 by omega), (show slots ≤ 7293034 by omega)⟩ ?_
  clear hC; intro H locs hC
  refine lv_aload_n hx hb dL_law_1097 rfl (lv_at hl 2 rfl) ?_
  have hC : lB D cI cM cL a o b S A H0 H locs 1 ((fX2_lasts t ν).2.1) ((fX2_lasts t ν).2.2) g 1 θ α τ := hC.swM (j := 0) (by decide)
  refine l_mod (n := 0) (mc := 0) (ms := 0) (As := []) (rest := [.int (fX2_lasts t ν).1]) F (c_X4_lasts l D cI b θ α τ N hW w hwk (by omega)) gL_law_X4_lasts rfl rfl rfl (by decide +kernel) ⟨Nat.le_of_ble_eq_true rfl, Nat.le_of_ble_eq_true rfl⟩ hN hC hA rfl hl.1 rfl (Nat.le_of_ble_eq_true rfl) dL_law_1098 ⟨(show cells ≤ 601024 by omega), (show slots ≤ 7293034 by omega)⟩ ?_
  clear hC; intro H locs hC
  have hC : lB D cI cM cL a o b S A H0 H locs 0 ((fX2_lasts t ν).2.2) ((fX2_lasts t ν).2.1) g 0 ((fX4_lasts θ α τ).2.1) τ ((fX4_lasts θ α τ).2.2) := (hC.swM (j := 1) (by decide)).swC (s := 1) (by decide)
  exact lv_icmp_eq (tgt := 1217) hx hb dL_law_1101 (by decide) (fun _ => W.widen (k := cells + 2) (n := slots + 15) (by omega) (by omega) (kk H locs ((fX2_lasts t ν).2.2) ((fX2_lasts t ν).2.1) g ((fX4_lasts θ α τ).2.1) τ ((fX4_lasts θ α τ).2.2) ls hC (by rw [hag.2.1]; exact hag.2.2) hl)) (fun c1 => absurd hag.1 c1)
set_option maxHeartbeats 1000000 in
set_option maxRecDepth 100000 in
theorem k_mean {d0 : Drawn} (hd0 : S.drawn.sameBut d0 lw_cs) (F : CallFix p m c cL_law 9 S #[Value.ref sb] wsL_law RL) (hN : lSt S) (hC : lB D cI cM cL a o b S A H0 H locs 0 ν t g 0 θ τ α) (hA : ∀ q, H0.size ≤ q → A q) (hX : va_X sb L xs S H0) (hbl : sb < H0.size) (hbA : ¬ A sb) (hI : Inv k ν τ θ) (hk : k < 512) (hL : L ≤ 2048) (h4 : 4*k+4 ≤ L) (hf : cells + 2 ≤ 601024 ∧ slots + 15 ≤ 7293034) (hl : lv_has ls 9 (l0 sb a o b k))
    (kk : ∀ d, S.drawn.sameBut d lw_cs → kont2 p l e S d m below meth c D cI cM cL a o b A H0 sb k (cells + 2) (slots + 15) Q) : W p l e room_1 (S.setDrawn d0) m #[Value.ref sb] below meth c H locs cells slots Q (F0 m 1162 ls []) := by
  obtain ⟨hx, hb, hml, hown, hts⟩ := id F
  obtain ⟨N, w, hR, hw, hw2⟩ := id hI
  have hW := hR.wfm
  have hl : lv_has ls 9 [(4, .int (nI (4*k))), (3, .ref o), (2, .ref (b 0)), (1, .ref (a 34)), (0, .ref sb)] := hl
  have hag := ag_mean hI hk
  refine lv_aload_n hx hb dL_law_1162 rfl (lv_at hl 3 rfl) ?_
  refine l_socd (n := 0) (As := []) (rest := []) hd0 F (c_X2_mean l D cI cM a ν t) gL_law_X2_mean rfl rfl rfl (by decide +kernel) ⟨Nat.le_of_ble_eq_true rfl, Nat.le_of_ble_eq_true rfl⟩ hN hC hA rfl hl.1 rfl (Nat.le_of_ble_eq_true rfl) dL_law_1163 ⟨(show cells ≤ 601024 by omega), (show slots ≤ 7293034 by omega)⟩ (fun v1 H locs d1 hd1 hq1 hC => ?_)
  refine lv_dstore (lv' := [(5, .double v1), (4, .int (nI (4*k))), (3, .ref o), (2, .ref (b 0)), (1, .ref (a 34)), (0, .ref sb)]) hx hb dL_law_1166 hl (by decide) rfl ?_
  clear hl; intro ls hl
  refine lv_aload_n hx hb dL_law_1168 rfl (lv_at hl 3 rfl) ?_
  refine l_modd (n := 0) (As := []) (rest := []) hd1 F (c_X4_mean l D cI b θ τ α N hW) gL_law_X4_mean rfl rfl rfl (by decide +kernel) ⟨Nat.le_of_ble_eq_true rfl, Nat.le_of_ble_eq_true rfl⟩ hN hC hA rfl hl.1 rfl (Nat.le_of_ble_eq_true rfl) dL_law_1169 ⟨(show cells ≤ 601024 by omega), (show slots ≤ 7293034 by omega)⟩ (fun v2 H locs d2 hd2 hq2 hC => ?_)
  refine lv_dstore (lv' := [(7, .double v2), (5, .double v1), (4, .int (nI (4*k))), (3, .ref o), (2, .ref (b 0)), (1, .ref (a 34)), (0, .ref sb)]) hx hb dL_law_1172 hl (by decide) rfl ?_
  clear hl; intro ls hl
  have hmm := mean_meet hag.1 hag.2.2.1 hag.2.1 hq1 hq2
  have fin : W p l e room_1 (S.setDrawn d2) m #[Value.ref sb] below meth c H locs cells slots Q (F0 m 1200 ls []) := by
    refine lv_goto (tgt := 1217) hx hb dL_law_1200 (by decide) ?_
    refine W.widen (k := cells + 2) (n := slots + 15) (by omega) (by omega) ?_
    exact kk d2 hd2 H locs ν t g (up2 θ 0 0 0) τ α ls hC hag.2.2.2 (lv_sub hl [2, 3, 4, 5, 6] rfl)
  refine lv_dload hx hb dL_law_1174 (lv_at hl 1 rfl) ?_
  refine lv_dload hx hb dL_law_1176 (lv_at hl 0 rfl) ?_
  refine lv_dcmp hx hb dL_law_1178 ?_
  refine lv_if_eq (tgt := 1200) hx hb dL_law_1179 (by decide) (fun _ => fin) (fun c1 => ?_)
  refine lv_dload hx hb dL_law_1182 (lv_at hl 1 rfl) ?_
  refine lv_dload hx hb dL_law_1184 (lv_at hl 1 rfl) ?_
  refine lv_dcmp hx hb dL_law_1186 ?_
  refine lv_if_eq (tgt := 1198) hx hb dL_law_1187 (by decide) (fun c2 => ?_) (fun c2 => ?_)
  · exfalso
    rcases hmm with rfl | ⟨n1, -⟩
    · exact c1 c2
    · exact nan_cmp n1 c2
  · refine lv_dload hx hb dL_law_1190 (lv_at hl 0 rfl) ?_
    refine lv_dload hx hb dL_law_1192 (lv_at hl 0 rfl) ?_
    refine lv_dcmp hx hb dL_law_1194 ?_
    refine lv_if_ne (tgt := 1200) hx hb dL_law_1195 (by decide) (fun _ => fin) (fun c3 => ?_)
    exfalso
    rcases hmm with rfl | ⟨-, n2⟩
    · exact c2 c3
    · exact nan_cmp n2 c3
end CASEC
