/-! the other cases with a helper -/
section CASEB
variable {p : Program} {l : Launch} {e : Env} {S : State} {m : MethodId} {below : List Frame} {meth : Method} {c : Code} {H H0 : Heap} {locs : List Loc} {cells slots : Nat} {Q : State → Prop}
variable {ls : Array Slot} {D : va_G} {cI cM cL : ClassId} {a : Nat → Nat} {o : Nat} {b : Nat → Nat} {A : Nat → Prop} {ν t θ τ α : Mm} {g : Nat → Int64} {sb L k : Nat} {xs : Nat → Int32}
set_option maxHeartbeats 1000000 in
set_option maxRecDepth 100000 in
theorem k_place (hl0 : l.stackTraces = false) (F : CallFix p m c cL_law 9 S #[Value.ref sb] wsL_law RL) (hN : lSt S) (hC : lB D cI cM cL a o b S A H0 H locs 0 ν t g 0 θ τ α) (hA : ∀ q, H0.size ≤ q → A q) (hX : va_X sb L xs S H0) (hbl : sb < H0.size) (hbA : ¬ A sb) (hI : Inv k ν τ θ) (hk : k < 512) (hL : L ≤ 2048) (h4 : 4*k+4 ≤ L) (hf : cells + 2 ≤ 601024 ∧ slots + 15 ≤ 7293034) (hl : lv_has ls 9 (l0 sb a o b k))
    (kk : kont p l e S m below meth c D cI cM cL a o b A H0 sb k (cells + 2) (slots + 15) Q) : W p l e room_1 S m #[Value.ref sb] below meth c H locs cells slots Q (F0 m 200 ls []) := by
  obtain ⟨hx, hb, hml, hown, hts⟩ := id F
  obtain ⟨N, w, hR, hw, hw2⟩ := id hI
  have hW := hR.wfm
  have hwk : τ 0 0 = nI w := hR.sc.1.symm.trans hw
  have hl : lv_has ls 9 [(4, .int (nI (4*k))), (3, .ref o), (2, .ref (b 0)), (1, .ref (a 34)), (0, .ref sb)] := hl
  have hag := ag_place (t := t) (xv xs k 1) (xv xs k 2) hI hk
  refine lv_aload_n hx hb dL_law_200 rfl (lv_at hl 3 rfl) ?_
  refine lv_aload_n hx hb dL_law_201 rfl (lv_at hl 4 rfl) ?_
  refine lv_iload hx hb dL_law_202 (lv_at hl 0 rfl) ?_
  refine lv_iconst (v := 1) hx hb dL_law_204 (by decide) ?_
  refine lv_iadd hx hb dL_law_205 ?_
  refine va_sld hx hb hX hbl hbA hC.2.2.2.1 (l_ix (j := 1) hL h4 (by decide)) dL_law_206 ?_
  refine lv_aload_n hx hb dL_law_207 rfl (lv_at hl 4 rfl) ?_
  refine lv_iload hx hb dL_law_208 (lv_at hl 0 rfl) ?_
  refine lv_iconst (v := 2) hx hb dL_law_210 (by decide) ?_
  refine lv_iadd hx hb dL_law_211 ?_
  refine va_sld hx hb hX hbl hbA hC.2.2.2.1 (l_ix (j := 2) hL h4 (by decide)) dL_law_212 ?_
  refine lv_aload_n hx hb dL_law_213 rfl (lv_at hl 1 rfl) ?_
  refine l_hlp (n := 4) (As := [.ref (a 34), .int (xv xs k 1), .int (xv xs k 2), .ref o]) (rest := []) F (t_L_place l hl0 D cI cM cL a o ν t g (xv xs k 1) (xv xs k 2) hag.cs) gL_law_L_place rfl (by decide +kernel) ⟨Nat.le_of_ble_eq_true rfl, Nat.le_of_ble_eq_true rfl⟩ hN hC hA rfl hl.1 rfl (Nat.le_of_ble_eq_true rfl) dL_law_214 ⟨(show cells + 1 ≤ 601024 by omega), (show slots + 6 ≤ 7293034 by omega)⟩ (fun r u H locs hsp hC => ?_)
  refine lv_istore (lv' := [(5, .int r), (4, .int (nI (4*k))), (3, .ref o), (2, .ref (b 0)), (1, .ref (a 34)), (0, .ref sb)]) hx hb dL_law_217 hl (by decide) rfl ?_
  clear hl; intro ls hl
  refine lv_aload_n hx hb dL_law_219 rfl (lv_at hl 3 rfl) ?_
  refine lv_aload_n hx hb dL_law_220 rfl (lv_at hl 5 rfl) ?_
  refine lv_iload hx hb dL_law_221 (lv_at hl 1 rfl) ?_
  refine lv_iconst (v := 1) hx hb dL_law_223 (by decide) ?_
  refine lv_iadd hx hb dL_law_224 ?_
  refine va_sld hx hb hX hbl hbA hC.2.2.2.1 (l_ix (j := 1) hL h4 (by decide)) dL_law_225 ?_
  refine lv_aload_n hx hb dL_law_226 rfl (lv_at hl 5 rfl) ?_
  refine lv_iload hx hb dL_law_227 (lv_at hl 1 rfl) ?_
  refine lv_iconst (v := 2) hx hb dL_law_229 (by decide) ?_
  refine lv_iadd hx hb dL_law_230 ?_
  refine va_sld hx hb hX hbl hbA hC.2.2.2.1 (l_ix (j := 2) hL h4 (by decide)) dL_law_231 ?_
  refine l_mod (n := 2) (mc := 0) (ms := 0) (As := [.int (xv xs k 1), .int (xv xs k 2)]) (rest := []) F (c_X4_place l D cI b θ τ α (xv xs k 1) (xv xs k 2) N hW) gL_law_X4_place rfl rfl rfl (by decide +kernel) ⟨Nat.le_of_ble_eq_true rfl, Nat.le_of_ble_eq_true rfl⟩ hN hC hA rfl hl.1 rfl (Nat.le_of_ble_eq_true rfl) dL_law_232 ⟨(show cells + 1 + 0 ≤ 601024 by omega), (show slots + 6 + 0 ≤ 7293034 by omega)⟩ ?_
  clear hC; intro H locs hC
  have hm := agr_meet (by decide) rfl hsp hag
  generalize (fX4_place θ τ (xv xs k 1) (xv xs k 2)).1 = qv at hm ⊢
  generalize (fX4_place θ τ (xv xs k 1) (xv xs k 2)).2.1 = θ2 at hm hC
  generalize (fX4_place θ τ (xv xs k 1) (xv xs k 2)).2.2 = τ2 at hm hC
  refine lv_istore (lv' := [(6, .int qv), (5, .int r), (4, .int (nI (4*k))), (3, .ref o), (2, .ref (b 0)), (1, .ref (a 34)), (0, .ref sb)]) hx hb dL_law_235 hl (by decide) rfl ?_
  clear hl; intro ls hl
  refine lv_aload_n hx hb dL_law_237 rfl (lv_at hl 4 rfl) ?_
  refine l_mod (n := 0) (mc := 0) (ms := 0) (As := []) (rest := []) F (c_X4_thrown l D cI b 0 θ2 τ2 α) gL_law_X4_thrown rfl rfl rfl (by decide +kernel) ⟨Nat.le_of_ble_eq_true rfl, Nat.le_of_ble_eq_true rfl⟩ hN hC hA rfl hl.1 rfl (Nat.le_of_ble_eq_true rfl) dL_law_238 ⟨(show cells + 1 + 0 + 0 ≤ 601024 by omega), (show slots + 6 + 0 + 0 ≤ 7293034 by omega)⟩ ?_
  clear hC; intro H locs hC
  refine lv_iload hx hb dL_law_241 (lv_at hl 1 rfl) ?_
  have fin : W p l e room_1 S m #[Value.ref sb] below meth c H locs (cells + 1 + 0 + 0) (slots + 6 + 0 + 0) Q (F0 m 265 ls []) := by
    refine lv_goto (tgt := 1217) hx hb dL_law_265 (by decide) ?_
    refine W.widen (k := cells + 2) (n := slots + 15) (by omega) (by omega) ?_
    exact kk H locs u.1 u.2.1 u.2.2 θ2 τ2 α ls hC hm.2.2 (lv_sub hl [2, 3, 4, 5, 6] rfl)
  refine lv_icmp_eq (tgt := 248) hx hb dL_law_243 (by decide) (fun _ => ?_) (fun c1 => absurd (show fX4_thrown θ2 = r from hm.1) c1)
  refine lv_iload hx hb dL_law_248 (lv_at hl 1 rfl) ?_
  refine lv_if_ne (tgt := 265) hx hb dL_law_250 (by decide) (fun _ => fin) (fun c2 => ?_)
  refine lv_aload_n hx hb dL_law_253 rfl (lv_at hl 3 rfl) ?_
  refine lv_iconst (v := 0) hx hb dL_law_254 (by decide) ?_
  refine l_lald hx hb hC dL_law_255 ?_
  refine lv_iload hx hb dL_law_256 (lv_at hl 0 rfl) ?_
  refine lv_i2l hx hb dL_law_258 rfl ?_
  refine W.lcmp hx hb dL_law_259 ?_
  exact lv_if_eq (tgt := 265) hx hb dL_law_260 (by decide) (fun _ => fin) (fun c3 => absurd (by rw [hm.2.1 c2]; exact l_cmp0 _) c3)
set_option maxHeartbeats 1000000 in
set_option maxRecDepth 100000 in
theorem k_give (hl0 : l.stackTraces = false) (F : CallFix p m c cL_law 9 S #[Value.ref sb] wsL_law RL) (hN : lSt S) (hC : lB D cI cM cL a o b S A H0 H locs 0 ν t g 0 θ τ α) (hA : ∀ q, H0.size ≤ q → A q) (hX : va_X sb L xs S H0) (hbl : sb < H0.size) (hbA : ¬ A sb) (hI : Inv k ν τ θ) (hk : k < 512) (hL : L ≤ 2048) (h4 : 4*k+4 ≤ L) (hf : cells + 2 ≤ 601024 ∧ slots + 15 ≤ 7293034) (hl : lv_has ls 9 (l0 sb a o b k))
    (kk : kont p l e S m below meth c D cI cM cL a o b A H0 sb k (cells + 2) (slots + 15) Q) : W p l e room_1 S m #[Value.ref sb] below meth c H locs cells slots Q (F0 m 268 ls []) := by
  obtain ⟨hx, hb, hml, hown, hts⟩ := id F
  obtain ⟨N, w, hR, hw, hw2⟩ := id hI
  have hW := hR.wfm
  have hwk : τ 0 0 = nI w := hR.sc.1.symm.trans hw
  have hl : lv_has ls 9 [(4, .int (nI (4*k))), (3, .ref o), (2, .ref (b 0)), (1, .ref (a 34)), (0, .ref sb)] := hl
  have hag := ag_give (t := t) (xv xs k 1) (xv xs k 2) (xv xs k 3) hI hk
  refine lv_aload_n hx hb dL_law_268 rfl (lv_at hl 3 rfl) ?_
  refine lv_aload_n hx hb dL_law_269 rfl (lv_at hl 4 rfl) ?_
  refine lv_iload hx hb dL_law_270 (lv_at hl 0 rfl) ?_
  refine lv_iconst (v := 1) hx hb dL_law_272 (by decide) ?_
  refine lv_iadd hx hb dL_law_273 ?_
  refine va_sld hx hb hX hbl hbA hC.2.2.2.1 (l_ix (j := 1) hL h4 (by decide)) dL_law_274 ?_
  refine lv_aload_n hx hb dL_law_275 rfl (lv_at hl 4 rfl) ?_
  refine lv_iload hx hb dL_law_276 (lv_at hl 0 rfl) ?_
  refine lv_iconst (v := 2) hx hb dL_law_278 (by decide) ?_
  refine lv_iadd hx hb dL_law_279 ?_
  refine va_sld hx hb hX hbl hbA hC.2.2.2.1 (l_ix (j := 2) hL h4 (by decide)) dL_law_280 ?_
  refine lv_aload_n hx hb dL_law_281 rfl (lv_at hl 4 rfl) ?_
  refine lv_iload hx hb dL_law_282 (lv_at hl 0 rfl) ?_
  refine lv_iconst (v := 3) hx hb dL_law_284 (by decide) ?_
  refine lv_iadd hx hb dL_law_285 ?_
  refine va_sld hx hb hX hbl hbA hC.2.2.2.1 (l_ix (j := 3) hL h4 (by decide)) dL_law_286 ?_
  refine lv_aload_n hx hb dL_law_287 rfl (lv_at hl 1 rfl) ?_
  refine l_hlp (n := 5) (As := [.ref (a 34), .int (xv xs k 1), .int (xv xs k 2), .int (xv xs k 3), .ref o]) (rest := []) F (t_L_give l hl0 D cI cM cL a o ν t g (xv xs k 1) (xv xs k 2) (xv xs k 3) hag.cs) gL_law_L_give rfl (by decide +kernel) ⟨Nat.le_of_ble_eq_true rfl, Nat.le_of_ble_eq_true rfl⟩ hN hC hA rfl hl.1 rfl (Nat.le_of_ble_eq_true rfl) dL_law_288 ⟨(show cells + 1 ≤ 601024 by omega), (show slots + 6 ≤ 7293034 by omega)⟩ (fun r u H locs hsp hC => ?_)
  refine lv_istore (lv' := [(5, .int r), (4, .int (nI (4*k))), (3, .ref o), (2, .ref (b 0)), (1, .ref (a 34)), (0, .ref sb)]) hx hb dL_law_291 hl (by decide) rfl ?_
  clear hl; intro ls hl
  refine lv_aload_n hx hb dL_law_293 rfl (lv_at hl 3 rfl) ?_
  refine lv_aload_n hx hb dL_law_294 rfl (lv_at hl 5 rfl) ?_
  refine lv_iload hx hb dL_law_295 (lv_at hl 1 rfl) ?_
  refine lv_iconst (v := 1) hx hb dL_law_297 (by decide) ?_
  refine lv_iadd hx hb dL_law_298 ?_
  refine va_sld hx hb hX hbl hbA hC.2.2.2.1 (l_ix (j := 1) hL h4 (by decide)) dL_law_299 ?_
  refine lv_aload_n hx hb dL_law_300 rfl (lv_at hl 5 rfl) ?_
  refine lv_iload hx hb dL_law_301 (lv_at hl 1 rfl) ?_
  refine lv_iconst (v := 2) hx hb dL_law_303 (by decide) ?_
  refine lv_iadd hx hb dL_law_304 ?_
  refine va_sld hx hb hX hbl hbA hC.2.2.2.1 (l_ix (j := 2) hL h4 (by decide)) dL_law_305 ?_
  refine lv_aload_n hx hb dL_law_306 rfl (lv_at hl 5 rfl) ?_
  refine lv_iload hx hb dL_law_307 (lv_at hl 1 rfl) ?_
  refine lv_iconst (v := 3) hx hb dL_law_309 (by decide) ?_
  refine lv_iadd hx hb dL_law_310 ?_
  refine va_sld hx hb hX hbl hbA hC.2.2.2.1 (l_ix (j := 3) hL h4 (by decide)) dL_law_311 ?_
  refine l_mod (n := 3) (mc := 0) (ms := 0) (As := [.int (xv xs k 1), .int (xv xs k 2), .int (xv xs k 3)]) (rest := []) F (c_X4_give l D cI b θ τ α (xv xs k 1) (xv xs k 2) (xv xs k 3) N hW) gL_law_X4_give rfl rfl rfl (by decide +kernel) ⟨Nat.le_of_ble_eq_true rfl, Nat.le_of_ble_eq_true rfl⟩ hN hC hA rfl hl.1 rfl (Nat.le_of_ble_eq_true rfl) dL_law_312 ⟨(show cells + 1 + 0 ≤ 601024 by omega), (show slots + 6 + 0 ≤ 7293034 by omega)⟩ ?_
  clear hC; intro H locs hC
  have hm := agr_meet (by decide) rfl hsp hag
  generalize (fX4_give θ τ (xv xs k 1) (xv xs k 2) (xv xs k 3)).1 = qv at hm ⊢
  generalize (fX4_give θ τ (xv xs k 1) (xv xs k 2) (xv xs k 3)).2.1 = θ2 at hm hC
  generalize (fX4_give θ τ (xv xs k 1) (xv xs k 2) (xv xs k 3)).2.2 = τ2 at hm hC
  refine lv_istore (lv' := [(6, .int qv), (5, .int r), (4, .int (nI (4*k))), (3, .ref o), (2, .ref (b 0)), (1, .ref (a 34)), (0, .ref sb)]) hx hb dL_law_315 hl (by decide) rfl ?_
  clear hl; intro ls hl
  refine lv_aload_n hx hb dL_law_317 rfl (lv_at hl 4 rfl) ?_
  refine l_mod (n := 0) (mc := 0) (ms := 0) (As := []) (rest := []) F (c_X4_thrown l D cI b 0 θ2 τ2 α) gL_law_X4_thrown rfl rfl rfl (by decide +kernel) ⟨Nat.le_of_ble_eq_true rfl, Nat.le_of_ble_eq_true rfl⟩ hN hC hA rfl hl.1 rfl (Nat.le_of_ble_eq_true rfl) dL_law_318 ⟨(show cells + 1 + 0 + 0 ≤ 601024 by omega), (show slots + 6 + 0 + 0 ≤ 7293034 by omega)⟩ ?_
  clear hC; intro H locs hC
  refine lv_iload hx hb dL_law_321 (lv_at hl 1 rfl) ?_
  have fin : W p l e room_1 S m #[Value.ref sb] below meth c H locs (cells + 1 + 0 + 0) (slots + 6 + 0 + 0) Q (F0 m 345 ls []) := by
    refine lv_goto (tgt := 1217) hx hb dL_law_345 (by decide) ?_
    refine W.widen (k := cells + 2) (n := slots + 15) (by omega) (by omega) ?_
    exact kk H locs u.1 u.2.1 u.2.2 θ2 τ2 α ls hC hm.2.2 (lv_sub hl [2, 3, 4, 5, 6] rfl)
  refine lv_icmp_eq (tgt := 328) hx hb dL_law_323 (by decide) (fun _ => ?_) (fun c1 => absurd (show fX4_thrown θ2 = r from hm.1) c1)
  refine lv_iload hx hb dL_law_328 (lv_at hl 1 rfl) ?_
  refine lv_if_ne (tgt := 345) hx hb dL_law_330 (by decide) (fun _ => fin) (fun c2 => ?_)
  refine lv_aload_n hx hb dL_law_333 rfl (lv_at hl 3 rfl) ?_
  refine lv_iconst (v := 0) hx hb dL_law_334 (by decide) ?_
  refine l_lald hx hb hC dL_law_335 ?_
  refine lv_iload hx hb dL_law_336 (lv_at hl 0 rfl) ?_
  refine lv_i2l hx hb dL_law_338 rfl ?_
  refine W.lcmp hx hb dL_law_339 ?_
  exact lv_if_eq (tgt := 345) hx hb dL_law_340 (by decide) (fun _ => fin) (fun c3 => absurd (by rw [hm.2.1 c2]; exact l_cmp0 _) c3)
set_option maxHeartbeats 1000000 in
set_option maxRecDepth 100000 in
theorem k_settle (hl0 : l.stackTraces = false) (F : CallFix p m c cL_law 9 S #[Value.ref sb] wsL_law RL) (hN : lSt S) (hC : lB D cI cM cL a o b S A H0 H locs 0 ν t g 0 θ τ α) (hA : ∀ q, H0.size ≤ q → A q) (hX : va_X sb L xs S H0) (hbl : sb < H0.size) (hbA : ¬ A sb) (hI : Inv k ν τ θ) (hk : k < 512) (hL : L ≤ 2048) (h4 : 4*k+4 ≤ L) (hf : cells + 2 ≤ 601024 ∧ slots + 15 ≤ 7293034) (hl : lv_has ls 9 (l0 sb a o b k))
    (kk : kont p l e S m below meth c D cI cM cL a o b A H0 sb k (cells + 2) (slots + 15) Q) : W p l e room_1 S m #[Value.ref sb] below meth c H locs cells slots Q (F0 m 348 ls []) := by
  obtain ⟨hx, hb, hml, hown, hts⟩ := id F
  obtain ⟨N, w, hR, hw, hw2⟩ := id hI
  have hW := hR.wfm
  have hwk : τ 0 0 = nI w := hR.sc.1.symm.trans hw
  have hl : lv_has ls 9 [(4, .int (nI (4*k))), (3, .ref o), (2, .ref (b 0)), (1, .ref (a 34)), (0, .ref sb)] := hl
  have hag := ag_settle (t := t) (xv xs k 1) hI hk
  refine lv_aload_n hx hb dL_law_348 rfl (lv_at hl 3 rfl) ?_
  refine lv_aload_n hx hb dL_law_349 rfl (lv_at hl 4 rfl) ?_
  refine lv_iload hx hb dL_law_350 (lv_at hl 0 rfl) ?_
  refine lv_iconst (v := 1) hx hb dL_law_352 (by decide) ?_
  refine lv_iadd hx hb dL_law_353 ?_
  refine va_sld hx hb hX hbl hbA hC.2.2.2.1 (l_ix (j := 1) hL h4 (by decide)) dL_law_354 ?_
  refine lv_aload_n hx hb dL_law_355 rfl (lv_at hl 1 rfl) ?_
  refine l_hlp (n := 3) (As := [.ref (a 34), .int (xv xs k 1), .ref o]) (rest := []) F (t_L_settle l hl0 D cI cM cL a o ν t g (xv xs k 1) hag.cs) gL_law_L_settle rfl (by decide +kernel) ⟨Nat.le_of_ble_eq_true rfl, Nat.le_of_ble_eq_true rfl⟩ hN hC hA rfl hl.1 rfl (Nat.le_of_ble_eq_true rfl) dL_law_356 ⟨(show cells + 1 ≤ 601024 by omega), (show slots + 6 ≤ 7293034 by omega)⟩ (fun r u H locs hsp hC => ?_)
  refine lv_istore (lv' := [(5, .int r), (4, .int (nI (4*k))), (3, .ref o), (2, .ref (b 0)), (1, .ref (a 34)), (0, .ref sb)]) hx hb dL_law_359 hl (by decide) rfl ?_
  clear hl; intro ls hl
  refine lv_aload_n hx hb dL_law_361 rfl (lv_at hl 3 rfl) ?_
  refine lv_aload_n hx hb dL_law_362 rfl (lv_at hl 5 rfl) ?_
  refine lv_iload hx hb dL_law_363 (lv_at hl 1 rfl) ?_
  refine lv_iconst (v := 1) hx hb dL_law_365 (by decide) ?_
  refine lv_iadd hx hb dL_law_366 ?_
  refine va_sld hx hb hX hbl hbA hC.2.2.2.1 (l_ix (j := 1) hL h4 (by decide)) dL_law_367 ?_
  refine l_mod (n := 1) (mc := 0) (ms := 0) (As := [.int (xv xs k 1)]) (rest := []) F (c_X4_settle l D cI b θ τ α (xv xs k 1) N hW) gL_law_X4_settle rfl rfl rfl (by decide +kernel) ⟨Nat.le_of_ble_eq_true rfl, Nat.le_of_ble_eq_true rfl⟩ hN hC hA rfl hl.1 rfl (Nat.le_of_ble_eq_true rfl) dL_law_368 ⟨(show cells + 1 + 0 ≤ 601024 by omega), (show slots + 6 + 0 ≤ 7293034 by omega)⟩ ?_
  clear hC; intro H locs hC
  have hm := agr_meet (by decide) rfl hsp hag
  generalize (fX4_settle θ τ (xv xs k 1)).1 = qv at hm ⊢
  generalize (fX4_settle θ τ (xv xs k 1)).2.1 = θ2 at hm hC
  generalize (fX4_settle θ τ (xv xs k 1)).2.2 = τ2 at hm hC
  refine lv_istore (lv' := [(6, .int qv), (5, .int r), (4, .int (nI (4*k))), (3, .ref o), (2, .ref (b 0)), (1, .ref (a 34)), (0, .ref sb)]) hx hb dL_law_371 hl (by decide) rfl ?_
  clear hl; intro ls hl
  refine lv_aload_n hx hb dL_law_373 rfl (lv_at hl 4 rfl) ?_
  refine l_mod (n := 0) (mc := 0) (ms := 0) (As := []) (rest := []) F (c_X4_thrown l D cI b 0 θ2 τ2 α) gL_law_X4_thrown rfl rfl rfl (by decide +kernel) ⟨Nat.le_of_ble_eq_true rfl, Nat.le_of_ble_eq_true rfl⟩ hN hC hA rfl hl.1 rfl (Nat.le_of_ble_eq_true rfl) dL_law_374 ⟨(show cells + 1 + 0 + 0 ≤ 601024 by omega), (show slots + 6 + 0 + 0 ≤ 7293034 by omega)⟩ ?_
  clear hC; intro H locs hC
  refine lv_iload hx hb dL_law_377 (lv_at hl 1 rfl) ?_
  have fin : W p l e room_1 S m #[Value.ref sb] below meth c H locs (cells + 1 + 0 + 0) (slots + 6 + 0 + 0) Q (F0 m 401 ls []) := by
    refine lv_goto (tgt := 1217) hx hb dL_law_401 (by decide) ?_
    refine W.widen (k := cells + 2) (n := slots + 15) (by omega) (by omega) ?_
    exact kk H locs u.1 u.2.1 u.2.2 θ2 τ2 α ls hC hm.2.2 (lv_sub hl [2, 3, 4, 5, 6] rfl)
  refine lv_icmp_eq (tgt := 384) hx hb dL_law_379 (by decide) (fun _ => ?_) (fun c1 => absurd (show fX4_thrown θ2 = r from hm.1) c1)
  refine lv_iload hx hb dL_law_384 (lv_at hl 1 rfl) ?_
  refine lv_if_ne (tgt := 401) hx hb dL_law_386 (by decide) (fun _ => fin) (fun c2 => ?_)
  refine lv_aload_n hx hb dL_law_389 rfl (lv_at hl 3 rfl) ?_
  refine lv_iconst (v := 0) hx hb dL_law_390 (by decide) ?_
  refine l_lald hx hb hC dL_law_391 ?_
  refine lv_iload hx hb dL_law_392 (lv_at hl 0 rfl) ?_
  refine lv_i2l hx hb dL_law_394 rfl ?_
  refine W.lcmp hx hb dL_law_395 ?_
  exact lv_if_eq (tgt := 401) hx hb dL_law_396 (by decide) (fun _ => fin) (fun c3 => absurd (by rw [hm.2.1 c2]; exact l_cmp0 _) c3)
set_option maxHeartbeats 1000000 in
set_option maxRecDepth 100000 in
theorem k_told (hl0 : l.stackTraces = false) (F : CallFix p m c cL_law 9 S #[Value.ref sb] wsL_law RL) (hN : lSt S) (hC : lB D cI cM cL a o b S A H0 H locs 0 ν t g 0 θ τ α) (hA : ∀ q, H0.size ≤ q → A q) (hX : va_X sb L xs S H0) (hbl : sb < H0.size) (hbA : ¬ A sb) (hI : Inv k ν τ θ) (hk : k < 512) (hL : L ≤ 2048) (h4 : 4*k+4 ≤ L) (hf : cells + 2 ≤ 601024 ∧ slots + 15 ≤ 7293034) (hl : lv_has ls 9 (l0 sb a o b k))
    (kk : kont p l e S m below meth c D cI cM cL a o b A H0 sb k (cells + 2) (slots + 15) Q) : W p l e room_1 S m #[Value.ref sb] below meth c H locs cells slots Q (F0 m 404 ls []) := by
  obtain ⟨hx, hb, hml, hown, hts⟩ := id F
  obtain ⟨N, w, hR, hw, hw2⟩ := id hI
  have hW := hR.wfm
  have hwk : τ 0 0 = nI w := hR.sc.1.symm.trans hw
  have hl : lv_has ls 9 [(4, .int (nI (4*k))), (3, .ref o), (2, .ref (b 0)), (1, .ref (a 34)), (0, .ref sb)] := hl
  have hag := ag_told (t := t) (xv xs k 1) (xv xs k 2) hI hk
  refine lv_aload_n hx hb dL_law_404 rfl (lv_at hl 3 rfl) ?_
  refine lv_aload_n hx hb dL_law_405 rfl (lv_at hl 4 rfl) ?_
  refine lv_iload hx hb dL_law_406 (lv_at hl 0 rfl) ?_
  refine lv_iconst (v := 1) hx hb dL_law_408 (by decide) ?_
  refine lv_iadd hx hb dL_law_409 ?_
  refine va_sld hx hb hX hbl hbA hC.2.2.2.1 (l_ix (j := 1) hL h4 (by decide)) dL_law_410 ?_
  refine lv_aload_n hx hb dL_law_411 rfl (lv_at hl 4 rfl) ?_
  refine lv_iload hx hb dL_law_412 (lv_at hl 0 rfl) ?_
  refine lv_iconst (v := 2) hx hb dL_law_414 (by decide) ?_
  refine lv_iadd hx hb dL_law_415 ?_
  refine va_sld hx hb hX hbl hbA hC.2.2.2.1 (l_ix (j := 2) hL h4 (by decide)) dL_law_416 ?_
  refine lv_aload_n hx hb dL_law_417 rfl (lv_at hl 1 rfl) ?_
  refine l_hlp (n := 4) (As := [.ref (a 34), .int (xv xs k 1), .int (xv xs k 2), .ref o]) (rest := []) F (t_L_told l hl0 D cI cM cL a o ν t g (xv xs k 1) (xv xs k 2) hag.cs) gL_law_L_told rfl (by decide +kernel) ⟨Nat.le_of_ble_eq_true rfl, Nat.le_of_ble_eq_true rfl⟩ hN hC hA rfl hl.1 rfl (Nat.le_of_ble_eq_true rfl) dL_law_418 ⟨(show cells + 1 ≤ 601024 by omega), (show slots + 6 ≤ 7293034 by omega)⟩ (fun r u H locs hsp hC => ?_)
  refine lv_istore (lv' := [(5, .int r), (4, .int (nI (4*k))), (3, .ref o), (2, .ref (b 0)), (1, .ref (a 34)), (0, .ref sb)]) hx hb dL_law_421 hl (by decide) rfl ?_
  clear hl; intro ls hl
  refine lv_aload_n hx hb dL_law_423 rfl (lv_at hl 3 rfl) ?_
  refine lv_aload_n hx hb dL_law_424 rfl (lv_at hl 5 rfl) ?_
  refine lv_iload hx hb dL_law_425 (lv_at hl 1 rfl) ?_
  refine lv_iconst (v := 1) hx hb dL_law_427 (by decide) ?_
  refine lv_iadd hx hb dL_law_428 ?_
  refine va_sld hx hb hX hbl hbA hC.2.2.2.1 (l_ix (j := 1) hL h4 (by decide)) dL_law_429 ?_
  refine lv_aload_n hx hb dL_law_430 rfl (lv_at hl 5 rfl) ?_
  refine lv_iload hx hb dL_law_431 (lv_at hl 1 rfl) ?_
  refine lv_iconst (v := 2) hx hb dL_law_433 (by decide) ?_
  refine lv_iadd hx hb dL_law_434 ?_
  refine va_sld hx hb hX hbl hbA hC.2.2.2.1 (l_ix (j := 2) hL h4 (by decide)) dL_law_435 ?_
  refine l_mod (n := 2) (mc := 0) (ms := 0) (As := [.int (xv xs k 1), .int (xv xs k 2)]) (rest := []) F (c_X4_told l D cI b θ τ α (xv xs k 1) (xv xs k 2) N hW) gL_law_X4_told rfl rfl rfl (by decide +kernel) ⟨Nat.le_of_ble_eq_true rfl, Nat.le_of_ble_eq_true rfl⟩ hN hC hA rfl hl.1 rfl (Nat.le_of_ble_eq_true rfl) dL_law_436 ⟨(show cells + 1 + 0 ≤ 601024 by omega), (show slots + 6 + 0 ≤ 7293034 by omega)⟩ ?_
  clear hC; intro H locs hC
  have hm := agr_meet (by decide) rfl hsp hag
  generalize (fX4_told θ τ (xv xs k 1) (xv xs k 2)).1 = qv at hm ⊢
  generalize (fX4_told θ τ (xv xs k 1) (xv xs k 2)).2 = θ2 at hm hC
  refine lv_istore (lv' := [(6, .int qv), (5, .int r), (4, .int (nI (4*k))), (3, .ref o), (2, .ref (b 0)), (1, .ref (a 34)), (0, .ref sb)]) hx hb dL_law_439 hl (by decide) rfl ?_
  clear hl; intro ls hl
  refine lv_aload_n hx hb dL_law_441 rfl (lv_at hl 4 rfl) ?_
  refine l_mod (n := 0) (mc := 0) (ms := 0) (As := []) (rest := []) F (c_X4_thrown l D cI b 0 θ2 τ α) gL_law_X4_thrown rfl rfl rfl (by decide +kernel) ⟨Nat.le_of_ble_eq_true rfl, Nat.le_of_ble_eq_true rfl⟩ hN hC hA rfl hl.1 rfl (Nat.le_of_ble_eq_true rfl) dL_law_442 ⟨(show cells + 1 + 0 + 0 ≤ 601024 by omega), (show slots + 6 + 0 + 0 ≤ 7293034 by omega)⟩ ?_
  clear hC; intro H locs hC
  refine lv_iload hx hb dL_law_445 (lv_at hl 1 rfl) ?_
  have fin : W p l e room_1 S m #[Value.ref sb] below meth c H locs (cells + 1 + 0 + 0) (slots + 6 + 0 + 0) Q (F0 m 469 ls []) := by
    refine lv_goto (tgt := 1217) hx hb dL_law_469 (by decide) ?_
    refine W.widen (k := cells + 2) (n := slots + 15) (by omega) (by omega) ?_
    exact kk H locs u.1 u.2.1 u.2.2 θ2 τ α ls hC hm.2.2 (lv_sub hl [2, 3, 4, 5, 6] rfl)
  refine lv_icmp_eq (tgt := 452) hx hb dL_law_447 (by decide) (fun _ => ?_) (fun c1 => absurd (show fX4_thrown θ2 = r from hm.1) c1)
  refine lv_iload hx hb dL_law_452 (lv_at hl 1 rfl) ?_
  refine lv_if_ne (tgt := 469) hx hb dL_law_454 (by decide) (fun _ => fin) (fun c2 => ?_)
  refine lv_aload_n hx hb dL_law_457 rfl (lv_at hl 3 rfl) ?_
  refine lv_iconst (v := 0) hx hb dL_law_458 (by decide) ?_
  refine l_lald hx hb hC dL_law_459 ?_
  refine lv_iload hx hb dL_law_460 (lv_at hl 0 rfl) ?_
  refine lv_i2l hx hb dL_law_462 rfl ?_
  refine W.lcmp hx hb dL_law_463 ?_
  exact lv_if_eq (tgt := 469) hx hb dL_law_464 (by decide) (fun _ => fin) (fun c3 => absurd (by rw [hm.2.1 c2]; exact l_cmp0 _) c3)
set_option maxHeartbeats 1000000 in
set_option maxRecDepth 100000 in
theorem k_setFever (hl0 : l.stackTraces = false) (F : CallFix p m c cL_law 9 S #[Value.ref sb] wsL_law RL) (hN : lSt S) (hC : lB D cI cM cL a o b S A H0 H locs 0 ν t g 0 θ τ α) (hA : ∀ q, H0.size ≤ q → A q) (hX : va_X sb L xs S H0) (hbl : sb < H0.size) (hbA : ¬ A sb) (hI : Inv k ν τ θ) (hk : k < 512) (hL : L ≤ 2048) (h4 : 4*k+4 ≤ L) (hf : cells + 2 ≤ 601024 ∧ slots + 15 ≤ 7293034) (hl : lv_has ls 9 (l0 sb a o b k))
    (kk : kont p l e S m below meth c D cI cM cL a o b A H0 sb k (cells + 2) (slots + 15) Q) : W p l e room_1 S m #[Value.ref sb] below meth c H locs cells slots Q (F0 m 485 ls []) := by
  obtain ⟨hx, hb, hml, hown, hts⟩ := id F
  obtain ⟨N, w, hR, hw, hw2⟩ := id hI
  have hW := hR.wfm
  have hwk : τ 0 0 = nI w := hR.sc.1.symm.trans hw
  have hl : lv_has ls 9 [(4, .int (nI (4*k))), (3, .ref o), (2, .ref (b 0)), (1, .ref (a 34)), (0, .ref sb)] := hl
  have hag := ag_setFever (t := t) (xv xs k 1) (xv xs k 2) hI hk
  refine lv_aload_n hx hb dL_law_485 rfl (lv_at hl 3 rfl) ?_
  refine lv_aload_n hx hb dL_law_486 rfl (lv_at hl 4 rfl) ?_
  refine lv_iload hx hb dL_law_487 (lv_at hl 0 rfl) ?_
  refine lv_iconst (v := 1) hx hb dL_law_489 (by decide) ?_
  refine lv_iadd hx hb dL_law_490 ?_
  refine va_sld hx hb hX hbl hbA hC.2.2.2.1 (l_ix (j := 1) hL h4 (by decide)) dL_law_491 ?_
  refine lv_aload_n hx hb dL_law_492 rfl (lv_at hl 4 rfl) ?_
  refine lv_iload hx hb dL_law_493 (lv_at hl 0 rfl) ?_
  refine lv_iconst (v := 2) hx hb dL_law_495 (by decide) ?_
  refine lv_iadd hx hb dL_law_496 ?_
  refine va_sld hx hb hX hbl hbA hC.2.2.2.1 (l_ix (j := 2) hL h4 (by decide)) dL_law_497 ?_
  refine lv_aload_n hx hb dL_law_498 rfl (lv_at hl 1 rfl) ?_
  refine l_hlp (n := 4) (As := [.ref (a 34), .int (xv xs k 1), .int (xv xs k 2), .ref o]) (rest := []) F (t_L_setFever l hl0 D cI cM cL a o ν t g (xv xs k 1) (xv xs k 2) hag.cs) gL_law_L_setFever rfl (by decide +kernel) ⟨Nat.le_of_ble_eq_true rfl, Nat.le_of_ble_eq_true rfl⟩ hN hC hA rfl hl.1 rfl (Nat.le_of_ble_eq_true rfl) dL_law_499 ⟨(show cells + 1 ≤ 601024 by omega), (show slots + 6 ≤ 7293034 by omega)⟩ (fun r u H locs hsp hC => ?_)
  refine lv_istore (lv' := [(5, .int r), (4, .int (nI (4*k))), (3, .ref o), (2, .ref (b 0)), (1, .ref (a 34)), (0, .ref sb)]) hx hb dL_law_502 hl (by decide) rfl ?_
  clear hl; intro ls hl
  refine lv_aload_n hx hb dL_law_504 rfl (lv_at hl 3 rfl) ?_
  refine lv_aload_n hx hb dL_law_505 rfl (lv_at hl 5 rfl) ?_
  refine lv_iload hx hb dL_law_506 (lv_at hl 1 rfl) ?_
  refine lv_iconst (v := 1) hx hb dL_law_508 (by decide) ?_
  refine lv_iadd hx hb dL_law_509 ?_
  refine va_sld hx hb hX hbl hbA hC.2.2.2.1 (l_ix (j := 1) hL h4 (by decide)) dL_law_510 ?_
  refine lv_aload_n hx hb dL_law_511 rfl (lv_at hl 5 rfl) ?_
  refine lv_iload hx hb dL_law_512 (lv_at hl 1 rfl) ?_
  refine lv_iconst (v := 2) hx hb dL_law_514 (by decide) ?_
  refine lv_iadd hx hb dL_law_515 ?_
  refine va_sld hx hb hX hbl hbA hC.2.2.2.1 (l_ix (j := 2) hL h4 (by decide)) dL_law_516 ?_
  refine l_mod (n := 2) (mc := 0) (ms := 0) (As := [.int (xv xs k 1), .int (xv xs k 2)]) (rest := []) F (c_X4_setFever l D cI b θ τ α (xv xs k 1) (xv xs k 2)) gL_law_X4_setFever rfl rfl rfl (by decide +kernel) ⟨Nat.le_of_ble_eq_true rfl, Nat.le_of_ble_eq_true rfl⟩ hN hC hA rfl hl.1 rfl (Nat.le_of_ble_eq_true rfl) dL_law_517 ⟨(show cells + 1 + 0 ≤ 601024 by omega), (show slots + 6 + 0 ≤ 7293034 by omega)⟩ ?_
  clear hC; intro H locs hC
  have hm := agr_meet (by decide) rfl hsp hag
  generalize (fX4_setFever θ (xv xs k 1) (xv xs k 2)).1 = qv at hm ⊢
  generalize (fX4_setFever θ (xv xs k 1) (xv xs k 2)).2 = θ2 at hm hC
  refine lv_istore (lv' := [(6, .int qv), (5, .int r), (4, .int (nI (4*k))), (3, .ref o), (2, .ref (b 0)), (1, .ref (a 34)), (0, .ref sb)]) hx hb dL_law_520 hl (by decide) rfl ?_
  clear hl; intro ls hl
  refine lv_aload_n hx hb dL_law_522 rfl (lv_at hl 4 rfl) ?_
  refine l_mod (n := 0) (mc := 0) (ms := 0) (As := []) (rest := []) F (c_X4_thrown l D cI b 0 θ2 τ α) gL_law_X4_thrown rfl rfl rfl (by decide +kernel) ⟨Nat.le_of_ble_eq_true rfl, Nat.le_of_ble_eq_true rfl⟩ hN hC hA rfl hl.1 rfl (Nat.le_of_ble_eq_true rfl) dL_law_523 ⟨(show cells + 1 + 0 + 0 ≤ 601024 by omega), (show slots + 6 + 0 + 0 ≤ 7293034 by omega)⟩ ?_
  clear hC; intro H locs hC
  refine lv_iload hx hb dL_law_526 (lv_at hl 1 rfl) ?_
  have fin : W p l e room_1 S m #[Value.ref sb] below meth c H locs (cells + 1 + 0 + 0) (slots + 6 + 0 + 0) Q (F0 m 550 ls []) := by
    refine lv_goto (tgt := 1217) hx hb dL_law_550 (by decide) ?_
    refine W.widen (k := cells + 2) (n := slots + 15) (by omega) (by omega) ?_
    exact kk H locs u.1 u.2.1 u.2.2 θ2 τ α ls hC hm.2.2 (lv_sub hl [2, 3, 4, 5, 6] rfl)
  refine lv_icmp_eq (tgt := 533) hx hb dL_law_528 (by decide) (fun _ => ?_) (fun c1 => absurd (show fX4_thrown θ2 = r from hm.1) c1)
  refine lv_iload hx hb dL_law_533 (lv_at hl 1 rfl) ?_
  refine lv_if_ne (tgt := 550) hx hb dL_law_535 (by decide) (fun _ => fin) (fun c2 => ?_)
  refine lv_aload_n hx hb dL_law_538 rfl (lv_at hl 3 rfl) ?_
  refine lv_iconst (v := 0) hx hb dL_law_539 (by decide) ?_
  refine l_lald hx hb hC dL_law_540 ?_
  refine lv_iload hx hb dL_law_541 (lv_at hl 0 rfl) ?_
  refine lv_i2l hx hb dL_law_543 rfl ?_
  refine W.lcmp hx hb dL_law_544 ?_
  exact lv_if_eq (tgt := 550) hx hb dL_law_545 (by decide) (fun _ => fin) (fun c3 => absurd (by rw [hm.2.1 c2]; exact l_cmp0 _) c3)
set_option maxHeartbeats 1000000 in
set_option maxRecDepth 100000 in
theorem k_setDues (hl0 : l.stackTraces = false) (F : CallFix p m c cL_law 9 S #[Value.ref sb] wsL_law RL) (hN : lSt S) (hC : lB D cI cM cL a o b S A H0 H locs 0 ν t g 0 θ τ α) (hA : ∀ q, H0.size ≤ q → A q) (hX : va_X sb L xs S H0) (hbl : sb < H0.size) (hbA : ¬ A sb) (hI : Inv k ν τ θ) (hk : k < 512) (hL : L ≤ 2048) (h4 : 4*k+4 ≤ L) (hf : cells + 2 ≤ 601024 ∧ slots + 15 ≤ 7293034) (hl : lv_has ls 9 (l0 sb a o b k))
    (kk : kont p l e S m below meth c D cI cM cL a o b A H0 sb k (cells + 2) (slots + 15) Q) : W p l e room_1 S m #[Value.ref sb] below meth c H locs cells slots Q (F0 m 553 ls []) := by
  obtain ⟨hx, hb, hml, hown, hts⟩ := id F
  obtain ⟨N, w, hR, hw, hw2⟩ := id hI
  have hW := hR.wfm
  have hwk : τ 0 0 = nI w := hR.sc.1.symm.trans hw
  have hl : lv_has ls 9 [(4, .int (nI (4*k))), (3, .ref o), (2, .ref (b 0)), (1, .ref (a 34)), (0, .ref sb)] := hl
  have hag := ag_setDues (t := t) (xv xs k 1) hI hk
  refine lv_aload_n hx hb dL_law_553 rfl (lv_at hl 3 rfl) ?_
  refine lv_aload_n hx hb dL_law_554 rfl (lv_at hl 4 rfl) ?_
  refine lv_iload hx hb dL_law_555 (lv_at hl 0 rfl) ?_
  refine lv_iconst (v := 1) hx hb dL_law_557 (by decide) ?_
  refine lv_iadd hx hb dL_law_558 ?_
  refine va_sld hx hb hX hbl hbA hC.2.2.2.1 (l_ix (j := 1) hL h4 (by decide)) dL_law_559 ?_
  refine lv_aload_n hx hb dL_law_560 rfl (lv_at hl 1 rfl) ?_
  refine l_hlp (n := 3) (As := [.ref (a 34), .int (xv xs k 1), .ref o]) (rest := []) F (t_L_setDues l hl0 D cI cM cL a o ν t g (xv xs k 1) hag.cs) gL_law_L_setDues rfl (by decide +kernel) ⟨Nat.le_of_ble_eq_true rfl, Nat.le_of_ble_eq_true rfl⟩ hN hC hA rfl hl.1 rfl (Nat.le_of_ble_eq_true rfl) dL_law_561 ⟨(show cells + 1 ≤ 601024 by omega), (show slots + 6 ≤ 7293034 by omega)⟩ (fun r u H locs hsp hC => ?_)
  refine lv_istore (lv' := [(5, .int r), (4, .int (nI (4*k))), (3, .ref o), (2, .ref (b 0)), (1, .ref (a 34)), (0, .ref sb)]) hx hb dL_law_564 hl (by decide) rfl ?_
  clear hl; intro ls hl
  refine lv_aload_n hx hb dL_law_566 rfl (lv_at hl 3 rfl) ?_
  refine lv_aload_n hx hb dL_law_567 rfl (lv_at hl 5 rfl) ?_
  refine lv_iload hx hb dL_law_568 (lv_at hl 1 rfl) ?_
  refine lv_iconst (v := 1) hx hb dL_law_570 (by decide) ?_
  refine lv_iadd hx hb dL_law_571 ?_
  refine va_sld hx hb hX hbl hbA hC.2.2.2.1 (l_ix (j := 1) hL h4 (by decide)) dL_law_572 ?_
  refine l_mod (n := 1) (mc := 0) (ms := 0) (As := [.int (xv xs k 1)]) (rest := []) F (c_X4_setDues l D cI b θ τ α (xv xs k 1)) gL_law_X4_setDues rfl rfl rfl (by decide +kernel) ⟨Nat.le_of_ble_eq_true rfl, Nat.le_of_ble_eq_true rfl⟩ hN hC hA rfl hl.1 rfl (Nat.le_of_ble_eq_true rfl) dL_law_573 ⟨(show cells + 1 + 0 ≤ 601024 by omega), (show slots + 6 + 0 ≤ 7293034 by omega)⟩ ?_
  clear hC; intro H locs hC
  have hm := agr_meet (by decide) rfl hsp hag
  generalize (fX4_setDues θ (xv xs k 1)).1 = qv at hm ⊢
  generalize (fX4_setDues θ (xv xs k 1)).2 = θ2 at hm hC
  refine lv_istore (lv' := [(6, .int qv), (5, .int r), (4, .int (nI (4*k))), (3, .ref o), (2, .ref (b 0)), (1, .ref (a 34)), (0, .ref sb)]) hx hb dL_law_576 hl (by decide) rfl ?_
  clear hl; intro ls hl
  refine lv_aload_n hx hb dL_law_578 rfl (lv_at hl 4 rfl) ?_
  refine l_mod (n := 0) (mc := 0) (ms := 0) (As := []) (rest := []) F (c_X4_thrown l D cI b 0 θ2 τ α) gL_law_X4_thrown rfl rfl rfl (by decide +kernel) ⟨Nat.le_of_ble_eq_true rfl, Nat.le_of_ble_eq_true rfl⟩ hN hC hA rfl hl.1 rfl (Nat.le_of_ble_eq_true rfl) dL_law_579 ⟨(show cells + 1 + 0 + 0 ≤ 601024 by omega), (show slots + 6 + 0 + 0 ≤ 7293034 by omega)⟩ ?_
  clear hC; intro H locs hC
  refine lv_iload hx hb dL_law_582 (lv_at hl 1 rfl) ?_
  have fin : W p l e room_1 S m #[Value.ref sb] below meth c H locs (cells + 1 + 0 + 0) (slots + 6 + 0 + 0) Q (F0 m 606 ls []) := by
    refine lv_goto (tgt := 1217) hx hb dL_law_606 (by decide) ?_
    refine W.widen (k := cells + 2) (n := slots + 15) (by omega) (by omega) ?_
    exact kk H locs u.1 u.2.1 u.2.2 θ2 τ α ls hC hm.2.2 (lv_sub hl [2, 3, 4, 5, 6] rfl)
  refine lv_icmp_eq (tgt := 589) hx hb dL_law_584 (by decide) (fun _ => ?_) (fun c1 => absurd (show fX4_thrown θ2 = r from hm.1) c1)
  refine lv_iload hx hb dL_law_589 (lv_at hl 1 rfl) ?_
  refine lv_if_ne (tgt := 606) hx hb dL_law_591 (by decide) (fun _ => fin) (fun c2 => ?_)
  refine lv_aload_n hx hb dL_law_594 rfl (lv_at hl 3 rfl) ?_
  refine lv_iconst (v := 0) hx hb dL_law_595 (by decide) ?_
  refine l_lald hx hb hC dL_law_596 ?_
  refine lv_iload hx hb dL_law_597 (lv_at hl 0 rfl) ?_
  refine lv_i2l hx hb dL_law_599 rfl ?_
  refine W.lcmp hx hb dL_law_600 ?_
  exact lv_if_eq (tgt := 606) hx hb dL_law_601 (by decide) (fun _ => fin) (fun c3 => absurd (by rw [hm.2.1 c2]; exact l_cmp0 _) c3)
set_option maxHeartbeats 1000000 in
set_option maxRecDepth 100000 in
theorem k_buy (hl0 : l.stackTraces = false) (F : CallFix p m c cL_law 9 S #[Value.ref sb] wsL_law RL) (hN : lSt S) (hC : lB D cI cM cL a o b S A H0 H locs 0 ν t g 0 θ τ α) (hA : ∀ q, H0.size ≤ q → A q) (hX : va_X sb L xs S H0) (hbl : sb < H0.size) (hbA : ¬ A sb) (hI : Inv k ν τ θ) (hk : k < 512) (hL : L ≤ 2048) (h4 : 4*k+4 ≤ L) (hf : cells + 2 ≤ 601024 ∧ slots + 15 ≤ 7293034) (hl : lv_has ls 9 (l0 sb a o b k))
    (kk : kont p l e S m below meth c D cI cM cL a o b A H0 sb k (cells + 2) (slots + 15) Q) : W p l e room_1 S m #[Value.ref sb] below meth c H locs cells slots Q (F0 m 609 ls []) := by
  obtain ⟨hx, hb, hml, hown, hts⟩ := id F
  obtain ⟨N, w, hR, hw, hw2⟩ := id hI
  have hW := hR.wfm
  have hwk : τ 0 0 = nI w := hR.sc.1.symm.trans hw
  have hl : lv_has ls 9 [(4, .int (nI (4*k))), (3, .ref o), (2, .ref (b 0)), (1, .ref (a 34)), (0, .ref sb)] := hl
  have hag := ag_buy (t := t) (xv xs k 1) (xv xs k 2) hI hk
  refine lv_aload_n hx hb dL_law_609 rfl (lv_at hl 3 rfl) ?_
  refine lv_aload_n hx hb dL_law_610 rfl (lv_at hl 4 rfl) ?_
  refine lv_iload hx hb dL_law_611 (lv_at hl 0 rfl) ?_
  refine lv_iconst (v := 1) hx hb dL_law_613 (by decide) ?_
  refine lv_iadd hx hb dL_law_614 ?_
  refine va_sld hx hb hX hbl hbA hC.2.2.2.1 (l_ix (j := 1) hL h4 (by decide)) dL_law_615 ?_
  refine lv_aload_n hx hb dL_law_616 rfl (lv_at hl 4 rfl) ?_
  refine lv_iload hx hb dL_law_617 (lv_at hl 0 rfl) ?_
  refine lv_iconst (v := 2) hx hb dL_law_619 (by decide) ?_
  refine lv_iadd hx hb dL_law_620 ?_
  refine va_sld hx hb hX hbl hbA hC.2.2.2.1 (l_ix (j := 2) hL h4 (by decide)) dL_law_621 ?_
  refine lv_aload_n hx hb dL_law_622 rfl (lv_at hl 1 rfl) ?_
  refine l_hlp (n := 4) (As := [.ref (a 34), .int (xv xs k 1), .int (xv xs k 2), .ref o]) (rest := []) F (t_L_buy l hl0 D cI cM cL a o ν t g (xv xs k 1) (xv xs k 2) hag.cs) gL_law_L_buy rfl (by decide +kernel) ⟨Nat.le_of_ble_eq_true rfl, Nat.le_of_ble_eq_true rfl⟩ hN hC hA rfl hl.1 rfl (Nat.le_of_ble_eq_true rfl) dL_law_623 ⟨(show cells + 1 ≤ 601024 by omega), (show slots + 6 ≤ 7293034 by omega)⟩ (fun r u H locs hsp hC => ?_)
  refine lv_istore (lv' := [(5, .int r), (4, .int (nI (4*k))), (3, .ref o), (2, .ref (b 0)), (1, .ref (a 34)), (0, .ref sb)]) hx hb dL_law_626 hl (by decide) rfl ?_
  clear hl; intro ls hl
  refine lv_aload_n hx hb dL_law_628 rfl (lv_at hl 3 rfl) ?_
  refine lv_aload_n hx hb dL_law_629 rfl (lv_at hl 5 rfl) ?_
  refine lv_iload hx hb dL_law_630 (lv_at hl 1 rfl) ?_
  refine lv_iconst (v := 1) hx hb dL_law_632 (by decide) ?_
  refine lv_iadd hx hb dL_law_633 ?_
  refine va_sld hx hb hX hbl hbA hC.2.2.2.1 (l_ix (j := 1) hL h4 (by decide)) dL_law_634 ?_
  refine lv_aload_n hx hb dL_law_635 rfl (lv_at hl 5 rfl) ?_
  refine lv_iload hx hb dL_law_636 (lv_at hl 1 rfl) ?_
  refine lv_iconst (v := 2) hx hb dL_law_638 (by decide) ?_
  refine lv_iadd hx hb dL_law_639 ?_
  refine va_sld hx hb hX hbl hbA hC.2.2.2.1 (l_ix (j := 2) hL h4 (by decide)) dL_law_640 ?_
  refine l_mod (n := 2) (mc := 0) (ms := 0) (As := [.int (xv xs k 1), .int (xv xs k 2)]) (rest := []) F (c_X4_buy l D cI b θ τ α (xv xs k 1) (xv xs k 2)) gL_law_X4_buy rfl rfl rfl (by decide +kernel) ⟨Nat.le_of_ble_eq_true rfl, Nat.le_of_ble_eq_true rfl⟩ hN hC hA rfl hl.1 rfl (Nat.le_of_ble_eq_true rfl) dL_law_641 ⟨(show cells + 1 + 0 ≤ 601024 by omega), (show slots + 6 + 0 ≤ 7293034 by omega)⟩ ?_
  clear hC; intro H locs hC
  have hm := agr_meet (by decide) rfl hsp hag
  generalize (fX4_buy θ τ (xv xs k 1) (xv xs k 2)).1 = qv at hm ⊢
  generalize (fX4_buy θ τ (xv xs k 1) (xv xs k 2)).2.1 = θ2 at hm hC
  generalize (fX4_buy θ τ (xv xs k 1) (xv xs k 2)).2.2 = τ2 at hm hC
  refine lv_istore (lv' := [(6, .int qv), (5, .int r), (4, .int (nI (4*k))), (3, .ref o), (2, .ref (b 0)), (1, .ref (a 34)), (0, .ref sb)]) hx hb dL_law_644 hl (by decide) rfl ?_
  clear hl; intro ls hl
  refine lv_aload_n hx hb dL_law_646 rfl (lv_at hl 4 rfl) ?_
  refine l_mod (n := 0) (mc := 0) (ms := 0) (As := []) (rest := []) F (c_X4_thrown l D cI b 0 θ2 τ2 α) gL_law_X4_thrown rfl rfl rfl (by decide +kernel) ⟨Nat.le_of_ble_eq_true rfl, Nat.le_of_ble_eq_true rfl⟩ hN hC hA rfl hl.1 rfl (Nat.le_of_ble_eq_true rfl) dL_law_647 ⟨(show cells + 1 + 0 + 0 ≤ 601024 by omega), (show slots + 6 + 0 + 0 ≤ 7293034 by omega)⟩ ?_
  clear hC; intro H locs hC
  refine lv_iload hx hb dL_law_650 (lv_at hl 1 rfl) ?_
  have fin : W p l e room_1 S m #[Value.ref sb] below meth c H locs (cells + 1 + 0 + 0) (slots + 6 + 0 + 0) Q (F0 m 674 ls []) := by
    refine lv_goto (tgt := 1217) hx hb dL_law_674 (by decide) ?_
    refine W.widen (k := cells + 2) (n := slots + 15) (by omega) (by omega) ?_
    exact kk H locs u.1 u.2.1 u.2.2 θ2 τ2 α ls hC hm.2.2 (lv_sub hl [2, 3, 4, 5, 6] rfl)
  refine lv_icmp_eq (tgt := 657) hx hb dL_law_652 (by decide) (fun _ => ?_) (fun c1 => absurd (show fX4_thrown θ2 = r from hm.1) c1)
  refine lv_iload hx hb dL_law_657 (lv_at hl 1 rfl) ?_
  refine lv_if_ne (tgt := 674) hx hb dL_law_659 (by decide) (fun _ => fin) (fun c2 => ?_)
  refine lv_aload_n hx hb dL_law_662 rfl (lv_at hl 3 rfl) ?_
  refine lv_iconst (v := 0) hx hb dL_law_663 (by decide) ?_
  refine l_lald hx hb hC dL_law_664 ?_
  refine lv_iload hx hb dL_law_665 (lv_at hl 0 rfl) ?_
  refine lv_i2l hx hb dL_law_667 rfl ?_
  refine W.lcmp hx hb dL_law_668 ?_
  exact lv_if_eq (tgt := 674) hx hb dL_law_669 (by decide) (fun _ => fin) (fun c3 => absurd (by rw [hm.2.1 c2]; exact l_cmp0 _) c3)
set_option maxHeartbeats 1000000 in
set_option maxRecDepth 100000 in
theorem k_sell (hl0 : l.stackTraces = false) (F : CallFix p m c cL_law 9 S #[Value.ref sb] wsL_law RL) (hN : lSt S) (hC : lB D cI cM cL a o b S A H0 H locs 0 ν t g 0 θ τ α) (hA : ∀ q, H0.size ≤ q → A q) (hX : va_X sb L xs S H0) (hbl : sb < H0.size) (hbA : ¬ A sb) (hI : Inv k ν τ θ) (hk : k < 512) (hL : L ≤ 2048) (h4 : 4*k+4 ≤ L) (hf : cells + 2 ≤ 601024 ∧ slots + 15 ≤ 7293034) (hl : lv_has ls 9 (l0 sb a o b k))
    (kk : kont p l e S m below meth c D cI cM cL a o b A H0 sb k (cells + 2) (slots + 15) Q) : W p l e room_1 S m #[Value.ref sb] below meth c H locs cells slots Q (F0 m 677 ls []) := by
  obtain ⟨hx, hb, hml, hown, hts⟩ := id F
  obtain ⟨N, w, hR, hw, hw2⟩ := id hI
  have hW := hR.wfm
  have hwk : τ 0 0 = nI w := hR.sc.1.symm.trans hw
  have hl : lv_has ls 9 [(4, .int (nI (4*k))), (3, .ref o), (2, .ref (b 0)), (1, .ref (a 34)), (0, .ref sb)] := hl
  have hag := ag_sell (t := t) (xv xs k 1) hI hk
  refine lv_aload_n hx hb dL_law_677 rfl (lv_at hl 3 rfl) ?_
  refine lv_aload_n hx hb dL_law_678 rfl (lv_at hl 4 rfl) ?_
  refine lv_iload hx hb dL_law_679 (lv_at hl 0 rfl) ?_
  refine lv_iconst (v := 1) hx hb dL_law_681 (by decide) ?_
  refine lv_iadd hx hb dL_law_682 ?_
  refine va_sld hx hb hX hbl hbA hC.2.2.2.1 (l_ix (j := 1) hL h4 (by decide)) dL_law_683 ?_
  refine lv_aload_n hx hb dL_law_684 rfl (lv_at hl 1 rfl) ?_
  refine l_hlp (n := 3) (As := [.ref (a 34), .int (xv xs k 1), .ref o]) (rest := []) F (t_L_sell l hl0 D cI cM cL a o ν t g (xv xs k 1) hag.cs) gL_law_L_sell rfl (by decide +kernel) ⟨Nat.le_of_ble_eq_true rfl, Nat.le_of_ble_eq_true rfl⟩ hN hC hA rfl hl.1 rfl (Nat.le_of_ble_eq_true rfl) dL_law_685 ⟨(show cells + 1 ≤ 601024 by omega), (show slots + 6 ≤ 7293034 by omega)⟩ (fun r u H locs hsp hC => ?_)
  refine lv_istore (lv' := [(5, .int r), (4, .int (nI (4*k))), (3, .ref o), (2, .ref (b 0)), (1, .ref (a 34)), (0, .ref sb)]) hx hb dL_law_688 hl (by decide) rfl ?_
  clear hl; intro ls hl
  refine lv_aload_n hx hb dL_law_690 rfl (lv_at hl 3 rfl) ?_
  refine lv_aload_n hx hb dL_law_691 rfl (lv_at hl 5 rfl) ?_
  refine lv_iload hx hb dL_law_692 (lv_at hl 1 rfl) ?_
  refine lv_iconst (v := 1) hx hb dL_law_694 (by decide) ?_
  refine lv_iadd hx hb dL_law_695 ?_
  refine va_sld hx hb hX hbl hbA hC.2.2.2.1 (l_ix (j := 1) hL h4 (by decide)) dL_law_696 ?_
  refine l_mod (n := 1) (mc := 0) (ms := 0) (As := [.int (xv xs k 1)]) (rest := []) F (c_X4_sell l D cI b θ τ α (xv xs k 1)) gL_law_X4_sell rfl rfl rfl (by decide +kernel) ⟨Nat.le_of_ble_eq_true rfl, Nat.le_of_ble_eq_true rfl⟩ hN hC hA rfl hl.1 rfl (Nat.le_of_ble_eq_true rfl) dL_law_697 ⟨(show cells + 1 + 0 ≤ 601024 by omega), (show slots + 6 + 0 ≤ 7293034 by omega)⟩ ?_
  clear hC; intro H locs hC
  have hm := agr_meet (by decide) rfl hsp hag
  generalize (fX4_sell θ τ (xv xs k 1)).1 = qv at hm ⊢
  generalize (fX4_sell θ τ (xv xs k 1)).2.1 = θ2 at hm hC
  generalize (fX4_sell θ τ (xv xs k 1)).2.2 = τ2 at hm hC
  refine lv_istore (lv' := [(6, .int qv), (5, .int r), (4, .int (nI (4*k))), (3, .ref o), (2, .ref (b 0)), (1, .ref (a 34)), (0, .ref sb)]) hx hb dL_law_700 hl (by decide) rfl ?_
  clear hl; intro ls hl
  refine lv_aload_n hx hb dL_law_702 rfl (lv_at hl 4 rfl) ?_
  refine l_mod (n := 0) (mc := 0) (ms := 0) (As := []) (rest := []) F (c_X4_thrown l D cI b 0 θ2 τ2 α) gL_law_X4_thrown rfl rfl rfl (by decide +kernel) ⟨Nat.le_of_ble_eq_true rfl, Nat.le_of_ble_eq_true rfl⟩ hN hC hA rfl hl.1 rfl (Nat.le_of_ble_eq_true rfl) dL_law_703 ⟨(show cells + 1 + 0 + 0 ≤ 601024 by omega), (show slots + 6 + 0 + 0 ≤ 7293034 by omega)⟩ ?_
  clear hC; intro H locs hC
  refine lv_iload hx hb dL_law_706 (lv_at hl 1 rfl) ?_
  have fin : W p l e room_1 S m #[Value.ref sb] below meth c H locs (cells + 1 + 0 + 0) (slots + 6 + 0 + 0) Q (F0 m 730 ls []) := by
    refine lv_goto (tgt := 1217) hx hb dL_law_730 (by decide) ?_
    refine W.widen (k := cells + 2) (n := slots + 15) (by omega) (by omega) ?_
    exact kk H locs u.1 u.2.1 u.2.2 θ2 τ2 α ls hC hm.2.2 (lv_sub hl [2, 3, 4, 5, 6] rfl)
  refine lv_icmp_eq (tgt := 713) hx hb dL_law_708 (by decide) (fun _ => ?_) (fun c1 => absurd (show fX4_thrown θ2 = r from hm.1) c1)
  refine lv_iload hx hb dL_law_713 (lv_at hl 1 rfl) ?_
  refine lv_if_ne (tgt := 730) hx hb dL_law_715 (by decide) (fun _ => fin) (fun c2 => ?_)
  refine lv_aload_n hx hb dL_law_718 rfl (lv_at hl 3 rfl) ?_
  refine lv_iconst (v := 0) hx hb dL_law_719 (by decide) ?_
  refine l_lald hx hb hC dL_law_720 ?_
  refine lv_iload hx hb dL_law_721 (lv_at hl 0 rfl) ?_
  refine lv_i2l hx hb dL_law_723 rfl ?_
  refine W.lcmp hx hb dL_law_724 ?_
  exact lv_if_eq (tgt := 730) hx hb dL_law_725 (by decide) (fun _ => fin) (fun c3 => absurd (by rw [hm.2.1 c2]; exact l_cmp0 _) c3)
set_option maxHeartbeats 1000000 in
set_option maxRecDepth 100000 in
theorem k_pot (hl0 : l.stackTraces = false) (F : CallFix p m c cL_law 9 S #[Value.ref sb] wsL_law RL) (hN : lSt S) (hC : lB D cI cM cL a o b S A H0 H locs 0 ν t g 0 θ τ α) (hA : ∀ q, H0.size ≤ q → A q) (hX : va_X sb L xs S H0) (hbl : sb < H0.size) (hbA : ¬ A sb) (hI : Inv k ν τ θ) (hk : k < 512) (hL : L ≤ 2048) (h4 : 4*k+4 ≤ L) (hf : cells + 2 ≤ 601024 ∧ slots + 15 ≤ 7293034) (hl : lv_has ls 9 (l0 sb a o b k))
    (kk : kont p l e S m below meth c D cI cM cL a o b A H0 sb k (cells + 2) (slots + 15) Q) : W p l e room_1 S m #[Value.ref sb] below meth c H locs cells slots Q (F0 m 733 ls []) := by
  obtain ⟨hx, hb, hml, hown, hts⟩ := id F
  obtain ⟨N, w, hR, hw, hw2⟩ := id hI
  have hW := hR.wfm
  have hwk : τ 0 0 = nI w := hR.sc.1.symm.trans hw
  have hl : lv_has ls 9 [(4, .int (nI (4*k))), (3, .ref o), (2, .ref (b 0)), (1, .ref (a 34)), (0, .ref sb)] := hl
  have hag := ag_pot (t := t) (α := α) (xv xs k 1) (xv xs k 2) hI hk
  have hC : lB D cI cM cL a o b S A H0 H locs 1 t ν g 0 θ τ α := hC.swC (s := 0) (by decide)
  refine lv_aload_n hx hb dL_law_733 rfl (lv_at hl 3 rfl) ?_
  refine lv_aload_n hx hb dL_law_734 rfl (lv_at hl 4 rfl) ?_
  refine lv_iload hx hb dL_law_735 (lv_at hl 0 rfl) ?_
  refine lv_iconst (v := 1) hx hb dL_law_737 (by decide) ?_
  refine lv_iadd hx hb dL_law_738 ?_
  refine va_sld hx hb hX hbl hbA hC.2.2.2.1 (l_ix (j := 1) hL h4 (by decide)) dL_law_739 ?_
  refine lv_aload_n hx hb dL_law_740 rfl (lv_at hl 4 rfl) ?_
  refine lv_iload hx hb dL_law_741 (lv_at hl 0 rfl) ?_
  refine lv_iconst (v := 2) hx hb dL_law_743 (by decide) ?_
  refine lv_iadd hx hb dL_law_744 ?_
  refine va_sld hx hb hX hbl hbA hC.2.2.2.1 (l_ix (j := 2) hL h4 (by decide)) dL_law_745 ?_
  refine lv_aload_n hx hb dL_law_746 rfl (lv_at hl 1 rfl) ?_
  refine l_hlp (n := 4) (As := [.ref (a 34), .int (xv xs k 1), .int (xv xs k 2), .ref o]) (rest := []) F (t_L_pot l hl0 D cI cM cL a o t ν g (xv xs k 1) (xv xs k 2) hI.hU hag.cs) gL_law_L_pot rfl (by decide +kernel) ⟨Nat.le_of_ble_eq_true rfl, Nat.le_of_ble_eq_true rfl⟩ hN hC hA rfl hl.1 rfl (Nat.le_of_ble_eq_true rfl) dL_law_747 ⟨(show cells + 1 ≤ 601024 by omega), (show slots + 6 ≤ 7293034 by omega)⟩ (fun r u H locs hsp hC => ?_)
  refine lv_istore (lv' := [(5, .int r), (4, .int (nI (4*k))), (3, .ref o), (2, .ref (b 0)), (1, .ref (a 34)), (0, .ref sb)]) hx hb dL_law_750 hl (by decide) rfl ?_
  clear hl; intro ls hl
  refine lv_aload_n hx hb dL_law_752 rfl (lv_at hl 3 rfl) ?_
  refine lv_aload_n hx hb dL_law_753 rfl (lv_at hl 5 rfl) ?_
  refine lv_iload hx hb dL_law_754 (lv_at hl 1 rfl) ?_
  refine lv_iconst (v := 1) hx hb dL_law_756 (by decide) ?_
  refine lv_iadd hx hb dL_law_757 ?_
  refine va_sld hx hb hX hbl hbA hC.2.2.2.1 (l_ix (j := 1) hL h4 (by decide)) dL_law_758 ?_
  refine lv_aload_n hx hb dL_law_759 rfl (lv_at hl 5 rfl) ?_
  refine lv_iload hx hb dL_law_760 (lv_at hl 1 rfl) ?_
  refine lv_iconst (v := 2) hx hb dL_law_762 (by decide) ?_
  refine lv_iadd hx hb dL_law_763 ?_
  refine va_sld hx hb hX hbl hbA hC.2.2.2.1 (l_ix (j := 2) hL h4 (by decide)) dL_law_764 ?_
  have hC : lB D cI cM cL a o b S A H0 H locs 1 u.1 u.2.1 u.2.2 1 θ α τ := hC.swM (j := 0) (by decide)
  refine l_mod (n := 2) (mc := 0) (ms := 0) (As := [.int (xv xs k 1), .int (xv xs k 2)]) (rest := []) F (c_X4_pot l D cI b θ α τ (xv xs k 1) (xv xs k 2) N hW) gL_law_X4_pot rfl rfl rfl (by decide +kernel) ⟨Nat.le_of_ble_eq_true rfl, Nat.le_of_ble_eq_true rfl⟩ hN hC hA rfl hl.1 rfl (Nat.le_of_ble_eq_true rfl) dL_law_765 ⟨(show cells + 1 + 0 ≤ 601024 by omega), (show slots + 6 + 0 ≤ 7293034 by omega)⟩ ?_
  clear hC; intro H locs hC
  have hC : lB D cI cM cL a o b S A H0 H locs 0 u.2.1 u.1 u.2.2 0 ((fX4_pot θ α τ (xv xs k 1) (xv xs k 2)).2.1) (τ) ((fX4_pot θ α τ (xv xs k 1) (xv xs k 2)).2.2) := (hC.swM (j := 1) (by decide)).swC (s := 1) (by decide)
  have hm := agr_meet (by decide) rfl hsp hag
  generalize (fX4_pot θ α τ (xv xs k 1) (xv xs k 2)).1 = qv at hm ⊢
  generalize (fX4_pot θ α τ (xv xs k 1) (xv xs k 2)).2.1 = θ2 at hm hC
  generalize (fX4_pot θ α τ (xv xs k 1) (xv xs k 2)).2.2 = α2 at hC
  refine lv_istore (lv' := [(6, .int qv), (5, .int r), (4, .int (nI (4*k))), (3, .ref o), (2, .ref (b 0)), (1, .ref (a 34)), (0, .ref sb)]) hx hb dL_law_768 hl (by decide) rfl ?_
  clear hl; intro ls hl
  refine lv_aload_n hx hb dL_law_770 rfl (lv_at hl 4 rfl) ?_
  refine l_mod (n := 0) (mc := 0) (ms := 0) (As := []) (rest := []) F (c_X4_thrown l D cI b 0 θ2 τ α2) gL_law_X4_thrown rfl rfl rfl (by decide +kernel) ⟨Nat.le_of_ble_eq_true rfl, Nat.le_of_ble_eq_true rfl⟩ hN hC hA rfl hl.1 rfl (Nat.le_of_ble_eq_true rfl) dL_law_771 ⟨(show cells + 1 + 0 + 0 ≤ 601024 by omega), (show slots + 6 + 0 + 0 ≤ 7293034 by omega)⟩ ?_
  clear hC; intro H locs hC
  refine lv_iload hx hb dL_law_774 (lv_at hl 1 rfl) ?_
  have fin : W p l e room_1 S m #[Value.ref sb] below meth c H locs (cells + 1 + 0 + 0) (slots + 6 + 0 + 0) Q (F0 m 798 ls []) := by
    refine lv_goto (tgt := 1217) hx hb dL_law_798 (by decide) ?_
    refine W.widen (k := cells + 2) (n := slots + 15) (by omega) (by omega) ?_
    exact kk H locs u.2.1 u.1 u.2.2 θ2 τ α2 ls hC hm.2.2 (lv_sub hl [2, 3, 4, 5, 6] rfl)
  refine lv_icmp_eq (tgt := 781) hx hb dL_law_776 (by decide) (fun _ => ?_) (fun c1 => absurd (show fX4_thrown θ2 = r from hm.1) c1)
  refine lv_iload hx hb dL_law_781 (lv_at hl 1 rfl) ?_
  refine lv_if_ne (tgt := 798) hx hb dL_law_783 (by decide) (fun _ => fin) (fun c2 => ?_)
  refine lv_aload_n hx hb dL_law_786 rfl (lv_at hl 3 rfl) ?_
  refine lv_iconst (v := 0) hx hb dL_law_787 (by decide) ?_
  refine l_lald hx hb hC dL_law_788 ?_
  refine lv_iload hx hb dL_law_789 (lv_at hl 0 rfl) ?_
  refine lv_i2l hx hb dL_law_791 rfl ?_
  refine W.lcmp hx hb dL_law_792 ?_
  exact lv_if_eq (tgt := 798) hx hb dL_law_793 (by decide) (fun _ => fin) (fun c3 => absurd (by rw [hm.2.1 c2]; exact l_cmp0 _) c3)
set_option maxHeartbeats 1000000 in
set_option maxRecDepth 100000 in
theorem k_count (hl0 : l.stackTraces = false) (F : CallFix p m c cL_law 9 S #[Value.ref sb] wsL_law RL) (hN : lSt S) (hC : lB D cI cM cL a o b S A H0 H locs 0 ν t g 0 θ τ α) (hA : ∀ q, H0.size ≤ q → A q) (hX : va_X sb L xs S H0) (hbl : sb < H0.size) (hbA : ¬ A sb) (hI : Inv k ν τ θ) (hk : k < 512) (hL : L ≤ 2048) (h4 : 4*k+4 ≤ L) (hf : cells + 2 ≤ 601024 ∧ slots + 15 ≤ 7293034) (hl : lv_has ls 9 (l0 sb a o b k))
    (kk : kont p l e S m below meth c D cI cM cL a o b A H0 sb k (cells + 2) (slots + 15) Q) : W p l e room_1 S m #[Value.ref sb] below meth c H locs cells slots Q (F0 m 801 ls []) := by
  obtain ⟨hx, hb, hml, hown, hts⟩ := id F
  obtain ⟨N, w, hR, hw, hw2⟩ := id hI
  have hW := hR.wfm
  have hwk : τ 0 0 = nI w := hR.sc.1.symm.trans hw
  have hl : lv_has ls 9 [(4, .int (nI (4*k))), (3, .ref o), (2, .ref (b 0)), (1, .ref (a 34)), (0, .ref sb)] := hl
  have hag := ag_count (t := t) (xv xs k 1) hI hk
  refine lv_aload_n hx hb dL_law_801 rfl (lv_at hl 3 rfl) ?_
  refine lv_aload_n hx hb dL_law_802 rfl (lv_at hl 4 rfl) ?_
  refine lv_iload hx hb dL_law_803 (lv_at hl 0 rfl) ?_
  refine lv_iconst (v := 1) hx hb dL_law_805 (by decide) ?_
  refine lv_iadd hx hb dL_law_806 ?_
  refine va_sld hx hb hX hbl hbA hC.2.2.2.1 (l_ix (j := 1) hL h4 (by decide)) dL_law_807 ?_
  refine lv_aload_n hx hb dL_law_808 rfl (lv_at hl 1 rfl) ?_
  refine l_hlp (n := 3) (As := [.ref (a 34), .int (xv xs k 1), .ref o]) (rest := []) F (t_L_count l hl0 D cI cM cL a o ν t g (xv xs k 1) hag.cs) gL_law_L_count rfl (by decide +kernel) ⟨Nat.le_of_ble_eq_true rfl, Nat.le_of_ble_eq_true rfl⟩ hN hC hA rfl hl.1 rfl (Nat.le_of_ble_eq_true rfl) dL_law_809 ⟨(show cells + 1 ≤ 601024 by omega), (show slots + 6 ≤ 7293034 by omega)⟩ (fun r u H locs hsp hC => ?_)
  refine lv_istore (lv' := [(5, .int r), (4, .int (nI (4*k))), (3, .ref o), (2, .ref (b 0)), (1, .ref (a 34)), (0, .ref sb)]) hx hb dL_law_812 hl (by decide) rfl ?_
  clear hl; intro ls hl
  refine lv_aload_n hx hb dL_law_814 rfl (lv_at hl 3 rfl) ?_
  refine lv_aload_n hx hb dL_law_815 rfl (lv_at hl 5 rfl) ?_
  refine lv_iload hx hb dL_law_816 (lv_at hl 1 rfl) ?_
  refine lv_iconst (v := 1) hx hb dL_law_818 (by decide) ?_
  refine lv_iadd hx hb dL_law_819 ?_
  refine va_sld hx hb hX hbl hbA hC.2.2.2.1 (l_ix (j := 1) hL h4 (by decide)) dL_law_820 ?_
  refine l_mod (n := 1) (mc := 0) (ms := 0) (As := [.int (xv xs k 1)]) (rest := []) F (c_X4_count l D cI b θ τ α (xv xs k 1) N hW) gL_law_X4_count rfl rfl rfl (by decide +kernel) ⟨Nat.le_of_ble_eq_true rfl, Nat.le_of_ble_eq_true rfl⟩ hN hC hA rfl hl.1 rfl (Nat.le_of_ble_eq_true rfl) dL_law_821 ⟨(show cells + 1 + 0 ≤ 601024 by omega), (show slots + 6 + 0 ≤ 7293034 by omega)⟩ ?_
  clear hC; intro H locs hC
  have hm := agr_meet (by decide) rfl hsp hag
  generalize (fX4_count θ τ (xv xs k 1)).1 = qv at hm ⊢
  generalize (fX4_count θ τ (xv xs k 1)).2 = θ2 at hm hC
  refine lv_istore (lv' := [(6, .int qv), (5, .int r), (4, .int (nI (4*k))), (3, .ref o), (2, .ref (b 0)), (1, .ref (a 34)), (0, .ref sb)]) hx hb dL_law_824 hl (by decide) rfl ?_
  clear hl; intro ls hl
  refine lv_aload_n hx hb dL_law_826 rfl (lv_at hl 4 rfl) ?_
  refine l_mod (n := 0) (mc := 0) (ms := 0) (As := []) (rest := []) F (c_X4_thrown l D cI b 0 θ2 τ α) gL_law_X4_thrown rfl rfl rfl (by decide +kernel) ⟨Nat.le_of_ble_eq_true rfl, Nat.le_of_ble_eq_true rfl⟩ hN hC hA rfl hl.1 rfl (Nat.le_of_ble_eq_true rfl) dL_law_827 ⟨(show cells + 1 + 0 + 0 ≤ 601024 by omega), (show slots + 6 + 0 + 0 ≤ 7293034 by omega)⟩ ?_
  clear hC; intro H locs hC
  refine lv_iload hx hb dL_law_830 (lv_at hl 1 rfl) ?_
  have fin : W p l e room_1 S m #[Value.ref sb] below meth c H locs (cells + 1 + 0 + 0) (slots + 6 + 0 + 0) Q (F0 m 854 ls []) := by
    refine lv_goto (tgt := 1217) hx hb dL_law_854 (by decide) ?_
    refine W.widen (k := cells + 2) (n := slots + 15) (by omega) (by omega) ?_
    exact kk H locs u.1 u.2.1 u.2.2 θ2 τ α ls hC hm.2.2 (lv_sub hl [2, 3, 4, 5, 6] rfl)
  refine lv_icmp_eq (tgt := 837) hx hb dL_law_832 (by decide) (fun _ => ?_) (fun c1 => absurd (show fX4_thrown θ2 = r from hm.1) c1)
  refine lv_iload hx hb dL_law_837 (lv_at hl 1 rfl) ?_
  refine lv_if_ne (tgt := 854) hx hb dL_law_839 (by decide) (fun _ => fin) (fun c2 => ?_)
  refine lv_aload_n hx hb dL_law_842 rfl (lv_at hl 3 rfl) ?_
  refine lv_iconst (v := 0) hx hb dL_law_843 (by decide) ?_
  refine l_lald hx hb hC dL_law_844 ?_
  refine lv_iload hx hb dL_law_845 (lv_at hl 0 rfl) ?_
  refine lv_i2l hx hb dL_law_847 rfl ?_
  refine W.lcmp hx hb dL_law_848 ?_
  exact lv_if_eq (tgt := 854) hx hb dL_law_849 (by decide) (fun _ => fin) (fun c3 => absurd (by rw [hm.2.1 c2]; exact l_cmp0 _) c3)
set_option maxHeartbeats 1000000 in
set_option maxRecDepth 100000 in
theorem k_pass (hl0 : l.stackTraces = false) (F : CallFix p m c cL_law 9 S #[Value.ref sb] wsL_law RL) (hN : lSt S) (hC : lB D cI cM cL a o b S A H0 H locs 0 ν t g 0 θ τ α) (hA : ∀ q, H0.size ≤ q → A q) (hX : va_X sb L xs S H0) (hbl : sb < H0.size) (hbA : ¬ A sb) (hI : Inv k ν τ θ) (hk : k < 512) (hL : L ≤ 2048) (h4 : 4*k+4 ≤ L) (hf : cells + 2 ≤ 601024 ∧ slots + 15 ≤ 7293034) (hl : lv_has ls 9 (l0 sb a o b k))
    (kk : kont p l e S m below meth c D cI cM cL a o b A H0 sb k (cells + 2) (slots + 15) Q) : W p l e room_1 S m #[Value.ref sb] below meth c H locs cells slots Q (F0 m 857 ls []) := by
  obtain ⟨hx, hb, hml, hown, hts⟩ := id F
  obtain ⟨N, w, hR, hw, hw2⟩ := id hI
  have hW := hR.wfm
  have hwk : τ 0 0 = nI w := hR.sc.1.symm.trans hw
  have hl : lv_has ls 9 [(4, .int (nI (4*k))), (3, .ref o), (2, .ref (b 0)), (1, .ref (a 34)), (0, .ref sb)] := hl
  have hag := ag_pass (t := t) (xv xs k 1) hI hk
  refine lv_aload_n hx hb dL_law_857 rfl (lv_at hl 3 rfl) ?_
  refine lv_aload_n hx hb dL_law_858 rfl (lv_at hl 4 rfl) ?_
  refine lv_iload hx hb dL_law_859 (lv_at hl 0 rfl) ?_
  refine lv_iconst (v := 1) hx hb dL_law_861 (by decide) ?_
  refine lv_iadd hx hb dL_law_862 ?_
  refine va_sld hx hb hX hbl hbA hC.2.2.2.1 (l_ix (j := 1) hL h4 (by decide)) dL_law_863 ?_
  refine lv_aload_n hx hb dL_law_864 rfl (lv_at hl 1 rfl) ?_
  refine l_hlp (n := 3) (As := [.ref (a 34), .int (xv xs k 1), .ref o]) (rest := []) F (t_L_pass l hl0 D cI cM cL a o ν t g (xv xs k 1) hag.cs) gL_law_L_pass rfl (by decide +kernel) ⟨Nat.le_of_ble_eq_true rfl, Nat.le_of_ble_eq_true rfl⟩ hN hC hA rfl hl.1 rfl (Nat.le_of_ble_eq_true rfl) dL_law_865 ⟨(show cells + 1 ≤ 601024 by omega), (show slots + 6 ≤ 7293034 by omega)⟩ (fun r u H locs hsp hC => ?_)
  refine lv_istore (lv' := [(5, .int r), (4, .int (nI (4*k))), (3, .ref o), (2, .ref (b 0)), (1, .ref (a 34)), (0, .ref sb)]) hx hb dL_law_868 hl (by decide) rfl ?_
  clear hl; intro ls hl
  refine lv_aload_n hx hb dL_law_870 rfl (lv_at hl 3 rfl) ?_
  refine lv_aload_n hx hb dL_law_871 rfl (lv_at hl 5 rfl) ?_
  refine lv_iload hx hb dL_law_872 (lv_at hl 1 rfl) ?_
  refine lv_iconst (v := 1) hx hb dL_law_874 (by decide) ?_
  refine lv_iadd hx hb dL_law_875 ?_
  refine va_sld hx hb hX hbl hbA hC.2.2.2.1 (l_ix (j := 1) hL h4 (by decide)) dL_law_876 ?_
  refine l_mod (n := 1) (mc := 0) (ms := 0) (As := [.int (xv xs k 1)]) (rest := []) F (c_X4_pass l D cI b θ τ α (xv xs k 1) N hW w hwk (by omega)) gL_law_X4_pass rfl rfl rfl (by decide +kernel) ⟨Nat.le_of_ble_eq_true rfl, Nat.le_of_ble_eq_true rfl⟩ hN hC hA rfl hl.1 rfl (Nat.le_of_ble_eq_true rfl) dL_law_877 ⟨(show cells + 1 + 0 ≤ 601024 by omega), (show slots + 6 + 0 ≤ 7293034 by omega)⟩ ?_
  clear hC; intro H locs hC
  have hm := agr_meet (by decide) rfl hsp hag
  generalize (fX4_pass θ τ (xv xs k 1)).1 = qv at hm ⊢
  generalize (fX4_pass θ τ (xv xs k 1)).2.1 = θ2 at hm hC
  generalize (fX4_pass θ τ (xv xs k 1)).2.2 = τ2 at hm hC
  refine lv_istore (lv' := [(6, .int qv), (5, .int r), (4, .int (nI (4*k))), (3, .ref o), (2, .ref (b 0)), (1, .ref (a 34)), (0, .ref sb)]) hx hb dL_law_880 hl (by decide) rfl ?_
  clear hl; intro ls hl
  refine lv_aload_n hx hb dL_law_882 rfl (lv_at hl 4 rfl) ?_
  refine l_mod (n := 0) (mc := 0) (ms := 0) (As := []) (rest := []) F (c_X4_thrown l D cI b 0 θ2 τ2 α) gL_law_X4_thrown rfl rfl rfl (by decide +kernel) ⟨Nat.le_of_ble_eq_true rfl, Nat.le_of_ble_eq_true rfl⟩ hN hC hA rfl hl.1 rfl (Nat.le_of_ble_eq_true rfl) dL_law_883 ⟨(show cells + 1 + 0 + 0 ≤ 601024 by omega), (show slots + 6 + 0 + 0 ≤ 7293034 by omega)⟩ ?_
  clear hC; intro H locs hC
  refine lv_iload hx hb dL_law_886 (lv_at hl 1 rfl) ?_
  have fin : W p l e room_1 S m #[Value.ref sb] below meth c H locs (cells + 1 + 0 + 0) (slots + 6 + 0 + 0) Q (F0 m 910 ls []) := by
    refine lv_goto (tgt := 1217) hx hb dL_law_910 (by decide) ?_
    refine W.widen (k := cells + 2) (n := slots + 15) (by omega) (by omega) ?_
    exact kk H locs u.1 u.2.1 u.2.2 θ2 τ2 α ls hC hm.2.2 (lv_sub hl [2, 3, 4, 5, 6] rfl)
  refine lv_icmp_eq (tgt := 893) hx hb dL_law_888 (by decide) (fun _ => ?_) (fun c1 => absurd (show fX4_thrown θ2 = r from hm.1) c1)
  refine lv_iload hx hb dL_law_893 (lv_at hl 1 rfl) ?_
  refine lv_if_ne (tgt := 910) hx hb dL_law_895 (by decide) (fun _ => fin) (fun c2 => ?_)
  refine lv_aload_n hx hb dL_law_898 rfl (lv_at hl 3 rfl) ?_
  refine lv_iconst (v := 0) hx hb dL_law_899 (by decide) ?_
  refine l_lald hx hb hC dL_law_900 ?_
  refine lv_iload hx hb dL_law_901 (lv_at hl 0 rfl) ?_
  refine lv_i2l hx hb dL_law_903 rfl ?_
  refine W.lcmp hx hb dL_law_904 ?_
  exact lv_if_eq (tgt := 910) hx hb dL_law_905 (by decide) (fun _ => fin) (fun c3 => absurd (by rw [hm.2.1 c2]; exact l_cmp0 _) c3)
set_option maxHeartbeats 1000000 in
set_option maxRecDepth 100000 in
theorem k_foresee (hl0 : l.stackTraces = false) (F : CallFix p m c cL_law 9 S #[Value.ref sb] wsL_law RL) (hN : lSt S) (hC : lB D cI cM cL a o b S A H0 H locs 0 ν t g 0 θ τ α) (hA : ∀ q, H0.size ≤ q → A q) (hX : va_X sb L xs S H0) (hbl : sb < H0.size) (hbA : ¬ A sb) (hI : Inv k ν τ θ) (hk : k < 512) (hL : L ≤ 2048) (h4 : 4*k+4 ≤ L) (hf : cells + 2 ≤ 601024 ∧ slots + 15 ≤ 7293034) (hl : lv_has ls 9 (l0 sb a o b k))
    (kk : kont p l e S m below meth c D cI cM cL a o b A H0 sb k (cells + 2) (slots + 15) Q) : W p l e room_1 S m #[Value.ref sb] below meth c H locs cells slots Q (F0 m 913 ls []) := by
  obtain ⟨hx, hb, hml, hown, hts⟩ := id F
  obtain ⟨N, w, hR, hw, hw2⟩ := id hI
  have hW := hR.wfm
  have hwk : τ 0 0 = nI w := hR.sc.1.symm.trans hw
  have hl : lv_has ls 9 [(4, .int (nI (4*k))), (3, .ref o), (2, .ref (b 0)), (1, .ref (a 34)), (0, .ref sb)] := hl
  have hag := ag_foresee (t := t) (α := α) (xv xs k 1) (xv xs k 2) hI hk
  have hC : lB D cI cM cL a o b S A H0 H locs 1 t ν g 0 θ τ α := hC.swC (s := 0) (by decide)
  refine lv_aload_n hx hb dL_law_913 rfl (lv_at hl 3 rfl) ?_
  refine lv_aload_n hx hb dL_law_914 rfl (lv_at hl 4 rfl) ?_
  refine lv_iload hx hb dL_law_915 (lv_at hl 0 rfl) ?_
  refine lv_iconst (v := 1) hx hb dL_law_917 (by decide) ?_
  refine lv_iadd hx hb dL_law_918 ?_
  refine va_sld hx hb hX hbl hbA hC.2.2.2.1 (l_ix (j := 1) hL h4 (by decide)) dL_law_919 ?_
  refine lv_aload_n hx hb dL_law_920 rfl (lv_at hl 4 rfl) ?_
  refine lv_iload hx hb dL_law_921 (lv_at hl 0 rfl) ?_
  refine lv_iconst (v := 2) hx hb dL_law_923 (by decide) ?_
  refine lv_iadd hx hb dL_law_924 ?_
  refine va_sld hx hb hX hbl hbA hC.2.2.2.1 (l_ix (j := 2) hL h4 (by decide)) dL_law_925 ?_
  refine lv_aload_n hx hb dL_law_926 rfl (lv_at hl 1 rfl) ?_
  refine l_hlp (n := 4) (As := [.ref (a 34), .int (xv xs k 1), .int (xv xs k 2), .ref o]) (rest := []) F (t_L_foresee l hl0 D cI cM cL a o t ν g (xv xs k 1) (xv xs k 2) hI.hU hag.cs) gL_law_L_foresee rfl (by decide +kernel) ⟨Nat.le_of_ble_eq_true rfl, Nat.le_of_ble_eq_true rfl⟩ hN hC hA rfl hl.1 rfl (Nat.le_of_ble_eq_true rfl) dL_law_927 ⟨(show cells + 1 ≤ 601024 by omega), (show slots + 6 ≤ 7293034 by omega)⟩ (fun r u H locs hsp hC => ?_)
  refine lv_istore (lv' := [(5, .int r), (4, .int (nI (4*k))), (3, .ref o), (2, .ref (b 0)), (1, .ref (a 34)), (0, .ref sb)]) hx hb dL_law_930 hl (by decide) rfl ?_
  clear hl; intro ls hl
  refine lv_aload_n hx hb dL_law_932 rfl (lv_at hl 3 rfl) ?_
  refine lv_aload_n hx hb dL_law_933 rfl (lv_at hl 5 rfl) ?_
  refine lv_iload hx hb dL_law_934 (lv_at hl 1 rfl) ?_
  refine lv_iconst (v := 1) hx hb dL_law_936 (by decide) ?_
  refine lv_iadd hx hb dL_law_937 ?_
  refine va_sld hx hb hX hbl hbA hC.2.2.2.1 (l_ix (j := 1) hL h4 (by decide)) dL_law_938 ?_
  refine lv_aload_n hx hb dL_law_939 rfl (lv_at hl 5 rfl) ?_
  refine lv_iload hx hb dL_law_940 (lv_at hl 1 rfl) ?_
  refine lv_iconst (v := 2) hx hb dL_law_942 (by decide) ?_
  refine lv_iadd hx hb dL_law_943 ?_
  refine va_sld hx hb hX hbl hbA hC.2.2.2.1 (l_ix (j := 2) hL h4 (by decide)) dL_law_944 ?_
  have hC : lB D cI cM cL a o b S A H0 H locs 1 u.1 u.2.1 u.2.2 1 θ α τ := hC.swM (j := 0) (by decide)
  refine l_mod (n := 2) (mc := 0) (ms := 0) (As := [.int (xv xs k 1), .int (xv xs k 2)]) (rest := []) F (c_X4_foresee l D cI b θ α τ (xv xs k 1) (xv xs k 2) N hW w hwk (by omega)) gL_law_X4_foresee rfl rfl rfl (by decide +kernel) ⟨Nat.le_of_ble_eq_true rfl, Nat.le_of_ble_eq_true rfl⟩ hN hC hA rfl hl.1 rfl (Nat.le_of_ble_eq_true rfl) dL_law_945 ⟨(show cells + 1 + 0 ≤ 601024 by omega), (show slots + 6 + 0 ≤ 7293034 by omega)⟩ ?_
  clear hC; intro H locs hC
  have hC : lB D cI cM cL a o b S A H0 H locs 0 u.2.1 u.1 u.2.2 0 ((fX4_foresee θ α τ (xv xs k 1) (xv xs k 2)).2.1) (τ) ((fX4_foresee θ α τ (xv xs k 1) (xv xs k 2)).2.2) := (hC.swM (j := 1) (by decide)).swC (s := 1) (by decide)
  have hm := agr_meet (by decide) rfl hsp hag
  generalize (fX4_foresee θ α τ (xv xs k 1) (xv xs k 2)).1 = qv at hm ⊢
  generalize (fX4_foresee θ α τ (xv xs k 1) (xv xs k 2)).2.1 = θ2 at hm hC
  generalize (fX4_foresee θ α τ (xv xs k 1) (xv xs k 2)).2.2 = α2 at hC
  refine lv_istore (lv' := [(6, .int qv), (5, .int r), (4, .int (nI (4*k))), (3, .ref o), (2, .ref (b 0)), (1, .ref (a 34)), (0, .ref sb)]) hx hb dL_law_948 hl (by decide) rfl ?_
  clear hl; intro ls hl
  refine lv_aload_n hx hb dL_law_950 rfl (lv_at hl 4 rfl) ?_
  refine l_mod (n := 0) (mc := 0) (ms := 0) (As := []) (rest := []) F (c_X4_thrown l D cI b 0 θ2 τ α2) gL_law_X4_thrown rfl rfl rfl (by decide +kernel) ⟨Nat.le_of_ble_eq_true rfl, Nat.le_of_ble_eq_true rfl⟩ hN hC hA rfl hl.1 rfl (Nat.le_of_ble_eq_true rfl) dL_law_951 ⟨(show cells + 1 + 0 + 0 ≤ 601024 by omega), (show slots + 6 + 0 + 0 ≤ 7293034 by omega)⟩ ?_
  clear hC; intro H locs hC
  refine lv_iload hx hb dL_law_954 (lv_at hl 1 rfl) ?_
  have fin : W p l e room_1 S m #[Value.ref sb] below meth c H locs (cells + 1 + 0 + 0) (slots + 6 + 0 + 0) Q (F0 m 978 ls []) := by
    refine lv_goto (tgt := 1217) hx hb dL_law_978 (by decide) ?_
    refine W.widen (k := cells + 2) (n := slots + 15) (by omega) (by omega) ?_
    exact kk H locs u.2.1 u.1 u.2.2 θ2 τ α2 ls hC hm.2.2 (lv_sub hl [2, 3, 4, 5, 6] rfl)
  refine lv_icmp_eq (tgt := 961) hx hb dL_law_956 (by decide) (fun _ => ?_) (fun c1 => absurd (show fX4_thrown θ2 = r from hm.1) c1)
  refine lv_iload hx hb dL_law_961 (lv_at hl 1 rfl) ?_
  refine lv_if_ne (tgt := 978) hx hb dL_law_963 (by decide) (fun _ => fin) (fun c2 => ?_)
  refine lv_aload_n hx hb dL_law_966 rfl (lv_at hl 3 rfl) ?_
  refine lv_iconst (v := 0) hx hb dL_law_967 (by decide) ?_
  refine l_lald hx hb hC dL_law_968 ?_
  refine lv_iload hx hb dL_law_969 (lv_at hl 0 rfl) ?_
  refine lv_i2l hx hb dL_law_971 rfl ?_
  refine W.lcmp hx hb dL_law_972 ?_
  exact lv_if_eq (tgt := 978) hx hb dL_law_973 (by decide) (fun _ => fin) (fun c3 => absurd (by rw [hm.2.1 c2]; exact l_cmp0 _) c3)
set_option maxHeartbeats 1000000 in
set_option maxRecDepth 100000 in
theorem k_earns (hl0 : l.stackTraces = false) (F : CallFix p m c cL_law 9 S #[Value.ref sb] wsL_law RL) (hN : lSt S) (hC : lB D cI cM cL a o b S A H0 H locs 0 ν t g 0 θ τ α) (hA : ∀ q, H0.size ≤ q → A q) (hX : va_X sb L xs S H0) (hbl : sb < H0.size) (hbA : ¬ A sb) (hI : Inv k ν τ θ) (hk : k < 512) (hL : L ≤ 2048) (h4 : 4*k+4 ≤ L) (hf : cells + 2 ≤ 601024 ∧ slots + 15 ≤ 7293034) (hl : lv_has ls 9 (l0 sb a o b k))
    (kk : kont p l e S m below meth c D cI cM cL a o b A H0 sb k (cells + 2) (slots + 15) Q) : W p l e room_1 S m #[Value.ref sb] below meth c H locs cells slots Q (F0 m 981 ls []) := by
  obtain ⟨hx, hb, hml, hown, hts⟩ := id F
  obtain ⟨N, w, hR, hw, hw2⟩ := id hI
  have hW := hR.wfm
  have hwk : τ 0 0 = nI w := hR.sc.1.symm.trans hw
  have hl : lv_has ls 9 [(4, .int (nI (4*k))), (3, .ref o), (2, .ref (b 0)), (1, .ref (a 34)), (0, .ref sb)] := hl
  have hag := ag_earns (t := t) (α := α) (xv xs k 1) hI hk
  have hC : lB D cI cM cL a o b S A H0 H locs 1 t ν g 0 θ τ α := hC.swC (s := 0) (by decide)
  refine lv_aload_n hx hb dL_law_981 rfl (lv_at hl 3 rfl) ?_
  refine lv_aload_n hx hb dL_law_982 rfl (lv_at hl 4 rfl) ?_
  refine lv_iload hx hb dL_law_983 (lv_at hl 0 rfl) ?_
  refine lv_iconst (v := 1) hx hb dL_law_985 (by decide) ?_
  refine lv_iadd hx hb dL_law_986 ?_
  refine va_sld hx hb hX hbl hbA hC.2.2.2.1 (l_ix (j := 1) hL h4 (by decide)) dL_law_987 ?_
  refine lv_aload_n hx hb dL_law_988 rfl (lv_at hl 1 rfl) ?_
  refine l_hlp (n := 3) (As := [.ref (a 34), .int (xv xs k 1), .ref o]) (rest := []) F (t_L_earns l hl0 D cI cM cL a o t ν g (xv xs k 1) hI.hU hag.cs) gL_law_L_earns rfl (by decide +kernel) ⟨Nat.le_of_ble_eq_true rfl, Nat.le_of_ble_eq_true rfl⟩ hN hC hA rfl hl.1 rfl (Nat.le_of_ble_eq_true rfl) dL_law_989 ⟨(show cells + 1 ≤ 601024 by omega), (show slots + 6 ≤ 7293034 by omega)⟩ (fun r u H locs hsp hC => ?_)
  refine lv_istore (lv' := [(5, .int r), (4, .int (nI (4*k))), (3, .ref o), (2, .ref (b 0)), (1, .ref (a 34)), (0, .ref sb)]) hx hb dL_law_992 hl (by decide) rfl ?_
  clear hl; intro ls hl
  refine lv_aload_n hx hb dL_law_994 rfl (lv_at hl 3 rfl) ?_
  refine lv_aload_n hx hb dL_law_995 rfl (lv_at hl 5 rfl) ?_
  refine lv_iload hx hb dL_law_996 (lv_at hl 1 rfl) ?_
  refine lv_iconst (v := 1) hx hb dL_law_998 (by decide) ?_
  refine lv_iadd hx hb dL_law_999 ?_
  refine va_sld hx hb hX hbl hbA hC.2.2.2.1 (l_ix (j := 1) hL h4 (by decide)) dL_law_1000 ?_
  have hC : lB D cI cM cL a o b S A H0 H locs 1 u.1 u.2.1 u.2.2 1 θ α τ := hC.swM (j := 0) (by decide)
  refine l_mod (n := 1) (mc := 0) (ms := 0) (As := [.int (xv xs k 1)]) (rest := []) F (c_X4_earns l D cI b θ α τ (xv xs k 1) N hW) gL_law_X4_earns rfl rfl rfl (by decide +kernel) ⟨Nat.le_of_ble_eq_true rfl, Nat.le_of_ble_eq_true rfl⟩ hN hC hA rfl hl.1 rfl (Nat.le_of_ble_eq_true rfl) dL_law_1001 ⟨(show cells + 1 + 0 ≤ 601024 by omega), (show slots + 6 + 0 ≤ 7293034 by omega)⟩ ?_
  clear hC; intro H locs hC
  have hC : lB D cI cM cL a o b S A H0 H locs 0 u.2.1 u.1 u.2.2 0 ((fX4_earns θ α τ (xv xs k 1)).2.1) (τ) ((fX4_earns θ α τ (xv xs k 1)).2.2) := (hC.swM (j := 1) (by decide)).swC (s := 1) (by decide)
  have hm := agr_meet (by decide) rfl hsp hag
  generalize (fX4_earns θ α τ (xv xs k 1)).1 = qv at hm ⊢
  generalize (fX4_earns θ α τ (xv xs k 1)).2.1 = θ2 at hm hC
  generalize (fX4_earns θ α τ (xv xs k 1)).2.2 = α2 at hC
  refine lv_istore (lv' := [(6, .int qv), (5, .int r), (4, .int (nI (4*k))), (3, .ref o), (2, .ref (b 0)), (1, .ref (a 34)), (0, .ref sb)]) hx hb dL_law_1004 hl (by decide) rfl ?_
  clear hl; intro ls hl
  refine lv_aload_n hx hb dL_law_1006 rfl (lv_at hl 4 rfl) ?_
  refine l_mod (n := 0) (mc := 0) (ms := 0) (As := []) (rest := []) F (c_X4_thrown l D cI b 0 θ2 τ α2) gL_law_X4_thrown rfl rfl rfl (by decide +kernel) ⟨Nat.le_of_ble_eq_true rfl, Nat.le_of_ble_eq_true rfl⟩ hN hC hA rfl hl.1 rfl (Nat.le_of_ble_eq_true rfl) dL_law_1007 ⟨(show cells + 1 + 0 + 0 ≤ 601024 by omega), (show slots + 6 + 0 + 0 ≤ 7293034 by omega)⟩ ?_
  clear hC; intro H locs hC
  refine lv_iload hx hb dL_law_1010 (lv_at hl 1 rfl) ?_
  have fin : W p l e room_1 S m #[Value.ref sb] below meth c H locs (cells + 1 + 0 + 0) (slots + 6 + 0 + 0) Q (F0 m 1034 ls []) := by
    refine lv_goto (tgt := 1217) hx hb dL_law_1034 (by decide) ?_
    refine W.widen (k := cells + 2) (n := slots + 15) (by omega) (by omega) ?_
    exact kk H locs u.2.1 u.1 u.2.2 θ2 τ α2 ls hC hm.2.2 (lv_sub hl [2, 3, 4, 5, 6] rfl)
  refine lv_icmp_eq (tgt := 1017) hx hb dL_law_1012 (by decide) (fun _ => ?_) (fun c1 => absurd (show fX4_thrown θ2 = r from hm.1) c1)
  refine lv_iload hx hb dL_law_1017 (lv_at hl 1 rfl) ?_
  refine lv_if_ne (tgt := 1034) hx hb dL_law_1019 (by decide) (fun _ => fin) (fun c2 => ?_)
  refine lv_aload_n hx hb dL_law_1022 rfl (lv_at hl 3 rfl) ?_
  refine lv_iconst (v := 0) hx hb dL_law_1023 (by decide) ?_
  refine l_lald hx hb hC dL_law_1024 ?_
  refine lv_iload hx hb dL_law_1025 (lv_at hl 0 rfl) ?_
  refine lv_i2l hx hb dL_law_1027 rfl ?_
  refine W.lcmp hx hb dL_law_1028 ?_
  exact lv_if_eq (tgt := 1034) hx hb dL_law_1029 (by decide) (fun _ => fin) (fun c3 => absurd (by rw [hm.2.1 c2]; exact l_cmp0 _) c3)
set_option maxHeartbeats 1000000 in
set_option maxRecDepth 100000 in
theorem k_dies (hl0 : l.stackTraces = false) (F : CallFix p m c cL_law 9 S #[Value.ref sb] wsL_law RL) (hN : lSt S) (hC : lB D cI cM cL a o b S A H0 H locs 0 ν t g 0 θ τ α) (hA : ∀ q, H0.size ≤ q → A q) (hX : va_X sb L xs S H0) (hbl : sb < H0.size) (hbA : ¬ A sb) (hI : Inv k ν τ θ) (hk : k < 512) (hL : L ≤ 2048) (h4 : 4*k+4 ≤ L) (hf : cells + 2 ≤ 601024 ∧ slots + 15 ≤ 7293034) (hl : lv_has ls 9 (l0 sb a o b k))
    (kk : kont p l e S m below meth c D cI cM cL a o b A H0 sb k (cells + 2) (slots + 15) Q) : W p l e room_1 S m #[Value.ref sb] below meth c H locs cells slots Q (F0 m 1037 ls []) := by
  obtain ⟨hx, hb, hml, hown, hts⟩ := id F
  obtain ⟨N, w, hR, hw, hw2⟩ := id hI
  have hW := hR.wfm
  have hwk : τ 0 0 = nI w := hR.sc.1.symm.trans hw
  have hl : lv_has ls 9 [(4, .int (nI (4*k))), (3, .ref o), (2, .ref (b 0)), (1, .ref (a 34)), (0, .ref sb)] := hl
  have hag := ag_dies (t := t) (α := α) (xv xs k 1) hI hk
  have hC : lB D cI cM cL a o b S A H0 H locs 1 t ν g 0 θ τ α := hC.swC (s := 0) (by decide)
  refine lv_aload_n hx hb dL_law_1037 rfl (lv_at hl 3 rfl) ?_
  refine lv_aload_n hx hb dL_law_1038 rfl (lv_at hl 4 rfl) ?_
  refine lv_iload hx hb dL_law_1039 (lv_at hl 0 rfl) ?_
  refine lv_iconst (v := 1) hx hb dL_law_1041 (by decide) ?_
  refine lv_iadd hx hb dL_law_1042 ?_
  refine va_sld hx hb hX hbl hbA hC.2.2.2.1 (l_ix (j := 1) hL h4 (by decide)) dL_law_1043 ?_
  refine lv_aload_n hx hb dL_law_1044 rfl (lv_at hl 1 rfl) ?_
  refine l_hlp (n := 3) (As := [.ref (a 34), .int (xv xs k 1), .ref o]) (rest := []) F (t_L_dies l hl0 D cI cM cL a o t ν g (xv xs k 1) hI.hU hag.cs) gL_law_L_dies rfl (by decide +kernel) ⟨Nat.le_of_ble_eq_true rfl, Nat.le_of_ble_eq_true rfl⟩ hN hC hA rfl hl.1 rfl (Nat.le_of_ble_eq_true rfl) dL_law_1045 ⟨(show cells + 1 ≤ 601024 by omega), (show slots + 6 ≤ 7293034 by omega)⟩ (fun r u H locs hsp hC => ?_)
  refine lv_istore (lv' := [(5, .int r), (4, .int (nI (4*k))), (3, .ref o), (2, .ref (b 0)), (1, .ref (a 34)), (0, .ref sb)]) hx hb dL_law_1048 hl (by decide) rfl ?_
  clear hl; intro ls hl
  refine lv_aload_n hx hb dL_law_1050 rfl (lv_at hl 3 rfl) ?_
  refine lv_aload_n hx hb dL_law_1051 rfl (lv_at hl 5 rfl) ?_
  refine lv_iload hx hb dL_law_1052 (lv_at hl 1 rfl) ?_
  refine lv_iconst (v := 1) hx hb dL_law_1054 (by decide) ?_
  refine lv_iadd hx hb dL_law_1055 ?_
  refine va_sld hx hb hX hbl hbA hC.2.2.2.1 (l_ix (j := 1) hL h4 (by decide)) dL_law_1056 ?_
  have hC : lB D cI cM cL a o b S A H0 H locs 1 u.1 u.2.1 u.2.2 1 θ α τ := hC.swM (j := 0) (by decide)
  refine l_mod (n := 1) (mc := 0) (ms := 0) (As := [.int (xv xs k 1)]) (rest := []) F (c_X4_dies l D cI b θ α τ (xv xs k 1) N hW w hwk (by omega)) gL_law_X4_dies rfl rfl rfl (by decide +kernel) ⟨Nat.le_of_ble_eq_true rfl, Nat.le_of_ble_eq_true rfl⟩ hN hC hA rfl hl.1 rfl (Nat.le_of_ble_eq_true rfl) dL_law_1057 ⟨(show cells + 1 + 0 ≤ 601024 by omega), (show slots + 6 + 0 ≤ 7293034 by omega)⟩ ?_
  clear hC; intro H locs hC
  have hC : lB D cI cM cL a o b S A H0 H locs 0 u.2.1 u.1 u.2.2 0 ((fX4_dies θ α τ (xv xs k 1)).2.1) (τ) ((fX4_dies θ α τ (xv xs k 1)).2.2) := (hC.swM (j := 1) (by decide)).swC (s := 1) (by decide)
  have hm := agr_meet (by decide) rfl hsp hag
  generalize (fX4_dies θ α τ (xv xs k 1)).1 = qv at hm ⊢
  generalize (fX4_dies θ α τ (xv xs k 1)).2.1 = θ2 at hm hC
  generalize (fX4_dies θ α τ (xv xs k 1)).2.2 = α2 at hC
  refine lv_istore (lv' := [(6, .int qv), (5, .int r), (4, .int (nI (4*k))), (3, .ref o), (2, .ref (b 0)), (1, .ref (a 34)), (0, .ref sb)]) hx hb dL_law_1060 hl (by decide) rfl ?_
  clear hl; intro ls hl
  refine lv_aload_n hx hb dL_law_1062 rfl (lv_at hl 4 rfl) ?_
  refine l_mod (n := 0) (mc := 0) (ms := 0) (As := []) (rest := []) F (c_X4_thrown l D cI b 0 θ2 τ α2) gL_law_X4_thrown rfl rfl rfl (by decide +kernel) ⟨Nat.le_of_ble_eq_true rfl, Nat.le_of_ble_eq_true rfl⟩ hN hC hA rfl hl.1 rfl (Nat.le_of_ble_eq_true rfl) dL_law_1063 ⟨(show cells + 1 + 0 + 0 ≤ 601024 by omega), (show slots + 6 + 0 + 0 ≤ 7293034 by omega)⟩ ?_
  clear hC; intro H locs hC
  refine lv_iload hx hb dL_law_1066 (lv_at hl 1 rfl) ?_
  have fin : W p l e room_1 S m #[Value.ref sb] below meth c H locs (cells + 1 + 0 + 0) (slots + 6 + 0 + 0) Q (F0 m 1090 ls []) := by
    refine lv_goto (tgt := 1217) hx hb dL_law_1090 (by decide) ?_
    refine W.widen (k := cells + 2) (n := slots + 15) (by omega) (by omega) ?_
    exact kk H locs u.2.1 u.1 u.2.2 θ2 τ α2 ls hC hm.2.2 (lv_sub hl [2, 3, 4, 5, 6] rfl)
  refine lv_icmp_eq (tgt := 1073) hx hb dL_law_1068 (by decide) (fun _ => ?_) (fun c1 => absurd (show fX4_thrown θ2 = r from hm.1) c1)
  refine lv_iload hx hb dL_law_1073 (lv_at hl 1 rfl) ?_
  refine lv_if_ne (tgt := 1090) hx hb dL_law_1075 (by decide) (fun _ => fin) (fun c2 => ?_)
  refine lv_aload_n hx hb dL_law_1078 rfl (lv_at hl 3 rfl) ?_
  refine lv_iconst (v := 0) hx hb dL_law_1079 (by decide) ?_
  refine l_lald hx hb hC dL_law_1080 ?_
  refine lv_iload hx hb dL_law_1081 (lv_at hl 0 rfl) ?_
  refine lv_i2l hx hb dL_law_1083 rfl ?_
  refine W.lcmp hx hb dL_law_1084 ?_
  exact lv_if_eq (tgt := 1090) hx hb dL_law_1085 (by decide) (fun _ => fin) (fun c3 => absurd (by rw [hm.2.1 c2]; exact l_cmp0 _) c3)
set_option maxHeartbeats 1000000 in
set_option maxRecDepth 100000 in
theorem k_advise (hl0 : l.stackTraces = false) (F : CallFix p m c cL_law 9 S #[Value.ref sb] wsL_law RL) (hN : lSt S) (hC : lB D cI cM cL a o b S A H0 H locs 0 ν t g 0 θ τ α) (hA : ∀ q, H0.size ≤ q → A q) (hX : va_X sb L xs S H0) (hbl : sb < H0.size) (hbA : ¬ A sb) (hI : Inv k ν τ θ) (hk : k < 512) (hL : L ≤ 2048) (h4 : 4*k+4 ≤ L) (hf : cells + 2 ≤ 601024 ∧ slots + 15 ≤ 7293034) (hl : lv_has ls 9 (l0 sb a o b k))
    (kk : kont p l e S m below meth c D cI cM cL a o b A H0 sb k (cells + 2) (slots + 15) Q) : W p l e room_1 S m #[Value.ref sb] below meth c H locs cells slots Q (F0 m 1106 ls []) := by
  obtain ⟨hx, hb, hml, hown, hts⟩ := id F
  obtain ⟨N, w, hR, hw, hw2⟩ := id hI
  have hW := hR.wfm
  have hwk : τ 0 0 = nI w := hR.sc.1.symm.trans hw
  have hl : lv_has ls 9 [(4, .int (nI (4*k))), (3, .ref o), (2, .ref (b 0)), (1, .ref (a 34)), (0, .ref sb)] := hl
  have hag := ag_advise (t := t) (α := α) (xv xs k 1) hI hk
  have hC : lB D cI cM cL a o b S A H0 H locs 1 t ν g 0 θ τ α := hC.swC (s := 0) (by decide)
  refine lv_aload_n hx hb dL_law_1106 rfl (lv_at hl 3 rfl) ?_
  refine lv_aload_n hx hb dL_law_1107 rfl (lv_at hl 4 rfl) ?_
  refine lv_iload hx hb dL_law_1108 (lv_at hl 0 rfl) ?_
  refine lv_iconst (v := 1) hx hb dL_law_1110 (by decide) ?_
  refine lv_iadd hx hb dL_law_1111 ?_
  refine va_sld hx hb hX hbl hbA hC.2.2.2.1 (l_ix (j := 1) hL h4 (by decide)) dL_law_1112 ?_
  refine lv_aload_n hx hb dL_law_1113 rfl (lv_at hl 1 rfl) ?_
  refine l_hlp (n := 3) (As := [.ref (a 34), .int (xv xs k 1), .ref o]) (rest := []) F (t_L_advise l hl0 D cI cM cL a o t ν g (xv xs k 1) hI.hU hag.cs) gL_law_L_advise rfl (by decide +kernel) ⟨Nat.le_of_ble_eq_true rfl, Nat.le_of_ble_eq_true rfl⟩ hN hC hA rfl hl.1 rfl (Nat.le_of_ble_eq_true rfl) dL_law_1114 ⟨(show cells + 1 ≤ 601024 by omega), (show slots + 6 ≤ 7293034 by omega)⟩ (fun r u H locs hsp hC => ?_)
  refine lv_istore (lv' := [(5, .int r), (4, .int (nI (4*k))), (3, .ref o), (2, .ref (b 0)), (1, .ref (a 34)), (0, .ref sb)]) hx hb dL_law_1117 hl (by decide) rfl ?_
  clear hl; intro ls hl
  refine lv_aload_n hx hb dL_law_1119 rfl (lv_at hl 3 rfl) ?_
  refine lv_aload_n hx hb dL_law_1120 rfl (lv_at hl 5 rfl) ?_
  refine lv_iload hx hb dL_law_1121 (lv_at hl 1 rfl) ?_
  refine lv_iconst (v := 1) hx hb dL_law_1123 (by decide) ?_
  refine lv_iadd hx hb dL_law_1124 ?_
  refine va_sld hx hb hX hbl hbA hC.2.2.2.1 (l_ix (j := 1) hL h4 (by decide)) dL_law_1125 ?_
  have hC : lB D cI cM cL a o b S A H0 H locs 1 u.1 u.2.1 u.2.2 1 θ α τ := hC.swM (j := 0) (by decide)
  refine l_mod (n := 1) (mc := 0) (ms := 0) (As := [.int (xv xs k 1)]) (rest := []) F (c_X4_advise l D cI b θ α τ (xv xs k 1) N hW w hwk (by omega)) gL_law_X4_advise rfl rfl rfl (by decide +kernel) ⟨Nat.le_of_ble_eq_true rfl, Nat.le_of_ble_eq_true rfl⟩ hN hC hA rfl hl.1 rfl (Nat.le_of_ble_eq_true rfl) dL_law_1126 ⟨(show cells + 1 + 0 ≤ 601024 by omega), (show slots + 6 + 0 ≤ 7293034 by omega)⟩ ?_
  clear hC; intro H locs hC
  have hC : lB D cI cM cL a o b S A H0 H locs 0 u.2.1 u.1 u.2.2 0 ((fX4_advise θ α τ (xv xs k 1)).2.1) (τ) ((fX4_advise θ α τ (xv xs k 1)).2.2) := (hC.swM (j := 1) (by decide)).swC (s := 1) (by decide)
  have hm := agr_meet (by decide) rfl hsp hag
  generalize (fX4_advise θ α τ (xv xs k 1)).1 = qv at hm ⊢
  generalize (fX4_advise θ α τ (xv xs k 1)).2.1 = θ2 at hm hC
  generalize (fX4_advise θ α τ (xv xs k 1)).2.2 = α2 at hC
  refine lv_istore (lv' := [(6, .int qv), (5, .int r), (4, .int (nI (4*k))), (3, .ref o), (2, .ref (b 0)), (1, .ref (a 34)), (0, .ref sb)]) hx hb dL_law_1129 hl (by decide) rfl ?_
  clear hl; intro ls hl
  refine lv_aload_n hx hb dL_law_1131 rfl (lv_at hl 4 rfl) ?_
  refine l_mod (n := 0) (mc := 0) (ms := 0) (As := []) (rest := []) F (c_X4_thrown l D cI b 0 θ2 τ α2) gL_law_X4_thrown rfl rfl rfl (by decide +kernel) ⟨Nat.le_of_ble_eq_true rfl, Nat.le_of_ble_eq_true rfl⟩ hN hC hA rfl hl.1 rfl (Nat.le_of_ble_eq_true rfl) dL_law_1132 ⟨(show cells + 1 + 0 + 0 ≤ 601024 by omega), (show slots + 6 + 0 + 0 ≤ 7293034 by omega)⟩ ?_
  clear hC; intro H locs hC
  refine lv_iload hx hb dL_law_1135 (lv_at hl 1 rfl) ?_
  have fin : W p l e room_1 S m #[Value.ref sb] below meth c H locs (cells + 1 + 0 + 0) (slots + 6 + 0 + 0) Q (F0 m 1159 ls []) := by
    refine lv_goto (tgt := 1217) hx hb dL_law_1159 (by decide) ?_
    refine W.widen (k := cells + 2) (n := slots + 15) (by omega) (by omega) ?_
    exact kk H locs u.2.1 u.1 u.2.2 θ2 τ α2 ls hC hm.2.2 (lv_sub hl [2, 3, 4, 5, 6] rfl)
  refine lv_icmp_eq (tgt := 1142) hx hb dL_law_1137 (by decide) (fun _ => ?_) (fun c1 => absurd (show fX4_thrown θ2 = r from hm.1) c1)
  refine lv_iload hx hb dL_law_1142 (lv_at hl 1 rfl) ?_
  refine lv_if_ne (tgt := 1159) hx hb dL_law_1144 (by decide) (fun _ => fin) (fun c2 => ?_)
  refine lv_aload_n hx hb dL_law_1147 rfl (lv_at hl 3 rfl) ?_
  refine lv_iconst (v := 0) hx hb dL_law_1148 (by decide) ?_
  refine l_lald hx hb hC dL_law_1149 ?_
  refine lv_iload hx hb dL_law_1150 (lv_at hl 0 rfl) ?_
  refine lv_i2l hx hb dL_law_1152 rfl ?_
  refine W.lcmp hx hb dL_law_1153 ?_
  exact lv_if_eq (tgt := 1159) hx hb dL_law_1154 (by decide) (fun _ => fin) (fun c3 => absurd (by rw [hm.2.1 c2]; exact l_cmp0 _) c3)
end CASEB
