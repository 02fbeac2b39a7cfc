/-! the twenty cases of the law -/
abbrev xv (xs : Nat → Int32) (k : Nat) (j : Int32) : Int32 := xs (nI (4*k) + j).toNatClampNeg
abbrev l0 (sb : Nat) (a : Nat → Nat) (o : Nat) (b : Nat → Nat) (k : Nat) : List (Nat × Value) := [(4, .int (nI (4*k))), (3, .ref o), (2, .ref (b 0)), (1, .ref (a 34)), (0, .ref sb)]
/-- what follows a case: from pc 1217, by whatever holds there -/
def kont (p : Program) (l : Launch) (e : Env) (S : State) (m : MethodId) (below : List Frame) (meth : Method) (c : Code) (D : va_G) (cI cM cL : ClassId) (a : Nat → Nat) (o : Nat) (b : Nat → Nat) (A : Nat → Prop) (H0 : Heap) (sb k cells slots : Nat) (Q : State → Prop) : Prop :=
  ∀ (H : Heap) (locs : List Loc) (ν t : Mm) (g : Nat → Int64) (θ τ α : Mm) (ls : Array Slot), lB D cI cM cL a o b S A H0 H locs 0 ν t g 0 θ τ α → Inv (k+1) ν τ θ → lv_has ls 9 (l0 sb a o b k) → W p l e room_1 S m #[Value.ref sb] below meth c H locs cells slots Q (F0 m 1217 ls [])
def kont2 (p : Program) (l : Launch) (e : Env) (S : State) (d : Drawn) (m : MethodId) (below : List Frame) (meth : Method) (c : Code) (D : va_G) (cI cM cL : ClassId) (a : Nat → Nat) (o : Nat) (b : Nat → Nat) (A : Nat → Prop) (H0 : Heap) (sb k cells slots : Nat) (Q : State → Prop) : Prop :=
  ∀ (H : Heap) (locs : List Loc) (ν t : Mm) (g : Nat → Int64) (θ τ α : Mm) (ls : Array Slot), lB D cI cM cL a o b S A H0 H locs 0 ν t g 0 θ τ α → Inv (k+1) ν τ θ → lv_has ls 9 (l0 sb a o b k) → W p l e room_1 (S.setDrawn d) m #[Value.ref sb] below meth c H locs cells slots Q (F0 m 1217 ls [])
section CASEA
variable {p : Program} {l : Launch} {e : Env} {S : State} {m : MethodId} {below : List Frame} {meth : Method} {c : Code} {H H0 : Heap} {locs : List Loc} {cells slots : Nat} {Q : State → Prop}
variable {ls : Array Slot} {D : va_G} {cI cM cL : ClassId} {a : Nat → Nat} {o : Nat} {b : Nat → Nat} {A : Nat → Prop} {ν t θ τ α : Mm} {g : Nat → Int64} {sb L k : Nat} {xs : Nat → Int32}
set_option maxHeartbeats 1000000 in
set_option maxRecDepth 100000 in
theorem k_join (hl0 : l.stackTraces = false) (F : CallFix p m c cL_law 9 S #[Value.ref sb] wsL_law RL) (hN : lSt S) (hC : lB D cI cM cL a o b S A H0 H locs 0 ν t g 0 θ τ α) (hA : ∀ q, H0.size ≤ q → A q) (hX : va_X sb L xs S H0) (hbl : sb < H0.size) (hbA : ¬ A sb) (hI : Inv k ν τ θ) (hk : k < 512) (hL : L ≤ 2048) (h4 : 4*k+4 ≤ L) (hf : cells + 2 ≤ 601024 ∧ slots + 15 ≤ 7293034) (hl : lv_has ls 9 (l0 sb a o b k))
    (kk : kont p l e S m below meth c D cI cM cL a o b A H0 sb k (cells + 2) (slots + 15) Q) : W p l e room_1 S m #[Value.ref sb] below meth c H locs cells slots Q (F0 m 132 ls []) := by
  obtain ⟨hx, hb, hml, hown, hts⟩ := id F
  obtain ⟨N, w, hR, hw, hw2⟩ := id hI
  have hW := hR.wfm
  have hwk : τ 0 0 = nI w := hR.sc.1.symm.trans hw
  have hl : lv_has ls 9 [(4, .int (nI (4*k))), (3, .ref o), (2, .ref (b 0)), (1, .ref (a 34)), (0, .ref sb)] := hl
  have hag := ag_join (t := t) (xv xs k 1) (xv xs k 2) hI hk
  refine lv_aload_n hx hb dL_law_132 rfl (lv_at hl 3 rfl) ?_
  refine lv_aload_n hx hb dL_law_133 rfl (lv_at hl 4 rfl) ?_
  refine lv_iload hx hb dL_law_134 (lv_at hl 0 rfl) ?_
  refine lv_iconst (v := 1) hx hb dL_law_136 (by decide) ?_
  refine lv_iadd hx hb dL_law_137 ?_
  refine va_sld hx hb hX hbl hbA hC.2.2.2.1 (l_ix (j := 1) hL h4 (by decide)) dL_law_138 ?_
  refine lv_aload_n hx hb dL_law_139 rfl (lv_at hl 4 rfl) ?_
  refine lv_iload hx hb dL_law_140 (lv_at hl 0 rfl) ?_
  refine lv_iconst (v := 2) hx hb dL_law_142 (by decide) ?_
  refine lv_iadd hx hb dL_law_143 ?_
  refine va_sld hx hb hX hbl hbA hC.2.2.2.1 (l_ix (j := 2) hL h4 (by decide)) dL_law_144 ?_
  refine lv_aload_n hx hb dL_law_145 rfl (lv_at hl 1 rfl) ?_
  refine l_hlp (n := 4) (As := [.ref (a 34), .int (xv xs k 1), .int (xv xs k 2), .ref o]) (rest := []) F (t_L_join l hl0 D cI cM cL a o ν t g (xv xs k 1) (xv xs k 2) hag.cs) gL_law_L_join rfl (by decide +kernel) ⟨Nat.le_of_ble_eq_true rfl, Nat.le_of_ble_eq_true rfl⟩ hN hC hA rfl hl.1 rfl (Nat.le_of_ble_eq_true rfl) dL_law_146 ⟨(show cells + 1 ≤ 601024 by omega), (show slots + 6 ≤ 7293034 by omega)⟩ (fun r u H locs hsp hC => ?_)
  refine lv_istore (lv' := [(5, .int r), (4, .int (nI (4*k))), (3, .ref o), (2, .ref (b 0)), (1, .ref (a 34)), (0, .ref sb)]) hx hb dL_law_149 hl (by decide) rfl ?_
  clear hl; intro ls hl
  refine lv_aload_n hx hb dL_law_151 rfl (lv_at hl 3 rfl) ?_
  refine lv_aload_n hx hb dL_law_152 rfl (lv_at hl 5 rfl) ?_
  refine lv_iload hx hb dL_law_153 (lv_at hl 1 rfl) ?_
  refine lv_iconst (v := 1) hx hb dL_law_155 (by decide) ?_
  refine lv_iadd hx hb dL_law_156 ?_
  refine va_sld hx hb hX hbl hbA hC.2.2.2.1 (l_ix (j := 1) hL h4 (by decide)) dL_law_157 ?_
  refine lv_aload_n hx hb dL_law_158 rfl (lv_at hl 5 rfl) ?_
  refine lv_iload hx hb dL_law_159 (lv_at hl 1 rfl) ?_
  refine lv_iconst (v := 2) hx hb dL_law_161 (by decide) ?_
  refine lv_iadd hx hb dL_law_162 ?_
  refine va_sld hx hb hX hbl hbA hC.2.2.2.1 (l_ix (j := 2) hL h4 (by decide)) dL_law_163 ?_
  refine l_mod (n := 2) (mc := 1) (ms := 9) (As := [.int (xv xs k 1), .int (xv xs k 2)]) (rest := []) F (c_X4_join l D cI b θ τ α (xv xs k 1) (xv xs k 2) N hW) gL_law_X4_join rfl rfl rfl (by decide +kernel) ⟨Nat.le_of_ble_eq_true rfl, Nat.le_of_ble_eq_true rfl⟩ hN hC hA rfl hl.1 rfl (Nat.le_of_ble_eq_true rfl) dL_law_164 ⟨(show cells + 1 + 1 ≤ 601024 by omega), (show slots + 6 + 9 ≤ 7293034 by omega)⟩ ?_
  clear hC; intro H locs hC
  have hm := agr_meet (by decide) rfl hsp hag
  generalize (fX4_join θ τ (xv xs k 1) (xv xs k 2)).1 = qv at hm ⊢
  generalize (fX4_join θ τ (xv xs k 1) (xv xs k 2)).2.1 = θ2 at hm hC
  generalize (fX4_join θ τ (xv xs k 1) (xv xs k 2)).2.2 = τ2 at hm hC
  refine lv_istore (lv' := [(6, .int qv), (5, .int r), (4, .int (nI (4*k))), (3, .ref o), (2, .ref (b 0)), (1, .ref (a 34)), (0, .ref sb)]) hx hb dL_law_167 hl (by decide) rfl ?_
  clear hl; intro ls hl
  refine lv_aload_n hx hb dL_law_169 rfl (lv_at hl 4 rfl) ?_
  refine l_mod (n := 0) (mc := 0) (ms := 0) (As := []) (rest := []) F (c_X4_thrown l D cI b 0 θ2 τ2 α) gL_law_X4_thrown rfl rfl rfl (by decide +kernel) ⟨Nat.le_of_ble_eq_true rfl, Nat.le_of_ble_eq_true rfl⟩ hN hC hA rfl hl.1 rfl (Nat.le_of_ble_eq_true rfl) dL_law_170 ⟨(show cells + 1 + 1 + 0 ≤ 601024 by omega), (show slots + 6 + 9 + 0 ≤ 7293034 by omega)⟩ ?_
  clear hC; intro H locs hC
  refine lv_iload hx hb dL_law_173 (lv_at hl 1 rfl) ?_
  have fin : W p l e room_1 S m #[Value.ref sb] below meth c H locs (cells + 1 + 1 + 0) (slots + 6 + 9 + 0) Q (F0 m 197 ls []) := by
    refine lv_goto (tgt := 1217) hx hb dL_law_197 (by decide) ?_
    refine W.widen (k := cells + 2) (n := slots + 15) (by omega) (by omega) ?_
    exact kk H locs u.1 u.2.1 u.2.2 θ2 τ2 α ls hC hm.2.2 (lv_sub hl [2, 3, 4, 5, 6] rfl)
  refine lv_icmp_eq (tgt := 180) hx hb dL_law_175 (by decide) (fun _ => ?_) (fun c1 => absurd (show fX4_thrown θ2 = r from hm.1) c1)
  refine lv_iload hx hb dL_law_180 (lv_at hl 1 rfl) ?_
  refine lv_if_ne (tgt := 197) hx hb dL_law_182 (by decide) (fun _ => fin) (fun c2 => ?_)
  refine lv_aload_n hx hb dL_law_185 rfl (lv_at hl 3 rfl) ?_
  refine lv_iconst (v := 0) hx hb dL_law_186 (by decide) ?_
  refine l_lald hx hb hC dL_law_187 ?_
  refine lv_iload hx hb dL_law_188 (lv_at hl 0 rfl) ?_
  refine lv_i2l hx hb dL_law_190 rfl ?_
  refine W.lcmp hx hb dL_law_191 ?_
  exact lv_if_eq (tgt := 197) hx hb dL_law_192 (by decide) (fun _ => fin) (fun c3 => absurd (by rw [hm.2.1 c2]; exact l_cmp0 _) c3)
end CASEA
