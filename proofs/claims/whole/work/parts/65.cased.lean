/-! the digest -/
section CASED
variable {p : Program} {l : Launch} {e : Env} {S : State} {m : MethodId} {below : List Frame} {meth : Method} {c : Code} {H H0 : Heap} {locs : List Loc} {cells slots : Nat} {Q : State → Prop}
variable {ls : Array Slot} {D : va_G} {cI cM cL : ClassId} {a : Nat → Nat} {o : Nat} {b : Nat → Nat} {A : Nat → Prop} {ν t θ τ α : Mm} {g : Nat → Int64} {sb L k : Nat} {xs : Nat → Int32}
set_option maxHeartbeats 100000 in
set_option maxRecDepth 100000 in
theorem k_digest (hl0 : l.stackTraces = false) (F : CallFix p m c cL_law 9 S #[Value.ref sb] wsL_law RL) (hN : lSt S) (hC : lB D cI cM cL a o b S A H0 H locs 0 ν t g 0 θ τ α) (hA : ∀ q, H0.size ≤ q → A q) (hX : va_X sb L xs S H0) (hbl : sb < H0.size) (hbA : ¬ A sb) (hI : Inv k ν τ θ) (hk : k < 512) (hL : L ≤ 2048) (h4 : 4*k+4 ≤ L) (hf : cells + 2 ≤ 601024 ∧ slots + 15 ≤ 7293034) (hl : lv_has ls 9 (l0 sb a o b k))
    (kk : kont p l e S m below meth c D cI cM cL a o b A H0 sb k (cells + 2) (slots + 15) Q) : W p l e room_1 S m #[Value.ref sb] below meth c H locs cells slots Q (F0 m 1203 ls []) := by
  obtain ⟨hx, hb, hml, hown, hts⟩ := id F
  obtain ⟨N, w, hR, hw, hw2⟩ := id hI
  have hW := hR.wfm
  have hwk : τ 0 0 = nI w := hR.sc.1.symm.trans hw
  have hl : lv_has ls 9 [(4, .int (nI (4*k))), (3, .ref o), (2, .ref (b 0)), (1, .ref (a 34)), (0, .ref sb)] := hl
  have hag := ag_digest (t := t) (α := α) hI hk
  have hC : lB D cI cM cL a o b S A H0 H locs 1 t ν g 0 θ τ α := hC.swC (s := 0) (by decide)
  refine lv_aload_n hx hb dL_law_1203 rfl (lv_at hl 3 rfl) ?_
  refine l_socl (n := 0) (As := []) (rest := []) F (c_X2_digest l D cI cM a t ν hI.hU) gL_law_X2_digest rfl rfl rfl (by decide +kernel) ⟨Nat.le_of_ble_eq_true rfl, Nat.le_of_ble_eq_true rfl⟩ hN hC hA rfl hl.1 rfl (Nat.le_of_ble_eq_true rfl) dL_law_1204 ⟨(show cells ≤ 601024 by omega), (show slots ≤ 7293034 by omega)⟩ ?_
  clear hC; intro H locs hC
  refine lv_aload_n hx hb dL_law_1207 rfl (lv_at hl 2 rfl) ?_
  have hC : lB D cI cM cL a o b S A H0 H locs 1 ((fX2_digest t ν).2.1) ((fX2_digest t ν).2.2) g 1 θ α τ := hC.swM (j := 0) (by decide)
  refine l_modl (n := 0) (As := []) (rest := [.long (fX2_digest t ν).1]) F (c_X4_digest l D cI b θ α τ N hW) gL_law_X4_digest rfl rfl rfl (by decide +kernel) ⟨Nat.le_of_ble_eq_true rfl, Nat.le_of_ble_eq_true rfl⟩ hN hC hA rfl hl.1 rfl (Nat.le_of_ble_eq_true rfl) dL_law_1208 ⟨(show cells ≤ 601024 by omega), (show slots ≤ 7293034 by omega)⟩ ?_
  clear hC; intro H locs hC
  have hC : lB D cI cM cL a o b S A H0 H locs 0 ((fX2_digest t ν).2.2) ((fX2_digest t ν).2.1) g 0 ((fX4_digest θ α τ).2.1) τ ((fX4_digest θ α τ).2.2) := (hC.swM (j := 1) (by decide)).swC (s := 1) (by decide)
  refine W.lcmp hx hb dL_law_1211 ?_
  exact lv_if_eq (tgt := 1217) hx hb dL_law_1212 (by decide) (fun _ => W.widen (k := cells + 2) (n := slots + 15) (by omega) (by omega) (kk H locs ((fX2_digest t ν).2.2) ((fX2_digest t ν).2.1) g ((fX4_digest θ α τ).2.1) τ ((fX4_digest θ α τ).2.2) ls hC hag.2 hl)) (fun c3 => absurd (l_cmp_eq hag.1) c3)
end CASED
