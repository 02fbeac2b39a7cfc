/-! the means: their last division may draw -/
def fX2_mL (σ : Mm) : Int32 := fX1_howMany σ 0 + fX1_howMany σ 1
def fX2_mS (σ : Mm) : Int32 := itR (fun i (v : Int32) => v + σ (i+5) 1) 0 12 0
def mQ (z : Prop) (S L : Int32) (r : UInt64) : Prop := (z ∧ r = FP.dconst0) ∨ (¬ z ∧ alike64 r (FP.ddiv (FP.i2d S) (FP.i2d L)) = true)
def cMd (l : Launch) (y : MethodName) (ws : List Cond) (rm : Room) (D : va_G) (cI cM : ClassId) (a : Nat → Nat) (av : List Value) (s : Nat) (σ ρ : Mm) (q : UInt64 → Prop) : Prop :=
  ∀ sz, MetD lw_cs l y ws rm (va_Pc av (cPre D cI cM a sz s σ ρ)) (va_Qd (fun r' (_ : Unit) => q r') (cPost D cI cM a s σ ρ) (cA a sz)) 0 0 (cA a sz)
def rMd (l : Launch) (y : MethodName) (ws : List Cond) (rm : Room) (D : va_G) (cI : ClassId) (b : Nat → Nat) (av : List Value) (s : Nat) (θ τ ρ : Mm) (q : UInt64 → Prop) (θ2 τ2 : Mm) : Prop :=
  ∀ sz, MetD lw_cs l y ws rm (va_Pc av (rPre D cI b sz s θ τ ρ)) (va_Qd (fun r' (_ : Unit) => q r') (rPost D cI b s θ2 τ2 ρ) (rA b sz)) 0 0 (rA b sz)
section DHEADS
variable {l : Launch} {cc : ByteArray} {D : va_G} {cI cM : ClassId} {a b : Nat → Nat} {s : Nat} {σ θ τ ρ : Mm} {maxL : Nat} {wsy ws' : List Cond} {y : MethodName} {rm : Room} {ret : Option FieldType} {av : List Value}
theorem c_headD {sz : Nat} {Qc : Array Value → State → Outcome → State → Prop} {mc ms : Nat} (hy : plainName y.cls = true) (hw : wsy = Cond.code y cc maxL ret :: ws') (hle : (lg_sl av).length ≤ maxL)
    (body : ∀ (p : Program) (e : Env) (S : State) (m : MethodId) (below : List Frame) (meth : Method) (c : Code), p.tables.exec = Jvm.exec → c.code = cc → meth.sig.returnType = ret → c.maxLocals = maxL → S.vm.findClass y.cls = some m.cls → (∀ w ∈ wsy, w.before av.toArray S = true) → meth.locks = false → S.heap.size = sz → (∀ q, S.heap.size ≤ q → cA a sz q) → S.drawn.sameBut S.drawn lw_cs →
      cB D cI cM a S (cA a sz) S.heap S.heap [] s σ ρ → ∀ ls : Array Slot, lv_has ls maxL (lv_args 0 av) → W p l e (headSpec wsy rm).room S m av.toArray below meth c S.heap [] 0 0 (MQD lw_cs below Qc av.toArray S mc ms (cA a sz)) (F0 m 0 ls [])) :
    MetD lw_cs l y wsy rm (va_Pc av (cPre D cI cM a sz s σ ρ)) Qc mc ms (cA a sz) := by
  refine MetD.ofW (cc := cc) (maxL := maxL) (ret := ret) hy hw ?_
  intro p e S m args below meth c s₁ B hml hv hd0
  obtain ⟨rfl, hsz, hK, hP, hD⟩ := hv
  have hts := atoms_spec (ws := wsy) B.pre
  have hl := lv_entry av (n := maxL) hle
  rw [lg_entry_eq]
  exact body p e S m below meth c B.exec B.bytes B.returns hml (findClass_of_methodNamed B.named) hts B.notSynchronized hsz (fun q h => Or.inr (by rw [← hsz]; exact h)) hd0 ⟨hK, hP, gws_A hD (fun k hk => Or.inl ⟨k, hk, rfl⟩), va_S.rf⟩ _ hl
theorem r_headD {sz : Nat} {Qc : Array Value → State → Outcome → State → Prop} {mc ms : Nat} (hy : plainName y.cls = true) (hw : wsy = Cond.code y cc maxL ret :: ws') (hle : (lg_sl av).length ≤ maxL)
    (body : ∀ (p : Program) (e : Env) (S : State) (m : MethodId) (below : List Frame) (meth : Method) (c : Code), p.tables.exec = Jvm.exec → c.code = cc → meth.sig.returnType = ret → c.maxLocals = maxL → S.vm.findClass y.cls = some m.cls → (∀ w ∈ wsy, w.before av.toArray S = true) → meth.locks = false → S.heap.size = sz → (∀ q, S.heap.size ≤ q → rA b sz q) → S.drawn.sameBut S.drawn lw_cs →
      rB D cI b S (rA b sz) S.heap S.heap [] s θ τ ρ → ∀ ls : Array Slot, lv_has ls maxL (lv_args 0 av) → W p l e (headSpec wsy rm).room S m av.toArray below meth c S.heap [] 0 0 (MQD lw_cs below Qc av.toArray S mc ms (rA b sz)) (F0 m 0 ls [])) :
    MetD lw_cs l y wsy rm (va_Pc av (rPre D cI b sz s θ τ ρ)) Qc mc ms (rA b sz) := by
  refine MetD.ofW (cc := cc) (maxL := maxL) (ret := ret) hy hw ?_
  intro p e S m args below meth c s₁ B hml hv hd0
  obtain ⟨rfl, hsz, hK, hP, hD, hN⟩ := hv
  have hts := atoms_spec (ws := wsy) B.pre
  have hl := lv_entry av (n := maxL) hle
  rw [lg_entry_eq]
  exact body p e S m below meth c B.exec B.bytes B.returns hml (findClass_of_methodNamed B.named) hts B.notSynchronized hsz (fun q h => Or.inr (by rw [← hsz]; exact h)) hd0 ⟨hK, hP, gws_A hD (fun k hk => Or.inl ⟨k, hk, rfl⟩), va_S.rf, hN⟩ _ hl
end DHEADS
section DENDS
variable {p : Program} {l : Launch} {e : Env} {R : Room} {S : State} {m : MethodId} {args : Array Value} {below : List Frame} {meth : Method} {c : Code} {H : Heap} {locs : List Loc} {cc : ByteArray} {pc : Nat} {ls : Array Slot} {D : va_G} {cI cM : ClassId} {a b : Nat → Nat} {s : Nat} {σ θ τ ρ : Mm}
theorem c_dret {sz : Nat} {v : UInt64} {q : UInt64 → Prop} {d : Drawn} (hd : S.drawn.sameBut d lw_cs) (hexec : p.tables.exec = Jvm.exec) (hb : c.code = cc) (hr : meth.sig.returnType = some .double) (hlocks : meth.locks = false) (hC : cB D cI cM a S (cA a sz) S.heap H locs s σ ρ) (hdg : decode cc pc = .ok (.dreturn, 1)) (hv : q v) :
    W p l e R (S.setDrawn d) m args below meth c H locs 0 0 (MQD lw_cs below (va_Qd (fun r' (_ : Unit) => q r') (cPost D cI cM a s σ ρ) (cA a sz)) args S 0 0 (cA a sz)) (F0 m pc ls [.double v]) := by
  refine W.endD hd ?_
  exact W.dret hexec hb hr (fun t ht hW => ⟨⟨v, (), rfl, hv, va_K.moved hW.alike hC.1, by rw [ht]; exact hC.2.1⟩, hC.2.2.2.F ht⟩) hC.2.2.2.2.2 hdg hlocks
theorem r_dret {sz : Nat} {v : UInt64} {q : UInt64 → Prop} {d : Drawn} (hd : S.drawn.sameBut d lw_cs) (hexec : p.tables.exec = Jvm.exec) (hb : c.code = cc) (hr : meth.sig.returnType = some .double) (hlocks : meth.locks = false) (hC : rB D cI b S (rA b sz) S.heap H locs s θ τ ρ) (hdg : decode cc pc = .ok (.dreturn, 1)) (hv : q v) :
    W p l e R (S.setDrawn d) m args below meth c H locs 0 0 (MQD lw_cs below (va_Qd (fun r' (_ : Unit) => q r') (rPost D cI b s θ τ ρ) (rA b sz)) args S 0 0 (rA b sz)) (F0 m pc ls [.double v]) := by
  refine W.endD hd ?_
  exact W.dret hexec hb hr (fun t ht hW => ⟨⟨v, (), rfl, hv, va_K.moved hW.alike hC.1, by rw [ht]; exact hC.2.1⟩, hC.2.2.2.1.F ht⟩) hC.2.2.2.1.2.2 hdg hlocks
end DENDS
abbrev rmX2_mean : Room := { frames := 1, cells := 0, slots := 0, locals := 26 }
set_option maxHeartbeats 4000000 in
set_option maxRecDepth 100000 in
theorem c_X2_mean (l : Launch) (D : va_G) (cI cM : ClassId) (a : Nat → Nat) (σ ρ : Mm) : cMd l yX2_mean wsX2_mean rmX2_mean D cI cM a [.ref (a 34)] 0 σ ρ (mQ (¬ 0 < fX2_mL σ) (fX2_mS σ) (fX2_mL σ)) := by
  intro sz
  refine c_headD (cc := cX2_mean) (maxL := 7) (ret := (some .double)) (by decide) rfl (Nat.le_of_ble_eq_true rfl) ?_
  intro p e S m below meth c hx hb hr hml hown hts hlocks hsz hA hd0 hC ls hl
  have hF : CallFix p m c cX2_mean 7 S [.ref (a 34)].toArray wsX2_mean RX2 := ⟨hx, hb, hml, hown, hts⟩
  have h_f10 : (Cond.fieldLink RX2 10 "CombersSociety" "now" "LCombersSociety$Society;").before [.ref (a 34)].toArray S = true := hts _ (by decide +kernel)
  have h_f39 : (Cond.fieldLink RX2 39 "CombersSociety$Society" "members" "[LCombersSociety$Member;").before [.ref (a 34)].toArray S = true := hts _ (by decide +kernel)
  have h_f161 : (Cond.fieldLink RX2 161 "CombersSociety$Member" "strength" "I").before [.ref (a 34)].toArray S = true := hts _ (by decide +kernel)
  have h_iX2 : ∀ w ∈ u_ws RX2 TX2 2, w ∈ wsX2_mean := by decide +kernel
  have h_iX1 : ∀ w ∈ u_ws RX1 TX1 14, w ∈ wsX2_mean := by decide +kernel
  have h_iX0 : ∀ w ∈ u_ws RX0 TX0 10, w ∈ wsX2_mean := by decide +kernel
  have hs : 0 < 2 := by decide
  have hl : lv_has ls 7 [(0, .ref (a 34))] := hl
  refine lv_aload_n hx hb dX2_mean_0 rfl (lv_at hl 0 rfl) ?_
  refine cg_w hx hb hts h_iX2 hown hC 0 (by decide) h_f10 dX2_mean_1 ?_
  refine lv_iconst (v := 0) hx hb dX2_mean_4 (by decide) ?_
  refine c_iVp (n := 1) hF (c_X1_howMany l D cI cM a 0 σ ρ hs (0 : Int32)) gX2_mean_X1_howMany rfl rfl rfl (by decide +kernel) ⟨Nat.le_of_ble_eq_true rfl, Nat.le_of_ble_eq_true rfl⟩ hC hA (hC.recvS hs) rfl hl.1 rfl (Nat.le_of_ble_eq_true rfl) dX2_mean_5 ⟨Nat.zero_le _, Nat.zero_le _⟩ ?_
  clear hC; intro H locs hC
  refine lv_aload_n hx hb dX2_mean_8 rfl (lv_at hl 0 rfl) ?_
  refine cg_w hx hb hts h_iX2 hown hC 0 (by decide) h_f10 dX2_mean_9 ?_
  refine lv_iconst (v := 1) hx hb dX2_mean_12 (by decide) ?_
  refine c_iVp (n := 1) hF (c_X1_howMany l D cI cM a 0 σ ρ hs (1 : Int32)) gX2_mean_X1_howMany rfl rfl rfl (by decide +kernel) ⟨Nat.le_of_ble_eq_true rfl, Nat.le_of_ble_eq_true rfl⟩ hC hA (hC.recvS hs) rfl hl.1 rfl (Nat.le_of_ble_eq_true rfl) dX2_mean_13 ⟨Nat.zero_le _, Nat.zero_le _⟩ ?_
  clear hC; intro H locs hC
  refine lv_iadd hx hb dX2_mean_16 ?_
  have eL : fX1_howMany σ 0 + fX1_howMany σ 1 = fX2_mL σ := rfl
  rw [eL]
  refine lv_istore_n (lv' := [(1, .int (fX2_mL σ)), (0, .ref (a 34))]) hx hb dX2_mean_17 rfl hl (by decide) rfl ?_
  clear hl; intro ls hl
  refine lv_iload_n hx hb dX2_mean_18 rfl (lv_at hl 0 rfl) ?_
  refine lv_if_gt (tgt := 24) hx hb dX2_mean_19 (by decide) (fun c1 => ?_) (fun c1 => ?_)
  rotate_left
  · refine lv_dconst0 hx hb dX2_mean_22 ?_
    exact c_dret (d := S.drawn) hd0 hx hb hr hlocks hC dX2_mean_23 (Or.inl ⟨c1, rfl⟩)
  refine lv_iconst (v := 0) hx hb dX2_mean_24 (by decide) ?_
  refine lv_istore_n (lv' := [(2, .int (0 : Int32)), (1, .int (fX2_mL σ)), (0, .ref (a 34))]) hx hb dX2_mean_25 rfl hl (by decide) rfl ?_
  clear hl; intro ls hl
  refine lv_aload_n hx hb dX2_mean_26 rfl (lv_at hl 2 rfl) ?_
  refine cg_w hx hb hts h_iX2 hown hC 0 (by decide) h_f10 dX2_mean_27 ?_
  refine cg_r hx hb hts h_iX1 hown hC hs 3 (by decide) h_f39 dX2_mean_30 ?_
  refine lv_astore_n (lv' := [(3, .ref (a (17*0+(3+1)))), (2, .int (0 : Int32)), (1, .int (fX2_mL σ)), (0, .ref (a 34))]) hx hb dX2_mean_33 rfl hl (by decide) rfl ?_
  clear hl; intro ls hl
  refine lv_aload_n hx hb dX2_mean_34 rfl (lv_at hl 0 rfl) ?_
  refine c_mlen hx hb hC hs dX2_mean_35 ?_
  refine lv_istore (lv' := [(4, .int (12 : Int32)), (3, .ref (a (17*0+(3+1)))), (2, .int (0 : Int32)), (1, .int (fX2_mL σ)), (0, .ref (a 34))]) hx hb dX2_mean_36 hl (by decide) rfl ?_
  clear hl; intro ls hl
  refine lv_iconst (v := 0) hx hb dX2_mean_38 (by decide) ?_
  refine lv_istore (lv' := [(5, .int (0 : Int32)), (4, .int (12 : Int32)), (3, .ref (a (17*0+(3+1)))), (2, .int (0 : Int32)), (1, .int (fX2_mL σ)), (0, .ref (a 34))]) hx hb dX2_mean_39 hl (by decide) rfl ?_
  clear hl; intro ls hl
  have loop1 : ∀ (n i : Nat) (v : Int32), i + n = 12 → itR (fun i (v : Int32) => v + σ (i+5) 1) i n v = fX2_mS σ → ∀ (H : Heap) (locs : List Loc), cB D cI cM a S (cA a sz) S.heap H locs 0 σ ρ → ∀ ls : Array Slot, lv_has ls 7 [(5, .int (nI i)), (4, .int (12 : Int32)), (3, .ref (a (17*0+(3+1)))), (2, .int v), (1, .int (fX2_mL σ)), (0, .ref (a 34))] → W p l e (headSpec wsX2_mean rmX2_mean).room S m [.ref (a 34)].toArray below meth c H locs 0 0 (MQD lw_cs below (va_Qd (fun r' (_ : Unit) => mQ (¬ 0 < fX2_mL σ) (fX2_mS σ) (fX2_mL σ) r') (cPost D cI cM a 0 σ ρ) (cA a sz)) [.ref (a 34)].toArray S 0 0 (cA a sz)) (F0 m 41 ls []) := by
    clear hC hl
    intro n
    induction n with
    | zero =>
      intro i v hin hX H locs hC ls hl
      obtain rfl : 12 = i := by omega
      refine lv_iload hx hb dX2_mean_41 (lv_at hl 0 rfl) ?_
      refine lv_iload hx hb dX2_mean_43 (lv_at hl 1 rfl) ?_
      refine lv_icmp_ge (tgt := 68) hx hb dX2_mean_45 (by decide) (fun c2 => ?_) (fun c2 => absurd (by decide) c2)
      have eS : v = fX2_mS σ := hX
      refine lv_iload_n hx hb dX2_mean_68 rfl (lv_at hl 3 rfl) ?_
      refine lv_i2d hx hb dX2_mean_69 ?_
      refine lv_iload_n hx hb dX2_mean_70 rfl (lv_at hl 4 rfl) ?_
      refine lv_i2d hx hb dX2_mean_71 ?_
      refine W.base (lv_ddiv_any hd0 lw_bits hx hb dX2_mean_72 (fun r d1 hal hd1 => ?_))
      rw [eS] at hal
      exact c_dret hd1 hx hb hr hlocks hC dX2_mean_73 (Or.inr ⟨fun q => q c1, hal⟩)
    | succ n ih =>
      intro i v hin hX H locs hC ls hl
      refine lv_iload hx hb dX2_mean_41 (lv_at hl 0 rfl) ?_
      refine lv_iload hx hb dX2_mean_43 (lv_at hl 1 rfl) ?_
      refine lv_icmp_ge (tgt := 68) hx hb dX2_mean_45 (by decide) (fun c2 => absurd c2 (show ¬ (12 : Int32) ≤ nI i from (nI_ge (a := i) (b := 12) (by omega) (by decide) : ¬ nI 12 ≤ nI i))) (fun c2 => ?_)
      refine lv_aload_n hx hb dX2_mean_48 rfl (lv_at hl 2 rfl) ?_
      refine lv_iload hx hb dX2_mean_49 (lv_at hl 0 rfl) ?_
      refine c_mld hx hb hC hs (j := i) rfl (show _ < 12 by omega) dX2_mean_51 ?_
      refine lv_astore (lv' := [(6, .ref (a (17*0+(i+5)))), (5, .int (nI i)), (4, .int (12 : Int32)), (3, .ref (a (17*0+(3+1)))), (2, .int v), (1, .int (fX2_mL σ)), (0, .ref (a 34))]) hx hb dX2_mean_52 hl (by decide) rfl ?_
      clear hl; intro ls hl
      refine lv_iload_n hx hb dX2_mean_54 rfl (lv_at hl 4 rfl) ?_
      refine lv_aload hx hb dX2_mean_55 (lv_at hl 0 rfl) ?_
      refine cg_m hx hb hts h_iX0 hown hC hs (show _ < 12 by omega) 1 (by decide) h_f161 dX2_mean_57 ?_
      refine lv_iadd hx hb dX2_mean_60 ?_
      refine lv_istore_n (lv' := [(2, .int (v + (σ (i+5) 1))), (6, .ref (a (17*0+(i+5)))), (5, .int (nI i)), (4, .int (12 : Int32)), (3, .ref (a (17*0+(3+1)))), (1, .int (fX2_mL σ)), (0, .ref (a 34))]) hx hb dX2_mean_61 rfl hl (by decide) rfl ?_
      clear hl; intro ls hl
      refine lv_iinc (v := (nI (i + 1))) (lv' := [(5, .int (nI (i + 1))), (2, .int (v + (σ (i+5) 1))), (6, .ref (a (17*0+(i+5)))), (4, .int (12 : Int32)), (3, .ref (a (17*0+(3+1)))), (1, .int (fX2_mL σ)), (0, .ref (a 34))]) hx hb dX2_mean_62 hl (k := 2) rfl (nI_1 i) (by decide) rfl ?_
      clear hl; intro ls hl
      refine lv_goto (tgt := 41) hx hb dX2_mean_65 (by decide) ?_
      exact ih (i + 1) (v + (σ (i+5) 1)) (by omega) hX _ _ hC ls (lv_sub hl [0, 3, 4, 1, 5, 6] rfl)
  exact loop1 12 0 (0 : Int32) (by omega) rfl _ _ hC ls hl
abbrev rmX4_mean : Room := { frames := 3, cells := 0, slots := 0, locals := 70 }
def fX4_mL (τ : Mm) : Int32 := τ 0 1 - fX3_many τ 2
set_option maxHeartbeats 4000000 in
set_option maxRecDepth 100000 in
theorem c_X4_mean (l : Launch) (D : va_G) (cI : ClassId) (b : Nat → Nat) (θ τ ρ : Mm) (N : Nat) (hW : wf τ N) : rMd l yX4_mean wsX4_mean rmX4_mean D cI b [.ref (b 0)] 0 θ τ ρ (mQ (fX4_mL τ = 0) (fX3_all τ 1) (fX4_mL τ)) (up2 θ 0 0 0) τ := by
  intro sz
  refine r_headD (cc := cX4_mean) (maxL := 2) (ret := (some .double)) (by decide) rfl (Nat.le_of_ble_eq_true rfl) ?_
  intro p e S m below meth c hx hb hr hml hown hts hlocks hsz hA hd0 hC ls hl
  have hF : CallFix p m c cX4_mean 2 S [.ref (b 0)].toArray wsX4_mean RX4 := ⟨hx, hb, hml, hown, hts⟩
  have h_f29 : (Cond.fieldLink RX4 29 "CombersSocietyModel" "thrown" "I").before [.ref (b 0)].toArray S = true := hts _ (by decide +kernel)
  have h_iX4 : ∀ w ∈ u_ws RX4 TX4 5, w ∈ wsX4_mean := by decide +kernel
  have h_f22 : (Cond.fieldLink RX4 22 "CombersSocietyModel" "s" "LCombersSocietyModel$State;").before [.ref (b 0)].toArray S = true := hts _ (by decide +kernel)
  have h_iX3 : ∀ w ∈ u_ws RX3 TX3 12, w ∈ wsX4_mean := by decide +kernel
  have h_f32 : (nw32).before [.ref (b 0)].toArray S = true := va_Nw.use rfl hC.2.2.2.2.nw32
  have hs : 0 < 2 := by decide
  have hl : lv_has ls 2 [(0, .ref (b 0))] := hl
  refine lv_aload_n hx hb dX4_mean_0 rfl (lv_at hl 0 rfl) ?_
  refine lv_iconst (v := 0) hx hb dX4_mean_1 (by decide) ?_
  refine rp_m hx hb hts h_iX4 hown hC 0 (by decide) h_f29 dX4_mean_2 ?_
  clear hC; intro H locs θ1 eθ1 hC
  refine lv_aload_n hx hb dX4_mean_5 rfl (lv_at hl 0 rfl) ?_
  refine rg_w hx hb hts h_iX4 hown hC 0 (by decide) h_f22 dX4_mean_6 ?_
  refine rg_sN hx hb hts h_iX3 hown hC (by decide) 1 (by decide) h_f32 dX4_mean_9 ?_
  refine lv_aload_n hx hb dX4_mean_12 rfl (lv_at hl 0 rfl) ?_
  refine rg_w hx hb hts h_iX4 hown hC 0 (by decide) h_f22 dX4_mean_13 ?_
  refine lv_iconst (v := 2) hx hb dX4_mean_16 (by decide) ?_
  refine r_iVp (n := 1) hF (c_X3_many l D cI b 0 θ1 τ ρ hs (2 : Int32) N hW) gX4_mean_X3_many rfl rfl rfl (by decide +kernel) ⟨Nat.le_of_ble_eq_true rfl, Nat.le_of_ble_eq_true rfl⟩ hC hA (hC.recvS hs) rfl hl.1 rfl (Nat.le_of_ble_eq_true rfl) dX4_mean_17 ⟨Nat.zero_le _, Nat.zero_le _⟩ ?_
  clear hC; intro H locs hC
  refine lv_isub hx hb dX4_mean_20 ?_
  have eL : τ 0 1 - fX3_many τ 2 = fX4_mL τ := rfl
  rw [eL]
  refine lv_istore_n (lv' := [(1, .int (fX4_mL τ)), (0, .ref (b 0))]) hx hb dX4_mean_21 rfl hl (by decide) rfl ?_
  clear hl; intro ls hl
  refine lv_iload_n hx hb dX4_mean_22 rfl (lv_at hl 0 rfl) ?_
  subst eθ1
  refine lv_if_ne (tgt := 30) hx hb dX4_mean_23 (by decide) (fun c1 => ?_) (fun c1 => ?_)
  · refine lv_aload_n hx hb dX4_mean_30 rfl (lv_at hl 1 rfl) ?_
    refine rg_w hx hb hts h_iX4 hown hC 0 (by decide) h_f22 dX4_mean_31 ?_
    refine lv_iconst (v := 1) hx hb dX4_mean_34 (by decide) ?_
    refine r_iVp (n := 1) hF (c_X3_all l D cI b 0 (up2 θ 0 0 0) τ ρ hs (1 : Int32) ⟨1, by decide, rfl⟩ N hW) gX4_mean_X3_all rfl rfl rfl (by decide +kernel) ⟨Nat.le_of_ble_eq_true rfl, Nat.le_of_ble_eq_true rfl⟩ hC hA (hC.recvS hs) rfl hl.1 rfl (Nat.le_of_ble_eq_true rfl) dX4_mean_35 ⟨Nat.zero_le _, Nat.zero_le _⟩ ?_
    clear hC; intro H locs hC
    refine lv_i2d hx hb dX4_mean_38 ?_
    refine lv_iload_n hx hb dX4_mean_39 rfl (lv_at hl 0 rfl) ?_
    refine lv_i2d hx hb dX4_mean_40 ?_
    refine W.base (lv_ddiv_any hd0 lw_bits hx hb dX4_mean_41 (fun r d1 hal hd1 => ?_))
    exact r_dret hd1 hx hb hr hlocks hC dX4_mean_42 (Or.inr ⟨c1, hal⟩)
  · refine lv_dconst0 hx hb dX4_mean_26 ?_
    refine lv_goto (tgt := 42) hx hb dX4_mean_27 (by decide) ?_
    exact r_dret (d := S.drawn) hd0 hx hb hr hlocks hC dX4_mean_42 (Or.inl ⟨c1, rfl⟩)
