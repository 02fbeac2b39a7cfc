/-! contracts over the reference's world, and the rows that call by them -/
def rA (b : Nat → Nat) (sz : Nat) : Nat → Prop := fun q => (∃ k, k < 8 ∧ q = b k) ∨ sz ≤ q
def rPre (D : va_G) (cI : ClassId) (b : Nat → Nat) (sz s : Nat) (θ τ ρ : Nat → Nat → Int32) : State → Prop := fun U => U.heap.size = sz ∧ va_K D vwCl (rTys cI) U ∧ va_P D vwCl (rW cI b s θ τ ρ) U.heap ∧ va_D (fun _ => True) (rW cI b s θ τ ρ) ∧ rNw U
def rPost (D : va_G) (cI : ClassId) (b : Nat → Nat) (s : Nat) (θ τ ρ : Nat → Nat → Int32) : Unit → State → Prop := fun _ t => va_K D vwCl (rTys cI) t ∧ va_P D vwCl (rW cI b s θ τ ρ) t.heap
/-- y answers r and leaves θ2 for θ, τ2 for τ -/
def rMi (l : Launch) (y : MethodName) (ws : List Cond) (rm : Room) (D : va_G) (cI : ClassId) (b : Nat → Nat) (av : List Value) (s : Nat) (θ τ ρ : Nat → Nat → Int32) (r : Int32) (θ2 τ2 : Nat → Nat → Int32) : Prop :=
  ∀ sz, Met l y ws rm (va_Pc av (rPre D cI b sz s θ τ ρ)) (va_Qi (fun r' (_ : Unit) => r' = r) (rPost D cI b s θ2 τ2 ρ) (rA b sz)) 0 0 (rA b sz)
def rMv (l : Launch) (y : MethodName) (ws : List Cond) (rm : Room) (D : va_G) (cI : ClassId) (b : Nat → Nat) (av : List Value) (s : Nat) (θ τ ρ : Nat → Nat → Int32) (θ2 τ2 : Nat → Nat → Int32) : Prop :=
  ∀ sz, Met l y ws rm (va_Pc av (rPre D cI b sz s θ τ ρ)) (va_Qv (fun (_ : Unit) => True) (rPost D cI b s θ2 τ2 ρ) (rA b sz)) 0 0 (rA b sz)
theorem rPre.blind {D : va_G} {cI : ClassId} {b : Nat → Nat} {sz s : Nat} {θ τ ρ : Nat → Nat → Int32} {av : List Value} : FrameBlind (va_Pc av (rPre D cI b sz s θ τ ρ)) := fun _ U g mk q => by
  obtain ⟨q0, q1, qK, qP, qD, qN⟩ := q
  exact ⟨q0, q1, va_K.moved (u := U) (U := U.calling g mk _) (Vm.Alike.refl U.vm) qK, qP, qD, qN.calling⟩
theorem rB.pre {D : va_G} {cI : ClassId} {b : Nat → Nat} {S : State} {A : Nat → Prop} {H0 H : Heap} {locs : List Loc} {s : Nat} {θ τ ρ : Nat → Nat → Int32} (hC : rB D cI b S A H0 H locs s θ τ ρ) (av : List Value) : ∀ U : State, U.heap = H → S.WarmedH U.vm → va_Pc av (rPre D cI b H.size s θ τ ρ) av.toArray U := by
  intro U hU hW
  exact ⟨rfl, by rw [hU], va_K.moved hW.alike hC.1, by rw [hU]; exact hC.2.1, gws_A hC.2.2.1 (fun _ _ => trivial), hC.2.2.2.2.moved hW⟩
theorem rB.free {D : va_G} {cI : ClassId} {b : Nat → Nat} {S : State} {A : Nat → Prop} {H0 H : Heap} {locs : List Loc} {s : Nat} {θ τ ρ : Nat → Nat → Int32} (hC : rB D cI b S A H0 H locs s θ τ ρ) (hA : ∀ q, H0.size ≤ q → A q) : ∀ q, rA b H.size q → A q := by
  intro q hq
  rcases hq with ⟨k, hk, rfl⟩ | hq
  · exact hC.2.2.1.2 k _ (gws_get hk)
  · exact hA q (Nat.le_trans hC.2.2.2.1.1 hq)
section RCALLS
variable {p : Program} {l : Launch} {e : Env} {R : Room} {S : State} {m : MethodId} {args : Array Value} {below : List Frame} {meth : Method} {c : Code} {H : Heap} {locs : List Loc} {cells slots : Nat} {Q : State → Prop}
variable {cc bytes : ByteArray} {pc : Nat} {ls : Array Slot} {rest st0 As av : List Value} {D : va_G} {cI : ClassId} {b : Nat → Nat} {A : Nat → Prop} {H0 : Heap} {s : Nat} {θ τ ρ θ2 τ2 : Nat → Nat → Int32} {own : String} {index nL maxL n : Nat} {Ts wsy ws' : List Cond} {y : MethodName} {rm : Room} {ret : Option FieldType} {r : Int32}
theorem r_calli {a0 : Array Value} (hr : va_Run p l e R S m args below meth c H locs cells slots 0 0 (F0 m pc ls st0) rest (va_Qi (fun r' (_ : Unit) => r' = r) (rPost D cI b s θ2 τ2 ρ) (rA b H.size) a0) (rA b H.size)) (hC : rB D cI b S A H0 H locs s θ τ ρ) (hA : ∀ q, H0.size ≤ q → A q)
    (kk : ∀ (H : Heap) (locs : List Loc), rB D cI b S A H0 H locs s θ2 τ2 ρ → W p l e R S m args below meth c H locs cells slots Q (F0 m (pc + 3) ls (.int r :: rest))) : W p l e R S m args below meth c H locs cells slots Q (F0 m pc ls st0) := by
  have hf := hC.free hA
  refine va_calli hr hC.2.2.2.1 (fun q _ h => hf q h) hf (fun r' u t H1 locs1 ht hvm hw hB hz hk hS => ?_)
  subst hw
  obtain ⟨hK1, hP1⟩ := hB
  rw [ht] at hP1
  exact kk H1 locs1 ⟨hC.1, hP1, gws_D hC.2.2.1, hS, hC.2.2.2.2⟩
theorem r_callv {a0 : Array Value} (hr : va_Run p l e R S m args below meth c H locs cells slots 0 0 (F0 m pc ls st0) rest (va_Qv (fun (_ : Unit) => True) (rPost D cI b s θ2 τ2 ρ) (rA b H.size) a0) (rA b H.size)) (hC : rB D cI b S A H0 H locs s θ τ ρ) (hA : ∀ q, H0.size ≤ q → A q)
    (kk : ∀ (H : Heap) (locs : List Loc), rB D cI b S A H0 H locs s θ2 τ2 ρ → W p l e R S m args below meth c H locs cells slots Q (F0 m (pc + 3) ls rest)) : W p l e R S m args below meth c H locs cells slots Q (F0 m pc ls st0) := by
  have hf := hC.free hA
  refine va_callv hr hC.2.2.2.1 (fun q _ h => hf q h) hf (fun u t H1 locs1 ht hvm hw hB hz hk hS => ?_)
  obtain ⟨hK1, hP1⟩ := hB
  rw [ht] at hP1
  exact kk H1 locs1 ⟨hC.1, hP1, gws_D hC.2.2.1, hS, hC.2.2.2.2⟩
theorem rB.recvS (hC : rB D cI b S A H0 H locs s θ τ ρ) (hs : s < 2) : ∃ cell : Cell, H[b (3*s+2+0)]? = some cell ∧ cell.vm.isStatics = false ∧ S.vm.findClass RX3 = some cell.cls := va_recv hC.1 hC.2.1 (ci := 3) (q0 := 3*s+2+0) (fs := staL b s τ) rfl (rB.get hs (by omega))
theorem rB.recvM (hC : rB D cI b S A H0 H locs s θ τ ρ) : ∃ cell : Cell, H[b 0]? = some cell ∧ cell.vm.isStatics = false ∧ S.vm.findClass RX4 = some cell.cls := va_recv hC.1 hC.2.1 (ci := 4) (q0 := 0) (fs := modL b θ) rfl (gws_get (by omega))
/-- invokevirtual of a method that changes the State -/
theorem r_iVi {C : String} {o : Nat} (F : CallFix p m c cc nL S args Ts own) (hM : rMi l y wsy rm D cI b (.ref o :: As) s θ τ ρ r θ τ2) (hG : GoodIn Ts (wsV own index C y wsy)) (hw : wsy = Cond.code y bytes maxL ret :: ws') (hrc : rm.cells = 0) (hrs : rm.slots = 0)
    (hd : y.cls = C ∧ y.cls ≠ "java/lang/invoke/MethodHandle" ∧ y.cls ≠ "java/lang/invoke/VarHandle" ∧ (parseMethodDescriptor y.desc).map (fun d => d.parameters.length) = some n) (hRm : rm.frames + 1 ≤ R.frames ∧ 8 + (maxL + 11) + rm.locals ≤ R.locals)
    (hC : rB D cI b S A H0 H locs s θ τ ρ) (hA : ∀ q, H0.size ≤ q → A q) (hrecv : ∃ cell : Cell, H[o]? = some cell ∧ cell.vm.isStatics = false ∧ S.vm.findClass C = some cell.cls) (hn : As.length = n) (hsize : ls.size = nL) (hst : st0 = As.reverse ++ .ref o :: rest) (hW : (rest.map fun v => v.category).sum ≤ 8) (hdg : decode cc pc = .ok (.invokevirtual index, 3)) (hf : cells ≤ R.cells ∧ slots ≤ R.slots)
    (kk : ∀ (H : Heap) (locs : List Loc) (τ3 : Nat → Nat → Int32), τ2 = τ3 → rB D cI b S A H0 H locs s θ τ3 ρ → W p l e R S m args below meth c H locs cells slots Q (F0 m (pc + 3) ls (.int r :: rest))) : W p l e R S m args below meth c H locs cells slots Q (F0 m pc ls st0) :=
  r_calli (va_runV (As := As) (rest := rest) F (hM H.size) (cwV n F.2.2.2.2 hG hw hrc hrs hd hRm) ⟨rPre.blind, hrecv, hC.pre _⟩ rfl hn hsize hst (lv_room hW) hdg hf) hC hA (fun H locs hC => kk H locs _ rfl hC)
theorem r_iVv {C : String} {o : Nat} (F : CallFix p m c cc nL S args Ts own) (hM : rMv l y wsy rm D cI b (.ref o :: As) s θ τ ρ  θ τ2) (hG : GoodIn Ts (wsV own index C y wsy)) (hw : wsy = Cond.code y bytes maxL ret :: ws') (hrc : rm.cells = 0) (hrs : rm.slots = 0)
    (hd : y.cls = C ∧ y.cls ≠ "java/lang/invoke/MethodHandle" ∧ y.cls ≠ "java/lang/invoke/VarHandle" ∧ (parseMethodDescriptor y.desc).map (fun d => d.parameters.length) = some n) (hRm : rm.frames + 1 ≤ R.frames ∧ 8 + (maxL + 11) + rm.locals ≤ R.locals)
    (hC : rB D cI b S A H0 H locs s θ τ ρ) (hA : ∀ q, H0.size ≤ q → A q) (hrecv : ∃ cell : Cell, H[o]? = some cell ∧ cell.vm.isStatics = false ∧ S.vm.findClass C = some cell.cls) (hn : As.length = n) (hsize : ls.size = nL) (hst : st0 = As.reverse ++ .ref o :: rest) (hW : (rest.map fun v => v.category).sum ≤ 8) (hdg : decode cc pc = .ok (.invokevirtual index, 3)) (hf : cells ≤ R.cells ∧ slots ≤ R.slots)
    (kk : ∀ (H : Heap) (locs : List Loc) (τ3 : Nat → Nat → Int32), τ2 = τ3 → rB D cI b S A H0 H locs s θ τ3 ρ → W p l e R S m args below meth c H locs cells slots Q (F0 m (pc + 3) ls rest)) : W p l e R S m args below meth c H locs cells slots Q (F0 m pc ls st0) :=
  r_callv (va_runV (As := As) (rest := rest) F (hM H.size) (cwV n F.2.2.2.2 hG hw hrc hrs hd hRm) ⟨rPre.blind, hrecv, hC.pre _⟩ rfl hn hsize hst (lv_room hW) hdg hf) hC hA (fun H locs hC => kk H locs _ rfl hC)
/-- .. that only reads -/
theorem r_iVp {C : String} {o : Nat} (F : CallFix p m c cc nL S args Ts own) (hM : rMi l y wsy rm D cI b (.ref o :: As) s θ τ ρ r θ τ) (hG : GoodIn Ts (wsV own index C y wsy)) (hw : wsy = Cond.code y bytes maxL ret :: ws') (hrc : rm.cells = 0) (hrs : rm.slots = 0)
    (hd : y.cls = C ∧ y.cls ≠ "java/lang/invoke/MethodHandle" ∧ y.cls ≠ "java/lang/invoke/VarHandle" ∧ (parseMethodDescriptor y.desc).map (fun d => d.parameters.length) = some n) (hRm : rm.frames + 1 ≤ R.frames ∧ 8 + (maxL + 11) + rm.locals ≤ R.locals)
    (hC : rB D cI b S A H0 H locs s θ τ ρ) (hA : ∀ q, H0.size ≤ q → A q) (hrecv : ∃ cell : Cell, H[o]? = some cell ∧ cell.vm.isStatics = false ∧ S.vm.findClass C = some cell.cls) (hn : As.length = n) (hsize : ls.size = nL) (hst : st0 = As.reverse ++ .ref o :: rest) (hW : (rest.map fun v => v.category).sum ≤ 8) (hdg : decode cc pc = .ok (.invokevirtual index, 3)) (hf : cells ≤ R.cells ∧ slots ≤ R.slots)
    (kk : ∀ (H : Heap) (locs : List Loc), rB D cI b S A H0 H locs s θ τ ρ → W p l e R S m args below meth c H locs cells slots Q (F0 m (pc + 3) ls (.int r :: rest))) : W p l e R S m args below meth c H locs cells slots Q (F0 m pc ls st0) :=
  r_calli (va_runV (As := As) (rest := rest) F (hM H.size) (cwV n F.2.2.2.2 hG hw hrc hrs hd hRm) ⟨rPre.blind, hrecv, hC.pre _⟩ rfl hn hsize hst (lv_room hW) hdg hf) hC hA kk
/-- .. that changes the model itself -/
theorem r_iVm {C : String} {o : Nat} (F : CallFix p m c cc nL S args Ts own) (hM : rMi l y wsy rm D cI b (.ref o :: As) s θ τ ρ r θ2 τ) (hG : GoodIn Ts (wsV own index C y wsy)) (hw : wsy = Cond.code y bytes maxL ret :: ws') (hrc : rm.cells = 0) (hrs : rm.slots = 0)
    (hd : y.cls = C ∧ y.cls ≠ "java/lang/invoke/MethodHandle" ∧ y.cls ≠ "java/lang/invoke/VarHandle" ∧ (parseMethodDescriptor y.desc).map (fun d => d.parameters.length) = some n) (hRm : rm.frames + 1 ≤ R.frames ∧ 8 + (maxL + 11) + rm.locals ≤ R.locals)
    (hC : rB D cI b S A H0 H locs s θ τ ρ) (hA : ∀ q, H0.size ≤ q → A q) (hrecv : ∃ cell : Cell, H[o]? = some cell ∧ cell.vm.isStatics = false ∧ S.vm.findClass C = some cell.cls) (hn : As.length = n) (hsize : ls.size = nL) (hst : st0 = As.reverse ++ .ref o :: rest) (hW : (rest.map fun v => v.category).sum ≤ 8) (hdg : decode cc pc = .ok (.invokevirtual index, 3)) (hf : cells ≤ R.cells ∧ slots ≤ R.slots)
    (kk : ∀ (H : Heap) (locs : List Loc) (θ3 : Nat → Nat → Int32), θ2 = θ3 → rB D cI b S A H0 H locs s θ3 τ ρ → W p l e R S m args below meth c H locs cells slots Q (F0 m (pc + 3) ls (.int r :: rest))) : W p l e R S m args below meth c H locs cells slots Q (F0 m pc ls st0) :=
  r_calli (va_runV (As := As) (rest := rest) F (hM H.size) (cwV n F.2.2.2.2 hG hw hrc hrs hd hRm) ⟨rPre.blind, hrecv, hC.pre _⟩ rfl hn hsize hst (lv_room hW) hdg hf) hC hA (fun H locs hC => kk H locs _ rfl hC)
/-- invokestatic, of a method that only reads -/
theorem r_iSi (F : CallFix p m c cc nL S args Ts own) (hM : rMi l y wsy rm D cI b As s θ τ ρ r θ τ) (hG : GoodIn Ts (va_wsS own index y wsy)) (hw : wsy = Cond.code y bytes maxL ret :: ws') (hrc : rm.cells = 0) (hrs : rm.slots = 0)
    (hd : y.cls ≠ "java/lang/invoke/MethodHandle" ∧ y.cls ≠ "java/lang/invoke/VarHandle" ∧ (parseMethodDescriptor y.desc).map (fun d => d.parameters.length) = some n) (hRm : rm.frames + 1 ≤ R.frames ∧ 8 + (maxL + 11) + rm.locals ≤ R.locals)
    (hC : rB D cI b S A H0 H locs s θ τ ρ) (hA : ∀ q, H0.size ≤ q → A q) (hn : As.length = n) (hsize : ls.size = nL) (hst : st0 = As.reverse ++ rest) (hW : (rest.map fun v => v.category).sum ≤ 8) (hdg : decode cc pc = .ok (.invokestatic index, 3)) (hf : cells ≤ R.cells ∧ slots ≤ R.slots)
    (kk : ∀ (H : Heap) (locs : List Loc), rB D cI b S A H0 H locs s θ τ ρ → W p l e R S m args below meth c H locs cells slots Q (F0 m (pc + 3) ls (.int r :: rest))) : W p l e R S m args below meth c H locs cells slots Q (F0 m pc ls st0) := by
  have ok : ∀ w ∈ va_wsS own index y wsy, w.before args S = true := fun w h => F.2.2.2.2 w (hG w h).1
  exact r_calli (va_runS (As := As) (rest := rest) F (hM H.size) ⟨callB_of n F.2.2.2.2 (fun w h => hG w (by unfold va_wsS; exact List.mem_append_right _ h)) hw hrc hrs (ok _ (by simp [va_wsS])) (ok _ (by simp [va_wsS])) hd hRm, ok _ (by simp [va_wsS])⟩ ⟨rPre.blind, hC.pre _⟩ rfl hn hsize hst (lv_room hW) hdg hf) hC hA kk
/-- a method's head -/
theorem r_head {sz : Nat} {Qc : Array Value → State → Outcome → State → Prop} {mc ms : Nat} (hy : plainFor y = true) (hw : wsy = Cond.code y cc maxL ret :: ws') (hle : (lg_sl av).length ≤ maxL)
    (body : ∀ (p : Program) (e : Env) (S : State) (m : MethodId) (below : List Frame) (meth : Method) (c : Code), p.tables.exec = Jvm.exec → c.code = cc → meth.sig.returnType = ret → c.maxLocals = maxL → S.vm.findClass y.cls = some m.cls → (∀ w ∈ wsy, w.before av.toArray S = true) → meth.locks = false → meth.name = y.name → S.heap.size = sz → (∀ q, S.heap.size ≤ q → rA b sz q) →
      rB D cI b S (rA b sz) S.heap S.heap [] s θ τ ρ → ∀ ls : Array Slot, lv_has ls maxL (lv_args 0 av) → W p l e (headSpec wsy rm).room S m av.toArray below meth c S.heap [] 0 0 (MQ below Qc av.toArray S mc ms (rA b sz)) (F0 m 0 ls [])) :
    Met l y wsy rm (va_Pc av (rPre D cI b sz s θ τ ρ)) Qc mc ms (rA b sz) := by
  refine va_MetF (cc := cc) (maxL := maxL) (ret := ret) hy hw ?_
  intro p e S m args below meth c s₁ B hml hv
  obtain ⟨rfl, hsz, hK, hP, hD, hN⟩ := hv
  have hts := atoms_spec (ws := wsy) B.pre
  have hl := lv_entry av (n := maxL) hle
  rw [lg_entry_eq]
  exact body p e S m below meth c B.exec B.bytes B.returns hml (findClass_of_methodNamed B.named) hts B.notSynchronized (name_of_methodNamed B.named B.method).1 hsz (fun q h => Or.inr (by rw [← hsz]; exact h)) ⟨hK, hP, gws_A hD (fun k hk => Or.inl ⟨k, hk, rfl⟩), va_S.rf, hN⟩ _ hl
theorem rB.end {sz : Nat} (hC : rB D cI b S (rA b sz) S.heap H locs s θ τ ρ) {t : State} (ht : t.heap = H) (hW : S.WarmedH t.vm) : rPost D cI b s θ τ ρ () t ∧ va_F (rA b sz) S t :=
  ⟨⟨va_K.moved hW.alike hC.1, by rw [ht]; exact hC.2.1⟩, hC.2.2.2.1.F ht⟩
theorem r_iret {sz : Nat} {v : Int32} (hexec : p.tables.exec = Jvm.exec) (hb : c.code = cc) (hr : meth.sig.returnType = some .int) (hlocks : meth.locks = false) (hC : rB D cI b S (rA b sz) S.heap H locs s θ τ ρ) (hdg : decode cc pc = .ok (.ireturn, 1)) (hv : v = r ∧ θ = θ2 ∧ τ = τ2) :
    W p l e R S m args below meth c H locs cells slots (MQ below (va_Qi (fun r' (_ : Unit) => r' = r) (rPost D cI b s θ2 τ2 ρ) (rA b sz)) args S cells slots (rA b sz)) (F0 m pc ls [.int v]) := by
  obtain ⟨rfl, rfl, rfl⟩ := hv
  exact W.iret hexec hb hr (fun t ht hW => ⟨⟨v, (), rfl, rfl, (hC.end ht hW).1⟩, (hC.end ht hW).2⟩) hC.2.2.2.1.2.2 hdg hlocks
theorem r_zret {sz : Nat} {v : Int32} (hexec : p.tables.exec = Jvm.exec) (hb : c.code = cc) (hr : meth.sig.returnType = some .boolean) (hlocks : meth.locks = false) (hC : rB D cI b S (rA b sz) S.heap H locs s θ τ ρ) (hdg : decode cc pc = .ok (.ireturn, 1)) (h01 : v = 0 ∨ v = 1) (hv : v = r ∧ θ = θ2 ∧ τ = τ2) :
    W p l e R S m args below meth c H locs cells slots (MQ below (va_Qi (fun r' (_ : Unit) => r' = r) (rPost D cI b s θ2 τ2 ρ) (rA b sz)) args S cells slots (rA b sz)) (F0 m pc ls [.int v]) := by
  obtain ⟨rfl, rfl, rfl⟩ := hv
  exact W.zret hexec hb hr (by rcases h01 with h | h <;> rw [h] <;> rfl) (fun t ht hW => ⟨⟨v, (), rfl, rfl, (hC.end ht hW).1⟩, (hC.end ht hW).2⟩) hC.2.2.2.1.2.2 hdg hlocks
theorem r_vret {sz : Nat} (hexec : p.tables.exec = Jvm.exec) (hb : c.code = cc) (hr : meth.sig.returnType = none) (hlocks : meth.locks = false) (hC : rB D cI b S (rA b sz) S.heap H locs s θ τ ρ) (hdg : decode cc pc = .ok (.return_, 1)) (hv : θ = θ2 ∧ τ = τ2) :
    W p l e R S m args below meth c H locs cells slots (MQ below (va_Qv (fun (_ : Unit) => True) (rPost D cI b s θ2 τ2 ρ) (rA b sz)) args S cells slots (rA b sz)) (F0 m pc ls []) := by
  obtain ⟨rfl, rfl⟩ := hv
  exact W.vret hexec hb hr (fun t ht hW => ⟨⟨(), rfl, trivial, (hC.end ht hW).1⟩, (hC.end ht hW).2⟩) hC.2.2.2.1.2.2 hdg hlocks
end RCALLS
