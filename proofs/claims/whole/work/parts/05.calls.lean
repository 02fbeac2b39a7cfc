/-! contracts over the class's world, and the rows that call by them -/
def cA (a : Nat → Nat) (sz : Nat) : Nat → Prop := fun q => (∃ k, k < 35 ∧ q = a k) ∨ sz ≤ q
def cPre (D : va_G) (cI cM : ClassId) (a : Nat → Nat) (sz s : Nat) (σ ρ : Nat → Nat → Int32) : State → Prop := fun U => U.heap.size = sz ∧ va_K D vwCl (cTys cI cM) U ∧ va_P D vwCl (cW cI cM a s σ ρ) U.heap ∧ va_D (fun _ => True) (cW cI cM a s σ ρ)
def cPost (D : va_G) (cI cM : ClassId) (a : Nat → Nat) (s : Nat) (σ ρ : Nat → Nat → Int32) : Unit → State → Prop := fun _ t => va_K D vwCl (cTys cI cM) t ∧ va_P D vwCl (cW cI cM a s σ ρ) t.heap
/-- y answers r and leaves σ2 for σ -/
def cMi (l : Launch) (y : MethodName) (ws : List Cond) (rm : Room) (D : va_G) (cI cM : ClassId) (a : Nat → Nat) (av : List Value) (s : Nat) (σ ρ : Nat → Nat → Int32) (r : Int32) (σ2 : Nat → Nat → Int32) : Prop :=
  ∀ sz, Met l y ws rm (va_Pc av (cPre D cI cM a sz s σ ρ)) (va_Qi (fun r' (_ : Unit) => r' = r) (cPost D cI cM a s σ2 ρ) (cA a sz)) 0 0 (cA a sz)
def cMv (l : Launch) (y : MethodName) (ws : List Cond) (rm : Room) (D : va_G) (cI cM : ClassId) (a : Nat → Nat) (av : List Value) (s : Nat) (σ ρ : Nat → Nat → Int32) (σ2 : Nat → Nat → Int32) : Prop :=
  ∀ sz, Met l y ws rm (va_Pc av (cPre D cI cM a sz s σ ρ)) (va_Qv (fun (_ : Unit) => True) (cPost D cI cM a s σ2 ρ) (cA a sz)) 0 0 (cA a sz)
theorem gws_D {N : Nat} {a : Nat → Nat} {F F' : Nat → va_E} {A : Nat → Prop} (h : va_D A (gws N a F)) : va_D A (gws N a F') := by
  refine ⟨fun i j p q hi hj hpq => ?_, fun k q hk => ?_⟩
  · obtain ⟨li, rfl⟩ := gws_inv hi
    obtain ⟨lj, rfl⟩ := gws_inv hj
    exact h.1 i j (a i, F i) (a j, F j) (gws_get li) (gws_get lj) hpq
  · obtain ⟨lk, rfl⟩ := gws_inv hk
    exact h.2 k (a k, F k) (gws_get lk)
theorem gws_A {N : Nat} {a : Nat → Nat} {F : Nat → va_E} {A B : Nat → Prop} (h : va_D A (gws N a F)) (hB : ∀ k, k < N → B (a k)) : va_D B (gws N a F) := by
  refine h.weaken (fun k q hk _ => ?_)
  obtain ⟨lk, rfl⟩ := gws_inv hk
  exact hB k lk
theorem cPre.blind {D : va_G} {cI cM : ClassId} {a : Nat → Nat} {sz s : Nat} {σ ρ : Nat → Nat → Int32} {av : List Value} : FrameBlind (va_Pc av (cPre D cI cM a sz s σ ρ)) := fun _ U g mk q => by
  obtain ⟨q0, q1, qK, qP, qD⟩ := q
  exact ⟨q0, q1, va_K.moved (u := U) (U := U.calling g mk _) (Vm.Alike.refl U.vm) qK, qP, qD⟩
theorem cB.pre {D : va_G} {cI cM : ClassId} {a : Nat → Nat} {S : State} {A : Nat → Prop} {H0 H : Heap} {locs : List Loc} {s : Nat} {σ ρ : Nat → Nat → Int32} (hC : cB D cI cM a S A H0 H locs s σ ρ) (av : List Value) : ∀ U : State, U.heap = H → S.WarmedH U.vm → va_Pc av (cPre D cI cM a H.size s σ ρ) av.toArray U := by
  intro U hU hW
  exact ⟨rfl, by rw [hU], va_K.moved hW.alike hC.1, by rw [hU]; exact hC.2.1, gws_A hC.2.2.1 (fun _ _ => trivial)⟩
theorem cB.free {D : va_G} {cI cM : ClassId} {a : Nat → Nat} {S : State} {A : Nat → Prop} {H0 H : Heap} {locs : List Loc} {s : Nat} {σ ρ : Nat → Nat → Int32} (hC : cB D cI cM a S A H0 H locs s σ ρ) (hA : ∀ q, H0.size ≤ q → A q) : ∀ q, cA a H.size q → A q := by
  intro q hq
  rcases hq with ⟨k, hk, rfl⟩ | hq
  · exact hC.2.2.1.2 k _ (gws_get hk)
  · exact hA q (Nat.le_trans hC.2.2.2.1 hq)
theorem gws_congr {N : Nat} {a : Nat → Nat} {F F' : Nat → va_E} (h : ∀ k, k < N → F k = F' k) : gws N a F = gws N a F' := List.map_congr_left (fun k hk => by rw [h k (List.mem_range.mp hk)])
theorem cB.sw {D : va_G} {cI cM : ClassId} {a : Nat → Nat} {S : State} {A : Nat → Prop} {H0 H : Heap} {locs : List Loc} {s : Nat} {σ ρ : Nat → Nat → Int32} (hC : cB D cI cM a S A H0 H locs s σ ρ) (hs : s < 2) : cB D cI cM a S A H0 H locs (1-s) ρ σ := by
  have h : cW cI cM a s σ ρ = cW cI cM a (1-s) ρ σ := gws_congr (fun k hk => by
    unfold cF
    by_cases h34 : k = 34
    · rw [if_pos h34, if_pos h34]
    · rw [if_neg h34, if_neg h34]
      by_cases hq : k/17 = s
      · simp only [fo, if_pos hq]
        rw [if_neg (by omega)]
      · simp only [fo, if_neg hq]
        rw [if_pos (by omega)])
  unfold cB
  rw [← h]
  exact hC
section CCALLS
variable {p : Program} {l : Launch} {e : Env} {R : Room} {S : State} {m : MethodId} {args : Array Value} {below : List Frame} {meth : Method} {c : Code} {H : Heap} {locs : List Loc} {cells slots : Nat} {Q : State → Prop}
variable {cc bytes : ByteArray} {pc : Nat} {ls : Array Slot} {rest st0 As av : List Value} {D : va_G} {cI cM : ClassId} {a : Nat → Nat} {A : Nat → Prop} {H0 : Heap} {s : Nat} {σ ρ σ2 : Nat → Nat → Int32} {own : String} {index nL maxL n : Nat} {Ts wsy ws' : List Cond} {y : MethodName} {rm : Room} {ret : Option FieldType} {r : Int32}
theorem c_calli {a0 : Array Value} (hr : va_Run p l e R S m args below meth c H locs cells slots 0 0 (F0 m pc ls st0) rest (va_Qi (fun r' (_ : Unit) => r' = r) (cPost D cI cM a s σ2 ρ) (cA a H.size) a0) (cA a H.size)) (hC : cB D cI cM a S A H0 H locs s σ ρ) (hA : ∀ q, H0.size ≤ q → A q)
    (kk : ∀ (H : Heap) (locs : List Loc), cB D cI cM a S A H0 H locs s σ2 ρ → W p l e R S m args below meth c H locs cells slots Q (F0 m (pc + 3) ls (.int r :: rest))) : W p l e R S m args below meth c H locs cells slots Q (F0 m pc ls st0) := by
  have hf := hC.free hA
  refine va_calli hr hC.2.2.2 (fun q _ h => hf q h) hf (fun r' u t H1 locs1 ht hvm hw hB hz hk hS => ?_)
  subst hw
  obtain ⟨hK1, hP1⟩ := hB
  rw [ht] at hP1
  exact kk H1 locs1 ⟨hC.1, hP1, gws_D hC.2.2.1, hS⟩
theorem c_callv {a0 : Array Value} (hr : va_Run p l e R S m args below meth c H locs cells slots 0 0 (F0 m pc ls st0) rest (va_Qv (fun (_ : Unit) => True) (cPost D cI cM a s σ2 ρ) (cA a H.size) a0) (cA a H.size)) (hC : cB D cI cM a S A H0 H locs s σ ρ) (hA : ∀ q, H0.size ≤ q → A q)
    (kk : ∀ (H : Heap) (locs : List Loc), cB D cI cM a S A H0 H locs s σ2 ρ → W p l e R S m args below meth c H locs cells slots Q (F0 m (pc + 3) ls rest)) : W p l e R S m args below meth c H locs cells slots Q (F0 m pc ls st0) := by
  have hf := hC.free hA
  refine va_callv hr hC.2.2.2 (fun q _ h => hf q h) hf (fun u t H1 locs1 ht hvm hw hB hz hk hS => ?_)
  obtain ⟨hK1, hP1⟩ := hB
  rw [ht] at hP1
  exact kk H1 locs1 ⟨hC.1, hP1, gws_D hC.2.2.1, hS⟩
theorem cB.recvS (hC : cB D cI cM a S A H0 H locs s σ ρ) (hs : s < 2) : ∃ cell : Cell, H[a (17*s+0)]? = some cell ∧ cell.vm.isStatics = false ∧ S.vm.findClass RX1 = some cell.cls := va_recv hC.1 hC.2.1 (ci := 1) (q0 := 17*s+0) (fs := socL a s σ) rfl (cB.get (D := D) hs (by omega))
theorem cB.recvM (hC : cB D cI cM a S A H0 H locs s σ ρ) (hs : s < 2) {i : Nat} (hi : i < 12) : ∃ cell : Cell, H[a (17*s+(i+5))]? = some cell ∧ cell.vm.isStatics = false ∧ S.vm.findClass RX0 = some cell.cls := va_recv hC.1 hC.2.1 (ci := 0) (q0 := 17*s+(i+5)) (fs := memL σ i) rfl (cB.get (D := D) hs (by omega))
theorem cB.recvW (hC : cB D cI cM a S A H0 H locs s σ ρ) : ∃ cell : Cell, H[a 34]? = some cell ∧ cell.vm.isStatics = false ∧ S.vm.findClass RX2 = some cell.cls := va_recv hC.1 hC.2.1 (ci := 2) (q0 := 34) (fs := [.ref (a 0), .ref (a 17)]) rfl (gws_get (by omega))
/-- invokevirtual of a method that answers an int (or a boolean) -/
theorem c_iVi {C : String} {b : Nat} (F : CallFix p m c cc nL S args Ts own) (hM : cMi l y wsy rm D cI cM a (.ref b :: As) s σ ρ r σ2) (hG : GoodIn Ts (wsV own index C y wsy)) (hw : wsy = Cond.code y bytes maxL ret :: ws') (hrc : rm.cells = 0) (hrs : rm.slots = 0)
    (hd : y.cls = C ∧ y.cls ≠ "java/lang/invoke/MethodHandle" ∧ y.cls ≠ "java/lang/invoke/VarHandle" ∧ (parseMethodDescriptor y.desc).map (fun d => d.parameters.length) = some n) (hRm : rm.frames + 1 ≤ R.frames ∧ 8 + (maxL + 11) + rm.locals ≤ R.locals)
    (hC : cB D cI cM a S A H0 H locs s σ ρ) (hA : ∀ q, H0.size ≤ q → A q) (hrecv : ∃ cell : Cell, H[b]? = some cell ∧ cell.vm.isStatics = false ∧ S.vm.findClass C = some cell.cls) (hn : As.length = n) (hsize : ls.size = nL) (hst : st0 = As.reverse ++ .ref b :: rest) (hW : (rest.map fun v => v.category).sum ≤ 8) (hdg : decode cc pc = .ok (.invokevirtual index, 3)) (hf : cells ≤ R.cells ∧ slots ≤ R.slots)
    (kk : ∀ (H : Heap) (locs : List Loc) (σ3 : Nat → Nat → Int32), σ2 = σ3 → cB D cI cM a S A H0 H locs s σ3 ρ → W p l e R S m args below meth c H locs cells slots Q (F0 m (pc + 3) ls (.int r :: rest))) : W p l e R S m args below meth c H locs cells slots Q (F0 m pc ls st0) :=
  c_calli (va_runV (As := As) (rest := rest) F (hM H.size) (cwV n F.2.2.2.2 hG hw hrc hrs hd hRm) ⟨cPre.blind, hrecv, hC.pre _⟩ rfl hn hsize hst (lv_room hW) hdg hf) hC hA (fun H locs hC => kk H locs _ rfl hC)
theorem c_iVv {C : String} {b : Nat} (F : CallFix p m c cc nL S args Ts own) (hM : cMv l y wsy rm D cI cM a (.ref b :: As) s σ ρ σ2) (hG : GoodIn Ts (wsV own index C y wsy)) (hw : wsy = Cond.code y bytes maxL ret :: ws') (hrc : rm.cells = 0) (hrs : rm.slots = 0)
    (hd : y.cls = C ∧ y.cls ≠ "java/lang/invoke/MethodHandle" ∧ y.cls ≠ "java/lang/invoke/VarHandle" ∧ (parseMethodDescriptor y.desc).map (fun d => d.parameters.length) = some n) (hRm : rm.frames + 1 ≤ R.frames ∧ 8 + (maxL + 11) + rm.locals ≤ R.locals)
    (hC : cB D cI cM a S A H0 H locs s σ ρ) (hA : ∀ q, H0.size ≤ q → A q) (hrecv : ∃ cell : Cell, H[b]? = some cell ∧ cell.vm.isStatics = false ∧ S.vm.findClass C = some cell.cls) (hn : As.length = n) (hsize : ls.size = nL) (hst : st0 = As.reverse ++ .ref b :: rest) (hW : (rest.map fun v => v.category).sum ≤ 8) (hdg : decode cc pc = .ok (.invokevirtual index, 3)) (hf : cells ≤ R.cells ∧ slots ≤ R.slots)
    (kk : ∀ (H : Heap) (locs : List Loc) (σ3 : Nat → Nat → Int32), σ2 = σ3 → cB D cI cM a S A H0 H locs s σ3 ρ → W p l e R S m args below meth c H locs cells slots Q (F0 m (pc + 3) ls rest)) : W p l e R S m args below meth c H locs cells slots Q (F0 m pc ls st0) :=
  c_callv (va_runV (As := As) (rest := rest) F (hM H.size) (cwV n F.2.2.2.2 hG hw hrc hrs hd hRm) ⟨cPre.blind, hrecv, hC.pre _⟩ rfl hn hsize hst (lv_room hW) hdg hf) hC hA (fun H locs hC => kk H locs _ rfl hC)
/-- .. that only reads -/
theorem c_iVp {C : String} {b : Nat} (F : CallFix p m c cc nL S args Ts own) (hM : cMi l y wsy rm D cI cM a (.ref b :: As) s σ ρ r σ) (hG : GoodIn Ts (wsV own index C y wsy)) (hw : wsy = Cond.code y bytes maxL ret :: ws') (hrc : rm.cells = 0) (hrs : rm.slots = 0)
    (hd : y.cls = C ∧ y.cls ≠ "java/lang/invoke/MethodHandle" ∧ y.cls ≠ "java/lang/invoke/VarHandle" ∧ (parseMethodDescriptor y.desc).map (fun d => d.parameters.length) = some n) (hRm : rm.frames + 1 ≤ R.frames ∧ 8 + (maxL + 11) + rm.locals ≤ R.locals)
    (hC : cB D cI cM a S A H0 H locs s σ ρ) (hA : ∀ q, H0.size ≤ q → A q) (hrecv : ∃ cell : Cell, H[b]? = some cell ∧ cell.vm.isStatics = false ∧ S.vm.findClass C = some cell.cls) (hn : As.length = n) (hsize : ls.size = nL) (hst : st0 = As.reverse ++ .ref b :: rest) (hW : (rest.map fun v => v.category).sum ≤ 8) (hdg : decode cc pc = .ok (.invokevirtual index, 3)) (hf : cells ≤ R.cells ∧ slots ≤ R.slots)
    (kk : ∀ (H : Heap) (locs : List Loc), cB D cI cM a S A H0 H locs s σ ρ → W p l e R S m args below meth c H locs cells slots Q (F0 m (pc + 3) ls (.int r :: rest))) : W p l e R S m args below meth c H locs cells slots Q (F0 m pc ls st0) :=
  c_iVi F hM hG hw hrc hrs hd hRm hC hA hrecv hn hsize hst hW hdg hf (fun H locs σ3 h hC => kk H locs (h.symm ▸ hC))
/-- invokestatic, of a method that only reads -/
theorem c_iSi (F : CallFix p m c cc nL S args Ts own) (hM : cMi l y wsy rm D cI cM a As s σ ρ r σ) (hG : GoodIn Ts (va_wsS own index y wsy)) (hw : wsy = Cond.code y bytes maxL ret :: ws') (hrc : rm.cells = 0) (hrs : rm.slots = 0)
    (hd : y.cls ≠ "java/lang/invoke/MethodHandle" ∧ y.cls ≠ "java/lang/invoke/VarHandle" ∧ (parseMethodDescriptor y.desc).map (fun d => d.parameters.length) = some n) (hRm : rm.frames + 1 ≤ R.frames ∧ 8 + (maxL + 11) + rm.locals ≤ R.locals)
    (hC : cB D cI cM a S A H0 H locs s σ ρ) (hA : ∀ q, H0.size ≤ q → A q) (hn : As.length = n) (hsize : ls.size = nL) (hst : st0 = As.reverse ++ rest) (hW : (rest.map fun v => v.category).sum ≤ 8) (hdg : decode cc pc = .ok (.invokestatic index, 3)) (hf : cells ≤ R.cells ∧ slots ≤ R.slots)
    (kk : ∀ (H : Heap) (locs : List Loc), cB D cI cM a S A H0 H locs s σ ρ → W p l e R S m args below meth c H locs cells slots Q (F0 m (pc + 3) ls (.int r :: rest))) : W p l e R S m args below meth c H locs cells slots Q (F0 m pc ls st0) := by
  have ok : ∀ w ∈ va_wsS own index y wsy, w.before args S = true := fun w h => F.2.2.2.2 w (hG w h).1
  exact c_calli (va_runS (As := As) (rest := rest) F (hM H.size) ⟨callB_of n F.2.2.2.2 (fun w h => hG w (by unfold va_wsS; exact List.mem_append_right _ h)) hw hrc hrs (ok _ (by simp [va_wsS])) (ok _ (by simp [va_wsS])) hd hRm, ok _ (by simp [va_wsS])⟩ ⟨cPre.blind, hC.pre _⟩ rfl hn hsize hst (lv_room hW) hdg hf) hC hA kk
/-- a method's head -/
theorem c_head {sz : Nat} {Qc : Array Value → State → Outcome → State → Prop} {mc ms : Nat} (hy : plainFor y = true) (hw : wsy = Cond.code y cc maxL ret :: ws') (hle : (lg_sl av).length ≤ maxL)
    (body : ∀ (p : Program) (e : Env) (S : State) (m : MethodId) (below : List Frame) (meth : Method) (c : Code), p.tables.exec = Jvm.exec → c.code = cc → meth.sig.returnType = ret → c.maxLocals = maxL → S.vm.findClass y.cls = some m.cls → (∀ w ∈ wsy, w.before av.toArray S = true) → meth.locks = false → meth.name = y.name → S.heap.size = sz → (∀ q, S.heap.size ≤ q → cA a sz q) →
      cB D cI cM a S (cA a sz) S.heap S.heap [] s σ ρ → ∀ ls : Array Slot, lv_has ls maxL (lv_args 0 av) → W p l e (headSpec wsy rm).room S m av.toArray below meth c S.heap [] 0 0 (MQ below Qc av.toArray S mc ms (cA a sz)) (F0 m 0 ls [])) :
    Met l y wsy rm (va_Pc av (cPre D cI cM a sz s σ ρ)) Qc mc ms (cA a sz) := by
  refine va_MetF (cc := cc) (maxL := maxL) (ret := ret) hy hw ?_
  intro p e S m args below meth c s₁ B hml hv
  obtain ⟨rfl, hsz, hK, hP, hD⟩ := hv
  have hts := atoms_spec (ws := wsy) B.pre
  have hl := lv_entry av (n := maxL) hle
  rw [lg_entry_eq]
  exact body p e S m below meth c B.exec B.bytes B.returns hml (findClass_of_methodNamed B.named) hts B.notSynchronized (name_of_methodNamed B.named B.method).1 hsz (fun q h => Or.inr (by rw [← hsz]; exact h)) ⟨hK, hP, gws_A hD (fun k hk => Or.inl ⟨k, hk, rfl⟩), va_S.rf⟩ _ hl
theorem cB.end {sz : Nat} (hC : cB D cI cM a S (cA a sz) S.heap H locs s σ ρ) {t : State} (ht : t.heap = H) (hW : S.WarmedH t.vm) : cPost D cI cM a s σ ρ () t ∧ va_F (cA a sz) S t :=
  ⟨⟨va_K.moved hW.alike hC.1, by rw [ht]; exact hC.2.1⟩, hC.2.2.2.F ht⟩
theorem c_iret {sz : Nat} {v : Int32} (hexec : p.tables.exec = Jvm.exec) (hb : c.code = cc) (hr : meth.sig.returnType = some .int) (hlocks : meth.locks = false) (hC : cB D cI cM a S (cA a sz) S.heap H locs s σ ρ) (hdg : decode cc pc = .ok (.ireturn, 1)) (hv : v = r ∧ σ = σ2) :
    W p l e R S m args below meth c H locs cells slots (MQ below (va_Qi (fun r' (_ : Unit) => r' = r) (cPost D cI cM a s σ2 ρ) (cA a sz)) args S cells slots (cA a sz)) (F0 m pc ls [.int v]) := by
  obtain ⟨rfl, rfl⟩ := hv
  exact W.iret hexec hb hr (fun t ht hW => ⟨⟨v, (), rfl, rfl, (hC.end ht hW).1⟩, (hC.end ht hW).2⟩) hC.2.2.2.2.2 hdg hlocks
theorem c_zret {sz : Nat} {v : Int32} (hexec : p.tables.exec = Jvm.exec) (hb : c.code = cc) (hr : meth.sig.returnType = some .boolean) (hlocks : meth.locks = false) (hC : cB D cI cM a S (cA a sz) S.heap H locs s σ ρ) (hdg : decode cc pc = .ok (.ireturn, 1)) (h01 : v = 0 ∨ v = 1) (hv : v = r ∧ σ = σ2) :
    W p l e R S m args below meth c H locs cells slots (MQ below (va_Qi (fun r' (_ : Unit) => r' = r) (cPost D cI cM a s σ2 ρ) (cA a sz)) args S cells slots (cA a sz)) (F0 m pc ls [.int v]) := by
  obtain ⟨rfl, rfl⟩ := hv
  exact W.zret hexec hb hr (by rcases h01 with h | h <;> rw [h] <;> rfl) (fun t ht hW => ⟨⟨v, (), rfl, rfl, (hC.end ht hW).1⟩, (hC.end ht hW).2⟩) hC.2.2.2.2.2 hdg hlocks
theorem c_vret {sz : Nat} (hexec : p.tables.exec = Jvm.exec) (hb : c.code = cc) (hr : meth.sig.returnType = none) (hlocks : meth.locks = false) (hC : cB D cI cM a S (cA a sz) S.heap H locs s σ ρ) (hdg : decode cc pc = .ok (.return_, 1)) (hv : σ = σ2) :
    W p l e R S m args below meth c H locs cells slots (MQ below (va_Qv (fun (_ : Unit) => True) (cPost D cI cM a s σ2 ρ) (cA a sz)) args S cells slots (cA a sz)) (F0 m pc ls []) := by
  subst hv
  exact W.vret hexec hb hr (fun t ht hW => ⟨⟨(), rfl, trivial, (hC.end ht hW).1⟩, (hC.end ht hW).2⟩) hC.2.2.2.2.2 hdg hlocks
end CCALLS
