/-! what a throw of the class asks of the launch and of the heap -/
abbrev xNs : List String := ["java/lang/RuntimeException", "java/lang/Exception"]
def xS (k : Nat) (tx : String) (U : State) : Prop := ∃ sa, vk_R RX2 k tx sa U
def xN (U : State) : Prop := va_Nw (.declares (Bundle.initS "java/lang/RuntimeException")) U ∧ va_Nw (.declares (Bundle.initS "java/lang/Exception")) U ∧ va_Nw (.declares (Bundle.initS Bundle.tN)) U ∧ va_Nw (.castable "java/lang/IllegalArgumentException" "java/lang/IllegalArgumentException") U ∧ va_Nw (.castable "java/lang/IllegalStateException" "java/lang/IllegalStateException") U ∧ va_Nw (.castable "java/lang/IndexOutOfBoundsException" "java/lang/IndexOutOfBoundsException") U ∧ xS 25 "skill or strength" U ∧ xS 36 "all have joined who can" U ∧ xS 55 "member or pot" U ∧ xS 65 "dead, or the pot is full" U ∧ xS 70 "member" U ∧ xS 72 "coins" U ∧ xS 76 "the same, dead, or too few coins" U ∧ xS 78 "dead" U ∧ xS 90 "member or what" U ∧ xS 96 "week" U ∧ xS 98 "pot" U ∧ xS 103 "dues" U ∧ xS 107 "what" U ∧ xS 109 "many" U ∧ xS 111 "too few coins in the box" U ∧ xS 119 "pounds" U ∧ xS 124 "too few tops" U ∧ xS 126 "pot or what" U ∧ xS 135 "weeks" U
theorem xN.moved {s U : State} (hW : s.WarmedH U.vm) (h : xN s) : xN U := by
  obtain ⟨h0, h1, h2, h3, h4, h5, h6, h7, h8, h9, h10, h11, h12, h13, h14, h15, h16, h17, h18, h19, h20, h21, h22, h23, h24⟩ := h
  exact ⟨va_Nw.warmD hW h0, va_Nw.warmD hW h1, va_Nw.warmD hW h2, va_Nw.warmC hW h3, va_Nw.warmC hW h4, va_Nw.warmC hW h5, h6.imp fun _ q => vk_R.warm hW q, h7.imp fun _ q => vk_R.warm hW q, h8.imp fun _ q => vk_R.warm hW q, h9.imp fun _ q => vk_R.warm hW q, h10.imp fun _ q => vk_R.warm hW q, h11.imp fun _ q => vk_R.warm hW q, h12.imp fun _ q => vk_R.warm hW q, h13.imp fun _ q => vk_R.warm hW q, h14.imp fun _ q => vk_R.warm hW q, h15.imp fun _ q => vk_R.warm hW q, h16.imp fun _ q => vk_R.warm hW q, h17.imp fun _ q => vk_R.warm hW q, h18.imp fun _ q => vk_R.warm hW q, h19.imp fun _ q => vk_R.warm hW q, h20.imp fun _ q => vk_R.warm hW q, h21.imp fun _ q => vk_R.warm hW q, h22.imp fun _ q => vk_R.warm hW q, h23.imp fun _ q => vk_R.warm hW q, h24.imp fun _ q => vk_R.warm hW q⟩
theorem xN.calling {u : State} {g : JFrame} {mk : MethodId} {a : Array Value} (h : xN u) : xN (u.calling g mk a) := by
  obtain ⟨h0, h1, h2, h3, h4, h5, h6, h7, h8, h9, h10, h11, h12, h13, h14, h15, h16, h17, h18, h19, h20, h21, h22, h23, h24⟩ := h
  exact ⟨va_Nw.same rfl rfl h0, va_Nw.same rfl rfl h1, va_Nw.same rfl rfl h2, va_Nw.same rfl rfl h3, va_Nw.same rfl rfl h4, va_Nw.same rfl rfl h5, h6.imp fun _ q => vk_R.same rfl q, h7.imp fun _ q => vk_R.same rfl q, h8.imp fun _ q => vk_R.same rfl q, h9.imp fun _ q => vk_R.same rfl q, h10.imp fun _ q => vk_R.same rfl q, h11.imp fun _ q => vk_R.same rfl q, h12.imp fun _ q => vk_R.same rfl q, h13.imp fun _ q => vk_R.same rfl q, h14.imp fun _ q => vk_R.same rfl q, h15.imp fun _ q => vk_R.same rfl q, h16.imp fun _ q => vk_R.same rfl q, h17.imp fun _ q => vk_R.same rfl q, h18.imp fun _ q => vk_R.same rfl q, h19.imp fun _ q => vk_R.same rfl q, h20.imp fun _ q => vk_R.same rfl q, h21.imp fun _ q => vk_R.same rfl q, h22.imp fun _ q => vk_R.same rfl q, h23.imp fun _ q => vk_R.same rfl q, h24.imp fun _ q => vk_R.same rfl q⟩
theorem xN.s25 {U : State} (h : xN U) : xS 25 "skill or strength" U := h.2.2.2.2.2.2.1
theorem xN.s36 {U : State} (h : xN U) : xS 36 "all have joined who can" U := h.2.2.2.2.2.2.2.1
theorem xN.s55 {U : State} (h : xN U) : xS 55 "member or pot" U := h.2.2.2.2.2.2.2.2.1
theorem xN.s65 {U : State} (h : xN U) : xS 65 "dead, or the pot is full" U := h.2.2.2.2.2.2.2.2.2.1
theorem xN.s70 {U : State} (h : xN U) : xS 70 "member" U := h.2.2.2.2.2.2.2.2.2.2.1
theorem xN.s72 {U : State} (h : xN U) : xS 72 "coins" U := h.2.2.2.2.2.2.2.2.2.2.2.1
theorem xN.s76 {U : State} (h : xN U) : xS 76 "the same, dead, or too few coins" U := h.2.2.2.2.2.2.2.2.2.2.2.2.1
theorem xN.s78 {U : State} (h : xN U) : xS 78 "dead" U := h.2.2.2.2.2.2.2.2.2.2.2.2.2.1
theorem xN.s90 {U : State} (h : xN U) : xS 90 "member or what" U := h.2.2.2.2.2.2.2.2.2.2.2.2.2.2.1
theorem xN.s96 {U : State} (h : xN U) : xS 96 "week" U := h.2.2.2.2.2.2.2.2.2.2.2.2.2.2.2.1
theorem xN.s98 {U : State} (h : xN U) : xS 98 "pot" U := h.2.2.2.2.2.2.2.2.2.2.2.2.2.2.2.2.1
theorem xN.s103 {U : State} (h : xN U) : xS 103 "dues" U := h.2.2.2.2.2.2.2.2.2.2.2.2.2.2.2.2.2.1
theorem xN.s107 {U : State} (h : xN U) : xS 107 "what" U := h.2.2.2.2.2.2.2.2.2.2.2.2.2.2.2.2.2.2.1
theorem xN.s109 {U : State} (h : xN U) : xS 109 "many" U := h.2.2.2.2.2.2.2.2.2.2.2.2.2.2.2.2.2.2.2.1
theorem xN.s111 {U : State} (h : xN U) : xS 111 "too few coins in the box" U := h.2.2.2.2.2.2.2.2.2.2.2.2.2.2.2.2.2.2.2.2.1
theorem xN.s119 {U : State} (h : xN U) : xS 119 "pounds" U := h.2.2.2.2.2.2.2.2.2.2.2.2.2.2.2.2.2.2.2.2.2.1
theorem xN.s124 {U : State} (h : xN U) : xS 124 "too few tops" U := h.2.2.2.2.2.2.2.2.2.2.2.2.2.2.2.2.2.2.2.2.2.2.1
theorem xN.s126 {U : State} (h : xN U) : xS 126 "pot or what" U := h.2.2.2.2.2.2.2.2.2.2.2.2.2.2.2.2.2.2.2.2.2.2.2.1
theorem xN.s135 {U : State} (h : xN U) : xS 135 "weeks" U := h.2.2.2.2.2.2.2.2.2.2.2.2.2.2.2.2.2.2.2.2.2.2.2.2
def xZ (A : Nat → Prop) (U : State) (H : Heap) : Prop := vx_Zq Bundle.tN "UNASSIGNED_STACK" Bundle.steD A U H ∧ vx_Zq Bundle.tN "SUPPRESSED_SENTINEL" Bundle.listD A U H
theorem xhatA {args : Array Value} {S : State} (h1 : ∀ w ∈ (vx_atS RX2 27 "java/lang/IllegalArgumentException" xNs).filter goodWord, w.before args S = true) (hN : xN S) : ∀ w ∈ vx_atS RX2 27 "java/lang/IllegalArgumentException" xNs, w.before args S = true :=
  vx_hat (B := [Cond.declares (Bundle.initS "java/lang/RuntimeException"), .declares (Bundle.initS "java/lang/Exception"), .declares (Bundle.initS Bundle.tN), .castable "java/lang/IllegalArgumentException" "java/lang/IllegalArgumentException"]) h1 (by decide +kernel) (vx_c (va_Nw.use rfl hN.1) (vx_c (va_Nw.use rfl hN.2.1) (vx_c (va_Nw.use rfl hN.2.2.1) (vx_c (va_Nw.use rfl hN.2.2.2.1) vx_n))))
theorem xotA : ∀ w ∈ Cond.classLink RX2 23 "java/lang/IllegalArgumentException" :: Cond.initialized "java/lang/IllegalArgumentException" :: vx_atS RX2 27 "java/lang/IllegalArgumentException" xNs, vx_ot w = true := by decide +kernel
theorem xhatS {args : Array Value} {S : State} (h1 : ∀ w ∈ (vx_atS RX2 38 "java/lang/IllegalStateException" xNs).filter goodWord, w.before args S = true) (hN : xN S) : ∀ w ∈ vx_atS RX2 38 "java/lang/IllegalStateException" xNs, w.before args S = true :=
  vx_hat (B := [Cond.declares (Bundle.initS "java/lang/RuntimeException"), .declares (Bundle.initS "java/lang/Exception"), .declares (Bundle.initS Bundle.tN), .castable "java/lang/IllegalStateException" "java/lang/IllegalStateException"]) h1 (by decide +kernel) (vx_c (va_Nw.use rfl hN.1) (vx_c (va_Nw.use rfl hN.2.1) (vx_c (va_Nw.use rfl hN.2.2.1) (vx_c (va_Nw.use rfl hN.2.2.2.2.1) vx_n))))
theorem xotS : ∀ w ∈ Cond.classLink RX2 34 "java/lang/IllegalStateException" :: Cond.initialized "java/lang/IllegalStateException" :: vx_atS RX2 38 "java/lang/IllegalStateException" xNs, vx_ot w = true := by decide +kernel
theorem xhatI {args : Array Value} {S : State} (h1 : ∀ w ∈ (vx_atS RX2 57 "java/lang/IndexOutOfBoundsException" xNs).filter goodWord, w.before args S = true) (hN : xN S) : ∀ w ∈ vx_atS RX2 57 "java/lang/IndexOutOfBoundsException" xNs, w.before args S = true :=
  vx_hat (B := [Cond.declares (Bundle.initS "java/lang/RuntimeException"), .declares (Bundle.initS "java/lang/Exception"), .declares (Bundle.initS Bundle.tN), .castable "java/lang/IndexOutOfBoundsException" "java/lang/IndexOutOfBoundsException"]) h1 (by decide +kernel) (vx_c (va_Nw.use rfl hN.1) (vx_c (va_Nw.use rfl hN.2.1) (vx_c (va_Nw.use rfl hN.2.2.1) (vx_c (va_Nw.use rfl hN.2.2.2.2.2.1) vx_n))))
theorem xotI : ∀ w ∈ Cond.classLink RX2 53 "java/lang/IndexOutOfBoundsException" :: Cond.initialized "java/lang/IndexOutOfBoundsException" :: vx_atS RX2 57 "java/lang/IndexOutOfBoundsException" xNs, vx_ot w = true := by decide +kernel
def xPre (D : va_G) (cI cM : ClassId) (a : Nat → Nat) (sz s : Nat) (σ ρ : Nat → Nat → Int32) : State → Prop := fun U => cPre D cI cM a sz s σ ρ U ∧ xN U ∧ xZ (cA a sz) U U.heap
/-- y answers (r, σ2) or throws, as res says; where it throws nothing has changed -/
def xMi (l : Launch) (y : MethodName) (ws : List Cond) (rm : Room) (D : va_G) (cI cM : ClassId) (a : Nat → Nat) (av : List Value) (s : Nat) (σ ρ : Nat → Nat → Int32) (res : (Int32 × (Nat → Nat → Int32) × (Nat → Nat → Int32)) ⊕ String) : Prop :=
  ∀ sz, vx_Met l y ws rm (va_Pc av (xPre D cI cM a sz s σ ρ)) (va_Qi (fun r' u => res = .inl (r', u)) (fun u t => cPost D cI cM a s u.1 u.2 () t) (cA a sz)) (vx_X (fun _ : Unit => True) (fun E _ t => res = .inr E ∧ cPost D cI cM a s σ ρ () t) (cA a sz)) 1 6 (cA a sz)
def cMl2 (l : Launch) (y : MethodName) (ws : List Cond) (rm : Room) (D : va_G) (cI cM : ClassId) (a : Nat → Nat) (av : List Value) (s : Nat) (σ ρ : Nat → Nat → Int32) (r : Int64) (σ2 ρ2 : Nat → Nat → Int32) : Prop :=
  ∀ sz, Met l y ws rm (va_Pc av (cPre D cI cM a sz s σ ρ)) (va_Ql (fun r' (_ : Unit) => r' = r) (cPost D cI cM a s σ2 ρ2) (cA a sz)) 0 0 (cA a sz)
def cMi2 (l : Launch) (y : MethodName) (ws : List Cond) (rm : Room) (D : va_G) (cI cM : ClassId) (a : Nat → Nat) (av : List Value) (s : Nat) (σ ρ : Nat → Nat → Int32) (r : Int32) (σ2 ρ2 : Nat → Nat → Int32) : Prop :=
  ∀ sz, Met l y ws rm (va_Pc av (cPre D cI cM a sz s σ ρ)) (va_Qi (fun r' (_ : Unit) => r' = r) (cPost D cI cM a s σ2 ρ2) (cA a sz)) 0 0 (cA a sz)
theorem xPre.blind {D : va_G} {cI cM : ClassId} {a : Nat → Nat} {sz s : Nat} {σ ρ : Nat → Nat → Int32} {av : List Value} : FrameBlind (va_Pc av (xPre D cI cM a sz s σ ρ)) := fun v U g mk q => by
  obtain ⟨q0, q1, q2, q3, q4⟩ := q
  have h := cPre.blind (D := D) (cI := cI) (cM := cM) (a := a) (sz := sz) (s := s) (σ := σ) (ρ := ρ) (av := av) v U g mk ⟨q0, q1⟩
  exact ⟨h.1, h.2, q2.calling, vx_Zq.moved (u := U) (U := U.calling g mk _) (Vm.Alike.refl U.vm) q3, vx_Zq.moved (u := U) (U := U.calling g mk _) (Vm.Alike.refl U.vm) q4⟩
section XROWS
variable {p : Program} {l : Launch} {e : Env} {R : Room} {S : State} {m : MethodId} {args : Array Value} {below : List Frame} {meth : Method} {c : Code} {H : Heap} {locs : List Loc} {cells slots : Nat} {Q : State → Prop}
variable {cc bytes : ByteArray} {pc : Nat} {ls : Array Slot} {rest st0 As av : List Value} {D : va_G} {cI cM : ClassId} {a : Nat → Nat} {A : Nat → Prop} {H0 : Heap} {s : Nat} {σ ρ σ2 σ3 : Nat → Nat → Int32} {own : String} {index nL maxL n : Nat} {Ts wsy ws' : List Cond} {y : MethodName} {rm : Room} {ret : Option FieldType}
theorem x_head {sz mc ms : Nat} {Qc : Array Value → State → Outcome → State → Prop} {XC : String → State → State → Prop} (hy : plainName y.cls = true) (hw : wsy = Cond.code y cc maxL ret :: ws') (hle : (lg_sl av).length ≤ maxL)
    (body : ∀ (p : Program) (e : Env) (S : State) (m : MethodId) (below : List Frame) (meth : Method) (c : Code), p.tables.exec = Jvm.exec → c.code = cc → meth.sig.returnType = ret → c.maxLocals = maxL → S.vm.findClass y.cls = some m.cls → (∀ w ∈ wsy, w.before av.toArray S = true) → meth.locks = false → (∀ x ∈ c.exceptionTable.toList, False) → xN S → xZ (cA a sz) S S.heap → (∀ q, S.heap.size ≤ q → cA a sz q) →
      cB D cI cM a S (cA a sz) S.heap S.heap [] s σ ρ → ∀ ls : Array Slot, lv_has ls maxL (lv_args 0 av) → W p l e (headSpec wsy rm).room S m av.toArray below meth c S.heap [] 0 0 (vx_MQ below Qc XC av.toArray S mc ms (cA a sz)) (F0 m 0 ls [])) :
    vx_Met l y wsy rm (va_Pc av (xPre D cI cM a sz s σ ρ)) Qc XC mc ms (cA a sz) := by
  refine vx_ofW (cc := cc) (maxL := maxL) (ret := ret) hy hw ?_
  intro p e S m args below meth c s₁ B hml ht hv
  obtain ⟨rfl, ⟨hsz, hK, hP, hD⟩, hXN, hXZ⟩ := hv
  have hts := atoms_spec (ws := wsy) B.pre
  have hl := lv_entry av (n := maxL) hle
  rw [lg_entry_eq]
  exact body p e S m below meth c B.exec B.bytes B.returns hml (findClass_of_methodNamed B.named) hts B.notSynchronized ht hXN hXZ (fun q h => Or.inr (by rw [← hsz]; exact h)) ⟨hK, hP, gws_A hD (fun k hk => Or.inl ⟨k, hk, rfl⟩), va_S.rf⟩ _ hl
theorem x_thrown {sz : Nat} {cls : String} {F : (Int32 × (Nat → Nat → Int32) × (Nat → Nat → Int32)) ⊕ String} (hC : cB D cI cM a S (cA a sz) S.heap H locs s σ ρ) (he : F = .inr cls) {t : State} (hal : S.vm.Alike t.vm) (hz : H.size ≤ t.heap.size) (ho : ∀ q : Nat, q < H.size → t.heap[q]? = H[q]?) :
    vx_X (fun _ : Unit => True) (fun E _ t => F = .inr E ∧ cPost D cI cM a s σ ρ () t) (cA a sz) cls S t :=
  ⟨(), trivial, ⟨he, va_K.moved hal hC.1, va_P.kept hC.2.1 (fun k q hk => ho q.1 (hC.2.1 k q hk).lt)⟩, Nat.le_trans hC.2.2.2.1 hz, fun q h1 h2 => (ho q (Nat.lt_of_lt_of_le h1 hC.2.2.2.1)).trans (hC.2.2.2.2.1 q h1 h2)⟩
theorem x_iret {sz : Nat} {v : Int32} {F : (Int32 × (Nat → Nat → Int32) × (Nat → Nat → Int32)) ⊕ String} {XC : String → State → State → Prop} (hexec : p.tables.exec = Jvm.exec) (hb : c.code = cc) (hr : meth.sig.returnType = some .int) (hlocks : meth.locks = false) (hC : cB D cI cM a S (cA a sz) S.heap H locs s σ ρ) (hdg : decode cc pc = .ok (.ireturn, 1)) (he : F = .inl (v, σ, ρ)) :
    W p l e R S m args below meth c H locs 0 0 (vx_MQ below (va_Qi (fun r' u => F = .inl (r', u)) (fun u t => cPost D cI cM a s u.1 u.2 () t) (cA a sz)) XC args S 1 6 (cA a sz)) (F0 m pc ls [.int v]) := by
  refine vx_ret ?_
  refine W.widen (k := 1) (n := 6) (by omega) (by omega) ?_
  exact W.iret hexec hb hr (fun t ht hW => ⟨⟨v, (σ, ρ), rfl, he, (hC.end ht hW).1⟩, (hC.end ht hW).2⟩) hC.2.2.2.2.2 hdg hlocks
theorem c_lret2 {sz : Nat} {v r : Int64} (hexec : p.tables.exec = Jvm.exec) (hb : c.code = cc) (hr : meth.sig.returnType = some .long) (hlocks : meth.locks = false) (hC : cB D cI cM a S (cA a sz) S.heap H locs s σ ρ) (hdg : decode cc pc = .ok (.lreturn, 1)) (hv : v = r ∧ σ = σ2 ∧ ρ = σ3) :
    W p l e R S m args below meth c H locs cells slots (MQ below (va_Ql (fun r' (_ : Unit) => r' = r) (cPost D cI cM a s σ2 σ3) (cA a sz)) args S cells slots (cA a sz)) (F0 m pc ls [.long v]) := by
  obtain ⟨rfl, rfl, rfl⟩ := hv
  exact W.lret hexec hb hr (fun t ht hW => ⟨⟨v, (), rfl, rfl, (hC.end ht hW).1⟩, (hC.end ht hW).2⟩) hC.2.2.2.2.2 hdg hlocks
theorem c_iret2 {sz : Nat} {v r : Int32} (hexec : p.tables.exec = Jvm.exec) (hb : c.code = cc) (hr : meth.sig.returnType = some .int) (hlocks : meth.locks = false) (hC : cB D cI cM a S (cA a sz) S.heap H locs s σ ρ) (hdg : decode cc pc = .ok (.ireturn, 1)) (hv : v = r ∧ σ = σ2 ∧ ρ = σ3) :
    W p l e R S m args below meth c H locs cells slots (MQ below (va_Qi (fun r' (_ : Unit) => r' = r) (cPost D cI cM a s σ2 σ3) (cA a sz)) args S cells slots (cA a sz)) (F0 m pc ls [.int v]) := by
  obtain ⟨rfl, rfl, rfl⟩ := hv
  exact W.iret hexec hb hr (fun t ht hW => ⟨⟨v, (), rfl, rfl, (hC.end ht hW).1⟩, (hC.end ht hW).2⟩) hC.2.2.2.2.2 hdg hlocks
theorem c_iVi2 {r : Int32} {C : String} {b : Nat} (F : CallFix p m c cc nL S args Ts own) (hM : cMi2 l y wsy rm D cI cM a (.ref b :: As) s σ ρ r σ2 σ3) (hG : GoodIn Ts (wsV own index C y wsy)) (hw : wsy = Cond.code y bytes maxL ret :: ws') (hrc : rm.cells = 0) (hrs : rm.slots = 0)
    (hd : y.cls = C ∧ y.cls ≠ "java/lang/invoke/MethodHandle" ∧ y.cls ≠ "java/lang/invoke/VarHandle" ∧ (parseMethodDescriptor y.desc).map (fun d => d.parameters.length) = some n) (hRm : rm.frames + 1 ≤ R.frames ∧ 8 + (maxL + 11) + rm.locals ≤ R.locals)
    (hC : cB D cI cM a S A H0 H locs s σ ρ) (hA : ∀ q, H0.size ≤ q → A q) (hrecv : ∃ cell : Cell, H[b]? = some cell ∧ cell.vm.isStatics = false ∧ S.vm.findClass C = some cell.cls) (hn : As.length = n) (hsize : ls.size = nL) (hst : st0 = As.reverse ++ .ref b :: rest) (hW : (rest.map fun v => v.category).sum ≤ 8) (hdg : decode cc pc = .ok (.invokevirtual index, 3)) (hf : cells ≤ R.cells ∧ slots ≤ R.slots)
    (kk : ∀ (H : Heap) (locs : List Loc) (σ4 σ5 : Nat → Nat → Int32), σ2 = σ4 → σ3 = σ5 → cB D cI cM a S A H0 H locs s σ4 σ5 → W p l e R S m args below meth c H locs cells slots Q (F0 m (pc + 3) ls (.int r :: rest))) : W p l e R S m args below meth c H locs cells slots Q (F0 m pc ls st0) := by
  have hf' := hC.free hA
  refine va_calli (va_runV (As := As) (rest := rest) F (hM H.size) (cwV n F.2.2.2.2 hG hw hrc hrs hd hRm) ⟨cPre.blind, hrecv, hC.pre _⟩ rfl hn hsize hst (lv_room hW) hdg hf) hC.2.2.2 (fun q _ h => hf' q h) hf' (fun r' u t H1 locs1 ht hvm hw hB hz hk hS => ?_)
  subst hw
  obtain ⟨hK1, hP1⟩ := hB
  rw [ht] at hP1
  exact kk H1 locs1 _ _ rfl rfl ⟨hC.1, hP1, gws_D hC.2.2.1, hS⟩
end XROWS
