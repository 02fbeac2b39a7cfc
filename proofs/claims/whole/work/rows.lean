section
-- ===== PART A: goes FIRST, ahead of the names: the tables' words, and 'selects' of the private methods out of them =====
/-- a private method of a class that the tables say can be made, by its rows of tables_1 -/
def lw_okq (q : MethodName × Nat) : Prop := (q.1.cls ≠ "java/lang/invoke/MethodHandle" ∧ q.1.cls ≠ "java/lang/invoke/VarHandle") ∧ Cond.instantiable q.1.cls q.2 ∈ tables_1 ∧ Cond.privateMethod q.1 ∈ tables_1 ∧ Cond.instanceMethod q.1 ∈ tables_1
theorem lw_p0 : lw_okq (⟨"CombersSociety", "potFact", "(II)I"⟩, 2) := ⟨⟨by decide +kernel, by decide +kernel⟩, List.mem_of_getElem? (i := 15) (by decide +kernel), List.mem_of_getElem? (i := 279) (by decide +kernel), List.mem_of_getElem? (i := 280) (by decide +kernel)⟩
theorem lw_p1 : lw_okq (⟨"java/lang/Throwable", "fillInStackTrace", "(I)Ljava/lang/Throwable;"⟩, 6) := ⟨⟨by decide +kernel, by decide +kernel⟩, List.mem_of_getElem? (i := 354) (by decide +kernel), List.mem_of_getElem? (i := 352) (by decide +kernel), List.mem_of_getElem? (i := 353) (by decide +kernel)⟩
theorem lw_p2 : lw_okq (⟨"CombersSocietyModel", "no", "(I)I"⟩, 5) := ⟨⟨by decide +kernel, by decide +kernel⟩, List.mem_of_getElem? (i := 558) (by decide +kernel), List.mem_of_getElem? (i := 647) (by decide +kernel), List.mem_of_getElem? (i := 648) (by decide +kernel)⟩
theorem lw_p3 : lw_okq (⟨"CombersSocietyModel", "isMember", "(I)Z"⟩, 5) := ⟨⟨by decide +kernel, by decide +kernel⟩, List.mem_of_getElem? (i := 558) (by decide +kernel), List.mem_of_getElem? (i := 658) (by decide +kernel), List.mem_of_getElem? (i := 659) (by decide +kernel)⟩
theorem lw_p4 : lw_okq (⟨"CombersSocietyModel", "isDead", "(I)Z"⟩, 5) := ⟨⟨by decide +kernel, by decide +kernel⟩, List.mem_of_getElem? (i := 558) (by decide +kernel), List.mem_of_getElem? (i := 662) (by decide +kernel), List.mem_of_getElem? (i := 663) (by decide +kernel)⟩
theorem lw_p5 : lw_okq (⟨"CombersSocietyModel", "others", "(II)I"⟩, 5) := ⟨⟨by decide +kernel, by decide +kernel⟩, List.mem_of_getElem? (i := 558) (by decide +kernel), List.mem_of_getElem? (i := 670) (by decide +kernel), List.mem_of_getElem? (i := 671) (by decide +kernel)⟩
theorem lw_p6 : lw_okq (⟨"CombersSocietyModel", "potTold", "(II)I"⟩, 5) := ⟨⟨by decide +kernel, by decide +kernel⟩, List.mem_of_getElem? (i := 558) (by decide +kernel), List.mem_of_getElem? (i := 725) (by decide +kernel), List.mem_of_getElem? (i := 726) (by decide +kernel)⟩
theorem lw_p7 : lw_okq (⟨"CombersSocietyModel", "combed", "(I)I"⟩, 5) := ⟨⟨by decide +kernel, by decide +kernel⟩, List.mem_of_getElem? (i := 558) (by decide +kernel), List.mem_of_getElem? (i := 737) (by decide +kernel), List.mem_of_getElem? (i := 738) (by decide +kernel)⟩
theorem lw_p8 : lw_okq (⟨"CombersSocietyModel$State", "fever", "()V"⟩, 12) := ⟨⟨by decide +kernel, by decide +kernel⟩, List.mem_of_getElem? (i := 564) (by decide +kernel), List.mem_of_getElem? (i := 786) (by decide +kernel), List.mem_of_getElem? (i := 787) (by decide +kernel)⟩
theorem lw_p9 : lw_okq (⟨"CombersSocietyModel$State", "nurse", "(I)V"⟩, 12) := ⟨⟨by decide +kernel, by decide +kernel⟩, List.mem_of_getElem? (i := 564) (by decide +kernel), List.mem_of_getElem? (i := 790) (by decide +kernel), List.mem_of_getElem? (i := 791) (by decide +kernel)⟩
theorem lw_p10 : lw_okq (⟨"CombersSocietyModel$State", "heal", "(II)V"⟩, 12) := ⟨⟨by decide +kernel, by decide +kernel⟩, List.mem_of_getElem? (i := 564) (by decide +kernel), List.mem_of_getElem? (i := 794) (by decide +kernel), List.mem_of_getElem? (i := 795) (by decide +kernel)⟩
theorem lw_p11 : lw_okq (⟨"CombersSocietyModel$State", "pay", "(I)I"⟩, 12) := ⟨⟨by decide +kernel, by decide +kernel⟩, List.mem_of_getElem? (i := 564) (by decide +kernel), List.mem_of_getElem? (i := 798) (by decide +kernel), List.mem_of_getElem? (i := 799) (by decide +kernel)⟩
theorem lw_p12 : lw_okq (⟨"CombersSocietyModel$State", "payDues", "(I)V"⟩, 12) := ⟨⟨by decide +kernel, by decide +kernel⟩, List.mem_of_getElem? (i := 564) (by decide +kernel), List.mem_of_getElem? (i := 802) (by decide +kernel), List.mem_of_getElem? (i := 803) (by decide +kernel)⟩
theorem lw_p13 : lw_okq (⟨"CombersSocietyModel$State", "drink", "(I)V"⟩, 12) := ⟨⟨by decide +kernel, by decide +kernel⟩, List.mem_of_getElem? (i := 564) (by decide +kernel), List.mem_of_getElem? (i := 806) (by decide +kernel), List.mem_of_getElem? (i := 807) (by decide +kernel)⟩
theorem lw_p14 : lw_okq (⟨"CombersSocietyModel$State", "bury", "(I)V"⟩, 12) := ⟨⟨by decide +kernel, by decide +kernel⟩, List.mem_of_getElem? (i := 564) (by decide +kernel), List.mem_of_getElem? (i := 811) (by decide +kernel), List.mem_of_getElem? (i := 812) (by decide +kernel)⟩
def lw_privs_1 : List (MethodName × Nat) := [(⟨"CombersSociety", "potFact", "(II)I"⟩, 2), (⟨"java/lang/Throwable", "fillInStackTrace", "(I)Ljava/lang/Throwable;"⟩, 6), (⟨"CombersSocietyModel", "no", "(I)I"⟩, 5), (⟨"CombersSocietyModel", "isMember", "(I)Z"⟩, 5), (⟨"CombersSocietyModel", "isDead", "(I)Z"⟩, 5), (⟨"CombersSocietyModel", "others", "(II)I"⟩, 5), (⟨"CombersSocietyModel", "potTold", "(II)I"⟩, 5), (⟨"CombersSocietyModel", "combed", "(I)I"⟩, 5), (⟨"CombersSocietyModel$State", "fever", "()V"⟩, 12), (⟨"CombersSocietyModel$State", "nurse", "(I)V"⟩, 12), (⟨"CombersSocietyModel$State", "heal", "(II)V"⟩, 12), (⟨"CombersSocietyModel$State", "pay", "(I)I"⟩, 12), (⟨"CombersSocietyModel$State", "payDues", "(I)V"⟩, 12), (⟨"CombersSocietyModel$State", "drink", "(I)V"⟩, 12), (⟨"CombersSocietyModel$State", "bury", "(I)V"⟩, 12)]
theorem lw_r1 : ∀ q ∈ lw_privs_1, lw_okq q := List.forall_mem_cons.mpr ⟨lw_p0, List.forall_mem_cons.mpr ⟨lw_p1, List.forall_mem_cons.mpr ⟨lw_p2, List.forall_mem_cons.mpr ⟨lw_p3, List.forall_mem_cons.mpr ⟨lw_p4, List.forall_mem_cons.mpr ⟨lw_p5, List.forall_mem_cons.mpr ⟨lw_p6, List.forall_mem_cons.mpr ⟨lw_p7, List.forall_mem_cons.mpr ⟨lw_p8, List.forall_mem_cons.mpr ⟨lw_p9, List.forall_mem_cons.mpr ⟨lw_p10, List.forall_mem_cons.mpr ⟨lw_p11, List.forall_mem_cons.mpr ⟨lw_p12, List.forall_mem_cons.mpr ⟨lw_p13, List.forall_mem_cons.mpr ⟨lw_p14, fun _ h => absurd h List.not_mem_nil⟩⟩⟩⟩⟩⟩⟩⟩⟩⟩⟩⟩⟩⟩⟩
def lw_privs : List (MethodName × Nat) := lw_privs_1
def lw_tbl : List Cond := k2_sels lw_privs ++ tables_1
theorem lw_privs_ok : ∀ q ∈ lw_privs, lw_okq q := lw_r1
/-- the streams that the claim lets the run draw from -/
abbrev lw_cs : List Choice := [Jvm.Choice.named "NaN.bits"]
theorem lw_bits : nanBits ∈ lw_cs := by first | decide | exact List.mem_cons_self | simp [lw_cs, nanBits]
end
section
/-! ===== BEGIN words of one list among another's, by their places ===== -/
theorem goodIn_r {big : List Cond} (ws : List Cond) (ps : List Nat) (hp : ws = ps.filterMap (fun i => big[i]?)) (h : ws.all goodWord = true) : GoodIn big ws := by
  intro w hw
  have h1 := List.all_eq_true.mp h w hw
  rw [hp] at hw
  obtain ⟨i, -, hi⟩ := List.mem_filterMap.mp hw
  have hm : w ∈ big := by first | exact List.mem_of_getElem? hi | exact List.getElem?_mem hi
  exact ⟨hm, good_of_word h1⟩
theorem goodIn_app {big a b : List Cond} (ha : GoodIn big a) (hb : GoodIn big b) : GoodIn big (a ++ b) := fun w h => (List.mem_append.mp h).elim (ha w) (hb w)
theorem goodIn_ca {big a b : List Cond} {c : Cond} (ha : GoodIn big (c :: a)) (hb : GoodIn big b) : GoodIn big (c :: (a ++ b)) := fun w h => (List.mem_cons.mp h).elim (fun e => ha w (List.mem_cons.mpr (Or.inl e))) (fun h => (List.mem_append.mp h).elim (fun h => ha w (List.mem_cons.mpr (Or.inr h))) (hb w))
theorem goodIn_sub {big ws : List Cond} (hm : ∀ w ∈ ws, w ∈ big) (h : ws.all goodWord = true) : GoodIn big ws := fun w hw => ⟨hm w hw, good_of_word (List.all_eq_true.mp h w hw)⟩
/-! ===== END ===== -/

/-! ===== BEGIN exceptions that leave a method, and their catching by the caller (launches without stack traces) ===== -/
section VXA
/-! The laws vx_back, vx_callV, vx_callS, vx_callSW, vx_throw0, vx_throwS follow proofs of the library, with one case more: JvmDerived/Free/Laws.lean (Back.of_free), Shelf42/LK1.lean (callV, callS), Shelf/KitTraced.lean (throwNew0V, throwNewS). -/
/-- where a method has thrown q: the class by its name, the cell, what was written, the world -/
def vx_T (XC : String → State → State → Prop) (st : State) (q : Addr) (t : State) (mc ms : Nat) (free : Addr → Prop) : Prop :=
  ∃ (E : String) (ce : Cell) (L : List Loc), XC E st t ∧ t.heap[q]? = some ce ∧ ce.vm = .none ∧ st.vm.findClass E = some ce.cls ∧ st.WarmedH t.vm ∧ st.sameButNew ({ t with vm := st.vm } : State) L mc ms ∧ ∀ z ∈ L, free z.base
def vx_Q (Qc : Array Value → State → Outcome → State → Prop) (XC : String → State → State → Prop) (mc ms : Nat) (free : Addr → Prop) : Array Value → State → Outcome → State → Prop := fun a st o t =>
  (Qc a st o t ∧ ∃ L, FrameEnd st o t L mc ms ∧ ∀ q ∈ L, free q.base) ∨ ∃ q, o = .threw q ∧ vx_T XC st q t mc ms free
/-- a callee that returns or throws -/
def vx_Met (l : Launch) (y : MethodName) (ws : List Cond) (rm : Room) (Pc : Array Value → State → Prop) (Qc : Array Value → State → Outcome → State → Prop) (XC : String → State → State → Prop) (mc ms : Nat) (free : Addr → Prop) : Prop :=
  MetFree l y (headSpec ws rm) Pc (fun _ _ _ _ _ => True) (vx_Q Qc XC mc ms free)
def vx_Post (XC : String → State → State → Prop) (mc ms : Nat) (free : Addr → Prop) : Pt → Array Value → Addr → Pt → Prop := fun A a q B =>
  ∃ (g : JFrame) (mk : MethodId) (t : State) (L : List Loc) (E : String) (ce : Cell), B.U.heap = t.heap ∧ B.U.vm = t.vm ∧ XC E (A.U.calling g mk a) t ∧ t.heap[q]? = some ce ∧ ce.vm = .none ∧ A.U.vm.findClass E = some ce.cls ∧ B.locs = A.locs ++ L ∧ (∀ z ∈ L, free z.base) ∧ B.cells = A.cells + mc ∧ B.slots = A.slots + ms
def vx_Back (l : Launch) (R : Room) (p : Program) (e : Env) (below : List Frame) (s : State) (sargs : Array Value) (y : MethodName) (len W9 : Nat)
    (Pre : Pt → Array Value → Prop) (Post : Pt → Array Value → Option Value → Pt → Prop) (PostX : Pt → Array Value → Addr → Pt → Prop) : Prop :=
  ∀ (m : MethodId) (meth : Method) (c : Code) (A : Pt) (g : JFrame) (ig : Instr) (mk : MethodId) (a : Array Value),
    Stand p l e R s m sargs below meth c A.U A.locs A.cells A.slots → g.method = m → g.locals.size = c.maxLocals → decode c.code g.pc = .ok (ig, len) →
    2 * g.monitorRoom + (g.stack.map fun v => v.category).sum ≤ W9 → A.U.methodNamed? y = some mk → Pre A a →
    (∃ (v : Option Value) (B : Pt), Stand p l e R s m sargs below meth c B.U B.locs B.cells B.slots ∧ Post A a v B ∧
      Steps p.tables e below (doInvoke e (A.U.setTop g) [] mk a).1 (B.U.setTop { g with pc := g.pc + len, stack := v.toList ++ g.stack })) ∨
    (∃ (q : Addr) (B : Pt), Stand p l e R s m sargs below meth c B.U B.locs B.cells B.slots ∧ PostX A a q B ∧
      Steps p.tables e below (doInvoke e (A.U.setTop g) [] mk a).1 ((B.U.setTop g).pushFrame (.throwing q)))
section Payer
variable {l : Launch} {R : Room} {p : Program} {e : Env} {below : List Frame} {s : State} {sargs : Array Value} {y : MethodName} {len W9 : Nat}
theorem vx_back {ws : List Cond} {rm : Room} {Pc : Array Value → State → Prop} {Qc : Array Value → State → Outcome → State → Prop} {XC : String → State → State → Prop} {mc ms : Nat} {free : Addr → Prop} {bytes : ByteArray} {maxL : Nat} {ret : Option FieldType}
    (hM : vx_Met l y ws rm Pc Qc XC mc ms free) (hblind : FrameBlind Pc) (hrc : rm.cells = mc) (hrs : rm.slots = ms)
    (hframes : rm.frames + 1 ≤ R.frames) (hlocals : W9 + (maxL + 11) + rm.locals ≤ R.locals)
    (hws : ∀ w ∈ ws, ∀ a' U, s.WarmedH U.vm → w.before a' U = true) (hcode : Cond.code y bytes maxL ret ∈ ws) (hinit : ∀ a' U, s.WarmedH U.vm → (Cond.initialized y.cls).before a' U = true) :
    vx_Back l R p e below s sargs y len W9 (PreOf R mc ms Pc) (PostOf Qc mc ms free) (vx_Post XC mc ms free) := by
  intro m meth c A g ig mk a X hg hsize hdg hW hn hp
  have h1 : (headSpec ws rm).pre.before a A.U = true := atoms_intro fun w hw => hws w hw _ _ X.warmed
  have h2 : (Cond.code y bytes maxL ret).before a A.U = true := hws _ hcode _ _ X.warmed
  have h3 : (Cond.initialized y.cls).before a A.U = true := hinit _ _ X.warmed
  have h4 : A.cells + (headSpec ws rm).room.cells ≤ R.cells := by rw [show (headSpec ws rm).room.cells = mc from hrc]; exact hp.1
  have h5 : A.slots + (headSpec ws rm).room.slots ≤ R.slots := by rw [show (headSpec ws rm).room.slots = ms from hrs]; exact hp.2.1
  have hPc : Pc a (A.U.calling g mk a) := hblind _ _ _ _ hp.2.2
  obtain ⟨U, Ls, c0, s0⟩ := A
  dsimp only [Pt.U, Pt.locs, Pt.cells, Pt.slots] at h1 h2 h3 h4 h5 X hn hPc ⊢
  obtain ⟨methY, cY, hmY, hcY, -, hlY, -, -, -, -⟩ := Cond.code_spec hn h2
  obtain ⟨kY, hkY, -⟩ := className_of_methodNamed hn
  have hinitY : kY.init = .initialized := Cond.initialized_spec (findClass_of_methodNamed hn) hkY h3
  have h : At U g.method c below := by rw [hg]; exact X.here
  have hlocals9 : W9 + (maxL + 11) + (headSpec ws rm).room.locals ≤ R.locals := hlocals
  have happ : (headSpec ws rm).appliesLoose y e.platform (U.calling g mk a) = true :=
    Spec.appliesLoose_calling (g := g) h hdg hn hkY hinitY
      (X.room_calling (g := g) (R' := (headSpec ws rm).room) hsize hmY hcY hframes (by rw [hlY]; omega) h4 h5) h1
  obtain ⟨mid, hmid⟩ := h.above
  have hfr : (U.setTop g).frames = (.java g :: mid) ++ below := by rw [State.frames_setTop' g h.top, hmid]; rfl
  obtain ⟨o, s₂, hsteps, -, hend, hq⟩ := Steps.callFree hM p X.admits X.cas X.clock (acts := []) hfr happ hPc trivial
  have hq' : vx_Q Qc XC mc ms free a (U.calling g mk a) o s₂ := hq
  rw [State.frames_setTop' g h.top] at hend
  obtain ⟨g₀, hg0⟩ := Option.isSome_iff_exists.mp h.top
  obtain ⟨r, hr⟩ := State.topJava?_eq_some.mp hg0
  have hr' : (({ U with heap := s₂.heap, slotsUsed := s₂.slotsUsed } : State).setVm s₂.vm).frames = .java g₀ :: r := hr
  rcases hq' with ⟨hqc, L, hfe, hL⟩ | ⟨q, rfl, E, ce, L, hx, hce, hcv, hcl, hW₂, hsm, hL⟩
  · obtain ⟨⟨v, rfl⟩, hW₂, e2, q2, q3, q4, q5, q6⟩ := id hfe
    have e3 : s₂ = ({ (U.calling g mk a).setFrames s₂.frames with heap := s₂.heap, slotsUsed := s₂.slotsUsed } : State).setVm s₂.vm := by
      have : s₂ = ({ s₂ with vm := (U.calling g mk a).vm } : State).setVm s₂.vm := rfl
      rw [e2] at this
      exact this
    obtain ⟨c₂, i₂, len₂, hc₂, hd₂, hf₂⟩ := hend
    have hW' : U.WarmedH s₂.vm := hW₂
    have hcc : c₂ = c := by
      have h1 : s₂.code? g.method = U.code? g.method := by
        rw [State.code?_eq, State.code?_eq, hW'.alike.method?]
      exact Option.some.inj (hc₂.symm.trans (h1.trans h.code))
    subst hcc
    have hlen : len₂ = len := by rw [hdg] at hd₂; cases hd₂; rfl
    subst hlen
    have hs₂ : s₂ = (({ U with heap := s₂.heap, slotsUsed := s₂.slotsUsed } : State).setVm s₂.vm).setTop { g with pc := g.pc + len₂, stack := v.toList ++ g.stack } := by
      refine e3.trans ?_
      rw [hf₂, State.calling_eq h.top, State.setFrames_setFrames, State.setTop_of_frames _ hr', hr]
      rfl
    have hsame : U.sameButNew ({ U with heap := s₂.heap, slotsUsed := s₂.slotsUsed } : State) L mc ms := by
      refine ⟨?_, q2, q3, q4, q5, q6⟩
      obtain ⟨t, ht, -⟩ := State.frames_cons hr
      show ({ U with heap := s₂.heap, slotsUsed := s₂.slotsUsed } : State) = { U.setFrames U.frames with heap := s₂.heap, slotsUsed := s₂.slotsUsed }
      rw [State.setFrames_self ht]
    subst hg
    refine Or.inl ⟨v, ⟨(({ U with heap := s₂.heap, slotsUsed := s₂.slotsUsed } : State).setVm s₂.vm), Ls ++ L, c0 + mc, s0 + ms⟩,
      ⟨X.admits, X.cas, X.clock, X.frames, X.room, X.hears, X.method, X.code, (X.here.setHeapUsed s₂.heap s₂.slotsUsed).setVm hW'.alike, X.tail, State.WarmedH.trans X.warmed hW', X.limits, X.bytes, X.same.trans (hsame.setVm s.vm)⟩,
      ⟨g, mk, s₂, L, rfl, rfl, hqc, rfl, hL, rfl, rfl⟩, ?_⟩
    show Steps p.tables e below _ ((({ U with heap := s₂.heap, slotsUsed := s₂.slotsUsed } : State).setVm s₂.vm).setTop { g with pc := g.pc + len₂, stack := v.toList ++ g.stack })
    rw [← hs₂]
    exact hsteps
  · obtain ⟨e2, q2, q3, q4, q5, q6⟩ := id hsm
    have e3 : s₂ = ({ (U.calling g mk a).setFrames s₂.frames with heap := s₂.heap, slotsUsed := s₂.slotsUsed } : State).setVm s₂.vm := by
      have : s₂ = ({ s₂ with vm := (U.calling g mk a).vm } : State).setVm s₂.vm := rfl
      rw [e2] at this
      exact this
    have hf₂ : s₂.frames = .throwing q :: .java g :: U.frames.tail := hend
    have hW' : U.WarmedH s₂.vm := hW₂
    have hs₂ : s₂ = ((({ U with heap := s₂.heap, slotsUsed := s₂.slotsUsed } : State).setVm s₂.vm).setTop g).pushFrame (.throwing q) := by
      refine e3.trans ?_
      rw [hf₂, State.calling_eq h.top, State.setFrames_setFrames, State.pushFrame, State.frames_setTop _ hr', State.setTop_of_frames _ hr', State.setFrames_setFrames, hr]
      rfl
    have hsame : U.sameButNew ({ U with heap := s₂.heap, slotsUsed := s₂.slotsUsed } : State) L mc ms := by
      refine ⟨?_, q2, q3, q4, q5, q6⟩
      obtain ⟨t, ht, -⟩ := State.frames_cons hr
      show ({ U with heap := s₂.heap, slotsUsed := s₂.slotsUsed } : State) = { U.setFrames U.frames with heap := s₂.heap, slotsUsed := s₂.slotsUsed }
      rw [State.setFrames_self ht]
    subst hg
    refine Or.inr ⟨q, ⟨(({ U with heap := s₂.heap, slotsUsed := s₂.slotsUsed } : State).setVm s₂.vm), Ls ++ L, c0 + mc, s0 + ms⟩,
      ⟨X.admits, X.cas, X.clock, X.frames, X.room, X.hears, X.method, X.code, (X.here.setHeapUsed s₂.heap s₂.slotsUsed).setVm hW'.alike, X.tail, State.WarmedH.trans X.warmed hW', X.limits, X.bytes, X.same.trans (hsame.setVm s.vm)⟩,
      ⟨g, mk, s₂, L, E, ce, rfl, rfl, hx, hce, hcv, hcl, rfl, hL, rfl, rfl⟩, ?_⟩
    show Steps p.tables e below _ (((({ U with heap := s₂.heap, slotsUsed := s₂.slotsUsed } : State).setVm s₂.vm).setTop g).pushFrame (.throwing q))
    rw [← hs₂]
    exact hsteps
end Payer
section Calls
variable {p : Program} {l : Launch} {e : Env} {R : Room} {s : State} {m : MethodId} {args : Array Value} {below : List Frame} {meth : Method} {c : Code} {T : State} {locs : List Loc} {cells slots : Nat}
theorem vx_callV (X : Stand p l e R s m args below meth c T locs cells slots) (hexec : p.tables.exec = Jvm.exec) {own C : String} {index : Nat} {y : MethodName} {bytes : ByteArray} {maxL : Nat} {ret : Option FieldType}
    (hown : s.vm.findClass own = some m.cls) (hlink : (Cond.methodLink own index y).before args s = true) (hinst : (Cond.instanceMethod y).before args s = true) (hsel : (Cond.selects C y y).before args s = true)
    (hcode : (Cond.code y bytes maxL ret).before args s = true) (hy : y.cls ≠ "java/lang/invoke/MethodHandle" ∧ y.cls ≠ "java/lang/invoke/VarHandle")
    {W9 : Nat} {Pre : Pt → Array Value → Prop} {Post : Pt → Array Value → Option Value → Pt → Prop} {PostX : Pt → Array Value → Addr → Pt → Prop} (hK : vx_Back l R p e below s args y 3 W9 Pre Post PostX)
    {b : Addr} {cellB : Cell} (hcell : T.heap[b]? = some cellB) (hobj : cellB.vm.isStatics = false) (hcls : s.vm.findClass C = some cellB.cls)
    {g : JFrame} (hg : g.method = m) (hsize : g.locals.size = c.maxLocals) {argsL rest : List Value} (hlen : ∀ sig, parseMethodDescriptor y.desc = some sig → argsL.length = sig.parameters.length)
    (hstack : g.stack = argsL.reverse ++ .ref b :: rest) (hW : 2 * g.monitorRoom + (rest.map fun v => v.category).sum ≤ W9) (hdg : decode c.code g.pc = .ok (.invokevirtual index, 3))
    (hpre : ∀ vm₁, s.WarmedH vm₁ → Pre ⟨T.setVm vm₁, locs, cells, slots⟩ (Value.ref b :: argsL).toArray) :
    (∃ (v : Option Value) (vm₁ : Vm) (B : Pt), s.WarmedH vm₁ ∧ Stand p l e R s m args below meth c B.U B.locs B.cells B.slots ∧ Post ⟨T.setVm vm₁, locs, cells, slots⟩ (Value.ref b :: argsL).toArray v B ∧
      ∀ target, Steps p.tables e below (B.U.setTop { g with pc := g.pc + 3, stack := v.toList ++ rest }) target → Steps p.tables e below (T.setTop g) target) ∨
    (∃ (q : Addr) (vm₁ : Vm) (B : Pt), s.WarmedH vm₁ ∧ Stand p l e R s m args below meth c B.U B.locs B.cells B.slots ∧ PostX ⟨T.setVm vm₁, locs, cells, slots⟩ (Value.ref b :: argsL).toArray q B ∧
      Steps p.tables e below (T.setTop g) ((B.U.setTop { g with stack := rest }).pushFrame (.throwing q))) := by
  obtain ⟨mk, methM, hnamed, hmethM, hstM, habM⟩ := Cond.instanceMethod_spec hinst
  obtain ⟨methM', cM, hmethM', -, -, -, -, -, -, hsigM⟩ := Cond.code_spec hnamed hcode
  cases hmethM.symm.trans hmethM'
  obtain ⟨c2, r2, m2, q1, q2, q3, q4, kP, hkP, hkPi⟩ := Cond.selects_spec hsel
  cases hcls.symm.trans q1
  cases (State.methodFound?_of_named hnamed hy).symm.trans q2
  cases hnamed.symm.trans q3
  have hselP : selectMethod e.platform s.vm cellB.cls mk = .method mk := by rw [Launch.admits_selectMethod X.admits]; exact q4
  obtain ⟨vm₁, X₁, hstep₁⟩ := X.invokevirtual hexec hown hlink hnamed hmethM hstM hkP hkPi hy (a := b) (cell := cellB) hcell
    (fun z h => by rw [h] at hobj; cases hobj) hselP hmethM habM hkP hkPi (g := g) hg (argsL := argsL) (rest := rest) (hlen _ hsigM) hstack hdg
  rcases hK m meth c ⟨T.setVm vm₁, locs, cells, slots⟩ { g with stack := rest } (.invokevirtual index) mk (Value.ref b :: argsL).toArray X₁ hg hsize hdg hW (X₁.named hnamed) (hpre vm₁ X₁.warmed) with ⟨v, B, X', hpost, hsteps⟩ | ⟨q, B, X', hpost, hsteps⟩
  · exact Or.inl ⟨v, vm₁, B, X₁.warmed, X', hpost, fun target h => hstep₁ _ fun acts => by rw [doInvoke_state]; exact hsteps.trans h⟩
  · exact Or.inr ⟨q, vm₁, B, X₁.warmed, X', hpost, hstep₁ _ fun acts => by rw [doInvoke_state]; exact hsteps⟩
theorem vx_callS (X : Stand p l e R s m args below meth c T locs cells slots) (hexec : p.tables.exec = Jvm.exec) {own : String} {index : Nat} {y : MethodName} {bytes : ByteArray} {maxL : Nat} {ret : Option FieldType}
    (hown : s.vm.findClass own = some m.cls) (hlink : (Cond.methodLink own index y).before args s = true) (hstat : (Cond.static y).before args s = true) (hinit : (Cond.initialized y.cls).before args s = true)
    (hcode : (Cond.code y bytes maxL ret).before args s = true) (hy : y.cls ≠ "java/lang/invoke/MethodHandle" ∧ y.cls ≠ "java/lang/invoke/VarHandle")
    {W9 : Nat} {Pre : Pt → Array Value → Prop} {Post : Pt → Array Value → Option Value → Pt → Prop} {PostX : Pt → Array Value → Addr → Pt → Prop} (hK : vx_Back l R p e below s args y 3 W9 Pre Post PostX)
    {g : JFrame} (hg : g.method = m) (hsize : g.locals.size = c.maxLocals) {argsL rest : List Value} (hlen : ∀ sig, parseMethodDescriptor y.desc = some sig → argsL.length = sig.parameters.length)
    (hstack : g.stack = argsL.reverse ++ rest) (hW : 2 * g.monitorRoom + (rest.map fun v => v.category).sum ≤ W9) (hdg : decode c.code g.pc = .ok (.invokestatic index, 3))
    (hpre : ∀ vm₁, s.WarmedH vm₁ → Pre ⟨T.setVm vm₁, locs, cells, slots⟩ argsL.toArray) :
    (∃ (v : Option Value) (vm₁ : Vm) (B : Pt), s.WarmedH vm₁ ∧ Stand p l e R s m args below meth c B.U B.locs B.cells B.slots ∧ Post ⟨T.setVm vm₁, locs, cells, slots⟩ argsL.toArray v B ∧
      ∀ target, Steps p.tables e below (B.U.setTop { g with pc := g.pc + 3, stack := v.toList ++ rest }) target → Steps p.tables e below (T.setTop g) target) ∨
    (∃ (q : Addr) (vm₁ : Vm) (B : Pt), s.WarmedH vm₁ ∧ Stand p l e R s m args below meth c B.U B.locs B.cells B.slots ∧ PostX ⟨T.setVm vm₁, locs, cells, slots⟩ argsL.toArray q B ∧
      Steps p.tables e below (T.setTop g) ((B.U.setTop { g with stack := rest }).pushFrame (.throwing q))) := by
  obtain ⟨mk, hnamed⟩ := Cond.code_named hcode
  obtain ⟨methM, cM, hmethM, -, -, -, -, -, -, hsigM⟩ := Cond.code_spec hnamed hcode
  have hstatic : methM.isStatic = true := Cond.static_spec hnamed hmethM hstat
  obtain ⟨kP, hkP, -⟩ := className_of_methodNamed hnamed
  have hinitP : kP.init = .initialized := Cond.initialized_spec (findClass_of_methodNamed hnamed) hkP hinit
  obtain ⟨vm₁, X₁, hstep₁⟩ := X.invokestatic hexec hown hlink hnamed hmethM hstatic hkP hinitP hy (g := g) hg (argsL := argsL) (rest := rest) (hlen _ hsigM) hstack hdg
  rcases hK m meth c ⟨T.setVm vm₁, locs, cells, slots⟩ { g with stack := rest } (.invokestatic index) mk argsL.toArray X₁ hg hsize hdg hW (X₁.named hnamed) (hpre vm₁ X₁.warmed) with ⟨v, B, X', hpost, hsteps⟩ | ⟨q, B, X', hpost, hsteps⟩
  · exact Or.inl ⟨v, vm₁, B, X₁.warmed, X', hpost, fun target h => hstep₁ _ fun acts => by rw [doInvoke_state]; exact hsteps.trans h⟩
  · exact Or.inr ⟨q, vm₁, B, X₁.warmed, X', hpost, hstep₁ _ fun acts => by rw [doInvoke_state]; exact hsteps⟩
end Calls
theorem vx_cls {s : State} {T : State} {vm₁ : Vm} {E : String} {k : ClassId} (hW : s.WarmedH vm₁) (h : (T.setVm vm₁).vm.findClass E = some k) : s.vm.findClass E = some k := by
  have h1 : vm₁.findClass E = some k := h
  rw [hW.alike.findClass] at h1
  exact h1
/-- the method's frame g, with q thrown over it -/
def vx_W (p : Program) (l : Launch) (e : Env) (R : Room) (s : State) (m : MethodId) (args : Array Value) (below : List Frame) (meth : Method) (c : Code) (H : Heap) (locs : List Loc) (cells slots : Nat) (Q : State → Prop) (g : JFrame) (q : Addr) : Prop :=
  ∀ T : State, T.heap = H → Stand p l e R s m args below meth c T locs cells slots → ∃ t, Steps p.tables e below ((T.setTop g).pushFrame (.throwing q)) t ∧ Q t
def vx_Run (p : Program) (l : Launch) (e : Env) (R : Room) (s : State) (m : MethodId) (args : Array Value) (below : List Frame) (meth : Method) (c : Code) (H : Heap) (locs : List Loc) (cells slots mc ms : Nat) (g : JFrame) (rest : List Value) (Qa : State → Outcome → State → Prop) (XC : String → State → State → Prop) (free : Addr → Prop) : Prop :=
  ∀ T : State, T.heap = H → Stand p l e R s m args below meth c T locs cells slots →
    (∃ (v : Option Value) (st₀ t T' : State) (L : List Loc), st₀.heap = H ∧ Stand p l e R s m args below meth c T' (locs ++ L) (cells + mc) (slots + ms) ∧ (∀ q ∈ L, free q.base) ∧ T'.heap = t.heap ∧ T'.vm = t.vm ∧ Qa st₀ (.returned v) t ∧
      Goes p e below T g T' { g with pc := g.pc + 3, stack := v.toList ++ rest }) ∨
    (∃ (q : Addr) (st₀ t T' : State) (L : List Loc) (E : String) (ce : Cell), st₀.heap = H ∧ Stand p l e R s m args below meth c T' (locs ++ L) (cells + mc) (slots + ms) ∧ (∀ z ∈ L, free z.base) ∧ T'.heap = t.heap ∧ T'.vm = t.vm ∧ XC E st₀ t ∧ t.heap[q]? = some ce ∧ ce.vm = .none ∧ s.vm.findClass E = some ce.cls ∧
      Steps p.tables e below (T.setTop g) ((T'.setTop { g with stack := rest }).pushFrame (.throwing q)))
def vx_X {S : Type} (px : S → Prop) (B : String → S → State → Prop) (A : Nat → Prop) : String → State → State → Prop := fun E st t => ∃ u : S, px u ∧ B E u t ∧ va_F A st t
section Runs
variable {p : Program} {l : Launch} {e : Env} {R : Room} {s : State} {m : MethodId} {args : Array Value} {below : List Frame} {meth : Method} {c : Code} {H : Heap} {locs : List Loc} {cells slots : Nat}
variable {y : MethodName} {bytes cc : ByteArray} {maxL nL mc ms n index : Nat} {ret : Option FieldType} {ws : List Cond} {rm : Room} {Pc : Array Value → State → Prop} {Qc : Array Value → State → Outcome → State → Prop} {XC : String → State → State → Prop} {free : Addr → Prop} {Ts : List Cond} {own C : String} {b : Addr} {As rest : List Value} {g : JFrame}
theorem vx_callBack (cb : CallB R s args own index y bytes maxL ret ws rm mc ms n) (hM : vx_Met l y ws rm Pc Qc XC mc ms free) (hbl : FrameBlind Pc) : vx_Back l R p e below s args y 3 8 (PreOf R mc ms Pc) (PostOf Qc mc ms free) (vx_Post XC mc ms free) := by
  obtain ⟨hrc, hrs, hfr, hlo, hws, hcw, -, hini, -⟩ := cb
  exact vx_back (bytes := bytes) (maxL := maxL) (ret := ret) hM hbl hrc hrs hfr hlo hws hcw (fun a' U hW => word_at hW (Or.inl (by first | rfl | simp [Cond.onTables, Cond.keeps, Cond.steady])) hini)
theorem vx_runV (S : CallFix p m c cc nL s args Ts own) (hM : vx_Met l y ws rm Pc Qc XC mc ms free) (cw : CallW R s args own C index y bytes maxL ret ws rm mc ms n) (hp : PreV s H C b Pc As)
    (hg : g.method = m) (hn : As.length = n) (hsize : g.locals.size = nL) (hstack : g.stack = As.reverse ++ .ref b :: rest) (hW : 2 * g.monitorRoom + (rest.map fun v => v.category).sum ≤ 8) (hdg : decode cc g.pc = .ok (.invokevirtual index, 3)) (hf : cells + mc ≤ R.cells ∧ slots + ms ≤ R.slots) :
    vx_Run p l e R s m args below meth c H locs cells slots mc ms g rest (Qc (Value.ref b :: As).toArray) XC free := by
  have hK : vx_Back l R p e below s args y 3 8 (PreOf R mc ms Pc) (PostOf Qc mc ms free) (vx_Post XC mc ms free) := vx_callBack cw.1 hM hp.1
  obtain ⟨⟨-, -, -, -, -, -, hcode, -, hy, hlen, hl⟩, hin, hse⟩ := cw
  obtain ⟨hx, hb, hml, ho, -⟩ := S
  obtain ⟨-, ⟨cellB, hcB, hoB, hclB⟩, hPc⟩ := hp
  intro T hT X
  rcases vx_callV X hx (C := C) (bytes := bytes) (maxL := maxL) (ret := ret) ho hl hin hse hcode hy hK (by rw [hT]; exact hcB) hoB hclB hg (hsize.trans hml.symm) (argsL := As) (rest := rest) (fun sig h => hn.trans (hlen sig h)) hstack hW (by rw [hb]; exact hdg)
    (fun vm₁ hW₁ => ⟨hf.1, hf.2, hPc (T.setVm vm₁) hT hW₁⟩) with ⟨v, vm₁, ⟨U', l2, c2, s2⟩, hW₁, X', ⟨g', mk, t, L, e1, e2, hq, h1, hL, h2, h3⟩, st⟩ | ⟨q, vm₁, ⟨U', l2, c2, s2⟩, hW₁, X', ⟨g', mk, t, L, E, ce, e1, e2, hq, hce, hcv, hcl, h1, hL, h2, h3⟩, st⟩
  · dsimp only [Pt.U, Pt.locs, Pt.cells, Pt.slots] at X' e1 e2 h1 h2 h3 st
    subst h1; subst h2; subst h3
    exact Or.inl ⟨v, (T.setVm vm₁).calling g' mk (Value.ref b :: As).toArray, t, U', L, hT, X', hL, e1, e2, hq, st⟩
  · dsimp only [Pt.U, Pt.locs, Pt.cells, Pt.slots] at X' e1 e2 h1 h2 h3 st hcl
    subst h1; subst h2; subst h3
    exact Or.inr ⟨q, (T.setVm vm₁).calling g' mk (Value.ref b :: As).toArray, t, U', L, E, ce, hT, X', hL, e1, e2, hq, hce, hcv, vx_cls hW₁ hcl, st⟩
theorem vx_runS (S : CallFix p m c cc nL s args Ts own) (hM : vx_Met l y ws rm Pc Qc XC mc ms free) (cw : CallB R s args own index y bytes maxL ret ws rm mc ms n ∧ (Cond.static y).before args s = true) (hp : PreS s H Pc As)
    (hg : g.method = m) (hn : As.length = n) (hsize : g.locals.size = nL) (hstack : g.stack = As.reverse ++ rest) (hW : 2 * g.monitorRoom + (rest.map fun v => v.category).sum ≤ 8) (hdg : decode cc g.pc = .ok (.invokestatic index, 3)) (hf : cells + mc ≤ R.cells ∧ slots + ms ≤ R.slots) :
    vx_Run p l e R s m args below meth c H locs cells slots mc ms g rest (Qc As.toArray) XC free := by
  have hK : vx_Back l R p e below s args y 3 8 (PreOf R mc ms Pc) (PostOf Qc mc ms free) (vx_Post XC mc ms free) := vx_callBack cw.1 hM hp.1
  obtain ⟨⟨-, -, -, -, -, -, hcode, hini, hy, hlen, hl⟩, hstt⟩ := cw
  obtain ⟨hx, hb, hml, ho, -⟩ := S
  intro T hT X
  rcases vx_callS X hx (bytes := bytes) (maxL := maxL) (ret := ret) ho hl hstt hini hcode hy hK hg (hsize.trans hml.symm) (argsL := As) (rest := rest) (fun sig h => hn.trans (hlen sig h)) hstack hW (by rw [hb]; exact hdg)
    (fun vm₁ hW₁ => ⟨hf.1, hf.2, hp.2 (T.setVm vm₁) hT hW₁⟩) with ⟨v, vm₁, ⟨U', l2, c2, s2⟩, hW₁, X', ⟨g', mk, t, L, e1, e2, hq, h1, hL, h2, h3⟩, st⟩ | ⟨q, vm₁, ⟨U', l2, c2, s2⟩, hW₁, X', ⟨g', mk, t, L, E, ce, e1, e2, hq, hce, hcv, hcl, h1, hL, h2, h3⟩, st⟩
  · dsimp only [Pt.U, Pt.locs, Pt.cells, Pt.slots] at X' e1 e2 h1 h2 h3 st
    subst h1; subst h2; subst h3
    exact Or.inl ⟨v, (T.setVm vm₁).calling g' mk As.toArray, t, U', L, hT, X', hL, e1, e2, hq, st⟩
  · dsimp only [Pt.U, Pt.locs, Pt.cells, Pt.slots] at X' e1 e2 h1 h2 h3 st hcl
    subst h1; subst h2; subst h3
    exact Or.inr ⟨q, (T.setVm vm₁).calling g' mk As.toArray, t, U', L, E, ce, hT, X', hL, e1, e2, hq, hce, hcv, vx_cls hW₁ hcl, st⟩
end Runs
section Rows
variable {p : Program} {l : Launch} {e : Env} {R : Room} {s : State} {m : MethodId} {args : Array Value} {below : List Frame} {meth : Method} {c : Code} {H : Heap} {locs : List Loc} {cells slots : Nat} {Q : State → Prop}
variable {mc ms : Nat} {free : Addr → Prop} {A0 A1 : Nat → Prop} {H0 : Heap} {a : Array Value} {pc : Nat} {ls : Array Slot} {st0 rest : List Value}
theorem vx_keep {st₀ t T' : State} {L : List Loc} (h0 : st₀.heap = H) (e1 : T'.heap = t.heap) (hS : va_S A0 H0 H locs) (hA : ∀ q, q < H.size → A1 q → A0 q) (hf : ∀ q, free q → A0 q) (hL : ∀ q ∈ L, free q.base) (hF : va_F A1 st₀ t) :
    H.size ≤ T'.heap.size ∧ (∀ q : Nat, q < H.size → ¬ A1 q → T'.heap[q]? = H[q]?) ∧ va_S A0 H0 T'.heap (locs ++ L) := by
  obtain ⟨hz, hk⟩ := hF
  rw [h0] at hz hk
  exact ⟨by rw [e1]; exact hz, fun q h1 h2 => by rw [e1]; exact hk q h1 h2,
    ⟨Nat.le_trans hS.1 (by rw [e1]; exact hz), fun q h1 h2 => by rw [e1, hk q (Nat.lt_of_lt_of_le h1 hS.1) (fun z => h2 (hA q (Nat.lt_of_lt_of_le h1 hS.1) z))]; exact hS.2.1 q h1 h2, fun q hq => by
      rcases List.mem_append.mp hq with h | h
      · exact hS.2.2 q h
      · exact hf _ (hL q h)⟩⟩
theorem vx_calli {S SX : Type} {post : Int32 → S → Prop} {px : SX → Prop} {B : S → State → Prop} {BX : String → SX → State → Prop} {AX : Nat → Prop} (hr : vx_Run p l e R s m args below meth c H locs cells slots mc ms (F0 m pc ls st0) rest (va_Qi post B A1 a) (vx_X px BX AX) free) (hS : va_S A0 H0 H locs) (hA : ∀ q, q < H.size → A1 q → A0 q) (hf : ∀ q, free q → A0 q) (hAX : ∀ q, q < H.size → AX q → A0 q)
    (kx : ∀ (E : String) (ce : Cell) (q9 : Addr) (u : SX) (t : State) (H1 : Heap) (locs1 : List Loc), t.heap = H1 → s.vm.Alike t.vm → px u → BX E u t → H.size ≤ H1.size → (∀ q : Nat, q < H.size → ¬ AX q → H1[q]? = H[q]?) → va_S A0 H0 H1 locs1 → H1[q9]? = some ce → ce.vm = .none → s.vm.findClass E = some ce.cls → vx_W p l e R s m args below meth c H1 locs1 (cells + mc) (slots + ms) Q (F0 m pc ls rest) q9)
    (kk : ∀ (r : Int32) (u : S) (t : State) (H1 : Heap) (locs1 : List Loc), t.heap = H1 → s.vm.Alike t.vm → post r u → B u t → H.size ≤ H1.size → (∀ q : Nat, q < H.size → ¬ A1 q → H1[q]? = H[q]?) → va_S A0 H0 H1 locs1 → W p l e R s m args below meth c H1 locs1 (cells + mc) (slots + ms) Q (F0 m (pc + 3) ls (.int r :: rest))) : W p l e R s m args below meth c H locs cells slots Q (F0 m pc ls st0) := by
  intro T hT X
  rcases hr T hT X with ⟨v, st₀, t, T', L, h0, X', hL, e1, e2, ⟨⟨r, u, hv, hp, hb⟩, hF⟩, st⟩ | ⟨q, st₀, t, T', L, E, ce, h0, X', hL, e1, e2, ⟨u, hp, hb, hF⟩, hce, hcv, hcl, st⟩
  · cases hv
    obtain ⟨k1, k2, k3⟩ := vx_keep h0 e1 hS hA hf hL hF
    obtain ⟨t2, a1, b1⟩ := kk r u t T'.heap (locs ++ L) e1.symm (by rw [← e2]; exact X'.warmed.alike) hp hb k1 k2 k3 T' rfl X'
    exact ⟨t2, st t2 a1, b1⟩
  · obtain ⟨k1, k2, k3⟩ := vx_keep h0 e1 hS hAX hf hL hF
    obtain ⟨t2, a1, b1⟩ := kx E ce q u t T'.heap (locs ++ L) e1.symm (by rw [← e2]; exact X'.warmed.alike) hp hb k1 k2 k3 (by rw [e1]; exact hce) hcv hcl T' rfl X'
    exact ⟨t2, st.trans a1, b1⟩
theorem vx_calll {S SX : Type} {post : Int64 → S → Prop} {px : SX → Prop} {B : S → State → Prop} {BX : String → SX → State → Prop} {AX : Nat → Prop} (hr : vx_Run p l e R s m args below meth c H locs cells slots mc ms (F0 m pc ls st0) rest (va_Ql post B A1 a) (vx_X px BX AX) free) (hS : va_S A0 H0 H locs) (hA : ∀ q, q < H.size → A1 q → A0 q) (hf : ∀ q, free q → A0 q) (hAX : ∀ q, q < H.size → AX q → A0 q)
    (kx : ∀ (E : String) (ce : Cell) (q9 : Addr) (u : SX) (t : State) (H1 : Heap) (locs1 : List Loc), t.heap = H1 → s.vm.Alike t.vm → px u → BX E u t → H.size ≤ H1.size → (∀ q : Nat, q < H.size → ¬ AX q → H1[q]? = H[q]?) → va_S A0 H0 H1 locs1 → H1[q9]? = some ce → ce.vm = .none → s.vm.findClass E = some ce.cls → vx_W p l e R s m args below meth c H1 locs1 (cells + mc) (slots + ms) Q (F0 m pc ls rest) q9)
    (kk : ∀ (r : Int64) (u : S) (t : State) (H1 : Heap) (locs1 : List Loc), t.heap = H1 → s.vm.Alike t.vm → post r u → B u t → H.size ≤ H1.size → (∀ q : Nat, q < H.size → ¬ A1 q → H1[q]? = H[q]?) → va_S A0 H0 H1 locs1 → W p l e R s m args below meth c H1 locs1 (cells + mc) (slots + ms) Q (F0 m (pc + 3) ls (.long r :: rest))) : W p l e R s m args below meth c H locs cells slots Q (F0 m pc ls st0) := by
  intro T hT X
  rcases hr T hT X with ⟨v, st₀, t, T', L, h0, X', hL, e1, e2, ⟨⟨r, u, hv, hp, hb⟩, hF⟩, st⟩ | ⟨q, st₀, t, T', L, E, ce, h0, X', hL, e1, e2, ⟨u, hp, hb, hF⟩, hce, hcv, hcl, st⟩
  · cases hv
    obtain ⟨k1, k2, k3⟩ := vx_keep h0 e1 hS hA hf hL hF
    obtain ⟨t2, a1, b1⟩ := kk r u t T'.heap (locs ++ L) e1.symm (by rw [← e2]; exact X'.warmed.alike) hp hb k1 k2 k3 T' rfl X'
    exact ⟨t2, st t2 a1, b1⟩
  · obtain ⟨k1, k2, k3⟩ := vx_keep h0 e1 hS hAX hf hL hF
    obtain ⟨t2, a1, b1⟩ := kx E ce q u t T'.heap (locs ++ L) e1.symm (by rw [← e2]; exact X'.warmed.alike) hp hb k1 k2 k3 (by rw [e1]; exact hce) hcv hcl T' rfl X'
    exact ⟨t2, st.trans a1, b1⟩
theorem vx_callf {S SX : Type} {post : UInt32 → S → Prop} {px : SX → Prop} {B : S → State → Prop} {BX : String → SX → State → Prop} {AX : Nat → Prop} (hr : vx_Run p l e R s m args below meth c H locs cells slots mc ms (F0 m pc ls st0) rest (va_Qf post B A1 a) (vx_X px BX AX) free) (hS : va_S A0 H0 H locs) (hA : ∀ q, q < H.size → A1 q → A0 q) (hf : ∀ q, free q → A0 q) (hAX : ∀ q, q < H.size → AX q → A0 q)
    (kx : ∀ (E : String) (ce : Cell) (q9 : Addr) (u : SX) (t : State) (H1 : Heap) (locs1 : List Loc), t.heap = H1 → s.vm.Alike t.vm → px u → BX E u t → H.size ≤ H1.size → (∀ q : Nat, q < H.size → ¬ AX q → H1[q]? = H[q]?) → va_S A0 H0 H1 locs1 → H1[q9]? = some ce → ce.vm = .none → s.vm.findClass E = some ce.cls → vx_W p l e R s m args below meth c H1 locs1 (cells + mc) (slots + ms) Q (F0 m pc ls rest) q9)
    (kk : ∀ (r : UInt32) (u : S) (t : State) (H1 : Heap) (locs1 : List Loc), t.heap = H1 → s.vm.Alike t.vm → post r u → B u t → H.size ≤ H1.size → (∀ q : Nat, q < H.size → ¬ A1 q → H1[q]? = H[q]?) → va_S A0 H0 H1 locs1 → W p l e R s m args below meth c H1 locs1 (cells + mc) (slots + ms) Q (F0 m (pc + 3) ls (.float r :: rest))) : W p l e R s m args below meth c H locs cells slots Q (F0 m pc ls st0) := by
  intro T hT X
  rcases hr T hT X with ⟨v, st₀, t, T', L, h0, X', hL, e1, e2, ⟨⟨r, u, hv, hp, hb⟩, hF⟩, st⟩ | ⟨q, st₀, t, T', L, E, ce, h0, X', hL, e1, e2, ⟨u, hp, hb, hF⟩, hce, hcv, hcl, st⟩
  · cases hv
    obtain ⟨k1, k2, k3⟩ := vx_keep h0 e1 hS hA hf hL hF
    obtain ⟨t2, a1, b1⟩ := kk r u t T'.heap (locs ++ L) e1.symm (by rw [← e2]; exact X'.warmed.alike) hp hb k1 k2 k3 T' rfl X'
    exact ⟨t2, st t2 a1, b1⟩
  · obtain ⟨k1, k2, k3⟩ := vx_keep h0 e1 hS hAX hf hL hF
    obtain ⟨t2, a1, b1⟩ := kx E ce q u t T'.heap (locs ++ L) e1.symm (by rw [← e2]; exact X'.warmed.alike) hp hb k1 k2 k3 (by rw [e1]; exact hce) hcv hcl T' rfl X'
    exact ⟨t2, st.trans a1, b1⟩
theorem vx_calld {S SX : Type} {post : UInt64 → S → Prop} {px : SX → Prop} {B : S → State → Prop} {BX : String → SX → State → Prop} {AX : Nat → Prop} (hr : vx_Run p l e R s m args below meth c H locs cells slots mc ms (F0 m pc ls st0) rest (va_Qd post B A1 a) (vx_X px BX AX) free) (hS : va_S A0 H0 H locs) (hA : ∀ q, q < H.size → A1 q → A0 q) (hf : ∀ q, free q → A0 q) (hAX : ∀ q, q < H.size → AX q → A0 q)
    (kx : ∀ (E : String) (ce : Cell) (q9 : Addr) (u : SX) (t : State) (H1 : Heap) (locs1 : List Loc), t.heap = H1 → s.vm.Alike t.vm → px u → BX E u t → H.size ≤ H1.size → (∀ q : Nat, q < H.size → ¬ AX q → H1[q]? = H[q]?) → va_S A0 H0 H1 locs1 → H1[q9]? = some ce → ce.vm = .none → s.vm.findClass E = some ce.cls → vx_W p l e R s m args below meth c H1 locs1 (cells + mc) (slots + ms) Q (F0 m pc ls rest) q9)
    (kk : ∀ (r : UInt64) (u : S) (t : State) (H1 : Heap) (locs1 : List Loc), t.heap = H1 → s.vm.Alike t.vm → post r u → B u t → H.size ≤ H1.size → (∀ q : Nat, q < H.size → ¬ A1 q → H1[q]? = H[q]?) → va_S A0 H0 H1 locs1 → W p l e R s m args below meth c H1 locs1 (cells + mc) (slots + ms) Q (F0 m (pc + 3) ls (.double r :: rest))) : W p l e R s m args below meth c H locs cells slots Q (F0 m pc ls st0) := by
  intro T hT X
  rcases hr T hT X with ⟨v, st₀, t, T', L, h0, X', hL, e1, e2, ⟨⟨r, u, hv, hp, hb⟩, hF⟩, st⟩ | ⟨q, st₀, t, T', L, E, ce, h0, X', hL, e1, e2, ⟨u, hp, hb, hF⟩, hce, hcv, hcl, st⟩
  · cases hv
    obtain ⟨k1, k2, k3⟩ := vx_keep h0 e1 hS hA hf hL hF
    obtain ⟨t2, a1, b1⟩ := kk r u t T'.heap (locs ++ L) e1.symm (by rw [← e2]; exact X'.warmed.alike) hp hb k1 k2 k3 T' rfl X'
    exact ⟨t2, st t2 a1, b1⟩
  · obtain ⟨k1, k2, k3⟩ := vx_keep h0 e1 hS hAX hf hL hF
    obtain ⟨t2, a1, b1⟩ := kx E ce q u t T'.heap (locs ++ L) e1.symm (by rw [← e2]; exact X'.warmed.alike) hp hb k1 k2 k3 (by rw [e1]; exact hce) hcv hcl T' rfl X'
    exact ⟨t2, st.trans a1, b1⟩
theorem vx_callv {S SX : Type} {post : S → Prop} {px : SX → Prop} {B : S → State → Prop} {BX : String → SX → State → Prop} {AX : Nat → Prop} (hr : vx_Run p l e R s m args below meth c H locs cells slots mc ms (F0 m pc ls st0) rest (va_Qv post B A1 a) (vx_X px BX AX) free) (hS : va_S A0 H0 H locs) (hA : ∀ q, q < H.size → A1 q → A0 q) (hf : ∀ q, free q → A0 q) (hAX : ∀ q, q < H.size → AX q → A0 q)
    (kx : ∀ (E : String) (ce : Cell) (q9 : Addr) (u : SX) (t : State) (H1 : Heap) (locs1 : List Loc), t.heap = H1 → s.vm.Alike t.vm → px u → BX E u t → H.size ≤ H1.size → (∀ q : Nat, q < H.size → ¬ AX q → H1[q]? = H[q]?) → va_S A0 H0 H1 locs1 → H1[q9]? = some ce → ce.vm = .none → s.vm.findClass E = some ce.cls → vx_W p l e R s m args below meth c H1 locs1 (cells + mc) (slots + ms) Q (F0 m pc ls rest) q9)
    (kk : ∀ (u : S) (t : State) (H1 : Heap) (locs1 : List Loc), t.heap = H1 → s.vm.Alike t.vm → post u → B u t → H.size ≤ H1.size → (∀ q : Nat, q < H.size → ¬ A1 q → H1[q]? = H[q]?) → va_S A0 H0 H1 locs1 → W p l e R s m args below meth c H1 locs1 (cells + mc) (slots + ms) Q (F0 m (pc + 3) ls (rest))) : W p l e R s m args below meth c H locs cells slots Q (F0 m pc ls st0) := by
  intro T hT X
  rcases hr T hT X with ⟨v, st₀, t, T', L, h0, X', hL, e1, e2, ⟨⟨u, hv, hp, hb⟩, hF⟩, st⟩ | ⟨q, st₀, t, T', L, E, ce, h0, X', hL, e1, e2, ⟨u, hp, hb, hF⟩, hce, hcv, hcl, st⟩
  · cases hv
    obtain ⟨k1, k2, k3⟩ := vx_keep h0 e1 hS hA hf hL hF
    obtain ⟨t2, a1, b1⟩ := kk u t T'.heap (locs ++ L) e1.symm (by rw [← e2]; exact X'.warmed.alike) hp hb k1 k2 k3 T' rfl X'
    exact ⟨t2, st t2 a1, b1⟩
  · obtain ⟨k1, k2, k3⟩ := vx_keep h0 e1 hS hAX hf hL hF
    obtain ⟨t2, a1, b1⟩ := kx E ce q u t T'.heap (locs ++ L) e1.symm (by rw [← e2]; exact X'.warmed.alike) hp hb k1 k2 k3 (by rw [e1]; exact hce) hcv hcl T' rfl X'
    exact ⟨t2, st.trans a1, b1⟩
/-- caught by the row x of this method's table; the rows ahead don't take it -/
theorem vx_catch {own name : String} {E : String} {ce : Cell} {q : Addr} (hown : s.vm.findClass own = some m.cls) (pre : List ExceptionTableEntry) (x : ExceptionTableEntry) (suf : List ExceptionTableEntry) (hsplit : c.exceptionTable.toList = pre ++ x :: suf)
    (hpass : ∀ z ∈ pre, covers z pc = false ∨ (z.catchType ≠ 0 ∧ ∃ nm : String, (Cond.classLink own z.catchType nm).before args s = true ∧ va_Nc E nm s)) (hx : covers x pc = true) (h0 : x.catchType ≠ 0)
    (hlink : (Cond.classLink own x.catchType name).before args s = true) (hcast : (Cond.castable E name).before args s = true) (hcell : H[q]? = some ce) (hv : ce.vm = .none) (hcl : s.vm.findClass E = some ce.cls)
    (kk : W p l e R s m args below meth c H locs cells slots Q (F0 m x.handlerPc ls [.ref q])) : vx_W p l e R s m args below meth c H locs cells slots Q (F0 m pc ls rest) q := by
  intro T hT X
  have hpl : e.platform.magicAccessors = ({} : Platform).magicAccessors := by rw [X.admits.platform]
  obtain ⟨c3, c4, hc3, hc4, hasg⟩ := Cond.castable_spec hcast
  cases Option.some.inj (hc3.symm.trans hcl)
  obtain ⟨c5, hc5, hcl5⟩ := Cond.classLink_spec hown hlink e.platform hpl
  cases Option.some.inj (hc4.symm.trans hc5)
  obtain ⟨vm', X', st⟩ := X.thenCaughtThrough q (g := F0 m pc ls rest) rfl (Steps.refl _) (by rw [hT]; exact hcell) (by rw [hv]; rfl) (by obtain ⟨k9, h9, -⟩ := Vm.findClass_spec hcl; exact ⟨k9, h9⟩) pre x suf hsplit
    (fun z hz => by
      rcases hpass z hz with h | ⟨hz0, nm, hl1, hn1⟩
      · exact Or.inl h
      · obtain ⟨c6, hc6, hcl6⟩ := Cond.classLink_spec hown hl1 e.platform hpl
        obtain ⟨a8, b8, h1, h2, h3⟩ := hn1
        cases Option.some.inj (h1.symm.trans hcl)
        cases Option.some.inj (h2.symm.trans hc6)
        exact Or.inr ⟨hz0, _, hcl6, h3⟩) hx (Or.inr ⟨h0, c4, hcl5, hasg⟩)
  obtain ⟨t, a1, b1⟩ := kk (T.setVm vm') hT X'
  exact ⟨t, st.trans a1, b1⟩
end Rows
section Ends
variable {p : Program} {l : Launch} {e : Env} {R : Room} {s : State} {m : MethodId} {args : Array Value} {below : List Frame} {meth : Method} {c : Code} {H : Heap} {locs : List Loc} {cells slots : Nat} {Q : State → Prop}
variable {mc ms : Nat} {free : Addr → Prop} {A0 A1 : Nat → Prop} {H0 : Heap} {a : Array Value} {ls : Array Slot} {st0 rest : List Value}
variable {Qc : Array Value → State → Outcome → State → Prop} {XC : String → State → State → Prop}
/-- what a body that may throw owes at its end -/
def vx_MQ (below : List Frame) (Qc : Array Value → State → Outcome → State → Prop) (XC : String → State → State → Prop) (a : Array Value) (s : State) (mc ms : Nat) (free : Addr → Prop) : State → Prop := fun t =>
  ∃ o, t.status = .running ∧ Ended t below o ∧ vx_Q Qc XC mc ms free a s o t
theorem vx_ret {g : JFrame} {mc ms : Nat} (k : W p l e R s m args below meth c H locs cells slots (MQ below Qc args s mc ms free) g) : W p l e R s m args below meth c H locs cells slots (vx_MQ below Qc XC args s mc ms free) g := by
  intro T hT X
  obtain ⟨t, a1, o, b1, b2, b3, b4⟩ := k T hT X
  exact ⟨t, a1, o, b1, b2, Or.inl ⟨b3, b4⟩⟩
/-- not caught here: it goes on to the caller -/
theorem vx_widen {g : JFrame} {q : Addr} {k n : Nat} (h1 : cells ≤ k) (h2 : slots ≤ n) (kk : vx_W p l e R s m args below meth c H locs k n Q g q) : vx_W p l e R s m args below meth c H locs cells slots Q g q := fun T hT X => kk T hT (stand_widen X h1 h2)
theorem vx_out {pc : Nat} {E : String} {ce : Cell} {q : Addr} {mc ms : Nat} (hout : ∀ x ∈ c.exceptionTable.toList, covers x pc = false) (hlocks : meth.locks = false) (hcell : H[q]? = some ce) (hv : ce.vm = .none) (hcl : s.vm.findClass E = some ce.cls)
    (hx : ∀ t : State, t.heap = H → s.vm.Alike t.vm → XC E s t) (hf : ∀ z ∈ locs, free z.base) (hc : cells ≤ mc) (hs : slots ≤ ms) :
    vx_W p l e R s m args below meth c H locs cells slots (vx_MQ below Qc XC args s mc ms free) (F0 m pc ls rest) q := by
  intro T hT X
  obtain ⟨st1, hrun, hend, hW, hsm⟩ := X.leaveThrown q (g := F0 m pc ls rest) rfl rfl rfl hout hlocks
  have hcell9 : (T.setFrames (.throwing q :: below)).heap[q]? = some ce := by
    show T.heap[q]? = some ce
    rw [hT]; exact hcell
  exact ⟨_, st1, .threw q, hrun, hend, Or.inr ⟨q, rfl, E, ce, locs, hx _ hT hW.alike, hcell9, hv, hcl, hW, hsm.mono hc hs, hf⟩⟩
theorem vx_frame {U : State} {k n : Nat} (h : s.sameButNew ({ U with vm := s.vm } : State) locs k n) : s.heap.size ≤ U.heap.size ∧ ∀ q : Nat, q < s.heap.size → (∀ z ∈ locs, z.base ≠ q) → U.heap[q]? = s.heap[q]? := by
  obtain ⟨-, h2, -, -, -, h6⟩ := h
  refine ⟨h2, fun q hq hz => ?_⟩
  obtain ⟨c9, e1, e2, e3, e4⟩ := h6 q _ (Array.getElem?_eq_getElem hq)
  have hs : c9.slots = (s.heap[q]).slots := Array.ext_getElem? fun i => e4 i fun hm => hz _ hm rfl
  have h9 : c9 = s.heap[q] := by
    rw [hs] at e2
    exact e2
  have e5 : U.heap[q]? = some c9 := e1
  rw [e5, h9, Array.getElem?_eq_getElem hq]
/-- the words of a throw but the four that speak of the heap -/
def vx_no (w : Cond) : Bool := decide (w ≠ .isRef (.static Bundle.tN "UNASSIGNED_STACK" Bundle.steD)) && decide (w ≠ .isRef (.static Bundle.tN "SUPPRESSED_SENTINEL" Bundle.listD)) && decide (w ≠ .laysStatic Bundle.tN "UNASSIGNED_STACK" Bundle.steD) && decide (w ≠ .laysStatic Bundle.tN "SUPPRESSED_SENTINEL" Bundle.listD)
def vx_at0 (own : String) (ic : Nat) (X : String) (names : List String) : List Cond := (Bundle.ownAtoms0 own ic X names).filter vx_no
def vx_atS (own : String) (ic : Nat) (X : String) (names : List String) : List Cond := (Bundle.ownAtoms own ic X names).filter vx_no
/-- a word that the tables alone decide, or a good one -/
def vx_ot (w : Cond) : Bool := w.onTables || goodWord w
theorem vx_ot_at {args a' : Array Value} {s U : State} {w : Cond} (hW : s.WarmedH U.vm) (hvm : s.vm = U.vm) (hg : vx_ot w = true) (h : w.before args s = true) : w.before a' U = true := by
  simp only [vx_ot, Bool.or_eq_true] at hg
  rcases hg with hg | hg
  · exact va_tabs hg hvm h
  · exact word_at hW (good_of_word hg) h
/-- a list's words: the good ones out of the method's own list, the others by premises of their own -/
theorem vx_hat {args : Array Value} {s : State} {L B : List Cond} (h1 : ∀ w ∈ L.filter goodWord, w.before args s = true) (h2 : ∀ w ∈ L.filter (fun w => !goodWord w), w ∈ B) (h3 : ∀ w ∈ B, w.before args s = true) : ∀ w ∈ L, w.before args s = true := by
  intro w hw
  by_cases g : goodWord w = true
  · exact h1 w (List.mem_filter.mpr ⟨hw, g⟩)
  · refine h3 w (h2 w (List.mem_filter.mpr ⟨hw, ?_⟩))
    show (!goodWord w) = true
    cases hgw : goodWord w
    · rfl
    · exact absurd hgw g
theorem vx_c {args : Array Value} {s : State} {w : Cond} {B : List Cond} (h : w.before args s = true) (t : ∀ w ∈ B, w.before args s = true) : ∀ w' ∈ w :: B, w'.before args s = true := fun w' h' => (List.mem_cons.mp h').elim (fun e => by rw [e]; exact h) (t w')
theorem vx_n {args : Array Value} {s : State} : ∀ w ∈ ([] : List Cond), w.before args s = true := fun _ h => nomatch h
theorem vx_own {args : Array Value} {s : State} {L : List Cond} (h1 : ∀ w ∈ L.filter vx_no, w.before args s = true)
    (hU : (Cond.isRef (.static Bundle.tN "UNASSIGNED_STACK" Bundle.steD)).before args s = true) (hN : (Cond.isRef (.static Bundle.tN "SUPPRESSED_SENTINEL" Bundle.listD)).before args s = true)
    (lU : (Cond.laysStatic Bundle.tN "UNASSIGNED_STACK" Bundle.steD).before args s = true) (lN : (Cond.laysStatic Bundle.tN "SUPPRESSED_SENTINEL" Bundle.listD).before args s = true) : ∀ w ∈ L, w.before args s = true := by
  intro w hw
  by_cases e1 : w = .isRef (.static Bundle.tN "UNASSIGNED_STACK" Bundle.steD)
  · rw [e1]; exact hU
  · by_cases e2 : w = .isRef (.static Bundle.tN "SUPPRESSED_SENTINEL" Bundle.listD)
    · rw [e2]; exact hN
    · by_cases e3 : w = .laysStatic Bundle.tN "UNASSIGNED_STACK" Bundle.steD
      · rw [e3]; exact lU
      · by_cases e4 : w = .laysStatic Bundle.tN "SUPPRESSED_SENTINEL" Bundle.listD
        · rw [e4]; exact lN
        · exact h1 w (List.mem_filter.mpr ⟨hw, by unfold vx_no; rw [decide_eq_true e1, decide_eq_true e2, decide_eq_true e3, decide_eq_true e4]; rfl⟩)
/-- where a static field lies, its class's statics cell in H -/
def vx_L (C n d : String) (A : Nat → Prop) (U : State) (H : Heap) : Prop := ∃ (c : ClassId) (k : Class) (i : Nat) (f : Field) (a : Nat) (cell : Cell), U.vm.findClass C = some c ∧ U.fieldFound? C n d = some (c, k, i, f) ∧ f.isStatic = true ∧ k.statics = some a ∧ H[a]? = some cell ∧ cell.vm.isStatics = true ∧ cell.cls = c ∧ f.slot < cell.slots.size ∧ k.staticTypes[f.slot]? = some f.type ∧ ¬ A a
theorem vx_L.moved {C n d : String} {A : Nat → Prop} {u U : State} {H : Heap} (hvm : u.vm.Alike U.vm) (h : vx_L C n d A u H) : vx_L C n d A U H := by
  obtain ⟨c, k, i, f, a, cell, h1, h2, h3, h4, h5, h6, h7, h8, h9, h10⟩ := h
  obtain ⟨k', hi', he⟩ := State.fieldFound?_setVm hvm h2
  exact ⟨c, k', i, f, a, cell, by rw [hvm.findClass]; exact h1, hi', h3, by rw [he]; exact h4, h5, h6, h7, h8, by rw [he]; exact h9, h10⟩
theorem vx_L.kept {C n d : String} {A : Nat → Prop} {U : State} {H H1 : Heap} (h : vx_L C n d A U H) (hq : ∀ a : Nat, a < H.size → ¬ A a → H1[a]? = H[a]?) : vx_L C n d A U H1 := by
  obtain ⟨c, k, i, f, a, cell, h1, h2, h3, h4, h5, h6, h7, h8, h9, h10⟩ := h
  exact ⟨c, k, i, f, a, cell, h1, h2, h3, h4, by rw [hq a (Array.getElem?_eq_some_iff.mp h5).1 h10]; exact h5, h6, h7, h8, h9, h10⟩
theorem vx_L.narrow {C n d : String} {A B : Nat → Prop} {U : State} {H : Heap} (h : vx_L C n d A U H) (hAB : ∀ q, B q → A q) : vx_L C n d B U H := by
  obtain ⟨c, k, i, f, a, cell, h1, h2, h3, h4, h5, h6, h7, h8, h9, h10⟩ := h
  exact ⟨c, k, i, f, a, cell, h1, h2, h3, h4, h5, h6, h7, h8, h9, fun z => h10 (hAB _ z)⟩
theorem vx_L.word {C n d : String} {A : Nat → Prop} {s : State} {args : Array Value} (h : vx_L C n d A s s.heap) : (Cond.laysStatic C n d).before args s = true := by
  obtain ⟨c, k, i, f, a, cell, h1, h2, h3, h4, h5, h6, h7, h8, h9, -⟩ := h
  show (Cond.laysStatic C n d).holds args s none s [] = true
  exact Cond.laysStatic_of h1 h2 h3 h4 h5 h6 h7 h8 h9
/-- .. and what it holds: null or some reference -/
def vx_Zq (C n d : String) (A : Nat → Prop) (U : State) (H : Heap) : Prop := va_Zq C n d A U H ∧ vx_L C n d A U H
theorem vx_Zq.moved {C n d : String} {A : Nat → Prop} {u U : State} {H : Heap} (hvm : u.vm.Alike U.vm) (h : vx_Zq C n d A u H) : vx_Zq C n d A U H := ⟨va_Zq.moved hvm h.1, vx_L.moved hvm h.2⟩
theorem vx_Zq.kept {C n d : String} {A : Nat → Prop} {U : State} {H H1 : Heap} (h : vx_Zq C n d A U H) (hq : ∀ a : Nat, a < H.size → ¬ A a → H1[a]? = H[a]?) : vx_Zq C n d A U H1 := ⟨va_Zq.kept h.1 hq, vx_L.kept h.2 hq⟩
theorem vx_Zq.narrow {C n d : String} {A B : Nat → Prop} {U : State} {H : Heap} (h : vx_Zq C n d A U H) (hAB : ∀ q, B q → A q) : vx_Zq C n d B U H := ⟨va_Zq.narrow h.1 hAB, vx_L.narrow h.2 hAB⟩
theorem vx_Zqof {args : Array Value} {s : State} {C n d : String} {A : Nat → Prop} (hl : (Cond.laysStatic C n d).before args s = true) (hini : (Cond.initialized C).before args s = true) (h : (Cond.isRef (.static C n d)).before args s = true) (hA : ∀ a : Nat, a < s.heap.size → ¬ A a) : vx_Zq C n d A s s.heap := by
  refine ⟨va_Zqof hl hini h hA, ?_⟩
  obtain ⟨c, k, i, f, a, cell, h1, h2, h3, h4, h5, h6, h7, h8, h9⟩ := Cond.laysStatic_spec hl
  exact ⟨c, k, i, f, a, cell, h1, h2, h3, h4, h5, h6, h7, h8, h9, hA a (Array.getElem?_eq_some_iff.mp h5).1⟩
theorem vx_isRef {C n d : String} {v : Value} {A : Nat → Prop} {s : State} {args : Array Value} (h : va_Z C n d v A s s.heap) (hv : v.isRef = true) : (Cond.isRef (.static C n d)).before args s = true := by
  obtain ⟨cf, kf, fi, f, a, cell, h1, h2, h3, h4, h5, h6, h7, -⟩ := h
  have he : (Term.static C n d).eval args s none [] s = some v := by
    simp [Term.eval, State.fieldNamed?, h1, h2, h4, h5, h6, h7]
  simp only [Cond.before, Cond.holds, Cond.value, he]
  cases v <;> simp_all [Value.isRef]
theorem vx_isRefq {C n d : String} {A : Nat → Prop} {s : State} {args : Array Value} (h : va_Zq C n d A s s.heap) : (Cond.isRef (.static C n d)).before args s = true := by
  rcases h with h | ⟨t, h⟩
  · exact vx_isRef h rfl
  · exact vx_isRef h rfl
/-- the same frame, seen from here: as if the method were called anew in this heap -/
theorem vx_rebase {T : State} (X : Stand p l e R s m args below meth c T locs cells slots) {R' : Room} (hf : R'.frames ≤ R.frames) (hl : R'.locals ≤ R.locals) (hc : cells + R'.cells ≤ R.cells) (hs : slots + R'.slots ≤ R.slots) :
    Stand p l e R' ((T.setVm s.vm).setFrames (.invoking m args :: below)) m args below meth c T [] 0 0 := by
  have htop : (T.setVm s.vm).topJava?.isSome := X.here.top
  have hF : ((T.setVm s.vm).setFrames (.invoking m args :: below)).frames = .invoking m args :: below := State.frames_setFrames _ (State.cur_lt_of_top htop)
  obtain ⟨g₀, hg0⟩ := Option.isSome_iff_exists.mp htop
  obtain ⟨r, hr⟩ := State.topJava?_eq_some.mp hg0
  have hl9 : e.platform.stackLimits (T.setVm s.vm).me = e.platform.stackLimits s.me := X.limits
  have hb9 : (T.setVm s.vm).me.stackBytes = s.me.stackBytes := X.bytes
  refine ⟨X.admits, X.cas, X.clock, hF, ?_, X.hears, X.method, X.code, X.here, X.tail, X.warmed, ?_, ?_, ?_⟩
  · have h := X.room
    have hU : ((T.setVm s.vm).setFrames (.invoking m args :: below)).localsInUse = s.localsInUse := by
      rw [State.localsInUse_invoking hF (meth := meth) (c := c) X.method X.code, State.localsInUse_invoking X.frames X.method X.code]
    simp only [State.hasRoom, Bool.and_eq_true, decide_eq_true_eq] at h ⊢
    obtain ⟨⟨⟨⟨h1, h2, h3, h4, h5, h6⟩, h7⟩, h8⟩, h9⟩ := h
    rw [X.frames, List.length_cons] at h2 h3
    have q1 := X.heapSize
    have q2 := X.used
    simp only [hF, hU, List.length_cons, State.stackLimits_setFrames, State.stackBytes_setFrames, hl9, hb9]
    refine ⟨⟨⟨⟨by omega, by omega, by omega, by omega, by omega, h6⟩, ?_⟩, ?_⟩, X.book⟩
    · show T.heap.size + R'.cells ≤ e.platform.maxCells
      omega
    · show T.slotsUsed + R'.slots ≤ e.platform.maxSlots
      omega
  · rw [State.stackLimits_setFrames]; rfl
  · rw [State.stackBytes_setFrames]; rfl
  · refine ⟨?_, Nat.le_refl _, Nat.le_refl _, ?_, ?_, fun a c9 h9 => ⟨c9, h9, rfl, rfl, fun _ _ => rfl⟩⟩
    · obtain ⟨t, ht, -⟩ := State.frames_cons hr
      show T.setVm s.vm = { ((T.setVm s.vm).setFrames (.invoking m args :: below)).setFrames (T.setVm s.vm).frames with heap := T.heap, slotsUsed := T.slotsUsed }
      rw [State.setFrames_setFrames, State.setFrames_self ht]
      rfl
    · show T.slotsUsed = T.slotsUsed + ((T.heap.toList.drop T.heap.size).map (·.slots.size)).sum
      rw [List.drop_eq_nil_of_le (Nat.le_of_eq Array.length_toList)]
      rfl
    · show ((T.heap.toList.drop T.heap.size).map (·.slots.size)).sum ≤ 0
      rw [List.drop_eq_nil_of_le (Nat.le_of_eq Array.length_toList)]
      exact Nat.le_refl _
/-- 'throw new E()': new; dup; invokespecial; athrow -/
theorem vx_throw0 {cc : ByteArray} {pc : Nat} (hexec : p.tables.exec = Jvm.exec) (hb : c.code = cc) (hl : l.stackTraces = false) {own cls : String} {names : List String} {ik ic mc ms : Nat} {A : Nat → Prop}
    (hown : s.vm.findClass own = some m.cls) (hcls : Bundle.fit cls = true) (hnames : ∀ n ∈ names, Bundle.fit n = true)
    (hk : (Cond.classLink own ik cls).before args s = true) (hini : (Cond.initialized cls).before args s = true) (hat : ∀ w ∈ vx_at0 own ic cls names, w.before args s = true)
    (hgood : ∀ w ∈ Cond.classLink own ik cls :: Cond.initialized cls :: vx_at0 own ic cls names, vx_ot w = true)
    (hU : vx_Zq Bundle.tN "UNASSIGNED_STACK" Bundle.steD A s s.heap) (hN : vx_Zq Bundle.tN "SUPPRESSED_SENTINEL" Bundle.listD A s s.heap) (hS : va_S A s.heap H locs) (hsize : ls.size = c.maxLocals)
    (d0 : decode cc pc = .ok (.new ik, 3)) (d3 : decode cc (pc + 3) = .ok (.dup, 1)) (d4 : decode cc (pc + 4) = .ok (.invokespecial ic, 3)) (d7 : decode cc (pc + 7) = .ok (.athrow, 1))
    (hout : ∀ x ∈ c.exceptionTable.toList, covers x (pc + 7) = false)
    (hRframes : names.length + 3 < R.frames) (hRlocals : (rest.map fun v => v.category).sum + (13 * (names.length + 1) + 42) ≤ R.locals) (hRcells : cells + 1 ≤ R.cells) (hRslots : slots + 6 ≤ R.slots) (hlocks : meth.locks = false)
    (hx : ∀ t : State, s.vm.Alike t.vm → H.size ≤ t.heap.size → (∀ q : Nat, q < H.size → t.heap[q]? = H[q]?) → XC cls s t)
    (hf : ∀ z ∈ locs, free z.base) (hc : cells + 1 ≤ mc) (hs : slots + 6 ≤ ms) :
    W p l e R s m args below meth c H locs cells slots (vx_MQ below Qc XC args s mc ms free) (F0 m pc ls rest) := by
  intro T hT X
  have htr : e.platform.stackTraces = false := (show e.platform.stackTraces = l.stackTraces by rw [X.admits.platform]).trans hl
  have Y := vx_rebase X (R' := { frames := R.frames, locals := R.locals, cells := 1, slots := 6 }) (Nat.le_refl _) (Nat.le_refl _) hRcells hRslots
  obtain ⟨s', hA⟩ : ∃ z, z = (T.setVm s.vm).setFrames (.invoking m args :: below) := ⟨_, rfl⟩
  rw [← hA] at Y
  have hvm : s'.vm = s.vm := by rw [hA]; rfl
  have hhp : s'.heap = H := by rw [hA]; exact hT
  have hW0 : s.WarmedH s'.vm := by rw [hvm]; exact State.WarmedH.refl s
  have hat' : ∀ w ∈ vx_at0 own ic cls names, w.before args s' = true := fun w hw => vx_ot_at hW0 hvm.symm (hgood w (List.mem_cons_of_mem _ (List.mem_cons_of_mem _ hw))) (hat w hw)
  have hk' : (Cond.classLink own ik cls).before args s' = true := vx_ot_at hW0 hvm.symm (hgood _ List.mem_cons_self) hk
  have hini' : (Cond.initialized cls).before args s' = true := vx_ot_at hW0 hvm.symm (hgood _ (List.mem_cons_of_mem _ List.mem_cons_self)) hini
  have hU' : vx_Zq Bundle.tN "UNASSIGNED_STACK" Bundle.steD A s' s'.heap := by rw [hhp]; exact vx_Zq.moved hW0.alike (hU.kept hS.2.1)
  have hN' : vx_Zq Bundle.tN "SUPPRESSED_SENTINEL" Bundle.listD A s' s'.heap := by rw [hhp]; exact vx_Zq.moved hW0.alike (hN.kept hS.2.1)
  have h : ∀ w ∈ Bundle.ownAtoms0 own ic cls names, w.before args s' = true := vx_own hat' (vx_isRefq hU'.1) (vx_isRefq hN'.1) hU'.2.word hN'.2.word
  have hown' : s'.vm.findClass own = some m.cls := by rw [hvm]; exact hown
  have hins : (Cond.instantiable cls 6).before args s' = true := h _ (by simp [Bundle.ownAtoms0])
  obtain ⟨vm₁, cX, kX, hfX, hkX, -, -, X₁, st1⟩ := Y.newCold hexec (own := own) (C := cls) (index := ik) (n := 6) hown' hk' hins hini'
    (g := F0 m pc ls rest) rfl (by rw [hb]; exact d0) (Nat.le_refl _) (Nat.le_refl _)
  generalize hT1 : (T.setVm vm₁).pushCell { cls := cX, slots := kX.instanceTypes.map defaultValue, vm := .none } = T1 at X₁ st1
  have hcat : (Value.ref T.heap.size).category = 1 := rfl
  have hcellA : T1.heap[T.heap.size]? = some (freshCell cX kX) := by rw [← hT1]; exact State.heap_pushCell_size _ _
  have d3' : decode c.code (pc + 3) = .ok (.dup, 1) := by rw [hb]; exact d3
  obtain ⟨U, hsteps, hrun, hend, hW, hsame, ce, hce, hO⟩ := X₁.ctorThrow0 hexec htr (own := own) (cls := cls) (names := names) (ic := ic) hown' hcls hnames h (fun x hx => nomatch hx) hfX hkX hcellA (by rw [hhp, hT]; exact Nat.le_refl _)
    (g := { method := m, pc := pc + 4, locals := ls, stack := .ref T.heap.size :: .ref T.heap.size :: rest, locked := none }) rfl hsize rfl rfl (rest := rest) rfl
    (by rw [hb]; exact d4) (by rw [hb]; exact d7) hout hRframes (by simp only [List.map_cons, List.sum_cons, hcat]; omega) hlocks
  obtain ⟨f1, f2⟩ := vx_frame hsame
  rw [hhp] at f1 f2
  have hWs : s.WarmedH U.vm := State.WarmedH.trans hW0 hW
  have hcl : s.vm.findClass cls = some ce.cls := by
    have h9 := hO.cls
    rw [hvm] at h9
    exact h9
  have hall : s.sameButNew ({ U with vm := s.vm } : State) locs mc ms := by
    subst hA
    obtain ⟨e1, e2⟩ := hsame
    rw [State.setFrames_setFrames] at e1
    have h2 : (T.setVm s.vm).sameButNew ({ U with vm := s.vm } : State) [] (0 + 1) (0 + 6) := ⟨e1, e2⟩
    have h3 := X.same.trans h2
    rw [List.append_nil] at h3
    exact h3.mono hc hs
  refine ⟨U, ?_, .threw T.heap.size, hrun, hend, Or.inr ⟨T.heap.size, rfl, cls, ce, locs, hx U hWs.alike f1 (fun q hq => f2 q hq (fun z hz => nomatch hz)), hce, hO.vm, hcl, hWs, hall, hf⟩⟩
  refine st1 _ ?_
  show Steps p.tables e below (T1.setTop { method := m, pc := pc + 3, locals := ls, stack := .ref T.heap.size :: rest, locked := none }) _
  jvm_step X₁.here [X₁.here.top, hexec, d3', Value.category]
  exact hsteps
/-- 'throw new E("text")': new; dup; ldc; invokespecial; athrow -/
theorem vx_throwS {cc : ByteArray} {pc : Nat} (hexec : p.tables.exec = Jvm.exec) (hb : c.code = cc) (hl : l.stackTraces = false) {own cls text : String} {names : List String} {ik is ic mc ms sa : Nat} {A : Nat → Prop}
    (hown : s.vm.findClass own = some m.cls) (hcls : Bundle.fit cls = true) (hnames : ∀ n ∈ names, Bundle.fit n = true)
    (hk : (Cond.classLink own ik cls).before args s = true) (hini : (Cond.initialized cls).before args s = true) (hstr : vk_R own is text sa s) (hat : ∀ w ∈ vx_atS own ic cls names, w.before args s = true)
    (hgood : ∀ w ∈ Cond.classLink own ik cls :: Cond.initialized cls :: vx_atS own ic cls names, vx_ot w = true)
    (hU : vx_Zq Bundle.tN "UNASSIGNED_STACK" Bundle.steD A s s.heap) (hN : vx_Zq Bundle.tN "SUPPRESSED_SENTINEL" Bundle.listD A s s.heap) (hS : va_S A s.heap H locs) (hsize : ls.size = c.maxLocals)
    (d0 : decode cc pc = .ok (.new ik, 3)) (d3 : decode cc (pc + 3) = .ok (.dup, 1)) (d4 : decode cc (pc + 4) = .ok (.ldc is, 2)) (d6 : decode cc (pc + 6) = .ok (.invokespecial ic, 3)) (d9 : decode cc (pc + 9) = .ok (.athrow, 1))
    (hout : ∀ x ∈ c.exceptionTable.toList, covers x (pc + 9) = false)
    (hRframes : names.length + 3 < R.frames) (hRlocals : (rest.map fun v => v.category).sum + (13 * (names.length + 1) + 43) ≤ R.locals) (hRcells : cells + 1 ≤ R.cells) (hRslots : slots + 6 ≤ R.slots) (hlocks : meth.locks = false)
    (hx : ∀ t : State, s.vm.Alike t.vm → H.size ≤ t.heap.size → (∀ q : Nat, q < H.size → t.heap[q]? = H[q]?) → XC cls s t)
    (hf : ∀ z ∈ locs, free z.base) (hc : cells + 1 ≤ mc) (hs : slots + 6 ≤ ms) :
    W p l e R s m args below meth c H locs cells slots (vx_MQ below Qc XC args s mc ms free) (F0 m pc ls rest) := by
  intro T hT X
  have htr : e.platform.stackTraces = false := (show e.platform.stackTraces = l.stackTraces by rw [X.admits.platform]).trans hl
  have Y := vx_rebase X (R' := { frames := R.frames, locals := R.locals, cells := 1, slots := 6 }) (Nat.le_refl _) (Nat.le_refl _) hRcells hRslots
  obtain ⟨s', hA⟩ : ∃ z, z = (T.setVm s.vm).setFrames (.invoking m args :: below) := ⟨_, rfl⟩
  rw [← hA] at Y
  have hvm : s'.vm = s.vm := by rw [hA]; rfl
  have hhp : s'.heap = H := by rw [hA]; exact hT
  have hW0 : s.WarmedH s'.vm := by rw [hvm]; exact State.WarmedH.refl s
  have hat' : ∀ w ∈ vx_atS own ic cls names, w.before args s' = true := fun w hw => vx_ot_at hW0 hvm.symm (hgood w (List.mem_cons_of_mem _ (List.mem_cons_of_mem _ hw))) (hat w hw)
  have hk' : (Cond.classLink own ik cls).before args s' = true := vx_ot_at hW0 hvm.symm (hgood _ List.mem_cons_self) hk
  have hini' : (Cond.initialized cls).before args s' = true := vx_ot_at hW0 hvm.symm (hgood _ (List.mem_cons_of_mem _ List.mem_cons_self)) hini
  have hU' : vx_Zq Bundle.tN "UNASSIGNED_STACK" Bundle.steD A s' s'.heap := by rw [hhp]; exact vx_Zq.moved hW0.alike (hU.kept hS.2.1)
  have hN' : vx_Zq Bundle.tN "SUPPRESSED_SENTINEL" Bundle.listD A s' s'.heap := by rw [hhp]; exact vx_Zq.moved hW0.alike (hN.kept hS.2.1)
  have h : ∀ w ∈ Bundle.ownAtoms own ic cls names, w.before args s' = true := vx_own hat' (vx_isRefq hU'.1) (vx_isRefq hN'.1) hU'.2.word hN'.2.word
  have hown' : s'.vm.findClass own = some m.cls := by rw [hvm]; exact hown
  have hins : (Cond.instantiable cls 6).before args s' = true := h _ (by simp [Bundle.ownAtoms])
  obtain ⟨vm₁, cX, kX, hfX, hkX, -, -, X₁, st1⟩ := Y.newCold hexec (own := own) (C := cls) (index := ik) (n := 6) hown' hk' hins hini'
    (g := F0 m pc ls rest) rfl (by rw [hb]; exact d0) (Nat.le_refl _) (Nat.le_refl _)
  generalize hT1 : (T.setVm vm₁).pushCell { cls := cX, slots := kX.instanceTypes.map defaultValue, vm := .none } = T1 at X₁ st1
  have hcat : (Value.ref T.heap.size).category = 1 := rfl
  have hcellA : T1.heap[T.heap.size]? = some (freshCell cX kX) := by rw [← hT1]; exact State.heap_pushCell_size _ _
  have d3' : decode c.code (pc + 3) = .ok (.dup, 1) := by rw [hb]; exact d3
  have d4' : decode c.code (pc + 4) = .ok (.ldc is, 2) := by rw [hb]; exact d4
  have hstr' : vk_R own is text sa s' := vk_R.warm hW0 hstr
  obtain ⟨U, hsteps, hrun, hend, hW, hsame, ce, hce, hO⟩ := X₁.ctorThrowS hexec htr (own := own) (cls := cls) (names := names) (ic := ic) hown' hcls hnames h (fun x hx => nomatch hx) hfX hkX hcellA (by rw [hhp, hT]; exact Nat.le_refl _) (msg := .ref sa) rfl
    (g := { method := m, pc := pc + 6, locals := ls, stack := .ref sa :: .ref T.heap.size :: .ref T.heap.size :: rest, locked := none }) rfl hsize rfl rfl (rest := rest) rfl
    (by rw [hb]; exact d6) (by rw [hb]; exact d9) hout hRframes (by simp only [List.map_cons, List.sum_cons, hcat]; omega) hlocks
  obtain ⟨f1, f2⟩ := vx_frame hsame
  rw [hhp] at f1 f2
  have hWs : s.WarmedH U.vm := State.WarmedH.trans hW0 hW
  have hcl : s.vm.findClass cls = some ce.cls := by
    have h9 := hO.cls
    rw [hvm] at h9
    exact h9
  have hall : s.sameButNew ({ U with vm := s.vm } : State) locs mc ms := by
    subst hA
    obtain ⟨e1, e2⟩ := hsame
    rw [State.setFrames_setFrames] at e1
    have h2 : (T.setVm s.vm).sameButNew ({ U with vm := s.vm } : State) [] (0 + 1) (0 + 6) := ⟨e1, e2⟩
    have h3 := X.same.trans h2
    rw [List.append_nil] at h3
    exact h3.mono hc hs
  refine ⟨U, ?_, .threw T.heap.size, hrun, hend, Or.inr ⟨T.heap.size, rfl, cls, ce, locs, hx U hWs.alike f1 (fun q hq => f2 q hq (fun z hz => nomatch hz)), hce, hO.vm, hcl, hWs, hall, hf⟩⟩
  refine st1 _ ?_
  show Steps p.tables e below (T1.setTop { method := m, pc := pc + 3, locals := ls, stack := .ref T.heap.size :: rest, locked := none }) _
  jvm_step X₁.here [X₁.here.top, hexec, d3', Value.category]
  exact X₁.ldcString hexec (own := own) (text := text) (index := is) (a := sa) hown' hstr'.1 hstr'.2
    (g := { method := m, pc := pc + 4, locals := ls, stack := .ref T.heap.size :: .ref T.heap.size :: rest, locked := none }) rfl d4' _ hsteps
/-- 'throw new E("text")', the text by a wide index -/
theorem vx_throwSW {cc : ByteArray} {pc : Nat} (hexec : p.tables.exec = Jvm.exec) (hb : c.code = cc) (hl : l.stackTraces = false) {own cls text : String} {names : List String} {ik is ic mc ms sa : Nat} {A : Nat → Prop}
    (hown : s.vm.findClass own = some m.cls) (hcls : Bundle.fit cls = true) (hnames : ∀ n ∈ names, Bundle.fit n = true)
    (hk : (Cond.classLink own ik cls).before args s = true) (hini : (Cond.initialized cls).before args s = true) (hstr : vk_R own is text sa s) (hat : ∀ w ∈ vx_atS own ic cls names, w.before args s = true)
    (hgood : ∀ w ∈ Cond.classLink own ik cls :: Cond.initialized cls :: vx_atS own ic cls names, vx_ot w = true)
    (hU : vx_Zq Bundle.tN "UNASSIGNED_STACK" Bundle.steD A s s.heap) (hN : vx_Zq Bundle.tN "SUPPRESSED_SENTINEL" Bundle.listD A s s.heap) (hS : va_S A s.heap H locs) (hsize : ls.size = c.maxLocals)
    (d0 : decode cc pc = .ok (.new ik, 3)) (d3 : decode cc (pc + 3) = .ok (.dup, 1)) (d4 : decode cc (pc + 4) = .ok (.ldc_w is, 3)) (d7 : decode cc (pc + 7) = .ok (.invokespecial ic, 3)) (d10 : decode cc (pc + 10) = .ok (.athrow, 1))
    (hout : ∀ x ∈ c.exceptionTable.toList, covers x (pc + 10) = false)
    (hRframes : names.length + 3 < R.frames) (hRlocals : (rest.map fun v => v.category).sum + (13 * (names.length + 1) + 43) ≤ R.locals) (hRcells : cells + 1 ≤ R.cells) (hRslots : slots + 6 ≤ R.slots) (hlocks : meth.locks = false)
    (hx : ∀ t : State, s.vm.Alike t.vm → H.size ≤ t.heap.size → (∀ q : Nat, q < H.size → t.heap[q]? = H[q]?) → XC cls s t)
    (hf : ∀ z ∈ locs, free z.base) (hc : cells + 1 ≤ mc) (hs : slots + 6 ≤ ms) :
    W p l e R s m args below meth c H locs cells slots (vx_MQ below Qc XC args s mc ms free) (F0 m pc ls rest) := by
  intro T hT X
  have htr : e.platform.stackTraces = false := (show e.platform.stackTraces = l.stackTraces by rw [X.admits.platform]).trans hl
  have Y := vx_rebase X (R' := { frames := R.frames, locals := R.locals, cells := 1, slots := 6 }) (Nat.le_refl _) (Nat.le_refl _) hRcells hRslots
  obtain ⟨s', hA⟩ : ∃ z, z = (T.setVm s.vm).setFrames (.invoking m args :: below) := ⟨_, rfl⟩
  rw [← hA] at Y
  have hvm : s'.vm = s.vm := by rw [hA]; rfl
  have hhp : s'.heap = H := by rw [hA]; exact hT
  have hW0 : s.WarmedH s'.vm := by rw [hvm]; exact State.WarmedH.refl s
  have hat' : ∀ w ∈ vx_atS own ic cls names, w.before args s' = true := fun w hw => vx_ot_at hW0 hvm.symm (hgood w (List.mem_cons_of_mem _ (List.mem_cons_of_mem _ hw))) (hat w hw)
  have hk' : (Cond.classLink own ik cls).before args s' = true := vx_ot_at hW0 hvm.symm (hgood _ List.mem_cons_self) hk
  have hini' : (Cond.initialized cls).before args s' = true := vx_ot_at hW0 hvm.symm (hgood _ (List.mem_cons_of_mem _ List.mem_cons_self)) hini
  have hU' : vx_Zq Bundle.tN "UNASSIGNED_STACK" Bundle.steD A s' s'.heap := by rw [hhp]; exact vx_Zq.moved hW0.alike (hU.kept hS.2.1)
  have hN' : vx_Zq Bundle.tN "SUPPRESSED_SENTINEL" Bundle.listD A s' s'.heap := by rw [hhp]; exact vx_Zq.moved hW0.alike (hN.kept hS.2.1)
  have h : ∀ w ∈ Bundle.ownAtoms own ic cls names, w.before args s' = true := vx_own hat' (vx_isRefq hU'.1) (vx_isRefq hN'.1) hU'.2.word hN'.2.word
  have hown' : s'.vm.findClass own = some m.cls := by rw [hvm]; exact hown
  have hins : (Cond.instantiable cls 6).before args s' = true := h _ (by simp [Bundle.ownAtoms])
  obtain ⟨vm₁, cX, kX, hfX, hkX, -, -, X₁, st1⟩ := Y.newCold hexec (own := own) (C := cls) (index := ik) (n := 6) hown' hk' hins hini'
    (g := F0 m pc ls rest) rfl (by rw [hb]; exact d0) (Nat.le_refl _) (Nat.le_refl _)
  generalize hT1 : (T.setVm vm₁).pushCell { cls := cX, slots := kX.instanceTypes.map defaultValue, vm := .none } = T1 at X₁ st1
  have hcat : (Value.ref T.heap.size).category = 1 := rfl
  have hcellA : T1.heap[T.heap.size]? = some (freshCell cX kX) := by rw [← hT1]; exact State.heap_pushCell_size _ _
  have d3' : decode c.code (pc + 3) = .ok (.dup, 1) := by rw [hb]; exact d3
  have d4' : decode c.code (pc + 4) = .ok (.ldc_w is, 3) := by rw [hb]; exact d4
  have hstr' : vk_R own is text sa s' := vk_R.warm hW0 hstr
  obtain ⟨U, hsteps, hrun, hend, hW, hsame, ce, hce, hO⟩ := X₁.ctorThrowS hexec htr (own := own) (cls := cls) (names := names) (ic := ic) hown' hcls hnames h (fun x hx => nomatch hx) hfX hkX hcellA (by rw [hhp, hT]; exact Nat.le_refl _) (msg := .ref sa) rfl
    (g := { method := m, pc := pc + 7, locals := ls, stack := .ref sa :: .ref T.heap.size :: .ref T.heap.size :: rest, locked := none }) rfl hsize rfl rfl (rest := rest) rfl
    (by rw [hb]; exact d7) (by rw [hb]; exact d10) hout hRframes (by simp only [List.map_cons, List.sum_cons, hcat]; omega) hlocks
  obtain ⟨f1, f2⟩ := vx_frame hsame
  rw [hhp] at f1 f2
  have hWs : s.WarmedH U.vm := State.WarmedH.trans hW0 hW
  have hcl : s.vm.findClass cls = some ce.cls := by
    have h9 := hO.cls
    rw [hvm] at h9
    exact h9
  have hall : s.sameButNew ({ U with vm := s.vm } : State) locs mc ms := by
    subst hA
    obtain ⟨e1, e2⟩ := hsame
    rw [State.setFrames_setFrames] at e1
    have h2 : (T.setVm s.vm).sameButNew ({ U with vm := s.vm } : State) [] (0 + 1) (0 + 6) := ⟨e1, e2⟩
    have h3 := X.same.trans h2
    rw [List.append_nil] at h3
    exact h3.mono hc hs
  refine ⟨U, ?_, .threw T.heap.size, hrun, hend, Or.inr ⟨T.heap.size, rfl, cls, ce, locs, hx U hWs.alike f1 (fun q hq => f2 q hq (fun z hz => nomatch hz)), hce, hO.vm, hcl, hWs, hall, hf⟩⟩
  refine st1 _ ?_
  show Steps p.tables e below (T1.setTop { method := m, pc := pc + 3, locals := ls, stack := .ref T.heap.size :: rest, locked := none }) _
  jvm_step X₁.here [X₁.here.top, hexec, d3', Value.category]
  exact X₁.ldcStringW hexec (own := own) (text := text) (index := is) (a := sa) hown' hstr'.1 hstr'.2
    (g := { method := m, pc := pc + 4, locals := ls, stack := .ref T.heap.size :: .ref T.heap.size :: rest, locked := none }) rfl d4' _ hsteps
end Ends
section Bodies
variable {l : Launch}
theorem vx_ofW {y : MethodName} {ws ws' : List Cond} {rm : Room} {Pc : Array Value → State → Prop} {Qc : Array Value → State → Outcome → State → Prop} {XC : String → State → State → Prop} {mc ms : Nat} {free : Addr → Prop} {cc : ByteArray} {maxL : Nat} {ret : Option FieldType}
    (hy : plainName y.cls = true) (hw : ws = Cond.code y cc maxL ret :: ws')
    (body : ∀ p e s m args below meth c s₁, BodyLoose p l y (headSpec ws rm) cc maxL ret e s m args below meth c s₁ → c.maxLocals = maxL → (∀ x ∈ c.exceptionTable.toList, False) → Pc args s →
      W p l e (headSpec ws rm).room s m args below meth c s.heap [] 0 0 (vx_MQ below Qc XC args s mc ms free) (entryFrame m args maxL)) : vx_Met l y ws rm Pc Qc XC mc ms free := by
  refine MetFree.of_bodyS (code := cc) (maxLocals := maxL) (ret := ret) hy ?_ ?_
  · intro args s m h hn
    obtain ⟨meth, c, h1, h2, h3, h4, h5, h6, -, -⟩ := Cond.code_spec hn (atoms_spec (ws := ws) h _ (by rw [hw]; exact List.mem_cons_self))
    exact ⟨meth, c, h1, h2, h3, h4, h5, h6⟩
  · intro p e s m args below meth c s₁ B hml hP _
    have hh0 : s₁.heap = s.heap := by rw [B.state]; rfl
    have ht : ∀ x ∈ c.exceptionTable.toList, False := by
      obtain ⟨meth9, c9, h1, h2, -, -, -, -, h7, -⟩ := Cond.code_spec B.named (atoms_spec (ws := ws) B.pre _ (by rw [hw]; exact List.mem_cons_self))
      cases Option.some.inj (h1.symm.trans B.method)
      cases Option.some.inj (h2.symm.trans (Stand.of_body B).code)
      intro x hx
      rw [Array.isEmpty_iff.mp h7] at hx
      cases hx
    obtain ⟨t, a1, o, b1, b2, b3⟩ := body p e s m args below meth c s₁ B hml ht hP s₁ hh0 (Stand.of_body B)
    exact ⟨t, o, a1, b1, b2, b3⟩
/-- the table of a body with handlers -/
theorem vx_table {p : Program} {x y : MethodName} {S : Spec} {cc bytes : ByteArray} {maxL maxL' : Nat} {ret ret' : Option FieldType} {e : Env} {s s₁ : State} {m : MethodId} {args : Array Value} {below : List Frame} {meth : Method} {c : Code} {hh : List (Nat × Nat × Nat × Nat)}
    (B : BodyLoose p l y S cc maxL ret e s m args below meth c s₁) (h : (Cond.codeWith y bytes maxL' ret' hh).before args s = true) : c.exceptionTable.toList = tableOf hh := by
  obtain ⟨m9, meth9, c9, hn9, h1, h2, -, -, h6, -⟩ := Cond.codeWith_spec h
  cases Option.some.inj (hn9.symm.trans B.named)
  cases Option.some.inj (h1.symm.trans B.method)
  cases Option.some.inj (h2.symm.trans (Stand.of_body B).code)
  rw [← h6, table_eq]
end Bodies
end VXA
/-! ===== END ===== -/
/-! ===== BEGIN a static call of a method with an exception table ===== -/
section VXS
variable {p : Program} {l : Launch} {e : Env} {R : Room} {s : State} {m : MethodId} {args : Array Value} {below : List Frame} {meth : Method} {c : Code} {T : State} {H : Heap} {locs : List Loc} {cells slots : Nat}
abbrev vx_CSW (R : Room) (s : State) (args : Array Value) (own : String) (index : Nat) (y : MethodName) (bytes : ByteArray) (maxL : Nat) (ret : Option FieldType) (hh : List (Nat × Nat × Nat × Nat)) (ws : List Cond) (rm : Room) (mc ms n : Nat) : Prop :=
  (rm.cells = mc ∧ rm.slots = ms ∧ rm.frames + 1 ≤ R.frames ∧ 8 + (maxL + 11) + rm.locals ≤ R.locals ∧ (∀ w ∈ ws, ∀ (a' : Array Value) (U : State), s.WarmedH U.vm → w.before a' U = true) ∧ Cond.codeWith y bytes maxL ret hh ∈ ws) ∧
  (Cond.codeWith y bytes maxL ret hh).before args s = true ∧ (Cond.initialized y.cls).before args s = true ∧ (y.cls ≠ "java/lang/invoke/MethodHandle" ∧ y.cls ≠ "java/lang/invoke/VarHandle") ∧
  (∀ sig, parseMethodDescriptor y.desc = some sig → n = sig.parameters.length) ∧ (Cond.methodLink own index y).before args s = true ∧ (Cond.static y).before args s = true
theorem vx_cwSW {own : String} {index maxL mc ms : Nat} {y : MethodName} {bytes : ByteArray} {ret : Option FieldType} {hh : List (Nat × Nat × Nat × Nat)} {Ts ws ws' : List Cond} {rm : Room} (n : Nat) (ht : ∀ w ∈ Ts, w.before args s = true) (hT : GoodIn Ts (va_wsS own index y ws)) (hw : ws = Cond.codeWith y bytes maxL ret hh :: ws') (hrc : rm.cells = mc) (hrs : rm.slots = ms)
    (hd : y.cls ≠ "java/lang/invoke/MethodHandle" ∧ y.cls ≠ "java/lang/invoke/VarHandle" ∧ (parseMethodDescriptor y.desc).map (fun d => d.parameters.length) = some n) (hR : rm.frames + 1 ≤ R.frames ∧ 8 + (maxL + 11) + rm.locals ≤ R.locals) :
    vx_CSW R s args own index y bytes maxL ret hh ws rm mc ms n := by
  have ok : ∀ w ∈ va_wsS own index y ws, w.before args s = true := fun w h => ht w (hT w h).1
  have hG : GoodIn Ts ws := fun w h => hT w (by unfold va_wsS; exact List.mem_append_right _ h)
  have hc : Cond.codeWith y bytes maxL ret hh ∈ ws := by rw [hw]; exact List.mem_cons_self
  refine ⟨⟨hrc, hrs, hR.1, hR.2, pay_in ht hG, hc⟩, ht _ (hG _ hc).1, ok _ (by simp [va_wsS]), ⟨hd.1, hd.2.1⟩, fun sig h => ?_, ok _ (by simp [va_wsS]), ok _ (by simp [va_wsS])⟩
  have h2 := hd.2.2
  rw [h] at h2
  exact (Option.some.inj h2).symm
theorem vx_callSW (X : Stand p l e R s m args below meth c T locs cells slots) (hexec : p.tables.exec = Jvm.exec) {own : String} {index : Nat} {y : MethodName} {bytes : ByteArray} {maxL : Nat} {ret : Option FieldType} {hh : List (Nat × Nat × Nat × Nat)}
    (hown : s.vm.findClass own = some m.cls) (hlink : (Cond.methodLink own index y).before args s = true) (hstat : (Cond.static y).before args s = true) (hinit : (Cond.initialized y.cls).before args s = true)
    (hcode : (Cond.codeWith y bytes maxL ret hh).before args s = true) (hy : y.cls ≠ "java/lang/invoke/MethodHandle" ∧ y.cls ≠ "java/lang/invoke/VarHandle")
    {W9 : Nat} {Pre : Pt → Array Value → Prop} {Post : Pt → Array Value → Option Value → Pt → Prop} (hK : Back l R p e below s args y 3 W9 Pre Post)
    {g : JFrame} (hg : g.method = m) (hsize : g.locals.size = c.maxLocals) {argsL rest : List Value} (hlen : ∀ sig, parseMethodDescriptor y.desc = some sig → argsL.length = sig.parameters.length)
    (hstack : g.stack = argsL.reverse ++ rest) (hW : 2 * g.monitorRoom + (rest.map fun v => v.category).sum ≤ W9) (hdg : decode c.code g.pc = .ok (.invokestatic index, 3))
    (hpre : ∀ vm₁, s.WarmedH vm₁ → Pre ⟨T.setVm vm₁, locs, cells, slots⟩ argsL.toArray) :
    ∃ (v : Option Value) (vm₁ : Vm) (B : Pt), s.WarmedH vm₁ ∧ Stand p l e R s m args below meth c B.U B.locs B.cells B.slots ∧ Post ⟨T.setVm vm₁, locs, cells, slots⟩ argsL.toArray v B ∧
      ∀ target, Steps p.tables e below (B.U.setTop { g with pc := g.pc + 3, stack := v.toList ++ rest }) target → Steps p.tables e below (T.setTop g) target := by
  obtain ⟨mk, methM, cM, hnamed, hmethM, -, -, -, -, -, -, hsigM⟩ := Cond.codeWith_spec hcode
  have hstatic : methM.isStatic = true := Cond.static_spec hnamed hmethM hstat
  obtain ⟨kP, hkP, -⟩ := className_of_methodNamed hnamed
  have hinitP : kP.init = .initialized := Cond.initialized_spec (findClass_of_methodNamed hnamed) hkP hinit
  obtain ⟨vm₁, X₁, hstep₁⟩ := X.invokestatic hexec hown hlink hnamed hmethM hstatic hkP hinitP hy (g := g) hg (argsL := argsL) (rest := rest) (hlen _ hsigM) hstack hdg
  obtain ⟨v, B, X', hpost, hsteps⟩ := hK m meth c ⟨T.setVm vm₁, locs, cells, slots⟩ { g with stack := rest } (.invokestatic index) mk argsL.toArray X₁ hg hsize hdg hW (X₁.named hnamed) (hpre vm₁ X₁.warmed)
  exact ⟨v, vm₁, B, X₁.warmed, X', hpost, fun target h => hstep₁ _ fun acts => by rw [doInvoke_state]; exact hsteps.trans h⟩
theorem vx_runSW {y : MethodName} {bytes cc : ByteArray} {maxL nL mc ms n index : Nat} {ret : Option FieldType} {hh : List (Nat × Nat × Nat × Nat)} {ws : List Cond} {rm : Room} {Pc : Array Value → State → Prop} {Qc : Array Value → State → Outcome → State → Prop} {free : Addr → Prop} {Ts : List Cond} {own : String} {As rest : List Value} {g : JFrame}
    (S : CallFix p m c cc nL s args Ts own) (hM : Met l y ws rm Pc Qc mc ms free) (cw : vx_CSW R s args own index y bytes maxL ret hh ws rm mc ms n) (hp : PreS s H Pc As)
    (hg : g.method = m) (hn : As.length = n) (hsize : g.locals.size = nL) (hstack : g.stack = As.reverse ++ rest) (hW : 2 * g.monitorRoom + (rest.map fun v => v.category).sum ≤ 8) (hdg : decode cc g.pc = .ok (.invokestatic index, 3)) (hf : cells + mc ≤ R.cells ∧ slots + ms ≤ R.slots) :
    va_Run p l e R s m args below meth c H locs cells slots mc ms g rest (Qc As.toArray) (free) := by
  obtain ⟨⟨hrc, hrs, hfr, hlo, hws, hcw⟩, hcode, hini, hy, hlen, hl, hstt⟩ := cw
  have hK : Back l R p e below s args y 3 8 (PreOf R mc ms Pc) (PostOf Qc mc ms free) := va_backW (hh := hh) (bytes := bytes) (maxL := maxL) (ret := ret) hM hp.1 hrc hrs hfr hlo hws hcw (fun a' U hW => word_at hW (Or.inl (by first | rfl | simp [Cond.onTables, Cond.keeps, Cond.steady])) hini)
  obtain ⟨hx, hb, hml, ho, -⟩ := S
  intro T hT X
  obtain ⟨v, vm₁, ⟨U', l2, c2, s2⟩, hW₁, X', ⟨g', mk, t, L, e1, e2, hq, h1, hL, h2, h3⟩, st⟩ := vx_callSW X hx (hh := hh) (bytes := bytes) (maxL := maxL) (ret := ret) ho hl hstt hini hcode hy hK hg (hsize.trans hml.symm) (argsL := As) (rest := rest) (fun sig h => hn.trans (hlen sig h)) hstack hW (by rw [hb]; exact hdg)
    (fun vm₁ hW₁ => ⟨hf.1, hf.2, hp.2 (T.setVm vm₁) hT hW₁⟩)
  dsimp only [Pt.U, Pt.locs, Pt.cells, Pt.slots] at X' e1 e2 h1 h2 h3 st
  subst h1; subst h2; subst h3
  exact ⟨v, (T.setVm vm₁).calling g' mk As.toArray, t, U', L, hT, X', hL, e1, e2, hq, st⟩
/-- not caught here, past rows that name other classes: it goes on to the caller -/
theorem vx_outP {p : Program} {l : Launch} {e : Env} {R : Room} {s : State} {m : MethodId} {args : Array Value} {below : List Frame} {meth : Method} {c : Code} {H : Heap} {locs : List Loc} {cells slots : Nat} {free : Addr → Prop} {ls : Array Slot} {rest : List Value} {Qc : Array Value → State → Outcome → State → Prop} {XC : String → State → State → Prop}
    {pc : Nat} {own E : String} {ce : Cell} {q : Addr} {mc ms : Nat} (hown : s.vm.findClass own = some m.cls) (hlocks : meth.locks = false)
    (hpass : ∀ z ∈ c.exceptionTable.toList, covers z pc = false ∨ (z.catchType ≠ 0 ∧ ∃ nm : String, (Cond.classLink own z.catchType nm).before args s = true ∧ va_Nc E nm s)) (hcell : H[q]? = some ce) (hv : ce.vm = .none) (hcl : s.vm.findClass E = some ce.cls)
    (hx : ∀ t : State, t.heap = H → s.vm.Alike t.vm → XC E s t) (hf : ∀ z ∈ locs, free z.base) (hc : cells ≤ mc) (hs : slots ≤ ms) :
    vx_W p l e R s m args below meth c H locs cells slots (vx_MQ below Qc XC args s mc ms free) (F0 m pc ls rest) q := by
  intro T hT X
  have hpl : e.platform.magicAccessors = ({} : Platform).magicAccessors := by rw [X.admits.platform]
  obtain ⟨vm', hW', X', st⟩ := X.outThrough hlocks q (g := F0 m pc ls rest) rfl rfl rfl (cell := ce) (by rw [hT]; exact hcell) (by rw [hv]; rfl)
    (by obtain ⟨k9, h9, -⟩ := Vm.findClass_spec hcl; exact ⟨k9, h9⟩) (fun z hz => by
      rcases hpass z hz with h | ⟨hz0, nm, hl1, hn1⟩
      · exact Or.inl h
      · obtain ⟨c6, hc6, hcl6⟩ := Cond.classLink_spec hown hl1 e.platform hpl
        obtain ⟨a8, b8, h1, h2, h3⟩ := hn1
        cases Option.some.inj (h1.symm.trans hcl)
        cases Option.some.inj (h2.symm.trans hc6)
        exact Or.inr ⟨hz0, _, hcl6, h3⟩)
  obtain ⟨g₀, hfr⟩ := X'.frames_eq
  have hcell9 : ((T.setVm vm').setFrames (.throwing q :: below)).heap[q]? = some ce := by
    show T.heap[q]? = some ce
    rw [hT]; exact hcell
  have hend : Ended ((T.setVm vm').setFrames (.throwing q :: below)) below (.threw q) := State.frames_setFrames _ (State.cur_lt_of_frames hfr)
  refine ⟨(T.setVm vm').setFrames (.throwing q :: below), ?_, .threw q, X'.here.running, hend, Or.inr ⟨q, rfl, E, ce, locs, hx _ hT (X'.ends _).1.alike, hcell9, hv, hcl, (X'.ends _).1, (X'.ends _).2.mono hc hs, hf⟩⟩
  rw [X.pushThrowing_eq]
  exact st
/-- a thing of a world lies in the heap -/
theorem vx_lt {D : va_G} {cl : List vw_C} {ws : va_W} {H1 : Heap} (h : va_P D cl ws H1) {k : Nat} {q : Nat × va_E} (hk : ws[k]? = some q) : q.1 < H1.size := (h k q hk).lt
end VXS
/-! ===== END ===== -/
/-! ===== BEGIN methods with a table of their own: called by a name, returning or throwing ===== -/
section VXH
/-! vx_backW, vx_callVX, vx_callSX, vx_callVW, vx_runVW, vx_runVX, vx_runSX, vx_ofWH follow the same proofs as their sisters above (Free/Laws.lean, Shelf42/LK1.lean); vx_outP calls Shelf42/NT130.lean (outThrough). -/
section
variable {l : Launch} {R : Room} {p : Program} {e : Env} {below : List Frame} {s : State} {sargs : Array Value} {y : MethodName} {len W9 : Nat}
theorem vx_backW {ws : List Cond} {rm : Room} {Pc : Array Value → State → Prop} {Qc : Array Value → State → Outcome → State → Prop} {XC : String → State → State → Prop} {mc ms : Nat} {free : Addr → Prop} {bytes : ByteArray} {maxL : Nat} {ret : Option FieldType} {hh : List (Nat × Nat × Nat × Nat)}
    (hM : vx_Met l y ws rm Pc Qc XC mc ms free) (hblind : FrameBlind Pc) (hrc : rm.cells = mc) (hrs : rm.slots = ms)
    (hframes : rm.frames + 1 ≤ R.frames) (hlocals : W9 + (maxL + 11) + rm.locals ≤ R.locals)
    (hws : ∀ w ∈ ws, ∀ a' U, s.WarmedH U.vm → w.before a' U = true) (hcode : Cond.codeWith y bytes maxL ret hh ∈ ws) (hinit : ∀ a' U, s.WarmedH U.vm → (Cond.initialized y.cls).before a' U = true) :
    vx_Back l R p e below s sargs y len W9 (PreOf R mc ms Pc) (PostOf Qc mc ms free) (vx_Post XC mc ms free) := by
  intro m meth c A g ig mk a X hg hsize hdg hW hn hp
  have h1 : (headSpec ws rm).pre.before a A.U = true := atoms_intro fun w hw => hws w hw _ _ X.warmed
  have h2 : (Cond.codeWith y bytes maxL ret hh).before a A.U = true := hws _ hcode _ _ X.warmed
  have h3 : (Cond.initialized y.cls).before a A.U = true := hinit _ _ X.warmed
  have h4 : A.cells + (headSpec ws rm).room.cells ≤ R.cells := by rw [show (headSpec ws rm).room.cells = mc from hrc]; exact hp.1
  have h5 : A.slots + (headSpec ws rm).room.slots ≤ R.slots := by rw [show (headSpec ws rm).room.slots = ms from hrs]; exact hp.2.1
  have hPc : Pc a (A.U.calling g mk a) := hblind _ _ _ _ hp.2.2
  obtain ⟨U, Ls, c0, s0⟩ := A
  dsimp only [Pt.U, Pt.locs, Pt.cells, Pt.slots] at h1 h2 h3 h4 h5 X hn hPc ⊢
  obtain ⟨m9, methY, cY, hn9, hmY, hcY, -, hlY, -⟩ := Cond.codeWith_spec h2
  cases Option.some.inj (hn9.symm.trans hn)
  obtain ⟨kY, hkY, -⟩ := className_of_methodNamed hn
  have hinitY : kY.init = .initialized := Cond.initialized_spec (findClass_of_methodNamed hn) hkY h3
  have h : At U g.method c below := by rw [hg]; exact X.here
  have hlocals9 : W9 + (maxL + 11) + (headSpec ws rm).room.locals ≤ R.locals := hlocals
  have happ : (headSpec ws rm).appliesLoose y e.platform (U.calling g mk a) = true :=
    Spec.appliesLoose_calling (g := g) h hdg hn hkY hinitY
      (X.room_calling (g := g) (R' := (headSpec ws rm).room) hsize hmY hcY hframes (by rw [hlY]; omega) h4 h5) h1
  obtain ⟨mid, hmid⟩ := h.above
  have hfr : (U.setTop g).frames = (.java g :: mid) ++ below := by rw [State.frames_setTop' g h.top, hmid]; rfl
  obtain ⟨o, s₂, hsteps, -, hend, hq⟩ := Steps.callFree hM p X.admits X.cas X.clock (acts := []) hfr happ hPc trivial
  have hq' : vx_Q Qc XC mc ms free a (U.calling g mk a) o s₂ := hq
  rw [State.frames_setTop' g h.top] at hend
  obtain ⟨g₀, hg0⟩ := Option.isSome_iff_exists.mp h.top
  obtain ⟨r, hr⟩ := State.topJava?_eq_some.mp hg0
  have hr' : (({ U with heap := s₂.heap, slotsUsed := s₂.slotsUsed } : State).setVm s₂.vm).frames = .java g₀ :: r := hr
  rcases hq' with ⟨hqc, L, hfe, hL⟩ | ⟨q, rfl, E, ce, L, hx, hce, hcv, hcl, hW₂, hsm, hL⟩
  · obtain ⟨⟨v, rfl⟩, hW₂, e2, q2, q3, q4, q5, q6⟩ := id hfe
    have e3 : s₂ = ({ (U.calling g mk a).setFrames s₂.frames with heap := s₂.heap, slotsUsed := s₂.slotsUsed } : State).setVm s₂.vm := by
      have : s₂ = ({ s₂ with vm := (U.calling g mk a).vm } : State).setVm s₂.vm := rfl
      rw [e2] at this
      exact this
    obtain ⟨c₂, i₂, len₂, hc₂, hd₂, hf₂⟩ := hend
    have hW' : U.WarmedH s₂.vm := hW₂
    have hcc : c₂ = c := by
      have h1 : s₂.code? g.method = U.code? g.method := by
        rw [State.code?_eq, State.code?_eq, hW'.alike.method?]
      exact Option.some.inj (hc₂.symm.trans (h1.trans h.code))
    subst hcc
    have hlen : len₂ = len := by rw [hdg] at hd₂; cases hd₂; rfl
    subst hlen
    have hs₂ : s₂ = (({ U with heap := s₂.heap, slotsUsed := s₂.slotsUsed } : State).setVm s₂.vm).setTop { g with pc := g.pc + len₂, stack := v.toList ++ g.stack } := by
      refine e3.trans ?_
      rw [hf₂, State.calling_eq h.top, State.setFrames_setFrames, State.setTop_of_frames _ hr', hr]
      rfl
    have hsame : U.sameButNew ({ U with heap := s₂.heap, slotsUsed := s₂.slotsUsed } : State) L mc ms := by
      refine ⟨?_, q2, q3, q4, q5, q6⟩
      obtain ⟨t, ht, -⟩ := State.frames_cons hr
      show ({ U with heap := s₂.heap, slotsUsed := s₂.slotsUsed } : State) = { U.setFrames U.frames with heap := s₂.heap, slotsUsed := s₂.slotsUsed }
      rw [State.setFrames_self ht]
    subst hg
    refine Or.inl ⟨v, ⟨(({ U with heap := s₂.heap, slotsUsed := s₂.slotsUsed } : State).setVm s₂.vm), Ls ++ L, c0 + mc, s0 + ms⟩,
      ⟨X.admits, X.cas, X.clock, X.frames, X.room, X.hears, X.method, X.code, (X.here.setHeapUsed s₂.heap s₂.slotsUsed).setVm hW'.alike, X.tail, State.WarmedH.trans X.warmed hW', X.limits, X.bytes, X.same.trans (hsame.setVm s.vm)⟩,
      ⟨g, mk, s₂, L, rfl, rfl, hqc, rfl, hL, rfl, rfl⟩, ?_⟩
    show Steps p.tables e below _ ((({ U with heap := s₂.heap, slotsUsed := s₂.slotsUsed } : State).setVm s₂.vm).setTop { g with pc := g.pc + len₂, stack := v.toList ++ g.stack })
    rw [← hs₂]
    exact hsteps
  · obtain ⟨e2, q2, q3, q4, q5, q6⟩ := id hsm
    have e3 : s₂ = ({ (U.calling g mk a).setFrames s₂.frames with heap := s₂.heap, slotsUsed := s₂.slotsUsed } : State).setVm s₂.vm := by
      have : s₂ = ({ s₂ with vm := (U.calling g mk a).vm } : State).setVm s₂.vm := rfl
      rw [e2] at this
      exact this
    have hf₂ : s₂.frames = .throwing q :: .java g :: U.frames.tail := hend
    have hW' : U.WarmedH s₂.vm := hW₂
    have hs₂ : s₂ = ((({ U with heap := s₂.heap, slotsUsed := s₂.slotsUsed } : State).setVm s₂.vm).setTop g).pushFrame (.throwing q) := by
      refine e3.trans ?_
      rw [hf₂, State.calling_eq h.top, State.setFrames_setFrames, State.pushFrame, State.frames_setTop _ hr', State.setTop_of_frames _ hr', State.setFrames_setFrames, hr]
      rfl
    have hsame : U.sameButNew ({ U with heap := s₂.heap, slotsUsed := s₂.slotsUsed } : State) L mc ms := by
      refine ⟨?_, q2, q3, q4, q5, q6⟩
      obtain ⟨t, ht, -⟩ := State.frames_cons hr
      show ({ U with heap := s₂.heap, slotsUsed := s₂.slotsUsed } : State) = { U.setFrames U.frames with heap := s₂.heap, slotsUsed := s₂.slotsUsed }
      rw [State.setFrames_self ht]
    subst hg
    refine Or.inr ⟨q, ⟨(({ U with heap := s₂.heap, slotsUsed := s₂.slotsUsed } : State).setVm s₂.vm), Ls ++ L, c0 + mc, s0 + ms⟩,
      ⟨X.admits, X.cas, X.clock, X.frames, X.room, X.hears, X.method, X.code, (X.here.setHeapUsed s₂.heap s₂.slotsUsed).setVm hW'.alike, X.tail, State.WarmedH.trans X.warmed hW', X.limits, X.bytes, X.same.trans (hsame.setVm s.vm)⟩,
      ⟨g, mk, s₂, L, E, ce, rfl, rfl, hx, hce, hcv, hcl, rfl, hL, rfl, rfl⟩, ?_⟩
    show Steps p.tables e below _ (((({ U with heap := s₂.heap, slotsUsed := s₂.slotsUsed } : State).setVm s₂.vm).setTop g).pushFrame (.throwing q))
    rw [← hs₂]
    exact hsteps
end
variable {p : Program} {l : Launch} {e : Env} {R : Room} {s : State} {m : MethodId} {args : Array Value} {below : List Frame} {meth : Method} {c : Code} {T : State} {H : Heap} {locs : List Loc} {cells slots : Nat}
theorem vx_callVX (X : Stand p l e R s m args below meth c T locs cells slots) (hexec : p.tables.exec = Jvm.exec) {own C : String} {index : Nat} {y : MethodName} {bytes : ByteArray} {maxL : Nat} {ret : Option FieldType} {hh : List (Nat × Nat × Nat × Nat)}
    (hown : s.vm.findClass own = some m.cls) (hlink : (Cond.methodLink own index y).before args s = true) (hinst : (Cond.instanceMethod y).before args s = true) (hsel : (Cond.selects C y y).before args s = true)
    (hcode : (Cond.codeWith y bytes maxL ret hh).before args s = true) (hy : y.cls ≠ "java/lang/invoke/MethodHandle" ∧ y.cls ≠ "java/lang/invoke/VarHandle")
    {W9 : Nat} {Pre : Pt → Array Value → Prop} {Post : Pt → Array Value → Option Value → Pt → Prop} {PostX : Pt → Array Value → Addr → Pt → Prop} (hK : vx_Back l R p e below s args y 3 W9 Pre Post PostX)
    {b : Addr} {cellB : Cell} (hcell : T.heap[b]? = some cellB) (hobj : cellB.vm.isStatics = false) (hcls : s.vm.findClass C = some cellB.cls)
    {g : JFrame} (hg : g.method = m) (hsize : g.locals.size = c.maxLocals) {argsL rest : List Value} (hlen : ∀ sig, parseMethodDescriptor y.desc = some sig → argsL.length = sig.parameters.length)
    (hstack : g.stack = argsL.reverse ++ .ref b :: rest) (hW : 2 * g.monitorRoom + (rest.map fun v => v.category).sum ≤ W9) (hdg : decode c.code g.pc = .ok (.invokevirtual index, 3))
    (hpre : ∀ vm₁, s.WarmedH vm₁ → Pre ⟨T.setVm vm₁, locs, cells, slots⟩ (Value.ref b :: argsL).toArray) :
    (∃ (v : Option Value) (vm₁ : Vm) (B : Pt), s.WarmedH vm₁ ∧ Stand p l e R s m args below meth c B.U B.locs B.cells B.slots ∧ Post ⟨T.setVm vm₁, locs, cells, slots⟩ (Value.ref b :: argsL).toArray v B ∧
      ∀ target, Steps p.tables e below (B.U.setTop { g with pc := g.pc + 3, stack := v.toList ++ rest }) target → Steps p.tables e below (T.setTop g) target) ∨
    (∃ (q : Addr) (vm₁ : Vm) (B : Pt), s.WarmedH vm₁ ∧ Stand p l e R s m args below meth c B.U B.locs B.cells B.slots ∧ PostX ⟨T.setVm vm₁, locs, cells, slots⟩ (Value.ref b :: argsL).toArray q B ∧
      Steps p.tables e below (T.setTop g) ((B.U.setTop { g with stack := rest }).pushFrame (.throwing q))) := by
  obtain ⟨mk, methM, hnamed, hmethM, hstM, habM⟩ := Cond.instanceMethod_spec hinst
  obtain ⟨m8, methM', cM, hn8, hmethM', -, -, -, -, -, -, hsigM⟩ := Cond.codeWith_spec hcode
  cases Option.some.inj (hn8.symm.trans hnamed)
  cases hmethM.symm.trans hmethM'
  obtain ⟨c2, r2, m2, q1, q2, q3, q4, kP, hkP, hkPi⟩ := Cond.selects_spec hsel
  cases hcls.symm.trans q1
  cases (State.methodFound?_of_named hnamed hy).symm.trans q2
  cases hnamed.symm.trans q3
  have hselP : selectMethod e.platform s.vm cellB.cls mk = .method mk := by rw [Launch.admits_selectMethod X.admits]; exact q4
  obtain ⟨vm₁, X₁, hstep₁⟩ := X.invokevirtual hexec hown hlink hnamed hmethM hstM hkP hkPi hy (a := b) (cell := cellB) hcell
    (fun z h => by rw [h] at hobj; cases hobj) hselP hmethM habM hkP hkPi (g := g) hg (argsL := argsL) (rest := rest) (hlen _ hsigM) hstack hdg
  rcases hK m meth c ⟨T.setVm vm₁, locs, cells, slots⟩ { g with stack := rest } (.invokevirtual index) mk (Value.ref b :: argsL).toArray X₁ hg hsize hdg hW (X₁.named hnamed) (hpre vm₁ X₁.warmed) with ⟨v, B, X', hpost, hsteps⟩ | ⟨q, B, X', hpost, hsteps⟩
  · exact Or.inl ⟨v, vm₁, B, X₁.warmed, X', hpost, fun target h => hstep₁ _ fun acts => by rw [doInvoke_state]; exact hsteps.trans h⟩
  · exact Or.inr ⟨q, vm₁, B, X₁.warmed, X', hpost, hstep₁ _ fun acts => by rw [doInvoke_state]; exact hsteps⟩
theorem vx_callSX (X : Stand p l e R s m args below meth c T locs cells slots) (hexec : p.tables.exec = Jvm.exec) {own : String} {index : Nat} {y : MethodName} {bytes : ByteArray} {maxL : Nat} {ret : Option FieldType} {hh : List (Nat × Nat × Nat × Nat)}
    (hown : s.vm.findClass own = some m.cls) (hlink : (Cond.methodLink own index y).before args s = true) (hstat : (Cond.static y).before args s = true) (hinit : (Cond.initialized y.cls).before args s = true)
    (hcode : (Cond.codeWith y bytes maxL ret hh).before args s = true) (hy : y.cls ≠ "java/lang/invoke/MethodHandle" ∧ y.cls ≠ "java/lang/invoke/VarHandle")
    {W9 : Nat} {Pre : Pt → Array Value → Prop} {Post : Pt → Array Value → Option Value → Pt → Prop} {PostX : Pt → Array Value → Addr → Pt → Prop} (hK : vx_Back l R p e below s args y 3 W9 Pre Post PostX)
    {g : JFrame} (hg : g.method = m) (hsize : g.locals.size = c.maxLocals) {argsL rest : List Value} (hlen : ∀ sig, parseMethodDescriptor y.desc = some sig → argsL.length = sig.parameters.length)
    (hstack : g.stack = argsL.reverse ++ rest) (hW : 2 * g.monitorRoom + (rest.map fun v => v.category).sum ≤ W9) (hdg : decode c.code g.pc = .ok (.invokestatic index, 3))
    (hpre : ∀ vm₁, s.WarmedH vm₁ → Pre ⟨T.setVm vm₁, locs, cells, slots⟩ argsL.toArray) :
    (∃ (v : Option Value) (vm₁ : Vm) (B : Pt), s.WarmedH vm₁ ∧ Stand p l e R s m args below meth c B.U B.locs B.cells B.slots ∧ Post ⟨T.setVm vm₁, locs, cells, slots⟩ argsL.toArray v B ∧
      ∀ target, Steps p.tables e below (B.U.setTop { g with pc := g.pc + 3, stack := v.toList ++ rest }) target → Steps p.tables e below (T.setTop g) target) ∨
    (∃ (q : Addr) (vm₁ : Vm) (B : Pt), s.WarmedH vm₁ ∧ Stand p l e R s m args below meth c B.U B.locs B.cells B.slots ∧ PostX ⟨T.setVm vm₁, locs, cells, slots⟩ argsL.toArray q B ∧
      Steps p.tables e below (T.setTop g) ((B.U.setTop { g with stack := rest }).pushFrame (.throwing q))) := by
  obtain ⟨mk, methM, cM, hnamed, hmethM, -, -, -, -, -, -, hsigM⟩ := Cond.codeWith_spec hcode
  have hstatic : methM.isStatic = true := Cond.static_spec hnamed hmethM hstat
  obtain ⟨kP, hkP, -⟩ := className_of_methodNamed hnamed
  have hinitP : kP.init = .initialized := Cond.initialized_spec (findClass_of_methodNamed hnamed) hkP hinit
  obtain ⟨vm₁, X₁, hstep₁⟩ := X.invokestatic hexec hown hlink hnamed hmethM hstatic hkP hinitP hy (g := g) hg (argsL := argsL) (rest := rest) (hlen _ hsigM) hstack hdg
  rcases hK m meth c ⟨T.setVm vm₁, locs, cells, slots⟩ { g with stack := rest } (.invokestatic index) mk argsL.toArray X₁ hg hsize hdg hW (X₁.named hnamed) (hpre vm₁ X₁.warmed) with ⟨v, B, X', hpost, hsteps⟩ | ⟨q, B, X', hpost, hsteps⟩
  · exact Or.inl ⟨v, vm₁, B, X₁.warmed, X', hpost, fun target h => hstep₁ _ fun acts => by rw [doInvoke_state]; exact hsteps.trans h⟩
  · exact Or.inr ⟨q, vm₁, B, X₁.warmed, X', hpost, hstep₁ _ fun acts => by rw [doInvoke_state]; exact hsteps⟩
theorem vx_callVW (X : Stand p l e R s m args below meth c T locs cells slots) (hexec : p.tables.exec = Jvm.exec) {own C : String} {index : Nat} {y : MethodName} {bytes : ByteArray} {maxL : Nat} {ret : Option FieldType} {hh : List (Nat × Nat × Nat × Nat)}
    (hown : s.vm.findClass own = some m.cls) (hlink : (Cond.methodLink own index y).before args s = true) (hinst : (Cond.instanceMethod y).before args s = true) (hsel : (Cond.selects C y y).before args s = true)
    (hcode : (Cond.codeWith y bytes maxL ret hh).before args s = true) (hy : y.cls ≠ "java/lang/invoke/MethodHandle" ∧ y.cls ≠ "java/lang/invoke/VarHandle")
    {W9 : Nat} {Pre : Pt → Array Value → Prop} {Post : Pt → Array Value → Option Value → Pt → Prop} (hK : Back l R p e below s args y 3 W9 Pre Post)
    {b : Addr} {cellB : Cell} (hcell : T.heap[b]? = some cellB) (hobj : cellB.vm.isStatics = false) (hcls : s.vm.findClass C = some cellB.cls)
    {g : JFrame} (hg : g.method = m) (hsize : g.locals.size = c.maxLocals) {argsL rest : List Value} (hlen : ∀ sig, parseMethodDescriptor y.desc = some sig → argsL.length = sig.parameters.length)
    (hstack : g.stack = argsL.reverse ++ .ref b :: rest) (hW : 2 * g.monitorRoom + (rest.map fun v => v.category).sum ≤ W9) (hdg : decode c.code g.pc = .ok (.invokevirtual index, 3))
    (hpre : ∀ vm₁, s.WarmedH vm₁ → Pre ⟨T.setVm vm₁, locs, cells, slots⟩ (Value.ref b :: argsL).toArray) :
    ∃ (v : Option Value) (vm₁ : Vm) (B : Pt), s.WarmedH vm₁ ∧ Stand p l e R s m args below meth c B.U B.locs B.cells B.slots ∧ Post ⟨T.setVm vm₁, locs, cells, slots⟩ (Value.ref b :: argsL).toArray v B ∧
      ∀ target, Steps p.tables e below (B.U.setTop { g with pc := g.pc + 3, stack := v.toList ++ rest }) target → Steps p.tables e below (T.setTop g) target := by
  obtain ⟨mk, methM, hnamed, hmethM, hstM, habM⟩ := Cond.instanceMethod_spec hinst
  obtain ⟨m8, methM', cM, hn8, hmethM', -, -, -, -, -, -, hsigM⟩ := Cond.codeWith_spec hcode
  cases Option.some.inj (hn8.symm.trans hnamed)
  cases hmethM.symm.trans hmethM'
  obtain ⟨c2, r2, m2, q1, q2, q3, q4, kP, hkP, hkPi⟩ := Cond.selects_spec hsel
  cases hcls.symm.trans q1
  cases (State.methodFound?_of_named hnamed hy).symm.trans q2
  cases hnamed.symm.trans q3
  have hselP : selectMethod e.platform s.vm cellB.cls mk = .method mk := by rw [Launch.admits_selectMethod X.admits]; exact q4
  obtain ⟨vm₁, X₁, hstep₁⟩ := X.invokevirtual hexec hown hlink hnamed hmethM hstM hkP hkPi hy (a := b) (cell := cellB) hcell
    (fun z h => by rw [h] at hobj; cases hobj) hselP hmethM habM hkP hkPi (g := g) hg (argsL := argsL) (rest := rest) (hlen _ hsigM) hstack hdg
  obtain ⟨v, B, X', hpost, hsteps⟩ := hK m meth c ⟨T.setVm vm₁, locs, cells, slots⟩ { g with stack := rest } (.invokevirtual index) mk (Value.ref b :: argsL).toArray X₁ hg hsize hdg hW (X₁.named hnamed) (hpre vm₁ X₁.warmed)
  exact ⟨v, vm₁, B, X₁.warmed, X', hpost, fun target h => hstep₁ _ fun acts => by rw [doInvoke_state]; exact hsteps.trans h⟩
abbrev vx_CVW (R : Room) (s : State) (args : Array Value) (own C : String) (index : Nat) (y : MethodName) (bytes : ByteArray) (maxL : Nat) (ret : Option FieldType) (hh : List (Nat × Nat × Nat × Nat)) (ws : List Cond) (rm : Room) (mc ms n : Nat) : Prop :=
  (rm.cells = mc ∧ rm.slots = ms ∧ rm.frames + 1 ≤ R.frames ∧ 8 + (maxL + 11) + rm.locals ≤ R.locals ∧ (∀ w ∈ ws, ∀ (a' : Array Value) (U : State), s.WarmedH U.vm → w.before a' U = true) ∧ Cond.codeWith y bytes maxL ret hh ∈ ws) ∧
  (Cond.codeWith y bytes maxL ret hh).before args s = true ∧ (Cond.initialized y.cls).before args s = true ∧ (y.cls ≠ "java/lang/invoke/MethodHandle" ∧ y.cls ≠ "java/lang/invoke/VarHandle") ∧
  (∀ sig, parseMethodDescriptor y.desc = some sig → n = sig.parameters.length) ∧ (Cond.methodLink own index y).before args s = true ∧ (Cond.instanceMethod y).before args s = true ∧ (Cond.selects C y y).before args s = true
theorem vx_cwVW {own C : String} {index maxL mc ms : Nat} {y : MethodName} {bytes : ByteArray} {ret : Option FieldType} {hh : List (Nat × Nat × Nat × Nat)} {Ts ws ws' : List Cond} {rm : Room} (n : Nat) (ht : ∀ w ∈ Ts, w.before args s = true) (hT : GoodIn Ts (wsV own index C y ws)) (hw : ws = Cond.codeWith y bytes maxL ret hh :: ws') (hrc : rm.cells = mc) (hrs : rm.slots = ms)
    (hd : y.cls = C ∧ y.cls ≠ "java/lang/invoke/MethodHandle" ∧ y.cls ≠ "java/lang/invoke/VarHandle" ∧ (parseMethodDescriptor y.desc).map (fun d => d.parameters.length) = some n) (hR : rm.frames + 1 ≤ R.frames ∧ 8 + (maxL + 11) + rm.locals ≤ R.locals) :
    vx_CVW R s args own C index y bytes maxL ret hh ws rm mc ms n := by
  obtain ⟨hC, hd⟩ := hd
  subst hC
  have ok : ∀ w ∈ wsV own index y.cls y ws, w.before args s = true := fun w h => ht w (hT w h).1
  have hG : GoodIn Ts ws := fun w h => hT w (by unfold wsV; exact List.mem_append_right _ h)
  have hc : Cond.codeWith y bytes maxL ret hh ∈ ws := by rw [hw]; exact List.mem_cons_self
  refine ⟨⟨hrc, hrs, hR.1, hR.2, pay_in ht hG, hc⟩, ht _ (hG _ hc).1, ok _ (by simp [wsV]), ⟨hd.1, hd.2.1⟩, fun sig h => ?_, ok _ (by simp [wsV]), ok _ (by simp [wsV]), ok _ (by simp [wsV])⟩
  have h2 := hd.2.2
  rw [h] at h2
  exact (Option.some.inj h2).symm
theorem vx_runVW {y : MethodName} {bytes cc : ByteArray} {maxL nL mc ms n index : Nat} {ret : Option FieldType} {hh : List (Nat × Nat × Nat × Nat)} {ws : List Cond} {rm : Room} {Pc : Array Value → State → Prop} {Qc : Array Value → State → Outcome → State → Prop} {free : Addr → Prop} {Ts : List Cond} {own C : String} {b : Addr} {As rest : List Value} {g : JFrame}
    (S : CallFix p m c cc nL s args Ts own) (hM : Met l y ws rm Pc Qc mc ms free) (cw : vx_CVW R s args own C index y bytes maxL ret hh ws rm mc ms n) (hp : PreV s H C b Pc As)
    (hg : g.method = m) (hn : As.length = n) (hsize : g.locals.size = nL) (hstack : g.stack = As.reverse ++ .ref b :: rest) (hW : 2 * g.monitorRoom + (rest.map fun v => v.category).sum ≤ 8) (hdg : decode cc g.pc = .ok (.invokevirtual index, 3)) (hf : cells + mc ≤ R.cells ∧ slots + ms ≤ R.slots) :
    va_Run p l e R s m args below meth c H locs cells slots mc ms g rest (Qc (Value.ref b :: As).toArray) free := by
  obtain ⟨⟨hrc, hrs, hfr, hlo, hws, hcw⟩, hcode, hini, hy, hlen, hl, hin, hse⟩ := cw
  have hK : Back l R p e below s args y 3 8 (PreOf R mc ms Pc) (PostOf Qc mc ms free) := va_backW (hh := hh) (bytes := bytes) (maxL := maxL) (ret := ret) hM hp.1 hrc hrs hfr hlo hws hcw (fun a' U hW => word_at hW (Or.inl (by first | rfl | simp [Cond.onTables, Cond.keeps, Cond.steady])) hini)
  obtain ⟨hx, hb, hml, ho, -⟩ := S
  obtain ⟨-, ⟨cellB, hcB, hoB, hclB⟩, hPc⟩ := hp
  intro T hT X
  obtain ⟨v, vm₁, ⟨U', l2, c2, s2⟩, hW₁, X', ⟨g', mk, t, L, e1, e2, hq, h1, hL, h2, h3⟩, st⟩ := vx_callVW X hx (C := C) (hh := hh) (bytes := bytes) (maxL := maxL) (ret := ret) ho hl hin hse hcode hy hK (by rw [hT]; exact hcB) hoB hclB hg (hsize.trans hml.symm) (argsL := As) (rest := rest) (fun sig h => hn.trans (hlen sig h)) hstack hW (by rw [hb]; exact hdg)
    (fun vm₁ hW₁ => ⟨hf.1, hf.2, hPc (T.setVm vm₁) hT hW₁⟩)
  dsimp only [Pt.U, Pt.locs, Pt.cells, Pt.slots] at X' e1 e2 h1 h2 h3 st
  subst h1; subst h2; subst h3
  exact ⟨v, (T.setVm vm₁).calling g' mk (Value.ref b :: As).toArray, t, U', L, hT, X', hL, e1, e2, hq, st⟩
section
variable {y : MethodName} {bytes cc : ByteArray} {maxL nL mc ms n index : Nat} {ret : Option FieldType} {ws : List Cond} {rm : Room} {Pc : Array Value → State → Prop} {Qc : Array Value → State → Outcome → State → Prop} {XC : String → State → State → Prop} {free : Addr → Prop} {Ts : List Cond} {own C : String} {b : Addr} {As rest : List Value} {g : JFrame}
theorem vx_runVX {hh : List (Nat × Nat × Nat × Nat)} (S : CallFix p m c cc nL s args Ts own) (hM : vx_Met l y ws rm Pc Qc XC mc ms free) (cw : vx_CVW R s args own C index y bytes maxL ret hh ws rm mc ms n) (hp : PreV s H C b Pc As)
    (hg : g.method = m) (hn : As.length = n) (hsize : g.locals.size = nL) (hstack : g.stack = As.reverse ++ .ref b :: rest) (hW : 2 * g.monitorRoom + (rest.map fun v => v.category).sum ≤ 8) (hdg : decode cc g.pc = .ok (.invokevirtual index, 3)) (hf : cells + mc ≤ R.cells ∧ slots + ms ≤ R.slots) :
    vx_Run p l e R s m args below meth c H locs cells slots mc ms g rest (Qc (Value.ref b :: As).toArray) XC free := by
  obtain ⟨⟨hrc, hrs, hfr, hlo, hws, hcw⟩, hcode, hini, hy, hlen, hl, hin, hse⟩ := cw
  have hK : vx_Back l R p e below s args y 3 8 (PreOf R mc ms Pc) (PostOf Qc mc ms free) (vx_Post XC mc ms free) := vx_backW (hh := hh) (bytes := bytes) (maxL := maxL) (ret := ret) hM hp.1 hrc hrs hfr hlo hws hcw (fun a' U hW => word_at hW (Or.inl (by first | rfl | simp [Cond.onTables, Cond.keeps, Cond.steady])) hini)
  obtain ⟨hx, hb, hml, ho, -⟩ := S
  obtain ⟨-, ⟨cellB, hcB, hoB, hclB⟩, hPc⟩ := hp
  intro T hT X
  rcases vx_callVX X hx (C := C) (hh := hh) (bytes := bytes) (maxL := maxL) (ret := ret) ho hl hin hse hcode hy hK (by rw [hT]; exact hcB) hoB hclB hg (hsize.trans hml.symm) (argsL := As) (rest := rest) (fun sig h => hn.trans (hlen sig h)) hstack hW (by rw [hb]; exact hdg)
    (fun vm₁ hW₁ => ⟨hf.1, hf.2, hPc (T.setVm vm₁) hT hW₁⟩) with ⟨v, vm₁, ⟨U', l2, c2, s2⟩, hW₁, X', ⟨g', mk, t, L, e1, e2, hq, h1, hL, h2, h3⟩, st⟩ | ⟨q, vm₁, ⟨U', l2, c2, s2⟩, hW₁, X', ⟨g', mk, t, L, E, ce, e1, e2, hq, hce, hcv, hcl, h1, hL, h2, h3⟩, st⟩
  · dsimp only [Pt.U, Pt.locs, Pt.cells, Pt.slots] at X' e1 e2 h1 h2 h3 st
    subst h1; subst h2; subst h3
    exact Or.inl ⟨v, (T.setVm vm₁).calling g' mk (Value.ref b :: As).toArray, t, U', L, hT, X', hL, e1, e2, hq, st⟩
  · dsimp only [Pt.U, Pt.locs, Pt.cells, Pt.slots] at X' e1 e2 h1 h2 h3 st hcl
    subst h1; subst h2; subst h3
    exact Or.inr ⟨q, (T.setVm vm₁).calling g' mk (Value.ref b :: As).toArray, t, U', L, E, ce, hT, X', hL, e1, e2, hq, hce, hcv, vx_cls hW₁ hcl, st⟩
theorem vx_runSX {hh : List (Nat × Nat × Nat × Nat)} (S : CallFix p m c cc nL s args Ts own) (hM : vx_Met l y ws rm Pc Qc XC mc ms free) (cw : vx_CSW R s args own index y bytes maxL ret hh ws rm mc ms n) (hp : PreS s H Pc As)
    (hg : g.method = m) (hn : As.length = n) (hsize : g.locals.size = nL) (hstack : g.stack = As.reverse ++ rest) (hW : 2 * g.monitorRoom + (rest.map fun v => v.category).sum ≤ 8) (hdg : decode cc g.pc = .ok (.invokestatic index, 3)) (hf : cells + mc ≤ R.cells ∧ slots + ms ≤ R.slots) :
    vx_Run p l e R s m args below meth c H locs cells slots mc ms g rest (Qc As.toArray) XC free := by
  obtain ⟨⟨hrc, hrs, hfr, hlo, hws, hcw⟩, hcode, hini, hy, hlen, hl, hstt⟩ := cw
  have hK : vx_Back l R p e below s args y 3 8 (PreOf R mc ms Pc) (PostOf Qc mc ms free) (vx_Post XC mc ms free) := vx_backW (hh := hh) (bytes := bytes) (maxL := maxL) (ret := ret) hM hp.1 hrc hrs hfr hlo hws hcw (fun a' U hW => word_at hW (Or.inl (by first | rfl | simp [Cond.onTables, Cond.keeps, Cond.steady])) hini)
  obtain ⟨hx, hb, hml, ho, -⟩ := S
  intro T hT X
  rcases vx_callSX X hx (hh := hh) (bytes := bytes) (maxL := maxL) (ret := ret) ho hl hstt hini hcode hy hK hg (hsize.trans hml.symm) (argsL := As) (rest := rest) (fun sig h => hn.trans (hlen sig h)) hstack hW (by rw [hb]; exact hdg)
    (fun vm₁ hW₁ => ⟨hf.1, hf.2, hp.2 (T.setVm vm₁) hT hW₁⟩) with ⟨v, vm₁, ⟨U', l2, c2, s2⟩, hW₁, X', ⟨g', mk, t, L, e1, e2, hq, h1, hL, h2, h3⟩, st⟩ | ⟨q, vm₁, ⟨U', l2, c2, s2⟩, hW₁, X', ⟨g', mk, t, L, E, ce, e1, e2, hq, hce, hcv, hcl, h1, hL, h2, h3⟩, st⟩
  · dsimp only [Pt.U, Pt.locs, Pt.cells, Pt.slots] at X' e1 e2 h1 h2 h3 st
    subst h1; subst h2; subst h3
    exact Or.inl ⟨v, (T.setVm vm₁).calling g' mk As.toArray, t, U', L, hT, X', hL, e1, e2, hq, st⟩
  · dsimp only [Pt.U, Pt.locs, Pt.cells, Pt.slots] at X' e1 e2 h1 h2 h3 st hcl
    subst h1; subst h2; subst h3
    exact Or.inr ⟨q, (T.setVm vm₁).calling g' mk As.toArray, t, U', L, E, ce, hT, X', hL, e1, e2, hq, hce, hcv, vx_cls hW₁ hcl, st⟩
end
end VXH
theorem vx_ofWH {l : Launch} {y : MethodName} {ws ws' : List Cond} {rm : Room} {Pc : Array Value → State → Prop} {Qc : Array Value → State → Outcome → State → Prop} {XC : String → State → State → Prop} {mc ms : Nat} {free : Addr → Prop} {cc : ByteArray} {maxL : Nat} {ret : Option FieldType} {hh : List (Nat × Nat × Nat × Nat)}
    (hy : plainName y.cls = true) (hw : ws = Cond.codeWith y cc maxL ret hh :: ws')
    (body : ∀ p e s m args below meth c s₁, BodyLoose p l y (headSpec ws rm) cc maxL ret e s m args below meth c s₁ → c.maxLocals = maxL → Pc args s →
      W p l e (headSpec ws rm).room s m args below meth c s.heap [] 0 0 (vx_MQ below Qc XC args s mc ms free) (entryFrame m args maxL)) : vx_Met l y ws rm Pc Qc XC mc ms free := by
  refine MetFree.of_bodyS (code := cc) (maxLocals := maxL) (ret := ret) hy ?_ ?_
  · intro args s m h hn
    obtain ⟨m9, meth, c, hn9, h1, h2, h3, h4, -, h5, h6, -⟩ := Cond.codeWith_spec (atoms_spec (ws := ws) h _ (by rw [hw]; exact List.mem_cons_self))
    cases hn.symm.trans hn9
    exact ⟨meth, c, h1, h2, h3, h4, h5, h6⟩
  · intro p e s m args below meth c s₁ B hml hP _
    have hh0 : s₁.heap = s.heap := by rw [B.state]; rfl
    obtain ⟨t, a1, o, b1, b2, b3⟩ := body p e s m args below meth c s₁ B hml hP s₁ hh0 (Stand.of_body B)
    exact ⟨t, o, a1, b1, b2, b3⟩
/-! ===== END ===== -/
end
section
/-! ===== BEGIN printed: names, fields, word lists, decode rows ===== -/
def RX0 : String := "CombersSociety$Member"
def TX0 : u_T := fun k => match k with
  | 0 => ("CombersSociety$Member", "skill", "I", false)
  | 1 => ("CombersSociety$Member", "strength", "I", false)
  | 2 => ("CombersSociety$Member", "coins", "I", false)
  | 3 => ("CombersSociety$Member", "marks", "I", false)
  | 4 => ("CombersSociety$Member", "unpaid", "I", false)
  | 5 => ("CombersSociety$Member", "pot", "I", false)
  | 6 => ("CombersSociety$Member", "health", "I", false)
  | 7 => ("CombersSociety$Member", "weeksLeft", "I", false)
  | 8 => ("CombersSociety$Member", "weeksSick", "I", false)
  | _ => ("CombersSociety$Member", "unburied", "Z", false)
def tyX0 : Nat → FieldType := fun k => match k with
  | 0 => .int
  | 1 => .int
  | 2 => .int
  | 3 => .int
  | 4 => .int
  | 5 => .int
  | 6 => .int
  | 7 => .int
  | 8 => .int
  | _ => .boolean
abbrev wsX00 : List Cond := u_ws RX0 TX0 10
theorem nmX0 : ∀ a, a < 10 → ∀ b, b < 10 → a ≠ b → (TX0 a).2.1 ≠ (TX0 b).2.1 := by decide +kernel
theorem tyX0_ok : ∀ k, k < 10 → parseFieldDescriptor (TX0 k).2.2.1 = some (tyX0 k) := by decide +kernel
abbrev cX0_init : ByteArray := prog_2_method_1_code
def yX0_init : MethodName := ⟨RX0, "<init>", "()V"⟩
abbrev cX0_enter : ByteArray := prog_2_method_2_code
def yX0_enter : MethodName := ⟨RX0, "enter", "(II)V"⟩
abbrev cX0_copyFrom : ByteArray := prog_2_method_3_code
def yX0_copyFrom : MethodName := ⟨RX0, "copyFrom", "(LCombersSociety$Member;)V"⟩
abbrev cX0_combs : ByteArray := prog_2_method_4_code
def yX0_combs : MethodName := ⟨RX0, "combs", "()Z"⟩
abbrev cX0_lives : ByteArray := prog_2_method_5_code
def yX0_lives : MethodName := ⟨RX0, "lives", "()Z"⟩
abbrev cX0_fallSick : ByteArray := prog_2_method_6_code
def yX0_fallSick : MethodName := ⟨RX0, "fallSick", "()V"⟩
abbrev cX0_getWell : ByteArray := prog_2_method_7_code
def yX0_getWell : MethodName := ⟨RX0, "getWell", "()V"⟩
abbrev cX0_die : ByteArray := prog_2_method_8_code
def yX0_die : MethodName := ⟨RX0, "die", "()V"⟩
abbrev cX0_payMarks : ByteArray := prog_2_method_9_code
def yX0_payMarks : MethodName := ⟨RX0, "payMarks", "()I"⟩
abbrev cX0_payDues : ByteArray := prog_2_method_10_code
def yX0_payDues : MethodName := ⟨RX0, "payDues", "(I)I"⟩
abbrev cX0_spendClubNight : ByteArray := prog_2_method_11_code
def yX0_spendClubNight : MethodName := ⟨RX0, "spendClubNight", "()I"⟩
abbrev cX0_fact : ByteArray := prog_2_method_12_code
def yX0_fact : MethodName := ⟨RX0, "fact", "(I)I"⟩
def RX1 : String := "CombersSociety$Society"
def TX1 : u_T := fun k => match k with
  | 0 => ("CombersSociety$Society", "week", "I", false)
  | 1 => ("CombersSociety$Society", "joined", "I", false)
  | 2 => ("CombersSociety$Society", "box", "I", false)
  | 3 => ("CombersSociety$Society", "coals", "I", false)
  | 4 => ("CombersSociety$Society", "wool", "I", false)
  | 5 => ("CombersSociety$Society", "tops", "I", false)
  | 6 => ("CombersSociety$Society", "dues", "I", false)
  | 7 => ("CombersSociety$Society", "sickPaid", "I", false)
  | 8 => ("CombersSociety$Society", "funeralsPaid", "I", false)
  | 9 => ("CombersSociety$Society", "fellShort", "Z", false)
  | 10 => ("CombersSociety$Society", "fevers", "[I", true)
  | 11 => ("CombersSociety$Society", "heats", "[I", true)
  | 12 => ("CombersSociety$Society", "combing", "[I", true)
  | _ => ("CombersSociety$Society", "members", "[LCombersSociety$Member;", true)
def tyX1 : Nat → FieldType := fun k => match k with
  | 0 => .int
  | 1 => .int
  | 2 => .int
  | 3 => .int
  | 4 => .int
  | 5 => .int
  | 6 => .int
  | 7 => .int
  | 8 => .int
  | 9 => .boolean
  | 10 => .array .int
  | 11 => .array .int
  | 12 => .array .int
  | _ => .array (.object "CombersSociety$Member")
abbrev wsX10 : List Cond := u_ws RX1 TX1 14
theorem nmX1 : ∀ a, a < 14 → ∀ b, b < 14 → a ≠ b → (TX1 a).2.1 ≠ (TX1 b).2.1 := by decide +kernel
theorem tyX1_ok : ∀ k, k < 14 → parseFieldDescriptor (TX1 k).2.2.1 = some (tyX1 k) := by decide +kernel
abbrev cX1_init : ByteArray := prog_3_method_1_code
def yX1_init : MethodName := ⟨RX1, "<init>", "()V"⟩
abbrev cX1_copyFrom : ByteArray := prog_3_method_2_code
def yX1_copyFrom : MethodName := ⟨RX1, "copyFrom", "(LCombersSociety$Society;)V"⟩
abbrev cX1_hasMember : ByteArray := prog_3_method_3_code
def yX1_hasMember : MethodName := ⟨RX1, "hasMember", "(I)Z"⟩
abbrev cX1_hasRoom : ByteArray := prog_3_method_4_code
def yX1_hasRoom : MethodName := ⟨RX1, "hasRoom", "(ILCombersSociety$Member;)Z"⟩
abbrev cX1_heatOf : ByteArray := prog_3_method_5_code
def yX1_heatOf : MethodName := ⟨RX1, "heatOf", "(I)I"⟩
abbrev cX1_atPot : ByteArray := prog_3_method_6_code
def yX1_atPot : MethodName := ⟨RX1, "atPot", "(I)I"⟩
abbrev cX1_combersAt : ByteArray := prog_3_method_7_code
def yX1_combersAt : MethodName := ⟨RX1, "combersAt", "(I)I"⟩
abbrev cX1_countCombers : ByteArray := prog_3_method_8_code
def yX1_countCombers : MethodName := ⟨RX1, "countCombers", "()V"⟩
abbrev cX1_howMany : ByteArray := prog_3_method_9_code
def yX1_howMany : MethodName := ⟨RX1, "howMany", "(I)I"⟩
abbrev cX1_coinsInPurses : ByteArray := prog_3_method_10_code
def yX1_coinsInPurses : MethodName := ⟨RX1, "coinsInPurses", "()I"⟩
abbrev cX1_marksOfAll : ByteArray := prog_3_method_11_code
def yX1_marksOfAll : MethodName := ⟨RX1, "marksOfAll", "()I"⟩
abbrev cX1_tally : ByteArray := prog_3_method_12_code
def yX1_tally : MethodName := ⟨RX1, "tally", "(I)I"⟩
abbrev cX1_liveWeeks : ByteArray := prog_3_method_13_code
def yX1_liveWeeks : MethodName := ⟨RX1, "liveWeeks", "(I)V"⟩
abbrev cX1_liveWeek : ByteArray := prog_3_method_14_code
def yX1_liveWeek : MethodName := ⟨RX1, "liveWeek", "()V"⟩
abbrev cX1_lightFires : ByteArray := prog_3_method_15_code
def yX1_lightFires : MethodName := ⟨RX1, "lightFires", "()V"⟩
abbrev cX1_poundsOf : ByteArray := prog_3_method_16_code
def yX1_poundsOf : MethodName := ⟨RX1, "poundsOf", "(LCombersSociety$Member;)I"⟩
abbrev cX1_poundsOfPot : ByteArray := prog_3_method_17_code
def yX1_poundsOfPot : MethodName := ⟨RX1, "poundsOfPot", "(I)I"⟩
abbrev cX1_combWool : ByteArray := prog_3_method_18_code
def yX1_combWool : MethodName := ⟨RX1, "combWool", "()V"⟩
abbrev cX1_spreadFever : ByteArray := prog_3_method_19_code
def yX1_spreadFever : MethodName := ⟨RX1, "spreadFever", "()V"⟩
abbrev cX1_nurseSick : ByteArray := prog_3_method_20_code
def yX1_nurseSick : MethodName := ⟨RX1, "nurseSick", "()V"⟩
abbrev cX1_nurse : ByteArray := prog_3_method_21_code
def yX1_nurse : MethodName := ⟨RX1, "nurse", "(LCombersSociety$Member;)V"⟩
abbrev cX1_payOut : ByteArray := prog_3_method_22_code
def yX1_payOut : MethodName := ⟨RX1, "payOut", "(I)I"⟩
abbrev cX1_takeDues : ByteArray := prog_3_method_23_code
def yX1_takeDues : MethodName := ⟨RX1, "takeDues", "()V"⟩
abbrev cX1_holdClubNight : ByteArray := prog_3_method_24_code
def yX1_holdClubNight : MethodName := ⟨RX1, "holdClubNight", "()V"⟩
abbrev cX1_holdFunerals : ByteArray := prog_3_method_25_code
def yX1_holdFunerals : MethodName := ⟨RX1, "holdFunerals", "()V"⟩
abbrev cX1_bury : ByteArray := prog_3_method_26_code
def yX1_bury : MethodName := ⟨RX1, "bury", "(LCombersSociety$Member;)V"⟩
def RX2 : String := "CombersSociety"
def TX2 : u_T := fun k => match k with
  | 0 => ("CombersSociety", "now", "LCombersSociety$Society;", true)
  | _ => ("CombersSociety", "trial", "LCombersSociety$Society;", true)
def tyX2 : Nat → FieldType := fun k => match k with
  | 0 => .object "CombersSociety$Society"
  | _ => .object "CombersSociety$Society"
abbrev wsX20 : List Cond := u_ws RX2 TX2 2
theorem nmX2 : ∀ a, a < 2 → ∀ b, b < 2 → a ≠ b → (TX2 a).2.1 ≠ (TX2 b).2.1 := by decide +kernel
theorem tyX2_ok : ∀ k, k < 2 → parseFieldDescriptor (TX2 k).2.2.1 = some (tyX2 k) := by decide +kernel
abbrev cX2_init : ByteArray := prog_1_method_1_code
def yX2_init : MethodName := ⟨RX2, "<init>", "()V"⟩
abbrev cX2_join : ByteArray := prog_1_method_2_code
def yX2_join : MethodName := ⟨RX2, "join", "(II)I"⟩
abbrev cX2_place : ByteArray := prog_1_method_3_code
def yX2_place : MethodName := ⟨RX2, "place", "(II)I"⟩
abbrev cX2_give : ByteArray := prog_1_method_4_code
def yX2_give : MethodName := ⟨RX2, "give", "(III)I"⟩
abbrev cX2_settle : ByteArray := prog_1_method_5_code
def yX2_settle : MethodName := ⟨RX2, "settle", "(I)I"⟩
abbrev cX2_told : ByteArray := prog_1_method_6_code
def yX2_told : MethodName := ⟨RX2, "told", "(II)I"⟩
abbrev cX2_owes : ByteArray := prog_1_method_7_code
def yX2_owes : MethodName := ⟨RX2, "owes", "()I"⟩
abbrev cX2_setFever : ByteArray := prog_1_method_8_code
def yX2_setFever : MethodName := ⟨RX2, "setFever", "(II)I"⟩
abbrev cX2_setDues : ByteArray := prog_1_method_9_code
def yX2_setDues : MethodName := ⟨RX2, "setDues", "(I)I"⟩
abbrev cX2_buy : ByteArray := prog_1_method_10_code
def yX2_buy : MethodName := ⟨RX2, "buy", "(II)I"⟩
abbrev cX2_sell : ByteArray := prog_1_method_11_code
def yX2_sell : MethodName := ⟨RX2, "sell", "(I)I"⟩
abbrev cX2_pot : ByteArray := prog_1_method_12_code
def yX2_pot : MethodName := ⟨RX2, "pot", "(II)I"⟩
abbrev cX2_count : ByteArray := prog_1_method_13_code
def yX2_count : MethodName := ⟨RX2, "count", "(I)I"⟩
abbrev cX2_pass : ByteArray := prog_1_method_14_code
def yX2_pass : MethodName := ⟨RX2, "pass", "(I)I"⟩
abbrev cX2_foresee : ByteArray := prog_1_method_15_code
def yX2_foresee : MethodName := ⟨RX2, "foresee", "(II)I"⟩
abbrev cX2_earns : ByteArray := prog_1_method_16_code
def yX2_earns : MethodName := ⟨RX2, "earns", "(I)I"⟩
abbrev cX2_dies : ByteArray := prog_1_method_17_code
def yX2_dies : MethodName := ⟨RX2, "dies", "(I)I"⟩
abbrev cX2_lasts : ByteArray := prog_1_method_18_code
def yX2_lasts : MethodName := ⟨RX2, "lasts", "()I"⟩
abbrev cX2_advise : ByteArray := prog_1_method_19_code
def yX2_advise : MethodName := ⟨RX2, "advise", "(I)I"⟩
abbrev cX2_mean : ByteArray := prog_1_method_20_code
def yX2_mean : MethodName := ⟨RX2, "mean", "()D"⟩
abbrev cX2_digest : ByteArray := prog_1_method_21_code
def yX2_digest : MethodName := ⟨RX2, "digest", "()J"⟩
abbrev cX2_isOutside : ByteArray := prog_1_method_22_code
def yX2_isOutside : MethodName := ⟨RX2, "isOutside", "(III)Z"⟩
abbrev cX2_potFact : ByteArray := prog_1_method_23_code
def yX2_potFact : MethodName := ⟨RX2, "potFact", "(II)I"⟩
def RX3 : String := "CombersSocietyModel$State"
def TX3 : u_T := fun k => match k with
  | 0 => ("CombersSocietyModel$State", "week", "I", false)
  | 1 => ("CombersSocietyModel$State", "members", "I", false)
  | 2 => ("CombersSocietyModel$State", "box", "I", false)
  | 3 => ("CombersSocietyModel$State", "coals", "I", false)
  | 4 => ("CombersSocietyModel$State", "wool", "I", false)
  | 5 => ("CombersSocietyModel$State", "tops", "I", false)
  | 6 => ("CombersSocietyModel$State", "nursed", "I", false)
  | 7 => ("CombersSocietyModel$State", "buried", "I", false)
  | 8 => ("CombersSocietyModel$State", "isShort", "Z", false)
  | 9 => ("CombersSocietyModel$State", "heat", "[I", true)
  | 10 => ("CombersSocietyModel$State", "rows", "[I", true)
  | _ => ("CombersSocietyModel$State", "this$0", "LCombersSocietyModel;", true)
def tyX3 : Nat → FieldType := fun k => match k with
  | 0 => .int
  | 1 => .int
  | 2 => .int
  | 3 => .int
  | 4 => .int
  | 5 => .int
  | 6 => .int
  | 7 => .int
  | 8 => .boolean
  | 9 => .array .int
  | 10 => .array .int
  | _ => .object "CombersSocietyModel"
abbrev wsX30 : List Cond := u_ws RX3 TX3 12
theorem nmX3 : ∀ a, a < 12 → ∀ b, b < 12 → a ≠ b → (TX3 a).2.1 ≠ (TX3 b).2.1 := by decide +kernel
theorem tyX3_ok : ∀ k, k < 12 → parseFieldDescriptor (TX3 k).2.2.1 = some (tyX3 k) := by decide +kernel
abbrev cX3_init : ByteArray := prog_6_method_1_code
def yX3_init : MethodName := ⟨RX3, "<init>", "(LCombersSocietyModel;)V"⟩
abbrev cX3_become : ByteArray := prog_6_method_2_code
def yX3_become : MethodName := ⟨RX3, "become", "(LCombersSocietyModel$State;)V"⟩
abbrev cX3_of : ByteArray := prog_6_method_3_code
def yX3_of : MethodName := ⟨RX3, "of", "(II)I"⟩
abbrev cX3_set : ByteArray := prog_6_method_4_code
def yX3_set : MethodName := ⟨RX3, "set", "(III)V"⟩
abbrev cX3_combs : ByteArray := prog_6_method_5_code
def yX3_combs : MethodName := ⟨RX3, "combs", "(I)Z"⟩
abbrev cX3_combers : ByteArray := prog_6_method_6_code
def yX3_combers : MethodName := ⟨RX3, "combers", "(I)I"⟩
abbrev cX3_there : ByteArray := prog_6_method_7_code
def yX3_there : MethodName := ⟨RX3, "there", "(I)I"⟩
abbrev cX3_many : ByteArray := prog_6_method_8_code
def yX3_many : MethodName := ⟨RX3, "many", "(I)I"⟩
abbrev cX3_all : ByteArray := prog_6_method_9_code
def yX3_all : MethodName := ⟨RX3, "all", "(I)I"⟩
abbrev cX3_fire : ByteArray := prog_6_method_10_code
def yX3_fire : MethodName := ⟨RX3, "fire", "()V"⟩
abbrev cX3_pounds : ByteArray := prog_6_method_11_code
def yX3_pounds : MethodName := ⟨RX3, "pounds", "(I)I"⟩
abbrev cX3_comb : ByteArray := prog_6_method_12_code
def yX3_comb : MethodName := ⟨RX3, "comb", "()V"⟩
abbrev cX3_fever : ByteArray := prog_6_method_13_code
def yX3_fever : MethodName := ⟨RX3, "fever", "()V"⟩
abbrev cX3_heal : ByteArray := prog_6_method_14_code
def yX3_heal : MethodName := ⟨RX3, "heal", "(II)V"⟩
abbrev cX3_pay : ByteArray := prog_6_method_15_code
def yX3_pay : MethodName := ⟨RX3, "pay", "(I)I"⟩
abbrev cX3_nurse : ByteArray := prog_6_method_16_code
def yX3_nurse : MethodName := ⟨RX3, "nurse", "(I)V"⟩
abbrev cX3_payDues : ByteArray := prog_6_method_17_code
def yX3_payDues : MethodName := ⟨RX3, "payDues", "(I)V"⟩
abbrev cX3_settle : ByteArray := prog_6_method_18_code
def yX3_settle : MethodName := ⟨RX3, "settle", "(I)I"⟩
abbrev cX3_drink : ByteArray := prog_6_method_19_code
def yX3_drink : MethodName := ⟨RX3, "drink", "(I)V"⟩
abbrev cX3_bury : ByteArray := prog_6_method_20_code
def yX3_bury : MethodName := ⟨RX3, "bury", "(I)V"⟩
abbrev cX3_pass : ByteArray := prog_6_method_21_code
def yX3_pass : MethodName := ⟨RX3, "pass", "()V"⟩
def RX4 : String := "CombersSocietyModel"
def TX4 : u_T := fun k => match k with
  | 0 => ("CombersSocietyModel", "thrown", "I", false)
  | 1 => ("CombersSocietyModel", "dues", "I", false)
  | 2 => ("CombersSocietyModel", "fevers", "[I", true)
  | 3 => ("CombersSocietyModel", "s", "LCombersSocietyModel$State;", true)
  | _ => ("CombersSocietyModel", "ahead", "LCombersSocietyModel$State;", true)
def tyX4 : Nat → FieldType := fun k => match k with
  | 0 => .int
  | 1 => .int
  | 2 => .array .int
  | 3 => .object "CombersSocietyModel$State"
  | _ => .object "CombersSocietyModel$State"
abbrev wsX40 : List Cond := u_ws RX4 TX4 5
theorem nmX4 : ∀ a, a < 5 → ∀ b, b < 5 → a ≠ b → (TX4 a).2.1 ≠ (TX4 b).2.1 := by decide +kernel
theorem tyX4_ok : ∀ k, k < 5 → parseFieldDescriptor (TX4 k).2.2.1 = some (tyX4 k) := by decide +kernel
abbrev cX4_init : ByteArray := prog_5_method_1_code
def yX4_init : MethodName := ⟨RX4, "<init>", "()V"⟩
abbrev cX4_thrown : ByteArray := prog_5_method_2_code
def yX4_thrown : MethodName := ⟨RX4, "thrown", "()I"⟩
abbrev cX4_no : ByteArray := prog_5_method_3_code
def yX4_no : MethodName := ⟨RX4, "no", "(I)I"⟩
abbrev cX4_isIn : ByteArray := prog_5_method_4_code
def yX4_isIn : MethodName := ⟨RX4, "isIn", "(III)Z"⟩
abbrev cX4_isMember : ByteArray := prog_5_method_5_code
def yX4_isMember : MethodName := ⟨RX4, "isMember", "(I)Z"⟩
abbrev cX4_isDead : ByteArray := prog_5_method_6_code
def yX4_isDead : MethodName := ⟨RX4, "isDead", "(I)Z"⟩
abbrev cX4_others : ByteArray := prog_5_method_7_code
def yX4_others : MethodName := ⟨RX4, "others", "(II)I"⟩
abbrev cX4_join : ByteArray := prog_5_method_8_code
def yX4_join : MethodName := ⟨RX4, "join", "(II)I"⟩
abbrev cX4_place : ByteArray := prog_5_method_9_code
def yX4_place : MethodName := ⟨RX4, "place", "(II)I"⟩
abbrev cX4_give : ByteArray := prog_5_method_10_code
def yX4_give : MethodName := ⟨RX4, "give", "(III)I"⟩
abbrev cX4_settle : ByteArray := prog_5_method_11_code
def yX4_settle : MethodName := ⟨RX4, "settle", "(I)I"⟩
abbrev cX4_told : ByteArray := prog_5_method_12_code
def yX4_told : MethodName := ⟨RX4, "told", "(II)I"⟩
abbrev cX4_owes : ByteArray := prog_5_method_13_code
def yX4_owes : MethodName := ⟨RX4, "owes", "()I"⟩
abbrev cX4_setFever : ByteArray := prog_5_method_14_code
def yX4_setFever : MethodName := ⟨RX4, "setFever", "(II)I"⟩
abbrev cX4_setDues : ByteArray := prog_5_method_15_code
def yX4_setDues : MethodName := ⟨RX4, "setDues", "(I)I"⟩
abbrev cX4_buy : ByteArray := prog_5_method_16_code
def yX4_buy : MethodName := ⟨RX4, "buy", "(II)I"⟩
abbrev cX4_sell : ByteArray := prog_5_method_17_code
def yX4_sell : MethodName := ⟨RX4, "sell", "(I)I"⟩
abbrev cX4_combed : ByteArray := prog_5_method_18_code
def yX4_combed : MethodName := ⟨RX4, "combed", "(I)I"⟩
abbrev cX4_potTold : ByteArray := prog_5_method_19_code
def yX4_potTold : MethodName := ⟨RX4, "potTold", "(II)I"⟩
abbrev cX4_pot : ByteArray := prog_5_method_20_code
def yX4_pot : MethodName := ⟨RX4, "pot", "(II)I"⟩
abbrev cX4_counted : ByteArray := prog_5_method_21_code
def yX4_counted : MethodName := ⟨RX4, "counted", "(LCombersSocietyModel$State;I)I"⟩
abbrev cX4_count : ByteArray := prog_5_method_22_code
def yX4_count : MethodName := ⟨RX4, "count", "(I)I"⟩
abbrev cX4_pass : ByteArray := prog_5_method_23_code
def yX4_pass : MethodName := ⟨RX4, "pass", "(I)I"⟩
abbrev cX4_foresee : ByteArray := prog_5_method_24_code
def yX4_foresee : MethodName := ⟨RX4, "foresee", "(II)I"⟩
abbrev cX4_earns : ByteArray := prog_5_method_25_code
def yX4_earns : MethodName := ⟨RX4, "earns", "(I)I"⟩
abbrev cX4_dies : ByteArray := prog_5_method_26_code
def yX4_dies : MethodName := ⟨RX4, "dies", "(I)I"⟩
abbrev cX4_lasts : ByteArray := prog_5_method_27_code
def yX4_lasts : MethodName := ⟨RX4, "lasts", "()I"⟩
abbrev cX4_advise : ByteArray := prog_5_method_28_code
def yX4_advise : MethodName := ⟨RX4, "advise", "(I)I"⟩
abbrev cX4_mean : ByteArray := prog_5_method_29_code
def yX4_mean : MethodName := ⟨RX4, "mean", "()D"⟩
abbrev cX4_digest : ByteArray := prog_5_method_30_code
def yX4_digest : MethodName := ⟨RX4, "digest", "()J"⟩
def RJ9 : String := "java/lang/Math"
def TJ9 : u_T := fun k => match k with
  | _ => ("", "", "", false)
def tyJ9 : Nat → FieldType := fun k => match k with
  | _ => .int
abbrev wsJ90 : List Cond := u_ws RJ9 TJ9 0
theorem nmJ9 : ∀ a, a < 0 → ∀ b, b < 0 → a ≠ b → (TJ9 a).2.1 ≠ (TJ9 b).2.1 := by decide +kernel
theorem tyJ9_ok : ∀ k, k < 0 → parseFieldDescriptor (TJ9 k).2.2.1 = some (tyJ9 k) := by decide +kernel
abbrev cJ9_floorMod_7cf53 : ByteArray := prog_11_method_50_code
def yJ9_floorMod_7cf53 : MethodName := ⟨RJ9, "floorMod", "(II)I"⟩
abbrev cJ9_max_7cf53 : ByteArray := prog_11_method_65_code
def yJ9_max_7cf53 : MethodName := ⟨RJ9, "max", "(II)I"⟩
abbrev cJ9_min_7cf53 : ByteArray := prog_11_method_69_code
def yJ9_min_7cf53 : MethodName := ⟨RJ9, "min", "(II)I"⟩
def RJ0 : String := "java/lang/String"
def TJ0 : u_T := fun k => match k with
  | _ => ("", "", "", false)
def tyJ0 : Nat → FieldType := fun k => match k with
  | _ => .int
abbrev wsJ00 : List Cond := u_ws RJ0 TJ0 0
theorem nmJ0 : ∀ a, a < 0 → ∀ b, b < 0 → a ≠ b → (TJ0 a).2.1 ≠ (TJ0 b).2.1 := by decide +kernel
theorem tyJ0_ok : ∀ k, k < 0 → parseFieldDescriptor (TJ0 k).2.2.1 = some (tyJ0 k) := by decide +kernel
def RJ10 : String := "java/lang/System"
def TJ10 : u_T := fun k => match k with
  | _ => ("", "", "", false)
def tyJ10 : Nat → FieldType := fun k => match k with
  | _ => .int
abbrev wsJ100 : List Cond := u_ws RJ10 TJ10 0
theorem nmJ10 : ∀ a, a < 0 → ∀ b, b < 0 → a ≠ b → (TJ10 a).2.1 ≠ (TJ10 b).2.1 := by decide +kernel
theorem tyJ10_ok : ∀ k, k < 0 → parseFieldDescriptor (TJ10 k).2.2.1 = some (tyJ10 k) := by decide +kernel
def RL : String := "CombersSocietyLaw"
abbrev cL_join : ByteArray := method_3_code
def yL_join : MethodName := ⟨RL, "join", "(LCombersSociety;II[J)I"⟩
abbrev cL_place : ByteArray := method_4_code
def yL_place : MethodName := ⟨RL, "place", "(LCombersSociety;II[J)I"⟩
abbrev cL_give : ByteArray := method_5_code
def yL_give : MethodName := ⟨RL, "give", "(LCombersSociety;III[J)I"⟩
abbrev cL_settle : ByteArray := method_6_code
def yL_settle : MethodName := ⟨RL, "settle", "(LCombersSociety;I[J)I"⟩
abbrev cL_told : ByteArray := method_7_code
def yL_told : MethodName := ⟨RL, "told", "(LCombersSociety;II[J)I"⟩
abbrev cL_setFever : ByteArray := method_8_code
def yL_setFever : MethodName := ⟨RL, "setFever", "(LCombersSociety;II[J)I"⟩
abbrev cL_setDues : ByteArray := method_9_code
def yL_setDues : MethodName := ⟨RL, "setDues", "(LCombersSociety;I[J)I"⟩
abbrev cL_buy : ByteArray := method_10_code
def yL_buy : MethodName := ⟨RL, "buy", "(LCombersSociety;II[J)I"⟩
abbrev cL_sell : ByteArray := method_11_code
def yL_sell : MethodName := ⟨RL, "sell", "(LCombersSociety;I[J)I"⟩
abbrev cL_pot : ByteArray := method_12_code
def yL_pot : MethodName := ⟨RL, "pot", "(LCombersSociety;II[J)I"⟩
abbrev cL_count : ByteArray := method_13_code
def yL_count : MethodName := ⟨RL, "count", "(LCombersSociety;I[J)I"⟩
abbrev cL_pass : ByteArray := method_14_code
def yL_pass : MethodName := ⟨RL, "pass", "(LCombersSociety;I[J)I"⟩
abbrev cL_foresee : ByteArray := method_15_code
def yL_foresee : MethodName := ⟨RL, "foresee", "(LCombersSociety;II[J)I"⟩
abbrev cL_earns : ByteArray := method_16_code
def yL_earns : MethodName := ⟨RL, "earns", "(LCombersSociety;I[J)I"⟩
abbrev cL_dies : ByteArray := method_17_code
def yL_dies : MethodName := ⟨RL, "dies", "(LCombersSociety;I[J)I"⟩
abbrev cL_advise : ByteArray := method_18_code
def yL_advise : MethodName := ⟨RL, "advise", "(LCombersSociety;I[J)I"⟩
abbrev cL_law : ByteArray := code
def yL_law : MethodName := ⟨RL, "law", "([I)Z"⟩
def wsX0_init : List Cond := .code yX0_init cX0_init 1 none :: ([.methodLink RX0 3 objectInit, .instanceMethod objectInit, .code objectInit ⟨#[0xb1]⟩ 1 none, .fieldLink RX0 9 "CombersSociety$Member" "pot" "I", .fieldLink RX0 15 "CombersSociety$Member" "health" "I"] ++ wsX00)
def wsX0_enter : List Cond := .code yX0_enter cX0_enter 3 none :: ([.fieldLink RX0 18 "CombersSociety$Member" "skill" "I", .fieldLink RX0 21 "CombersSociety$Member" "strength" "I", .fieldLink RX0 24 "CombersSociety$Member" "coins" "I", .fieldLink RX0 15 "CombersSociety$Member" "health" "I"] ++ wsX00)
def wsX0_copyFrom : List Cond := .code yX0_copyFrom cX0_copyFrom 2 none :: ([.fieldLink RX0 18 "CombersSociety$Member" "skill" "I", .fieldLink RX0 21 "CombersSociety$Member" "strength" "I", .fieldLink RX0 24 "CombersSociety$Member" "coins" "I", .fieldLink RX0 27 "CombersSociety$Member" "marks" "I", .fieldLink RX0 30 "CombersSociety$Member" "unpaid" "I", .fieldLink RX0 9 "CombersSociety$Member" "pot" "I", .fieldLink RX0 15 "CombersSociety$Member" "health" "I", .fieldLink RX0 33 "CombersSociety$Member" "weeksLeft" "I", .fieldLink RX0 36 "CombersSociety$Member" "weeksSick" "I", .fieldLink RX0 39 "CombersSociety$Member" "unburied" "Z"] ++ wsX00)
def wsX0_combs : List Cond := .code yX0_combs cX0_combs 1 (some .boolean) :: ([.fieldLink RX0 15 "CombersSociety$Member" "health" "I", .fieldLink RX0 9 "CombersSociety$Member" "pot" "I"] ++ wsX00)
def wsX0_lives : List Cond := .code yX0_lives cX0_lives 1 (some .boolean) :: ([.fieldLink RX0 15 "CombersSociety$Member" "health" "I"] ++ wsX00)
def wsX0_fallSick : List Cond := .code yX0_fallSick cX0_fallSick 1 none :: ([.fieldLink RX0 15 "CombersSociety$Member" "health" "I", .fieldLink RX0 21 "CombersSociety$Member" "strength" "I", .fieldLink RX0 33 "CombersSociety$Member" "weeksLeft" "I", .fieldLink RX0 36 "CombersSociety$Member" "weeksSick" "I"] ++ wsX00)
def wsX0_getWell : List Cond := .code yX0_getWell cX0_getWell 1 none :: ([.fieldLink RX0 15 "CombersSociety$Member" "health" "I", .fieldLink RX0 33 "CombersSociety$Member" "weeksLeft" "I", .fieldLink RX0 36 "CombersSociety$Member" "weeksSick" "I"] ++ wsX00)
def wsX0_die : List Cond := .code yX0_die cX0_die 1 none :: ([.fieldLink RX0 15 "CombersSociety$Member" "health" "I", .fieldLink RX0 21 "CombersSociety$Member" "strength" "I", .fieldLink RX0 27 "CombersSociety$Member" "marks" "I", .fieldLink RX0 30 "CombersSociety$Member" "unpaid" "I", .fieldLink RX0 9 "CombersSociety$Member" "pot" "I", .fieldLink RX0 33 "CombersSociety$Member" "weeksLeft" "I", .fieldLink RX0 36 "CombersSociety$Member" "weeksSick" "I", .fieldLink RX0 39 "CombersSociety$Member" "unburied" "Z"] ++ wsX00)
def wsX0_payMarks : List Cond := .code yX0_payMarks cX0_payMarks 2 (some .int) :: ([.fieldLink RX0 27 "CombersSociety$Member" "marks" "I", .fieldLink RX0 24 "CombersSociety$Member" "coins" "I", .methodLink RX0 43 Lib.Math.min.name, .static Lib.Math.min.name, .initialized "java/lang/Math", .code Lib.Math.min.name Lib.Math.min.code 2 (some .int)] ++ wsX00)
def wsX0_payDues : List Cond := .code yX0_payDues cX0_payDues 2 (some .int) :: ([.fieldLink RX0 24 "CombersSociety$Member" "coins" "I", .fieldLink RX0 30 "CombersSociety$Member" "unpaid" "I", .methodLink RX0 43 Lib.Math.min.name, .static Lib.Math.min.name, .initialized "java/lang/Math", .code Lib.Math.min.name Lib.Math.min.code 2 (some .int)] ++ wsX00)
def wsX0_spendClubNight : List Cond := .code yX0_spendClubNight cX0_spendClubNight 2 (some .int) :: ([.fieldLink RX0 27 "CombersSociety$Member" "marks" "I", .fieldLink RX0 24 "CombersSociety$Member" "coins" "I", .fieldLink RX0 21 "CombersSociety$Member" "strength" "I", .methodLink RX0 43 Lib.Math.min.name, .static Lib.Math.min.name, .initialized "java/lang/Math", .code Lib.Math.min.name Lib.Math.min.code 2 (some .int), .methodLink RX0 49 yX0_payMarks, .instanceMethod yX0_payMarks, .selects RX0 yX0_payMarks yX0_payMarks, .initialized RX0, .code yX0_payMarks cX0_payMarks 2 (some .int)] ++ wsX00)
def wsX0_fact : List Cond := .code yX0_fact cX0_fact 2 (some .int) :: ([.fieldLink RX0 18 "CombersSociety$Member" "skill" "I", .fieldLink RX0 21 "CombersSociety$Member" "strength" "I", .fieldLink RX0 24 "CombersSociety$Member" "coins" "I", .fieldLink RX0 27 "CombersSociety$Member" "marks" "I", .fieldLink RX0 30 "CombersSociety$Member" "unpaid" "I", .fieldLink RX0 9 "CombersSociety$Member" "pot" "I", .fieldLink RX0 15 "CombersSociety$Member" "health" "I", .fieldLink RX0 33 "CombersSociety$Member" "weeksLeft" "I", .fieldLink RX0 36 "CombersSociety$Member" "weeksSick" "I"] ++ wsX00)
def wsX1_init : List Cond := .code yX1_init cX1_init 2 none :: ([.methodLink RX1 3 objectInit, .instanceMethod objectInit, .code objectInit ⟨#[0xb1]⟩ 1 none, .fieldLink RX1 9 "CombersSociety$Society" "box" "I", .fieldLink RX1 15 "CombersSociety$Society" "coals" "I", .fieldLink RX1 18 "CombersSociety$Society" "wool" "I", .fieldLink RX1 21 "CombersSociety$Society" "dues" "I", .arrayClass .int, .fieldLink RX1 24 "CombersSociety$Society" "fevers" "[I", .fieldLink RX1 28 "CombersSociety$Society" "heats" "[I", .fieldLink RX1 31 "CombersSociety$Society" "combing" "[I", .classLink RX1 34 RX0, .fieldLink RX1 36 "CombersSociety$Society" "members" "[LCombersSociety$Member;", .instantiable RX0 10, .initialized RX0, .methodLink RX1 40 yX0_init, .instanceMethod yX0_init, .code yX0_init cX0_init 1 none, .methodLink RX0 3 objectInit, .fieldLink RX0 9 "CombersSociety$Member" "pot" "I", .fieldLink RX0 15 "CombersSociety$Member" "health" "I"] ++ wsX10 ++ wsX00)
def wsX1_copyFrom_r1 : List Cond := [Cond.fieldLink RX1 41 "CombersSociety$Society" "week" "I", Cond.fieldLink RX1 44 "CombersSociety$Society" "joined" "I", Cond.fieldLink RX1 9 "CombersSociety$Society" "box" "I", Cond.fieldLink RX1 15 "CombersSociety$Society" "coals" "I", Cond.fieldLink RX1 18 "CombersSociety$Society" "wool" "I", Cond.fieldLink RX1 47 "CombersSociety$Society" "tops" "I", Cond.fieldLink RX1 21 "CombersSociety$Society" "dues" "I", Cond.fieldLink RX1 50 "CombersSociety$Society" "sickPaid" "I", Cond.fieldLink RX1 53 "CombersSociety$Society" "funeralsPaid" "I", Cond.fieldLink RX1 24 "CombersSociety$Society" "fevers" "[I", Cond.fieldLink RX1 28 "CombersSociety$Society" "heats" "[I", Cond.fieldLink RX1 36 "CombersSociety$Society" "members" "[LCombersSociety$Member;", Cond.methodLink RX1 56 yX0_copyFrom, Cond.instanceMethod yX0_copyFrom, Cond.selects RX0 yX0_copyFrom yX0_copyFrom, Cond.initialized RX0, Cond.code yX0_copyFrom cX0_copyFrom 2 none, Cond.fieldLink RX0 18 "CombersSociety$Member" "skill" "I", Cond.fieldLink RX0 21 "CombersSociety$Member" "strength" "I", Cond.fieldLink RX0 24 "CombersSociety$Member" "coins" "I", Cond.fieldLink RX0 27 "CombersSociety$Member" "marks" "I", Cond.fieldLink RX0 30 "CombersSociety$Member" "unpaid" "I", Cond.fieldLink RX0 9 "CombersSociety$Member" "pot" "I", Cond.fieldLink RX0 15 "CombersSociety$Member" "health" "I"]
def wsX1_copyFrom_r2 : List Cond := [Cond.fieldLink RX0 33 "CombersSociety$Member" "weeksLeft" "I", Cond.fieldLink RX0 36 "CombersSociety$Member" "weeksSick" "I", Cond.fieldLink RX0 39 "CombersSociety$Member" "unburied" "Z"]
def wsX1_copyFrom : List Cond := .code yX1_copyFrom cX1_copyFrom 3 none :: ((wsX1_copyFrom_r1 ++ wsX1_copyFrom_r2) ++ wsX10 ++ wsX00)
def wsX1_hasMember : List Cond := .code yX1_hasMember cX1_hasMember 2 (some .boolean) :: ([.fieldLink RX1 36 "CombersSociety$Society" "members" "[LCombersSociety$Member;", .fieldLink RX1 60 "CombersSociety$Member" "health" "I"] ++ wsX10 ++ wsX00)
def wsX1_atPot : List Cond := .code yX1_atPot cX1_atPot 7 (some .int) :: ([.fieldLink RX1 36 "CombersSociety$Society" "members" "[LCombersSociety$Member;", .fieldLink RX1 63 "CombersSociety$Member" "pot" "I", .methodLink RX1 70 yX0_lives, .instanceMethod yX0_lives, .selects RX0 yX0_lives yX0_lives, .initialized RX0, .code yX0_lives cX0_lives 1 (some .boolean), .fieldLink RX0 15 "CombersSociety$Member" "health" "I"] ++ wsX10 ++ wsX00)
def wsX1_hasRoom : List Cond := .code yX1_hasRoom cX1_hasRoom 4 (some .boolean) :: ([.fieldLink RX1 63 "CombersSociety$Member" "pot" "I", .methodLink RX1 66 yX1_atPot, .instanceMethod yX1_atPot, .selects RX1 yX1_atPot yX1_atPot, .initialized RX1, .code yX1_atPot cX1_atPot 7 (some .int), .fieldLink RX1 36 "CombersSociety$Society" "members" "[LCombersSociety$Member;", .methodLink RX1 70 yX0_lives, .instanceMethod yX0_lives, .selects RX0 yX0_lives yX0_lives, .initialized RX0, .code yX0_lives cX0_lives 1 (some .boolean), .fieldLink RX0 15 "CombersSociety$Member" "health" "I"] ++ wsX00 ++ wsX10)
def wsX1_heatOf : List Cond := .code yX1_heatOf cX1_heatOf 2 (some .int) :: ([.fieldLink RX1 28 "CombersSociety$Society" "heats" "[I"] ++ wsX10)
def wsX1_countCombers : List Cond := .code yX1_countCombers cX1_countCombers 5 none :: ([.fieldLink RX1 31 "CombersSociety$Society" "combing" "[I", .fieldLink RX1 36 "CombersSociety$Society" "members" "[LCombersSociety$Member;", .fieldLink RX1 63 "CombersSociety$Member" "pot" "I", .methodLink RX1 77 yX0_combs, .instanceMethod yX0_combs, .selects RX0 yX0_combs yX0_combs, .initialized RX0, .code yX0_combs cX0_combs 1 (some .boolean), .fieldLink RX0 15 "CombersSociety$Member" "health" "I", .fieldLink RX0 9 "CombersSociety$Member" "pot" "I"] ++ wsX10 ++ wsX00)
def wsX1_combersAt : List Cond := .code yX1_combersAt cX1_combersAt 2 (some .int) :: ([.fieldLink RX1 31 "CombersSociety$Society" "combing" "[I", .methodLink RX1 74 yX1_countCombers, .instanceMethod yX1_countCombers, .selects RX1 yX1_countCombers yX1_countCombers, .initialized RX1, .code yX1_countCombers cX1_countCombers 5 none, .fieldLink RX1 36 "CombersSociety$Society" "members" "[LCombersSociety$Member;", .fieldLink RX1 63 "CombersSociety$Member" "pot" "I", .methodLink RX1 77 yX0_combs, .instanceMethod yX0_combs, .selects RX0 yX0_combs yX0_combs, .initialized RX0, .code yX0_combs cX0_combs 1 (some .boolean), .fieldLink RX0 15 "CombersSociety$Member" "health" "I", .fieldLink RX0 9 "CombersSociety$Member" "pot" "I"] ++ wsX10 ++ wsX00)
def wsX1_howMany : List Cond := .code yX1_howMany cX1_howMany 7 (some .int) :: ([.fieldLink RX1 36 "CombersSociety$Society" "members" "[LCombersSociety$Member;", .fieldLink RX1 60 "CombersSociety$Member" "health" "I"] ++ wsX10 ++ wsX00)
def wsX1_coinsInPurses : List Cond := .code yX1_coinsInPurses cX1_coinsInPurses 6 (some .int) :: ([.fieldLink RX1 36 "CombersSociety$Society" "members" "[LCombersSociety$Member;", .fieldLink RX1 80 "CombersSociety$Member" "coins" "I"] ++ wsX10 ++ wsX00)
def wsX1_marksOfAll : List Cond := .code yX1_marksOfAll cX1_marksOfAll 6 (some .int) :: ([.fieldLink RX1 36 "CombersSociety$Society" "members" "[LCombersSociety$Member;", .fieldLink RX1 83 "CombersSociety$Member" "marks" "I"] ++ wsX10 ++ wsX00)
def wsX1_tally_r1 : List Cond := [Cond.fieldLink RX1 41 "CombersSociety$Society" "week" "I", Cond.fieldLink RX1 44 "CombersSociety$Society" "joined" "I", Cond.fieldLink RX1 9 "CombersSociety$Society" "box" "I", Cond.fieldLink RX1 15 "CombersSociety$Society" "coals" "I", Cond.fieldLink RX1 18 "CombersSociety$Society" "wool" "I", Cond.fieldLink RX1 47 "CombersSociety$Society" "tops" "I", Cond.fieldLink RX1 50 "CombersSociety$Society" "sickPaid" "I", Cond.fieldLink RX1 53 "CombersSociety$Society" "funeralsPaid" "I", Cond.methodLink RX1 86 yX1_howMany, Cond.instanceMethod yX1_howMany, Cond.selects RX1 yX1_howMany yX1_howMany, Cond.initialized RX1, Cond.code yX1_howMany cX1_howMany 7 (some .int), Cond.fieldLink RX1 36 "CombersSociety$Society" "members" "[LCombersSociety$Member;", Cond.fieldLink RX1 60 "CombersSociety$Member" "health" "I", Cond.methodLink RX1 89 yX1_coinsInPurses, Cond.instanceMethod yX1_coinsInPurses, Cond.selects RX1 yX1_coinsInPurses yX1_coinsInPurses, Cond.code yX1_coinsInPurses cX1_coinsInPurses 6 (some .int), Cond.fieldLink RX1 80 "CombersSociety$Member" "coins" "I", Cond.methodLink RX1 93 yX1_marksOfAll, Cond.instanceMethod yX1_marksOfAll, Cond.selects RX1 yX1_marksOfAll yX1_marksOfAll, Cond.code yX1_marksOfAll cX1_marksOfAll 6 (some .int)]
def wsX1_tally_r2 : List Cond := [Cond.fieldLink RX1 83 "CombersSociety$Member" "marks" "I"]
def wsX1_tally : List Cond := .code yX1_tally cX1_tally 2 (some .int) :: ((wsX1_tally_r1 ++ wsX1_tally_r2) ++ wsX10 ++ wsX00)
def wsX1_lightFires : List Cond := .code yX1_lightFires cX1_lightFires 2 none :: ([.fieldLink RX1 31 "CombersSociety$Society" "combing" "[I", .fieldLink RX1 15 "CombersSociety$Society" "coals" "I", .fieldLink RX1 28 "CombersSociety$Society" "heats" "[I", .methodLink RX1 130 Lib.Math.min.name, .static Lib.Math.min.name, .initialized "java/lang/Math", .code Lib.Math.min.name Lib.Math.min.code 2 (some .int), .methodLink RX1 133 Lib.Math.max.name, .static Lib.Math.max.name, .code Lib.Math.max.name Lib.Math.max.code 2 (some .int), .methodLink RX1 74 yX1_countCombers, .instanceMethod yX1_countCombers, .selects RX1 yX1_countCombers yX1_countCombers, .initialized RX1, .code yX1_countCombers cX1_countCombers 5 none, .fieldLink RX1 36 "CombersSociety$Society" "members" "[LCombersSociety$Member;", .fieldLink RX1 63 "CombersSociety$Member" "pot" "I", .methodLink RX1 77 yX0_combs, .instanceMethod yX0_combs, .selects RX0 yX0_combs yX0_combs, .initialized RX0, .code yX0_combs cX0_combs 1 (some .boolean), .fieldLink RX0 15 "CombersSociety$Member" "health" "I", .fieldLink RX0 9 "CombersSociety$Member" "pot" "I"] ++ wsX10 ++ wsX00)
def wsX1_poundsOf : List Cond := .code yX1_poundsOf cX1_poundsOf 3 (some .int) :: ([.fieldLink RX1 31 "CombersSociety$Society" "combing" "[I", .fieldLink RX1 63 "CombersSociety$Member" "pot" "I", .methodLink RX1 133 Lib.Math.max.name, .static Lib.Math.max.name, .initialized "java/lang/Math", .code Lib.Math.max.name Lib.Math.max.code 2 (some .int), .fieldLink RX1 136 "CombersSociety$Member" "skill" "I", .fieldLink RX1 28 "CombersSociety$Society" "heats" "[I", .methodLink RX1 77 yX0_combs, .instanceMethod yX0_combs, .selects RX0 yX0_combs yX0_combs, .initialized RX0, .code yX0_combs cX0_combs 1 (some .boolean), .fieldLink RX0 15 "CombersSociety$Member" "health" "I", .fieldLink RX0 9 "CombersSociety$Member" "pot" "I"] ++ wsX10 ++ wsX00)
def wsX1_combWool_r1 : List Cond := [Cond.fieldLink RX1 36 "CombersSociety$Society" "members" "[LCombersSociety$Member;", Cond.fieldLink RX1 18 "CombersSociety$Society" "wool" "I", Cond.methodLink RX1 130 Lib.Math.min.name, Cond.static Lib.Math.min.name, Cond.initialized "java/lang/Math", Cond.code Lib.Math.min.name Lib.Math.min.code 2 (some .int), Cond.fieldLink RX1 47 "CombersSociety$Society" "tops" "I", Cond.fieldLink RX1 80 "CombersSociety$Member" "coins" "I", Cond.methodLink RX1 139 yX1_poundsOf, Cond.instanceMethod yX1_poundsOf, Cond.selects RX1 yX1_poundsOf yX1_poundsOf, Cond.initialized RX1, Cond.code yX1_poundsOf cX1_poundsOf 3 (some .int), Cond.fieldLink RX1 31 "CombersSociety$Society" "combing" "[I", Cond.fieldLink RX1 63 "CombersSociety$Member" "pot" "I", Cond.methodLink RX1 133 Lib.Math.max.name, Cond.static Lib.Math.max.name, Cond.code Lib.Math.max.name Lib.Math.max.code 2 (some .int), Cond.fieldLink RX1 136 "CombersSociety$Member" "skill" "I", Cond.fieldLink RX1 28 "CombersSociety$Society" "heats" "[I", Cond.methodLink RX1 77 yX0_combs, Cond.instanceMethod yX0_combs, Cond.selects RX0 yX0_combs yX0_combs, Cond.initialized RX0]
def wsX1_combWool_r2 : List Cond := [Cond.code yX0_combs cX0_combs 1 (some .boolean), Cond.fieldLink RX0 15 "CombersSociety$Member" "health" "I", Cond.fieldLink RX0 9 "CombersSociety$Member" "pot" "I"]
def wsX1_combWool : List Cond := .code yX1_combWool cX1_combWool 6 none :: ((wsX1_combWool_r1 ++ wsX1_combWool_r2) ++ wsX10 ++ wsX00)
def wsJ9_floorMod_7cf53 : List Cond := .code yJ9_floorMod_7cf53 cJ9_floorMod_7cf53 3 (some .int) :: ([])
def wsX1_spreadFever : List Cond := .code yX1_spreadFever cX1_spreadFever 6 none :: ([.fieldLink RX1 24 "CombersSociety$Society" "fevers" "[I", .fieldLink RX1 41 "CombersSociety$Society" "week" "I", .fieldLink RX1 36 "CombersSociety$Society" "members" "[LCombersSociety$Member;", .fieldLink RX1 63 "CombersSociety$Member" "pot" "I", .methodLink RX1 118 yJ9_floorMod_7cf53, .static yJ9_floorMod_7cf53, .initialized RJ9, .code yJ9_floorMod_7cf53 cJ9_floorMod_7cf53 3 (some .int), .methodLink RX1 77 yX0_combs, .instanceMethod yX0_combs, .selects RX0 yX0_combs yX0_combs, .initialized RX0, .code yX0_combs cX0_combs 1 (some .boolean), .fieldLink RX0 15 "CombersSociety$Member" "health" "I", .fieldLink RX0 9 "CombersSociety$Member" "pot" "I", .methodLink RX1 143 yX0_fallSick, .instanceMethod yX0_fallSick, .selects RX0 yX0_fallSick yX0_fallSick, .code yX0_fallSick cX0_fallSick 1 none, .fieldLink RX0 21 "CombersSociety$Member" "strength" "I", .fieldLink RX0 33 "CombersSociety$Member" "weeksLeft" "I", .fieldLink RX0 36 "CombersSociety$Member" "weeksSick" "I"] ++ wsX10 ++ wsX00)
def wsX1_payOut : List Cond := .code yX1_payOut cX1_payOut 3 (some .int) :: ([.fieldLink RX1 9 "CombersSociety$Society" "box" "I", .fieldLink RX1 99 "CombersSociety$Society" "fellShort" "Z", .methodLink RX1 130 Lib.Math.min.name, .static Lib.Math.min.name, .initialized "java/lang/Math", .code Lib.Math.min.name Lib.Math.min.code 2 (some .int)] ++ wsX10)
def wsX1_nurse_r1 : List Cond := [Cond.fieldLink RX1 149 "CombersSociety$Member" "strength" "I", Cond.fieldLink RX1 155 "CombersSociety$Member" "weeksSick" "I", Cond.fieldLink RX1 158 "CombersSociety$Member" "weeksLeft" "I", Cond.fieldLink RX1 161 "CombersSociety$Member" "unpaid" "I", Cond.fieldLink RX1 80 "CombersSociety$Member" "coins" "I", Cond.fieldLink RX1 50 "CombersSociety$Society" "sickPaid" "I", Cond.methodLink RX1 152 yX0_die, Cond.instanceMethod yX0_die, Cond.selects RX0 yX0_die yX0_die, Cond.initialized RX0, Cond.code yX0_die cX0_die 1 none, Cond.fieldLink RX0 15 "CombersSociety$Member" "health" "I", Cond.fieldLink RX0 21 "CombersSociety$Member" "strength" "I", Cond.fieldLink RX0 27 "CombersSociety$Member" "marks" "I", Cond.fieldLink RX0 30 "CombersSociety$Member" "unpaid" "I", Cond.fieldLink RX0 9 "CombersSociety$Member" "pot" "I", Cond.fieldLink RX0 33 "CombersSociety$Member" "weeksLeft" "I", Cond.fieldLink RX0 36 "CombersSociety$Member" "weeksSick" "I", Cond.fieldLink RX0 39 "CombersSociety$Member" "unburied" "Z", Cond.methodLink RX1 164 yX1_payOut, Cond.instanceMethod yX1_payOut, Cond.selects RX1 yX1_payOut yX1_payOut, Cond.initialized RX1, Cond.code yX1_payOut cX1_payOut 3 (some .int)]
def wsX1_nurse_r2 : List Cond := [Cond.fieldLink RX1 9 "CombersSociety$Society" "box" "I", Cond.fieldLink RX1 99 "CombersSociety$Society" "fellShort" "Z", Cond.methodLink RX1 130 Lib.Math.min.name, Cond.static Lib.Math.min.name, Cond.initialized "java/lang/Math", Cond.code Lib.Math.min.name Lib.Math.min.code 2 (some .int), Cond.methodLink RX1 167 yX0_getWell, Cond.instanceMethod yX0_getWell, Cond.selects RX0 yX0_getWell yX0_getWell, Cond.code yX0_getWell cX0_getWell 1 none]
def wsX1_nurse : List Cond := .code yX1_nurse cX1_nurse 3 none :: ((wsX1_nurse_r1 ++ wsX1_nurse_r2) ++ wsX00 ++ wsX10)
def wsX1_nurseSick_r1 : List Cond := [Cond.fieldLink RX1 36 "CombersSociety$Society" "members" "[LCombersSociety$Member;", Cond.fieldLink RX1 60 "CombersSociety$Member" "health" "I", Cond.methodLink RX1 146 yX1_nurse, Cond.instanceMethod yX1_nurse, Cond.selects RX1 yX1_nurse yX1_nurse, Cond.initialized RX1, Cond.code yX1_nurse cX1_nurse 3 none, Cond.fieldLink RX1 149 "CombersSociety$Member" "strength" "I", Cond.fieldLink RX1 155 "CombersSociety$Member" "weeksSick" "I", Cond.fieldLink RX1 158 "CombersSociety$Member" "weeksLeft" "I", Cond.fieldLink RX1 161 "CombersSociety$Member" "unpaid" "I", Cond.fieldLink RX1 80 "CombersSociety$Member" "coins" "I", Cond.fieldLink RX1 50 "CombersSociety$Society" "sickPaid" "I", Cond.methodLink RX1 152 yX0_die, Cond.instanceMethod yX0_die, Cond.selects RX0 yX0_die yX0_die, Cond.initialized RX0, Cond.code yX0_die cX0_die 1 none, Cond.fieldLink RX0 15 "CombersSociety$Member" "health" "I", Cond.fieldLink RX0 21 "CombersSociety$Member" "strength" "I", Cond.fieldLink RX0 27 "CombersSociety$Member" "marks" "I", Cond.fieldLink RX0 30 "CombersSociety$Member" "unpaid" "I", Cond.fieldLink RX0 9 "CombersSociety$Member" "pot" "I", Cond.fieldLink RX0 33 "CombersSociety$Member" "weeksLeft" "I"]
def wsX1_nurseSick_r2 : List Cond := [Cond.fieldLink RX0 36 "CombersSociety$Member" "weeksSick" "I", Cond.fieldLink RX0 39 "CombersSociety$Member" "unburied" "Z", Cond.methodLink RX1 164 yX1_payOut, Cond.instanceMethod yX1_payOut, Cond.selects RX1 yX1_payOut yX1_payOut, Cond.code yX1_payOut cX1_payOut 3 (some .int), Cond.fieldLink RX1 9 "CombersSociety$Society" "box" "I", Cond.fieldLink RX1 99 "CombersSociety$Society" "fellShort" "Z", Cond.methodLink RX1 130 Lib.Math.min.name, Cond.static Lib.Math.min.name, Cond.initialized "java/lang/Math", Cond.code Lib.Math.min.name Lib.Math.min.code 2 (some .int), Cond.methodLink RX1 167 yX0_getWell, Cond.instanceMethod yX0_getWell, Cond.selects RX0 yX0_getWell yX0_getWell, Cond.code yX0_getWell cX0_getWell 1 none]
def wsX1_nurseSick : List Cond := .code yX1_nurseSick cX1_nurseSick 5 none :: ((wsX1_nurseSick_r1 ++ wsX1_nurseSick_r2) ++ wsX10 ++ wsX00)
def wsX1_takeDues : List Cond := .code yX1_takeDues cX1_takeDues 5 none :: ([.fieldLink RX1 36 "CombersSociety$Society" "members" "[LCombersSociety$Member;", .fieldLink RX1 60 "CombersSociety$Member" "health" "I", .fieldLink RX1 9 "CombersSociety$Society" "box" "I", .fieldLink RX1 21 "CombersSociety$Society" "dues" "I", .methodLink RX1 170 yX0_payDues, .instanceMethod yX0_payDues, .selects RX0 yX0_payDues yX0_payDues, .initialized RX0, .code yX0_payDues cX0_payDues 2 (some .int), .fieldLink RX0 24 "CombersSociety$Member" "coins" "I", .fieldLink RX0 30 "CombersSociety$Member" "unpaid" "I", .methodLink RX0 43 Lib.Math.min.name, .static Lib.Math.min.name, .initialized "java/lang/Math", .code Lib.Math.min.name Lib.Math.min.code 2 (some .int)] ++ wsX10 ++ wsX00)
def wsX1_holdClubNight : List Cond := .code yX1_holdClubNight cX1_holdClubNight 5 none :: ([.fieldLink RX1 36 "CombersSociety$Society" "members" "[LCombersSociety$Member;", .fieldLink RX1 60 "CombersSociety$Member" "health" "I", .fieldLink RX1 9 "CombersSociety$Society" "box" "I", .methodLink RX1 173 yX0_spendClubNight, .instanceMethod yX0_spendClubNight, .selects RX0 yX0_spendClubNight yX0_spendClubNight, .initialized RX0, .code yX0_spendClubNight cX0_spendClubNight 2 (some .int), .fieldLink RX0 27 "CombersSociety$Member" "marks" "I", .fieldLink RX0 24 "CombersSociety$Member" "coins" "I", .fieldLink RX0 21 "CombersSociety$Member" "strength" "I", .methodLink RX0 43 Lib.Math.min.name, .static Lib.Math.min.name, .initialized "java/lang/Math", .code Lib.Math.min.name Lib.Math.min.code 2 (some .int), .methodLink RX0 49 yX0_payMarks, .instanceMethod yX0_payMarks, .selects RX0 yX0_payMarks yX0_payMarks, .code yX0_payMarks cX0_payMarks 2 (some .int)] ++ wsX10 ++ wsX00)
def wsX1_bury : List Cond := .code yX1_bury cX1_bury 6 none :: ([.fieldLink RX1 53 "CombersSociety$Society" "funeralsPaid" "I", .fieldLink RX1 9 "CombersSociety$Society" "box" "I", .fieldLink RX1 80 "CombersSociety$Member" "coins" "I", .fieldLink RX1 176 "CombersSociety$Member" "unburied" "Z", .fieldLink RX1 36 "CombersSociety$Society" "members" "[LCombersSociety$Member;", .methodLink RX1 164 yX1_payOut, .instanceMethod yX1_payOut, .selects RX1 yX1_payOut yX1_payOut, .initialized RX1, .code yX1_payOut cX1_payOut 3 (some .int), .fieldLink RX1 99 "CombersSociety$Society" "fellShort" "Z", .methodLink RX1 130 Lib.Math.min.name, .static Lib.Math.min.name, .initialized "java/lang/Math", .code Lib.Math.min.name Lib.Math.min.code 2 (some .int), .methodLink RX1 70 yX0_lives, .instanceMethod yX0_lives, .selects RX0 yX0_lives yX0_lives, .initialized RX0, .code yX0_lives cX0_lives 1 (some .boolean), .fieldLink RX0 15 "CombersSociety$Member" "health" "I"] ++ wsX10 ++ wsX00)
def wsX1_holdFunerals_r1 : List Cond := [Cond.fieldLink RX1 36 "CombersSociety$Society" "members" "[LCombersSociety$Member;", Cond.fieldLink RX1 176 "CombersSociety$Member" "unburied" "Z", Cond.methodLink RX1 179 yX1_bury, Cond.instanceMethod yX1_bury, Cond.selects RX1 yX1_bury yX1_bury, Cond.initialized RX1, Cond.code yX1_bury cX1_bury 6 none, Cond.fieldLink RX1 53 "CombersSociety$Society" "funeralsPaid" "I", Cond.fieldLink RX1 9 "CombersSociety$Society" "box" "I", Cond.fieldLink RX1 80 "CombersSociety$Member" "coins" "I", Cond.methodLink RX1 164 yX1_payOut, Cond.instanceMethod yX1_payOut, Cond.selects RX1 yX1_payOut yX1_payOut, Cond.code yX1_payOut cX1_payOut 3 (some .int), Cond.fieldLink RX1 99 "CombersSociety$Society" "fellShort" "Z", Cond.methodLink RX1 130 Lib.Math.min.name, Cond.static Lib.Math.min.name, Cond.initialized "java/lang/Math", Cond.code Lib.Math.min.name Lib.Math.min.code 2 (some .int), Cond.methodLink RX1 70 yX0_lives, Cond.instanceMethod yX0_lives, Cond.selects RX0 yX0_lives yX0_lives, Cond.initialized RX0, Cond.code yX0_lives cX0_lives 1 (some .boolean)]
def wsX1_holdFunerals_r2 : List Cond := [Cond.fieldLink RX0 15 "CombersSociety$Member" "health" "I"]
def wsX1_holdFunerals : List Cond := .code yX1_holdFunerals cX1_holdFunerals 5 none :: ((wsX1_holdFunerals_r1 ++ wsX1_holdFunerals_r2) ++ wsX10 ++ wsX00)
def wsX1_liveWeek_r1 : List Cond := [Cond.fieldLink RX1 99 "CombersSociety$Society" "fellShort" "Z", Cond.fieldLink RX1 41 "CombersSociety$Society" "week" "I", Cond.methodLink RX1 103 yX1_lightFires, Cond.instanceMethod yX1_lightFires, Cond.selects RX1 yX1_lightFires yX1_lightFires, Cond.initialized RX1, Cond.code yX1_lightFires cX1_lightFires 2 none, Cond.fieldLink RX1 31 "CombersSociety$Society" "combing" "[I", Cond.fieldLink RX1 15 "CombersSociety$Society" "coals" "I", Cond.fieldLink RX1 28 "CombersSociety$Society" "heats" "[I", Cond.methodLink RX1 130 Lib.Math.min.name, Cond.static Lib.Math.min.name, Cond.initialized "java/lang/Math", Cond.code Lib.Math.min.name Lib.Math.min.code 2 (some .int), Cond.methodLink RX1 133 Lib.Math.max.name, Cond.static Lib.Math.max.name, Cond.code Lib.Math.max.name Lib.Math.max.code 2 (some .int), Cond.methodLink RX1 74 yX1_countCombers, Cond.instanceMethod yX1_countCombers, Cond.selects RX1 yX1_countCombers yX1_countCombers, Cond.code yX1_countCombers cX1_countCombers 5 none, Cond.fieldLink RX1 36 "CombersSociety$Society" "members" "[LCombersSociety$Member;", Cond.fieldLink RX1 63 "CombersSociety$Member" "pot" "I", Cond.methodLink RX1 77 yX0_combs]
def wsX1_liveWeek_r2 : List Cond := [Cond.instanceMethod yX0_combs, Cond.selects RX0 yX0_combs yX0_combs, Cond.initialized RX0, Cond.code yX0_combs cX0_combs 1 (some .boolean), Cond.fieldLink RX0 15 "CombersSociety$Member" "health" "I", Cond.fieldLink RX0 9 "CombersSociety$Member" "pot" "I", Cond.methodLink RX1 106 yX1_combWool, Cond.instanceMethod yX1_combWool, Cond.selects RX1 yX1_combWool yX1_combWool, Cond.code yX1_combWool cX1_combWool 6 none, Cond.fieldLink RX1 18 "CombersSociety$Society" "wool" "I", Cond.fieldLink RX1 47 "CombersSociety$Society" "tops" "I", Cond.fieldLink RX1 80 "CombersSociety$Member" "coins" "I", Cond.methodLink RX1 139 yX1_poundsOf, Cond.instanceMethod yX1_poundsOf, Cond.selects RX1 yX1_poundsOf yX1_poundsOf, Cond.code yX1_poundsOf cX1_poundsOf 3 (some .int), Cond.fieldLink RX1 136 "CombersSociety$Member" "skill" "I", Cond.methodLink RX1 109 yX1_spreadFever, Cond.instanceMethod yX1_spreadFever, Cond.selects RX1 yX1_spreadFever yX1_spreadFever, Cond.code yX1_spreadFever cX1_spreadFever 6 none, Cond.fieldLink RX1 24 "CombersSociety$Society" "fevers" "[I", Cond.methodLink RX1 118 yJ9_floorMod_7cf53]
def wsX1_liveWeek_r3 : List Cond := [Cond.static yJ9_floorMod_7cf53, Cond.initialized RJ9, Cond.code yJ9_floorMod_7cf53 cJ9_floorMod_7cf53 3 (some .int), Cond.methodLink RX1 143 yX0_fallSick, Cond.instanceMethod yX0_fallSick, Cond.selects RX0 yX0_fallSick yX0_fallSick, Cond.code yX0_fallSick cX0_fallSick 1 none, Cond.fieldLink RX0 21 "CombersSociety$Member" "strength" "I", Cond.fieldLink RX0 33 "CombersSociety$Member" "weeksLeft" "I", Cond.fieldLink RX0 36 "CombersSociety$Member" "weeksSick" "I", Cond.methodLink RX1 112 yX1_nurseSick, Cond.instanceMethod yX1_nurseSick, Cond.selects RX1 yX1_nurseSick yX1_nurseSick, Cond.code yX1_nurseSick cX1_nurseSick 5 none, Cond.fieldLink RX1 60 "CombersSociety$Member" "health" "I", Cond.methodLink RX1 146 yX1_nurse, Cond.instanceMethod yX1_nurse, Cond.selects RX1 yX1_nurse yX1_nurse, Cond.code yX1_nurse cX1_nurse 3 none, Cond.fieldLink RX1 149 "CombersSociety$Member" "strength" "I", Cond.fieldLink RX1 155 "CombersSociety$Member" "weeksSick" "I", Cond.fieldLink RX1 158 "CombersSociety$Member" "weeksLeft" "I", Cond.fieldLink RX1 161 "CombersSociety$Member" "unpaid" "I", Cond.fieldLink RX1 50 "CombersSociety$Society" "sickPaid" "I"]
def wsX1_liveWeek_r4 : List Cond := [Cond.methodLink RX1 152 yX0_die, Cond.instanceMethod yX0_die, Cond.selects RX0 yX0_die yX0_die, Cond.code yX0_die cX0_die 1 none, Cond.fieldLink RX0 27 "CombersSociety$Member" "marks" "I", Cond.fieldLink RX0 30 "CombersSociety$Member" "unpaid" "I", Cond.fieldLink RX0 39 "CombersSociety$Member" "unburied" "Z", Cond.methodLink RX1 164 yX1_payOut, Cond.instanceMethod yX1_payOut, Cond.selects RX1 yX1_payOut yX1_payOut, Cond.code yX1_payOut cX1_payOut 3 (some .int), Cond.fieldLink RX1 9 "CombersSociety$Society" "box" "I", Cond.methodLink RX1 167 yX0_getWell, Cond.instanceMethod yX0_getWell, Cond.selects RX0 yX0_getWell yX0_getWell, Cond.code yX0_getWell cX0_getWell 1 none, Cond.methodLink RX1 115 yX1_takeDues, Cond.instanceMethod yX1_takeDues, Cond.selects RX1 yX1_takeDues yX1_takeDues, Cond.code yX1_takeDues cX1_takeDues 5 none, Cond.fieldLink RX1 21 "CombersSociety$Society" "dues" "I", Cond.methodLink RX1 170 yX0_payDues, Cond.instanceMethod yX0_payDues, Cond.selects RX0 yX0_payDues yX0_payDues]
def wsX1_liveWeek_r5 : List Cond := [Cond.code yX0_payDues cX0_payDues 2 (some .int), Cond.fieldLink RX0 24 "CombersSociety$Member" "coins" "I", Cond.methodLink RX0 43 Lib.Math.min.name, Cond.methodLink RX1 124 yX1_holdClubNight, Cond.instanceMethod yX1_holdClubNight, Cond.selects RX1 yX1_holdClubNight yX1_holdClubNight, Cond.code yX1_holdClubNight cX1_holdClubNight 5 none, Cond.methodLink RX1 173 yX0_spendClubNight, Cond.instanceMethod yX0_spendClubNight, Cond.selects RX0 yX0_spendClubNight yX0_spendClubNight, Cond.code yX0_spendClubNight cX0_spendClubNight 2 (some .int), Cond.methodLink RX0 49 yX0_payMarks, Cond.instanceMethod yX0_payMarks, Cond.selects RX0 yX0_payMarks yX0_payMarks, Cond.code yX0_payMarks cX0_payMarks 2 (some .int), Cond.methodLink RX1 127 yX1_holdFunerals, Cond.instanceMethod yX1_holdFunerals, Cond.selects RX1 yX1_holdFunerals yX1_holdFunerals, Cond.code yX1_holdFunerals cX1_holdFunerals 5 none, Cond.fieldLink RX1 176 "CombersSociety$Member" "unburied" "Z", Cond.methodLink RX1 179 yX1_bury, Cond.instanceMethod yX1_bury, Cond.selects RX1 yX1_bury yX1_bury, Cond.code yX1_bury cX1_bury 6 none]
def wsX1_liveWeek_r6 : List Cond := [Cond.fieldLink RX1 53 "CombersSociety$Society" "funeralsPaid" "I", Cond.methodLink RX1 70 yX0_lives, Cond.instanceMethod yX0_lives, Cond.selects RX0 yX0_lives yX0_lives, Cond.code yX0_lives cX0_lives 1 (some .boolean)]
def wsX1_liveWeek : List Cond := .code yX1_liveWeek cX1_liveWeek 1 none :: ((wsX1_liveWeek_r1 ++ (wsX1_liveWeek_r2 ++ (wsX1_liveWeek_r3 ++ (wsX1_liveWeek_r4 ++ (wsX1_liveWeek_r5 ++ wsX1_liveWeek_r6))))) ++ wsX10 ++ wsX00)
def wsX1_liveWeeks_r1 : List Cond := [Cond.methodLink RX1 96 yX1_liveWeek, Cond.instanceMethod yX1_liveWeek, Cond.selects RX1 yX1_liveWeek yX1_liveWeek, Cond.initialized RX1, Cond.code yX1_liveWeek cX1_liveWeek 1 none, Cond.fieldLink RX1 99 "CombersSociety$Society" "fellShort" "Z", Cond.fieldLink RX1 41 "CombersSociety$Society" "week" "I", Cond.methodLink RX1 103 yX1_lightFires, Cond.instanceMethod yX1_lightFires, Cond.selects RX1 yX1_lightFires yX1_lightFires, Cond.code yX1_lightFires cX1_lightFires 2 none, Cond.fieldLink RX1 31 "CombersSociety$Society" "combing" "[I", Cond.fieldLink RX1 15 "CombersSociety$Society" "coals" "I", Cond.fieldLink RX1 28 "CombersSociety$Society" "heats" "[I", Cond.methodLink RX1 130 Lib.Math.min.name, Cond.static Lib.Math.min.name, Cond.initialized "java/lang/Math", Cond.code Lib.Math.min.name Lib.Math.min.code 2 (some .int), Cond.methodLink RX1 133 Lib.Math.max.name, Cond.static Lib.Math.max.name, Cond.code Lib.Math.max.name Lib.Math.max.code 2 (some .int), Cond.methodLink RX1 74 yX1_countCombers, Cond.instanceMethod yX1_countCombers, Cond.selects RX1 yX1_countCombers yX1_countCombers]
def wsX1_liveWeeks_r2 : List Cond := [Cond.code yX1_countCombers cX1_countCombers 5 none, Cond.fieldLink RX1 36 "CombersSociety$Society" "members" "[LCombersSociety$Member;", Cond.fieldLink RX1 63 "CombersSociety$Member" "pot" "I", Cond.methodLink RX1 77 yX0_combs, Cond.instanceMethod yX0_combs, Cond.selects RX0 yX0_combs yX0_combs, Cond.initialized RX0, Cond.code yX0_combs cX0_combs 1 (some .boolean), Cond.fieldLink RX0 15 "CombersSociety$Member" "health" "I", Cond.fieldLink RX0 9 "CombersSociety$Member" "pot" "I", Cond.methodLink RX1 106 yX1_combWool, Cond.instanceMethod yX1_combWool, Cond.selects RX1 yX1_combWool yX1_combWool, Cond.code yX1_combWool cX1_combWool 6 none, Cond.fieldLink RX1 18 "CombersSociety$Society" "wool" "I", Cond.fieldLink RX1 47 "CombersSociety$Society" "tops" "I", Cond.fieldLink RX1 80 "CombersSociety$Member" "coins" "I", Cond.methodLink RX1 139 yX1_poundsOf, Cond.instanceMethod yX1_poundsOf, Cond.selects RX1 yX1_poundsOf yX1_poundsOf, Cond.code yX1_poundsOf cX1_poundsOf 3 (some .int), Cond.fieldLink RX1 136 "CombersSociety$Member" "skill" "I", Cond.methodLink RX1 109 yX1_spreadFever, Cond.instanceMethod yX1_spreadFever]
def wsX1_liveWeeks_r3 : List Cond := [Cond.selects RX1 yX1_spreadFever yX1_spreadFever, Cond.code yX1_spreadFever cX1_spreadFever 6 none, Cond.fieldLink RX1 24 "CombersSociety$Society" "fevers" "[I", Cond.methodLink RX1 118 yJ9_floorMod_7cf53, Cond.static yJ9_floorMod_7cf53, Cond.initialized RJ9, Cond.code yJ9_floorMod_7cf53 cJ9_floorMod_7cf53 3 (some .int), Cond.methodLink RX1 143 yX0_fallSick, Cond.instanceMethod yX0_fallSick, Cond.selects RX0 yX0_fallSick yX0_fallSick, Cond.code yX0_fallSick cX0_fallSick 1 none, Cond.fieldLink RX0 21 "CombersSociety$Member" "strength" "I", Cond.fieldLink RX0 33 "CombersSociety$Member" "weeksLeft" "I", Cond.fieldLink RX0 36 "CombersSociety$Member" "weeksSick" "I", Cond.methodLink RX1 112 yX1_nurseSick, Cond.instanceMethod yX1_nurseSick, Cond.selects RX1 yX1_nurseSick yX1_nurseSick, Cond.code yX1_nurseSick cX1_nurseSick 5 none, Cond.fieldLink RX1 60 "CombersSociety$Member" "health" "I", Cond.methodLink RX1 146 yX1_nurse, Cond.instanceMethod yX1_nurse, Cond.selects RX1 yX1_nurse yX1_nurse, Cond.code yX1_nurse cX1_nurse 3 none, Cond.fieldLink RX1 149 "CombersSociety$Member" "strength" "I"]
def wsX1_liveWeeks_r4 : List Cond := [Cond.fieldLink RX1 155 "CombersSociety$Member" "weeksSick" "I", Cond.fieldLink RX1 158 "CombersSociety$Member" "weeksLeft" "I", Cond.fieldLink RX1 161 "CombersSociety$Member" "unpaid" "I", Cond.fieldLink RX1 50 "CombersSociety$Society" "sickPaid" "I", Cond.methodLink RX1 152 yX0_die, Cond.instanceMethod yX0_die, Cond.selects RX0 yX0_die yX0_die, Cond.code yX0_die cX0_die 1 none, Cond.fieldLink RX0 27 "CombersSociety$Member" "marks" "I", Cond.fieldLink RX0 30 "CombersSociety$Member" "unpaid" "I", Cond.fieldLink RX0 39 "CombersSociety$Member" "unburied" "Z", Cond.methodLink RX1 164 yX1_payOut, Cond.instanceMethod yX1_payOut, Cond.selects RX1 yX1_payOut yX1_payOut, Cond.code yX1_payOut cX1_payOut 3 (some .int), Cond.fieldLink RX1 9 "CombersSociety$Society" "box" "I", Cond.methodLink RX1 167 yX0_getWell, Cond.instanceMethod yX0_getWell, Cond.selects RX0 yX0_getWell yX0_getWell, Cond.code yX0_getWell cX0_getWell 1 none, Cond.methodLink RX1 115 yX1_takeDues, Cond.instanceMethod yX1_takeDues, Cond.selects RX1 yX1_takeDues yX1_takeDues, Cond.code yX1_takeDues cX1_takeDues 5 none]
def wsX1_liveWeeks_r5 : List Cond := [Cond.fieldLink RX1 21 "CombersSociety$Society" "dues" "I", Cond.methodLink RX1 170 yX0_payDues, Cond.instanceMethod yX0_payDues, Cond.selects RX0 yX0_payDues yX0_payDues, Cond.code yX0_payDues cX0_payDues 2 (some .int), Cond.fieldLink RX0 24 "CombersSociety$Member" "coins" "I", Cond.methodLink RX0 43 Lib.Math.min.name, Cond.methodLink RX1 124 yX1_holdClubNight, Cond.instanceMethod yX1_holdClubNight, Cond.selects RX1 yX1_holdClubNight yX1_holdClubNight, Cond.code yX1_holdClubNight cX1_holdClubNight 5 none, Cond.methodLink RX1 173 yX0_spendClubNight, Cond.instanceMethod yX0_spendClubNight, Cond.selects RX0 yX0_spendClubNight yX0_spendClubNight, Cond.code yX0_spendClubNight cX0_spendClubNight 2 (some .int), Cond.methodLink RX0 49 yX0_payMarks, Cond.instanceMethod yX0_payMarks, Cond.selects RX0 yX0_payMarks yX0_payMarks, Cond.code yX0_payMarks cX0_payMarks 2 (some .int), Cond.methodLink RX1 127 yX1_holdFunerals, Cond.instanceMethod yX1_holdFunerals, Cond.selects RX1 yX1_holdFunerals yX1_holdFunerals, Cond.code yX1_holdFunerals cX1_holdFunerals 5 none, Cond.fieldLink RX1 176 "CombersSociety$Member" "unburied" "Z"]
def wsX1_liveWeeks_r6 : List Cond := [Cond.methodLink RX1 179 yX1_bury, Cond.instanceMethod yX1_bury, Cond.selects RX1 yX1_bury yX1_bury, Cond.code yX1_bury cX1_bury 6 none, Cond.fieldLink RX1 53 "CombersSociety$Society" "funeralsPaid" "I", Cond.methodLink RX1 70 yX0_lives, Cond.instanceMethod yX0_lives, Cond.selects RX0 yX0_lives yX0_lives, Cond.code yX0_lives cX0_lives 1 (some .boolean)]
def wsX1_liveWeeks : List Cond := .code yX1_liveWeeks cX1_liveWeeks 3 none :: ((wsX1_liveWeeks_r1 ++ (wsX1_liveWeeks_r2 ++ (wsX1_liveWeeks_r3 ++ (wsX1_liveWeeks_r4 ++ (wsX1_liveWeeks_r5 ++ wsX1_liveWeeks_r6))))) ++ wsX10 ++ wsX00)
def wsX1_poundsOfPot : List Cond := .code yX1_poundsOfPot cX1_poundsOfPot 7 (some .int) :: ([.fieldLink RX1 36 "CombersSociety$Society" "members" "[LCombersSociety$Member;", .fieldLink RX1 63 "CombersSociety$Member" "pot" "I", .methodLink RX1 139 yX1_poundsOf, .instanceMethod yX1_poundsOf, .selects RX1 yX1_poundsOf yX1_poundsOf, .initialized RX1, .code yX1_poundsOf cX1_poundsOf 3 (some .int), .fieldLink RX1 31 "CombersSociety$Society" "combing" "[I", .methodLink RX1 133 Lib.Math.max.name, .static Lib.Math.max.name, .initialized "java/lang/Math", .code Lib.Math.max.name Lib.Math.max.code 2 (some .int), .fieldLink RX1 136 "CombersSociety$Member" "skill" "I", .fieldLink RX1 28 "CombersSociety$Society" "heats" "[I", .methodLink RX1 77 yX0_combs, .instanceMethod yX0_combs, .selects RX0 yX0_combs yX0_combs, .initialized RX0, .code yX0_combs cX0_combs 1 (some .boolean), .fieldLink RX0 15 "CombersSociety$Member" "health" "I", .fieldLink RX0 9 "CombersSociety$Member" "pot" "I"] ++ wsX10 ++ wsX00)
def wsX2_init_r1 : List Cond := [Cond.methodLink RX2 1 objectInit, Cond.instanceMethod objectInit, Cond.code objectInit ⟨#[0xb1]⟩ 1 none, Cond.classLink RX2 7 RX1, Cond.instantiable RX1 14, Cond.initialized RX1, Cond.fieldLink RX2 10 "CombersSociety" "now" "LCombersSociety$Society;", Cond.fieldLink RX2 16 "CombersSociety" "trial" "LCombersSociety$Society;", Cond.methodLink RX2 9 yX1_init, Cond.instanceMethod yX1_init, Cond.code yX1_init cX1_init 2 none, Cond.methodLink RX1 3 objectInit, Cond.fieldLink RX1 9 "CombersSociety$Society" "box" "I", Cond.fieldLink RX1 15 "CombersSociety$Society" "coals" "I", Cond.fieldLink RX1 18 "CombersSociety$Society" "wool" "I", Cond.fieldLink RX1 21 "CombersSociety$Society" "dues" "I", Cond.arrayClass .int, Cond.fieldLink RX1 24 "CombersSociety$Society" "fevers" "[I", Cond.fieldLink RX1 28 "CombersSociety$Society" "heats" "[I", Cond.fieldLink RX1 31 "CombersSociety$Society" "combing" "[I", Cond.classLink RX1 34 RX0, Cond.fieldLink RX1 36 "CombersSociety$Society" "members" "[LCombersSociety$Member;", Cond.instantiable RX0 10, Cond.initialized RX0]
def wsX2_init_r2 : List Cond := [Cond.methodLink RX1 40 yX0_init, Cond.instanceMethod yX0_init, Cond.code yX0_init cX0_init 1 none, Cond.methodLink RX0 3 objectInit, Cond.fieldLink RX0 9 "CombersSociety$Member" "pot" "I", Cond.fieldLink RX0 15 "CombersSociety$Member" "health" "I"]
def wsX2_init : List Cond := .code yX2_init cX2_init 1 none :: ((wsX2_init_r1 ++ wsX2_init_r2) ++ wsX10 ++ wsX20 ++ wsX00)
def wsX2_isOutside : List Cond := .code yX2_isOutside cX2_isOutside 3 (some .boolean) :: ([])
def wsX2_join : List Cond := .code yX2_join cX2_join 4 (some .int) :: ([.classLink RX2 23 "java/lang/IllegalArgumentException", .initialized "java/lang/IllegalArgumentException", .classLink RX2 34 "java/lang/IllegalStateException", .initialized "java/lang/IllegalStateException", .fieldLink RX2 10 "CombersSociety" "now" "LCombersSociety$Society;", .fieldLink RX2 30 "CombersSociety$Society" "joined" "I", .fieldLink RX2 39 "CombersSociety$Society" "members" "[LCombersSociety$Member;", .methodLink RX2 19 yX2_isOutside, .static yX2_isOutside, .initialized RX2, .code yX2_isOutside cX2_isOutside 3 (some .boolean), .methodLink RX2 43 yX0_enter, .instanceMethod yX0_enter, .selects RX0 yX0_enter yX0_enter, .initialized RX0, .code yX0_enter cX0_enter 3 none, .fieldLink RX0 18 "CombersSociety$Member" "skill" "I", .fieldLink RX0 21 "CombersSociety$Member" "strength" "I", .fieldLink RX0 24 "CombersSociety$Member" "coins" "I", .fieldLink RX0 15 "CombersSociety$Member" "health" "I"] ++ wsX20 ++ wsX10 ++ wsX00 ++ (vx_atS RX2 27 "java/lang/IllegalArgumentException" ["java/lang/RuntimeException", "java/lang/Exception"]).filter goodWord ++ (vx_atS RX2 38 "java/lang/IllegalStateException" ["java/lang/RuntimeException", "java/lang/Exception"]).filter goodWord)
def wsX2_place_r1 : List Cond := [Cond.classLink RX2 53 "java/lang/IndexOutOfBoundsException", Cond.initialized "java/lang/IndexOutOfBoundsException", Cond.classLink RX2 34 "java/lang/IllegalStateException", Cond.initialized "java/lang/IllegalStateException", Cond.fieldLink RX2 10 "CombersSociety" "now" "LCombersSociety$Society;", Cond.fieldLink RX2 39 "CombersSociety$Society" "members" "[LCombersSociety$Member;", Cond.fieldLink RX2 58 "CombersSociety$Member" "health" "I", Cond.fieldLink RX2 67 "CombersSociety$Member" "pot" "I", Cond.methodLink RX2 49 yX1_hasMember, Cond.instanceMethod yX1_hasMember, Cond.selects RX1 yX1_hasMember yX1_hasMember, Cond.initialized RX1, Cond.code yX1_hasMember cX1_hasMember 2 (some .boolean), Cond.fieldLink RX1 36 "CombersSociety$Society" "members" "[LCombersSociety$Member;", Cond.fieldLink RX1 60 "CombersSociety$Member" "health" "I", Cond.methodLink RX2 19 yX2_isOutside, Cond.static yX2_isOutside, Cond.initialized RX2, Cond.code yX2_isOutside cX2_isOutside 3 (some .boolean), Cond.methodLink RX2 61 yX1_hasRoom, Cond.instanceMethod yX1_hasRoom, Cond.selects RX1 yX1_hasRoom yX1_hasRoom, Cond.code yX1_hasRoom cX1_hasRoom 4 (some .boolean), Cond.fieldLink RX1 63 "CombersSociety$Member" "pot" "I"]
def wsX2_place_r2 : List Cond := [Cond.methodLink RX1 66 yX1_atPot, Cond.instanceMethod yX1_atPot, Cond.selects RX1 yX1_atPot yX1_atPot, Cond.code yX1_atPot cX1_atPot 7 (some .int), Cond.methodLink RX1 70 yX0_lives, Cond.instanceMethod yX0_lives, Cond.selects RX0 yX0_lives yX0_lives, Cond.initialized RX0, Cond.code yX0_lives cX0_lives 1 (some .boolean), Cond.fieldLink RX0 15 "CombersSociety$Member" "health" "I"]
def wsX2_place : List Cond := .code yX2_place cX2_place 5 (some .int) :: ((wsX2_place_r1 ++ wsX2_place_r2) ++ wsX20 ++ wsX10 ++ wsX00 ++ (vx_atS RX2 57 "java/lang/IndexOutOfBoundsException" ["java/lang/RuntimeException", "java/lang/Exception"]).filter goodWord ++ (vx_atS RX2 38 "java/lang/IllegalStateException" ["java/lang/RuntimeException", "java/lang/Exception"]).filter goodWord)
def wsX2_give : List Cond := .code yX2_give cX2_give 6 (some .int) :: ([.classLink RX2 53 "java/lang/IndexOutOfBoundsException", .initialized "java/lang/IndexOutOfBoundsException", .classLink RX2 23 "java/lang/IllegalArgumentException", .initialized "java/lang/IllegalArgumentException", .classLink RX2 34 "java/lang/IllegalStateException", .initialized "java/lang/IllegalStateException", .fieldLink RX2 10 "CombersSociety" "now" "LCombersSociety$Society;", .fieldLink RX2 39 "CombersSociety$Society" "members" "[LCombersSociety$Member;", .fieldLink RX2 58 "CombersSociety$Member" "health" "I", .fieldLink RX2 74 "CombersSociety$Member" "coins" "I", .methodLink RX2 49 yX1_hasMember, .instanceMethod yX1_hasMember, .selects RX1 yX1_hasMember yX1_hasMember, .initialized RX1, .code yX1_hasMember cX1_hasMember 2 (some .boolean), .fieldLink RX1 36 "CombersSociety$Society" "members" "[LCombersSociety$Member;", .fieldLink RX1 60 "CombersSociety$Member" "health" "I", .methodLink RX2 19 yX2_isOutside, .static yX2_isOutside, .initialized RX2, .code yX2_isOutside cX2_isOutside 3 (some .boolean)] ++ wsX20 ++ wsX10 ++ wsX00 ++ (vx_atS RX2 57 "java/lang/IndexOutOfBoundsException" ["java/lang/RuntimeException", "java/lang/Exception"]).filter goodWord ++ (vx_atS RX2 27 "java/lang/IllegalArgumentException" ["java/lang/RuntimeException", "java/lang/Exception"]).filter goodWord ++ (vx_atS RX2 38 "java/lang/IllegalStateException" ["java/lang/RuntimeException", "java/lang/Exception"]).filter goodWord)
def wsX2_settle_r1 : List Cond := [Cond.classLink RX2 53 "java/lang/IndexOutOfBoundsException", Cond.initialized "java/lang/IndexOutOfBoundsException", Cond.classLink RX2 34 "java/lang/IllegalStateException", Cond.initialized "java/lang/IllegalStateException", Cond.fieldLink RX2 10 "CombersSociety" "now" "LCombersSociety$Society;", Cond.fieldLink RX2 39 "CombersSociety$Society" "members" "[LCombersSociety$Member;", Cond.fieldLink RX2 58 "CombersSociety$Member" "health" "I", Cond.fieldLink RX2 80 "CombersSociety$Society" "box" "I", Cond.fieldLink RX2 87 "CombersSociety$Member" "marks" "I", Cond.methodLink RX2 49 yX1_hasMember, Cond.instanceMethod yX1_hasMember, Cond.selects RX1 yX1_hasMember yX1_hasMember, Cond.initialized RX1, Cond.code yX1_hasMember cX1_hasMember 2 (some .boolean), Cond.fieldLink RX1 36 "CombersSociety$Society" "members" "[LCombersSociety$Member;", Cond.fieldLink RX1 60 "CombersSociety$Member" "health" "I", Cond.methodLink RX2 83 yX0_payMarks, Cond.instanceMethod yX0_payMarks, Cond.selects RX0 yX0_payMarks yX0_payMarks, Cond.initialized RX0, Cond.code yX0_payMarks cX0_payMarks 2 (some .int), Cond.fieldLink RX0 27 "CombersSociety$Member" "marks" "I", Cond.fieldLink RX0 24 "CombersSociety$Member" "coins" "I", Cond.methodLink RX0 43 Lib.Math.min.name]
def wsX2_settle_r2 : List Cond := [Cond.static Lib.Math.min.name, Cond.initialized "java/lang/Math", Cond.code Lib.Math.min.name Lib.Math.min.code 2 (some .int)]
def wsX2_settle : List Cond := .code yX2_settle cX2_settle 3 (some .int) :: ((wsX2_settle_r1 ++ wsX2_settle_r2) ++ wsX20 ++ wsX10 ++ wsX00 ++ (vx_atS RX2 57 "java/lang/IndexOutOfBoundsException" ["java/lang/RuntimeException", "java/lang/Exception"]).filter goodWord ++ (vx_atS RX2 38 "java/lang/IllegalStateException" ["java/lang/RuntimeException", "java/lang/Exception"]).filter goodWord)
def wsX2_told_r1 : List Cond := [Cond.classLink RX2 53 "java/lang/IndexOutOfBoundsException", Cond.initialized "java/lang/IndexOutOfBoundsException", Cond.fieldLink RX2 10 "CombersSociety" "now" "LCombersSociety$Society;", Cond.fieldLink RX2 39 "CombersSociety$Society" "members" "[LCombersSociety$Member;", Cond.methodLink RX2 49 yX1_hasMember, Cond.instanceMethod yX1_hasMember, Cond.selects RX1 yX1_hasMember yX1_hasMember, Cond.initialized RX1, Cond.code yX1_hasMember cX1_hasMember 2 (some .boolean), Cond.fieldLink RX1 36 "CombersSociety$Society" "members" "[LCombersSociety$Member;", Cond.fieldLink RX1 60 "CombersSociety$Member" "health" "I", Cond.methodLink RX2 19 yX2_isOutside, Cond.static yX2_isOutside, Cond.initialized RX2, Cond.code yX2_isOutside cX2_isOutside 3 (some .boolean), Cond.methodLink RX2 92 yX0_fact, Cond.instanceMethod yX0_fact, Cond.selects RX0 yX0_fact yX0_fact, Cond.initialized RX0, Cond.code yX0_fact cX0_fact 2 (some .int), Cond.fieldLink RX0 18 "CombersSociety$Member" "skill" "I", Cond.fieldLink RX0 21 "CombersSociety$Member" "strength" "I", Cond.fieldLink RX0 24 "CombersSociety$Member" "coins" "I", Cond.fieldLink RX0 27 "CombersSociety$Member" "marks" "I"]
def wsX2_told_r2 : List Cond := [Cond.fieldLink RX0 30 "CombersSociety$Member" "unpaid" "I", Cond.fieldLink RX0 9 "CombersSociety$Member" "pot" "I", Cond.fieldLink RX0 15 "CombersSociety$Member" "health" "I", Cond.fieldLink RX0 33 "CombersSociety$Member" "weeksLeft" "I", Cond.fieldLink RX0 36 "CombersSociety$Member" "weeksSick" "I"]
def wsX2_told : List Cond := .code yX2_told cX2_told 3 (some .int) :: ((wsX2_told_r1 ++ wsX2_told_r2) ++ wsX20 ++ wsX10 ++ wsX00 ++ (vx_atS RX2 57 "java/lang/IndexOutOfBoundsException" ["java/lang/RuntimeException", "java/lang/Exception"]).filter goodWord)
def wsX2_owes : List Cond := .code yX2_owes cX2_owes 4 (some .int) :: ([.fieldLink RX2 10 "CombersSociety" "now" "LCombersSociety$Society;", .fieldLink RX2 39 "CombersSociety$Society" "members" "[LCombersSociety$Member;", .fieldLink RX2 87 "CombersSociety$Member" "marks" "I"] ++ wsX20 ++ wsX10 ++ wsX00)
def wsX2_setFever : List Cond := .code yX2_setFever cX2_setFever 4 (some .int) :: ([.classLink RX2 53 "java/lang/IndexOutOfBoundsException", .initialized "java/lang/IndexOutOfBoundsException", .classLink RX2 23 "java/lang/IllegalArgumentException", .initialized "java/lang/IllegalArgumentException", .fieldLink RX2 10 "CombersSociety" "now" "LCombersSociety$Society;", .fieldLink RX2 99 "CombersSociety$Society" "fevers" "[I", .methodLink RX2 19 yX2_isOutside, .static yX2_isOutside, .initialized RX2, .code yX2_isOutside cX2_isOutside 3 (some .boolean)] ++ wsX20 ++ wsX10 ++ (vx_atS RX2 57 "java/lang/IndexOutOfBoundsException" ["java/lang/RuntimeException", "java/lang/Exception"]).filter goodWord ++ (vx_atS RX2 27 "java/lang/IllegalArgumentException" ["java/lang/RuntimeException", "java/lang/Exception"]).filter goodWord)
def wsX2_setDues : List Cond := .code yX2_setDues cX2_setDues 3 (some .int) :: ([.classLink RX2 23 "java/lang/IllegalArgumentException", .initialized "java/lang/IllegalArgumentException", .fieldLink RX2 10 "CombersSociety" "now" "LCombersSociety$Society;", .fieldLink RX2 105 "CombersSociety$Society" "dues" "I", .methodLink RX2 19 yX2_isOutside, .static yX2_isOutside, .initialized RX2, .code yX2_isOutside cX2_isOutside 3 (some .boolean)] ++ wsX20 ++ wsX10 ++ (vx_atS RX2 27 "java/lang/IllegalArgumentException" ["java/lang/RuntimeException", "java/lang/Exception"]).filter goodWord)
def wsX2_buy : List Cond := .code yX2_buy cX2_buy 4 (some .int) :: ([.classLink RX2 53 "java/lang/IndexOutOfBoundsException", .initialized "java/lang/IndexOutOfBoundsException", .classLink RX2 23 "java/lang/IllegalArgumentException", .initialized "java/lang/IllegalArgumentException", .classLink RX2 34 "java/lang/IllegalStateException", .initialized "java/lang/IllegalStateException", .fieldLink RX2 10 "CombersSociety" "now" "LCombersSociety$Society;", .fieldLink RX2 80 "CombersSociety$Society" "box" "I", .fieldLink RX2 113 "CombersSociety$Society" "coals" "I", .fieldLink RX2 116 "CombersSociety$Society" "wool" "I", .methodLink RX2 19 yX2_isOutside, .static yX2_isOutside, .initialized RX2, .code yX2_isOutside cX2_isOutside 3 (some .boolean)] ++ wsX20 ++ wsX10 ++ (vx_atS RX2 57 "java/lang/IndexOutOfBoundsException" ["java/lang/RuntimeException", "java/lang/Exception"]).filter goodWord ++ (vx_atS RX2 27 "java/lang/IllegalArgumentException" ["java/lang/RuntimeException", "java/lang/Exception"]).filter goodWord ++ (vx_atS RX2 38 "java/lang/IllegalStateException" ["java/lang/RuntimeException", "java/lang/Exception"]).filter goodWord)
def wsX2_sell : List Cond := .code yX2_sell cX2_sell 2 (some .int) :: ([.classLink RX2 23 "java/lang/IllegalArgumentException", .initialized "java/lang/IllegalArgumentException", .classLink RX2 34 "java/lang/IllegalStateException", .initialized "java/lang/IllegalStateException", .fieldLink RX2 10 "CombersSociety" "now" "LCombersSociety$Society;", .fieldLink RX2 121 "CombersSociety$Society" "tops" "I", .fieldLink RX2 80 "CombersSociety$Society" "box" "I", .methodLink RX2 19 yX2_isOutside, .static yX2_isOutside, .initialized RX2, .code yX2_isOutside cX2_isOutside 3 (some .boolean)] ++ wsX20 ++ wsX10 ++ (vx_atS RX2 27 "java/lang/IllegalArgumentException" ["java/lang/RuntimeException", "java/lang/Exception"]).filter goodWord ++ (vx_atS RX2 38 "java/lang/IllegalStateException" ["java/lang/RuntimeException", "java/lang/Exception"]).filter goodWord)
def wsX2_potFact_r1 : List Cond := [Cond.fieldLink RX2 10 "CombersSociety" "now" "LCombersSociety$Society;", Cond.fieldLink RX2 16 "CombersSociety" "trial" "LCombersSociety$Society;", Cond.methodLink RX2 168 yX1_heatOf, Cond.instanceMethod yX1_heatOf, Cond.selects RX1 yX1_heatOf yX1_heatOf, Cond.initialized RX1, Cond.code yX1_heatOf cX1_heatOf 2 (some .int), Cond.fieldLink RX1 28 "CombersSociety$Society" "heats" "[I", Cond.methodLink RX2 171 yX1_atPot, Cond.instanceMethod yX1_atPot, Cond.selects RX1 yX1_atPot yX1_atPot, Cond.code yX1_atPot cX1_atPot 7 (some .int), Cond.fieldLink RX1 36 "CombersSociety$Society" "members" "[LCombersSociety$Member;", Cond.fieldLink RX1 63 "CombersSociety$Member" "pot" "I", Cond.methodLink RX1 70 yX0_lives, Cond.instanceMethod yX0_lives, Cond.selects RX0 yX0_lives yX0_lives, Cond.initialized RX0, Cond.code yX0_lives cX0_lives 1 (some .boolean), Cond.fieldLink RX0 15 "CombersSociety$Member" "health" "I", Cond.methodLink RX2 174 yX1_combersAt, Cond.instanceMethod yX1_combersAt, Cond.selects RX1 yX1_combersAt yX1_combersAt, Cond.code yX1_combersAt cX1_combersAt 2 (some .int)]
def wsX2_potFact_r2 : List Cond := [Cond.fieldLink RX1 31 "CombersSociety$Society" "combing" "[I", Cond.methodLink RX1 74 yX1_countCombers, Cond.instanceMethod yX1_countCombers, Cond.selects RX1 yX1_countCombers yX1_countCombers, Cond.code yX1_countCombers cX1_countCombers 5 none, Cond.methodLink RX1 77 yX0_combs, Cond.instanceMethod yX0_combs, Cond.selects RX0 yX0_combs yX0_combs, Cond.code yX0_combs cX0_combs 1 (some .boolean), Cond.fieldLink RX0 9 "CombersSociety$Member" "pot" "I", Cond.methodLink RX2 141 yX1_copyFrom, Cond.instanceMethod yX1_copyFrom, Cond.selects RX1 yX1_copyFrom yX1_copyFrom, Cond.code yX1_copyFrom cX1_copyFrom 3 none, Cond.fieldLink RX1 41 "CombersSociety$Society" "week" "I", Cond.fieldLink RX1 44 "CombersSociety$Society" "joined" "I", Cond.fieldLink RX1 9 "CombersSociety$Society" "box" "I", Cond.fieldLink RX1 15 "CombersSociety$Society" "coals" "I", Cond.fieldLink RX1 18 "CombersSociety$Society" "wool" "I", Cond.fieldLink RX1 47 "CombersSociety$Society" "tops" "I", Cond.fieldLink RX1 21 "CombersSociety$Society" "dues" "I", Cond.fieldLink RX1 50 "CombersSociety$Society" "sickPaid" "I", Cond.fieldLink RX1 53 "CombersSociety$Society" "funeralsPaid" "I", Cond.fieldLink RX1 24 "CombersSociety$Society" "fevers" "[I"]
def wsX2_potFact_r3 : List Cond := [Cond.methodLink RX1 56 yX0_copyFrom, Cond.instanceMethod yX0_copyFrom, Cond.selects RX0 yX0_copyFrom yX0_copyFrom, Cond.code yX0_copyFrom cX0_copyFrom 2 none, Cond.fieldLink RX0 18 "CombersSociety$Member" "skill" "I", Cond.fieldLink RX0 21 "CombersSociety$Member" "strength" "I", Cond.fieldLink RX0 24 "CombersSociety$Member" "coins" "I", Cond.fieldLink RX0 27 "CombersSociety$Member" "marks" "I", Cond.fieldLink RX0 30 "CombersSociety$Member" "unpaid" "I", Cond.fieldLink RX0 33 "CombersSociety$Member" "weeksLeft" "I", Cond.fieldLink RX0 36 "CombersSociety$Member" "weeksSick" "I", Cond.fieldLink RX0 39 "CombersSociety$Member" "unburied" "Z", Cond.methodLink RX2 145 yX1_lightFires, Cond.instanceMethod yX1_lightFires, Cond.selects RX1 yX1_lightFires yX1_lightFires, Cond.code yX1_lightFires cX1_lightFires 2 none, Cond.methodLink RX1 130 Lib.Math.min.name, Cond.static Lib.Math.min.name, Cond.initialized "java/lang/Math", Cond.code Lib.Math.min.name Lib.Math.min.code 2 (some .int), Cond.methodLink RX1 133 Lib.Math.max.name, Cond.static Lib.Math.max.name, Cond.code Lib.Math.max.name Lib.Math.max.code 2 (some .int), Cond.methodLink RX2 177 yX1_poundsOfPot]
def wsX2_potFact_r4 : List Cond := [Cond.instanceMethod yX1_poundsOfPot, Cond.selects RX1 yX1_poundsOfPot yX1_poundsOfPot, Cond.code yX1_poundsOfPot cX1_poundsOfPot 7 (some .int), Cond.methodLink RX1 139 yX1_poundsOf, Cond.instanceMethod yX1_poundsOf, Cond.selects RX1 yX1_poundsOf yX1_poundsOf, Cond.code yX1_poundsOf cX1_poundsOf 3 (some .int), Cond.fieldLink RX1 136 "CombersSociety$Member" "skill" "I"]
def wsX2_potFact : List Cond := .code yX2_potFact cX2_potFact 3 (some .int) :: ((wsX2_potFact_r1 ++ (wsX2_potFact_r2 ++ (wsX2_potFact_r3 ++ wsX2_potFact_r4))) ++ wsX20 ++ wsX10 ++ wsX00)
def wsX2_pot_r1 : List Cond := [Cond.classLink RX2 53 "java/lang/IndexOutOfBoundsException", Cond.initialized "java/lang/IndexOutOfBoundsException", Cond.methodLink RX2 19 yX2_isOutside, Cond.static yX2_isOutside, Cond.initialized RX2, Cond.code yX2_isOutside cX2_isOutside 3 (some .boolean), Cond.methodLink RX2 128 yX2_potFact, Cond.instanceMethod yX2_potFact, Cond.selects RX2 yX2_potFact yX2_potFact, Cond.code yX2_potFact cX2_potFact 3 (some .int), Cond.fieldLink RX2 10 "CombersSociety" "now" "LCombersSociety$Society;", Cond.fieldLink RX2 16 "CombersSociety" "trial" "LCombersSociety$Society;", Cond.methodLink RX2 168 yX1_heatOf, Cond.instanceMethod yX1_heatOf, Cond.selects RX1 yX1_heatOf yX1_heatOf, Cond.initialized RX1, Cond.code yX1_heatOf cX1_heatOf 2 (some .int), Cond.fieldLink RX1 28 "CombersSociety$Society" "heats" "[I", Cond.methodLink RX2 171 yX1_atPot, Cond.instanceMethod yX1_atPot, Cond.selects RX1 yX1_atPot yX1_atPot, Cond.code yX1_atPot cX1_atPot 7 (some .int), Cond.fieldLink RX1 36 "CombersSociety$Society" "members" "[LCombersSociety$Member;", Cond.fieldLink RX1 63 "CombersSociety$Member" "pot" "I"]
def wsX2_pot_r2 : List Cond := [Cond.methodLink RX1 70 yX0_lives, Cond.instanceMethod yX0_lives, Cond.selects RX0 yX0_lives yX0_lives, Cond.initialized RX0, Cond.code yX0_lives cX0_lives 1 (some .boolean), Cond.fieldLink RX0 15 "CombersSociety$Member" "health" "I", Cond.methodLink RX2 174 yX1_combersAt, Cond.instanceMethod yX1_combersAt, Cond.selects RX1 yX1_combersAt yX1_combersAt, Cond.code yX1_combersAt cX1_combersAt 2 (some .int), Cond.fieldLink RX1 31 "CombersSociety$Society" "combing" "[I", Cond.methodLink RX1 74 yX1_countCombers, Cond.instanceMethod yX1_countCombers, Cond.selects RX1 yX1_countCombers yX1_countCombers, Cond.code yX1_countCombers cX1_countCombers 5 none, Cond.methodLink RX1 77 yX0_combs, Cond.instanceMethod yX0_combs, Cond.selects RX0 yX0_combs yX0_combs, Cond.code yX0_combs cX0_combs 1 (some .boolean), Cond.fieldLink RX0 9 "CombersSociety$Member" "pot" "I", Cond.methodLink RX2 141 yX1_copyFrom, Cond.instanceMethod yX1_copyFrom, Cond.selects RX1 yX1_copyFrom yX1_copyFrom, Cond.code yX1_copyFrom cX1_copyFrom 3 none]
def wsX2_pot_r3 : List Cond := [Cond.fieldLink RX1 41 "CombersSociety$Society" "week" "I", Cond.fieldLink RX1 44 "CombersSociety$Society" "joined" "I", Cond.fieldLink RX1 9 "CombersSociety$Society" "box" "I", Cond.fieldLink RX1 15 "CombersSociety$Society" "coals" "I", Cond.fieldLink RX1 18 "CombersSociety$Society" "wool" "I", Cond.fieldLink RX1 47 "CombersSociety$Society" "tops" "I", Cond.fieldLink RX1 21 "CombersSociety$Society" "dues" "I", Cond.fieldLink RX1 50 "CombersSociety$Society" "sickPaid" "I", Cond.fieldLink RX1 53 "CombersSociety$Society" "funeralsPaid" "I", Cond.fieldLink RX1 24 "CombersSociety$Society" "fevers" "[I", Cond.methodLink RX1 56 yX0_copyFrom, Cond.instanceMethod yX0_copyFrom, Cond.selects RX0 yX0_copyFrom yX0_copyFrom, Cond.code yX0_copyFrom cX0_copyFrom 2 none, Cond.fieldLink RX0 18 "CombersSociety$Member" "skill" "I", Cond.fieldLink RX0 21 "CombersSociety$Member" "strength" "I", Cond.fieldLink RX0 24 "CombersSociety$Member" "coins" "I", Cond.fieldLink RX0 27 "CombersSociety$Member" "marks" "I", Cond.fieldLink RX0 30 "CombersSociety$Member" "unpaid" "I", Cond.fieldLink RX0 33 "CombersSociety$Member" "weeksLeft" "I", Cond.fieldLink RX0 36 "CombersSociety$Member" "weeksSick" "I", Cond.fieldLink RX0 39 "CombersSociety$Member" "unburied" "Z", Cond.methodLink RX2 145 yX1_lightFires, Cond.instanceMethod yX1_lightFires]
def wsX2_pot_r4 : List Cond := [Cond.selects RX1 yX1_lightFires yX1_lightFires, Cond.code yX1_lightFires cX1_lightFires 2 none, Cond.methodLink RX1 130 Lib.Math.min.name, Cond.static Lib.Math.min.name, Cond.initialized "java/lang/Math", Cond.code Lib.Math.min.name Lib.Math.min.code 2 (some .int), Cond.methodLink RX1 133 Lib.Math.max.name, Cond.static Lib.Math.max.name, Cond.code Lib.Math.max.name Lib.Math.max.code 2 (some .int), Cond.methodLink RX2 177 yX1_poundsOfPot, Cond.instanceMethod yX1_poundsOfPot, Cond.selects RX1 yX1_poundsOfPot yX1_poundsOfPot, Cond.code yX1_poundsOfPot cX1_poundsOfPot 7 (some .int), Cond.methodLink RX1 139 yX1_poundsOf, Cond.instanceMethod yX1_poundsOf, Cond.selects RX1 yX1_poundsOf yX1_poundsOf, Cond.code yX1_poundsOf cX1_poundsOf 3 (some .int), Cond.fieldLink RX1 136 "CombersSociety$Member" "skill" "I"]
def wsX2_pot : List Cond := .code yX2_pot cX2_pot 3 (some .int) :: ((wsX2_pot_r1 ++ (wsX2_pot_r2 ++ (wsX2_pot_r3 ++ wsX2_pot_r4))) ++ wsX20 ++ wsX10 ++ wsX00 ++ (vx_atS RX2 57 "java/lang/IndexOutOfBoundsException" ["java/lang/RuntimeException", "java/lang/Exception"]).filter goodWord)
def wsX2_count_r1 : List Cond := [Cond.classLink RX2 53 "java/lang/IndexOutOfBoundsException", Cond.initialized "java/lang/IndexOutOfBoundsException", Cond.fieldLink RX2 10 "CombersSociety" "now" "LCombersSociety$Society;", Cond.methodLink RX2 19 yX2_isOutside, Cond.static yX2_isOutside, Cond.initialized RX2, Cond.code yX2_isOutside cX2_isOutside 3 (some .boolean), Cond.methodLink RX2 132 yX1_tally, Cond.instanceMethod yX1_tally, Cond.selects RX1 yX1_tally yX1_tally, Cond.initialized RX1, Cond.code yX1_tally cX1_tally 2 (some .int), Cond.fieldLink RX1 41 "CombersSociety$Society" "week" "I", Cond.fieldLink RX1 44 "CombersSociety$Society" "joined" "I", Cond.fieldLink RX1 9 "CombersSociety$Society" "box" "I", Cond.fieldLink RX1 15 "CombersSociety$Society" "coals" "I", Cond.fieldLink RX1 18 "CombersSociety$Society" "wool" "I", Cond.fieldLink RX1 47 "CombersSociety$Society" "tops" "I", Cond.fieldLink RX1 50 "CombersSociety$Society" "sickPaid" "I", Cond.fieldLink RX1 53 "CombersSociety$Society" "funeralsPaid" "I", Cond.methodLink RX1 86 yX1_howMany, Cond.instanceMethod yX1_howMany, Cond.selects RX1 yX1_howMany yX1_howMany, Cond.code yX1_howMany cX1_howMany 7 (some .int)]
def wsX2_count_r2 : List Cond := [Cond.fieldLink RX1 36 "CombersSociety$Society" "members" "[LCombersSociety$Member;", Cond.fieldLink RX1 60 "CombersSociety$Member" "health" "I", Cond.methodLink RX1 89 yX1_coinsInPurses, Cond.instanceMethod yX1_coinsInPurses, Cond.selects RX1 yX1_coinsInPurses yX1_coinsInPurses, Cond.code yX1_coinsInPurses cX1_coinsInPurses 6 (some .int), Cond.fieldLink RX1 80 "CombersSociety$Member" "coins" "I", Cond.methodLink RX1 93 yX1_marksOfAll, Cond.instanceMethod yX1_marksOfAll, Cond.selects RX1 yX1_marksOfAll yX1_marksOfAll, Cond.code yX1_marksOfAll cX1_marksOfAll 6 (some .int), Cond.fieldLink RX1 83 "CombersSociety$Member" "marks" "I"]
def wsX2_count : List Cond := .code yX2_count cX2_count 2 (some .int) :: ((wsX2_count_r1 ++ wsX2_count_r2) ++ wsX20 ++ wsX10 ++ wsX00 ++ (vx_atS RX2 57 "java/lang/IndexOutOfBoundsException" ["java/lang/RuntimeException", "java/lang/Exception"]).filter goodWord)
def wsX2_pass_r1 : List Cond := [Cond.classLink RX2 23 "java/lang/IllegalArgumentException", Cond.initialized "java/lang/IllegalArgumentException", Cond.fieldLink RX2 10 "CombersSociety" "now" "LCombersSociety$Society;", Cond.fieldLink RX2 80 "CombersSociety$Society" "box" "I", Cond.methodLink RX2 19 yX2_isOutside, Cond.static yX2_isOutside, Cond.initialized RX2, Cond.code yX2_isOutside cX2_isOutside 3 (some .boolean), Cond.methodLink RX2 137 yX1_liveWeeks, Cond.instanceMethod yX1_liveWeeks, Cond.selects RX1 yX1_liveWeeks yX1_liveWeeks, Cond.initialized RX1, Cond.code yX1_liveWeeks cX1_liveWeeks 3 none, Cond.methodLink RX1 96 yX1_liveWeek, Cond.instanceMethod yX1_liveWeek, Cond.selects RX1 yX1_liveWeek yX1_liveWeek, Cond.code yX1_liveWeek cX1_liveWeek 1 none, Cond.fieldLink RX1 99 "CombersSociety$Society" "fellShort" "Z", Cond.fieldLink RX1 41 "CombersSociety$Society" "week" "I", Cond.methodLink RX1 103 yX1_lightFires, Cond.instanceMethod yX1_lightFires, Cond.selects RX1 yX1_lightFires yX1_lightFires, Cond.code yX1_lightFires cX1_lightFires 2 none, Cond.fieldLink RX1 31 "CombersSociety$Society" "combing" "[I"]
def wsX2_pass_r2 : List Cond := [Cond.fieldLink RX1 15 "CombersSociety$Society" "coals" "I", Cond.fieldLink RX1 28 "CombersSociety$Society" "heats" "[I", Cond.methodLink RX1 130 Lib.Math.min.name, Cond.static Lib.Math.min.name, Cond.initialized "java/lang/Math", Cond.code Lib.Math.min.name Lib.Math.min.code 2 (some .int), Cond.methodLink RX1 133 Lib.Math.max.name, Cond.static Lib.Math.max.name, Cond.code Lib.Math.max.name Lib.Math.max.code 2 (some .int), Cond.methodLink RX1 74 yX1_countCombers, Cond.instanceMethod yX1_countCombers, Cond.selects RX1 yX1_countCombers yX1_countCombers, Cond.code yX1_countCombers cX1_countCombers 5 none, Cond.fieldLink RX1 36 "CombersSociety$Society" "members" "[LCombersSociety$Member;", Cond.fieldLink RX1 63 "CombersSociety$Member" "pot" "I", Cond.methodLink RX1 77 yX0_combs, Cond.instanceMethod yX0_combs, Cond.selects RX0 yX0_combs yX0_combs, Cond.initialized RX0, Cond.code yX0_combs cX0_combs 1 (some .boolean), Cond.fieldLink RX0 15 "CombersSociety$Member" "health" "I", Cond.fieldLink RX0 9 "CombersSociety$Member" "pot" "I", Cond.methodLink RX1 106 yX1_combWool, Cond.instanceMethod yX1_combWool]
def wsX2_pass_r3 : List Cond := [Cond.selects RX1 yX1_combWool yX1_combWool, Cond.code yX1_combWool cX1_combWool 6 none, Cond.fieldLink RX1 18 "CombersSociety$Society" "wool" "I", Cond.fieldLink RX1 47 "CombersSociety$Society" "tops" "I", Cond.fieldLink RX1 80 "CombersSociety$Member" "coins" "I", Cond.methodLink RX1 139 yX1_poundsOf, Cond.instanceMethod yX1_poundsOf, Cond.selects RX1 yX1_poundsOf yX1_poundsOf, Cond.code yX1_poundsOf cX1_poundsOf 3 (some .int), Cond.fieldLink RX1 136 "CombersSociety$Member" "skill" "I", Cond.methodLink RX1 109 yX1_spreadFever, Cond.instanceMethod yX1_spreadFever, Cond.selects RX1 yX1_spreadFever yX1_spreadFever, Cond.code yX1_spreadFever cX1_spreadFever 6 none, Cond.fieldLink RX1 24 "CombersSociety$Society" "fevers" "[I", Cond.methodLink RX1 118 yJ9_floorMod_7cf53, Cond.static yJ9_floorMod_7cf53, Cond.initialized RJ9, Cond.code yJ9_floorMod_7cf53 cJ9_floorMod_7cf53 3 (some .int), Cond.methodLink RX1 143 yX0_fallSick, Cond.instanceMethod yX0_fallSick, Cond.selects RX0 yX0_fallSick yX0_fallSick, Cond.code yX0_fallSick cX0_fallSick 1 none, Cond.fieldLink RX0 21 "CombersSociety$Member" "strength" "I"]
def wsX2_pass_r4 : List Cond := [Cond.fieldLink RX0 33 "CombersSociety$Member" "weeksLeft" "I", Cond.fieldLink RX0 36 "CombersSociety$Member" "weeksSick" "I", Cond.methodLink RX1 112 yX1_nurseSick, Cond.instanceMethod yX1_nurseSick, Cond.selects RX1 yX1_nurseSick yX1_nurseSick, Cond.code yX1_nurseSick cX1_nurseSick 5 none, Cond.fieldLink RX1 60 "CombersSociety$Member" "health" "I", Cond.methodLink RX1 146 yX1_nurse, Cond.instanceMethod yX1_nurse, Cond.selects RX1 yX1_nurse yX1_nurse, Cond.code yX1_nurse cX1_nurse 3 none, Cond.fieldLink RX1 149 "CombersSociety$Member" "strength" "I", Cond.fieldLink RX1 155 "CombersSociety$Member" "weeksSick" "I", Cond.fieldLink RX1 158 "CombersSociety$Member" "weeksLeft" "I", Cond.fieldLink RX1 161 "CombersSociety$Member" "unpaid" "I", Cond.fieldLink RX1 50 "CombersSociety$Society" "sickPaid" "I", Cond.methodLink RX1 152 yX0_die, Cond.instanceMethod yX0_die, Cond.selects RX0 yX0_die yX0_die, Cond.code yX0_die cX0_die 1 none, Cond.fieldLink RX0 27 "CombersSociety$Member" "marks" "I", Cond.fieldLink RX0 30 "CombersSociety$Member" "unpaid" "I", Cond.fieldLink RX0 39 "CombersSociety$Member" "unburied" "Z", Cond.methodLink RX1 164 yX1_payOut]
def wsX2_pass_r5 : List Cond := [Cond.instanceMethod yX1_payOut, Cond.selects RX1 yX1_payOut yX1_payOut, Cond.code yX1_payOut cX1_payOut 3 (some .int), Cond.fieldLink RX1 9 "CombersSociety$Society" "box" "I", Cond.methodLink RX1 167 yX0_getWell, Cond.instanceMethod yX0_getWell, Cond.selects RX0 yX0_getWell yX0_getWell, Cond.code yX0_getWell cX0_getWell 1 none, Cond.methodLink RX1 115 yX1_takeDues, Cond.instanceMethod yX1_takeDues, Cond.selects RX1 yX1_takeDues yX1_takeDues, Cond.code yX1_takeDues cX1_takeDues 5 none, Cond.fieldLink RX1 21 "CombersSociety$Society" "dues" "I", Cond.methodLink RX1 170 yX0_payDues, Cond.instanceMethod yX0_payDues, Cond.selects RX0 yX0_payDues yX0_payDues, Cond.code yX0_payDues cX0_payDues 2 (some .int), Cond.fieldLink RX0 24 "CombersSociety$Member" "coins" "I", Cond.methodLink RX0 43 Lib.Math.min.name, Cond.methodLink RX1 124 yX1_holdClubNight, Cond.instanceMethod yX1_holdClubNight, Cond.selects RX1 yX1_holdClubNight yX1_holdClubNight, Cond.code yX1_holdClubNight cX1_holdClubNight 5 none, Cond.methodLink RX1 173 yX0_spendClubNight]
def wsX2_pass_r6 : List Cond := [Cond.instanceMethod yX0_spendClubNight, Cond.selects RX0 yX0_spendClubNight yX0_spendClubNight, Cond.code yX0_spendClubNight cX0_spendClubNight 2 (some .int), Cond.methodLink RX0 49 yX0_payMarks, Cond.instanceMethod yX0_payMarks, Cond.selects RX0 yX0_payMarks yX0_payMarks, Cond.code yX0_payMarks cX0_payMarks 2 (some .int), Cond.methodLink RX1 127 yX1_holdFunerals, Cond.instanceMethod yX1_holdFunerals, Cond.selects RX1 yX1_holdFunerals yX1_holdFunerals, Cond.code yX1_holdFunerals cX1_holdFunerals 5 none, Cond.fieldLink RX1 176 "CombersSociety$Member" "unburied" "Z", Cond.methodLink RX1 179 yX1_bury, Cond.instanceMethod yX1_bury, Cond.selects RX1 yX1_bury yX1_bury, Cond.code yX1_bury cX1_bury 6 none, Cond.fieldLink RX1 53 "CombersSociety$Society" "funeralsPaid" "I", Cond.methodLink RX1 70 yX0_lives, Cond.instanceMethod yX0_lives, Cond.selects RX0 yX0_lives yX0_lives, Cond.code yX0_lives cX0_lives 1 (some .boolean)]
def wsX2_pass : List Cond := .code yX2_pass cX2_pass 3 (some .int) :: ((wsX2_pass_r1 ++ (wsX2_pass_r2 ++ (wsX2_pass_r3 ++ (wsX2_pass_r4 ++ (wsX2_pass_r5 ++ wsX2_pass_r6))))) ++ wsX20 ++ wsX10 ++ wsX00 ++ (vx_atS RX2 27 "java/lang/IllegalArgumentException" ["java/lang/RuntimeException", "java/lang/Exception"]).filter goodWord)
def wsX2_foresee_r1 : List Cond := [Cond.classLink RX2 23 "java/lang/IllegalArgumentException", Cond.initialized "java/lang/IllegalArgumentException", Cond.classLink RX2 53 "java/lang/IndexOutOfBoundsException", Cond.initialized "java/lang/IndexOutOfBoundsException", Cond.fieldLink RX2 16 "CombersSociety" "trial" "LCombersSociety$Society;", Cond.fieldLink RX2 10 "CombersSociety" "now" "LCombersSociety$Society;", Cond.methodLink RX2 19 yX2_isOutside, Cond.static yX2_isOutside, Cond.initialized RX2, Cond.code yX2_isOutside cX2_isOutside 3 (some .boolean), Cond.methodLink RX2 141 yX1_copyFrom, Cond.instanceMethod yX1_copyFrom, Cond.selects RX1 yX1_copyFrom yX1_copyFrom, Cond.initialized RX1, Cond.code yX1_copyFrom cX1_copyFrom 3 none, Cond.fieldLink RX1 41 "CombersSociety$Society" "week" "I", Cond.fieldLink RX1 44 "CombersSociety$Society" "joined" "I", Cond.fieldLink RX1 9 "CombersSociety$Society" "box" "I", Cond.fieldLink RX1 15 "CombersSociety$Society" "coals" "I", Cond.fieldLink RX1 18 "CombersSociety$Society" "wool" "I", Cond.fieldLink RX1 47 "CombersSociety$Society" "tops" "I", Cond.fieldLink RX1 21 "CombersSociety$Society" "dues" "I", Cond.fieldLink RX1 50 "CombersSociety$Society" "sickPaid" "I", Cond.fieldLink RX1 53 "CombersSociety$Society" "funeralsPaid" "I"]
def wsX2_foresee_r2 : List Cond := [Cond.fieldLink RX1 24 "CombersSociety$Society" "fevers" "[I", Cond.fieldLink RX1 28 "CombersSociety$Society" "heats" "[I", Cond.fieldLink RX1 36 "CombersSociety$Society" "members" "[LCombersSociety$Member;", Cond.methodLink RX1 56 yX0_copyFrom, Cond.instanceMethod yX0_copyFrom, Cond.selects RX0 yX0_copyFrom yX0_copyFrom, Cond.initialized RX0, Cond.code yX0_copyFrom cX0_copyFrom 2 none, Cond.fieldLink RX0 18 "CombersSociety$Member" "skill" "I", Cond.fieldLink RX0 21 "CombersSociety$Member" "strength" "I", Cond.fieldLink RX0 24 "CombersSociety$Member" "coins" "I", Cond.fieldLink RX0 27 "CombersSociety$Member" "marks" "I", Cond.fieldLink RX0 30 "CombersSociety$Member" "unpaid" "I", Cond.fieldLink RX0 9 "CombersSociety$Member" "pot" "I", Cond.fieldLink RX0 15 "CombersSociety$Member" "health" "I", Cond.fieldLink RX0 33 "CombersSociety$Member" "weeksLeft" "I", Cond.fieldLink RX0 36 "CombersSociety$Member" "weeksSick" "I", Cond.fieldLink RX0 39 "CombersSociety$Member" "unburied" "Z", Cond.methodLink RX2 137 yX1_liveWeeks, Cond.instanceMethod yX1_liveWeeks, Cond.selects RX1 yX1_liveWeeks yX1_liveWeeks, Cond.code yX1_liveWeeks cX1_liveWeeks 3 none, Cond.methodLink RX1 96 yX1_liveWeek, Cond.instanceMethod yX1_liveWeek]
def wsX2_foresee_r3 : List Cond := [Cond.selects RX1 yX1_liveWeek yX1_liveWeek, Cond.code yX1_liveWeek cX1_liveWeek 1 none, Cond.fieldLink RX1 99 "CombersSociety$Society" "fellShort" "Z", Cond.methodLink RX1 103 yX1_lightFires, Cond.instanceMethod yX1_lightFires, Cond.selects RX1 yX1_lightFires yX1_lightFires, Cond.code yX1_lightFires cX1_lightFires 2 none, Cond.fieldLink RX1 31 "CombersSociety$Society" "combing" "[I", Cond.methodLink RX1 130 Lib.Math.min.name, Cond.static Lib.Math.min.name, Cond.initialized "java/lang/Math", Cond.code Lib.Math.min.name Lib.Math.min.code 2 (some .int), Cond.methodLink RX1 133 Lib.Math.max.name, Cond.static Lib.Math.max.name, Cond.code Lib.Math.max.name Lib.Math.max.code 2 (some .int), Cond.methodLink RX1 74 yX1_countCombers, Cond.instanceMethod yX1_countCombers, Cond.selects RX1 yX1_countCombers yX1_countCombers, Cond.code yX1_countCombers cX1_countCombers 5 none, Cond.fieldLink RX1 63 "CombersSociety$Member" "pot" "I", Cond.methodLink RX1 77 yX0_combs, Cond.instanceMethod yX0_combs, Cond.selects RX0 yX0_combs yX0_combs, Cond.code yX0_combs cX0_combs 1 (some .boolean)]
def wsX2_foresee_r4 : List Cond := [Cond.methodLink RX1 106 yX1_combWool, Cond.instanceMethod yX1_combWool, Cond.selects RX1 yX1_combWool yX1_combWool, Cond.code yX1_combWool cX1_combWool 6 none, Cond.fieldLink RX1 80 "CombersSociety$Member" "coins" "I", Cond.methodLink RX1 139 yX1_poundsOf, Cond.instanceMethod yX1_poundsOf, Cond.selects RX1 yX1_poundsOf yX1_poundsOf, Cond.code yX1_poundsOf cX1_poundsOf 3 (some .int), Cond.fieldLink RX1 136 "CombersSociety$Member" "skill" "I", Cond.methodLink RX1 109 yX1_spreadFever, Cond.instanceMethod yX1_spreadFever, Cond.selects RX1 yX1_spreadFever yX1_spreadFever, Cond.code yX1_spreadFever cX1_spreadFever 6 none, Cond.methodLink RX1 118 yJ9_floorMod_7cf53, Cond.static yJ9_floorMod_7cf53, Cond.initialized RJ9, Cond.code yJ9_floorMod_7cf53 cJ9_floorMod_7cf53 3 (some .int), Cond.methodLink RX1 143 yX0_fallSick, Cond.instanceMethod yX0_fallSick, Cond.selects RX0 yX0_fallSick yX0_fallSick, Cond.code yX0_fallSick cX0_fallSick 1 none, Cond.methodLink RX1 112 yX1_nurseSick, Cond.instanceMethod yX1_nurseSick]
def wsX2_foresee_r5 : List Cond := [Cond.selects RX1 yX1_nurseSick yX1_nurseSick, Cond.code yX1_nurseSick cX1_nurseSick 5 none, Cond.fieldLink RX1 60 "CombersSociety$Member" "health" "I", Cond.methodLink RX1 146 yX1_nurse, Cond.instanceMethod yX1_nurse, Cond.selects RX1 yX1_nurse yX1_nurse, Cond.code yX1_nurse cX1_nurse 3 none, Cond.fieldLink RX1 149 "CombersSociety$Member" "strength" "I", Cond.fieldLink RX1 155 "CombersSociety$Member" "weeksSick" "I", Cond.fieldLink RX1 158 "CombersSociety$Member" "weeksLeft" "I", Cond.fieldLink RX1 161 "CombersSociety$Member" "unpaid" "I", Cond.methodLink RX1 152 yX0_die, Cond.instanceMethod yX0_die, Cond.selects RX0 yX0_die yX0_die, Cond.code yX0_die cX0_die 1 none, Cond.methodLink RX1 164 yX1_payOut, Cond.instanceMethod yX1_payOut, Cond.selects RX1 yX1_payOut yX1_payOut, Cond.code yX1_payOut cX1_payOut 3 (some .int), Cond.methodLink RX1 167 yX0_getWell, Cond.instanceMethod yX0_getWell, Cond.selects RX0 yX0_getWell yX0_getWell, Cond.code yX0_getWell cX0_getWell 1 none, Cond.methodLink RX1 115 yX1_takeDues]
def wsX2_foresee_r6 : List Cond := [Cond.instanceMethod yX1_takeDues, Cond.selects RX1 yX1_takeDues yX1_takeDues, Cond.code yX1_takeDues cX1_takeDues 5 none, Cond.methodLink RX1 170 yX0_payDues, Cond.instanceMethod yX0_payDues, Cond.selects RX0 yX0_payDues yX0_payDues, Cond.code yX0_payDues cX0_payDues 2 (some .int), Cond.methodLink RX0 43 Lib.Math.min.name, Cond.methodLink RX1 124 yX1_holdClubNight, Cond.instanceMethod yX1_holdClubNight, Cond.selects RX1 yX1_holdClubNight yX1_holdClubNight, Cond.code yX1_holdClubNight cX1_holdClubNight 5 none, Cond.methodLink RX1 173 yX0_spendClubNight, Cond.instanceMethod yX0_spendClubNight, Cond.selects RX0 yX0_spendClubNight yX0_spendClubNight, Cond.code yX0_spendClubNight cX0_spendClubNight 2 (some .int), Cond.methodLink RX0 49 yX0_payMarks, Cond.instanceMethod yX0_payMarks, Cond.selects RX0 yX0_payMarks yX0_payMarks, Cond.code yX0_payMarks cX0_payMarks 2 (some .int), Cond.methodLink RX1 127 yX1_holdFunerals, Cond.instanceMethod yX1_holdFunerals, Cond.selects RX1 yX1_holdFunerals yX1_holdFunerals, Cond.code yX1_holdFunerals cX1_holdFunerals 5 none]
def wsX2_foresee_r7 : List Cond := [Cond.fieldLink RX1 176 "CombersSociety$Member" "unburied" "Z", Cond.methodLink RX1 179 yX1_bury, Cond.instanceMethod yX1_bury, Cond.selects RX1 yX1_bury yX1_bury, Cond.code yX1_bury cX1_bury 6 none, Cond.methodLink RX1 70 yX0_lives, Cond.instanceMethod yX0_lives, Cond.selects RX0 yX0_lives yX0_lives, Cond.code yX0_lives cX0_lives 1 (some .boolean), Cond.methodLink RX2 132 yX1_tally, Cond.instanceMethod yX1_tally, Cond.selects RX1 yX1_tally yX1_tally, Cond.code yX1_tally cX1_tally 2 (some .int), Cond.methodLink RX1 86 yX1_howMany, Cond.instanceMethod yX1_howMany, Cond.selects RX1 yX1_howMany yX1_howMany, Cond.code yX1_howMany cX1_howMany 7 (some .int), Cond.methodLink RX1 89 yX1_coinsInPurses, Cond.instanceMethod yX1_coinsInPurses, Cond.selects RX1 yX1_coinsInPurses yX1_coinsInPurses, Cond.code yX1_coinsInPurses cX1_coinsInPurses 6 (some .int), Cond.methodLink RX1 93 yX1_marksOfAll, Cond.instanceMethod yX1_marksOfAll, Cond.selects RX1 yX1_marksOfAll yX1_marksOfAll]
def wsX2_foresee_r8 : List Cond := [Cond.code yX1_marksOfAll cX1_marksOfAll 6 (some .int), Cond.fieldLink RX1 83 "CombersSociety$Member" "marks" "I"]
def wsX2_foresee : List Cond := .code yX2_foresee cX2_foresee 3 (some .int) :: ((wsX2_foresee_r1 ++ (wsX2_foresee_r2 ++ (wsX2_foresee_r3 ++ (wsX2_foresee_r4 ++ (wsX2_foresee_r5 ++ (wsX2_foresee_r6 ++ (wsX2_foresee_r7 ++ wsX2_foresee_r8))))))) ++ wsX20 ++ wsX10 ++ wsX00 ++ (vx_atS RX2 27 "java/lang/IllegalArgumentException" ["java/lang/RuntimeException", "java/lang/Exception"]).filter goodWord ++ (vx_atS RX2 57 "java/lang/IndexOutOfBoundsException" ["java/lang/RuntimeException", "java/lang/Exception"]).filter goodWord)
def wsX2_earns_r1 : List Cond := [Cond.classLink RX2 53 "java/lang/IndexOutOfBoundsException", Cond.initialized "java/lang/IndexOutOfBoundsException", Cond.fieldLink RX2 10 "CombersSociety" "now" "LCombersSociety$Society;", Cond.fieldLink RX2 16 "CombersSociety" "trial" "LCombersSociety$Society;", Cond.fieldLink RX2 39 "CombersSociety$Society" "members" "[LCombersSociety$Member;", Cond.fieldLink RX2 74 "CombersSociety$Member" "coins" "I", Cond.methodLink RX2 49 yX1_hasMember, Cond.instanceMethod yX1_hasMember, Cond.selects RX1 yX1_hasMember yX1_hasMember, Cond.initialized RX1, Cond.code yX1_hasMember cX1_hasMember 2 (some .boolean), Cond.fieldLink RX1 36 "CombersSociety$Society" "members" "[LCombersSociety$Member;", Cond.fieldLink RX1 60 "CombersSociety$Member" "health" "I", Cond.methodLink RX2 141 yX1_copyFrom, Cond.instanceMethod yX1_copyFrom, Cond.selects RX1 yX1_copyFrom yX1_copyFrom, Cond.code yX1_copyFrom cX1_copyFrom 3 none, Cond.fieldLink RX1 41 "CombersSociety$Society" "week" "I", Cond.fieldLink RX1 44 "CombersSociety$Society" "joined" "I", Cond.fieldLink RX1 9 "CombersSociety$Society" "box" "I", Cond.fieldLink RX1 15 "CombersSociety$Society" "coals" "I", Cond.fieldLink RX1 18 "CombersSociety$Society" "wool" "I", Cond.fieldLink RX1 47 "CombersSociety$Society" "tops" "I", Cond.fieldLink RX1 21 "CombersSociety$Society" "dues" "I"]
def wsX2_earns_r2 : List Cond := [Cond.fieldLink RX1 50 "CombersSociety$Society" "sickPaid" "I", Cond.fieldLink RX1 53 "CombersSociety$Society" "funeralsPaid" "I", Cond.fieldLink RX1 24 "CombersSociety$Society" "fevers" "[I", Cond.fieldLink RX1 28 "CombersSociety$Society" "heats" "[I", Cond.methodLink RX1 56 yX0_copyFrom, Cond.instanceMethod yX0_copyFrom, Cond.selects RX0 yX0_copyFrom yX0_copyFrom, Cond.initialized RX0, Cond.code yX0_copyFrom cX0_copyFrom 2 none, Cond.fieldLink RX0 18 "CombersSociety$Member" "skill" "I", Cond.fieldLink RX0 21 "CombersSociety$Member" "strength" "I", Cond.fieldLink RX0 24 "CombersSociety$Member" "coins" "I", Cond.fieldLink RX0 27 "CombersSociety$Member" "marks" "I", Cond.fieldLink RX0 30 "CombersSociety$Member" "unpaid" "I", Cond.fieldLink RX0 9 "CombersSociety$Member" "pot" "I", Cond.fieldLink RX0 15 "CombersSociety$Member" "health" "I", Cond.fieldLink RX0 33 "CombersSociety$Member" "weeksLeft" "I", Cond.fieldLink RX0 36 "CombersSociety$Member" "weeksSick" "I", Cond.fieldLink RX0 39 "CombersSociety$Member" "unburied" "Z", Cond.methodLink RX2 145 yX1_lightFires, Cond.instanceMethod yX1_lightFires, Cond.selects RX1 yX1_lightFires yX1_lightFires, Cond.code yX1_lightFires cX1_lightFires 2 none, Cond.fieldLink RX1 31 "CombersSociety$Society" "combing" "[I"]
def wsX2_earns_r3 : List Cond := [Cond.methodLink RX1 130 Lib.Math.min.name, Cond.static Lib.Math.min.name, Cond.initialized "java/lang/Math", Cond.code Lib.Math.min.name Lib.Math.min.code 2 (some .int), Cond.methodLink RX1 133 Lib.Math.max.name, Cond.static Lib.Math.max.name, Cond.code Lib.Math.max.name Lib.Math.max.code 2 (some .int), Cond.methodLink RX1 74 yX1_countCombers, Cond.instanceMethod yX1_countCombers, Cond.selects RX1 yX1_countCombers yX1_countCombers, Cond.code yX1_countCombers cX1_countCombers 5 none, Cond.fieldLink RX1 63 "CombersSociety$Member" "pot" "I", Cond.methodLink RX1 77 yX0_combs, Cond.instanceMethod yX0_combs, Cond.selects RX0 yX0_combs yX0_combs, Cond.code yX0_combs cX0_combs 1 (some .boolean), Cond.methodLink RX2 148 yX1_combWool, Cond.instanceMethod yX1_combWool, Cond.selects RX1 yX1_combWool yX1_combWool, Cond.code yX1_combWool cX1_combWool 6 none, Cond.fieldLink RX1 80 "CombersSociety$Member" "coins" "I", Cond.methodLink RX1 139 yX1_poundsOf, Cond.instanceMethod yX1_poundsOf, Cond.selects RX1 yX1_poundsOf yX1_poundsOf]
def wsX2_earns_r4 : List Cond := [Cond.code yX1_poundsOf cX1_poundsOf 3 (some .int), Cond.fieldLink RX1 136 "CombersSociety$Member" "skill" "I"]
def wsX2_earns : List Cond := .code yX2_earns cX2_earns 2 (some .int) :: ((wsX2_earns_r1 ++ (wsX2_earns_r2 ++ (wsX2_earns_r3 ++ wsX2_earns_r4))) ++ wsX20 ++ wsX10 ++ wsX00 ++ (vx_atS RX2 57 "java/lang/IndexOutOfBoundsException" ["java/lang/RuntimeException", "java/lang/Exception"]).filter goodWord)
def wsX2_dies_r1 : List Cond := [Cond.classLink RX2 53 "java/lang/IndexOutOfBoundsException", Cond.initialized "java/lang/IndexOutOfBoundsException", Cond.fieldLink RX2 10 "CombersSociety" "now" "LCombersSociety$Society;", Cond.fieldLink RX2 16 "CombersSociety" "trial" "LCombersSociety$Society;", Cond.fieldLink RX2 39 "CombersSociety$Society" "members" "[LCombersSociety$Member;", Cond.fieldLink RX2 58 "CombersSociety$Member" "health" "I", Cond.methodLink RX2 49 yX1_hasMember, Cond.instanceMethod yX1_hasMember, Cond.selects RX1 yX1_hasMember yX1_hasMember, Cond.initialized RX1, Cond.code yX1_hasMember cX1_hasMember 2 (some .boolean), Cond.fieldLink RX1 36 "CombersSociety$Society" "members" "[LCombersSociety$Member;", Cond.fieldLink RX1 60 "CombersSociety$Member" "health" "I", Cond.methodLink RX2 141 yX1_copyFrom, Cond.instanceMethod yX1_copyFrom, Cond.selects RX1 yX1_copyFrom yX1_copyFrom, Cond.code yX1_copyFrom cX1_copyFrom 3 none, Cond.fieldLink RX1 41 "CombersSociety$Society" "week" "I", Cond.fieldLink RX1 44 "CombersSociety$Society" "joined" "I", Cond.fieldLink RX1 9 "CombersSociety$Society" "box" "I", Cond.fieldLink RX1 15 "CombersSociety$Society" "coals" "I", Cond.fieldLink RX1 18 "CombersSociety$Society" "wool" "I", Cond.fieldLink RX1 47 "CombersSociety$Society" "tops" "I", Cond.fieldLink RX1 21 "CombersSociety$Society" "dues" "I"]
def wsX2_dies_r2 : List Cond := [Cond.fieldLink RX1 50 "CombersSociety$Society" "sickPaid" "I", Cond.fieldLink RX1 53 "CombersSociety$Society" "funeralsPaid" "I", Cond.fieldLink RX1 24 "CombersSociety$Society" "fevers" "[I", Cond.fieldLink RX1 28 "CombersSociety$Society" "heats" "[I", Cond.methodLink RX1 56 yX0_copyFrom, Cond.instanceMethod yX0_copyFrom, Cond.selects RX0 yX0_copyFrom yX0_copyFrom, Cond.initialized RX0, Cond.code yX0_copyFrom cX0_copyFrom 2 none, Cond.fieldLink RX0 18 "CombersSociety$Member" "skill" "I", Cond.fieldLink RX0 21 "CombersSociety$Member" "strength" "I", Cond.fieldLink RX0 24 "CombersSociety$Member" "coins" "I", Cond.fieldLink RX0 27 "CombersSociety$Member" "marks" "I", Cond.fieldLink RX0 30 "CombersSociety$Member" "unpaid" "I", Cond.fieldLink RX0 9 "CombersSociety$Member" "pot" "I", Cond.fieldLink RX0 15 "CombersSociety$Member" "health" "I", Cond.fieldLink RX0 33 "CombersSociety$Member" "weeksLeft" "I", Cond.fieldLink RX0 36 "CombersSociety$Member" "weeksSick" "I", Cond.fieldLink RX0 39 "CombersSociety$Member" "unburied" "Z", Cond.methodLink RX2 151 yX1_liveWeek, Cond.instanceMethod yX1_liveWeek, Cond.selects RX1 yX1_liveWeek yX1_liveWeek, Cond.code yX1_liveWeek cX1_liveWeek 1 none, Cond.fieldLink RX1 99 "CombersSociety$Society" "fellShort" "Z"]
def wsX2_dies_r3 : List Cond := [Cond.methodLink RX1 103 yX1_lightFires, Cond.instanceMethod yX1_lightFires, Cond.selects RX1 yX1_lightFires yX1_lightFires, Cond.code yX1_lightFires cX1_lightFires 2 none, Cond.fieldLink RX1 31 "CombersSociety$Society" "combing" "[I", Cond.methodLink RX1 130 Lib.Math.min.name, Cond.static Lib.Math.min.name, Cond.initialized "java/lang/Math", Cond.code Lib.Math.min.name Lib.Math.min.code 2 (some .int), Cond.methodLink RX1 133 Lib.Math.max.name, Cond.static Lib.Math.max.name, Cond.code Lib.Math.max.name Lib.Math.max.code 2 (some .int), Cond.methodLink RX1 74 yX1_countCombers, Cond.instanceMethod yX1_countCombers, Cond.selects RX1 yX1_countCombers yX1_countCombers, Cond.code yX1_countCombers cX1_countCombers 5 none, Cond.fieldLink RX1 63 "CombersSociety$Member" "pot" "I", Cond.methodLink RX1 77 yX0_combs, Cond.instanceMethod yX0_combs, Cond.selects RX0 yX0_combs yX0_combs, Cond.code yX0_combs cX0_combs 1 (some .boolean), Cond.methodLink RX1 106 yX1_combWool, Cond.instanceMethod yX1_combWool, Cond.selects RX1 yX1_combWool yX1_combWool]
def wsX2_dies_r4 : List Cond := [Cond.code yX1_combWool cX1_combWool 6 none, Cond.fieldLink RX1 80 "CombersSociety$Member" "coins" "I", Cond.methodLink RX1 139 yX1_poundsOf, Cond.instanceMethod yX1_poundsOf, Cond.selects RX1 yX1_poundsOf yX1_poundsOf, Cond.code yX1_poundsOf cX1_poundsOf 3 (some .int), Cond.fieldLink RX1 136 "CombersSociety$Member" "skill" "I", Cond.methodLink RX1 109 yX1_spreadFever, Cond.instanceMethod yX1_spreadFever, Cond.selects RX1 yX1_spreadFever yX1_spreadFever, Cond.code yX1_spreadFever cX1_spreadFever 6 none, Cond.methodLink RX1 118 yJ9_floorMod_7cf53, Cond.static yJ9_floorMod_7cf53, Cond.initialized RJ9, Cond.code yJ9_floorMod_7cf53 cJ9_floorMod_7cf53 3 (some .int), Cond.methodLink RX1 143 yX0_fallSick, Cond.instanceMethod yX0_fallSick, Cond.selects RX0 yX0_fallSick yX0_fallSick, Cond.code yX0_fallSick cX0_fallSick 1 none, Cond.methodLink RX1 112 yX1_nurseSick, Cond.instanceMethod yX1_nurseSick, Cond.selects RX1 yX1_nurseSick yX1_nurseSick, Cond.code yX1_nurseSick cX1_nurseSick 5 none, Cond.methodLink RX1 146 yX1_nurse]
def wsX2_dies_r5 : List Cond := [Cond.instanceMethod yX1_nurse, Cond.selects RX1 yX1_nurse yX1_nurse, Cond.code yX1_nurse cX1_nurse 3 none, Cond.fieldLink RX1 149 "CombersSociety$Member" "strength" "I", Cond.fieldLink RX1 155 "CombersSociety$Member" "weeksSick" "I", Cond.fieldLink RX1 158 "CombersSociety$Member" "weeksLeft" "I", Cond.fieldLink RX1 161 "CombersSociety$Member" "unpaid" "I", Cond.methodLink RX1 152 yX0_die, Cond.instanceMethod yX0_die, Cond.selects RX0 yX0_die yX0_die, Cond.code yX0_die cX0_die 1 none, Cond.methodLink RX1 164 yX1_payOut, Cond.instanceMethod yX1_payOut, Cond.selects RX1 yX1_payOut yX1_payOut, Cond.code yX1_payOut cX1_payOut 3 (some .int), Cond.methodLink RX1 167 yX0_getWell, Cond.instanceMethod yX0_getWell, Cond.selects RX0 yX0_getWell yX0_getWell, Cond.code yX0_getWell cX0_getWell 1 none, Cond.methodLink RX1 115 yX1_takeDues, Cond.instanceMethod yX1_takeDues, Cond.selects RX1 yX1_takeDues yX1_takeDues, Cond.code yX1_takeDues cX1_takeDues 5 none, Cond.methodLink RX1 170 yX0_payDues]
def wsX2_dies_r6 : List Cond := [Cond.instanceMethod yX0_payDues, Cond.selects RX0 yX0_payDues yX0_payDues, Cond.code yX0_payDues cX0_payDues 2 (some .int), Cond.methodLink RX0 43 Lib.Math.min.name, Cond.methodLink RX1 124 yX1_holdClubNight, Cond.instanceMethod yX1_holdClubNight, Cond.selects RX1 yX1_holdClubNight yX1_holdClubNight, Cond.code yX1_holdClubNight cX1_holdClubNight 5 none, Cond.methodLink RX1 173 yX0_spendClubNight, Cond.instanceMethod yX0_spendClubNight, Cond.selects RX0 yX0_spendClubNight yX0_spendClubNight, Cond.code yX0_spendClubNight cX0_spendClubNight 2 (some .int), Cond.methodLink RX0 49 yX0_payMarks, Cond.instanceMethod yX0_payMarks, Cond.selects RX0 yX0_payMarks yX0_payMarks, Cond.code yX0_payMarks cX0_payMarks 2 (some .int), Cond.methodLink RX1 127 yX1_holdFunerals, Cond.instanceMethod yX1_holdFunerals, Cond.selects RX1 yX1_holdFunerals yX1_holdFunerals, Cond.code yX1_holdFunerals cX1_holdFunerals 5 none, Cond.fieldLink RX1 176 "CombersSociety$Member" "unburied" "Z", Cond.methodLink RX1 179 yX1_bury, Cond.instanceMethod yX1_bury, Cond.selects RX1 yX1_bury yX1_bury]
def wsX2_dies_r7 : List Cond := [Cond.code yX1_bury cX1_bury 6 none, Cond.methodLink RX1 70 yX0_lives, Cond.instanceMethod yX0_lives, Cond.selects RX0 yX0_lives yX0_lives, Cond.code yX0_lives cX0_lives 1 (some .boolean)]
def wsX2_dies : List Cond := .code yX2_dies cX2_dies 4 (some .int) :: ((wsX2_dies_r1 ++ (wsX2_dies_r2 ++ (wsX2_dies_r3 ++ (wsX2_dies_r4 ++ (wsX2_dies_r5 ++ (wsX2_dies_r6 ++ wsX2_dies_r7)))))) ++ wsX20 ++ wsX10 ++ wsX00 ++ (vx_atS RX2 57 "java/lang/IndexOutOfBoundsException" ["java/lang/RuntimeException", "java/lang/Exception"]).filter goodWord)
def wsX2_lasts_r1 : List Cond := [Cond.fieldLink RX2 16 "CombersSociety" "trial" "LCombersSociety$Society;", Cond.fieldLink RX2 10 "CombersSociety" "now" "LCombersSociety$Society;", Cond.fieldLink RX2 154 "CombersSociety$Society" "fellShort" "Z", Cond.methodLink RX2 141 yX1_copyFrom, Cond.instanceMethod yX1_copyFrom, Cond.selects RX1 yX1_copyFrom yX1_copyFrom, Cond.initialized RX1, Cond.code yX1_copyFrom cX1_copyFrom 3 none, Cond.fieldLink RX1 41 "CombersSociety$Society" "week" "I", Cond.fieldLink RX1 44 "CombersSociety$Society" "joined" "I", Cond.fieldLink RX1 9 "CombersSociety$Society" "box" "I", Cond.fieldLink RX1 15 "CombersSociety$Society" "coals" "I", Cond.fieldLink RX1 18 "CombersSociety$Society" "wool" "I", Cond.fieldLink RX1 47 "CombersSociety$Society" "tops" "I", Cond.fieldLink RX1 21 "CombersSociety$Society" "dues" "I", Cond.fieldLink RX1 50 "CombersSociety$Society" "sickPaid" "I", Cond.fieldLink RX1 53 "CombersSociety$Society" "funeralsPaid" "I", Cond.fieldLink RX1 24 "CombersSociety$Society" "fevers" "[I", Cond.fieldLink RX1 28 "CombersSociety$Society" "heats" "[I", Cond.fieldLink RX1 36 "CombersSociety$Society" "members" "[LCombersSociety$Member;", Cond.methodLink RX1 56 yX0_copyFrom, Cond.instanceMethod yX0_copyFrom, Cond.selects RX0 yX0_copyFrom yX0_copyFrom, Cond.initialized RX0]
def wsX2_lasts_r2 : List Cond := [Cond.code yX0_copyFrom cX0_copyFrom 2 none, Cond.fieldLink RX0 18 "CombersSociety$Member" "skill" "I", Cond.fieldLink RX0 21 "CombersSociety$Member" "strength" "I", Cond.fieldLink RX0 24 "CombersSociety$Member" "coins" "I", Cond.fieldLink RX0 27 "CombersSociety$Member" "marks" "I", Cond.fieldLink RX0 30 "CombersSociety$Member" "unpaid" "I", Cond.fieldLink RX0 9 "CombersSociety$Member" "pot" "I", Cond.fieldLink RX0 15 "CombersSociety$Member" "health" "I", Cond.fieldLink RX0 33 "CombersSociety$Member" "weeksLeft" "I", Cond.fieldLink RX0 36 "CombersSociety$Member" "weeksSick" "I", Cond.fieldLink RX0 39 "CombersSociety$Member" "unburied" "Z", Cond.methodLink RX2 151 yX1_liveWeek, Cond.instanceMethod yX1_liveWeek, Cond.selects RX1 yX1_liveWeek yX1_liveWeek, Cond.code yX1_liveWeek cX1_liveWeek 1 none, Cond.fieldLink RX1 99 "CombersSociety$Society" "fellShort" "Z", Cond.methodLink RX1 103 yX1_lightFires, Cond.instanceMethod yX1_lightFires, Cond.selects RX1 yX1_lightFires yX1_lightFires, Cond.code yX1_lightFires cX1_lightFires 2 none, Cond.fieldLink RX1 31 "CombersSociety$Society" "combing" "[I", Cond.methodLink RX1 130 Lib.Math.min.name, Cond.static Lib.Math.min.name, Cond.initialized "java/lang/Math"]
def wsX2_lasts_r3 : List Cond := [Cond.code Lib.Math.min.name Lib.Math.min.code 2 (some .int), Cond.methodLink RX1 133 Lib.Math.max.name, Cond.static Lib.Math.max.name, Cond.code Lib.Math.max.name Lib.Math.max.code 2 (some .int), Cond.methodLink RX1 74 yX1_countCombers, Cond.instanceMethod yX1_countCombers, Cond.selects RX1 yX1_countCombers yX1_countCombers, Cond.code yX1_countCombers cX1_countCombers 5 none, Cond.fieldLink RX1 63 "CombersSociety$Member" "pot" "I", Cond.methodLink RX1 77 yX0_combs, Cond.instanceMethod yX0_combs, Cond.selects RX0 yX0_combs yX0_combs, Cond.code yX0_combs cX0_combs 1 (some .boolean), Cond.methodLink RX1 106 yX1_combWool, Cond.instanceMethod yX1_combWool, Cond.selects RX1 yX1_combWool yX1_combWool, Cond.code yX1_combWool cX1_combWool 6 none, Cond.fieldLink RX1 80 "CombersSociety$Member" "coins" "I", Cond.methodLink RX1 139 yX1_poundsOf, Cond.instanceMethod yX1_poundsOf, Cond.selects RX1 yX1_poundsOf yX1_poundsOf, Cond.code yX1_poundsOf cX1_poundsOf 3 (some .int), Cond.fieldLink RX1 136 "CombersSociety$Member" "skill" "I", Cond.methodLink RX1 109 yX1_spreadFever]
def wsX2_lasts_r4 : List Cond := [Cond.instanceMethod yX1_spreadFever, Cond.selects RX1 yX1_spreadFever yX1_spreadFever, Cond.code yX1_spreadFever cX1_spreadFever 6 none, Cond.methodLink RX1 118 yJ9_floorMod_7cf53, Cond.static yJ9_floorMod_7cf53, Cond.initialized RJ9, Cond.code yJ9_floorMod_7cf53 cJ9_floorMod_7cf53 3 (some .int), Cond.methodLink RX1 143 yX0_fallSick, Cond.instanceMethod yX0_fallSick, Cond.selects RX0 yX0_fallSick yX0_fallSick, Cond.code yX0_fallSick cX0_fallSick 1 none, Cond.methodLink RX1 112 yX1_nurseSick, Cond.instanceMethod yX1_nurseSick, Cond.selects RX1 yX1_nurseSick yX1_nurseSick, Cond.code yX1_nurseSick cX1_nurseSick 5 none, Cond.fieldLink RX1 60 "CombersSociety$Member" "health" "I", Cond.methodLink RX1 146 yX1_nurse, Cond.instanceMethod yX1_nurse, Cond.selects RX1 yX1_nurse yX1_nurse, Cond.code yX1_nurse cX1_nurse 3 none, Cond.fieldLink RX1 149 "CombersSociety$Member" "strength" "I", Cond.fieldLink RX1 155 "CombersSociety$Member" "weeksSick" "I", Cond.fieldLink RX1 158 "CombersSociety$Member" "weeksLeft" "I", Cond.fieldLink RX1 161 "CombersSociety$Member" "unpaid" "I"]
def wsX2_lasts_r5 : List Cond := [Cond.methodLink RX1 152 yX0_die, Cond.instanceMethod yX0_die, Cond.selects RX0 yX0_die yX0_die, Cond.code yX0_die cX0_die 1 none, Cond.methodLink RX1 164 yX1_payOut, Cond.instanceMethod yX1_payOut, Cond.selects RX1 yX1_payOut yX1_payOut, Cond.code yX1_payOut cX1_payOut 3 (some .int), Cond.methodLink RX1 167 yX0_getWell, Cond.instanceMethod yX0_getWell, Cond.selects RX0 yX0_getWell yX0_getWell, Cond.code yX0_getWell cX0_getWell 1 none, Cond.methodLink RX1 115 yX1_takeDues, Cond.instanceMethod yX1_takeDues, Cond.selects RX1 yX1_takeDues yX1_takeDues, Cond.code yX1_takeDues cX1_takeDues 5 none, Cond.methodLink RX1 170 yX0_payDues, Cond.instanceMethod yX0_payDues, Cond.selects RX0 yX0_payDues yX0_payDues, Cond.code yX0_payDues cX0_payDues 2 (some .int), Cond.methodLink RX0 43 Lib.Math.min.name, Cond.methodLink RX1 124 yX1_holdClubNight, Cond.instanceMethod yX1_holdClubNight, Cond.selects RX1 yX1_holdClubNight yX1_holdClubNight]
def wsX2_lasts_r6 : List Cond := [Cond.code yX1_holdClubNight cX1_holdClubNight 5 none, Cond.methodLink RX1 173 yX0_spendClubNight, Cond.instanceMethod yX0_spendClubNight, Cond.selects RX0 yX0_spendClubNight yX0_spendClubNight, Cond.code yX0_spendClubNight cX0_spendClubNight 2 (some .int), Cond.methodLink RX0 49 yX0_payMarks, Cond.instanceMethod yX0_payMarks, Cond.selects RX0 yX0_payMarks yX0_payMarks, Cond.code yX0_payMarks cX0_payMarks 2 (some .int), Cond.methodLink RX1 127 yX1_holdFunerals, Cond.instanceMethod yX1_holdFunerals, Cond.selects RX1 yX1_holdFunerals yX1_holdFunerals, Cond.code yX1_holdFunerals cX1_holdFunerals 5 none, Cond.fieldLink RX1 176 "CombersSociety$Member" "unburied" "Z", Cond.methodLink RX1 179 yX1_bury, Cond.instanceMethod yX1_bury, Cond.selects RX1 yX1_bury yX1_bury, Cond.code yX1_bury cX1_bury 6 none, Cond.methodLink RX1 70 yX0_lives, Cond.instanceMethod yX0_lives, Cond.selects RX0 yX0_lives yX0_lives, Cond.code yX0_lives cX0_lives 1 (some .boolean)]
def wsX2_lasts : List Cond := .code yX2_lasts cX2_lasts 2 (some .int) :: ((wsX2_lasts_r1 ++ (wsX2_lasts_r2 ++ (wsX2_lasts_r3 ++ (wsX2_lasts_r4 ++ (wsX2_lasts_r5 ++ wsX2_lasts_r6))))) ++ wsX20 ++ wsX10 ++ wsX00)
def wsX2_advise_r1 : List Cond := [Cond.classLink RX2 53 "java/lang/IndexOutOfBoundsException", Cond.initialized "java/lang/IndexOutOfBoundsException", Cond.classLink RX2 34 "java/lang/IllegalStateException", Cond.initialized "java/lang/IllegalStateException", Cond.fieldLink RX2 10 "CombersSociety" "now" "LCombersSociety$Society;", Cond.fieldLink RX2 39 "CombersSociety$Society" "members" "[LCombersSociety$Member;", Cond.fieldLink RX2 58 "CombersSociety$Member" "health" "I", Cond.fieldLink RX2 16 "CombersSociety" "trial" "LCombersSociety$Society;", Cond.fieldLink RX2 67 "CombersSociety$Member" "pot" "I", Cond.fieldLink RX2 121 "CombersSociety$Society" "tops" "I", Cond.methodLink RX2 49 yX1_hasMember, Cond.instanceMethod yX1_hasMember, Cond.selects RX1 yX1_hasMember yX1_hasMember, Cond.initialized RX1, Cond.code yX1_hasMember cX1_hasMember 2 (some .boolean), Cond.fieldLink RX1 36 "CombersSociety$Society" "members" "[LCombersSociety$Member;", Cond.fieldLink RX1 60 "CombersSociety$Member" "health" "I", Cond.methodLink RX2 61 yX1_hasRoom, Cond.instanceMethod yX1_hasRoom, Cond.selects RX1 yX1_hasRoom yX1_hasRoom, Cond.code yX1_hasRoom cX1_hasRoom 4 (some .boolean), Cond.fieldLink RX1 63 "CombersSociety$Member" "pot" "I", Cond.methodLink RX1 66 yX1_atPot, Cond.instanceMethod yX1_atPot]
def wsX2_advise_r2 : List Cond := [Cond.selects RX1 yX1_atPot yX1_atPot, Cond.code yX1_atPot cX1_atPot 7 (some .int), Cond.methodLink RX1 70 yX0_lives, Cond.instanceMethod yX0_lives, Cond.selects RX0 yX0_lives yX0_lives, Cond.initialized RX0, Cond.code yX0_lives cX0_lives 1 (some .boolean), Cond.fieldLink RX0 15 "CombersSociety$Member" "health" "I", Cond.methodLink RX2 141 yX1_copyFrom, Cond.instanceMethod yX1_copyFrom, Cond.selects RX1 yX1_copyFrom yX1_copyFrom, Cond.code yX1_copyFrom cX1_copyFrom 3 none, Cond.fieldLink RX1 41 "CombersSociety$Society" "week" "I", Cond.fieldLink RX1 44 "CombersSociety$Society" "joined" "I", Cond.fieldLink RX1 9 "CombersSociety$Society" "box" "I", Cond.fieldLink RX1 15 "CombersSociety$Society" "coals" "I", Cond.fieldLink RX1 18 "CombersSociety$Society" "wool" "I", Cond.fieldLink RX1 47 "CombersSociety$Society" "tops" "I", Cond.fieldLink RX1 21 "CombersSociety$Society" "dues" "I", Cond.fieldLink RX1 50 "CombersSociety$Society" "sickPaid" "I", Cond.fieldLink RX1 53 "CombersSociety$Society" "funeralsPaid" "I", Cond.fieldLink RX1 24 "CombersSociety$Society" "fevers" "[I", Cond.fieldLink RX1 28 "CombersSociety$Society" "heats" "[I", Cond.methodLink RX1 56 yX0_copyFrom]
def wsX2_advise_r3 : List Cond := [Cond.instanceMethod yX0_copyFrom, Cond.selects RX0 yX0_copyFrom yX0_copyFrom, Cond.code yX0_copyFrom cX0_copyFrom 2 none, Cond.fieldLink RX0 18 "CombersSociety$Member" "skill" "I", Cond.fieldLink RX0 21 "CombersSociety$Member" "strength" "I", Cond.fieldLink RX0 24 "CombersSociety$Member" "coins" "I", Cond.fieldLink RX0 27 "CombersSociety$Member" "marks" "I", Cond.fieldLink RX0 30 "CombersSociety$Member" "unpaid" "I", Cond.fieldLink RX0 9 "CombersSociety$Member" "pot" "I", Cond.fieldLink RX0 33 "CombersSociety$Member" "weeksLeft" "I", Cond.fieldLink RX0 36 "CombersSociety$Member" "weeksSick" "I", Cond.fieldLink RX0 39 "CombersSociety$Member" "unburied" "Z", Cond.methodLink RX2 137 yX1_liveWeeks, Cond.instanceMethod yX1_liveWeeks, Cond.selects RX1 yX1_liveWeeks yX1_liveWeeks, Cond.code yX1_liveWeeks cX1_liveWeeks 3 none, Cond.methodLink RX1 96 yX1_liveWeek, Cond.instanceMethod yX1_liveWeek, Cond.selects RX1 yX1_liveWeek yX1_liveWeek, Cond.code yX1_liveWeek cX1_liveWeek 1 none, Cond.fieldLink RX1 99 "CombersSociety$Society" "fellShort" "Z", Cond.methodLink RX1 103 yX1_lightFires, Cond.instanceMethod yX1_lightFires, Cond.selects RX1 yX1_lightFires yX1_lightFires]
def wsX2_advise_r4 : List Cond := [Cond.code yX1_lightFires cX1_lightFires 2 none, Cond.fieldLink RX1 31 "CombersSociety$Society" "combing" "[I", Cond.methodLink RX1 130 Lib.Math.min.name, Cond.static Lib.Math.min.name, Cond.initialized "java/lang/Math", Cond.code Lib.Math.min.name Lib.Math.min.code 2 (some .int), Cond.methodLink RX1 133 Lib.Math.max.name, Cond.static Lib.Math.max.name, Cond.code Lib.Math.max.name Lib.Math.max.code 2 (some .int), Cond.methodLink RX1 74 yX1_countCombers, Cond.instanceMethod yX1_countCombers, Cond.selects RX1 yX1_countCombers yX1_countCombers, Cond.code yX1_countCombers cX1_countCombers 5 none, Cond.methodLink RX1 77 yX0_combs, Cond.instanceMethod yX0_combs, Cond.selects RX0 yX0_combs yX0_combs, Cond.code yX0_combs cX0_combs 1 (some .boolean), Cond.methodLink RX1 106 yX1_combWool, Cond.instanceMethod yX1_combWool, Cond.selects RX1 yX1_combWool yX1_combWool, Cond.code yX1_combWool cX1_combWool 6 none, Cond.fieldLink RX1 80 "CombersSociety$Member" "coins" "I", Cond.methodLink RX1 139 yX1_poundsOf, Cond.instanceMethod yX1_poundsOf]
def wsX2_advise_r5 : List Cond := [Cond.selects RX1 yX1_poundsOf yX1_poundsOf, Cond.code yX1_poundsOf cX1_poundsOf 3 (some .int), Cond.fieldLink RX1 136 "CombersSociety$Member" "skill" "I", Cond.methodLink RX1 109 yX1_spreadFever, Cond.instanceMethod yX1_spreadFever, Cond.selects RX1 yX1_spreadFever yX1_spreadFever, Cond.code yX1_spreadFever cX1_spreadFever 6 none, Cond.methodLink RX1 118 yJ9_floorMod_7cf53, Cond.static yJ9_floorMod_7cf53, Cond.initialized RJ9, Cond.code yJ9_floorMod_7cf53 cJ9_floorMod_7cf53 3 (some .int), Cond.methodLink RX1 143 yX0_fallSick, Cond.instanceMethod yX0_fallSick, Cond.selects RX0 yX0_fallSick yX0_fallSick, Cond.code yX0_fallSick cX0_fallSick 1 none, Cond.methodLink RX1 112 yX1_nurseSick, Cond.instanceMethod yX1_nurseSick, Cond.selects RX1 yX1_nurseSick yX1_nurseSick, Cond.code yX1_nurseSick cX1_nurseSick 5 none, Cond.methodLink RX1 146 yX1_nurse, Cond.instanceMethod yX1_nurse, Cond.selects RX1 yX1_nurse yX1_nurse, Cond.code yX1_nurse cX1_nurse 3 none, Cond.fieldLink RX1 149 "CombersSociety$Member" "strength" "I"]
def wsX2_advise_r6 : List Cond := [Cond.fieldLink RX1 155 "CombersSociety$Member" "weeksSick" "I", Cond.fieldLink RX1 158 "CombersSociety$Member" "weeksLeft" "I", Cond.fieldLink RX1 161 "CombersSociety$Member" "unpaid" "I", Cond.methodLink RX1 152 yX0_die, Cond.instanceMethod yX0_die, Cond.selects RX0 yX0_die yX0_die, Cond.code yX0_die cX0_die 1 none, Cond.methodLink RX1 164 yX1_payOut, Cond.instanceMethod yX1_payOut, Cond.selects RX1 yX1_payOut yX1_payOut, Cond.code yX1_payOut cX1_payOut 3 (some .int), Cond.methodLink RX1 167 yX0_getWell, Cond.instanceMethod yX0_getWell, Cond.selects RX0 yX0_getWell yX0_getWell, Cond.code yX0_getWell cX0_getWell 1 none, Cond.methodLink RX1 115 yX1_takeDues, Cond.instanceMethod yX1_takeDues, Cond.selects RX1 yX1_takeDues yX1_takeDues, Cond.code yX1_takeDues cX1_takeDues 5 none, Cond.methodLink RX1 170 yX0_payDues, Cond.instanceMethod yX0_payDues, Cond.selects RX0 yX0_payDues yX0_payDues, Cond.code yX0_payDues cX0_payDues 2 (some .int), Cond.methodLink RX0 43 Lib.Math.min.name]
def wsX2_advise_r7 : List Cond := [Cond.methodLink RX1 124 yX1_holdClubNight, Cond.instanceMethod yX1_holdClubNight, Cond.selects RX1 yX1_holdClubNight yX1_holdClubNight, Cond.code yX1_holdClubNight cX1_holdClubNight 5 none, Cond.methodLink RX1 173 yX0_spendClubNight, Cond.instanceMethod yX0_spendClubNight, Cond.selects RX0 yX0_spendClubNight yX0_spendClubNight, Cond.code yX0_spendClubNight cX0_spendClubNight 2 (some .int), Cond.methodLink RX0 49 yX0_payMarks, Cond.instanceMethod yX0_payMarks, Cond.selects RX0 yX0_payMarks yX0_payMarks, Cond.code yX0_payMarks cX0_payMarks 2 (some .int), Cond.methodLink RX1 127 yX1_holdFunerals, Cond.instanceMethod yX1_holdFunerals, Cond.selects RX1 yX1_holdFunerals yX1_holdFunerals, Cond.code yX1_holdFunerals cX1_holdFunerals 5 none, Cond.fieldLink RX1 176 "CombersSociety$Member" "unburied" "Z", Cond.methodLink RX1 179 yX1_bury, Cond.instanceMethod yX1_bury, Cond.selects RX1 yX1_bury yX1_bury, Cond.code yX1_bury cX1_bury 6 none]
def wsX2_advise : List Cond := .code yX2_advise cX2_advise 6 (some .int) :: ((wsX2_advise_r1 ++ (wsX2_advise_r2 ++ (wsX2_advise_r3 ++ (wsX2_advise_r4 ++ (wsX2_advise_r5 ++ (wsX2_advise_r6 ++ wsX2_advise_r7)))))) ++ wsX20 ++ wsX10 ++ wsX00 ++ (vx_atS RX2 57 "java/lang/IndexOutOfBoundsException" ["java/lang/RuntimeException", "java/lang/Exception"]).filter goodWord ++ (vx_atS RX2 38 "java/lang/IllegalStateException" ["java/lang/RuntimeException", "java/lang/Exception"]).filter goodWord)
def wsX2_mean : List Cond := .code yX2_mean cX2_mean 7 (some .double) :: ([.fieldLink RX2 10 "CombersSociety" "now" "LCombersSociety$Society;", .fieldLink RX2 39 "CombersSociety$Society" "members" "[LCombersSociety$Member;", .fieldLink RX2 161 "CombersSociety$Member" "strength" "I", .methodLink RX2 158 yX1_howMany, .instanceMethod yX1_howMany, .selects RX1 yX1_howMany yX1_howMany, .initialized RX1, .code yX1_howMany cX1_howMany 7 (some .int), .fieldLink RX1 36 "CombersSociety$Society" "members" "[LCombersSociety$Member;", .fieldLink RX1 60 "CombersSociety$Member" "health" "I"] ++ wsX20 ++ wsX10 ++ wsX00)
def wsX2_digest_r1 : List Cond := [Cond.constantLong RX2 164 (1361), Cond.constantLong RX2 166 (31), Cond.fieldLink RX2 10 "CombersSociety" "now" "LCombersSociety$Society;", Cond.fieldLink RX2 105 "CombersSociety$Society" "dues" "I", Cond.fieldLink RX2 99 "CombersSociety$Society" "fevers" "[I", Cond.fieldLink RX2 39 "CombersSociety$Society" "members" "[LCombersSociety$Member;", Cond.fieldLink RX2 58 "CombersSociety$Member" "health" "I", Cond.methodLink RX2 132 yX1_tally, Cond.instanceMethod yX1_tally, Cond.selects RX1 yX1_tally yX1_tally, Cond.initialized RX1, Cond.code yX1_tally cX1_tally 2 (some .int), Cond.fieldLink RX1 41 "CombersSociety$Society" "week" "I", Cond.fieldLink RX1 44 "CombersSociety$Society" "joined" "I", Cond.fieldLink RX1 9 "CombersSociety$Society" "box" "I", Cond.fieldLink RX1 15 "CombersSociety$Society" "coals" "I", Cond.fieldLink RX1 18 "CombersSociety$Society" "wool" "I", Cond.fieldLink RX1 47 "CombersSociety$Society" "tops" "I", Cond.fieldLink RX1 50 "CombersSociety$Society" "sickPaid" "I", Cond.fieldLink RX1 53 "CombersSociety$Society" "funeralsPaid" "I", Cond.methodLink RX1 86 yX1_howMany, Cond.instanceMethod yX1_howMany, Cond.selects RX1 yX1_howMany yX1_howMany, Cond.code yX1_howMany cX1_howMany 7 (some .int)]
def wsX2_digest_r2 : List Cond := [Cond.fieldLink RX1 36 "CombersSociety$Society" "members" "[LCombersSociety$Member;", Cond.fieldLink RX1 60 "CombersSociety$Member" "health" "I", Cond.methodLink RX1 89 yX1_coinsInPurses, Cond.instanceMethod yX1_coinsInPurses, Cond.selects RX1 yX1_coinsInPurses yX1_coinsInPurses, Cond.code yX1_coinsInPurses cX1_coinsInPurses 6 (some .int), Cond.fieldLink RX1 80 "CombersSociety$Member" "coins" "I", Cond.methodLink RX1 93 yX1_marksOfAll, Cond.instanceMethod yX1_marksOfAll, Cond.selects RX1 yX1_marksOfAll yX1_marksOfAll, Cond.code yX1_marksOfAll cX1_marksOfAll 6 (some .int), Cond.fieldLink RX1 83 "CombersSociety$Member" "marks" "I", Cond.methodLink RX2 128 yX2_potFact, Cond.instanceMethod yX2_potFact, Cond.selects RX2 yX2_potFact yX2_potFact, Cond.initialized RX2, Cond.code yX2_potFact cX2_potFact 3 (some .int), Cond.fieldLink RX2 16 "CombersSociety" "trial" "LCombersSociety$Society;", Cond.methodLink RX2 168 yX1_heatOf, Cond.instanceMethod yX1_heatOf, Cond.selects RX1 yX1_heatOf yX1_heatOf, Cond.code yX1_heatOf cX1_heatOf 2 (some .int), Cond.fieldLink RX1 28 "CombersSociety$Society" "heats" "[I", Cond.methodLink RX2 171 yX1_atPot]
def wsX2_digest_r3 : List Cond := [Cond.instanceMethod yX1_atPot, Cond.selects RX1 yX1_atPot yX1_atPot, Cond.code yX1_atPot cX1_atPot 7 (some .int), Cond.fieldLink RX1 63 "CombersSociety$Member" "pot" "I", Cond.methodLink RX1 70 yX0_lives, Cond.instanceMethod yX0_lives, Cond.selects RX0 yX0_lives yX0_lives, Cond.initialized RX0, Cond.code yX0_lives cX0_lives 1 (some .boolean), Cond.fieldLink RX0 15 "CombersSociety$Member" "health" "I", Cond.methodLink RX2 174 yX1_combersAt, Cond.instanceMethod yX1_combersAt, Cond.selects RX1 yX1_combersAt yX1_combersAt, Cond.code yX1_combersAt cX1_combersAt 2 (some .int), Cond.fieldLink RX1 31 "CombersSociety$Society" "combing" "[I", Cond.methodLink RX1 74 yX1_countCombers, Cond.instanceMethod yX1_countCombers, Cond.selects RX1 yX1_countCombers yX1_countCombers, Cond.code yX1_countCombers cX1_countCombers 5 none, Cond.methodLink RX1 77 yX0_combs, Cond.instanceMethod yX0_combs, Cond.selects RX0 yX0_combs yX0_combs, Cond.code yX0_combs cX0_combs 1 (some .boolean), Cond.fieldLink RX0 9 "CombersSociety$Member" "pot" "I"]
def wsX2_digest_r4 : List Cond := [Cond.methodLink RX2 141 yX1_copyFrom, Cond.instanceMethod yX1_copyFrom, Cond.selects RX1 yX1_copyFrom yX1_copyFrom, Cond.code yX1_copyFrom cX1_copyFrom 3 none, Cond.fieldLink RX1 21 "CombersSociety$Society" "dues" "I", Cond.fieldLink RX1 24 "CombersSociety$Society" "fevers" "[I", Cond.methodLink RX1 56 yX0_copyFrom, Cond.instanceMethod yX0_copyFrom, Cond.selects RX0 yX0_copyFrom yX0_copyFrom, Cond.code yX0_copyFrom cX0_copyFrom 2 none, Cond.fieldLink RX0 18 "CombersSociety$Member" "skill" "I", Cond.fieldLink RX0 21 "CombersSociety$Member" "strength" "I", Cond.fieldLink RX0 24 "CombersSociety$Member" "coins" "I", Cond.fieldLink RX0 27 "CombersSociety$Member" "marks" "I", Cond.fieldLink RX0 30 "CombersSociety$Member" "unpaid" "I", Cond.fieldLink RX0 33 "CombersSociety$Member" "weeksLeft" "I", Cond.fieldLink RX0 36 "CombersSociety$Member" "weeksSick" "I", Cond.fieldLink RX0 39 "CombersSociety$Member" "unburied" "Z", Cond.methodLink RX2 145 yX1_lightFires, Cond.instanceMethod yX1_lightFires, Cond.selects RX1 yX1_lightFires yX1_lightFires, Cond.code yX1_lightFires cX1_lightFires 2 none, Cond.methodLink RX1 130 Lib.Math.min.name, Cond.static Lib.Math.min.name]
def wsX2_digest_r5 : List Cond := [Cond.initialized "java/lang/Math", Cond.code Lib.Math.min.name Lib.Math.min.code 2 (some .int), Cond.methodLink RX1 133 Lib.Math.max.name, Cond.static Lib.Math.max.name, Cond.code Lib.Math.max.name Lib.Math.max.code 2 (some .int), Cond.methodLink RX2 177 yX1_poundsOfPot, Cond.instanceMethod yX1_poundsOfPot, Cond.selects RX1 yX1_poundsOfPot yX1_poundsOfPot, Cond.code yX1_poundsOfPot cX1_poundsOfPot 7 (some .int), Cond.methodLink RX1 139 yX1_poundsOf, Cond.instanceMethod yX1_poundsOf, Cond.selects RX1 yX1_poundsOf yX1_poundsOf, Cond.code yX1_poundsOf cX1_poundsOf 3 (some .int), Cond.fieldLink RX1 136 "CombersSociety$Member" "skill" "I", Cond.methodLink RX2 92 yX0_fact, Cond.instanceMethod yX0_fact, Cond.selects RX0 yX0_fact yX0_fact, Cond.code yX0_fact cX0_fact 2 (some .int)]
def wsX2_digest : List Cond := .code yX2_digest cX2_digest 8 (some .long) :: ((wsX2_digest_r1 ++ (wsX2_digest_r2 ++ (wsX2_digest_r3 ++ (wsX2_digest_r4 ++ wsX2_digest_r5)))) ++ wsX20 ++ wsX10 ++ wsX00)
def wsX3_init : List Cond := .code yX3_init cX3_init 2 none :: ([.fieldLink RX3 3 "CombersSocietyModel$State" "this$0" "LCombersSocietyModel;", .methodLink RX3 9 objectInit, .instanceMethod objectInit, .code objectInit ⟨#[0xb1]⟩ 1 none, .fieldLink RX3 15 "CombersSocietyModel$State" "box" "I", .fieldLink RX3 19 "CombersSocietyModel$State" "coals" "I", .fieldLink RX3 22 "CombersSocietyModel$State" "wool" "I", .arrayClass .int, .fieldLink RX3 25 "CombersSocietyModel$State" "heat" "[I", .fieldLink RX3 29 "CombersSocietyModel$State" "rows" "[I"] ++ wsX30)
def wsX3_become : List Cond := .code yX3_become cX3_become 2 none :: ([.fieldLink RX3 32 "CombersSocietyModel$State" "week" "I", .fieldLink RX3 35 "CombersSocietyModel$State" "members" "I", .fieldLink RX3 15 "CombersSocietyModel$State" "box" "I", .fieldLink RX3 19 "CombersSocietyModel$State" "coals" "I", .fieldLink RX3 22 "CombersSocietyModel$State" "wool" "I", .fieldLink RX3 38 "CombersSocietyModel$State" "tops" "I", .fieldLink RX3 41 "CombersSocietyModel$State" "nursed" "I", .fieldLink RX3 44 "CombersSocietyModel$State" "buried" "I", .fieldLink RX3 47 "CombersSocietyModel$State" "isShort" "Z", .fieldLink RX3 25 "CombersSocietyModel$State" "heat" "[I", .methodLink RX3 51 arraycopyName, .native arraycopyName, .static arraycopyName, .initialized "java/lang/System", .fieldLink RX3 29 "CombersSocietyModel$State" "rows" "[I"] ++ wsX30)
def wsX3_of : List Cond := .code yX3_of cX3_of 3 (some .int) :: ([.fieldLink RX3 29 "CombersSocietyModel$State" "rows" "[I"] ++ wsX30)
def wsX3_set : List Cond := .code yX3_set cX3_set 4 none :: ([.fieldLink RX3 29 "CombersSocietyModel$State" "rows" "[I"] ++ wsX30)
def wsX3_combs : List Cond := .code yX3_combs cX3_combs 2 (some .boolean) :: ([.methodLink RX3 57 yX3_of, .instanceMethod yX3_of, .selects RX3 yX3_of yX3_of, .initialized RX3, .code yX3_of cX3_of 3 (some .int), .fieldLink RX3 29 "CombersSocietyModel$State" "rows" "[I"] ++ wsX30)
def wsX3_combers : List Cond := .code yX3_combers cX3_combers 4 (some .int) :: ([.fieldLink RX3 35 "CombersSocietyModel$State" "members" "I", .methodLink RX3 61 yX3_combs, .instanceMethod yX3_combs, .selects RX3 yX3_combs yX3_combs, .initialized RX3, .code yX3_combs cX3_combs 2 (some .boolean), .methodLink RX3 57 yX3_of, .instanceMethod yX3_of, .selects RX3 yX3_of yX3_of, .code yX3_of cX3_of 3 (some .int), .fieldLink RX3 29 "CombersSocietyModel$State" "rows" "[I"] ++ wsX30)
def wsX3_there : List Cond := .code yX3_there cX3_there 4 (some .int) :: ([.fieldLink RX3 35 "CombersSocietyModel$State" "members" "I", .methodLink RX3 57 yX3_of, .instanceMethod yX3_of, .selects RX3 yX3_of yX3_of, .initialized RX3, .code yX3_of cX3_of 3 (some .int), .fieldLink RX3 29 "CombersSocietyModel$State" "rows" "[I"] ++ wsX30)
def wsX3_many : List Cond := .code yX3_many cX3_many 4 (some .int) :: ([.fieldLink RX3 35 "CombersSocietyModel$State" "members" "I", .methodLink RX3 57 yX3_of, .instanceMethod yX3_of, .selects RX3 yX3_of yX3_of, .initialized RX3, .code yX3_of cX3_of 3 (some .int), .fieldLink RX3 29 "CombersSocietyModel$State" "rows" "[I"] ++ wsX30)
def wsX3_all : List Cond := .code yX3_all cX3_all 4 (some .int) :: ([.fieldLink RX3 35 "CombersSocietyModel$State" "members" "I", .methodLink RX3 57 yX3_of, .instanceMethod yX3_of, .selects RX3 yX3_of yX3_of, .initialized RX3, .code yX3_of cX3_of 3 (some .int), .fieldLink RX3 29 "CombersSocietyModel$State" "rows" "[I"] ++ wsX30)
def wsX3_fire : List Cond := .code yX3_fire cX3_fire 3 none :: ([.fieldLink RX3 19 "CombersSocietyModel$State" "coals" "I", .fieldLink RX3 25 "CombersSocietyModel$State" "heat" "[I", .methodLink RX3 69 Lib.Math.min.name, .static Lib.Math.min.name, .initialized "java/lang/Math", .code Lib.Math.min.name Lib.Math.min.code 2 (some .int), .methodLink RX3 74 Lib.Math.max.name, .static Lib.Math.max.name, .code Lib.Math.max.name Lib.Math.max.code 2 (some .int), .methodLink RX3 65 yX3_combers, .instanceMethod yX3_combers, .selects RX3 yX3_combers yX3_combers, .initialized RX3, .code yX3_combers cX3_combers 4 (some .int), .fieldLink RX3 35 "CombersSocietyModel$State" "members" "I", .methodLink RX3 61 yX3_combs, .instanceMethod yX3_combs, .selects RX3 yX3_combs yX3_combs, .code yX3_combs cX3_combs 2 (some .boolean), .methodLink RX3 57 yX3_of, .instanceMethod yX3_of, .selects RX3 yX3_of yX3_of, .code yX3_of cX3_of 3 (some .int), .fieldLink RX3 29 "CombersSocietyModel$State" "rows" "[I"] ++ wsX30)
def wsX3_pounds : List Cond := .code yX3_pounds cX3_pounds 3 (some .int) :: ([.fieldLink RX3 25 "CombersSocietyModel$State" "heat" "[I", .methodLink RX3 74 Lib.Math.max.name, .static Lib.Math.max.name, .initialized "java/lang/Math", .code Lib.Math.max.name Lib.Math.max.code 2 (some .int), .methodLink RX3 57 yX3_of, .instanceMethod yX3_of, .selects RX3 yX3_of yX3_of, .initialized RX3, .code yX3_of cX3_of 3 (some .int), .fieldLink RX3 29 "CombersSocietyModel$State" "rows" "[I", .methodLink RX3 65 yX3_combers, .instanceMethod yX3_combers, .selects RX3 yX3_combers yX3_combers, .code yX3_combers cX3_combers 4 (some .int), .fieldLink RX3 35 "CombersSocietyModel$State" "members" "I", .methodLink RX3 61 yX3_combs, .instanceMethod yX3_combs, .selects RX3 yX3_combs yX3_combs, .code yX3_combs cX3_combs 2 (some .boolean)] ++ wsX30)
def wsX3_comb_r1 : List Cond := [Cond.fieldLink RX3 35 "CombersSocietyModel$State" "members" "I", Cond.fieldLink RX3 22 "CombersSocietyModel$State" "wool" "I", Cond.methodLink RX3 69 Lib.Math.min.name, Cond.static Lib.Math.min.name, Cond.initialized "java/lang/Math", Cond.code Lib.Math.min.name Lib.Math.min.code 2 (some .int), Cond.fieldLink RX3 38 "CombersSocietyModel$State" "tops" "I", Cond.methodLink RX3 61 yX3_combs, Cond.instanceMethod yX3_combs, Cond.selects RX3 yX3_combs yX3_combs, Cond.initialized RX3, Cond.code yX3_combs cX3_combs 2 (some .boolean), Cond.methodLink RX3 57 yX3_of, Cond.instanceMethod yX3_of, Cond.selects RX3 yX3_of yX3_of, Cond.code yX3_of cX3_of 3 (some .int), Cond.fieldLink RX3 29 "CombersSocietyModel$State" "rows" "[I", Cond.methodLink RX3 77 yX3_pounds, Cond.instanceMethod yX3_pounds, Cond.selects RX3 yX3_pounds yX3_pounds, Cond.code yX3_pounds cX3_pounds 3 (some .int), Cond.fieldLink RX3 25 "CombersSocietyModel$State" "heat" "[I", Cond.methodLink RX3 74 Lib.Math.max.name, Cond.static Lib.Math.max.name]
def wsX3_comb_r2 : List Cond := [Cond.code Lib.Math.max.name Lib.Math.max.code 2 (some .int), Cond.methodLink RX3 65 yX3_combers, Cond.instanceMethod yX3_combers, Cond.selects RX3 yX3_combers yX3_combers, Cond.code yX3_combers cX3_combers 4 (some .int), Cond.methodLink RX3 80 yX3_set, Cond.instanceMethod yX3_set, Cond.selects RX3 yX3_set yX3_set, Cond.code yX3_set cX3_set 4 none]
def wsX3_comb : List Cond := .code yX3_comb cX3_comb 3 none :: ((wsX3_comb_r1 ++ wsX3_comb_r2) ++ wsX30)
def wsX3_fever : List Cond := .code yX3_fever cX3_fever 3 none :: ([.fieldLink RX3 3 "CombersSocietyModel$State" "this$0" "LCombersSocietyModel;", .fieldLink RX3 32 "CombersSocietyModel$State" "week" "I", .fieldLink RX3 35 "CombersSocietyModel$State" "members" "I", .methodLink RX3 61 yX3_combs, .instanceMethod yX3_combs, .selects RX3 yX3_combs yX3_combs, .initialized RX3, .code yX3_combs cX3_combs 2 (some .boolean), .methodLink RX3 57 yX3_of, .instanceMethod yX3_of, .selects RX3 yX3_of yX3_of, .code yX3_of cX3_of 3 (some .int), .fieldLink RX3 29 "CombersSocietyModel$State" "rows" "[I", .methodLink RX3 80 yX3_set, .instanceMethod yX3_set, .selects RX3 yX3_set yX3_set, .code yX3_set cX3_set 4 none] ++ wsX30 ++ wsX40)
def wsX3_heal : List Cond := .code yX3_heal cX3_heal 3 none :: ([.methodLink RX3 80 yX3_set, .instanceMethod yX3_set, .selects RX3 yX3_set yX3_set, .initialized RX3, .code yX3_set cX3_set 4 none, .fieldLink RX3 29 "CombersSocietyModel$State" "rows" "[I"] ++ wsX30)
def wsX3_pay : List Cond := .code yX3_pay cX3_pay 3 (some .int) :: ([.fieldLink RX3 15 "CombersSocietyModel$State" "box" "I", .methodLink RX3 69 Lib.Math.min.name, .static Lib.Math.min.name, .initialized "java/lang/Math", .code Lib.Math.min.name Lib.Math.min.code 2 (some .int), .fieldLink RX3 47 "CombersSocietyModel$State" "isShort" "Z"] ++ wsX30)
def wsX3_nurse_r1 : List Cond := [Cond.fieldLink RX3 41 "CombersSocietyModel$State" "nursed" "I", Cond.methodLink RX3 57 yX3_of, Cond.instanceMethod yX3_of, Cond.selects RX3 yX3_of yX3_of, Cond.initialized RX3, Cond.code yX3_of cX3_of 3 (some .int), Cond.fieldLink RX3 29 "CombersSocietyModel$State" "rows" "[I", Cond.methodLink RX3 80 yX3_set, Cond.instanceMethod yX3_set, Cond.selects RX3 yX3_set yX3_set, Cond.code yX3_set cX3_set 4 none, Cond.methodLink RX3 87 yX3_heal, Cond.instanceMethod yX3_heal, Cond.selects RX3 yX3_heal yX3_heal, Cond.code yX3_heal cX3_heal 3 none, Cond.methodLink RX3 91 yX3_pay, Cond.instanceMethod yX3_pay, Cond.selects RX3 yX3_pay yX3_pay, Cond.code yX3_pay cX3_pay 3 (some .int), Cond.fieldLink RX3 15 "CombersSocietyModel$State" "box" "I", Cond.methodLink RX3 69 Lib.Math.min.name, Cond.static Lib.Math.min.name, Cond.initialized "java/lang/Math", Cond.code Lib.Math.min.name Lib.Math.min.code 2 (some .int)]
def wsX3_nurse_r2 : List Cond := [Cond.fieldLink RX3 47 "CombersSocietyModel$State" "isShort" "Z"]
def wsX3_nurse : List Cond := .code yX3_nurse cX3_nurse 3 none :: ((wsX3_nurse_r1 ++ wsX3_nurse_r2) ++ wsX30)
def wsX3_payDues : List Cond := .code yX3_payDues cX3_payDues 3 none :: ([.fieldLink RX3 3 "CombersSocietyModel$State" "this$0" "LCombersSocietyModel;", .methodLink RX3 69 Lib.Math.min.name, .static Lib.Math.min.name, .initialized "java/lang/Math", .code Lib.Math.min.name Lib.Math.min.code 2 (some .int), .fieldLink RX3 15 "CombersSocietyModel$State" "box" "I", .methodLink RX3 57 yX3_of, .instanceMethod yX3_of, .selects RX3 yX3_of yX3_of, .initialized RX3, .code yX3_of cX3_of 3 (some .int), .fieldLink RX3 29 "CombersSocietyModel$State" "rows" "[I", .methodLink RX3 80 yX3_set, .instanceMethod yX3_set, .selects RX3 yX3_set yX3_set, .code yX3_set cX3_set 4 none] ++ wsX30 ++ wsX40)
def wsX3_settle : List Cond := .code yX3_settle cX3_settle 3 (some .int) :: ([.methodLink RX3 69 Lib.Math.min.name, .static Lib.Math.min.name, .initialized "java/lang/Math", .code Lib.Math.min.name Lib.Math.min.code 2 (some .int), .fieldLink RX3 15 "CombersSocietyModel$State" "box" "I", .methodLink RX3 57 yX3_of, .instanceMethod yX3_of, .selects RX3 yX3_of yX3_of, .initialized RX3, .code yX3_of cX3_of 3 (some .int), .fieldLink RX3 29 "CombersSocietyModel$State" "rows" "[I", .methodLink RX3 80 yX3_set, .instanceMethod yX3_set, .selects RX3 yX3_set yX3_set, .code yX3_set cX3_set 4 none] ++ wsX30)
def wsX3_drink : List Cond := .code yX3_drink cX3_drink 2 none :: ([.methodLink RX3 69 Lib.Math.min.name, .static Lib.Math.min.name, .initialized "java/lang/Math", .code Lib.Math.min.name Lib.Math.min.code 2 (some .int), .methodLink RX3 57 yX3_of, .instanceMethod yX3_of, .selects RX3 yX3_of yX3_of, .initialized RX3, .code yX3_of cX3_of 3 (some .int), .fieldLink RX3 29 "CombersSocietyModel$State" "rows" "[I", .methodLink RX3 80 yX3_set, .instanceMethod yX3_set, .selects RX3 yX3_set yX3_set, .code yX3_set cX3_set 4 none, .methodLink RX3 97 yX3_settle, .instanceMethod yX3_settle, .selects RX3 yX3_settle yX3_settle, .code yX3_settle cX3_settle 3 (some .int), .fieldLink RX3 15 "CombersSocietyModel$State" "box" "I"] ++ wsX30)
def wsX3_bury : List Cond := .code yX3_bury cX3_bury 3 none :: ([.fieldLink RX3 44 "CombersSocietyModel$State" "buried" "I", .fieldLink RX3 15 "CombersSocietyModel$State" "box" "I", .fieldLink RX3 35 "CombersSocietyModel$State" "members" "I", .methodLink RX3 91 yX3_pay, .instanceMethod yX3_pay, .selects RX3 yX3_pay yX3_pay, .initialized RX3, .code yX3_pay cX3_pay 3 (some .int), .methodLink RX3 69 Lib.Math.min.name, .static Lib.Math.min.name, .initialized "java/lang/Math", .code Lib.Math.min.name Lib.Math.min.code 2 (some .int), .fieldLink RX3 47 "CombersSocietyModel$State" "isShort" "Z", .methodLink RX3 57 yX3_of, .instanceMethod yX3_of, .selects RX3 yX3_of yX3_of, .code yX3_of cX3_of 3 (some .int), .fieldLink RX3 29 "CombersSocietyModel$State" "rows" "[I", .methodLink RX3 80 yX3_set, .instanceMethod yX3_set, .selects RX3 yX3_set yX3_set, .code yX3_set cX3_set 4 none] ++ wsX30)
def wsX3_pass_r1 : List Cond := [Cond.fieldLink RX3 35 "CombersSocietyModel$State" "members" "I", Cond.fieldLink RX3 32 "CombersSocietyModel$State" "week" "I", Cond.methodLink RX3 100 yX3_fire, Cond.instanceMethod yX3_fire, Cond.selects RX3 yX3_fire yX3_fire, Cond.initialized RX3, Cond.code yX3_fire cX3_fire 3 none, Cond.fieldLink RX3 19 "CombersSocietyModel$State" "coals" "I", Cond.fieldLink RX3 25 "CombersSocietyModel$State" "heat" "[I", Cond.methodLink RX3 69 Lib.Math.min.name, Cond.static Lib.Math.min.name, Cond.initialized "java/lang/Math", Cond.code Lib.Math.min.name Lib.Math.min.code 2 (some .int), Cond.methodLink RX3 74 Lib.Math.max.name, Cond.static Lib.Math.max.name, Cond.code Lib.Math.max.name Lib.Math.max.code 2 (some .int), Cond.methodLink RX3 65 yX3_combers, Cond.instanceMethod yX3_combers, Cond.selects RX3 yX3_combers yX3_combers, Cond.code yX3_combers cX3_combers 4 (some .int), Cond.methodLink RX3 61 yX3_combs, Cond.instanceMethod yX3_combs, Cond.selects RX3 yX3_combs yX3_combs, Cond.code yX3_combs cX3_combs 2 (some .boolean)]
def wsX3_pass_r2 : List Cond := [Cond.methodLink RX3 57 yX3_of, Cond.instanceMethod yX3_of, Cond.selects RX3 yX3_of yX3_of, Cond.code yX3_of cX3_of 3 (some .int), Cond.fieldLink RX3 29 "CombersSocietyModel$State" "rows" "[I", Cond.methodLink RX3 103 yX3_comb, Cond.instanceMethod yX3_comb, Cond.selects RX3 yX3_comb yX3_comb, Cond.code yX3_comb cX3_comb 3 none, Cond.fieldLink RX3 22 "CombersSocietyModel$State" "wool" "I", Cond.fieldLink RX3 38 "CombersSocietyModel$State" "tops" "I", Cond.methodLink RX3 77 yX3_pounds, Cond.instanceMethod yX3_pounds, Cond.selects RX3 yX3_pounds yX3_pounds, Cond.code yX3_pounds cX3_pounds 3 (some .int), Cond.methodLink RX3 80 yX3_set, Cond.instanceMethod yX3_set, Cond.selects RX3 yX3_set yX3_set, Cond.code yX3_set cX3_set 4 none, Cond.methodLink RX3 106 yX3_fever, Cond.instanceMethod yX3_fever, Cond.selects RX3 yX3_fever yX3_fever, Cond.code yX3_fever cX3_fever 3 none, Cond.fieldLink RX3 3 "CombersSocietyModel$State" "this$0" "LCombersSocietyModel;"]
def wsX3_pass_r3 : List Cond := [Cond.methodLink RX3 109 yX3_nurse, Cond.instanceMethod yX3_nurse, Cond.selects RX3 yX3_nurse yX3_nurse, Cond.code yX3_nurse cX3_nurse 3 none, Cond.fieldLink RX3 41 "CombersSocietyModel$State" "nursed" "I", Cond.methodLink RX3 87 yX3_heal, Cond.instanceMethod yX3_heal, Cond.selects RX3 yX3_heal yX3_heal, Cond.code yX3_heal cX3_heal 3 none, Cond.methodLink RX3 91 yX3_pay, Cond.instanceMethod yX3_pay, Cond.selects RX3 yX3_pay yX3_pay, Cond.code yX3_pay cX3_pay 3 (some .int), Cond.fieldLink RX3 15 "CombersSocietyModel$State" "box" "I", Cond.fieldLink RX3 47 "CombersSocietyModel$State" "isShort" "Z", Cond.methodLink RX3 113 yX3_payDues, Cond.instanceMethod yX3_payDues, Cond.selects RX3 yX3_payDues yX3_payDues, Cond.code yX3_payDues cX3_payDues 3 none, Cond.methodLink RX3 116 yX3_drink, Cond.instanceMethod yX3_drink, Cond.selects RX3 yX3_drink yX3_drink, Cond.code yX3_drink cX3_drink 2 none, Cond.methodLink RX3 97 yX3_settle]
def wsX3_pass_r4 : List Cond := [Cond.instanceMethod yX3_settle, Cond.selects RX3 yX3_settle yX3_settle, Cond.code yX3_settle cX3_settle 3 (some .int), Cond.methodLink RX3 119 yX3_bury, Cond.instanceMethod yX3_bury, Cond.selects RX3 yX3_bury yX3_bury, Cond.code yX3_bury cX3_bury 3 none, Cond.fieldLink RX3 44 "CombersSocietyModel$State" "buried" "I"]
def wsX3_pass : List Cond := .code yX3_pass cX3_pass 3 none :: ((wsX3_pass_r1 ++ (wsX3_pass_r2 ++ (wsX3_pass_r3 ++ wsX3_pass_r4))) ++ wsX30 ++ wsX40)
def wsX4_init : List Cond := .code yX4_init cX4_init 1 none :: ([.methodLink RX4 1 objectInit, .instanceMethod objectInit, .code objectInit ⟨#[0xb1]⟩ 1 none, .fieldLink RX4 7 "CombersSocietyModel" "dues" "I", .arrayClass .int, .fieldLink RX4 13 "CombersSocietyModel" "fevers" "[I", .classLink RX4 17 RX3, .instantiable RX3 12, .initialized RX3, .fieldLink RX4 22 "CombersSocietyModel" "s" "LCombersSocietyModel$State;", .fieldLink RX4 26 "CombersSocietyModel" "ahead" "LCombersSocietyModel$State;", .instanceMethod yX3_init, .code yX3_init cX3_init 2 none, .fieldLink RX3 3 "CombersSocietyModel$State" "this$0" "LCombersSocietyModel;", .methodLink RX3 9 objectInit, .fieldLink RX3 15 "CombersSocietyModel$State" "box" "I", .fieldLink RX3 19 "CombersSocietyModel$State" "coals" "I", .fieldLink RX3 22 "CombersSocietyModel$State" "wool" "I", .fieldLink RX3 25 "CombersSocietyModel$State" "heat" "[I", .fieldLink RX3 29 "CombersSocietyModel$State" "rows" "[I"] ++ wsX40 ++ wsX30)
def wsX4_thrown : List Cond := .code yX4_thrown cX4_thrown 1 (some .int) :: ([.fieldLink RX4 29 "CombersSocietyModel" "thrown" "I"] ++ wsX40)
def wsX4_no : List Cond := .code yX4_no cX4_no 2 (some .int) :: ([.fieldLink RX4 29 "CombersSocietyModel" "thrown" "I"] ++ wsX40)
def wsX4_isIn : List Cond := .code yX4_isIn cX4_isIn 3 (some .boolean) :: ([])
def wsX4_isMember : List Cond := .code yX4_isMember cX4_isMember 2 (some .boolean) :: ([.fieldLink RX4 22 "CombersSocietyModel" "s" "LCombersSocietyModel$State;", .methodLink RX4 35 yX4_isIn, .static yX4_isIn, .initialized RX4, .code yX4_isIn cX4_isIn 3 (some .boolean)] ++ wsX40 ++ wsX30)
def wsX4_isDead : List Cond := .code yX4_isDead cX4_isDead 2 (some .boolean) :: ([.fieldLink RX4 22 "CombersSocietyModel" "s" "LCombersSocietyModel$State;", .methodLink RX4 39 yX3_of, .instanceMethod yX3_of, .selects RX3 yX3_of yX3_of, .initialized RX3, .code yX3_of cX3_of 3 (some .int), .fieldLink RX3 29 "CombersSocietyModel$State" "rows" "[I"] ++ wsX40 ++ wsX30)
def wsX4_others : List Cond := .code yX4_others cX4_others 3 (some .int) :: ([.fieldLink RX4 22 "CombersSocietyModel" "s" "LCombersSocietyModel$State;", .methodLink RX4 43 yX3_there, .instanceMethod yX3_there, .selects RX3 yX3_there yX3_there, .initialized RX3, .code yX3_there cX3_there 4 (some .int), .fieldLink RX3 35 "CombersSocietyModel$State" "members" "I", .methodLink RX3 57 yX3_of, .instanceMethod yX3_of, .selects RX3 yX3_of yX3_of, .code yX3_of cX3_of 3 (some .int), .fieldLink RX3 29 "CombersSocietyModel$State" "rows" "[I", .methodLink RX4 39 yX3_of] ++ wsX40 ++ wsX30)
def wsX4_join : List Cond := .code yX4_join cX4_join 4 (some .int) :: ([.fieldLink RX4 29 "CombersSocietyModel" "thrown" "I", .fieldLink RX4 22 "CombersSocietyModel" "s" "LCombersSocietyModel$State;", .arrayClass .int, .methodLink RX4 53 arraycopyName, .native arraycopyName, .static arraycopyName, .initialized "java/lang/System", .methodLink RX4 35 yX4_isIn, .static yX4_isIn, .initialized RX4, .code yX4_isIn cX4_isIn 3 (some .boolean), .methodLink RX4 47 yX4_no, .instanceMethod yX4_no, .selects RX4 yX4_no yX4_no, .code yX4_no cX4_no 2 (some .int)] ++ wsX40 ++ wsX30)
def wsX4_place_r1 : List Cond := [Cond.fieldLink RX4 29 "CombersSocietyModel" "thrown" "I", Cond.fieldLink RX4 22 "CombersSocietyModel" "s" "LCombersSocietyModel$State;", Cond.methodLink RX4 59 yX4_isMember, Cond.instanceMethod yX4_isMember, Cond.selects RX4 yX4_isMember yX4_isMember, Cond.initialized RX4, Cond.code yX4_isMember cX4_isMember 2 (some .boolean), Cond.methodLink RX4 35 yX4_isIn, Cond.static yX4_isIn, Cond.code yX4_isIn cX4_isIn 3 (some .boolean), Cond.methodLink RX4 47 yX4_no, Cond.instanceMethod yX4_no, Cond.selects RX4 yX4_no yX4_no, Cond.code yX4_no cX4_no 2 (some .int), Cond.methodLink RX4 63 yX4_isDead, Cond.instanceMethod yX4_isDead, Cond.selects RX4 yX4_isDead yX4_isDead, Cond.code yX4_isDead cX4_isDead 2 (some .boolean), Cond.methodLink RX4 39 yX3_of, Cond.instanceMethod yX3_of, Cond.selects RX3 yX3_of yX3_of, Cond.initialized RX3, Cond.code yX3_of cX3_of 3 (some .int), Cond.fieldLink RX3 29 "CombersSocietyModel$State" "rows" "[I"]
def wsX4_place_r2 : List Cond := [Cond.methodLink RX4 66 yX4_others, Cond.instanceMethod yX4_others, Cond.selects RX4 yX4_others yX4_others, Cond.code yX4_others cX4_others 3 (some .int), Cond.methodLink RX4 43 yX3_there, Cond.instanceMethod yX3_there, Cond.selects RX3 yX3_there yX3_there, Cond.code yX3_there cX3_there 4 (some .int), Cond.fieldLink RX3 35 "CombersSocietyModel$State" "members" "I", Cond.methodLink RX3 57 yX3_of, Cond.methodLink RX4 69 yX3_set, Cond.instanceMethod yX3_set, Cond.selects RX3 yX3_set yX3_set, Cond.code yX3_set cX3_set 4 none]
def wsX4_place : List Cond := .code yX4_place cX4_place 4 (some .int) :: ((wsX4_place_r1 ++ wsX4_place_r2) ++ wsX40 ++ wsX30)
def wsX4_give_r1 : List Cond := [Cond.fieldLink RX4 29 "CombersSocietyModel" "thrown" "I", Cond.fieldLink RX4 22 "CombersSocietyModel" "s" "LCombersSocietyModel$State;", Cond.methodLink RX4 59 yX4_isMember, Cond.instanceMethod yX4_isMember, Cond.selects RX4 yX4_isMember yX4_isMember, Cond.initialized RX4, Cond.code yX4_isMember cX4_isMember 2 (some .boolean), Cond.methodLink RX4 35 yX4_isIn, Cond.static yX4_isIn, Cond.code yX4_isIn cX4_isIn 3 (some .boolean), Cond.methodLink RX4 47 yX4_no, Cond.instanceMethod yX4_no, Cond.selects RX4 yX4_no yX4_no, Cond.code yX4_no cX4_no 2 (some .int), Cond.methodLink RX4 63 yX4_isDead, Cond.instanceMethod yX4_isDead, Cond.selects RX4 yX4_isDead yX4_isDead, Cond.code yX4_isDead cX4_isDead 2 (some .boolean), Cond.methodLink RX4 39 yX3_of, Cond.instanceMethod yX3_of, Cond.selects RX3 yX3_of yX3_of, Cond.initialized RX3, Cond.code yX3_of cX3_of 3 (some .int), Cond.fieldLink RX3 29 "CombersSocietyModel$State" "rows" "[I"]
def wsX4_give_r2 : List Cond := [Cond.methodLink RX4 69 yX3_set, Cond.instanceMethod yX3_set, Cond.selects RX3 yX3_set yX3_set, Cond.code yX3_set cX3_set 4 none]
def wsX4_give : List Cond := .code yX4_give cX4_give 4 (some .int) :: ((wsX4_give_r1 ++ wsX4_give_r2) ++ wsX40 ++ wsX30)
def wsX4_settle_r1 : List Cond := [Cond.fieldLink RX4 29 "CombersSocietyModel" "thrown" "I", Cond.fieldLink RX4 22 "CombersSocietyModel" "s" "LCombersSocietyModel$State;", Cond.methodLink RX4 59 yX4_isMember, Cond.instanceMethod yX4_isMember, Cond.selects RX4 yX4_isMember yX4_isMember, Cond.initialized RX4, Cond.code yX4_isMember cX4_isMember 2 (some .boolean), Cond.methodLink RX4 35 yX4_isIn, Cond.static yX4_isIn, Cond.code yX4_isIn cX4_isIn 3 (some .boolean), Cond.methodLink RX4 47 yX4_no, Cond.instanceMethod yX4_no, Cond.selects RX4 yX4_no yX4_no, Cond.code yX4_no cX4_no 2 (some .int), Cond.methodLink RX4 63 yX4_isDead, Cond.instanceMethod yX4_isDead, Cond.selects RX4 yX4_isDead yX4_isDead, Cond.code yX4_isDead cX4_isDead 2 (some .boolean), Cond.methodLink RX4 39 yX3_of, Cond.instanceMethod yX3_of, Cond.selects RX3 yX3_of yX3_of, Cond.initialized RX3, Cond.code yX3_of cX3_of 3 (some .int), Cond.fieldLink RX3 29 "CombersSocietyModel$State" "rows" "[I"]
def wsX4_settle_r2 : List Cond := [Cond.methodLink RX4 73 yX3_settle, Cond.instanceMethod yX3_settle, Cond.selects RX3 yX3_settle yX3_settle, Cond.code yX3_settle cX3_settle 3 (some .int), Cond.methodLink RX3 69 Lib.Math.min.name, Cond.static Lib.Math.min.name, Cond.initialized "java/lang/Math", Cond.code Lib.Math.min.name Lib.Math.min.code 2 (some .int), Cond.fieldLink RX3 15 "CombersSocietyModel$State" "box" "I", Cond.methodLink RX3 57 yX3_of, Cond.methodLink RX3 80 yX3_set, Cond.instanceMethod yX3_set, Cond.selects RX3 yX3_set yX3_set, Cond.code yX3_set cX3_set 4 none]
def wsX4_settle : List Cond := .code yX4_settle cX4_settle 2 (some .int) :: ((wsX4_settle_r1 ++ wsX4_settle_r2) ++ wsX40 ++ wsX30)
def wsX4_told : List Cond := .code yX4_told cX4_told 3 (some .int) :: ([.fieldLink RX4 29 "CombersSocietyModel" "thrown" "I", .fieldLink RX4 22 "CombersSocietyModel" "s" "LCombersSocietyModel$State;", .methodLink RX4 59 yX4_isMember, .instanceMethod yX4_isMember, .selects RX4 yX4_isMember yX4_isMember, .initialized RX4, .code yX4_isMember cX4_isMember 2 (some .boolean), .methodLink RX4 35 yX4_isIn, .static yX4_isIn, .code yX4_isIn cX4_isIn 3 (some .boolean), .methodLink RX4 39 yX3_of, .instanceMethod yX3_of, .selects RX3 yX3_of yX3_of, .initialized RX3, .code yX3_of cX3_of 3 (some .int), .fieldLink RX3 29 "CombersSocietyModel$State" "rows" "[I", .methodLink RX4 47 yX4_no, .instanceMethod yX4_no, .selects RX4 yX4_no yX4_no, .code yX4_no cX4_no 2 (some .int)] ++ wsX40 ++ wsX30)
def wsX4_owes : List Cond := .code yX4_owes cX4_owes 4 (some .int) :: ([.fieldLink RX4 29 "CombersSocietyModel" "thrown" "I", .fieldLink RX4 22 "CombersSocietyModel" "s" "LCombersSocietyModel$State;", .methodLink RX4 39 yX3_of, .instanceMethod yX3_of, .selects RX3 yX3_of yX3_of, .initialized RX3, .code yX3_of cX3_of 3 (some .int), .fieldLink RX3 29 "CombersSocietyModel$State" "rows" "[I"] ++ wsX40 ++ wsX30)
def wsX4_setFever : List Cond := .code yX4_setFever cX4_setFever 4 (some .int) :: ([.fieldLink RX4 29 "CombersSocietyModel" "thrown" "I", .fieldLink RX4 13 "CombersSocietyModel" "fevers" "[I", .methodLink RX4 35 yX4_isIn, .static yX4_isIn, .initialized RX4, .code yX4_isIn cX4_isIn 3 (some .boolean), .methodLink RX4 47 yX4_no, .instanceMethod yX4_no, .selects RX4 yX4_no yX4_no, .code yX4_no cX4_no 2 (some .int)] ++ wsX40)
def wsX4_setDues : List Cond := .code yX4_setDues cX4_setDues 3 (some .int) :: ([.fieldLink RX4 29 "CombersSocietyModel" "thrown" "I", .fieldLink RX4 7 "CombersSocietyModel" "dues" "I", .methodLink RX4 35 yX4_isIn, .static yX4_isIn, .initialized RX4, .code yX4_isIn cX4_isIn 3 (some .boolean), .methodLink RX4 47 yX4_no, .instanceMethod yX4_no, .selects RX4 yX4_no yX4_no, .code yX4_no cX4_no 2 (some .int)] ++ wsX40)
def wsX4_buy : List Cond := .code yX4_buy cX4_buy 4 (some .int) :: ([.fieldLink RX4 29 "CombersSocietyModel" "thrown" "I", .fieldLink RX4 22 "CombersSocietyModel" "s" "LCombersSocietyModel$State;", .methodLink RX4 35 yX4_isIn, .static yX4_isIn, .initialized RX4, .code yX4_isIn cX4_isIn 3 (some .boolean), .methodLink RX4 47 yX4_no, .instanceMethod yX4_no, .selects RX4 yX4_no yX4_no, .code yX4_no cX4_no 2 (some .int)] ++ wsX40 ++ wsX30)
def wsX4_sell : List Cond := .code yX4_sell cX4_sell 2 (some .int) :: ([.fieldLink RX4 29 "CombersSocietyModel" "thrown" "I", .fieldLink RX4 22 "CombersSocietyModel" "s" "LCombersSocietyModel$State;", .methodLink RX4 35 yX4_isIn, .static yX4_isIn, .initialized RX4, .code yX4_isIn cX4_isIn 3 (some .boolean), .methodLink RX4 47 yX4_no, .instanceMethod yX4_no, .selects RX4 yX4_no yX4_no, .code yX4_no cX4_no 2 (some .int)] ++ wsX40 ++ wsX30)
def wsX4_combed_r1 : List Cond := [Cond.fieldLink RX4 26 "CombersSocietyModel" "ahead" "LCombersSocietyModel$State;", Cond.fieldLink RX4 22 "CombersSocietyModel" "s" "LCombersSocietyModel$State;", Cond.methodLink RX4 88 yX3_become, Cond.instanceMethod yX3_become, Cond.selects RX3 yX3_become yX3_become, Cond.initialized RX3, Cond.code yX3_become cX3_become 2 none, Cond.fieldLink RX3 32 "CombersSocietyModel$State" "week" "I", Cond.fieldLink RX3 35 "CombersSocietyModel$State" "members" "I", Cond.fieldLink RX3 15 "CombersSocietyModel$State" "box" "I", Cond.fieldLink RX3 19 "CombersSocietyModel$State" "coals" "I", Cond.fieldLink RX3 22 "CombersSocietyModel$State" "wool" "I", Cond.fieldLink RX3 38 "CombersSocietyModel$State" "tops" "I", Cond.fieldLink RX3 41 "CombersSocietyModel$State" "nursed" "I", Cond.fieldLink RX3 44 "CombersSocietyModel$State" "buried" "I", Cond.fieldLink RX3 47 "CombersSocietyModel$State" "isShort" "Z", Cond.fieldLink RX3 25 "CombersSocietyModel$State" "heat" "[I", Cond.methodLink RX3 51 arraycopyName, Cond.native arraycopyName, Cond.static arraycopyName, Cond.initialized "java/lang/System", Cond.fieldLink RX3 29 "CombersSocietyModel$State" "rows" "[I", Cond.methodLink RX4 92 yX3_fire, Cond.instanceMethod yX3_fire]
def wsX4_combed_r2 : List Cond := [Cond.selects RX3 yX3_fire yX3_fire, Cond.code yX3_fire cX3_fire 3 none, Cond.methodLink RX3 69 Lib.Math.min.name, Cond.static Lib.Math.min.name, Cond.initialized "java/lang/Math", Cond.code Lib.Math.min.name Lib.Math.min.code 2 (some .int), Cond.methodLink RX3 74 Lib.Math.max.name, Cond.static Lib.Math.max.name, Cond.code Lib.Math.max.name Lib.Math.max.code 2 (some .int), Cond.methodLink RX3 65 yX3_combers, Cond.instanceMethod yX3_combers, Cond.selects RX3 yX3_combers yX3_combers, Cond.code yX3_combers cX3_combers 4 (some .int), Cond.methodLink RX3 61 yX3_combs, Cond.instanceMethod yX3_combs, Cond.selects RX3 yX3_combs yX3_combs, Cond.code yX3_combs cX3_combs 2 (some .boolean), Cond.methodLink RX3 57 yX3_of, Cond.instanceMethod yX3_of, Cond.selects RX3 yX3_of yX3_of, Cond.code yX3_of cX3_of 3 (some .int), Cond.methodLink RX4 95 yX3_combs, Cond.methodLink RX4 39 yX3_of, Cond.methodLink RX4 98 yX3_pounds]
def wsX4_combed_r3 : List Cond := [Cond.instanceMethod yX3_pounds, Cond.selects RX3 yX3_pounds yX3_pounds, Cond.code yX3_pounds cX3_pounds 3 (some .int)]
def wsX4_combed : List Cond := .code yX4_combed cX4_combed 4 (some .int) :: ((wsX4_combed_r1 ++ (wsX4_combed_r2 ++ wsX4_combed_r3)) ++ wsX40 ++ wsX30)
def wsX4_potTold_r1 : List Cond := [Cond.fieldLink RX4 22 "CombersSocietyModel" "s" "LCombersSocietyModel$State;", Cond.methodLink RX4 43 yX3_there, Cond.instanceMethod yX3_there, Cond.selects RX3 yX3_there yX3_there, Cond.initialized RX3, Cond.code yX3_there cX3_there 4 (some .int), Cond.fieldLink RX3 35 "CombersSocietyModel$State" "members" "I", Cond.methodLink RX3 57 yX3_of, Cond.instanceMethod yX3_of, Cond.selects RX3 yX3_of yX3_of, Cond.code yX3_of cX3_of 3 (some .int), Cond.fieldLink RX3 29 "CombersSocietyModel$State" "rows" "[I", Cond.methodLink RX4 104 yX3_combers, Cond.instanceMethod yX3_combers, Cond.selects RX3 yX3_combers yX3_combers, Cond.code yX3_combers cX3_combers 4 (some .int), Cond.methodLink RX3 61 yX3_combs, Cond.instanceMethod yX3_combs, Cond.selects RX3 yX3_combs yX3_combs, Cond.code yX3_combs cX3_combs 2 (some .boolean), Cond.methodLink RX4 107 yX4_combed, Cond.instanceMethod yX4_combed, Cond.selects RX4 yX4_combed yX4_combed, Cond.initialized RX4]
def wsX4_potTold_r2 : List Cond := [Cond.code yX4_combed cX4_combed 4 (some .int), Cond.fieldLink RX4 26 "CombersSocietyModel" "ahead" "LCombersSocietyModel$State;", Cond.methodLink RX4 88 yX3_become, Cond.instanceMethod yX3_become, Cond.selects RX3 yX3_become yX3_become, Cond.code yX3_become cX3_become 2 none, Cond.fieldLink RX3 32 "CombersSocietyModel$State" "week" "I", Cond.fieldLink RX3 15 "CombersSocietyModel$State" "box" "I", Cond.fieldLink RX3 19 "CombersSocietyModel$State" "coals" "I", Cond.fieldLink RX3 22 "CombersSocietyModel$State" "wool" "I", Cond.fieldLink RX3 38 "CombersSocietyModel$State" "tops" "I", Cond.fieldLink RX3 41 "CombersSocietyModel$State" "nursed" "I", Cond.fieldLink RX3 44 "CombersSocietyModel$State" "buried" "I", Cond.fieldLink RX3 47 "CombersSocietyModel$State" "isShort" "Z", Cond.fieldLink RX3 25 "CombersSocietyModel$State" "heat" "[I", Cond.methodLink RX3 51 arraycopyName, Cond.native arraycopyName, Cond.static arraycopyName, Cond.initialized "java/lang/System", Cond.methodLink RX4 92 yX3_fire, Cond.instanceMethod yX3_fire, Cond.selects RX3 yX3_fire yX3_fire, Cond.code yX3_fire cX3_fire 3 none, Cond.methodLink RX3 69 Lib.Math.min.name]
def wsX4_potTold_r3 : List Cond := [Cond.static Lib.Math.min.name, Cond.initialized "java/lang/Math", Cond.code Lib.Math.min.name Lib.Math.min.code 2 (some .int), Cond.methodLink RX3 74 Lib.Math.max.name, Cond.static Lib.Math.max.name, Cond.code Lib.Math.max.name Lib.Math.max.code 2 (some .int), Cond.methodLink RX3 65 yX3_combers, Cond.methodLink RX4 95 yX3_combs, Cond.methodLink RX4 39 yX3_of, Cond.methodLink RX4 98 yX3_pounds, Cond.instanceMethod yX3_pounds, Cond.selects RX3 yX3_pounds yX3_pounds, Cond.code yX3_pounds cX3_pounds 3 (some .int)]
def wsX4_potTold : List Cond := .code yX4_potTold cX4_potTold 3 (some .int) :: ((wsX4_potTold_r1 ++ (wsX4_potTold_r2 ++ wsX4_potTold_r3)) ++ wsX40 ++ wsX30)
def wsX4_pot_r1 : List Cond := [Cond.fieldLink RX4 29 "CombersSocietyModel" "thrown" "I", Cond.methodLink RX4 35 yX4_isIn, Cond.static yX4_isIn, Cond.initialized RX4, Cond.code yX4_isIn cX4_isIn 3 (some .boolean), Cond.methodLink RX4 110 yX4_potTold, Cond.instanceMethod yX4_potTold, Cond.selects RX4 yX4_potTold yX4_potTold, Cond.code yX4_potTold cX4_potTold 3 (some .int), Cond.fieldLink RX4 22 "CombersSocietyModel" "s" "LCombersSocietyModel$State;", Cond.methodLink RX4 43 yX3_there, Cond.instanceMethod yX3_there, Cond.selects RX3 yX3_there yX3_there, Cond.initialized RX3, Cond.code yX3_there cX3_there 4 (some .int), Cond.fieldLink RX3 35 "CombersSocietyModel$State" "members" "I", Cond.methodLink RX3 57 yX3_of, Cond.instanceMethod yX3_of, Cond.selects RX3 yX3_of yX3_of, Cond.code yX3_of cX3_of 3 (some .int), Cond.fieldLink RX3 29 "CombersSocietyModel$State" "rows" "[I", Cond.methodLink RX4 104 yX3_combers, Cond.instanceMethod yX3_combers, Cond.selects RX3 yX3_combers yX3_combers]
def wsX4_pot_r2 : List Cond := [Cond.code yX3_combers cX3_combers 4 (some .int), Cond.methodLink RX3 61 yX3_combs, Cond.instanceMethod yX3_combs, Cond.selects RX3 yX3_combs yX3_combs, Cond.code yX3_combs cX3_combs 2 (some .boolean), Cond.methodLink RX4 107 yX4_combed, Cond.instanceMethod yX4_combed, Cond.selects RX4 yX4_combed yX4_combed, Cond.code yX4_combed cX4_combed 4 (some .int), Cond.fieldLink RX4 26 "CombersSocietyModel" "ahead" "LCombersSocietyModel$State;", Cond.methodLink RX4 88 yX3_become, Cond.instanceMethod yX3_become, Cond.selects RX3 yX3_become yX3_become, Cond.code yX3_become cX3_become 2 none, Cond.fieldLink RX3 32 "CombersSocietyModel$State" "week" "I", Cond.fieldLink RX3 15 "CombersSocietyModel$State" "box" "I", Cond.fieldLink RX3 19 "CombersSocietyModel$State" "coals" "I", Cond.fieldLink RX3 22 "CombersSocietyModel$State" "wool" "I", Cond.fieldLink RX3 38 "CombersSocietyModel$State" "tops" "I", Cond.fieldLink RX3 41 "CombersSocietyModel$State" "nursed" "I", Cond.fieldLink RX3 44 "CombersSocietyModel$State" "buried" "I", Cond.fieldLink RX3 47 "CombersSocietyModel$State" "isShort" "Z", Cond.fieldLink RX3 25 "CombersSocietyModel$State" "heat" "[I", Cond.methodLink RX3 51 arraycopyName]
def wsX4_pot_r3 : List Cond := [Cond.native arraycopyName, Cond.static arraycopyName, Cond.initialized "java/lang/System", Cond.methodLink RX4 92 yX3_fire, Cond.instanceMethod yX3_fire, Cond.selects RX3 yX3_fire yX3_fire, Cond.code yX3_fire cX3_fire 3 none, Cond.methodLink RX3 69 Lib.Math.min.name, Cond.static Lib.Math.min.name, Cond.initialized "java/lang/Math", Cond.code Lib.Math.min.name Lib.Math.min.code 2 (some .int), Cond.methodLink RX3 74 Lib.Math.max.name, Cond.static Lib.Math.max.name, Cond.code Lib.Math.max.name Lib.Math.max.code 2 (some .int), Cond.methodLink RX3 65 yX3_combers, Cond.methodLink RX4 95 yX3_combs, Cond.methodLink RX4 39 yX3_of, Cond.methodLink RX4 98 yX3_pounds, Cond.instanceMethod yX3_pounds, Cond.selects RX3 yX3_pounds yX3_pounds, Cond.code yX3_pounds cX3_pounds 3 (some .int), Cond.methodLink RX4 47 yX4_no, Cond.instanceMethod yX4_no, Cond.selects RX4 yX4_no yX4_no]
def wsX4_pot_r4 : List Cond := [Cond.code yX4_no cX4_no 2 (some .int)]
def wsX4_pot : List Cond := .code yX4_pot cX4_pot 3 (some .int) :: ((wsX4_pot_r1 ++ (wsX4_pot_r2 ++ (wsX4_pot_r3 ++ wsX4_pot_r4))) ++ wsX40 ++ wsX30)
def wsX4_counted : List Cond := .code yX4_counted cX4_counted 2 (some .int) :: ([.methodLink RX4 116 yX3_many, .instanceMethod yX3_many, .selects RX3 yX3_many yX3_many, .initialized RX3, .code yX3_many cX3_many 4 (some .int), .fieldLink RX3 35 "CombersSocietyModel$State" "members" "I", .methodLink RX3 57 yX3_of, .instanceMethod yX3_of, .selects RX3 yX3_of yX3_of, .code yX3_of cX3_of 3 (some .int), .fieldLink RX3 29 "CombersSocietyModel$State" "rows" "[I", .methodLink RX4 119 yX3_all, .instanceMethod yX3_all, .selects RX3 yX3_all yX3_all, .code yX3_all cX3_all 4 (some .int)] ++ wsX30)
def wsX4_count_r1 : List Cond := [Cond.fieldLink RX4 29 "CombersSocietyModel" "thrown" "I", Cond.fieldLink RX4 22 "CombersSocietyModel" "s" "LCombersSocietyModel$State;", Cond.methodLink RX4 35 yX4_isIn, Cond.static yX4_isIn, Cond.initialized RX4, Cond.code yX4_isIn cX4_isIn 3 (some .boolean), Cond.methodLink RX4 128 yX4_counted, Cond.static yX4_counted, Cond.code yX4_counted cX4_counted 2 (some .int), Cond.methodLink RX4 116 yX3_many, Cond.instanceMethod yX3_many, Cond.selects RX3 yX3_many yX3_many, Cond.initialized RX3, Cond.code yX3_many cX3_many 4 (some .int), Cond.fieldLink RX3 35 "CombersSocietyModel$State" "members" "I", Cond.methodLink RX3 57 yX3_of, Cond.instanceMethod yX3_of, Cond.selects RX3 yX3_of yX3_of, Cond.code yX3_of cX3_of 3 (some .int), Cond.fieldLink RX3 29 "CombersSocietyModel$State" "rows" "[I", Cond.methodLink RX4 119 yX3_all, Cond.instanceMethod yX3_all, Cond.selects RX3 yX3_all yX3_all, Cond.code yX3_all cX3_all 4 (some .int)]
def wsX4_count_r2 : List Cond := [Cond.methodLink RX4 47 yX4_no, Cond.instanceMethod yX4_no, Cond.selects RX4 yX4_no yX4_no, Cond.code yX4_no cX4_no 2 (some .int)]
def wsX4_count : List Cond := .code yX4_count cX4_count 2 (some .int) :: ((wsX4_count_r1 ++ wsX4_count_r2) ++ wsX40 ++ wsX30)
def wsX4_pass_r1 : List Cond := [Cond.fieldLink RX4 29 "CombersSocietyModel" "thrown" "I", Cond.fieldLink RX4 22 "CombersSocietyModel" "s" "LCombersSocietyModel$State;", Cond.methodLink RX4 35 yX4_isIn, Cond.static yX4_isIn, Cond.initialized RX4, Cond.code yX4_isIn cX4_isIn 3 (some .boolean), Cond.methodLink RX4 47 yX4_no, Cond.instanceMethod yX4_no, Cond.selects RX4 yX4_no yX4_no, Cond.code yX4_no cX4_no 2 (some .int), Cond.methodLink RX4 132 yX3_pass, Cond.instanceMethod yX3_pass, Cond.selects RX3 yX3_pass yX3_pass, Cond.initialized RX3, Cond.code yX3_pass cX3_pass 3 none, Cond.fieldLink RX3 35 "CombersSocietyModel$State" "members" "I", Cond.fieldLink RX3 32 "CombersSocietyModel$State" "week" "I", Cond.methodLink RX3 100 yX3_fire, Cond.instanceMethod yX3_fire, Cond.selects RX3 yX3_fire yX3_fire, Cond.code yX3_fire cX3_fire 3 none, Cond.fieldLink RX3 19 "CombersSocietyModel$State" "coals" "I", Cond.fieldLink RX3 25 "CombersSocietyModel$State" "heat" "[I", Cond.methodLink RX3 69 Lib.Math.min.name]
def wsX4_pass_r2 : List Cond := [Cond.static Lib.Math.min.name, Cond.initialized "java/lang/Math", Cond.code Lib.Math.min.name Lib.Math.min.code 2 (some .int), Cond.methodLink RX3 74 Lib.Math.max.name, Cond.static Lib.Math.max.name, Cond.code Lib.Math.max.name Lib.Math.max.code 2 (some .int), Cond.methodLink RX3 65 yX3_combers, Cond.instanceMethod yX3_combers, Cond.selects RX3 yX3_combers yX3_combers, Cond.code yX3_combers cX3_combers 4 (some .int), Cond.methodLink RX3 61 yX3_combs, Cond.instanceMethod yX3_combs, Cond.selects RX3 yX3_combs yX3_combs, Cond.code yX3_combs cX3_combs 2 (some .boolean), Cond.methodLink RX3 57 yX3_of, Cond.instanceMethod yX3_of, Cond.selects RX3 yX3_of yX3_of, Cond.code yX3_of cX3_of 3 (some .int), Cond.fieldLink RX3 29 "CombersSocietyModel$State" "rows" "[I", Cond.methodLink RX3 103 yX3_comb, Cond.instanceMethod yX3_comb, Cond.selects RX3 yX3_comb yX3_comb, Cond.code yX3_comb cX3_comb 3 none, Cond.fieldLink RX3 22 "CombersSocietyModel$State" "wool" "I"]
def wsX4_pass_r3 : List Cond := [Cond.fieldLink RX3 38 "CombersSocietyModel$State" "tops" "I", Cond.methodLink RX3 77 yX3_pounds, Cond.instanceMethod yX3_pounds, Cond.selects RX3 yX3_pounds yX3_pounds, Cond.code yX3_pounds cX3_pounds 3 (some .int), Cond.methodLink RX3 80 yX3_set, Cond.instanceMethod yX3_set, Cond.selects RX3 yX3_set yX3_set, Cond.code yX3_set cX3_set 4 none, Cond.methodLink RX3 106 yX3_fever, Cond.instanceMethod yX3_fever, Cond.selects RX3 yX3_fever yX3_fever, Cond.code yX3_fever cX3_fever 3 none, Cond.fieldLink RX3 3 "CombersSocietyModel$State" "this$0" "LCombersSocietyModel;", Cond.methodLink RX3 109 yX3_nurse, Cond.instanceMethod yX3_nurse, Cond.selects RX3 yX3_nurse yX3_nurse, Cond.code yX3_nurse cX3_nurse 3 none, Cond.fieldLink RX3 41 "CombersSocietyModel$State" "nursed" "I", Cond.methodLink RX3 87 yX3_heal, Cond.instanceMethod yX3_heal, Cond.selects RX3 yX3_heal yX3_heal, Cond.code yX3_heal cX3_heal 3 none, Cond.methodLink RX3 91 yX3_pay]
def wsX4_pass_r4 : List Cond := [Cond.instanceMethod yX3_pay, Cond.selects RX3 yX3_pay yX3_pay, Cond.code yX3_pay cX3_pay 3 (some .int), Cond.fieldLink RX3 15 "CombersSocietyModel$State" "box" "I", Cond.fieldLink RX3 47 "CombersSocietyModel$State" "isShort" "Z", Cond.methodLink RX3 113 yX3_payDues, Cond.instanceMethod yX3_payDues, Cond.selects RX3 yX3_payDues yX3_payDues, Cond.code yX3_payDues cX3_payDues 3 none, Cond.methodLink RX3 116 yX3_drink, Cond.instanceMethod yX3_drink, Cond.selects RX3 yX3_drink yX3_drink, Cond.code yX3_drink cX3_drink 2 none, Cond.methodLink RX3 97 yX3_settle, Cond.instanceMethod yX3_settle, Cond.selects RX3 yX3_settle yX3_settle, Cond.code yX3_settle cX3_settle 3 (some .int), Cond.methodLink RX3 119 yX3_bury, Cond.instanceMethod yX3_bury, Cond.selects RX3 yX3_bury yX3_bury, Cond.code yX3_bury cX3_bury 3 none, Cond.fieldLink RX3 44 "CombersSocietyModel$State" "buried" "I"]
def wsX4_pass : List Cond := .code yX4_pass cX4_pass 4 (some .int) :: ((wsX4_pass_r1 ++ (wsX4_pass_r2 ++ (wsX4_pass_r3 ++ wsX4_pass_r4))) ++ wsX40 ++ wsX30)
def wsX4_foresee_r1 : List Cond := [Cond.fieldLink RX4 29 "CombersSocietyModel" "thrown" "I", Cond.fieldLink RX4 26 "CombersSocietyModel" "ahead" "LCombersSocietyModel$State;", Cond.fieldLink RX4 22 "CombersSocietyModel" "s" "LCombersSocietyModel$State;", Cond.methodLink RX4 35 yX4_isIn, Cond.static yX4_isIn, Cond.initialized RX4, Cond.code yX4_isIn cX4_isIn 3 (some .boolean), Cond.methodLink RX4 47 yX4_no, Cond.instanceMethod yX4_no, Cond.selects RX4 yX4_no yX4_no, Cond.code yX4_no cX4_no 2 (some .int), Cond.methodLink RX4 88 yX3_become, Cond.instanceMethod yX3_become, Cond.selects RX3 yX3_become yX3_become, Cond.initialized RX3, Cond.code yX3_become cX3_become 2 none, Cond.fieldLink RX3 32 "CombersSocietyModel$State" "week" "I", Cond.fieldLink RX3 35 "CombersSocietyModel$State" "members" "I", Cond.fieldLink RX3 15 "CombersSocietyModel$State" "box" "I", Cond.fieldLink RX3 19 "CombersSocietyModel$State" "coals" "I", Cond.fieldLink RX3 22 "CombersSocietyModel$State" "wool" "I", Cond.fieldLink RX3 38 "CombersSocietyModel$State" "tops" "I", Cond.fieldLink RX3 41 "CombersSocietyModel$State" "nursed" "I", Cond.fieldLink RX3 44 "CombersSocietyModel$State" "buried" "I"]
def wsX4_foresee_r2 : List Cond := [Cond.fieldLink RX3 47 "CombersSocietyModel$State" "isShort" "Z", Cond.fieldLink RX3 25 "CombersSocietyModel$State" "heat" "[I", Cond.methodLink RX3 51 arraycopyName, Cond.native arraycopyName, Cond.static arraycopyName, Cond.initialized "java/lang/System", Cond.fieldLink RX3 29 "CombersSocietyModel$State" "rows" "[I", Cond.methodLink RX4 132 yX3_pass, Cond.instanceMethod yX3_pass, Cond.selects RX3 yX3_pass yX3_pass, Cond.code yX3_pass cX3_pass 3 none, Cond.methodLink RX3 100 yX3_fire, Cond.instanceMethod yX3_fire, Cond.selects RX3 yX3_fire yX3_fire, Cond.code yX3_fire cX3_fire 3 none, Cond.methodLink RX3 69 Lib.Math.min.name, Cond.static Lib.Math.min.name, Cond.initialized "java/lang/Math", Cond.code Lib.Math.min.name Lib.Math.min.code 2 (some .int), Cond.methodLink RX3 74 Lib.Math.max.name, Cond.static Lib.Math.max.name, Cond.code Lib.Math.max.name Lib.Math.max.code 2 (some .int), Cond.methodLink RX3 65 yX3_combers, Cond.instanceMethod yX3_combers]
def wsX4_foresee_r3 : List Cond := [Cond.selects RX3 yX3_combers yX3_combers, Cond.code yX3_combers cX3_combers 4 (some .int), Cond.methodLink RX3 61 yX3_combs, Cond.instanceMethod yX3_combs, Cond.selects RX3 yX3_combs yX3_combs, Cond.code yX3_combs cX3_combs 2 (some .boolean), Cond.methodLink RX3 57 yX3_of, Cond.instanceMethod yX3_of, Cond.selects RX3 yX3_of yX3_of, Cond.code yX3_of cX3_of 3 (some .int), Cond.methodLink RX3 103 yX3_comb, Cond.instanceMethod yX3_comb, Cond.selects RX3 yX3_comb yX3_comb, Cond.code yX3_comb cX3_comb 3 none, Cond.methodLink RX3 77 yX3_pounds, Cond.instanceMethod yX3_pounds, Cond.selects RX3 yX3_pounds yX3_pounds, Cond.code yX3_pounds cX3_pounds 3 (some .int), Cond.methodLink RX3 80 yX3_set, Cond.instanceMethod yX3_set, Cond.selects RX3 yX3_set yX3_set, Cond.code yX3_set cX3_set 4 none, Cond.methodLink RX3 106 yX3_fever, Cond.instanceMethod yX3_fever]
def wsX4_foresee_r4 : List Cond := [Cond.selects RX3 yX3_fever yX3_fever, Cond.code yX3_fever cX3_fever 3 none, Cond.fieldLink RX3 3 "CombersSocietyModel$State" "this$0" "LCombersSocietyModel;", Cond.methodLink RX3 109 yX3_nurse, Cond.instanceMethod yX3_nurse, Cond.selects RX3 yX3_nurse yX3_nurse, Cond.code yX3_nurse cX3_nurse 3 none, Cond.methodLink RX3 87 yX3_heal, Cond.instanceMethod yX3_heal, Cond.selects RX3 yX3_heal yX3_heal, Cond.code yX3_heal cX3_heal 3 none, Cond.methodLink RX3 91 yX3_pay, Cond.instanceMethod yX3_pay, Cond.selects RX3 yX3_pay yX3_pay, Cond.code yX3_pay cX3_pay 3 (some .int), Cond.methodLink RX3 113 yX3_payDues, Cond.instanceMethod yX3_payDues, Cond.selects RX3 yX3_payDues yX3_payDues, Cond.code yX3_payDues cX3_payDues 3 none, Cond.methodLink RX3 116 yX3_drink, Cond.instanceMethod yX3_drink, Cond.selects RX3 yX3_drink yX3_drink, Cond.code yX3_drink cX3_drink 2 none, Cond.methodLink RX3 97 yX3_settle]
def wsX4_foresee_r5 : List Cond := [Cond.instanceMethod yX3_settle, Cond.selects RX3 yX3_settle yX3_settle, Cond.code yX3_settle cX3_settle 3 (some .int), Cond.methodLink RX3 119 yX3_bury, Cond.instanceMethod yX3_bury, Cond.selects RX3 yX3_bury yX3_bury, Cond.code yX3_bury cX3_bury 3 none, Cond.methodLink RX4 128 yX4_counted, Cond.static yX4_counted, Cond.code yX4_counted cX4_counted 2 (some .int), Cond.methodLink RX4 116 yX3_many, Cond.instanceMethod yX3_many, Cond.selects RX3 yX3_many yX3_many, Cond.code yX3_many cX3_many 4 (some .int), Cond.methodLink RX4 119 yX3_all, Cond.instanceMethod yX3_all, Cond.selects RX3 yX3_all yX3_all, Cond.code yX3_all cX3_all 4 (some .int)]
def wsX4_foresee : List Cond := .code yX4_foresee cX4_foresee 4 (some .int) :: ((wsX4_foresee_r1 ++ (wsX4_foresee_r2 ++ (wsX4_foresee_r3 ++ (wsX4_foresee_r4 ++ wsX4_foresee_r5)))) ++ wsX40 ++ wsX30)
def wsX4_earns_r1 : List Cond := [Cond.fieldLink RX4 29 "CombersSocietyModel" "thrown" "I", Cond.fieldLink RX4 26 "CombersSocietyModel" "ahead" "LCombersSocietyModel$State;", Cond.fieldLink RX4 22 "CombersSocietyModel" "s" "LCombersSocietyModel$State;", Cond.methodLink RX4 59 yX4_isMember, Cond.instanceMethod yX4_isMember, Cond.selects RX4 yX4_isMember yX4_isMember, Cond.initialized RX4, Cond.code yX4_isMember cX4_isMember 2 (some .boolean), Cond.methodLink RX4 35 yX4_isIn, Cond.static yX4_isIn, Cond.code yX4_isIn cX4_isIn 3 (some .boolean), Cond.methodLink RX4 47 yX4_no, Cond.instanceMethod yX4_no, Cond.selects RX4 yX4_no yX4_no, Cond.code yX4_no cX4_no 2 (some .int), Cond.methodLink RX4 88 yX3_become, Cond.instanceMethod yX3_become, Cond.selects RX3 yX3_become yX3_become, Cond.initialized RX3, Cond.code yX3_become cX3_become 2 none, Cond.fieldLink RX3 32 "CombersSocietyModel$State" "week" "I", Cond.fieldLink RX3 35 "CombersSocietyModel$State" "members" "I", Cond.fieldLink RX3 15 "CombersSocietyModel$State" "box" "I", Cond.fieldLink RX3 19 "CombersSocietyModel$State" "coals" "I"]
def wsX4_earns_r2 : List Cond := [Cond.fieldLink RX3 22 "CombersSocietyModel$State" "wool" "I", Cond.fieldLink RX3 38 "CombersSocietyModel$State" "tops" "I", Cond.fieldLink RX3 41 "CombersSocietyModel$State" "nursed" "I", Cond.fieldLink RX3 44 "CombersSocietyModel$State" "buried" "I", Cond.fieldLink RX3 47 "CombersSocietyModel$State" "isShort" "Z", Cond.fieldLink RX3 25 "CombersSocietyModel$State" "heat" "[I", Cond.methodLink RX3 51 arraycopyName, Cond.native arraycopyName, Cond.static arraycopyName, Cond.initialized "java/lang/System", Cond.fieldLink RX3 29 "CombersSocietyModel$State" "rows" "[I", Cond.methodLink RX4 92 yX3_fire, Cond.instanceMethod yX3_fire, Cond.selects RX3 yX3_fire yX3_fire, Cond.code yX3_fire cX3_fire 3 none, Cond.methodLink RX3 69 Lib.Math.min.name, Cond.static Lib.Math.min.name, Cond.initialized "java/lang/Math", Cond.code Lib.Math.min.name Lib.Math.min.code 2 (some .int), Cond.methodLink RX3 74 Lib.Math.max.name, Cond.static Lib.Math.max.name, Cond.code Lib.Math.max.name Lib.Math.max.code 2 (some .int), Cond.methodLink RX3 65 yX3_combers, Cond.instanceMethod yX3_combers]
def wsX4_earns_r3 : List Cond := [Cond.selects RX3 yX3_combers yX3_combers, Cond.code yX3_combers cX3_combers 4 (some .int), Cond.methodLink RX3 61 yX3_combs, Cond.instanceMethod yX3_combs, Cond.selects RX3 yX3_combs yX3_combs, Cond.code yX3_combs cX3_combs 2 (some .boolean), Cond.methodLink RX3 57 yX3_of, Cond.instanceMethod yX3_of, Cond.selects RX3 yX3_of yX3_of, Cond.code yX3_of cX3_of 3 (some .int), Cond.methodLink RX4 135 yX3_comb, Cond.instanceMethod yX3_comb, Cond.selects RX3 yX3_comb yX3_comb, Cond.code yX3_comb cX3_comb 3 none, Cond.methodLink RX3 77 yX3_pounds, Cond.instanceMethod yX3_pounds, Cond.selects RX3 yX3_pounds yX3_pounds, Cond.code yX3_pounds cX3_pounds 3 (some .int), Cond.methodLink RX3 80 yX3_set, Cond.instanceMethod yX3_set, Cond.selects RX3 yX3_set yX3_set, Cond.code yX3_set cX3_set 4 none, Cond.methodLink RX4 39 yX3_of]
def wsX4_earns : List Cond := .code yX4_earns cX4_earns 2 (some .int) :: ((wsX4_earns_r1 ++ (wsX4_earns_r2 ++ wsX4_earns_r3)) ++ wsX40 ++ wsX30)
def wsX4_dies_r1 : List Cond := [Cond.fieldLink RX4 29 "CombersSocietyModel" "thrown" "I", Cond.fieldLink RX4 26 "CombersSocietyModel" "ahead" "LCombersSocietyModel$State;", Cond.fieldLink RX4 22 "CombersSocietyModel" "s" "LCombersSocietyModel$State;", Cond.methodLink RX4 59 yX4_isMember, Cond.instanceMethod yX4_isMember, Cond.selects RX4 yX4_isMember yX4_isMember, Cond.initialized RX4, Cond.code yX4_isMember cX4_isMember 2 (some .boolean), Cond.methodLink RX4 35 yX4_isIn, Cond.static yX4_isIn, Cond.code yX4_isIn cX4_isIn 3 (some .boolean), Cond.methodLink RX4 47 yX4_no, Cond.instanceMethod yX4_no, Cond.selects RX4 yX4_no yX4_no, Cond.code yX4_no cX4_no 2 (some .int), Cond.methodLink RX4 88 yX3_become, Cond.instanceMethod yX3_become, Cond.selects RX3 yX3_become yX3_become, Cond.initialized RX3, Cond.code yX3_become cX3_become 2 none, Cond.fieldLink RX3 32 "CombersSocietyModel$State" "week" "I", Cond.fieldLink RX3 35 "CombersSocietyModel$State" "members" "I", Cond.fieldLink RX3 15 "CombersSocietyModel$State" "box" "I", Cond.fieldLink RX3 19 "CombersSocietyModel$State" "coals" "I"]
def wsX4_dies_r2 : List Cond := [Cond.fieldLink RX3 22 "CombersSocietyModel$State" "wool" "I", Cond.fieldLink RX3 38 "CombersSocietyModel$State" "tops" "I", Cond.fieldLink RX3 41 "CombersSocietyModel$State" "nursed" "I", Cond.fieldLink RX3 44 "CombersSocietyModel$State" "buried" "I", Cond.fieldLink RX3 47 "CombersSocietyModel$State" "isShort" "Z", Cond.fieldLink RX3 25 "CombersSocietyModel$State" "heat" "[I", Cond.methodLink RX3 51 arraycopyName, Cond.native arraycopyName, Cond.static arraycopyName, Cond.initialized "java/lang/System", Cond.fieldLink RX3 29 "CombersSocietyModel$State" "rows" "[I", Cond.methodLink RX4 39 yX3_of, Cond.instanceMethod yX3_of, Cond.selects RX3 yX3_of yX3_of, Cond.code yX3_of cX3_of 3 (some .int), Cond.methodLink RX4 132 yX3_pass, Cond.instanceMethod yX3_pass, Cond.selects RX3 yX3_pass yX3_pass, Cond.code yX3_pass cX3_pass 3 none, Cond.methodLink RX3 100 yX3_fire, Cond.instanceMethod yX3_fire, Cond.selects RX3 yX3_fire yX3_fire, Cond.code yX3_fire cX3_fire 3 none, Cond.methodLink RX3 69 Lib.Math.min.name]
def wsX4_dies_r3 : List Cond := [Cond.static Lib.Math.min.name, Cond.initialized "java/lang/Math", Cond.code Lib.Math.min.name Lib.Math.min.code 2 (some .int), Cond.methodLink RX3 74 Lib.Math.max.name, Cond.static Lib.Math.max.name, Cond.code Lib.Math.max.name Lib.Math.max.code 2 (some .int), Cond.methodLink RX3 65 yX3_combers, Cond.instanceMethod yX3_combers, Cond.selects RX3 yX3_combers yX3_combers, Cond.code yX3_combers cX3_combers 4 (some .int), Cond.methodLink RX3 61 yX3_combs, Cond.instanceMethod yX3_combs, Cond.selects RX3 yX3_combs yX3_combs, Cond.code yX3_combs cX3_combs 2 (some .boolean), Cond.methodLink RX3 57 yX3_of, Cond.methodLink RX3 103 yX3_comb, Cond.instanceMethod yX3_comb, Cond.selects RX3 yX3_comb yX3_comb, Cond.code yX3_comb cX3_comb 3 none, Cond.methodLink RX3 77 yX3_pounds, Cond.instanceMethod yX3_pounds, Cond.selects RX3 yX3_pounds yX3_pounds, Cond.code yX3_pounds cX3_pounds 3 (some .int), Cond.methodLink RX3 80 yX3_set]
def wsX4_dies_r4 : List Cond := [Cond.instanceMethod yX3_set, Cond.selects RX3 yX3_set yX3_set, Cond.code yX3_set cX3_set 4 none, Cond.methodLink RX3 106 yX3_fever, Cond.instanceMethod yX3_fever, Cond.selects RX3 yX3_fever yX3_fever, Cond.code yX3_fever cX3_fever 3 none, Cond.fieldLink RX3 3 "CombersSocietyModel$State" "this$0" "LCombersSocietyModel;", Cond.methodLink RX3 109 yX3_nurse, Cond.instanceMethod yX3_nurse, Cond.selects RX3 yX3_nurse yX3_nurse, Cond.code yX3_nurse cX3_nurse 3 none, Cond.methodLink RX3 87 yX3_heal, Cond.instanceMethod yX3_heal, Cond.selects RX3 yX3_heal yX3_heal, Cond.code yX3_heal cX3_heal 3 none, Cond.methodLink RX3 91 yX3_pay, Cond.instanceMethod yX3_pay, Cond.selects RX3 yX3_pay yX3_pay, Cond.code yX3_pay cX3_pay 3 (some .int), Cond.methodLink RX3 113 yX3_payDues, Cond.instanceMethod yX3_payDues, Cond.selects RX3 yX3_payDues yX3_payDues, Cond.code yX3_payDues cX3_payDues 3 none]
def wsX4_dies_r5 : List Cond := [Cond.methodLink RX3 116 yX3_drink, Cond.instanceMethod yX3_drink, Cond.selects RX3 yX3_drink yX3_drink, Cond.code yX3_drink cX3_drink 2 none, Cond.methodLink RX3 97 yX3_settle, Cond.instanceMethod yX3_settle, Cond.selects RX3 yX3_settle yX3_settle, Cond.code yX3_settle cX3_settle 3 (some .int), Cond.methodLink RX3 119 yX3_bury, Cond.instanceMethod yX3_bury, Cond.selects RX3 yX3_bury yX3_bury, Cond.code yX3_bury cX3_bury 3 none]
def wsX4_dies : List Cond := .code yX4_dies cX4_dies 3 (some .int) :: ((wsX4_dies_r1 ++ (wsX4_dies_r2 ++ (wsX4_dies_r3 ++ (wsX4_dies_r4 ++ wsX4_dies_r5)))) ++ wsX40 ++ wsX30)
def wsX4_lasts_r1 : List Cond := [Cond.fieldLink RX4 29 "CombersSocietyModel" "thrown" "I", Cond.fieldLink RX4 26 "CombersSocietyModel" "ahead" "LCombersSocietyModel$State;", Cond.fieldLink RX4 22 "CombersSocietyModel" "s" "LCombersSocietyModel$State;", Cond.methodLink RX4 88 yX3_become, Cond.instanceMethod yX3_become, Cond.selects RX3 yX3_become yX3_become, Cond.initialized RX3, Cond.code yX3_become cX3_become 2 none, Cond.fieldLink RX3 32 "CombersSocietyModel$State" "week" "I", Cond.fieldLink RX3 35 "CombersSocietyModel$State" "members" "I", Cond.fieldLink RX3 15 "CombersSocietyModel$State" "box" "I", Cond.fieldLink RX3 19 "CombersSocietyModel$State" "coals" "I", Cond.fieldLink RX3 22 "CombersSocietyModel$State" "wool" "I", Cond.fieldLink RX3 38 "CombersSocietyModel$State" "tops" "I", Cond.fieldLink RX3 41 "CombersSocietyModel$State" "nursed" "I", Cond.fieldLink RX3 44 "CombersSocietyModel$State" "buried" "I", Cond.fieldLink RX3 47 "CombersSocietyModel$State" "isShort" "Z", Cond.fieldLink RX3 25 "CombersSocietyModel$State" "heat" "[I", Cond.methodLink RX3 51 arraycopyName, Cond.native arraycopyName, Cond.static arraycopyName, Cond.initialized "java/lang/System", Cond.fieldLink RX3 29 "CombersSocietyModel$State" "rows" "[I", Cond.methodLink RX4 132 yX3_pass]
def wsX4_lasts_r2 : List Cond := [Cond.instanceMethod yX3_pass, Cond.selects RX3 yX3_pass yX3_pass, Cond.code yX3_pass cX3_pass 3 none, Cond.methodLink RX3 100 yX3_fire, Cond.instanceMethod yX3_fire, Cond.selects RX3 yX3_fire yX3_fire, Cond.code yX3_fire cX3_fire 3 none, Cond.methodLink RX3 69 Lib.Math.min.name, Cond.static Lib.Math.min.name, Cond.initialized "java/lang/Math", Cond.code Lib.Math.min.name Lib.Math.min.code 2 (some .int), Cond.methodLink RX3 74 Lib.Math.max.name, Cond.static Lib.Math.max.name, Cond.code Lib.Math.max.name Lib.Math.max.code 2 (some .int), Cond.methodLink RX3 65 yX3_combers, Cond.instanceMethod yX3_combers, Cond.selects RX3 yX3_combers yX3_combers, Cond.code yX3_combers cX3_combers 4 (some .int), Cond.methodLink RX3 61 yX3_combs, Cond.instanceMethod yX3_combs, Cond.selects RX3 yX3_combs yX3_combs, Cond.code yX3_combs cX3_combs 2 (some .boolean), Cond.methodLink RX3 57 yX3_of, Cond.instanceMethod yX3_of]
def wsX4_lasts_r3 : List Cond := [Cond.selects RX3 yX3_of yX3_of, Cond.code yX3_of cX3_of 3 (some .int), Cond.methodLink RX3 103 yX3_comb, Cond.instanceMethod yX3_comb, Cond.selects RX3 yX3_comb yX3_comb, Cond.code yX3_comb cX3_comb 3 none, Cond.methodLink RX3 77 yX3_pounds, Cond.instanceMethod yX3_pounds, Cond.selects RX3 yX3_pounds yX3_pounds, Cond.code yX3_pounds cX3_pounds 3 (some .int), Cond.methodLink RX3 80 yX3_set, Cond.instanceMethod yX3_set, Cond.selects RX3 yX3_set yX3_set, Cond.code yX3_set cX3_set 4 none, Cond.methodLink RX3 106 yX3_fever, Cond.instanceMethod yX3_fever, Cond.selects RX3 yX3_fever yX3_fever, Cond.code yX3_fever cX3_fever 3 none, Cond.fieldLink RX3 3 "CombersSocietyModel$State" "this$0" "LCombersSocietyModel;", Cond.methodLink RX3 109 yX3_nurse, Cond.instanceMethod yX3_nurse, Cond.selects RX3 yX3_nurse yX3_nurse, Cond.code yX3_nurse cX3_nurse 3 none, Cond.methodLink RX3 87 yX3_heal]
def wsX4_lasts_r4 : List Cond := [Cond.instanceMethod yX3_heal, Cond.selects RX3 yX3_heal yX3_heal, Cond.code yX3_heal cX3_heal 3 none, Cond.methodLink RX3 91 yX3_pay, Cond.instanceMethod yX3_pay, Cond.selects RX3 yX3_pay yX3_pay, Cond.code yX3_pay cX3_pay 3 (some .int), Cond.methodLink RX3 113 yX3_payDues, Cond.instanceMethod yX3_payDues, Cond.selects RX3 yX3_payDues yX3_payDues, Cond.code yX3_payDues cX3_payDues 3 none, Cond.methodLink RX3 116 yX3_drink, Cond.instanceMethod yX3_drink, Cond.selects RX3 yX3_drink yX3_drink, Cond.code yX3_drink cX3_drink 2 none, Cond.methodLink RX3 97 yX3_settle, Cond.instanceMethod yX3_settle, Cond.selects RX3 yX3_settle yX3_settle, Cond.code yX3_settle cX3_settle 3 (some .int), Cond.methodLink RX3 119 yX3_bury, Cond.instanceMethod yX3_bury, Cond.selects RX3 yX3_bury yX3_bury, Cond.code yX3_bury cX3_bury 3 none]
def wsX4_lasts : List Cond := .code yX4_lasts cX4_lasts 2 (some .int) :: ((wsX4_lasts_r1 ++ (wsX4_lasts_r2 ++ (wsX4_lasts_r3 ++ wsX4_lasts_r4))) ++ wsX40 ++ wsX30)
def wsX4_advise_r1 : List Cond := [Cond.fieldLink RX4 29 "CombersSocietyModel" "thrown" "I", Cond.fieldLink RX4 26 "CombersSocietyModel" "ahead" "LCombersSocietyModel$State;", Cond.fieldLink RX4 22 "CombersSocietyModel" "s" "LCombersSocietyModel$State;", Cond.methodLink RX4 59 yX4_isMember, Cond.instanceMethod yX4_isMember, Cond.selects RX4 yX4_isMember yX4_isMember, Cond.initialized RX4, Cond.code yX4_isMember cX4_isMember 2 (some .boolean), Cond.methodLink RX4 35 yX4_isIn, Cond.static yX4_isIn, Cond.code yX4_isIn cX4_isIn 3 (some .boolean), Cond.methodLink RX4 47 yX4_no, Cond.instanceMethod yX4_no, Cond.selects RX4 yX4_no yX4_no, Cond.code yX4_no cX4_no 2 (some .int), Cond.methodLink RX4 63 yX4_isDead, Cond.instanceMethod yX4_isDead, Cond.selects RX4 yX4_isDead yX4_isDead, Cond.code yX4_isDead cX4_isDead 2 (some .boolean), Cond.methodLink RX4 39 yX3_of, Cond.instanceMethod yX3_of, Cond.selects RX3 yX3_of yX3_of, Cond.initialized RX3, Cond.code yX3_of cX3_of 3 (some .int)]
def wsX4_advise_r2 : List Cond := [Cond.fieldLink RX3 29 "CombersSocietyModel$State" "rows" "[I", Cond.methodLink RX4 66 yX4_others, Cond.instanceMethod yX4_others, Cond.selects RX4 yX4_others yX4_others, Cond.code yX4_others cX4_others 3 (some .int), Cond.methodLink RX4 43 yX3_there, Cond.instanceMethod yX3_there, Cond.selects RX3 yX3_there yX3_there, Cond.code yX3_there cX3_there 4 (some .int), Cond.fieldLink RX3 35 "CombersSocietyModel$State" "members" "I", Cond.methodLink RX3 57 yX3_of, Cond.methodLink RX4 88 yX3_become, Cond.instanceMethod yX3_become, Cond.selects RX3 yX3_become yX3_become, Cond.code yX3_become cX3_become 2 none, Cond.fieldLink RX3 32 "CombersSocietyModel$State" "week" "I", Cond.fieldLink RX3 15 "CombersSocietyModel$State" "box" "I", Cond.fieldLink RX3 19 "CombersSocietyModel$State" "coals" "I", Cond.fieldLink RX3 22 "CombersSocietyModel$State" "wool" "I", Cond.fieldLink RX3 38 "CombersSocietyModel$State" "tops" "I", Cond.fieldLink RX3 41 "CombersSocietyModel$State" "nursed" "I", Cond.fieldLink RX3 44 "CombersSocietyModel$State" "buried" "I", Cond.fieldLink RX3 47 "CombersSocietyModel$State" "isShort" "Z", Cond.fieldLink RX3 25 "CombersSocietyModel$State" "heat" "[I"]
def wsX4_advise_r3 : List Cond := [Cond.methodLink RX3 51 arraycopyName, Cond.native arraycopyName, Cond.static arraycopyName, Cond.initialized "java/lang/System", Cond.methodLink RX4 69 yX3_set, Cond.instanceMethod yX3_set, Cond.selects RX3 yX3_set yX3_set, Cond.code yX3_set cX3_set 4 none, Cond.methodLink RX4 132 yX3_pass, Cond.instanceMethod yX3_pass, Cond.selects RX3 yX3_pass yX3_pass, Cond.code yX3_pass cX3_pass 3 none, Cond.methodLink RX3 100 yX3_fire, Cond.instanceMethod yX3_fire, Cond.selects RX3 yX3_fire yX3_fire, Cond.code yX3_fire cX3_fire 3 none, Cond.methodLink RX3 69 Lib.Math.min.name, Cond.static Lib.Math.min.name, Cond.initialized "java/lang/Math", Cond.code Lib.Math.min.name Lib.Math.min.code 2 (some .int), Cond.methodLink RX3 74 Lib.Math.max.name, Cond.static Lib.Math.max.name, Cond.code Lib.Math.max.name Lib.Math.max.code 2 (some .int), Cond.methodLink RX3 65 yX3_combers]
def wsX4_advise_r4 : List Cond := [Cond.instanceMethod yX3_combers, Cond.selects RX3 yX3_combers yX3_combers, Cond.code yX3_combers cX3_combers 4 (some .int), Cond.methodLink RX3 61 yX3_combs, Cond.instanceMethod yX3_combs, Cond.selects RX3 yX3_combs yX3_combs, Cond.code yX3_combs cX3_combs 2 (some .boolean), Cond.methodLink RX3 103 yX3_comb, Cond.instanceMethod yX3_comb, Cond.selects RX3 yX3_comb yX3_comb, Cond.code yX3_comb cX3_comb 3 none, Cond.methodLink RX3 77 yX3_pounds, Cond.instanceMethod yX3_pounds, Cond.selects RX3 yX3_pounds yX3_pounds, Cond.code yX3_pounds cX3_pounds 3 (some .int), Cond.methodLink RX3 80 yX3_set, Cond.methodLink RX3 106 yX3_fever, Cond.instanceMethod yX3_fever, Cond.selects RX3 yX3_fever yX3_fever, Cond.code yX3_fever cX3_fever 3 none, Cond.fieldLink RX3 3 "CombersSocietyModel$State" "this$0" "LCombersSocietyModel;", Cond.methodLink RX3 109 yX3_nurse, Cond.instanceMethod yX3_nurse, Cond.selects RX3 yX3_nurse yX3_nurse]
def wsX4_advise_r5 : List Cond := [Cond.code yX3_nurse cX3_nurse 3 none, Cond.methodLink RX3 87 yX3_heal, Cond.instanceMethod yX3_heal, Cond.selects RX3 yX3_heal yX3_heal, Cond.code yX3_heal cX3_heal 3 none, Cond.methodLink RX3 91 yX3_pay, Cond.instanceMethod yX3_pay, Cond.selects RX3 yX3_pay yX3_pay, Cond.code yX3_pay cX3_pay 3 (some .int), Cond.methodLink RX3 113 yX3_payDues, Cond.instanceMethod yX3_payDues, Cond.selects RX3 yX3_payDues yX3_payDues, Cond.code yX3_payDues cX3_payDues 3 none, Cond.methodLink RX3 116 yX3_drink, Cond.instanceMethod yX3_drink, Cond.selects RX3 yX3_drink yX3_drink, Cond.code yX3_drink cX3_drink 2 none, Cond.methodLink RX3 97 yX3_settle, Cond.instanceMethod yX3_settle, Cond.selects RX3 yX3_settle yX3_settle, Cond.code yX3_settle cX3_settle 3 (some .int), Cond.methodLink RX3 119 yX3_bury, Cond.instanceMethod yX3_bury, Cond.selects RX3 yX3_bury yX3_bury]
def wsX4_advise_r6 : List Cond := [Cond.code yX3_bury cX3_bury 3 none]
def wsX4_advise : List Cond := .code yX4_advise cX4_advise 6 (some .int) :: ((wsX4_advise_r1 ++ (wsX4_advise_r2 ++ (wsX4_advise_r3 ++ (wsX4_advise_r4 ++ (wsX4_advise_r5 ++ wsX4_advise_r6))))) ++ wsX40 ++ wsX30)
def wsX4_mean : List Cond := .code yX4_mean cX4_mean 2 (some .double) :: ([.fieldLink RX4 29 "CombersSocietyModel" "thrown" "I", .fieldLink RX4 22 "CombersSocietyModel" "s" "LCombersSocietyModel$State;", .methodLink RX4 116 yX3_many, .instanceMethod yX3_many, .selects RX3 yX3_many yX3_many, .initialized RX3, .code yX3_many cX3_many 4 (some .int), .fieldLink RX3 35 "CombersSocietyModel$State" "members" "I", .methodLink RX3 57 yX3_of, .instanceMethod yX3_of, .selects RX3 yX3_of yX3_of, .code yX3_of cX3_of 3 (some .int), .fieldLink RX3 29 "CombersSocietyModel$State" "rows" "[I", .methodLink RX4 119 yX3_all, .instanceMethod yX3_all, .selects RX3 yX3_all yX3_all, .code yX3_all cX3_all 4 (some .int)] ++ wsX40 ++ wsX30)
def wsX4_digest_r1 : List Cond := [Cond.fieldLink RX4 29 "CombersSocietyModel" "thrown" "I", Cond.constantLong RX4 142 (1361), Cond.constantLong RX4 144 (31), Cond.fieldLink RX4 22 "CombersSocietyModel" "s" "LCombersSocietyModel$State;", Cond.fieldLink RX4 7 "CombersSocietyModel" "dues" "I", Cond.fieldLink RX4 13 "CombersSocietyModel" "fevers" "[I", Cond.methodLink RX4 128 yX4_counted, Cond.static yX4_counted, Cond.initialized RX4, Cond.code yX4_counted cX4_counted 2 (some .int), Cond.methodLink RX4 116 yX3_many, Cond.instanceMethod yX3_many, Cond.selects RX3 yX3_many yX3_many, Cond.initialized RX3, Cond.code yX3_many cX3_many 4 (some .int), Cond.fieldLink RX3 35 "CombersSocietyModel$State" "members" "I", Cond.methodLink RX3 57 yX3_of, Cond.instanceMethod yX3_of, Cond.selects RX3 yX3_of yX3_of, Cond.code yX3_of cX3_of 3 (some .int), Cond.fieldLink RX3 29 "CombersSocietyModel$State" "rows" "[I", Cond.methodLink RX4 119 yX3_all, Cond.instanceMethod yX3_all, Cond.selects RX3 yX3_all yX3_all]
def wsX4_digest_r2 : List Cond := [Cond.code yX3_all cX3_all 4 (some .int), Cond.methodLink RX4 110 yX4_potTold, Cond.instanceMethod yX4_potTold, Cond.selects RX4 yX4_potTold yX4_potTold, Cond.code yX4_potTold cX4_potTold 3 (some .int), Cond.methodLink RX4 43 yX3_there, Cond.instanceMethod yX3_there, Cond.selects RX3 yX3_there yX3_there, Cond.code yX3_there cX3_there 4 (some .int), Cond.methodLink RX4 104 yX3_combers, Cond.instanceMethod yX3_combers, Cond.selects RX3 yX3_combers yX3_combers, Cond.code yX3_combers cX3_combers 4 (some .int), Cond.methodLink RX3 61 yX3_combs, Cond.instanceMethod yX3_combs, Cond.selects RX3 yX3_combs yX3_combs, Cond.code yX3_combs cX3_combs 2 (some .boolean), Cond.methodLink RX4 107 yX4_combed, Cond.instanceMethod yX4_combed, Cond.selects RX4 yX4_combed yX4_combed, Cond.code yX4_combed cX4_combed 4 (some .int), Cond.fieldLink RX4 26 "CombersSocietyModel" "ahead" "LCombersSocietyModel$State;", Cond.methodLink RX4 88 yX3_become, Cond.instanceMethod yX3_become]
def wsX4_digest_r3 : List Cond := [Cond.selects RX3 yX3_become yX3_become, Cond.code yX3_become cX3_become 2 none, Cond.fieldLink RX3 32 "CombersSocietyModel$State" "week" "I", Cond.fieldLink RX3 15 "CombersSocietyModel$State" "box" "I", Cond.fieldLink RX3 19 "CombersSocietyModel$State" "coals" "I", Cond.fieldLink RX3 22 "CombersSocietyModel$State" "wool" "I", Cond.fieldLink RX3 38 "CombersSocietyModel$State" "tops" "I", Cond.fieldLink RX3 41 "CombersSocietyModel$State" "nursed" "I", Cond.fieldLink RX3 44 "CombersSocietyModel$State" "buried" "I", Cond.fieldLink RX3 47 "CombersSocietyModel$State" "isShort" "Z", Cond.fieldLink RX3 25 "CombersSocietyModel$State" "heat" "[I", Cond.methodLink RX3 51 arraycopyName, Cond.native arraycopyName, Cond.static arraycopyName, Cond.initialized "java/lang/System", Cond.methodLink RX4 92 yX3_fire, Cond.instanceMethod yX3_fire, Cond.selects RX3 yX3_fire yX3_fire, Cond.code yX3_fire cX3_fire 3 none, Cond.methodLink RX3 69 Lib.Math.min.name, Cond.static Lib.Math.min.name, Cond.initialized "java/lang/Math", Cond.code Lib.Math.min.name Lib.Math.min.code 2 (some .int), Cond.methodLink RX3 74 Lib.Math.max.name]
def wsX4_digest_r4 : List Cond := [Cond.static Lib.Math.max.name, Cond.code Lib.Math.max.name Lib.Math.max.code 2 (some .int), Cond.methodLink RX3 65 yX3_combers, Cond.methodLink RX4 95 yX3_combs, Cond.methodLink RX4 39 yX3_of, Cond.methodLink RX4 98 yX3_pounds, Cond.instanceMethod yX3_pounds, Cond.selects RX3 yX3_pounds yX3_pounds, Cond.code yX3_pounds cX3_pounds 3 (some .int)]
def wsX4_digest : List Cond := .code yX4_digest cX4_digest 7 (some .long) :: ((wsX4_digest_r1 ++ (wsX4_digest_r2 ++ (wsX4_digest_r3 ++ wsX4_digest_r4))) ++ wsX40 ++ wsX30)
def wsJ9_max_7cf53 : List Cond := .code yJ9_max_7cf53 cJ9_max_7cf53 2 (some .int) :: ([])
def wsJ9_min_7cf53 : List Cond := .code yJ9_min_7cf53 cJ9_min_7cf53 2 (some .int) :: ([])
def wsL_join_r1 : List Cond := [Cond.classLink RL 13 "java/lang/IllegalArgumentException", Cond.classLink RL 15 "java/lang/IllegalStateException", Cond.methodLink RL 7 yX2_join, Cond.instanceMethod yX2_join, Cond.selects RX2 yX2_join yX2_join, Cond.initialized RX2, Cond.code yX2_join cX2_join 4 (some .int), Cond.classLink RX2 23 "java/lang/IllegalArgumentException", Cond.initialized "java/lang/IllegalArgumentException", Cond.classLink RX2 34 "java/lang/IllegalStateException", Cond.initialized "java/lang/IllegalStateException", Cond.fieldLink RX2 10 "CombersSociety" "now" "LCombersSociety$Society;", Cond.fieldLink RX2 30 "CombersSociety$Society" "joined" "I", Cond.fieldLink RX2 39 "CombersSociety$Society" "members" "[LCombersSociety$Member;", Cond.methodLink RX2 19 yX2_isOutside, Cond.static yX2_isOutside, Cond.code yX2_isOutside cX2_isOutside 3 (some .boolean), Cond.methodLink RX2 43 yX0_enter, Cond.instanceMethod yX0_enter, Cond.selects RX0 yX0_enter yX0_enter, Cond.initialized RX0, Cond.code yX0_enter cX0_enter 3 none, Cond.fieldLink RX0 18 "CombersSociety$Member" "skill" "I", Cond.fieldLink RX0 21 "CombersSociety$Member" "strength" "I"]
def wsL_join_r2 : List Cond := [Cond.fieldLink RX0 24 "CombersSociety$Member" "coins" "I", Cond.fieldLink RX0 15 "CombersSociety$Member" "health" "I"]
def wsL_join : List Cond := .codeWith yL_join cL_join 5 (some .int) [(0, 10, 13, 13), (0, 10, 17, 15)] :: ((wsL_join_r1 ++ wsL_join_r2) ++ wsX20 ++ wsX10 ++ wsX00 ++ (vx_atS RX2 27 "java/lang/IllegalArgumentException" ["java/lang/RuntimeException", "java/lang/Exception"]).filter goodWord ++ (vx_atS RX2 38 "java/lang/IllegalStateException" ["java/lang/RuntimeException", "java/lang/Exception"]).filter goodWord)
def wsL_place_r1 : List Cond := [Cond.classLink RL 20 "java/lang/IndexOutOfBoundsException", Cond.classLink RL 15 "java/lang/IllegalStateException", Cond.methodLink RL 17 yX2_place, Cond.instanceMethod yX2_place, Cond.selects RX2 yX2_place yX2_place, Cond.initialized RX2, Cond.code yX2_place cX2_place 5 (some .int), Cond.classLink RX2 53 "java/lang/IndexOutOfBoundsException", Cond.initialized "java/lang/IndexOutOfBoundsException", Cond.classLink RX2 34 "java/lang/IllegalStateException", Cond.initialized "java/lang/IllegalStateException", Cond.fieldLink RX2 10 "CombersSociety" "now" "LCombersSociety$Society;", Cond.fieldLink RX2 39 "CombersSociety$Society" "members" "[LCombersSociety$Member;", Cond.fieldLink RX2 58 "CombersSociety$Member" "health" "I", Cond.fieldLink RX2 67 "CombersSociety$Member" "pot" "I", Cond.methodLink RX2 49 yX1_hasMember, Cond.instanceMethod yX1_hasMember, Cond.selects RX1 yX1_hasMember yX1_hasMember, Cond.initialized RX1, Cond.code yX1_hasMember cX1_hasMember 2 (some .boolean), Cond.fieldLink RX1 36 "CombersSociety$Society" "members" "[LCombersSociety$Member;", Cond.fieldLink RX1 60 "CombersSociety$Member" "health" "I", Cond.methodLink RX2 19 yX2_isOutside, Cond.static yX2_isOutside]
def wsL_place_r2 : List Cond := [Cond.code yX2_isOutside cX2_isOutside 3 (some .boolean), Cond.methodLink RX2 61 yX1_hasRoom, Cond.instanceMethod yX1_hasRoom, Cond.selects RX1 yX1_hasRoom yX1_hasRoom, Cond.code yX1_hasRoom cX1_hasRoom 4 (some .boolean), Cond.fieldLink RX1 63 "CombersSociety$Member" "pot" "I", Cond.methodLink RX1 66 yX1_atPot, Cond.instanceMethod yX1_atPot, Cond.selects RX1 yX1_atPot yX1_atPot, Cond.code yX1_atPot cX1_atPot 7 (some .int), Cond.methodLink RX1 70 yX0_lives, Cond.instanceMethod yX0_lives, Cond.selects RX0 yX0_lives yX0_lives, Cond.initialized RX0, Cond.code yX0_lives cX0_lives 1 (some .boolean), Cond.fieldLink RX0 15 "CombersSociety$Member" "health" "I"]
def wsL_place : List Cond := .codeWith yL_place cL_place 5 (some .int) [(0, 10, 13, 20), (0, 10, 17, 15)] :: ((wsL_place_r1 ++ wsL_place_r2) ++ wsX20 ++ wsX10 ++ wsX00 ++ (vx_atS RX2 57 "java/lang/IndexOutOfBoundsException" ["java/lang/RuntimeException", "java/lang/Exception"]).filter goodWord ++ (vx_atS RX2 38 "java/lang/IllegalStateException" ["java/lang/RuntimeException", "java/lang/Exception"]).filter goodWord)
def wsL_give_r1 : List Cond := [Cond.classLink RL 20 "java/lang/IndexOutOfBoundsException", Cond.classLink RL 13 "java/lang/IllegalArgumentException", Cond.classLink RL 15 "java/lang/IllegalStateException", Cond.methodLink RL 22 yX2_give, Cond.instanceMethod yX2_give, Cond.selects RX2 yX2_give yX2_give, Cond.initialized RX2, Cond.code yX2_give cX2_give 6 (some .int), Cond.classLink RX2 53 "java/lang/IndexOutOfBoundsException", Cond.initialized "java/lang/IndexOutOfBoundsException", Cond.classLink RX2 23 "java/lang/IllegalArgumentException", Cond.initialized "java/lang/IllegalArgumentException", Cond.classLink RX2 34 "java/lang/IllegalStateException", Cond.initialized "java/lang/IllegalStateException", Cond.fieldLink RX2 10 "CombersSociety" "now" "LCombersSociety$Society;", Cond.fieldLink RX2 39 "CombersSociety$Society" "members" "[LCombersSociety$Member;", Cond.fieldLink RX2 58 "CombersSociety$Member" "health" "I", Cond.fieldLink RX2 74 "CombersSociety$Member" "coins" "I", Cond.methodLink RX2 49 yX1_hasMember, Cond.instanceMethod yX1_hasMember, Cond.selects RX1 yX1_hasMember yX1_hasMember, Cond.initialized RX1, Cond.code yX1_hasMember cX1_hasMember 2 (some .boolean), Cond.fieldLink RX1 36 "CombersSociety$Society" "members" "[LCombersSociety$Member;"]
def wsL_give_r2 : List Cond := [Cond.fieldLink RX1 60 "CombersSociety$Member" "health" "I", Cond.methodLink RX2 19 yX2_isOutside, Cond.static yX2_isOutside, Cond.code yX2_isOutside cX2_isOutside 3 (some .boolean)]
def wsL_give : List Cond := .codeWith yL_give cL_give 6 (some .int) [(0, 12, 15, 20), (0, 12, 19, 13), (0, 12, 23, 15)] :: ((wsL_give_r1 ++ wsL_give_r2) ++ wsX20 ++ wsX10 ++ wsX00 ++ (vx_atS RX2 57 "java/lang/IndexOutOfBoundsException" ["java/lang/RuntimeException", "java/lang/Exception"]).filter goodWord ++ (vx_atS RX2 27 "java/lang/IllegalArgumentException" ["java/lang/RuntimeException", "java/lang/Exception"]).filter goodWord ++ (vx_atS RX2 38 "java/lang/IllegalStateException" ["java/lang/RuntimeException", "java/lang/Exception"]).filter goodWord)
def wsL_settle_r1 : List Cond := [Cond.classLink RL 20 "java/lang/IndexOutOfBoundsException", Cond.classLink RL 15 "java/lang/IllegalStateException", Cond.methodLink RL 26 yX2_settle, Cond.instanceMethod yX2_settle, Cond.selects RX2 yX2_settle yX2_settle, Cond.initialized RX2, Cond.code yX2_settle cX2_settle 3 (some .int), Cond.classLink RX2 53 "java/lang/IndexOutOfBoundsException", Cond.initialized "java/lang/IndexOutOfBoundsException", Cond.classLink RX2 34 "java/lang/IllegalStateException", Cond.initialized "java/lang/IllegalStateException", Cond.fieldLink RX2 10 "CombersSociety" "now" "LCombersSociety$Society;", Cond.fieldLink RX2 39 "CombersSociety$Society" "members" "[LCombersSociety$Member;", Cond.fieldLink RX2 58 "CombersSociety$Member" "health" "I", Cond.fieldLink RX2 80 "CombersSociety$Society" "box" "I", Cond.fieldLink RX2 87 "CombersSociety$Member" "marks" "I", Cond.methodLink RX2 49 yX1_hasMember, Cond.instanceMethod yX1_hasMember, Cond.selects RX1 yX1_hasMember yX1_hasMember, Cond.initialized RX1, Cond.code yX1_hasMember cX1_hasMember 2 (some .boolean), Cond.fieldLink RX1 36 "CombersSociety$Society" "members" "[LCombersSociety$Member;", Cond.fieldLink RX1 60 "CombersSociety$Member" "health" "I", Cond.methodLink RX2 83 yX0_payMarks]
def wsL_settle_r2 : List Cond := [Cond.instanceMethod yX0_payMarks, Cond.selects RX0 yX0_payMarks yX0_payMarks, Cond.initialized RX0, Cond.code yX0_payMarks cX0_payMarks 2 (some .int), Cond.fieldLink RX0 27 "CombersSociety$Member" "marks" "I", Cond.fieldLink RX0 24 "CombersSociety$Member" "coins" "I", Cond.methodLink RX0 43 Lib.Math.min.name, Cond.static Lib.Math.min.name, Cond.initialized "java/lang/Math", Cond.code Lib.Math.min.name Lib.Math.min.code 2 (some .int)]
def wsL_settle : List Cond := .codeWith yL_settle cL_settle 4 (some .int) [(0, 9, 12, 20), (0, 9, 15, 15)] :: ((wsL_settle_r1 ++ wsL_settle_r2) ++ wsX20 ++ wsX10 ++ wsX00 ++ (vx_atS RX2 57 "java/lang/IndexOutOfBoundsException" ["java/lang/RuntimeException", "java/lang/Exception"]).filter goodWord ++ (vx_atS RX2 38 "java/lang/IllegalStateException" ["java/lang/RuntimeException", "java/lang/Exception"]).filter goodWord)
def wsL_told_r1 : List Cond := [Cond.classLink RL 20 "java/lang/IndexOutOfBoundsException", Cond.methodLink RL 30 yX2_told, Cond.instanceMethod yX2_told, Cond.selects RX2 yX2_told yX2_told, Cond.initialized RX2, Cond.code yX2_told cX2_told 3 (some .int), Cond.classLink RX2 53 "java/lang/IndexOutOfBoundsException", Cond.initialized "java/lang/IndexOutOfBoundsException", Cond.fieldLink RX2 10 "CombersSociety" "now" "LCombersSociety$Society;", Cond.fieldLink RX2 39 "CombersSociety$Society" "members" "[LCombersSociety$Member;", Cond.methodLink RX2 49 yX1_hasMember, Cond.instanceMethod yX1_hasMember, Cond.selects RX1 yX1_hasMember yX1_hasMember, Cond.initialized RX1, Cond.code yX1_hasMember cX1_hasMember 2 (some .boolean), Cond.fieldLink RX1 36 "CombersSociety$Society" "members" "[LCombersSociety$Member;", Cond.fieldLink RX1 60 "CombersSociety$Member" "health" "I", Cond.methodLink RX2 19 yX2_isOutside, Cond.static yX2_isOutside, Cond.code yX2_isOutside cX2_isOutside 3 (some .boolean), Cond.methodLink RX2 92 yX0_fact, Cond.instanceMethod yX0_fact, Cond.selects RX0 yX0_fact yX0_fact, Cond.initialized RX0]
def wsL_told_r2 : List Cond := [Cond.code yX0_fact cX0_fact 2 (some .int), Cond.fieldLink RX0 18 "CombersSociety$Member" "skill" "I", Cond.fieldLink RX0 21 "CombersSociety$Member" "strength" "I", Cond.fieldLink RX0 24 "CombersSociety$Member" "coins" "I", Cond.fieldLink RX0 27 "CombersSociety$Member" "marks" "I", Cond.fieldLink RX0 30 "CombersSociety$Member" "unpaid" "I", Cond.fieldLink RX0 9 "CombersSociety$Member" "pot" "I", Cond.fieldLink RX0 15 "CombersSociety$Member" "health" "I", Cond.fieldLink RX0 33 "CombersSociety$Member" "weeksLeft" "I", Cond.fieldLink RX0 36 "CombersSociety$Member" "weeksSick" "I"]
def wsL_told : List Cond := .codeWith yL_told cL_told 5 (some .int) [(0, 10, 13, 20)] :: ((wsL_told_r1 ++ wsL_told_r2) ++ wsX20 ++ wsX10 ++ wsX00 ++ (vx_atS RX2 57 "java/lang/IndexOutOfBoundsException" ["java/lang/RuntimeException", "java/lang/Exception"]).filter goodWord)
def wsL_setFever : List Cond := .codeWith yL_setFever cL_setFever 5 (some .int) [(0, 10, 13, 20), (0, 10, 17, 13)] :: ([.classLink RL 20 "java/lang/IndexOutOfBoundsException", .classLink RL 13 "java/lang/IllegalArgumentException", .methodLink RL 33 yX2_setFever, .instanceMethod yX2_setFever, .selects RX2 yX2_setFever yX2_setFever, .initialized RX2, .code yX2_setFever cX2_setFever 4 (some .int), .classLink RX2 53 "java/lang/IndexOutOfBoundsException", .initialized "java/lang/IndexOutOfBoundsException", .classLink RX2 23 "java/lang/IllegalArgumentException", .initialized "java/lang/IllegalArgumentException", .fieldLink RX2 10 "CombersSociety" "now" "LCombersSociety$Society;", .fieldLink RX2 99 "CombersSociety$Society" "fevers" "[I", .methodLink RX2 19 yX2_isOutside, .static yX2_isOutside, .code yX2_isOutside cX2_isOutside 3 (some .boolean)] ++ wsX20 ++ wsX10 ++ (vx_atS RX2 57 "java/lang/IndexOutOfBoundsException" ["java/lang/RuntimeException", "java/lang/Exception"]).filter goodWord ++ (vx_atS RX2 27 "java/lang/IllegalArgumentException" ["java/lang/RuntimeException", "java/lang/Exception"]).filter goodWord)
def wsL_setDues : List Cond := .codeWith yL_setDues cL_setDues 4 (some .int) [(0, 9, 12, 13)] :: ([.classLink RL 13 "java/lang/IllegalArgumentException", .methodLink RL 36 yX2_setDues, .instanceMethod yX2_setDues, .selects RX2 yX2_setDues yX2_setDues, .initialized RX2, .code yX2_setDues cX2_setDues 3 (some .int), .classLink RX2 23 "java/lang/IllegalArgumentException", .initialized "java/lang/IllegalArgumentException", .fieldLink RX2 10 "CombersSociety" "now" "LCombersSociety$Society;", .fieldLink RX2 105 "CombersSociety$Society" "dues" "I", .methodLink RX2 19 yX2_isOutside, .static yX2_isOutside, .code yX2_isOutside cX2_isOutside 3 (some .boolean)] ++ wsX20 ++ wsX10 ++ (vx_atS RX2 27 "java/lang/IllegalArgumentException" ["java/lang/RuntimeException", "java/lang/Exception"]).filter goodWord)
def wsL_buy : List Cond := .codeWith yL_buy cL_buy 5 (some .int) [(0, 10, 13, 20), (0, 10, 17, 13), (0, 10, 21, 15)] :: ([.classLink RL 20 "java/lang/IndexOutOfBoundsException", .classLink RL 13 "java/lang/IllegalArgumentException", .classLink RL 15 "java/lang/IllegalStateException", .methodLink RL 39 yX2_buy, .instanceMethod yX2_buy, .selects RX2 yX2_buy yX2_buy, .initialized RX2, .code yX2_buy cX2_buy 4 (some .int), .classLink RX2 53 "java/lang/IndexOutOfBoundsException", .initialized "java/lang/IndexOutOfBoundsException", .classLink RX2 23 "java/lang/IllegalArgumentException", .initialized "java/lang/IllegalArgumentException", .classLink RX2 34 "java/lang/IllegalStateException", .initialized "java/lang/IllegalStateException", .fieldLink RX2 10 "CombersSociety" "now" "LCombersSociety$Society;", .fieldLink RX2 80 "CombersSociety$Society" "box" "I", .fieldLink RX2 113 "CombersSociety$Society" "coals" "I", .fieldLink RX2 116 "CombersSociety$Society" "wool" "I", .methodLink RX2 19 yX2_isOutside, .static yX2_isOutside, .code yX2_isOutside cX2_isOutside 3 (some .boolean)] ++ wsX20 ++ wsX10 ++ (vx_atS RX2 57 "java/lang/IndexOutOfBoundsException" ["java/lang/RuntimeException", "java/lang/Exception"]).filter goodWord ++ (vx_atS RX2 27 "java/lang/IllegalArgumentException" ["java/lang/RuntimeException", "java/lang/Exception"]).filter goodWord ++ (vx_atS RX2 38 "java/lang/IllegalStateException" ["java/lang/RuntimeException", "java/lang/Exception"]).filter goodWord)
def wsL_sell : List Cond := .codeWith yL_sell cL_sell 4 (some .int) [(0, 9, 12, 13), (0, 9, 15, 15)] :: ([.classLink RL 13 "java/lang/IllegalArgumentException", .classLink RL 15 "java/lang/IllegalStateException", .methodLink RL 42 yX2_sell, .instanceMethod yX2_sell, .selects RX2 yX2_sell yX2_sell, .initialized RX2, .code yX2_sell cX2_sell 2 (some .int), .classLink RX2 23 "java/lang/IllegalArgumentException", .initialized "java/lang/IllegalArgumentException", .classLink RX2 34 "java/lang/IllegalStateException", .initialized "java/lang/IllegalStateException", .fieldLink RX2 10 "CombersSociety" "now" "LCombersSociety$Society;", .fieldLink RX2 121 "CombersSociety$Society" "tops" "I", .fieldLink RX2 80 "CombersSociety$Society" "box" "I", .methodLink RX2 19 yX2_isOutside, .static yX2_isOutside, .code yX2_isOutside cX2_isOutside 3 (some .boolean)] ++ wsX20 ++ wsX10 ++ (vx_atS RX2 27 "java/lang/IllegalArgumentException" ["java/lang/RuntimeException", "java/lang/Exception"]).filter goodWord ++ (vx_atS RX2 38 "java/lang/IllegalStateException" ["java/lang/RuntimeException", "java/lang/Exception"]).filter goodWord)
def wsL_pot_r1 : List Cond := [Cond.classLink RL 20 "java/lang/IndexOutOfBoundsException", Cond.methodLink RL 45 yX2_pot, Cond.instanceMethod yX2_pot, Cond.selects RX2 yX2_pot yX2_pot, Cond.initialized RX2, Cond.code yX2_pot cX2_pot 3 (some .int), Cond.classLink RX2 53 "java/lang/IndexOutOfBoundsException", Cond.initialized "java/lang/IndexOutOfBoundsException", Cond.methodLink RX2 19 yX2_isOutside, Cond.static yX2_isOutside, Cond.code yX2_isOutside cX2_isOutside 3 (some .boolean), Cond.methodLink RX2 128 yX2_potFact, Cond.instanceMethod yX2_potFact, Cond.selects RX2 yX2_potFact yX2_potFact, Cond.code yX2_potFact cX2_potFact 3 (some .int), Cond.fieldLink RX2 10 "CombersSociety" "now" "LCombersSociety$Society;", Cond.fieldLink RX2 16 "CombersSociety" "trial" "LCombersSociety$Society;", Cond.methodLink RX2 168 yX1_heatOf, Cond.instanceMethod yX1_heatOf, Cond.selects RX1 yX1_heatOf yX1_heatOf, Cond.initialized RX1, Cond.code yX1_heatOf cX1_heatOf 2 (some .int), Cond.fieldLink RX1 28 "CombersSociety$Society" "heats" "[I", Cond.methodLink RX2 171 yX1_atPot]
def wsL_pot_r2 : List Cond := [Cond.instanceMethod yX1_atPot, Cond.selects RX1 yX1_atPot yX1_atPot, Cond.code yX1_atPot cX1_atPot 7 (some .int), Cond.fieldLink RX1 36 "CombersSociety$Society" "members" "[LCombersSociety$Member;", Cond.fieldLink RX1 63 "CombersSociety$Member" "pot" "I", Cond.methodLink RX1 70 yX0_lives, Cond.instanceMethod yX0_lives, Cond.selects RX0 yX0_lives yX0_lives, Cond.initialized RX0, Cond.code yX0_lives cX0_lives 1 (some .boolean), Cond.fieldLink RX0 15 "CombersSociety$Member" "health" "I", Cond.methodLink RX2 174 yX1_combersAt, Cond.instanceMethod yX1_combersAt, Cond.selects RX1 yX1_combersAt yX1_combersAt, Cond.code yX1_combersAt cX1_combersAt 2 (some .int), Cond.fieldLink RX1 31 "CombersSociety$Society" "combing" "[I", Cond.methodLink RX1 74 yX1_countCombers, Cond.instanceMethod yX1_countCombers, Cond.selects RX1 yX1_countCombers yX1_countCombers, Cond.code yX1_countCombers cX1_countCombers 5 none, Cond.methodLink RX1 77 yX0_combs, Cond.instanceMethod yX0_combs, Cond.selects RX0 yX0_combs yX0_combs, Cond.code yX0_combs cX0_combs 1 (some .boolean)]
def wsL_pot_r3 : List Cond := [Cond.fieldLink RX0 9 "CombersSociety$Member" "pot" "I", Cond.methodLink RX2 141 yX1_copyFrom, Cond.instanceMethod yX1_copyFrom, Cond.selects RX1 yX1_copyFrom yX1_copyFrom, Cond.code yX1_copyFrom cX1_copyFrom 3 none, Cond.fieldLink RX1 41 "CombersSociety$Society" "week" "I", Cond.fieldLink RX1 44 "CombersSociety$Society" "joined" "I", Cond.fieldLink RX1 9 "CombersSociety$Society" "box" "I", Cond.fieldLink RX1 15 "CombersSociety$Society" "coals" "I", Cond.fieldLink RX1 18 "CombersSociety$Society" "wool" "I", Cond.fieldLink RX1 47 "CombersSociety$Society" "tops" "I", Cond.fieldLink RX1 21 "CombersSociety$Society" "dues" "I", Cond.fieldLink RX1 50 "CombersSociety$Society" "sickPaid" "I", Cond.fieldLink RX1 53 "CombersSociety$Society" "funeralsPaid" "I", Cond.fieldLink RX1 24 "CombersSociety$Society" "fevers" "[I", Cond.methodLink RX1 56 yX0_copyFrom, Cond.instanceMethod yX0_copyFrom, Cond.selects RX0 yX0_copyFrom yX0_copyFrom, Cond.code yX0_copyFrom cX0_copyFrom 2 none, Cond.fieldLink RX0 18 "CombersSociety$Member" "skill" "I", Cond.fieldLink RX0 21 "CombersSociety$Member" "strength" "I", Cond.fieldLink RX0 24 "CombersSociety$Member" "coins" "I", Cond.fieldLink RX0 27 "CombersSociety$Member" "marks" "I", Cond.fieldLink RX0 30 "CombersSociety$Member" "unpaid" "I"]
def wsL_pot_r4 : List Cond := [Cond.fieldLink RX0 33 "CombersSociety$Member" "weeksLeft" "I", Cond.fieldLink RX0 36 "CombersSociety$Member" "weeksSick" "I", Cond.fieldLink RX0 39 "CombersSociety$Member" "unburied" "Z", Cond.methodLink RX2 145 yX1_lightFires, Cond.instanceMethod yX1_lightFires, Cond.selects RX1 yX1_lightFires yX1_lightFires, Cond.code yX1_lightFires cX1_lightFires 2 none, Cond.methodLink RX1 130 Lib.Math.min.name, Cond.static Lib.Math.min.name, Cond.initialized "java/lang/Math", Cond.code Lib.Math.min.name Lib.Math.min.code 2 (some .int), Cond.methodLink RX1 133 Lib.Math.max.name, Cond.static Lib.Math.max.name, Cond.code Lib.Math.max.name Lib.Math.max.code 2 (some .int), Cond.methodLink RX2 177 yX1_poundsOfPot, Cond.instanceMethod yX1_poundsOfPot, Cond.selects RX1 yX1_poundsOfPot yX1_poundsOfPot, Cond.code yX1_poundsOfPot cX1_poundsOfPot 7 (some .int), Cond.methodLink RX1 139 yX1_poundsOf, Cond.instanceMethod yX1_poundsOf, Cond.selects RX1 yX1_poundsOf yX1_poundsOf, Cond.code yX1_poundsOf cX1_poundsOf 3 (some .int), Cond.fieldLink RX1 136 "CombersSociety$Member" "skill" "I"]
def wsL_pot : List Cond := .codeWith yL_pot cL_pot 5 (some .int) [(0, 10, 13, 20)] :: ((wsL_pot_r1 ++ (wsL_pot_r2 ++ (wsL_pot_r3 ++ wsL_pot_r4))) ++ wsX20 ++ wsX10 ++ wsX00 ++ (vx_atS RX2 57 "java/lang/IndexOutOfBoundsException" ["java/lang/RuntimeException", "java/lang/Exception"]).filter goodWord)
def wsL_count_r1 : List Cond := [Cond.classLink RL 20 "java/lang/IndexOutOfBoundsException", Cond.methodLink RL 48 yX2_count, Cond.instanceMethod yX2_count, Cond.selects RX2 yX2_count yX2_count, Cond.initialized RX2, Cond.code yX2_count cX2_count 2 (some .int), Cond.classLink RX2 53 "java/lang/IndexOutOfBoundsException", Cond.initialized "java/lang/IndexOutOfBoundsException", Cond.fieldLink RX2 10 "CombersSociety" "now" "LCombersSociety$Society;", Cond.methodLink RX2 19 yX2_isOutside, Cond.static yX2_isOutside, Cond.code yX2_isOutside cX2_isOutside 3 (some .boolean), Cond.methodLink RX2 132 yX1_tally, Cond.instanceMethod yX1_tally, Cond.selects RX1 yX1_tally yX1_tally, Cond.initialized RX1, Cond.code yX1_tally cX1_tally 2 (some .int), Cond.fieldLink RX1 41 "CombersSociety$Society" "week" "I", Cond.fieldLink RX1 44 "CombersSociety$Society" "joined" "I", Cond.fieldLink RX1 9 "CombersSociety$Society" "box" "I", Cond.fieldLink RX1 15 "CombersSociety$Society" "coals" "I", Cond.fieldLink RX1 18 "CombersSociety$Society" "wool" "I", Cond.fieldLink RX1 47 "CombersSociety$Society" "tops" "I", Cond.fieldLink RX1 50 "CombersSociety$Society" "sickPaid" "I"]
def wsL_count_r2 : List Cond := [Cond.fieldLink RX1 53 "CombersSociety$Society" "funeralsPaid" "I", Cond.methodLink RX1 86 yX1_howMany, Cond.instanceMethod yX1_howMany, Cond.selects RX1 yX1_howMany yX1_howMany, Cond.code yX1_howMany cX1_howMany 7 (some .int), Cond.fieldLink RX1 36 "CombersSociety$Society" "members" "[LCombersSociety$Member;", Cond.fieldLink RX1 60 "CombersSociety$Member" "health" "I", Cond.methodLink RX1 89 yX1_coinsInPurses, Cond.instanceMethod yX1_coinsInPurses, Cond.selects RX1 yX1_coinsInPurses yX1_coinsInPurses, Cond.code yX1_coinsInPurses cX1_coinsInPurses 6 (some .int), Cond.fieldLink RX1 80 "CombersSociety$Member" "coins" "I", Cond.methodLink RX1 93 yX1_marksOfAll, Cond.instanceMethod yX1_marksOfAll, Cond.selects RX1 yX1_marksOfAll yX1_marksOfAll, Cond.code yX1_marksOfAll cX1_marksOfAll 6 (some .int), Cond.fieldLink RX1 83 "CombersSociety$Member" "marks" "I"]
def wsL_count : List Cond := .codeWith yL_count cL_count 4 (some .int) [(0, 9, 12, 20)] :: ((wsL_count_r1 ++ wsL_count_r2) ++ wsX20 ++ wsX10 ++ wsX00 ++ (vx_atS RX2 57 "java/lang/IndexOutOfBoundsException" ["java/lang/RuntimeException", "java/lang/Exception"]).filter goodWord)
def wsL_pass_r1 : List Cond := [Cond.classLink RL 13 "java/lang/IllegalArgumentException", Cond.methodLink RL 51 yX2_pass, Cond.instanceMethod yX2_pass, Cond.selects RX2 yX2_pass yX2_pass, Cond.initialized RX2, Cond.code yX2_pass cX2_pass 3 (some .int), Cond.classLink RX2 23 "java/lang/IllegalArgumentException", Cond.initialized "java/lang/IllegalArgumentException", Cond.fieldLink RX2 10 "CombersSociety" "now" "LCombersSociety$Society;", Cond.fieldLink RX2 80 "CombersSociety$Society" "box" "I", Cond.methodLink RX2 19 yX2_isOutside, Cond.static yX2_isOutside, Cond.code yX2_isOutside cX2_isOutside 3 (some .boolean), Cond.methodLink RX2 137 yX1_liveWeeks, Cond.instanceMethod yX1_liveWeeks, Cond.selects RX1 yX1_liveWeeks yX1_liveWeeks, Cond.initialized RX1, Cond.code yX1_liveWeeks cX1_liveWeeks 3 none, Cond.methodLink RX1 96 yX1_liveWeek, Cond.instanceMethod yX1_liveWeek, Cond.selects RX1 yX1_liveWeek yX1_liveWeek, Cond.code yX1_liveWeek cX1_liveWeek 1 none, Cond.fieldLink RX1 99 "CombersSociety$Society" "fellShort" "Z", Cond.fieldLink RX1 41 "CombersSociety$Society" "week" "I"]
def wsL_pass_r2 : List Cond := [Cond.methodLink RX1 103 yX1_lightFires, Cond.instanceMethod yX1_lightFires, Cond.selects RX1 yX1_lightFires yX1_lightFires, Cond.code yX1_lightFires cX1_lightFires 2 none, Cond.fieldLink RX1 31 "CombersSociety$Society" "combing" "[I", Cond.fieldLink RX1 15 "CombersSociety$Society" "coals" "I", Cond.fieldLink RX1 28 "CombersSociety$Society" "heats" "[I", Cond.methodLink RX1 130 Lib.Math.min.name, Cond.static Lib.Math.min.name, Cond.initialized "java/lang/Math", Cond.code Lib.Math.min.name Lib.Math.min.code 2 (some .int), Cond.methodLink RX1 133 Lib.Math.max.name, Cond.static Lib.Math.max.name, Cond.code Lib.Math.max.name Lib.Math.max.code 2 (some .int), Cond.methodLink RX1 74 yX1_countCombers, Cond.instanceMethod yX1_countCombers, Cond.selects RX1 yX1_countCombers yX1_countCombers, Cond.code yX1_countCombers cX1_countCombers 5 none, Cond.fieldLink RX1 36 "CombersSociety$Society" "members" "[LCombersSociety$Member;", Cond.fieldLink RX1 63 "CombersSociety$Member" "pot" "I", Cond.methodLink RX1 77 yX0_combs, Cond.instanceMethod yX0_combs, Cond.selects RX0 yX0_combs yX0_combs, Cond.initialized RX0]
def wsL_pass_r3 : List Cond := [Cond.code yX0_combs cX0_combs 1 (some .boolean), Cond.fieldLink RX0 15 "CombersSociety$Member" "health" "I", Cond.fieldLink RX0 9 "CombersSociety$Member" "pot" "I", Cond.methodLink RX1 106 yX1_combWool, Cond.instanceMethod yX1_combWool, Cond.selects RX1 yX1_combWool yX1_combWool, Cond.code yX1_combWool cX1_combWool 6 none, Cond.fieldLink RX1 18 "CombersSociety$Society" "wool" "I", Cond.fieldLink RX1 47 "CombersSociety$Society" "tops" "I", Cond.fieldLink RX1 80 "CombersSociety$Member" "coins" "I", Cond.methodLink RX1 139 yX1_poundsOf, Cond.instanceMethod yX1_poundsOf, Cond.selects RX1 yX1_poundsOf yX1_poundsOf, Cond.code yX1_poundsOf cX1_poundsOf 3 (some .int), Cond.fieldLink RX1 136 "CombersSociety$Member" "skill" "I", Cond.methodLink RX1 109 yX1_spreadFever, Cond.instanceMethod yX1_spreadFever, Cond.selects RX1 yX1_spreadFever yX1_spreadFever, Cond.code yX1_spreadFever cX1_spreadFever 6 none, Cond.fieldLink RX1 24 "CombersSociety$Society" "fevers" "[I", Cond.methodLink RX1 118 yJ9_floorMod_7cf53, Cond.static yJ9_floorMod_7cf53, Cond.initialized RJ9, Cond.code yJ9_floorMod_7cf53 cJ9_floorMod_7cf53 3 (some .int)]
def wsL_pass_r4 : List Cond := [Cond.methodLink RX1 143 yX0_fallSick, Cond.instanceMethod yX0_fallSick, Cond.selects RX0 yX0_fallSick yX0_fallSick, Cond.code yX0_fallSick cX0_fallSick 1 none, Cond.fieldLink RX0 21 "CombersSociety$Member" "strength" "I", Cond.fieldLink RX0 33 "CombersSociety$Member" "weeksLeft" "I", Cond.fieldLink RX0 36 "CombersSociety$Member" "weeksSick" "I", Cond.methodLink RX1 112 yX1_nurseSick, Cond.instanceMethod yX1_nurseSick, Cond.selects RX1 yX1_nurseSick yX1_nurseSick, Cond.code yX1_nurseSick cX1_nurseSick 5 none, Cond.fieldLink RX1 60 "CombersSociety$Member" "health" "I", Cond.methodLink RX1 146 yX1_nurse, Cond.instanceMethod yX1_nurse, Cond.selects RX1 yX1_nurse yX1_nurse, Cond.code yX1_nurse cX1_nurse 3 none, Cond.fieldLink RX1 149 "CombersSociety$Member" "strength" "I", Cond.fieldLink RX1 155 "CombersSociety$Member" "weeksSick" "I", Cond.fieldLink RX1 158 "CombersSociety$Member" "weeksLeft" "I", Cond.fieldLink RX1 161 "CombersSociety$Member" "unpaid" "I", Cond.fieldLink RX1 50 "CombersSociety$Society" "sickPaid" "I", Cond.methodLink RX1 152 yX0_die, Cond.instanceMethod yX0_die, Cond.selects RX0 yX0_die yX0_die]
def wsL_pass_r5 : List Cond := [Cond.code yX0_die cX0_die 1 none, Cond.fieldLink RX0 27 "CombersSociety$Member" "marks" "I", Cond.fieldLink RX0 30 "CombersSociety$Member" "unpaid" "I", Cond.fieldLink RX0 39 "CombersSociety$Member" "unburied" "Z", Cond.methodLink RX1 164 yX1_payOut, Cond.instanceMethod yX1_payOut, Cond.selects RX1 yX1_payOut yX1_payOut, Cond.code yX1_payOut cX1_payOut 3 (some .int), Cond.fieldLink RX1 9 "CombersSociety$Society" "box" "I", Cond.methodLink RX1 167 yX0_getWell, Cond.instanceMethod yX0_getWell, Cond.selects RX0 yX0_getWell yX0_getWell, Cond.code yX0_getWell cX0_getWell 1 none, Cond.methodLink RX1 115 yX1_takeDues, Cond.instanceMethod yX1_takeDues, Cond.selects RX1 yX1_takeDues yX1_takeDues, Cond.code yX1_takeDues cX1_takeDues 5 none, Cond.fieldLink RX1 21 "CombersSociety$Society" "dues" "I", Cond.methodLink RX1 170 yX0_payDues, Cond.instanceMethod yX0_payDues, Cond.selects RX0 yX0_payDues yX0_payDues, Cond.code yX0_payDues cX0_payDues 2 (some .int), Cond.fieldLink RX0 24 "CombersSociety$Member" "coins" "I", Cond.methodLink RX0 43 Lib.Math.min.name]
def wsL_pass_r6 : List Cond := [Cond.methodLink RX1 124 yX1_holdClubNight, Cond.instanceMethod yX1_holdClubNight, Cond.selects RX1 yX1_holdClubNight yX1_holdClubNight, Cond.code yX1_holdClubNight cX1_holdClubNight 5 none, Cond.methodLink RX1 173 yX0_spendClubNight, Cond.instanceMethod yX0_spendClubNight, Cond.selects RX0 yX0_spendClubNight yX0_spendClubNight, Cond.code yX0_spendClubNight cX0_spendClubNight 2 (some .int), Cond.methodLink RX0 49 yX0_payMarks, Cond.instanceMethod yX0_payMarks, Cond.selects RX0 yX0_payMarks yX0_payMarks, Cond.code yX0_payMarks cX0_payMarks 2 (some .int), Cond.methodLink RX1 127 yX1_holdFunerals, Cond.instanceMethod yX1_holdFunerals, Cond.selects RX1 yX1_holdFunerals yX1_holdFunerals, Cond.code yX1_holdFunerals cX1_holdFunerals 5 none, Cond.fieldLink RX1 176 "CombersSociety$Member" "unburied" "Z", Cond.methodLink RX1 179 yX1_bury, Cond.instanceMethod yX1_bury, Cond.selects RX1 yX1_bury yX1_bury, Cond.code yX1_bury cX1_bury 6 none, Cond.fieldLink RX1 53 "CombersSociety$Society" "funeralsPaid" "I", Cond.methodLink RX1 70 yX0_lives, Cond.instanceMethod yX0_lives]
def wsL_pass_r7 : List Cond := [Cond.selects RX0 yX0_lives yX0_lives, Cond.code yX0_lives cX0_lives 1 (some .boolean)]
def wsL_pass : List Cond := .codeWith yL_pass cL_pass 4 (some .int) [(0, 9, 12, 13)] :: ((wsL_pass_r1 ++ (wsL_pass_r2 ++ (wsL_pass_r3 ++ (wsL_pass_r4 ++ (wsL_pass_r5 ++ (wsL_pass_r6 ++ wsL_pass_r7)))))) ++ wsX20 ++ wsX10 ++ wsX00 ++ (vx_atS RX2 27 "java/lang/IllegalArgumentException" ["java/lang/RuntimeException", "java/lang/Exception"]).filter goodWord)
def wsL_foresee_r1 : List Cond := [Cond.classLink RL 13 "java/lang/IllegalArgumentException", Cond.classLink RL 20 "java/lang/IndexOutOfBoundsException", Cond.methodLink RL 54 yX2_foresee, Cond.instanceMethod yX2_foresee, Cond.selects RX2 yX2_foresee yX2_foresee, Cond.initialized RX2, Cond.code yX2_foresee cX2_foresee 3 (some .int), Cond.classLink RX2 23 "java/lang/IllegalArgumentException", Cond.initialized "java/lang/IllegalArgumentException", Cond.classLink RX2 53 "java/lang/IndexOutOfBoundsException", Cond.initialized "java/lang/IndexOutOfBoundsException", Cond.fieldLink RX2 16 "CombersSociety" "trial" "LCombersSociety$Society;", Cond.fieldLink RX2 10 "CombersSociety" "now" "LCombersSociety$Society;", Cond.methodLink RX2 19 yX2_isOutside, Cond.static yX2_isOutside, Cond.code yX2_isOutside cX2_isOutside 3 (some .boolean), Cond.methodLink RX2 141 yX1_copyFrom, Cond.instanceMethod yX1_copyFrom, Cond.selects RX1 yX1_copyFrom yX1_copyFrom, Cond.initialized RX1, Cond.code yX1_copyFrom cX1_copyFrom 3 none, Cond.fieldLink RX1 41 "CombersSociety$Society" "week" "I", Cond.fieldLink RX1 44 "CombersSociety$Society" "joined" "I", Cond.fieldLink RX1 9 "CombersSociety$Society" "box" "I"]
def wsL_foresee_r2 : List Cond := [Cond.fieldLink RX1 15 "CombersSociety$Society" "coals" "I", Cond.fieldLink RX1 18 "CombersSociety$Society" "wool" "I", Cond.fieldLink RX1 47 "CombersSociety$Society" "tops" "I", Cond.fieldLink RX1 21 "CombersSociety$Society" "dues" "I", Cond.fieldLink RX1 50 "CombersSociety$Society" "sickPaid" "I", Cond.fieldLink RX1 53 "CombersSociety$Society" "funeralsPaid" "I", Cond.fieldLink RX1 24 "CombersSociety$Society" "fevers" "[I", Cond.fieldLink RX1 28 "CombersSociety$Society" "heats" "[I", Cond.fieldLink RX1 36 "CombersSociety$Society" "members" "[LCombersSociety$Member;", Cond.methodLink RX1 56 yX0_copyFrom, Cond.instanceMethod yX0_copyFrom, Cond.selects RX0 yX0_copyFrom yX0_copyFrom, Cond.initialized RX0, Cond.code yX0_copyFrom cX0_copyFrom 2 none, Cond.fieldLink RX0 18 "CombersSociety$Member" "skill" "I", Cond.fieldLink RX0 21 "CombersSociety$Member" "strength" "I", Cond.fieldLink RX0 24 "CombersSociety$Member" "coins" "I", Cond.fieldLink RX0 27 "CombersSociety$Member" "marks" "I", Cond.fieldLink RX0 30 "CombersSociety$Member" "unpaid" "I", Cond.fieldLink RX0 9 "CombersSociety$Member" "pot" "I", Cond.fieldLink RX0 15 "CombersSociety$Member" "health" "I", Cond.fieldLink RX0 33 "CombersSociety$Member" "weeksLeft" "I", Cond.fieldLink RX0 36 "CombersSociety$Member" "weeksSick" "I", Cond.fieldLink RX0 39 "CombersSociety$Member" "unburied" "Z"]
def wsL_foresee_r3 : List Cond := [Cond.methodLink RX2 137 yX1_liveWeeks, Cond.instanceMethod yX1_liveWeeks, Cond.selects RX1 yX1_liveWeeks yX1_liveWeeks, Cond.code yX1_liveWeeks cX1_liveWeeks 3 none, Cond.methodLink RX1 96 yX1_liveWeek, Cond.instanceMethod yX1_liveWeek, Cond.selects RX1 yX1_liveWeek yX1_liveWeek, Cond.code yX1_liveWeek cX1_liveWeek 1 none, Cond.fieldLink RX1 99 "CombersSociety$Society" "fellShort" "Z", Cond.methodLink RX1 103 yX1_lightFires, Cond.instanceMethod yX1_lightFires, Cond.selects RX1 yX1_lightFires yX1_lightFires, Cond.code yX1_lightFires cX1_lightFires 2 none, Cond.fieldLink RX1 31 "CombersSociety$Society" "combing" "[I", Cond.methodLink RX1 130 Lib.Math.min.name, Cond.static Lib.Math.min.name, Cond.initialized "java/lang/Math", Cond.code Lib.Math.min.name Lib.Math.min.code 2 (some .int), Cond.methodLink RX1 133 Lib.Math.max.name, Cond.static Lib.Math.max.name, Cond.code Lib.Math.max.name Lib.Math.max.code 2 (some .int), Cond.methodLink RX1 74 yX1_countCombers, Cond.instanceMethod yX1_countCombers, Cond.selects RX1 yX1_countCombers yX1_countCombers]
def wsL_foresee_r4 : List Cond := [Cond.code yX1_countCombers cX1_countCombers 5 none, Cond.fieldLink RX1 63 "CombersSociety$Member" "pot" "I", Cond.methodLink RX1 77 yX0_combs, Cond.instanceMethod yX0_combs, Cond.selects RX0 yX0_combs yX0_combs, Cond.code yX0_combs cX0_combs 1 (some .boolean), Cond.methodLink RX1 106 yX1_combWool, Cond.instanceMethod yX1_combWool, Cond.selects RX1 yX1_combWool yX1_combWool, Cond.code yX1_combWool cX1_combWool 6 none, Cond.fieldLink RX1 80 "CombersSociety$Member" "coins" "I", Cond.methodLink RX1 139 yX1_poundsOf, Cond.instanceMethod yX1_poundsOf, Cond.selects RX1 yX1_poundsOf yX1_poundsOf, Cond.code yX1_poundsOf cX1_poundsOf 3 (some .int), Cond.fieldLink RX1 136 "CombersSociety$Member" "skill" "I", Cond.methodLink RX1 109 yX1_spreadFever, Cond.instanceMethod yX1_spreadFever, Cond.selects RX1 yX1_spreadFever yX1_spreadFever, Cond.code yX1_spreadFever cX1_spreadFever 6 none, Cond.methodLink RX1 118 yJ9_floorMod_7cf53, Cond.static yJ9_floorMod_7cf53, Cond.initialized RJ9, Cond.code yJ9_floorMod_7cf53 cJ9_floorMod_7cf53 3 (some .int)]
def wsL_foresee_r5 : List Cond := [Cond.methodLink RX1 143 yX0_fallSick, Cond.instanceMethod yX0_fallSick, Cond.selects RX0 yX0_fallSick yX0_fallSick, Cond.code yX0_fallSick cX0_fallSick 1 none, Cond.methodLink RX1 112 yX1_nurseSick, Cond.instanceMethod yX1_nurseSick, Cond.selects RX1 yX1_nurseSick yX1_nurseSick, Cond.code yX1_nurseSick cX1_nurseSick 5 none, Cond.fieldLink RX1 60 "CombersSociety$Member" "health" "I", Cond.methodLink RX1 146 yX1_nurse, Cond.instanceMethod yX1_nurse, Cond.selects RX1 yX1_nurse yX1_nurse, Cond.code yX1_nurse cX1_nurse 3 none, Cond.fieldLink RX1 149 "CombersSociety$Member" "strength" "I", Cond.fieldLink RX1 155 "CombersSociety$Member" "weeksSick" "I", Cond.fieldLink RX1 158 "CombersSociety$Member" "weeksLeft" "I", Cond.fieldLink RX1 161 "CombersSociety$Member" "unpaid" "I", Cond.methodLink RX1 152 yX0_die, Cond.instanceMethod yX0_die, Cond.selects RX0 yX0_die yX0_die, Cond.code yX0_die cX0_die 1 none, Cond.methodLink RX1 164 yX1_payOut, Cond.instanceMethod yX1_payOut, Cond.selects RX1 yX1_payOut yX1_payOut]
def wsL_foresee_r6 : List Cond := [Cond.code yX1_payOut cX1_payOut 3 (some .int), Cond.methodLink RX1 167 yX0_getWell, Cond.instanceMethod yX0_getWell, Cond.selects RX0 yX0_getWell yX0_getWell, Cond.code yX0_getWell cX0_getWell 1 none, Cond.methodLink RX1 115 yX1_takeDues, Cond.instanceMethod yX1_takeDues, Cond.selects RX1 yX1_takeDues yX1_takeDues, Cond.code yX1_takeDues cX1_takeDues 5 none, Cond.methodLink RX1 170 yX0_payDues, Cond.instanceMethod yX0_payDues, Cond.selects RX0 yX0_payDues yX0_payDues, Cond.code yX0_payDues cX0_payDues 2 (some .int), Cond.methodLink RX0 43 Lib.Math.min.name, Cond.methodLink RX1 124 yX1_holdClubNight, Cond.instanceMethod yX1_holdClubNight, Cond.selects RX1 yX1_holdClubNight yX1_holdClubNight, Cond.code yX1_holdClubNight cX1_holdClubNight 5 none, Cond.methodLink RX1 173 yX0_spendClubNight, Cond.instanceMethod yX0_spendClubNight, Cond.selects RX0 yX0_spendClubNight yX0_spendClubNight, Cond.code yX0_spendClubNight cX0_spendClubNight 2 (some .int), Cond.methodLink RX0 49 yX0_payMarks, Cond.instanceMethod yX0_payMarks]
def wsL_foresee_r7 : List Cond := [Cond.selects RX0 yX0_payMarks yX0_payMarks, Cond.code yX0_payMarks cX0_payMarks 2 (some .int), Cond.methodLink RX1 127 yX1_holdFunerals, Cond.instanceMethod yX1_holdFunerals, Cond.selects RX1 yX1_holdFunerals yX1_holdFunerals, Cond.code yX1_holdFunerals cX1_holdFunerals 5 none, Cond.fieldLink RX1 176 "CombersSociety$Member" "unburied" "Z", Cond.methodLink RX1 179 yX1_bury, Cond.instanceMethod yX1_bury, Cond.selects RX1 yX1_bury yX1_bury, Cond.code yX1_bury cX1_bury 6 none, Cond.methodLink RX1 70 yX0_lives, Cond.instanceMethod yX0_lives, Cond.selects RX0 yX0_lives yX0_lives, Cond.code yX0_lives cX0_lives 1 (some .boolean), Cond.methodLink RX2 132 yX1_tally, Cond.instanceMethod yX1_tally, Cond.selects RX1 yX1_tally yX1_tally, Cond.code yX1_tally cX1_tally 2 (some .int), Cond.methodLink RX1 86 yX1_howMany, Cond.instanceMethod yX1_howMany, Cond.selects RX1 yX1_howMany yX1_howMany, Cond.code yX1_howMany cX1_howMany 7 (some .int), Cond.methodLink RX1 89 yX1_coinsInPurses]
def wsL_foresee_r8 : List Cond := [Cond.instanceMethod yX1_coinsInPurses, Cond.selects RX1 yX1_coinsInPurses yX1_coinsInPurses, Cond.code yX1_coinsInPurses cX1_coinsInPurses 6 (some .int), Cond.methodLink RX1 93 yX1_marksOfAll, Cond.instanceMethod yX1_marksOfAll, Cond.selects RX1 yX1_marksOfAll yX1_marksOfAll, Cond.code yX1_marksOfAll cX1_marksOfAll 6 (some .int), Cond.fieldLink RX1 83 "CombersSociety$Member" "marks" "I"]
def wsL_foresee : List Cond := .codeWith yL_foresee cL_foresee 5 (some .int) [(0, 10, 13, 13), (0, 10, 17, 20)] :: ((wsL_foresee_r1 ++ (wsL_foresee_r2 ++ (wsL_foresee_r3 ++ (wsL_foresee_r4 ++ (wsL_foresee_r5 ++ (wsL_foresee_r6 ++ (wsL_foresee_r7 ++ wsL_foresee_r8))))))) ++ wsX20 ++ wsX10 ++ wsX00 ++ (vx_atS RX2 27 "java/lang/IllegalArgumentException" ["java/lang/RuntimeException", "java/lang/Exception"]).filter goodWord ++ (vx_atS RX2 57 "java/lang/IndexOutOfBoundsException" ["java/lang/RuntimeException", "java/lang/Exception"]).filter goodWord)
def wsL_earns_r1 : List Cond := [Cond.classLink RL 20 "java/lang/IndexOutOfBoundsException", Cond.methodLink RL 57 yX2_earns, Cond.instanceMethod yX2_earns, Cond.selects RX2 yX2_earns yX2_earns, Cond.initialized RX2, Cond.code yX2_earns cX2_earns 2 (some .int), Cond.classLink RX2 53 "java/lang/IndexOutOfBoundsException", Cond.initialized "java/lang/IndexOutOfBoundsException", Cond.fieldLink RX2 10 "CombersSociety" "now" "LCombersSociety$Society;", Cond.fieldLink RX2 16 "CombersSociety" "trial" "LCombersSociety$Society;", Cond.fieldLink RX2 39 "CombersSociety$Society" "members" "[LCombersSociety$Member;", Cond.fieldLink RX2 74 "CombersSociety$Member" "coins" "I", Cond.methodLink RX2 49 yX1_hasMember, Cond.instanceMethod yX1_hasMember, Cond.selects RX1 yX1_hasMember yX1_hasMember, Cond.initialized RX1, Cond.code yX1_hasMember cX1_hasMember 2 (some .boolean), Cond.fieldLink RX1 36 "CombersSociety$Society" "members" "[LCombersSociety$Member;", Cond.fieldLink RX1 60 "CombersSociety$Member" "health" "I", Cond.methodLink RX2 141 yX1_copyFrom, Cond.instanceMethod yX1_copyFrom, Cond.selects RX1 yX1_copyFrom yX1_copyFrom, Cond.code yX1_copyFrom cX1_copyFrom 3 none, Cond.fieldLink RX1 41 "CombersSociety$Society" "week" "I"]
def wsL_earns_r2 : List Cond := [Cond.fieldLink RX1 44 "CombersSociety$Society" "joined" "I", Cond.fieldLink RX1 9 "CombersSociety$Society" "box" "I", Cond.fieldLink RX1 15 "CombersSociety$Society" "coals" "I", Cond.fieldLink RX1 18 "CombersSociety$Society" "wool" "I", Cond.fieldLink RX1 47 "CombersSociety$Society" "tops" "I", Cond.fieldLink RX1 21 "CombersSociety$Society" "dues" "I", Cond.fieldLink RX1 50 "CombersSociety$Society" "sickPaid" "I", Cond.fieldLink RX1 53 "CombersSociety$Society" "funeralsPaid" "I", Cond.fieldLink RX1 24 "CombersSociety$Society" "fevers" "[I", Cond.fieldLink RX1 28 "CombersSociety$Society" "heats" "[I", Cond.methodLink RX1 56 yX0_copyFrom, Cond.instanceMethod yX0_copyFrom, Cond.selects RX0 yX0_copyFrom yX0_copyFrom, Cond.initialized RX0, Cond.code yX0_copyFrom cX0_copyFrom 2 none, Cond.fieldLink RX0 18 "CombersSociety$Member" "skill" "I", Cond.fieldLink RX0 21 "CombersSociety$Member" "strength" "I", Cond.fieldLink RX0 24 "CombersSociety$Member" "coins" "I", Cond.fieldLink RX0 27 "CombersSociety$Member" "marks" "I", Cond.fieldLink RX0 30 "CombersSociety$Member" "unpaid" "I", Cond.fieldLink RX0 9 "CombersSociety$Member" "pot" "I", Cond.fieldLink RX0 15 "CombersSociety$Member" "health" "I", Cond.fieldLink RX0 33 "CombersSociety$Member" "weeksLeft" "I", Cond.fieldLink RX0 36 "CombersSociety$Member" "weeksSick" "I"]
def wsL_earns_r3 : List Cond := [Cond.fieldLink RX0 39 "CombersSociety$Member" "unburied" "Z", Cond.methodLink RX2 145 yX1_lightFires, Cond.instanceMethod yX1_lightFires, Cond.selects RX1 yX1_lightFires yX1_lightFires, Cond.code yX1_lightFires cX1_lightFires 2 none, Cond.fieldLink RX1 31 "CombersSociety$Society" "combing" "[I", Cond.methodLink RX1 130 Lib.Math.min.name, Cond.static Lib.Math.min.name, Cond.initialized "java/lang/Math", Cond.code Lib.Math.min.name Lib.Math.min.code 2 (some .int), Cond.methodLink RX1 133 Lib.Math.max.name, Cond.static Lib.Math.max.name, Cond.code Lib.Math.max.name Lib.Math.max.code 2 (some .int), Cond.methodLink RX1 74 yX1_countCombers, Cond.instanceMethod yX1_countCombers, Cond.selects RX1 yX1_countCombers yX1_countCombers, Cond.code yX1_countCombers cX1_countCombers 5 none, Cond.fieldLink RX1 63 "CombersSociety$Member" "pot" "I", Cond.methodLink RX1 77 yX0_combs, Cond.instanceMethod yX0_combs, Cond.selects RX0 yX0_combs yX0_combs, Cond.code yX0_combs cX0_combs 1 (some .boolean), Cond.methodLink RX2 148 yX1_combWool, Cond.instanceMethod yX1_combWool]
def wsL_earns_r4 : List Cond := [Cond.selects RX1 yX1_combWool yX1_combWool, Cond.code yX1_combWool cX1_combWool 6 none, Cond.fieldLink RX1 80 "CombersSociety$Member" "coins" "I", Cond.methodLink RX1 139 yX1_poundsOf, Cond.instanceMethod yX1_poundsOf, Cond.selects RX1 yX1_poundsOf yX1_poundsOf, Cond.code yX1_poundsOf cX1_poundsOf 3 (some .int), Cond.fieldLink RX1 136 "CombersSociety$Member" "skill" "I"]
def wsL_earns : List Cond := .codeWith yL_earns cL_earns 4 (some .int) [(0, 9, 12, 20)] :: ((wsL_earns_r1 ++ (wsL_earns_r2 ++ (wsL_earns_r3 ++ wsL_earns_r4))) ++ wsX20 ++ wsX10 ++ wsX00 ++ (vx_atS RX2 57 "java/lang/IndexOutOfBoundsException" ["java/lang/RuntimeException", "java/lang/Exception"]).filter goodWord)
def wsL_dies_r1 : List Cond := [Cond.classLink RL 20 "java/lang/IndexOutOfBoundsException", Cond.methodLink RL 60 yX2_dies, Cond.instanceMethod yX2_dies, Cond.selects RX2 yX2_dies yX2_dies, Cond.initialized RX2, Cond.code yX2_dies cX2_dies 4 (some .int), Cond.classLink RX2 53 "java/lang/IndexOutOfBoundsException", Cond.initialized "java/lang/IndexOutOfBoundsException", Cond.fieldLink RX2 10 "CombersSociety" "now" "LCombersSociety$Society;", Cond.fieldLink RX2 16 "CombersSociety" "trial" "LCombersSociety$Society;", Cond.fieldLink RX2 39 "CombersSociety$Society" "members" "[LCombersSociety$Member;", Cond.fieldLink RX2 58 "CombersSociety$Member" "health" "I", Cond.methodLink RX2 49 yX1_hasMember, Cond.instanceMethod yX1_hasMember, Cond.selects RX1 yX1_hasMember yX1_hasMember, Cond.initialized RX1, Cond.code yX1_hasMember cX1_hasMember 2 (some .boolean), Cond.fieldLink RX1 36 "CombersSociety$Society" "members" "[LCombersSociety$Member;", Cond.fieldLink RX1 60 "CombersSociety$Member" "health" "I", Cond.methodLink RX2 141 yX1_copyFrom, Cond.instanceMethod yX1_copyFrom, Cond.selects RX1 yX1_copyFrom yX1_copyFrom, Cond.code yX1_copyFrom cX1_copyFrom 3 none, Cond.fieldLink RX1 41 "CombersSociety$Society" "week" "I"]
def wsL_dies_r2 : List Cond := [Cond.fieldLink RX1 44 "CombersSociety$Society" "joined" "I", Cond.fieldLink RX1 9 "CombersSociety$Society" "box" "I", Cond.fieldLink RX1 15 "CombersSociety$Society" "coals" "I", Cond.fieldLink RX1 18 "CombersSociety$Society" "wool" "I", Cond.fieldLink RX1 47 "CombersSociety$Society" "tops" "I", Cond.fieldLink RX1 21 "CombersSociety$Society" "dues" "I", Cond.fieldLink RX1 50 "CombersSociety$Society" "sickPaid" "I", Cond.fieldLink RX1 53 "CombersSociety$Society" "funeralsPaid" "I", Cond.fieldLink RX1 24 "CombersSociety$Society" "fevers" "[I", Cond.fieldLink RX1 28 "CombersSociety$Society" "heats" "[I", Cond.methodLink RX1 56 yX0_copyFrom, Cond.instanceMethod yX0_copyFrom, Cond.selects RX0 yX0_copyFrom yX0_copyFrom, Cond.initialized RX0, Cond.code yX0_copyFrom cX0_copyFrom 2 none, Cond.fieldLink RX0 18 "CombersSociety$Member" "skill" "I", Cond.fieldLink RX0 21 "CombersSociety$Member" "strength" "I", Cond.fieldLink RX0 24 "CombersSociety$Member" "coins" "I", Cond.fieldLink RX0 27 "CombersSociety$Member" "marks" "I", Cond.fieldLink RX0 30 "CombersSociety$Member" "unpaid" "I", Cond.fieldLink RX0 9 "CombersSociety$Member" "pot" "I", Cond.fieldLink RX0 15 "CombersSociety$Member" "health" "I", Cond.fieldLink RX0 33 "CombersSociety$Member" "weeksLeft" "I", Cond.fieldLink RX0 36 "CombersSociety$Member" "weeksSick" "I"]
def wsL_dies_r3 : List Cond := [Cond.fieldLink RX0 39 "CombersSociety$Member" "unburied" "Z", Cond.methodLink RX2 151 yX1_liveWeek, Cond.instanceMethod yX1_liveWeek, Cond.selects RX1 yX1_liveWeek yX1_liveWeek, Cond.code yX1_liveWeek cX1_liveWeek 1 none, Cond.fieldLink RX1 99 "CombersSociety$Society" "fellShort" "Z", Cond.methodLink RX1 103 yX1_lightFires, Cond.instanceMethod yX1_lightFires, Cond.selects RX1 yX1_lightFires yX1_lightFires, Cond.code yX1_lightFires cX1_lightFires 2 none, Cond.fieldLink RX1 31 "CombersSociety$Society" "combing" "[I", Cond.methodLink RX1 130 Lib.Math.min.name, Cond.static Lib.Math.min.name, Cond.initialized "java/lang/Math", Cond.code Lib.Math.min.name Lib.Math.min.code 2 (some .int), Cond.methodLink RX1 133 Lib.Math.max.name, Cond.static Lib.Math.max.name, Cond.code Lib.Math.max.name Lib.Math.max.code 2 (some .int), Cond.methodLink RX1 74 yX1_countCombers, Cond.instanceMethod yX1_countCombers, Cond.selects RX1 yX1_countCombers yX1_countCombers, Cond.code yX1_countCombers cX1_countCombers 5 none, Cond.fieldLink RX1 63 "CombersSociety$Member" "pot" "I", Cond.methodLink RX1 77 yX0_combs]
def wsL_dies_r4 : List Cond := [Cond.instanceMethod yX0_combs, Cond.selects RX0 yX0_combs yX0_combs, Cond.code yX0_combs cX0_combs 1 (some .boolean), Cond.methodLink RX1 106 yX1_combWool, Cond.instanceMethod yX1_combWool, Cond.selects RX1 yX1_combWool yX1_combWool, Cond.code yX1_combWool cX1_combWool 6 none, Cond.fieldLink RX1 80 "CombersSociety$Member" "coins" "I", Cond.methodLink RX1 139 yX1_poundsOf, Cond.instanceMethod yX1_poundsOf, Cond.selects RX1 yX1_poundsOf yX1_poundsOf, Cond.code yX1_poundsOf cX1_poundsOf 3 (some .int), Cond.fieldLink RX1 136 "CombersSociety$Member" "skill" "I", Cond.methodLink RX1 109 yX1_spreadFever, Cond.instanceMethod yX1_spreadFever, Cond.selects RX1 yX1_spreadFever yX1_spreadFever, Cond.code yX1_spreadFever cX1_spreadFever 6 none, Cond.methodLink RX1 118 yJ9_floorMod_7cf53, Cond.static yJ9_floorMod_7cf53, Cond.initialized RJ9, Cond.code yJ9_floorMod_7cf53 cJ9_floorMod_7cf53 3 (some .int), Cond.methodLink RX1 143 yX0_fallSick, Cond.instanceMethod yX0_fallSick, Cond.selects RX0 yX0_fallSick yX0_fallSick]
def wsL_dies_r5 : List Cond := [Cond.code yX0_fallSick cX0_fallSick 1 none, Cond.methodLink RX1 112 yX1_nurseSick, Cond.instanceMethod yX1_nurseSick, Cond.selects RX1 yX1_nurseSick yX1_nurseSick, Cond.code yX1_nurseSick cX1_nurseSick 5 none, Cond.methodLink RX1 146 yX1_nurse, Cond.instanceMethod yX1_nurse, Cond.selects RX1 yX1_nurse yX1_nurse, Cond.code yX1_nurse cX1_nurse 3 none, Cond.fieldLink RX1 149 "CombersSociety$Member" "strength" "I", Cond.fieldLink RX1 155 "CombersSociety$Member" "weeksSick" "I", Cond.fieldLink RX1 158 "CombersSociety$Member" "weeksLeft" "I", Cond.fieldLink RX1 161 "CombersSociety$Member" "unpaid" "I", Cond.methodLink RX1 152 yX0_die, Cond.instanceMethod yX0_die, Cond.selects RX0 yX0_die yX0_die, Cond.code yX0_die cX0_die 1 none, Cond.methodLink RX1 164 yX1_payOut, Cond.instanceMethod yX1_payOut, Cond.selects RX1 yX1_payOut yX1_payOut, Cond.code yX1_payOut cX1_payOut 3 (some .int), Cond.methodLink RX1 167 yX0_getWell, Cond.instanceMethod yX0_getWell, Cond.selects RX0 yX0_getWell yX0_getWell]
def wsL_dies_r6 : List Cond := [Cond.code yX0_getWell cX0_getWell 1 none, Cond.methodLink RX1 115 yX1_takeDues, Cond.instanceMethod yX1_takeDues, Cond.selects RX1 yX1_takeDues yX1_takeDues, Cond.code yX1_takeDues cX1_takeDues 5 none, Cond.methodLink RX1 170 yX0_payDues, Cond.instanceMethod yX0_payDues, Cond.selects RX0 yX0_payDues yX0_payDues, Cond.code yX0_payDues cX0_payDues 2 (some .int), Cond.methodLink RX0 43 Lib.Math.min.name, Cond.methodLink RX1 124 yX1_holdClubNight, Cond.instanceMethod yX1_holdClubNight, Cond.selects RX1 yX1_holdClubNight yX1_holdClubNight, Cond.code yX1_holdClubNight cX1_holdClubNight 5 none, Cond.methodLink RX1 173 yX0_spendClubNight, Cond.instanceMethod yX0_spendClubNight, Cond.selects RX0 yX0_spendClubNight yX0_spendClubNight, Cond.code yX0_spendClubNight cX0_spendClubNight 2 (some .int), Cond.methodLink RX0 49 yX0_payMarks, Cond.instanceMethod yX0_payMarks, Cond.selects RX0 yX0_payMarks yX0_payMarks, Cond.code yX0_payMarks cX0_payMarks 2 (some .int), Cond.methodLink RX1 127 yX1_holdFunerals, Cond.instanceMethod yX1_holdFunerals]
def wsL_dies_r7 : List Cond := [Cond.selects RX1 yX1_holdFunerals yX1_holdFunerals, Cond.code yX1_holdFunerals cX1_holdFunerals 5 none, Cond.fieldLink RX1 176 "CombersSociety$Member" "unburied" "Z", Cond.methodLink RX1 179 yX1_bury, Cond.instanceMethod yX1_bury, Cond.selects RX1 yX1_bury yX1_bury, Cond.code yX1_bury cX1_bury 6 none, Cond.methodLink RX1 70 yX0_lives, Cond.instanceMethod yX0_lives, Cond.selects RX0 yX0_lives yX0_lives, Cond.code yX0_lives cX0_lives 1 (some .boolean)]
def wsL_dies : List Cond := .codeWith yL_dies cL_dies 4 (some .int) [(0, 9, 12, 20)] :: ((wsL_dies_r1 ++ (wsL_dies_r2 ++ (wsL_dies_r3 ++ (wsL_dies_r4 ++ (wsL_dies_r5 ++ (wsL_dies_r6 ++ wsL_dies_r7)))))) ++ wsX20 ++ wsX10 ++ wsX00 ++ (vx_atS RX2 57 "java/lang/IndexOutOfBoundsException" ["java/lang/RuntimeException", "java/lang/Exception"]).filter goodWord)
def wsL_advise_r1 : List Cond := [Cond.classLink RL 20 "java/lang/IndexOutOfBoundsException", Cond.classLink RL 15 "java/lang/IllegalStateException", Cond.methodLink RL 63 yX2_advise, Cond.instanceMethod yX2_advise, Cond.selects RX2 yX2_advise yX2_advise, Cond.initialized RX2, Cond.code yX2_advise cX2_advise 6 (some .int), Cond.classLink RX2 53 "java/lang/IndexOutOfBoundsException", Cond.initialized "java/lang/IndexOutOfBoundsException", Cond.classLink RX2 34 "java/lang/IllegalStateException", Cond.initialized "java/lang/IllegalStateException", Cond.fieldLink RX2 10 "CombersSociety" "now" "LCombersSociety$Society;", Cond.fieldLink RX2 39 "CombersSociety$Society" "members" "[LCombersSociety$Member;", Cond.fieldLink RX2 58 "CombersSociety$Member" "health" "I", Cond.fieldLink RX2 16 "CombersSociety" "trial" "LCombersSociety$Society;", Cond.fieldLink RX2 67 "CombersSociety$Member" "pot" "I", Cond.fieldLink RX2 121 "CombersSociety$Society" "tops" "I", Cond.methodLink RX2 49 yX1_hasMember, Cond.instanceMethod yX1_hasMember, Cond.selects RX1 yX1_hasMember yX1_hasMember, Cond.initialized RX1, Cond.code yX1_hasMember cX1_hasMember 2 (some .boolean), Cond.fieldLink RX1 36 "CombersSociety$Society" "members" "[LCombersSociety$Member;", Cond.fieldLink RX1 60 "CombersSociety$Member" "health" "I"]
def wsL_advise_r2 : List Cond := [Cond.methodLink RX2 61 yX1_hasRoom, Cond.instanceMethod yX1_hasRoom, Cond.selects RX1 yX1_hasRoom yX1_hasRoom, Cond.code yX1_hasRoom cX1_hasRoom 4 (some .boolean), Cond.fieldLink RX1 63 "CombersSociety$Member" "pot" "I", Cond.methodLink RX1 66 yX1_atPot, Cond.instanceMethod yX1_atPot, Cond.selects RX1 yX1_atPot yX1_atPot, Cond.code yX1_atPot cX1_atPot 7 (some .int), Cond.methodLink RX1 70 yX0_lives, Cond.instanceMethod yX0_lives, Cond.selects RX0 yX0_lives yX0_lives, Cond.initialized RX0, Cond.code yX0_lives cX0_lives 1 (some .boolean), Cond.fieldLink RX0 15 "CombersSociety$Member" "health" "I", Cond.methodLink RX2 141 yX1_copyFrom, Cond.instanceMethod yX1_copyFrom, Cond.selects RX1 yX1_copyFrom yX1_copyFrom, Cond.code yX1_copyFrom cX1_copyFrom 3 none, Cond.fieldLink RX1 41 "CombersSociety$Society" "week" "I", Cond.fieldLink RX1 44 "CombersSociety$Society" "joined" "I", Cond.fieldLink RX1 9 "CombersSociety$Society" "box" "I", Cond.fieldLink RX1 15 "CombersSociety$Society" "coals" "I", Cond.fieldLink RX1 18 "CombersSociety$Society" "wool" "I"]
def wsL_advise_r3 : List Cond := [Cond.fieldLink RX1 47 "CombersSociety$Society" "tops" "I", Cond.fieldLink RX1 21 "CombersSociety$Society" "dues" "I", Cond.fieldLink RX1 50 "CombersSociety$Society" "sickPaid" "I", Cond.fieldLink RX1 53 "CombersSociety$Society" "funeralsPaid" "I", Cond.fieldLink RX1 24 "CombersSociety$Society" "fevers" "[I", Cond.fieldLink RX1 28 "CombersSociety$Society" "heats" "[I", Cond.methodLink RX1 56 yX0_copyFrom, Cond.instanceMethod yX0_copyFrom, Cond.selects RX0 yX0_copyFrom yX0_copyFrom, Cond.code yX0_copyFrom cX0_copyFrom 2 none, Cond.fieldLink RX0 18 "CombersSociety$Member" "skill" "I", Cond.fieldLink RX0 21 "CombersSociety$Member" "strength" "I", Cond.fieldLink RX0 24 "CombersSociety$Member" "coins" "I", Cond.fieldLink RX0 27 "CombersSociety$Member" "marks" "I", Cond.fieldLink RX0 30 "CombersSociety$Member" "unpaid" "I", Cond.fieldLink RX0 9 "CombersSociety$Member" "pot" "I", Cond.fieldLink RX0 33 "CombersSociety$Member" "weeksLeft" "I", Cond.fieldLink RX0 36 "CombersSociety$Member" "weeksSick" "I", Cond.fieldLink RX0 39 "CombersSociety$Member" "unburied" "Z", Cond.methodLink RX2 137 yX1_liveWeeks, Cond.instanceMethod yX1_liveWeeks, Cond.selects RX1 yX1_liveWeeks yX1_liveWeeks, Cond.code yX1_liveWeeks cX1_liveWeeks 3 none, Cond.methodLink RX1 96 yX1_liveWeek]
def wsL_advise_r4 : List Cond := [Cond.instanceMethod yX1_liveWeek, Cond.selects RX1 yX1_liveWeek yX1_liveWeek, Cond.code yX1_liveWeek cX1_liveWeek 1 none, Cond.fieldLink RX1 99 "CombersSociety$Society" "fellShort" "Z", Cond.methodLink RX1 103 yX1_lightFires, Cond.instanceMethod yX1_lightFires, Cond.selects RX1 yX1_lightFires yX1_lightFires, Cond.code yX1_lightFires cX1_lightFires 2 none, Cond.fieldLink RX1 31 "CombersSociety$Society" "combing" "[I", Cond.methodLink RX1 130 Lib.Math.min.name, Cond.static Lib.Math.min.name, Cond.initialized "java/lang/Math", Cond.code Lib.Math.min.name Lib.Math.min.code 2 (some .int), Cond.methodLink RX1 133 Lib.Math.max.name, Cond.static Lib.Math.max.name, Cond.code Lib.Math.max.name Lib.Math.max.code 2 (some .int), Cond.methodLink RX1 74 yX1_countCombers, Cond.instanceMethod yX1_countCombers, Cond.selects RX1 yX1_countCombers yX1_countCombers, Cond.code yX1_countCombers cX1_countCombers 5 none, Cond.methodLink RX1 77 yX0_combs, Cond.instanceMethod yX0_combs, Cond.selects RX0 yX0_combs yX0_combs, Cond.code yX0_combs cX0_combs 1 (some .boolean)]
def wsL_advise_r5 : List Cond := [Cond.methodLink RX1 106 yX1_combWool, Cond.instanceMethod yX1_combWool, Cond.selects RX1 yX1_combWool yX1_combWool, Cond.code yX1_combWool cX1_combWool 6 none, Cond.fieldLink RX1 80 "CombersSociety$Member" "coins" "I", Cond.methodLink RX1 139 yX1_poundsOf, Cond.instanceMethod yX1_poundsOf, Cond.selects RX1 yX1_poundsOf yX1_poundsOf, Cond.code yX1_poundsOf cX1_poundsOf 3 (some .int), Cond.fieldLink RX1 136 "CombersSociety$Member" "skill" "I", Cond.methodLink RX1 109 yX1_spreadFever, Cond.instanceMethod yX1_spreadFever, Cond.selects RX1 yX1_spreadFever yX1_spreadFever, Cond.code yX1_spreadFever cX1_spreadFever 6 none, Cond.methodLink RX1 118 yJ9_floorMod_7cf53, Cond.static yJ9_floorMod_7cf53, Cond.initialized RJ9, Cond.code yJ9_floorMod_7cf53 cJ9_floorMod_7cf53 3 (some .int), Cond.methodLink RX1 143 yX0_fallSick, Cond.instanceMethod yX0_fallSick, Cond.selects RX0 yX0_fallSick yX0_fallSick, Cond.code yX0_fallSick cX0_fallSick 1 none, Cond.methodLink RX1 112 yX1_nurseSick, Cond.instanceMethod yX1_nurseSick]
def wsL_advise_r6 : List Cond := [Cond.selects RX1 yX1_nurseSick yX1_nurseSick, Cond.code yX1_nurseSick cX1_nurseSick 5 none, Cond.methodLink RX1 146 yX1_nurse, Cond.instanceMethod yX1_nurse, Cond.selects RX1 yX1_nurse yX1_nurse, Cond.code yX1_nurse cX1_nurse 3 none, Cond.fieldLink RX1 149 "CombersSociety$Member" "strength" "I", Cond.fieldLink RX1 155 "CombersSociety$Member" "weeksSick" "I", Cond.fieldLink RX1 158 "CombersSociety$Member" "weeksLeft" "I", Cond.fieldLink RX1 161 "CombersSociety$Member" "unpaid" "I", Cond.methodLink RX1 152 yX0_die, Cond.instanceMethod yX0_die, Cond.selects RX0 yX0_die yX0_die, Cond.code yX0_die cX0_die 1 none, Cond.methodLink RX1 164 yX1_payOut, Cond.instanceMethod yX1_payOut, Cond.selects RX1 yX1_payOut yX1_payOut, Cond.code yX1_payOut cX1_payOut 3 (some .int), Cond.methodLink RX1 167 yX0_getWell, Cond.instanceMethod yX0_getWell, Cond.selects RX0 yX0_getWell yX0_getWell, Cond.code yX0_getWell cX0_getWell 1 none, Cond.methodLink RX1 115 yX1_takeDues, Cond.instanceMethod yX1_takeDues]
def wsL_advise_r7 : List Cond := [Cond.selects RX1 yX1_takeDues yX1_takeDues, Cond.code yX1_takeDues cX1_takeDues 5 none, Cond.methodLink RX1 170 yX0_payDues, Cond.instanceMethod yX0_payDues, Cond.selects RX0 yX0_payDues yX0_payDues, Cond.code yX0_payDues cX0_payDues 2 (some .int), Cond.methodLink RX0 43 Lib.Math.min.name, Cond.methodLink RX1 124 yX1_holdClubNight, Cond.instanceMethod yX1_holdClubNight, Cond.selects RX1 yX1_holdClubNight yX1_holdClubNight, Cond.code yX1_holdClubNight cX1_holdClubNight 5 none, Cond.methodLink RX1 173 yX0_spendClubNight, Cond.instanceMethod yX0_spendClubNight, Cond.selects RX0 yX0_spendClubNight yX0_spendClubNight, Cond.code yX0_spendClubNight cX0_spendClubNight 2 (some .int), Cond.methodLink RX0 49 yX0_payMarks, Cond.instanceMethod yX0_payMarks, Cond.selects RX0 yX0_payMarks yX0_payMarks, Cond.code yX0_payMarks cX0_payMarks 2 (some .int), Cond.methodLink RX1 127 yX1_holdFunerals, Cond.instanceMethod yX1_holdFunerals, Cond.selects RX1 yX1_holdFunerals yX1_holdFunerals, Cond.code yX1_holdFunerals cX1_holdFunerals 5 none, Cond.fieldLink RX1 176 "CombersSociety$Member" "unburied" "Z"]
def wsL_advise_r8 : List Cond := [Cond.methodLink RX1 179 yX1_bury, Cond.instanceMethod yX1_bury, Cond.selects RX1 yX1_bury yX1_bury, Cond.code yX1_bury cX1_bury 6 none]
def wsL_advise : List Cond := .codeWith yL_advise cL_advise 4 (some .int) [(0, 9, 12, 20), (0, 9, 15, 15)] :: ((wsL_advise_r1 ++ (wsL_advise_r2 ++ (wsL_advise_r3 ++ (wsL_advise_r4 ++ (wsL_advise_r5 ++ (wsL_advise_r6 ++ (wsL_advise_r7 ++ wsL_advise_r8))))))) ++ wsX20 ++ wsX10 ++ wsX00 ++ (vx_atS RX2 57 "java/lang/IndexOutOfBoundsException" ["java/lang/RuntimeException", "java/lang/Exception"]).filter goodWord ++ (vx_atS RX2 38 "java/lang/IllegalStateException" ["java/lang/RuntimeException", "java/lang/Exception"]).filter goodWord)
def wsL_law0_r1 : List Cond := [Cond.classLink RL 8 RX2, Cond.instantiable RX2 2, Cond.initialized RX2, Cond.classLink RL 67 RX4, Cond.instantiable RX4 5, Cond.initialized RX4, Cond.arrayClass .long, Cond.methodLink RL 66 yX2_init, Cond.instanceMethod yX2_init, Cond.code yX2_init cX2_init 1 none, Cond.methodLink RX2 1 objectInit, Cond.instanceMethod objectInit, Cond.code objectInit ⟨#[0xb1]⟩ 1 none, Cond.classLink RX2 7 RX1, Cond.instantiable RX1 14, Cond.initialized RX1, Cond.fieldLink RX2 10 "CombersSociety" "now" "LCombersSociety$Society;", Cond.fieldLink RX2 16 "CombersSociety" "trial" "LCombersSociety$Society;", Cond.methodLink RX2 9 yX1_init, Cond.instanceMethod yX1_init, Cond.code yX1_init cX1_init 2 none, Cond.methodLink RX1 3 objectInit, Cond.fieldLink RX1 9 "CombersSociety$Society" "box" "I", Cond.fieldLink RX1 15 "CombersSociety$Society" "coals" "I"]
def wsL_law0_r2 : List Cond := [Cond.fieldLink RX1 18 "CombersSociety$Society" "wool" "I", Cond.fieldLink RX1 21 "CombersSociety$Society" "dues" "I", Cond.arrayClass .int, Cond.fieldLink RX1 24 "CombersSociety$Society" "fevers" "[I", Cond.fieldLink RX1 28 "CombersSociety$Society" "heats" "[I", Cond.fieldLink RX1 31 "CombersSociety$Society" "combing" "[I", Cond.classLink RX1 34 RX0, Cond.fieldLink RX1 36 "CombersSociety$Society" "members" "[LCombersSociety$Member;", Cond.instantiable RX0 10, Cond.initialized RX0, Cond.methodLink RX1 40 yX0_init, Cond.instanceMethod yX0_init, Cond.code yX0_init cX0_init 1 none, Cond.methodLink RX0 3 objectInit, Cond.fieldLink RX0 9 "CombersSociety$Member" "pot" "I", Cond.fieldLink RX0 15 "CombersSociety$Member" "health" "I", Cond.methodLink RL 69 yX4_init, Cond.instanceMethod yX4_init, Cond.code yX4_init cX4_init 1 none, Cond.methodLink RX4 1 objectInit, Cond.fieldLink RX4 7 "CombersSocietyModel" "dues" "I", Cond.fieldLink RX4 13 "CombersSocietyModel" "fevers" "[I", Cond.classLink RX4 17 RX3, Cond.instantiable RX3 12]
def wsL_law0_r3 : List Cond := [Cond.initialized RX3, Cond.fieldLink RX4 22 "CombersSocietyModel" "s" "LCombersSocietyModel$State;", Cond.fieldLink RX4 26 "CombersSocietyModel" "ahead" "LCombersSocietyModel$State;", Cond.instanceMethod yX3_init, Cond.code yX3_init cX3_init 2 none, Cond.fieldLink RX3 3 "CombersSocietyModel$State" "this$0" "LCombersSocietyModel;", Cond.methodLink RX3 9 objectInit, Cond.fieldLink RX3 15 "CombersSocietyModel$State" "box" "I", Cond.fieldLink RX3 19 "CombersSocietyModel$State" "coals" "I", Cond.fieldLink RX3 22 "CombersSocietyModel$State" "wool" "I", Cond.fieldLink RX3 25 "CombersSocietyModel$State" "heat" "[I", Cond.fieldLink RX3 29 "CombersSocietyModel$State" "rows" "[I", Cond.methodLink RL 70 yL_join, Cond.static yL_join, Cond.initialized RL, Cond.codeWith yL_join cL_join 5 (some .int) [(0, 10, 13, 13), (0, 10, 17, 15)], Cond.classLink RL 13 "java/lang/IllegalArgumentException", Cond.classLink RL 15 "java/lang/IllegalStateException", Cond.methodLink RL 7 yX2_join, Cond.instanceMethod yX2_join, Cond.selects RX2 yX2_join yX2_join, Cond.code yX2_join cX2_join 4 (some .int), Cond.classLink RX2 23 "java/lang/IllegalArgumentException", Cond.initialized "java/lang/IllegalArgumentException"]
def wsL_law0_r4 : List Cond := [Cond.classLink RX2 34 "java/lang/IllegalStateException", Cond.initialized "java/lang/IllegalStateException", Cond.fieldLink RX2 30 "CombersSociety$Society" "joined" "I", Cond.fieldLink RX2 39 "CombersSociety$Society" "members" "[LCombersSociety$Member;", Cond.methodLink RX2 19 yX2_isOutside, Cond.static yX2_isOutside, Cond.code yX2_isOutside cX2_isOutside 3 (some .boolean), Cond.methodLink RX2 43 yX0_enter, Cond.instanceMethod yX0_enter, Cond.selects RX0 yX0_enter yX0_enter, Cond.code yX0_enter cX0_enter 3 none, Cond.fieldLink RX0 18 "CombersSociety$Member" "skill" "I", Cond.fieldLink RX0 21 "CombersSociety$Member" "strength" "I", Cond.fieldLink RX0 24 "CombersSociety$Member" "coins" "I", Cond.methodLink RL 75 yX4_join, Cond.instanceMethod yX4_join, Cond.selects RX4 yX4_join yX4_join, Cond.code yX4_join cX4_join 4 (some .int), Cond.fieldLink RX4 29 "CombersSocietyModel" "thrown" "I", Cond.methodLink RX4 53 arraycopyName, Cond.native arraycopyName, Cond.static arraycopyName, Cond.initialized "java/lang/System", Cond.methodLink RX4 35 yX4_isIn]
def wsL_law0_r5 : List Cond := [Cond.static yX4_isIn, Cond.code yX4_isIn cX4_isIn 3 (some .boolean), Cond.methodLink RX4 47 yX4_no, Cond.instanceMethod yX4_no, Cond.selects RX4 yX4_no yX4_no, Cond.code yX4_no cX4_no 2 (some .int), Cond.methodLink RL 76 yX4_thrown, Cond.instanceMethod yX4_thrown, Cond.selects RX4 yX4_thrown yX4_thrown, Cond.code yX4_thrown cX4_thrown 1 (some .int), Cond.methodLink RL 80 yL_place, Cond.static yL_place, Cond.codeWith yL_place cL_place 5 (some .int) [(0, 10, 13, 20), (0, 10, 17, 15)], Cond.classLink RL 20 "java/lang/IndexOutOfBoundsException", Cond.methodLink RL 17 yX2_place, Cond.instanceMethod yX2_place, Cond.selects RX2 yX2_place yX2_place, Cond.code yX2_place cX2_place 5 (some .int), Cond.classLink RX2 53 "java/lang/IndexOutOfBoundsException", Cond.initialized "java/lang/IndexOutOfBoundsException", Cond.fieldLink RX2 58 "CombersSociety$Member" "health" "I", Cond.fieldLink RX2 67 "CombersSociety$Member" "pot" "I", Cond.methodLink RX2 49 yX1_hasMember, Cond.instanceMethod yX1_hasMember]
def wsL_law0_r6 : List Cond := [Cond.selects RX1 yX1_hasMember yX1_hasMember, Cond.code yX1_hasMember cX1_hasMember 2 (some .boolean), Cond.fieldLink RX1 60 "CombersSociety$Member" "health" "I", Cond.methodLink RX2 61 yX1_hasRoom, Cond.instanceMethod yX1_hasRoom, Cond.selects RX1 yX1_hasRoom yX1_hasRoom, Cond.code yX1_hasRoom cX1_hasRoom 4 (some .boolean), Cond.fieldLink RX1 63 "CombersSociety$Member" "pot" "I", Cond.methodLink RX1 66 yX1_atPot, Cond.instanceMethod yX1_atPot, Cond.selects RX1 yX1_atPot yX1_atPot, Cond.code yX1_atPot cX1_atPot 7 (some .int), Cond.methodLink RX1 70 yX0_lives, Cond.instanceMethod yX0_lives, Cond.selects RX0 yX0_lives yX0_lives, Cond.code yX0_lives cX0_lives 1 (some .boolean), Cond.methodLink RL 82 yX4_place, Cond.instanceMethod yX4_place, Cond.selects RX4 yX4_place yX4_place, Cond.code yX4_place cX4_place 4 (some .int), Cond.methodLink RX4 59 yX4_isMember, Cond.instanceMethod yX4_isMember, Cond.selects RX4 yX4_isMember yX4_isMember, Cond.code yX4_isMember cX4_isMember 2 (some .boolean)]
def wsL_law0_r7 : List Cond := [Cond.methodLink RX4 63 yX4_isDead, Cond.instanceMethod yX4_isDead, Cond.selects RX4 yX4_isDead yX4_isDead, Cond.code yX4_isDead cX4_isDead 2 (some .boolean), Cond.methodLink RX4 39 yX3_of, Cond.instanceMethod yX3_of, Cond.selects RX3 yX3_of yX3_of, Cond.code yX3_of cX3_of 3 (some .int), Cond.methodLink RX4 66 yX4_others, Cond.instanceMethod yX4_others, Cond.selects RX4 yX4_others yX4_others, Cond.code yX4_others cX4_others 3 (some .int), Cond.methodLink RX4 43 yX3_there, Cond.instanceMethod yX3_there, Cond.selects RX3 yX3_there yX3_there, Cond.code yX3_there cX3_there 4 (some .int), Cond.fieldLink RX3 35 "CombersSocietyModel$State" "members" "I", Cond.methodLink RX3 57 yX3_of, Cond.methodLink RX4 69 yX3_set, Cond.instanceMethod yX3_set, Cond.selects RX3 yX3_set yX3_set, Cond.code yX3_set cX3_set 4 none, Cond.methodLink RL 83 yL_give, Cond.static yL_give]
def wsL_law0_r8 : List Cond := [Cond.codeWith yL_give cL_give 6 (some .int) [(0, 12, 15, 20), (0, 12, 19, 13), (0, 12, 23, 15)], Cond.methodLink RL 22 yX2_give, Cond.instanceMethod yX2_give, Cond.selects RX2 yX2_give yX2_give, Cond.code yX2_give cX2_give 6 (some .int), Cond.fieldLink RX2 74 "CombersSociety$Member" "coins" "I", Cond.methodLink RL 86 yX4_give, Cond.instanceMethod yX4_give, Cond.selects RX4 yX4_give yX4_give, Cond.code yX4_give cX4_give 4 (some .int), Cond.methodLink RL 87 yL_settle, Cond.static yL_settle, Cond.codeWith yL_settle cL_settle 4 (some .int) [(0, 9, 12, 20), (0, 9, 15, 15)], Cond.methodLink RL 26 yX2_settle, Cond.instanceMethod yX2_settle, Cond.selects RX2 yX2_settle yX2_settle, Cond.code yX2_settle cX2_settle 3 (some .int), Cond.fieldLink RX2 80 "CombersSociety$Society" "box" "I", Cond.fieldLink RX2 87 "CombersSociety$Member" "marks" "I", Cond.methodLink RX2 83 yX0_payMarks, Cond.instanceMethod yX0_payMarks, Cond.selects RX0 yX0_payMarks yX0_payMarks, Cond.code yX0_payMarks cX0_payMarks 2 (some .int), Cond.fieldLink RX0 27 "CombersSociety$Member" "marks" "I"]
def wsL_law0_r9 : List Cond := [Cond.methodLink RX0 43 Lib.Math.min.name, Cond.static Lib.Math.min.name, Cond.initialized "java/lang/Math", Cond.code Lib.Math.min.name Lib.Math.min.code 2 (some .int), Cond.methodLink RL 90 yX4_settle, Cond.instanceMethod yX4_settle, Cond.selects RX4 yX4_settle yX4_settle, Cond.code yX4_settle cX4_settle 2 (some .int), Cond.methodLink RX4 73 yX3_settle, Cond.instanceMethod yX3_settle, Cond.selects RX3 yX3_settle yX3_settle, Cond.code yX3_settle cX3_settle 3 (some .int), Cond.methodLink RX3 69 Lib.Math.min.name, Cond.methodLink RX3 80 yX3_set, Cond.methodLink RL 91 yL_told, Cond.static yL_told, Cond.codeWith yL_told cL_told 5 (some .int) [(0, 10, 13, 20)], Cond.methodLink RL 30 yX2_told, Cond.instanceMethod yX2_told, Cond.selects RX2 yX2_told yX2_told, Cond.code yX2_told cX2_told 3 (some .int), Cond.methodLink RX2 92 yX0_fact, Cond.instanceMethod yX0_fact, Cond.selects RX0 yX0_fact yX0_fact]
def wsL_law0_r10 : List Cond := [Cond.code yX0_fact cX0_fact 2 (some .int), Cond.fieldLink RX0 30 "CombersSociety$Member" "unpaid" "I", Cond.fieldLink RX0 33 "CombersSociety$Member" "weeksLeft" "I", Cond.fieldLink RX0 36 "CombersSociety$Member" "weeksSick" "I", Cond.methodLink RL 93 yX4_told, Cond.instanceMethod yX4_told, Cond.selects RX4 yX4_told yX4_told, Cond.code yX4_told cX4_told 3 (some .int), Cond.methodLink RL 94 yX2_owes, Cond.instanceMethod yX2_owes, Cond.selects RX2 yX2_owes yX2_owes, Cond.code yX2_owes cX2_owes 4 (some .int), Cond.methodLink RL 97 yX4_owes, Cond.instanceMethod yX4_owes, Cond.selects RX4 yX4_owes yX4_owes, Cond.code yX4_owes cX4_owes 4 (some .int), Cond.methodLink RL 98 yL_setFever, Cond.static yL_setFever, Cond.codeWith yL_setFever cL_setFever 5 (some .int) [(0, 10, 13, 20), (0, 10, 17, 13)], Cond.methodLink RL 33 yX2_setFever, Cond.instanceMethod yX2_setFever, Cond.selects RX2 yX2_setFever yX2_setFever, Cond.code yX2_setFever cX2_setFever 4 (some .int), Cond.fieldLink RX2 99 "CombersSociety$Society" "fevers" "[I"]
def wsL_law0_r11 : List Cond := [Cond.methodLink RL 100 yX4_setFever, Cond.instanceMethod yX4_setFever, Cond.selects RX4 yX4_setFever yX4_setFever, Cond.code yX4_setFever cX4_setFever 4 (some .int), Cond.methodLink RL 101 yL_setDues, Cond.static yL_setDues, Cond.codeWith yL_setDues cL_setDues 4 (some .int) [(0, 9, 12, 13)], Cond.methodLink RL 36 yX2_setDues, Cond.instanceMethod yX2_setDues, Cond.selects RX2 yX2_setDues yX2_setDues, Cond.code yX2_setDues cX2_setDues 3 (some .int), Cond.fieldLink RX2 105 "CombersSociety$Society" "dues" "I", Cond.methodLink RL 103 yX4_setDues, Cond.instanceMethod yX4_setDues, Cond.selects RX4 yX4_setDues yX4_setDues, Cond.code yX4_setDues cX4_setDues 3 (some .int), Cond.methodLink RL 104 yL_buy, Cond.static yL_buy, Cond.codeWith yL_buy cL_buy 5 (some .int) [(0, 10, 13, 20), (0, 10, 17, 13), (0, 10, 21, 15)], Cond.methodLink RL 39 yX2_buy, Cond.instanceMethod yX2_buy, Cond.selects RX2 yX2_buy yX2_buy, Cond.code yX2_buy cX2_buy 4 (some .int), Cond.fieldLink RX2 113 "CombersSociety$Society" "coals" "I"]
def wsL_law0_r12 : List Cond := [Cond.fieldLink RX2 116 "CombersSociety$Society" "wool" "I", Cond.methodLink RL 106 yX4_buy, Cond.instanceMethod yX4_buy, Cond.selects RX4 yX4_buy yX4_buy, Cond.code yX4_buy cX4_buy 4 (some .int), Cond.methodLink RL 107 yL_sell, Cond.static yL_sell, Cond.codeWith yL_sell cL_sell 4 (some .int) [(0, 9, 12, 13), (0, 9, 15, 15)], Cond.methodLink RL 42 yX2_sell, Cond.instanceMethod yX2_sell, Cond.selects RX2 yX2_sell yX2_sell, Cond.code yX2_sell cX2_sell 2 (some .int), Cond.fieldLink RX2 121 "CombersSociety$Society" "tops" "I", Cond.methodLink RL 109 yX4_sell, Cond.instanceMethod yX4_sell, Cond.selects RX4 yX4_sell yX4_sell, Cond.code yX4_sell cX4_sell 2 (some .int), Cond.methodLink RL 110 yL_pot, Cond.static yL_pot, Cond.codeWith yL_pot cL_pot 5 (some .int) [(0, 10, 13, 20)], Cond.methodLink RL 45 yX2_pot, Cond.instanceMethod yX2_pot, Cond.selects RX2 yX2_pot yX2_pot, Cond.code yX2_pot cX2_pot 3 (some .int)]
def wsL_law0_r13 : List Cond := [Cond.methodLink RX2 128 yX2_potFact, Cond.instanceMethod yX2_potFact, Cond.selects RX2 yX2_potFact yX2_potFact, Cond.code yX2_potFact cX2_potFact 3 (some .int), Cond.methodLink RX2 168 yX1_heatOf, Cond.instanceMethod yX1_heatOf, Cond.selects RX1 yX1_heatOf yX1_heatOf, Cond.code yX1_heatOf cX1_heatOf 2 (some .int), Cond.methodLink RX2 171 yX1_atPot, Cond.methodLink RX2 174 yX1_combersAt, Cond.instanceMethod yX1_combersAt, Cond.selects RX1 yX1_combersAt yX1_combersAt, Cond.code yX1_combersAt cX1_combersAt 2 (some .int), Cond.methodLink RX1 74 yX1_countCombers, Cond.instanceMethod yX1_countCombers, Cond.selects RX1 yX1_countCombers yX1_countCombers, Cond.code yX1_countCombers cX1_countCombers 5 none, Cond.methodLink RX1 77 yX0_combs, Cond.instanceMethod yX0_combs, Cond.selects RX0 yX0_combs yX0_combs, Cond.code yX0_combs cX0_combs 1 (some .boolean), Cond.methodLink RX2 141 yX1_copyFrom, Cond.instanceMethod yX1_copyFrom, Cond.selects RX1 yX1_copyFrom yX1_copyFrom]
def wsL_law0_r14 : List Cond := [Cond.code yX1_copyFrom cX1_copyFrom 3 none, Cond.fieldLink RX1 41 "CombersSociety$Society" "week" "I", Cond.fieldLink RX1 44 "CombersSociety$Society" "joined" "I", Cond.fieldLink RX1 47 "CombersSociety$Society" "tops" "I", Cond.fieldLink RX1 50 "CombersSociety$Society" "sickPaid" "I", Cond.fieldLink RX1 53 "CombersSociety$Society" "funeralsPaid" "I", Cond.methodLink RX1 56 yX0_copyFrom, Cond.instanceMethod yX0_copyFrom, Cond.selects RX0 yX0_copyFrom yX0_copyFrom, Cond.code yX0_copyFrom cX0_copyFrom 2 none, Cond.fieldLink RX0 39 "CombersSociety$Member" "unburied" "Z", Cond.methodLink RX2 145 yX1_lightFires, Cond.instanceMethod yX1_lightFires, Cond.selects RX1 yX1_lightFires yX1_lightFires, Cond.code yX1_lightFires cX1_lightFires 2 none, Cond.methodLink RX1 130 Lib.Math.min.name, Cond.methodLink RX1 133 Lib.Math.max.name, Cond.static Lib.Math.max.name, Cond.code Lib.Math.max.name Lib.Math.max.code 2 (some .int), Cond.methodLink RX2 177 yX1_poundsOfPot, Cond.instanceMethod yX1_poundsOfPot, Cond.selects RX1 yX1_poundsOfPot yX1_poundsOfPot, Cond.code yX1_poundsOfPot cX1_poundsOfPot 7 (some .int), Cond.methodLink RX1 139 yX1_poundsOf]
def wsL_law0_r15 : List Cond := [Cond.instanceMethod yX1_poundsOf, Cond.selects RX1 yX1_poundsOf yX1_poundsOf, Cond.code yX1_poundsOf cX1_poundsOf 3 (some .int), Cond.fieldLink RX1 136 "CombersSociety$Member" "skill" "I", Cond.methodLink RL 112 yX4_pot, Cond.instanceMethod yX4_pot, Cond.selects RX4 yX4_pot yX4_pot, Cond.code yX4_pot cX4_pot 3 (some .int), Cond.methodLink RX4 110 yX4_potTold, Cond.instanceMethod yX4_potTold, Cond.selects RX4 yX4_potTold yX4_potTold, Cond.code yX4_potTold cX4_potTold 3 (some .int), Cond.methodLink RX4 104 yX3_combers, Cond.instanceMethod yX3_combers, Cond.selects RX3 yX3_combers yX3_combers, Cond.code yX3_combers cX3_combers 4 (some .int), Cond.methodLink RX3 61 yX3_combs, Cond.instanceMethod yX3_combs, Cond.selects RX3 yX3_combs yX3_combs, Cond.code yX3_combs cX3_combs 2 (some .boolean), Cond.methodLink RX4 107 yX4_combed, Cond.instanceMethod yX4_combed, Cond.selects RX4 yX4_combed yX4_combed, Cond.code yX4_combed cX4_combed 4 (some .int)]
def wsL_law0_r16 : List Cond := [Cond.methodLink RX4 88 yX3_become, Cond.instanceMethod yX3_become, Cond.selects RX3 yX3_become yX3_become, Cond.code yX3_become cX3_become 2 none, Cond.fieldLink RX3 32 "CombersSocietyModel$State" "week" "I", Cond.fieldLink RX3 38 "CombersSocietyModel$State" "tops" "I", Cond.fieldLink RX3 41 "CombersSocietyModel$State" "nursed" "I", Cond.fieldLink RX3 44 "CombersSocietyModel$State" "buried" "I", Cond.fieldLink RX3 47 "CombersSocietyModel$State" "isShort" "Z", Cond.methodLink RX3 51 arraycopyName, Cond.methodLink RX4 92 yX3_fire, Cond.instanceMethod yX3_fire, Cond.selects RX3 yX3_fire yX3_fire, Cond.code yX3_fire cX3_fire 3 none, Cond.methodLink RX3 74 Lib.Math.max.name, Cond.methodLink RX3 65 yX3_combers, Cond.methodLink RX4 95 yX3_combs, Cond.methodLink RX4 98 yX3_pounds, Cond.instanceMethod yX3_pounds, Cond.selects RX3 yX3_pounds yX3_pounds, Cond.code yX3_pounds cX3_pounds 3 (some .int), Cond.methodLink RL 113 yL_count, Cond.static yL_count, Cond.codeWith yL_count cL_count 4 (some .int) [(0, 9, 12, 20)]]
def wsL_law0_r17 : List Cond := [Cond.methodLink RL 48 yX2_count, Cond.instanceMethod yX2_count, Cond.selects RX2 yX2_count yX2_count, Cond.code yX2_count cX2_count 2 (some .int), Cond.methodLink RX2 132 yX1_tally, Cond.instanceMethod yX1_tally, Cond.selects RX1 yX1_tally yX1_tally, Cond.code yX1_tally cX1_tally 2 (some .int), Cond.methodLink RX1 86 yX1_howMany, Cond.instanceMethod yX1_howMany, Cond.selects RX1 yX1_howMany yX1_howMany, Cond.code yX1_howMany cX1_howMany 7 (some .int), Cond.methodLink RX1 89 yX1_coinsInPurses, Cond.instanceMethod yX1_coinsInPurses, Cond.selects RX1 yX1_coinsInPurses yX1_coinsInPurses, Cond.code yX1_coinsInPurses cX1_coinsInPurses 6 (some .int), Cond.fieldLink RX1 80 "CombersSociety$Member" "coins" "I", Cond.methodLink RX1 93 yX1_marksOfAll, Cond.instanceMethod yX1_marksOfAll, Cond.selects RX1 yX1_marksOfAll yX1_marksOfAll, Cond.code yX1_marksOfAll cX1_marksOfAll 6 (some .int), Cond.fieldLink RX1 83 "CombersSociety$Member" "marks" "I", Cond.methodLink RL 115 yX4_count, Cond.instanceMethod yX4_count]
def wsL_law0_r18 : List Cond := [Cond.selects RX4 yX4_count yX4_count, Cond.code yX4_count cX4_count 2 (some .int), Cond.methodLink RX4 128 yX4_counted, Cond.static yX4_counted, Cond.code yX4_counted cX4_counted 2 (some .int), Cond.methodLink RX4 116 yX3_many, Cond.instanceMethod yX3_many, Cond.selects RX3 yX3_many yX3_many, Cond.code yX3_many cX3_many 4 (some .int), Cond.methodLink RX4 119 yX3_all, Cond.instanceMethod yX3_all, Cond.selects RX3 yX3_all yX3_all, Cond.code yX3_all cX3_all 4 (some .int), Cond.methodLink RL 116 yL_pass, Cond.static yL_pass, Cond.codeWith yL_pass cL_pass 4 (some .int) [(0, 9, 12, 13)], Cond.methodLink RL 51 yX2_pass, Cond.instanceMethod yX2_pass, Cond.selects RX2 yX2_pass yX2_pass, Cond.code yX2_pass cX2_pass 3 (some .int), Cond.methodLink RX2 137 yX1_liveWeeks, Cond.instanceMethod yX1_liveWeeks, Cond.selects RX1 yX1_liveWeeks yX1_liveWeeks, Cond.code yX1_liveWeeks cX1_liveWeeks 3 none]
def wsL_law0_r19 : List Cond := [Cond.methodLink RX1 96 yX1_liveWeek, Cond.instanceMethod yX1_liveWeek, Cond.selects RX1 yX1_liveWeek yX1_liveWeek, Cond.code yX1_liveWeek cX1_liveWeek 1 none, Cond.fieldLink RX1 99 "CombersSociety$Society" "fellShort" "Z", Cond.methodLink RX1 103 yX1_lightFires, Cond.methodLink RX1 106 yX1_combWool, Cond.instanceMethod yX1_combWool, Cond.selects RX1 yX1_combWool yX1_combWool, Cond.code yX1_combWool cX1_combWool 6 none, Cond.methodLink RX1 109 yX1_spreadFever, Cond.instanceMethod yX1_spreadFever, Cond.selects RX1 yX1_spreadFever yX1_spreadFever, Cond.code yX1_spreadFever cX1_spreadFever 6 none, Cond.methodLink RX1 118 yJ9_floorMod_7cf53, Cond.static yJ9_floorMod_7cf53, Cond.initialized RJ9, Cond.code yJ9_floorMod_7cf53 cJ9_floorMod_7cf53 3 (some .int), Cond.methodLink RX1 143 yX0_fallSick, Cond.instanceMethod yX0_fallSick, Cond.selects RX0 yX0_fallSick yX0_fallSick, Cond.code yX0_fallSick cX0_fallSick 1 none, Cond.methodLink RX1 112 yX1_nurseSick, Cond.instanceMethod yX1_nurseSick]
def wsL_law0_r20 : List Cond := [Cond.selects RX1 yX1_nurseSick yX1_nurseSick, Cond.code yX1_nurseSick cX1_nurseSick 5 none, Cond.methodLink RX1 146 yX1_nurse, Cond.instanceMethod yX1_nurse, Cond.selects RX1 yX1_nurse yX1_nurse, Cond.code yX1_nurse cX1_nurse 3 none, Cond.fieldLink RX1 149 "CombersSociety$Member" "strength" "I", Cond.fieldLink RX1 155 "CombersSociety$Member" "weeksSick" "I", Cond.fieldLink RX1 158 "CombersSociety$Member" "weeksLeft" "I", Cond.fieldLink RX1 161 "CombersSociety$Member" "unpaid" "I", Cond.methodLink RX1 152 yX0_die, Cond.instanceMethod yX0_die, Cond.selects RX0 yX0_die yX0_die, Cond.code yX0_die cX0_die 1 none, Cond.methodLink RX1 164 yX1_payOut, Cond.instanceMethod yX1_payOut, Cond.selects RX1 yX1_payOut yX1_payOut, Cond.code yX1_payOut cX1_payOut 3 (some .int), Cond.methodLink RX1 167 yX0_getWell, Cond.instanceMethod yX0_getWell, Cond.selects RX0 yX0_getWell yX0_getWell, Cond.code yX0_getWell cX0_getWell 1 none, Cond.methodLink RX1 115 yX1_takeDues, Cond.instanceMethod yX1_takeDues]
def wsL_law0_r21 : List Cond := [Cond.selects RX1 yX1_takeDues yX1_takeDues, Cond.code yX1_takeDues cX1_takeDues 5 none, Cond.methodLink RX1 170 yX0_payDues, Cond.instanceMethod yX0_payDues, Cond.selects RX0 yX0_payDues yX0_payDues, Cond.code yX0_payDues cX0_payDues 2 (some .int), Cond.methodLink RX1 124 yX1_holdClubNight, Cond.instanceMethod yX1_holdClubNight, Cond.selects RX1 yX1_holdClubNight yX1_holdClubNight, Cond.code yX1_holdClubNight cX1_holdClubNight 5 none, Cond.methodLink RX1 173 yX0_spendClubNight, Cond.instanceMethod yX0_spendClubNight, Cond.selects RX0 yX0_spendClubNight yX0_spendClubNight, Cond.code yX0_spendClubNight cX0_spendClubNight 2 (some .int), Cond.methodLink RX0 49 yX0_payMarks, Cond.methodLink RX1 127 yX1_holdFunerals, Cond.instanceMethod yX1_holdFunerals, Cond.selects RX1 yX1_holdFunerals yX1_holdFunerals, Cond.code yX1_holdFunerals cX1_holdFunerals 5 none, Cond.fieldLink RX1 176 "CombersSociety$Member" "unburied" "Z", Cond.methodLink RX1 179 yX1_bury, Cond.instanceMethod yX1_bury, Cond.selects RX1 yX1_bury yX1_bury, Cond.code yX1_bury cX1_bury 6 none]
def wsL_law0_r22 : List Cond := [Cond.methodLink RL 118 yX4_pass, Cond.instanceMethod yX4_pass, Cond.selects RX4 yX4_pass yX4_pass, Cond.code yX4_pass cX4_pass 4 (some .int), Cond.methodLink RX4 132 yX3_pass, Cond.instanceMethod yX3_pass, Cond.selects RX3 yX3_pass yX3_pass, Cond.code yX3_pass cX3_pass 3 none, Cond.methodLink RX3 100 yX3_fire, Cond.methodLink RX3 103 yX3_comb, Cond.instanceMethod yX3_comb, Cond.selects RX3 yX3_comb yX3_comb, Cond.code yX3_comb cX3_comb 3 none, Cond.methodLink RX3 77 yX3_pounds, Cond.methodLink RX3 106 yX3_fever, Cond.instanceMethod yX3_fever, Cond.selects RX3 yX3_fever yX3_fever, Cond.code yX3_fever cX3_fever 3 none, Cond.methodLink RX3 109 yX3_nurse, Cond.instanceMethod yX3_nurse, Cond.selects RX3 yX3_nurse yX3_nurse, Cond.code yX3_nurse cX3_nurse 3 none, Cond.methodLink RX3 87 yX3_heal, Cond.instanceMethod yX3_heal]
def wsL_law0_r23 : List Cond := [Cond.selects RX3 yX3_heal yX3_heal, Cond.code yX3_heal cX3_heal 3 none, Cond.methodLink RX3 91 yX3_pay, Cond.instanceMethod yX3_pay, Cond.selects RX3 yX3_pay yX3_pay, Cond.code yX3_pay cX3_pay 3 (some .int), Cond.methodLink RX3 113 yX3_payDues, Cond.instanceMethod yX3_payDues, Cond.selects RX3 yX3_payDues yX3_payDues, Cond.code yX3_payDues cX3_payDues 3 none, Cond.methodLink RX3 116 yX3_drink, Cond.instanceMethod yX3_drink, Cond.selects RX3 yX3_drink yX3_drink, Cond.code yX3_drink cX3_drink 2 none, Cond.methodLink RX3 97 yX3_settle, Cond.methodLink RX3 119 yX3_bury, Cond.instanceMethod yX3_bury, Cond.selects RX3 yX3_bury yX3_bury, Cond.code yX3_bury cX3_bury 3 none, Cond.methodLink RL 119 yL_foresee, Cond.static yL_foresee, Cond.codeWith yL_foresee cL_foresee 5 (some .int) [(0, 10, 13, 13), (0, 10, 17, 20)], Cond.methodLink RL 54 yX2_foresee, Cond.instanceMethod yX2_foresee]
def wsL_law0_r24 : List Cond := [Cond.selects RX2 yX2_foresee yX2_foresee, Cond.code yX2_foresee cX2_foresee 3 (some .int), Cond.methodLink RL 121 yX4_foresee, Cond.instanceMethod yX4_foresee, Cond.selects RX4 yX4_foresee yX4_foresee, Cond.code yX4_foresee cX4_foresee 4 (some .int), Cond.methodLink RL 122 yL_earns, Cond.static yL_earns, Cond.codeWith yL_earns cL_earns 4 (some .int) [(0, 9, 12, 20)], Cond.methodLink RL 57 yX2_earns, Cond.instanceMethod yX2_earns, Cond.selects RX2 yX2_earns yX2_earns, Cond.code yX2_earns cX2_earns 2 (some .int), Cond.methodLink RX2 148 yX1_combWool, Cond.methodLink RL 124 yX4_earns, Cond.instanceMethod yX4_earns, Cond.selects RX4 yX4_earns yX4_earns, Cond.code yX4_earns cX4_earns 2 (some .int), Cond.methodLink RX4 135 yX3_comb, Cond.methodLink RL 125 yL_dies, Cond.static yL_dies, Cond.codeWith yL_dies cL_dies 4 (some .int) [(0, 9, 12, 20)], Cond.methodLink RL 60 yX2_dies, Cond.instanceMethod yX2_dies]
def wsL_law0_r25 : List Cond := [Cond.selects RX2 yX2_dies yX2_dies, Cond.code yX2_dies cX2_dies 4 (some .int), Cond.methodLink RX2 151 yX1_liveWeek, Cond.methodLink RL 127 yX4_dies, Cond.instanceMethod yX4_dies, Cond.selects RX4 yX4_dies yX4_dies, Cond.code yX4_dies cX4_dies 3 (some .int), Cond.methodLink RL 128 yX2_lasts, Cond.instanceMethod yX2_lasts, Cond.selects RX2 yX2_lasts yX2_lasts, Cond.code yX2_lasts cX2_lasts 2 (some .int), Cond.fieldLink RX2 154 "CombersSociety$Society" "fellShort" "Z", Cond.methodLink RL 131 yX4_lasts, Cond.instanceMethod yX4_lasts, Cond.selects RX4 yX4_lasts yX4_lasts, Cond.code yX4_lasts cX4_lasts 2 (some .int), Cond.methodLink RL 132 yL_advise, Cond.static yL_advise, Cond.codeWith yL_advise cL_advise 4 (some .int) [(0, 9, 12, 20), (0, 9, 15, 15)], Cond.methodLink RL 63 yX2_advise, Cond.instanceMethod yX2_advise, Cond.selects RX2 yX2_advise yX2_advise, Cond.code yX2_advise cX2_advise 6 (some .int), Cond.methodLink RL 134 yX4_advise]
def wsL_law0_r26 : List Cond := [Cond.instanceMethod yX4_advise, Cond.selects RX4 yX4_advise yX4_advise, Cond.code yX4_advise cX4_advise 6 (some .int), Cond.methodLink RL 135 yX2_mean, Cond.instanceMethod yX2_mean, Cond.selects RX2 yX2_mean yX2_mean, Cond.code yX2_mean cX2_mean 7 (some .double), Cond.fieldLink RX2 161 "CombersSociety$Member" "strength" "I", Cond.methodLink RX2 158 yX1_howMany, Cond.methodLink RL 139 yX4_mean, Cond.instanceMethod yX4_mean, Cond.selects RX4 yX4_mean yX4_mean, Cond.code yX4_mean cX4_mean 2 (some .double), Cond.methodLink RL 140 yX2_digest, Cond.instanceMethod yX2_digest, Cond.selects RX2 yX2_digest yX2_digest, Cond.code yX2_digest cX2_digest 8 (some .long), Cond.constantLong RX2 164 (1361), Cond.constantLong RX2 166 (31), Cond.methodLink RL 144 yX4_digest, Cond.instanceMethod yX4_digest, Cond.selects RX4 yX4_digest yX4_digest, Cond.code yX4_digest cX4_digest 7 (some .long), Cond.constantLong RX4 142 (1361)]
def wsL_law0_r27 : List Cond := [Cond.constantLong RX4 144 (31)]
def wsL_law0 : List Cond := (wsL_law0_r1 ++ (wsL_law0_r2 ++ (wsL_law0_r3 ++ (wsL_law0_r4 ++ (wsL_law0_r5 ++ (wsL_law0_r6 ++ (wsL_law0_r7 ++ (wsL_law0_r8 ++ (wsL_law0_r9 ++ (wsL_law0_r10 ++ (wsL_law0_r11 ++ (wsL_law0_r12 ++ (wsL_law0_r13 ++ (wsL_law0_r14 ++ (wsL_law0_r15 ++ (wsL_law0_r16 ++ (wsL_law0_r17 ++ (wsL_law0_r18 ++ (wsL_law0_r19 ++ (wsL_law0_r20 ++ (wsL_law0_r21 ++ (wsL_law0_r22 ++ (wsL_law0_r23 ++ (wsL_law0_r24 ++ (wsL_law0_r25 ++ (wsL_law0_r26 ++ wsL_law0_r27)))))))))))))))))))))))))) ++ wsX20 ++ wsX40 ++ wsX10 ++ wsX00 ++ wsX30 ++ ([] : List Cond)
def wsL_law : List Cond := wsL_law0 ++ (vx_atS RX2 27 "java/lang/IllegalArgumentException" ["java/lang/RuntimeException", "java/lang/Exception"]).filter goodWord ++ (vx_atS RX2 38 "java/lang/IllegalStateException" ["java/lang/RuntimeException", "java/lang/Exception"]).filter goodWord ++ (vx_atS RX2 57 "java/lang/IndexOutOfBoundsException" ["java/lang/RuntimeException", "java/lang/Exception"]).filter goodWord
end
section
set_option maxRecDepth 20000 in
theorem wsL_law0_r1_in : ∀ w ∈ wsL_law0_r1, w ∈ lw_tbl := fun w h => (goodIn_p wsL_law0_r1 [33, 36, 41] (by decide +kernel) (by decide +kernel) w h).1
set_option maxRecDepth 20000 in
theorem wsL_law0_r2_in : ∀ w ∈ wsL_law0_r2, w ∈ lw_tbl := fun w h => (goodIn_p wsL_law0_r2 [48, 576] (by decide +kernel) (by decide +kernel) w h).1
set_option maxRecDepth 20000 in
theorem wsL_law0_r3_in : ∀ w ∈ wsL_law0_r3, w ∈ lw_tbl := fun w h => (goodIn_p wsL_law0_r3 [582, 326] (by decide +kernel) (by decide +kernel) w h).1
set_option maxRecDepth 20000 in
theorem wsL_law0_r4_in : ∀ w ∈ wsL_law0_r4, w ∈ lw_tbl := fun w h => (goodIn_p wsL_law0_r4 [329, 417, 657] (by decide +kernel) (by decide +kernel) w h).1
set_option maxRecDepth 20000 in
theorem wsL_law0_r5_in : ∀ w ∈ wsL_law0_r5, w ∈ lw_tbl := fun w h => (goodIn_p wsL_law0_r5 [660, 664, 653, 425] (by decide +kernel) (by decide +kernel) w h).1
set_option maxRecDepth 20000 in
theorem wsL_law0_r6_in : ∀ w ∈ wsL_law0_r6, w ∈ lw_tbl := fun w h => (goodIn_p wsL_law0_r6 [429, 449, 304, 265, 671, 675] (by decide +kernel) (by decide +kernel) w h).1
set_option maxRecDepth 20000 in
theorem wsL_law0_r7_in : ∀ w ∈ wsL_law0_r7, w ∈ lw_tbl := fun w h => (goodIn_p wsL_law0_r7 [679, 683, 687, 691, 696] (by decide +kernel) (by decide +kernel) w h).1
set_option maxRecDepth 20000 in
theorem wsL_law0_r8_in : ∀ w ∈ wsL_law0_r8, w ∈ lw_tbl := fun w h => (goodIn_p wsL_law0_r8 [458, 700, 468, 253] (by decide +kernel) (by decide +kernel) w h).1
set_option maxRecDepth 20000 in
theorem wsL_law0_r9_in : ∀ w ∈ wsL_law0_r9, w ∈ lw_tbl := fun w h => (goodIn_p wsL_law0_r9 [190, 704, 708, 477] (by decide +kernel) (by decide +kernel) w h).1
end
section
set_option maxRecDepth 20000 in
theorem wsL_law0_r10_in : ∀ w ∈ wsL_law0_r10, w ∈ lw_tbl := fun w h => (goodIn_p wsL_law0_r10 [317, 714, 159, 718, 485] (by decide +kernel) (by decide +kernel) w h).1
set_option maxRecDepth 20000 in
theorem wsL_law0_r11_in : ∀ w ∈ wsL_law0_r11, w ∈ lw_tbl := fun w h => (goodIn_p wsL_law0_r11 [722, 494, 726, 502] (by decide +kernel) (by decide +kernel) w h).1
set_option maxRecDepth 20000 in
theorem wsL_law0_r12_in : ∀ w ∈ wsL_law0_r12, w ∈ lw_tbl := fun w h => (goodIn_p wsL_law0_r12 [730, 512, 734, 521] (by decide +kernel) (by decide +kernel) w h).1
set_option maxRecDepth 20000 in
theorem wsL_law0_r13_in : ∀ w ∈ wsL_law0_r13, w ∈ lw_tbl := fun w h => (goodIn_p wsL_law0_r13 [296, 300, 308, 183, 187] (by decide +kernel) (by decide +kernel) w h).1
set_option maxRecDepth 20000 in
theorem wsL_law0_r14_in : ∀ w ∈ wsL_law0_r14, w ∈ lw_tbl := fun w h => (goodIn_p wsL_law0_r14 [167, 171, 179, 193, 313] (by decide +kernel) (by decide +kernel) w h).1
set_option maxRecDepth 20000 in
theorem wsL_law0_r15_in : ∀ w ∈ wsL_law0_r15, w ∈ lw_tbl := fun w h => (goodIn_p wsL_law0_r15 [201, 738, 742, 746, 750, 754] (by decide +kernel) (by decide +kernel) w h).1
set_option maxRecDepth 20000 in
theorem wsL_law0_r16_in : ∀ w ∈ wsL_law0_r16, w ∈ lw_tbl := fun w h => (goodIn_p wsL_law0_r16 [758, 763, 770] (by decide +kernel) (by decide +kernel) w h).1
set_option maxRecDepth 20000 in
theorem wsL_law0_r17_in : ∀ w ∈ wsL_law0_r17, w ∈ lw_tbl := fun w h => (goodIn_p wsL_law0_r17 [529, 283, 273, 288, 292] (by decide +kernel) (by decide +kernel) w h).1
set_option maxRecDepth 20000 in
theorem wsL_law0_r18_in : ∀ w ∈ wsL_law0_r18, w ∈ lw_tbl := fun w h => (goodIn_p wsL_law0_r18 [774, 777, 781, 785, 536, 541] (by decide +kernel) (by decide +kernel) w h).1
end
section
set_option maxRecDepth 20000 in
theorem wsL_law0_r19_in : ∀ w ∈ wsL_law0_r19, w ∈ lw_tbl := fun w h => (goodIn_p wsL_law0_r19 [175, 197, 205, 208, 212] (by decide +kernel) (by decide +kernel) w h).1
set_option maxRecDepth 20000 in
theorem wsL_law0_r20_in : ∀ w ∈ wsL_law0_r20, w ∈ lw_tbl := fun w h => (goodIn_p wsL_law0_r20 [216, 220, 224, 228, 232] (by decide +kernel) (by decide +kernel) w h).1
set_option maxRecDepth 20000 in
theorem wsL_law0_r21_in : ∀ w ∈ wsL_law0_r21, w ∈ lw_tbl := fun w h => (goodIn_p wsL_law0_r21 [236, 240, 245, 249, 257, 261] (by decide +kernel) (by decide +kernel) w h).1
set_option maxRecDepth 20000 in
theorem wsL_law0_r22_in : ∀ w ∈ wsL_law0_r22, w ∈ lw_tbl := fun w h => (goodIn_p wsL_law0_r22 [789, 793, 798, 803, 807] (by decide +kernel) (by decide +kernel) w h).1
set_option maxRecDepth 20000 in
theorem wsL_law0_r23_in : ∀ w ∈ wsL_law0_r23, w ∈ lw_tbl := fun w h => (goodIn_p wsL_law0_r23 [811, 815, 819, 823, 828] (by decide +kernel) (by decide +kernel) w h).1
set_option maxRecDepth 20000 in
theorem wsL_law0_r24_in : ∀ w ∈ wsL_law0_r24, w ∈ lw_tbl := fun w h => (goodIn_p wsL_law0_r24 [549, 832, 556, 836] (by decide +kernel) (by decide +kernel) w h).1
set_option maxRecDepth 20000 in
theorem wsL_law0_r25_in : ∀ w ∈ wsL_law0_r25, w ∈ lw_tbl := fun w h => (goodIn_p wsL_law0_r25 [564, 841, 163, 845, 571] (by decide +kernel) (by decide +kernel) w h).1
set_option maxRecDepth 20000 in
theorem wsL_law0_r26_in : ∀ w ∈ wsL_law0_r26, w ∈ lw_tbl := fun w h => (goodIn_p wsL_law0_r26 [849, 269, 853, 277, 857] (by decide +kernel) (by decide +kernel) w h).1
set_option maxRecDepth 20000 in
theorem wsL_law0_r27_in : ∀ w ∈ wsL_law0_r27, w ∈ lw_tbl := fun w h => (goodIn_p wsL_law0_r27 [] (by decide +kernel) (by decide +kernel) w h).1
theorem wsX20_in : ∀ w ∈ wsX20, w ∈ lw_tbl := fun w h => (goodIn_p wsX20 [] (by decide +kernel) (by decide +kernel) w h).1
theorem wsX40_in : ∀ w ∈ wsX40, w ∈ lw_tbl := fun w h => (goodIn_p wsX40 [] (by decide +kernel) (by decide +kernel) w h).1
theorem wsX10_in : ∀ w ∈ wsX10, w ∈ lw_tbl := fun w h => (goodIn_p wsX10 [] (by decide +kernel) (by decide +kernel) w h).1
theorem wsX00_in : ∀ w ∈ wsX00, w ∈ lw_tbl := fun w h => (goodIn_p wsX00 [] (by decide +kernel) (by decide +kernel) w h).1
theorem wsX30_in : ∀ w ∈ wsX30, w ∈ lw_tbl := fun w h => (goodIn_p wsX30 [] (by decide +kernel) (by decide +kernel) w h).1
theorem wsL_law_in00 : ∀ w ∈ (wsL_law0_r1 ++ (wsL_law0_r2 ++ (wsL_law0_r3 ++ (wsL_law0_r4 ++ (wsL_law0_r5 ++ (wsL_law0_r6 ++ (wsL_law0_r7 ++ (wsL_law0_r8 ++ (wsL_law0_r9 ++ (wsL_law0_r10 ++ (wsL_law0_r11 ++ (wsL_law0_r12 ++ (wsL_law0_r13 ++ (wsL_law0_r14 ++ (wsL_law0_r15 ++ (wsL_law0_r16 ++ (wsL_law0_r17 ++ (wsL_law0_r18 ++ (wsL_law0_r19 ++ (wsL_law0_r20 ++ (wsL_law0_r21 ++ (wsL_law0_r22 ++ (wsL_law0_r23 ++ (wsL_law0_r24 ++ (wsL_law0_r25 ++ (wsL_law0_r26 ++ (wsL_law0_r27))))))))))))))))))))))))))), w ∈ lw_tbl := fun w h => (List.mem_append.mp h).elim (fun h => wsL_law0_r1_in w h) (fun h => (List.mem_append.mp h).elim (fun h => wsL_law0_r2_in w h) (fun h => (List.mem_append.mp h).elim (fun h => wsL_law0_r3_in w h) (fun h => (List.mem_append.mp h).elim (fun h => wsL_law0_r4_in w h) (fun h => (List.mem_append.mp h).elim (fun h => wsL_law0_r5_in w h) (fun h => (List.mem_append.mp h).elim (fun h => wsL_law0_r6_in w h) (fun h => (List.mem_append.mp h).elim (fun h => wsL_law0_r7_in w h) (fun h => (List.mem_append.mp h).elim (fun h => wsL_law0_r8_in w h) (fun h => (List.mem_append.mp h).elim (fun h => wsL_law0_r9_in w h) (fun h => (List.mem_append.mp h).elim (fun h => wsL_law0_r10_in w h) (fun h => (List.mem_append.mp h).elim (fun h => wsL_law0_r11_in w h) (fun h => (List.mem_append.mp h).elim (fun h => wsL_law0_r12_in w h) (fun h => (List.mem_append.mp h).elim (fun h => wsL_law0_r13_in w h) (fun h => (List.mem_append.mp h).elim (fun h => wsL_law0_r14_in w h) (fun h => (List.mem_append.mp h).elim (fun h => wsL_law0_r15_in w h) (fun h => (List.mem_append.mp h).elim (fun h => wsL_law0_r16_in w h) (fun h => (List.mem_append.mp h).elim (fun h => wsL_law0_r17_in w h) (fun h => (List.mem_append.mp h).elim (fun h => wsL_law0_r18_in w h) (fun h => (List.mem_append.mp h).elim (fun h => wsL_law0_r19_in w h) (fun h => (List.mem_append.mp h).elim (fun h => wsL_law0_r20_in w h) (fun h => (List.mem_append.mp h).elim (fun h => wsL_law0_r21_in w h) (fun h => (List.mem_append.mp h).elim (fun h => wsL_law0_r22_in w h) (fun h => (List.mem_append.mp h).elim (fun h => wsL_law0_r23_in w h) (fun h => (List.mem_append.mp h).elim (fun h => wsL_law0_r24_in w h) (fun h => (List.mem_append.mp h).elim (fun h => wsL_law0_r25_in w h) (fun h => (List.mem_append.mp h).elim (fun h => wsL_law0_r26_in w h) (fun h => wsL_law0_r27_in w h))))))))))))))))))))))))))
theorem wsL_law_in0 : ∀ w ∈ wsL_law0, w ∈ lw_tbl := fun w h => (List.mem_append.mp h).elim (fun h => (List.mem_append.mp h).elim (fun h => (List.mem_append.mp h).elim (fun h => (List.mem_append.mp h).elim (fun h => (List.mem_append.mp h).elim (fun h => (List.mem_append.mp h).elim (fun h => wsL_law_in00 w h) (fun h => wsX20_in w h)) (fun h => wsX40_in w h)) (fun h => wsX10_in w h)) (fun h => wsX00_in w h)) (fun h => wsX30_in w h)) (fun h => absurd h List.not_mem_nil)
end
section
theorem wsL_law_x0 : ∀ w ∈ (vx_atS RX2 27 "java/lang/IllegalArgumentException" ["java/lang/RuntimeException", "java/lang/Exception"]).filter goodWord, w ∈ lw_tbl := by decide +kernel
theorem wsL_law_x1 : ∀ w ∈ (vx_atS RX2 38 "java/lang/IllegalStateException" ["java/lang/RuntimeException", "java/lang/Exception"]).filter goodWord, w ∈ lw_tbl := by decide +kernel
theorem wsL_law_x2 : ∀ w ∈ (vx_atS RX2 57 "java/lang/IndexOutOfBoundsException" ["java/lang/RuntimeException", "java/lang/Exception"]).filter goodWord, w ∈ lw_tbl := by decide +kernel
theorem wsL_law_in : ∀ w ∈ wsL_law, w ∈ lw_tbl := fun w h => (List.mem_append.mp h).elim (fun h => (List.mem_append.mp h).elim (fun h => (List.mem_append.mp h).elim (fun h => wsL_law_in0 w h) (fun h => wsL_law_x0 w h)) (fun h => wsL_law_x1 w h)) (fun h => wsL_law_x2 w h)
theorem inlX0 : ∀ w ∈ wsX00, w ∈ wsL_law := fun _ h => List.mem_append_left _ (List.mem_append_left _ (List.mem_append_left _ (List.mem_append_left _ (List.mem_append_left _ (List.mem_append_right _ h)))))
theorem inX0 : ∀ w ∈ wsX00, w ∈ lw_tbl := fun w h => wsL_law_in w (inlX0 w h)
theorem inlX1 : ∀ w ∈ wsX10, w ∈ wsL_law := fun _ h => List.mem_append_left _ (List.mem_append_left _ (List.mem_append_left _ (List.mem_append_left _ (List.mem_append_left _ (List.mem_append_left _ (List.mem_append_right _ h))))))
theorem inX1 : ∀ w ∈ wsX10, w ∈ lw_tbl := fun w h => wsL_law_in w (inlX1 w h)
theorem inlX2 : ∀ w ∈ wsX20, w ∈ wsL_law := fun _ h => List.mem_append_left _ (List.mem_append_left _ (List.mem_append_left _ (List.mem_append_left _ (List.mem_append_left _ (List.mem_append_left _ (List.mem_append_left _ (List.mem_append_left _ (List.mem_append_right _ h))))))))
theorem inX2 : ∀ w ∈ wsX20, w ∈ lw_tbl := fun w h => wsL_law_in w (inlX2 w h)
theorem inlX3 : ∀ w ∈ wsX30, w ∈ wsL_law := fun _ h => List.mem_append_left _ (List.mem_append_left _ (List.mem_append_left _ (List.mem_append_left _ (List.mem_append_right _ h))))
theorem inX3 : ∀ w ∈ wsX30, w ∈ lw_tbl := fun w h => wsL_law_in w (inlX3 w h)
theorem inlX4 : ∀ w ∈ wsX40, w ∈ wsL_law := fun _ h => List.mem_append_left _ (List.mem_append_left _ (List.mem_append_left _ (List.mem_append_left _ (List.mem_append_left _ (List.mem_append_left _ (List.mem_append_left _ (List.mem_append_right _ h)))))))
theorem inX4 : ∀ w ∈ wsX40, w ∈ lw_tbl := fun w h => wsL_law_in w (inlX4 w h)
theorem inJ9 : ∀ w ∈ wsJ90, w ∈ lw_tbl := by decide +kernel
theorem inJ0 : ∀ w ∈ wsJ00, w ∈ lw_tbl := by decide +kernel
theorem inJ10 : ∀ w ∈ wsJ100, w ∈ lw_tbl := by decide +kernel
theorem dX0_init_0 : decode cX0_init 0 = .ok (.aload_n 0, 1) := by decide +kernel
theorem dX0_init_1 : decode cX0_init 1 = .ok (.invokespecial 3, 3) := by decide +kernel
theorem dX0_init_4 : decode cX0_init 4 = .ok (.aload_n 0, 1) := by decide +kernel
theorem dX0_init_5 : decode cX0_init 5 = .ok (.iconst (-1), 1) := by decide +kernel
theorem dX0_init_6 : decode cX0_init 6 = .ok (.putfield 9, 3) := by decide +kernel
theorem dX0_init_9 : decode cX0_init 9 = .ok (.aload_n 0, 1) := by decide +kernel
theorem dX0_init_10 : decode cX0_init 10 = .ok (.iconst 3, 1) := by decide +kernel
theorem dX0_init_11 : decode cX0_init 11 = .ok (.putfield 15, 3) := by decide +kernel
theorem dX0_init_14 : decode cX0_init 14 = .ok (.return_, 1) := by decide +kernel
theorem dX0_enter_0 : decode cX0_enter 0 = .ok (.aload_n 0, 1) := by decide +kernel
theorem dX0_enter_1 : decode cX0_enter 1 = .ok (.iload_n 1, 1) := by decide +kernel
theorem dX0_enter_2 : decode cX0_enter 2 = .ok (.putfield 18, 3) := by decide +kernel
theorem dX0_enter_5 : decode cX0_enter 5 = .ok (.aload_n 0, 1) := by decide +kernel
theorem dX0_enter_6 : decode cX0_enter 6 = .ok (.iload_n 2, 1) := by decide +kernel
theorem dX0_enter_7 : decode cX0_enter 7 = .ok (.putfield 21, 3) := by decide +kernel
theorem dX0_enter_10 : decode cX0_enter 10 = .ok (.aload_n 0, 1) := by decide +kernel
theorem dX0_enter_11 : decode cX0_enter 11 = .ok (.bipush 10, 2) := by decide +kernel
theorem dX0_enter_13 : decode cX0_enter 13 = .ok (.putfield 24, 3) := by decide +kernel
theorem dX0_enter_16 : decode cX0_enter 16 = .ok (.aload_n 0, 1) := by decide +kernel
theorem dX0_enter_17 : decode cX0_enter 17 = .ok (.iconst 0, 1) := by decide +kernel
theorem dX0_enter_18 : decode cX0_enter 18 = .ok (.putfield 15, 3) := by decide +kernel
theorem dX0_enter_21 : decode cX0_enter 21 = .ok (.return_, 1) := by decide +kernel
theorem dX0_copyFrom_0 : decode cX0_copyFrom 0 = .ok (.aload_n 0, 1) := by decide +kernel
theorem dX0_copyFrom_1 : decode cX0_copyFrom 1 = .ok (.aload_n 1, 1) := by decide +kernel
theorem dX0_copyFrom_2 : decode cX0_copyFrom 2 = .ok (.getfield 18, 3) := by decide +kernel
theorem dX0_copyFrom_5 : decode cX0_copyFrom 5 = .ok (.putfield 18, 3) := by decide +kernel
theorem dX0_copyFrom_8 : decode cX0_copyFrom 8 = .ok (.aload_n 0, 1) := by decide +kernel
theorem dX0_copyFrom_9 : decode cX0_copyFrom 9 = .ok (.aload_n 1, 1) := by decide +kernel
theorem dX0_copyFrom_10 : decode cX0_copyFrom 10 = .ok (.getfield 21, 3) := by decide +kernel
theorem dX0_copyFrom_13 : decode cX0_copyFrom 13 = .ok (.putfield 21, 3) := by decide +kernel
theorem dX0_copyFrom_16 : decode cX0_copyFrom 16 = .ok (.aload_n 0, 1) := by decide +kernel
theorem dX0_copyFrom_17 : decode cX0_copyFrom 17 = .ok (.aload_n 1, 1) := by decide +kernel
theorem dX0_copyFrom_18 : decode cX0_copyFrom 18 = .ok (.getfield 24, 3) := by decide +kernel
theorem dX0_copyFrom_21 : decode cX0_copyFrom 21 = .ok (.putfield 24, 3) := by decide +kernel
theorem dX0_copyFrom_24 : decode cX0_copyFrom 24 = .ok (.aload_n 0, 1) := by decide +kernel
theorem dX0_copyFrom_25 : decode cX0_copyFrom 25 = .ok (.aload_n 1, 1) := by decide +kernel
theorem dX0_copyFrom_26 : decode cX0_copyFrom 26 = .ok (.getfield 27, 3) := by decide +kernel
theorem dX0_copyFrom_29 : decode cX0_copyFrom 29 = .ok (.putfield 27, 3) := by decide +kernel
theorem dX0_copyFrom_32 : decode cX0_copyFrom 32 = .ok (.aload_n 0, 1) := by decide +kernel
theorem dX0_copyFrom_33 : decode cX0_copyFrom 33 = .ok (.aload_n 1, 1) := by decide +kernel
theorem dX0_copyFrom_34 : decode cX0_copyFrom 34 = .ok (.getfield 30, 3) := by decide +kernel
theorem dX0_copyFrom_37 : decode cX0_copyFrom 37 = .ok (.putfield 30, 3) := by decide +kernel
theorem dX0_copyFrom_40 : decode cX0_copyFrom 40 = .ok (.aload_n 0, 1) := by decide +kernel
theorem dX0_copyFrom_41 : decode cX0_copyFrom 41 = .ok (.aload_n 1, 1) := by decide +kernel
theorem dX0_copyFrom_42 : decode cX0_copyFrom 42 = .ok (.getfield 9, 3) := by decide +kernel
theorem dX0_copyFrom_45 : decode cX0_copyFrom 45 = .ok (.putfield 9, 3) := by decide +kernel
theorem dX0_copyFrom_48 : decode cX0_copyFrom 48 = .ok (.aload_n 0, 1) := by decide +kernel
theorem dX0_copyFrom_49 : decode cX0_copyFrom 49 = .ok (.aload_n 1, 1) := by decide +kernel
theorem dX0_copyFrom_50 : decode cX0_copyFrom 50 = .ok (.getfield 15, 3) := by decide +kernel
theorem dX0_copyFrom_53 : decode cX0_copyFrom 53 = .ok (.putfield 15, 3) := by decide +kernel
theorem dX0_copyFrom_56 : decode cX0_copyFrom 56 = .ok (.aload_n 0, 1) := by decide +kernel
theorem dX0_copyFrom_57 : decode cX0_copyFrom 57 = .ok (.aload_n 1, 1) := by decide +kernel
theorem dX0_copyFrom_58 : decode cX0_copyFrom 58 = .ok (.getfield 33, 3) := by decide +kernel
theorem dX0_copyFrom_61 : decode cX0_copyFrom 61 = .ok (.putfield 33, 3) := by decide +kernel
theorem dX0_copyFrom_64 : decode cX0_copyFrom 64 = .ok (.aload_n 0, 1) := by decide +kernel
theorem dX0_copyFrom_65 : decode cX0_copyFrom 65 = .ok (.aload_n 1, 1) := by decide +kernel
theorem dX0_copyFrom_66 : decode cX0_copyFrom 66 = .ok (.getfield 36, 3) := by decide +kernel
theorem dX0_copyFrom_69 : decode cX0_copyFrom 69 = .ok (.putfield 36, 3) := by decide +kernel
theorem dX0_copyFrom_72 : decode cX0_copyFrom 72 = .ok (.aload_n 0, 1) := by decide +kernel
theorem dX0_copyFrom_73 : decode cX0_copyFrom 73 = .ok (.aload_n 1, 1) := by decide +kernel
theorem dX0_copyFrom_74 : decode cX0_copyFrom 74 = .ok (.getfield 39, 3) := by decide +kernel
theorem dX0_copyFrom_77 : decode cX0_copyFrom 77 = .ok (.putfield 39, 3) := by decide +kernel
theorem dX0_copyFrom_80 : decode cX0_copyFrom 80 = .ok (.return_, 1) := by decide +kernel
theorem dX0_combs_0 : decode cX0_combs 0 = .ok (.aload_n 0, 1) := by decide +kernel
theorem dX0_combs_1 : decode cX0_combs 1 = .ok (.getfield 15, 3) := by decide +kernel
theorem dX0_combs_4 : decode cX0_combs 4 = .ok (.ifCond .ne 22, 3) := by decide +kernel
theorem dX0_combs_7 : decode cX0_combs 7 = .ok (.aload_n 0, 1) := by decide +kernel
theorem dX0_combs_8 : decode cX0_combs 8 = .ok (.getfield 9, 3) := by decide +kernel
theorem dX0_combs_11 : decode cX0_combs 11 = .ok (.ifCond .lt 15, 3) := by decide +kernel
theorem dX0_combs_14 : decode cX0_combs 14 = .ok (.aload_n 0, 1) := by decide +kernel
theorem dX0_combs_15 : decode cX0_combs 15 = .ok (.getfield 9, 3) := by decide +kernel
theorem dX0_combs_18 : decode cX0_combs 18 = .ok (.iconst 3, 1) := by decide +kernel
theorem dX0_combs_19 : decode cX0_combs 19 = .ok (.if_icmp .ge 7, 3) := by decide +kernel
theorem dX0_combs_22 : decode cX0_combs 22 = .ok (.iconst 1, 1) := by decide +kernel
theorem dX0_combs_23 : decode cX0_combs 23 = .ok (.goto 4, 3) := by decide +kernel
theorem dX0_combs_26 : decode cX0_combs 26 = .ok (.iconst 0, 1) := by decide +kernel
theorem dX0_combs_27 : decode cX0_combs 27 = .ok (.ireturn, 1) := by decide +kernel
theorem dX0_lives_0 : decode cX0_lives 0 = .ok (.aload_n 0, 1) := by decide +kernel
theorem dX0_lives_1 : decode cX0_lives 1 = .ok (.getfield 15, 3) := by decide +kernel
theorem dX0_lives_4 : decode cX0_lives 4 = .ok (.ifCond .eq 11, 3) := by decide +kernel
theorem dX0_lives_7 : decode cX0_lives 7 = .ok (.aload_n 0, 1) := by decide +kernel
theorem dX0_lives_8 : decode cX0_lives 8 = .ok (.getfield 15, 3) := by decide +kernel
theorem dX0_lives_11 : decode cX0_lives 11 = .ok (.iconst 1, 1) := by decide +kernel
theorem dX0_lives_12 : decode cX0_lives 12 = .ok (.if_icmp .ne 7, 3) := by decide +kernel
theorem dX0_lives_15 : decode cX0_lives 15 = .ok (.iconst 1, 1) := by decide +kernel
theorem dX0_lives_16 : decode cX0_lives 16 = .ok (.goto 4, 3) := by decide +kernel
theorem dX0_lives_19 : decode cX0_lives 19 = .ok (.iconst 0, 1) := by decide +kernel
theorem dX0_lives_20 : decode cX0_lives 20 = .ok (.ireturn, 1) := by decide +kernel
theorem dX0_fallSick_0 : decode cX0_fallSick 0 = .ok (.aload_n 0, 1) := by decide +kernel
theorem dX0_fallSick_1 : decode cX0_fallSick 1 = .ok (.iconst 1, 1) := by decide +kernel
theorem dX0_fallSick_2 : decode cX0_fallSick 2 = .ok (.putfield 15, 3) := by decide +kernel
theorem dX0_fallSick_5 : decode cX0_fallSick 5 = .ok (.aload_n 0, 1) := by decide +kernel
theorem dX0_fallSick_6 : decode cX0_fallSick 6 = .ok (.bipush 6, 2) := by decide +kernel
theorem dX0_fallSick_8 : decode cX0_fallSick 8 = .ok (.aload_n 0, 1) := by decide +kernel
theorem dX0_fallSick_9 : decode cX0_fallSick 9 = .ok (.getfield 21, 3) := by decide +kernel
theorem dX0_fallSick_12 : decode cX0_fallSick 12 = .ok (.iconst 4, 1) := by decide +kernel
theorem dX0_fallSick_13 : decode cX0_fallSick 13 = .ok (.idiv, 1) := by decide +kernel
theorem dX0_fallSick_14 : decode cX0_fallSick 14 = .ok (.isub, 1) := by decide +kernel
theorem dX0_fallSick_15 : decode cX0_fallSick 15 = .ok (.putfield 33, 3) := by decide +kernel
theorem dX0_fallSick_18 : decode cX0_fallSick 18 = .ok (.aload_n 0, 1) := by decide +kernel
theorem dX0_fallSick_19 : decode cX0_fallSick 19 = .ok (.iconst 0, 1) := by decide +kernel
theorem dX0_fallSick_20 : decode cX0_fallSick 20 = .ok (.putfield 36, 3) := by decide +kernel
theorem dX0_fallSick_23 : decode cX0_fallSick 23 = .ok (.return_, 1) := by decide +kernel
theorem dX0_getWell_0 : decode cX0_getWell 0 = .ok (.aload_n 0, 1) := by decide +kernel
theorem dX0_getWell_1 : decode cX0_getWell 1 = .ok (.iconst 0, 1) := by decide +kernel
theorem dX0_getWell_2 : decode cX0_getWell 2 = .ok (.putfield 15, 3) := by decide +kernel
theorem dX0_getWell_5 : decode cX0_getWell 5 = .ok (.aload_n 0, 1) := by decide +kernel
theorem dX0_getWell_6 : decode cX0_getWell 6 = .ok (.iconst 0, 1) := by decide +kernel
theorem dX0_getWell_7 : decode cX0_getWell 7 = .ok (.putfield 33, 3) := by decide +kernel
theorem dX0_getWell_10 : decode cX0_getWell 10 = .ok (.aload_n 0, 1) := by decide +kernel
theorem dX0_getWell_11 : decode cX0_getWell 11 = .ok (.iconst 0, 1) := by decide +kernel
theorem dX0_getWell_12 : decode cX0_getWell 12 = .ok (.putfield 36, 3) := by decide +kernel
theorem dX0_getWell_15 : decode cX0_getWell 15 = .ok (.return_, 1) := by decide +kernel
theorem dX0_die_0 : decode cX0_die 0 = .ok (.aload_n 0, 1) := by decide +kernel
theorem dX0_die_1 : decode cX0_die 1 = .ok (.iconst 2, 1) := by decide +kernel
theorem dX0_die_2 : decode cX0_die 2 = .ok (.putfield 15, 3) := by decide +kernel
theorem dX0_die_5 : decode cX0_die 5 = .ok (.aload_n 0, 1) := by decide +kernel
theorem dX0_die_6 : decode cX0_die 6 = .ok (.iconst 0, 1) := by decide +kernel
theorem dX0_die_7 : decode cX0_die 7 = .ok (.putfield 21, 3) := by decide +kernel
theorem dX0_die_10 : decode cX0_die 10 = .ok (.aload_n 0, 1) := by decide +kernel
theorem dX0_die_11 : decode cX0_die 11 = .ok (.iconst 0, 1) := by decide +kernel
theorem dX0_die_12 : decode cX0_die 12 = .ok (.putfield 27, 3) := by decide +kernel
theorem dX0_die_15 : decode cX0_die 15 = .ok (.aload_n 0, 1) := by decide +kernel
theorem dX0_die_16 : decode cX0_die 16 = .ok (.iconst 0, 1) := by decide +kernel
theorem dX0_die_17 : decode cX0_die 17 = .ok (.putfield 30, 3) := by decide +kernel
theorem dX0_die_20 : decode cX0_die 20 = .ok (.aload_n 0, 1) := by decide +kernel
theorem dX0_die_21 : decode cX0_die 21 = .ok (.iconst (-1), 1) := by decide +kernel
theorem dX0_die_22 : decode cX0_die 22 = .ok (.putfield 9, 3) := by decide +kernel
theorem dX0_die_25 : decode cX0_die 25 = .ok (.aload_n 0, 1) := by decide +kernel
theorem dX0_die_26 : decode cX0_die 26 = .ok (.iconst 0, 1) := by decide +kernel
theorem dX0_die_27 : decode cX0_die 27 = .ok (.putfield 33, 3) := by decide +kernel
theorem dX0_die_30 : decode cX0_die 30 = .ok (.aload_n 0, 1) := by decide +kernel
theorem dX0_die_31 : decode cX0_die 31 = .ok (.iconst 0, 1) := by decide +kernel
theorem dX0_die_32 : decode cX0_die 32 = .ok (.putfield 36, 3) := by decide +kernel
theorem dX0_die_35 : decode cX0_die 35 = .ok (.aload_n 0, 1) := by decide +kernel
theorem dX0_die_36 : decode cX0_die 36 = .ok (.iconst 1, 1) := by decide +kernel
theorem dX0_die_37 : decode cX0_die 37 = .ok (.putfield 39, 3) := by decide +kernel
theorem dX0_die_40 : decode cX0_die 40 = .ok (.return_, 1) := by decide +kernel
theorem dX0_payMarks_0 : decode cX0_payMarks 0 = .ok (.aload_n 0, 1) := by decide +kernel
theorem dX0_payMarks_1 : decode cX0_payMarks 1 = .ok (.getfield 27, 3) := by decide +kernel
theorem dX0_payMarks_4 : decode cX0_payMarks 4 = .ok (.aload_n 0, 1) := by decide +kernel
theorem dX0_payMarks_5 : decode cX0_payMarks 5 = .ok (.getfield 24, 3) := by decide +kernel
theorem dX0_payMarks_8 : decode cX0_payMarks 8 = .ok (.invokestatic 43, 3) := by decide +kernel
theorem dX0_payMarks_11 : decode cX0_payMarks 11 = .ok (.istore_n 1, 1) := by decide +kernel
theorem dX0_payMarks_12 : decode cX0_payMarks 12 = .ok (.aload_n 0, 1) := by decide +kernel
theorem dX0_payMarks_13 : decode cX0_payMarks 13 = .ok (.dup, 1) := by decide +kernel
theorem dX0_payMarks_14 : decode cX0_payMarks 14 = .ok (.getfield 27, 3) := by decide +kernel
theorem dX0_payMarks_17 : decode cX0_payMarks 17 = .ok (.iload_n 1, 1) := by decide +kernel
theorem dX0_payMarks_18 : decode cX0_payMarks 18 = .ok (.isub, 1) := by decide +kernel
theorem dX0_payMarks_19 : decode cX0_payMarks 19 = .ok (.putfield 27, 3) := by decide +kernel
theorem dX0_payMarks_22 : decode cX0_payMarks 22 = .ok (.aload_n 0, 1) := by decide +kernel
theorem dX0_payMarks_23 : decode cX0_payMarks 23 = .ok (.dup, 1) := by decide +kernel
theorem dX0_payMarks_24 : decode cX0_payMarks 24 = .ok (.getfield 24, 3) := by decide +kernel
theorem dX0_payMarks_27 : decode cX0_payMarks 27 = .ok (.iload_n 1, 1) := by decide +kernel
theorem dX0_payMarks_28 : decode cX0_payMarks 28 = .ok (.isub, 1) := by decide +kernel
theorem dX0_payMarks_29 : decode cX0_payMarks 29 = .ok (.putfield 24, 3) := by decide +kernel
theorem dX0_payMarks_32 : decode cX0_payMarks 32 = .ok (.iload_n 1, 1) := by decide +kernel
theorem dX0_payMarks_33 : decode cX0_payMarks 33 = .ok (.ireturn, 1) := by decide +kernel
theorem dX0_payDues_0 : decode cX0_payDues 0 = .ok (.aload_n 0, 1) := by decide +kernel
theorem dX0_payDues_1 : decode cX0_payDues 1 = .ok (.getfield 24, 3) := by decide +kernel
theorem dX0_payDues_4 : decode cX0_payDues 4 = .ok (.iload_n 1, 1) := by decide +kernel
theorem dX0_payDues_5 : decode cX0_payDues 5 = .ok (.if_icmp .ge 20, 3) := by decide +kernel
theorem dX0_payDues_8 : decode cX0_payDues 8 = .ok (.aload_n 0, 1) := by decide +kernel
theorem dX0_payDues_9 : decode cX0_payDues 9 = .ok (.bipush 9, 2) := by decide +kernel
theorem dX0_payDues_11 : decode cX0_payDues 11 = .ok (.aload_n 0, 1) := by decide +kernel
theorem dX0_payDues_12 : decode cX0_payDues 12 = .ok (.getfield 30, 3) := by decide +kernel
theorem dX0_payDues_15 : decode cX0_payDues 15 = .ok (.iconst 1, 1) := by decide +kernel
theorem dX0_payDues_16 : decode cX0_payDues 16 = .ok (.iadd, 1) := by decide +kernel
theorem dX0_payDues_17 : decode cX0_payDues 17 = .ok (.invokestatic 43, 3) := by decide +kernel
theorem dX0_payDues_20 : decode cX0_payDues 20 = .ok (.putfield 30, 3) := by decide +kernel
theorem dX0_payDues_23 : decode cX0_payDues 23 = .ok (.iconst 0, 1) := by decide +kernel
theorem dX0_payDues_24 : decode cX0_payDues 24 = .ok (.ireturn, 1) := by decide +kernel
theorem dX0_payDues_25 : decode cX0_payDues 25 = .ok (.aload_n 0, 1) := by decide +kernel
theorem dX0_payDues_26 : decode cX0_payDues 26 = .ok (.dup, 1) := by decide +kernel
theorem dX0_payDues_27 : decode cX0_payDues 27 = .ok (.getfield 24, 3) := by decide +kernel
theorem dX0_payDues_30 : decode cX0_payDues 30 = .ok (.iload_n 1, 1) := by decide +kernel
theorem dX0_payDues_31 : decode cX0_payDues 31 = .ok (.isub, 1) := by decide +kernel
theorem dX0_payDues_32 : decode cX0_payDues 32 = .ok (.putfield 24, 3) := by decide +kernel
theorem dX0_payDues_35 : decode cX0_payDues 35 = .ok (.aload_n 0, 1) := by decide +kernel
theorem dX0_payDues_36 : decode cX0_payDues 36 = .ok (.iconst 0, 1) := by decide +kernel
theorem dX0_payDues_37 : decode cX0_payDues 37 = .ok (.putfield 30, 3) := by decide +kernel
theorem dX0_payDues_40 : decode cX0_payDues 40 = .ok (.iload_n 1, 1) := by decide +kernel
theorem dX0_payDues_41 : decode cX0_payDues 41 = .ok (.ireturn, 1) := by decide +kernel
set_option maxRecDepth 20000 in
theorem ggX0_spendClubNight_X0_payMarks : GoodIn wsX0_spendClubNight wsX0_payMarks := goodIn_r _ [12, 1, 2, 4, 5, 6, 7, 13, 14, 15, 16, 17, 18, 19, 20, 21, 22] (by decide +kernel) (by decide +kernel)
set_option maxRecDepth 20000 in
theorem gX0_spendClubNight_X0_payMarks : GoodIn wsX0_spendClubNight (wsV RX0 49 RX0 yX0_payMarks wsX0_payMarks) := goodIn_app (goodIn_of _ (by decide +kernel)) ggX0_spendClubNight_X0_payMarks
theorem dX0_spendClubNight_0 : decode cX0_spendClubNight 0 = .ok (.aload_n 0, 1) := by decide +kernel
theorem dX0_spendClubNight_1 : decode cX0_spendClubNight 1 = .ok (.getfield 27, 3) := by decide +kernel
theorem dX0_spendClubNight_4 : decode cX0_spendClubNight 4 = .ok (.bipush 12, 2) := by decide +kernel
theorem dX0_spendClubNight_6 : decode cX0_spendClubNight 6 = .ok (.if_icmp .ge 21, 3) := by decide +kernel
theorem dX0_spendClubNight_9 : decode cX0_spendClubNight 9 = .ok (.aload_n 0, 1) := by decide +kernel
theorem dX0_spendClubNight_10 : decode cX0_spendClubNight 10 = .ok (.dup, 1) := by decide +kernel
theorem dX0_spendClubNight_11 : decode cX0_spendClubNight 11 = .ok (.getfield 27, 3) := by decide +kernel
theorem dX0_spendClubNight_14 : decode cX0_spendClubNight 14 = .ok (.iconst 1, 1) := by decide +kernel
theorem dX0_spendClubNight_15 : decode cX0_spendClubNight 15 = .ok (.aload_n 0, 1) := by decide +kernel
theorem dX0_spendClubNight_16 : decode cX0_spendClubNight 16 = .ok (.getfield 24, 3) := by decide +kernel
theorem dX0_spendClubNight_19 : decode cX0_spendClubNight 19 = .ok (.bipush 8, 2) := by decide +kernel
theorem dX0_spendClubNight_21 : decode cX0_spendClubNight 21 = .ok (.idiv, 1) := by decide +kernel
theorem dX0_spendClubNight_22 : decode cX0_spendClubNight 22 = .ok (.iadd, 1) := by decide +kernel
theorem dX0_spendClubNight_23 : decode cX0_spendClubNight 23 = .ok (.iadd, 1) := by decide +kernel
theorem dX0_spendClubNight_24 : decode cX0_spendClubNight 24 = .ok (.putfield 27, 3) := by decide +kernel
theorem dX0_spendClubNight_27 : decode cX0_spendClubNight 27 = .ok (.aload_n 0, 1) := by decide +kernel
theorem dX0_spendClubNight_28 : decode cX0_spendClubNight 28 = .ok (.invokevirtual 49, 3) := by decide +kernel
theorem dX0_spendClubNight_31 : decode cX0_spendClubNight 31 = .ok (.istore_n 1, 1) := by decide +kernel
theorem dX0_spendClubNight_32 : decode cX0_spendClubNight 32 = .ok (.aload_n 0, 1) := by decide +kernel
theorem dX0_spendClubNight_33 : decode cX0_spendClubNight 33 = .ok (.bipush 20, 2) := by decide +kernel
theorem dX0_spendClubNight_35 : decode cX0_spendClubNight 35 = .ok (.aload_n 0, 1) := by decide +kernel
theorem dX0_spendClubNight_36 : decode cX0_spendClubNight 36 = .ok (.getfield 21, 3) := by decide +kernel
theorem dX0_spendClubNight_39 : decode cX0_spendClubNight 39 = .ok (.iconst 1, 1) := by decide +kernel
theorem dX0_spendClubNight_40 : decode cX0_spendClubNight 40 = .ok (.iadd, 1) := by decide +kernel
theorem dX0_spendClubNight_41 : decode cX0_spendClubNight 41 = .ok (.invokestatic 43, 3) := by decide +kernel
theorem dX0_spendClubNight_44 : decode cX0_spendClubNight 44 = .ok (.putfield 21, 3) := by decide +kernel
theorem dX0_spendClubNight_47 : decode cX0_spendClubNight 47 = .ok (.iload_n 1, 1) := by decide +kernel
theorem dX0_spendClubNight_48 : decode cX0_spendClubNight 48 = .ok (.ireturn, 1) := by decide +kernel
theorem dX0_fact_0 : decode cX0_fact 0 = .ok (.iload_n 1, 1) := by decide +kernel
theorem dX0_fact_1 : decode cX0_fact 1 = .ok (.tableswitch 87 0 7 #[47, 52, 57, 62, 67, 72, 77, 82], 47) := by decide +kernel
theorem dX0_fact_48 : decode cX0_fact 48 = .ok (.aload_n 0, 1) := by decide +kernel
theorem dX0_fact_49 : decode cX0_fact 49 = .ok (.getfield 18, 3) := by decide +kernel
theorem dX0_fact_52 : decode cX0_fact 52 = .ok (.ireturn, 1) := by decide +kernel
theorem dX0_fact_53 : decode cX0_fact 53 = .ok (.aload_n 0, 1) := by decide +kernel
theorem dX0_fact_54 : decode cX0_fact 54 = .ok (.getfield 21, 3) := by decide +kernel
theorem dX0_fact_57 : decode cX0_fact 57 = .ok (.ireturn, 1) := by decide +kernel
theorem dX0_fact_58 : decode cX0_fact 58 = .ok (.aload_n 0, 1) := by decide +kernel
theorem dX0_fact_59 : decode cX0_fact 59 = .ok (.getfield 24, 3) := by decide +kernel
theorem dX0_fact_62 : decode cX0_fact 62 = .ok (.ireturn, 1) := by decide +kernel
theorem dX0_fact_63 : decode cX0_fact 63 = .ok (.aload_n 0, 1) := by decide +kernel
theorem dX0_fact_64 : decode cX0_fact 64 = .ok (.getfield 27, 3) := by decide +kernel
theorem dX0_fact_67 : decode cX0_fact 67 = .ok (.ireturn, 1) := by decide +kernel
theorem dX0_fact_68 : decode cX0_fact 68 = .ok (.aload_n 0, 1) := by decide +kernel
theorem dX0_fact_69 : decode cX0_fact 69 = .ok (.getfield 30, 3) := by decide +kernel
theorem dX0_fact_72 : decode cX0_fact 72 = .ok (.ireturn, 1) := by decide +kernel
theorem dX0_fact_73 : decode cX0_fact 73 = .ok (.aload_n 0, 1) := by decide +kernel
theorem dX0_fact_74 : decode cX0_fact 74 = .ok (.getfield 9, 3) := by decide +kernel
theorem dX0_fact_77 : decode cX0_fact 77 = .ok (.ireturn, 1) := by decide +kernel
theorem dX0_fact_78 : decode cX0_fact 78 = .ok (.aload_n 0, 1) := by decide +kernel
theorem dX0_fact_79 : decode cX0_fact 79 = .ok (.getfield 15, 3) := by decide +kernel
theorem dX0_fact_82 : decode cX0_fact 82 = .ok (.ireturn, 1) := by decide +kernel
theorem dX0_fact_83 : decode cX0_fact 83 = .ok (.aload_n 0, 1) := by decide +kernel
theorem dX0_fact_84 : decode cX0_fact 84 = .ok (.getfield 33, 3) := by decide +kernel
theorem dX0_fact_87 : decode cX0_fact 87 = .ok (.ireturn, 1) := by decide +kernel
theorem dX0_fact_88 : decode cX0_fact 88 = .ok (.aload_n 0, 1) := by decide +kernel
theorem dX0_fact_89 : decode cX0_fact 89 = .ok (.getfield 36, 3) := by decide +kernel
theorem dX0_fact_92 : decode cX0_fact 92 = .ok (.ireturn, 1) := by decide +kernel
set_option maxRecDepth 20000 in
theorem ggX1_init_X0_init : GoodIn wsX1_init wsX0_init := goodIn_r _ [18, 19, 2, 3, 20, 21, 36, 37, 38, 39, 40, 41, 42, 43, 44, 45] (by decide +kernel) (by decide +kernel)
set_option maxRecDepth 20000 in
theorem gX1_init_X0_init : GoodIn wsX1_init (wsX0_init) := ggX1_init_X0_init
theorem dX1_init_0 : decode cX1_init 0 = .ok (.aload_n 0, 1) := by decide +kernel
theorem dX1_init_1 : decode cX1_init 1 = .ok (.invokespecial 3, 3) := by decide +kernel
theorem dX1_init_4 : decode cX1_init 4 = .ok (.aload_n 0, 1) := by decide +kernel
theorem dX1_init_5 : decode cX1_init 5 = .ok (.bipush 60, 2) := by decide +kernel
theorem dX1_init_7 : decode cX1_init 7 = .ok (.putfield 9, 3) := by decide +kernel
theorem dX1_init_10 : decode cX1_init 10 = .ok (.aload_n 0, 1) := by decide +kernel
theorem dX1_init_11 : decode cX1_init 11 = .ok (.bipush 30, 2) := by decide +kernel
theorem dX1_init_13 : decode cX1_init 13 = .ok (.putfield 15, 3) := by decide +kernel
theorem dX1_init_16 : decode cX1_init 16 = .ok (.aload_n 0, 1) := by decide +kernel
theorem dX1_init_17 : decode cX1_init 17 = .ok (.sipush 200, 3) := by decide +kernel
theorem dX1_init_20 : decode cX1_init 20 = .ok (.putfield 18, 3) := by decide +kernel
theorem dX1_init_23 : decode cX1_init 23 = .ok (.aload_n 0, 1) := by decide +kernel
theorem dX1_init_24 : decode cX1_init 24 = .ok (.iconst 1, 1) := by decide +kernel
theorem dX1_init_25 : decode cX1_init 25 = .ok (.putfield 21, 3) := by decide +kernel
theorem dX1_init_28 : decode cX1_init 28 = .ok (.aload_n 0, 1) := by decide +kernel
theorem dX1_init_29 : decode cX1_init 29 = .ok (.bipush 8, 2) := by decide +kernel
theorem dX1_init_31 : decode cX1_init 31 = .ok (.newarray .int, 2) := by decide +kernel
theorem dX1_init_33 : decode cX1_init 33 = .ok (.putfield 24, 3) := by decide +kernel
theorem dX1_init_36 : decode cX1_init 36 = .ok (.iconst 0, 1) := by decide +kernel
theorem dX1_init_37 : decode cX1_init 37 = .ok (.istore_n 1, 1) := by decide +kernel
theorem dX1_init_38 : decode cX1_init 38 = .ok (.iload_n 1, 1) := by decide +kernel
theorem dX1_init_39 : decode cX1_init 39 = .ok (.aload_n 0, 1) := by decide +kernel
theorem dX1_init_40 : decode cX1_init 40 = .ok (.getfield 24, 3) := by decide +kernel
theorem dX1_init_43 : decode cX1_init 43 = .ok (.arraylength, 1) := by decide +kernel
theorem dX1_init_44 : decode cX1_init 44 = .ok (.if_icmp .ge 16, 3) := by decide +kernel
theorem dX1_init_47 : decode cX1_init 47 = .ok (.aload_n 0, 1) := by decide +kernel
theorem dX1_init_48 : decode cX1_init 48 = .ok (.getfield 24, 3) := by decide +kernel
theorem dX1_init_51 : decode cX1_init 51 = .ok (.iload_n 1, 1) := by decide +kernel
theorem dX1_init_52 : decode cX1_init 52 = .ok (.iconst (-1), 1) := by decide +kernel
theorem dX1_init_53 : decode cX1_init 53 = .ok (.iastore, 1) := by decide +kernel
theorem dX1_init_54 : decode cX1_init 54 = .ok (.iinc 1 1, 3) := by decide +kernel
theorem dX1_init_57 : decode cX1_init 57 = .ok (.goto (-19), 3) := by decide +kernel
theorem dX1_init_60 : decode cX1_init 60 = .ok (.aload_n 0, 1) := by decide +kernel
theorem dX1_init_61 : decode cX1_init 61 = .ok (.iconst 3, 1) := by decide +kernel
theorem dX1_init_62 : decode cX1_init 62 = .ok (.newarray .int, 2) := by decide +kernel
theorem dX1_init_64 : decode cX1_init 64 = .ok (.putfield 28, 3) := by decide +kernel
theorem dX1_init_67 : decode cX1_init 67 = .ok (.aload_n 0, 1) := by decide +kernel
theorem dX1_init_68 : decode cX1_init 68 = .ok (.iconst 3, 1) := by decide +kernel
theorem dX1_init_69 : decode cX1_init 69 = .ok (.newarray .int, 2) := by decide +kernel
theorem dX1_init_71 : decode cX1_init 71 = .ok (.putfield 31, 3) := by decide +kernel
theorem dX1_init_74 : decode cX1_init 74 = .ok (.aload_n 0, 1) := by decide +kernel
theorem dX1_init_75 : decode cX1_init 75 = .ok (.bipush 12, 2) := by decide +kernel
theorem dX1_init_77 : decode cX1_init 77 = .ok (.anewarray 34, 3) := by decide +kernel
theorem dX1_init_80 : decode cX1_init 80 = .ok (.putfield 36, 3) := by decide +kernel
theorem dX1_init_83 : decode cX1_init 83 = .ok (.iconst 0, 1) := by decide +kernel
theorem dX1_init_84 : decode cX1_init 84 = .ok (.istore_n 1, 1) := by decide +kernel
theorem dX1_init_85 : decode cX1_init 85 = .ok (.iload_n 1, 1) := by decide +kernel
theorem dX1_init_86 : decode cX1_init 86 = .ok (.aload_n 0, 1) := by decide +kernel
theorem dX1_init_87 : decode cX1_init 87 = .ok (.getfield 36, 3) := by decide +kernel
theorem dX1_init_90 : decode cX1_init 90 = .ok (.arraylength, 1) := by decide +kernel
theorem dX1_init_91 : decode cX1_init 91 = .ok (.if_icmp .ge 22, 3) := by decide +kernel
theorem dX1_init_94 : decode cX1_init 94 = .ok (.aload_n 0, 1) := by decide +kernel
theorem dX1_init_95 : decode cX1_init 95 = .ok (.getfield 36, 3) := by decide +kernel
theorem dX1_init_98 : decode cX1_init 98 = .ok (.iload_n 1, 1) := by decide +kernel
theorem dX1_init_99 : decode cX1_init 99 = .ok (.new 34, 3) := by decide +kernel
theorem dX1_init_102 : decode cX1_init 102 = .ok (.dup, 1) := by decide +kernel
theorem dX1_init_103 : decode cX1_init 103 = .ok (.invokespecial 40, 3) := by decide +kernel
theorem dX1_init_106 : decode cX1_init 106 = .ok (.aastore, 1) := by decide +kernel
theorem dX1_init_107 : decode cX1_init 107 = .ok (.iinc 1 1, 3) := by decide +kernel
theorem dX1_init_110 : decode cX1_init 110 = .ok (.goto (-25), 3) := by decide +kernel
theorem dX1_init_113 : decode cX1_init 113 = .ok (.return_, 1) := by decide +kernel
set_option maxRecDepth 20000 in
theorem ggX1_copyFrom_X0_copyFrom : GoodIn wsX1_copyFrom wsX0_copyFrom := goodIn_r _ [17, 18, 19, 20, 21, 22, 23, 24, 25, 26, 27, 42, 43, 44, 45, 46, 47, 48, 49, 50, 51] (by decide +kernel) (by decide +kernel)
set_option maxRecDepth 20000 in
theorem gX1_copyFrom_X0_copyFrom : GoodIn wsX1_copyFrom (wsV RX1 56 RX0 yX0_copyFrom wsX0_copyFrom) := goodIn_app (goodIn_of _ (by decide +kernel)) ggX1_copyFrom_X0_copyFrom
theorem dX1_copyFrom_0 : decode cX1_copyFrom 0 = .ok (.aload_n 0, 1) := by decide +kernel
theorem dX1_copyFrom_1 : decode cX1_copyFrom 1 = .ok (.aload_n 1, 1) := by decide +kernel
theorem dX1_copyFrom_2 : decode cX1_copyFrom 2 = .ok (.getfield 41, 3) := by decide +kernel
theorem dX1_copyFrom_5 : decode cX1_copyFrom 5 = .ok (.putfield 41, 3) := by decide +kernel
theorem dX1_copyFrom_8 : decode cX1_copyFrom 8 = .ok (.aload_n 0, 1) := by decide +kernel
theorem dX1_copyFrom_9 : decode cX1_copyFrom 9 = .ok (.aload_n 1, 1) := by decide +kernel
theorem dX1_copyFrom_10 : decode cX1_copyFrom 10 = .ok (.getfield 44, 3) := by decide +kernel
theorem dX1_copyFrom_13 : decode cX1_copyFrom 13 = .ok (.putfield 44, 3) := by decide +kernel
theorem dX1_copyFrom_16 : decode cX1_copyFrom 16 = .ok (.aload_n 0, 1) := by decide +kernel
theorem dX1_copyFrom_17 : decode cX1_copyFrom 17 = .ok (.aload_n 1, 1) := by decide +kernel
theorem dX1_copyFrom_18 : decode cX1_copyFrom 18 = .ok (.getfield 9, 3) := by decide +kernel
theorem dX1_copyFrom_21 : decode cX1_copyFrom 21 = .ok (.putfield 9, 3) := by decide +kernel
theorem dX1_copyFrom_24 : decode cX1_copyFrom 24 = .ok (.aload_n 0, 1) := by decide +kernel
theorem dX1_copyFrom_25 : decode cX1_copyFrom 25 = .ok (.aload_n 1, 1) := by decide +kernel
theorem dX1_copyFrom_26 : decode cX1_copyFrom 26 = .ok (.getfield 15, 3) := by decide +kernel
theorem dX1_copyFrom_29 : decode cX1_copyFrom 29 = .ok (.putfield 15, 3) := by decide +kernel
theorem dX1_copyFrom_32 : decode cX1_copyFrom 32 = .ok (.aload_n 0, 1) := by decide +kernel
theorem dX1_copyFrom_33 : decode cX1_copyFrom 33 = .ok (.aload_n 1, 1) := by decide +kernel
theorem dX1_copyFrom_34 : decode cX1_copyFrom 34 = .ok (.getfield 18, 3) := by decide +kernel
theorem dX1_copyFrom_37 : decode cX1_copyFrom 37 = .ok (.putfield 18, 3) := by decide +kernel
theorem dX1_copyFrom_40 : decode cX1_copyFrom 40 = .ok (.aload_n 0, 1) := by decide +kernel
theorem dX1_copyFrom_41 : decode cX1_copyFrom 41 = .ok (.aload_n 1, 1) := by decide +kernel
theorem dX1_copyFrom_42 : decode cX1_copyFrom 42 = .ok (.getfield 47, 3) := by decide +kernel
theorem dX1_copyFrom_45 : decode cX1_copyFrom 45 = .ok (.putfield 47, 3) := by decide +kernel
theorem dX1_copyFrom_48 : decode cX1_copyFrom 48 = .ok (.aload_n 0, 1) := by decide +kernel
theorem dX1_copyFrom_49 : decode cX1_copyFrom 49 = .ok (.aload_n 1, 1) := by decide +kernel
theorem dX1_copyFrom_50 : decode cX1_copyFrom 50 = .ok (.getfield 21, 3) := by decide +kernel
theorem dX1_copyFrom_53 : decode cX1_copyFrom 53 = .ok (.putfield 21, 3) := by decide +kernel
theorem dX1_copyFrom_56 : decode cX1_copyFrom 56 = .ok (.aload_n 0, 1) := by decide +kernel
theorem dX1_copyFrom_57 : decode cX1_copyFrom 57 = .ok (.aload_n 1, 1) := by decide +kernel
theorem dX1_copyFrom_58 : decode cX1_copyFrom 58 = .ok (.getfield 50, 3) := by decide +kernel
theorem dX1_copyFrom_61 : decode cX1_copyFrom 61 = .ok (.putfield 50, 3) := by decide +kernel
theorem dX1_copyFrom_64 : decode cX1_copyFrom 64 = .ok (.aload_n 0, 1) := by decide +kernel
theorem dX1_copyFrom_65 : decode cX1_copyFrom 65 = .ok (.aload_n 1, 1) := by decide +kernel
theorem dX1_copyFrom_66 : decode cX1_copyFrom 66 = .ok (.getfield 53, 3) := by decide +kernel
theorem dX1_copyFrom_69 : decode cX1_copyFrom 69 = .ok (.putfield 53, 3) := by decide +kernel
theorem dX1_copyFrom_72 : decode cX1_copyFrom 72 = .ok (.iconst 0, 1) := by decide +kernel
theorem dX1_copyFrom_73 : decode cX1_copyFrom 73 = .ok (.istore_n 2, 1) := by decide +kernel
theorem dX1_copyFrom_74 : decode cX1_copyFrom 74 = .ok (.iload_n 2, 1) := by decide +kernel
theorem dX1_copyFrom_75 : decode cX1_copyFrom 75 = .ok (.bipush 8, 2) := by decide +kernel
theorem dX1_copyFrom_77 : decode cX1_copyFrom 77 = .ok (.if_icmp .ge 21, 3) := by decide +kernel
theorem dX1_copyFrom_80 : decode cX1_copyFrom 80 = .ok (.aload_n 0, 1) := by decide +kernel
theorem dX1_copyFrom_81 : decode cX1_copyFrom 81 = .ok (.getfield 24, 3) := by decide +kernel
theorem dX1_copyFrom_84 : decode cX1_copyFrom 84 = .ok (.iload_n 2, 1) := by decide +kernel
theorem dX1_copyFrom_85 : decode cX1_copyFrom 85 = .ok (.aload_n 1, 1) := by decide +kernel
theorem dX1_copyFrom_86 : decode cX1_copyFrom 86 = .ok (.getfield 24, 3) := by decide +kernel
theorem dX1_copyFrom_89 : decode cX1_copyFrom 89 = .ok (.iload_n 2, 1) := by decide +kernel
theorem dX1_copyFrom_90 : decode cX1_copyFrom 90 = .ok (.iaload, 1) := by decide +kernel
theorem dX1_copyFrom_91 : decode cX1_copyFrom 91 = .ok (.iastore, 1) := by decide +kernel
theorem dX1_copyFrom_92 : decode cX1_copyFrom 92 = .ok (.iinc 2 1, 3) := by decide +kernel
theorem dX1_copyFrom_95 : decode cX1_copyFrom 95 = .ok (.goto (-21), 3) := by decide +kernel
theorem dX1_copyFrom_98 : decode cX1_copyFrom 98 = .ok (.iconst 0, 1) := by decide +kernel
theorem dX1_copyFrom_99 : decode cX1_copyFrom 99 = .ok (.istore_n 2, 1) := by decide +kernel
theorem dX1_copyFrom_100 : decode cX1_copyFrom 100 = .ok (.iload_n 2, 1) := by decide +kernel
theorem dX1_copyFrom_101 : decode cX1_copyFrom 101 = .ok (.iconst 3, 1) := by decide +kernel
theorem dX1_copyFrom_102 : decode cX1_copyFrom 102 = .ok (.if_icmp .ge 21, 3) := by decide +kernel
theorem dX1_copyFrom_105 : decode cX1_copyFrom 105 = .ok (.aload_n 0, 1) := by decide +kernel
theorem dX1_copyFrom_106 : decode cX1_copyFrom 106 = .ok (.getfield 28, 3) := by decide +kernel
theorem dX1_copyFrom_109 : decode cX1_copyFrom 109 = .ok (.iload_n 2, 1) := by decide +kernel
theorem dX1_copyFrom_110 : decode cX1_copyFrom 110 = .ok (.aload_n 1, 1) := by decide +kernel
end
section
theorem dX1_copyFrom_111 : decode cX1_copyFrom 111 = .ok (.getfield 28, 3) := by decide +kernel
theorem dX1_copyFrom_114 : decode cX1_copyFrom 114 = .ok (.iload_n 2, 1) := by decide +kernel
theorem dX1_copyFrom_115 : decode cX1_copyFrom 115 = .ok (.iaload, 1) := by decide +kernel
theorem dX1_copyFrom_116 : decode cX1_copyFrom 116 = .ok (.iastore, 1) := by decide +kernel
theorem dX1_copyFrom_117 : decode cX1_copyFrom 117 = .ok (.iinc 2 1, 3) := by decide +kernel
theorem dX1_copyFrom_120 : decode cX1_copyFrom 120 = .ok (.goto (-20), 3) := by decide +kernel
theorem dX1_copyFrom_123 : decode cX1_copyFrom 123 = .ok (.iconst 0, 1) := by decide +kernel
theorem dX1_copyFrom_124 : decode cX1_copyFrom 124 = .ok (.istore_n 2, 1) := by decide +kernel
theorem dX1_copyFrom_125 : decode cX1_copyFrom 125 = .ok (.iload_n 2, 1) := by decide +kernel
theorem dX1_copyFrom_126 : decode cX1_copyFrom 126 = .ok (.bipush 12, 2) := by decide +kernel
theorem dX1_copyFrom_128 : decode cX1_copyFrom 128 = .ok (.if_icmp .ge 24, 3) := by decide +kernel
theorem dX1_copyFrom_131 : decode cX1_copyFrom 131 = .ok (.aload_n 0, 1) := by decide +kernel
theorem dX1_copyFrom_132 : decode cX1_copyFrom 132 = .ok (.getfield 36, 3) := by decide +kernel
theorem dX1_copyFrom_135 : decode cX1_copyFrom 135 = .ok (.iload_n 2, 1) := by decide +kernel
theorem dX1_copyFrom_136 : decode cX1_copyFrom 136 = .ok (.aaload, 1) := by decide +kernel
theorem dX1_copyFrom_137 : decode cX1_copyFrom 137 = .ok (.aload_n 1, 1) := by decide +kernel
theorem dX1_copyFrom_138 : decode cX1_copyFrom 138 = .ok (.getfield 36, 3) := by decide +kernel
theorem dX1_copyFrom_141 : decode cX1_copyFrom 141 = .ok (.iload_n 2, 1) := by decide +kernel
theorem dX1_copyFrom_142 : decode cX1_copyFrom 142 = .ok (.aaload, 1) := by decide +kernel
theorem dX1_copyFrom_143 : decode cX1_copyFrom 143 = .ok (.invokevirtual 56, 3) := by decide +kernel
theorem dX1_copyFrom_146 : decode cX1_copyFrom 146 = .ok (.iinc 2 1, 3) := by decide +kernel
theorem dX1_copyFrom_149 : decode cX1_copyFrom 149 = .ok (.goto (-24), 3) := by decide +kernel
theorem dX1_copyFrom_152 : decode cX1_copyFrom 152 = .ok (.return_, 1) := by decide +kernel
theorem dX1_hasMember_0 : decode cX1_hasMember 0 = .ok (.iload_n 1, 1) := by decide +kernel
theorem dX1_hasMember_1 : decode cX1_hasMember 1 = .ok (.ifCond .lt 26, 3) := by decide +kernel
theorem dX1_hasMember_4 : decode cX1_hasMember 4 = .ok (.iload_n 1, 1) := by decide +kernel
theorem dX1_hasMember_5 : decode cX1_hasMember 5 = .ok (.bipush 12, 2) := by decide +kernel
theorem dX1_hasMember_7 : decode cX1_hasMember 7 = .ok (.if_icmp .ge 20, 3) := by decide +kernel
theorem dX1_hasMember_10 : decode cX1_hasMember 10 = .ok (.aload_n 0, 1) := by decide +kernel
theorem dX1_hasMember_11 : decode cX1_hasMember 11 = .ok (.getfield 36, 3) := by decide +kernel
theorem dX1_hasMember_14 : decode cX1_hasMember 14 = .ok (.iload_n 1, 1) := by decide +kernel
theorem dX1_hasMember_15 : decode cX1_hasMember 15 = .ok (.aaload, 1) := by decide +kernel
theorem dX1_hasMember_16 : decode cX1_hasMember 16 = .ok (.getfield 60, 3) := by decide +kernel
theorem dX1_hasMember_19 : decode cX1_hasMember 19 = .ok (.iconst 3, 1) := by decide +kernel
theorem dX1_hasMember_20 : decode cX1_hasMember 20 = .ok (.if_icmp .eq 7, 3) := by decide +kernel
theorem dX1_hasMember_23 : decode cX1_hasMember 23 = .ok (.iconst 1, 1) := by decide +kernel
theorem dX1_hasMember_24 : decode cX1_hasMember 24 = .ok (.goto 4, 3) := by decide +kernel
theorem dX1_hasMember_27 : decode cX1_hasMember 27 = .ok (.iconst 0, 1) := by decide +kernel
theorem dX1_hasMember_28 : decode cX1_hasMember 28 = .ok (.ireturn, 1) := by decide +kernel
set_option maxRecDepth 20000 in
theorem ggX1_hasRoom_X1_atPot : GoodIn wsX1_hasRoom wsX1_atPot := goodIn_r _ [6, 7, 1, 8, 9, 10, 11, 12, 13, 24, 25, 26, 27, 28, 29, 30, 31, 32, 33, 34, 35, 36, 37, 14, 15, 16, 17, 18, 19, 20, 21, 22, 23] (by decide +kernel) (by decide +kernel)
set_option maxRecDepth 20000 in
theorem gX1_hasRoom_X1_atPot : GoodIn wsX1_hasRoom (wsV RX1 66 RX1 yX1_atPot wsX1_atPot) := goodIn_app (goodIn_of _ (by decide +kernel)) ggX1_hasRoom_X1_atPot
theorem dX1_hasRoom_0 : decode cX1_hasRoom 0 = .ok (.iload_n 1, 1) := by decide +kernel
theorem dX1_hasRoom_1 : decode cX1_hasRoom 1 = .ok (.iconst (-1), 1) := by decide +kernel
theorem dX1_hasRoom_2 : decode cX1_hasRoom 2 = .ok (.if_icmp .ne 5, 3) := by decide +kernel
theorem dX1_hasRoom_5 : decode cX1_hasRoom 5 = .ok (.iconst 1, 1) := by decide +kernel
theorem dX1_hasRoom_6 : decode cX1_hasRoom 6 = .ok (.ireturn, 1) := by decide +kernel
theorem dX1_hasRoom_7 : decode cX1_hasRoom 7 = .ok (.aload_n 2, 1) := by decide +kernel
theorem dX1_hasRoom_8 : decode cX1_hasRoom 8 = .ok (.getfield 63, 3) := by decide +kernel
theorem dX1_hasRoom_11 : decode cX1_hasRoom 11 = .ok (.iload_n 1, 1) := by decide +kernel
theorem dX1_hasRoom_12 : decode cX1_hasRoom 12 = .ok (.if_icmp .ne 13, 3) := by decide +kernel
theorem dX1_hasRoom_15 : decode cX1_hasRoom 15 = .ok (.aload_n 0, 1) := by decide +kernel
theorem dX1_hasRoom_16 : decode cX1_hasRoom 16 = .ok (.iload_n 1, 1) := by decide +kernel
theorem dX1_hasRoom_17 : decode cX1_hasRoom 17 = .ok (.invokevirtual 66, 3) := by decide +kernel
theorem dX1_hasRoom_20 : decode cX1_hasRoom 20 = .ok (.iconst 1, 1) := by decide +kernel
theorem dX1_hasRoom_21 : decode cX1_hasRoom 21 = .ok (.isub, 1) := by decide +kernel
theorem dX1_hasRoom_22 : decode cX1_hasRoom 22 = .ok (.goto 8, 3) := by decide +kernel
theorem dX1_hasRoom_25 : decode cX1_hasRoom 25 = .ok (.aload_n 0, 1) := by decide +kernel
theorem dX1_hasRoom_26 : decode cX1_hasRoom 26 = .ok (.iload_n 1, 1) := by decide +kernel
theorem dX1_hasRoom_27 : decode cX1_hasRoom 27 = .ok (.invokevirtual 66, 3) := by decide +kernel
theorem dX1_hasRoom_30 : decode cX1_hasRoom 30 = .ok (.istore_n 3, 1) := by decide +kernel
theorem dX1_hasRoom_31 : decode cX1_hasRoom 31 = .ok (.iload_n 3, 1) := by decide +kernel
theorem dX1_hasRoom_32 : decode cX1_hasRoom 32 = .ok (.iconst 4, 1) := by decide +kernel
theorem dX1_hasRoom_33 : decode cX1_hasRoom 33 = .ok (.if_icmp .ge 7, 3) := by decide +kernel
theorem dX1_hasRoom_36 : decode cX1_hasRoom 36 = .ok (.iconst 1, 1) := by decide +kernel
theorem dX1_hasRoom_37 : decode cX1_hasRoom 37 = .ok (.goto 4, 3) := by decide +kernel
theorem dX1_hasRoom_40 : decode cX1_hasRoom 40 = .ok (.iconst 0, 1) := by decide +kernel
theorem dX1_hasRoom_41 : decode cX1_hasRoom 41 = .ok (.ireturn, 1) := by decide +kernel
theorem dX1_heatOf_0 : decode cX1_heatOf 0 = .ok (.iload_n 1, 1) := by decide +kernel
theorem dX1_heatOf_1 : decode cX1_heatOf 1 = .ok (.ifCond .lt 17, 3) := by decide +kernel
theorem dX1_heatOf_4 : decode cX1_heatOf 4 = .ok (.iload_n 1, 1) := by decide +kernel
theorem dX1_heatOf_5 : decode cX1_heatOf 5 = .ok (.iconst 3, 1) := by decide +kernel
theorem dX1_heatOf_6 : decode cX1_heatOf 6 = .ok (.if_icmp .ge 12, 3) := by decide +kernel
theorem dX1_heatOf_9 : decode cX1_heatOf 9 = .ok (.aload_n 0, 1) := by decide +kernel
theorem dX1_heatOf_10 : decode cX1_heatOf 10 = .ok (.getfield 28, 3) := by decide +kernel
theorem dX1_heatOf_13 : decode cX1_heatOf 13 = .ok (.iload_n 1, 1) := by decide +kernel
theorem dX1_heatOf_14 : decode cX1_heatOf 14 = .ok (.iaload, 1) := by decide +kernel
theorem dX1_heatOf_15 : decode cX1_heatOf 15 = .ok (.goto 4, 3) := by decide +kernel
theorem dX1_heatOf_18 : decode cX1_heatOf 18 = .ok (.iconst 0, 1) := by decide +kernel
theorem dX1_heatOf_19 : decode cX1_heatOf 19 = .ok (.ireturn, 1) := by decide +kernel
set_option maxRecDepth 20000 in
theorem ggX1_atPot_X0_lives : GoodIn wsX1_atPot wsX0_lives := goodIn_r _ [7, 8, 23, 24, 25, 26, 27, 28, 29, 30, 31, 32] (by decide +kernel) (by decide +kernel)
set_option maxRecDepth 20000 in
theorem gX1_atPot_X0_lives : GoodIn wsX1_atPot (wsV RX1 70 RX0 yX0_lives wsX0_lives) := goodIn_app (goodIn_of _ (by decide +kernel)) ggX1_atPot_X0_lives
theorem dX1_atPot_0 : decode cX1_atPot 0 = .ok (.iconst 0, 1) := by decide +kernel
theorem dX1_atPot_1 : decode cX1_atPot 1 = .ok (.istore_n 2, 1) := by decide +kernel
theorem dX1_atPot_2 : decode cX1_atPot 2 = .ok (.aload_n 0, 1) := by decide +kernel
theorem dX1_atPot_3 : decode cX1_atPot 3 = .ok (.getfield 36, 3) := by decide +kernel
theorem dX1_atPot_6 : decode cX1_atPot 6 = .ok (.astore_n 3, 1) := by decide +kernel
theorem dX1_atPot_7 : decode cX1_atPot 7 = .ok (.aload_n 3, 1) := by decide +kernel
theorem dX1_atPot_8 : decode cX1_atPot 8 = .ok (.arraylength, 1) := by decide +kernel
theorem dX1_atPot_9 : decode cX1_atPot 9 = .ok (.istore 4, 2) := by decide +kernel
theorem dX1_atPot_11 : decode cX1_atPot 11 = .ok (.iconst 0, 1) := by decide +kernel
theorem dX1_atPot_12 : decode cX1_atPot 12 = .ok (.istore 5, 2) := by decide +kernel
theorem dX1_atPot_14 : decode cX1_atPot 14 = .ok (.iload 5, 2) := by decide +kernel
theorem dX1_atPot_16 : decode cX1_atPot 16 = .ok (.iload 4, 2) := by decide +kernel
theorem dX1_atPot_18 : decode cX1_atPot 18 = .ok (.if_icmp .ge 35, 3) := by decide +kernel
theorem dX1_atPot_21 : decode cX1_atPot 21 = .ok (.aload_n 3, 1) := by decide +kernel
theorem dX1_atPot_22 : decode cX1_atPot 22 = .ok (.iload 5, 2) := by decide +kernel
theorem dX1_atPot_24 : decode cX1_atPot 24 = .ok (.aaload, 1) := by decide +kernel
theorem dX1_atPot_25 : decode cX1_atPot 25 = .ok (.astore 6, 2) := by decide +kernel
theorem dX1_atPot_27 : decode cX1_atPot 27 = .ok (.aload 6, 2) := by decide +kernel
theorem dX1_atPot_29 : decode cX1_atPot 29 = .ok (.invokevirtual 70, 3) := by decide +kernel
theorem dX1_atPot_32 : decode cX1_atPot 32 = .ok (.ifCond .eq 15, 3) := by decide +kernel
theorem dX1_atPot_35 : decode cX1_atPot 35 = .ok (.aload 6, 2) := by decide +kernel
theorem dX1_atPot_37 : decode cX1_atPot 37 = .ok (.getfield 63, 3) := by decide +kernel
theorem dX1_atPot_40 : decode cX1_atPot 40 = .ok (.iload_n 1, 1) := by decide +kernel
theorem dX1_atPot_41 : decode cX1_atPot 41 = .ok (.if_icmp .ne 6, 3) := by decide +kernel
theorem dX1_atPot_44 : decode cX1_atPot 44 = .ok (.iinc 2 1, 3) := by decide +kernel
theorem dX1_atPot_47 : decode cX1_atPot 47 = .ok (.iinc 5 1, 3) := by decide +kernel
theorem dX1_atPot_50 : decode cX1_atPot 50 = .ok (.goto (-36), 3) := by decide +kernel
theorem dX1_atPot_53 : decode cX1_atPot 53 = .ok (.iload_n 2, 1) := by decide +kernel
theorem dX1_atPot_54 : decode cX1_atPot 54 = .ok (.ireturn, 1) := by decide +kernel
set_option maxRecDepth 20000 in
theorem ggX1_combersAt_X1_countCombers : GoodIn wsX1_combersAt wsX1_countCombers := goodIn_r _ [6, 1, 7, 8, 9, 10, 11, 12, 13, 14, 15, 16, 17, 18, 19, 20, 21, 22, 23, 24, 25, 26, 27, 28, 29, 30, 31, 32, 33, 34, 35, 36, 37, 38, 39] (by decide +kernel) (by decide +kernel)
set_option maxRecDepth 20000 in
theorem gX1_combersAt_X1_countCombers : GoodIn wsX1_combersAt (wsV RX1 74 RX1 yX1_countCombers wsX1_countCombers) := goodIn_app (goodIn_of _ (by decide +kernel)) ggX1_combersAt_X1_countCombers
theorem dX1_combersAt_0 : decode cX1_combersAt 0 = .ok (.aload_n 0, 1) := by decide +kernel
theorem dX1_combersAt_1 : decode cX1_combersAt 1 = .ok (.invokevirtual 74, 3) := by decide +kernel
theorem dX1_combersAt_4 : decode cX1_combersAt 4 = .ok (.iload_n 1, 1) := by decide +kernel
theorem dX1_combersAt_5 : decode cX1_combersAt 5 = .ok (.ifCond .lt 17, 3) := by decide +kernel
theorem dX1_combersAt_8 : decode cX1_combersAt 8 = .ok (.iload_n 1, 1) := by decide +kernel
theorem dX1_combersAt_9 : decode cX1_combersAt 9 = .ok (.iconst 3, 1) := by decide +kernel
theorem dX1_combersAt_10 : decode cX1_combersAt 10 = .ok (.if_icmp .ge 12, 3) := by decide +kernel
theorem dX1_combersAt_13 : decode cX1_combersAt 13 = .ok (.aload_n 0, 1) := by decide +kernel
theorem dX1_combersAt_14 : decode cX1_combersAt 14 = .ok (.getfield 31, 3) := by decide +kernel
theorem dX1_combersAt_17 : decode cX1_combersAt 17 = .ok (.iload_n 1, 1) := by decide +kernel
theorem dX1_combersAt_18 : decode cX1_combersAt 18 = .ok (.iaload, 1) := by decide +kernel
theorem dX1_combersAt_19 : decode cX1_combersAt 19 = .ok (.goto 4, 3) := by decide +kernel
theorem dX1_combersAt_22 : decode cX1_combersAt 22 = .ok (.iconst 0, 1) := by decide +kernel
theorem dX1_combersAt_23 : decode cX1_combersAt 23 = .ok (.ireturn, 1) := by decide +kernel
set_option maxRecDepth 20000 in
theorem ggX1_countCombers_X0_combs : GoodIn wsX1_countCombers wsX0_combs := goodIn_r _ [8, 9, 10, 25, 26, 27, 28, 29, 30, 31, 32, 33, 34] (by decide +kernel) (by decide +kernel)
set_option maxRecDepth 20000 in
theorem gX1_countCombers_X0_combs : GoodIn wsX1_countCombers (wsV RX1 77 RX0 yX0_combs wsX0_combs) := goodIn_app (goodIn_of _ (by decide +kernel)) ggX1_countCombers_X0_combs
theorem dX1_countCombers_0 : decode cX1_countCombers 0 = .ok (.iconst 0, 1) := by decide +kernel
theorem dX1_countCombers_1 : decode cX1_countCombers 1 = .ok (.istore_n 1, 1) := by decide +kernel
theorem dX1_countCombers_2 : decode cX1_countCombers 2 = .ok (.iload_n 1, 1) := by decide +kernel
theorem dX1_countCombers_3 : decode cX1_countCombers 3 = .ok (.iconst 3, 1) := by decide +kernel
theorem dX1_countCombers_4 : decode cX1_countCombers 4 = .ok (.if_icmp .ge 16, 3) := by decide +kernel
theorem dX1_countCombers_7 : decode cX1_countCombers 7 = .ok (.aload_n 0, 1) := by decide +kernel
theorem dX1_countCombers_8 : decode cX1_countCombers 8 = .ok (.getfield 31, 3) := by decide +kernel
theorem dX1_countCombers_11 : decode cX1_countCombers 11 = .ok (.iload_n 1, 1) := by decide +kernel
theorem dX1_countCombers_12 : decode cX1_countCombers 12 = .ok (.iconst 0, 1) := by decide +kernel
theorem dX1_countCombers_13 : decode cX1_countCombers 13 = .ok (.iastore, 1) := by decide +kernel
theorem dX1_countCombers_14 : decode cX1_countCombers 14 = .ok (.iinc 1 1, 3) := by decide +kernel
theorem dX1_countCombers_17 : decode cX1_countCombers 17 = .ok (.goto (-15), 3) := by decide +kernel
theorem dX1_countCombers_20 : decode cX1_countCombers 20 = .ok (.aload_n 0, 1) := by decide +kernel
theorem dX1_countCombers_21 : decode cX1_countCombers 21 = .ok (.getfield 36, 3) := by decide +kernel
theorem dX1_countCombers_24 : decode cX1_countCombers 24 = .ok (.astore_n 1, 1) := by decide +kernel
theorem dX1_countCombers_25 : decode cX1_countCombers 25 = .ok (.aload_n 1, 1) := by decide +kernel
theorem dX1_countCombers_26 : decode cX1_countCombers 26 = .ok (.arraylength, 1) := by decide +kernel
theorem dX1_countCombers_27 : decode cX1_countCombers 27 = .ok (.istore_n 2, 1) := by decide +kernel
theorem dX1_countCombers_28 : decode cX1_countCombers 28 = .ok (.iconst 0, 1) := by decide +kernel
theorem dX1_countCombers_29 : decode cX1_countCombers 29 = .ok (.istore_n 3, 1) := by decide +kernel
theorem dX1_countCombers_30 : decode cX1_countCombers 30 = .ok (.iload_n 3, 1) := by decide +kernel
theorem dX1_countCombers_31 : decode cX1_countCombers 31 = .ok (.iload_n 2, 1) := by decide +kernel
theorem dX1_countCombers_32 : decode cX1_countCombers 32 = .ok (.if_icmp .ge 36, 3) := by decide +kernel
theorem dX1_countCombers_35 : decode cX1_countCombers 35 = .ok (.aload_n 1, 1) := by decide +kernel
theorem dX1_countCombers_36 : decode cX1_countCombers 36 = .ok (.iload_n 3, 1) := by decide +kernel
theorem dX1_countCombers_37 : decode cX1_countCombers 37 = .ok (.aaload, 1) := by decide +kernel
theorem dX1_countCombers_38 : decode cX1_countCombers 38 = .ok (.astore 4, 2) := by decide +kernel
theorem dX1_countCombers_40 : decode cX1_countCombers 40 = .ok (.aload 4, 2) := by decide +kernel
theorem dX1_countCombers_42 : decode cX1_countCombers 42 = .ok (.invokevirtual 77, 3) := by decide +kernel
theorem dX1_countCombers_45 : decode cX1_countCombers 45 = .ok (.ifCond .eq 17, 3) := by decide +kernel
theorem dX1_countCombers_48 : decode cX1_countCombers 48 = .ok (.aload_n 0, 1) := by decide +kernel
theorem dX1_countCombers_49 : decode cX1_countCombers 49 = .ok (.getfield 31, 3) := by decide +kernel
theorem dX1_countCombers_52 : decode cX1_countCombers 52 = .ok (.aload 4, 2) := by decide +kernel
theorem dX1_countCombers_54 : decode cX1_countCombers 54 = .ok (.getfield 63, 3) := by decide +kernel
theorem dX1_countCombers_57 : decode cX1_countCombers 57 = .ok (.dup2, 1) := by decide +kernel
theorem dX1_countCombers_58 : decode cX1_countCombers 58 = .ok (.iaload, 1) := by decide +kernel
theorem dX1_countCombers_59 : decode cX1_countCombers 59 = .ok (.iconst 1, 1) := by decide +kernel
theorem dX1_countCombers_60 : decode cX1_countCombers 60 = .ok (.iadd, 1) := by decide +kernel
theorem dX1_countCombers_61 : decode cX1_countCombers 61 = .ok (.iastore, 1) := by decide +kernel
theorem dX1_countCombers_62 : decode cX1_countCombers 62 = .ok (.iinc 3 1, 3) := by decide +kernel
theorem dX1_countCombers_65 : decode cX1_countCombers 65 = .ok (.goto (-35), 3) := by decide +kernel
theorem dX1_countCombers_68 : decode cX1_countCombers 68 = .ok (.return_, 1) := by decide +kernel
theorem dX1_howMany_0 : decode cX1_howMany 0 = .ok (.iconst 0, 1) := by decide +kernel
theorem dX1_howMany_1 : decode cX1_howMany 1 = .ok (.istore_n 2, 1) := by decide +kernel
theorem dX1_howMany_2 : decode cX1_howMany 2 = .ok (.aload_n 0, 1) := by decide +kernel
theorem dX1_howMany_3 : decode cX1_howMany 3 = .ok (.getfield 36, 3) := by decide +kernel
theorem dX1_howMany_6 : decode cX1_howMany 6 = .ok (.astore_n 3, 1) := by decide +kernel
theorem dX1_howMany_7 : decode cX1_howMany 7 = .ok (.aload_n 3, 1) := by decide +kernel
theorem dX1_howMany_8 : decode cX1_howMany 8 = .ok (.arraylength, 1) := by decide +kernel
theorem dX1_howMany_9 : decode cX1_howMany 9 = .ok (.istore 4, 2) := by decide +kernel
theorem dX1_howMany_11 : decode cX1_howMany 11 = .ok (.iconst 0, 1) := by decide +kernel
theorem dX1_howMany_12 : decode cX1_howMany 12 = .ok (.istore 5, 2) := by decide +kernel
theorem dX1_howMany_14 : decode cX1_howMany 14 = .ok (.iload 5, 2) := by decide +kernel
theorem dX1_howMany_16 : decode cX1_howMany 16 = .ok (.iload 4, 2) := by decide +kernel
theorem dX1_howMany_18 : decode cX1_howMany 18 = .ok (.if_icmp .ge 27, 3) := by decide +kernel
theorem dX1_howMany_21 : decode cX1_howMany 21 = .ok (.aload_n 3, 1) := by decide +kernel
theorem dX1_howMany_22 : decode cX1_howMany 22 = .ok (.iload 5, 2) := by decide +kernel
theorem dX1_howMany_24 : decode cX1_howMany 24 = .ok (.aaload, 1) := by decide +kernel
theorem dX1_howMany_25 : decode cX1_howMany 25 = .ok (.astore 6, 2) := by decide +kernel
theorem dX1_howMany_27 : decode cX1_howMany 27 = .ok (.aload 6, 2) := by decide +kernel
theorem dX1_howMany_29 : decode cX1_howMany 29 = .ok (.getfield 60, 3) := by decide +kernel
theorem dX1_howMany_32 : decode cX1_howMany 32 = .ok (.iload_n 1, 1) := by decide +kernel
theorem dX1_howMany_33 : decode cX1_howMany 33 = .ok (.if_icmp .ne 6, 3) := by decide +kernel
theorem dX1_howMany_36 : decode cX1_howMany 36 = .ok (.iinc 2 1, 3) := by decide +kernel
theorem dX1_howMany_39 : decode cX1_howMany 39 = .ok (.iinc 5 1, 3) := by decide +kernel
theorem dX1_howMany_42 : decode cX1_howMany 42 = .ok (.goto (-28), 3) := by decide +kernel
theorem dX1_howMany_45 : decode cX1_howMany 45 = .ok (.iload_n 2, 1) := by decide +kernel
theorem dX1_howMany_46 : decode cX1_howMany 46 = .ok (.ireturn, 1) := by decide +kernel
theorem dX1_coinsInPurses_0 : decode cX1_coinsInPurses 0 = .ok (.iconst 0, 1) := by decide +kernel
theorem dX1_coinsInPurses_1 : decode cX1_coinsInPurses 1 = .ok (.istore_n 1, 1) := by decide +kernel
theorem dX1_coinsInPurses_2 : decode cX1_coinsInPurses 2 = .ok (.aload_n 0, 1) := by decide +kernel
theorem dX1_coinsInPurses_3 : decode cX1_coinsInPurses 3 = .ok (.getfield 36, 3) := by decide +kernel
theorem dX1_coinsInPurses_6 : decode cX1_coinsInPurses 6 = .ok (.astore_n 2, 1) := by decide +kernel
theorem dX1_coinsInPurses_7 : decode cX1_coinsInPurses 7 = .ok (.aload_n 2, 1) := by decide +kernel
theorem dX1_coinsInPurses_8 : decode cX1_coinsInPurses 8 = .ok (.arraylength, 1) := by decide +kernel
theorem dX1_coinsInPurses_9 : decode cX1_coinsInPurses 9 = .ok (.istore_n 3, 1) := by decide +kernel
theorem dX1_coinsInPurses_10 : decode cX1_coinsInPurses 10 = .ok (.iconst 0, 1) := by decide +kernel
theorem dX1_coinsInPurses_11 : decode cX1_coinsInPurses 11 = .ok (.istore 4, 2) := by decide +kernel
theorem dX1_coinsInPurses_13 : decode cX1_coinsInPurses 13 = .ok (.iload 4, 2) := by decide +kernel
theorem dX1_coinsInPurses_15 : decode cX1_coinsInPurses 15 = .ok (.iload_n 3, 1) := by decide +kernel
theorem dX1_coinsInPurses_16 : decode cX1_coinsInPurses 16 = .ok (.if_icmp .ge 23, 3) := by decide +kernel
theorem dX1_coinsInPurses_19 : decode cX1_coinsInPurses 19 = .ok (.aload_n 2, 1) := by decide +kernel
theorem dX1_coinsInPurses_20 : decode cX1_coinsInPurses 20 = .ok (.iload 4, 2) := by decide +kernel
theorem dX1_coinsInPurses_22 : decode cX1_coinsInPurses 22 = .ok (.aaload, 1) := by decide +kernel
theorem dX1_coinsInPurses_23 : decode cX1_coinsInPurses 23 = .ok (.astore 5, 2) := by decide +kernel
theorem dX1_coinsInPurses_25 : decode cX1_coinsInPurses 25 = .ok (.iload_n 1, 1) := by decide +kernel
theorem dX1_coinsInPurses_26 : decode cX1_coinsInPurses 26 = .ok (.aload 5, 2) := by decide +kernel
theorem dX1_coinsInPurses_28 : decode cX1_coinsInPurses 28 = .ok (.getfield 80, 3) := by decide +kernel
theorem dX1_coinsInPurses_31 : decode cX1_coinsInPurses 31 = .ok (.iadd, 1) := by decide +kernel
theorem dX1_coinsInPurses_32 : decode cX1_coinsInPurses 32 = .ok (.istore_n 1, 1) := by decide +kernel
theorem dX1_coinsInPurses_33 : decode cX1_coinsInPurses 33 = .ok (.iinc 4 1, 3) := by decide +kernel
theorem dX1_coinsInPurses_36 : decode cX1_coinsInPurses 36 = .ok (.goto (-23), 3) := by decide +kernel
theorem dX1_coinsInPurses_39 : decode cX1_coinsInPurses 39 = .ok (.iload_n 1, 1) := by decide +kernel
theorem dX1_coinsInPurses_40 : decode cX1_coinsInPurses 40 = .ok (.ireturn, 1) := by decide +kernel
theorem dX1_marksOfAll_0 : decode cX1_marksOfAll 0 = .ok (.iconst 0, 1) := by decide +kernel
theorem dX1_marksOfAll_1 : decode cX1_marksOfAll 1 = .ok (.istore_n 1, 1) := by decide +kernel
theorem dX1_marksOfAll_2 : decode cX1_marksOfAll 2 = .ok (.aload_n 0, 1) := by decide +kernel
theorem dX1_marksOfAll_3 : decode cX1_marksOfAll 3 = .ok (.getfield 36, 3) := by decide +kernel
theorem dX1_marksOfAll_6 : decode cX1_marksOfAll 6 = .ok (.astore_n 2, 1) := by decide +kernel
theorem dX1_marksOfAll_7 : decode cX1_marksOfAll 7 = .ok (.aload_n 2, 1) := by decide +kernel
theorem dX1_marksOfAll_8 : decode cX1_marksOfAll 8 = .ok (.arraylength, 1) := by decide +kernel
theorem dX1_marksOfAll_9 : decode cX1_marksOfAll 9 = .ok (.istore_n 3, 1) := by decide +kernel
theorem dX1_marksOfAll_10 : decode cX1_marksOfAll 10 = .ok (.iconst 0, 1) := by decide +kernel
theorem dX1_marksOfAll_11 : decode cX1_marksOfAll 11 = .ok (.istore 4, 2) := by decide +kernel
theorem dX1_marksOfAll_13 : decode cX1_marksOfAll 13 = .ok (.iload 4, 2) := by decide +kernel
theorem dX1_marksOfAll_15 : decode cX1_marksOfAll 15 = .ok (.iload_n 3, 1) := by decide +kernel
theorem dX1_marksOfAll_16 : decode cX1_marksOfAll 16 = .ok (.if_icmp .ge 23, 3) := by decide +kernel
theorem dX1_marksOfAll_19 : decode cX1_marksOfAll 19 = .ok (.aload_n 2, 1) := by decide +kernel
theorem dX1_marksOfAll_20 : decode cX1_marksOfAll 20 = .ok (.iload 4, 2) := by decide +kernel
theorem dX1_marksOfAll_22 : decode cX1_marksOfAll 22 = .ok (.aaload, 1) := by decide +kernel
theorem dX1_marksOfAll_23 : decode cX1_marksOfAll 23 = .ok (.astore 5, 2) := by decide +kernel
theorem dX1_marksOfAll_25 : decode cX1_marksOfAll 25 = .ok (.iload_n 1, 1) := by decide +kernel
theorem dX1_marksOfAll_26 : decode cX1_marksOfAll 26 = .ok (.aload 5, 2) := by decide +kernel
theorem dX1_marksOfAll_28 : decode cX1_marksOfAll 28 = .ok (.getfield 83, 3) := by decide +kernel
theorem dX1_marksOfAll_31 : decode cX1_marksOfAll 31 = .ok (.iadd, 1) := by decide +kernel
theorem dX1_marksOfAll_32 : decode cX1_marksOfAll 32 = .ok (.istore_n 1, 1) := by decide +kernel
theorem dX1_marksOfAll_33 : decode cX1_marksOfAll 33 = .ok (.iinc 4 1, 3) := by decide +kernel
theorem dX1_marksOfAll_36 : decode cX1_marksOfAll 36 = .ok (.goto (-23), 3) := by decide +kernel
theorem dX1_marksOfAll_39 : decode cX1_marksOfAll 39 = .ok (.iload_n 1, 1) := by decide +kernel
theorem dX1_marksOfAll_40 : decode cX1_marksOfAll 40 = .ok (.ireturn, 1) := by decide +kernel
set_option maxRecDepth 20000 in
theorem ggX1_tally_X1_howMany : GoodIn wsX1_tally wsX1_howMany := goodIn_r _ [13, 14, 15, 26, 27, 28, 29, 30, 31, 32, 33, 34, 35, 36, 37, 38, 39, 40, 41, 42, 43, 44, 45, 46, 47, 48, 49] (by decide +kernel) (by decide +kernel)
set_option maxRecDepth 20000 in
theorem gX1_tally_X1_howMany : GoodIn wsX1_tally (wsV RX1 86 RX1 yX1_howMany wsX1_howMany) := goodIn_app (goodIn_of _ (by decide +kernel)) ggX1_tally_X1_howMany
set_option maxRecDepth 20000 in
theorem ggX1_tally_X1_coinsInPurses : GoodIn wsX1_tally wsX1_coinsInPurses := goodIn_r _ [19, 14, 20, 26, 27, 28, 29, 30, 31, 32, 33, 34, 35, 36, 37, 38, 39, 40, 41, 42, 43, 44, 45, 46, 47, 48, 49] (by decide +kernel) (by decide +kernel)
set_option maxRecDepth 20000 in
theorem gX1_tally_X1_coinsInPurses : GoodIn wsX1_tally (wsV RX1 89 RX1 yX1_coinsInPurses wsX1_coinsInPurses) := goodIn_app (goodIn_of _ (by decide +kernel)) ggX1_tally_X1_coinsInPurses
set_option maxRecDepth 20000 in
theorem ggX1_tally_X1_marksOfAll : GoodIn wsX1_tally wsX1_marksOfAll := goodIn_r _ [24, 14, 25, 26, 27, 28, 29, 30, 31, 32, 33, 34, 35, 36, 37, 38, 39, 40, 41, 42, 43, 44, 45, 46, 47, 48, 49] (by decide +kernel) (by decide +kernel)
set_option maxRecDepth 20000 in
theorem gX1_tally_X1_marksOfAll : GoodIn wsX1_tally (wsV RX1 93 RX1 yX1_marksOfAll wsX1_marksOfAll) := goodIn_app (goodIn_of _ (by decide +kernel)) ggX1_tally_X1_marksOfAll
theorem dX1_tally_0 : decode cX1_tally 0 = .ok (.iload_n 1, 1) := by decide +kernel
theorem dX1_tally_1 : decode cX1_tally 1 = .ok (.tableswitch 126 0 11 #[63, 68, 73, 79, 85, 91, 96, 101, 106, 111, 116, 121], 63) := by decide +kernel
theorem dX1_tally_64 : decode cX1_tally 64 = .ok (.aload_n 0, 1) := by decide +kernel
theorem dX1_tally_65 : decode cX1_tally 65 = .ok (.getfield 41, 3) := by decide +kernel
theorem dX1_tally_68 : decode cX1_tally 68 = .ok (.ireturn, 1) := by decide +kernel
theorem dX1_tally_69 : decode cX1_tally 69 = .ok (.aload_n 0, 1) := by decide +kernel
theorem dX1_tally_70 : decode cX1_tally 70 = .ok (.getfield 44, 3) := by decide +kernel
theorem dX1_tally_73 : decode cX1_tally 73 = .ok (.ireturn, 1) := by decide +kernel
theorem dX1_tally_74 : decode cX1_tally 74 = .ok (.aload_n 0, 1) := by decide +kernel
theorem dX1_tally_75 : decode cX1_tally 75 = .ok (.iconst 0, 1) := by decide +kernel
theorem dX1_tally_76 : decode cX1_tally 76 = .ok (.invokevirtual 86, 3) := by decide +kernel
theorem dX1_tally_79 : decode cX1_tally 79 = .ok (.ireturn, 1) := by decide +kernel
theorem dX1_tally_80 : decode cX1_tally 80 = .ok (.aload_n 0, 1) := by decide +kernel
theorem dX1_tally_81 : decode cX1_tally 81 = .ok (.iconst 1, 1) := by decide +kernel
theorem dX1_tally_82 : decode cX1_tally 82 = .ok (.invokevirtual 86, 3) := by decide +kernel
theorem dX1_tally_85 : decode cX1_tally 85 = .ok (.ireturn, 1) := by decide +kernel
theorem dX1_tally_86 : decode cX1_tally 86 = .ok (.aload_n 0, 1) := by decide +kernel
theorem dX1_tally_87 : decode cX1_tally 87 = .ok (.iconst 2, 1) := by decide +kernel
theorem dX1_tally_88 : decode cX1_tally 88 = .ok (.invokevirtual 86, 3) := by decide +kernel
theorem dX1_tally_91 : decode cX1_tally 91 = .ok (.ireturn, 1) := by decide +kernel
theorem dX1_tally_92 : decode cX1_tally 92 = .ok (.aload_n 0, 1) := by decide +kernel
theorem dX1_tally_93 : decode cX1_tally 93 = .ok (.getfield 9, 3) := by decide +kernel
theorem dX1_tally_96 : decode cX1_tally 96 = .ok (.ireturn, 1) := by decide +kernel
theorem dX1_tally_97 : decode cX1_tally 97 = .ok (.aload_n 0, 1) := by decide +kernel
theorem dX1_tally_98 : decode cX1_tally 98 = .ok (.getfield 15, 3) := by decide +kernel
theorem dX1_tally_101 : decode cX1_tally 101 = .ok (.ireturn, 1) := by decide +kernel
theorem dX1_tally_102 : decode cX1_tally 102 = .ok (.aload_n 0, 1) := by decide +kernel
theorem dX1_tally_103 : decode cX1_tally 103 = .ok (.getfield 18, 3) := by decide +kernel
theorem dX1_tally_106 : decode cX1_tally 106 = .ok (.ireturn, 1) := by decide +kernel
theorem dX1_tally_107 : decode cX1_tally 107 = .ok (.aload_n 0, 1) := by decide +kernel
theorem dX1_tally_108 : decode cX1_tally 108 = .ok (.getfield 47, 3) := by decide +kernel
theorem dX1_tally_111 : decode cX1_tally 111 = .ok (.ireturn, 1) := by decide +kernel
theorem dX1_tally_112 : decode cX1_tally 112 = .ok (.aload_n 0, 1) := by decide +kernel
theorem dX1_tally_113 : decode cX1_tally 113 = .ok (.invokevirtual 89, 3) := by decide +kernel
theorem dX1_tally_116 : decode cX1_tally 116 = .ok (.ireturn, 1) := by decide +kernel
theorem dX1_tally_117 : decode cX1_tally 117 = .ok (.aload_n 0, 1) := by decide +kernel
theorem dX1_tally_118 : decode cX1_tally 118 = .ok (.invokevirtual 93, 3) := by decide +kernel
theorem dX1_tally_121 : decode cX1_tally 121 = .ok (.ireturn, 1) := by decide +kernel
theorem dX1_tally_122 : decode cX1_tally 122 = .ok (.aload_n 0, 1) := by decide +kernel
theorem dX1_tally_123 : decode cX1_tally 123 = .ok (.getfield 50, 3) := by decide +kernel
theorem dX1_tally_126 : decode cX1_tally 126 = .ok (.ireturn, 1) := by decide +kernel
theorem dX1_tally_127 : decode cX1_tally 127 = .ok (.aload_n 0, 1) := by decide +kernel
theorem dX1_tally_128 : decode cX1_tally 128 = .ok (.getfield 53, 3) := by decide +kernel
theorem dX1_tally_131 : decode cX1_tally 131 = .ok (.ireturn, 1) := by decide +kernel
set_option maxRecDepth 20000 in
theorem ggX1_liveWeeks_X1_liveWeek : GoodIn wsX1_liveWeeks wsX1_liveWeek := goodIn_r _ [5, 6, 7, 8, 9, 10, 4, 11, 12, 13, 14, 15, 16, 17, 18, 19, 20, 21, 22, 23, 24, 25, 26, 27, 28, 29, 30, 31, 32, 33, 34, 35, 36, 37, 38, 39, 40, 41, 42, 43, 44, 45, 46, 47, 48, 49, 50, 51, 52, 53, 54, 55, 56, 57, 58, 59, 60, 61, 62, 63, 64, 65, 66, 67, 68, 69, 70, 71, 72, 73, 74, 75, 76, 77, 78, 79, 80, 81, 82, 83, 84, 85, 86, 87, 88, 89, 90, 91, 92, 93, 94, 95, 96, 97, 98, 99, 100, 101, 102, 103, 104, 105, 106, 107, 108, 109, 110, 111, 112, 113, 114, 115, 116, 117, 118, 119, 120, 121, 122, 123, 124, 125, 126, 127, 128, 129, 130, 131, 132, 133, 134, 135, 136, 137, 138, 139, 140, 141, 142, 143, 144, 145, 146, 147, 148, 149, 150, 151, 152, 153] (by decide +kernel) (by decide +kernel)
set_option maxRecDepth 20000 in
theorem gX1_liveWeeks_X1_liveWeek : GoodIn wsX1_liveWeeks (wsV RX1 96 RX1 yX1_liveWeek wsX1_liveWeek) := goodIn_app (goodIn_of _ (by decide +kernel)) ggX1_liveWeeks_X1_liveWeek
theorem dX1_liveWeeks_0 : decode cX1_liveWeeks 0 = .ok (.iconst 0, 1) := by decide +kernel
theorem dX1_liveWeeks_1 : decode cX1_liveWeeks 1 = .ok (.istore_n 2, 1) := by decide +kernel
theorem dX1_liveWeeks_2 : decode cX1_liveWeeks 2 = .ok (.iload_n 2, 1) := by decide +kernel
theorem dX1_liveWeeks_3 : decode cX1_liveWeeks 3 = .ok (.iload_n 1, 1) := by decide +kernel
theorem dX1_liveWeeks_4 : decode cX1_liveWeeks 4 = .ok (.if_icmp .ge 13, 3) := by decide +kernel
theorem dX1_liveWeeks_7 : decode cX1_liveWeeks 7 = .ok (.aload_n 0, 1) := by decide +kernel
theorem dX1_liveWeeks_8 : decode cX1_liveWeeks 8 = .ok (.invokevirtual 96, 3) := by decide +kernel
theorem dX1_liveWeeks_11 : decode cX1_liveWeeks 11 = .ok (.iinc 2 1, 3) := by decide +kernel
theorem dX1_liveWeeks_14 : decode cX1_liveWeeks 14 = .ok (.goto (-12), 3) := by decide +kernel
theorem dX1_liveWeeks_17 : decode cX1_liveWeeks 17 = .ok (.return_, 1) := by decide +kernel
set_option maxRecDepth 20000 in
theorem ggX1_liveWeek_X1_lightFires : GoodIn wsX1_liveWeek wsX1_lightFires := goodIn_r _ [7, 8, 9, 10, 11, 12, 13, 14, 15, 16, 17, 18, 19, 20, 6, 21, 22, 23, 24, 25, 26, 27, 28, 29, 30, 126, 127, 128, 129, 130, 131, 132, 133, 134, 135, 136, 137, 138, 139, 140, 141, 142, 143, 144, 145, 146, 147, 148, 149] (by decide +kernel) (by decide +kernel)
set_option maxRecDepth 20000 in
theorem gX1_liveWeek_X1_lightFires : GoodIn wsX1_liveWeek (wsV RX1 103 RX1 yX1_lightFires wsX1_lightFires) := goodIn_app (goodIn_of _ (by decide +kernel)) ggX1_liveWeek_X1_lightFires
set_option maxRecDepth 20000 in
theorem ggX1_liveWeek_X1_combWool : GoodIn wsX1_liveWeek wsX1_combWool := goodIn_r _ [34, 22, 35, 11, 12, 13, 14, 36, 37, 38, 39, 40, 6, 41, 8, 23, 15, 16, 17, 42, 10, 24, 25, 26, 27, 28, 29, 30, 126, 127, 128, 129, 130, 131, 132, 133, 134, 135, 136, 137, 138, 139, 140, 141, 142, 143, 144, 145, 146, 147, 148, 149] (by decide +kernel) (by decide +kernel)
set_option maxRecDepth 20000 in
theorem gX1_liveWeek_X1_combWool : GoodIn wsX1_liveWeek (wsV RX1 106 RX1 yX1_combWool wsX1_combWool) := goodIn_app (goodIn_of _ (by decide +kernel)) ggX1_liveWeek_X1_combWool
set_option maxRecDepth 20000 in
theorem ggX1_liveWeek_X1_spreadFever : GoodIn wsX1_liveWeek wsX1_spreadFever := goodIn_r _ [46, 47, 2, 22, 23, 48, 49, 50, 51, 24, 25, 26, 27, 28, 29, 30, 52, 53, 54, 55, 56, 57, 58, 126, 127, 128, 129, 130, 131, 132, 133, 134, 135, 136, 137, 138, 139, 140, 141, 142, 143, 144, 145, 146, 147, 148, 149] (by decide +kernel) (by decide +kernel)
set_option maxRecDepth 20000 in
theorem gX1_liveWeek_X1_spreadFever : GoodIn wsX1_liveWeek (wsV RX1 109 RX1 yX1_spreadFever wsX1_spreadFever) := goodIn_app (goodIn_of _ (by decide +kernel)) ggX1_liveWeek_X1_spreadFever
set_option maxRecDepth 20000 in
theorem ggX1_liveWeek_X1_nurseSick : GoodIn wsX1_liveWeek wsX1_nurseSick := goodIn_r _ [62, 22, 63, 64, 65, 66, 6, 67, 68, 69, 70, 71, 37, 72, 73, 74, 75, 27, 76, 29, 56, 77, 78, 30, 57, 58, 79, 80, 81, 82, 83, 84, 1, 11, 12, 13, 14, 85, 86, 87, 88, 126, 127, 128, 129, 130, 131, 132, 133, 134, 135, 136, 137, 138, 139, 140, 141, 142, 143, 144, 145, 146, 147, 148, 149] (by decide +kernel) (by decide +kernel)
set_option maxRecDepth 20000 in
theorem gX1_liveWeek_X1_nurseSick : GoodIn wsX1_liveWeek (wsV RX1 112 RX1 yX1_nurseSick wsX1_nurseSick) := goodIn_app (goodIn_of _ (by decide +kernel)) ggX1_liveWeek_X1_nurseSick
set_option maxRecDepth 20000 in
theorem ggX1_liveWeek_X1_takeDues : GoodIn wsX1_liveWeek wsX1_takeDues := goodIn_r _ [92, 22, 63, 84, 93, 94, 95, 96, 27, 97, 98, 78, 99, 12, 13, 14, 126, 127, 128, 129, 130, 131, 132, 133, 134, 135, 136, 137, 138, 139, 140, 141, 142, 143, 144, 145, 146, 147, 148, 149] (by decide +kernel) (by decide +kernel)
set_option maxRecDepth 20000 in
theorem gX1_liveWeek_X1_takeDues : GoodIn wsX1_liveWeek (wsV RX1 115 RX1 yX1_takeDues wsX1_takeDues) := goodIn_app (goodIn_of _ (by decide +kernel)) ggX1_liveWeek_X1_takeDues
set_option maxRecDepth 20000 in
theorem ggX1_liveWeek_J9_floorMod_7cf53 : GoodIn wsX1_liveWeek wsJ9_floorMod_7cf53 := goodIn_r _ [51] (by decide +kernel) (by decide +kernel)
set_option maxRecDepth 20000 in
theorem gX1_liveWeek_J9_floorMod_7cf53 : GoodIn wsX1_liveWeek (va_wsS RX1 118 yJ9_floorMod_7cf53 wsJ9_floorMod_7cf53) := goodIn_app (goodIn_of _ (by decide +kernel)) ggX1_liveWeek_J9_floorMod_7cf53
set_option maxRecDepth 20000 in
theorem ggX1_liveWeek_X1_holdClubNight : GoodIn wsX1_liveWeek wsX1_holdClubNight := goodIn_r _ [103, 22, 63, 84, 104, 105, 106, 27, 107, 77, 98, 56, 99, 12, 13, 14, 108, 109, 110, 111, 126, 127, 128, 129, 130, 131, 132, 133, 134, 135, 136, 137, 138, 139, 140, 141, 142, 143, 144, 145, 146, 147, 148, 149] (by decide +kernel) (by decide +kernel)
set_option maxRecDepth 20000 in
theorem gX1_liveWeek_X1_holdClubNight : GoodIn wsX1_liveWeek (wsV RX1 124 RX1 yX1_holdClubNight wsX1_holdClubNight) := goodIn_app (goodIn_of _ (by decide +kernel)) ggX1_liveWeek_X1_holdClubNight
set_option maxRecDepth 20000 in
theorem ggX1_liveWeek_X1_holdFunerals : GoodIn wsX1_liveWeek wsX1_holdFunerals := goodIn_r _ [115, 22, 116, 117, 118, 119, 6, 120, 121, 84, 37, 80, 81, 82, 83, 1, 11, 12, 13, 14, 122, 123, 124, 27, 125, 29, 126, 127, 128, 129, 130, 131, 132, 133, 134, 135, 136, 137, 138, 139, 140, 141, 142, 143, 144, 145, 146, 147, 148, 149] (by decide +kernel) (by decide +kernel)
set_option maxRecDepth 20000 in
theorem gX1_liveWeek_X1_holdFunerals : GoodIn wsX1_liveWeek (wsV RX1 127 RX1 yX1_holdFunerals wsX1_holdFunerals) := goodIn_app (goodIn_of _ (by decide +kernel)) ggX1_liveWeek_X1_holdFunerals
theorem dX1_liveWeek_0 : decode cX1_liveWeek 0 = .ok (.aload_n 0, 1) := by decide +kernel
theorem dX1_liveWeek_1 : decode cX1_liveWeek 1 = .ok (.iconst 0, 1) := by decide +kernel
theorem dX1_liveWeek_2 : decode cX1_liveWeek 2 = .ok (.putfield 99, 3) := by decide +kernel
theorem dX1_liveWeek_5 : decode cX1_liveWeek 5 = .ok (.aload_n 0, 1) := by decide +kernel
theorem dX1_liveWeek_6 : decode cX1_liveWeek 6 = .ok (.invokevirtual 103, 3) := by decide +kernel
theorem dX1_liveWeek_9 : decode cX1_liveWeek 9 = .ok (.aload_n 0, 1) := by decide +kernel
theorem dX1_liveWeek_10 : decode cX1_liveWeek 10 = .ok (.invokevirtual 106, 3) := by decide +kernel
theorem dX1_liveWeek_13 : decode cX1_liveWeek 13 = .ok (.aload_n 0, 1) := by decide +kernel
theorem dX1_liveWeek_14 : decode cX1_liveWeek 14 = .ok (.invokevirtual 109, 3) := by decide +kernel
theorem dX1_liveWeek_17 : decode cX1_liveWeek 17 = .ok (.aload_n 0, 1) := by decide +kernel
theorem dX1_liveWeek_18 : decode cX1_liveWeek 18 = .ok (.invokevirtual 112, 3) := by decide +kernel
theorem dX1_liveWeek_21 : decode cX1_liveWeek 21 = .ok (.aload_n 0, 1) := by decide +kernel
theorem dX1_liveWeek_22 : decode cX1_liveWeek 22 = .ok (.invokevirtual 115, 3) := by decide +kernel
theorem dX1_liveWeek_25 : decode cX1_liveWeek 25 = .ok (.aload_n 0, 1) := by decide +kernel
theorem dX1_liveWeek_26 : decode cX1_liveWeek 26 = .ok (.getfield 41, 3) := by decide +kernel
theorem dX1_liveWeek_29 : decode cX1_liveWeek 29 = .ok (.iconst 4, 1) := by decide +kernel
theorem dX1_liveWeek_30 : decode cX1_liveWeek 30 = .ok (.invokestatic 118, 3) := by decide +kernel
theorem dX1_liveWeek_33 : decode cX1_liveWeek 33 = .ok (.iconst 3, 1) := by decide +kernel
theorem dX1_liveWeek_34 : decode cX1_liveWeek 34 = .ok (.if_icmp .ne 7, 3) := by decide +kernel
theorem dX1_liveWeek_37 : decode cX1_liveWeek 37 = .ok (.aload_n 0, 1) := by decide +kernel
theorem dX1_liveWeek_38 : decode cX1_liveWeek 38 = .ok (.invokevirtual 124, 3) := by decide +kernel
theorem dX1_liveWeek_41 : decode cX1_liveWeek 41 = .ok (.aload_n 0, 1) := by decide +kernel
theorem dX1_liveWeek_42 : decode cX1_liveWeek 42 = .ok (.invokevirtual 127, 3) := by decide +kernel
theorem dX1_liveWeek_45 : decode cX1_liveWeek 45 = .ok (.aload_n 0, 1) := by decide +kernel
theorem dX1_liveWeek_46 : decode cX1_liveWeek 46 = .ok (.dup, 1) := by decide +kernel
theorem dX1_liveWeek_47 : decode cX1_liveWeek 47 = .ok (.getfield 41, 3) := by decide +kernel
theorem dX1_liveWeek_50 : decode cX1_liveWeek 50 = .ok (.iconst 1, 1) := by decide +kernel
theorem dX1_liveWeek_51 : decode cX1_liveWeek 51 = .ok (.iadd, 1) := by decide +kernel
theorem dX1_liveWeek_52 : decode cX1_liveWeek 52 = .ok (.putfield 41, 3) := by decide +kernel
theorem dX1_liveWeek_55 : decode cX1_liveWeek 55 = .ok (.return_, 1) := by decide +kernel
set_option maxRecDepth 20000 in
theorem ggX1_lightFires_X1_countCombers : GoodIn wsX1_lightFires wsX1_countCombers := goodIn_r _ [15, 1, 16, 17, 18, 19, 20, 21, 22, 23, 24, 25, 26, 27, 28, 29, 30, 31, 32, 33, 34, 35, 36, 37, 38, 39, 40, 41, 42, 43, 44, 45, 46, 47, 48] (by decide +kernel) (by decide +kernel)
set_option maxRecDepth 20000 in
theorem gX1_lightFires_X1_countCombers : GoodIn wsX1_lightFires (wsV RX1 74 RX1 yX1_countCombers wsX1_countCombers) := goodIn_app (goodIn_of _ (by decide +kernel)) ggX1_lightFires_X1_countCombers
theorem dX1_lightFires_0 : decode cX1_lightFires 0 = .ok (.aload_n 0, 1) := by decide +kernel
theorem dX1_lightFires_1 : decode cX1_lightFires 1 = .ok (.invokevirtual 74, 3) := by decide +kernel
theorem dX1_lightFires_4 : decode cX1_lightFires 4 = .ok (.iconst 0, 1) := by decide +kernel
theorem dX1_lightFires_5 : decode cX1_lightFires 5 = .ok (.istore_n 1, 1) := by decide +kernel
theorem dX1_lightFires_6 : decode cX1_lightFires 6 = .ok (.iload_n 1, 1) := by decide +kernel
theorem dX1_lightFires_7 : decode cX1_lightFires 7 = .ok (.iconst 3, 1) := by decide +kernel
theorem dX1_lightFires_8 : decode cX1_lightFires 8 = .ok (.if_icmp .ge 75, 3) := by decide +kernel
theorem dX1_lightFires_11 : decode cX1_lightFires 11 = .ok (.aload_n 0, 1) := by decide +kernel
theorem dX1_lightFires_12 : decode cX1_lightFires 12 = .ok (.getfield 31, 3) := by decide +kernel
theorem dX1_lightFires_15 : decode cX1_lightFires 15 = .ok (.iload_n 1, 1) := by decide +kernel
theorem dX1_lightFires_16 : decode cX1_lightFires 16 = .ok (.iaload, 1) := by decide +kernel
theorem dX1_lightFires_17 : decode cX1_lightFires 17 = .ok (.ifCond .le 42, 3) := by decide +kernel
theorem dX1_lightFires_20 : decode cX1_lightFires 20 = .ok (.aload_n 0, 1) := by decide +kernel
theorem dX1_lightFires_21 : decode cX1_lightFires 21 = .ok (.getfield 15, 3) := by decide +kernel
theorem dX1_lightFires_24 : decode cX1_lightFires 24 = .ok (.ifCond .le 35, 3) := by decide +kernel
theorem dX1_lightFires_27 : decode cX1_lightFires 27 = .ok (.aload_n 0, 1) := by decide +kernel
theorem dX1_lightFires_28 : decode cX1_lightFires 28 = .ok (.dup, 1) := by decide +kernel
theorem dX1_lightFires_29 : decode cX1_lightFires 29 = .ok (.getfield 15, 3) := by decide +kernel
theorem dX1_lightFires_32 : decode cX1_lightFires 32 = .ok (.iconst 1, 1) := by decide +kernel
theorem dX1_lightFires_33 : decode cX1_lightFires 33 = .ok (.isub, 1) := by decide +kernel
theorem dX1_lightFires_34 : decode cX1_lightFires 34 = .ok (.putfield 15, 3) := by decide +kernel
theorem dX1_lightFires_37 : decode cX1_lightFires 37 = .ok (.aload_n 0, 1) := by decide +kernel
theorem dX1_lightFires_38 : decode cX1_lightFires 38 = .ok (.getfield 28, 3) := by decide +kernel
theorem dX1_lightFires_41 : decode cX1_lightFires 41 = .ok (.iload_n 1, 1) := by decide +kernel
theorem dX1_lightFires_42 : decode cX1_lightFires 42 = .ok (.bipush 9, 2) := by decide +kernel
theorem dX1_lightFires_44 : decode cX1_lightFires 44 = .ok (.aload_n 0, 1) := by decide +kernel
theorem dX1_lightFires_45 : decode cX1_lightFires 45 = .ok (.getfield 28, 3) := by decide +kernel
theorem dX1_lightFires_48 : decode cX1_lightFires 48 = .ok (.iload_n 1, 1) := by decide +kernel
theorem dX1_lightFires_49 : decode cX1_lightFires 49 = .ok (.iaload, 1) := by decide +kernel
theorem dX1_lightFires_50 : decode cX1_lightFires 50 = .ok (.iconst 3, 1) := by decide +kernel
theorem dX1_lightFires_51 : decode cX1_lightFires 51 = .ok (.iadd, 1) := by decide +kernel
theorem dX1_lightFires_52 : decode cX1_lightFires 52 = .ok (.invokestatic 130, 3) := by decide +kernel
theorem dX1_lightFires_55 : decode cX1_lightFires 55 = .ok (.iastore, 1) := by decide +kernel
theorem dX1_lightFires_56 : decode cX1_lightFires 56 = .ok (.goto 21, 3) := by decide +kernel
theorem dX1_lightFires_59 : decode cX1_lightFires 59 = .ok (.aload_n 0, 1) := by decide +kernel
theorem dX1_lightFires_60 : decode cX1_lightFires 60 = .ok (.getfield 28, 3) := by decide +kernel
theorem dX1_lightFires_63 : decode cX1_lightFires 63 = .ok (.iload_n 1, 1) := by decide +kernel
theorem dX1_lightFires_64 : decode cX1_lightFires 64 = .ok (.iconst 0, 1) := by decide +kernel
theorem dX1_lightFires_65 : decode cX1_lightFires 65 = .ok (.aload_n 0, 1) := by decide +kernel
theorem dX1_lightFires_66 : decode cX1_lightFires 66 = .ok (.getfield 28, 3) := by decide +kernel
theorem dX1_lightFires_69 : decode cX1_lightFires 69 = .ok (.iload_n 1, 1) := by decide +kernel
theorem dX1_lightFires_70 : decode cX1_lightFires 70 = .ok (.iaload, 1) := by decide +kernel
theorem dX1_lightFires_71 : decode cX1_lightFires 71 = .ok (.iconst 2, 1) := by decide +kernel
theorem dX1_lightFires_72 : decode cX1_lightFires 72 = .ok (.isub, 1) := by decide +kernel
theorem dX1_lightFires_73 : decode cX1_lightFires 73 = .ok (.invokestatic 133, 3) := by decide +kernel
theorem dX1_lightFires_76 : decode cX1_lightFires 76 = .ok (.iastore, 1) := by decide +kernel
theorem dX1_lightFires_77 : decode cX1_lightFires 77 = .ok (.iinc 1 1, 3) := by decide +kernel
theorem dX1_lightFires_80 : decode cX1_lightFires 80 = .ok (.goto (-74), 3) := by decide +kernel
theorem dX1_lightFires_83 : decode cX1_lightFires 83 = .ok (.return_, 1) := by decide +kernel
set_option maxRecDepth 20000 in
theorem ggX1_poundsOf_X0_combs : GoodIn wsX1_poundsOf wsX0_combs := goodIn_r _ [13, 14, 15, 30, 31, 32, 33, 34, 35, 36, 37, 38, 39] (by decide +kernel) (by decide +kernel)
set_option maxRecDepth 20000 in
theorem gX1_poundsOf_X0_combs : GoodIn wsX1_poundsOf (wsV RX1 77 RX0 yX0_combs wsX0_combs) := goodIn_app (goodIn_of _ (by decide +kernel)) ggX1_poundsOf_X0_combs
theorem dX1_poundsOf_0 : decode cX1_poundsOf 0 = .ok (.aload_n 1, 1) := by decide +kernel
theorem dX1_poundsOf_1 : decode cX1_poundsOf 1 = .ok (.invokevirtual 77, 3) := by decide +kernel
theorem dX1_poundsOf_4 : decode cX1_poundsOf 4 = .ok (.ifCond .ne 5, 3) := by decide +kernel
theorem dX1_poundsOf_7 : decode cX1_poundsOf 7 = .ok (.iconst 0, 1) := by decide +kernel
theorem dX1_poundsOf_8 : decode cX1_poundsOf 8 = .ok (.ireturn, 1) := by decide +kernel
theorem dX1_poundsOf_9 : decode cX1_poundsOf 9 = .ok (.iconst 0, 1) := by decide +kernel
theorem dX1_poundsOf_10 : decode cX1_poundsOf 10 = .ok (.aload_n 0, 1) := by decide +kernel
theorem dX1_poundsOf_11 : decode cX1_poundsOf 11 = .ok (.getfield 31, 3) := by decide +kernel
theorem dX1_poundsOf_14 : decode cX1_poundsOf 14 = .ok (.aload_n 1, 1) := by decide +kernel
theorem dX1_poundsOf_15 : decode cX1_poundsOf 15 = .ok (.getfield 63, 3) := by decide +kernel
theorem dX1_poundsOf_18 : decode cX1_poundsOf 18 = .ok (.iaload, 1) := by decide +kernel
theorem dX1_poundsOf_19 : decode cX1_poundsOf 19 = .ok (.iconst 2, 1) := by decide +kernel
theorem dX1_poundsOf_20 : decode cX1_poundsOf 20 = .ok (.isub, 1) := by decide +kernel
theorem dX1_poundsOf_21 : decode cX1_poundsOf 21 = .ok (.invokestatic 133, 3) := by decide +kernel
theorem dX1_poundsOf_24 : decode cX1_poundsOf 24 = .ok (.istore_n 2, 1) := by decide +kernel
theorem dX1_poundsOf_25 : decode cX1_poundsOf 25 = .ok (.iconst 0, 1) := by decide +kernel
theorem dX1_poundsOf_26 : decode cX1_poundsOf 26 = .ok (.aload_n 1, 1) := by decide +kernel
theorem dX1_poundsOf_27 : decode cX1_poundsOf 27 = .ok (.getfield 136, 3) := by decide +kernel
theorem dX1_poundsOf_30 : decode cX1_poundsOf 30 = .ok (.aload_n 0, 1) := by decide +kernel
theorem dX1_poundsOf_31 : decode cX1_poundsOf 31 = .ok (.getfield 28, 3) := by decide +kernel
theorem dX1_poundsOf_34 : decode cX1_poundsOf 34 = .ok (.aload_n 1, 1) := by decide +kernel
theorem dX1_poundsOf_35 : decode cX1_poundsOf 35 = .ok (.getfield 63, 3) := by decide +kernel
theorem dX1_poundsOf_38 : decode cX1_poundsOf 38 = .ok (.iaload, 1) := by decide +kernel
theorem dX1_poundsOf_39 : decode cX1_poundsOf 39 = .ok (.iadd, 1) := by decide +kernel
theorem dX1_poundsOf_40 : decode cX1_poundsOf 40 = .ok (.iconst 2, 1) := by decide +kernel
theorem dX1_poundsOf_41 : decode cX1_poundsOf 41 = .ok (.iload_n 2, 1) := by decide +kernel
theorem dX1_poundsOf_42 : decode cX1_poundsOf 42 = .ok (.imul, 1) := by decide +kernel
theorem dX1_poundsOf_43 : decode cX1_poundsOf 43 = .ok (.isub, 1) := by decide +kernel
theorem dX1_poundsOf_44 : decode cX1_poundsOf 44 = .ok (.invokestatic 133, 3) := by decide +kernel
theorem dX1_poundsOf_47 : decode cX1_poundsOf 47 = .ok (.ireturn, 1) := by decide +kernel
set_option maxRecDepth 20000 in
theorem ggX1_poundsOfPot_X1_poundsOf : GoodIn wsX1_poundsOfPot wsX1_poundsOf := goodIn_r _ [7, 8, 2, 9, 10, 11, 12, 13, 14, 15, 16, 17, 18, 19, 20, 21, 22, 23, 24, 25, 26, 27, 28, 29, 30, 31, 32, 33, 34, 35, 36, 37, 38, 39, 40, 41, 42, 43, 44, 45] (by decide +kernel) (by decide +kernel)
set_option maxRecDepth 20000 in
theorem gX1_poundsOfPot_X1_poundsOf : GoodIn wsX1_poundsOfPot (wsV RX1 139 RX1 yX1_poundsOf wsX1_poundsOf) := goodIn_app (goodIn_of _ (by decide +kernel)) ggX1_poundsOfPot_X1_poundsOf
theorem dX1_poundsOfPot_0 : decode cX1_poundsOfPot 0 = .ok (.iconst 0, 1) := by decide +kernel
theorem dX1_poundsOfPot_1 : decode cX1_poundsOfPot 1 = .ok (.istore_n 2, 1) := by decide +kernel
theorem dX1_poundsOfPot_2 : decode cX1_poundsOfPot 2 = .ok (.aload_n 0, 1) := by decide +kernel
theorem dX1_poundsOfPot_3 : decode cX1_poundsOfPot 3 = .ok (.getfield 36, 3) := by decide +kernel
theorem dX1_poundsOfPot_6 : decode cX1_poundsOfPot 6 = .ok (.astore_n 3, 1) := by decide +kernel
theorem dX1_poundsOfPot_7 : decode cX1_poundsOfPot 7 = .ok (.aload_n 3, 1) := by decide +kernel
theorem dX1_poundsOfPot_8 : decode cX1_poundsOfPot 8 = .ok (.arraylength, 1) := by decide +kernel
theorem dX1_poundsOfPot_9 : decode cX1_poundsOfPot 9 = .ok (.istore 4, 2) := by decide +kernel
theorem dX1_poundsOfPot_11 : decode cX1_poundsOfPot 11 = .ok (.iconst 0, 1) := by decide +kernel
theorem dX1_poundsOfPot_12 : decode cX1_poundsOfPot 12 = .ok (.istore 5, 2) := by decide +kernel
theorem dX1_poundsOfPot_14 : decode cX1_poundsOfPot 14 = .ok (.iload 5, 2) := by decide +kernel
theorem dX1_poundsOfPot_16 : decode cX1_poundsOfPot 16 = .ok (.iload 4, 2) := by decide +kernel
theorem dX1_poundsOfPot_18 : decode cX1_poundsOfPot 18 = .ok (.if_icmp .ge 33, 3) := by decide +kernel
theorem dX1_poundsOfPot_21 : decode cX1_poundsOfPot 21 = .ok (.aload_n 3, 1) := by decide +kernel
theorem dX1_poundsOfPot_22 : decode cX1_poundsOfPot 22 = .ok (.iload 5, 2) := by decide +kernel
theorem dX1_poundsOfPot_24 : decode cX1_poundsOfPot 24 = .ok (.aaload, 1) := by decide +kernel
theorem dX1_poundsOfPot_25 : decode cX1_poundsOfPot 25 = .ok (.astore 6, 2) := by decide +kernel
theorem dX1_poundsOfPot_27 : decode cX1_poundsOfPot 27 = .ok (.aload 6, 2) := by decide +kernel
theorem dX1_poundsOfPot_29 : decode cX1_poundsOfPot 29 = .ok (.getfield 63, 3) := by decide +kernel
theorem dX1_poundsOfPot_32 : decode cX1_poundsOfPot 32 = .ok (.iload_n 1, 1) := by decide +kernel
theorem dX1_poundsOfPot_33 : decode cX1_poundsOfPot 33 = .ok (.if_icmp .ne 12, 3) := by decide +kernel
theorem dX1_poundsOfPot_36 : decode cX1_poundsOfPot 36 = .ok (.iload_n 2, 1) := by decide +kernel
theorem dX1_poundsOfPot_37 : decode cX1_poundsOfPot 37 = .ok (.aload_n 0, 1) := by decide +kernel
theorem dX1_poundsOfPot_38 : decode cX1_poundsOfPot 38 = .ok (.aload 6, 2) := by decide +kernel
theorem dX1_poundsOfPot_40 : decode cX1_poundsOfPot 40 = .ok (.invokevirtual 139, 3) := by decide +kernel
theorem dX1_poundsOfPot_43 : decode cX1_poundsOfPot 43 = .ok (.iadd, 1) := by decide +kernel
theorem dX1_poundsOfPot_44 : decode cX1_poundsOfPot 44 = .ok (.istore_n 2, 1) := by decide +kernel
theorem dX1_poundsOfPot_45 : decode cX1_poundsOfPot 45 = .ok (.iinc 5 1, 3) := by decide +kernel
theorem dX1_poundsOfPot_48 : decode cX1_poundsOfPot 48 = .ok (.goto (-34), 3) := by decide +kernel
theorem dX1_poundsOfPot_51 : decode cX1_poundsOfPot 51 = .ok (.iload_n 2, 1) := by decide +kernel
theorem dX1_poundsOfPot_52 : decode cX1_poundsOfPot 52 = .ok (.ireturn, 1) := by decide +kernel
set_option maxRecDepth 20000 in
theorem ggX1_combWool_X1_poundsOf : GoodIn wsX1_combWool wsX1_poundsOf := goodIn_r _ [13, 14, 15, 16, 17, 5, 18, 19, 20, 21, 22, 23, 24, 25, 26, 27, 28, 29, 30, 31, 32, 33, 34, 35, 36, 37, 38, 39, 40, 41, 42, 43, 44, 45, 46, 47, 48, 49, 50, 51] (by decide +kernel) (by decide +kernel)
set_option maxRecDepth 20000 in
theorem gX1_combWool_X1_poundsOf : GoodIn wsX1_combWool (wsV RX1 139 RX1 yX1_poundsOf wsX1_poundsOf) := goodIn_app (goodIn_of _ (by decide +kernel)) ggX1_combWool_X1_poundsOf
theorem dX1_combWool_0 : decode cX1_combWool 0 = .ok (.aload_n 0, 1) := by decide +kernel
theorem dX1_combWool_1 : decode cX1_combWool 1 = .ok (.getfield 36, 3) := by decide +kernel
theorem dX1_combWool_4 : decode cX1_combWool 4 = .ok (.astore_n 1, 1) := by decide +kernel
theorem dX1_combWool_5 : decode cX1_combWool 5 = .ok (.aload_n 1, 1) := by decide +kernel
theorem dX1_combWool_6 : decode cX1_combWool 6 = .ok (.arraylength, 1) := by decide +kernel
theorem dX1_combWool_7 : decode cX1_combWool 7 = .ok (.istore_n 2, 1) := by decide +kernel
theorem dX1_combWool_8 : decode cX1_combWool 8 = .ok (.iconst 0, 1) := by decide +kernel
theorem dX1_combWool_9 : decode cX1_combWool 9 = .ok (.istore_n 3, 1) := by decide +kernel
theorem dX1_combWool_10 : decode cX1_combWool 10 = .ok (.iload_n 3, 1) := by decide +kernel
theorem dX1_combWool_11 : decode cX1_combWool 11 = .ok (.iload_n 2, 1) := by decide +kernel
theorem dX1_combWool_12 : decode cX1_combWool 12 = .ok (.if_icmp .ge 65, 3) := by decide +kernel
theorem dX1_combWool_15 : decode cX1_combWool 15 = .ok (.aload_n 1, 1) := by decide +kernel
theorem dX1_combWool_16 : decode cX1_combWool 16 = .ok (.iload_n 3, 1) := by decide +kernel
theorem dX1_combWool_17 : decode cX1_combWool 17 = .ok (.aaload, 1) := by decide +kernel
theorem dX1_combWool_18 : decode cX1_combWool 18 = .ok (.astore 4, 2) := by decide +kernel
theorem dX1_combWool_20 : decode cX1_combWool 20 = .ok (.aload_n 0, 1) := by decide +kernel
theorem dX1_combWool_21 : decode cX1_combWool 21 = .ok (.aload 4, 2) := by decide +kernel
theorem dX1_combWool_23 : decode cX1_combWool 23 = .ok (.invokevirtual 139, 3) := by decide +kernel
theorem dX1_combWool_26 : decode cX1_combWool 26 = .ok (.aload_n 0, 1) := by decide +kernel
theorem dX1_combWool_27 : decode cX1_combWool 27 = .ok (.getfield 18, 3) := by decide +kernel
theorem dX1_combWool_30 : decode cX1_combWool 30 = .ok (.invokestatic 130, 3) := by decide +kernel
theorem dX1_combWool_33 : decode cX1_combWool 33 = .ok (.istore 5, 2) := by decide +kernel
theorem dX1_combWool_35 : decode cX1_combWool 35 = .ok (.aload_n 0, 1) := by decide +kernel
theorem dX1_combWool_36 : decode cX1_combWool 36 = .ok (.dup, 1) := by decide +kernel
theorem dX1_combWool_37 : decode cX1_combWool 37 = .ok (.getfield 18, 3) := by decide +kernel
theorem dX1_combWool_40 : decode cX1_combWool 40 = .ok (.iload 5, 2) := by decide +kernel
theorem dX1_combWool_42 : decode cX1_combWool 42 = .ok (.isub, 1) := by decide +kernel
theorem dX1_combWool_43 : decode cX1_combWool 43 = .ok (.putfield 18, 3) := by decide +kernel
theorem dX1_combWool_46 : decode cX1_combWool 46 = .ok (.aload_n 0, 1) := by decide +kernel
theorem dX1_combWool_47 : decode cX1_combWool 47 = .ok (.dup, 1) := by decide +kernel
theorem dX1_combWool_48 : decode cX1_combWool 48 = .ok (.getfield 47, 3) := by decide +kernel
theorem dX1_combWool_51 : decode cX1_combWool 51 = .ok (.iload 5, 2) := by decide +kernel
theorem dX1_combWool_53 : decode cX1_combWool 53 = .ok (.iadd, 1) := by decide +kernel
theorem dX1_combWool_54 : decode cX1_combWool 54 = .ok (.putfield 47, 3) := by decide +kernel
theorem dX1_combWool_57 : decode cX1_combWool 57 = .ok (.aload 4, 2) := by decide +kernel
theorem dX1_combWool_59 : decode cX1_combWool 59 = .ok (.dup, 1) := by decide +kernel
theorem dX1_combWool_60 : decode cX1_combWool 60 = .ok (.getfield 80, 3) := by decide +kernel
theorem dX1_combWool_63 : decode cX1_combWool 63 = .ok (.iload 5, 2) := by decide +kernel
theorem dX1_combWool_65 : decode cX1_combWool 65 = .ok (.iconst 2, 1) := by decide +kernel
theorem dX1_combWool_66 : decode cX1_combWool 66 = .ok (.idiv, 1) := by decide +kernel
theorem dX1_combWool_67 : decode cX1_combWool 67 = .ok (.iadd, 1) := by decide +kernel
theorem dX1_combWool_68 : decode cX1_combWool 68 = .ok (.putfield 80, 3) := by decide +kernel
theorem dX1_combWool_71 : decode cX1_combWool 71 = .ok (.iinc 3 1, 3) := by decide +kernel
theorem dX1_combWool_74 : decode cX1_combWool 74 = .ok (.goto (-64), 3) := by decide +kernel
theorem dX1_combWool_77 : decode cX1_combWool 77 = .ok (.return_, 1) := by decide +kernel
set_option maxRecDepth 20000 in
theorem ggX1_spreadFever_J9_floorMod_7cf53 : GoodIn wsX1_spreadFever wsJ9_floorMod_7cf53 := goodIn_r _ [8] (by decide +kernel) (by decide +kernel)
set_option maxRecDepth 20000 in
theorem gX1_spreadFever_J9_floorMod_7cf53 : GoodIn wsX1_spreadFever (va_wsS RX1 118 yJ9_floorMod_7cf53 wsJ9_floorMod_7cf53) := goodIn_app (goodIn_of _ (by decide +kernel)) ggX1_spreadFever_J9_floorMod_7cf53
set_option maxRecDepth 20000 in
theorem ggX1_spreadFever_X0_combs : GoodIn wsX1_spreadFever wsX0_combs := goodIn_r _ [13, 14, 15, 37, 38, 39, 40, 41, 42, 43, 44, 45, 46] (by decide +kernel) (by decide +kernel)
set_option maxRecDepth 20000 in
theorem gX1_spreadFever_X0_combs : GoodIn wsX1_spreadFever (wsV RX1 77 RX0 yX0_combs wsX0_combs) := goodIn_app (goodIn_of _ (by decide +kernel)) ggX1_spreadFever_X0_combs
set_option maxRecDepth 20000 in
theorem ggX1_spreadFever_X0_fallSick : GoodIn wsX1_spreadFever wsX0_fallSick := goodIn_r _ [19, 14, 20, 21, 22, 37, 38, 39, 40, 41, 42, 43, 44, 45, 46] (by decide +kernel) (by decide +kernel)
set_option maxRecDepth 20000 in
theorem gX1_spreadFever_X0_fallSick : GoodIn wsX1_spreadFever (wsV RX1 143 RX0 yX0_fallSick wsX0_fallSick) := goodIn_app (goodIn_of _ (by decide +kernel)) ggX1_spreadFever_X0_fallSick
theorem dX1_spreadFever_0 : decode cX1_spreadFever 0 = .ok (.aload_n 0, 1) := by decide +kernel
theorem dX1_spreadFever_1 : decode cX1_spreadFever 1 = .ok (.getfield 24, 3) := by decide +kernel
theorem dX1_spreadFever_4 : decode cX1_spreadFever 4 = .ok (.aload_n 0, 1) := by decide +kernel
theorem dX1_spreadFever_5 : decode cX1_spreadFever 5 = .ok (.getfield 41, 3) := by decide +kernel
theorem dX1_spreadFever_8 : decode cX1_spreadFever 8 = .ok (.bipush 8, 2) := by decide +kernel
theorem dX1_spreadFever_10 : decode cX1_spreadFever 10 = .ok (.invokestatic 118, 3) := by decide +kernel
theorem dX1_spreadFever_13 : decode cX1_spreadFever 13 = .ok (.iaload, 1) := by decide +kernel
theorem dX1_spreadFever_14 : decode cX1_spreadFever 14 = .ok (.istore_n 1, 1) := by decide +kernel
theorem dX1_spreadFever_15 : decode cX1_spreadFever 15 = .ok (.aload_n 0, 1) := by decide +kernel
theorem dX1_spreadFever_16 : decode cX1_spreadFever 16 = .ok (.getfield 36, 3) := by decide +kernel
theorem dX1_spreadFever_19 : decode cX1_spreadFever 19 = .ok (.astore_n 2, 1) := by decide +kernel
theorem dX1_spreadFever_20 : decode cX1_spreadFever 20 = .ok (.aload_n 2, 1) := by decide +kernel
theorem dX1_spreadFever_21 : decode cX1_spreadFever 21 = .ok (.arraylength, 1) := by decide +kernel
theorem dX1_spreadFever_22 : decode cX1_spreadFever 22 = .ok (.istore_n 3, 1) := by decide +kernel
theorem dX1_spreadFever_23 : decode cX1_spreadFever 23 = .ok (.iconst 0, 1) := by decide +kernel
theorem dX1_spreadFever_24 : decode cX1_spreadFever 24 = .ok (.istore 4, 2) := by decide +kernel
theorem dX1_spreadFever_26 : decode cX1_spreadFever 26 = .ok (.iload 4, 2) := by decide +kernel
theorem dX1_spreadFever_28 : decode cX1_spreadFever 28 = .ok (.iload_n 3, 1) := by decide +kernel
theorem dX1_spreadFever_29 : decode cX1_spreadFever 29 = .ok (.if_icmp .ge 37, 3) := by decide +kernel
theorem dX1_spreadFever_32 : decode cX1_spreadFever 32 = .ok (.aload_n 2, 1) := by decide +kernel
theorem dX1_spreadFever_33 : decode cX1_spreadFever 33 = .ok (.iload 4, 2) := by decide +kernel
theorem dX1_spreadFever_35 : decode cX1_spreadFever 35 = .ok (.aaload, 1) := by decide +kernel
theorem dX1_spreadFever_36 : decode cX1_spreadFever 36 = .ok (.astore 5, 2) := by decide +kernel
theorem dX1_spreadFever_38 : decode cX1_spreadFever 38 = .ok (.aload 5, 2) := by decide +kernel
theorem dX1_spreadFever_40 : decode cX1_spreadFever 40 = .ok (.invokevirtual 77, 3) := by decide +kernel
theorem dX1_spreadFever_43 : decode cX1_spreadFever 43 = .ok (.ifCond .eq 17, 3) := by decide +kernel
theorem dX1_spreadFever_46 : decode cX1_spreadFever 46 = .ok (.aload 5, 2) := by decide +kernel
theorem dX1_spreadFever_48 : decode cX1_spreadFever 48 = .ok (.getfield 63, 3) := by decide +kernel
theorem dX1_spreadFever_51 : decode cX1_spreadFever 51 = .ok (.iload_n 1, 1) := by decide +kernel
theorem dX1_spreadFever_52 : decode cX1_spreadFever 52 = .ok (.if_icmp .ne 8, 3) := by decide +kernel
theorem dX1_spreadFever_55 : decode cX1_spreadFever 55 = .ok (.aload 5, 2) := by decide +kernel
theorem dX1_spreadFever_57 : decode cX1_spreadFever 57 = .ok (.invokevirtual 143, 3) := by decide +kernel
theorem dX1_spreadFever_60 : decode cX1_spreadFever 60 = .ok (.iinc 4 1, 3) := by decide +kernel
theorem dX1_spreadFever_63 : decode cX1_spreadFever 63 = .ok (.goto (-37), 3) := by decide +kernel
theorem dX1_spreadFever_66 : decode cX1_spreadFever 66 = .ok (.return_, 1) := by decide +kernel
set_option maxRecDepth 20000 in
theorem ggX1_nurseSick_X1_nurse : GoodIn wsX1_nurseSick wsX1_nurse := goodIn_r _ [7, 8, 9, 10, 11, 12, 13, 14, 15, 16, 17, 18, 19, 20, 21, 22, 23, 24, 25, 26, 27, 28, 29, 6, 30, 31, 32, 33, 34, 35, 36, 37, 38, 39, 40, 55, 56, 57, 58, 59, 60, 61, 62, 63, 64, 41, 42, 43, 44, 45, 46, 47, 48, 49, 50, 51, 52, 53, 54] (by decide +kernel) (by decide +kernel)
set_option maxRecDepth 20000 in
theorem gX1_nurseSick_X1_nurse : GoodIn wsX1_nurseSick (wsV RX1 146 RX1 yX1_nurse wsX1_nurse) := goodIn_app (goodIn_of _ (by decide +kernel)) ggX1_nurseSick_X1_nurse
theorem dX1_nurseSick_0 : decode cX1_nurseSick 0 = .ok (.aload_n 0, 1) := by decide +kernel
theorem dX1_nurseSick_1 : decode cX1_nurseSick 1 = .ok (.getfield 36, 3) := by decide +kernel
theorem dX1_nurseSick_4 : decode cX1_nurseSick 4 = .ok (.astore_n 1, 1) := by decide +kernel
theorem dX1_nurseSick_5 : decode cX1_nurseSick 5 = .ok (.aload_n 1, 1) := by decide +kernel
theorem dX1_nurseSick_6 : decode cX1_nurseSick 6 = .ok (.arraylength, 1) := by decide +kernel
theorem dX1_nurseSick_7 : decode cX1_nurseSick 7 = .ok (.istore_n 2, 1) := by decide +kernel
theorem dX1_nurseSick_8 : decode cX1_nurseSick 8 = .ok (.iconst 0, 1) := by decide +kernel
theorem dX1_nurseSick_9 : decode cX1_nurseSick 9 = .ok (.istore_n 3, 1) := by decide +kernel
theorem dX1_nurseSick_10 : decode cX1_nurseSick 10 = .ok (.iload_n 3, 1) := by decide +kernel
theorem dX1_nurseSick_11 : decode cX1_nurseSick 11 = .ok (.iload_n 2, 1) := by decide +kernel
theorem dX1_nurseSick_12 : decode cX1_nurseSick 12 = .ok (.if_icmp .ge 29, 3) := by decide +kernel
theorem dX1_nurseSick_15 : decode cX1_nurseSick 15 = .ok (.aload_n 1, 1) := by decide +kernel
theorem dX1_nurseSick_16 : decode cX1_nurseSick 16 = .ok (.iload_n 3, 1) := by decide +kernel
theorem dX1_nurseSick_17 : decode cX1_nurseSick 17 = .ok (.aaload, 1) := by decide +kernel
theorem dX1_nurseSick_18 : decode cX1_nurseSick 18 = .ok (.astore 4, 2) := by decide +kernel
theorem dX1_nurseSick_20 : decode cX1_nurseSick 20 = .ok (.aload 4, 2) := by decide +kernel
theorem dX1_nurseSick_22 : decode cX1_nurseSick 22 = .ok (.getfield 60, 3) := by decide +kernel
theorem dX1_nurseSick_25 : decode cX1_nurseSick 25 = .ok (.iconst 1, 1) := by decide +kernel
theorem dX1_nurseSick_26 : decode cX1_nurseSick 26 = .ok (.if_icmp .ne 9, 3) := by decide +kernel
theorem dX1_nurseSick_29 : decode cX1_nurseSick 29 = .ok (.aload_n 0, 1) := by decide +kernel
theorem dX1_nurseSick_30 : decode cX1_nurseSick 30 = .ok (.aload 4, 2) := by decide +kernel
theorem dX1_nurseSick_32 : decode cX1_nurseSick 32 = .ok (.invokevirtual 146, 3) := by decide +kernel
theorem dX1_nurseSick_35 : decode cX1_nurseSick 35 = .ok (.iinc 3 1, 3) := by decide +kernel
theorem dX1_nurseSick_38 : decode cX1_nurseSick 38 = .ok (.goto (-28), 3) := by decide +kernel
theorem dX1_nurseSick_41 : decode cX1_nurseSick 41 = .ok (.return_, 1) := by decide +kernel
set_option maxRecDepth 20000 in
theorem ggX1_nurse_X0_die : GoodIn wsX1_nurse wsX0_die := goodIn_r _ [11, 12, 13, 14, 15, 16, 17, 18, 19, 35, 36, 37, 38, 39, 40, 41, 42, 43, 44] (by decide +kernel) (by decide +kernel)
set_option maxRecDepth 20000 in
theorem gX1_nurse_X0_die : GoodIn wsX1_nurse (wsV RX1 152 RX0 yX0_die wsX0_die) := goodIn_app (goodIn_of _ (by decide +kernel)) ggX1_nurse_X0_die
set_option maxRecDepth 20000 in
theorem ggX1_nurse_X1_payOut : GoodIn wsX1_nurse wsX1_payOut := goodIn_r _ [24, 25, 26, 27, 28, 29, 30, 45, 46, 47, 48, 49, 50, 51, 52, 53, 54, 55, 56, 57, 58] (by decide +kernel) (by decide +kernel)
set_option maxRecDepth 20000 in
theorem gX1_nurse_X1_payOut : GoodIn wsX1_nurse (wsV RX1 164 RX1 yX1_payOut wsX1_payOut) := goodIn_app (goodIn_of _ (by decide +kernel)) ggX1_nurse_X1_payOut
set_option maxRecDepth 20000 in
theorem ggX1_nurse_X0_getWell : GoodIn wsX1_nurse wsX0_getWell := goodIn_r _ [34, 12, 17, 18, 35, 36, 37, 38, 39, 40, 41, 42, 43, 44] (by decide +kernel) (by decide +kernel)
set_option maxRecDepth 20000 in
theorem gX1_nurse_X0_getWell : GoodIn wsX1_nurse (wsV RX1 167 RX0 yX0_getWell wsX0_getWell) := goodIn_app (goodIn_of _ (by decide +kernel)) ggX1_nurse_X0_getWell
theorem dX1_nurse_0 : decode cX1_nurse 0 = .ok (.aload_n 1, 1) := by decide +kernel
theorem dX1_nurse_1 : decode cX1_nurse 1 = .ok (.dup, 1) := by decide +kernel
theorem dX1_nurse_2 : decode cX1_nurse 2 = .ok (.getfield 149, 3) := by decide +kernel
theorem dX1_nurse_5 : decode cX1_nurse 5 = .ok (.iconst 1, 1) := by decide +kernel
theorem dX1_nurse_6 : decode cX1_nurse 6 = .ok (.isub, 1) := by decide +kernel
theorem dX1_nurse_7 : decode cX1_nurse 7 = .ok (.putfield 149, 3) := by decide +kernel
theorem dX1_nurse_10 : decode cX1_nurse 10 = .ok (.aload_n 1, 1) := by decide +kernel
theorem dX1_nurse_11 : decode cX1_nurse 11 = .ok (.getfield 149, 3) := by decide +kernel
theorem dX1_nurse_14 : decode cX1_nurse 14 = .ok (.ifCond .gt 8, 3) := by decide +kernel
theorem dX1_nurse_17 : decode cX1_nurse 17 = .ok (.aload_n 1, 1) := by decide +kernel
theorem dX1_nurse_18 : decode cX1_nurse 18 = .ok (.invokevirtual 152, 3) := by decide +kernel
theorem dX1_nurse_21 : decode cX1_nurse 21 = .ok (.return_, 1) := by decide +kernel
theorem dX1_nurse_22 : decode cX1_nurse 22 = .ok (.aload_n 1, 1) := by decide +kernel
theorem dX1_nurse_23 : decode cX1_nurse 23 = .ok (.dup, 1) := by decide +kernel
theorem dX1_nurse_24 : decode cX1_nurse 24 = .ok (.getfield 155, 3) := by decide +kernel
theorem dX1_nurse_27 : decode cX1_nurse 27 = .ok (.iconst 1, 1) := by decide +kernel
theorem dX1_nurse_28 : decode cX1_nurse 28 = .ok (.iadd, 1) := by decide +kernel
theorem dX1_nurse_29 : decode cX1_nurse 29 = .ok (.putfield 155, 3) := by decide +kernel
theorem dX1_nurse_32 : decode cX1_nurse 32 = .ok (.aload_n 1, 1) := by decide +kernel
theorem dX1_nurse_33 : decode cX1_nurse 33 = .ok (.dup, 1) := by decide +kernel
theorem dX1_nurse_34 : decode cX1_nurse 34 = .ok (.getfield 158, 3) := by decide +kernel
theorem dX1_nurse_37 : decode cX1_nurse 37 = .ok (.iconst 1, 1) := by decide +kernel
theorem dX1_nurse_38 : decode cX1_nurse 38 = .ok (.isub, 1) := by decide +kernel
theorem dX1_nurse_39 : decode cX1_nurse 39 = .ok (.putfield 158, 3) := by decide +kernel
theorem dX1_nurse_42 : decode cX1_nurse 42 = .ok (.aload_n 1, 1) := by decide +kernel
theorem dX1_nurse_43 : decode cX1_nurse 43 = .ok (.getfield 161, 3) := by decide +kernel
theorem dX1_nurse_46 : decode cX1_nurse 46 = .ok (.iconst 3, 1) := by decide +kernel
theorem dX1_nurse_47 : decode cX1_nurse 47 = .ok (.if_icmp .ge 41, 3) := by decide +kernel
theorem dX1_nurse_50 : decode cX1_nurse 50 = .ok (.aload_n 0, 1) := by decide +kernel
theorem dX1_nurse_51 : decode cX1_nurse 51 = .ok (.aload_n 1, 1) := by decide +kernel
theorem dX1_nurse_52 : decode cX1_nurse 52 = .ok (.getfield 155, 3) := by decide +kernel
theorem dX1_nurse_55 : decode cX1_nurse 55 = .ok (.iconst 3, 1) := by decide +kernel
theorem dX1_nurse_56 : decode cX1_nurse 56 = .ok (.if_icmp .gt 7, 3) := by decide +kernel
theorem dX1_nurse_59 : decode cX1_nurse 59 = .ok (.iconst 5, 1) := by decide +kernel
theorem dX1_nurse_60 : decode cX1_nurse 60 = .ok (.goto 4, 3) := by decide +kernel
theorem dX1_nurse_63 : decode cX1_nurse 63 = .ok (.iconst 2, 1) := by decide +kernel
theorem dX1_nurse_64 : decode cX1_nurse 64 = .ok (.invokevirtual 164, 3) := by decide +kernel
theorem dX1_nurse_67 : decode cX1_nurse 67 = .ok (.istore_n 2, 1) := by decide +kernel
theorem dX1_nurse_68 : decode cX1_nurse 68 = .ok (.aload_n 1, 1) := by decide +kernel
theorem dX1_nurse_69 : decode cX1_nurse 69 = .ok (.dup, 1) := by decide +kernel
theorem dX1_nurse_70 : decode cX1_nurse 70 = .ok (.getfield 80, 3) := by decide +kernel
theorem dX1_nurse_73 : decode cX1_nurse 73 = .ok (.iload_n 2, 1) := by decide +kernel
theorem dX1_nurse_74 : decode cX1_nurse 74 = .ok (.iadd, 1) := by decide +kernel
theorem dX1_nurse_75 : decode cX1_nurse 75 = .ok (.putfield 80, 3) := by decide +kernel
theorem dX1_nurse_78 : decode cX1_nurse 78 = .ok (.aload_n 0, 1) := by decide +kernel
theorem dX1_nurse_79 : decode cX1_nurse 79 = .ok (.dup, 1) := by decide +kernel
theorem dX1_nurse_80 : decode cX1_nurse 80 = .ok (.getfield 50, 3) := by decide +kernel
theorem dX1_nurse_83 : decode cX1_nurse 83 = .ok (.iload_n 2, 1) := by decide +kernel
theorem dX1_nurse_84 : decode cX1_nurse 84 = .ok (.iadd, 1) := by decide +kernel
theorem dX1_nurse_85 : decode cX1_nurse 85 = .ok (.putfield 50, 3) := by decide +kernel
theorem dX1_nurse_88 : decode cX1_nurse 88 = .ok (.aload_n 1, 1) := by decide +kernel
theorem dX1_nurse_89 : decode cX1_nurse 89 = .ok (.getfield 158, 3) := by decide +kernel
theorem dX1_nurse_92 : decode cX1_nurse 92 = .ok (.ifCond .gt 7, 3) := by decide +kernel
theorem dX1_nurse_95 : decode cX1_nurse 95 = .ok (.aload_n 1, 1) := by decide +kernel
theorem dX1_nurse_96 : decode cX1_nurse 96 = .ok (.invokevirtual 167, 3) := by decide +kernel
theorem dX1_nurse_99 : decode cX1_nurse 99 = .ok (.return_, 1) := by decide +kernel
theorem dX1_payOut_0 : decode cX1_payOut 0 = .ok (.aload_n 0, 1) := by decide +kernel
theorem dX1_payOut_1 : decode cX1_payOut 1 = .ok (.getfield 9, 3) := by decide +kernel
theorem dX1_payOut_4 : decode cX1_payOut 4 = .ok (.iload_n 1, 1) := by decide +kernel
theorem dX1_payOut_5 : decode cX1_payOut 5 = .ok (.if_icmp .ge 8, 3) := by decide +kernel
theorem dX1_payOut_8 : decode cX1_payOut 8 = .ok (.aload_n 0, 1) := by decide +kernel
theorem dX1_payOut_9 : decode cX1_payOut 9 = .ok (.iconst 1, 1) := by decide +kernel
theorem dX1_payOut_10 : decode cX1_payOut 10 = .ok (.putfield 99, 3) := by decide +kernel
theorem dX1_payOut_13 : decode cX1_payOut 13 = .ok (.iload_n 1, 1) := by decide +kernel
theorem dX1_payOut_14 : decode cX1_payOut 14 = .ok (.aload_n 0, 1) := by decide +kernel
theorem dX1_payOut_15 : decode cX1_payOut 15 = .ok (.getfield 9, 3) := by decide +kernel
theorem dX1_payOut_18 : decode cX1_payOut 18 = .ok (.invokestatic 130, 3) := by decide +kernel
theorem dX1_payOut_21 : decode cX1_payOut 21 = .ok (.istore_n 2, 1) := by decide +kernel
theorem dX1_payOut_22 : decode cX1_payOut 22 = .ok (.aload_n 0, 1) := by decide +kernel
theorem dX1_payOut_23 : decode cX1_payOut 23 = .ok (.dup, 1) := by decide +kernel
theorem dX1_payOut_24 : decode cX1_payOut 24 = .ok (.getfield 9, 3) := by decide +kernel
theorem dX1_payOut_27 : decode cX1_payOut 27 = .ok (.iload_n 2, 1) := by decide +kernel
theorem dX1_payOut_28 : decode cX1_payOut 28 = .ok (.isub, 1) := by decide +kernel
theorem dX1_payOut_29 : decode cX1_payOut 29 = .ok (.putfield 9, 3) := by decide +kernel
theorem dX1_payOut_32 : decode cX1_payOut 32 = .ok (.iload_n 2, 1) := by decide +kernel
theorem dX1_payOut_33 : decode cX1_payOut 33 = .ok (.ireturn, 1) := by decide +kernel
set_option maxRecDepth 20000 in
theorem ggX1_takeDues_X0_payDues : GoodIn wsX1_takeDues wsX0_payDues := goodIn_r _ [9, 10, 11, 12, 13, 14, 15, 30, 31, 32, 33, 34, 35, 36, 37, 38, 39] (by decide +kernel) (by decide +kernel)
set_option maxRecDepth 20000 in
theorem gX1_takeDues_X0_payDues : GoodIn wsX1_takeDues (wsV RX1 170 RX0 yX0_payDues wsX0_payDues) := goodIn_app (goodIn_of _ (by decide +kernel)) ggX1_takeDues_X0_payDues
theorem dX1_takeDues_0 : decode cX1_takeDues 0 = .ok (.aload_n 0, 1) := by decide +kernel
theorem dX1_takeDues_1 : decode cX1_takeDues 1 = .ok (.getfield 36, 3) := by decide +kernel
theorem dX1_takeDues_4 : decode cX1_takeDues 4 = .ok (.astore_n 1, 1) := by decide +kernel
theorem dX1_takeDues_5 : decode cX1_takeDues 5 = .ok (.aload_n 1, 1) := by decide +kernel
theorem dX1_takeDues_6 : decode cX1_takeDues 6 = .ok (.arraylength, 1) := by decide +kernel
theorem dX1_takeDues_7 : decode cX1_takeDues 7 = .ok (.istore_n 2, 1) := by decide +kernel
theorem dX1_takeDues_8 : decode cX1_takeDues 8 = .ok (.iconst 0, 1) := by decide +kernel
theorem dX1_takeDues_9 : decode cX1_takeDues 9 = .ok (.istore_n 3, 1) := by decide +kernel
theorem dX1_takeDues_10 : decode cX1_takeDues 10 = .ok (.iload_n 3, 1) := by decide +kernel
theorem dX1_takeDues_11 : decode cX1_takeDues 11 = .ok (.iload_n 2, 1) := by decide +kernel
theorem dX1_takeDues_12 : decode cX1_takeDues 12 = .ok (.if_icmp .ge 40, 3) := by decide +kernel
theorem dX1_takeDues_15 : decode cX1_takeDues 15 = .ok (.aload_n 1, 1) := by decide +kernel
theorem dX1_takeDues_16 : decode cX1_takeDues 16 = .ok (.iload_n 3, 1) := by decide +kernel
theorem dX1_takeDues_17 : decode cX1_takeDues 17 = .ok (.aaload, 1) := by decide +kernel
theorem dX1_takeDues_18 : decode cX1_takeDues 18 = .ok (.astore 4, 2) := by decide +kernel
theorem dX1_takeDues_20 : decode cX1_takeDues 20 = .ok (.aload 4, 2) := by decide +kernel
theorem dX1_takeDues_22 : decode cX1_takeDues 22 = .ok (.getfield 60, 3) := by decide +kernel
theorem dX1_takeDues_25 : decode cX1_takeDues 25 = .ok (.ifCond .ne 21, 3) := by decide +kernel
theorem dX1_takeDues_28 : decode cX1_takeDues 28 = .ok (.aload_n 0, 1) := by decide +kernel
theorem dX1_takeDues_29 : decode cX1_takeDues 29 = .ok (.dup, 1) := by decide +kernel
theorem dX1_takeDues_30 : decode cX1_takeDues 30 = .ok (.getfield 9, 3) := by decide +kernel
theorem dX1_takeDues_33 : decode cX1_takeDues 33 = .ok (.aload 4, 2) := by decide +kernel
theorem dX1_takeDues_35 : decode cX1_takeDues 35 = .ok (.aload_n 0, 1) := by decide +kernel
theorem dX1_takeDues_36 : decode cX1_takeDues 36 = .ok (.getfield 21, 3) := by decide +kernel
theorem dX1_takeDues_39 : decode cX1_takeDues 39 = .ok (.invokevirtual 170, 3) := by decide +kernel
theorem dX1_takeDues_42 : decode cX1_takeDues 42 = .ok (.iadd, 1) := by decide +kernel
theorem dX1_takeDues_43 : decode cX1_takeDues 43 = .ok (.putfield 9, 3) := by decide +kernel
theorem dX1_takeDues_46 : decode cX1_takeDues 46 = .ok (.iinc 3 1, 3) := by decide +kernel
theorem dX1_takeDues_49 : decode cX1_takeDues 49 = .ok (.goto (-39), 3) := by decide +kernel
theorem dX1_takeDues_52 : decode cX1_takeDues 52 = .ok (.return_, 1) := by decide +kernel
set_option maxRecDepth 20000 in
theorem ggX1_holdClubNight_X0_spendClubNight : GoodIn wsX1_holdClubNight wsX0_spendClubNight := goodIn_r _ [8, 9, 10, 11, 12, 13, 14, 15, 16, 17, 18, 7, 19, 34, 35, 36, 37, 38, 39, 40, 41, 42, 43] (by decide +kernel) (by decide +kernel)
set_option maxRecDepth 20000 in
theorem gX1_holdClubNight_X0_spendClubNight : GoodIn wsX1_holdClubNight (wsV RX1 173 RX0 yX0_spendClubNight wsX0_spendClubNight) := goodIn_app (goodIn_of _ (by decide +kernel)) ggX1_holdClubNight_X0_spendClubNight
theorem dX1_holdClubNight_0 : decode cX1_holdClubNight 0 = .ok (.aload_n 0, 1) := by decide +kernel
theorem dX1_holdClubNight_1 : decode cX1_holdClubNight 1 = .ok (.getfield 36, 3) := by decide +kernel
theorem dX1_holdClubNight_4 : decode cX1_holdClubNight 4 = .ok (.astore_n 1, 1) := by decide +kernel
theorem dX1_holdClubNight_5 : decode cX1_holdClubNight 5 = .ok (.aload_n 1, 1) := by decide +kernel
theorem dX1_holdClubNight_6 : decode cX1_holdClubNight 6 = .ok (.arraylength, 1) := by decide +kernel
theorem dX1_holdClubNight_7 : decode cX1_holdClubNight 7 = .ok (.istore_n 2, 1) := by decide +kernel
theorem dX1_holdClubNight_8 : decode cX1_holdClubNight 8 = .ok (.iconst 0, 1) := by decide +kernel
theorem dX1_holdClubNight_9 : decode cX1_holdClubNight 9 = .ok (.istore_n 3, 1) := by decide +kernel
theorem dX1_holdClubNight_10 : decode cX1_holdClubNight 10 = .ok (.iload_n 3, 1) := by decide +kernel
theorem dX1_holdClubNight_11 : decode cX1_holdClubNight 11 = .ok (.iload_n 2, 1) := by decide +kernel
theorem dX1_holdClubNight_12 : decode cX1_holdClubNight 12 = .ok (.if_icmp .ge 36, 3) := by decide +kernel
theorem dX1_holdClubNight_15 : decode cX1_holdClubNight 15 = .ok (.aload_n 1, 1) := by decide +kernel
theorem dX1_holdClubNight_16 : decode cX1_holdClubNight 16 = .ok (.iload_n 3, 1) := by decide +kernel
theorem dX1_holdClubNight_17 : decode cX1_holdClubNight 17 = .ok (.aaload, 1) := by decide +kernel
theorem dX1_holdClubNight_18 : decode cX1_holdClubNight 18 = .ok (.astore 4, 2) := by decide +kernel
theorem dX1_holdClubNight_20 : decode cX1_holdClubNight 20 = .ok (.aload 4, 2) := by decide +kernel
theorem dX1_holdClubNight_22 : decode cX1_holdClubNight 22 = .ok (.getfield 60, 3) := by decide +kernel
theorem dX1_holdClubNight_25 : decode cX1_holdClubNight 25 = .ok (.ifCond .ne 17, 3) := by decide +kernel
theorem dX1_holdClubNight_28 : decode cX1_holdClubNight 28 = .ok (.aload_n 0, 1) := by decide +kernel
theorem dX1_holdClubNight_29 : decode cX1_holdClubNight 29 = .ok (.dup, 1) := by decide +kernel
theorem dX1_holdClubNight_30 : decode cX1_holdClubNight 30 = .ok (.getfield 9, 3) := by decide +kernel
theorem dX1_holdClubNight_33 : decode cX1_holdClubNight 33 = .ok (.aload 4, 2) := by decide +kernel
theorem dX1_holdClubNight_35 : decode cX1_holdClubNight 35 = .ok (.invokevirtual 173, 3) := by decide +kernel
theorem dX1_holdClubNight_38 : decode cX1_holdClubNight 38 = .ok (.iadd, 1) := by decide +kernel
theorem dX1_holdClubNight_39 : decode cX1_holdClubNight 39 = .ok (.putfield 9, 3) := by decide +kernel
theorem dX1_holdClubNight_42 : decode cX1_holdClubNight 42 = .ok (.iinc 3 1, 3) := by decide +kernel
theorem dX1_holdClubNight_45 : decode cX1_holdClubNight 45 = .ok (.goto (-35), 3) := by decide +kernel
theorem dX1_holdClubNight_48 : decode cX1_holdClubNight 48 = .ok (.return_, 1) := by decide +kernel
set_option maxRecDepth 20000 in
theorem ggX1_holdFunerals_X1_bury : GoodIn wsX1_holdFunerals wsX1_bury := goodIn_r _ [7, 8, 9, 10, 2, 1, 11, 12, 13, 6, 14, 15, 16, 17, 18, 19, 20, 21, 22, 23, 24, 25, 26, 27, 28, 29, 30, 31, 32, 33, 34, 35, 36, 37, 38, 39, 40, 41, 42, 43, 44, 45, 46, 47, 48, 49] (by decide +kernel) (by decide +kernel)
set_option maxRecDepth 20000 in
theorem gX1_holdFunerals_X1_bury : GoodIn wsX1_holdFunerals (wsV RX1 179 RX1 yX1_bury wsX1_bury) := goodIn_app (goodIn_of _ (by decide +kernel)) ggX1_holdFunerals_X1_bury
theorem dX1_holdFunerals_0 : decode cX1_holdFunerals 0 = .ok (.aload_n 0, 1) := by decide +kernel
theorem dX1_holdFunerals_1 : decode cX1_holdFunerals 1 = .ok (.getfield 36, 3) := by decide +kernel
theorem dX1_holdFunerals_4 : decode cX1_holdFunerals 4 = .ok (.astore_n 1, 1) := by decide +kernel
theorem dX1_holdFunerals_5 : decode cX1_holdFunerals 5 = .ok (.aload_n 1, 1) := by decide +kernel
theorem dX1_holdFunerals_6 : decode cX1_holdFunerals 6 = .ok (.arraylength, 1) := by decide +kernel
theorem dX1_holdFunerals_7 : decode cX1_holdFunerals 7 = .ok (.istore_n 2, 1) := by decide +kernel
theorem dX1_holdFunerals_8 : decode cX1_holdFunerals 8 = .ok (.iconst 0, 1) := by decide +kernel
theorem dX1_holdFunerals_9 : decode cX1_holdFunerals 9 = .ok (.istore_n 3, 1) := by decide +kernel
theorem dX1_holdFunerals_10 : decode cX1_holdFunerals 10 = .ok (.iload_n 3, 1) := by decide +kernel
theorem dX1_holdFunerals_11 : decode cX1_holdFunerals 11 = .ok (.iload_n 2, 1) := by decide +kernel
theorem dX1_holdFunerals_12 : decode cX1_holdFunerals 12 = .ok (.if_icmp .ge 28, 3) := by decide +kernel
theorem dX1_holdFunerals_15 : decode cX1_holdFunerals 15 = .ok (.aload_n 1, 1) := by decide +kernel
theorem dX1_holdFunerals_16 : decode cX1_holdFunerals 16 = .ok (.iload_n 3, 1) := by decide +kernel
theorem dX1_holdFunerals_17 : decode cX1_holdFunerals 17 = .ok (.aaload, 1) := by decide +kernel
theorem dX1_holdFunerals_18 : decode cX1_holdFunerals 18 = .ok (.astore 4, 2) := by decide +kernel
theorem dX1_holdFunerals_20 : decode cX1_holdFunerals 20 = .ok (.aload 4, 2) := by decide +kernel
theorem dX1_holdFunerals_22 : decode cX1_holdFunerals 22 = .ok (.getfield 176, 3) := by decide +kernel
theorem dX1_holdFunerals_25 : decode cX1_holdFunerals 25 = .ok (.ifCond .eq 9, 3) := by decide +kernel
theorem dX1_holdFunerals_28 : decode cX1_holdFunerals 28 = .ok (.aload_n 0, 1) := by decide +kernel
theorem dX1_holdFunerals_29 : decode cX1_holdFunerals 29 = .ok (.aload 4, 2) := by decide +kernel
theorem dX1_holdFunerals_31 : decode cX1_holdFunerals 31 = .ok (.invokevirtual 179, 3) := by decide +kernel
theorem dX1_holdFunerals_34 : decode cX1_holdFunerals 34 = .ok (.iinc 3 1, 3) := by decide +kernel
theorem dX1_holdFunerals_37 : decode cX1_holdFunerals 37 = .ok (.goto (-27), 3) := by decide +kernel
theorem dX1_holdFunerals_40 : decode cX1_holdFunerals 40 = .ok (.return_, 1) := by decide +kernel
set_option maxRecDepth 20000 in
theorem ggX1_bury_X1_payOut : GoodIn wsX1_bury wsX1_payOut := goodIn_r _ [10, 2, 11, 12, 13, 14, 15, 22, 23, 24, 25, 26, 27, 28, 29, 30, 31, 32, 33, 34, 35] (by decide +kernel) (by decide +kernel)
set_option maxRecDepth 20000 in
theorem gX1_bury_X1_payOut : GoodIn wsX1_bury (wsV RX1 164 RX1 yX1_payOut wsX1_payOut) := goodIn_app (goodIn_of _ (by decide +kernel)) ggX1_bury_X1_payOut
set_option maxRecDepth 20000 in
theorem ggX1_bury_X0_lives : GoodIn wsX1_bury wsX0_lives := goodIn_r _ [20, 21, 36, 37, 38, 39, 40, 41, 42, 43, 44, 45] (by decide +kernel) (by decide +kernel)
set_option maxRecDepth 20000 in
theorem gX1_bury_X0_lives : GoodIn wsX1_bury (wsV RX1 70 RX0 yX0_lives wsX0_lives) := goodIn_app (goodIn_of _ (by decide +kernel)) ggX1_bury_X0_lives
theorem dX1_bury_0 : decode cX1_bury 0 = .ok (.aload_n 0, 1) := by decide +kernel
theorem dX1_bury_1 : decode cX1_bury 1 = .ok (.dup, 1) := by decide +kernel
theorem dX1_bury_2 : decode cX1_bury 2 = .ok (.getfield 53, 3) := by decide +kernel
theorem dX1_bury_5 : decode cX1_bury 5 = .ok (.aload_n 0, 1) := by decide +kernel
theorem dX1_bury_6 : decode cX1_bury 6 = .ok (.bipush 12, 2) := by decide +kernel
theorem dX1_bury_8 : decode cX1_bury 8 = .ok (.invokevirtual 164, 3) := by decide +kernel
theorem dX1_bury_11 : decode cX1_bury 11 = .ok (.iadd, 1) := by decide +kernel
theorem dX1_bury_12 : decode cX1_bury 12 = .ok (.putfield 53, 3) := by decide +kernel
theorem dX1_bury_15 : decode cX1_bury 15 = .ok (.aload_n 0, 1) := by decide +kernel
theorem dX1_bury_16 : decode cX1_bury 16 = .ok (.dup, 1) := by decide +kernel
theorem dX1_bury_17 : decode cX1_bury 17 = .ok (.getfield 9, 3) := by decide +kernel
theorem dX1_bury_20 : decode cX1_bury 20 = .ok (.aload_n 1, 1) := by decide +kernel
theorem dX1_bury_21 : decode cX1_bury 21 = .ok (.getfield 80, 3) := by decide +kernel
theorem dX1_bury_24 : decode cX1_bury 24 = .ok (.iadd, 1) := by decide +kernel
theorem dX1_bury_25 : decode cX1_bury 25 = .ok (.putfield 9, 3) := by decide +kernel
theorem dX1_bury_28 : decode cX1_bury 28 = .ok (.aload_n 1, 1) := by decide +kernel
theorem dX1_bury_29 : decode cX1_bury 29 = .ok (.iconst 0, 1) := by decide +kernel
theorem dX1_bury_30 : decode cX1_bury 30 = .ok (.putfield 80, 3) := by decide +kernel
theorem dX1_bury_33 : decode cX1_bury 33 = .ok (.aload_n 1, 1) := by decide +kernel
theorem dX1_bury_34 : decode cX1_bury 34 = .ok (.iconst 0, 1) := by decide +kernel
theorem dX1_bury_35 : decode cX1_bury 35 = .ok (.putfield 176, 3) := by decide +kernel
theorem dX1_bury_38 : decode cX1_bury 38 = .ok (.aload_n 0, 1) := by decide +kernel
theorem dX1_bury_39 : decode cX1_bury 39 = .ok (.getfield 36, 3) := by decide +kernel
theorem dX1_bury_42 : decode cX1_bury 42 = .ok (.astore_n 2, 1) := by decide +kernel
theorem dX1_bury_43 : decode cX1_bury 43 = .ok (.aload_n 2, 1) := by decide +kernel
theorem dX1_bury_44 : decode cX1_bury 44 = .ok (.arraylength, 1) := by decide +kernel
theorem dX1_bury_45 : decode cX1_bury 45 = .ok (.istore_n 3, 1) := by decide +kernel
theorem dX1_bury_46 : decode cX1_bury 46 = .ok (.iconst 0, 1) := by decide +kernel
theorem dX1_bury_47 : decode cX1_bury 47 = .ok (.istore 4, 2) := by decide +kernel
theorem dX1_bury_49 : decode cX1_bury 49 = .ok (.iload 4, 2) := by decide +kernel
theorem dX1_bury_51 : decode cX1_bury 51 = .ok (.iload_n 3, 1) := by decide +kernel
theorem dX1_bury_52 : decode cX1_bury 52 = .ok (.if_icmp .ge 52, 3) := by decide +kernel
theorem dX1_bury_55 : decode cX1_bury 55 = .ok (.aload_n 2, 1) := by decide +kernel
theorem dX1_bury_56 : decode cX1_bury 56 = .ok (.iload 4, 2) := by decide +kernel
theorem dX1_bury_58 : decode cX1_bury 58 = .ok (.aaload, 1) := by decide +kernel
theorem dX1_bury_59 : decode cX1_bury 59 = .ok (.astore 5, 2) := by decide +kernel
theorem dX1_bury_61 : decode cX1_bury 61 = .ok (.aload 5, 2) := by decide +kernel
theorem dX1_bury_63 : decode cX1_bury 63 = .ok (.invokevirtual 70, 3) := by decide +kernel
theorem dX1_bury_66 : decode cX1_bury 66 = .ok (.ifCond .eq 32, 3) := by decide +kernel
theorem dX1_bury_69 : decode cX1_bury 69 = .ok (.aload 5, 2) := by decide +kernel
theorem dX1_bury_71 : decode cX1_bury 71 = .ok (.getfield 80, 3) := by decide +kernel
theorem dX1_bury_74 : decode cX1_bury 74 = .ok (.ifCond .le 24, 3) := by decide +kernel
theorem dX1_bury_77 : decode cX1_bury 77 = .ok (.aload 5, 2) := by decide +kernel
theorem dX1_bury_79 : decode cX1_bury 79 = .ok (.dup, 1) := by decide +kernel
theorem dX1_bury_80 : decode cX1_bury 80 = .ok (.getfield 80, 3) := by decide +kernel
theorem dX1_bury_83 : decode cX1_bury 83 = .ok (.iconst 1, 1) := by decide +kernel
theorem dX1_bury_84 : decode cX1_bury 84 = .ok (.isub, 1) := by decide +kernel
theorem dX1_bury_85 : decode cX1_bury 85 = .ok (.putfield 80, 3) := by decide +kernel
theorem dX1_bury_88 : decode cX1_bury 88 = .ok (.aload_n 0, 1) := by decide +kernel
theorem dX1_bury_89 : decode cX1_bury 89 = .ok (.dup, 1) := by decide +kernel
theorem dX1_bury_90 : decode cX1_bury 90 = .ok (.getfield 9, 3) := by decide +kernel
theorem dX1_bury_93 : decode cX1_bury 93 = .ok (.iconst 1, 1) := by decide +kernel
theorem dX1_bury_94 : decode cX1_bury 94 = .ok (.iadd, 1) := by decide +kernel
theorem dX1_bury_95 : decode cX1_bury 95 = .ok (.putfield 9, 3) := by decide +kernel
theorem dX1_bury_98 : decode cX1_bury 98 = .ok (.iinc 4 1, 3) := by decide +kernel
theorem dX1_bury_101 : decode cX1_bury 101 = .ok (.goto (-52), 3) := by decide +kernel
theorem dX1_bury_104 : decode cX1_bury 104 = .ok (.return_, 1) := by decide +kernel
set_option maxRecDepth 20000 in
theorem ggX2_init_X1_init : GoodIn wsX2_init wsX1_init := goodIn_r _ [11, 12, 2, 3, 13, 14, 15, 16, 17, 18, 19, 20, 21, 22, 23, 24, 25, 26, 27, 28, 29, 30, 31, 32, 33, 34, 35, 36, 37, 38, 39, 40, 41, 42, 43, 44, 47, 48, 49, 50, 51, 52, 53, 54, 55, 56] (by decide +kernel) (by decide +kernel)
set_option maxRecDepth 20000 in
theorem gX2_init_X1_init : GoodIn wsX2_init (wsX1_init) := ggX2_init_X1_init
theorem dX2_init_0 : decode cX2_init 0 = .ok (.aload_n 0, 1) := by decide +kernel
theorem dX2_init_1 : decode cX2_init 1 = .ok (.invokespecial 1, 3) := by decide +kernel
theorem dX2_init_4 : decode cX2_init 4 = .ok (.aload_n 0, 1) := by decide +kernel
theorem dX2_init_5 : decode cX2_init 5 = .ok (.new 7, 3) := by decide +kernel
theorem dX2_init_8 : decode cX2_init 8 = .ok (.dup, 1) := by decide +kernel
theorem dX2_init_9 : decode cX2_init 9 = .ok (.invokespecial 9, 3) := by decide +kernel
theorem dX2_init_12 : decode cX2_init 12 = .ok (.putfield 10, 3) := by decide +kernel
theorem dX2_init_15 : decode cX2_init 15 = .ok (.aload_n 0, 1) := by decide +kernel
theorem dX2_init_16 : decode cX2_init 16 = .ok (.new 7, 3) := by decide +kernel
theorem dX2_init_19 : decode cX2_init 19 = .ok (.dup, 1) := by decide +kernel
theorem dX2_init_20 : decode cX2_init 20 = .ok (.invokespecial 9, 3) := by decide +kernel
theorem dX2_init_23 : decode cX2_init 23 = .ok (.putfield 16, 3) := by decide +kernel
theorem dX2_init_26 : decode cX2_init 26 = .ok (.return_, 1) := by decide +kernel
set_option maxRecDepth 20000 in
theorem ggX2_join_X2_isOutside : GoodIn wsX2_join wsX2_isOutside := goodIn_r _ [11] (by decide +kernel) (by decide +kernel)
set_option maxRecDepth 20000 in
theorem gX2_join_X2_isOutside : GoodIn wsX2_join (va_wsS RX2 19 yX2_isOutside wsX2_isOutside) := goodIn_app (goodIn_of _ (by decide +kernel)) ggX2_join_X2_isOutside
set_option maxRecDepth 20000 in
theorem ggX2_join_X0_enter : GoodIn wsX2_join wsX0_enter := goodIn_r _ [16, 17, 18, 19, 20, 37, 38, 39, 40, 41, 42, 43, 44, 45, 46] (by decide +kernel) (by decide +kernel)
set_option maxRecDepth 20000 in
theorem gX2_join_X0_enter : GoodIn wsX2_join (wsV RX2 43 RX0 yX0_enter wsX0_enter) := goodIn_app (goodIn_of _ (by decide +kernel)) ggX2_join_X0_enter
theorem dX2_join_0 : decode cX2_join 0 = .ok (.iload_n 1, 1) := by decide +kernel
theorem dX2_join_1 : decode cX2_join 1 = .ok (.iconst 1, 1) := by decide +kernel
theorem dX2_join_2 : decode cX2_join 2 = .ok (.bipush 9, 2) := by decide +kernel
theorem dX2_join_4 : decode cX2_join 4 = .ok (.invokestatic 19, 3) := by decide +kernel
theorem dX2_join_7 : decode cX2_join 7 = .ok (.ifCond .ne 13, 3) := by decide +kernel
theorem dX2_join_10 : decode cX2_join 10 = .ok (.iload_n 2, 1) := by decide +kernel
theorem dX2_join_11 : decode cX2_join 11 = .ok (.iconst 1, 1) := by decide +kernel
theorem dX2_join_12 : decode cX2_join 12 = .ok (.bipush 20, 2) := by decide +kernel
theorem dX2_join_14 : decode cX2_join 14 = .ok (.invokestatic 19, 3) := by decide +kernel
theorem dX2_join_17 : decode cX2_join 17 = .ok (.ifCond .eq 13, 3) := by decide +kernel
theorem dX2_join_20 : decode cX2_join 20 = .ok (.new 23, 3) := by decide +kernel
theorem dX2_join_23 : decode cX2_join 23 = .ok (.dup, 1) := by decide +kernel
theorem dX2_join_24 : decode cX2_join 24 = .ok (.ldc 25, 2) := by decide +kernel
theorem dX2_join_26 : decode cX2_join 26 = .ok (.invokespecial 27, 3) := by decide +kernel
theorem dX2_join_29 : decode cX2_join 29 = .ok (.athrow, 1) := by decide +kernel
theorem dX2_join_30 : decode cX2_join 30 = .ok (.aload_n 0, 1) := by decide +kernel
theorem dX2_join_31 : decode cX2_join 31 = .ok (.getfield 10, 3) := by decide +kernel
theorem dX2_join_34 : decode cX2_join 34 = .ok (.getfield 30, 3) := by decide +kernel
theorem dX2_join_37 : decode cX2_join 37 = .ok (.istore_n 3, 1) := by decide +kernel
theorem dX2_join_38 : decode cX2_join 38 = .ok (.iload_n 3, 1) := by decide +kernel
theorem dX2_join_39 : decode cX2_join 39 = .ok (.iconst 0, 1) := by decide +kernel
theorem dX2_join_40 : decode cX2_join 40 = .ok (.bipush 11, 2) := by decide +kernel
theorem dX2_join_42 : decode cX2_join 42 = .ok (.invokestatic 19, 3) := by decide +kernel
theorem dX2_join_45 : decode cX2_join 45 = .ok (.ifCond .eq 13, 3) := by decide +kernel
theorem dX2_join_48 : decode cX2_join 48 = .ok (.new 34, 3) := by decide +kernel
theorem dX2_join_51 : decode cX2_join 51 = .ok (.dup, 1) := by decide +kernel
theorem dX2_join_52 : decode cX2_join 52 = .ok (.ldc 36, 2) := by decide +kernel
theorem dX2_join_54 : decode cX2_join 54 = .ok (.invokespecial 38, 3) := by decide +kernel
theorem dX2_join_57 : decode cX2_join 57 = .ok (.athrow, 1) := by decide +kernel
theorem dX2_join_58 : decode cX2_join 58 = .ok (.aload_n 0, 1) := by decide +kernel
theorem dX2_join_59 : decode cX2_join 59 = .ok (.getfield 10, 3) := by decide +kernel
theorem dX2_join_62 : decode cX2_join 62 = .ok (.getfield 39, 3) := by decide +kernel
theorem dX2_join_65 : decode cX2_join 65 = .ok (.iload_n 3, 1) := by decide +kernel
theorem dX2_join_66 : decode cX2_join 66 = .ok (.aaload, 1) := by decide +kernel
theorem dX2_join_67 : decode cX2_join 67 = .ok (.iload_n 1, 1) := by decide +kernel
theorem dX2_join_68 : decode cX2_join 68 = .ok (.iload_n 2, 1) := by decide +kernel
theorem dX2_join_69 : decode cX2_join 69 = .ok (.invokevirtual 43, 3) := by decide +kernel
theorem dX2_join_72 : decode cX2_join 72 = .ok (.aload_n 0, 1) := by decide +kernel
theorem dX2_join_73 : decode cX2_join 73 = .ok (.getfield 10, 3) := by decide +kernel
theorem dX2_join_76 : decode cX2_join 76 = .ok (.dup, 1) := by decide +kernel
theorem dX2_join_77 : decode cX2_join 77 = .ok (.getfield 30, 3) := by decide +kernel
theorem dX2_join_80 : decode cX2_join 80 = .ok (.iconst 1, 1) := by decide +kernel
theorem dX2_join_81 : decode cX2_join 81 = .ok (.iadd, 1) := by decide +kernel
theorem dX2_join_82 : decode cX2_join 82 = .ok (.putfield 30, 3) := by decide +kernel
theorem dX2_join_85 : decode cX2_join 85 = .ok (.iload_n 3, 1) := by decide +kernel
theorem dX2_join_86 : decode cX2_join 86 = .ok (.ireturn, 1) := by decide +kernel
set_option maxRecDepth 20000 in
theorem ggX2_place_X1_hasMember : GoodIn wsX2_place wsX1_hasMember := goodIn_r _ [13, 14, 15, 37, 38, 39, 40, 41, 42, 43, 44, 45, 46, 47, 48, 49, 50, 51, 52, 53, 54, 55, 56, 57, 58, 59, 60] (by decide +kernel) (by decide +kernel)
set_option maxRecDepth 20000 in
theorem gX2_place_X1_hasMember : GoodIn wsX2_place (wsV RX2 49 RX1 yX1_hasMember wsX1_hasMember) := goodIn_app (goodIn_of _ (by decide +kernel)) ggX2_place_X1_hasMember
set_option maxRecDepth 20000 in
theorem ggX2_place_X2_isOutside : GoodIn wsX2_place wsX2_isOutside := goodIn_r _ [19] (by decide +kernel) (by decide +kernel)
set_option maxRecDepth 20000 in
theorem gX2_place_X2_isOutside : GoodIn wsX2_place (va_wsS RX2 19 yX2_isOutside wsX2_isOutside) := goodIn_app (goodIn_of _ (by decide +kernel)) ggX2_place_X2_isOutside
set_option maxRecDepth 20000 in
theorem ggX2_place_X1_hasRoom : GoodIn wsX2_place wsX1_hasRoom := goodIn_r _ [23, 24, 25, 26, 27, 12, 28, 14, 29, 30, 31, 32, 33, 34, 51, 52, 53, 54, 55, 56, 57, 58, 59, 60, 37, 38, 39, 40, 41, 42, 43, 44, 45, 46, 47, 48, 49, 50] (by decide +kernel) (by decide +kernel)
set_option maxRecDepth 20000 in
theorem gX2_place_X1_hasRoom : GoodIn wsX2_place (wsV RX2 61 RX1 yX1_hasRoom wsX1_hasRoom) := goodIn_app (goodIn_of _ (by decide +kernel)) ggX2_place_X1_hasRoom
theorem dX2_place_0 : decode cX2_place 0 = .ok (.aload_n 0, 1) := by decide +kernel
theorem dX2_place_1 : decode cX2_place 1 = .ok (.getfield 10, 3) := by decide +kernel
theorem dX2_place_4 : decode cX2_place 4 = .ok (.iload_n 1, 1) := by decide +kernel
theorem dX2_place_5 : decode cX2_place 5 = .ok (.invokevirtual 49, 3) := by decide +kernel
theorem dX2_place_8 : decode cX2_place 8 = .ok (.ifCond .eq 12, 3) := by decide +kernel
theorem dX2_place_11 : decode cX2_place 11 = .ok (.iload_n 2, 1) := by decide +kernel
theorem dX2_place_12 : decode cX2_place 12 = .ok (.iconst (-1), 1) := by decide +kernel
theorem dX2_place_13 : decode cX2_place 13 = .ok (.iconst 2, 1) := by decide +kernel
theorem dX2_place_14 : decode cX2_place 14 = .ok (.invokestatic 19, 3) := by decide +kernel
theorem dX2_place_17 : decode cX2_place 17 = .ok (.ifCond .eq 13, 3) := by decide +kernel
theorem dX2_place_20 : decode cX2_place 20 = .ok (.new 53, 3) := by decide +kernel
theorem dX2_place_23 : decode cX2_place 23 = .ok (.dup, 1) := by decide +kernel
theorem dX2_place_24 : decode cX2_place 24 = .ok (.ldc 55, 2) := by decide +kernel
theorem dX2_place_26 : decode cX2_place 26 = .ok (.invokespecial 57, 3) := by decide +kernel
theorem dX2_place_29 : decode cX2_place 29 = .ok (.athrow, 1) := by decide +kernel
theorem dX2_place_30 : decode cX2_place 30 = .ok (.aload_n 0, 1) := by decide +kernel
theorem dX2_place_31 : decode cX2_place 31 = .ok (.getfield 10, 3) := by decide +kernel
theorem dX2_place_34 : decode cX2_place 34 = .ok (.getfield 39, 3) := by decide +kernel
theorem dX2_place_37 : decode cX2_place 37 = .ok (.iload_n 1, 1) := by decide +kernel
theorem dX2_place_38 : decode cX2_place 38 = .ok (.aaload, 1) := by decide +kernel
theorem dX2_place_39 : decode cX2_place 39 = .ok (.astore_n 3, 1) := by decide +kernel
theorem dX2_place_40 : decode cX2_place 40 = .ok (.aload_n 3, 1) := by decide +kernel
theorem dX2_place_41 : decode cX2_place 41 = .ok (.getfield 58, 3) := by decide +kernel
theorem dX2_place_44 : decode cX2_place 44 = .ok (.iconst 2, 1) := by decide +kernel
theorem dX2_place_45 : decode cX2_place 45 = .ok (.if_icmp .eq 15, 3) := by decide +kernel
theorem dX2_place_48 : decode cX2_place 48 = .ok (.aload_n 0, 1) := by decide +kernel
theorem dX2_place_49 : decode cX2_place 49 = .ok (.getfield 10, 3) := by decide +kernel
theorem dX2_place_52 : decode cX2_place 52 = .ok (.iload_n 2, 1) := by decide +kernel
theorem dX2_place_53 : decode cX2_place 53 = .ok (.aload_n 3, 1) := by decide +kernel
theorem dX2_place_54 : decode cX2_place 54 = .ok (.invokevirtual 61, 3) := by decide +kernel
theorem dX2_place_57 : decode cX2_place 57 = .ok (.ifCond .ne 13, 3) := by decide +kernel
theorem dX2_place_60 : decode cX2_place 60 = .ok (.new 34, 3) := by decide +kernel
theorem dX2_place_63 : decode cX2_place 63 = .ok (.dup, 1) := by decide +kernel
theorem dX2_place_64 : decode cX2_place 64 = .ok (.ldc 65, 2) := by decide +kernel
theorem dX2_place_66 : decode cX2_place 66 = .ok (.invokespecial 38, 3) := by decide +kernel
theorem dX2_place_69 : decode cX2_place 69 = .ok (.athrow, 1) := by decide +kernel
theorem dX2_place_70 : decode cX2_place 70 = .ok (.aload_n 3, 1) := by decide +kernel
theorem dX2_place_71 : decode cX2_place 71 = .ok (.getfield 67, 3) := by decide +kernel
theorem dX2_place_74 : decode cX2_place 74 = .ok (.istore 4, 2) := by decide +kernel
theorem dX2_place_76 : decode cX2_place 76 = .ok (.aload_n 3, 1) := by decide +kernel
theorem dX2_place_77 : decode cX2_place 77 = .ok (.iload_n 2, 1) := by decide +kernel
theorem dX2_place_78 : decode cX2_place 78 = .ok (.putfield 67, 3) := by decide +kernel
theorem dX2_place_81 : decode cX2_place 81 = .ok (.iload 4, 2) := by decide +kernel
theorem dX2_place_83 : decode cX2_place 83 = .ok (.ireturn, 1) := by decide +kernel
set_option maxRecDepth 20000 in
theorem ggX2_give_X1_hasMember : GoodIn wsX2_give wsX1_hasMember := goodIn_r _ [15, 16, 17, 24, 25, 26, 27, 28, 29, 30, 31, 32, 33, 34, 35, 36, 37, 38, 39, 40, 41, 42, 43, 44, 45, 46, 47] (by decide +kernel) (by decide +kernel)
set_option maxRecDepth 20000 in
theorem gX2_give_X1_hasMember : GoodIn wsX2_give (wsV RX2 49 RX1 yX1_hasMember wsX1_hasMember) := goodIn_app (goodIn_of _ (by decide +kernel)) ggX2_give_X1_hasMember
set_option maxRecDepth 20000 in
theorem ggX2_give_X2_isOutside : GoodIn wsX2_give wsX2_isOutside := goodIn_r _ [21] (by decide +kernel) (by decide +kernel)
set_option maxRecDepth 20000 in
theorem gX2_give_X2_isOutside : GoodIn wsX2_give (va_wsS RX2 19 yX2_isOutside wsX2_isOutside) := goodIn_app (goodIn_of _ (by decide +kernel)) ggX2_give_X2_isOutside
theorem dX2_give_0 : decode cX2_give 0 = .ok (.aload_n 0, 1) := by decide +kernel
theorem dX2_give_1 : decode cX2_give 1 = .ok (.getfield 10, 3) := by decide +kernel
theorem dX2_give_4 : decode cX2_give 4 = .ok (.iload_n 1, 1) := by decide +kernel
theorem dX2_give_5 : decode cX2_give 5 = .ok (.invokevirtual 49, 3) := by decide +kernel
theorem dX2_give_8 : decode cX2_give 8 = .ok (.ifCond .eq 14, 3) := by decide +kernel
theorem dX2_give_11 : decode cX2_give 11 = .ok (.aload_n 0, 1) := by decide +kernel
theorem dX2_give_12 : decode cX2_give 12 = .ok (.getfield 10, 3) := by decide +kernel
theorem dX2_give_15 : decode cX2_give 15 = .ok (.iload_n 2, 1) := by decide +kernel
theorem dX2_give_16 : decode cX2_give 16 = .ok (.invokevirtual 49, 3) := by decide +kernel
theorem dX2_give_19 : decode cX2_give 19 = .ok (.ifCond .ne 13, 3) := by decide +kernel
theorem dX2_give_22 : decode cX2_give 22 = .ok (.new 53, 3) := by decide +kernel
theorem dX2_give_25 : decode cX2_give 25 = .ok (.dup, 1) := by decide +kernel
theorem dX2_give_26 : decode cX2_give 26 = .ok (.ldc 70, 2) := by decide +kernel
theorem dX2_give_28 : decode cX2_give 28 = .ok (.invokespecial 57, 3) := by decide +kernel
theorem dX2_give_31 : decode cX2_give 31 = .ok (.athrow, 1) := by decide +kernel
theorem dX2_give_32 : decode cX2_give 32 = .ok (.iload_n 3, 1) := by decide +kernel
theorem dX2_give_33 : decode cX2_give 33 = .ok (.iconst 1, 1) := by decide +kernel
theorem dX2_give_34 : decode cX2_give 34 = .ok (.bipush 99, 2) := by decide +kernel
theorem dX2_give_36 : decode cX2_give 36 = .ok (.invokestatic 19, 3) := by decide +kernel
theorem dX2_give_39 : decode cX2_give 39 = .ok (.ifCond .eq 13, 3) := by decide +kernel
theorem dX2_give_42 : decode cX2_give 42 = .ok (.new 23, 3) := by decide +kernel
theorem dX2_give_45 : decode cX2_give 45 = .ok (.dup, 1) := by decide +kernel
theorem dX2_give_46 : decode cX2_give 46 = .ok (.ldc 72, 2) := by decide +kernel
theorem dX2_give_48 : decode cX2_give 48 = .ok (.invokespecial 27, 3) := by decide +kernel
theorem dX2_give_51 : decode cX2_give 51 = .ok (.athrow, 1) := by decide +kernel
theorem dX2_give_52 : decode cX2_give 52 = .ok (.aload_n 0, 1) := by decide +kernel
theorem dX2_give_53 : decode cX2_give 53 = .ok (.getfield 10, 3) := by decide +kernel
theorem dX2_give_56 : decode cX2_give 56 = .ok (.getfield 39, 3) := by decide +kernel
theorem dX2_give_59 : decode cX2_give 59 = .ok (.iload_n 1, 1) := by decide +kernel
theorem dX2_give_60 : decode cX2_give 60 = .ok (.aaload, 1) := by decide +kernel
theorem dX2_give_61 : decode cX2_give 61 = .ok (.astore 4, 2) := by decide +kernel
theorem dX2_give_63 : decode cX2_give 63 = .ok (.aload_n 0, 1) := by decide +kernel
theorem dX2_give_64 : decode cX2_give 64 = .ok (.getfield 10, 3) := by decide +kernel
theorem dX2_give_67 : decode cX2_give 67 = .ok (.getfield 39, 3) := by decide +kernel
theorem dX2_give_70 : decode cX2_give 70 = .ok (.iload_n 2, 1) := by decide +kernel
theorem dX2_give_71 : decode cX2_give 71 = .ok (.aaload, 1) := by decide +kernel
theorem dX2_give_72 : decode cX2_give 72 = .ok (.astore 5, 2) := by decide +kernel
theorem dX2_give_74 : decode cX2_give 74 = .ok (.iload_n 1, 1) := by decide +kernel
theorem dX2_give_75 : decode cX2_give 75 = .ok (.iload_n 2, 1) := by decide +kernel
theorem dX2_give_76 : decode cX2_give 76 = .ok (.if_icmp .eq 30, 3) := by decide +kernel
theorem dX2_give_79 : decode cX2_give 79 = .ok (.aload 4, 2) := by decide +kernel
theorem dX2_give_81 : decode cX2_give 81 = .ok (.getfield 58, 3) := by decide +kernel
theorem dX2_give_84 : decode cX2_give 84 = .ok (.iconst 2, 1) := by decide +kernel
theorem dX2_give_85 : decode cX2_give 85 = .ok (.if_icmp .eq 21, 3) := by decide +kernel
theorem dX2_give_88 : decode cX2_give 88 = .ok (.aload 5, 2) := by decide +kernel
theorem dX2_give_90 : decode cX2_give 90 = .ok (.getfield 58, 3) := by decide +kernel
theorem dX2_give_93 : decode cX2_give 93 = .ok (.iconst 2, 1) := by decide +kernel
theorem dX2_give_94 : decode cX2_give 94 = .ok (.if_icmp .eq 12, 3) := by decide +kernel
theorem dX2_give_97 : decode cX2_give 97 = .ok (.aload 4, 2) := by decide +kernel
theorem dX2_give_99 : decode cX2_give 99 = .ok (.getfield 74, 3) := by decide +kernel
theorem dX2_give_102 : decode cX2_give 102 = .ok (.iload_n 3, 1) := by decide +kernel
theorem dX2_give_103 : decode cX2_give 103 = .ok (.if_icmp .ge 13, 3) := by decide +kernel
theorem dX2_give_106 : decode cX2_give 106 = .ok (.new 34, 3) := by decide +kernel
theorem dX2_give_109 : decode cX2_give 109 = .ok (.dup, 1) := by decide +kernel
theorem dX2_give_110 : decode cX2_give 110 = .ok (.ldc 76, 2) := by decide +kernel
theorem dX2_give_112 : decode cX2_give 112 = .ok (.invokespecial 38, 3) := by decide +kernel
theorem dX2_give_115 : decode cX2_give 115 = .ok (.athrow, 1) := by decide +kernel
theorem dX2_give_116 : decode cX2_give 116 = .ok (.aload 4, 2) := by decide +kernel
theorem dX2_give_118 : decode cX2_give 118 = .ok (.dup, 1) := by decide +kernel
theorem dX2_give_119 : decode cX2_give 119 = .ok (.getfield 74, 3) := by decide +kernel
theorem dX2_give_122 : decode cX2_give 122 = .ok (.iload_n 3, 1) := by decide +kernel
theorem dX2_give_123 : decode cX2_give 123 = .ok (.isub, 1) := by decide +kernel
theorem dX2_give_124 : decode cX2_give 124 = .ok (.putfield 74, 3) := by decide +kernel
theorem dX2_give_127 : decode cX2_give 127 = .ok (.aload 5, 2) := by decide +kernel
theorem dX2_give_129 : decode cX2_give 129 = .ok (.dup, 1) := by decide +kernel
theorem dX2_give_130 : decode cX2_give 130 = .ok (.getfield 74, 3) := by decide +kernel
theorem dX2_give_133 : decode cX2_give 133 = .ok (.iload_n 3, 1) := by decide +kernel
theorem dX2_give_134 : decode cX2_give 134 = .ok (.iadd, 1) := by decide +kernel
theorem dX2_give_135 : decode cX2_give 135 = .ok (.putfield 74, 3) := by decide +kernel
theorem dX2_give_138 : decode cX2_give 138 = .ok (.aload 4, 2) := by decide +kernel
theorem dX2_give_140 : decode cX2_give 140 = .ok (.getfield 74, 3) := by decide +kernel
theorem dX2_give_143 : decode cX2_give 143 = .ok (.ireturn, 1) := by decide +kernel
set_option maxRecDepth 20000 in
theorem ggX2_settle_X1_hasMember : GoodIn wsX2_settle wsX1_hasMember := goodIn_r _ [14, 15, 16, 30, 31, 32, 33, 34, 35, 36, 37, 38, 39, 40, 41, 42, 43, 44, 45, 46, 47, 48, 49, 50, 51, 52, 53] (by decide +kernel) (by decide +kernel)
set_option maxRecDepth 20000 in
theorem gX2_settle_X1_hasMember : GoodIn wsX2_settle (wsV RX2 49 RX1 yX1_hasMember wsX1_hasMember) := goodIn_app (goodIn_of _ (by decide +kernel)) ggX2_settle_X1_hasMember
set_option maxRecDepth 20000 in
theorem ggX2_settle_X0_payMarks : GoodIn wsX2_settle wsX0_payMarks := goodIn_r _ [21, 22, 23, 24, 25, 26, 27, 44, 45, 46, 47, 48, 49, 50, 51, 52, 53] (by decide +kernel) (by decide +kernel)
set_option maxRecDepth 20000 in
theorem gX2_settle_X0_payMarks : GoodIn wsX2_settle (wsV RX2 83 RX0 yX0_payMarks wsX0_payMarks) := goodIn_app (goodIn_of _ (by decide +kernel)) ggX2_settle_X0_payMarks
theorem dX2_settle_0 : decode cX2_settle 0 = .ok (.aload_n 0, 1) := by decide +kernel
theorem dX2_settle_1 : decode cX2_settle 1 = .ok (.getfield 10, 3) := by decide +kernel
theorem dX2_settle_4 : decode cX2_settle 4 = .ok (.iload_n 1, 1) := by decide +kernel
theorem dX2_settle_5 : decode cX2_settle 5 = .ok (.invokevirtual 49, 3) := by decide +kernel
theorem dX2_settle_8 : decode cX2_settle 8 = .ok (.ifCond .ne 13, 3) := by decide +kernel
theorem dX2_settle_11 : decode cX2_settle 11 = .ok (.new 53, 3) := by decide +kernel
theorem dX2_settle_14 : decode cX2_settle 14 = .ok (.dup, 1) := by decide +kernel
theorem dX2_settle_15 : decode cX2_settle 15 = .ok (.ldc 70, 2) := by decide +kernel
theorem dX2_settle_17 : decode cX2_settle 17 = .ok (.invokespecial 57, 3) := by decide +kernel
theorem dX2_settle_20 : decode cX2_settle 20 = .ok (.athrow, 1) := by decide +kernel
theorem dX2_settle_21 : decode cX2_settle 21 = .ok (.aload_n 0, 1) := by decide +kernel
theorem dX2_settle_22 : decode cX2_settle 22 = .ok (.getfield 10, 3) := by decide +kernel
theorem dX2_settle_25 : decode cX2_settle 25 = .ok (.getfield 39, 3) := by decide +kernel
theorem dX2_settle_28 : decode cX2_settle 28 = .ok (.iload_n 1, 1) := by decide +kernel
theorem dX2_settle_29 : decode cX2_settle 29 = .ok (.aaload, 1) := by decide +kernel
theorem dX2_settle_30 : decode cX2_settle 30 = .ok (.astore_n 2, 1) := by decide +kernel
theorem dX2_settle_31 : decode cX2_settle 31 = .ok (.aload_n 2, 1) := by decide +kernel
theorem dX2_settle_32 : decode cX2_settle 32 = .ok (.getfield 58, 3) := by decide +kernel
theorem dX2_settle_35 : decode cX2_settle 35 = .ok (.iconst 2, 1) := by decide +kernel
theorem dX2_settle_36 : decode cX2_settle 36 = .ok (.if_icmp .ne 13, 3) := by decide +kernel
theorem dX2_settle_39 : decode cX2_settle 39 = .ok (.new 34, 3) := by decide +kernel
theorem dX2_settle_42 : decode cX2_settle 42 = .ok (.dup, 1) := by decide +kernel
theorem dX2_settle_43 : decode cX2_settle 43 = .ok (.ldc 78, 2) := by decide +kernel
theorem dX2_settle_45 : decode cX2_settle 45 = .ok (.invokespecial 38, 3) := by decide +kernel
theorem dX2_settle_48 : decode cX2_settle 48 = .ok (.athrow, 1) := by decide +kernel
theorem dX2_settle_49 : decode cX2_settle 49 = .ok (.aload_n 0, 1) := by decide +kernel
theorem dX2_settle_50 : decode cX2_settle 50 = .ok (.getfield 10, 3) := by decide +kernel
theorem dX2_settle_53 : decode cX2_settle 53 = .ok (.dup, 1) := by decide +kernel
theorem dX2_settle_54 : decode cX2_settle 54 = .ok (.getfield 80, 3) := by decide +kernel
theorem dX2_settle_57 : decode cX2_settle 57 = .ok (.aload_n 2, 1) := by decide +kernel
theorem dX2_settle_58 : decode cX2_settle 58 = .ok (.invokevirtual 83, 3) := by decide +kernel
theorem dX2_settle_61 : decode cX2_settle 61 = .ok (.iadd, 1) := by decide +kernel
theorem dX2_settle_62 : decode cX2_settle 62 = .ok (.putfield 80, 3) := by decide +kernel
theorem dX2_settle_65 : decode cX2_settle 65 = .ok (.aload_n 2, 1) := by decide +kernel
theorem dX2_settle_66 : decode cX2_settle 66 = .ok (.getfield 87, 3) := by decide +kernel
theorem dX2_settle_69 : decode cX2_settle 69 = .ok (.ireturn, 1) := by decide +kernel
set_option maxRecDepth 20000 in
theorem ggX2_told_X1_hasMember : GoodIn wsX2_told wsX1_hasMember := goodIn_r _ [9, 10, 11, 32, 33, 34, 35, 36, 37, 38, 39, 40, 41, 42, 43, 44, 45, 46, 47, 48, 49, 50, 51, 52, 53, 54, 55] (by decide +kernel) (by decide +kernel)
set_option maxRecDepth 20000 in
theorem gX2_told_X1_hasMember : GoodIn wsX2_told (wsV RX2 49 RX1 yX1_hasMember wsX1_hasMember) := goodIn_app (goodIn_of _ (by decide +kernel)) ggX2_told_X1_hasMember
set_option maxRecDepth 20000 in
theorem ggX2_told_X2_isOutside : GoodIn wsX2_told wsX2_isOutside := goodIn_r _ [15] (by decide +kernel) (by decide +kernel)
set_option maxRecDepth 20000 in
theorem gX2_told_X2_isOutside : GoodIn wsX2_told (va_wsS RX2 19 yX2_isOutside wsX2_isOutside) := goodIn_app (goodIn_of _ (by decide +kernel)) ggX2_told_X2_isOutside
set_option maxRecDepth 20000 in
theorem ggX2_told_X0_fact : GoodIn wsX2_told wsX0_fact := goodIn_r _ [20, 21, 22, 23, 24, 25, 26, 27, 28, 29, 46, 47, 48, 49, 50, 51, 52, 53, 54, 55] (by decide +kernel) (by decide +kernel)
set_option maxRecDepth 20000 in
theorem gX2_told_X0_fact : GoodIn wsX2_told (wsV RX2 92 RX0 yX0_fact wsX0_fact) := goodIn_app (goodIn_of _ (by decide +kernel)) ggX2_told_X0_fact
theorem dX2_told_0 : decode cX2_told 0 = .ok (.aload_n 0, 1) := by decide +kernel
theorem dX2_told_1 : decode cX2_told 1 = .ok (.getfield 10, 3) := by decide +kernel
theorem dX2_told_4 : decode cX2_told 4 = .ok (.iload_n 1, 1) := by decide +kernel
theorem dX2_told_5 : decode cX2_told 5 = .ok (.invokevirtual 49, 3) := by decide +kernel
theorem dX2_told_8 : decode cX2_told 8 = .ok (.ifCond .eq 13, 3) := by decide +kernel
end
section
theorem dX2_told_11 : decode cX2_told 11 = .ok (.iload_n 2, 1) := by decide +kernel
theorem dX2_told_12 : decode cX2_told 12 = .ok (.iconst 0, 1) := by decide +kernel
theorem dX2_told_13 : decode cX2_told 13 = .ok (.bipush 8, 2) := by decide +kernel
theorem dX2_told_15 : decode cX2_told 15 = .ok (.invokestatic 19, 3) := by decide +kernel
theorem dX2_told_18 : decode cX2_told 18 = .ok (.ifCond .eq 13, 3) := by decide +kernel
theorem dX2_told_21 : decode cX2_told 21 = .ok (.new 53, 3) := by decide +kernel
theorem dX2_told_24 : decode cX2_told 24 = .ok (.dup, 1) := by decide +kernel
theorem dX2_told_25 : decode cX2_told 25 = .ok (.ldc 90, 2) := by decide +kernel
theorem dX2_told_27 : decode cX2_told 27 = .ok (.invokespecial 57, 3) := by decide +kernel
theorem dX2_told_30 : decode cX2_told 30 = .ok (.athrow, 1) := by decide +kernel
theorem dX2_told_31 : decode cX2_told 31 = .ok (.aload_n 0, 1) := by decide +kernel
theorem dX2_told_32 : decode cX2_told 32 = .ok (.getfield 10, 3) := by decide +kernel
theorem dX2_told_35 : decode cX2_told 35 = .ok (.getfield 39, 3) := by decide +kernel
theorem dX2_told_38 : decode cX2_told 38 = .ok (.iload_n 1, 1) := by decide +kernel
theorem dX2_told_39 : decode cX2_told 39 = .ok (.aaload, 1) := by decide +kernel
theorem dX2_told_40 : decode cX2_told 40 = .ok (.iload_n 2, 1) := by decide +kernel
theorem dX2_told_41 : decode cX2_told 41 = .ok (.invokevirtual 92, 3) := by decide +kernel
theorem dX2_told_44 : decode cX2_told 44 = .ok (.ireturn, 1) := by decide +kernel
theorem dX2_owes_0 : decode cX2_owes 0 = .ok (.iconst 0, 1) := by decide +kernel
theorem dX2_owes_1 : decode cX2_owes 1 = .ok (.istore_n 1, 1) := by decide +kernel
theorem dX2_owes_2 : decode cX2_owes 2 = .ok (.iconst (-1), 1) := by decide +kernel
theorem dX2_owes_3 : decode cX2_owes 3 = .ok (.istore_n 2, 1) := by decide +kernel
theorem dX2_owes_4 : decode cX2_owes 4 = .ok (.iconst 0, 1) := by decide +kernel
theorem dX2_owes_5 : decode cX2_owes 5 = .ok (.istore_n 3, 1) := by decide +kernel
theorem dX2_owes_6 : decode cX2_owes 6 = .ok (.iload_n 3, 1) := by decide +kernel
theorem dX2_owes_7 : decode cX2_owes 7 = .ok (.aload_n 0, 1) := by decide +kernel
theorem dX2_owes_8 : decode cX2_owes 8 = .ok (.getfield 10, 3) := by decide +kernel
theorem dX2_owes_11 : decode cX2_owes 11 = .ok (.getfield 39, 3) := by decide +kernel
theorem dX2_owes_14 : decode cX2_owes 14 = .ok (.arraylength, 1) := by decide +kernel
theorem dX2_owes_15 : decode cX2_owes 15 = .ok (.if_icmp .ge 40, 3) := by decide +kernel
theorem dX2_owes_18 : decode cX2_owes 18 = .ok (.aload_n 0, 1) := by decide +kernel
theorem dX2_owes_19 : decode cX2_owes 19 = .ok (.getfield 10, 3) := by decide +kernel
theorem dX2_owes_22 : decode cX2_owes 22 = .ok (.getfield 39, 3) := by decide +kernel
theorem dX2_owes_25 : decode cX2_owes 25 = .ok (.iload_n 3, 1) := by decide +kernel
theorem dX2_owes_26 : decode cX2_owes 26 = .ok (.aaload, 1) := by decide +kernel
theorem dX2_owes_27 : decode cX2_owes 27 = .ok (.getfield 87, 3) := by decide +kernel
theorem dX2_owes_30 : decode cX2_owes 30 = .ok (.iload_n 1, 1) := by decide +kernel
theorem dX2_owes_31 : decode cX2_owes 31 = .ok (.if_icmp .le 18, 3) := by decide +kernel
theorem dX2_owes_34 : decode cX2_owes 34 = .ok (.aload_n 0, 1) := by decide +kernel
theorem dX2_owes_35 : decode cX2_owes 35 = .ok (.getfield 10, 3) := by decide +kernel
theorem dX2_owes_38 : decode cX2_owes 38 = .ok (.getfield 39, 3) := by decide +kernel
theorem dX2_owes_41 : decode cX2_owes 41 = .ok (.iload_n 3, 1) := by decide +kernel
theorem dX2_owes_42 : decode cX2_owes 42 = .ok (.aaload, 1) := by decide +kernel
theorem dX2_owes_43 : decode cX2_owes 43 = .ok (.getfield 87, 3) := by decide +kernel
theorem dX2_owes_46 : decode cX2_owes 46 = .ok (.istore_n 1, 1) := by decide +kernel
theorem dX2_owes_47 : decode cX2_owes 47 = .ok (.iload_n 3, 1) := by decide +kernel
theorem dX2_owes_48 : decode cX2_owes 48 = .ok (.istore_n 2, 1) := by decide +kernel
theorem dX2_owes_49 : decode cX2_owes 49 = .ok (.iinc 3 1, 3) := by decide +kernel
theorem dX2_owes_52 : decode cX2_owes 52 = .ok (.goto (-46), 3) := by decide +kernel
theorem dX2_owes_55 : decode cX2_owes 55 = .ok (.iload_n 2, 1) := by decide +kernel
theorem dX2_owes_56 : decode cX2_owes 56 = .ok (.ireturn, 1) := by decide +kernel
set_option maxRecDepth 20000 in
theorem ggX2_setFever_X2_isOutside : GoodIn wsX2_setFever wsX2_isOutside := goodIn_r _ [10] (by decide +kernel) (by decide +kernel)
set_option maxRecDepth 20000 in
theorem gX2_setFever_X2_isOutside : GoodIn wsX2_setFever (va_wsS RX2 19 yX2_isOutside wsX2_isOutside) := goodIn_app (goodIn_of _ (by decide +kernel)) ggX2_setFever_X2_isOutside
theorem dX2_setFever_0 : decode cX2_setFever 0 = .ok (.iload_n 1, 1) := by decide +kernel
theorem dX2_setFever_1 : decode cX2_setFever 1 = .ok (.iconst 0, 1) := by decide +kernel
theorem dX2_setFever_2 : decode cX2_setFever 2 = .ok (.bipush 7, 2) := by decide +kernel
theorem dX2_setFever_4 : decode cX2_setFever 4 = .ok (.invokestatic 19, 3) := by decide +kernel
theorem dX2_setFever_7 : decode cX2_setFever 7 = .ok (.ifCond .eq 13, 3) := by decide +kernel
theorem dX2_setFever_10 : decode cX2_setFever 10 = .ok (.new 53, 3) := by decide +kernel
theorem dX2_setFever_13 : decode cX2_setFever 13 = .ok (.dup, 1) := by decide +kernel
theorem dX2_setFever_14 : decode cX2_setFever 14 = .ok (.ldc 96, 2) := by decide +kernel
theorem dX2_setFever_16 : decode cX2_setFever 16 = .ok (.invokespecial 57, 3) := by decide +kernel
theorem dX2_setFever_19 : decode cX2_setFever 19 = .ok (.athrow, 1) := by decide +kernel
theorem dX2_setFever_20 : decode cX2_setFever 20 = .ok (.iload_n 2, 1) := by decide +kernel
theorem dX2_setFever_21 : decode cX2_setFever 21 = .ok (.iconst (-1), 1) := by decide +kernel
theorem dX2_setFever_22 : decode cX2_setFever 22 = .ok (.iconst 2, 1) := by decide +kernel
theorem dX2_setFever_23 : decode cX2_setFever 23 = .ok (.invokestatic 19, 3) := by decide +kernel
theorem dX2_setFever_26 : decode cX2_setFever 26 = .ok (.ifCond .eq 13, 3) := by decide +kernel
theorem dX2_setFever_29 : decode cX2_setFever 29 = .ok (.new 23, 3) := by decide +kernel
theorem dX2_setFever_32 : decode cX2_setFever 32 = .ok (.dup, 1) := by decide +kernel
theorem dX2_setFever_33 : decode cX2_setFever 33 = .ok (.ldc 98, 2) := by decide +kernel
theorem dX2_setFever_35 : decode cX2_setFever 35 = .ok (.invokespecial 27, 3) := by decide +kernel
theorem dX2_setFever_38 : decode cX2_setFever 38 = .ok (.athrow, 1) := by decide +kernel
theorem dX2_setFever_39 : decode cX2_setFever 39 = .ok (.aload_n 0, 1) := by decide +kernel
theorem dX2_setFever_40 : decode cX2_setFever 40 = .ok (.getfield 10, 3) := by decide +kernel
theorem dX2_setFever_43 : decode cX2_setFever 43 = .ok (.getfield 99, 3) := by decide +kernel
theorem dX2_setFever_46 : decode cX2_setFever 46 = .ok (.iload_n 1, 1) := by decide +kernel
theorem dX2_setFever_47 : decode cX2_setFever 47 = .ok (.iaload, 1) := by decide +kernel
theorem dX2_setFever_48 : decode cX2_setFever 48 = .ok (.istore_n 3, 1) := by decide +kernel
theorem dX2_setFever_49 : decode cX2_setFever 49 = .ok (.aload_n 0, 1) := by decide +kernel
theorem dX2_setFever_50 : decode cX2_setFever 50 = .ok (.getfield 10, 3) := by decide +kernel
theorem dX2_setFever_53 : decode cX2_setFever 53 = .ok (.getfield 99, 3) := by decide +kernel
theorem dX2_setFever_56 : decode cX2_setFever 56 = .ok (.iload_n 1, 1) := by decide +kernel
theorem dX2_setFever_57 : decode cX2_setFever 57 = .ok (.iload_n 2, 1) := by decide +kernel
theorem dX2_setFever_58 : decode cX2_setFever 58 = .ok (.iastore, 1) := by decide +kernel
theorem dX2_setFever_59 : decode cX2_setFever 59 = .ok (.iload_n 3, 1) := by decide +kernel
theorem dX2_setFever_60 : decode cX2_setFever 60 = .ok (.ireturn, 1) := by decide +kernel
set_option maxRecDepth 20000 in
theorem ggX2_setDues_X2_isOutside : GoodIn wsX2_setDues wsX2_isOutside := goodIn_r _ [8] (by decide +kernel) (by decide +kernel)
set_option maxRecDepth 20000 in
theorem gX2_setDues_X2_isOutside : GoodIn wsX2_setDues (va_wsS RX2 19 yX2_isOutside wsX2_isOutside) := goodIn_app (goodIn_of _ (by decide +kernel)) ggX2_setDues_X2_isOutside
theorem dX2_setDues_0 : decode cX2_setDues 0 = .ok (.iload_n 1, 1) := by decide +kernel
theorem dX2_setDues_1 : decode cX2_setDues 1 = .ok (.iconst 0, 1) := by decide +kernel
theorem dX2_setDues_2 : decode cX2_setDues 2 = .ok (.iconst 3, 1) := by decide +kernel
theorem dX2_setDues_3 : decode cX2_setDues 3 = .ok (.invokestatic 19, 3) := by decide +kernel
theorem dX2_setDues_6 : decode cX2_setDues 6 = .ok (.ifCond .eq 13, 3) := by decide +kernel
theorem dX2_setDues_9 : decode cX2_setDues 9 = .ok (.new 23, 3) := by decide +kernel
theorem dX2_setDues_12 : decode cX2_setDues 12 = .ok (.dup, 1) := by decide +kernel
theorem dX2_setDues_13 : decode cX2_setDues 13 = .ok (.ldc 103, 2) := by decide +kernel
theorem dX2_setDues_15 : decode cX2_setDues 15 = .ok (.invokespecial 27, 3) := by decide +kernel
theorem dX2_setDues_18 : decode cX2_setDues 18 = .ok (.athrow, 1) := by decide +kernel
theorem dX2_setDues_19 : decode cX2_setDues 19 = .ok (.aload_n 0, 1) := by decide +kernel
theorem dX2_setDues_20 : decode cX2_setDues 20 = .ok (.getfield 10, 3) := by decide +kernel
theorem dX2_setDues_23 : decode cX2_setDues 23 = .ok (.getfield 105, 3) := by decide +kernel
theorem dX2_setDues_26 : decode cX2_setDues 26 = .ok (.istore_n 2, 1) := by decide +kernel
theorem dX2_setDues_27 : decode cX2_setDues 27 = .ok (.aload_n 0, 1) := by decide +kernel
theorem dX2_setDues_28 : decode cX2_setDues 28 = .ok (.getfield 10, 3) := by decide +kernel
theorem dX2_setDues_31 : decode cX2_setDues 31 = .ok (.iload_n 1, 1) := by decide +kernel
theorem dX2_setDues_32 : decode cX2_setDues 32 = .ok (.putfield 105, 3) := by decide +kernel
theorem dX2_setDues_35 : decode cX2_setDues 35 = .ok (.iload_n 2, 1) := by decide +kernel
theorem dX2_setDues_36 : decode cX2_setDues 36 = .ok (.ireturn, 1) := by decide +kernel
set_option maxRecDepth 20000 in
theorem ggX2_buy_X2_isOutside : GoodIn wsX2_buy wsX2_isOutside := goodIn_r _ [14] (by decide +kernel) (by decide +kernel)
set_option maxRecDepth 20000 in
theorem gX2_buy_X2_isOutside : GoodIn wsX2_buy (va_wsS RX2 19 yX2_isOutside wsX2_isOutside) := goodIn_app (goodIn_of _ (by decide +kernel)) ggX2_buy_X2_isOutside
theorem dX2_buy_0 : decode cX2_buy 0 = .ok (.iload_n 1, 1) := by decide +kernel
theorem dX2_buy_1 : decode cX2_buy 1 = .ok (.iconst 0, 1) := by decide +kernel
theorem dX2_buy_2 : decode cX2_buy 2 = .ok (.iconst 1, 1) := by decide +kernel
theorem dX2_buy_3 : decode cX2_buy 3 = .ok (.invokestatic 19, 3) := by decide +kernel
theorem dX2_buy_6 : decode cX2_buy 6 = .ok (.ifCond .eq 13, 3) := by decide +kernel
theorem dX2_buy_9 : decode cX2_buy 9 = .ok (.new 53, 3) := by decide +kernel
theorem dX2_buy_12 : decode cX2_buy 12 = .ok (.dup, 1) := by decide +kernel
theorem dX2_buy_13 : decode cX2_buy 13 = .ok (.ldc 107, 2) := by decide +kernel
theorem dX2_buy_15 : decode cX2_buy 15 = .ok (.invokespecial 57, 3) := by decide +kernel
theorem dX2_buy_18 : decode cX2_buy 18 = .ok (.athrow, 1) := by decide +kernel
theorem dX2_buy_19 : decode cX2_buy 19 = .ok (.iload_n 2, 1) := by decide +kernel
theorem dX2_buy_20 : decode cX2_buy 20 = .ok (.iconst 1, 1) := by decide +kernel
theorem dX2_buy_21 : decode cX2_buy 21 = .ok (.sipush 200, 3) := by decide +kernel
theorem dX2_buy_24 : decode cX2_buy 24 = .ok (.invokestatic 19, 3) := by decide +kernel
theorem dX2_buy_27 : decode cX2_buy 27 = .ok (.ifCond .eq 13, 3) := by decide +kernel
theorem dX2_buy_30 : decode cX2_buy 30 = .ok (.new 23, 3) := by decide +kernel
theorem dX2_buy_33 : decode cX2_buy 33 = .ok (.dup, 1) := by decide +kernel
theorem dX2_buy_34 : decode cX2_buy 34 = .ok (.ldc 109, 2) := by decide +kernel
theorem dX2_buy_36 : decode cX2_buy 36 = .ok (.invokespecial 27, 3) := by decide +kernel
theorem dX2_buy_39 : decode cX2_buy 39 = .ok (.athrow, 1) := by decide +kernel
theorem dX2_buy_40 : decode cX2_buy 40 = .ok (.iload_n 1, 1) := by decide +kernel
theorem dX2_buy_41 : decode cX2_buy 41 = .ok (.ifCond .ne 7, 3) := by decide +kernel
theorem dX2_buy_44 : decode cX2_buy 44 = .ok (.iload_n 2, 1) := by decide +kernel
theorem dX2_buy_45 : decode cX2_buy 45 = .ok (.goto 8, 3) := by decide +kernel
theorem dX2_buy_48 : decode cX2_buy 48 = .ok (.iload_n 2, 1) := by decide +kernel
theorem dX2_buy_49 : decode cX2_buy 49 = .ok (.iconst 2, 1) := by decide +kernel
theorem dX2_buy_50 : decode cX2_buy 50 = .ok (.iadd, 1) := by decide +kernel
theorem dX2_buy_51 : decode cX2_buy 51 = .ok (.iconst 3, 1) := by decide +kernel
theorem dX2_buy_52 : decode cX2_buy 52 = .ok (.idiv, 1) := by decide +kernel
theorem dX2_buy_53 : decode cX2_buy 53 = .ok (.istore_n 3, 1) := by decide +kernel
theorem dX2_buy_54 : decode cX2_buy 54 = .ok (.aload_n 0, 1) := by decide +kernel
theorem dX2_buy_55 : decode cX2_buy 55 = .ok (.getfield 10, 3) := by decide +kernel
theorem dX2_buy_58 : decode cX2_buy 58 = .ok (.getfield 80, 3) := by decide +kernel
theorem dX2_buy_61 : decode cX2_buy 61 = .ok (.iload_n 3, 1) := by decide +kernel
theorem dX2_buy_62 : decode cX2_buy 62 = .ok (.if_icmp .ge 13, 3) := by decide +kernel
theorem dX2_buy_65 : decode cX2_buy 65 = .ok (.new 34, 3) := by decide +kernel
theorem dX2_buy_68 : decode cX2_buy 68 = .ok (.dup, 1) := by decide +kernel
theorem dX2_buy_69 : decode cX2_buy 69 = .ok (.ldc 111, 2) := by decide +kernel
theorem dX2_buy_71 : decode cX2_buy 71 = .ok (.invokespecial 38, 3) := by decide +kernel
theorem dX2_buy_74 : decode cX2_buy 74 = .ok (.athrow, 1) := by decide +kernel
theorem dX2_buy_75 : decode cX2_buy 75 = .ok (.aload_n 0, 1) := by decide +kernel
theorem dX2_buy_76 : decode cX2_buy 76 = .ok (.getfield 10, 3) := by decide +kernel
theorem dX2_buy_79 : decode cX2_buy 79 = .ok (.dup, 1) := by decide +kernel
theorem dX2_buy_80 : decode cX2_buy 80 = .ok (.getfield 80, 3) := by decide +kernel
theorem dX2_buy_83 : decode cX2_buy 83 = .ok (.iload_n 3, 1) := by decide +kernel
theorem dX2_buy_84 : decode cX2_buy 84 = .ok (.isub, 1) := by decide +kernel
theorem dX2_buy_85 : decode cX2_buy 85 = .ok (.putfield 80, 3) := by decide +kernel
theorem dX2_buy_88 : decode cX2_buy 88 = .ok (.iload_n 1, 1) := by decide +kernel
theorem dX2_buy_89 : decode cX2_buy 89 = .ok (.ifCond .ne 24, 3) := by decide +kernel
theorem dX2_buy_92 : decode cX2_buy 92 = .ok (.aload_n 0, 1) := by decide +kernel
theorem dX2_buy_93 : decode cX2_buy 93 = .ok (.getfield 10, 3) := by decide +kernel
theorem dX2_buy_96 : decode cX2_buy 96 = .ok (.dup, 1) := by decide +kernel
theorem dX2_buy_97 : decode cX2_buy 97 = .ok (.getfield 113, 3) := by decide +kernel
theorem dX2_buy_100 : decode cX2_buy 100 = .ok (.iload_n 2, 1) := by decide +kernel
theorem dX2_buy_101 : decode cX2_buy 101 = .ok (.iadd, 1) := by decide +kernel
theorem dX2_buy_102 : decode cX2_buy 102 = .ok (.putfield 113, 3) := by decide +kernel
theorem dX2_buy_105 : decode cX2_buy 105 = .ok (.aload_n 0, 1) := by decide +kernel
theorem dX2_buy_106 : decode cX2_buy 106 = .ok (.getfield 10, 3) := by decide +kernel
theorem dX2_buy_109 : decode cX2_buy 109 = .ok (.getfield 113, 3) := by decide +kernel
theorem dX2_buy_112 : decode cX2_buy 112 = .ok (.ireturn, 1) := by decide +kernel
theorem dX2_buy_113 : decode cX2_buy 113 = .ok (.aload_n 0, 1) := by decide +kernel
theorem dX2_buy_114 : decode cX2_buy 114 = .ok (.getfield 10, 3) := by decide +kernel
theorem dX2_buy_117 : decode cX2_buy 117 = .ok (.dup, 1) := by decide +kernel
theorem dX2_buy_118 : decode cX2_buy 118 = .ok (.getfield 116, 3) := by decide +kernel
theorem dX2_buy_121 : decode cX2_buy 121 = .ok (.iload_n 2, 1) := by decide +kernel
theorem dX2_buy_122 : decode cX2_buy 122 = .ok (.iadd, 1) := by decide +kernel
theorem dX2_buy_123 : decode cX2_buy 123 = .ok (.putfield 116, 3) := by decide +kernel
theorem dX2_buy_126 : decode cX2_buy 126 = .ok (.aload_n 0, 1) := by decide +kernel
theorem dX2_buy_127 : decode cX2_buy 127 = .ok (.getfield 10, 3) := by decide +kernel
theorem dX2_buy_130 : decode cX2_buy 130 = .ok (.getfield 116, 3) := by decide +kernel
theorem dX2_buy_133 : decode cX2_buy 133 = .ok (.ireturn, 1) := by decide +kernel
set_option maxRecDepth 20000 in
theorem ggX2_sell_X2_isOutside : GoodIn wsX2_sell wsX2_isOutside := goodIn_r _ [11] (by decide +kernel) (by decide +kernel)
set_option maxRecDepth 20000 in
theorem gX2_sell_X2_isOutside : GoodIn wsX2_sell (va_wsS RX2 19 yX2_isOutside wsX2_isOutside) := goodIn_app (goodIn_of _ (by decide +kernel)) ggX2_sell_X2_isOutside
theorem dX2_sell_0 : decode cX2_sell 0 = .ok (.iload_n 1, 1) := by decide +kernel
theorem dX2_sell_1 : decode cX2_sell 1 = .ok (.iconst 1, 1) := by decide +kernel
theorem dX2_sell_2 : decode cX2_sell 2 = .ok (.sipush 500, 3) := by decide +kernel
theorem dX2_sell_5 : decode cX2_sell 5 = .ok (.invokestatic 19, 3) := by decide +kernel
theorem dX2_sell_8 : decode cX2_sell 8 = .ok (.ifCond .eq 13, 3) := by decide +kernel
theorem dX2_sell_11 : decode cX2_sell 11 = .ok (.new 23, 3) := by decide +kernel
theorem dX2_sell_14 : decode cX2_sell 14 = .ok (.dup, 1) := by decide +kernel
theorem dX2_sell_15 : decode cX2_sell 15 = .ok (.ldc 119, 2) := by decide +kernel
theorem dX2_sell_17 : decode cX2_sell 17 = .ok (.invokespecial 27, 3) := by decide +kernel
theorem dX2_sell_20 : decode cX2_sell 20 = .ok (.athrow, 1) := by decide +kernel
theorem dX2_sell_21 : decode cX2_sell 21 = .ok (.aload_n 0, 1) := by decide +kernel
theorem dX2_sell_22 : decode cX2_sell 22 = .ok (.getfield 10, 3) := by decide +kernel
theorem dX2_sell_25 : decode cX2_sell 25 = .ok (.getfield 121, 3) := by decide +kernel
theorem dX2_sell_28 : decode cX2_sell 28 = .ok (.iload_n 1, 1) := by decide +kernel
theorem dX2_sell_29 : decode cX2_sell 29 = .ok (.if_icmp .ge 13, 3) := by decide +kernel
theorem dX2_sell_32 : decode cX2_sell 32 = .ok (.new 34, 3) := by decide +kernel
theorem dX2_sell_35 : decode cX2_sell 35 = .ok (.dup, 1) := by decide +kernel
theorem dX2_sell_36 : decode cX2_sell 36 = .ok (.ldc 124, 2) := by decide +kernel
theorem dX2_sell_38 : decode cX2_sell 38 = .ok (.invokespecial 38, 3) := by decide +kernel
theorem dX2_sell_41 : decode cX2_sell 41 = .ok (.athrow, 1) := by decide +kernel
theorem dX2_sell_42 : decode cX2_sell 42 = .ok (.aload_n 0, 1) := by decide +kernel
theorem dX2_sell_43 : decode cX2_sell 43 = .ok (.getfield 10, 3) := by decide +kernel
theorem dX2_sell_46 : decode cX2_sell 46 = .ok (.dup, 1) := by decide +kernel
theorem dX2_sell_47 : decode cX2_sell 47 = .ok (.getfield 121, 3) := by decide +kernel
theorem dX2_sell_50 : decode cX2_sell 50 = .ok (.iload_n 1, 1) := by decide +kernel
theorem dX2_sell_51 : decode cX2_sell 51 = .ok (.isub, 1) := by decide +kernel
theorem dX2_sell_52 : decode cX2_sell 52 = .ok (.putfield 121, 3) := by decide +kernel
theorem dX2_sell_55 : decode cX2_sell 55 = .ok (.aload_n 0, 1) := by decide +kernel
theorem dX2_sell_56 : decode cX2_sell 56 = .ok (.getfield 10, 3) := by decide +kernel
theorem dX2_sell_59 : decode cX2_sell 59 = .ok (.dup, 1) := by decide +kernel
theorem dX2_sell_60 : decode cX2_sell 60 = .ok (.getfield 80, 3) := by decide +kernel
theorem dX2_sell_63 : decode cX2_sell 63 = .ok (.iload_n 1, 1) := by decide +kernel
theorem dX2_sell_64 : decode cX2_sell 64 = .ok (.iconst 2, 1) := by decide +kernel
theorem dX2_sell_65 : decode cX2_sell 65 = .ok (.idiv, 1) := by decide +kernel
theorem dX2_sell_66 : decode cX2_sell 66 = .ok (.iadd, 1) := by decide +kernel
theorem dX2_sell_67 : decode cX2_sell 67 = .ok (.putfield 80, 3) := by decide +kernel
theorem dX2_sell_70 : decode cX2_sell 70 = .ok (.aload_n 0, 1) := by decide +kernel
theorem dX2_sell_71 : decode cX2_sell 71 = .ok (.getfield 10, 3) := by decide +kernel
theorem dX2_sell_74 : decode cX2_sell 74 = .ok (.getfield 80, 3) := by decide +kernel
theorem dX2_sell_77 : decode cX2_sell 77 = .ok (.ireturn, 1) := by decide +kernel
set_option maxRecDepth 20000 in
theorem ggX2_pot_X2_isOutside : GoodIn wsX2_pot wsX2_isOutside := goodIn_r _ [6] (by decide +kernel) (by decide +kernel)
set_option maxRecDepth 20000 in
theorem gX2_pot_X2_isOutside : GoodIn wsX2_pot (va_wsS RX2 19 yX2_isOutside wsX2_isOutside) := goodIn_app (goodIn_of _ (by decide +kernel)) ggX2_pot_X2_isOutside
set_option maxRecDepth 20000 in
theorem ggX2_pot_X2_potFact : GoodIn wsX2_pot wsX2_potFact := goodIn_r _ [10, 11, 12, 13, 14, 15, 16, 17, 18, 19, 20, 21, 22, 23, 24, 25, 26, 27, 28, 29, 30, 31, 32, 33, 34, 35, 36, 37, 38, 39, 40, 41, 42, 43, 44, 45, 46, 47, 48, 49, 50, 51, 52, 53, 54, 55, 56, 57, 58, 59, 60, 61, 62, 63, 64, 65, 66, 67, 68, 69, 70, 71, 72, 73, 74, 75, 76, 77, 78, 79, 80, 81, 82, 83, 84, 85, 86, 87, 88, 89, 90, 91, 92, 93, 94, 95, 96, 97, 98, 99, 100, 101, 102, 103, 104, 105, 106, 107, 108, 109, 110, 111, 112, 113, 114, 115, 116] (by decide +kernel) (by decide +kernel)
set_option maxRecDepth 20000 in
theorem gX2_pot_X2_potFact : GoodIn wsX2_pot (wsV RX2 128 RX2 yX2_potFact wsX2_potFact) := goodIn_app (goodIn_of _ (by decide +kernel)) ggX2_pot_X2_potFact
theorem dX2_pot_0 : decode cX2_pot 0 = .ok (.iload_n 1, 1) := by decide +kernel
theorem dX2_pot_1 : decode cX2_pot 1 = .ok (.iconst 0, 1) := by decide +kernel
theorem dX2_pot_2 : decode cX2_pot 2 = .ok (.iconst 2, 1) := by decide +kernel
theorem dX2_pot_3 : decode cX2_pot 3 = .ok (.invokestatic 19, 3) := by decide +kernel
theorem dX2_pot_6 : decode cX2_pot 6 = .ok (.ifCond .ne 12, 3) := by decide +kernel
theorem dX2_pot_9 : decode cX2_pot 9 = .ok (.iload_n 2, 1) := by decide +kernel
theorem dX2_pot_10 : decode cX2_pot 10 = .ok (.iconst 0, 1) := by decide +kernel
theorem dX2_pot_11 : decode cX2_pot 11 = .ok (.iconst 3, 1) := by decide +kernel
theorem dX2_pot_12 : decode cX2_pot 12 = .ok (.invokestatic 19, 3) := by decide +kernel
theorem dX2_pot_15 : decode cX2_pot 15 = .ok (.ifCond .eq 13, 3) := by decide +kernel
theorem dX2_pot_18 : decode cX2_pot 18 = .ok (.new 53, 3) := by decide +kernel
theorem dX2_pot_21 : decode cX2_pot 21 = .ok (.dup, 1) := by decide +kernel
theorem dX2_pot_22 : decode cX2_pot 22 = .ok (.ldc 126, 2) := by decide +kernel
theorem dX2_pot_24 : decode cX2_pot 24 = .ok (.invokespecial 57, 3) := by decide +kernel
theorem dX2_pot_27 : decode cX2_pot 27 = .ok (.athrow, 1) := by decide +kernel
theorem dX2_pot_28 : decode cX2_pot 28 = .ok (.aload_n 0, 1) := by decide +kernel
theorem dX2_pot_29 : decode cX2_pot 29 = .ok (.iload_n 1, 1) := by decide +kernel
theorem dX2_pot_30 : decode cX2_pot 30 = .ok (.iload_n 2, 1) := by decide +kernel
theorem dX2_pot_31 : decode cX2_pot 31 = .ok (.invokevirtual 128, 3) := by decide +kernel
theorem dX2_pot_34 : decode cX2_pot 34 = .ok (.ireturn, 1) := by decide +kernel
set_option maxRecDepth 20000 in
theorem ggX2_count_X2_isOutside : GoodIn wsX2_count wsX2_isOutside := goodIn_r _ [7] (by decide +kernel) (by decide +kernel)
set_option maxRecDepth 20000 in
theorem gX2_count_X2_isOutside : GoodIn wsX2_count (va_wsS RX2 19 yX2_isOutside wsX2_isOutside) := goodIn_app (goodIn_of _ (by decide +kernel)) ggX2_count_X2_isOutside
set_option maxRecDepth 20000 in
theorem ggX2_count_X1_tally : GoodIn wsX2_count wsX1_tally := goodIn_r _ [12, 13, 14, 15, 16, 17, 18, 19, 20, 21, 22, 23, 11, 24, 25, 26, 27, 28, 29, 30, 31, 32, 33, 34, 35, 36, 39, 40, 41, 42, 43, 44, 45, 46, 47, 48, 49, 50, 51, 52, 53, 54, 55, 56, 57, 58, 59, 60, 61, 62] (by decide +kernel) (by decide +kernel)
set_option maxRecDepth 20000 in
theorem gX2_count_X1_tally : GoodIn wsX2_count (wsV RX2 132 RX1 yX1_tally wsX1_tally) := goodIn_app (goodIn_of _ (by decide +kernel)) ggX2_count_X1_tally
theorem dX2_count_0 : decode cX2_count 0 = .ok (.iload_n 1, 1) := by decide +kernel
theorem dX2_count_1 : decode cX2_count 1 = .ok (.iconst 0, 1) := by decide +kernel
theorem dX2_count_2 : decode cX2_count 2 = .ok (.bipush 12, 2) := by decide +kernel
theorem dX2_count_4 : decode cX2_count 4 = .ok (.invokestatic 19, 3) := by decide +kernel
theorem dX2_count_7 : decode cX2_count 7 = .ok (.ifCond .eq 13, 3) := by decide +kernel
theorem dX2_count_10 : decode cX2_count 10 = .ok (.new 53, 3) := by decide +kernel
theorem dX2_count_13 : decode cX2_count 13 = .ok (.dup, 1) := by decide +kernel
theorem dX2_count_14 : decode cX2_count 14 = .ok (.ldc 107, 2) := by decide +kernel
theorem dX2_count_16 : decode cX2_count 16 = .ok (.invokespecial 57, 3) := by decide +kernel
theorem dX2_count_19 : decode cX2_count 19 = .ok (.athrow, 1) := by decide +kernel
theorem dX2_count_20 : decode cX2_count 20 = .ok (.aload_n 0, 1) := by decide +kernel
theorem dX2_count_21 : decode cX2_count 21 = .ok (.getfield 10, 3) := by decide +kernel
theorem dX2_count_24 : decode cX2_count 24 = .ok (.iload_n 1, 1) := by decide +kernel
theorem dX2_count_25 : decode cX2_count 25 = .ok (.invokevirtual 132, 3) := by decide +kernel
theorem dX2_count_28 : decode cX2_count 28 = .ok (.ireturn, 1) := by decide +kernel
set_option maxRecDepth 20000 in
theorem ggX2_pass_X2_isOutside : GoodIn wsX2_pass wsX2_isOutside := goodIn_r _ [8] (by decide +kernel) (by decide +kernel)
set_option maxRecDepth 20000 in
theorem gX2_pass_X2_isOutside : GoodIn wsX2_pass (va_wsS RX2 19 yX2_isOutside wsX2_isOutside) := goodIn_app (goodIn_of _ (by decide +kernel)) ggX2_pass_X2_isOutside
set_option maxRecDepth 20000 in
theorem ggX2_pass_X1_liveWeeks : GoodIn wsX2_pass wsX1_liveWeeks := goodIn_r _ [13, 14, 15, 16, 12, 17, 18, 19, 20, 21, 22, 23, 24, 25, 26, 27, 28, 29, 30, 31, 32, 33, 34, 35, 36, 37, 38, 39, 40, 41, 42, 43, 44, 45, 46, 47, 48, 49, 50, 51, 52, 53, 54, 55, 56, 57, 58, 59, 60, 61, 62, 63, 64, 65, 66, 67, 68, 69, 70, 71, 72, 73, 74, 75, 76, 77, 78, 79, 80, 81, 82, 83, 84, 85, 86, 87, 88, 89, 90, 91, 92, 93, 94, 95, 96, 97, 98, 99, 100, 101, 102, 103, 104, 105, 106, 107, 108, 109, 110, 111, 112, 113, 114, 115, 116, 117, 118, 119, 120, 121, 122, 123, 124, 125, 126, 127, 128, 129, 130, 131, 132, 133, 134, 135, 136, 137, 138, 139, 140, 141, 144, 145, 146, 147, 148, 149, 150, 151, 152, 153, 154, 155, 156, 157, 158, 159, 160, 161, 162, 163, 164, 165, 166, 167] (by decide +kernel) (by decide +kernel)
set_option maxRecDepth 20000 in
theorem gX2_pass_X1_liveWeeks : GoodIn wsX2_pass (wsV RX2 137 RX1 yX1_liveWeeks wsX1_liveWeeks) := goodIn_app (goodIn_of _ (by decide +kernel)) ggX2_pass_X1_liveWeeks
theorem dX2_pass_0 : decode cX2_pass 0 = .ok (.iload_n 1, 1) := by decide +kernel
theorem dX2_pass_1 : decode cX2_pass 1 = .ok (.iconst 1, 1) := by decide +kernel
theorem dX2_pass_2 : decode cX2_pass 2 = .ok (.bipush 60, 2) := by decide +kernel
theorem dX2_pass_4 : decode cX2_pass 4 = .ok (.invokestatic 19, 3) := by decide +kernel
theorem dX2_pass_7 : decode cX2_pass 7 = .ok (.ifCond .eq 13, 3) := by decide +kernel
theorem dX2_pass_10 : decode cX2_pass 10 = .ok (.new 23, 3) := by decide +kernel
theorem dX2_pass_13 : decode cX2_pass 13 = .ok (.dup, 1) := by decide +kernel
theorem dX2_pass_14 : decode cX2_pass 14 = .ok (.ldc 135, 2) := by decide +kernel
theorem dX2_pass_16 : decode cX2_pass 16 = .ok (.invokespecial 27, 3) := by decide +kernel
theorem dX2_pass_19 : decode cX2_pass 19 = .ok (.athrow, 1) := by decide +kernel
theorem dX2_pass_20 : decode cX2_pass 20 = .ok (.aload_n 0, 1) := by decide +kernel
theorem dX2_pass_21 : decode cX2_pass 21 = .ok (.getfield 10, 3) := by decide +kernel
theorem dX2_pass_24 : decode cX2_pass 24 = .ok (.getfield 80, 3) := by decide +kernel
theorem dX2_pass_27 : decode cX2_pass 27 = .ok (.istore_n 2, 1) := by decide +kernel
theorem dX2_pass_28 : decode cX2_pass 28 = .ok (.aload_n 0, 1) := by decide +kernel
theorem dX2_pass_29 : decode cX2_pass 29 = .ok (.getfield 10, 3) := by decide +kernel
theorem dX2_pass_32 : decode cX2_pass 32 = .ok (.iload_n 1, 1) := by decide +kernel
theorem dX2_pass_33 : decode cX2_pass 33 = .ok (.invokevirtual 137, 3) := by decide +kernel
theorem dX2_pass_36 : decode cX2_pass 36 = .ok (.aload_n 0, 1) := by decide +kernel
theorem dX2_pass_37 : decode cX2_pass 37 = .ok (.getfield 10, 3) := by decide +kernel
theorem dX2_pass_40 : decode cX2_pass 40 = .ok (.getfield 80, 3) := by decide +kernel
theorem dX2_pass_43 : decode cX2_pass 43 = .ok (.iload_n 2, 1) := by decide +kernel
theorem dX2_pass_44 : decode cX2_pass 44 = .ok (.isub, 1) := by decide +kernel
theorem dX2_pass_45 : decode cX2_pass 45 = .ok (.ireturn, 1) := by decide +kernel
set_option maxRecDepth 20000 in
theorem ggX2_foresee_X2_isOutside : GoodIn wsX2_foresee wsX2_isOutside := goodIn_r _ [10] (by decide +kernel) (by decide +kernel)
set_option maxRecDepth 20000 in
theorem gX2_foresee_X2_isOutside : GoodIn wsX2_foresee (va_wsS RX2 19 yX2_isOutside wsX2_isOutside) := goodIn_app (goodIn_of _ (by decide +kernel)) ggX2_foresee_X2_isOutside
set_option maxRecDepth 20000 in
theorem ggX2_foresee_X1_copyFrom : GoodIn wsX2_foresee wsX1_copyFrom := goodIn_r _ [15, 16, 17, 18, 19, 20, 21, 22, 23, 24, 25, 26, 27, 28, 29, 30, 31, 32, 33, 34, 35, 36, 37, 38, 39, 40, 41, 42, 173, 174, 175, 176, 177, 178, 179, 180, 181, 182, 183, 184, 185, 186, 187, 188, 189, 190, 191, 192, 193, 194, 195, 196] (by decide +kernel) (by decide +kernel)
set_option maxRecDepth 20000 in
theorem gX2_foresee_X1_copyFrom : GoodIn wsX2_foresee (wsV RX2 141 RX1 yX1_copyFrom wsX1_copyFrom) := goodIn_app (goodIn_of _ (by decide +kernel)) ggX2_foresee_X1_copyFrom
set_option maxRecDepth 20000 in
theorem ggX2_foresee_X1_liveWeeks : GoodIn wsX2_foresee wsX1_liveWeeks := goodIn_r _ [46, 47, 48, 49, 14, 50, 51, 16, 52, 53, 54, 55, 56, 19, 26, 57, 58, 59, 60, 61, 62, 63, 64, 65, 66, 67, 27, 68, 69, 70, 71, 31, 72, 39, 38, 73, 74, 75, 76, 20, 21, 77, 78, 79, 80, 81, 82, 83, 84, 85, 86, 25, 87, 88, 89, 90, 91, 92, 93, 94, 34, 40, 41, 95, 96, 97, 98, 99, 100, 101, 102, 103, 104, 105, 106, 107, 23, 108, 109, 110, 111, 36, 37, 42, 112, 113, 114, 115, 18, 116, 117, 118, 119, 120, 121, 122, 123, 22, 124, 125, 126, 127, 35, 128, 129, 130, 131, 132, 133, 134, 135, 136, 137, 138, 139, 140, 141, 142, 143, 144, 145, 146, 147, 148, 149, 24, 150, 151, 152, 153, 173, 174, 175, 176, 177, 178, 179, 180, 181, 182, 183, 184, 185, 186, 187, 188, 189, 190, 191, 192, 193, 194, 195, 196] (by decide +kernel) (by decide +kernel)
set_option maxRecDepth 20000 in
theorem gX2_foresee_X1_liveWeeks : GoodIn wsX2_foresee (wsV RX2 137 RX1 yX1_liveWeeks wsX1_liveWeeks) := goodIn_app (goodIn_of _ (by decide +kernel)) ggX2_foresee_X1_liveWeeks
set_option maxRecDepth 20000 in
theorem ggX2_foresee_X1_tally : GoodIn wsX2_foresee wsX1_tally := goodIn_r _ [157, 16, 17, 18, 19, 20, 21, 23, 24, 158, 159, 160, 14, 161, 27, 99, 162, 163, 164, 165, 77, 166, 167, 168, 169, 170, 173, 174, 175, 176, 177, 178, 179, 180, 181, 182, 183, 184, 185, 186, 187, 188, 189, 190, 191, 192, 193, 194, 195, 196] (by decide +kernel) (by decide +kernel)
set_option maxRecDepth 20000 in
theorem gX2_foresee_X1_tally : GoodIn wsX2_foresee (wsV RX2 132 RX1 yX1_tally wsX1_tally) := goodIn_app (goodIn_of _ (by decide +kernel)) ggX2_foresee_X1_tally
theorem dX2_foresee_0 : decode cX2_foresee 0 = .ok (.iload_n 1, 1) := by decide +kernel
theorem dX2_foresee_1 : decode cX2_foresee 1 = .ok (.iconst 1, 1) := by decide +kernel
theorem dX2_foresee_2 : decode cX2_foresee 2 = .ok (.bipush 60, 2) := by decide +kernel
theorem dX2_foresee_4 : decode cX2_foresee 4 = .ok (.invokestatic 19, 3) := by decide +kernel
theorem dX2_foresee_7 : decode cX2_foresee 7 = .ok (.ifCond .eq 13, 3) := by decide +kernel
theorem dX2_foresee_10 : decode cX2_foresee 10 = .ok (.new 23, 3) := by decide +kernel
theorem dX2_foresee_13 : decode cX2_foresee 13 = .ok (.dup, 1) := by decide +kernel
theorem dX2_foresee_14 : decode cX2_foresee 14 = .ok (.ldc 135, 2) := by decide +kernel
theorem dX2_foresee_16 : decode cX2_foresee 16 = .ok (.invokespecial 27, 3) := by decide +kernel
theorem dX2_foresee_19 : decode cX2_foresee 19 = .ok (.athrow, 1) := by decide +kernel
theorem dX2_foresee_20 : decode cX2_foresee 20 = .ok (.iload_n 2, 1) := by decide +kernel
theorem dX2_foresee_21 : decode cX2_foresee 21 = .ok (.iconst 2, 1) := by decide +kernel
theorem dX2_foresee_22 : decode cX2_foresee 22 = .ok (.bipush 8, 2) := by decide +kernel
theorem dX2_foresee_24 : decode cX2_foresee 24 = .ok (.invokestatic 19, 3) := by decide +kernel
theorem dX2_foresee_27 : decode cX2_foresee 27 = .ok (.ifCond .eq 13, 3) := by decide +kernel
theorem dX2_foresee_30 : decode cX2_foresee 30 = .ok (.new 53, 3) := by decide +kernel
theorem dX2_foresee_33 : decode cX2_foresee 33 = .ok (.dup, 1) := by decide +kernel
theorem dX2_foresee_34 : decode cX2_foresee 34 = .ok (.ldc 107, 2) := by decide +kernel
theorem dX2_foresee_36 : decode cX2_foresee 36 = .ok (.invokespecial 57, 3) := by decide +kernel
theorem dX2_foresee_39 : decode cX2_foresee 39 = .ok (.athrow, 1) := by decide +kernel
theorem dX2_foresee_40 : decode cX2_foresee 40 = .ok (.aload_n 0, 1) := by decide +kernel
theorem dX2_foresee_41 : decode cX2_foresee 41 = .ok (.getfield 16, 3) := by decide +kernel
theorem dX2_foresee_44 : decode cX2_foresee 44 = .ok (.aload_n 0, 1) := by decide +kernel
theorem dX2_foresee_45 : decode cX2_foresee 45 = .ok (.getfield 10, 3) := by decide +kernel
theorem dX2_foresee_48 : decode cX2_foresee 48 = .ok (.invokevirtual 141, 3) := by decide +kernel
theorem dX2_foresee_51 : decode cX2_foresee 51 = .ok (.aload_n 0, 1) := by decide +kernel
theorem dX2_foresee_52 : decode cX2_foresee 52 = .ok (.getfield 16, 3) := by decide +kernel
theorem dX2_foresee_55 : decode cX2_foresee 55 = .ok (.iload_n 1, 1) := by decide +kernel
theorem dX2_foresee_56 : decode cX2_foresee 56 = .ok (.invokevirtual 137, 3) := by decide +kernel
theorem dX2_foresee_59 : decode cX2_foresee 59 = .ok (.aload_n 0, 1) := by decide +kernel
theorem dX2_foresee_60 : decode cX2_foresee 60 = .ok (.getfield 16, 3) := by decide +kernel
theorem dX2_foresee_63 : decode cX2_foresee 63 = .ok (.iload_n 2, 1) := by decide +kernel
theorem dX2_foresee_64 : decode cX2_foresee 64 = .ok (.invokevirtual 132, 3) := by decide +kernel
theorem dX2_foresee_67 : decode cX2_foresee 67 = .ok (.ireturn, 1) := by decide +kernel
set_option maxRecDepth 20000 in
theorem ggX2_earns_X1_hasMember : GoodIn wsX2_earns wsX1_hasMember := goodIn_r _ [11, 12, 13, 77, 78, 79, 80, 81, 82, 83, 84, 85, 86, 87, 88, 89, 90, 91, 92, 93, 94, 95, 96, 97, 98, 99, 100] (by decide +kernel) (by decide +kernel)
set_option maxRecDepth 20000 in
theorem gX2_earns_X1_hasMember : GoodIn wsX2_earns (wsV RX2 49 RX1 yX1_hasMember wsX1_hasMember) := goodIn_app (goodIn_of _ (by decide +kernel)) ggX2_earns_X1_hasMember
set_option maxRecDepth 20000 in
theorem ggX2_earns_X1_copyFrom : GoodIn wsX2_earns wsX1_copyFrom := goodIn_r _ [17, 18, 19, 20, 21, 22, 23, 24, 25, 26, 27, 28, 12, 29, 30, 31, 32, 33, 34, 35, 36, 37, 38, 39, 40, 41, 42, 43, 77, 78, 79, 80, 81, 82, 83, 84, 85, 86, 87, 88, 89, 90, 91, 92, 93, 94, 95, 96, 97, 98, 99, 100] (by decide +kernel) (by decide +kernel)
set_option maxRecDepth 20000 in
theorem gX2_earns_X1_copyFrom : GoodIn wsX2_earns (wsV RX2 141 RX1 yX1_copyFrom wsX1_copyFrom) := goodIn_app (goodIn_of _ (by decide +kernel)) ggX2_earns_X1_copyFrom
set_option maxRecDepth 20000 in
theorem ggX2_earns_X1_lightFires : GoodIn wsX2_earns wsX1_lightFires := goodIn_r _ [47, 48, 21, 28, 49, 50, 51, 52, 53, 54, 55, 56, 57, 58, 10, 59, 12, 60, 61, 62, 63, 32, 64, 40, 39, 77, 78, 79, 80, 81, 82, 83, 84, 85, 86, 87, 88, 89, 90, 91, 92, 93, 94, 95, 96, 97, 98, 99, 100] (by decide +kernel) (by decide +kernel)
set_option maxRecDepth 20000 in
theorem gX2_earns_X1_lightFires : GoodIn wsX2_earns (wsV RX2 145 RX1 yX1_lightFires wsX1_lightFires) := goodIn_app (goodIn_of _ (by decide +kernel)) ggX2_earns_X1_lightFires
set_option maxRecDepth 20000 in
theorem ggX2_earns_X1_combWool : GoodIn wsX2_earns wsX1_combWool := goodIn_r _ [68, 12, 22, 49, 50, 51, 52, 23, 69, 70, 71, 72, 10, 73, 48, 60, 53, 54, 55, 74, 28, 61, 62, 63, 32, 64, 40, 39, 77, 78, 79, 80, 81, 82, 83, 84, 85, 86, 87, 88, 89, 90, 91, 92, 93, 94, 95, 96, 97, 98, 99, 100] (by decide +kernel) (by decide +kernel)
set_option maxRecDepth 20000 in
theorem gX2_earns_X1_combWool : GoodIn wsX2_earns (wsV RX2 148 RX1 yX1_combWool wsX1_combWool) := goodIn_app (goodIn_of _ (by decide +kernel)) ggX2_earns_X1_combWool
theorem dX2_earns_0 : decode cX2_earns 0 = .ok (.aload_n 0, 1) := by decide +kernel
theorem dX2_earns_1 : decode cX2_earns 1 = .ok (.getfield 10, 3) := by decide +kernel
theorem dX2_earns_4 : decode cX2_earns 4 = .ok (.iload_n 1, 1) := by decide +kernel
theorem dX2_earns_5 : decode cX2_earns 5 = .ok (.invokevirtual 49, 3) := by decide +kernel
theorem dX2_earns_8 : decode cX2_earns 8 = .ok (.ifCond .ne 13, 3) := by decide +kernel
theorem dX2_earns_11 : decode cX2_earns 11 = .ok (.new 53, 3) := by decide +kernel
theorem dX2_earns_14 : decode cX2_earns 14 = .ok (.dup, 1) := by decide +kernel
theorem dX2_earns_15 : decode cX2_earns 15 = .ok (.ldc 70, 2) := by decide +kernel
theorem dX2_earns_17 : decode cX2_earns 17 = .ok (.invokespecial 57, 3) := by decide +kernel
theorem dX2_earns_20 : decode cX2_earns 20 = .ok (.athrow, 1) := by decide +kernel
theorem dX2_earns_21 : decode cX2_earns 21 = .ok (.aload_n 0, 1) := by decide +kernel
theorem dX2_earns_22 : decode cX2_earns 22 = .ok (.getfield 16, 3) := by decide +kernel
theorem dX2_earns_25 : decode cX2_earns 25 = .ok (.aload_n 0, 1) := by decide +kernel
theorem dX2_earns_26 : decode cX2_earns 26 = .ok (.getfield 10, 3) := by decide +kernel
theorem dX2_earns_29 : decode cX2_earns 29 = .ok (.invokevirtual 141, 3) := by decide +kernel
theorem dX2_earns_32 : decode cX2_earns 32 = .ok (.aload_n 0, 1) := by decide +kernel
theorem dX2_earns_33 : decode cX2_earns 33 = .ok (.getfield 16, 3) := by decide +kernel
theorem dX2_earns_36 : decode cX2_earns 36 = .ok (.invokevirtual 145, 3) := by decide +kernel
theorem dX2_earns_39 : decode cX2_earns 39 = .ok (.aload_n 0, 1) := by decide +kernel
theorem dX2_earns_40 : decode cX2_earns 40 = .ok (.getfield 16, 3) := by decide +kernel
theorem dX2_earns_43 : decode cX2_earns 43 = .ok (.invokevirtual 148, 3) := by decide +kernel
theorem dX2_earns_46 : decode cX2_earns 46 = .ok (.aload_n 0, 1) := by decide +kernel
theorem dX2_earns_47 : decode cX2_earns 47 = .ok (.getfield 16, 3) := by decide +kernel
theorem dX2_earns_50 : decode cX2_earns 50 = .ok (.getfield 39, 3) := by decide +kernel
theorem dX2_earns_53 : decode cX2_earns 53 = .ok (.iload_n 1, 1) := by decide +kernel
theorem dX2_earns_54 : decode cX2_earns 54 = .ok (.aaload, 1) := by decide +kernel
theorem dX2_earns_55 : decode cX2_earns 55 = .ok (.getfield 74, 3) := by decide +kernel
theorem dX2_earns_58 : decode cX2_earns 58 = .ok (.aload_n 0, 1) := by decide +kernel
theorem dX2_earns_59 : decode cX2_earns 59 = .ok (.getfield 10, 3) := by decide +kernel
theorem dX2_earns_62 : decode cX2_earns 62 = .ok (.getfield 39, 3) := by decide +kernel
theorem dX2_earns_65 : decode cX2_earns 65 = .ok (.iload_n 1, 1) := by decide +kernel
theorem dX2_earns_66 : decode cX2_earns 66 = .ok (.aaload, 1) := by decide +kernel
theorem dX2_earns_67 : decode cX2_earns 67 = .ok (.getfield 74, 3) := by decide +kernel
theorem dX2_earns_70 : decode cX2_earns 70 = .ok (.isub, 1) := by decide +kernel
theorem dX2_earns_71 : decode cX2_earns 71 = .ok (.ireturn, 1) := by decide +kernel
set_option maxRecDepth 20000 in
theorem ggX2_dies_X1_hasMember : GoodIn wsX2_dies wsX1_hasMember := goodIn_r _ [11, 12, 13, 152, 153, 154, 155, 156, 157, 158, 159, 160, 161, 162, 163, 164, 165, 166, 167, 168, 169, 170, 171, 172, 173, 174, 175] (by decide +kernel) (by decide +kernel)
set_option maxRecDepth 20000 in
theorem gX2_dies_X1_hasMember : GoodIn wsX2_dies (wsV RX2 49 RX1 yX1_hasMember wsX1_hasMember) := goodIn_app (goodIn_of _ (by decide +kernel)) ggX2_dies_X1_hasMember
set_option maxRecDepth 20000 in
theorem ggX2_dies_X1_copyFrom : GoodIn wsX2_dies wsX1_copyFrom := goodIn_r _ [17, 18, 19, 20, 21, 22, 23, 24, 25, 26, 27, 28, 12, 29, 30, 31, 32, 33, 34, 35, 36, 37, 38, 39, 40, 41, 42, 43, 152, 153, 154, 155, 156, 157, 158, 159, 160, 161, 162, 163, 164, 165, 166, 167, 168, 169, 170, 171, 172, 173, 174, 175] (by decide +kernel) (by decide +kernel)
set_option maxRecDepth 20000 in
theorem gX2_dies_X1_copyFrom : GoodIn wsX2_dies (wsV RX2 141 RX1 yX1_copyFrom wsX1_copyFrom) := goodIn_app (goodIn_of _ (by decide +kernel)) ggX2_dies_X1_copyFrom
set_option maxRecDepth 20000 in
theorem ggX2_dies_X1_liveWeek : GoodIn wsX2_dies wsX1_liveWeek := goodIn_r _ [47, 48, 18, 49, 50, 51, 10, 52, 53, 21, 28, 54, 55, 56, 57, 58, 59, 60, 61, 62, 63, 64, 12, 65, 66, 67, 68, 32, 69, 40, 39, 70, 71, 72, 73, 22, 23, 74, 75, 76, 77, 78, 79, 80, 81, 82, 83, 27, 84, 85, 86, 87, 88, 89, 90, 91, 35, 41, 42, 92, 93, 94, 95, 13, 96, 97, 98, 99, 100, 101, 102, 103, 25, 104, 105, 106, 107, 37, 38, 43, 108, 109, 110, 111, 20, 112, 113, 114, 115, 116, 117, 118, 119, 24, 120, 121, 122, 123, 36, 124, 125, 126, 127, 128, 129, 130, 131, 132, 133, 134, 135, 136, 137, 138, 139, 140, 141, 142, 143, 144, 145, 26, 146, 147, 148, 149, 152, 153, 154, 155, 156, 157, 158, 159, 160, 161, 162, 163, 164, 165, 166, 167, 168, 169, 170, 171, 172, 173, 174, 175] (by decide +kernel) (by decide +kernel)
set_option maxRecDepth 20000 in
theorem gX2_dies_X1_liveWeek : GoodIn wsX2_dies (wsV RX2 151 RX1 yX1_liveWeek wsX1_liveWeek) := goodIn_app (goodIn_of _ (by decide +kernel)) ggX2_dies_X1_liveWeek
theorem dX2_dies_0 : decode cX2_dies 0 = .ok (.aload_n 0, 1) := by decide +kernel
theorem dX2_dies_1 : decode cX2_dies 1 = .ok (.getfield 10, 3) := by decide +kernel
theorem dX2_dies_4 : decode cX2_dies 4 = .ok (.iload_n 1, 1) := by decide +kernel
theorem dX2_dies_5 : decode cX2_dies 5 = .ok (.invokevirtual 49, 3) := by decide +kernel
theorem dX2_dies_8 : decode cX2_dies 8 = .ok (.ifCond .ne 13, 3) := by decide +kernel
theorem dX2_dies_11 : decode cX2_dies 11 = .ok (.new 53, 3) := by decide +kernel
theorem dX2_dies_14 : decode cX2_dies 14 = .ok (.dup, 1) := by decide +kernel
theorem dX2_dies_15 : decode cX2_dies 15 = .ok (.ldc 70, 2) := by decide +kernel
theorem dX2_dies_17 : decode cX2_dies 17 = .ok (.invokespecial 57, 3) := by decide +kernel
theorem dX2_dies_20 : decode cX2_dies 20 = .ok (.athrow, 1) := by decide +kernel
theorem dX2_dies_21 : decode cX2_dies 21 = .ok (.aload_n 0, 1) := by decide +kernel
theorem dX2_dies_22 : decode cX2_dies 22 = .ok (.getfield 16, 3) := by decide +kernel
theorem dX2_dies_25 : decode cX2_dies 25 = .ok (.aload_n 0, 1) := by decide +kernel
theorem dX2_dies_26 : decode cX2_dies 26 = .ok (.getfield 10, 3) := by decide +kernel
theorem dX2_dies_29 : decode cX2_dies 29 = .ok (.invokevirtual 141, 3) := by decide +kernel
theorem dX2_dies_32 : decode cX2_dies 32 = .ok (.aload_n 0, 1) := by decide +kernel
theorem dX2_dies_33 : decode cX2_dies 33 = .ok (.getfield 16, 3) := by decide +kernel
theorem dX2_dies_36 : decode cX2_dies 36 = .ok (.getfield 39, 3) := by decide +kernel
theorem dX2_dies_39 : decode cX2_dies 39 = .ok (.iload_n 1, 1) := by decide +kernel
theorem dX2_dies_40 : decode cX2_dies 40 = .ok (.aaload, 1) := by decide +kernel
theorem dX2_dies_41 : decode cX2_dies 41 = .ok (.astore_n 2, 1) := by decide +kernel
theorem dX2_dies_42 : decode cX2_dies 42 = .ok (.iconst 0, 1) := by decide +kernel
theorem dX2_dies_43 : decode cX2_dies 43 = .ok (.istore_n 3, 1) := by decide +kernel
theorem dX2_dies_44 : decode cX2_dies 44 = .ok (.iload_n 3, 1) := by decide +kernel
theorem dX2_dies_45 : decode cX2_dies 45 = .ok (.bipush 100, 2) := by decide +kernel
theorem dX2_dies_47 : decode cX2_dies 47 = .ok (.if_icmp .ge 26, 3) := by decide +kernel
theorem dX2_dies_50 : decode cX2_dies 50 = .ok (.aload_n 2, 1) := by decide +kernel
theorem dX2_dies_51 : decode cX2_dies 51 = .ok (.getfield 58, 3) := by decide +kernel
theorem dX2_dies_54 : decode cX2_dies 54 = .ok (.iconst 2, 1) := by decide +kernel
theorem dX2_dies_55 : decode cX2_dies 55 = .ok (.if_icmp .ne 5, 3) := by decide +kernel
theorem dX2_dies_58 : decode cX2_dies 58 = .ok (.iload_n 3, 1) := by decide +kernel
theorem dX2_dies_59 : decode cX2_dies 59 = .ok (.ireturn, 1) := by decide +kernel
theorem dX2_dies_60 : decode cX2_dies 60 = .ok (.aload_n 0, 1) := by decide +kernel
theorem dX2_dies_61 : decode cX2_dies 61 = .ok (.getfield 16, 3) := by decide +kernel
theorem dX2_dies_64 : decode cX2_dies 64 = .ok (.invokevirtual 151, 3) := by decide +kernel
theorem dX2_dies_67 : decode cX2_dies 67 = .ok (.iinc 3 1, 3) := by decide +kernel
theorem dX2_dies_70 : decode cX2_dies 70 = .ok (.goto (-26), 3) := by decide +kernel
theorem dX2_dies_73 : decode cX2_dies 73 = .ok (.aload_n 2, 1) := by decide +kernel
theorem dX2_dies_74 : decode cX2_dies 74 = .ok (.getfield 58, 3) := by decide +kernel
theorem dX2_dies_77 : decode cX2_dies 77 = .ok (.iconst 2, 1) := by decide +kernel
theorem dX2_dies_78 : decode cX2_dies 78 = .ok (.if_icmp .ne 8, 3) := by decide +kernel
theorem dX2_dies_81 : decode cX2_dies 81 = .ok (.bipush 100, 2) := by decide +kernel
theorem dX2_dies_83 : decode cX2_dies 83 = .ok (.goto 4, 3) := by decide +kernel
theorem dX2_dies_86 : decode cX2_dies 86 = .ok (.iconst (-1), 1) := by decide +kernel
theorem dX2_dies_87 : decode cX2_dies 87 = .ok (.ireturn, 1) := by decide +kernel
set_option maxRecDepth 20000 in
theorem ggX2_lasts_X1_copyFrom : GoodIn wsX2_lasts wsX1_copyFrom := goodIn_r _ [8, 9, 10, 11, 12, 13, 14, 15, 16, 17, 18, 19, 20, 21, 22, 23, 24, 25, 26, 27, 28, 29, 30, 31, 32, 33, 34, 35, 145, 146, 147, 148, 149, 150, 151, 152, 153, 154, 155, 156, 157, 158, 159, 160, 161, 162, 163, 164, 165, 166, 167, 168] (by decide +kernel) (by decide +kernel)
set_option maxRecDepth 20000 in
theorem gX2_lasts_X1_copyFrom : GoodIn wsX2_lasts (wsV RX2 141 RX1 yX1_copyFrom wsX1_copyFrom) := goodIn_app (goodIn_of _ (by decide +kernel)) ggX2_lasts_X1_copyFrom
set_option maxRecDepth 20000 in
theorem ggX2_lasts_X1_liveWeek : GoodIn wsX2_lasts wsX1_liveWeek := goodIn_r _ [39, 40, 9, 41, 42, 43, 7, 44, 45, 12, 19, 46, 47, 48, 49, 50, 51, 52, 53, 54, 55, 56, 20, 57, 58, 59, 60, 24, 61, 32, 31, 62, 63, 64, 65, 13, 14, 66, 67, 68, 69, 70, 71, 72, 73, 74, 75, 18, 76, 77, 78, 79, 80, 81, 82, 83, 27, 33, 34, 84, 85, 86, 87, 88, 89, 90, 91, 92, 93, 94, 95, 96, 16, 97, 98, 99, 100, 29, 30, 35, 101, 102, 103, 104, 11, 105, 106, 107, 108, 109, 110, 111, 112, 15, 113, 114, 115, 116, 28, 117, 118, 119, 120, 121, 122, 123, 124, 125, 126, 127, 128, 129, 130, 131, 132, 133, 134, 135, 136, 137, 138, 17, 139, 140, 141, 142, 145, 146, 147, 148, 149, 150, 151, 152, 153, 154, 155, 156, 157, 158, 159, 160, 161, 162, 163, 164, 165, 166, 167, 168] (by decide +kernel) (by decide +kernel)
set_option maxRecDepth 20000 in
theorem gX2_lasts_X1_liveWeek : GoodIn wsX2_lasts (wsV RX2 151 RX1 yX1_liveWeek wsX1_liveWeek) := goodIn_app (goodIn_of _ (by decide +kernel)) ggX2_lasts_X1_liveWeek
theorem dX2_lasts_0 : decode cX2_lasts 0 = .ok (.aload_n 0, 1) := by decide +kernel
theorem dX2_lasts_1 : decode cX2_lasts 1 = .ok (.getfield 16, 3) := by decide +kernel
theorem dX2_lasts_4 : decode cX2_lasts 4 = .ok (.aload_n 0, 1) := by decide +kernel
theorem dX2_lasts_5 : decode cX2_lasts 5 = .ok (.getfield 10, 3) := by decide +kernel
theorem dX2_lasts_8 : decode cX2_lasts 8 = .ok (.invokevirtual 141, 3) := by decide +kernel
theorem dX2_lasts_11 : decode cX2_lasts 11 = .ok (.iconst 1, 1) := by decide +kernel
theorem dX2_lasts_12 : decode cX2_lasts 12 = .ok (.istore_n 1, 1) := by decide +kernel
theorem dX2_lasts_13 : decode cX2_lasts 13 = .ok (.iload_n 1, 1) := by decide +kernel
theorem dX2_lasts_14 : decode cX2_lasts 14 = .ok (.bipush 100, 2) := by decide +kernel
theorem dX2_lasts_16 : decode cX2_lasts 16 = .ok (.if_icmp .gt 28, 3) := by decide +kernel
theorem dX2_lasts_19 : decode cX2_lasts 19 = .ok (.aload_n 0, 1) := by decide +kernel
theorem dX2_lasts_20 : decode cX2_lasts 20 = .ok (.getfield 16, 3) := by decide +kernel
theorem dX2_lasts_23 : decode cX2_lasts 23 = .ok (.invokevirtual 151, 3) := by decide +kernel
theorem dX2_lasts_26 : decode cX2_lasts 26 = .ok (.aload_n 0, 1) := by decide +kernel
theorem dX2_lasts_27 : decode cX2_lasts 27 = .ok (.getfield 16, 3) := by decide +kernel
theorem dX2_lasts_30 : decode cX2_lasts 30 = .ok (.getfield 154, 3) := by decide +kernel
theorem dX2_lasts_33 : decode cX2_lasts 33 = .ok (.ifCond .eq 5, 3) := by decide +kernel
theorem dX2_lasts_36 : decode cX2_lasts 36 = .ok (.iload_n 1, 1) := by decide +kernel
theorem dX2_lasts_37 : decode cX2_lasts 37 = .ok (.ireturn, 1) := by decide +kernel
theorem dX2_lasts_38 : decode cX2_lasts 38 = .ok (.iinc 1 1, 3) := by decide +kernel
theorem dX2_lasts_41 : decode cX2_lasts 41 = .ok (.goto (-28), 3) := by decide +kernel
theorem dX2_lasts_44 : decode cX2_lasts 44 = .ok (.iconst (-1), 1) := by decide +kernel
theorem dX2_lasts_45 : decode cX2_lasts 45 = .ok (.ireturn, 1) := by decide +kernel
set_option maxRecDepth 20000 in
theorem ggX2_advise_X1_hasMember : GoodIn wsX2_advise wsX1_hasMember := goodIn_r _ [15, 16, 17, 168, 169, 170, 171, 172, 173, 174, 175, 176, 177, 178, 179, 180, 181, 182, 183, 184, 185, 186, 187, 188, 189, 190, 191] (by decide +kernel) (by decide +kernel)
set_option maxRecDepth 20000 in
theorem gX2_advise_X1_hasMember : GoodIn wsX2_advise (wsV RX2 49 RX1 yX1_hasMember wsX1_hasMember) := goodIn_app (goodIn_of _ (by decide +kernel)) ggX2_advise_X1_hasMember
set_option maxRecDepth 20000 in
theorem ggX2_advise_X1_hasRoom : GoodIn wsX2_advise wsX1_hasRoom := goodIn_r _ [21, 22, 23, 24, 25, 14, 26, 16, 27, 28, 29, 30, 31, 32, 182, 183, 184, 185, 186, 187, 188, 189, 190, 191, 168, 169, 170, 171, 172, 173, 174, 175, 176, 177, 178, 179, 180, 181] (by decide +kernel) (by decide +kernel)
set_option maxRecDepth 20000 in
theorem gX2_advise_X1_hasRoom : GoodIn wsX2_advise (wsV RX2 61 RX1 yX1_hasRoom wsX1_hasRoom) := goodIn_app (goodIn_of _ (by decide +kernel)) ggX2_advise_X1_hasRoom
set_option maxRecDepth 20000 in
theorem ggX2_advise_X1_copyFrom : GoodIn wsX2_advise wsX1_copyFrom := goodIn_r _ [36, 37, 38, 39, 40, 41, 42, 43, 44, 45, 46, 47, 16, 48, 49, 50, 30, 51, 52, 53, 54, 55, 56, 57, 32, 58, 59, 60, 168, 169, 170, 171, 172, 173, 174, 175, 176, 177, 178, 179, 180, 181, 182, 183, 184, 185, 186, 187, 188, 189, 190, 191] (by decide +kernel) (by decide +kernel)
set_option maxRecDepth 20000 in
theorem gX2_advise_X1_copyFrom : GoodIn wsX2_advise (wsV RX2 141 RX1 yX1_copyFrom wsX1_copyFrom) := goodIn_app (goodIn_of _ (by decide +kernel)) ggX2_advise_X1_copyFrom
set_option maxRecDepth 20000 in
theorem ggX2_advise_X1_liveWeeks : GoodIn wsX2_advise wsX1_liveWeeks := goodIn_r _ [64, 65, 66, 67, 14, 68, 69, 37, 70, 71, 72, 73, 74, 40, 47, 75, 76, 77, 78, 79, 80, 81, 82, 83, 84, 85, 16, 22, 86, 87, 88, 30, 89, 32, 57, 90, 91, 92, 93, 41, 42, 94, 95, 96, 97, 98, 99, 100, 101, 102, 103, 46, 104, 105, 106, 107, 108, 109, 110, 111, 53, 58, 59, 112, 113, 114, 115, 17, 116, 117, 118, 119, 120, 121, 122, 123, 44, 124, 125, 126, 127, 55, 56, 60, 128, 129, 130, 131, 39, 132, 133, 134, 135, 136, 137, 138, 139, 43, 140, 141, 142, 143, 54, 144, 145, 146, 147, 148, 149, 150, 151, 152, 153, 154, 155, 156, 157, 158, 159, 160, 161, 162, 163, 164, 165, 45, 27, 28, 29, 31, 168, 169, 170, 171, 172, 173, 174, 175, 176, 177, 178, 179, 180, 181, 182, 183, 184, 185, 186, 187, 188, 189, 190, 191] (by decide +kernel) (by decide +kernel)
set_option maxRecDepth 20000 in
theorem gX2_advise_X1_liveWeeks : GoodIn wsX2_advise (wsV RX2 137 RX1 yX1_liveWeeks wsX1_liveWeeks) := goodIn_app (goodIn_of _ (by decide +kernel)) ggX2_advise_X1_liveWeeks
theorem dX2_advise_0 : decode cX2_advise 0 = .ok (.aload_n 0, 1) := by decide +kernel
theorem dX2_advise_1 : decode cX2_advise 1 = .ok (.getfield 10, 3) := by decide +kernel
theorem dX2_advise_4 : decode cX2_advise 4 = .ok (.iload_n 1, 1) := by decide +kernel
theorem dX2_advise_5 : decode cX2_advise 5 = .ok (.invokevirtual 49, 3) := by decide +kernel
theorem dX2_advise_8 : decode cX2_advise 8 = .ok (.ifCond .ne 13, 3) := by decide +kernel
theorem dX2_advise_11 : decode cX2_advise 11 = .ok (.new 53, 3) := by decide +kernel
theorem dX2_advise_14 : decode cX2_advise 14 = .ok (.dup, 1) := by decide +kernel
theorem dX2_advise_15 : decode cX2_advise 15 = .ok (.ldc 70, 2) := by decide +kernel
theorem dX2_advise_17 : decode cX2_advise 17 = .ok (.invokespecial 57, 3) := by decide +kernel
theorem dX2_advise_20 : decode cX2_advise 20 = .ok (.athrow, 1) := by decide +kernel
theorem dX2_advise_21 : decode cX2_advise 21 = .ok (.aload_n 0, 1) := by decide +kernel
theorem dX2_advise_22 : decode cX2_advise 22 = .ok (.getfield 10, 3) := by decide +kernel
theorem dX2_advise_25 : decode cX2_advise 25 = .ok (.getfield 39, 3) := by decide +kernel
theorem dX2_advise_28 : decode cX2_advise 28 = .ok (.iload_n 1, 1) := by decide +kernel
theorem dX2_advise_29 : decode cX2_advise 29 = .ok (.aaload, 1) := by decide +kernel
theorem dX2_advise_30 : decode cX2_advise 30 = .ok (.astore_n 2, 1) := by decide +kernel
theorem dX2_advise_31 : decode cX2_advise 31 = .ok (.aload_n 2, 1) := by decide +kernel
theorem dX2_advise_32 : decode cX2_advise 32 = .ok (.getfield 58, 3) := by decide +kernel
theorem dX2_advise_35 : decode cX2_advise 35 = .ok (.iconst 2, 1) := by decide +kernel
theorem dX2_advise_36 : decode cX2_advise 36 = .ok (.if_icmp .ne 13, 3) := by decide +kernel
theorem dX2_advise_39 : decode cX2_advise 39 = .ok (.new 34, 3) := by decide +kernel
theorem dX2_advise_42 : decode cX2_advise 42 = .ok (.dup, 1) := by decide +kernel
theorem dX2_advise_43 : decode cX2_advise 43 = .ok (.ldc 78, 2) := by decide +kernel
theorem dX2_advise_45 : decode cX2_advise 45 = .ok (.invokespecial 38, 3) := by decide +kernel
theorem dX2_advise_48 : decode cX2_advise 48 = .ok (.athrow, 1) := by decide +kernel
theorem dX2_advise_49 : decode cX2_advise 49 = .ok (.iconst (-1), 1) := by decide +kernel
theorem dX2_advise_50 : decode cX2_advise 50 = .ok (.istore_n 3, 1) := by decide +kernel
theorem dX2_advise_51 : decode cX2_advise 51 = .ok (.iconst (-1), 1) := by decide +kernel
theorem dX2_advise_52 : decode cX2_advise 52 = .ok (.istore 4, 2) := by decide +kernel
theorem dX2_advise_54 : decode cX2_advise 54 = .ok (.iconst 0, 1) := by decide +kernel
theorem dX2_advise_55 : decode cX2_advise 55 = .ok (.istore 5, 2) := by decide +kernel
theorem dX2_advise_57 : decode cX2_advise 57 = .ok (.iload 5, 2) := by decide +kernel
theorem dX2_advise_59 : decode cX2_advise 59 = .ok (.iconst 3, 1) := by decide +kernel
theorem dX2_advise_60 : decode cX2_advise 60 = .ok (.if_icmp .ge 80, 3) := by decide +kernel
theorem dX2_advise_63 : decode cX2_advise 63 = .ok (.aload_n 0, 1) := by decide +kernel
theorem dX2_advise_64 : decode cX2_advise 64 = .ok (.getfield 10, 3) := by decide +kernel
theorem dX2_advise_67 : decode cX2_advise 67 = .ok (.iload 5, 2) := by decide +kernel
theorem dX2_advise_69 : decode cX2_advise 69 = .ok (.aload_n 2, 1) := by decide +kernel
theorem dX2_advise_70 : decode cX2_advise 70 = .ok (.invokevirtual 61, 3) := by decide +kernel
theorem dX2_advise_73 : decode cX2_advise 73 = .ok (.ifCond .eq 61, 3) := by decide +kernel
theorem dX2_advise_76 : decode cX2_advise 76 = .ok (.aload_n 0, 1) := by decide +kernel
theorem dX2_advise_77 : decode cX2_advise 77 = .ok (.getfield 16, 3) := by decide +kernel
theorem dX2_advise_80 : decode cX2_advise 80 = .ok (.aload_n 0, 1) := by decide +kernel
theorem dX2_advise_81 : decode cX2_advise 81 = .ok (.getfield 10, 3) := by decide +kernel
theorem dX2_advise_84 : decode cX2_advise 84 = .ok (.invokevirtual 141, 3) := by decide +kernel
theorem dX2_advise_87 : decode cX2_advise 87 = .ok (.aload_n 0, 1) := by decide +kernel
theorem dX2_advise_88 : decode cX2_advise 88 = .ok (.getfield 16, 3) := by decide +kernel
theorem dX2_advise_91 : decode cX2_advise 91 = .ok (.getfield 39, 3) := by decide +kernel
theorem dX2_advise_94 : decode cX2_advise 94 = .ok (.iload_n 1, 1) := by decide +kernel
theorem dX2_advise_95 : decode cX2_advise 95 = .ok (.aaload, 1) := by decide +kernel
theorem dX2_advise_96 : decode cX2_advise 96 = .ok (.iload 5, 2) := by decide +kernel
theorem dX2_advise_98 : decode cX2_advise 98 = .ok (.putfield 67, 3) := by decide +kernel
theorem dX2_advise_101 : decode cX2_advise 101 = .ok (.aload_n 0, 1) := by decide +kernel
theorem dX2_advise_102 : decode cX2_advise 102 = .ok (.getfield 16, 3) := by decide +kernel
theorem dX2_advise_105 : decode cX2_advise 105 = .ok (.bipush 6, 2) := by decide +kernel
theorem dX2_advise_107 : decode cX2_advise 107 = .ok (.invokevirtual 137, 3) := by decide +kernel
theorem dX2_advise_110 : decode cX2_advise 110 = .ok (.aload_n 0, 1) := by decide +kernel
theorem dX2_advise_111 : decode cX2_advise 111 = .ok (.getfield 16, 3) := by decide +kernel
theorem dX2_advise_114 : decode cX2_advise 114 = .ok (.getfield 121, 3) := by decide +kernel
theorem dX2_advise_117 : decode cX2_advise 117 = .ok (.iload 4, 2) := by decide +kernel
theorem dX2_advise_119 : decode cX2_advise 119 = .ok (.if_icmp .le 15, 3) := by decide +kernel
theorem dX2_advise_122 : decode cX2_advise 122 = .ok (.aload_n 0, 1) := by decide +kernel
theorem dX2_advise_123 : decode cX2_advise 123 = .ok (.getfield 16, 3) := by decide +kernel
theorem dX2_advise_126 : decode cX2_advise 126 = .ok (.getfield 121, 3) := by decide +kernel
theorem dX2_advise_129 : decode cX2_advise 129 = .ok (.istore 4, 2) := by decide +kernel
theorem dX2_advise_131 : decode cX2_advise 131 = .ok (.iload 5, 2) := by decide +kernel
theorem dX2_advise_133 : decode cX2_advise 133 = .ok (.istore_n 3, 1) := by decide +kernel
theorem dX2_advise_134 : decode cX2_advise 134 = .ok (.iinc 5 1, 3) := by decide +kernel
theorem dX2_advise_137 : decode cX2_advise 137 = .ok (.goto (-80), 3) := by decide +kernel
theorem dX2_advise_140 : decode cX2_advise 140 = .ok (.iload_n 3, 1) := by decide +kernel
theorem dX2_advise_141 : decode cX2_advise 141 = .ok (.ireturn, 1) := by decide +kernel
set_option maxRecDepth 20000 in
theorem ggX2_mean_X1_howMany : GoodIn wsX2_mean wsX1_howMany := goodIn_r _ [8, 9, 10, 13, 14, 15, 16, 17, 18, 19, 20, 21, 22, 23, 24, 25, 26, 27, 28, 29, 30, 31, 32, 33, 34, 35, 36] (by decide +kernel) (by decide +kernel)
set_option maxRecDepth 20000 in
theorem gX2_mean_X1_howMany : GoodIn wsX2_mean (wsV RX2 158 RX1 yX1_howMany wsX1_howMany) := goodIn_app (goodIn_of _ (by decide +kernel)) ggX2_mean_X1_howMany
theorem dX2_mean_0 : decode cX2_mean 0 = .ok (.aload_n 0, 1) := by decide +kernel
theorem dX2_mean_1 : decode cX2_mean 1 = .ok (.getfield 10, 3) := by decide +kernel
theorem dX2_mean_4 : decode cX2_mean 4 = .ok (.iconst 0, 1) := by decide +kernel
theorem dX2_mean_5 : decode cX2_mean 5 = .ok (.invokevirtual 158, 3) := by decide +kernel
theorem dX2_mean_8 : decode cX2_mean 8 = .ok (.aload_n 0, 1) := by decide +kernel
theorem dX2_mean_9 : decode cX2_mean 9 = .ok (.getfield 10, 3) := by decide +kernel
theorem dX2_mean_12 : decode cX2_mean 12 = .ok (.iconst 1, 1) := by decide +kernel
theorem dX2_mean_13 : decode cX2_mean 13 = .ok (.invokevirtual 158, 3) := by decide +kernel
theorem dX2_mean_16 : decode cX2_mean 16 = .ok (.iadd, 1) := by decide +kernel
theorem dX2_mean_17 : decode cX2_mean 17 = .ok (.istore_n 1, 1) := by decide +kernel
theorem dX2_mean_18 : decode cX2_mean 18 = .ok (.iload_n 1, 1) := by decide +kernel
theorem dX2_mean_19 : decode cX2_mean 19 = .ok (.ifCond .gt 5, 3) := by decide +kernel
theorem dX2_mean_22 : decode cX2_mean 22 = .ok (.dconst 0, 1) := by decide +kernel
theorem dX2_mean_23 : decode cX2_mean 23 = .ok (.dreturn, 1) := by decide +kernel
theorem dX2_mean_24 : decode cX2_mean 24 = .ok (.iconst 0, 1) := by decide +kernel
theorem dX2_mean_25 : decode cX2_mean 25 = .ok (.istore_n 2, 1) := by decide +kernel
theorem dX2_mean_26 : decode cX2_mean 26 = .ok (.aload_n 0, 1) := by decide +kernel
theorem dX2_mean_27 : decode cX2_mean 27 = .ok (.getfield 10, 3) := by decide +kernel
theorem dX2_mean_30 : decode cX2_mean 30 = .ok (.getfield 39, 3) := by decide +kernel
theorem dX2_mean_33 : decode cX2_mean 33 = .ok (.astore_n 3, 1) := by decide +kernel
theorem dX2_mean_34 : decode cX2_mean 34 = .ok (.aload_n 3, 1) := by decide +kernel
theorem dX2_mean_35 : decode cX2_mean 35 = .ok (.arraylength, 1) := by decide +kernel
theorem dX2_mean_36 : decode cX2_mean 36 = .ok (.istore 4, 2) := by decide +kernel
theorem dX2_mean_38 : decode cX2_mean 38 = .ok (.iconst 0, 1) := by decide +kernel
theorem dX2_mean_39 : decode cX2_mean 39 = .ok (.istore 5, 2) := by decide +kernel
theorem dX2_mean_41 : decode cX2_mean 41 = .ok (.iload 5, 2) := by decide +kernel
theorem dX2_mean_43 : decode cX2_mean 43 = .ok (.iload 4, 2) := by decide +kernel
theorem dX2_mean_45 : decode cX2_mean 45 = .ok (.if_icmp .ge 23, 3) := by decide +kernel
theorem dX2_mean_48 : decode cX2_mean 48 = .ok (.aload_n 3, 1) := by decide +kernel
theorem dX2_mean_49 : decode cX2_mean 49 = .ok (.iload 5, 2) := by decide +kernel
theorem dX2_mean_51 : decode cX2_mean 51 = .ok (.aaload, 1) := by decide +kernel
theorem dX2_mean_52 : decode cX2_mean 52 = .ok (.astore 6, 2) := by decide +kernel
theorem dX2_mean_54 : decode cX2_mean 54 = .ok (.iload_n 2, 1) := by decide +kernel
theorem dX2_mean_55 : decode cX2_mean 55 = .ok (.aload 6, 2) := by decide +kernel
theorem dX2_mean_57 : decode cX2_mean 57 = .ok (.getfield 161, 3) := by decide +kernel
theorem dX2_mean_60 : decode cX2_mean 60 = .ok (.iadd, 1) := by decide +kernel
theorem dX2_mean_61 : decode cX2_mean 61 = .ok (.istore_n 2, 1) := by decide +kernel
theorem dX2_mean_62 : decode cX2_mean 62 = .ok (.iinc 5 1, 3) := by decide +kernel
theorem dX2_mean_65 : decode cX2_mean 65 = .ok (.goto (-24), 3) := by decide +kernel
theorem dX2_mean_68 : decode cX2_mean 68 = .ok (.iload_n 2, 1) := by decide +kernel
theorem dX2_mean_69 : decode cX2_mean 69 = .ok (.i2d, 1) := by decide +kernel
theorem dX2_mean_70 : decode cX2_mean 70 = .ok (.iload_n 1, 1) := by decide +kernel
theorem dX2_mean_71 : decode cX2_mean 71 = .ok (.i2d, 1) := by decide +kernel
theorem dX2_mean_72 : decode cX2_mean 72 = .ok (.ddiv, 1) := by decide +kernel
theorem dX2_mean_73 : decode cX2_mean 73 = .ok (.dreturn, 1) := by decide +kernel
set_option maxRecDepth 20000 in
theorem ggX2_digest_X1_tally : GoodIn wsX2_digest wsX1_tally := goodIn_r _ [12, 13, 14, 15, 16, 17, 18, 19, 20, 21, 22, 23, 11, 24, 25, 26, 27, 28, 29, 30, 31, 32, 33, 34, 35, 36, 117, 118, 119, 120, 121, 122, 123, 124, 125, 126, 127, 128, 129, 130, 131, 132, 133, 134, 135, 136, 137, 138, 139, 140] (by decide +kernel) (by decide +kernel)
set_option maxRecDepth 20000 in
theorem gX2_digest_X1_tally : GoodIn wsX2_digest (wsV RX2 132 RX1 yX1_tally wsX1_tally) := goodIn_app (goodIn_of _ (by decide +kernel)) ggX2_digest_X1_tally
set_option maxRecDepth 20000 in
theorem ggX2_digest_X2_potFact : GoodIn wsX2_digest wsX2_potFact := goodIn_r _ [41, 3, 42, 43, 44, 45, 11, 46, 47, 48, 49, 50, 51, 25, 52, 53, 54, 55, 56, 57, 58, 59, 60, 61, 62, 63, 64, 65, 66, 67, 68, 69, 70, 71, 72, 73, 74, 75, 76, 13, 14, 15, 16, 17, 18, 77, 19, 20, 78, 79, 80, 81, 82, 83, 84, 85, 86, 87, 88, 89, 90, 91, 92, 93, 94, 95, 96, 97, 98, 99, 100, 101, 102, 103, 104, 105, 106, 107, 108, 109, 110, 115, 116, 117, 118, 119, 120, 121, 122, 123, 124, 125, 126, 127, 128, 129, 130, 131, 132, 133, 134, 135, 136, 137, 138, 139, 140] (by decide +kernel) (by decide +kernel)
set_option maxRecDepth 20000 in
theorem gX2_digest_X2_potFact : GoodIn wsX2_digest (wsV RX2 128 RX2 yX2_potFact wsX2_potFact) := goodIn_app (goodIn_of _ (by decide +kernel)) ggX2_digest_X2_potFact
set_option maxRecDepth 20000 in
theorem ggX2_digest_X0_fact : GoodIn wsX2_digest wsX0_fact := goodIn_r _ [114, 83, 84, 85, 86, 87, 72, 58, 88, 89, 131, 132, 133, 134, 135, 136, 137, 138, 139, 140] (by decide +kernel) (by decide +kernel)
set_option maxRecDepth 20000 in
theorem gX2_digest_X0_fact : GoodIn wsX2_digest (wsV RX2 92 RX0 yX0_fact wsX0_fact) := goodIn_app (goodIn_of _ (by decide +kernel)) ggX2_digest_X0_fact
theorem dX2_digest_0 : decode cX2_digest 0 = .ok (.ldc2_w 164, 3) := by decide +kernel
theorem dX2_digest_3 : decode cX2_digest 3 = .ok (.lstore_n 1, 1) := by decide +kernel
theorem dX2_digest_4 : decode cX2_digest 4 = .ok (.iconst 0, 1) := by decide +kernel
theorem dX2_digest_5 : decode cX2_digest 5 = .ok (.istore_n 3, 1) := by decide +kernel
theorem dX2_digest_6 : decode cX2_digest 6 = .ok (.iload_n 3, 1) := by decide +kernel
theorem dX2_digest_7 : decode cX2_digest 7 = .ok (.bipush 13, 2) := by decide +kernel
theorem dX2_digest_9 : decode cX2_digest 9 = .ok (.if_icmp .ge 25, 3) := by decide +kernel
theorem dX2_digest_12 : decode cX2_digest 12 = .ok (.lload_n 1, 1) := by decide +kernel
theorem dX2_digest_13 : decode cX2_digest 13 = .ok (.ldc2_w 166, 3) := by decide +kernel
theorem dX2_digest_16 : decode cX2_digest 16 = .ok (.lmul, 1) := by decide +kernel
theorem dX2_digest_17 : decode cX2_digest 17 = .ok (.aload_n 0, 1) := by decide +kernel
theorem dX2_digest_18 : decode cX2_digest 18 = .ok (.getfield 10, 3) := by decide +kernel
theorem dX2_digest_21 : decode cX2_digest 21 = .ok (.iload_n 3, 1) := by decide +kernel
theorem dX2_digest_22 : decode cX2_digest 22 = .ok (.invokevirtual 132, 3) := by decide +kernel
theorem dX2_digest_25 : decode cX2_digest 25 = .ok (.i2l, 1) := by decide +kernel
theorem dX2_digest_26 : decode cX2_digest 26 = .ok (.ladd, 1) := by decide +kernel
theorem dX2_digest_27 : decode cX2_digest 27 = .ok (.lstore_n 1, 1) := by decide +kernel
theorem dX2_digest_28 : decode cX2_digest 28 = .ok (.iinc 3 1, 3) := by decide +kernel
theorem dX2_digest_31 : decode cX2_digest 31 = .ok (.goto (-25), 3) := by decide +kernel
theorem dX2_digest_34 : decode cX2_digest 34 = .ok (.lload_n 1, 1) := by decide +kernel
theorem dX2_digest_35 : decode cX2_digest 35 = .ok (.ldc2_w 166, 3) := by decide +kernel
theorem dX2_digest_38 : decode cX2_digest 38 = .ok (.lmul, 1) := by decide +kernel
theorem dX2_digest_39 : decode cX2_digest 39 = .ok (.aload_n 0, 1) := by decide +kernel
theorem dX2_digest_40 : decode cX2_digest 40 = .ok (.getfield 10, 3) := by decide +kernel
theorem dX2_digest_43 : decode cX2_digest 43 = .ok (.getfield 105, 3) := by decide +kernel
theorem dX2_digest_46 : decode cX2_digest 46 = .ok (.i2l, 1) := by decide +kernel
theorem dX2_digest_47 : decode cX2_digest 47 = .ok (.ladd, 1) := by decide +kernel
theorem dX2_digest_48 : decode cX2_digest 48 = .ok (.lstore_n 1, 1) := by decide +kernel
theorem dX2_digest_49 : decode cX2_digest 49 = .ok (.aload_n 0, 1) := by decide +kernel
theorem dX2_digest_50 : decode cX2_digest 50 = .ok (.getfield 10, 3) := by decide +kernel
theorem dX2_digest_53 : decode cX2_digest 53 = .ok (.getfield 99, 3) := by decide +kernel
theorem dX2_digest_56 : decode cX2_digest 56 = .ok (.astore_n 3, 1) := by decide +kernel
theorem dX2_digest_57 : decode cX2_digest 57 = .ok (.aload_n 3, 1) := by decide +kernel
theorem dX2_digest_58 : decode cX2_digest 58 = .ok (.arraylength, 1) := by decide +kernel
theorem dX2_digest_59 : decode cX2_digest 59 = .ok (.istore 4, 2) := by decide +kernel
theorem dX2_digest_61 : decode cX2_digest 61 = .ok (.iconst 0, 1) := by decide +kernel
theorem dX2_digest_62 : decode cX2_digest 62 = .ok (.istore 5, 2) := by decide +kernel
theorem dX2_digest_64 : decode cX2_digest 64 = .ok (.iload 5, 2) := by decide +kernel
theorem dX2_digest_66 : decode cX2_digest 66 = .ok (.iload 4, 2) := by decide +kernel
theorem dX2_digest_68 : decode cX2_digest 68 = .ok (.if_icmp .ge 25, 3) := by decide +kernel
theorem dX2_digest_71 : decode cX2_digest 71 = .ok (.aload_n 3, 1) := by decide +kernel
theorem dX2_digest_72 : decode cX2_digest 72 = .ok (.iload 5, 2) := by decide +kernel
theorem dX2_digest_74 : decode cX2_digest 74 = .ok (.iaload, 1) := by decide +kernel
theorem dX2_digest_75 : decode cX2_digest 75 = .ok (.istore 6, 2) := by decide +kernel
theorem dX2_digest_77 : decode cX2_digest 77 = .ok (.lload_n 1, 1) := by decide +kernel
theorem dX2_digest_78 : decode cX2_digest 78 = .ok (.ldc2_w 166, 3) := by decide +kernel
theorem dX2_digest_81 : decode cX2_digest 81 = .ok (.lmul, 1) := by decide +kernel
theorem dX2_digest_82 : decode cX2_digest 82 = .ok (.iload 6, 2) := by decide +kernel
theorem dX2_digest_84 : decode cX2_digest 84 = .ok (.i2l, 1) := by decide +kernel
theorem dX2_digest_85 : decode cX2_digest 85 = .ok (.ladd, 1) := by decide +kernel
theorem dX2_digest_86 : decode cX2_digest 86 = .ok (.lstore_n 1, 1) := by decide +kernel
theorem dX2_digest_87 : decode cX2_digest 87 = .ok (.iinc 5 1, 3) := by decide +kernel
theorem dX2_digest_90 : decode cX2_digest 90 = .ok (.goto (-26), 3) := by decide +kernel
theorem dX2_digest_93 : decode cX2_digest 93 = .ok (.iconst 0, 1) := by decide +kernel
theorem dX2_digest_94 : decode cX2_digest 94 = .ok (.istore_n 3, 1) := by decide +kernel
theorem dX2_digest_95 : decode cX2_digest 95 = .ok (.iload_n 3, 1) := by decide +kernel
theorem dX2_digest_96 : decode cX2_digest 96 = .ok (.iconst 3, 1) := by decide +kernel
theorem dX2_digest_97 : decode cX2_digest 97 = .ok (.if_icmp .ge 39, 3) := by decide +kernel
theorem dX2_digest_100 : decode cX2_digest 100 = .ok (.iconst 0, 1) := by decide +kernel
theorem dX2_digest_101 : decode cX2_digest 101 = .ok (.istore 4, 2) := by decide +kernel
theorem dX2_digest_103 : decode cX2_digest 103 = .ok (.iload 4, 2) := by decide +kernel
theorem dX2_digest_105 : decode cX2_digest 105 = .ok (.iconst 4, 1) := by decide +kernel
theorem dX2_digest_106 : decode cX2_digest 106 = .ok (.if_icmp .ge 24, 3) := by decide +kernel
theorem dX2_digest_109 : decode cX2_digest 109 = .ok (.lload_n 1, 1) := by decide +kernel
theorem dX2_digest_110 : decode cX2_digest 110 = .ok (.ldc2_w 166, 3) := by decide +kernel
theorem dX2_digest_113 : decode cX2_digest 113 = .ok (.lmul, 1) := by decide +kernel
theorem dX2_digest_114 : decode cX2_digest 114 = .ok (.aload_n 0, 1) := by decide +kernel
theorem dX2_digest_115 : decode cX2_digest 115 = .ok (.iload_n 3, 1) := by decide +kernel
theorem dX2_digest_116 : decode cX2_digest 116 = .ok (.iload 4, 2) := by decide +kernel
theorem dX2_digest_118 : decode cX2_digest 118 = .ok (.invokevirtual 128, 3) := by decide +kernel
theorem dX2_digest_121 : decode cX2_digest 121 = .ok (.i2l, 1) := by decide +kernel
theorem dX2_digest_122 : decode cX2_digest 122 = .ok (.ladd, 1) := by decide +kernel
theorem dX2_digest_123 : decode cX2_digest 123 = .ok (.lstore_n 1, 1) := by decide +kernel
theorem dX2_digest_124 : decode cX2_digest 124 = .ok (.iinc 4 1, 3) := by decide +kernel
theorem dX2_digest_127 : decode cX2_digest 127 = .ok (.goto (-24), 3) := by decide +kernel
theorem dX2_digest_130 : decode cX2_digest 130 = .ok (.iinc 3 1, 3) := by decide +kernel
theorem dX2_digest_133 : decode cX2_digest 133 = .ok (.goto (-38), 3) := by decide +kernel
theorem dX2_digest_136 : decode cX2_digest 136 = .ok (.aload_n 0, 1) := by decide +kernel
theorem dX2_digest_137 : decode cX2_digest 137 = .ok (.getfield 10, 3) := by decide +kernel
theorem dX2_digest_140 : decode cX2_digest 140 = .ok (.getfield 39, 3) := by decide +kernel
theorem dX2_digest_143 : decode cX2_digest 143 = .ok (.astore_n 3, 1) := by decide +kernel
theorem dX2_digest_144 : decode cX2_digest 144 = .ok (.aload_n 3, 1) := by decide +kernel
theorem dX2_digest_145 : decode cX2_digest 145 = .ok (.arraylength, 1) := by decide +kernel
theorem dX2_digest_146 : decode cX2_digest 146 = .ok (.istore 4, 2) := by decide +kernel
theorem dX2_digest_148 : decode cX2_digest 148 = .ok (.iconst 0, 1) := by decide +kernel
theorem dX2_digest_149 : decode cX2_digest 149 = .ok (.istore 5, 2) := by decide +kernel
theorem dX2_digest_151 : decode cX2_digest 151 = .ok (.iload 5, 2) := by decide +kernel
theorem dX2_digest_153 : decode cX2_digest 153 = .ok (.iload 4, 2) := by decide +kernel
theorem dX2_digest_155 : decode cX2_digest 155 = .ok (.if_icmp .ge 55, 3) := by decide +kernel
theorem dX2_digest_158 : decode cX2_digest 158 = .ok (.aload_n 3, 1) := by decide +kernel
theorem dX2_digest_159 : decode cX2_digest 159 = .ok (.iload 5, 2) := by decide +kernel
theorem dX2_digest_161 : decode cX2_digest 161 = .ok (.aaload, 1) := by decide +kernel
theorem dX2_digest_162 : decode cX2_digest 162 = .ok (.astore 6, 2) := by decide +kernel
theorem dX2_digest_164 : decode cX2_digest 164 = .ok (.aload 6, 2) := by decide +kernel
theorem dX2_digest_166 : decode cX2_digest 166 = .ok (.getfield 58, 3) := by decide +kernel
theorem dX2_digest_169 : decode cX2_digest 169 = .ok (.iconst 3, 1) := by decide +kernel
theorem dX2_digest_170 : decode cX2_digest 170 = .ok (.if_icmp .eq 34, 3) := by decide +kernel
theorem dX2_digest_173 : decode cX2_digest 173 = .ok (.iconst 0, 1) := by decide +kernel
theorem dX2_digest_174 : decode cX2_digest 174 = .ok (.istore 7, 2) := by decide +kernel
theorem dX2_digest_176 : decode cX2_digest 176 = .ok (.iload 7, 2) := by decide +kernel
theorem dX2_digest_178 : decode cX2_digest 178 = .ok (.bipush 9, 2) := by decide +kernel
theorem dX2_digest_180 : decode cX2_digest 180 = .ok (.if_icmp .ge 24, 3) := by decide +kernel
theorem dX2_digest_183 : decode cX2_digest 183 = .ok (.lload_n 1, 1) := by decide +kernel
theorem dX2_digest_184 : decode cX2_digest 184 = .ok (.ldc2_w 166, 3) := by decide +kernel
theorem dX2_digest_187 : decode cX2_digest 187 = .ok (.lmul, 1) := by decide +kernel
theorem dX2_digest_188 : decode cX2_digest 188 = .ok (.aload 6, 2) := by decide +kernel
theorem dX2_digest_190 : decode cX2_digest 190 = .ok (.iload 7, 2) := by decide +kernel
theorem dX2_digest_192 : decode cX2_digest 192 = .ok (.invokevirtual 92, 3) := by decide +kernel
theorem dX2_digest_195 : decode cX2_digest 195 = .ok (.i2l, 1) := by decide +kernel
theorem dX2_digest_196 : decode cX2_digest 196 = .ok (.ladd, 1) := by decide +kernel
theorem dX2_digest_197 : decode cX2_digest 197 = .ok (.lstore_n 1, 1) := by decide +kernel
theorem dX2_digest_198 : decode cX2_digest 198 = .ok (.iinc 7 1, 3) := by decide +kernel
theorem dX2_digest_201 : decode cX2_digest 201 = .ok (.goto (-25), 3) := by decide +kernel
theorem dX2_digest_204 : decode cX2_digest 204 = .ok (.iinc 5 1, 3) := by decide +kernel
theorem dX2_digest_207 : decode cX2_digest 207 = .ok (.goto (-56), 3) := by decide +kernel
theorem dX2_digest_210 : decode cX2_digest 210 = .ok (.lload_n 1, 1) := by decide +kernel
theorem dX2_digest_211 : decode cX2_digest 211 = .ok (.lreturn, 1) := by decide +kernel
theorem dX2_isOutside_0 : decode cX2_isOutside 0 = .ok (.iload_n 0, 1) := by decide +kernel
theorem dX2_isOutside_1 : decode cX2_isOutside 1 = .ok (.iload_n 1, 1) := by decide +kernel
theorem dX2_isOutside_2 : decode cX2_isOutside 2 = .ok (.if_icmp .lt 8, 3) := by decide +kernel
theorem dX2_isOutside_5 : decode cX2_isOutside 5 = .ok (.iload_n 0, 1) := by decide +kernel
theorem dX2_isOutside_6 : decode cX2_isOutside 6 = .ok (.iload_n 2, 1) := by decide +kernel
theorem dX2_isOutside_7 : decode cX2_isOutside 7 = .ok (.if_icmp .le 7, 3) := by decide +kernel
theorem dX2_isOutside_10 : decode cX2_isOutside 10 = .ok (.iconst 1, 1) := by decide +kernel
theorem dX2_isOutside_11 : decode cX2_isOutside 11 = .ok (.goto 4, 3) := by decide +kernel
theorem dX2_isOutside_14 : decode cX2_isOutside 14 = .ok (.iconst 0, 1) := by decide +kernel
theorem dX2_isOutside_15 : decode cX2_isOutside 15 = .ok (.ireturn, 1) := by decide +kernel
set_option maxRecDepth 20000 in
theorem ggX2_potFact_X1_heatOf : GoodIn wsX2_potFact wsX1_heatOf := goodIn_r _ [7, 8, 83, 84, 85, 86, 87, 88, 89, 90, 91, 92, 93, 94, 95, 96] (by decide +kernel) (by decide +kernel)
set_option maxRecDepth 20000 in
theorem gX2_potFact_X1_heatOf : GoodIn wsX2_potFact (wsV RX2 168 RX1 yX1_heatOf wsX1_heatOf) := goodIn_app (goodIn_of _ (by decide +kernel)) ggX2_potFact_X1_heatOf
set_option maxRecDepth 20000 in
theorem ggX2_potFact_X1_atPot : GoodIn wsX2_potFact wsX1_atPot := goodIn_r _ [12, 13, 14, 15, 16, 17, 18, 19, 20, 83, 84, 85, 86, 87, 88, 89, 90, 91, 92, 93, 94, 95, 96, 97, 98, 99, 100, 101, 102, 103, 104, 105, 106] (by decide +kernel) (by decide +kernel)
set_option maxRecDepth 20000 in
theorem gX2_potFact_X1_atPot : GoodIn wsX2_potFact (wsV RX2 171 RX1 yX1_atPot wsX1_atPot) := goodIn_app (goodIn_of _ (by decide +kernel)) ggX2_potFact_X1_atPot
set_option maxRecDepth 20000 in
theorem ggX2_potFact_X1_combersAt : GoodIn wsX2_potFact wsX1_combersAt := goodIn_r _ [24, 25, 26, 27, 28, 6, 29, 13, 14, 30, 31, 32, 18, 33, 20, 34, 83, 84, 85, 86, 87, 88, 89, 90, 91, 92, 93, 94, 95, 96, 97, 98, 99, 100, 101, 102, 103, 104, 105, 106] (by decide +kernel) (by decide +kernel)
set_option maxRecDepth 20000 in
theorem gX2_potFact_X1_combersAt : GoodIn wsX2_potFact (wsV RX2 174 RX1 yX1_combersAt wsX1_combersAt) := goodIn_app (goodIn_of _ (by decide +kernel)) ggX2_potFact_X1_combersAt
set_option maxRecDepth 20000 in
theorem ggX2_potFact_X1_copyFrom : GoodIn wsX2_potFact wsX1_copyFrom := goodIn_r _ [38, 39, 40, 41, 42, 43, 44, 45, 46, 47, 48, 8, 13, 49, 50, 51, 18, 52, 53, 54, 55, 56, 57, 34, 20, 58, 59, 60, 83, 84, 85, 86, 87, 88, 89, 90, 91, 92, 93, 94, 95, 96, 97, 98, 99, 100, 101, 102, 103, 104, 105, 106] (by decide +kernel) (by decide +kernel)
set_option maxRecDepth 20000 in
theorem gX2_potFact_X1_copyFrom : GoodIn wsX2_potFact (wsV RX2 141 RX1 yX1_copyFrom wsX1_copyFrom) := goodIn_app (goodIn_of _ (by decide +kernel)) ggX2_potFact_X1_copyFrom
set_option maxRecDepth 20000 in
theorem ggX2_potFact_X1_lightFires : GoodIn wsX2_potFact wsX1_lightFires := goodIn_r _ [64, 25, 42, 8, 65, 66, 67, 68, 69, 70, 71, 26, 27, 28, 6, 29, 13, 14, 30, 31, 32, 18, 33, 20, 34, 83, 84, 85, 86, 87, 88, 89, 90, 91, 92, 93, 94, 95, 96, 97, 98, 99, 100, 101, 102, 103, 104, 105, 106] (by decide +kernel) (by decide +kernel)
set_option maxRecDepth 20000 in
theorem gX2_potFact_X1_lightFires : GoodIn wsX2_potFact (wsV RX2 145 RX1 yX1_lightFires wsX1_lightFires) := goodIn_app (goodIn_of _ (by decide +kernel)) ggX2_potFact_X1_lightFires
set_option maxRecDepth 20000 in
theorem ggX2_potFact_X1_poundsOfPot : GoodIn wsX2_potFact wsX1_poundsOfPot := goodIn_r _ [75, 13, 14, 76, 77, 78, 6, 79, 25, 69, 70, 67, 71, 80, 8, 30, 31, 32, 18, 33, 20, 34, 83, 84, 85, 86, 87, 88, 89, 90, 91, 92, 93, 94, 95, 96, 97, 98, 99, 100, 101, 102, 103, 104, 105, 106] (by decide +kernel) (by decide +kernel)
set_option maxRecDepth 20000 in
theorem gX2_potFact_X1_poundsOfPot : GoodIn wsX2_potFact (wsV RX2 177 RX1 yX1_poundsOfPot wsX1_poundsOfPot) := goodIn_app (goodIn_of _ (by decide +kernel)) ggX2_potFact_X1_poundsOfPot
theorem dX2_potFact_0 : decode cX2_potFact 0 = .ok (.iload_n 2, 1) := by decide +kernel
theorem dX2_potFact_1 : decode cX2_potFact 1 = .ok (.tableswitch 54 0 2 #[27, 36, 45], 27) := by decide +kernel
theorem dX2_potFact_28 : decode cX2_potFact 28 = .ok (.aload_n 0, 1) := by decide +kernel
theorem dX2_potFact_29 : decode cX2_potFact 29 = .ok (.getfield 10, 3) := by decide +kernel
theorem dX2_potFact_32 : decode cX2_potFact 32 = .ok (.iload_n 1, 1) := by decide +kernel
theorem dX2_potFact_33 : decode cX2_potFact 33 = .ok (.invokevirtual 168, 3) := by decide +kernel
theorem dX2_potFact_36 : decode cX2_potFact 36 = .ok (.ireturn, 1) := by decide +kernel
theorem dX2_potFact_37 : decode cX2_potFact 37 = .ok (.aload_n 0, 1) := by decide +kernel
theorem dX2_potFact_38 : decode cX2_potFact 38 = .ok (.getfield 10, 3) := by decide +kernel
theorem dX2_potFact_41 : decode cX2_potFact 41 = .ok (.iload_n 1, 1) := by decide +kernel
theorem dX2_potFact_42 : decode cX2_potFact 42 = .ok (.invokevirtual 171, 3) := by decide +kernel
theorem dX2_potFact_45 : decode cX2_potFact 45 = .ok (.ireturn, 1) := by decide +kernel
theorem dX2_potFact_46 : decode cX2_potFact 46 = .ok (.aload_n 0, 1) := by decide +kernel
theorem dX2_potFact_47 : decode cX2_potFact 47 = .ok (.getfield 10, 3) := by decide +kernel
theorem dX2_potFact_50 : decode cX2_potFact 50 = .ok (.iload_n 1, 1) := by decide +kernel
theorem dX2_potFact_51 : decode cX2_potFact 51 = .ok (.invokevirtual 174, 3) := by decide +kernel
theorem dX2_potFact_54 : decode cX2_potFact 54 = .ok (.ireturn, 1) := by decide +kernel
theorem dX2_potFact_55 : decode cX2_potFact 55 = .ok (.aload_n 0, 1) := by decide +kernel
theorem dX2_potFact_56 : decode cX2_potFact 56 = .ok (.getfield 16, 3) := by decide +kernel
theorem dX2_potFact_59 : decode cX2_potFact 59 = .ok (.aload_n 0, 1) := by decide +kernel
theorem dX2_potFact_60 : decode cX2_potFact 60 = .ok (.getfield 10, 3) := by decide +kernel
theorem dX2_potFact_63 : decode cX2_potFact 63 = .ok (.invokevirtual 141, 3) := by decide +kernel
theorem dX2_potFact_66 : decode cX2_potFact 66 = .ok (.aload_n 0, 1) := by decide +kernel
theorem dX2_potFact_67 : decode cX2_potFact 67 = .ok (.getfield 16, 3) := by decide +kernel
theorem dX2_potFact_70 : decode cX2_potFact 70 = .ok (.invokevirtual 145, 3) := by decide +kernel
theorem dX2_potFact_73 : decode cX2_potFact 73 = .ok (.aload_n 0, 1) := by decide +kernel
theorem dX2_potFact_74 : decode cX2_potFact 74 = .ok (.getfield 16, 3) := by decide +kernel
theorem dX2_potFact_77 : decode cX2_potFact 77 = .ok (.iload_n 1, 1) := by decide +kernel
theorem dX2_potFact_78 : decode cX2_potFact 78 = .ok (.invokevirtual 177, 3) := by decide +kernel
theorem dX2_potFact_81 : decode cX2_potFact 81 = .ok (.ireturn, 1) := by decide +kernel
theorem dX3_init_0 : decode cX3_init 0 = .ok (.aload_n 0, 1) := by decide +kernel
theorem dX3_init_1 : decode cX3_init 1 = .ok (.aload_n 1, 1) := by decide +kernel
theorem dX3_init_2 : decode cX3_init 2 = .ok (.putfield 3, 3) := by decide +kernel
theorem dX3_init_5 : decode cX3_init 5 = .ok (.aload_n 0, 1) := by decide +kernel
theorem dX3_init_6 : decode cX3_init 6 = .ok (.invokespecial 9, 3) := by decide +kernel
theorem dX3_init_9 : decode cX3_init 9 = .ok (.aload_n 0, 1) := by decide +kernel
theorem dX3_init_10 : decode cX3_init 10 = .ok (.bipush 60, 2) := by decide +kernel
theorem dX3_init_12 : decode cX3_init 12 = .ok (.putfield 15, 3) := by decide +kernel
theorem dX3_init_15 : decode cX3_init 15 = .ok (.aload_n 0, 1) := by decide +kernel
theorem dX3_init_16 : decode cX3_init 16 = .ok (.bipush 30, 2) := by decide +kernel
theorem dX3_init_18 : decode cX3_init 18 = .ok (.putfield 19, 3) := by decide +kernel
theorem dX3_init_21 : decode cX3_init 21 = .ok (.aload_n 0, 1) := by decide +kernel
theorem dX3_init_22 : decode cX3_init 22 = .ok (.sipush 200, 3) := by decide +kernel
theorem dX3_init_25 : decode cX3_init 25 = .ok (.putfield 22, 3) := by decide +kernel
theorem dX3_init_28 : decode cX3_init 28 = .ok (.aload_n 0, 1) := by decide +kernel
theorem dX3_init_29 : decode cX3_init 29 = .ok (.iconst 3, 1) := by decide +kernel
theorem dX3_init_30 : decode cX3_init 30 = .ok (.newarray .int, 2) := by decide +kernel
theorem dX3_init_32 : decode cX3_init 32 = .ok (.putfield 25, 3) := by decide +kernel
theorem dX3_init_35 : decode cX3_init 35 = .ok (.aload_n 0, 1) := by decide +kernel
theorem dX3_init_36 : decode cX3_init 36 = .ok (.bipush 108, 2) := by decide +kernel
theorem dX3_init_38 : decode cX3_init 38 = .ok (.newarray .int, 2) := by decide +kernel
theorem dX3_init_40 : decode cX3_init 40 = .ok (.putfield 29, 3) := by decide +kernel
theorem dX3_init_43 : decode cX3_init 43 = .ok (.return_, 1) := by decide +kernel
theorem dX3_become_0 : decode cX3_become 0 = .ok (.aload_n 0, 1) := by decide +kernel
theorem dX3_become_1 : decode cX3_become 1 = .ok (.aload_n 1, 1) := by decide +kernel
theorem dX3_become_2 : decode cX3_become 2 = .ok (.getfield 32, 3) := by decide +kernel
theorem dX3_become_5 : decode cX3_become 5 = .ok (.putfield 32, 3) := by decide +kernel
theorem dX3_become_8 : decode cX3_become 8 = .ok (.aload_n 0, 1) := by decide +kernel
theorem dX3_become_9 : decode cX3_become 9 = .ok (.aload_n 1, 1) := by decide +kernel
theorem dX3_become_10 : decode cX3_become 10 = .ok (.getfield 35, 3) := by decide +kernel
theorem dX3_become_13 : decode cX3_become 13 = .ok (.putfield 35, 3) := by decide +kernel
theorem dX3_become_16 : decode cX3_become 16 = .ok (.aload_n 0, 1) := by decide +kernel
theorem dX3_become_17 : decode cX3_become 17 = .ok (.aload_n 1, 1) := by decide +kernel
theorem dX3_become_18 : decode cX3_become 18 = .ok (.getfield 15, 3) := by decide +kernel
theorem dX3_become_21 : decode cX3_become 21 = .ok (.putfield 15, 3) := by decide +kernel
theorem dX3_become_24 : decode cX3_become 24 = .ok (.aload_n 0, 1) := by decide +kernel
theorem dX3_become_25 : decode cX3_become 25 = .ok (.aload_n 1, 1) := by decide +kernel
theorem dX3_become_26 : decode cX3_become 26 = .ok (.getfield 19, 3) := by decide +kernel
theorem dX3_become_29 : decode cX3_become 29 = .ok (.putfield 19, 3) := by decide +kernel
theorem dX3_become_32 : decode cX3_become 32 = .ok (.aload_n 0, 1) := by decide +kernel
theorem dX3_become_33 : decode cX3_become 33 = .ok (.aload_n 1, 1) := by decide +kernel
theorem dX3_become_34 : decode cX3_become 34 = .ok (.getfield 22, 3) := by decide +kernel
theorem dX3_become_37 : decode cX3_become 37 = .ok (.putfield 22, 3) := by decide +kernel
theorem dX3_become_40 : decode cX3_become 40 = .ok (.aload_n 0, 1) := by decide +kernel
theorem dX3_become_41 : decode cX3_become 41 = .ok (.aload_n 1, 1) := by decide +kernel
theorem dX3_become_42 : decode cX3_become 42 = .ok (.getfield 38, 3) := by decide +kernel
theorem dX3_become_45 : decode cX3_become 45 = .ok (.putfield 38, 3) := by decide +kernel
theorem dX3_become_48 : decode cX3_become 48 = .ok (.aload_n 0, 1) := by decide +kernel
theorem dX3_become_49 : decode cX3_become 49 = .ok (.aload_n 1, 1) := by decide +kernel
theorem dX3_become_50 : decode cX3_become 50 = .ok (.getfield 41, 3) := by decide +kernel
theorem dX3_become_53 : decode cX3_become 53 = .ok (.putfield 41, 3) := by decide +kernel
theorem dX3_become_56 : decode cX3_become 56 = .ok (.aload_n 0, 1) := by decide +kernel
theorem dX3_become_57 : decode cX3_become 57 = .ok (.aload_n 1, 1) := by decide +kernel
theorem dX3_become_58 : decode cX3_become 58 = .ok (.getfield 44, 3) := by decide +kernel
theorem dX3_become_61 : decode cX3_become 61 = .ok (.putfield 44, 3) := by decide +kernel
theorem dX3_become_64 : decode cX3_become 64 = .ok (.aload_n 0, 1) := by decide +kernel
theorem dX3_become_65 : decode cX3_become 65 = .ok (.iconst 0, 1) := by decide +kernel
theorem dX3_become_66 : decode cX3_become 66 = .ok (.putfield 47, 3) := by decide +kernel
theorem dX3_become_69 : decode cX3_become 69 = .ok (.aload_n 1, 1) := by decide +kernel
theorem dX3_become_70 : decode cX3_become 70 = .ok (.getfield 25, 3) := by decide +kernel
theorem dX3_become_73 : decode cX3_become 73 = .ok (.iconst 0, 1) := by decide +kernel
theorem dX3_become_74 : decode cX3_become 74 = .ok (.aload_n 0, 1) := by decide +kernel
theorem dX3_become_75 : decode cX3_become 75 = .ok (.getfield 25, 3) := by decide +kernel
theorem dX3_become_78 : decode cX3_become 78 = .ok (.iconst 0, 1) := by decide +kernel
theorem dX3_become_79 : decode cX3_become 79 = .ok (.iconst 3, 1) := by decide +kernel
theorem dX3_become_80 : decode cX3_become 80 = .ok (.invokestatic 51, 3) := by decide +kernel
theorem dX3_become_83 : decode cX3_become 83 = .ok (.aload_n 1, 1) := by decide +kernel
theorem dX3_become_84 : decode cX3_become 84 = .ok (.getfield 29, 3) := by decide +kernel
theorem dX3_become_87 : decode cX3_become 87 = .ok (.iconst 0, 1) := by decide +kernel
theorem dX3_become_88 : decode cX3_become 88 = .ok (.aload_n 0, 1) := by decide +kernel
theorem dX3_become_89 : decode cX3_become 89 = .ok (.getfield 29, 3) := by decide +kernel
theorem dX3_become_92 : decode cX3_become 92 = .ok (.iconst 0, 1) := by decide +kernel
theorem dX3_become_93 : decode cX3_become 93 = .ok (.aload_n 0, 1) := by decide +kernel
theorem dX3_become_94 : decode cX3_become 94 = .ok (.getfield 29, 3) := by decide +kernel
theorem dX3_become_97 : decode cX3_become 97 = .ok (.arraylength, 1) := by decide +kernel
theorem dX3_become_98 : decode cX3_become 98 = .ok (.invokestatic 51, 3) := by decide +kernel
theorem dX3_become_101 : decode cX3_become 101 = .ok (.return_, 1) := by decide +kernel
theorem dX3_of_0 : decode cX3_of 0 = .ok (.aload_n 0, 1) := by decide +kernel
theorem dX3_of_1 : decode cX3_of 1 = .ok (.getfield 29, 3) := by decide +kernel
theorem dX3_of_4 : decode cX3_of 4 = .ok (.bipush 9, 2) := by decide +kernel
theorem dX3_of_6 : decode cX3_of 6 = .ok (.iload_n 1, 1) := by decide +kernel
theorem dX3_of_7 : decode cX3_of 7 = .ok (.imul, 1) := by decide +kernel
theorem dX3_of_8 : decode cX3_of 8 = .ok (.iload_n 2, 1) := by decide +kernel
theorem dX3_of_9 : decode cX3_of 9 = .ok (.iadd, 1) := by decide +kernel
theorem dX3_of_10 : decode cX3_of 10 = .ok (.iaload, 1) := by decide +kernel
theorem dX3_of_11 : decode cX3_of 11 = .ok (.ireturn, 1) := by decide +kernel
theorem dX3_set_0 : decode cX3_set 0 = .ok (.aload_n 0, 1) := by decide +kernel
theorem dX3_set_1 : decode cX3_set 1 = .ok (.getfield 29, 3) := by decide +kernel
theorem dX3_set_4 : decode cX3_set 4 = .ok (.bipush 9, 2) := by decide +kernel
theorem dX3_set_6 : decode cX3_set 6 = .ok (.iload_n 1, 1) := by decide +kernel
theorem dX3_set_7 : decode cX3_set 7 = .ok (.imul, 1) := by decide +kernel
theorem dX3_set_8 : decode cX3_set 8 = .ok (.iload_n 2, 1) := by decide +kernel
theorem dX3_set_9 : decode cX3_set 9 = .ok (.iadd, 1) := by decide +kernel
theorem dX3_set_10 : decode cX3_set 10 = .ok (.iload_n 3, 1) := by decide +kernel
theorem dX3_set_11 : decode cX3_set 11 = .ok (.iastore, 1) := by decide +kernel
theorem dX3_set_12 : decode cX3_set 12 = .ok (.return_, 1) := by decide +kernel
set_option maxRecDepth 20000 in
theorem ggX3_combs_X3_of : GoodIn wsX3_combs wsX3_of := goodIn_r _ [5, 6, 7, 8, 9, 10, 11, 12, 13, 14, 15, 16, 17, 18] (by decide +kernel) (by decide +kernel)
set_option maxRecDepth 20000 in
theorem gX3_combs_X3_of : GoodIn wsX3_combs (wsV RX3 57 RX3 yX3_of wsX3_of) := goodIn_app (goodIn_of _ (by decide +kernel)) ggX3_combs_X3_of
theorem dX3_combs_0 : decode cX3_combs 0 = .ok (.aload_n 0, 1) := by decide +kernel
theorem dX3_combs_1 : decode cX3_combs 1 = .ok (.iload_n 1, 1) := by decide +kernel
theorem dX3_combs_2 : decode cX3_combs 2 = .ok (.bipush 6, 2) := by decide +kernel
theorem dX3_combs_4 : decode cX3_combs 4 = .ok (.invokevirtual 57, 3) := by decide +kernel
theorem dX3_combs_7 : decode cX3_combs 7 = .ok (.ifCond .ne 17, 3) := by decide +kernel
theorem dX3_combs_10 : decode cX3_combs 10 = .ok (.aload_n 0, 1) := by decide +kernel
theorem dX3_combs_11 : decode cX3_combs 11 = .ok (.iload_n 1, 1) := by decide +kernel
theorem dX3_combs_12 : decode cX3_combs 12 = .ok (.iconst 5, 1) := by decide +kernel
theorem dX3_combs_13 : decode cX3_combs 13 = .ok (.invokevirtual 57, 3) := by decide +kernel
theorem dX3_combs_16 : decode cX3_combs 16 = .ok (.iconst (-1), 1) := by decide +kernel
theorem dX3_combs_17 : decode cX3_combs 17 = .ok (.if_icmp .eq 7, 3) := by decide +kernel
theorem dX3_combs_20 : decode cX3_combs 20 = .ok (.iconst 1, 1) := by decide +kernel
theorem dX3_combs_21 : decode cX3_combs 21 = .ok (.goto 4, 3) := by decide +kernel
theorem dX3_combs_24 : decode cX3_combs 24 = .ok (.iconst 0, 1) := by decide +kernel
theorem dX3_combs_25 : decode cX3_combs 25 = .ok (.ireturn, 1) := by decide +kernel
set_option maxRecDepth 20000 in
theorem ggX3_combers_X3_combs : GoodIn wsX3_combers wsX3_combs := goodIn_r _ [6, 7, 8, 9, 5, 10, 11, 12, 13, 14, 15, 16, 17, 18, 19, 20, 21, 22, 23] (by decide +kernel) (by decide +kernel)
set_option maxRecDepth 20000 in
theorem gX3_combers_X3_combs : GoodIn wsX3_combers (wsV RX3 61 RX3 yX3_combs wsX3_combs) := goodIn_app (goodIn_of _ (by decide +kernel)) ggX3_combers_X3_combs
set_option maxRecDepth 20000 in
theorem ggX3_combers_X3_of : GoodIn wsX3_combers wsX3_of := goodIn_r _ [10, 11, 12, 13, 14, 15, 16, 17, 18, 19, 20, 21, 22, 23] (by decide +kernel) (by decide +kernel)
set_option maxRecDepth 20000 in
theorem gX3_combers_X3_of : GoodIn wsX3_combers (wsV RX3 57 RX3 yX3_of wsX3_of) := goodIn_app (goodIn_of _ (by decide +kernel)) ggX3_combers_X3_of
theorem dX3_combers_0 : decode cX3_combers 0 = .ok (.iconst 0, 1) := by decide +kernel
theorem dX3_combers_1 : decode cX3_combers 1 = .ok (.istore_n 2, 1) := by decide +kernel
theorem dX3_combers_2 : decode cX3_combers 2 = .ok (.iconst 0, 1) := by decide +kernel
theorem dX3_combers_3 : decode cX3_combers 3 = .ok (.istore_n 3, 1) := by decide +kernel
theorem dX3_combers_4 : decode cX3_combers 4 = .ok (.iload_n 3, 1) := by decide +kernel
theorem dX3_combers_5 : decode cX3_combers 5 = .ok (.aload_n 0, 1) := by decide +kernel
theorem dX3_combers_6 : decode cX3_combers 6 = .ok (.getfield 35, 3) := by decide +kernel
theorem dX3_combers_9 : decode cX3_combers 9 = .ok (.if_icmp .ge 35, 3) := by decide +kernel
theorem dX3_combers_12 : decode cX3_combers 12 = .ok (.iload_n 2, 1) := by decide +kernel
theorem dX3_combers_13 : decode cX3_combers 13 = .ok (.aload_n 0, 1) := by decide +kernel
theorem dX3_combers_14 : decode cX3_combers 14 = .ok (.iload_n 3, 1) := by decide +kernel
theorem dX3_combers_15 : decode cX3_combers 15 = .ok (.invokevirtual 61, 3) := by decide +kernel
theorem dX3_combers_18 : decode cX3_combers 18 = .ok (.ifCond .eq 17, 3) := by decide +kernel
theorem dX3_combers_21 : decode cX3_combers 21 = .ok (.aload_n 0, 1) := by decide +kernel
theorem dX3_combers_22 : decode cX3_combers 22 = .ok (.iload_n 3, 1) := by decide +kernel
theorem dX3_combers_23 : decode cX3_combers 23 = .ok (.iconst 5, 1) := by decide +kernel
theorem dX3_combers_24 : decode cX3_combers 24 = .ok (.invokevirtual 57, 3) := by decide +kernel
theorem dX3_combers_27 : decode cX3_combers 27 = .ok (.iload_n 1, 1) := by decide +kernel
theorem dX3_combers_28 : decode cX3_combers 28 = .ok (.if_icmp .ne 7, 3) := by decide +kernel
theorem dX3_combers_31 : decode cX3_combers 31 = .ok (.iconst 1, 1) := by decide +kernel
theorem dX3_combers_32 : decode cX3_combers 32 = .ok (.goto 4, 3) := by decide +kernel
theorem dX3_combers_35 : decode cX3_combers 35 = .ok (.iconst 0, 1) := by decide +kernel
theorem dX3_combers_36 : decode cX3_combers 36 = .ok (.iadd, 1) := by decide +kernel
theorem dX3_combers_37 : decode cX3_combers 37 = .ok (.istore_n 2, 1) := by decide +kernel
theorem dX3_combers_38 : decode cX3_combers 38 = .ok (.iinc 3 1, 3) := by decide +kernel
theorem dX3_combers_41 : decode cX3_combers 41 = .ok (.goto (-37), 3) := by decide +kernel
theorem dX3_combers_44 : decode cX3_combers 44 = .ok (.iload_n 2, 1) := by decide +kernel
theorem dX3_combers_45 : decode cX3_combers 45 = .ok (.ireturn, 1) := by decide +kernel
set_option maxRecDepth 20000 in
theorem ggX3_there_X3_of : GoodIn wsX3_there wsX3_of := goodIn_r _ [6, 7, 8, 9, 10, 11, 12, 13, 14, 15, 16, 17, 18, 19] (by decide +kernel) (by decide +kernel)
set_option maxRecDepth 20000 in
theorem gX3_there_X3_of : GoodIn wsX3_there (wsV RX3 57 RX3 yX3_of wsX3_of) := goodIn_app (goodIn_of _ (by decide +kernel)) ggX3_there_X3_of
theorem dX3_there_0 : decode cX3_there 0 = .ok (.iconst 0, 1) := by decide +kernel
theorem dX3_there_1 : decode cX3_there 1 = .ok (.istore_n 2, 1) := by decide +kernel
theorem dX3_there_2 : decode cX3_there 2 = .ok (.iconst 0, 1) := by decide +kernel
theorem dX3_there_3 : decode cX3_there 3 = .ok (.istore_n 3, 1) := by decide +kernel
theorem dX3_there_4 : decode cX3_there 4 = .ok (.iload_n 3, 1) := by decide +kernel
theorem dX3_there_5 : decode cX3_there 5 = .ok (.aload_n 0, 1) := by decide +kernel
theorem dX3_there_6 : decode cX3_there 6 = .ok (.getfield 35, 3) := by decide +kernel
theorem dX3_there_9 : decode cX3_there 9 = .ok (.if_icmp .ge 27, 3) := by decide +kernel
theorem dX3_there_12 : decode cX3_there 12 = .ok (.iload_n 2, 1) := by decide +kernel
theorem dX3_there_13 : decode cX3_there 13 = .ok (.aload_n 0, 1) := by decide +kernel
theorem dX3_there_14 : decode cX3_there 14 = .ok (.iload_n 3, 1) := by decide +kernel
theorem dX3_there_15 : decode cX3_there 15 = .ok (.iconst 5, 1) := by decide +kernel
theorem dX3_there_16 : decode cX3_there 16 = .ok (.invokevirtual 57, 3) := by decide +kernel
theorem dX3_there_19 : decode cX3_there 19 = .ok (.iload_n 1, 1) := by decide +kernel
theorem dX3_there_20 : decode cX3_there 20 = .ok (.if_icmp .ne 7, 3) := by decide +kernel
theorem dX3_there_23 : decode cX3_there 23 = .ok (.iconst 1, 1) := by decide +kernel
theorem dX3_there_24 : decode cX3_there 24 = .ok (.goto 4, 3) := by decide +kernel
theorem dX3_there_27 : decode cX3_there 27 = .ok (.iconst 0, 1) := by decide +kernel
theorem dX3_there_28 : decode cX3_there 28 = .ok (.iadd, 1) := by decide +kernel
theorem dX3_there_29 : decode cX3_there 29 = .ok (.istore_n 2, 1) := by decide +kernel
theorem dX3_there_30 : decode cX3_there 30 = .ok (.iinc 3 1, 3) := by decide +kernel
theorem dX3_there_33 : decode cX3_there 33 = .ok (.goto (-29), 3) := by decide +kernel
theorem dX3_there_36 : decode cX3_there 36 = .ok (.iload_n 2, 1) := by decide +kernel
theorem dX3_there_37 : decode cX3_there 37 = .ok (.ireturn, 1) := by decide +kernel
set_option maxRecDepth 20000 in
theorem ggX3_many_X3_of : GoodIn wsX3_many wsX3_of := goodIn_r _ [6, 7, 8, 9, 10, 11, 12, 13, 14, 15, 16, 17, 18, 19] (by decide +kernel) (by decide +kernel)
set_option maxRecDepth 20000 in
theorem gX3_many_X3_of : GoodIn wsX3_many (wsV RX3 57 RX3 yX3_of wsX3_of) := goodIn_app (goodIn_of _ (by decide +kernel)) ggX3_many_X3_of
theorem dX3_many_0 : decode cX3_many 0 = .ok (.iconst 0, 1) := by decide +kernel
theorem dX3_many_1 : decode cX3_many 1 = .ok (.istore_n 2, 1) := by decide +kernel
theorem dX3_many_2 : decode cX3_many 2 = .ok (.iconst 0, 1) := by decide +kernel
theorem dX3_many_3 : decode cX3_many 3 = .ok (.istore_n 3, 1) := by decide +kernel
theorem dX3_many_4 : decode cX3_many 4 = .ok (.iload_n 3, 1) := by decide +kernel
theorem dX3_many_5 : decode cX3_many 5 = .ok (.aload_n 0, 1) := by decide +kernel
theorem dX3_many_6 : decode cX3_many 6 = .ok (.getfield 35, 3) := by decide +kernel
theorem dX3_many_9 : decode cX3_many 9 = .ok (.if_icmp .ge 28, 3) := by decide +kernel
theorem dX3_many_12 : decode cX3_many 12 = .ok (.iload_n 2, 1) := by decide +kernel
theorem dX3_many_13 : decode cX3_many 13 = .ok (.aload_n 0, 1) := by decide +kernel
theorem dX3_many_14 : decode cX3_many 14 = .ok (.iload_n 3, 1) := by decide +kernel
theorem dX3_many_15 : decode cX3_many 15 = .ok (.bipush 6, 2) := by decide +kernel
theorem dX3_many_17 : decode cX3_many 17 = .ok (.invokevirtual 57, 3) := by decide +kernel
theorem dX3_many_20 : decode cX3_many 20 = .ok (.iload_n 1, 1) := by decide +kernel
theorem dX3_many_21 : decode cX3_many 21 = .ok (.if_icmp .ne 7, 3) := by decide +kernel
theorem dX3_many_24 : decode cX3_many 24 = .ok (.iconst 1, 1) := by decide +kernel
theorem dX3_many_25 : decode cX3_many 25 = .ok (.goto 4, 3) := by decide +kernel
theorem dX3_many_28 : decode cX3_many 28 = .ok (.iconst 0, 1) := by decide +kernel
theorem dX3_many_29 : decode cX3_many 29 = .ok (.iadd, 1) := by decide +kernel
theorem dX3_many_30 : decode cX3_many 30 = .ok (.istore_n 2, 1) := by decide +kernel
theorem dX3_many_31 : decode cX3_many 31 = .ok (.iinc 3 1, 3) := by decide +kernel
theorem dX3_many_34 : decode cX3_many 34 = .ok (.goto (-30), 3) := by decide +kernel
theorem dX3_many_37 : decode cX3_many 37 = .ok (.iload_n 2, 1) := by decide +kernel
theorem dX3_many_38 : decode cX3_many 38 = .ok (.ireturn, 1) := by decide +kernel
set_option maxRecDepth 20000 in
theorem ggX3_all_X3_of : GoodIn wsX3_all wsX3_of := goodIn_r _ [6, 7, 8, 9, 10, 11, 12, 13, 14, 15, 16, 17, 18, 19] (by decide +kernel) (by decide +kernel)
set_option maxRecDepth 20000 in
theorem gX3_all_X3_of : GoodIn wsX3_all (wsV RX3 57 RX3 yX3_of wsX3_of) := goodIn_app (goodIn_of _ (by decide +kernel)) ggX3_all_X3_of
theorem dX3_all_0 : decode cX3_all 0 = .ok (.iconst 0, 1) := by decide +kernel
theorem dX3_all_1 : decode cX3_all 1 = .ok (.istore_n 2, 1) := by decide +kernel
theorem dX3_all_2 : decode cX3_all 2 = .ok (.iconst 0, 1) := by decide +kernel
theorem dX3_all_3 : decode cX3_all 3 = .ok (.istore_n 3, 1) := by decide +kernel
theorem dX3_all_4 : decode cX3_all 4 = .ok (.iload_n 3, 1) := by decide +kernel
theorem dX3_all_5 : decode cX3_all 5 = .ok (.aload_n 0, 1) := by decide +kernel
theorem dX3_all_6 : decode cX3_all 6 = .ok (.getfield 35, 3) := by decide +kernel
theorem dX3_all_9 : decode cX3_all 9 = .ok (.if_icmp .ge 18, 3) := by decide +kernel
theorem dX3_all_12 : decode cX3_all 12 = .ok (.iload_n 2, 1) := by decide +kernel
theorem dX3_all_13 : decode cX3_all 13 = .ok (.aload_n 0, 1) := by decide +kernel
theorem dX3_all_14 : decode cX3_all 14 = .ok (.iload_n 3, 1) := by decide +kernel
theorem dX3_all_15 : decode cX3_all 15 = .ok (.iload_n 1, 1) := by decide +kernel
theorem dX3_all_16 : decode cX3_all 16 = .ok (.invokevirtual 57, 3) := by decide +kernel
theorem dX3_all_19 : decode cX3_all 19 = .ok (.iadd, 1) := by decide +kernel
theorem dX3_all_20 : decode cX3_all 20 = .ok (.istore_n 2, 1) := by decide +kernel
theorem dX3_all_21 : decode cX3_all 21 = .ok (.iinc 3 1, 3) := by decide +kernel
theorem dX3_all_24 : decode cX3_all 24 = .ok (.goto (-20), 3) := by decide +kernel
theorem dX3_all_27 : decode cX3_all 27 = .ok (.iload_n 2, 1) := by decide +kernel
theorem dX3_all_28 : decode cX3_all 28 = .ok (.ireturn, 1) := by decide +kernel
set_option maxRecDepth 20000 in
theorem ggX3_fire_X3_combers : GoodIn wsX3_fire wsX3_combers := goodIn_r _ [14, 15, 16, 17, 18, 13, 19, 20, 21, 22, 23, 24, 25, 26, 27, 28, 29, 30, 31, 32, 33, 34, 35, 36] (by decide +kernel) (by decide +kernel)
set_option maxRecDepth 20000 in
theorem gX3_fire_X3_combers : GoodIn wsX3_fire (wsV RX3 65 RX3 yX3_combers wsX3_combers) := goodIn_app (goodIn_of _ (by decide +kernel)) ggX3_fire_X3_combers
theorem dX3_fire_0 : decode cX3_fire 0 = .ok (.iconst 0, 1) := by decide +kernel
theorem dX3_fire_1 : decode cX3_fire 1 = .ok (.istore_n 1, 1) := by decide +kernel
theorem dX3_fire_2 : decode cX3_fire 2 = .ok (.iload_n 1, 1) := by decide +kernel
theorem dX3_fire_3 : decode cX3_fire 3 = .ok (.iconst 3, 1) := by decide +kernel
theorem dX3_fire_4 : decode cX3_fire 4 = .ok (.if_icmp .ge 86, 3) := by decide +kernel
theorem dX3_fire_7 : decode cX3_fire 7 = .ok (.aload_n 0, 1) := by decide +kernel
theorem dX3_fire_8 : decode cX3_fire 8 = .ok (.iload_n 1, 1) := by decide +kernel
theorem dX3_fire_9 : decode cX3_fire 9 = .ok (.invokevirtual 65, 3) := by decide +kernel
theorem dX3_fire_12 : decode cX3_fire 12 = .ok (.ifCond .le 14, 3) := by decide +kernel
theorem dX3_fire_15 : decode cX3_fire 15 = .ok (.aload_n 0, 1) := by decide +kernel
theorem dX3_fire_16 : decode cX3_fire 16 = .ok (.getfield 19, 3) := by decide +kernel
theorem dX3_fire_19 : decode cX3_fire 19 = .ok (.ifCond .le 7, 3) := by decide +kernel
theorem dX3_fire_22 : decode cX3_fire 22 = .ok (.iconst 1, 1) := by decide +kernel
theorem dX3_fire_23 : decode cX3_fire 23 = .ok (.goto 4, 3) := by decide +kernel
theorem dX3_fire_26 : decode cX3_fire 26 = .ok (.iconst 0, 1) := by decide +kernel
theorem dX3_fire_27 : decode cX3_fire 27 = .ok (.istore_n 2, 1) := by decide +kernel
theorem dX3_fire_28 : decode cX3_fire 28 = .ok (.aload_n 0, 1) := by decide +kernel
theorem dX3_fire_29 : decode cX3_fire 29 = .ok (.dup, 1) := by decide +kernel
theorem dX3_fire_30 : decode cX3_fire 30 = .ok (.getfield 19, 3) := by decide +kernel
theorem dX3_fire_33 : decode cX3_fire 33 = .ok (.iload_n 2, 1) := by decide +kernel
theorem dX3_fire_34 : decode cX3_fire 34 = .ok (.ifCond .eq 7, 3) := by decide +kernel
theorem dX3_fire_37 : decode cX3_fire 37 = .ok (.iconst 1, 1) := by decide +kernel
theorem dX3_fire_38 : decode cX3_fire 38 = .ok (.goto 4, 3) := by decide +kernel
theorem dX3_fire_41 : decode cX3_fire 41 = .ok (.iconst 0, 1) := by decide +kernel
theorem dX3_fire_42 : decode cX3_fire 42 = .ok (.isub, 1) := by decide +kernel
theorem dX3_fire_43 : decode cX3_fire 43 = .ok (.putfield 19, 3) := by decide +kernel
theorem dX3_fire_46 : decode cX3_fire 46 = .ok (.aload_n 0, 1) := by decide +kernel
theorem dX3_fire_47 : decode cX3_fire 47 = .ok (.getfield 25, 3) := by decide +kernel
theorem dX3_fire_50 : decode cX3_fire 50 = .ok (.iload_n 1, 1) := by decide +kernel
theorem dX3_fire_51 : decode cX3_fire 51 = .ok (.iload_n 2, 1) := by decide +kernel
theorem dX3_fire_52 : decode cX3_fire 52 = .ok (.ifCond .eq 19, 3) := by decide +kernel
theorem dX3_fire_55 : decode cX3_fire 55 = .ok (.bipush 9, 2) := by decide +kernel
theorem dX3_fire_57 : decode cX3_fire 57 = .ok (.aload_n 0, 1) := by decide +kernel
theorem dX3_fire_58 : decode cX3_fire 58 = .ok (.getfield 25, 3) := by decide +kernel
theorem dX3_fire_61 : decode cX3_fire 61 = .ok (.iload_n 1, 1) := by decide +kernel
theorem dX3_fire_62 : decode cX3_fire 62 = .ok (.iaload, 1) := by decide +kernel
theorem dX3_fire_63 : decode cX3_fire 63 = .ok (.iconst 3, 1) := by decide +kernel
theorem dX3_fire_64 : decode cX3_fire 64 = .ok (.iadd, 1) := by decide +kernel
theorem dX3_fire_65 : decode cX3_fire 65 = .ok (.invokestatic 69, 3) := by decide +kernel
theorem dX3_fire_68 : decode cX3_fire 68 = .ok (.goto 15, 3) := by decide +kernel
theorem dX3_fire_71 : decode cX3_fire 71 = .ok (.iconst 0, 1) := by decide +kernel
theorem dX3_fire_72 : decode cX3_fire 72 = .ok (.aload_n 0, 1) := by decide +kernel
theorem dX3_fire_73 : decode cX3_fire 73 = .ok (.getfield 25, 3) := by decide +kernel
theorem dX3_fire_76 : decode cX3_fire 76 = .ok (.iload_n 1, 1) := by decide +kernel
theorem dX3_fire_77 : decode cX3_fire 77 = .ok (.iaload, 1) := by decide +kernel
theorem dX3_fire_78 : decode cX3_fire 78 = .ok (.iconst 2, 1) := by decide +kernel
theorem dX3_fire_79 : decode cX3_fire 79 = .ok (.isub, 1) := by decide +kernel
theorem dX3_fire_80 : decode cX3_fire 80 = .ok (.invokestatic 74, 3) := by decide +kernel
theorem dX3_fire_83 : decode cX3_fire 83 = .ok (.iastore, 1) := by decide +kernel
theorem dX3_fire_84 : decode cX3_fire 84 = .ok (.iinc 1 1, 3) := by decide +kernel
theorem dX3_fire_87 : decode cX3_fire 87 = .ok (.goto (-85), 3) := by decide +kernel
theorem dX3_fire_90 : decode cX3_fire 90 = .ok (.return_, 1) := by decide +kernel
set_option maxRecDepth 20000 in
theorem ggX3_pounds_X3_of : GoodIn wsX3_pounds wsX3_of := goodIn_r _ [10, 11, 21, 22, 23, 24, 25, 26, 27, 28, 29, 30, 31, 32] (by decide +kernel) (by decide +kernel)
set_option maxRecDepth 20000 in
theorem gX3_pounds_X3_of : GoodIn wsX3_pounds (wsV RX3 57 RX3 yX3_of wsX3_of) := goodIn_app (goodIn_of _ (by decide +kernel)) ggX3_pounds_X3_of
set_option maxRecDepth 20000 in
theorem ggX3_pounds_X3_combers : GoodIn wsX3_pounds wsX3_combers := goodIn_r _ [15, 16, 17, 18, 19, 9, 20, 6, 7, 8, 10, 11, 21, 22, 23, 24, 25, 26, 27, 28, 29, 30, 31, 32] (by decide +kernel) (by decide +kernel)
set_option maxRecDepth 20000 in
theorem gX3_pounds_X3_combers : GoodIn wsX3_pounds (wsV RX3 65 RX3 yX3_combers wsX3_combers) := goodIn_app (goodIn_of _ (by decide +kernel)) ggX3_pounds_X3_combers
theorem dX3_pounds_0 : decode cX3_pounds 0 = .ok (.aload_n 0, 1) := by decide +kernel
theorem dX3_pounds_1 : decode cX3_pounds 1 = .ok (.iload_n 1, 1) := by decide +kernel
theorem dX3_pounds_2 : decode cX3_pounds 2 = .ok (.iconst 5, 1) := by decide +kernel
theorem dX3_pounds_3 : decode cX3_pounds 3 = .ok (.invokevirtual 57, 3) := by decide +kernel
theorem dX3_pounds_6 : decode cX3_pounds 6 = .ok (.istore_n 2, 1) := by decide +kernel
theorem dX3_pounds_7 : decode cX3_pounds 7 = .ok (.iconst 0, 1) := by decide +kernel
theorem dX3_pounds_8 : decode cX3_pounds 8 = .ok (.aload_n 0, 1) := by decide +kernel
theorem dX3_pounds_9 : decode cX3_pounds 9 = .ok (.iload_n 1, 1) := by decide +kernel
theorem dX3_pounds_10 : decode cX3_pounds 10 = .ok (.iconst 0, 1) := by decide +kernel
theorem dX3_pounds_11 : decode cX3_pounds 11 = .ok (.invokevirtual 57, 3) := by decide +kernel
theorem dX3_pounds_14 : decode cX3_pounds 14 = .ok (.aload_n 0, 1) := by decide +kernel
theorem dX3_pounds_15 : decode cX3_pounds 15 = .ok (.getfield 25, 3) := by decide +kernel
theorem dX3_pounds_18 : decode cX3_pounds 18 = .ok (.iload_n 2, 1) := by decide +kernel
theorem dX3_pounds_19 : decode cX3_pounds 19 = .ok (.iaload, 1) := by decide +kernel
theorem dX3_pounds_20 : decode cX3_pounds 20 = .ok (.iadd, 1) := by decide +kernel
theorem dX3_pounds_21 : decode cX3_pounds 21 = .ok (.iconst 2, 1) := by decide +kernel
theorem dX3_pounds_22 : decode cX3_pounds 22 = .ok (.iconst 0, 1) := by decide +kernel
theorem dX3_pounds_23 : decode cX3_pounds 23 = .ok (.aload_n 0, 1) := by decide +kernel
theorem dX3_pounds_24 : decode cX3_pounds 24 = .ok (.iload_n 2, 1) := by decide +kernel
theorem dX3_pounds_25 : decode cX3_pounds 25 = .ok (.invokevirtual 65, 3) := by decide +kernel
theorem dX3_pounds_28 : decode cX3_pounds 28 = .ok (.iconst 2, 1) := by decide +kernel
theorem dX3_pounds_29 : decode cX3_pounds 29 = .ok (.isub, 1) := by decide +kernel
theorem dX3_pounds_30 : decode cX3_pounds 30 = .ok (.invokestatic 74, 3) := by decide +kernel
end
section
theorem dX3_pounds_33 : decode cX3_pounds 33 = .ok (.imul, 1) := by decide +kernel
theorem dX3_pounds_34 : decode cX3_pounds 34 = .ok (.isub, 1) := by decide +kernel
theorem dX3_pounds_35 : decode cX3_pounds 35 = .ok (.invokestatic 74, 3) := by decide +kernel
theorem dX3_pounds_38 : decode cX3_pounds 38 = .ok (.ireturn, 1) := by decide +kernel
set_option maxRecDepth 20000 in
theorem ggX3_comb_X3_combs : GoodIn wsX3_comb wsX3_combs := goodIn_r _ [12, 13, 14, 15, 11, 16, 17, 34, 35, 36, 37, 38, 39, 40, 41, 42, 43, 44, 45] (by decide +kernel) (by decide +kernel)
set_option maxRecDepth 20000 in
theorem gX3_comb_X3_combs : GoodIn wsX3_comb (wsV RX3 61 RX3 yX3_combs wsX3_combs) := goodIn_app (goodIn_of _ (by decide +kernel)) ggX3_comb_X3_combs
set_option maxRecDepth 20000 in
theorem ggX3_comb_X3_pounds : GoodIn wsX3_comb wsX3_pounds := goodIn_r _ [21, 22, 23, 24, 5, 25, 13, 14, 15, 11, 16, 17, 26, 27, 28, 29, 1, 8, 9, 10, 12, 34, 35, 36, 37, 38, 39, 40, 41, 42, 43, 44, 45] (by decide +kernel) (by decide +kernel)
set_option maxRecDepth 20000 in
theorem gX3_comb_X3_pounds : GoodIn wsX3_comb (wsV RX3 77 RX3 yX3_pounds wsX3_pounds) := goodIn_app (goodIn_of _ (by decide +kernel)) ggX3_comb_X3_pounds
set_option maxRecDepth 20000 in
theorem ggX3_comb_X3_of : GoodIn wsX3_comb wsX3_of := goodIn_r _ [16, 17, 34, 35, 36, 37, 38, 39, 40, 41, 42, 43, 44, 45] (by decide +kernel) (by decide +kernel)
set_option maxRecDepth 20000 in
theorem gX3_comb_X3_of : GoodIn wsX3_comb (wsV RX3 57 RX3 yX3_of wsX3_of) := goodIn_app (goodIn_of _ (by decide +kernel)) ggX3_comb_X3_of
set_option maxRecDepth 20000 in
theorem ggX3_comb_X3_set : GoodIn wsX3_comb wsX3_set := goodIn_r _ [33, 17, 34, 35, 36, 37, 38, 39, 40, 41, 42, 43, 44, 45] (by decide +kernel) (by decide +kernel)
set_option maxRecDepth 20000 in
theorem gX3_comb_X3_set : GoodIn wsX3_comb (wsV RX3 80 RX3 yX3_set wsX3_set) := goodIn_app (goodIn_of _ (by decide +kernel)) ggX3_comb_X3_set
theorem dX3_comb_0 : decode cX3_comb 0 = .ok (.iconst 0, 1) := by decide +kernel
theorem dX3_comb_1 : decode cX3_comb 1 = .ok (.istore_n 1, 1) := by decide +kernel
theorem dX3_comb_2 : decode cX3_comb 2 = .ok (.iload_n 1, 1) := by decide +kernel
theorem dX3_comb_3 : decode cX3_comb 3 = .ok (.aload_n 0, 1) := by decide +kernel
theorem dX3_comb_4 : decode cX3_comb 4 = .ok (.getfield 35, 3) := by decide +kernel
theorem dX3_comb_7 : decode cX3_comb 7 = .ok (.if_icmp .ge 69, 3) := by decide +kernel
theorem dX3_comb_10 : decode cX3_comb 10 = .ok (.aload_n 0, 1) := by decide +kernel
theorem dX3_comb_11 : decode cX3_comb 11 = .ok (.iload_n 1, 1) := by decide +kernel
theorem dX3_comb_12 : decode cX3_comb 12 = .ok (.invokevirtual 61, 3) := by decide +kernel
theorem dX3_comb_15 : decode cX3_comb 15 = .ok (.ifCond .ne 6, 3) := by decide +kernel
theorem dX3_comb_18 : decode cX3_comb 18 = .ok (.goto 52, 3) := by decide +kernel
theorem dX3_comb_21 : decode cX3_comb 21 = .ok (.aload_n 0, 1) := by decide +kernel
theorem dX3_comb_22 : decode cX3_comb 22 = .ok (.getfield 22, 3) := by decide +kernel
theorem dX3_comb_25 : decode cX3_comb 25 = .ok (.aload_n 0, 1) := by decide +kernel
theorem dX3_comb_26 : decode cX3_comb 26 = .ok (.iload_n 1, 1) := by decide +kernel
theorem dX3_comb_27 : decode cX3_comb 27 = .ok (.invokevirtual 77, 3) := by decide +kernel
theorem dX3_comb_30 : decode cX3_comb 30 = .ok (.invokestatic 69, 3) := by decide +kernel
theorem dX3_comb_33 : decode cX3_comb 33 = .ok (.istore_n 2, 1) := by decide +kernel
theorem dX3_comb_34 : decode cX3_comb 34 = .ok (.aload_n 0, 1) := by decide +kernel
theorem dX3_comb_35 : decode cX3_comb 35 = .ok (.dup, 1) := by decide +kernel
theorem dX3_comb_36 : decode cX3_comb 36 = .ok (.getfield 22, 3) := by decide +kernel
theorem dX3_comb_39 : decode cX3_comb 39 = .ok (.iload_n 2, 1) := by decide +kernel
theorem dX3_comb_40 : decode cX3_comb 40 = .ok (.isub, 1) := by decide +kernel
theorem dX3_comb_41 : decode cX3_comb 41 = .ok (.putfield 22, 3) := by decide +kernel
theorem dX3_comb_44 : decode cX3_comb 44 = .ok (.aload_n 0, 1) := by decide +kernel
theorem dX3_comb_45 : decode cX3_comb 45 = .ok (.dup, 1) := by decide +kernel
theorem dX3_comb_46 : decode cX3_comb 46 = .ok (.getfield 38, 3) := by decide +kernel
theorem dX3_comb_49 : decode cX3_comb 49 = .ok (.iload_n 2, 1) := by decide +kernel
theorem dX3_comb_50 : decode cX3_comb 50 = .ok (.iadd, 1) := by decide +kernel
theorem dX3_comb_51 : decode cX3_comb 51 = .ok (.putfield 38, 3) := by decide +kernel
theorem dX3_comb_54 : decode cX3_comb 54 = .ok (.aload_n 0, 1) := by decide +kernel
theorem dX3_comb_55 : decode cX3_comb 55 = .ok (.iload_n 1, 1) := by decide +kernel
theorem dX3_comb_56 : decode cX3_comb 56 = .ok (.iconst 2, 1) := by decide +kernel
theorem dX3_comb_57 : decode cX3_comb 57 = .ok (.aload_n 0, 1) := by decide +kernel
theorem dX3_comb_58 : decode cX3_comb 58 = .ok (.iload_n 1, 1) := by decide +kernel
theorem dX3_comb_59 : decode cX3_comb 59 = .ok (.iconst 2, 1) := by decide +kernel
theorem dX3_comb_60 : decode cX3_comb 60 = .ok (.invokevirtual 57, 3) := by decide +kernel
theorem dX3_comb_63 : decode cX3_comb 63 = .ok (.iload_n 2, 1) := by decide +kernel
theorem dX3_comb_64 : decode cX3_comb 64 = .ok (.iconst 2, 1) := by decide +kernel
theorem dX3_comb_65 : decode cX3_comb 65 = .ok (.idiv, 1) := by decide +kernel
theorem dX3_comb_66 : decode cX3_comb 66 = .ok (.iadd, 1) := by decide +kernel
theorem dX3_comb_67 : decode cX3_comb 67 = .ok (.invokevirtual 80, 3) := by decide +kernel
theorem dX3_comb_70 : decode cX3_comb 70 = .ok (.iinc 1 1, 3) := by decide +kernel
theorem dX3_comb_73 : decode cX3_comb 73 = .ok (.goto (-71), 3) := by decide +kernel
theorem dX3_comb_76 : decode cX3_comb 76 = .ok (.return_, 1) := by decide +kernel
set_option maxRecDepth 20000 in
theorem ggX3_fever_X3_combs : GoodIn wsX3_fever wsX3_combs := goodIn_r _ [8, 9, 10, 11, 7, 12, 13, 18, 19, 20, 21, 22, 23, 24, 25, 26, 27, 28, 29] (by decide +kernel) (by decide +kernel)
set_option maxRecDepth 20000 in
theorem gX3_fever_X3_combs : GoodIn wsX3_fever (wsV RX3 61 RX3 yX3_combs wsX3_combs) := goodIn_app (goodIn_of _ (by decide +kernel)) ggX3_fever_X3_combs
set_option maxRecDepth 20000 in
theorem ggX3_fever_X3_of : GoodIn wsX3_fever wsX3_of := goodIn_r _ [12, 13, 18, 19, 20, 21, 22, 23, 24, 25, 26, 27, 28, 29] (by decide +kernel) (by decide +kernel)
set_option maxRecDepth 20000 in
theorem gX3_fever_X3_of : GoodIn wsX3_fever (wsV RX3 57 RX3 yX3_of wsX3_of) := goodIn_app (goodIn_of _ (by decide +kernel)) ggX3_fever_X3_of
set_option maxRecDepth 20000 in
theorem ggX3_fever_X3_set : GoodIn wsX3_fever wsX3_set := goodIn_r _ [17, 13, 18, 19, 20, 21, 22, 23, 24, 25, 26, 27, 28, 29] (by decide +kernel) (by decide +kernel)
set_option maxRecDepth 20000 in
theorem gX3_fever_X3_set : GoodIn wsX3_fever (wsV RX3 80 RX3 yX3_set wsX3_set) := goodIn_app (goodIn_of _ (by decide +kernel)) ggX3_fever_X3_set
theorem dX3_fever_0 : decode cX3_fever 0 = .ok (.aload_n 0, 1) := by decide +kernel
theorem dX3_fever_1 : decode cX3_fever 1 = .ok (.getfield 3, 3) := by decide +kernel
theorem dX3_fever_4 : decode cX3_fever 4 = .ok (.getfield 84, 3) := by decide +kernel
theorem dX3_fever_7 : decode cX3_fever 7 = .ok (.aload_n 0, 1) := by decide +kernel
theorem dX3_fever_8 : decode cX3_fever 8 = .ok (.getfield 32, 3) := by decide +kernel
theorem dX3_fever_11 : decode cX3_fever 11 = .ok (.bipush 8, 2) := by decide +kernel
theorem dX3_fever_13 : decode cX3_fever 13 = .ok (.irem, 1) := by decide +kernel
theorem dX3_fever_14 : decode cX3_fever 14 = .ok (.iaload, 1) := by decide +kernel
theorem dX3_fever_15 : decode cX3_fever 15 = .ok (.istore_n 1, 1) := by decide +kernel
theorem dX3_fever_16 : decode cX3_fever 16 = .ok (.iconst 0, 1) := by decide +kernel
theorem dX3_fever_17 : decode cX3_fever 17 = .ok (.istore_n 2, 1) := by decide +kernel
theorem dX3_fever_18 : decode cX3_fever 18 = .ok (.iload_n 2, 1) := by decide +kernel
theorem dX3_fever_19 : decode cX3_fever 19 = .ok (.aload_n 0, 1) := by decide +kernel
theorem dX3_fever_20 : decode cX3_fever 20 = .ok (.getfield 35, 3) := by decide +kernel
theorem dX3_fever_23 : decode cX3_fever 23 = .ok (.if_icmp .ge 69, 3) := by decide +kernel
theorem dX3_fever_26 : decode cX3_fever 26 = .ok (.iload_n 1, 1) := by decide +kernel
theorem dX3_fever_27 : decode cX3_fever 27 = .ok (.iconst (-1), 1) := by decide +kernel
theorem dX3_fever_28 : decode cX3_fever 28 = .ok (.if_icmp .eq 58, 3) := by decide +kernel
theorem dX3_fever_31 : decode cX3_fever 31 = .ok (.aload_n 0, 1) := by decide +kernel
theorem dX3_fever_32 : decode cX3_fever 32 = .ok (.iload_n 2, 1) := by decide +kernel
theorem dX3_fever_33 : decode cX3_fever 33 = .ok (.invokevirtual 61, 3) := by decide +kernel
theorem dX3_fever_36 : decode cX3_fever 36 = .ok (.ifCond .eq 50, 3) := by decide +kernel
theorem dX3_fever_39 : decode cX3_fever 39 = .ok (.aload_n 0, 1) := by decide +kernel
theorem dX3_fever_40 : decode cX3_fever 40 = .ok (.iload_n 2, 1) := by decide +kernel
theorem dX3_fever_41 : decode cX3_fever 41 = .ok (.iconst 5, 1) := by decide +kernel
theorem dX3_fever_42 : decode cX3_fever 42 = .ok (.invokevirtual 57, 3) := by decide +kernel
theorem dX3_fever_45 : decode cX3_fever 45 = .ok (.iload_n 1, 1) := by decide +kernel
theorem dX3_fever_46 : decode cX3_fever 46 = .ok (.if_icmp .eq 6, 3) := by decide +kernel
theorem dX3_fever_49 : decode cX3_fever 49 = .ok (.goto 37, 3) := by decide +kernel
theorem dX3_fever_52 : decode cX3_fever 52 = .ok (.aload_n 0, 1) := by decide +kernel
theorem dX3_fever_53 : decode cX3_fever 53 = .ok (.iload_n 2, 1) := by decide +kernel
theorem dX3_fever_54 : decode cX3_fever 54 = .ok (.bipush 6, 2) := by decide +kernel
theorem dX3_fever_56 : decode cX3_fever 56 = .ok (.iconst 1, 1) := by decide +kernel
theorem dX3_fever_57 : decode cX3_fever 57 = .ok (.invokevirtual 80, 3) := by decide +kernel
theorem dX3_fever_60 : decode cX3_fever 60 = .ok (.aload_n 0, 1) := by decide +kernel
theorem dX3_fever_61 : decode cX3_fever 61 = .ok (.iload_n 2, 1) := by decide +kernel
theorem dX3_fever_62 : decode cX3_fever 62 = .ok (.bipush 7, 2) := by decide +kernel
theorem dX3_fever_64 : decode cX3_fever 64 = .ok (.bipush 6, 2) := by decide +kernel
theorem dX3_fever_66 : decode cX3_fever 66 = .ok (.aload_n 0, 1) := by decide +kernel
theorem dX3_fever_67 : decode cX3_fever 67 = .ok (.iload_n 2, 1) := by decide +kernel
theorem dX3_fever_68 : decode cX3_fever 68 = .ok (.iconst 1, 1) := by decide +kernel
theorem dX3_fever_69 : decode cX3_fever 69 = .ok (.invokevirtual 57, 3) := by decide +kernel
theorem dX3_fever_72 : decode cX3_fever 72 = .ok (.iconst 4, 1) := by decide +kernel
theorem dX3_fever_73 : decode cX3_fever 73 = .ok (.idiv, 1) := by decide +kernel
theorem dX3_fever_74 : decode cX3_fever 74 = .ok (.isub, 1) := by decide +kernel
theorem dX3_fever_75 : decode cX3_fever 75 = .ok (.invokevirtual 80, 3) := by decide +kernel
theorem dX3_fever_78 : decode cX3_fever 78 = .ok (.aload_n 0, 1) := by decide +kernel
theorem dX3_fever_79 : decode cX3_fever 79 = .ok (.iload_n 2, 1) := by decide +kernel
theorem dX3_fever_80 : decode cX3_fever 80 = .ok (.bipush 8, 2) := by decide +kernel
theorem dX3_fever_82 : decode cX3_fever 82 = .ok (.iconst 0, 1) := by decide +kernel
theorem dX3_fever_83 : decode cX3_fever 83 = .ok (.invokevirtual 80, 3) := by decide +kernel
theorem dX3_fever_86 : decode cX3_fever 86 = .ok (.iinc 2 1, 3) := by decide +kernel
theorem dX3_fever_89 : decode cX3_fever 89 = .ok (.goto (-71), 3) := by decide +kernel
theorem dX3_fever_92 : decode cX3_fever 92 = .ok (.return_, 1) := by decide +kernel
set_option maxRecDepth 20000 in
theorem ggX3_heal_X3_set : GoodIn wsX3_heal wsX3_set := goodIn_r _ [5, 6, 7, 8, 9, 10, 11, 12, 13, 14, 15, 16, 17, 18] (by decide +kernel) (by decide +kernel)
set_option maxRecDepth 20000 in
theorem gX3_heal_X3_set : GoodIn wsX3_heal (wsV RX3 80 RX3 yX3_set wsX3_set) := goodIn_app (goodIn_of _ (by decide +kernel)) ggX3_heal_X3_set
theorem dX3_heal_0 : decode cX3_heal 0 = .ok (.aload_n 0, 1) := by decide +kernel
theorem dX3_heal_1 : decode cX3_heal 1 = .ok (.iload_n 1, 1) := by decide +kernel
theorem dX3_heal_2 : decode cX3_heal 2 = .ok (.bipush 6, 2) := by decide +kernel
theorem dX3_heal_4 : decode cX3_heal 4 = .ok (.iload_n 2, 1) := by decide +kernel
theorem dX3_heal_5 : decode cX3_heal 5 = .ok (.invokevirtual 80, 3) := by decide +kernel
theorem dX3_heal_8 : decode cX3_heal 8 = .ok (.aload_n 0, 1) := by decide +kernel
theorem dX3_heal_9 : decode cX3_heal 9 = .ok (.iload_n 1, 1) := by decide +kernel
theorem dX3_heal_10 : decode cX3_heal 10 = .ok (.bipush 7, 2) := by decide +kernel
theorem dX3_heal_12 : decode cX3_heal 12 = .ok (.iconst 0, 1) := by decide +kernel
theorem dX3_heal_13 : decode cX3_heal 13 = .ok (.invokevirtual 80, 3) := by decide +kernel
theorem dX3_heal_16 : decode cX3_heal 16 = .ok (.aload_n 0, 1) := by decide +kernel
theorem dX3_heal_17 : decode cX3_heal 17 = .ok (.iload_n 1, 1) := by decide +kernel
theorem dX3_heal_18 : decode cX3_heal 18 = .ok (.bipush 8, 2) := by decide +kernel
theorem dX3_heal_20 : decode cX3_heal 20 = .ok (.iconst 0, 1) := by decide +kernel
theorem dX3_heal_21 : decode cX3_heal 21 = .ok (.invokevirtual 80, 3) := by decide +kernel
theorem dX3_heal_24 : decode cX3_heal 24 = .ok (.iload_n 2, 1) := by decide +kernel
theorem dX3_heal_25 : decode cX3_heal 25 = .ok (.ifCond .ne 4, 3) := by decide +kernel
theorem dX3_heal_28 : decode cX3_heal 28 = .ok (.return_, 1) := by decide +kernel
theorem dX3_heal_29 : decode cX3_heal 29 = .ok (.aload_n 0, 1) := by decide +kernel
theorem dX3_heal_30 : decode cX3_heal 30 = .ok (.iload_n 1, 1) := by decide +kernel
theorem dX3_heal_31 : decode cX3_heal 31 = .ok (.iconst 5, 1) := by decide +kernel
theorem dX3_heal_32 : decode cX3_heal 32 = .ok (.iconst (-1), 1) := by decide +kernel
theorem dX3_heal_33 : decode cX3_heal 33 = .ok (.invokevirtual 80, 3) := by decide +kernel
theorem dX3_heal_36 : decode cX3_heal 36 = .ok (.aload_n 0, 1) := by decide +kernel
theorem dX3_heal_37 : decode cX3_heal 37 = .ok (.iload_n 1, 1) := by decide +kernel
theorem dX3_heal_38 : decode cX3_heal 38 = .ok (.iconst 4, 1) := by decide +kernel
theorem dX3_heal_39 : decode cX3_heal 39 = .ok (.iconst 0, 1) := by decide +kernel
theorem dX3_heal_40 : decode cX3_heal 40 = .ok (.invokevirtual 80, 3) := by decide +kernel
theorem dX3_heal_43 : decode cX3_heal 43 = .ok (.aload_n 0, 1) := by decide +kernel
theorem dX3_heal_44 : decode cX3_heal 44 = .ok (.iload_n 1, 1) := by decide +kernel
theorem dX3_heal_45 : decode cX3_heal 45 = .ok (.iconst 3, 1) := by decide +kernel
theorem dX3_heal_46 : decode cX3_heal 46 = .ok (.iconst 0, 1) := by decide +kernel
theorem dX3_heal_47 : decode cX3_heal 47 = .ok (.invokevirtual 80, 3) := by decide +kernel
theorem dX3_heal_50 : decode cX3_heal 50 = .ok (.return_, 1) := by decide +kernel
theorem dX3_pay_0 : decode cX3_pay 0 = .ok (.aload_n 0, 1) := by decide +kernel
theorem dX3_pay_1 : decode cX3_pay 1 = .ok (.getfield 15, 3) := by decide +kernel
theorem dX3_pay_4 : decode cX3_pay 4 = .ok (.iload_n 1, 1) := by decide +kernel
theorem dX3_pay_5 : decode cX3_pay 5 = .ok (.invokestatic 69, 3) := by decide +kernel
theorem dX3_pay_8 : decode cX3_pay 8 = .ok (.istore_n 2, 1) := by decide +kernel
theorem dX3_pay_9 : decode cX3_pay 9 = .ok (.iload_n 2, 1) := by decide +kernel
theorem dX3_pay_10 : decode cX3_pay 10 = .ok (.iload_n 1, 1) := by decide +kernel
theorem dX3_pay_11 : decode cX3_pay 11 = .ok (.if_icmp .ge 8, 3) := by decide +kernel
theorem dX3_pay_14 : decode cX3_pay 14 = .ok (.aload_n 0, 1) := by decide +kernel
theorem dX3_pay_15 : decode cX3_pay 15 = .ok (.iconst 1, 1) := by decide +kernel
theorem dX3_pay_16 : decode cX3_pay 16 = .ok (.putfield 47, 3) := by decide +kernel
theorem dX3_pay_19 : decode cX3_pay 19 = .ok (.aload_n 0, 1) := by decide +kernel
theorem dX3_pay_20 : decode cX3_pay 20 = .ok (.dup, 1) := by decide +kernel
theorem dX3_pay_21 : decode cX3_pay 21 = .ok (.getfield 15, 3) := by decide +kernel
theorem dX3_pay_24 : decode cX3_pay 24 = .ok (.iload_n 2, 1) := by decide +kernel
theorem dX3_pay_25 : decode cX3_pay 25 = .ok (.isub, 1) := by decide +kernel
theorem dX3_pay_26 : decode cX3_pay 26 = .ok (.putfield 15, 3) := by decide +kernel
theorem dX3_pay_29 : decode cX3_pay 29 = .ok (.iload_n 2, 1) := by decide +kernel
theorem dX3_pay_30 : decode cX3_pay 30 = .ok (.ireturn, 1) := by decide +kernel
set_option maxRecDepth 20000 in
theorem ggX3_nurse_X3_of : GoodIn wsX3_nurse wsX3_of := goodIn_r _ [6, 7, 26, 27, 28, 29, 30, 31, 32, 33, 34, 35, 36, 37] (by decide +kernel) (by decide +kernel)
set_option maxRecDepth 20000 in
theorem gX3_nurse_X3_of : GoodIn wsX3_nurse (wsV RX3 57 RX3 yX3_of wsX3_of) := goodIn_app (goodIn_of _ (by decide +kernel)) ggX3_nurse_X3_of
set_option maxRecDepth 20000 in
theorem ggX3_nurse_X3_set : GoodIn wsX3_nurse wsX3_set := goodIn_r _ [11, 7, 26, 27, 28, 29, 30, 31, 32, 33, 34, 35, 36, 37] (by decide +kernel) (by decide +kernel)
set_option maxRecDepth 20000 in
theorem gX3_nurse_X3_set : GoodIn wsX3_nurse (wsV RX3 80 RX3 yX3_set wsX3_set) := goodIn_app (goodIn_of _ (by decide +kernel)) ggX3_nurse_X3_set
set_option maxRecDepth 20000 in
theorem ggX3_nurse_X3_heal : GoodIn wsX3_nurse wsX3_heal := goodIn_r _ [15, 8, 9, 10, 5, 11, 7, 26, 27, 28, 29, 30, 31, 32, 33, 34, 35, 36, 37] (by decide +kernel) (by decide +kernel)
set_option maxRecDepth 20000 in
theorem gX3_nurse_X3_heal : GoodIn wsX3_nurse (wsV RX3 87 RX3 yX3_heal wsX3_heal) := goodIn_app (goodIn_of _ (by decide +kernel)) ggX3_nurse_X3_heal
set_option maxRecDepth 20000 in
theorem ggX3_nurse_X3_pay : GoodIn wsX3_nurse wsX3_pay := goodIn_r _ [19, 20, 21, 22, 23, 24, 25, 26, 27, 28, 29, 30, 31, 32, 33, 34, 35, 36, 37] (by decide +kernel) (by decide +kernel)
set_option maxRecDepth 20000 in
theorem gX3_nurse_X3_pay : GoodIn wsX3_nurse (wsV RX3 91 RX3 yX3_pay wsX3_pay) := goodIn_app (goodIn_of _ (by decide +kernel)) ggX3_nurse_X3_pay
theorem dX3_nurse_0 : decode cX3_nurse 0 = .ok (.aload_n 0, 1) := by decide +kernel
theorem dX3_nurse_1 : decode cX3_nurse 1 = .ok (.iload_n 1, 1) := by decide +kernel
theorem dX3_nurse_2 : decode cX3_nurse 2 = .ok (.iconst 1, 1) := by decide +kernel
theorem dX3_nurse_3 : decode cX3_nurse 3 = .ok (.aload_n 0, 1) := by decide +kernel
theorem dX3_nurse_4 : decode cX3_nurse 4 = .ok (.iload_n 1, 1) := by decide +kernel
theorem dX3_nurse_5 : decode cX3_nurse 5 = .ok (.iconst 1, 1) := by decide +kernel
theorem dX3_nurse_6 : decode cX3_nurse 6 = .ok (.invokevirtual 57, 3) := by decide +kernel
theorem dX3_nurse_9 : decode cX3_nurse 9 = .ok (.iconst 1, 1) := by decide +kernel
theorem dX3_nurse_10 : decode cX3_nurse 10 = .ok (.isub, 1) := by decide +kernel
theorem dX3_nurse_11 : decode cX3_nurse 11 = .ok (.invokevirtual 80, 3) := by decide +kernel
theorem dX3_nurse_14 : decode cX3_nurse 14 = .ok (.aload_n 0, 1) := by decide +kernel
theorem dX3_nurse_15 : decode cX3_nurse 15 = .ok (.iload_n 1, 1) := by decide +kernel
theorem dX3_nurse_16 : decode cX3_nurse 16 = .ok (.iconst 1, 1) := by decide +kernel
theorem dX3_nurse_17 : decode cX3_nurse 17 = .ok (.invokevirtual 57, 3) := by decide +kernel
theorem dX3_nurse_20 : decode cX3_nurse 20 = .ok (.ifCond .ne 10, 3) := by decide +kernel
theorem dX3_nurse_23 : decode cX3_nurse 23 = .ok (.aload_n 0, 1) := by decide +kernel
theorem dX3_nurse_24 : decode cX3_nurse 24 = .ok (.iload_n 1, 1) := by decide +kernel
theorem dX3_nurse_25 : decode cX3_nurse 25 = .ok (.iconst 2, 1) := by decide +kernel
theorem dX3_nurse_26 : decode cX3_nurse 26 = .ok (.invokevirtual 87, 3) := by decide +kernel
theorem dX3_nurse_29 : decode cX3_nurse 29 = .ok (.return_, 1) := by decide +kernel
theorem dX3_nurse_30 : decode cX3_nurse 30 = .ok (.aload_n 0, 1) := by decide +kernel
theorem dX3_nurse_31 : decode cX3_nurse 31 = .ok (.iload_n 1, 1) := by decide +kernel
theorem dX3_nurse_32 : decode cX3_nurse 32 = .ok (.bipush 8, 2) := by decide +kernel
theorem dX3_nurse_34 : decode cX3_nurse 34 = .ok (.aload_n 0, 1) := by decide +kernel
theorem dX3_nurse_35 : decode cX3_nurse 35 = .ok (.iload_n 1, 1) := by decide +kernel
theorem dX3_nurse_36 : decode cX3_nurse 36 = .ok (.bipush 8, 2) := by decide +kernel
theorem dX3_nurse_38 : decode cX3_nurse 38 = .ok (.invokevirtual 57, 3) := by decide +kernel
theorem dX3_nurse_41 : decode cX3_nurse 41 = .ok (.iconst 1, 1) := by decide +kernel
theorem dX3_nurse_42 : decode cX3_nurse 42 = .ok (.iadd, 1) := by decide +kernel
theorem dX3_nurse_43 : decode cX3_nurse 43 = .ok (.invokevirtual 80, 3) := by decide +kernel
theorem dX3_nurse_46 : decode cX3_nurse 46 = .ok (.aload_n 0, 1) := by decide +kernel
theorem dX3_nurse_47 : decode cX3_nurse 47 = .ok (.iload_n 1, 1) := by decide +kernel
theorem dX3_nurse_48 : decode cX3_nurse 48 = .ok (.bipush 7, 2) := by decide +kernel
theorem dX3_nurse_50 : decode cX3_nurse 50 = .ok (.aload_n 0, 1) := by decide +kernel
theorem dX3_nurse_51 : decode cX3_nurse 51 = .ok (.iload_n 1, 1) := by decide +kernel
theorem dX3_nurse_52 : decode cX3_nurse 52 = .ok (.bipush 7, 2) := by decide +kernel
theorem dX3_nurse_54 : decode cX3_nurse 54 = .ok (.invokevirtual 57, 3) := by decide +kernel
theorem dX3_nurse_57 : decode cX3_nurse 57 = .ok (.iconst 1, 1) := by decide +kernel
theorem dX3_nurse_58 : decode cX3_nurse 58 = .ok (.isub, 1) := by decide +kernel
theorem dX3_nurse_59 : decode cX3_nurse 59 = .ok (.invokevirtual 80, 3) := by decide +kernel
theorem dX3_nurse_62 : decode cX3_nurse 62 = .ok (.aload_n 0, 1) := by decide +kernel
theorem dX3_nurse_63 : decode cX3_nurse 63 = .ok (.iload_n 1, 1) := by decide +kernel
theorem dX3_nurse_64 : decode cX3_nurse 64 = .ok (.iconst 4, 1) := by decide +kernel
theorem dX3_nurse_65 : decode cX3_nurse 65 = .ok (.invokevirtual 57, 3) := by decide +kernel
theorem dX3_nurse_68 : decode cX3_nurse 68 = .ok (.iconst 3, 1) := by decide +kernel
theorem dX3_nurse_69 : decode cX3_nurse 69 = .ok (.if_icmp .ge 48, 3) := by decide +kernel
theorem dX3_nurse_72 : decode cX3_nurse 72 = .ok (.aload_n 0, 1) := by decide +kernel
theorem dX3_nurse_73 : decode cX3_nurse 73 = .ok (.aload_n 0, 1) := by decide +kernel
theorem dX3_nurse_74 : decode cX3_nurse 74 = .ok (.iload_n 1, 1) := by decide +kernel
theorem dX3_nurse_75 : decode cX3_nurse 75 = .ok (.bipush 8, 2) := by decide +kernel
theorem dX3_nurse_77 : decode cX3_nurse 77 = .ok (.invokevirtual 57, 3) := by decide +kernel
theorem dX3_nurse_80 : decode cX3_nurse 80 = .ok (.iconst 3, 1) := by decide +kernel
theorem dX3_nurse_81 : decode cX3_nurse 81 = .ok (.if_icmp .gt 7, 3) := by decide +kernel
theorem dX3_nurse_84 : decode cX3_nurse 84 = .ok (.iconst 5, 1) := by decide +kernel
theorem dX3_nurse_85 : decode cX3_nurse 85 = .ok (.goto 4, 3) := by decide +kernel
theorem dX3_nurse_88 : decode cX3_nurse 88 = .ok (.iconst 2, 1) := by decide +kernel
theorem dX3_nurse_89 : decode cX3_nurse 89 = .ok (.invokevirtual 91, 3) := by decide +kernel
theorem dX3_nurse_92 : decode cX3_nurse 92 = .ok (.istore_n 2, 1) := by decide +kernel
theorem dX3_nurse_93 : decode cX3_nurse 93 = .ok (.aload_n 0, 1) := by decide +kernel
theorem dX3_nurse_94 : decode cX3_nurse 94 = .ok (.dup, 1) := by decide +kernel
theorem dX3_nurse_95 : decode cX3_nurse 95 = .ok (.getfield 41, 3) := by decide +kernel
theorem dX3_nurse_98 : decode cX3_nurse 98 = .ok (.iload_n 2, 1) := by decide +kernel
theorem dX3_nurse_99 : decode cX3_nurse 99 = .ok (.iadd, 1) := by decide +kernel
theorem dX3_nurse_100 : decode cX3_nurse 100 = .ok (.putfield 41, 3) := by decide +kernel
theorem dX3_nurse_103 : decode cX3_nurse 103 = .ok (.aload_n 0, 1) := by decide +kernel
theorem dX3_nurse_104 : decode cX3_nurse 104 = .ok (.iload_n 1, 1) := by decide +kernel
theorem dX3_nurse_105 : decode cX3_nurse 105 = .ok (.iconst 2, 1) := by decide +kernel
theorem dX3_nurse_106 : decode cX3_nurse 106 = .ok (.aload_n 0, 1) := by decide +kernel
theorem dX3_nurse_107 : decode cX3_nurse 107 = .ok (.iload_n 1, 1) := by decide +kernel
theorem dX3_nurse_108 : decode cX3_nurse 108 = .ok (.iconst 2, 1) := by decide +kernel
theorem dX3_nurse_109 : decode cX3_nurse 109 = .ok (.invokevirtual 57, 3) := by decide +kernel
theorem dX3_nurse_112 : decode cX3_nurse 112 = .ok (.iload_n 2, 1) := by decide +kernel
theorem dX3_nurse_113 : decode cX3_nurse 113 = .ok (.iadd, 1) := by decide +kernel
theorem dX3_nurse_114 : decode cX3_nurse 114 = .ok (.invokevirtual 80, 3) := by decide +kernel
theorem dX3_nurse_117 : decode cX3_nurse 117 = .ok (.aload_n 0, 1) := by decide +kernel
theorem dX3_nurse_118 : decode cX3_nurse 118 = .ok (.iload_n 1, 1) := by decide +kernel
theorem dX3_nurse_119 : decode cX3_nurse 119 = .ok (.bipush 7, 2) := by decide +kernel
theorem dX3_nurse_121 : decode cX3_nurse 121 = .ok (.invokevirtual 57, 3) := by decide +kernel
theorem dX3_nurse_124 : decode cX3_nurse 124 = .ok (.ifCond .ne 9, 3) := by decide +kernel
theorem dX3_nurse_127 : decode cX3_nurse 127 = .ok (.aload_n 0, 1) := by decide +kernel
theorem dX3_nurse_128 : decode cX3_nurse 128 = .ok (.iload_n 1, 1) := by decide +kernel
theorem dX3_nurse_129 : decode cX3_nurse 129 = .ok (.iconst 0, 1) := by decide +kernel
theorem dX3_nurse_130 : decode cX3_nurse 130 = .ok (.invokevirtual 87, 3) := by decide +kernel
theorem dX3_nurse_133 : decode cX3_nurse 133 = .ok (.return_, 1) := by decide +kernel
set_option maxRecDepth 20000 in
theorem ggX3_payDues_X3_of : GoodIn wsX3_payDues wsX3_of := goodIn_r _ [11, 12, 17, 18, 19, 20, 21, 22, 23, 24, 25, 26, 27, 28] (by decide +kernel) (by decide +kernel)
set_option maxRecDepth 20000 in
theorem gX3_payDues_X3_of : GoodIn wsX3_payDues (wsV RX3 57 RX3 yX3_of wsX3_of) := goodIn_app (goodIn_of _ (by decide +kernel)) ggX3_payDues_X3_of
set_option maxRecDepth 20000 in
theorem ggX3_payDues_X3_set : GoodIn wsX3_payDues wsX3_set := goodIn_r _ [16, 12, 17, 18, 19, 20, 21, 22, 23, 24, 25, 26, 27, 28] (by decide +kernel) (by decide +kernel)
set_option maxRecDepth 20000 in
theorem gX3_payDues_X3_set : GoodIn wsX3_payDues (wsV RX3 80 RX3 yX3_set wsX3_set) := goodIn_app (goodIn_of _ (by decide +kernel)) ggX3_payDues_X3_set
theorem dX3_payDues_0 : decode cX3_payDues 0 = .ok (.aload_n 0, 1) := by decide +kernel
theorem dX3_payDues_1 : decode cX3_payDues 1 = .ok (.iload_n 1, 1) := by decide +kernel
theorem dX3_payDues_2 : decode cX3_payDues 2 = .ok (.iconst 2, 1) := by decide +kernel
theorem dX3_payDues_3 : decode cX3_payDues 3 = .ok (.invokevirtual 57, 3) := by decide +kernel
theorem dX3_payDues_6 : decode cX3_payDues 6 = .ok (.aload_n 0, 1) := by decide +kernel
theorem dX3_payDues_7 : decode cX3_payDues 7 = .ok (.getfield 3, 3) := by decide +kernel
theorem dX3_payDues_10 : decode cX3_payDues 10 = .ok (.getfield 94, 3) := by decide +kernel
theorem dX3_payDues_13 : decode cX3_payDues 13 = .ok (.if_icmp .lt 7, 3) := by decide +kernel
theorem dX3_payDues_16 : decode cX3_payDues 16 = .ok (.iconst 1, 1) := by decide +kernel
theorem dX3_payDues_17 : decode cX3_payDues 17 = .ok (.goto 4, 3) := by decide +kernel
theorem dX3_payDues_20 : decode cX3_payDues 20 = .ok (.iconst 0, 1) := by decide +kernel
theorem dX3_payDues_21 : decode cX3_payDues 21 = .ok (.istore_n 2, 1) := by decide +kernel
theorem dX3_payDues_22 : decode cX3_payDues 22 = .ok (.aload_n 0, 1) := by decide +kernel
theorem dX3_payDues_23 : decode cX3_payDues 23 = .ok (.iload_n 1, 1) := by decide +kernel
theorem dX3_payDues_24 : decode cX3_payDues 24 = .ok (.iconst 4, 1) := by decide +kernel
theorem dX3_payDues_25 : decode cX3_payDues 25 = .ok (.iload_n 2, 1) := by decide +kernel
theorem dX3_payDues_26 : decode cX3_payDues 26 = .ok (.ifCond .eq 7, 3) := by decide +kernel
theorem dX3_payDues_29 : decode cX3_payDues 29 = .ok (.iconst 0, 1) := by decide +kernel
theorem dX3_payDues_30 : decode cX3_payDues 30 = .ok (.goto 16, 3) := by decide +kernel
theorem dX3_payDues_33 : decode cX3_payDues 33 = .ok (.bipush 9, 2) := by decide +kernel
theorem dX3_payDues_35 : decode cX3_payDues 35 = .ok (.aload_n 0, 1) := by decide +kernel
theorem dX3_payDues_36 : decode cX3_payDues 36 = .ok (.iload_n 1, 1) := by decide +kernel
theorem dX3_payDues_37 : decode cX3_payDues 37 = .ok (.iconst 4, 1) := by decide +kernel
theorem dX3_payDues_38 : decode cX3_payDues 38 = .ok (.invokevirtual 57, 3) := by decide +kernel
theorem dX3_payDues_41 : decode cX3_payDues 41 = .ok (.iconst 1, 1) := by decide +kernel
theorem dX3_payDues_42 : decode cX3_payDues 42 = .ok (.iadd, 1) := by decide +kernel
theorem dX3_payDues_43 : decode cX3_payDues 43 = .ok (.invokestatic 69, 3) := by decide +kernel
theorem dX3_payDues_46 : decode cX3_payDues 46 = .ok (.invokevirtual 80, 3) := by decide +kernel
theorem dX3_payDues_49 : decode cX3_payDues 49 = .ok (.iload_n 2, 1) := by decide +kernel
theorem dX3_payDues_50 : decode cX3_payDues 50 = .ok (.ifCond .ne 4, 3) := by decide +kernel
theorem dX3_payDues_53 : decode cX3_payDues 53 = .ok (.return_, 1) := by decide +kernel
theorem dX3_payDues_54 : decode cX3_payDues 54 = .ok (.aload_n 0, 1) := by decide +kernel
theorem dX3_payDues_55 : decode cX3_payDues 55 = .ok (.iload_n 1, 1) := by decide +kernel
theorem dX3_payDues_56 : decode cX3_payDues 56 = .ok (.iconst 2, 1) := by decide +kernel
theorem dX3_payDues_57 : decode cX3_payDues 57 = .ok (.aload_n 0, 1) := by decide +kernel
theorem dX3_payDues_58 : decode cX3_payDues 58 = .ok (.iload_n 1, 1) := by decide +kernel
theorem dX3_payDues_59 : decode cX3_payDues 59 = .ok (.iconst 2, 1) := by decide +kernel
theorem dX3_payDues_60 : decode cX3_payDues 60 = .ok (.invokevirtual 57, 3) := by decide +kernel
theorem dX3_payDues_63 : decode cX3_payDues 63 = .ok (.aload_n 0, 1) := by decide +kernel
theorem dX3_payDues_64 : decode cX3_payDues 64 = .ok (.getfield 3, 3) := by decide +kernel
theorem dX3_payDues_67 : decode cX3_payDues 67 = .ok (.getfield 94, 3) := by decide +kernel
theorem dX3_payDues_70 : decode cX3_payDues 70 = .ok (.isub, 1) := by decide +kernel
theorem dX3_payDues_71 : decode cX3_payDues 71 = .ok (.invokevirtual 80, 3) := by decide +kernel
theorem dX3_payDues_74 : decode cX3_payDues 74 = .ok (.aload_n 0, 1) := by decide +kernel
theorem dX3_payDues_75 : decode cX3_payDues 75 = .ok (.dup, 1) := by decide +kernel
theorem dX3_payDues_76 : decode cX3_payDues 76 = .ok (.getfield 15, 3) := by decide +kernel
theorem dX3_payDues_79 : decode cX3_payDues 79 = .ok (.aload_n 0, 1) := by decide +kernel
theorem dX3_payDues_80 : decode cX3_payDues 80 = .ok (.getfield 3, 3) := by decide +kernel
theorem dX3_payDues_83 : decode cX3_payDues 83 = .ok (.getfield 94, 3) := by decide +kernel
theorem dX3_payDues_86 : decode cX3_payDues 86 = .ok (.iadd, 1) := by decide +kernel
theorem dX3_payDues_87 : decode cX3_payDues 87 = .ok (.putfield 15, 3) := by decide +kernel
theorem dX3_payDues_90 : decode cX3_payDues 90 = .ok (.return_, 1) := by decide +kernel
set_option maxRecDepth 20000 in
theorem ggX3_settle_X3_of : GoodIn wsX3_settle wsX3_of := goodIn_r _ [10, 11, 16, 17, 18, 19, 20, 21, 22, 23, 24, 25, 26, 27] (by decide +kernel) (by decide +kernel)
set_option maxRecDepth 20000 in
theorem gX3_settle_X3_of : GoodIn wsX3_settle (wsV RX3 57 RX3 yX3_of wsX3_of) := goodIn_app (goodIn_of _ (by decide +kernel)) ggX3_settle_X3_of
set_option maxRecDepth 20000 in
theorem ggX3_settle_X3_set : GoodIn wsX3_settle wsX3_set := goodIn_r _ [15, 11, 16, 17, 18, 19, 20, 21, 22, 23, 24, 25, 26, 27] (by decide +kernel) (by decide +kernel)
set_option maxRecDepth 20000 in
theorem gX3_settle_X3_set : GoodIn wsX3_settle (wsV RX3 80 RX3 yX3_set wsX3_set) := goodIn_app (goodIn_of _ (by decide +kernel)) ggX3_settle_X3_set
theorem dX3_settle_0 : decode cX3_settle 0 = .ok (.aload_n 0, 1) := by decide +kernel
theorem dX3_settle_1 : decode cX3_settle 1 = .ok (.iload_n 1, 1) := by decide +kernel
theorem dX3_settle_2 : decode cX3_settle 2 = .ok (.iconst 3, 1) := by decide +kernel
theorem dX3_settle_3 : decode cX3_settle 3 = .ok (.invokevirtual 57, 3) := by decide +kernel
theorem dX3_settle_6 : decode cX3_settle 6 = .ok (.aload_n 0, 1) := by decide +kernel
theorem dX3_settle_7 : decode cX3_settle 7 = .ok (.iload_n 1, 1) := by decide +kernel
theorem dX3_settle_8 : decode cX3_settle 8 = .ok (.iconst 2, 1) := by decide +kernel
theorem dX3_settle_9 : decode cX3_settle 9 = .ok (.invokevirtual 57, 3) := by decide +kernel
theorem dX3_settle_12 : decode cX3_settle 12 = .ok (.invokestatic 69, 3) := by decide +kernel
theorem dX3_settle_15 : decode cX3_settle 15 = .ok (.istore_n 2, 1) := by decide +kernel
theorem dX3_settle_16 : decode cX3_settle 16 = .ok (.aload_n 0, 1) := by decide +kernel
theorem dX3_settle_17 : decode cX3_settle 17 = .ok (.iload_n 1, 1) := by decide +kernel
theorem dX3_settle_18 : decode cX3_settle 18 = .ok (.iconst 3, 1) := by decide +kernel
theorem dX3_settle_19 : decode cX3_settle 19 = .ok (.aload_n 0, 1) := by decide +kernel
theorem dX3_settle_20 : decode cX3_settle 20 = .ok (.iload_n 1, 1) := by decide +kernel
theorem dX3_settle_21 : decode cX3_settle 21 = .ok (.iconst 3, 1) := by decide +kernel
theorem dX3_settle_22 : decode cX3_settle 22 = .ok (.invokevirtual 57, 3) := by decide +kernel
theorem dX3_settle_25 : decode cX3_settle 25 = .ok (.iload_n 2, 1) := by decide +kernel
theorem dX3_settle_26 : decode cX3_settle 26 = .ok (.isub, 1) := by decide +kernel
theorem dX3_settle_27 : decode cX3_settle 27 = .ok (.invokevirtual 80, 3) := by decide +kernel
theorem dX3_settle_30 : decode cX3_settle 30 = .ok (.aload_n 0, 1) := by decide +kernel
theorem dX3_settle_31 : decode cX3_settle 31 = .ok (.iload_n 1, 1) := by decide +kernel
theorem dX3_settle_32 : decode cX3_settle 32 = .ok (.iconst 2, 1) := by decide +kernel
theorem dX3_settle_33 : decode cX3_settle 33 = .ok (.aload_n 0, 1) := by decide +kernel
theorem dX3_settle_34 : decode cX3_settle 34 = .ok (.iload_n 1, 1) := by decide +kernel
theorem dX3_settle_35 : decode cX3_settle 35 = .ok (.iconst 2, 1) := by decide +kernel
theorem dX3_settle_36 : decode cX3_settle 36 = .ok (.invokevirtual 57, 3) := by decide +kernel
theorem dX3_settle_39 : decode cX3_settle 39 = .ok (.iload_n 2, 1) := by decide +kernel
theorem dX3_settle_40 : decode cX3_settle 40 = .ok (.isub, 1) := by decide +kernel
theorem dX3_settle_41 : decode cX3_settle 41 = .ok (.invokevirtual 80, 3) := by decide +kernel
theorem dX3_settle_44 : decode cX3_settle 44 = .ok (.aload_n 0, 1) := by decide +kernel
theorem dX3_settle_45 : decode cX3_settle 45 = .ok (.dup, 1) := by decide +kernel
theorem dX3_settle_46 : decode cX3_settle 46 = .ok (.getfield 15, 3) := by decide +kernel
theorem dX3_settle_49 : decode cX3_settle 49 = .ok (.iload_n 2, 1) := by decide +kernel
theorem dX3_settle_50 : decode cX3_settle 50 = .ok (.iadd, 1) := by decide +kernel
theorem dX3_settle_51 : decode cX3_settle 51 = .ok (.putfield 15, 3) := by decide +kernel
theorem dX3_settle_54 : decode cX3_settle 54 = .ok (.aload_n 0, 1) := by decide +kernel
theorem dX3_settle_55 : decode cX3_settle 55 = .ok (.iload_n 1, 1) := by decide +kernel
theorem dX3_settle_56 : decode cX3_settle 56 = .ok (.iconst 3, 1) := by decide +kernel
theorem dX3_settle_57 : decode cX3_settle 57 = .ok (.invokevirtual 57, 3) := by decide +kernel
theorem dX3_settle_60 : decode cX3_settle 60 = .ok (.ireturn, 1) := by decide +kernel
set_option maxRecDepth 20000 in
theorem ggX3_drink_X3_of : GoodIn wsX3_drink wsX3_of := goodIn_r _ [9, 10, 20, 21, 22, 23, 24, 25, 26, 27, 28, 29, 30, 31] (by decide +kernel) (by decide +kernel)
set_option maxRecDepth 20000 in
theorem gX3_drink_X3_of : GoodIn wsX3_drink (wsV RX3 57 RX3 yX3_of wsX3_of) := goodIn_app (goodIn_of _ (by decide +kernel)) ggX3_drink_X3_of
set_option maxRecDepth 20000 in
theorem ggX3_drink_X3_set : GoodIn wsX3_drink wsX3_set := goodIn_r _ [14, 10, 20, 21, 22, 23, 24, 25, 26, 27, 28, 29, 30, 31] (by decide +kernel) (by decide +kernel)
set_option maxRecDepth 20000 in
theorem gX3_drink_X3_set : GoodIn wsX3_drink (wsV RX3 80 RX3 yX3_set wsX3_set) := goodIn_app (goodIn_of _ (by decide +kernel)) ggX3_drink_X3_set
set_option maxRecDepth 20000 in
theorem ggX3_drink_X3_settle : GoodIn wsX3_drink wsX3_settle := goodIn_r _ [18, 1, 2, 3, 4, 19, 5, 6, 7, 8, 9, 10, 11, 12, 13, 14, 20, 21, 22, 23, 24, 25, 26, 27, 28, 29, 30, 31] (by decide +kernel) (by decide +kernel)
set_option maxRecDepth 20000 in
theorem gX3_drink_X3_settle : GoodIn wsX3_drink (wsV RX3 97 RX3 yX3_settle wsX3_settle) := goodIn_app (goodIn_of _ (by decide +kernel)) ggX3_drink_X3_settle
theorem dX3_drink_0 : decode cX3_drink 0 = .ok (.aload_n 0, 1) := by decide +kernel
theorem dX3_drink_1 : decode cX3_drink 1 = .ok (.iload_n 1, 1) := by decide +kernel
theorem dX3_drink_2 : decode cX3_drink 2 = .ok (.iconst 3, 1) := by decide +kernel
theorem dX3_drink_3 : decode cX3_drink 3 = .ok (.invokevirtual 57, 3) := by decide +kernel
theorem dX3_drink_6 : decode cX3_drink 6 = .ok (.bipush 12, 2) := by decide +kernel
theorem dX3_drink_8 : decode cX3_drink 8 = .ok (.if_icmp .ge 27, 3) := by decide +kernel
theorem dX3_drink_11 : decode cX3_drink 11 = .ok (.aload_n 0, 1) := by decide +kernel
theorem dX3_drink_12 : decode cX3_drink 12 = .ok (.iload_n 1, 1) := by decide +kernel
theorem dX3_drink_13 : decode cX3_drink 13 = .ok (.iconst 3, 1) := by decide +kernel
theorem dX3_drink_14 : decode cX3_drink 14 = .ok (.aload_n 0, 1) := by decide +kernel
theorem dX3_drink_15 : decode cX3_drink 15 = .ok (.iload_n 1, 1) := by decide +kernel
theorem dX3_drink_16 : decode cX3_drink 16 = .ok (.iconst 3, 1) := by decide +kernel
theorem dX3_drink_17 : decode cX3_drink 17 = .ok (.invokevirtual 57, 3) := by decide +kernel
theorem dX3_drink_20 : decode cX3_drink 20 = .ok (.iconst 1, 1) := by decide +kernel
theorem dX3_drink_21 : decode cX3_drink 21 = .ok (.iadd, 1) := by decide +kernel
theorem dX3_drink_22 : decode cX3_drink 22 = .ok (.aload_n 0, 1) := by decide +kernel
theorem dX3_drink_23 : decode cX3_drink 23 = .ok (.iload_n 1, 1) := by decide +kernel
theorem dX3_drink_24 : decode cX3_drink 24 = .ok (.iconst 2, 1) := by decide +kernel
theorem dX3_drink_25 : decode cX3_drink 25 = .ok (.invokevirtual 57, 3) := by decide +kernel
theorem dX3_drink_28 : decode cX3_drink 28 = .ok (.bipush 8, 2) := by decide +kernel
theorem dX3_drink_30 : decode cX3_drink 30 = .ok (.idiv, 1) := by decide +kernel
theorem dX3_drink_31 : decode cX3_drink 31 = .ok (.iadd, 1) := by decide +kernel
theorem dX3_drink_32 : decode cX3_drink 32 = .ok (.invokevirtual 80, 3) := by decide +kernel
theorem dX3_drink_35 : decode cX3_drink 35 = .ok (.aload_n 0, 1) := by decide +kernel
theorem dX3_drink_36 : decode cX3_drink 36 = .ok (.iload_n 1, 1) := by decide +kernel
theorem dX3_drink_37 : decode cX3_drink 37 = .ok (.invokevirtual 97, 3) := by decide +kernel
theorem dX3_drink_40 : decode cX3_drink 40 = .ok (.pop, 1) := by decide +kernel
theorem dX3_drink_41 : decode cX3_drink 41 = .ok (.aload_n 0, 1) := by decide +kernel
theorem dX3_drink_42 : decode cX3_drink 42 = .ok (.iload_n 1, 1) := by decide +kernel
theorem dX3_drink_43 : decode cX3_drink 43 = .ok (.iconst 1, 1) := by decide +kernel
theorem dX3_drink_44 : decode cX3_drink 44 = .ok (.bipush 20, 2) := by decide +kernel
theorem dX3_drink_46 : decode cX3_drink 46 = .ok (.aload_n 0, 1) := by decide +kernel
theorem dX3_drink_47 : decode cX3_drink 47 = .ok (.iload_n 1, 1) := by decide +kernel
theorem dX3_drink_48 : decode cX3_drink 48 = .ok (.iconst 1, 1) := by decide +kernel
theorem dX3_drink_49 : decode cX3_drink 49 = .ok (.invokevirtual 57, 3) := by decide +kernel
theorem dX3_drink_52 : decode cX3_drink 52 = .ok (.iconst 1, 1) := by decide +kernel
theorem dX3_drink_53 : decode cX3_drink 53 = .ok (.iadd, 1) := by decide +kernel
theorem dX3_drink_54 : decode cX3_drink 54 = .ok (.invokestatic 69, 3) := by decide +kernel
theorem dX3_drink_57 : decode cX3_drink 57 = .ok (.invokevirtual 80, 3) := by decide +kernel
theorem dX3_drink_60 : decode cX3_drink 60 = .ok (.return_, 1) := by decide +kernel
set_option maxRecDepth 20000 in
theorem ggX3_bury_X3_pay : GoodIn wsX3_bury wsX3_pay := goodIn_r _ [8, 2, 9, 10, 11, 12, 13, 23, 24, 25, 26, 27, 28, 29, 30, 31, 32, 33, 34] (by decide +kernel) (by decide +kernel)
set_option maxRecDepth 20000 in
theorem gX3_bury_X3_pay : GoodIn wsX3_bury (wsV RX3 91 RX3 yX3_pay wsX3_pay) := goodIn_app (goodIn_of _ (by decide +kernel)) ggX3_bury_X3_pay
set_option maxRecDepth 20000 in
theorem ggX3_bury_X3_of : GoodIn wsX3_bury wsX3_of := goodIn_r _ [17, 18, 23, 24, 25, 26, 27, 28, 29, 30, 31, 32, 33, 34] (by decide +kernel) (by decide +kernel)
set_option maxRecDepth 20000 in
theorem gX3_bury_X3_of : GoodIn wsX3_bury (wsV RX3 57 RX3 yX3_of wsX3_of) := goodIn_app (goodIn_of _ (by decide +kernel)) ggX3_bury_X3_of
set_option maxRecDepth 20000 in
theorem ggX3_bury_X3_set : GoodIn wsX3_bury wsX3_set := goodIn_r _ [22, 18, 23, 24, 25, 26, 27, 28, 29, 30, 31, 32, 33, 34] (by decide +kernel) (by decide +kernel)
set_option maxRecDepth 20000 in
theorem gX3_bury_X3_set : GoodIn wsX3_bury (wsV RX3 80 RX3 yX3_set wsX3_set) := goodIn_app (goodIn_of _ (by decide +kernel)) ggX3_bury_X3_set
theorem dX3_bury_0 : decode cX3_bury 0 = .ok (.aload_n 0, 1) := by decide +kernel
theorem dX3_bury_1 : decode cX3_bury 1 = .ok (.dup, 1) := by decide +kernel
theorem dX3_bury_2 : decode cX3_bury 2 = .ok (.getfield 44, 3) := by decide +kernel
theorem dX3_bury_5 : decode cX3_bury 5 = .ok (.aload_n 0, 1) := by decide +kernel
theorem dX3_bury_6 : decode cX3_bury 6 = .ok (.bipush 12, 2) := by decide +kernel
theorem dX3_bury_8 : decode cX3_bury 8 = .ok (.invokevirtual 91, 3) := by decide +kernel
theorem dX3_bury_11 : decode cX3_bury 11 = .ok (.iadd, 1) := by decide +kernel
theorem dX3_bury_12 : decode cX3_bury 12 = .ok (.putfield 44, 3) := by decide +kernel
theorem dX3_bury_15 : decode cX3_bury 15 = .ok (.aload_n 0, 1) := by decide +kernel
theorem dX3_bury_16 : decode cX3_bury 16 = .ok (.dup, 1) := by decide +kernel
theorem dX3_bury_17 : decode cX3_bury 17 = .ok (.getfield 15, 3) := by decide +kernel
theorem dX3_bury_20 : decode cX3_bury 20 = .ok (.aload_n 0, 1) := by decide +kernel
theorem dX3_bury_21 : decode cX3_bury 21 = .ok (.iload_n 1, 1) := by decide +kernel
theorem dX3_bury_22 : decode cX3_bury 22 = .ok (.iconst 2, 1) := by decide +kernel
theorem dX3_bury_23 : decode cX3_bury 23 = .ok (.invokevirtual 57, 3) := by decide +kernel
theorem dX3_bury_26 : decode cX3_bury 26 = .ok (.iadd, 1) := by decide +kernel
theorem dX3_bury_27 : decode cX3_bury 27 = .ok (.putfield 15, 3) := by decide +kernel
theorem dX3_bury_30 : decode cX3_bury 30 = .ok (.aload_n 0, 1) := by decide +kernel
theorem dX3_bury_31 : decode cX3_bury 31 = .ok (.iload_n 1, 1) := by decide +kernel
theorem dX3_bury_32 : decode cX3_bury 32 = .ok (.iconst 2, 1) := by decide +kernel
theorem dX3_bury_33 : decode cX3_bury 33 = .ok (.iconst 0, 1) := by decide +kernel
theorem dX3_bury_34 : decode cX3_bury 34 = .ok (.invokevirtual 80, 3) := by decide +kernel
theorem dX3_bury_37 : decode cX3_bury 37 = .ok (.iconst 0, 1) := by decide +kernel
theorem dX3_bury_38 : decode cX3_bury 38 = .ok (.istore_n 2, 1) := by decide +kernel
theorem dX3_bury_39 : decode cX3_bury 39 = .ok (.iload_n 2, 1) := by decide +kernel
theorem dX3_bury_40 : decode cX3_bury 40 = .ok (.aload_n 0, 1) := by decide +kernel
theorem dX3_bury_41 : decode cX3_bury 41 = .ok (.getfield 35, 3) := by decide +kernel
theorem dX3_bury_44 : decode cX3_bury 44 = .ok (.if_icmp .ge 56, 3) := by decide +kernel
theorem dX3_bury_47 : decode cX3_bury 47 = .ok (.aload_n 0, 1) := by decide +kernel
theorem dX3_bury_48 : decode cX3_bury 48 = .ok (.iload_n 2, 1) := by decide +kernel
theorem dX3_bury_49 : decode cX3_bury 49 = .ok (.bipush 6, 2) := by decide +kernel
theorem dX3_bury_51 : decode cX3_bury 51 = .ok (.invokevirtual 57, 3) := by decide +kernel
theorem dX3_bury_54 : decode cX3_bury 54 = .ok (.iconst 2, 1) := by decide +kernel
theorem dX3_bury_55 : decode cX3_bury 55 = .ok (.if_icmp .eq 39, 3) := by decide +kernel
theorem dX3_bury_58 : decode cX3_bury 58 = .ok (.aload_n 0, 1) := by decide +kernel
theorem dX3_bury_59 : decode cX3_bury 59 = .ok (.iload_n 2, 1) := by decide +kernel
theorem dX3_bury_60 : decode cX3_bury 60 = .ok (.iconst 2, 1) := by decide +kernel
theorem dX3_bury_61 : decode cX3_bury 61 = .ok (.invokevirtual 57, 3) := by decide +kernel
theorem dX3_bury_64 : decode cX3_bury 64 = .ok (.ifCond .ne 6, 3) := by decide +kernel
theorem dX3_bury_67 : decode cX3_bury 67 = .ok (.goto 27, 3) := by decide +kernel
theorem dX3_bury_70 : decode cX3_bury 70 = .ok (.aload_n 0, 1) := by decide +kernel
theorem dX3_bury_71 : decode cX3_bury 71 = .ok (.iload_n 2, 1) := by decide +kernel
theorem dX3_bury_72 : decode cX3_bury 72 = .ok (.iconst 2, 1) := by decide +kernel
theorem dX3_bury_73 : decode cX3_bury 73 = .ok (.aload_n 0, 1) := by decide +kernel
theorem dX3_bury_74 : decode cX3_bury 74 = .ok (.iload_n 2, 1) := by decide +kernel
theorem dX3_bury_75 : decode cX3_bury 75 = .ok (.iconst 2, 1) := by decide +kernel
theorem dX3_bury_76 : decode cX3_bury 76 = .ok (.invokevirtual 57, 3) := by decide +kernel
theorem dX3_bury_79 : decode cX3_bury 79 = .ok (.iconst 1, 1) := by decide +kernel
theorem dX3_bury_80 : decode cX3_bury 80 = .ok (.isub, 1) := by decide +kernel
theorem dX3_bury_81 : decode cX3_bury 81 = .ok (.invokevirtual 80, 3) := by decide +kernel
theorem dX3_bury_84 : decode cX3_bury 84 = .ok (.aload_n 0, 1) := by decide +kernel
theorem dX3_bury_85 : decode cX3_bury 85 = .ok (.dup, 1) := by decide +kernel
theorem dX3_bury_86 : decode cX3_bury 86 = .ok (.getfield 15, 3) := by decide +kernel
theorem dX3_bury_89 : decode cX3_bury 89 = .ok (.iconst 1, 1) := by decide +kernel
theorem dX3_bury_90 : decode cX3_bury 90 = .ok (.iadd, 1) := by decide +kernel
theorem dX3_bury_91 : decode cX3_bury 91 = .ok (.putfield 15, 3) := by decide +kernel
theorem dX3_bury_94 : decode cX3_bury 94 = .ok (.iinc 2 1, 3) := by decide +kernel
theorem dX3_bury_97 : decode cX3_bury 97 = .ok (.goto (-58), 3) := by decide +kernel
theorem dX3_bury_100 : decode cX3_bury 100 = .ok (.return_, 1) := by decide +kernel
set_option maxRecDepth 20000 in
theorem ggX3_pass_X3_fire : GoodIn wsX3_pass wsX3_fire := goodIn_r _ [7, 8, 9, 10, 11, 12, 13, 14, 15, 16, 17, 18, 19, 6, 20, 1, 21, 22, 23, 24, 25, 26, 27, 28, 29, 81, 82, 83, 84, 85, 86, 87, 88, 89, 90, 91, 92] (by decide +kernel) (by decide +kernel)
set_option maxRecDepth 20000 in
theorem gX3_pass_X3_fire : GoodIn wsX3_pass (wsV RX3 100 RX3 yX3_fire wsX3_fire) := goodIn_app (goodIn_of _ (by decide +kernel)) ggX3_pass_X3_fire
set_option maxRecDepth 20000 in
theorem ggX3_pass_X3_comb : GoodIn wsX3_pass wsX3_comb := goodIn_r _ [33, 1, 34, 10, 11, 12, 13, 35, 21, 22, 23, 6, 24, 25, 26, 27, 28, 29, 36, 37, 38, 39, 9, 14, 15, 16, 17, 18, 19, 20, 40, 41, 42, 43, 81, 82, 83, 84, 85, 86, 87, 88, 89, 90, 91, 92] (by decide +kernel) (by decide +kernel)
set_option maxRecDepth 20000 in
theorem gX3_pass_X3_comb : GoodIn wsX3_pass (wsV RX3 103 RX3 yX3_comb wsX3_comb) := goodIn_app (goodIn_of _ (by decide +kernel)) ggX3_pass_X3_comb
set_option maxRecDepth 20000 in
theorem ggX3_pass_X3_fever : GoodIn wsX3_pass wsX3_fever := goodIn_r _ [47, 48, 2, 1, 21, 22, 23, 6, 24, 25, 26, 27, 28, 29, 40, 41, 42, 43, 81, 82, 83, 84, 85, 86, 87, 88, 89, 90, 91, 92, 93, 94, 95, 96, 97] (by decide +kernel) (by decide +kernel)
set_option maxRecDepth 20000 in
theorem gX3_pass_X3_fever : GoodIn wsX3_pass (wsV RX3 106 RX3 yX3_fever wsX3_fever) := goodIn_app (goodIn_of _ (by decide +kernel)) ggX3_pass_X3_fever
set_option maxRecDepth 20000 in
theorem ggX3_pass_X3_of : GoodIn wsX3_pass wsX3_of := goodIn_r _ [28, 29, 81, 82, 83, 84, 85, 86, 87, 88, 89, 90, 91, 92] (by decide +kernel) (by decide +kernel)
set_option maxRecDepth 20000 in
theorem gX3_pass_X3_of : GoodIn wsX3_pass (wsV RX3 57 RX3 yX3_of wsX3_of) := goodIn_app (goodIn_of _ (by decide +kernel)) ggX3_pass_X3_of
set_option maxRecDepth 20000 in
theorem ggX3_pass_X3_nurse : GoodIn wsX3_pass wsX3_nurse := goodIn_r _ [52, 53, 25, 26, 27, 6, 28, 29, 40, 41, 42, 43, 54, 55, 56, 57, 58, 59, 60, 61, 62, 10, 11, 12, 13, 63, 81, 82, 83, 84, 85, 86, 87, 88, 89, 90, 91, 92] (by decide +kernel) (by decide +kernel)
set_option maxRecDepth 20000 in
theorem gX3_pass_X3_nurse : GoodIn wsX3_pass (wsV RX3 109 RX3 yX3_nurse wsX3_nurse) := goodIn_app (goodIn_of _ (by decide +kernel)) ggX3_pass_X3_nurse
set_option maxRecDepth 20000 in
theorem ggX3_pass_X3_payDues : GoodIn wsX3_pass wsX3_payDues := goodIn_r _ [67, 48, 10, 11, 12, 13, 62, 25, 26, 27, 6, 28, 29, 40, 41, 42, 43, 81, 82, 83, 84, 85, 86, 87, 88, 89, 90, 91, 92, 93, 94, 95, 96, 97] (by decide +kernel) (by decide +kernel)
set_option maxRecDepth 20000 in
theorem gX3_pass_X3_payDues : GoodIn wsX3_pass (wsV RX3 113 RX3 yX3_payDues wsX3_payDues) := goodIn_app (goodIn_of _ (by decide +kernel)) ggX3_pass_X3_payDues
set_option maxRecDepth 20000 in
theorem ggX3_pass_X3_drink : GoodIn wsX3_pass wsX3_drink := goodIn_r _ [71, 10, 11, 12, 13, 25, 26, 27, 6, 28, 29, 40, 41, 42, 43, 72, 73, 74, 75, 62, 81, 82, 83, 84, 85, 86, 87, 88, 89, 90, 91, 92] (by decide +kernel) (by decide +kernel)
set_option maxRecDepth 20000 in
theorem gX3_pass_X3_drink : GoodIn wsX3_pass (wsV RX3 116 RX3 yX3_drink wsX3_drink) := goodIn_app (goodIn_of _ (by decide +kernel)) ggX3_pass_X3_drink
set_option maxRecDepth 20000 in
theorem ggX3_pass_X3_bury : GoodIn wsX3_pass wsX3_bury := goodIn_r _ [79, 80, 62, 1, 58, 59, 60, 6, 61, 10, 11, 12, 13, 63, 25, 26, 27, 28, 29, 40, 41, 42, 43, 81, 82, 83, 84, 85, 86, 87, 88, 89, 90, 91, 92] (by decide +kernel) (by decide +kernel)
set_option maxRecDepth 20000 in
theorem gX3_pass_X3_bury : GoodIn wsX3_pass (wsV RX3 119 RX3 yX3_bury wsX3_bury) := goodIn_app (goodIn_of _ (by decide +kernel)) ggX3_pass_X3_bury
theorem dX3_pass_0 : decode cX3_pass 0 = .ok (.aload_n 0, 1) := by decide +kernel
theorem dX3_pass_1 : decode cX3_pass 1 = .ok (.invokevirtual 100, 3) := by decide +kernel
theorem dX3_pass_4 : decode cX3_pass 4 = .ok (.aload_n 0, 1) := by decide +kernel
theorem dX3_pass_5 : decode cX3_pass 5 = .ok (.invokevirtual 103, 3) := by decide +kernel
theorem dX3_pass_8 : decode cX3_pass 8 = .ok (.aload_n 0, 1) := by decide +kernel
theorem dX3_pass_9 : decode cX3_pass 9 = .ok (.invokevirtual 106, 3) := by decide +kernel
theorem dX3_pass_12 : decode cX3_pass 12 = .ok (.iconst 0, 1) := by decide +kernel
theorem dX3_pass_13 : decode cX3_pass 13 = .ok (.istore_n 1, 1) := by decide +kernel
theorem dX3_pass_14 : decode cX3_pass 14 = .ok (.iconst 0, 1) := by decide +kernel
theorem dX3_pass_15 : decode cX3_pass 15 = .ok (.istore_n 2, 1) := by decide +kernel
theorem dX3_pass_16 : decode cX3_pass 16 = .ok (.iload_n 2, 1) := by decide +kernel
theorem dX3_pass_17 : decode cX3_pass 17 = .ok (.aload_n 0, 1) := by decide +kernel
theorem dX3_pass_18 : decode cX3_pass 18 = .ok (.getfield 35, 3) := by decide +kernel
theorem dX3_pass_21 : decode cX3_pass 21 = .ok (.if_icmp .ge 49, 3) := by decide +kernel
theorem dX3_pass_24 : decode cX3_pass 24 = .ok (.aload_n 0, 1) := by decide +kernel
theorem dX3_pass_25 : decode cX3_pass 25 = .ok (.iload_n 2, 1) := by decide +kernel
theorem dX3_pass_26 : decode cX3_pass 26 = .ok (.bipush 6, 2) := by decide +kernel
theorem dX3_pass_28 : decode cX3_pass 28 = .ok (.invokevirtual 57, 3) := by decide +kernel
theorem dX3_pass_31 : decode cX3_pass 31 = .ok (.iconst 1, 1) := by decide +kernel
theorem dX3_pass_32 : decode cX3_pass 32 = .ok (.if_icmp .eq 6, 3) := by decide +kernel
theorem dX3_pass_35 : decode cX3_pass 35 = .ok (.goto 29, 3) := by decide +kernel
theorem dX3_pass_38 : decode cX3_pass 38 = .ok (.aload_n 0, 1) := by decide +kernel
theorem dX3_pass_39 : decode cX3_pass 39 = .ok (.iload_n 2, 1) := by decide +kernel
theorem dX3_pass_40 : decode cX3_pass 40 = .ok (.invokevirtual 109, 3) := by decide +kernel
theorem dX3_pass_43 : decode cX3_pass 43 = .ok (.iload_n 1, 1) := by decide +kernel
theorem dX3_pass_44 : decode cX3_pass 44 = .ok (.aload_n 0, 1) := by decide +kernel
theorem dX3_pass_45 : decode cX3_pass 45 = .ok (.iload_n 2, 1) := by decide +kernel
theorem dX3_pass_46 : decode cX3_pass 46 = .ok (.bipush 6, 2) := by decide +kernel
theorem dX3_pass_48 : decode cX3_pass 48 = .ok (.invokevirtual 57, 3) := by decide +kernel
theorem dX3_pass_51 : decode cX3_pass 51 = .ok (.iconst 2, 1) := by decide +kernel
theorem dX3_pass_52 : decode cX3_pass 52 = .ok (.if_icmp .ne 9, 3) := by decide +kernel
theorem dX3_pass_55 : decode cX3_pass 55 = .ok (.iconst 1, 1) := by decide +kernel
theorem dX3_pass_56 : decode cX3_pass 56 = .ok (.iload_n 2, 1) := by decide +kernel
theorem dX3_pass_57 : decode cX3_pass 57 = .ok (.ishl, 1) := by decide +kernel
theorem dX3_pass_58 : decode cX3_pass 58 = .ok (.goto 4, 3) := by decide +kernel
theorem dX3_pass_61 : decode cX3_pass 61 = .ok (.iconst 0, 1) := by decide +kernel
theorem dX3_pass_62 : decode cX3_pass 62 = .ok (.ior, 1) := by decide +kernel
theorem dX3_pass_63 : decode cX3_pass 63 = .ok (.istore_n 1, 1) := by decide +kernel
theorem dX3_pass_64 : decode cX3_pass 64 = .ok (.iinc 2 1, 3) := by decide +kernel
theorem dX3_pass_67 : decode cX3_pass 67 = .ok (.goto (-51), 3) := by decide +kernel
theorem dX3_pass_70 : decode cX3_pass 70 = .ok (.iconst 0, 1) := by decide +kernel
theorem dX3_pass_71 : decode cX3_pass 71 = .ok (.istore_n 2, 1) := by decide +kernel
theorem dX3_pass_72 : decode cX3_pass 72 = .ok (.iload_n 2, 1) := by decide +kernel
theorem dX3_pass_73 : decode cX3_pass 73 = .ok (.aload_n 0, 1) := by decide +kernel
theorem dX3_pass_74 : decode cX3_pass 74 = .ok (.getfield 35, 3) := by decide +kernel
theorem dX3_pass_77 : decode cX3_pass 77 = .ok (.if_icmp .ge 24, 3) := by decide +kernel
theorem dX3_pass_80 : decode cX3_pass 80 = .ok (.aload_n 0, 1) := by decide +kernel
theorem dX3_pass_81 : decode cX3_pass 81 = .ok (.iload_n 2, 1) := by decide +kernel
theorem dX3_pass_82 : decode cX3_pass 82 = .ok (.bipush 6, 2) := by decide +kernel
theorem dX3_pass_84 : decode cX3_pass 84 = .ok (.invokevirtual 57, 3) := by decide +kernel
theorem dX3_pass_87 : decode cX3_pass 87 = .ok (.ifCond .ne 8, 3) := by decide +kernel
theorem dX3_pass_90 : decode cX3_pass 90 = .ok (.aload_n 0, 1) := by decide +kernel
theorem dX3_pass_91 : decode cX3_pass 91 = .ok (.iload_n 2, 1) := by decide +kernel
theorem dX3_pass_92 : decode cX3_pass 92 = .ok (.invokevirtual 113, 3) := by decide +kernel
theorem dX3_pass_95 : decode cX3_pass 95 = .ok (.iinc 2 1, 3) := by decide +kernel
theorem dX3_pass_98 : decode cX3_pass 98 = .ok (.goto (-26), 3) := by decide +kernel
theorem dX3_pass_101 : decode cX3_pass 101 = .ok (.iconst 0, 1) := by decide +kernel
theorem dX3_pass_102 : decode cX3_pass 102 = .ok (.istore_n 2, 1) := by decide +kernel
theorem dX3_pass_103 : decode cX3_pass 103 = .ok (.iload_n 2, 1) := by decide +kernel
theorem dX3_pass_104 : decode cX3_pass 104 = .ok (.aload_n 0, 1) := by decide +kernel
theorem dX3_pass_105 : decode cX3_pass 105 = .ok (.getfield 35, 3) := by decide +kernel
theorem dX3_pass_108 : decode cX3_pass 108 = .ok (.if_icmp .ge 34, 3) := by decide +kernel
theorem dX3_pass_111 : decode cX3_pass 111 = .ok (.aload_n 0, 1) := by decide +kernel
theorem dX3_pass_112 : decode cX3_pass 112 = .ok (.getfield 32, 3) := by decide +kernel
theorem dX3_pass_115 : decode cX3_pass 115 = .ok (.iconst 4, 1) := by decide +kernel
theorem dX3_pass_116 : decode cX3_pass 116 = .ok (.irem, 1) := by decide +kernel
theorem dX3_pass_117 : decode cX3_pass 117 = .ok (.iconst 3, 1) := by decide +kernel
theorem dX3_pass_118 : decode cX3_pass 118 = .ok (.if_icmp .ne 18, 3) := by decide +kernel
theorem dX3_pass_121 : decode cX3_pass 121 = .ok (.aload_n 0, 1) := by decide +kernel
theorem dX3_pass_122 : decode cX3_pass 122 = .ok (.iload_n 2, 1) := by decide +kernel
theorem dX3_pass_123 : decode cX3_pass 123 = .ok (.bipush 6, 2) := by decide +kernel
theorem dX3_pass_125 : decode cX3_pass 125 = .ok (.invokevirtual 57, 3) := by decide +kernel
theorem dX3_pass_128 : decode cX3_pass 128 = .ok (.ifCond .ne 8, 3) := by decide +kernel
theorem dX3_pass_131 : decode cX3_pass 131 = .ok (.aload_n 0, 1) := by decide +kernel
theorem dX3_pass_132 : decode cX3_pass 132 = .ok (.iload_n 2, 1) := by decide +kernel
theorem dX3_pass_133 : decode cX3_pass 133 = .ok (.invokevirtual 116, 3) := by decide +kernel
theorem dX3_pass_136 : decode cX3_pass 136 = .ok (.iinc 2 1, 3) := by decide +kernel
theorem dX3_pass_139 : decode cX3_pass 139 = .ok (.goto (-36), 3) := by decide +kernel
theorem dX3_pass_142 : decode cX3_pass 142 = .ok (.iconst 0, 1) := by decide +kernel
theorem dX3_pass_143 : decode cX3_pass 143 = .ok (.istore_n 2, 1) := by decide +kernel
theorem dX3_pass_144 : decode cX3_pass 144 = .ok (.iload_n 2, 1) := by decide +kernel
theorem dX3_pass_145 : decode cX3_pass 145 = .ok (.aload_n 0, 1) := by decide +kernel
theorem dX3_pass_146 : decode cX3_pass 146 = .ok (.getfield 35, 3) := by decide +kernel
theorem dX3_pass_149 : decode cX3_pass 149 = .ok (.if_icmp .ge 23, 3) := by decide +kernel
theorem dX3_pass_152 : decode cX3_pass 152 = .ok (.iload_n 1, 1) := by decide +kernel
theorem dX3_pass_153 : decode cX3_pass 153 = .ok (.iload_n 2, 1) := by decide +kernel
theorem dX3_pass_154 : decode cX3_pass 154 = .ok (.ishr, 1) := by decide +kernel
theorem dX3_pass_155 : decode cX3_pass 155 = .ok (.iconst 1, 1) := by decide +kernel
theorem dX3_pass_156 : decode cX3_pass 156 = .ok (.iand, 1) := by decide +kernel
theorem dX3_pass_157 : decode cX3_pass 157 = .ok (.iconst 1, 1) := by decide +kernel
theorem dX3_pass_158 : decode cX3_pass 158 = .ok (.if_icmp .ne 8, 3) := by decide +kernel
theorem dX3_pass_161 : decode cX3_pass 161 = .ok (.aload_n 0, 1) := by decide +kernel
theorem dX3_pass_162 : decode cX3_pass 162 = .ok (.iload_n 2, 1) := by decide +kernel
theorem dX3_pass_163 : decode cX3_pass 163 = .ok (.invokevirtual 119, 3) := by decide +kernel
theorem dX3_pass_166 : decode cX3_pass 166 = .ok (.iinc 2 1, 3) := by decide +kernel
theorem dX3_pass_169 : decode cX3_pass 169 = .ok (.goto (-25), 3) := by decide +kernel
theorem dX3_pass_172 : decode cX3_pass 172 = .ok (.aload_n 0, 1) := by decide +kernel
theorem dX3_pass_173 : decode cX3_pass 173 = .ok (.dup, 1) := by decide +kernel
theorem dX3_pass_174 : decode cX3_pass 174 = .ok (.getfield 32, 3) := by decide +kernel
theorem dX3_pass_177 : decode cX3_pass 177 = .ok (.iconst 1, 1) := by decide +kernel
theorem dX3_pass_178 : decode cX3_pass 178 = .ok (.iadd, 1) := by decide +kernel
theorem dX3_pass_179 : decode cX3_pass 179 = .ok (.putfield 32, 3) := by decide +kernel
theorem dX3_pass_182 : decode cX3_pass 182 = .ok (.return_, 1) := by decide +kernel
set_option maxRecDepth 20000 in
theorem ggX4_init_X3_init : GoodIn wsX4_init wsX3_init := goodIn_r _ [13, 14, 15, 2, 3, 16, 17, 18, 5, 19, 20, 26, 27, 28, 29, 30, 31, 32, 33, 34, 35, 36, 37] (by decide +kernel) (by decide +kernel)
set_option maxRecDepth 20000 in
theorem gX4_init_X3_init_n19 : GoodIn wsX4_init (wsX3_init) := ggX4_init_X3_init
theorem dX4_init_0 : decode cX4_init 0 = .ok (.aload_n 0, 1) := by decide +kernel
theorem dX4_init_1 : decode cX4_init 1 = .ok (.invokespecial 1, 3) := by decide +kernel
theorem dX4_init_4 : decode cX4_init 4 = .ok (.aload_n 0, 1) := by decide +kernel
theorem dX4_init_5 : decode cX4_init 5 = .ok (.iconst 1, 1) := by decide +kernel
theorem dX4_init_6 : decode cX4_init 6 = .ok (.putfield 7, 3) := by decide +kernel
theorem dX4_init_9 : decode cX4_init 9 = .ok (.aload_n 0, 1) := by decide +kernel
theorem dX4_init_10 : decode cX4_init 10 = .ok (.bipush 8, 2) := by decide +kernel
theorem dX4_init_12 : decode cX4_init 12 = .ok (.newarray .int, 2) := by decide +kernel
theorem dX4_init_14 : decode cX4_init 14 = .ok (.dup, 1) := by decide +kernel
theorem dX4_init_15 : decode cX4_init 15 = .ok (.iconst 0, 1) := by decide +kernel
theorem dX4_init_16 : decode cX4_init 16 = .ok (.iconst (-1), 1) := by decide +kernel
theorem dX4_init_17 : decode cX4_init 17 = .ok (.iastore, 1) := by decide +kernel
theorem dX4_init_18 : decode cX4_init 18 = .ok (.dup, 1) := by decide +kernel
theorem dX4_init_19 : decode cX4_init 19 = .ok (.iconst 1, 1) := by decide +kernel
theorem dX4_init_20 : decode cX4_init 20 = .ok (.iconst (-1), 1) := by decide +kernel
theorem dX4_init_21 : decode cX4_init 21 = .ok (.iastore, 1) := by decide +kernel
theorem dX4_init_22 : decode cX4_init 22 = .ok (.dup, 1) := by decide +kernel
theorem dX4_init_23 : decode cX4_init 23 = .ok (.iconst 2, 1) := by decide +kernel
theorem dX4_init_24 : decode cX4_init 24 = .ok (.iconst (-1), 1) := by decide +kernel
theorem dX4_init_25 : decode cX4_init 25 = .ok (.iastore, 1) := by decide +kernel
theorem dX4_init_26 : decode cX4_init 26 = .ok (.dup, 1) := by decide +kernel
theorem dX4_init_27 : decode cX4_init 27 = .ok (.iconst 3, 1) := by decide +kernel
theorem dX4_init_28 : decode cX4_init 28 = .ok (.iconst (-1), 1) := by decide +kernel
theorem dX4_init_29 : decode cX4_init 29 = .ok (.iastore, 1) := by decide +kernel
theorem dX4_init_30 : decode cX4_init 30 = .ok (.dup, 1) := by decide +kernel
theorem dX4_init_31 : decode cX4_init 31 = .ok (.iconst 4, 1) := by decide +kernel
theorem dX4_init_32 : decode cX4_init 32 = .ok (.iconst (-1), 1) := by decide +kernel
theorem dX4_init_33 : decode cX4_init 33 = .ok (.iastore, 1) := by decide +kernel
theorem dX4_init_34 : decode cX4_init 34 = .ok (.dup, 1) := by decide +kernel
theorem dX4_init_35 : decode cX4_init 35 = .ok (.iconst 5, 1) := by decide +kernel
theorem dX4_init_36 : decode cX4_init 36 = .ok (.iconst (-1), 1) := by decide +kernel
theorem dX4_init_37 : decode cX4_init 37 = .ok (.iastore, 1) := by decide +kernel
theorem dX4_init_38 : decode cX4_init 38 = .ok (.dup, 1) := by decide +kernel
theorem dX4_init_39 : decode cX4_init 39 = .ok (.bipush 6, 2) := by decide +kernel
theorem dX4_init_41 : decode cX4_init 41 = .ok (.iconst (-1), 1) := by decide +kernel
theorem dX4_init_42 : decode cX4_init 42 = .ok (.iastore, 1) := by decide +kernel
theorem dX4_init_43 : decode cX4_init 43 = .ok (.dup, 1) := by decide +kernel
theorem dX4_init_44 : decode cX4_init 44 = .ok (.bipush 7, 2) := by decide +kernel
theorem dX4_init_46 : decode cX4_init 46 = .ok (.iconst (-1), 1) := by decide +kernel
theorem dX4_init_47 : decode cX4_init 47 = .ok (.iastore, 1) := by decide +kernel
theorem dX4_init_48 : decode cX4_init 48 = .ok (.putfield 13, 3) := by decide +kernel
theorem dX4_init_51 : decode cX4_init 51 = .ok (.aload_n 0, 1) := by decide +kernel
theorem dX4_init_52 : decode cX4_init 52 = .ok (.new 17, 3) := by decide +kernel
theorem dX4_init_55 : decode cX4_init 55 = .ok (.dup, 1) := by decide +kernel
theorem dX4_init_56 : decode cX4_init 56 = .ok (.aload_n 0, 1) := by decide +kernel
theorem dX4_init_57 : decode cX4_init 57 = .ok (.invokespecial 19, 3) := by decide +kernel
theorem dX4_init_60 : decode cX4_init 60 = .ok (.putfield 22, 3) := by decide +kernel
theorem dX4_init_63 : decode cX4_init 63 = .ok (.aload_n 0, 1) := by decide +kernel
theorem dX4_init_64 : decode cX4_init 64 = .ok (.new 17, 3) := by decide +kernel
theorem dX4_init_67 : decode cX4_init 67 = .ok (.dup, 1) := by decide +kernel
theorem dX4_init_68 : decode cX4_init 68 = .ok (.aload_n 0, 1) := by decide +kernel
theorem dX4_init_69 : decode cX4_init 69 = .ok (.invokespecial 19, 3) := by decide +kernel
theorem dX4_init_72 : decode cX4_init 72 = .ok (.putfield 26, 3) := by decide +kernel
theorem dX4_init_75 : decode cX4_init 75 = .ok (.return_, 1) := by decide +kernel
theorem dX4_thrown_0 : decode cX4_thrown 0 = .ok (.aload_n 0, 1) := by decide +kernel
theorem dX4_thrown_1 : decode cX4_thrown 1 = .ok (.getfield 29, 3) := by decide +kernel
theorem dX4_thrown_4 : decode cX4_thrown 4 = .ok (.ireturn, 1) := by decide +kernel
theorem dX4_no_0 : decode cX4_no 0 = .ok (.aload_n 0, 1) := by decide +kernel
theorem dX4_no_1 : decode cX4_no 1 = .ok (.iload_n 1, 1) := by decide +kernel
theorem dX4_no_2 : decode cX4_no 2 = .ok (.putfield 29, 3) := by decide +kernel
theorem dX4_no_5 : decode cX4_no 5 = .ok (.iconst 0, 1) := by decide +kernel
theorem dX4_no_6 : decode cX4_no 6 = .ok (.ireturn, 1) := by decide +kernel
theorem dX4_isIn_0 : decode cX4_isIn 0 = .ok (.iload_n 0, 1) := by decide +kernel
theorem dX4_isIn_1 : decode cX4_isIn 1 = .ok (.iload_n 1, 1) := by decide +kernel
theorem dX4_isIn_2 : decode cX4_isIn 2 = .ok (.if_icmp .lt 12, 3) := by decide +kernel
theorem dX4_isIn_5 : decode cX4_isIn 5 = .ok (.iload_n 0, 1) := by decide +kernel
theorem dX4_isIn_6 : decode cX4_isIn 6 = .ok (.iload_n 2, 1) := by decide +kernel
theorem dX4_isIn_7 : decode cX4_isIn 7 = .ok (.if_icmp .gt 7, 3) := by decide +kernel
theorem dX4_isIn_10 : decode cX4_isIn 10 = .ok (.iconst 1, 1) := by decide +kernel
theorem dX4_isIn_11 : decode cX4_isIn 11 = .ok (.goto 4, 3) := by decide +kernel
theorem dX4_isIn_14 : decode cX4_isIn 14 = .ok (.iconst 0, 1) := by decide +kernel
theorem dX4_isIn_15 : decode cX4_isIn 15 = .ok (.ireturn, 1) := by decide +kernel
set_option maxRecDepth 20000 in
theorem ggX4_isMember_X4_isIn : GoodIn wsX4_isMember wsX4_isIn := goodIn_r _ [5] (by decide +kernel) (by decide +kernel)
set_option maxRecDepth 20000 in
theorem gX4_isMember_X4_isIn : GoodIn wsX4_isMember (va_wsS RX4 35 yX4_isIn wsX4_isIn) := goodIn_app (goodIn_of _ (by decide +kernel)) ggX4_isMember_X4_isIn
theorem dX4_isMember_0 : decode cX4_isMember 0 = .ok (.iload_n 1, 1) := by decide +kernel
theorem dX4_isMember_1 : decode cX4_isMember 1 = .ok (.iconst 0, 1) := by decide +kernel
theorem dX4_isMember_2 : decode cX4_isMember 2 = .ok (.aload_n 0, 1) := by decide +kernel
theorem dX4_isMember_3 : decode cX4_isMember 3 = .ok (.getfield 22, 3) := by decide +kernel
theorem dX4_isMember_6 : decode cX4_isMember 6 = .ok (.getfield 32, 3) := by decide +kernel
theorem dX4_isMember_9 : decode cX4_isMember 9 = .ok (.iconst 1, 1) := by decide +kernel
theorem dX4_isMember_10 : decode cX4_isMember 10 = .ok (.isub, 1) := by decide +kernel
theorem dX4_isMember_11 : decode cX4_isMember 11 = .ok (.invokestatic 35, 3) := by decide +kernel
theorem dX4_isMember_14 : decode cX4_isMember 14 = .ok (.ireturn, 1) := by decide +kernel
set_option maxRecDepth 20000 in
theorem ggX4_isDead_X3_of : GoodIn wsX4_isDead wsX3_of := goodIn_r _ [6, 7, 13, 14, 15, 16, 17, 18, 19, 20, 21, 22, 23, 24] (by decide +kernel) (by decide +kernel)
set_option maxRecDepth 20000 in
theorem gX4_isDead_X3_of : GoodIn wsX4_isDead (wsV RX4 39 RX3 yX3_of wsX3_of) := goodIn_app (goodIn_of _ (by decide +kernel)) ggX4_isDead_X3_of
theorem dX4_isDead_0 : decode cX4_isDead 0 = .ok (.aload_n 0, 1) := by decide +kernel
theorem dX4_isDead_1 : decode cX4_isDead 1 = .ok (.getfield 22, 3) := by decide +kernel
theorem dX4_isDead_4 : decode cX4_isDead 4 = .ok (.iload_n 1, 1) := by decide +kernel
theorem dX4_isDead_5 : decode cX4_isDead 5 = .ok (.bipush 6, 2) := by decide +kernel
theorem dX4_isDead_7 : decode cX4_isDead 7 = .ok (.invokevirtual 39, 3) := by decide +kernel
theorem dX4_isDead_10 : decode cX4_isDead 10 = .ok (.iconst 2, 1) := by decide +kernel
theorem dX4_isDead_11 : decode cX4_isDead 11 = .ok (.if_icmp .ne 7, 3) := by decide +kernel
theorem dX4_isDead_14 : decode cX4_isDead 14 = .ok (.iconst 1, 1) := by decide +kernel
theorem dX4_isDead_15 : decode cX4_isDead 15 = .ok (.goto 4, 3) := by decide +kernel
theorem dX4_isDead_18 : decode cX4_isDead 18 = .ok (.iconst 0, 1) := by decide +kernel
theorem dX4_isDead_19 : decode cX4_isDead 19 = .ok (.ireturn, 1) := by decide +kernel
set_option maxRecDepth 20000 in
theorem ggX4_others_X3_there : GoodIn wsX4_others wsX3_there := goodIn_r _ [6, 7, 8, 9, 10, 5, 11, 12, 19, 20, 21, 22, 23, 24, 25, 26, 27, 28, 29, 30] (by decide +kernel) (by decide +kernel)
set_option maxRecDepth 20000 in
theorem gX4_others_X3_there : GoodIn wsX4_others (wsV RX4 43 RX3 yX3_there wsX3_there) := goodIn_app (goodIn_of _ (by decide +kernel)) ggX4_others_X3_there
set_option maxRecDepth 20000 in
theorem ggX4_others_X3_of : GoodIn wsX4_others wsX3_of := goodIn_r _ [11, 12, 19, 20, 21, 22, 23, 24, 25, 26, 27, 28, 29, 30] (by decide +kernel) (by decide +kernel)
set_option maxRecDepth 20000 in
theorem gX4_others_X3_of : GoodIn wsX4_others (wsV RX4 39 RX3 yX3_of wsX3_of) := goodIn_app (goodIn_of _ (by decide +kernel)) ggX4_others_X3_of
theorem dX4_others_0 : decode cX4_others 0 = .ok (.aload_n 0, 1) := by decide +kernel
theorem dX4_others_1 : decode cX4_others 1 = .ok (.getfield 22, 3) := by decide +kernel
theorem dX4_others_4 : decode cX4_others 4 = .ok (.iload_n 2, 1) := by decide +kernel
theorem dX4_others_5 : decode cX4_others 5 = .ok (.invokevirtual 43, 3) := by decide +kernel
theorem dX4_others_8 : decode cX4_others 8 = .ok (.aload_n 0, 1) := by decide +kernel
theorem dX4_others_9 : decode cX4_others 9 = .ok (.getfield 22, 3) := by decide +kernel
theorem dX4_others_12 : decode cX4_others 12 = .ok (.iload_n 1, 1) := by decide +kernel
theorem dX4_others_13 : decode cX4_others 13 = .ok (.iconst 5, 1) := by decide +kernel
theorem dX4_others_14 : decode cX4_others 14 = .ok (.invokevirtual 39, 3) := by decide +kernel
theorem dX4_others_17 : decode cX4_others 17 = .ok (.iload_n 2, 1) := by decide +kernel
theorem dX4_others_18 : decode cX4_others 18 = .ok (.if_icmp .ne 7, 3) := by decide +kernel
theorem dX4_others_21 : decode cX4_others 21 = .ok (.iconst 1, 1) := by decide +kernel
theorem dX4_others_22 : decode cX4_others 22 = .ok (.goto 4, 3) := by decide +kernel
theorem dX4_others_25 : decode cX4_others 25 = .ok (.iconst 0, 1) := by decide +kernel
theorem dX4_others_26 : decode cX4_others 26 = .ok (.isub, 1) := by decide +kernel
theorem dX4_others_27 : decode cX4_others 27 = .ok (.ireturn, 1) := by decide +kernel
set_option maxRecDepth 20000 in
theorem ggX4_join_X4_isIn : GoodIn wsX4_join wsX4_isIn := goodIn_r _ [11] (by decide +kernel) (by decide +kernel)
set_option maxRecDepth 20000 in
theorem gX4_join_X4_isIn : GoodIn wsX4_join (va_wsS RX4 35 yX4_isIn wsX4_isIn) := goodIn_app (goodIn_of _ (by decide +kernel)) ggX4_join_X4_isIn
set_option maxRecDepth 20000 in
theorem ggX4_join_X4_no : GoodIn wsX4_join wsX4_no := goodIn_r _ [15, 1, 16, 17, 18, 19, 20] (by decide +kernel) (by decide +kernel)
set_option maxRecDepth 20000 in
theorem gX4_join_X4_no : GoodIn wsX4_join (wsV RX4 47 RX4 yX4_no wsX4_no) := goodIn_app (goodIn_of _ (by decide +kernel)) ggX4_join_X4_no
theorem dX4_join_0 : decode cX4_join 0 = .ok (.aload_n 0, 1) := by decide +kernel
theorem dX4_join_1 : decode cX4_join 1 = .ok (.iconst 0, 1) := by decide +kernel
theorem dX4_join_2 : decode cX4_join 2 = .ok (.putfield 29, 3) := by decide +kernel
theorem dX4_join_5 : decode cX4_join 5 = .ok (.iload_n 1, 1) := by decide +kernel
theorem dX4_join_6 : decode cX4_join 6 = .ok (.iconst 1, 1) := by decide +kernel
theorem dX4_join_7 : decode cX4_join 7 = .ok (.bipush 9, 2) := by decide +kernel
theorem dX4_join_9 : decode cX4_join 9 = .ok (.invokestatic 35, 3) := by decide +kernel
theorem dX4_join_12 : decode cX4_join 12 = .ok (.ifCond .eq 13, 3) := by decide +kernel
theorem dX4_join_15 : decode cX4_join 15 = .ok (.iload_n 2, 1) := by decide +kernel
theorem dX4_join_16 : decode cX4_join 16 = .ok (.iconst 1, 1) := by decide +kernel
theorem dX4_join_17 : decode cX4_join 17 = .ok (.bipush 20, 2) := by decide +kernel
theorem dX4_join_19 : decode cX4_join 19 = .ok (.invokestatic 35, 3) := by decide +kernel
theorem dX4_join_22 : decode cX4_join 22 = .ok (.ifCond .ne 9, 3) := by decide +kernel
theorem dX4_join_25 : decode cX4_join 25 = .ok (.aload_n 0, 1) := by decide +kernel
theorem dX4_join_26 : decode cX4_join 26 = .ok (.iconst 1, 1) := by decide +kernel
theorem dX4_join_27 : decode cX4_join 27 = .ok (.invokevirtual 47, 3) := by decide +kernel
theorem dX4_join_30 : decode cX4_join 30 = .ok (.ireturn, 1) := by decide +kernel
theorem dX4_join_31 : decode cX4_join 31 = .ok (.aload_n 0, 1) := by decide +kernel
theorem dX4_join_32 : decode cX4_join 32 = .ok (.getfield 22, 3) := by decide +kernel
theorem dX4_join_35 : decode cX4_join 35 = .ok (.getfield 32, 3) := by decide +kernel
theorem dX4_join_38 : decode cX4_join 38 = .ok (.bipush 12, 2) := by decide +kernel
theorem dX4_join_40 : decode cX4_join 40 = .ok (.if_icmp .ne 9, 3) := by decide +kernel
theorem dX4_join_43 : decode cX4_join 43 = .ok (.aload_n 0, 1) := by decide +kernel
theorem dX4_join_44 : decode cX4_join 44 = .ok (.iconst 2, 1) := by decide +kernel
theorem dX4_join_45 : decode cX4_join 45 = .ok (.invokevirtual 47, 3) := by decide +kernel
theorem dX4_join_48 : decode cX4_join 48 = .ok (.ireturn, 1) := by decide +kernel
theorem dX4_join_49 : decode cX4_join 49 = .ok (.bipush 9, 2) := by decide +kernel
theorem dX4_join_51 : decode cX4_join 51 = .ok (.newarray .int, 2) := by decide +kernel
theorem dX4_join_53 : decode cX4_join 53 = .ok (.dup, 1) := by decide +kernel
theorem dX4_join_54 : decode cX4_join 54 = .ok (.iconst 0, 1) := by decide +kernel
theorem dX4_join_55 : decode cX4_join 55 = .ok (.iload_n 1, 1) := by decide +kernel
theorem dX4_join_56 : decode cX4_join 56 = .ok (.iastore, 1) := by decide +kernel
theorem dX4_join_57 : decode cX4_join 57 = .ok (.dup, 1) := by decide +kernel
theorem dX4_join_58 : decode cX4_join 58 = .ok (.iconst 1, 1) := by decide +kernel
theorem dX4_join_59 : decode cX4_join 59 = .ok (.iload_n 2, 1) := by decide +kernel
theorem dX4_join_60 : decode cX4_join 60 = .ok (.iastore, 1) := by decide +kernel
theorem dX4_join_61 : decode cX4_join 61 = .ok (.dup, 1) := by decide +kernel
theorem dX4_join_62 : decode cX4_join 62 = .ok (.iconst 2, 1) := by decide +kernel
theorem dX4_join_63 : decode cX4_join 63 = .ok (.bipush 10, 2) := by decide +kernel
theorem dX4_join_65 : decode cX4_join 65 = .ok (.iastore, 1) := by decide +kernel
theorem dX4_join_66 : decode cX4_join 66 = .ok (.dup, 1) := by decide +kernel
theorem dX4_join_67 : decode cX4_join 67 = .ok (.iconst 3, 1) := by decide +kernel
theorem dX4_join_68 : decode cX4_join 68 = .ok (.iconst 0, 1) := by decide +kernel
theorem dX4_join_69 : decode cX4_join 69 = .ok (.iastore, 1) := by decide +kernel
theorem dX4_join_70 : decode cX4_join 70 = .ok (.dup, 1) := by decide +kernel
theorem dX4_join_71 : decode cX4_join 71 = .ok (.iconst 4, 1) := by decide +kernel
theorem dX4_join_72 : decode cX4_join 72 = .ok (.iconst 0, 1) := by decide +kernel
theorem dX4_join_73 : decode cX4_join 73 = .ok (.iastore, 1) := by decide +kernel
theorem dX4_join_74 : decode cX4_join 74 = .ok (.dup, 1) := by decide +kernel
theorem dX4_join_75 : decode cX4_join 75 = .ok (.iconst 5, 1) := by decide +kernel
theorem dX4_join_76 : decode cX4_join 76 = .ok (.iconst (-1), 1) := by decide +kernel
theorem dX4_join_77 : decode cX4_join 77 = .ok (.iastore, 1) := by decide +kernel
theorem dX4_join_78 : decode cX4_join 78 = .ok (.dup, 1) := by decide +kernel
theorem dX4_join_79 : decode cX4_join 79 = .ok (.bipush 6, 2) := by decide +kernel
theorem dX4_join_81 : decode cX4_join 81 = .ok (.iconst 0, 1) := by decide +kernel
theorem dX4_join_82 : decode cX4_join 82 = .ok (.iastore, 1) := by decide +kernel
theorem dX4_join_83 : decode cX4_join 83 = .ok (.dup, 1) := by decide +kernel
theorem dX4_join_84 : decode cX4_join 84 = .ok (.bipush 7, 2) := by decide +kernel
theorem dX4_join_86 : decode cX4_join 86 = .ok (.iconst 0, 1) := by decide +kernel
theorem dX4_join_87 : decode cX4_join 87 = .ok (.iastore, 1) := by decide +kernel
theorem dX4_join_88 : decode cX4_join 88 = .ok (.dup, 1) := by decide +kernel
theorem dX4_join_89 : decode cX4_join 89 = .ok (.bipush 8, 2) := by decide +kernel
theorem dX4_join_91 : decode cX4_join 91 = .ok (.iconst 0, 1) := by decide +kernel
theorem dX4_join_92 : decode cX4_join 92 = .ok (.iastore, 1) := by decide +kernel
theorem dX4_join_93 : decode cX4_join 93 = .ok (.astore_n 3, 1) := by decide +kernel
theorem dX4_join_94 : decode cX4_join 94 = .ok (.aload_n 3, 1) := by decide +kernel
theorem dX4_join_95 : decode cX4_join 95 = .ok (.iconst 0, 1) := by decide +kernel
theorem dX4_join_96 : decode cX4_join 96 = .ok (.aload_n 0, 1) := by decide +kernel
theorem dX4_join_97 : decode cX4_join 97 = .ok (.getfield 22, 3) := by decide +kernel
theorem dX4_join_100 : decode cX4_join 100 = .ok (.getfield 50, 3) := by decide +kernel
theorem dX4_join_103 : decode cX4_join 103 = .ok (.bipush 9, 2) := by decide +kernel
theorem dX4_join_105 : decode cX4_join 105 = .ok (.aload_n 0, 1) := by decide +kernel
theorem dX4_join_106 : decode cX4_join 106 = .ok (.getfield 22, 3) := by decide +kernel
theorem dX4_join_109 : decode cX4_join 109 = .ok (.getfield 32, 3) := by decide +kernel
theorem dX4_join_112 : decode cX4_join 112 = .ok (.imul, 1) := by decide +kernel
theorem dX4_join_113 : decode cX4_join 113 = .ok (.bipush 9, 2) := by decide +kernel
theorem dX4_join_115 : decode cX4_join 115 = .ok (.invokestatic 53, 3) := by decide +kernel
theorem dX4_join_118 : decode cX4_join 118 = .ok (.aload_n 0, 1) := by decide +kernel
theorem dX4_join_119 : decode cX4_join 119 = .ok (.getfield 22, 3) := by decide +kernel
theorem dX4_join_122 : decode cX4_join 122 = .ok (.dup, 1) := by decide +kernel
theorem dX4_join_123 : decode cX4_join 123 = .ok (.getfield 32, 3) := by decide +kernel
theorem dX4_join_126 : decode cX4_join 126 = .ok (.iconst 1, 1) := by decide +kernel
theorem dX4_join_127 : decode cX4_join 127 = .ok (.iadd, 1) := by decide +kernel
theorem dX4_join_128 : decode cX4_join 128 = .ok (.putfield 32, 3) := by decide +kernel
theorem dX4_join_131 : decode cX4_join 131 = .ok (.aload_n 0, 1) := by decide +kernel
theorem dX4_join_132 : decode cX4_join 132 = .ok (.getfield 22, 3) := by decide +kernel
theorem dX4_join_135 : decode cX4_join 135 = .ok (.getfield 32, 3) := by decide +kernel
theorem dX4_join_138 : decode cX4_join 138 = .ok (.iconst 1, 1) := by decide +kernel
theorem dX4_join_139 : decode cX4_join 139 = .ok (.isub, 1) := by decide +kernel
theorem dX4_join_140 : decode cX4_join 140 = .ok (.ireturn, 1) := by decide +kernel
set_option maxRecDepth 20000 in
theorem ggX4_place_X4_isMember : GoodIn wsX4_place wsX4_isMember := goodIn_r _ [7, 2, 8, 9, 6, 10, 39, 40, 41, 42, 43, 44, 45, 46, 47, 48, 49, 50, 51, 52, 53, 54, 55] (by decide +kernel) (by decide +kernel)
set_option maxRecDepth 20000 in
theorem gX4_place_X4_isMember : GoodIn wsX4_place (wsV RX4 59 RX4 yX4_isMember wsX4_isMember) := goodIn_app (goodIn_of _ (by decide +kernel)) ggX4_place_X4_isMember
set_option maxRecDepth 20000 in
theorem ggX4_place_X4_isIn : GoodIn wsX4_place wsX4_isIn := goodIn_r _ [10] (by decide +kernel) (by decide +kernel)
set_option maxRecDepth 20000 in
theorem gX4_place_X4_isIn : GoodIn wsX4_place (va_wsS RX4 35 yX4_isIn wsX4_isIn) := goodIn_app (goodIn_of _ (by decide +kernel)) ggX4_place_X4_isIn
set_option maxRecDepth 20000 in
theorem ggX4_place_X4_no : GoodIn wsX4_place wsX4_no := goodIn_r _ [14, 1, 39, 40, 41, 42, 43] (by decide +kernel) (by decide +kernel)
set_option maxRecDepth 20000 in
theorem gX4_place_X4_no : GoodIn wsX4_place (wsV RX4 47 RX4 yX4_no wsX4_no) := goodIn_app (goodIn_of _ (by decide +kernel)) ggX4_place_X4_no
set_option maxRecDepth 20000 in
theorem ggX4_place_X4_isDead : GoodIn wsX4_place wsX4_isDead := goodIn_r _ [18, 2, 19, 20, 21, 22, 23, 24, 39, 40, 41, 42, 43, 44, 45, 46, 47, 48, 49, 50, 51, 52, 53, 54, 55] (by decide +kernel) (by decide +kernel)
set_option maxRecDepth 20000 in
theorem gX4_place_X4_isDead : GoodIn wsX4_place (wsV RX4 63 RX4 yX4_isDead wsX4_isDead) := goodIn_app (goodIn_of _ (by decide +kernel)) ggX4_place_X4_isDead
set_option maxRecDepth 20000 in
theorem ggX4_place_X4_others : GoodIn wsX4_place wsX4_others := goodIn_r _ [28, 2, 29, 30, 31, 22, 32, 33, 34, 20, 21, 23, 24, 19, 39, 40, 41, 42, 43, 44, 45, 46, 47, 48, 49, 50, 51, 52, 53, 54, 55] (by decide +kernel) (by decide +kernel)
set_option maxRecDepth 20000 in
theorem gX4_place_X4_others : GoodIn wsX4_place (wsV RX4 66 RX4 yX4_others wsX4_others) := goodIn_app (goodIn_of _ (by decide +kernel)) ggX4_place_X4_others
set_option maxRecDepth 20000 in
theorem ggX4_place_X3_of : GoodIn wsX4_place wsX3_of := goodIn_r _ [23, 24, 44, 45, 46, 47, 48, 49, 50, 51, 52, 53, 54, 55] (by decide +kernel) (by decide +kernel)
set_option maxRecDepth 20000 in
theorem gX4_place_X3_of : GoodIn wsX4_place (wsV RX4 39 RX3 yX3_of wsX3_of) := goodIn_app (goodIn_of _ (by decide +kernel)) ggX4_place_X3_of
set_option maxRecDepth 20000 in
theorem ggX4_place_X3_set : GoodIn wsX4_place wsX3_set := goodIn_r _ [38, 24, 44, 45, 46, 47, 48, 49, 50, 51, 52, 53, 54, 55] (by decide +kernel) (by decide +kernel)
set_option maxRecDepth 20000 in
theorem gX4_place_X3_set : GoodIn wsX4_place (wsV RX4 69 RX3 yX3_set wsX3_set) := goodIn_app (goodIn_of _ (by decide +kernel)) ggX4_place_X3_set
theorem dX4_place_0 : decode cX4_place 0 = .ok (.aload_n 0, 1) := by decide +kernel
theorem dX4_place_1 : decode cX4_place 1 = .ok (.iconst 0, 1) := by decide +kernel
theorem dX4_place_2 : decode cX4_place 2 = .ok (.putfield 29, 3) := by decide +kernel
theorem dX4_place_5 : decode cX4_place 5 = .ok (.aload_n 0, 1) := by decide +kernel
theorem dX4_place_6 : decode cX4_place 6 = .ok (.iload_n 1, 1) := by decide +kernel
theorem dX4_place_7 : decode cX4_place 7 = .ok (.invokevirtual 59, 3) := by decide +kernel
theorem dX4_place_10 : decode cX4_place 10 = .ok (.ifCond .eq 12, 3) := by decide +kernel
theorem dX4_place_13 : decode cX4_place 13 = .ok (.iload_n 2, 1) := by decide +kernel
theorem dX4_place_14 : decode cX4_place 14 = .ok (.iconst (-1), 1) := by decide +kernel
theorem dX4_place_15 : decode cX4_place 15 = .ok (.iconst 2, 1) := by decide +kernel
theorem dX4_place_16 : decode cX4_place 16 = .ok (.invokestatic 35, 3) := by decide +kernel
theorem dX4_place_19 : decode cX4_place 19 = .ok (.ifCond .ne 9, 3) := by decide +kernel
theorem dX4_place_22 : decode cX4_place 22 = .ok (.aload_n 0, 1) := by decide +kernel
theorem dX4_place_23 : decode cX4_place 23 = .ok (.iconst 1, 1) := by decide +kernel
theorem dX4_place_24 : decode cX4_place 24 = .ok (.invokevirtual 47, 3) := by decide +kernel
theorem dX4_place_27 : decode cX4_place 27 = .ok (.ireturn, 1) := by decide +kernel
theorem dX4_place_28 : decode cX4_place 28 = .ok (.aload_n 0, 1) := by decide +kernel
theorem dX4_place_29 : decode cX4_place 29 = .ok (.iload_n 1, 1) := by decide +kernel
theorem dX4_place_30 : decode cX4_place 30 = .ok (.invokevirtual 63, 3) := by decide +kernel
theorem dX4_place_33 : decode cX4_place 33 = .ok (.ifCond .ne 18, 3) := by decide +kernel
theorem dX4_place_36 : decode cX4_place 36 = .ok (.iload_n 2, 1) := by decide +kernel
theorem dX4_place_37 : decode cX4_place 37 = .ok (.iconst (-1), 1) := by decide +kernel
theorem dX4_place_38 : decode cX4_place 38 = .ok (.if_icmp .eq 19, 3) := by decide +kernel
theorem dX4_place_41 : decode cX4_place 41 = .ok (.aload_n 0, 1) := by decide +kernel
theorem dX4_place_42 : decode cX4_place 42 = .ok (.iload_n 1, 1) := by decide +kernel
theorem dX4_place_43 : decode cX4_place 43 = .ok (.iload_n 2, 1) := by decide +kernel
theorem dX4_place_44 : decode cX4_place 44 = .ok (.invokevirtual 66, 3) := by decide +kernel
theorem dX4_place_47 : decode cX4_place 47 = .ok (.iconst 4, 1) := by decide +kernel
theorem dX4_place_48 : decode cX4_place 48 = .ok (.if_icmp .lt 9, 3) := by decide +kernel
theorem dX4_place_51 : decode cX4_place 51 = .ok (.aload_n 0, 1) := by decide +kernel
theorem dX4_place_52 : decode cX4_place 52 = .ok (.iconst 2, 1) := by decide +kernel
theorem dX4_place_53 : decode cX4_place 53 = .ok (.invokevirtual 47, 3) := by decide +kernel
theorem dX4_place_56 : decode cX4_place 56 = .ok (.ireturn, 1) := by decide +kernel
theorem dX4_place_57 : decode cX4_place 57 = .ok (.aload_n 0, 1) := by decide +kernel
theorem dX4_place_58 : decode cX4_place 58 = .ok (.getfield 22, 3) := by decide +kernel
theorem dX4_place_61 : decode cX4_place 61 = .ok (.iload_n 1, 1) := by decide +kernel
theorem dX4_place_62 : decode cX4_place 62 = .ok (.iconst 5, 1) := by decide +kernel
theorem dX4_place_63 : decode cX4_place 63 = .ok (.invokevirtual 39, 3) := by decide +kernel
theorem dX4_place_66 : decode cX4_place 66 = .ok (.istore_n 3, 1) := by decide +kernel
theorem dX4_place_67 : decode cX4_place 67 = .ok (.aload_n 0, 1) := by decide +kernel
theorem dX4_place_68 : decode cX4_place 68 = .ok (.getfield 22, 3) := by decide +kernel
theorem dX4_place_71 : decode cX4_place 71 = .ok (.iload_n 1, 1) := by decide +kernel
theorem dX4_place_72 : decode cX4_place 72 = .ok (.iconst 5, 1) := by decide +kernel
theorem dX4_place_73 : decode cX4_place 73 = .ok (.iload_n 2, 1) := by decide +kernel
theorem dX4_place_74 : decode cX4_place 74 = .ok (.invokevirtual 69, 3) := by decide +kernel
theorem dX4_place_77 : decode cX4_place 77 = .ok (.iload_n 3, 1) := by decide +kernel
theorem dX4_place_78 : decode cX4_place 78 = .ok (.ireturn, 1) := by decide +kernel
set_option maxRecDepth 20000 in
theorem ggX4_give_X4_isMember : GoodIn wsX4_give wsX4_isMember := goodIn_r _ [7, 2, 8, 9, 6, 10, 29, 30, 31, 32, 33, 34, 35, 36, 37, 38, 39, 40, 41, 42, 43, 44, 45] (by decide +kernel) (by decide +kernel)
set_option maxRecDepth 20000 in
theorem gX4_give_X4_isMember : GoodIn wsX4_give (wsV RX4 59 RX4 yX4_isMember wsX4_isMember) := goodIn_app (goodIn_of _ (by decide +kernel)) ggX4_give_X4_isMember
set_option maxRecDepth 20000 in
theorem ggX4_give_X4_no : GoodIn wsX4_give wsX4_no := goodIn_r _ [14, 1, 29, 30, 31, 32, 33] (by decide +kernel) (by decide +kernel)
set_option maxRecDepth 20000 in
theorem gX4_give_X4_no : GoodIn wsX4_give (wsV RX4 47 RX4 yX4_no wsX4_no) := goodIn_app (goodIn_of _ (by decide +kernel)) ggX4_give_X4_no
set_option maxRecDepth 20000 in
theorem ggX4_give_X4_isIn : GoodIn wsX4_give wsX4_isIn := goodIn_r _ [10] (by decide +kernel) (by decide +kernel)
set_option maxRecDepth 20000 in
theorem gX4_give_X4_isIn : GoodIn wsX4_give (va_wsS RX4 35 yX4_isIn wsX4_isIn) := goodIn_app (goodIn_of _ (by decide +kernel)) ggX4_give_X4_isIn
set_option maxRecDepth 20000 in
theorem ggX4_give_X4_isDead : GoodIn wsX4_give wsX4_isDead := goodIn_r _ [18, 2, 19, 20, 21, 22, 23, 24, 29, 30, 31, 32, 33, 34, 35, 36, 37, 38, 39, 40, 41, 42, 43, 44, 45] (by decide +kernel) (by decide +kernel)
set_option maxRecDepth 20000 in
theorem gX4_give_X4_isDead : GoodIn wsX4_give (wsV RX4 63 RX4 yX4_isDead wsX4_isDead) := goodIn_app (goodIn_of _ (by decide +kernel)) ggX4_give_X4_isDead
set_option maxRecDepth 20000 in
theorem ggX4_give_X3_of : GoodIn wsX4_give wsX3_of := goodIn_r _ [23, 24, 34, 35, 36, 37, 38, 39, 40, 41, 42, 43, 44, 45] (by decide +kernel) (by decide +kernel)
set_option maxRecDepth 20000 in
theorem gX4_give_X3_of : GoodIn wsX4_give (wsV RX4 39 RX3 yX3_of wsX3_of) := goodIn_app (goodIn_of _ (by decide +kernel)) ggX4_give_X3_of
set_option maxRecDepth 20000 in
theorem ggX4_give_X3_set : GoodIn wsX4_give wsX3_set := goodIn_r _ [28, 24, 34, 35, 36, 37, 38, 39, 40, 41, 42, 43, 44, 45] (by decide +kernel) (by decide +kernel)
set_option maxRecDepth 20000 in
theorem gX4_give_X3_set : GoodIn wsX4_give (wsV RX4 69 RX3 yX3_set wsX3_set) := goodIn_app (goodIn_of _ (by decide +kernel)) ggX4_give_X3_set
theorem dX4_give_0 : decode cX4_give 0 = .ok (.aload_n 0, 1) := by decide +kernel
theorem dX4_give_1 : decode cX4_give 1 = .ok (.iconst 0, 1) := by decide +kernel
theorem dX4_give_2 : decode cX4_give 2 = .ok (.putfield 29, 3) := by decide +kernel
theorem dX4_give_5 : decode cX4_give 5 = .ok (.aload_n 0, 1) := by decide +kernel
theorem dX4_give_6 : decode cX4_give 6 = .ok (.iload_n 1, 1) := by decide +kernel
theorem dX4_give_7 : decode cX4_give 7 = .ok (.invokevirtual 59, 3) := by decide +kernel
theorem dX4_give_10 : decode cX4_give 10 = .ok (.ifCond .eq 11, 3) := by decide +kernel
theorem dX4_give_13 : decode cX4_give 13 = .ok (.aload_n 0, 1) := by decide +kernel
theorem dX4_give_14 : decode cX4_give 14 = .ok (.iload_n 2, 1) := by decide +kernel
theorem dX4_give_15 : decode cX4_give 15 = .ok (.invokevirtual 59, 3) := by decide +kernel
theorem dX4_give_18 : decode cX4_give 18 = .ok (.ifCond .ne 9, 3) := by decide +kernel
theorem dX4_give_21 : decode cX4_give 21 = .ok (.aload_n 0, 1) := by decide +kernel
theorem dX4_give_22 : decode cX4_give 22 = .ok (.iconst 1, 1) := by decide +kernel
theorem dX4_give_23 : decode cX4_give 23 = .ok (.invokevirtual 47, 3) := by decide +kernel
theorem dX4_give_26 : decode cX4_give 26 = .ok (.ireturn, 1) := by decide +kernel
theorem dX4_give_27 : decode cX4_give 27 = .ok (.iload_n 3, 1) := by decide +kernel
theorem dX4_give_28 : decode cX4_give 28 = .ok (.iconst 1, 1) := by decide +kernel
theorem dX4_give_29 : decode cX4_give 29 = .ok (.bipush 99, 2) := by decide +kernel
theorem dX4_give_31 : decode cX4_give 31 = .ok (.invokestatic 35, 3) := by decide +kernel
theorem dX4_give_34 : decode cX4_give 34 = .ok (.ifCond .ne 9, 3) := by decide +kernel
theorem dX4_give_37 : decode cX4_give 37 = .ok (.aload_n 0, 1) := by decide +kernel
theorem dX4_give_38 : decode cX4_give 38 = .ok (.iconst 2, 1) := by decide +kernel
theorem dX4_give_39 : decode cX4_give 39 = .ok (.invokevirtual 47, 3) := by decide +kernel
theorem dX4_give_42 : decode cX4_give 42 = .ok (.ireturn, 1) := by decide +kernel
theorem dX4_give_43 : decode cX4_give 43 = .ok (.iload_n 1, 1) := by decide +kernel
theorem dX4_give_44 : decode cX4_give 44 = .ok (.iload_n 2, 1) := by decide +kernel
theorem dX4_give_45 : decode cX4_give 45 = .ok (.if_icmp .eq 32, 3) := by decide +kernel
theorem dX4_give_48 : decode cX4_give 48 = .ok (.aload_n 0, 1) := by decide +kernel
theorem dX4_give_49 : decode cX4_give 49 = .ok (.iload_n 1, 1) := by decide +kernel
theorem dX4_give_50 : decode cX4_give 50 = .ok (.invokevirtual 63, 3) := by decide +kernel
theorem dX4_give_53 : decode cX4_give 53 = .ok (.ifCond .ne 24, 3) := by decide +kernel
theorem dX4_give_56 : decode cX4_give 56 = .ok (.aload_n 0, 1) := by decide +kernel
theorem dX4_give_57 : decode cX4_give 57 = .ok (.iload_n 2, 1) := by decide +kernel
theorem dX4_give_58 : decode cX4_give 58 = .ok (.invokevirtual 63, 3) := by decide +kernel
theorem dX4_give_61 : decode cX4_give 61 = .ok (.ifCond .ne 16, 3) := by decide +kernel
theorem dX4_give_64 : decode cX4_give 64 = .ok (.aload_n 0, 1) := by decide +kernel
theorem dX4_give_65 : decode cX4_give 65 = .ok (.getfield 22, 3) := by decide +kernel
theorem dX4_give_68 : decode cX4_give 68 = .ok (.iload_n 1, 1) := by decide +kernel
theorem dX4_give_69 : decode cX4_give 69 = .ok (.iconst 2, 1) := by decide +kernel
theorem dX4_give_70 : decode cX4_give 70 = .ok (.invokevirtual 39, 3) := by decide +kernel
theorem dX4_give_73 : decode cX4_give 73 = .ok (.iload_n 3, 1) := by decide +kernel
theorem dX4_give_74 : decode cX4_give 74 = .ok (.if_icmp .ge 9, 3) := by decide +kernel
theorem dX4_give_77 : decode cX4_give 77 = .ok (.aload_n 0, 1) := by decide +kernel
theorem dX4_give_78 : decode cX4_give 78 = .ok (.iconst 3, 1) := by decide +kernel
theorem dX4_give_79 : decode cX4_give 79 = .ok (.invokevirtual 47, 3) := by decide +kernel
theorem dX4_give_82 : decode cX4_give 82 = .ok (.ireturn, 1) := by decide +kernel
theorem dX4_give_83 : decode cX4_give 83 = .ok (.aload_n 0, 1) := by decide +kernel
theorem dX4_give_84 : decode cX4_give 84 = .ok (.getfield 22, 3) := by decide +kernel
theorem dX4_give_87 : decode cX4_give 87 = .ok (.iload_n 1, 1) := by decide +kernel
theorem dX4_give_88 : decode cX4_give 88 = .ok (.iconst 2, 1) := by decide +kernel
theorem dX4_give_89 : decode cX4_give 89 = .ok (.aload_n 0, 1) := by decide +kernel
theorem dX4_give_90 : decode cX4_give 90 = .ok (.getfield 22, 3) := by decide +kernel
theorem dX4_give_93 : decode cX4_give 93 = .ok (.iload_n 1, 1) := by decide +kernel
theorem dX4_give_94 : decode cX4_give 94 = .ok (.iconst 2, 1) := by decide +kernel
theorem dX4_give_95 : decode cX4_give 95 = .ok (.invokevirtual 39, 3) := by decide +kernel
theorem dX4_give_98 : decode cX4_give 98 = .ok (.iload_n 3, 1) := by decide +kernel
theorem dX4_give_99 : decode cX4_give 99 = .ok (.isub, 1) := by decide +kernel
theorem dX4_give_100 : decode cX4_give 100 = .ok (.invokevirtual 69, 3) := by decide +kernel
theorem dX4_give_103 : decode cX4_give 103 = .ok (.aload_n 0, 1) := by decide +kernel
theorem dX4_give_104 : decode cX4_give 104 = .ok (.getfield 22, 3) := by decide +kernel
theorem dX4_give_107 : decode cX4_give 107 = .ok (.iload_n 2, 1) := by decide +kernel
theorem dX4_give_108 : decode cX4_give 108 = .ok (.iconst 2, 1) := by decide +kernel
theorem dX4_give_109 : decode cX4_give 109 = .ok (.aload_n 0, 1) := by decide +kernel
theorem dX4_give_110 : decode cX4_give 110 = .ok (.getfield 22, 3) := by decide +kernel
theorem dX4_give_113 : decode cX4_give 113 = .ok (.iload_n 2, 1) := by decide +kernel
theorem dX4_give_114 : decode cX4_give 114 = .ok (.iconst 2, 1) := by decide +kernel
theorem dX4_give_115 : decode cX4_give 115 = .ok (.invokevirtual 39, 3) := by decide +kernel
theorem dX4_give_118 : decode cX4_give 118 = .ok (.iload_n 3, 1) := by decide +kernel
theorem dX4_give_119 : decode cX4_give 119 = .ok (.iadd, 1) := by decide +kernel
theorem dX4_give_120 : decode cX4_give 120 = .ok (.invokevirtual 69, 3) := by decide +kernel
theorem dX4_give_123 : decode cX4_give 123 = .ok (.aload_n 0, 1) := by decide +kernel
theorem dX4_give_124 : decode cX4_give 124 = .ok (.getfield 22, 3) := by decide +kernel
theorem dX4_give_127 : decode cX4_give 127 = .ok (.iload_n 1, 1) := by decide +kernel
theorem dX4_give_128 : decode cX4_give 128 = .ok (.iconst 2, 1) := by decide +kernel
theorem dX4_give_129 : decode cX4_give 129 = .ok (.invokevirtual 39, 3) := by decide +kernel
theorem dX4_give_132 : decode cX4_give 132 = .ok (.ireturn, 1) := by decide +kernel
set_option maxRecDepth 20000 in
theorem ggX4_settle_X4_isMember : GoodIn wsX4_settle wsX4_isMember := goodIn_r _ [7, 2, 8, 9, 6, 10, 39, 40, 41, 42, 43, 44, 45, 46, 47, 48, 49, 50, 51, 52, 53, 54, 55] (by decide +kernel) (by decide +kernel)
set_option maxRecDepth 20000 in
theorem gX4_settle_X4_isMember : GoodIn wsX4_settle (wsV RX4 59 RX4 yX4_isMember wsX4_isMember) := goodIn_app (goodIn_of _ (by decide +kernel)) ggX4_settle_X4_isMember
set_option maxRecDepth 20000 in
theorem ggX4_settle_X4_no : GoodIn wsX4_settle wsX4_no := goodIn_r _ [14, 1, 39, 40, 41, 42, 43] (by decide +kernel) (by decide +kernel)
set_option maxRecDepth 20000 in
theorem gX4_settle_X4_no : GoodIn wsX4_settle (wsV RX4 47 RX4 yX4_no wsX4_no) := goodIn_app (goodIn_of _ (by decide +kernel)) ggX4_settle_X4_no
set_option maxRecDepth 20000 in
theorem ggX4_settle_X4_isDead : GoodIn wsX4_settle wsX4_isDead := goodIn_r _ [18, 2, 19, 20, 21, 22, 23, 24, 39, 40, 41, 42, 43, 44, 45, 46, 47, 48, 49, 50, 51, 52, 53, 54, 55] (by decide +kernel) (by decide +kernel)
set_option maxRecDepth 20000 in
theorem gX4_settle_X4_isDead : GoodIn wsX4_settle (wsV RX4 63 RX4 yX4_isDead wsX4_isDead) := goodIn_app (goodIn_of _ (by decide +kernel)) ggX4_settle_X4_isDead
set_option maxRecDepth 20000 in
theorem ggX4_settle_X3_settle : GoodIn wsX4_settle wsX3_settle := goodIn_r _ [28, 29, 30, 31, 32, 33, 34, 20, 21, 22, 23, 24, 35, 36, 37, 38, 44, 45, 46, 47, 48, 49, 50, 51, 52, 53, 54, 55] (by decide +kernel) (by decide +kernel)
set_option maxRecDepth 20000 in
theorem gX4_settle_X3_settle : GoodIn wsX4_settle (wsV RX4 73 RX3 yX3_settle wsX3_settle) := goodIn_app (goodIn_of _ (by decide +kernel)) ggX4_settle_X3_settle
theorem dX4_settle_0 : decode cX4_settle 0 = .ok (.aload_n 0, 1) := by decide +kernel
theorem dX4_settle_1 : decode cX4_settle 1 = .ok (.iconst 0, 1) := by decide +kernel
theorem dX4_settle_2 : decode cX4_settle 2 = .ok (.putfield 29, 3) := by decide +kernel
theorem dX4_settle_5 : decode cX4_settle 5 = .ok (.aload_n 0, 1) := by decide +kernel
theorem dX4_settle_6 : decode cX4_settle 6 = .ok (.iload_n 1, 1) := by decide +kernel
theorem dX4_settle_7 : decode cX4_settle 7 = .ok (.invokevirtual 59, 3) := by decide +kernel
theorem dX4_settle_10 : decode cX4_settle 10 = .ok (.ifCond .ne 9, 3) := by decide +kernel
theorem dX4_settle_13 : decode cX4_settle 13 = .ok (.aload_n 0, 1) := by decide +kernel
theorem dX4_settle_14 : decode cX4_settle 14 = .ok (.iconst 1, 1) := by decide +kernel
theorem dX4_settle_15 : decode cX4_settle 15 = .ok (.invokevirtual 47, 3) := by decide +kernel
theorem dX4_settle_18 : decode cX4_settle 18 = .ok (.ireturn, 1) := by decide +kernel
theorem dX4_settle_19 : decode cX4_settle 19 = .ok (.aload_n 0, 1) := by decide +kernel
theorem dX4_settle_20 : decode cX4_settle 20 = .ok (.iload_n 1, 1) := by decide +kernel
theorem dX4_settle_21 : decode cX4_settle 21 = .ok (.invokevirtual 63, 3) := by decide +kernel
theorem dX4_settle_24 : decode cX4_settle 24 = .ok (.ifCond .eq 11, 3) := by decide +kernel
theorem dX4_settle_27 : decode cX4_settle 27 = .ok (.aload_n 0, 1) := by decide +kernel
theorem dX4_settle_28 : decode cX4_settle 28 = .ok (.iconst 2, 1) := by decide +kernel
theorem dX4_settle_29 : decode cX4_settle 29 = .ok (.invokevirtual 47, 3) := by decide +kernel
theorem dX4_settle_32 : decode cX4_settle 32 = .ok (.goto 11, 3) := by decide +kernel
theorem dX4_settle_35 : decode cX4_settle 35 = .ok (.aload_n 0, 1) := by decide +kernel
theorem dX4_settle_36 : decode cX4_settle 36 = .ok (.getfield 22, 3) := by decide +kernel
theorem dX4_settle_39 : decode cX4_settle 39 = .ok (.iload_n 1, 1) := by decide +kernel
theorem dX4_settle_40 : decode cX4_settle 40 = .ok (.invokevirtual 73, 3) := by decide +kernel
theorem dX4_settle_43 : decode cX4_settle 43 = .ok (.ireturn, 1) := by decide +kernel
set_option maxRecDepth 20000 in
theorem ggX4_told_X4_isMember : GoodIn wsX4_told wsX4_isMember := goodIn_r _ [7, 2, 8, 9, 6, 10, 21, 22, 23, 24, 25, 26, 27, 28, 29, 30, 31, 32, 33, 34, 35, 36, 37] (by decide +kernel) (by decide +kernel)
set_option maxRecDepth 20000 in
theorem gX4_told_X4_isMember : GoodIn wsX4_told (wsV RX4 59 RX4 yX4_isMember wsX4_isMember) := goodIn_app (goodIn_of _ (by decide +kernel)) ggX4_told_X4_isMember
set_option maxRecDepth 20000 in
theorem ggX4_told_X4_isIn : GoodIn wsX4_told wsX4_isIn := goodIn_r _ [10] (by decide +kernel) (by decide +kernel)
set_option maxRecDepth 20000 in
theorem gX4_told_X4_isIn : GoodIn wsX4_told (va_wsS RX4 35 yX4_isIn wsX4_isIn) := goodIn_app (goodIn_of _ (by decide +kernel)) ggX4_told_X4_isIn
set_option maxRecDepth 20000 in
theorem ggX4_told_X3_of : GoodIn wsX4_told wsX3_of := goodIn_r _ [15, 16, 26, 27, 28, 29, 30, 31, 32, 33, 34, 35, 36, 37] (by decide +kernel) (by decide +kernel)
set_option maxRecDepth 20000 in
theorem gX4_told_X3_of : GoodIn wsX4_told (wsV RX4 39 RX3 yX3_of wsX3_of) := goodIn_app (goodIn_of _ (by decide +kernel)) ggX4_told_X3_of
set_option maxRecDepth 20000 in
theorem ggX4_told_X4_no : GoodIn wsX4_told wsX4_no := goodIn_r _ [20, 1, 21, 22, 23, 24, 25] (by decide +kernel) (by decide +kernel)
set_option maxRecDepth 20000 in
theorem gX4_told_X4_no : GoodIn wsX4_told (wsV RX4 47 RX4 yX4_no wsX4_no) := goodIn_app (goodIn_of _ (by decide +kernel)) ggX4_told_X4_no
theorem dX4_told_0 : decode cX4_told 0 = .ok (.aload_n 0, 1) := by decide +kernel
theorem dX4_told_1 : decode cX4_told 1 = .ok (.iconst 0, 1) := by decide +kernel
theorem dX4_told_2 : decode cX4_told 2 = .ok (.putfield 29, 3) := by decide +kernel
theorem dX4_told_5 : decode cX4_told 5 = .ok (.aload_n 0, 1) := by decide +kernel
theorem dX4_told_6 : decode cX4_told 6 = .ok (.iload_n 1, 1) := by decide +kernel
theorem dX4_told_7 : decode cX4_told 7 = .ok (.invokevirtual 59, 3) := by decide +kernel
theorem dX4_told_10 : decode cX4_told 10 = .ok (.ifCond .eq 25, 3) := by decide +kernel
theorem dX4_told_13 : decode cX4_told 13 = .ok (.iload_n 2, 1) := by decide +kernel
theorem dX4_told_14 : decode cX4_told 14 = .ok (.iconst 0, 1) := by decide +kernel
theorem dX4_told_15 : decode cX4_told 15 = .ok (.bipush 8, 2) := by decide +kernel
theorem dX4_told_17 : decode cX4_told 17 = .ok (.invokestatic 35, 3) := by decide +kernel
theorem dX4_told_20 : decode cX4_told 20 = .ok (.ifCond .eq 15, 3) := by decide +kernel
theorem dX4_told_23 : decode cX4_told 23 = .ok (.aload_n 0, 1) := by decide +kernel
theorem dX4_told_24 : decode cX4_told 24 = .ok (.getfield 22, 3) := by decide +kernel
theorem dX4_told_27 : decode cX4_told 27 = .ok (.iload_n 1, 1) := by decide +kernel
theorem dX4_told_28 : decode cX4_told 28 = .ok (.iload_n 2, 1) := by decide +kernel
theorem dX4_told_29 : decode cX4_told 29 = .ok (.invokevirtual 39, 3) := by decide +kernel
theorem dX4_told_32 : decode cX4_told 32 = .ok (.goto 8, 3) := by decide +kernel
theorem dX4_told_35 : decode cX4_told 35 = .ok (.aload_n 0, 1) := by decide +kernel
theorem dX4_told_36 : decode cX4_told 36 = .ok (.iconst 1, 1) := by decide +kernel
theorem dX4_told_37 : decode cX4_told 37 = .ok (.invokevirtual 47, 3) := by decide +kernel
theorem dX4_told_40 : decode cX4_told 40 = .ok (.ireturn, 1) := by decide +kernel
set_option maxRecDepth 20000 in
theorem ggX4_owes_X3_of : GoodIn wsX4_owes wsX3_of := goodIn_r _ [7, 8, 14, 15, 16, 17, 18, 19, 20, 21, 22, 23, 24, 25] (by decide +kernel) (by decide +kernel)
set_option maxRecDepth 20000 in
theorem gX4_owes_X3_of : GoodIn wsX4_owes (wsV RX4 39 RX3 yX3_of wsX3_of) := goodIn_app (goodIn_of _ (by decide +kernel)) ggX4_owes_X3_of
theorem dX4_owes_0 : decode cX4_owes 0 = .ok (.aload_n 0, 1) := by decide +kernel
theorem dX4_owes_1 : decode cX4_owes 1 = .ok (.iconst 0, 1) := by decide +kernel
theorem dX4_owes_2 : decode cX4_owes 2 = .ok (.putfield 29, 3) := by decide +kernel
theorem dX4_owes_5 : decode cX4_owes 5 = .ok (.iconst (-1), 1) := by decide +kernel
theorem dX4_owes_6 : decode cX4_owes 6 = .ok (.istore_n 1, 1) := by decide +kernel
theorem dX4_owes_7 : decode cX4_owes 7 = .ok (.iconst 0, 1) := by decide +kernel
theorem dX4_owes_8 : decode cX4_owes 8 = .ok (.istore_n 2, 1) := by decide +kernel
theorem dX4_owes_9 : decode cX4_owes 9 = .ok (.iconst 0, 1) := by decide +kernel
theorem dX4_owes_10 : decode cX4_owes 10 = .ok (.istore_n 3, 1) := by decide +kernel
theorem dX4_owes_11 : decode cX4_owes 11 = .ok (.iload_n 3, 1) := by decide +kernel
theorem dX4_owes_12 : decode cX4_owes 12 = .ok (.aload_n 0, 1) := by decide +kernel
theorem dX4_owes_13 : decode cX4_owes 13 = .ok (.getfield 22, 3) := by decide +kernel
end
section
theorem dX4_owes_16 : decode cX4_owes 16 = .ok (.getfield 32, 3) := by decide +kernel
theorem dX4_owes_19 : decode cX4_owes 19 = .ok (.if_icmp .ge 37, 3) := by decide +kernel
theorem dX4_owes_22 : decode cX4_owes 22 = .ok (.aload_n 0, 1) := by decide +kernel
theorem dX4_owes_23 : decode cX4_owes 23 = .ok (.getfield 22, 3) := by decide +kernel
theorem dX4_owes_26 : decode cX4_owes 26 = .ok (.iload_n 3, 1) := by decide +kernel
theorem dX4_owes_27 : decode cX4_owes 27 = .ok (.iconst 3, 1) := by decide +kernel
theorem dX4_owes_28 : decode cX4_owes 28 = .ok (.invokevirtual 39, 3) := by decide +kernel
theorem dX4_owes_31 : decode cX4_owes 31 = .ok (.iload_n 2, 1) := by decide +kernel
theorem dX4_owes_32 : decode cX4_owes 32 = .ok (.if_icmp .gt 6, 3) := by decide +kernel
theorem dX4_owes_35 : decode cX4_owes 35 = .ok (.goto 15, 3) := by decide +kernel
theorem dX4_owes_38 : decode cX4_owes 38 = .ok (.iload_n 3, 1) := by decide +kernel
theorem dX4_owes_39 : decode cX4_owes 39 = .ok (.istore_n 1, 1) := by decide +kernel
theorem dX4_owes_40 : decode cX4_owes 40 = .ok (.aload_n 0, 1) := by decide +kernel
theorem dX4_owes_41 : decode cX4_owes 41 = .ok (.getfield 22, 3) := by decide +kernel
theorem dX4_owes_44 : decode cX4_owes 44 = .ok (.iload_n 3, 1) := by decide +kernel
theorem dX4_owes_45 : decode cX4_owes 45 = .ok (.iconst 3, 1) := by decide +kernel
theorem dX4_owes_46 : decode cX4_owes 46 = .ok (.invokevirtual 39, 3) := by decide +kernel
theorem dX4_owes_49 : decode cX4_owes 49 = .ok (.istore_n 2, 1) := by decide +kernel
theorem dX4_owes_50 : decode cX4_owes 50 = .ok (.iinc 3 1, 3) := by decide +kernel
theorem dX4_owes_53 : decode cX4_owes 53 = .ok (.goto (-42), 3) := by decide +kernel
theorem dX4_owes_56 : decode cX4_owes 56 = .ok (.iload_n 1, 1) := by decide +kernel
theorem dX4_owes_57 : decode cX4_owes 57 = .ok (.ireturn, 1) := by decide +kernel
set_option maxRecDepth 20000 in
theorem ggX4_setFever_X4_isIn : GoodIn wsX4_setFever wsX4_isIn := goodIn_r _ [6] (by decide +kernel) (by decide +kernel)
set_option maxRecDepth 20000 in
theorem gX4_setFever_X4_isIn : GoodIn wsX4_setFever (va_wsS RX4 35 yX4_isIn wsX4_isIn) := goodIn_app (goodIn_of _ (by decide +kernel)) ggX4_setFever_X4_isIn
set_option maxRecDepth 20000 in
theorem ggX4_setFever_X4_no : GoodIn wsX4_setFever wsX4_no := goodIn_r _ [10, 1, 11, 12, 13, 14, 15] (by decide +kernel) (by decide +kernel)
set_option maxRecDepth 20000 in
theorem gX4_setFever_X4_no : GoodIn wsX4_setFever (wsV RX4 47 RX4 yX4_no wsX4_no) := goodIn_app (goodIn_of _ (by decide +kernel)) ggX4_setFever_X4_no
theorem dX4_setFever_0 : decode cX4_setFever 0 = .ok (.aload_n 0, 1) := by decide +kernel
theorem dX4_setFever_1 : decode cX4_setFever 1 = .ok (.iconst 0, 1) := by decide +kernel
theorem dX4_setFever_2 : decode cX4_setFever 2 = .ok (.putfield 29, 3) := by decide +kernel
theorem dX4_setFever_5 : decode cX4_setFever 5 = .ok (.iload_n 1, 1) := by decide +kernel
theorem dX4_setFever_6 : decode cX4_setFever 6 = .ok (.iconst 0, 1) := by decide +kernel
theorem dX4_setFever_7 : decode cX4_setFever 7 = .ok (.bipush 7, 2) := by decide +kernel
theorem dX4_setFever_9 : decode cX4_setFever 9 = .ok (.invokestatic 35, 3) := by decide +kernel
theorem dX4_setFever_12 : decode cX4_setFever 12 = .ok (.ifCond .ne 9, 3) := by decide +kernel
theorem dX4_setFever_15 : decode cX4_setFever 15 = .ok (.aload_n 0, 1) := by decide +kernel
theorem dX4_setFever_16 : decode cX4_setFever 16 = .ok (.iconst 1, 1) := by decide +kernel
theorem dX4_setFever_17 : decode cX4_setFever 17 = .ok (.invokevirtual 47, 3) := by decide +kernel
theorem dX4_setFever_20 : decode cX4_setFever 20 = .ok (.ireturn, 1) := by decide +kernel
theorem dX4_setFever_21 : decode cX4_setFever 21 = .ok (.iload_n 2, 1) := by decide +kernel
theorem dX4_setFever_22 : decode cX4_setFever 22 = .ok (.iconst (-1), 1) := by decide +kernel
theorem dX4_setFever_23 : decode cX4_setFever 23 = .ok (.iconst 2, 1) := by decide +kernel
theorem dX4_setFever_24 : decode cX4_setFever 24 = .ok (.invokestatic 35, 3) := by decide +kernel
theorem dX4_setFever_27 : decode cX4_setFever 27 = .ok (.ifCond .ne 9, 3) := by decide +kernel
theorem dX4_setFever_30 : decode cX4_setFever 30 = .ok (.aload_n 0, 1) := by decide +kernel
theorem dX4_setFever_31 : decode cX4_setFever 31 = .ok (.iconst 2, 1) := by decide +kernel
theorem dX4_setFever_32 : decode cX4_setFever 32 = .ok (.invokevirtual 47, 3) := by decide +kernel
theorem dX4_setFever_35 : decode cX4_setFever 35 = .ok (.ireturn, 1) := by decide +kernel
theorem dX4_setFever_36 : decode cX4_setFever 36 = .ok (.aload_n 0, 1) := by decide +kernel
theorem dX4_setFever_37 : decode cX4_setFever 37 = .ok (.getfield 13, 3) := by decide +kernel
theorem dX4_setFever_40 : decode cX4_setFever 40 = .ok (.iload_n 1, 1) := by decide +kernel
theorem dX4_setFever_41 : decode cX4_setFever 41 = .ok (.iaload, 1) := by decide +kernel
theorem dX4_setFever_42 : decode cX4_setFever 42 = .ok (.istore_n 3, 1) := by decide +kernel
theorem dX4_setFever_43 : decode cX4_setFever 43 = .ok (.aload_n 0, 1) := by decide +kernel
theorem dX4_setFever_44 : decode cX4_setFever 44 = .ok (.getfield 13, 3) := by decide +kernel
theorem dX4_setFever_47 : decode cX4_setFever 47 = .ok (.iload_n 1, 1) := by decide +kernel
theorem dX4_setFever_48 : decode cX4_setFever 48 = .ok (.iload_n 2, 1) := by decide +kernel
theorem dX4_setFever_49 : decode cX4_setFever 49 = .ok (.iastore, 1) := by decide +kernel
theorem dX4_setFever_50 : decode cX4_setFever 50 = .ok (.iload_n 3, 1) := by decide +kernel
theorem dX4_setFever_51 : decode cX4_setFever 51 = .ok (.ireturn, 1) := by decide +kernel
set_option maxRecDepth 20000 in
theorem ggX4_setDues_X4_isIn : GoodIn wsX4_setDues wsX4_isIn := goodIn_r _ [6] (by decide +kernel) (by decide +kernel)
set_option maxRecDepth 20000 in
theorem gX4_setDues_X4_isIn : GoodIn wsX4_setDues (va_wsS RX4 35 yX4_isIn wsX4_isIn) := goodIn_app (goodIn_of _ (by decide +kernel)) ggX4_setDues_X4_isIn
set_option maxRecDepth 20000 in
theorem ggX4_setDues_X4_no : GoodIn wsX4_setDues wsX4_no := goodIn_r _ [10, 1, 11, 12, 13, 14, 15] (by decide +kernel) (by decide +kernel)
set_option maxRecDepth 20000 in
theorem gX4_setDues_X4_no : GoodIn wsX4_setDues (wsV RX4 47 RX4 yX4_no wsX4_no) := goodIn_app (goodIn_of _ (by decide +kernel)) ggX4_setDues_X4_no
theorem dX4_setDues_0 : decode cX4_setDues 0 = .ok (.aload_n 0, 1) := by decide +kernel
theorem dX4_setDues_1 : decode cX4_setDues 1 = .ok (.iconst 0, 1) := by decide +kernel
theorem dX4_setDues_2 : decode cX4_setDues 2 = .ok (.putfield 29, 3) := by decide +kernel
theorem dX4_setDues_5 : decode cX4_setDues 5 = .ok (.iload_n 1, 1) := by decide +kernel
theorem dX4_setDues_6 : decode cX4_setDues 6 = .ok (.iconst 0, 1) := by decide +kernel
theorem dX4_setDues_7 : decode cX4_setDues 7 = .ok (.iconst 3, 1) := by decide +kernel
theorem dX4_setDues_8 : decode cX4_setDues 8 = .ok (.invokestatic 35, 3) := by decide +kernel
theorem dX4_setDues_11 : decode cX4_setDues 11 = .ok (.ifCond .ne 9, 3) := by decide +kernel
theorem dX4_setDues_14 : decode cX4_setDues 14 = .ok (.aload_n 0, 1) := by decide +kernel
theorem dX4_setDues_15 : decode cX4_setDues 15 = .ok (.iconst 1, 1) := by decide +kernel
theorem dX4_setDues_16 : decode cX4_setDues 16 = .ok (.invokevirtual 47, 3) := by decide +kernel
theorem dX4_setDues_19 : decode cX4_setDues 19 = .ok (.ireturn, 1) := by decide +kernel
theorem dX4_setDues_20 : decode cX4_setDues 20 = .ok (.aload_n 0, 1) := by decide +kernel
theorem dX4_setDues_21 : decode cX4_setDues 21 = .ok (.getfield 7, 3) := by decide +kernel
theorem dX4_setDues_24 : decode cX4_setDues 24 = .ok (.istore_n 2, 1) := by decide +kernel
theorem dX4_setDues_25 : decode cX4_setDues 25 = .ok (.aload_n 0, 1) := by decide +kernel
theorem dX4_setDues_26 : decode cX4_setDues 26 = .ok (.iload_n 1, 1) := by decide +kernel
theorem dX4_setDues_27 : decode cX4_setDues 27 = .ok (.putfield 7, 3) := by decide +kernel
theorem dX4_setDues_30 : decode cX4_setDues 30 = .ok (.iload_n 2, 1) := by decide +kernel
theorem dX4_setDues_31 : decode cX4_setDues 31 = .ok (.ireturn, 1) := by decide +kernel
set_option maxRecDepth 20000 in
theorem ggX4_buy_X4_isIn : GoodIn wsX4_buy wsX4_isIn := goodIn_r _ [6] (by decide +kernel) (by decide +kernel)
set_option maxRecDepth 20000 in
theorem gX4_buy_X4_isIn : GoodIn wsX4_buy (va_wsS RX4 35 yX4_isIn wsX4_isIn) := goodIn_app (goodIn_of _ (by decide +kernel)) ggX4_buy_X4_isIn
set_option maxRecDepth 20000 in
theorem ggX4_buy_X4_no : GoodIn wsX4_buy wsX4_no := goodIn_r _ [10, 1, 11, 12, 13, 14, 15] (by decide +kernel) (by decide +kernel)
set_option maxRecDepth 20000 in
theorem gX4_buy_X4_no : GoodIn wsX4_buy (wsV RX4 47 RX4 yX4_no wsX4_no) := goodIn_app (goodIn_of _ (by decide +kernel)) ggX4_buy_X4_no
theorem dX4_buy_0 : decode cX4_buy 0 = .ok (.aload_n 0, 1) := by decide +kernel
theorem dX4_buy_1 : decode cX4_buy 1 = .ok (.iconst 0, 1) := by decide +kernel
theorem dX4_buy_2 : decode cX4_buy 2 = .ok (.putfield 29, 3) := by decide +kernel
theorem dX4_buy_5 : decode cX4_buy 5 = .ok (.iload_n 1, 1) := by decide +kernel
theorem dX4_buy_6 : decode cX4_buy 6 = .ok (.iconst 0, 1) := by decide +kernel
theorem dX4_buy_7 : decode cX4_buy 7 = .ok (.iconst 1, 1) := by decide +kernel
theorem dX4_buy_8 : decode cX4_buy 8 = .ok (.invokestatic 35, 3) := by decide +kernel
theorem dX4_buy_11 : decode cX4_buy 11 = .ok (.ifCond .ne 9, 3) := by decide +kernel
theorem dX4_buy_14 : decode cX4_buy 14 = .ok (.aload_n 0, 1) := by decide +kernel
theorem dX4_buy_15 : decode cX4_buy 15 = .ok (.iconst 1, 1) := by decide +kernel
theorem dX4_buy_16 : decode cX4_buy 16 = .ok (.invokevirtual 47, 3) := by decide +kernel
theorem dX4_buy_19 : decode cX4_buy 19 = .ok (.ireturn, 1) := by decide +kernel
theorem dX4_buy_20 : decode cX4_buy 20 = .ok (.iload_n 2, 1) := by decide +kernel
theorem dX4_buy_21 : decode cX4_buy 21 = .ok (.iconst 1, 1) := by decide +kernel
theorem dX4_buy_22 : decode cX4_buy 22 = .ok (.sipush 200, 3) := by decide +kernel
theorem dX4_buy_25 : decode cX4_buy 25 = .ok (.invokestatic 35, 3) := by decide +kernel
theorem dX4_buy_28 : decode cX4_buy 28 = .ok (.ifCond .ne 9, 3) := by decide +kernel
theorem dX4_buy_31 : decode cX4_buy 31 = .ok (.aload_n 0, 1) := by decide +kernel
theorem dX4_buy_32 : decode cX4_buy 32 = .ok (.iconst 2, 1) := by decide +kernel
theorem dX4_buy_33 : decode cX4_buy 33 = .ok (.invokevirtual 47, 3) := by decide +kernel
theorem dX4_buy_36 : decode cX4_buy 36 = .ok (.ireturn, 1) := by decide +kernel
theorem dX4_buy_37 : decode cX4_buy 37 = .ok (.iload_n 1, 1) := by decide +kernel
theorem dX4_buy_38 : decode cX4_buy 38 = .ok (.ifCond .ne 7, 3) := by decide +kernel
theorem dX4_buy_41 : decode cX4_buy 41 = .ok (.iload_n 2, 1) := by decide +kernel
theorem dX4_buy_42 : decode cX4_buy 42 = .ok (.goto 8, 3) := by decide +kernel
theorem dX4_buy_45 : decode cX4_buy 45 = .ok (.iload_n 2, 1) := by decide +kernel
theorem dX4_buy_46 : decode cX4_buy 46 = .ok (.iconst 2, 1) := by decide +kernel
theorem dX4_buy_47 : decode cX4_buy 47 = .ok (.iadd, 1) := by decide +kernel
theorem dX4_buy_48 : decode cX4_buy 48 = .ok (.iconst 3, 1) := by decide +kernel
theorem dX4_buy_49 : decode cX4_buy 49 = .ok (.idiv, 1) := by decide +kernel
theorem dX4_buy_50 : decode cX4_buy 50 = .ok (.istore_n 3, 1) := by decide +kernel
theorem dX4_buy_51 : decode cX4_buy 51 = .ok (.aload_n 0, 1) := by decide +kernel
theorem dX4_buy_52 : decode cX4_buy 52 = .ok (.getfield 22, 3) := by decide +kernel
theorem dX4_buy_55 : decode cX4_buy 55 = .ok (.getfield 76, 3) := by decide +kernel
theorem dX4_buy_58 : decode cX4_buy 58 = .ok (.iload_n 3, 1) := by decide +kernel
theorem dX4_buy_59 : decode cX4_buy 59 = .ok (.if_icmp .ge 9, 3) := by decide +kernel
theorem dX4_buy_62 : decode cX4_buy 62 = .ok (.aload_n 0, 1) := by decide +kernel
theorem dX4_buy_63 : decode cX4_buy 63 = .ok (.iconst 3, 1) := by decide +kernel
theorem dX4_buy_64 : decode cX4_buy 64 = .ok (.invokevirtual 47, 3) := by decide +kernel
theorem dX4_buy_67 : decode cX4_buy 67 = .ok (.ireturn, 1) := by decide +kernel
theorem dX4_buy_68 : decode cX4_buy 68 = .ok (.aload_n 0, 1) := by decide +kernel
theorem dX4_buy_69 : decode cX4_buy 69 = .ok (.getfield 22, 3) := by decide +kernel
theorem dX4_buy_72 : decode cX4_buy 72 = .ok (.dup, 1) := by decide +kernel
theorem dX4_buy_73 : decode cX4_buy 73 = .ok (.getfield 76, 3) := by decide +kernel
theorem dX4_buy_76 : decode cX4_buy 76 = .ok (.iload_n 3, 1) := by decide +kernel
theorem dX4_buy_77 : decode cX4_buy 77 = .ok (.isub, 1) := by decide +kernel
theorem dX4_buy_78 : decode cX4_buy 78 = .ok (.putfield 76, 3) := by decide +kernel
theorem dX4_buy_81 : decode cX4_buy 81 = .ok (.aload_n 0, 1) := by decide +kernel
theorem dX4_buy_82 : decode cX4_buy 82 = .ok (.getfield 22, 3) := by decide +kernel
theorem dX4_buy_85 : decode cX4_buy 85 = .ok (.dup, 1) := by decide +kernel
theorem dX4_buy_86 : decode cX4_buy 86 = .ok (.getfield 79, 3) := by decide +kernel
theorem dX4_buy_89 : decode cX4_buy 89 = .ok (.iload_n 1, 1) := by decide +kernel
theorem dX4_buy_90 : decode cX4_buy 90 = .ok (.ifCond .ne 7, 3) := by decide +kernel
theorem dX4_buy_93 : decode cX4_buy 93 = .ok (.iload_n 2, 1) := by decide +kernel
theorem dX4_buy_94 : decode cX4_buy 94 = .ok (.goto 4, 3) := by decide +kernel
theorem dX4_buy_97 : decode cX4_buy 97 = .ok (.iconst 0, 1) := by decide +kernel
theorem dX4_buy_98 : decode cX4_buy 98 = .ok (.iadd, 1) := by decide +kernel
theorem dX4_buy_99 : decode cX4_buy 99 = .ok (.putfield 79, 3) := by decide +kernel
theorem dX4_buy_102 : decode cX4_buy 102 = .ok (.aload_n 0, 1) := by decide +kernel
theorem dX4_buy_103 : decode cX4_buy 103 = .ok (.getfield 22, 3) := by decide +kernel
theorem dX4_buy_106 : decode cX4_buy 106 = .ok (.dup, 1) := by decide +kernel
theorem dX4_buy_107 : decode cX4_buy 107 = .ok (.getfield 82, 3) := by decide +kernel
theorem dX4_buy_110 : decode cX4_buy 110 = .ok (.iload_n 1, 1) := by decide +kernel
theorem dX4_buy_111 : decode cX4_buy 111 = .ok (.iconst 1, 1) := by decide +kernel
theorem dX4_buy_112 : decode cX4_buy 112 = .ok (.if_icmp .ne 7, 3) := by decide +kernel
theorem dX4_buy_115 : decode cX4_buy 115 = .ok (.iload_n 2, 1) := by decide +kernel
theorem dX4_buy_116 : decode cX4_buy 116 = .ok (.goto 4, 3) := by decide +kernel
theorem dX4_buy_119 : decode cX4_buy 119 = .ok (.iconst 0, 1) := by decide +kernel
theorem dX4_buy_120 : decode cX4_buy 120 = .ok (.iadd, 1) := by decide +kernel
theorem dX4_buy_121 : decode cX4_buy 121 = .ok (.putfield 82, 3) := by decide +kernel
theorem dX4_buy_124 : decode cX4_buy 124 = .ok (.iload_n 1, 1) := by decide +kernel
theorem dX4_buy_125 : decode cX4_buy 125 = .ok (.ifCond .ne 13, 3) := by decide +kernel
theorem dX4_buy_128 : decode cX4_buy 128 = .ok (.aload_n 0, 1) := by decide +kernel
theorem dX4_buy_129 : decode cX4_buy 129 = .ok (.getfield 22, 3) := by decide +kernel
theorem dX4_buy_132 : decode cX4_buy 132 = .ok (.getfield 79, 3) := by decide +kernel
theorem dX4_buy_135 : decode cX4_buy 135 = .ok (.goto 10, 3) := by decide +kernel
theorem dX4_buy_138 : decode cX4_buy 138 = .ok (.aload_n 0, 1) := by decide +kernel
theorem dX4_buy_139 : decode cX4_buy 139 = .ok (.getfield 22, 3) := by decide +kernel
theorem dX4_buy_142 : decode cX4_buy 142 = .ok (.getfield 82, 3) := by decide +kernel
theorem dX4_buy_145 : decode cX4_buy 145 = .ok (.ireturn, 1) := by decide +kernel
set_option maxRecDepth 20000 in
theorem ggX4_sell_X4_isIn : GoodIn wsX4_sell wsX4_isIn := goodIn_r _ [6] (by decide +kernel) (by decide +kernel)
set_option maxRecDepth 20000 in
theorem gX4_sell_X4_isIn : GoodIn wsX4_sell (va_wsS RX4 35 yX4_isIn wsX4_isIn) := goodIn_app (goodIn_of _ (by decide +kernel)) ggX4_sell_X4_isIn
set_option maxRecDepth 20000 in
theorem ggX4_sell_X4_no : GoodIn wsX4_sell wsX4_no := goodIn_r _ [10, 1, 11, 12, 13, 14, 15] (by decide +kernel) (by decide +kernel)
set_option maxRecDepth 20000 in
theorem gX4_sell_X4_no : GoodIn wsX4_sell (wsV RX4 47 RX4 yX4_no wsX4_no) := goodIn_app (goodIn_of _ (by decide +kernel)) ggX4_sell_X4_no
theorem dX4_sell_0 : decode cX4_sell 0 = .ok (.aload_n 0, 1) := by decide +kernel
theorem dX4_sell_1 : decode cX4_sell 1 = .ok (.iconst 0, 1) := by decide +kernel
theorem dX4_sell_2 : decode cX4_sell 2 = .ok (.putfield 29, 3) := by decide +kernel
theorem dX4_sell_5 : decode cX4_sell 5 = .ok (.iload_n 1, 1) := by decide +kernel
theorem dX4_sell_6 : decode cX4_sell 6 = .ok (.iconst 1, 1) := by decide +kernel
theorem dX4_sell_7 : decode cX4_sell 7 = .ok (.sipush 500, 3) := by decide +kernel
theorem dX4_sell_10 : decode cX4_sell 10 = .ok (.invokestatic 35, 3) := by decide +kernel
theorem dX4_sell_13 : decode cX4_sell 13 = .ok (.ifCond .ne 9, 3) := by decide +kernel
theorem dX4_sell_16 : decode cX4_sell 16 = .ok (.aload_n 0, 1) := by decide +kernel
theorem dX4_sell_17 : decode cX4_sell 17 = .ok (.iconst 1, 1) := by decide +kernel
theorem dX4_sell_18 : decode cX4_sell 18 = .ok (.invokevirtual 47, 3) := by decide +kernel
theorem dX4_sell_21 : decode cX4_sell 21 = .ok (.ireturn, 1) := by decide +kernel
theorem dX4_sell_22 : decode cX4_sell 22 = .ok (.aload_n 0, 1) := by decide +kernel
theorem dX4_sell_23 : decode cX4_sell 23 = .ok (.getfield 22, 3) := by decide +kernel
theorem dX4_sell_26 : decode cX4_sell 26 = .ok (.getfield 85, 3) := by decide +kernel
theorem dX4_sell_29 : decode cX4_sell 29 = .ok (.iload_n 1, 1) := by decide +kernel
theorem dX4_sell_30 : decode cX4_sell 30 = .ok (.if_icmp .ge 9, 3) := by decide +kernel
theorem dX4_sell_33 : decode cX4_sell 33 = .ok (.aload_n 0, 1) := by decide +kernel
theorem dX4_sell_34 : decode cX4_sell 34 = .ok (.iconst 2, 1) := by decide +kernel
theorem dX4_sell_35 : decode cX4_sell 35 = .ok (.invokevirtual 47, 3) := by decide +kernel
theorem dX4_sell_38 : decode cX4_sell 38 = .ok (.ireturn, 1) := by decide +kernel
theorem dX4_sell_39 : decode cX4_sell 39 = .ok (.aload_n 0, 1) := by decide +kernel
theorem dX4_sell_40 : decode cX4_sell 40 = .ok (.getfield 22, 3) := by decide +kernel
theorem dX4_sell_43 : decode cX4_sell 43 = .ok (.dup, 1) := by decide +kernel
theorem dX4_sell_44 : decode cX4_sell 44 = .ok (.getfield 85, 3) := by decide +kernel
theorem dX4_sell_47 : decode cX4_sell 47 = .ok (.iload_n 1, 1) := by decide +kernel
theorem dX4_sell_48 : decode cX4_sell 48 = .ok (.isub, 1) := by decide +kernel
theorem dX4_sell_49 : decode cX4_sell 49 = .ok (.putfield 85, 3) := by decide +kernel
theorem dX4_sell_52 : decode cX4_sell 52 = .ok (.aload_n 0, 1) := by decide +kernel
theorem dX4_sell_53 : decode cX4_sell 53 = .ok (.getfield 22, 3) := by decide +kernel
theorem dX4_sell_56 : decode cX4_sell 56 = .ok (.dup, 1) := by decide +kernel
theorem dX4_sell_57 : decode cX4_sell 57 = .ok (.getfield 76, 3) := by decide +kernel
theorem dX4_sell_60 : decode cX4_sell 60 = .ok (.iload_n 1, 1) := by decide +kernel
theorem dX4_sell_61 : decode cX4_sell 61 = .ok (.iconst 2, 1) := by decide +kernel
theorem dX4_sell_62 : decode cX4_sell 62 = .ok (.idiv, 1) := by decide +kernel
theorem dX4_sell_63 : decode cX4_sell 63 = .ok (.iadd, 1) := by decide +kernel
theorem dX4_sell_64 : decode cX4_sell 64 = .ok (.putfield 76, 3) := by decide +kernel
theorem dX4_sell_67 : decode cX4_sell 67 = .ok (.aload_n 0, 1) := by decide +kernel
theorem dX4_sell_68 : decode cX4_sell 68 = .ok (.getfield 22, 3) := by decide +kernel
theorem dX4_sell_71 : decode cX4_sell 71 = .ok (.getfield 76, 3) := by decide +kernel
theorem dX4_sell_74 : decode cX4_sell 74 = .ok (.ireturn, 1) := by decide +kernel
set_option maxRecDepth 20000 in
theorem ggX4_combed_X3_become : GoodIn wsX4_combed wsX3_become := goodIn_r _ [7, 8, 9, 10, 11, 12, 13, 14, 15, 16, 17, 18, 19, 20, 21, 22, 57, 58, 59, 60, 61, 62, 63, 64, 65, 66, 67, 68] (by decide +kernel) (by decide +kernel)
set_option maxRecDepth 20000 in
theorem gX4_combed_X3_become : GoodIn wsX4_combed (wsV RX4 88 RX3 yX3_become wsX3_become) := goodIn_app (goodIn_of _ (by decide +kernel)) ggX4_combed_X3_become
set_option maxRecDepth 20000 in
theorem ggX4_combed_X3_fire : GoodIn wsX4_combed wsX3_fire := goodIn_r _ [26, 11, 17, 27, 28, 29, 30, 31, 32, 33, 34, 35, 36, 6, 37, 9, 38, 39, 40, 41, 42, 43, 44, 45, 22, 57, 58, 59, 60, 61, 62, 63, 64, 65, 66, 67, 68] (by decide +kernel) (by decide +kernel)
set_option maxRecDepth 20000 in
theorem gX4_combed_X3_fire : GoodIn wsX4_combed (wsV RX4 92 RX3 yX3_fire wsX3_fire) := goodIn_app (goodIn_of _ (by decide +kernel)) ggX4_combed_X3_fire
set_option maxRecDepth 20000 in
theorem ggX4_combed_X3_combs : GoodIn wsX4_combed wsX3_combs := goodIn_r _ [41, 42, 43, 44, 6, 45, 22, 57, 58, 59, 60, 61, 62, 63, 64, 65, 66, 67, 68] (by decide +kernel) (by decide +kernel)
set_option maxRecDepth 20000 in
theorem gX4_combed_X3_combs : GoodIn wsX4_combed (wsV RX4 95 RX3 yX3_combs wsX3_combs) := goodIn_app (goodIn_of _ (by decide +kernel)) ggX4_combed_X3_combs
set_option maxRecDepth 20000 in
theorem ggX4_combed_X3_of : GoodIn wsX4_combed wsX3_of := goodIn_r _ [45, 22, 57, 58, 59, 60, 61, 62, 63, 64, 65, 66, 67, 68] (by decide +kernel) (by decide +kernel)
set_option maxRecDepth 20000 in
theorem gX4_combed_X3_of : GoodIn wsX4_combed (wsV RX4 39 RX3 yX3_of wsX3_of) := goodIn_app (goodIn_of _ (by decide +kernel)) ggX4_combed_X3_of
set_option maxRecDepth 20000 in
theorem ggX4_combed_X3_pounds : GoodIn wsX4_combed wsX3_pounds := goodIn_r _ [51, 17, 31, 32, 29, 33, 42, 43, 44, 6, 45, 22, 34, 35, 36, 37, 9, 38, 39, 40, 41, 57, 58, 59, 60, 61, 62, 63, 64, 65, 66, 67, 68] (by decide +kernel) (by decide +kernel)
set_option maxRecDepth 20000 in
theorem gX4_combed_X3_pounds : GoodIn wsX4_combed (wsV RX4 98 RX3 yX3_pounds wsX3_pounds) := goodIn_app (goodIn_of _ (by decide +kernel)) ggX4_combed_X3_pounds
theorem dX4_combed_0 : decode cX4_combed 0 = .ok (.aload_n 0, 1) := by decide +kernel
theorem dX4_combed_1 : decode cX4_combed 1 = .ok (.getfield 26, 3) := by decide +kernel
theorem dX4_combed_4 : decode cX4_combed 4 = .ok (.aload_n 0, 1) := by decide +kernel
theorem dX4_combed_5 : decode cX4_combed 5 = .ok (.getfield 22, 3) := by decide +kernel
theorem dX4_combed_8 : decode cX4_combed 8 = .ok (.invokevirtual 88, 3) := by decide +kernel
theorem dX4_combed_11 : decode cX4_combed 11 = .ok (.aload_n 0, 1) := by decide +kernel
theorem dX4_combed_12 : decode cX4_combed 12 = .ok (.getfield 26, 3) := by decide +kernel
theorem dX4_combed_15 : decode cX4_combed 15 = .ok (.invokevirtual 92, 3) := by decide +kernel
theorem dX4_combed_18 : decode cX4_combed 18 = .ok (.iconst 0, 1) := by decide +kernel
theorem dX4_combed_19 : decode cX4_combed 19 = .ok (.istore_n 2, 1) := by decide +kernel
theorem dX4_combed_20 : decode cX4_combed 20 = .ok (.iconst 0, 1) := by decide +kernel
theorem dX4_combed_21 : decode cX4_combed 21 = .ok (.istore_n 3, 1) := by decide +kernel
theorem dX4_combed_22 : decode cX4_combed 22 = .ok (.iload_n 3, 1) := by decide +kernel
theorem dX4_combed_23 : decode cX4_combed 23 = .ok (.aload_n 0, 1) := by decide +kernel
theorem dX4_combed_24 : decode cX4_combed 24 = .ok (.getfield 26, 3) := by decide +kernel
theorem dX4_combed_27 : decode cX4_combed 27 = .ok (.getfield 32, 3) := by decide +kernel
theorem dX4_combed_30 : decode cX4_combed 30 = .ok (.if_icmp .ge 48, 3) := by decide +kernel
theorem dX4_combed_33 : decode cX4_combed 33 = .ok (.iload_n 2, 1) := by decide +kernel
theorem dX4_combed_34 : decode cX4_combed 34 = .ok (.aload_n 0, 1) := by decide +kernel
theorem dX4_combed_35 : decode cX4_combed 35 = .ok (.getfield 26, 3) := by decide +kernel
theorem dX4_combed_38 : decode cX4_combed 38 = .ok (.iload_n 3, 1) := by decide +kernel
theorem dX4_combed_39 : decode cX4_combed 39 = .ok (.invokevirtual 95, 3) := by decide +kernel
theorem dX4_combed_42 : decode cX4_combed 42 = .ok (.ifCond .eq 27, 3) := by decide +kernel
theorem dX4_combed_45 : decode cX4_combed 45 = .ok (.aload_n 0, 1) := by decide +kernel
theorem dX4_combed_46 : decode cX4_combed 46 = .ok (.getfield 26, 3) := by decide +kernel
theorem dX4_combed_49 : decode cX4_combed 49 = .ok (.iload_n 3, 1) := by decide +kernel
theorem dX4_combed_50 : decode cX4_combed 50 = .ok (.iconst 5, 1) := by decide +kernel
theorem dX4_combed_51 : decode cX4_combed 51 = .ok (.invokevirtual 39, 3) := by decide +kernel
theorem dX4_combed_54 : decode cX4_combed 54 = .ok (.iload_n 1, 1) := by decide +kernel
theorem dX4_combed_55 : decode cX4_combed 55 = .ok (.if_icmp .ne 14, 3) := by decide +kernel
theorem dX4_combed_58 : decode cX4_combed 58 = .ok (.aload_n 0, 1) := by decide +kernel
theorem dX4_combed_59 : decode cX4_combed 59 = .ok (.getfield 26, 3) := by decide +kernel
theorem dX4_combed_62 : decode cX4_combed 62 = .ok (.iload_n 3, 1) := by decide +kernel
theorem dX4_combed_63 : decode cX4_combed 63 = .ok (.invokevirtual 98, 3) := by decide +kernel
theorem dX4_combed_66 : decode cX4_combed 66 = .ok (.goto 4, 3) := by decide +kernel
theorem dX4_combed_69 : decode cX4_combed 69 = .ok (.iconst 0, 1) := by decide +kernel
theorem dX4_combed_70 : decode cX4_combed 70 = .ok (.iadd, 1) := by decide +kernel
theorem dX4_combed_71 : decode cX4_combed 71 = .ok (.istore_n 2, 1) := by decide +kernel
theorem dX4_combed_72 : decode cX4_combed 72 = .ok (.iinc 3 1, 3) := by decide +kernel
theorem dX4_combed_75 : decode cX4_combed 75 = .ok (.goto (-53), 3) := by decide +kernel
theorem dX4_combed_78 : decode cX4_combed 78 = .ok (.iload_n 2, 1) := by decide +kernel
theorem dX4_combed_79 : decode cX4_combed 79 = .ok (.ireturn, 1) := by decide +kernel
set_option maxRecDepth 20000 in
theorem ggX4_potTold_X3_there : GoodIn wsX4_potTold wsX3_there := goodIn_r _ [6, 7, 8, 9, 10, 5, 11, 12, 67, 68, 69, 70, 71, 72, 73, 74, 75, 76, 77, 78] (by decide +kernel) (by decide +kernel)
set_option maxRecDepth 20000 in
theorem gX4_potTold_X3_there : GoodIn wsX4_potTold (wsV RX4 43 RX3 yX3_there wsX3_there) := goodIn_app (goodIn_of _ (by decide +kernel)) ggX4_potTold_X3_there
set_option maxRecDepth 20000 in
theorem ggX4_potTold_X3_combers : GoodIn wsX4_potTold wsX3_combers := goodIn_r _ [16, 7, 17, 18, 19, 5, 20, 8, 9, 10, 11, 12, 67, 68, 69, 70, 71, 72, 73, 74, 75, 76, 77, 78] (by decide +kernel) (by decide +kernel)
set_option maxRecDepth 20000 in
theorem gX4_potTold_X3_combers : GoodIn wsX4_potTold (wsV RX4 104 RX3 yX3_combers wsX3_combers) := goodIn_app (goodIn_of _ (by decide +kernel)) ggX4_potTold_X3_combers
set_option maxRecDepth 20000 in
theorem ggX4_potTold_X4_combed : GoodIn wsX4_potTold wsX4_combed := goodIn_r _ [25, 26, 1, 27, 28, 29, 5, 30, 31, 7, 32, 33, 34, 35, 36, 37, 38, 39, 40, 41, 42, 43, 12, 44, 45, 46, 47, 48, 49, 50, 51, 52, 53, 54, 55, 14, 15, 16, 17, 18, 19, 20, 8, 9, 10, 11, 56, 57, 58, 59, 60, 61, 62, 63, 64, 65, 66, 67, 68, 69, 70, 71, 72, 73, 74, 75, 76, 77, 78] (by decide +kernel) (by decide +kernel)
set_option maxRecDepth 20000 in
theorem gX4_potTold_X4_combed : GoodIn wsX4_potTold (wsV RX4 107 RX4 yX4_combed wsX4_combed) := goodIn_app (goodIn_of _ (by decide +kernel)) ggX4_potTold_X4_combed
theorem dX4_potTold_0 : decode cX4_potTold 0 = .ok (.iload_n 2, 1) := by decide +kernel
theorem dX4_potTold_1 : decode cX4_potTold 1 = .ok (.ifCond .ne 15, 3) := by decide +kernel
theorem dX4_potTold_4 : decode cX4_potTold 4 = .ok (.aload_n 0, 1) := by decide +kernel
theorem dX4_potTold_5 : decode cX4_potTold 5 = .ok (.getfield 22, 3) := by decide +kernel
theorem dX4_potTold_8 : decode cX4_potTold 8 = .ok (.getfield 101, 3) := by decide +kernel
theorem dX4_potTold_11 : decode cX4_potTold 11 = .ok (.iload_n 1, 1) := by decide +kernel
theorem dX4_potTold_12 : decode cX4_potTold 12 = .ok (.iaload, 1) := by decide +kernel
theorem dX4_potTold_13 : decode cX4_potTold 13 = .ok (.goto 40, 3) := by decide +kernel
theorem dX4_potTold_16 : decode cX4_potTold 16 = .ok (.iload_n 2, 1) := by decide +kernel
theorem dX4_potTold_17 : decode cX4_potTold 17 = .ok (.iconst 1, 1) := by decide +kernel
theorem dX4_potTold_18 : decode cX4_potTold 18 = .ok (.if_icmp .ne 14, 3) := by decide +kernel
theorem dX4_potTold_21 : decode cX4_potTold 21 = .ok (.aload_n 0, 1) := by decide +kernel
theorem dX4_potTold_22 : decode cX4_potTold 22 = .ok (.getfield 22, 3) := by decide +kernel
theorem dX4_potTold_25 : decode cX4_potTold 25 = .ok (.iload_n 1, 1) := by decide +kernel
theorem dX4_potTold_26 : decode cX4_potTold 26 = .ok (.invokevirtual 43, 3) := by decide +kernel
theorem dX4_potTold_29 : decode cX4_potTold 29 = .ok (.goto 24, 3) := by decide +kernel
theorem dX4_potTold_32 : decode cX4_potTold 32 = .ok (.iload_n 2, 1) := by decide +kernel
theorem dX4_potTold_33 : decode cX4_potTold 33 = .ok (.iconst 2, 1) := by decide +kernel
theorem dX4_potTold_34 : decode cX4_potTold 34 = .ok (.if_icmp .ne 14, 3) := by decide +kernel
theorem dX4_potTold_37 : decode cX4_potTold 37 = .ok (.aload_n 0, 1) := by decide +kernel
theorem dX4_potTold_38 : decode cX4_potTold 38 = .ok (.getfield 22, 3) := by decide +kernel
theorem dX4_potTold_41 : decode cX4_potTold 41 = .ok (.iload_n 1, 1) := by decide +kernel
theorem dX4_potTold_42 : decode cX4_potTold 42 = .ok (.invokevirtual 104, 3) := by decide +kernel
theorem dX4_potTold_45 : decode cX4_potTold 45 = .ok (.goto 8, 3) := by decide +kernel
theorem dX4_potTold_48 : decode cX4_potTold 48 = .ok (.aload_n 0, 1) := by decide +kernel
theorem dX4_potTold_49 : decode cX4_potTold 49 = .ok (.iload_n 1, 1) := by decide +kernel
theorem dX4_potTold_50 : decode cX4_potTold 50 = .ok (.invokevirtual 107, 3) := by decide +kernel
theorem dX4_potTold_53 : decode cX4_potTold 53 = .ok (.ireturn, 1) := by decide +kernel
set_option maxRecDepth 20000 in
theorem ggX4_pot_X4_isIn : GoodIn wsX4_pot wsX4_isIn := goodIn_r _ [5] (by decide +kernel) (by decide +kernel)
set_option maxRecDepth 20000 in
theorem gX4_pot_X4_isIn : GoodIn wsX4_pot (va_wsS RX4 35 yX4_isIn wsX4_isIn) := goodIn_app (goodIn_of _ (by decide +kernel)) ggX4_pot_X4_isIn
set_option maxRecDepth 20000 in
theorem ggX4_pot_X4_potTold : GoodIn wsX4_pot wsX4_potTold := goodIn_r _ [9, 10, 11, 12, 13, 14, 15, 16, 17, 18, 19, 20, 21, 22, 23, 24, 25, 26, 27, 28, 29, 30, 31, 32, 4, 33, 34, 35, 36, 37, 38, 39, 40, 41, 42, 43, 44, 45, 46, 47, 48, 49, 50, 51, 52, 53, 54, 55, 56, 57, 58, 59, 60, 61, 62, 63, 64, 65, 66, 67, 68, 69, 74, 75, 76, 77, 78, 79, 80, 81, 82, 83, 84, 85, 86, 87, 88, 89, 90] (by decide +kernel) (by decide +kernel)
set_option maxRecDepth 20000 in
theorem gX4_pot_X4_potTold : GoodIn wsX4_pot (wsV RX4 110 RX4 yX4_potTold wsX4_potTold) := goodIn_app (goodIn_of _ (by decide +kernel)) ggX4_pot_X4_potTold
set_option maxRecDepth 20000 in
theorem ggX4_pot_X4_no : GoodIn wsX4_pot wsX4_no := goodIn_r _ [73, 1, 74, 75, 76, 77, 78] (by decide +kernel) (by decide +kernel)
set_option maxRecDepth 20000 in
theorem gX4_pot_X4_no : GoodIn wsX4_pot (wsV RX4 47 RX4 yX4_no wsX4_no) := goodIn_app (goodIn_of _ (by decide +kernel)) ggX4_pot_X4_no
theorem dX4_pot_0 : decode cX4_pot 0 = .ok (.aload_n 0, 1) := by decide +kernel
theorem dX4_pot_1 : decode cX4_pot 1 = .ok (.iconst 0, 1) := by decide +kernel
theorem dX4_pot_2 : decode cX4_pot 2 = .ok (.putfield 29, 3) := by decide +kernel
theorem dX4_pot_5 : decode cX4_pot 5 = .ok (.iload_n 1, 1) := by decide +kernel
theorem dX4_pot_6 : decode cX4_pot 6 = .ok (.iconst 0, 1) := by decide +kernel
theorem dX4_pot_7 : decode cX4_pot 7 = .ok (.iconst 2, 1) := by decide +kernel
theorem dX4_pot_8 : decode cX4_pot 8 = .ok (.invokestatic 35, 3) := by decide +kernel
theorem dX4_pot_11 : decode cX4_pot 11 = .ok (.ifCond .eq 21, 3) := by decide +kernel
theorem dX4_pot_14 : decode cX4_pot 14 = .ok (.iload_n 2, 1) := by decide +kernel
theorem dX4_pot_15 : decode cX4_pot 15 = .ok (.iconst 0, 1) := by decide +kernel
theorem dX4_pot_16 : decode cX4_pot 16 = .ok (.iconst 3, 1) := by decide +kernel
theorem dX4_pot_17 : decode cX4_pot 17 = .ok (.invokestatic 35, 3) := by decide +kernel
theorem dX4_pot_20 : decode cX4_pot 20 = .ok (.ifCond .eq 12, 3) := by decide +kernel
theorem dX4_pot_23 : decode cX4_pot 23 = .ok (.aload_n 0, 1) := by decide +kernel
theorem dX4_pot_24 : decode cX4_pot 24 = .ok (.iload_n 1, 1) := by decide +kernel
theorem dX4_pot_25 : decode cX4_pot 25 = .ok (.iload_n 2, 1) := by decide +kernel
theorem dX4_pot_26 : decode cX4_pot 26 = .ok (.invokevirtual 110, 3) := by decide +kernel
theorem dX4_pot_29 : decode cX4_pot 29 = .ok (.goto 8, 3) := by decide +kernel
theorem dX4_pot_32 : decode cX4_pot 32 = .ok (.aload_n 0, 1) := by decide +kernel
theorem dX4_pot_33 : decode cX4_pot 33 = .ok (.iconst 1, 1) := by decide +kernel
theorem dX4_pot_34 : decode cX4_pot 34 = .ok (.invokevirtual 47, 3) := by decide +kernel
theorem dX4_pot_37 : decode cX4_pot 37 = .ok (.ireturn, 1) := by decide +kernel
set_option maxRecDepth 20000 in
theorem ggX4_counted_X3_many : GoodIn wsX4_counted wsX3_many := goodIn_r _ [5, 6, 7, 8, 9, 4, 10, 11, 16, 17, 18, 19, 20, 21, 22, 23, 24, 25, 26, 27] (by decide +kernel) (by decide +kernel)
set_option maxRecDepth 20000 in
theorem gX4_counted_X3_many : GoodIn wsX4_counted (wsV RX4 116 RX3 yX3_many wsX3_many) := goodIn_app (goodIn_of _ (by decide +kernel)) ggX4_counted_X3_many
set_option maxRecDepth 20000 in
theorem ggX4_counted_X3_all : GoodIn wsX4_counted wsX3_all := goodIn_r _ [15, 6, 7, 8, 9, 4, 10, 11, 16, 17, 18, 19, 20, 21, 22, 23, 24, 25, 26, 27] (by decide +kernel) (by decide +kernel)
set_option maxRecDepth 20000 in
theorem gX4_counted_X3_all : GoodIn wsX4_counted (wsV RX4 119 RX3 yX3_all wsX3_all) := goodIn_app (goodIn_of _ (by decide +kernel)) ggX4_counted_X3_all
theorem dX4_counted_0 : decode cX4_counted 0 = .ok (.iload_n 1, 1) := by decide +kernel
theorem dX4_counted_1 : decode cX4_counted 1 = .ok (.tableswitch 118 0 11 #[63, 68, 73, 73, 73, 81, 86, 91, 96, 101, 107, 113], 63) := by decide +kernel
theorem dX4_counted_64 : decode cX4_counted 64 = .ok (.aload_n 0, 1) := by decide +kernel
theorem dX4_counted_65 : decode cX4_counted 65 = .ok (.getfield 113, 3) := by decide +kernel
theorem dX4_counted_68 : decode cX4_counted 68 = .ok (.ireturn, 1) := by decide +kernel
theorem dX4_counted_69 : decode cX4_counted 69 = .ok (.aload_n 0, 1) := by decide +kernel
theorem dX4_counted_70 : decode cX4_counted 70 = .ok (.getfield 32, 3) := by decide +kernel
theorem dX4_counted_73 : decode cX4_counted 73 = .ok (.ireturn, 1) := by decide +kernel
theorem dX4_counted_74 : decode cX4_counted 74 = .ok (.aload_n 0, 1) := by decide +kernel
theorem dX4_counted_75 : decode cX4_counted 75 = .ok (.iload_n 1, 1) := by decide +kernel
theorem dX4_counted_76 : decode cX4_counted 76 = .ok (.iconst 2, 1) := by decide +kernel
theorem dX4_counted_77 : decode cX4_counted 77 = .ok (.isub, 1) := by decide +kernel
theorem dX4_counted_78 : decode cX4_counted 78 = .ok (.invokevirtual 116, 3) := by decide +kernel
theorem dX4_counted_81 : decode cX4_counted 81 = .ok (.ireturn, 1) := by decide +kernel
theorem dX4_counted_82 : decode cX4_counted 82 = .ok (.aload_n 0, 1) := by decide +kernel
theorem dX4_counted_83 : decode cX4_counted 83 = .ok (.getfield 76, 3) := by decide +kernel
theorem dX4_counted_86 : decode cX4_counted 86 = .ok (.ireturn, 1) := by decide +kernel
theorem dX4_counted_87 : decode cX4_counted 87 = .ok (.aload_n 0, 1) := by decide +kernel
theorem dX4_counted_88 : decode cX4_counted 88 = .ok (.getfield 79, 3) := by decide +kernel
theorem dX4_counted_91 : decode cX4_counted 91 = .ok (.ireturn, 1) := by decide +kernel
theorem dX4_counted_92 : decode cX4_counted 92 = .ok (.aload_n 0, 1) := by decide +kernel
theorem dX4_counted_93 : decode cX4_counted 93 = .ok (.getfield 82, 3) := by decide +kernel
theorem dX4_counted_96 : decode cX4_counted 96 = .ok (.ireturn, 1) := by decide +kernel
theorem dX4_counted_97 : decode cX4_counted 97 = .ok (.aload_n 0, 1) := by decide +kernel
theorem dX4_counted_98 : decode cX4_counted 98 = .ok (.getfield 85, 3) := by decide +kernel
theorem dX4_counted_101 : decode cX4_counted 101 = .ok (.ireturn, 1) := by decide +kernel
theorem dX4_counted_102 : decode cX4_counted 102 = .ok (.aload_n 0, 1) := by decide +kernel
theorem dX4_counted_103 : decode cX4_counted 103 = .ok (.iconst 2, 1) := by decide +kernel
theorem dX4_counted_104 : decode cX4_counted 104 = .ok (.invokevirtual 119, 3) := by decide +kernel
theorem dX4_counted_107 : decode cX4_counted 107 = .ok (.ireturn, 1) := by decide +kernel
theorem dX4_counted_108 : decode cX4_counted 108 = .ok (.aload_n 0, 1) := by decide +kernel
theorem dX4_counted_109 : decode cX4_counted 109 = .ok (.iconst 3, 1) := by decide +kernel
theorem dX4_counted_110 : decode cX4_counted 110 = .ok (.invokevirtual 119, 3) := by decide +kernel
theorem dX4_counted_113 : decode cX4_counted 113 = .ok (.ireturn, 1) := by decide +kernel
theorem dX4_counted_114 : decode cX4_counted 114 = .ok (.aload_n 0, 1) := by decide +kernel
theorem dX4_counted_115 : decode cX4_counted 115 = .ok (.getfield 122, 3) := by decide +kernel
theorem dX4_counted_118 : decode cX4_counted 118 = .ok (.ireturn, 1) := by decide +kernel
theorem dX4_counted_119 : decode cX4_counted 119 = .ok (.aload_n 0, 1) := by decide +kernel
theorem dX4_counted_120 : decode cX4_counted 120 = .ok (.getfield 125, 3) := by decide +kernel
theorem dX4_counted_123 : decode cX4_counted 123 = .ok (.ireturn, 1) := by decide +kernel
set_option maxRecDepth 20000 in
theorem ggX4_count_X4_isIn : GoodIn wsX4_count wsX4_isIn := goodIn_r _ [6] (by decide +kernel) (by decide +kernel)
set_option maxRecDepth 20000 in
theorem gX4_count_X4_isIn : GoodIn wsX4_count (va_wsS RX4 35 yX4_isIn wsX4_isIn) := goodIn_app (goodIn_of _ (by decide +kernel)) ggX4_count_X4_isIn
set_option maxRecDepth 20000 in
theorem ggX4_count_X4_counted : GoodIn wsX4_count wsX4_counted := goodIn_r _ [9, 10, 11, 12, 13, 14, 15, 16, 17, 18, 19, 20, 21, 22, 23, 24, 34, 35, 36, 37, 38, 39, 40, 41, 42, 43, 44, 45] (by decide +kernel) (by decide +kernel)
set_option maxRecDepth 20000 in
theorem gX4_count_X4_counted : GoodIn wsX4_count (va_wsS RX4 128 yX4_counted wsX4_counted) := goodIn_app (goodIn_of _ (by decide +kernel)) ggX4_count_X4_counted
set_option maxRecDepth 20000 in
theorem ggX4_count_X4_no : GoodIn wsX4_count wsX4_no := goodIn_r _ [28, 1, 29, 30, 31, 32, 33] (by decide +kernel) (by decide +kernel)
set_option maxRecDepth 20000 in
theorem gX4_count_X4_no : GoodIn wsX4_count (wsV RX4 47 RX4 yX4_no wsX4_no) := goodIn_app (goodIn_of _ (by decide +kernel)) ggX4_count_X4_no
theorem dX4_count_0 : decode cX4_count 0 = .ok (.aload_n 0, 1) := by decide +kernel
theorem dX4_count_1 : decode cX4_count 1 = .ok (.iconst 0, 1) := by decide +kernel
theorem dX4_count_2 : decode cX4_count 2 = .ok (.putfield 29, 3) := by decide +kernel
theorem dX4_count_5 : decode cX4_count 5 = .ok (.iload_n 1, 1) := by decide +kernel
theorem dX4_count_6 : decode cX4_count 6 = .ok (.iconst 0, 1) := by decide +kernel
theorem dX4_count_7 : decode cX4_count 7 = .ok (.bipush 12, 2) := by decide +kernel
theorem dX4_count_9 : decode cX4_count 9 = .ok (.invokestatic 35, 3) := by decide +kernel
theorem dX4_count_12 : decode cX4_count 12 = .ok (.ifCond .eq 14, 3) := by decide +kernel
theorem dX4_count_15 : decode cX4_count 15 = .ok (.aload_n 0, 1) := by decide +kernel
theorem dX4_count_16 : decode cX4_count 16 = .ok (.getfield 22, 3) := by decide +kernel
theorem dX4_count_19 : decode cX4_count 19 = .ok (.iload_n 1, 1) := by decide +kernel
theorem dX4_count_20 : decode cX4_count 20 = .ok (.invokestatic 128, 3) := by decide +kernel
theorem dX4_count_23 : decode cX4_count 23 = .ok (.goto 8, 3) := by decide +kernel
theorem dX4_count_26 : decode cX4_count 26 = .ok (.aload_n 0, 1) := by decide +kernel
theorem dX4_count_27 : decode cX4_count 27 = .ok (.iconst 1, 1) := by decide +kernel
theorem dX4_count_28 : decode cX4_count 28 = .ok (.invokevirtual 47, 3) := by decide +kernel
theorem dX4_count_31 : decode cX4_count 31 = .ok (.ireturn, 1) := by decide +kernel
set_option maxRecDepth 20000 in
theorem ggX4_pass_X4_isIn : GoodIn wsX4_pass wsX4_isIn := goodIn_r _ [6] (by decide +kernel) (by decide +kernel)
set_option maxRecDepth 20000 in
theorem gX4_pass_X4_isIn : GoodIn wsX4_pass (va_wsS RX4 35 yX4_isIn wsX4_isIn) := goodIn_app (goodIn_of _ (by decide +kernel)) ggX4_pass_X4_isIn
set_option maxRecDepth 20000 in
theorem ggX4_pass_X4_no : GoodIn wsX4_pass wsX4_no := goodIn_r _ [10, 1, 95, 96, 97, 98, 99] (by decide +kernel) (by decide +kernel)
set_option maxRecDepth 20000 in
theorem gX4_pass_X4_no : GoodIn wsX4_pass (wsV RX4 47 RX4 yX4_no wsX4_no) := goodIn_app (goodIn_of _ (by decide +kernel)) ggX4_pass_X4_no
set_option maxRecDepth 20000 in
theorem ggX4_pass_X3_pass : GoodIn wsX4_pass wsX3_pass := goodIn_r _ [15, 16, 17, 18, 19, 20, 14, 21, 22, 23, 24, 25, 26, 27, 28, 29, 30, 31, 32, 33, 34, 35, 36, 37, 38, 39, 40, 41, 42, 43, 44, 45, 46, 47, 48, 49, 50, 51, 52, 53, 54, 55, 56, 57, 58, 59, 60, 61, 62, 63, 64, 65, 66, 67, 68, 69, 70, 71, 72, 73, 74, 75, 76, 77, 78, 79, 80, 81, 82, 83, 84, 85, 86, 87, 88, 89, 90, 91, 92, 93, 94, 100, 101, 102, 103, 104, 105, 106, 107, 108, 109, 110, 111, 95, 96, 97, 98, 99] (by decide +kernel) (by decide +kernel)
set_option maxRecDepth 20000 in
theorem gX4_pass_X3_pass : GoodIn wsX4_pass (wsV RX4 132 RX3 yX3_pass wsX3_pass) := goodIn_app (goodIn_of _ (by decide +kernel)) ggX4_pass_X3_pass
theorem dX4_pass_0 : decode cX4_pass 0 = .ok (.aload_n 0, 1) := by decide +kernel
theorem dX4_pass_1 : decode cX4_pass 1 = .ok (.iconst 0, 1) := by decide +kernel
theorem dX4_pass_2 : decode cX4_pass 2 = .ok (.putfield 29, 3) := by decide +kernel
theorem dX4_pass_5 : decode cX4_pass 5 = .ok (.iload_n 1, 1) := by decide +kernel
theorem dX4_pass_6 : decode cX4_pass 6 = .ok (.iconst 1, 1) := by decide +kernel
theorem dX4_pass_7 : decode cX4_pass 7 = .ok (.bipush 60, 2) := by decide +kernel
theorem dX4_pass_9 : decode cX4_pass 9 = .ok (.invokestatic 35, 3) := by decide +kernel
theorem dX4_pass_12 : decode cX4_pass 12 = .ok (.ifCond .ne 9, 3) := by decide +kernel
theorem dX4_pass_15 : decode cX4_pass 15 = .ok (.aload_n 0, 1) := by decide +kernel
theorem dX4_pass_16 : decode cX4_pass 16 = .ok (.iconst 1, 1) := by decide +kernel
theorem dX4_pass_17 : decode cX4_pass 17 = .ok (.invokevirtual 47, 3) := by decide +kernel
theorem dX4_pass_20 : decode cX4_pass 20 = .ok (.ireturn, 1) := by decide +kernel
theorem dX4_pass_21 : decode cX4_pass 21 = .ok (.aload_n 0, 1) := by decide +kernel
theorem dX4_pass_22 : decode cX4_pass 22 = .ok (.getfield 22, 3) := by decide +kernel
theorem dX4_pass_25 : decode cX4_pass 25 = .ok (.getfield 76, 3) := by decide +kernel
theorem dX4_pass_28 : decode cX4_pass 28 = .ok (.istore_n 2, 1) := by decide +kernel
theorem dX4_pass_29 : decode cX4_pass 29 = .ok (.iconst 0, 1) := by decide +kernel
theorem dX4_pass_30 : decode cX4_pass 30 = .ok (.istore_n 3, 1) := by decide +kernel
theorem dX4_pass_31 : decode cX4_pass 31 = .ok (.iload_n 3, 1) := by decide +kernel
theorem dX4_pass_32 : decode cX4_pass 32 = .ok (.iload_n 1, 1) := by decide +kernel
theorem dX4_pass_33 : decode cX4_pass 33 = .ok (.if_icmp .ge 16, 3) := by decide +kernel
theorem dX4_pass_36 : decode cX4_pass 36 = .ok (.aload_n 0, 1) := by decide +kernel
theorem dX4_pass_37 : decode cX4_pass 37 = .ok (.getfield 22, 3) := by decide +kernel
theorem dX4_pass_40 : decode cX4_pass 40 = .ok (.invokevirtual 132, 3) := by decide +kernel
theorem dX4_pass_43 : decode cX4_pass 43 = .ok (.iinc 3 1, 3) := by decide +kernel
theorem dX4_pass_46 : decode cX4_pass 46 = .ok (.goto (-15), 3) := by decide +kernel
theorem dX4_pass_49 : decode cX4_pass 49 = .ok (.aload_n 0, 1) := by decide +kernel
theorem dX4_pass_50 : decode cX4_pass 50 = .ok (.getfield 22, 3) := by decide +kernel
theorem dX4_pass_53 : decode cX4_pass 53 = .ok (.getfield 76, 3) := by decide +kernel
theorem dX4_pass_56 : decode cX4_pass 56 = .ok (.iload_n 2, 1) := by decide +kernel
theorem dX4_pass_57 : decode cX4_pass 57 = .ok (.isub, 1) := by decide +kernel
theorem dX4_pass_58 : decode cX4_pass 58 = .ok (.ireturn, 1) := by decide +kernel
set_option maxRecDepth 20000 in
theorem ggX4_foresee_X4_isIn : GoodIn wsX4_foresee wsX4_isIn := goodIn_r _ [7] (by decide +kernel) (by decide +kernel)
set_option maxRecDepth 20000 in
theorem gX4_foresee_X4_isIn : GoodIn wsX4_foresee (va_wsS RX4 35 yX4_isIn wsX4_isIn) := goodIn_app (goodIn_of _ (by decide +kernel)) ggX4_foresee_X4_isIn
set_option maxRecDepth 20000 in
theorem ggX4_foresee_X4_no : GoodIn wsX4_foresee wsX4_no := goodIn_r _ [11, 1, 115, 116, 117, 118, 119] (by decide +kernel) (by decide +kernel)
set_option maxRecDepth 20000 in
theorem gX4_foresee_X4_no : GoodIn wsX4_foresee (wsV RX4 47 RX4 yX4_no wsX4_no) := goodIn_app (goodIn_of _ (by decide +kernel)) ggX4_foresee_X4_no
set_option maxRecDepth 20000 in
theorem ggX4_foresee_X3_become : GoodIn wsX4_foresee wsX3_become := goodIn_r _ [16, 17, 18, 19, 20, 21, 22, 23, 24, 25, 26, 27, 28, 29, 30, 31, 120, 121, 122, 123, 124, 125, 126, 127, 128, 129, 130, 131] (by decide +kernel) (by decide +kernel)
set_option maxRecDepth 20000 in
theorem gX4_foresee_X3_become : GoodIn wsX4_foresee (wsV RX4 88 RX3 yX3_become wsX3_become) := goodIn_app (goodIn_of _ (by decide +kernel)) ggX4_foresee_X3_become
set_option maxRecDepth 20000 in
theorem ggX4_foresee_X3_pass : GoodIn wsX4_foresee wsX3_pass := goodIn_r _ [35, 18, 17, 36, 37, 38, 15, 39, 20, 26, 40, 41, 42, 43, 44, 45, 46, 47, 48, 49, 50, 51, 52, 53, 54, 55, 56, 57, 58, 31, 59, 60, 61, 62, 21, 22, 63, 64, 65, 66, 67, 68, 69, 70, 71, 72, 73, 74, 75, 76, 77, 78, 79, 23, 80, 81, 82, 83, 84, 85, 86, 87, 19, 25, 88, 89, 90, 91, 92, 93, 94, 95, 96, 97, 98, 99, 100, 101, 102, 103, 24, 120, 121, 122, 123, 124, 125, 126, 127, 128, 129, 130, 131, 115, 116, 117, 118, 119] (by decide +kernel) (by decide +kernel)
set_option maxRecDepth 20000 in
theorem gX4_foresee_X3_pass : GoodIn wsX4_foresee (wsV RX4 132 RX3 yX3_pass wsX3_pass) := goodIn_app (goodIn_of _ (by decide +kernel)) ggX4_foresee_X3_pass
set_option maxRecDepth 20000 in
theorem ggX4_foresee_X4_counted : GoodIn wsX4_foresee wsX4_counted := goodIn_r _ [106, 107, 108, 109, 15, 110, 18, 55, 56, 57, 58, 31, 111, 112, 113, 114, 120, 121, 122, 123, 124, 125, 126, 127, 128, 129, 130, 131] (by decide +kernel) (by decide +kernel)
set_option maxRecDepth 20000 in
theorem gX4_foresee_X4_counted : GoodIn wsX4_foresee (va_wsS RX4 128 yX4_counted wsX4_counted) := goodIn_app (goodIn_of _ (by decide +kernel)) ggX4_foresee_X4_counted
theorem dX4_foresee_0 : decode cX4_foresee 0 = .ok (.aload_n 0, 1) := by decide +kernel
theorem dX4_foresee_1 : decode cX4_foresee 1 = .ok (.iconst 0, 1) := by decide +kernel
theorem dX4_foresee_2 : decode cX4_foresee 2 = .ok (.putfield 29, 3) := by decide +kernel
theorem dX4_foresee_5 : decode cX4_foresee 5 = .ok (.iload_n 1, 1) := by decide +kernel
theorem dX4_foresee_6 : decode cX4_foresee 6 = .ok (.iconst 1, 1) := by decide +kernel
theorem dX4_foresee_7 : decode cX4_foresee 7 = .ok (.bipush 60, 2) := by decide +kernel
theorem dX4_foresee_9 : decode cX4_foresee 9 = .ok (.invokestatic 35, 3) := by decide +kernel
theorem dX4_foresee_12 : decode cX4_foresee 12 = .ok (.ifCond .ne 9, 3) := by decide +kernel
theorem dX4_foresee_15 : decode cX4_foresee 15 = .ok (.aload_n 0, 1) := by decide +kernel
theorem dX4_foresee_16 : decode cX4_foresee 16 = .ok (.iconst 1, 1) := by decide +kernel
theorem dX4_foresee_17 : decode cX4_foresee 17 = .ok (.invokevirtual 47, 3) := by decide +kernel
theorem dX4_foresee_20 : decode cX4_foresee 20 = .ok (.ireturn, 1) := by decide +kernel
theorem dX4_foresee_21 : decode cX4_foresee 21 = .ok (.iload_n 2, 1) := by decide +kernel
theorem dX4_foresee_22 : decode cX4_foresee 22 = .ok (.iconst 2, 1) := by decide +kernel
theorem dX4_foresee_23 : decode cX4_foresee 23 = .ok (.bipush 8, 2) := by decide +kernel
theorem dX4_foresee_25 : decode cX4_foresee 25 = .ok (.invokestatic 35, 3) := by decide +kernel
theorem dX4_foresee_28 : decode cX4_foresee 28 = .ok (.ifCond .ne 9, 3) := by decide +kernel
theorem dX4_foresee_31 : decode cX4_foresee 31 = .ok (.aload_n 0, 1) := by decide +kernel
theorem dX4_foresee_32 : decode cX4_foresee 32 = .ok (.iconst 2, 1) := by decide +kernel
theorem dX4_foresee_33 : decode cX4_foresee 33 = .ok (.invokevirtual 47, 3) := by decide +kernel
theorem dX4_foresee_36 : decode cX4_foresee 36 = .ok (.ireturn, 1) := by decide +kernel
theorem dX4_foresee_37 : decode cX4_foresee 37 = .ok (.aload_n 0, 1) := by decide +kernel
theorem dX4_foresee_38 : decode cX4_foresee 38 = .ok (.getfield 26, 3) := by decide +kernel
theorem dX4_foresee_41 : decode cX4_foresee 41 = .ok (.aload_n 0, 1) := by decide +kernel
theorem dX4_foresee_42 : decode cX4_foresee 42 = .ok (.getfield 22, 3) := by decide +kernel
theorem dX4_foresee_45 : decode cX4_foresee 45 = .ok (.invokevirtual 88, 3) := by decide +kernel
theorem dX4_foresee_48 : decode cX4_foresee 48 = .ok (.iconst 0, 1) := by decide +kernel
theorem dX4_foresee_49 : decode cX4_foresee 49 = .ok (.istore_n 3, 1) := by decide +kernel
theorem dX4_foresee_50 : decode cX4_foresee 50 = .ok (.iload_n 3, 1) := by decide +kernel
theorem dX4_foresee_51 : decode cX4_foresee 51 = .ok (.iload_n 1, 1) := by decide +kernel
theorem dX4_foresee_52 : decode cX4_foresee 52 = .ok (.if_icmp .ge 16, 3) := by decide +kernel
theorem dX4_foresee_55 : decode cX4_foresee 55 = .ok (.aload_n 0, 1) := by decide +kernel
theorem dX4_foresee_56 : decode cX4_foresee 56 = .ok (.getfield 26, 3) := by decide +kernel
theorem dX4_foresee_59 : decode cX4_foresee 59 = .ok (.invokevirtual 132, 3) := by decide +kernel
theorem dX4_foresee_62 : decode cX4_foresee 62 = .ok (.iinc 3 1, 3) := by decide +kernel
theorem dX4_foresee_65 : decode cX4_foresee 65 = .ok (.goto (-15), 3) := by decide +kernel
theorem dX4_foresee_68 : decode cX4_foresee 68 = .ok (.aload_n 0, 1) := by decide +kernel
theorem dX4_foresee_69 : decode cX4_foresee 69 = .ok (.getfield 26, 3) := by decide +kernel
theorem dX4_foresee_72 : decode cX4_foresee 72 = .ok (.iload_n 2, 1) := by decide +kernel
theorem dX4_foresee_73 : decode cX4_foresee 73 = .ok (.invokestatic 128, 3) := by decide +kernel
theorem dX4_foresee_76 : decode cX4_foresee 76 = .ok (.ireturn, 1) := by decide +kernel
set_option maxRecDepth 20000 in
theorem ggX4_earns_X4_isMember : GoodIn wsX4_earns wsX4_isMember := goodIn_r _ [8, 3, 9, 10, 7, 11, 72, 73, 74, 75, 76, 77, 78, 79, 80, 81, 82, 83, 84, 85, 86, 87, 88] (by decide +kernel) (by decide +kernel)
set_option maxRecDepth 20000 in
theorem gX4_earns_X4_isMember : GoodIn wsX4_earns (wsV RX4 59 RX4 yX4_isMember wsX4_isMember) := goodIn_app (goodIn_of _ (by decide +kernel)) ggX4_earns_X4_isMember
set_option maxRecDepth 20000 in
theorem ggX4_earns_X4_no : GoodIn wsX4_earns wsX4_no := goodIn_r _ [15, 1, 72, 73, 74, 75, 76] (by decide +kernel) (by decide +kernel)
set_option maxRecDepth 20000 in
theorem gX4_earns_X4_no : GoodIn wsX4_earns (wsV RX4 47 RX4 yX4_no wsX4_no) := goodIn_app (goodIn_of _ (by decide +kernel)) ggX4_earns_X4_no
set_option maxRecDepth 20000 in
theorem ggX4_earns_X3_become : GoodIn wsX4_earns wsX3_become := goodIn_r _ [20, 21, 22, 23, 24, 25, 26, 27, 28, 29, 30, 31, 32, 33, 34, 35, 77, 78, 79, 80, 81, 82, 83, 84, 85, 86, 87, 88] (by decide +kernel) (by decide +kernel)
set_option maxRecDepth 20000 in
theorem gX4_earns_X3_become : GoodIn wsX4_earns (wsV RX4 88 RX3 yX3_become wsX3_become) := goodIn_app (goodIn_of _ (by decide +kernel)) ggX4_earns_X3_become
set_option maxRecDepth 20000 in
theorem ggX4_earns_X3_fire : GoodIn wsX4_earns wsX3_fire := goodIn_r _ [39, 24, 30, 40, 41, 42, 43, 44, 45, 46, 47, 48, 49, 19, 50, 22, 51, 52, 53, 54, 55, 56, 57, 58, 35, 77, 78, 79, 80, 81, 82, 83, 84, 85, 86, 87, 88] (by decide +kernel) (by decide +kernel)
set_option maxRecDepth 20000 in
theorem gX4_earns_X3_fire : GoodIn wsX4_earns (wsV RX4 92 RX3 yX3_fire wsX3_fire) := goodIn_app (goodIn_of _ (by decide +kernel)) ggX4_earns_X3_fire
set_option maxRecDepth 20000 in
theorem ggX4_earns_X3_comb : GoodIn wsX4_earns wsX3_comb := goodIn_r _ [62, 22, 25, 40, 41, 42, 43, 26, 51, 52, 53, 19, 54, 55, 56, 57, 58, 35, 63, 64, 65, 66, 30, 44, 45, 46, 47, 48, 49, 50, 67, 68, 69, 70, 77, 78, 79, 80, 81, 82, 83, 84, 85, 86, 87, 88] (by decide +kernel) (by decide +kernel)
set_option maxRecDepth 20000 in
theorem gX4_earns_X3_comb : GoodIn wsX4_earns (wsV RX4 135 RX3 yX3_comb wsX3_comb) := goodIn_app (goodIn_of _ (by decide +kernel)) ggX4_earns_X3_comb
set_option maxRecDepth 20000 in
theorem ggX4_earns_X3_of : GoodIn wsX4_earns wsX3_of := goodIn_r _ [58, 35, 77, 78, 79, 80, 81, 82, 83, 84, 85, 86, 87, 88] (by decide +kernel) (by decide +kernel)
set_option maxRecDepth 20000 in
theorem gX4_earns_X3_of : GoodIn wsX4_earns (wsV RX4 39 RX3 yX3_of wsX3_of) := goodIn_app (goodIn_of _ (by decide +kernel)) ggX4_earns_X3_of
theorem dX4_earns_0 : decode cX4_earns 0 = .ok (.aload_n 0, 1) := by decide +kernel
theorem dX4_earns_1 : decode cX4_earns 1 = .ok (.iconst 0, 1) := by decide +kernel
theorem dX4_earns_2 : decode cX4_earns 2 = .ok (.putfield 29, 3) := by decide +kernel
theorem dX4_earns_5 : decode cX4_earns 5 = .ok (.aload_n 0, 1) := by decide +kernel
theorem dX4_earns_6 : decode cX4_earns 6 = .ok (.iload_n 1, 1) := by decide +kernel
theorem dX4_earns_7 : decode cX4_earns 7 = .ok (.invokevirtual 59, 3) := by decide +kernel
theorem dX4_earns_10 : decode cX4_earns 10 = .ok (.ifCond .ne 9, 3) := by decide +kernel
theorem dX4_earns_13 : decode cX4_earns 13 = .ok (.aload_n 0, 1) := by decide +kernel
theorem dX4_earns_14 : decode cX4_earns 14 = .ok (.iconst 1, 1) := by decide +kernel
theorem dX4_earns_15 : decode cX4_earns 15 = .ok (.invokevirtual 47, 3) := by decide +kernel
theorem dX4_earns_18 : decode cX4_earns 18 = .ok (.ireturn, 1) := by decide +kernel
theorem dX4_earns_19 : decode cX4_earns 19 = .ok (.aload_n 0, 1) := by decide +kernel
theorem dX4_earns_20 : decode cX4_earns 20 = .ok (.getfield 26, 3) := by decide +kernel
theorem dX4_earns_23 : decode cX4_earns 23 = .ok (.aload_n 0, 1) := by decide +kernel
theorem dX4_earns_24 : decode cX4_earns 24 = .ok (.getfield 22, 3) := by decide +kernel
theorem dX4_earns_27 : decode cX4_earns 27 = .ok (.invokevirtual 88, 3) := by decide +kernel
theorem dX4_earns_30 : decode cX4_earns 30 = .ok (.aload_n 0, 1) := by decide +kernel
theorem dX4_earns_31 : decode cX4_earns 31 = .ok (.getfield 26, 3) := by decide +kernel
theorem dX4_earns_34 : decode cX4_earns 34 = .ok (.invokevirtual 92, 3) := by decide +kernel
theorem dX4_earns_37 : decode cX4_earns 37 = .ok (.aload_n 0, 1) := by decide +kernel
theorem dX4_earns_38 : decode cX4_earns 38 = .ok (.getfield 26, 3) := by decide +kernel
theorem dX4_earns_41 : decode cX4_earns 41 = .ok (.invokevirtual 135, 3) := by decide +kernel
theorem dX4_earns_44 : decode cX4_earns 44 = .ok (.aload_n 0, 1) := by decide +kernel
theorem dX4_earns_45 : decode cX4_earns 45 = .ok (.getfield 26, 3) := by decide +kernel
theorem dX4_earns_48 : decode cX4_earns 48 = .ok (.iload_n 1, 1) := by decide +kernel
theorem dX4_earns_49 : decode cX4_earns 49 = .ok (.iconst 2, 1) := by decide +kernel
theorem dX4_earns_50 : decode cX4_earns 50 = .ok (.invokevirtual 39, 3) := by decide +kernel
theorem dX4_earns_53 : decode cX4_earns 53 = .ok (.aload_n 0, 1) := by decide +kernel
theorem dX4_earns_54 : decode cX4_earns 54 = .ok (.getfield 22, 3) := by decide +kernel
theorem dX4_earns_57 : decode cX4_earns 57 = .ok (.iload_n 1, 1) := by decide +kernel
theorem dX4_earns_58 : decode cX4_earns 58 = .ok (.iconst 2, 1) := by decide +kernel
theorem dX4_earns_59 : decode cX4_earns 59 = .ok (.invokevirtual 39, 3) := by decide +kernel
theorem dX4_earns_62 : decode cX4_earns 62 = .ok (.isub, 1) := by decide +kernel
theorem dX4_earns_63 : decode cX4_earns 63 = .ok (.ireturn, 1) := by decide +kernel
set_option maxRecDepth 20000 in
theorem ggX4_dies_X4_isMember : GoodIn wsX4_dies wsX4_isMember := goodIn_r _ [8, 3, 9, 10, 7, 11, 109, 110, 111, 112, 113, 114, 115, 116, 117, 118, 119, 120, 121, 122, 123, 124, 125] (by decide +kernel) (by decide +kernel)
set_option maxRecDepth 20000 in
theorem gX4_dies_X4_isMember : GoodIn wsX4_dies (wsV RX4 59 RX4 yX4_isMember wsX4_isMember) := goodIn_app (goodIn_of _ (by decide +kernel)) ggX4_dies_X4_isMember
set_option maxRecDepth 20000 in
theorem ggX4_dies_X4_no : GoodIn wsX4_dies wsX4_no := goodIn_r _ [15, 1, 109, 110, 111, 112, 113] (by decide +kernel) (by decide +kernel)
set_option maxRecDepth 20000 in
theorem gX4_dies_X4_no : GoodIn wsX4_dies (wsV RX4 47 RX4 yX4_no wsX4_no) := goodIn_app (goodIn_of _ (by decide +kernel)) ggX4_dies_X4_no
set_option maxRecDepth 20000 in
theorem ggX4_dies_X3_become : GoodIn wsX4_dies wsX3_become := goodIn_r _ [20, 21, 22, 23, 24, 25, 26, 27, 28, 29, 30, 31, 32, 33, 34, 35, 114, 115, 116, 117, 118, 119, 120, 121, 122, 123, 124, 125] (by decide +kernel) (by decide +kernel)
set_option maxRecDepth 20000 in
theorem gX4_dies_X3_become : GoodIn wsX4_dies (wsV RX4 88 RX3 yX3_become wsX3_become) := goodIn_app (goodIn_of _ (by decide +kernel)) ggX4_dies_X3_become
set_option maxRecDepth 20000 in
theorem ggX4_dies_X3_of : GoodIn wsX4_dies wsX3_of := goodIn_r _ [39, 35, 114, 115, 116, 117, 118, 119, 120, 121, 122, 123, 124, 125] (by decide +kernel) (by decide +kernel)
set_option maxRecDepth 20000 in
theorem gX4_dies_X3_of : GoodIn wsX4_dies (wsV RX4 39 RX3 yX3_of wsX3_of) := goodIn_app (goodIn_of _ (by decide +kernel)) ggX4_dies_X3_of
set_option maxRecDepth 20000 in
theorem ggX4_dies_X3_pass : GoodIn wsX4_dies wsX3_pass := goodIn_r _ [43, 22, 21, 44, 45, 46, 19, 47, 24, 30, 48, 49, 50, 51, 52, 53, 54, 55, 56, 57, 58, 59, 60, 61, 62, 63, 37, 38, 39, 35, 64, 65, 66, 67, 25, 26, 68, 69, 70, 71, 72, 73, 74, 75, 76, 77, 78, 79, 80, 81, 82, 83, 84, 27, 85, 86, 87, 88, 89, 90, 91, 92, 23, 29, 93, 94, 95, 96, 97, 98, 99, 100, 101, 102, 103, 104, 105, 106, 107, 108, 28, 114, 115, 116, 117, 118, 119, 120, 121, 122, 123, 124, 125, 109, 110, 111, 112, 113] (by decide +kernel) (by decide +kernel)
set_option maxRecDepth 20000 in
theorem gX4_dies_X3_pass : GoodIn wsX4_dies (wsV RX4 132 RX3 yX3_pass wsX3_pass) := goodIn_app (goodIn_of _ (by decide +kernel)) ggX4_dies_X3_pass
theorem dX4_dies_0 : decode cX4_dies 0 = .ok (.aload_n 0, 1) := by decide +kernel
theorem dX4_dies_1 : decode cX4_dies 1 = .ok (.iconst 0, 1) := by decide +kernel
theorem dX4_dies_2 : decode cX4_dies 2 = .ok (.putfield 29, 3) := by decide +kernel
theorem dX4_dies_5 : decode cX4_dies 5 = .ok (.aload_n 0, 1) := by decide +kernel
theorem dX4_dies_6 : decode cX4_dies 6 = .ok (.iload_n 1, 1) := by decide +kernel
theorem dX4_dies_7 : decode cX4_dies 7 = .ok (.invokevirtual 59, 3) := by decide +kernel
theorem dX4_dies_10 : decode cX4_dies 10 = .ok (.ifCond .ne 9, 3) := by decide +kernel
theorem dX4_dies_13 : decode cX4_dies 13 = .ok (.aload_n 0, 1) := by decide +kernel
theorem dX4_dies_14 : decode cX4_dies 14 = .ok (.iconst 1, 1) := by decide +kernel
theorem dX4_dies_15 : decode cX4_dies 15 = .ok (.invokevirtual 47, 3) := by decide +kernel
theorem dX4_dies_18 : decode cX4_dies 18 = .ok (.ireturn, 1) := by decide +kernel
theorem dX4_dies_19 : decode cX4_dies 19 = .ok (.aload_n 0, 1) := by decide +kernel
theorem dX4_dies_20 : decode cX4_dies 20 = .ok (.getfield 26, 3) := by decide +kernel
theorem dX4_dies_23 : decode cX4_dies 23 = .ok (.aload_n 0, 1) := by decide +kernel
theorem dX4_dies_24 : decode cX4_dies 24 = .ok (.getfield 22, 3) := by decide +kernel
theorem dX4_dies_27 : decode cX4_dies 27 = .ok (.invokevirtual 88, 3) := by decide +kernel
theorem dX4_dies_30 : decode cX4_dies 30 = .ok (.iconst 0, 1) := by decide +kernel
theorem dX4_dies_31 : decode cX4_dies 31 = .ok (.istore_n 2, 1) := by decide +kernel
theorem dX4_dies_32 : decode cX4_dies 32 = .ok (.iload_n 2, 1) := by decide +kernel
theorem dX4_dies_33 : decode cX4_dies 33 = .ok (.bipush 100, 2) := by decide +kernel
theorem dX4_dies_35 : decode cX4_dies 35 = .ok (.if_icmp .gt 32, 3) := by decide +kernel
theorem dX4_dies_38 : decode cX4_dies 38 = .ok (.aload_n 0, 1) := by decide +kernel
theorem dX4_dies_39 : decode cX4_dies 39 = .ok (.getfield 26, 3) := by decide +kernel
theorem dX4_dies_42 : decode cX4_dies 42 = .ok (.iload_n 1, 1) := by decide +kernel
theorem dX4_dies_43 : decode cX4_dies 43 = .ok (.bipush 6, 2) := by decide +kernel
theorem dX4_dies_45 : decode cX4_dies 45 = .ok (.invokevirtual 39, 3) := by decide +kernel
theorem dX4_dies_48 : decode cX4_dies 48 = .ok (.iconst 2, 1) := by decide +kernel
theorem dX4_dies_49 : decode cX4_dies 49 = .ok (.if_icmp .ne 5, 3) := by decide +kernel
theorem dX4_dies_52 : decode cX4_dies 52 = .ok (.iload_n 2, 1) := by decide +kernel
theorem dX4_dies_53 : decode cX4_dies 53 = .ok (.ireturn, 1) := by decide +kernel
theorem dX4_dies_54 : decode cX4_dies 54 = .ok (.aload_n 0, 1) := by decide +kernel
theorem dX4_dies_55 : decode cX4_dies 55 = .ok (.getfield 26, 3) := by decide +kernel
theorem dX4_dies_58 : decode cX4_dies 58 = .ok (.invokevirtual 132, 3) := by decide +kernel
theorem dX4_dies_61 : decode cX4_dies 61 = .ok (.iinc 2 1, 3) := by decide +kernel
theorem dX4_dies_64 : decode cX4_dies 64 = .ok (.goto (-32), 3) := by decide +kernel
theorem dX4_dies_67 : decode cX4_dies 67 = .ok (.iconst (-1), 1) := by decide +kernel
theorem dX4_dies_68 : decode cX4_dies 68 = .ok (.ireturn, 1) := by decide +kernel
set_option maxRecDepth 20000 in
theorem ggX4_lasts_X3_become : GoodIn wsX4_lasts wsX3_become := goodIn_r _ [8, 9, 10, 11, 12, 13, 14, 15, 16, 17, 18, 19, 20, 21, 22, 23, 101, 102, 103, 104, 105, 106, 107, 108, 109, 110, 111, 112] (by decide +kernel) (by decide +kernel)
set_option maxRecDepth 20000 in
theorem gX4_lasts_X3_become : GoodIn wsX4_lasts (wsV RX4 88 RX3 yX3_become wsX3_become) := goodIn_app (goodIn_of _ (by decide +kernel)) ggX4_lasts_X3_become
set_option maxRecDepth 20000 in
theorem ggX4_lasts_X3_pass : GoodIn wsX4_lasts wsX3_pass := goodIn_r _ [27, 10, 9, 28, 29, 30, 7, 31, 12, 18, 32, 33, 34, 35, 36, 37, 38, 39, 40, 41, 42, 43, 44, 45, 46, 47, 48, 49, 50, 23, 51, 52, 53, 54, 13, 14, 55, 56, 57, 58, 59, 60, 61, 62, 63, 64, 65, 66, 67, 68, 69, 70, 71, 15, 72, 73, 74, 75, 76, 77, 78, 79, 11, 17, 80, 81, 82, 83, 84, 85, 86, 87, 88, 89, 90, 91, 92, 93, 94, 95, 16, 101, 102, 103, 104, 105, 106, 107, 108, 109, 110, 111, 112, 96, 97, 98, 99, 100] (by decide +kernel) (by decide +kernel)
set_option maxRecDepth 20000 in
theorem gX4_lasts_X3_pass : GoodIn wsX4_lasts (wsV RX4 132 RX3 yX3_pass wsX3_pass) := goodIn_app (goodIn_of _ (by decide +kernel)) ggX4_lasts_X3_pass
theorem dX4_lasts_0 : decode cX4_lasts 0 = .ok (.aload_n 0, 1) := by decide +kernel
theorem dX4_lasts_1 : decode cX4_lasts 1 = .ok (.iconst 0, 1) := by decide +kernel
theorem dX4_lasts_2 : decode cX4_lasts 2 = .ok (.putfield 29, 3) := by decide +kernel
theorem dX4_lasts_5 : decode cX4_lasts 5 = .ok (.aload_n 0, 1) := by decide +kernel
theorem dX4_lasts_6 : decode cX4_lasts 6 = .ok (.getfield 26, 3) := by decide +kernel
theorem dX4_lasts_9 : decode cX4_lasts 9 = .ok (.aload_n 0, 1) := by decide +kernel
theorem dX4_lasts_10 : decode cX4_lasts 10 = .ok (.getfield 22, 3) := by decide +kernel
theorem dX4_lasts_13 : decode cX4_lasts 13 = .ok (.invokevirtual 88, 3) := by decide +kernel
theorem dX4_lasts_16 : decode cX4_lasts 16 = .ok (.iconst 1, 1) := by decide +kernel
theorem dX4_lasts_17 : decode cX4_lasts 17 = .ok (.istore_n 1, 1) := by decide +kernel
theorem dX4_lasts_18 : decode cX4_lasts 18 = .ok (.iload_n 1, 1) := by decide +kernel
theorem dX4_lasts_19 : decode cX4_lasts 19 = .ok (.bipush 100, 2) := by decide +kernel
theorem dX4_lasts_21 : decode cX4_lasts 21 = .ok (.if_icmp .gt 28, 3) := by decide +kernel
theorem dX4_lasts_24 : decode cX4_lasts 24 = .ok (.aload_n 0, 1) := by decide +kernel
theorem dX4_lasts_25 : decode cX4_lasts 25 = .ok (.getfield 26, 3) := by decide +kernel
theorem dX4_lasts_28 : decode cX4_lasts 28 = .ok (.invokevirtual 132, 3) := by decide +kernel
theorem dX4_lasts_31 : decode cX4_lasts 31 = .ok (.aload_n 0, 1) := by decide +kernel
theorem dX4_lasts_32 : decode cX4_lasts 32 = .ok (.getfield 26, 3) := by decide +kernel
theorem dX4_lasts_35 : decode cX4_lasts 35 = .ok (.getfield 138, 3) := by decide +kernel
theorem dX4_lasts_38 : decode cX4_lasts 38 = .ok (.ifCond .eq 5, 3) := by decide +kernel
theorem dX4_lasts_41 : decode cX4_lasts 41 = .ok (.iload_n 1, 1) := by decide +kernel
theorem dX4_lasts_42 : decode cX4_lasts 42 = .ok (.ireturn, 1) := by decide +kernel
theorem dX4_lasts_43 : decode cX4_lasts 43 = .ok (.iinc 1 1, 3) := by decide +kernel
theorem dX4_lasts_46 : decode cX4_lasts 46 = .ok (.goto (-28), 3) := by decide +kernel
theorem dX4_lasts_49 : decode cX4_lasts 49 = .ok (.iconst (-1), 1) := by decide +kernel
theorem dX4_lasts_50 : decode cX4_lasts 50 = .ok (.ireturn, 1) := by decide +kernel
set_option maxRecDepth 20000 in
theorem ggX4_advise_X4_isMember : GoodIn wsX4_advise wsX4_isMember := goodIn_r _ [8, 3, 9, 10, 7, 11, 122, 123, 124, 125, 126, 127, 128, 129, 130, 131, 132, 133, 134, 135, 136, 137, 138] (by decide +kernel) (by decide +kernel)
set_option maxRecDepth 20000 in
theorem gX4_advise_X4_isMember : GoodIn wsX4_advise (wsV RX4 59 RX4 yX4_isMember wsX4_isMember) := goodIn_app (goodIn_of _ (by decide +kernel)) ggX4_advise_X4_isMember
set_option maxRecDepth 20000 in
theorem ggX4_advise_X4_no : GoodIn wsX4_advise wsX4_no := goodIn_r _ [15, 1, 122, 123, 124, 125, 126] (by decide +kernel) (by decide +kernel)
set_option maxRecDepth 20000 in
theorem gX4_advise_X4_no : GoodIn wsX4_advise (wsV RX4 47 RX4 yX4_no wsX4_no) := goodIn_app (goodIn_of _ (by decide +kernel)) ggX4_advise_X4_no
set_option maxRecDepth 20000 in
theorem ggX4_advise_X4_isDead : GoodIn wsX4_advise wsX4_isDead := goodIn_r _ [19, 3, 20, 21, 22, 23, 24, 25, 122, 123, 124, 125, 126, 127, 128, 129, 130, 131, 132, 133, 134, 135, 136, 137, 138] (by decide +kernel) (by decide +kernel)
set_option maxRecDepth 20000 in
theorem gX4_advise_X4_isDead : GoodIn wsX4_advise (wsV RX4 63 RX4 yX4_isDead wsX4_isDead) := goodIn_app (goodIn_of _ (by decide +kernel)) ggX4_advise_X4_isDead
set_option maxRecDepth 20000 in
theorem ggX4_advise_X4_others : GoodIn wsX4_advise wsX4_others := goodIn_r _ [29, 3, 30, 31, 32, 23, 33, 34, 35, 21, 22, 24, 25, 20, 122, 123, 124, 125, 126, 127, 128, 129, 130, 131, 132, 133, 134, 135, 136, 137, 138] (by decide +kernel) (by decide +kernel)
set_option maxRecDepth 20000 in
theorem gX4_advise_X4_others : GoodIn wsX4_advise (wsV RX4 66 RX4 yX4_others wsX4_others) := goodIn_app (goodIn_of _ (by decide +kernel)) ggX4_advise_X4_others
set_option maxRecDepth 20000 in
theorem ggX4_advise_X3_become : GoodIn wsX4_advise wsX3_become := goodIn_r _ [39, 40, 34, 41, 42, 43, 44, 45, 46, 47, 48, 49, 50, 51, 52, 25, 127, 128, 129, 130, 131, 132, 133, 134, 135, 136, 137, 138] (by decide +kernel) (by decide +kernel)
set_option maxRecDepth 20000 in
theorem gX4_advise_X3_become : GoodIn wsX4_advise (wsV RX4 88 RX3 yX3_become wsX3_become) := goodIn_app (goodIn_of _ (by decide +kernel)) ggX4_advise_X3_become
set_option maxRecDepth 20000 in
theorem ggX4_advise_X3_set : GoodIn wsX4_advise wsX3_set := goodIn_r _ [56, 25, 127, 128, 129, 130, 131, 132, 133, 134, 135, 136, 137, 138] (by decide +kernel) (by decide +kernel)
set_option maxRecDepth 20000 in
theorem gX4_advise_X3_set : GoodIn wsX4_advise (wsV RX4 69 RX3 yX3_set wsX3_set) := goodIn_app (goodIn_of _ (by decide +kernel)) ggX4_advise_X3_set
set_option maxRecDepth 20000 in
theorem ggX4_advise_X3_pass : GoodIn wsX4_advise wsX3_pass := goodIn_r _ [60, 34, 40, 61, 62, 63, 23, 64, 42, 48, 65, 66, 67, 68, 69, 70, 71, 72, 73, 74, 75, 76, 77, 78, 79, 35, 21, 22, 24, 25, 80, 81, 82, 83, 43, 44, 84, 85, 86, 87, 88, 54, 55, 56, 89, 90, 91, 92, 93, 94, 95, 96, 97, 45, 98, 99, 100, 101, 102, 103, 104, 105, 41, 47, 106, 107, 108, 109, 110, 111, 112, 113, 114, 115, 116, 117, 118, 119, 120, 121, 46, 127, 128, 129, 130, 131, 132, 133, 134, 135, 136, 137, 138, 122, 123, 124, 125, 126] (by decide +kernel) (by decide +kernel)
set_option maxRecDepth 20000 in
theorem gX4_advise_X3_pass : GoodIn wsX4_advise (wsV RX4 132 RX3 yX3_pass wsX3_pass) := goodIn_app (goodIn_of _ (by decide +kernel)) ggX4_advise_X3_pass
theorem dX4_advise_0 : decode cX4_advise 0 = .ok (.aload_n 0, 1) := by decide +kernel
theorem dX4_advise_1 : decode cX4_advise 1 = .ok (.iconst 0, 1) := by decide +kernel
theorem dX4_advise_2 : decode cX4_advise 2 = .ok (.putfield 29, 3) := by decide +kernel
theorem dX4_advise_5 : decode cX4_advise 5 = .ok (.aload_n 0, 1) := by decide +kernel
theorem dX4_advise_6 : decode cX4_advise 6 = .ok (.iload_n 1, 1) := by decide +kernel
theorem dX4_advise_7 : decode cX4_advise 7 = .ok (.invokevirtual 59, 3) := by decide +kernel
theorem dX4_advise_10 : decode cX4_advise 10 = .ok (.ifCond .ne 9, 3) := by decide +kernel
theorem dX4_advise_13 : decode cX4_advise 13 = .ok (.aload_n 0, 1) := by decide +kernel
theorem dX4_advise_14 : decode cX4_advise 14 = .ok (.iconst 1, 1) := by decide +kernel
theorem dX4_advise_15 : decode cX4_advise 15 = .ok (.invokevirtual 47, 3) := by decide +kernel
theorem dX4_advise_18 : decode cX4_advise 18 = .ok (.ireturn, 1) := by decide +kernel
theorem dX4_advise_19 : decode cX4_advise 19 = .ok (.aload_n 0, 1) := by decide +kernel
theorem dX4_advise_20 : decode cX4_advise 20 = .ok (.iload_n 1, 1) := by decide +kernel
theorem dX4_advise_21 : decode cX4_advise 21 = .ok (.invokevirtual 63, 3) := by decide +kernel
theorem dX4_advise_24 : decode cX4_advise 24 = .ok (.ifCond .eq 9, 3) := by decide +kernel
theorem dX4_advise_27 : decode cX4_advise 27 = .ok (.aload_n 0, 1) := by decide +kernel
theorem dX4_advise_28 : decode cX4_advise 28 = .ok (.iconst 2, 1) := by decide +kernel
theorem dX4_advise_29 : decode cX4_advise 29 = .ok (.invokevirtual 47, 3) := by decide +kernel
theorem dX4_advise_32 : decode cX4_advise 32 = .ok (.ireturn, 1) := by decide +kernel
theorem dX4_advise_33 : decode cX4_advise 33 = .ok (.iconst (-1), 1) := by decide +kernel
theorem dX4_advise_34 : decode cX4_advise 34 = .ok (.istore_n 2, 1) := by decide +kernel
theorem dX4_advise_35 : decode cX4_advise 35 = .ok (.iconst (-1), 1) := by decide +kernel
theorem dX4_advise_36 : decode cX4_advise 36 = .ok (.istore_n 3, 1) := by decide +kernel
theorem dX4_advise_37 : decode cX4_advise 37 = .ok (.iconst 0, 1) := by decide +kernel
theorem dX4_advise_38 : decode cX4_advise 38 = .ok (.istore 4, 2) := by decide +kernel
theorem dX4_advise_40 : decode cX4_advise 40 = .ok (.iload 4, 2) := by decide +kernel
theorem dX4_advise_42 : decode cX4_advise 42 = .ok (.iconst 3, 1) := by decide +kernel
theorem dX4_advise_43 : decode cX4_advise 43 = .ok (.if_icmp .ge 93, 3) := by decide +kernel
theorem dX4_advise_46 : decode cX4_advise 46 = .ok (.aload_n 0, 1) := by decide +kernel
theorem dX4_advise_47 : decode cX4_advise 47 = .ok (.iload_n 1, 1) := by decide +kernel
theorem dX4_advise_48 : decode cX4_advise 48 = .ok (.iload 4, 2) := by decide +kernel
theorem dX4_advise_50 : decode cX4_advise 50 = .ok (.invokevirtual 66, 3) := by decide +kernel
theorem dX4_advise_53 : decode cX4_advise 53 = .ok (.iconst 4, 1) := by decide +kernel
theorem dX4_advise_54 : decode cX4_advise 54 = .ok (.if_icmp .lt 6, 3) := by decide +kernel
theorem dX4_advise_57 : decode cX4_advise 57 = .ok (.goto 73, 3) := by decide +kernel
theorem dX4_advise_60 : decode cX4_advise 60 = .ok (.aload_n 0, 1) := by decide +kernel
theorem dX4_advise_61 : decode cX4_advise 61 = .ok (.getfield 26, 3) := by decide +kernel
theorem dX4_advise_64 : decode cX4_advise 64 = .ok (.aload_n 0, 1) := by decide +kernel
theorem dX4_advise_65 : decode cX4_advise 65 = .ok (.getfield 22, 3) := by decide +kernel
theorem dX4_advise_68 : decode cX4_advise 68 = .ok (.invokevirtual 88, 3) := by decide +kernel
theorem dX4_advise_71 : decode cX4_advise 71 = .ok (.aload_n 0, 1) := by decide +kernel
theorem dX4_advise_72 : decode cX4_advise 72 = .ok (.getfield 26, 3) := by decide +kernel
theorem dX4_advise_75 : decode cX4_advise 75 = .ok (.iload_n 1, 1) := by decide +kernel
theorem dX4_advise_76 : decode cX4_advise 76 = .ok (.iconst 5, 1) := by decide +kernel
theorem dX4_advise_77 : decode cX4_advise 77 = .ok (.iload 4, 2) := by decide +kernel
theorem dX4_advise_79 : decode cX4_advise 79 = .ok (.invokevirtual 69, 3) := by decide +kernel
theorem dX4_advise_82 : decode cX4_advise 82 = .ok (.iconst 0, 1) := by decide +kernel
theorem dX4_advise_83 : decode cX4_advise 83 = .ok (.istore 5, 2) := by decide +kernel
theorem dX4_advise_85 : decode cX4_advise 85 = .ok (.iload 5, 2) := by decide +kernel
theorem dX4_advise_87 : decode cX4_advise 87 = .ok (.bipush 6, 2) := by decide +kernel
theorem dX4_advise_89 : decode cX4_advise 89 = .ok (.if_icmp .ge 16, 3) := by decide +kernel
theorem dX4_advise_92 : decode cX4_advise 92 = .ok (.aload_n 0, 1) := by decide +kernel
theorem dX4_advise_93 : decode cX4_advise 93 = .ok (.getfield 26, 3) := by decide +kernel
theorem dX4_advise_96 : decode cX4_advise 96 = .ok (.invokevirtual 132, 3) := by decide +kernel
theorem dX4_advise_99 : decode cX4_advise 99 = .ok (.iinc 5 1, 3) := by decide +kernel
theorem dX4_advise_102 : decode cX4_advise 102 = .ok (.goto (-17), 3) := by decide +kernel
theorem dX4_advise_105 : decode cX4_advise 105 = .ok (.aload_n 0, 1) := by decide +kernel
theorem dX4_advise_106 : decode cX4_advise 106 = .ok (.getfield 26, 3) := by decide +kernel
theorem dX4_advise_109 : decode cX4_advise 109 = .ok (.getfield 85, 3) := by decide +kernel
theorem dX4_advise_112 : decode cX4_advise 112 = .ok (.iload_n 3, 1) := by decide +kernel
theorem dX4_advise_113 : decode cX4_advise 113 = .ok (.if_icmp .gt 6, 3) := by decide +kernel
theorem dX4_advise_116 : decode cX4_advise 116 = .ok (.goto 14, 3) := by decide +kernel
theorem dX4_advise_119 : decode cX4_advise 119 = .ok (.iload 4, 2) := by decide +kernel
theorem dX4_advise_121 : decode cX4_advise 121 = .ok (.istore_n 2, 1) := by decide +kernel
theorem dX4_advise_122 : decode cX4_advise 122 = .ok (.aload_n 0, 1) := by decide +kernel
theorem dX4_advise_123 : decode cX4_advise 123 = .ok (.getfield 26, 3) := by decide +kernel
theorem dX4_advise_126 : decode cX4_advise 126 = .ok (.getfield 85, 3) := by decide +kernel
theorem dX4_advise_129 : decode cX4_advise 129 = .ok (.istore_n 3, 1) := by decide +kernel
theorem dX4_advise_130 : decode cX4_advise 130 = .ok (.iinc 4 1, 3) := by decide +kernel
theorem dX4_advise_133 : decode cX4_advise 133 = .ok (.goto (-93), 3) := by decide +kernel
theorem dX4_advise_136 : decode cX4_advise 136 = .ok (.iload_n 2, 1) := by decide +kernel
theorem dX4_advise_137 : decode cX4_advise 137 = .ok (.ireturn, 1) := by decide +kernel
set_option maxRecDepth 20000 in
theorem ggX4_mean_X3_many : GoodIn wsX4_mean wsX3_many := goodIn_r _ [7, 8, 9, 10, 11, 6, 12, 13, 23, 24, 25, 26, 27, 28, 29, 30, 31, 32, 33, 34] (by decide +kernel) (by decide +kernel)
set_option maxRecDepth 20000 in
theorem gX4_mean_X3_many : GoodIn wsX4_mean (wsV RX4 116 RX3 yX3_many wsX3_many) := goodIn_app (goodIn_of _ (by decide +kernel)) ggX4_mean_X3_many
set_option maxRecDepth 20000 in
theorem ggX4_mean_X3_all : GoodIn wsX4_mean wsX3_all := goodIn_r _ [17, 8, 9, 10, 11, 6, 12, 13, 23, 24, 25, 26, 27, 28, 29, 30, 31, 32, 33, 34] (by decide +kernel) (by decide +kernel)
set_option maxRecDepth 20000 in
theorem gX4_mean_X3_all : GoodIn wsX4_mean (wsV RX4 119 RX3 yX3_all wsX3_all) := goodIn_app (goodIn_of _ (by decide +kernel)) ggX4_mean_X3_all
theorem dX4_mean_0 : decode cX4_mean 0 = .ok (.aload_n 0, 1) := by decide +kernel
theorem dX4_mean_1 : decode cX4_mean 1 = .ok (.iconst 0, 1) := by decide +kernel
theorem dX4_mean_2 : decode cX4_mean 2 = .ok (.putfield 29, 3) := by decide +kernel
theorem dX4_mean_5 : decode cX4_mean 5 = .ok (.aload_n 0, 1) := by decide +kernel
theorem dX4_mean_6 : decode cX4_mean 6 = .ok (.getfield 22, 3) := by decide +kernel
theorem dX4_mean_9 : decode cX4_mean 9 = .ok (.getfield 32, 3) := by decide +kernel
theorem dX4_mean_12 : decode cX4_mean 12 = .ok (.aload_n 0, 1) := by decide +kernel
theorem dX4_mean_13 : decode cX4_mean 13 = .ok (.getfield 22, 3) := by decide +kernel
theorem dX4_mean_16 : decode cX4_mean 16 = .ok (.iconst 2, 1) := by decide +kernel
theorem dX4_mean_17 : decode cX4_mean 17 = .ok (.invokevirtual 116, 3) := by decide +kernel
theorem dX4_mean_20 : decode cX4_mean 20 = .ok (.isub, 1) := by decide +kernel
theorem dX4_mean_21 : decode cX4_mean 21 = .ok (.istore_n 1, 1) := by decide +kernel
theorem dX4_mean_22 : decode cX4_mean 22 = .ok (.iload_n 1, 1) := by decide +kernel
theorem dX4_mean_23 : decode cX4_mean 23 = .ok (.ifCond .ne 7, 3) := by decide +kernel
theorem dX4_mean_26 : decode cX4_mean 26 = .ok (.dconst 0, 1) := by decide +kernel
theorem dX4_mean_27 : decode cX4_mean 27 = .ok (.goto 15, 3) := by decide +kernel
theorem dX4_mean_30 : decode cX4_mean 30 = .ok (.aload_n 0, 1) := by decide +kernel
theorem dX4_mean_31 : decode cX4_mean 31 = .ok (.getfield 22, 3) := by decide +kernel
theorem dX4_mean_34 : decode cX4_mean 34 = .ok (.iconst 1, 1) := by decide +kernel
theorem dX4_mean_35 : decode cX4_mean 35 = .ok (.invokevirtual 119, 3) := by decide +kernel
theorem dX4_mean_38 : decode cX4_mean 38 = .ok (.i2d, 1) := by decide +kernel
theorem dX4_mean_39 : decode cX4_mean 39 = .ok (.iload_n 1, 1) := by decide +kernel
theorem dX4_mean_40 : decode cX4_mean 40 = .ok (.i2d, 1) := by decide +kernel
theorem dX4_mean_41 : decode cX4_mean 41 = .ok (.ddiv, 1) := by decide +kernel
theorem dX4_mean_42 : decode cX4_mean 42 = .ok (.dreturn, 1) := by decide +kernel
set_option maxRecDepth 20000 in
theorem ggX4_digest_X4_counted : GoodIn wsX4_digest wsX4_counted := goodIn_r _ [10, 11, 12, 13, 14, 15, 16, 17, 18, 19, 20, 21, 22, 23, 24, 25, 87, 88, 89, 90, 91, 92, 93, 94, 95, 96, 97, 98] (by decide +kernel) (by decide +kernel)
set_option maxRecDepth 20000 in
theorem gX4_digest_X4_counted : GoodIn wsX4_digest (va_wsS RX4 128 yX4_counted wsX4_counted) := goodIn_app (goodIn_of _ (by decide +kernel)) ggX4_digest_X4_counted
set_option maxRecDepth 20000 in
theorem ggX4_digest_X4_potTold : GoodIn wsX4_digest wsX4_potTold := goodIn_r _ [29, 4, 30, 31, 32, 14, 33, 16, 17, 18, 19, 20, 21, 34, 35, 36, 37, 38, 39, 40, 41, 42, 43, 44, 9, 45, 46, 47, 48, 49, 50, 51, 52, 53, 54, 55, 56, 57, 58, 59, 60, 61, 62, 63, 64, 65, 66, 67, 68, 69, 70, 71, 72, 73, 74, 75, 76, 77, 78, 79, 80, 81, 82, 83, 84, 85, 86, 87, 88, 89, 90, 91, 92, 93, 94, 95, 96, 97, 98] (by decide +kernel) (by decide +kernel)
set_option maxRecDepth 20000 in
theorem gX4_digest_X4_potTold : GoodIn wsX4_digest (wsV RX4 110 RX4 yX4_potTold wsX4_potTold) := goodIn_app (goodIn_of _ (by decide +kernel)) ggX4_digest_X4_potTold
set_option maxRecDepth 20000 in
theorem ggX4_digest_X3_of : GoodIn wsX4_digest wsX3_of := goodIn_r _ [20, 21, 87, 88, 89, 90, 91, 92, 93, 94, 95, 96, 97, 98] (by decide +kernel) (by decide +kernel)
set_option maxRecDepth 20000 in
theorem gX4_digest_X3_of : GoodIn wsX4_digest (wsV RX4 39 RX3 yX3_of wsX3_of) := goodIn_app (goodIn_of _ (by decide +kernel)) ggX4_digest_X3_of
theorem dX4_digest_0 : decode cX4_digest 0 = .ok (.aload_n 0, 1) := by decide +kernel
theorem dX4_digest_1 : decode cX4_digest 1 = .ok (.iconst 0, 1) := by decide +kernel
theorem dX4_digest_2 : decode cX4_digest 2 = .ok (.putfield 29, 3) := by decide +kernel
theorem dX4_digest_5 : decode cX4_digest 5 = .ok (.ldc2_w 142, 3) := by decide +kernel
theorem dX4_digest_8 : decode cX4_digest 8 = .ok (.lstore_n 1, 1) := by decide +kernel
theorem dX4_digest_9 : decode cX4_digest 9 = .ok (.iconst 0, 1) := by decide +kernel
theorem dX4_digest_10 : decode cX4_digest 10 = .ok (.istore_n 3, 1) := by decide +kernel
theorem dX4_digest_11 : decode cX4_digest 11 = .ok (.iload_n 3, 1) := by decide +kernel
theorem dX4_digest_12 : decode cX4_digest 12 = .ok (.bipush 13, 2) := by decide +kernel
theorem dX4_digest_14 : decode cX4_digest 14 = .ok (.if_icmp .ge 25, 3) := by decide +kernel
theorem dX4_digest_17 : decode cX4_digest 17 = .ok (.lload_n 1, 1) := by decide +kernel
theorem dX4_digest_18 : decode cX4_digest 18 = .ok (.ldc2_w 144, 3) := by decide +kernel
theorem dX4_digest_21 : decode cX4_digest 21 = .ok (.lmul, 1) := by decide +kernel
theorem dX4_digest_22 : decode cX4_digest 22 = .ok (.aload_n 0, 1) := by decide +kernel
theorem dX4_digest_23 : decode cX4_digest 23 = .ok (.getfield 22, 3) := by decide +kernel
theorem dX4_digest_26 : decode cX4_digest 26 = .ok (.iload_n 3, 1) := by decide +kernel
theorem dX4_digest_27 : decode cX4_digest 27 = .ok (.invokestatic 128, 3) := by decide +kernel
theorem dX4_digest_30 : decode cX4_digest 30 = .ok (.i2l, 1) := by decide +kernel
theorem dX4_digest_31 : decode cX4_digest 31 = .ok (.ladd, 1) := by decide +kernel
theorem dX4_digest_32 : decode cX4_digest 32 = .ok (.lstore_n 1, 1) := by decide +kernel
theorem dX4_digest_33 : decode cX4_digest 33 = .ok (.iinc 3 1, 3) := by decide +kernel
theorem dX4_digest_36 : decode cX4_digest 36 = .ok (.goto (-25), 3) := by decide +kernel
theorem dX4_digest_39 : decode cX4_digest 39 = .ok (.lload_n 1, 1) := by decide +kernel
theorem dX4_digest_40 : decode cX4_digest 40 = .ok (.ldc2_w 144, 3) := by decide +kernel
theorem dX4_digest_43 : decode cX4_digest 43 = .ok (.lmul, 1) := by decide +kernel
theorem dX4_digest_44 : decode cX4_digest 44 = .ok (.aload_n 0, 1) := by decide +kernel
theorem dX4_digest_45 : decode cX4_digest 45 = .ok (.getfield 7, 3) := by decide +kernel
theorem dX4_digest_48 : decode cX4_digest 48 = .ok (.i2l, 1) := by decide +kernel
theorem dX4_digest_49 : decode cX4_digest 49 = .ok (.ladd, 1) := by decide +kernel
theorem dX4_digest_50 : decode cX4_digest 50 = .ok (.lstore_n 1, 1) := by decide +kernel
theorem dX4_digest_51 : decode cX4_digest 51 = .ok (.aload_n 0, 1) := by decide +kernel
theorem dX4_digest_52 : decode cX4_digest 52 = .ok (.getfield 13, 3) := by decide +kernel
theorem dX4_digest_55 : decode cX4_digest 55 = .ok (.astore_n 3, 1) := by decide +kernel
theorem dX4_digest_56 : decode cX4_digest 56 = .ok (.aload_n 3, 1) := by decide +kernel
theorem dX4_digest_57 : decode cX4_digest 57 = .ok (.arraylength, 1) := by decide +kernel
theorem dX4_digest_58 : decode cX4_digest 58 = .ok (.istore 4, 2) := by decide +kernel
theorem dX4_digest_60 : decode cX4_digest 60 = .ok (.iconst 0, 1) := by decide +kernel
theorem dX4_digest_61 : decode cX4_digest 61 = .ok (.istore 5, 2) := by decide +kernel
theorem dX4_digest_63 : decode cX4_digest 63 = .ok (.iload 5, 2) := by decide +kernel
theorem dX4_digest_65 : decode cX4_digest 65 = .ok (.iload 4, 2) := by decide +kernel
theorem dX4_digest_67 : decode cX4_digest 67 = .ok (.if_icmp .ge 25, 3) := by decide +kernel
theorem dX4_digest_70 : decode cX4_digest 70 = .ok (.aload_n 3, 1) := by decide +kernel
theorem dX4_digest_71 : decode cX4_digest 71 = .ok (.iload 5, 2) := by decide +kernel
theorem dX4_digest_73 : decode cX4_digest 73 = .ok (.iaload, 1) := by decide +kernel
theorem dX4_digest_74 : decode cX4_digest 74 = .ok (.istore 6, 2) := by decide +kernel
theorem dX4_digest_76 : decode cX4_digest 76 = .ok (.lload_n 1, 1) := by decide +kernel
theorem dX4_digest_77 : decode cX4_digest 77 = .ok (.ldc2_w 144, 3) := by decide +kernel
theorem dX4_digest_80 : decode cX4_digest 80 = .ok (.lmul, 1) := by decide +kernel
theorem dX4_digest_81 : decode cX4_digest 81 = .ok (.iload 6, 2) := by decide +kernel
theorem dX4_digest_83 : decode cX4_digest 83 = .ok (.i2l, 1) := by decide +kernel
theorem dX4_digest_84 : decode cX4_digest 84 = .ok (.ladd, 1) := by decide +kernel
theorem dX4_digest_85 : decode cX4_digest 85 = .ok (.lstore_n 1, 1) := by decide +kernel
theorem dX4_digest_86 : decode cX4_digest 86 = .ok (.iinc 5 1, 3) := by decide +kernel
theorem dX4_digest_89 : decode cX4_digest 89 = .ok (.goto (-26), 3) := by decide +kernel
theorem dX4_digest_92 : decode cX4_digest 92 = .ok (.iconst 0, 1) := by decide +kernel
theorem dX4_digest_93 : decode cX4_digest 93 = .ok (.istore_n 3, 1) := by decide +kernel
theorem dX4_digest_94 : decode cX4_digest 94 = .ok (.iload_n 3, 1) := by decide +kernel
theorem dX4_digest_95 : decode cX4_digest 95 = .ok (.iconst 3, 1) := by decide +kernel
theorem dX4_digest_96 : decode cX4_digest 96 = .ok (.if_icmp .ge 39, 3) := by decide +kernel
theorem dX4_digest_99 : decode cX4_digest 99 = .ok (.iconst 0, 1) := by decide +kernel
theorem dX4_digest_100 : decode cX4_digest 100 = .ok (.istore 4, 2) := by decide +kernel
theorem dX4_digest_102 : decode cX4_digest 102 = .ok (.iload 4, 2) := by decide +kernel
theorem dX4_digest_104 : decode cX4_digest 104 = .ok (.iconst 4, 1) := by decide +kernel
theorem dX4_digest_105 : decode cX4_digest 105 = .ok (.if_icmp .ge 24, 3) := by decide +kernel
theorem dX4_digest_108 : decode cX4_digest 108 = .ok (.lload_n 1, 1) := by decide +kernel
theorem dX4_digest_109 : decode cX4_digest 109 = .ok (.ldc2_w 144, 3) := by decide +kernel
theorem dX4_digest_112 : decode cX4_digest 112 = .ok (.lmul, 1) := by decide +kernel
theorem dX4_digest_113 : decode cX4_digest 113 = .ok (.aload_n 0, 1) := by decide +kernel
theorem dX4_digest_114 : decode cX4_digest 114 = .ok (.iload_n 3, 1) := by decide +kernel
theorem dX4_digest_115 : decode cX4_digest 115 = .ok (.iload 4, 2) := by decide +kernel
theorem dX4_digest_117 : decode cX4_digest 117 = .ok (.invokevirtual 110, 3) := by decide +kernel
theorem dX4_digest_120 : decode cX4_digest 120 = .ok (.i2l, 1) := by decide +kernel
theorem dX4_digest_121 : decode cX4_digest 121 = .ok (.ladd, 1) := by decide +kernel
theorem dX4_digest_122 : decode cX4_digest 122 = .ok (.lstore_n 1, 1) := by decide +kernel
theorem dX4_digest_123 : decode cX4_digest 123 = .ok (.iinc 4 1, 3) := by decide +kernel
theorem dX4_digest_126 : decode cX4_digest 126 = .ok (.goto (-24), 3) := by decide +kernel
theorem dX4_digest_129 : decode cX4_digest 129 = .ok (.iinc 3 1, 3) := by decide +kernel
theorem dX4_digest_132 : decode cX4_digest 132 = .ok (.goto (-38), 3) := by decide +kernel
theorem dX4_digest_135 : decode cX4_digest 135 = .ok (.iconst 0, 1) := by decide +kernel
theorem dX4_digest_136 : decode cX4_digest 136 = .ok (.istore_n 3, 1) := by decide +kernel
theorem dX4_digest_137 : decode cX4_digest 137 = .ok (.iload_n 3, 1) := by decide +kernel
theorem dX4_digest_138 : decode cX4_digest 138 = .ok (.aload_n 0, 1) := by decide +kernel
theorem dX4_digest_139 : decode cX4_digest 139 = .ok (.getfield 22, 3) := by decide +kernel
theorem dX4_digest_142 : decode cX4_digest 142 = .ok (.getfield 32, 3) := by decide +kernel
theorem dX4_digest_145 : decode cX4_digest 145 = .ok (.if_icmp .ge 43, 3) := by decide +kernel
theorem dX4_digest_148 : decode cX4_digest 148 = .ok (.iconst 0, 1) := by decide +kernel
theorem dX4_digest_149 : decode cX4_digest 149 = .ok (.istore 4, 2) := by decide +kernel
theorem dX4_digest_151 : decode cX4_digest 151 = .ok (.iload 4, 2) := by decide +kernel
theorem dX4_digest_153 : decode cX4_digest 153 = .ok (.bipush 9, 2) := by decide +kernel
theorem dX4_digest_155 : decode cX4_digest 155 = .ok (.if_icmp .ge 27, 3) := by decide +kernel
theorem dX4_digest_158 : decode cX4_digest 158 = .ok (.lload_n 1, 1) := by decide +kernel
theorem dX4_digest_159 : decode cX4_digest 159 = .ok (.ldc2_w 144, 3) := by decide +kernel
theorem dX4_digest_162 : decode cX4_digest 162 = .ok (.lmul, 1) := by decide +kernel
theorem dX4_digest_163 : decode cX4_digest 163 = .ok (.aload_n 0, 1) := by decide +kernel
theorem dX4_digest_164 : decode cX4_digest 164 = .ok (.getfield 22, 3) := by decide +kernel
theorem dX4_digest_167 : decode cX4_digest 167 = .ok (.iload_n 3, 1) := by decide +kernel
theorem dX4_digest_168 : decode cX4_digest 168 = .ok (.iload 4, 2) := by decide +kernel
theorem dX4_digest_170 : decode cX4_digest 170 = .ok (.invokevirtual 39, 3) := by decide +kernel
theorem dX4_digest_173 : decode cX4_digest 173 = .ok (.i2l, 1) := by decide +kernel
theorem dX4_digest_174 : decode cX4_digest 174 = .ok (.ladd, 1) := by decide +kernel
theorem dX4_digest_175 : decode cX4_digest 175 = .ok (.lstore_n 1, 1) := by decide +kernel
theorem dX4_digest_176 : decode cX4_digest 176 = .ok (.iinc 4 1, 3) := by decide +kernel
theorem dX4_digest_179 : decode cX4_digest 179 = .ok (.goto (-28), 3) := by decide +kernel
theorem dX4_digest_182 : decode cX4_digest 182 = .ok (.iinc 3 1, 3) := by decide +kernel
theorem dX4_digest_185 : decode cX4_digest 185 = .ok (.goto (-48), 3) := by decide +kernel
theorem dX4_digest_188 : decode cX4_digest 188 = .ok (.lload_n 1, 1) := by decide +kernel
theorem dX4_digest_189 : decode cX4_digest 189 = .ok (.lreturn, 1) := by decide +kernel
theorem dJ9_floorMod_7cf53_0 : decode cJ9_floorMod_7cf53 0 = .ok (.iload_n 0, 1) := by decide +kernel
theorem dJ9_floorMod_7cf53_1 : decode cJ9_floorMod_7cf53 1 = .ok (.iload_n 1, 1) := by decide +kernel
theorem dJ9_floorMod_7cf53_2 : decode cJ9_floorMod_7cf53 2 = .ok (.irem, 1) := by decide +kernel
theorem dJ9_floorMod_7cf53_3 : decode cJ9_floorMod_7cf53 3 = .ok (.istore_n 2, 1) := by decide +kernel
theorem dJ9_floorMod_7cf53_4 : decode cJ9_floorMod_7cf53 4 = .ok (.iload_n 0, 1) := by decide +kernel
theorem dJ9_floorMod_7cf53_5 : decode cJ9_floorMod_7cf53 5 = .ok (.iload_n 1, 1) := by decide +kernel
theorem dJ9_floorMod_7cf53_6 : decode cJ9_floorMod_7cf53 6 = .ok (.ixor, 1) := by decide +kernel
theorem dJ9_floorMod_7cf53_7 : decode cJ9_floorMod_7cf53 7 = .ok (.ifCond .ge 11, 3) := by decide +kernel
theorem dJ9_floorMod_7cf53_10 : decode cJ9_floorMod_7cf53 10 = .ok (.iload_n 2, 1) := by decide +kernel
theorem dJ9_floorMod_7cf53_11 : decode cJ9_floorMod_7cf53 11 = .ok (.ifCond .eq 7, 3) := by decide +kernel
theorem dJ9_floorMod_7cf53_14 : decode cJ9_floorMod_7cf53 14 = .ok (.iload_n 2, 1) := by decide +kernel
theorem dJ9_floorMod_7cf53_15 : decode cJ9_floorMod_7cf53 15 = .ok (.iload_n 1, 1) := by decide +kernel
theorem dJ9_floorMod_7cf53_16 : decode cJ9_floorMod_7cf53 16 = .ok (.iadd, 1) := by decide +kernel
theorem dJ9_floorMod_7cf53_17 : decode cJ9_floorMod_7cf53 17 = .ok (.ireturn, 1) := by decide +kernel
theorem dJ9_floorMod_7cf53_18 : decode cJ9_floorMod_7cf53 18 = .ok (.iload_n 2, 1) := by decide +kernel
theorem dJ9_floorMod_7cf53_19 : decode cJ9_floorMod_7cf53 19 = .ok (.ireturn, 1) := by decide +kernel
theorem dJ9_max_7cf53_0 : decode cJ9_max_7cf53 0 = .ok (.iload_n 0, 1) := by decide +kernel
theorem dJ9_max_7cf53_1 : decode cJ9_max_7cf53 1 = .ok (.iload_n 1, 1) := by decide +kernel
theorem dJ9_max_7cf53_2 : decode cJ9_max_7cf53 2 = .ok (.if_icmp .lt 7, 3) := by decide +kernel
theorem dJ9_max_7cf53_5 : decode cJ9_max_7cf53 5 = .ok (.iload_n 0, 1) := by decide +kernel
theorem dJ9_max_7cf53_6 : decode cJ9_max_7cf53 6 = .ok (.goto 4, 3) := by decide +kernel
theorem dJ9_max_7cf53_9 : decode cJ9_max_7cf53 9 = .ok (.iload_n 1, 1) := by decide +kernel
theorem dJ9_max_7cf53_10 : decode cJ9_max_7cf53 10 = .ok (.ireturn, 1) := by decide +kernel
theorem dJ9_min_7cf53_0 : decode cJ9_min_7cf53 0 = .ok (.iload_n 0, 1) := by decide +kernel
theorem dJ9_min_7cf53_1 : decode cJ9_min_7cf53 1 = .ok (.iload_n 1, 1) := by decide +kernel
theorem dJ9_min_7cf53_2 : decode cJ9_min_7cf53 2 = .ok (.if_icmp .gt 7, 3) := by decide +kernel
theorem dJ9_min_7cf53_5 : decode cJ9_min_7cf53 5 = .ok (.iload_n 0, 1) := by decide +kernel
theorem dJ9_min_7cf53_6 : decode cJ9_min_7cf53 6 = .ok (.goto 4, 3) := by decide +kernel
theorem dJ9_min_7cf53_9 : decode cJ9_min_7cf53 9 = .ok (.iload_n 1, 1) := by decide +kernel
theorem dJ9_min_7cf53_10 : decode cJ9_min_7cf53 10 = .ok (.ireturn, 1) := by decide +kernel
set_option maxRecDepth 20000 in
theorem ggL_join_X2_join : GoodIn wsL_join wsX2_join := goodIn_ca (goodIn_ca (goodIn_r _ [7, 8, 9, 10, 11, 12, 13, 14, 15, 16, 6, 17, 18, 19, 20, 21, 22, 23, 24, 25, 26, 27, 28, 29, 30, 31, 32, 33, 34, 35, 36, 37, 38, 39, 40, 41, 42, 43, 44, 45, 46, 47, 48, 49, 50, 51, 52] (by decide +kernel) (by decide +kernel)) (goodIn_sub (fun _ h => List.mem_cons_of_mem _ (List.mem_append_left _ (List.mem_append_right _ h))) (by decide +kernel))) (goodIn_sub (fun _ h => List.mem_cons_of_mem _ (List.mem_append_right _ h)) (by decide +kernel))
set_option maxRecDepth 20000 in
theorem gL_join_X2_join : GoodIn wsL_join (wsV RL 7 RX2 yX2_join wsX2_join) := goodIn_app (goodIn_of _ (by decide +kernel)) ggL_join_X2_join
theorem dL_join_0 : decode cL_join 0 = .ok (.aload_n 3, 1) := by decide +kernel
theorem dL_join_1 : decode cL_join 1 = .ok (.iconst 0, 1) := by decide +kernel
theorem dL_join_2 : decode cL_join 2 = .ok (.aload_n 0, 1) := by decide +kernel
theorem dL_join_3 : decode cL_join 3 = .ok (.iload_n 1, 1) := by decide +kernel
theorem dL_join_4 : decode cL_join 4 = .ok (.iload_n 2, 1) := by decide +kernel
theorem dL_join_5 : decode cL_join 5 = .ok (.invokevirtual 7, 3) := by decide +kernel
theorem dL_join_8 : decode cL_join 8 = .ok (.i2l, 1) := by decide +kernel
theorem dL_join_9 : decode cL_join 9 = .ok (.lastore, 1) := by decide +kernel
theorem dL_join_10 : decode cL_join 10 = .ok (.goto 11, 3) := by decide +kernel
theorem dL_join_13 : decode cL_join 13 = .ok (.astore 4, 2) := by decide +kernel
theorem dL_join_15 : decode cL_join 15 = .ok (.iconst 1, 1) := by decide +kernel
theorem dL_join_16 : decode cL_join 16 = .ok (.ireturn, 1) := by decide +kernel
theorem dL_join_17 : decode cL_join 17 = .ok (.astore 4, 2) := by decide +kernel
theorem dL_join_19 : decode cL_join 19 = .ok (.iconst 2, 1) := by decide +kernel
theorem dL_join_20 : decode cL_join 20 = .ok (.ireturn, 1) := by decide +kernel
theorem dL_join_21 : decode cL_join 21 = .ok (.iconst 0, 1) := by decide +kernel
theorem dL_join_22 : decode cL_join 22 = .ok (.ireturn, 1) := by decide +kernel
set_option maxRecDepth 20000 in
theorem ggL_place_X2_place : GoodIn wsL_place wsX2_place := goodIn_ca (goodIn_ca (goodIn_r _ [7, 8, 9, 10, 11, 12, 13, 14, 15, 16, 17, 18, 19, 20, 21, 22, 23, 24, 6, 25, 26, 27, 28, 29, 30, 31, 32, 33, 34, 35, 36, 37, 38, 39, 40, 41, 42, 43, 44, 45, 46, 47, 48, 49, 50, 51, 52, 53, 54, 55, 56, 57, 58, 59, 60, 61, 62, 63, 64, 65, 66] (by decide +kernel) (by decide +kernel)) (goodIn_sub (fun _ h => List.mem_cons_of_mem _ (List.mem_append_left _ (List.mem_append_right _ h))) (by decide +kernel))) (goodIn_sub (fun _ h => List.mem_cons_of_mem _ (List.mem_append_right _ h)) (by decide +kernel))
set_option maxRecDepth 20000 in
theorem gL_place_X2_place : GoodIn wsL_place (wsV RL 17 RX2 yX2_place wsX2_place) := goodIn_app (goodIn_of _ (by decide +kernel)) ggL_place_X2_place
theorem dL_place_0 : decode cL_place 0 = .ok (.aload_n 3, 1) := by decide +kernel
theorem dL_place_1 : decode cL_place 1 = .ok (.iconst 0, 1) := by decide +kernel
theorem dL_place_2 : decode cL_place 2 = .ok (.aload_n 0, 1) := by decide +kernel
theorem dL_place_3 : decode cL_place 3 = .ok (.iload_n 1, 1) := by decide +kernel
theorem dL_place_4 : decode cL_place 4 = .ok (.iload_n 2, 1) := by decide +kernel
theorem dL_place_5 : decode cL_place 5 = .ok (.invokevirtual 17, 3) := by decide +kernel
theorem dL_place_8 : decode cL_place 8 = .ok (.i2l, 1) := by decide +kernel
theorem dL_place_9 : decode cL_place 9 = .ok (.lastore, 1) := by decide +kernel
theorem dL_place_10 : decode cL_place 10 = .ok (.goto 11, 3) := by decide +kernel
theorem dL_place_13 : decode cL_place 13 = .ok (.astore 4, 2) := by decide +kernel
theorem dL_place_15 : decode cL_place 15 = .ok (.iconst 1, 1) := by decide +kernel
theorem dL_place_16 : decode cL_place 16 = .ok (.ireturn, 1) := by decide +kernel
theorem dL_place_17 : decode cL_place 17 = .ok (.astore 4, 2) := by decide +kernel
theorem dL_place_19 : decode cL_place 19 = .ok (.iconst 2, 1) := by decide +kernel
theorem dL_place_20 : decode cL_place 20 = .ok (.ireturn, 1) := by decide +kernel
theorem dL_place_21 : decode cL_place 21 = .ok (.iconst 0, 1) := by decide +kernel
theorem dL_place_22 : decode cL_place 22 = .ok (.ireturn, 1) := by decide +kernel
set_option maxRecDepth 20000 in
theorem ggL_give_X2_give : GoodIn wsL_give wsX2_give := goodIn_ca (goodIn_ca (goodIn_ca (goodIn_r _ [8, 9, 10, 11, 12, 13, 14, 15, 16, 17, 18, 19, 20, 21, 22, 23, 24, 25, 26, 27, 7, 28, 29, 30, 31, 32, 33, 34, 35, 36, 37, 38, 39, 40, 41, 42, 43, 44, 45, 46, 47, 48, 49, 50, 51, 52, 53, 54] (by decide +kernel) (by decide +kernel)) (goodIn_sub (fun _ h => List.mem_cons_of_mem _ (List.mem_append_left _ (List.mem_append_left _ (List.mem_append_right _ h)))) (by decide +kernel))) (goodIn_sub (fun _ h => List.mem_cons_of_mem _ (List.mem_append_left _ (List.mem_append_right _ h))) (by decide +kernel))) (goodIn_sub (fun _ h => List.mem_cons_of_mem _ (List.mem_append_right _ h)) (by decide +kernel))
set_option maxRecDepth 20000 in
theorem gL_give_X2_give : GoodIn wsL_give (wsV RL 22 RX2 yX2_give wsX2_give) := goodIn_app (goodIn_of _ (by decide +kernel)) ggL_give_X2_give
theorem dL_give_0 : decode cL_give 0 = .ok (.aload 4, 2) := by decide +kernel
theorem dL_give_2 : decode cL_give 2 = .ok (.iconst 0, 1) := by decide +kernel
theorem dL_give_3 : decode cL_give 3 = .ok (.aload_n 0, 1) := by decide +kernel
theorem dL_give_4 : decode cL_give 4 = .ok (.iload_n 1, 1) := by decide +kernel
theorem dL_give_5 : decode cL_give 5 = .ok (.iload_n 2, 1) := by decide +kernel
theorem dL_give_6 : decode cL_give 6 = .ok (.iload_n 3, 1) := by decide +kernel
theorem dL_give_7 : decode cL_give 7 = .ok (.invokevirtual 22, 3) := by decide +kernel
theorem dL_give_10 : decode cL_give 10 = .ok (.i2l, 1) := by decide +kernel
theorem dL_give_11 : decode cL_give 11 = .ok (.lastore, 1) := by decide +kernel
theorem dL_give_12 : decode cL_give 12 = .ok (.goto 15, 3) := by decide +kernel
theorem dL_give_15 : decode cL_give 15 = .ok (.astore 5, 2) := by decide +kernel
theorem dL_give_17 : decode cL_give 17 = .ok (.iconst 1, 1) := by decide +kernel
theorem dL_give_18 : decode cL_give 18 = .ok (.ireturn, 1) := by decide +kernel
theorem dL_give_19 : decode cL_give 19 = .ok (.astore 5, 2) := by decide +kernel
theorem dL_give_21 : decode cL_give 21 = .ok (.iconst 2, 1) := by decide +kernel
theorem dL_give_22 : decode cL_give 22 = .ok (.ireturn, 1) := by decide +kernel
theorem dL_give_23 : decode cL_give 23 = .ok (.astore 5, 2) := by decide +kernel
theorem dL_give_25 : decode cL_give 25 = .ok (.iconst 3, 1) := by decide +kernel
theorem dL_give_26 : decode cL_give 26 = .ok (.ireturn, 1) := by decide +kernel
theorem dL_give_27 : decode cL_give 27 = .ok (.iconst 0, 1) := by decide +kernel
theorem dL_give_28 : decode cL_give 28 = .ok (.ireturn, 1) := by decide +kernel
set_option maxRecDepth 20000 in
theorem ggL_settle_X2_settle : GoodIn wsL_settle wsX2_settle := goodIn_ca (goodIn_ca (goodIn_r _ [7, 8, 9, 10, 11, 12, 13, 14, 15, 16, 17, 18, 19, 20, 21, 22, 23, 24, 25, 26, 27, 28, 29, 30, 31, 32, 33, 34, 35, 36, 37, 38, 39, 40, 41, 42, 43, 44, 45, 46, 47, 48, 49, 50, 51, 52, 53, 54, 55, 56, 57, 58, 59, 60] (by decide +kernel) (by decide +kernel)) (goodIn_sub (fun _ h => List.mem_cons_of_mem _ (List.mem_append_left _ (List.mem_append_right _ h))) (by decide +kernel))) (goodIn_sub (fun _ h => List.mem_cons_of_mem _ (List.mem_append_right _ h)) (by decide +kernel))
set_option maxRecDepth 20000 in
theorem gL_settle_X2_settle : GoodIn wsL_settle (wsV RL 26 RX2 yX2_settle wsX2_settle) := goodIn_app (goodIn_of _ (by decide +kernel)) ggL_settle_X2_settle
theorem dL_settle_0 : decode cL_settle 0 = .ok (.aload_n 2, 1) := by decide +kernel
theorem dL_settle_1 : decode cL_settle 1 = .ok (.iconst 0, 1) := by decide +kernel
theorem dL_settle_2 : decode cL_settle 2 = .ok (.aload_n 0, 1) := by decide +kernel
theorem dL_settle_3 : decode cL_settle 3 = .ok (.iload_n 1, 1) := by decide +kernel
theorem dL_settle_4 : decode cL_settle 4 = .ok (.invokevirtual 26, 3) := by decide +kernel
theorem dL_settle_7 : decode cL_settle 7 = .ok (.i2l, 1) := by decide +kernel
theorem dL_settle_8 : decode cL_settle 8 = .ok (.lastore, 1) := by decide +kernel
theorem dL_settle_9 : decode cL_settle 9 = .ok (.goto 9, 3) := by decide +kernel
theorem dL_settle_12 : decode cL_settle 12 = .ok (.astore_n 3, 1) := by decide +kernel
theorem dL_settle_13 : decode cL_settle 13 = .ok (.iconst 1, 1) := by decide +kernel
theorem dL_settle_14 : decode cL_settle 14 = .ok (.ireturn, 1) := by decide +kernel
theorem dL_settle_15 : decode cL_settle 15 = .ok (.astore_n 3, 1) := by decide +kernel
theorem dL_settle_16 : decode cL_settle 16 = .ok (.iconst 2, 1) := by decide +kernel
theorem dL_settle_17 : decode cL_settle 17 = .ok (.ireturn, 1) := by decide +kernel
theorem dL_settle_18 : decode cL_settle 18 = .ok (.iconst 0, 1) := by decide +kernel
theorem dL_settle_19 : decode cL_settle 19 = .ok (.ireturn, 1) := by decide +kernel
set_option maxRecDepth 20000 in
theorem ggL_told_X2_told : GoodIn wsL_told wsX2_told := goodIn_ca (goodIn_r _ [6, 7, 8, 9, 10, 11, 12, 13, 14, 15, 16, 17, 18, 19, 5, 20, 21, 22, 23, 24, 25, 26, 27, 28, 29, 30, 31, 32, 33, 34, 35, 36, 37, 38, 39, 40, 41, 42, 43, 44, 45, 46, 47, 48, 49, 50, 51, 52, 53, 54, 55, 56, 57, 58, 59, 60] (by decide +kernel) (by decide +kernel)) (goodIn_sub (fun _ h => List.mem_cons_of_mem _ (List.mem_append_right _ h)) (by decide +kernel))
set_option maxRecDepth 20000 in
theorem gL_told_X2_told : GoodIn wsL_told (wsV RL 30 RX2 yX2_told wsX2_told) := goodIn_app (goodIn_of _ (by decide +kernel)) ggL_told_X2_told
theorem dL_told_0 : decode cL_told 0 = .ok (.aload_n 3, 1) := by decide +kernel
theorem dL_told_1 : decode cL_told 1 = .ok (.iconst 0, 1) := by decide +kernel
theorem dL_told_2 : decode cL_told 2 = .ok (.aload_n 0, 1) := by decide +kernel
theorem dL_told_3 : decode cL_told 3 = .ok (.iload_n 1, 1) := by decide +kernel
theorem dL_told_4 : decode cL_told 4 = .ok (.iload_n 2, 1) := by decide +kernel
theorem dL_told_5 : decode cL_told 5 = .ok (.invokevirtual 30, 3) := by decide +kernel
theorem dL_told_8 : decode cL_told 8 = .ok (.i2l, 1) := by decide +kernel
theorem dL_told_9 : decode cL_told 9 = .ok (.lastore, 1) := by decide +kernel
theorem dL_told_10 : decode cL_told 10 = .ok (.goto 7, 3) := by decide +kernel
theorem dL_told_13 : decode cL_told 13 = .ok (.astore 4, 2) := by decide +kernel
theorem dL_told_15 : decode cL_told 15 = .ok (.iconst 1, 1) := by decide +kernel
theorem dL_told_16 : decode cL_told 16 = .ok (.ireturn, 1) := by decide +kernel
theorem dL_told_17 : decode cL_told 17 = .ok (.iconst 0, 1) := by decide +kernel
theorem dL_told_18 : decode cL_told 18 = .ok (.ireturn, 1) := by decide +kernel
set_option maxRecDepth 20000 in
theorem ggL_setFever_X2_setFever : GoodIn wsL_setFever wsX2_setFever := goodIn_ca (goodIn_ca (goodIn_r _ [7, 8, 9, 10, 11, 12, 13, 14, 15, 6, 16, 17, 18, 19, 20, 21, 22, 23, 24, 25, 26, 27, 28, 29, 30, 31, 32] (by decide +kernel) (by decide +kernel)) (goodIn_sub (fun _ h => List.mem_cons_of_mem _ (List.mem_append_left _ (List.mem_append_right _ h))) (by decide +kernel))) (goodIn_sub (fun _ h => List.mem_cons_of_mem _ (List.mem_append_right _ h)) (by decide +kernel))
set_option maxRecDepth 20000 in
theorem gL_setFever_X2_setFever : GoodIn wsL_setFever (wsV RL 33 RX2 yX2_setFever wsX2_setFever) := goodIn_app (goodIn_of _ (by decide +kernel)) ggL_setFever_X2_setFever
theorem dL_setFever_0 : decode cL_setFever 0 = .ok (.aload_n 3, 1) := by decide +kernel
theorem dL_setFever_1 : decode cL_setFever 1 = .ok (.iconst 0, 1) := by decide +kernel
theorem dL_setFever_2 : decode cL_setFever 2 = .ok (.aload_n 0, 1) := by decide +kernel
theorem dL_setFever_3 : decode cL_setFever 3 = .ok (.iload_n 1, 1) := by decide +kernel
theorem dL_setFever_4 : decode cL_setFever 4 = .ok (.iload_n 2, 1) := by decide +kernel
theorem dL_setFever_5 : decode cL_setFever 5 = .ok (.invokevirtual 33, 3) := by decide +kernel
theorem dL_setFever_8 : decode cL_setFever 8 = .ok (.i2l, 1) := by decide +kernel
theorem dL_setFever_9 : decode cL_setFever 9 = .ok (.lastore, 1) := by decide +kernel
theorem dL_setFever_10 : decode cL_setFever 10 = .ok (.goto 11, 3) := by decide +kernel
theorem dL_setFever_13 : decode cL_setFever 13 = .ok (.astore 4, 2) := by decide +kernel
theorem dL_setFever_15 : decode cL_setFever 15 = .ok (.iconst 1, 1) := by decide +kernel
theorem dL_setFever_16 : decode cL_setFever 16 = .ok (.ireturn, 1) := by decide +kernel
theorem dL_setFever_17 : decode cL_setFever 17 = .ok (.astore 4, 2) := by decide +kernel
theorem dL_setFever_19 : decode cL_setFever 19 = .ok (.iconst 2, 1) := by decide +kernel
theorem dL_setFever_20 : decode cL_setFever 20 = .ok (.ireturn, 1) := by decide +kernel
theorem dL_setFever_21 : decode cL_setFever 21 = .ok (.iconst 0, 1) := by decide +kernel
theorem dL_setFever_22 : decode cL_setFever 22 = .ok (.ireturn, 1) := by decide +kernel
set_option maxRecDepth 20000 in
theorem ggL_setDues_X2_setDues : GoodIn wsL_setDues wsX2_setDues := goodIn_ca (goodIn_r _ [6, 7, 8, 9, 10, 11, 12, 5, 13, 14, 15, 16, 17, 18, 19, 20, 21, 22, 23, 24, 25, 26, 27, 28, 29] (by decide +kernel) (by decide +kernel)) (goodIn_sub (fun _ h => List.mem_cons_of_mem _ (List.mem_append_right _ h)) (by decide +kernel))
set_option maxRecDepth 20000 in
theorem gL_setDues_X2_setDues : GoodIn wsL_setDues (wsV RL 36 RX2 yX2_setDues wsX2_setDues) := goodIn_app (goodIn_of _ (by decide +kernel)) ggL_setDues_X2_setDues
theorem dL_setDues_0 : decode cL_setDues 0 = .ok (.aload_n 2, 1) := by decide +kernel
theorem dL_setDues_1 : decode cL_setDues 1 = .ok (.iconst 0, 1) := by decide +kernel
theorem dL_setDues_2 : decode cL_setDues 2 = .ok (.aload_n 0, 1) := by decide +kernel
theorem dL_setDues_3 : decode cL_setDues 3 = .ok (.iload_n 1, 1) := by decide +kernel
theorem dL_setDues_4 : decode cL_setDues 4 = .ok (.invokevirtual 36, 3) := by decide +kernel
theorem dL_setDues_7 : decode cL_setDues 7 = .ok (.i2l, 1) := by decide +kernel
theorem dL_setDues_8 : decode cL_setDues 8 = .ok (.lastore, 1) := by decide +kernel
theorem dL_setDues_9 : decode cL_setDues 9 = .ok (.goto 6, 3) := by decide +kernel
theorem dL_setDues_12 : decode cL_setDues 12 = .ok (.astore_n 3, 1) := by decide +kernel
theorem dL_setDues_13 : decode cL_setDues 13 = .ok (.iconst 1, 1) := by decide +kernel
theorem dL_setDues_14 : decode cL_setDues 14 = .ok (.ireturn, 1) := by decide +kernel
theorem dL_setDues_15 : decode cL_setDues 15 = .ok (.iconst 0, 1) := by decide +kernel
theorem dL_setDues_16 : decode cL_setDues 16 = .ok (.ireturn, 1) := by decide +kernel
set_option maxRecDepth 20000 in
theorem ggL_buy_X2_buy : GoodIn wsL_buy wsX2_buy := goodIn_ca (goodIn_ca (goodIn_ca (goodIn_r _ [8, 9, 10, 11, 12, 13, 14, 15, 16, 17, 18, 19, 20, 7, 21, 22, 23, 24, 25, 26, 27, 28, 29, 30, 31, 32, 33, 34, 35, 36, 37] (by decide +kernel) (by decide +kernel)) (goodIn_sub (fun _ h => List.mem_cons_of_mem _ (List.mem_append_left _ (List.mem_append_left _ (List.mem_append_right _ h)))) (by decide +kernel))) (goodIn_sub (fun _ h => List.mem_cons_of_mem _ (List.mem_append_left _ (List.mem_append_right _ h))) (by decide +kernel))) (goodIn_sub (fun _ h => List.mem_cons_of_mem _ (List.mem_append_right _ h)) (by decide +kernel))
set_option maxRecDepth 20000 in
theorem gL_buy_X2_buy : GoodIn wsL_buy (wsV RL 39 RX2 yX2_buy wsX2_buy) := goodIn_app (goodIn_of _ (by decide +kernel)) ggL_buy_X2_buy
theorem dL_buy_0 : decode cL_buy 0 = .ok (.aload_n 3, 1) := by decide +kernel
theorem dL_buy_1 : decode cL_buy 1 = .ok (.iconst 0, 1) := by decide +kernel
theorem dL_buy_2 : decode cL_buy 2 = .ok (.aload_n 0, 1) := by decide +kernel
theorem dL_buy_3 : decode cL_buy 3 = .ok (.iload_n 1, 1) := by decide +kernel
theorem dL_buy_4 : decode cL_buy 4 = .ok (.iload_n 2, 1) := by decide +kernel
theorem dL_buy_5 : decode cL_buy 5 = .ok (.invokevirtual 39, 3) := by decide +kernel
theorem dL_buy_8 : decode cL_buy 8 = .ok (.i2l, 1) := by decide +kernel
theorem dL_buy_9 : decode cL_buy 9 = .ok (.lastore, 1) := by decide +kernel
theorem dL_buy_10 : decode cL_buy 10 = .ok (.goto 15, 3) := by decide +kernel
theorem dL_buy_13 : decode cL_buy 13 = .ok (.astore 4, 2) := by decide +kernel
theorem dL_buy_15 : decode cL_buy 15 = .ok (.iconst 1, 1) := by decide +kernel
theorem dL_buy_16 : decode cL_buy 16 = .ok (.ireturn, 1) := by decide +kernel
theorem dL_buy_17 : decode cL_buy 17 = .ok (.astore 4, 2) := by decide +kernel
theorem dL_buy_19 : decode cL_buy 19 = .ok (.iconst 2, 1) := by decide +kernel
theorem dL_buy_20 : decode cL_buy 20 = .ok (.ireturn, 1) := by decide +kernel
theorem dL_buy_21 : decode cL_buy 21 = .ok (.astore 4, 2) := by decide +kernel
theorem dL_buy_23 : decode cL_buy 23 = .ok (.iconst 3, 1) := by decide +kernel
theorem dL_buy_24 : decode cL_buy 24 = .ok (.ireturn, 1) := by decide +kernel
theorem dL_buy_25 : decode cL_buy 25 = .ok (.iconst 0, 1) := by decide +kernel
theorem dL_buy_26 : decode cL_buy 26 = .ok (.ireturn, 1) := by decide +kernel
set_option maxRecDepth 20000 in
theorem ggL_sell_X2_sell : GoodIn wsL_sell wsX2_sell := goodIn_ca (goodIn_ca (goodIn_r _ [7, 8, 9, 10, 11, 12, 13, 14, 15, 16, 6, 17, 18, 19, 20, 21, 22, 23, 24, 25, 26, 27, 28, 29, 30, 31, 32, 33] (by decide +kernel) (by decide +kernel)) (goodIn_sub (fun _ h => List.mem_cons_of_mem _ (List.mem_append_left _ (List.mem_append_right _ h))) (by decide +kernel))) (goodIn_sub (fun _ h => List.mem_cons_of_mem _ (List.mem_append_right _ h)) (by decide +kernel))
set_option maxRecDepth 20000 in
theorem gL_sell_X2_sell : GoodIn wsL_sell (wsV RL 42 RX2 yX2_sell wsX2_sell) := goodIn_app (goodIn_of _ (by decide +kernel)) ggL_sell_X2_sell
theorem dL_sell_0 : decode cL_sell 0 = .ok (.aload_n 2, 1) := by decide +kernel
theorem dL_sell_1 : decode cL_sell 1 = .ok (.iconst 0, 1) := by decide +kernel
end
section
theorem dL_sell_2 : decode cL_sell 2 = .ok (.aload_n 0, 1) := by decide +kernel
theorem dL_sell_3 : decode cL_sell 3 = .ok (.iload_n 1, 1) := by decide +kernel
theorem dL_sell_4 : decode cL_sell 4 = .ok (.invokevirtual 42, 3) := by decide +kernel
theorem dL_sell_7 : decode cL_sell 7 = .ok (.i2l, 1) := by decide +kernel
theorem dL_sell_8 : decode cL_sell 8 = .ok (.lastore, 1) := by decide +kernel
theorem dL_sell_9 : decode cL_sell 9 = .ok (.goto 9, 3) := by decide +kernel
theorem dL_sell_12 : decode cL_sell 12 = .ok (.astore_n 3, 1) := by decide +kernel
theorem dL_sell_13 : decode cL_sell 13 = .ok (.iconst 1, 1) := by decide +kernel
theorem dL_sell_14 : decode cL_sell 14 = .ok (.ireturn, 1) := by decide +kernel
theorem dL_sell_15 : decode cL_sell 15 = .ok (.astore_n 3, 1) := by decide +kernel
theorem dL_sell_16 : decode cL_sell 16 = .ok (.iconst 2, 1) := by decide +kernel
theorem dL_sell_17 : decode cL_sell 17 = .ok (.ireturn, 1) := by decide +kernel
theorem dL_sell_18 : decode cL_sell 18 = .ok (.iconst 0, 1) := by decide +kernel
theorem dL_sell_19 : decode cL_sell 19 = .ok (.ireturn, 1) := by decide +kernel
set_option maxRecDepth 20000 in
theorem ggL_pot_X2_pot : GoodIn wsL_pot wsX2_pot := goodIn_ca (goodIn_r _ [6, 7, 8, 9, 10, 5, 11, 12, 13, 14, 15, 16, 17, 18, 19, 20, 21, 22, 23, 24, 25, 26, 27, 28, 29, 30, 31, 32, 33, 34, 35, 36, 37, 38, 39, 40, 41, 42, 43, 44, 45, 46, 47, 48, 49, 50, 51, 52, 53, 54, 55, 56, 57, 58, 59, 60, 61, 62, 63, 64, 65, 66, 67, 68, 69, 70, 71, 72, 73, 74, 75, 76, 77, 78, 79, 80, 81, 82, 83, 84, 85, 86, 87, 88, 89, 90, 91, 92, 93, 94, 95, 96, 97, 98, 99, 100, 101, 102, 103, 104, 105, 106, 107, 108, 109, 110, 111, 112, 113, 114, 115, 116, 117, 118, 119, 120, 121] (by decide +kernel) (by decide +kernel)) (goodIn_sub (fun _ h => List.mem_cons_of_mem _ (List.mem_append_right _ h)) (by decide +kernel))
set_option maxRecDepth 20000 in
theorem gL_pot_X2_pot : GoodIn wsL_pot (wsV RL 45 RX2 yX2_pot wsX2_pot) := goodIn_app (goodIn_of _ (by decide +kernel)) ggL_pot_X2_pot
theorem dL_pot_0 : decode cL_pot 0 = .ok (.aload_n 3, 1) := by decide +kernel
theorem dL_pot_1 : decode cL_pot 1 = .ok (.iconst 0, 1) := by decide +kernel
theorem dL_pot_2 : decode cL_pot 2 = .ok (.aload_n 0, 1) := by decide +kernel
theorem dL_pot_3 : decode cL_pot 3 = .ok (.iload_n 1, 1) := by decide +kernel
theorem dL_pot_4 : decode cL_pot 4 = .ok (.iload_n 2, 1) := by decide +kernel
theorem dL_pot_5 : decode cL_pot 5 = .ok (.invokevirtual 45, 3) := by decide +kernel
theorem dL_pot_8 : decode cL_pot 8 = .ok (.i2l, 1) := by decide +kernel
theorem dL_pot_9 : decode cL_pot 9 = .ok (.lastore, 1) := by decide +kernel
theorem dL_pot_10 : decode cL_pot 10 = .ok (.goto 7, 3) := by decide +kernel
theorem dL_pot_13 : decode cL_pot 13 = .ok (.astore 4, 2) := by decide +kernel
theorem dL_pot_15 : decode cL_pot 15 = .ok (.iconst 1, 1) := by decide +kernel
theorem dL_pot_16 : decode cL_pot 16 = .ok (.ireturn, 1) := by decide +kernel
theorem dL_pot_17 : decode cL_pot 17 = .ok (.iconst 0, 1) := by decide +kernel
theorem dL_pot_18 : decode cL_pot 18 = .ok (.ireturn, 1) := by decide +kernel
set_option maxRecDepth 20000 in
theorem ggL_count_X2_count : GoodIn wsL_count wsX2_count := goodIn_ca (goodIn_r _ [6, 7, 8, 9, 10, 11, 5, 12, 13, 14, 15, 16, 17, 18, 19, 20, 21, 22, 23, 24, 25, 26, 27, 28, 29, 30, 31, 32, 33, 34, 35, 36, 37, 38, 39, 40, 41, 42, 43, 44, 45, 46, 47, 48, 49, 50, 51, 52, 53, 54, 55, 56, 57, 58, 59, 60, 61, 62, 63, 64, 65, 66, 67] (by decide +kernel) (by decide +kernel)) (goodIn_sub (fun _ h => List.mem_cons_of_mem _ (List.mem_append_right _ h)) (by decide +kernel))
set_option maxRecDepth 20000 in
theorem gL_count_X2_count : GoodIn wsL_count (wsV RL 48 RX2 yX2_count wsX2_count) := goodIn_app (goodIn_of _ (by decide +kernel)) ggL_count_X2_count
theorem dL_count_0 : decode cL_count 0 = .ok (.aload_n 2, 1) := by decide +kernel
theorem dL_count_1 : decode cL_count 1 = .ok (.iconst 0, 1) := by decide +kernel
theorem dL_count_2 : decode cL_count 2 = .ok (.aload_n 0, 1) := by decide +kernel
theorem dL_count_3 : decode cL_count 3 = .ok (.iload_n 1, 1) := by decide +kernel
theorem dL_count_4 : decode cL_count 4 = .ok (.invokevirtual 48, 3) := by decide +kernel
theorem dL_count_7 : decode cL_count 7 = .ok (.i2l, 1) := by decide +kernel
theorem dL_count_8 : decode cL_count 8 = .ok (.lastore, 1) := by decide +kernel
theorem dL_count_9 : decode cL_count 9 = .ok (.goto 6, 3) := by decide +kernel
theorem dL_count_12 : decode cL_count 12 = .ok (.astore_n 3, 1) := by decide +kernel
theorem dL_count_13 : decode cL_count 13 = .ok (.iconst 1, 1) := by decide +kernel
theorem dL_count_14 : decode cL_count 14 = .ok (.ireturn, 1) := by decide +kernel
theorem dL_count_15 : decode cL_count 15 = .ok (.iconst 0, 1) := by decide +kernel
theorem dL_count_16 : decode cL_count 16 = .ok (.ireturn, 1) := by decide +kernel
set_option maxRecDepth 20000 in
theorem ggL_pass_X2_pass : GoodIn wsL_pass wsX2_pass := goodIn_ca (goodIn_r _ [6, 7, 8, 9, 10, 11, 12, 5, 13, 14, 15, 16, 17, 18, 19, 20, 21, 22, 23, 24, 25, 26, 27, 28, 29, 30, 31, 32, 33, 34, 35, 36, 37, 38, 39, 40, 41, 42, 43, 44, 45, 46, 47, 48, 49, 50, 51, 52, 53, 54, 55, 56, 57, 58, 59, 60, 61, 62, 63, 64, 65, 66, 67, 68, 69, 70, 71, 72, 73, 74, 75, 76, 77, 78, 79, 80, 81, 82, 83, 84, 85, 86, 87, 88, 89, 90, 91, 92, 93, 94, 95, 96, 97, 98, 99, 100, 101, 102, 103, 104, 105, 106, 107, 108, 109, 110, 111, 112, 113, 114, 115, 116, 117, 118, 119, 120, 121, 122, 123, 124, 125, 126, 127, 128, 129, 130, 131, 132, 133, 134, 135, 136, 137, 138, 139, 140, 141, 142, 143, 144, 145, 146, 147, 148, 149, 150, 151, 152, 153, 154, 155, 156, 157, 158, 159, 160, 161, 162, 163, 164, 165, 166, 167, 168, 169, 170, 171, 172] (by decide +kernel) (by decide +kernel)) (goodIn_sub (fun _ h => List.mem_cons_of_mem _ (List.mem_append_right _ h)) (by decide +kernel))
set_option maxRecDepth 20000 in
theorem gL_pass_X2_pass : GoodIn wsL_pass (wsV RL 51 RX2 yX2_pass wsX2_pass) := goodIn_app (goodIn_of _ (by decide +kernel)) ggL_pass_X2_pass
theorem dL_pass_0 : decode cL_pass 0 = .ok (.aload_n 2, 1) := by decide +kernel
theorem dL_pass_1 : decode cL_pass 1 = .ok (.iconst 0, 1) := by decide +kernel
theorem dL_pass_2 : decode cL_pass 2 = .ok (.aload_n 0, 1) := by decide +kernel
theorem dL_pass_3 : decode cL_pass 3 = .ok (.iload_n 1, 1) := by decide +kernel
theorem dL_pass_4 : decode cL_pass 4 = .ok (.invokevirtual 51, 3) := by decide +kernel
theorem dL_pass_7 : decode cL_pass 7 = .ok (.i2l, 1) := by decide +kernel
theorem dL_pass_8 : decode cL_pass 8 = .ok (.lastore, 1) := by decide +kernel
theorem dL_pass_9 : decode cL_pass 9 = .ok (.goto 6, 3) := by decide +kernel
theorem dL_pass_12 : decode cL_pass 12 = .ok (.astore_n 3, 1) := by decide +kernel
theorem dL_pass_13 : decode cL_pass 13 = .ok (.iconst 1, 1) := by decide +kernel
theorem dL_pass_14 : decode cL_pass 14 = .ok (.ireturn, 1) := by decide +kernel
theorem dL_pass_15 : decode cL_pass 15 = .ok (.iconst 0, 1) := by decide +kernel
theorem dL_pass_16 : decode cL_pass 16 = .ok (.ireturn, 1) := by decide +kernel
set_option maxRecDepth 20000 in
theorem ggL_foresee_X2_foresee : GoodIn wsL_foresee wsX2_foresee := goodIn_ca (goodIn_ca (goodIn_r _ [7, 8, 9, 10, 11, 12, 13, 14, 15, 6, 16, 17, 18, 19, 20, 21, 22, 23, 24, 25, 26, 27, 28, 29, 30, 31, 32, 33, 34, 35, 36, 37, 38, 39, 40, 41, 42, 43, 44, 45, 46, 47, 48, 49, 50, 51, 52, 53, 54, 55, 56, 57, 58, 59, 60, 61, 62, 63, 64, 65, 66, 67, 68, 69, 70, 71, 72, 73, 74, 75, 76, 77, 78, 79, 80, 81, 82, 83, 84, 85, 86, 87, 88, 89, 90, 91, 92, 93, 94, 95, 96, 97, 98, 99, 100, 101, 102, 103, 104, 105, 106, 107, 108, 109, 110, 111, 112, 113, 114, 115, 116, 117, 118, 119, 120, 121, 122, 123, 124, 125, 126, 127, 128, 129, 130, 131, 132, 133, 134, 135, 136, 137, 138, 139, 140, 141, 142, 143, 144, 145, 146, 147, 148, 149, 150, 151, 152, 153, 154, 155, 156, 157, 158, 159, 160, 161, 162, 163, 164, 165, 166, 167, 168, 169, 170, 171, 172, 173, 174, 175, 176, 177, 178, 179, 180, 181, 182, 183, 184, 185, 186, 187, 188, 189, 190, 191, 192, 193, 194, 195, 196, 197, 198, 199, 200, 201, 202] (by decide +kernel) (by decide +kernel)) (goodIn_sub (fun _ h => List.mem_cons_of_mem _ (List.mem_append_left _ (List.mem_append_right _ h))) (by decide +kernel))) (goodIn_sub (fun _ h => List.mem_cons_of_mem _ (List.mem_append_right _ h)) (by decide +kernel))
set_option maxRecDepth 20000 in
theorem gL_foresee_X2_foresee : GoodIn wsL_foresee (wsV RL 54 RX2 yX2_foresee wsX2_foresee) := goodIn_app (goodIn_of _ (by decide +kernel)) ggL_foresee_X2_foresee
theorem dL_foresee_0 : decode cL_foresee 0 = .ok (.aload_n 3, 1) := by decide +kernel
theorem dL_foresee_1 : decode cL_foresee 1 = .ok (.iconst 0, 1) := by decide +kernel
theorem dL_foresee_2 : decode cL_foresee 2 = .ok (.aload_n 0, 1) := by decide +kernel
theorem dL_foresee_3 : decode cL_foresee 3 = .ok (.iload_n 1, 1) := by decide +kernel
theorem dL_foresee_4 : decode cL_foresee 4 = .ok (.iload_n 2, 1) := by decide +kernel
theorem dL_foresee_5 : decode cL_foresee 5 = .ok (.invokevirtual 54, 3) := by decide +kernel
theorem dL_foresee_8 : decode cL_foresee 8 = .ok (.i2l, 1) := by decide +kernel
theorem dL_foresee_9 : decode cL_foresee 9 = .ok (.lastore, 1) := by decide +kernel
theorem dL_foresee_10 : decode cL_foresee 10 = .ok (.goto 11, 3) := by decide +kernel
theorem dL_foresee_13 : decode cL_foresee 13 = .ok (.astore 4, 2) := by decide +kernel
theorem dL_foresee_15 : decode cL_foresee 15 = .ok (.iconst 1, 1) := by decide +kernel
theorem dL_foresee_16 : decode cL_foresee 16 = .ok (.ireturn, 1) := by decide +kernel
theorem dL_foresee_17 : decode cL_foresee 17 = .ok (.astore 4, 2) := by decide +kernel
theorem dL_foresee_19 : decode cL_foresee 19 = .ok (.iconst 2, 1) := by decide +kernel
theorem dL_foresee_20 : decode cL_foresee 20 = .ok (.ireturn, 1) := by decide +kernel
theorem dL_foresee_21 : decode cL_foresee 21 = .ok (.iconst 0, 1) := by decide +kernel
theorem dL_foresee_22 : decode cL_foresee 22 = .ok (.ireturn, 1) := by decide +kernel
set_option maxRecDepth 20000 in
theorem ggL_earns_X2_earns : GoodIn wsL_earns wsX2_earns := goodIn_ca (goodIn_r _ [6, 7, 8, 9, 10, 11, 12, 13, 14, 15, 16, 17, 18, 19, 20, 21, 22, 23, 24, 25, 26, 27, 28, 29, 30, 31, 32, 33, 34, 35, 36, 37, 38, 39, 40, 41, 42, 43, 44, 45, 46, 47, 48, 49, 50, 51, 52, 53, 54, 55, 56, 57, 58, 59, 60, 61, 62, 63, 64, 65, 66, 67, 68, 69, 70, 71, 72, 73, 74, 75, 76, 77, 78, 79, 80, 81, 82, 83, 84, 85, 86, 87, 88, 89, 90, 91, 92, 93, 94, 95, 96, 97, 98, 99, 100, 101, 102, 103, 104, 105, 106] (by decide +kernel) (by decide +kernel)) (goodIn_sub (fun _ h => List.mem_cons_of_mem _ (List.mem_append_right _ h)) (by decide +kernel))
set_option maxRecDepth 20000 in
theorem gL_earns_X2_earns : GoodIn wsL_earns (wsV RL 57 RX2 yX2_earns wsX2_earns) := goodIn_app (goodIn_of _ (by decide +kernel)) ggL_earns_X2_earns
theorem dL_earns_0 : decode cL_earns 0 = .ok (.aload_n 2, 1) := by decide +kernel
theorem dL_earns_1 : decode cL_earns 1 = .ok (.iconst 0, 1) := by decide +kernel
theorem dL_earns_2 : decode cL_earns 2 = .ok (.aload_n 0, 1) := by decide +kernel
theorem dL_earns_3 : decode cL_earns 3 = .ok (.iload_n 1, 1) := by decide +kernel
theorem dL_earns_4 : decode cL_earns 4 = .ok (.invokevirtual 57, 3) := by decide +kernel
theorem dL_earns_7 : decode cL_earns 7 = .ok (.i2l, 1) := by decide +kernel
theorem dL_earns_8 : decode cL_earns 8 = .ok (.lastore, 1) := by decide +kernel
theorem dL_earns_9 : decode cL_earns 9 = .ok (.goto 6, 3) := by decide +kernel
theorem dL_earns_12 : decode cL_earns 12 = .ok (.astore_n 3, 1) := by decide +kernel
theorem dL_earns_13 : decode cL_earns 13 = .ok (.iconst 1, 1) := by decide +kernel
theorem dL_earns_14 : decode cL_earns 14 = .ok (.ireturn, 1) := by decide +kernel
theorem dL_earns_15 : decode cL_earns 15 = .ok (.iconst 0, 1) := by decide +kernel
theorem dL_earns_16 : decode cL_earns 16 = .ok (.ireturn, 1) := by decide +kernel
set_option maxRecDepth 20000 in
theorem ggL_dies_X2_dies : GoodIn wsL_dies wsX2_dies := goodIn_ca (goodIn_r _ [6, 7, 8, 9, 10, 11, 12, 13, 14, 15, 16, 17, 18, 19, 20, 21, 22, 23, 24, 25, 26, 27, 28, 29, 30, 31, 32, 33, 34, 35, 36, 37, 38, 39, 40, 41, 42, 43, 44, 45, 46, 47, 48, 49, 50, 51, 52, 53, 54, 55, 56, 57, 58, 59, 60, 61, 62, 63, 64, 65, 66, 67, 68, 69, 70, 71, 72, 73, 74, 75, 76, 77, 78, 79, 80, 81, 82, 83, 84, 85, 86, 87, 88, 89, 90, 91, 92, 93, 94, 95, 96, 97, 98, 99, 100, 101, 102, 103, 104, 105, 106, 107, 108, 109, 110, 111, 112, 113, 114, 115, 116, 117, 118, 119, 120, 121, 122, 123, 124, 125, 126, 127, 128, 129, 130, 131, 132, 133, 134, 135, 136, 137, 138, 139, 140, 141, 142, 143, 144, 145, 146, 147, 148, 149, 150, 151, 152, 153, 154, 155, 156, 157, 158, 159, 160, 161, 162, 163, 164, 165, 166, 167, 168, 169, 170, 171, 172, 173, 174, 175, 176, 177, 178, 179, 180, 181] (by decide +kernel) (by decide +kernel)) (goodIn_sub (fun _ h => List.mem_cons_of_mem _ (List.mem_append_right _ h)) (by decide +kernel))
set_option maxRecDepth 20000 in
theorem gL_dies_X2_dies : GoodIn wsL_dies (wsV RL 60 RX2 yX2_dies wsX2_dies) := goodIn_app (goodIn_of _ (by decide +kernel)) ggL_dies_X2_dies
theorem dL_dies_0 : decode cL_dies 0 = .ok (.aload_n 2, 1) := by decide +kernel
theorem dL_dies_1 : decode cL_dies 1 = .ok (.iconst 0, 1) := by decide +kernel
theorem dL_dies_2 : decode cL_dies 2 = .ok (.aload_n 0, 1) := by decide +kernel
theorem dL_dies_3 : decode cL_dies 3 = .ok (.iload_n 1, 1) := by decide +kernel
theorem dL_dies_4 : decode cL_dies 4 = .ok (.invokevirtual 60, 3) := by decide +kernel
theorem dL_dies_7 : decode cL_dies 7 = .ok (.i2l, 1) := by decide +kernel
theorem dL_dies_8 : decode cL_dies 8 = .ok (.lastore, 1) := by decide +kernel
theorem dL_dies_9 : decode cL_dies 9 = .ok (.goto 6, 3) := by decide +kernel
theorem dL_dies_12 : decode cL_dies 12 = .ok (.astore_n 3, 1) := by decide +kernel
theorem dL_dies_13 : decode cL_dies 13 = .ok (.iconst 1, 1) := by decide +kernel
theorem dL_dies_14 : decode cL_dies 14 = .ok (.ireturn, 1) := by decide +kernel
theorem dL_dies_15 : decode cL_dies 15 = .ok (.iconst 0, 1) := by decide +kernel
theorem dL_dies_16 : decode cL_dies 16 = .ok (.ireturn, 1) := by decide +kernel
set_option maxRecDepth 20000 in
theorem ggL_advise_X2_advise : GoodIn wsL_advise wsX2_advise := goodIn_ca (goodIn_ca (goodIn_r _ [7, 8, 9, 10, 11, 12, 13, 14, 15, 16, 17, 18, 19, 20, 21, 22, 23, 24, 25, 26, 27, 28, 29, 30, 31, 32, 33, 34, 35, 36, 37, 38, 39, 40, 41, 42, 43, 44, 45, 46, 47, 48, 49, 50, 51, 52, 53, 54, 55, 56, 57, 58, 59, 60, 61, 62, 63, 64, 65, 66, 67, 68, 69, 70, 71, 72, 73, 74, 75, 76, 77, 78, 79, 80, 81, 82, 83, 84, 85, 86, 87, 88, 89, 90, 91, 92, 93, 94, 95, 96, 97, 98, 99, 100, 101, 102, 103, 104, 105, 106, 107, 108, 109, 110, 111, 112, 113, 114, 115, 116, 117, 118, 119, 120, 121, 122, 123, 124, 125, 126, 127, 128, 129, 130, 131, 132, 133, 134, 135, 136, 137, 138, 139, 140, 141, 142, 143, 144, 145, 146, 147, 148, 149, 150, 151, 152, 153, 154, 155, 156, 157, 158, 159, 160, 161, 162, 163, 164, 165, 166, 167, 168, 169, 170, 171, 172, 173, 174, 175, 176, 177, 178, 179, 180, 181, 182, 183, 184, 185, 186, 187, 188, 189, 190, 191, 192, 193, 194, 195, 196, 197, 198] (by decide +kernel) (by decide +kernel)) (goodIn_sub (fun _ h => List.mem_cons_of_mem _ (List.mem_append_left _ (List.mem_append_right _ h))) (by decide +kernel))) (goodIn_sub (fun _ h => List.mem_cons_of_mem _ (List.mem_append_right _ h)) (by decide +kernel))
set_option maxRecDepth 20000 in
theorem gL_advise_X2_advise : GoodIn wsL_advise (wsV RL 63 RX2 yX2_advise wsX2_advise) := goodIn_app (goodIn_of _ (by decide +kernel)) ggL_advise_X2_advise
theorem dL_advise_0 : decode cL_advise 0 = .ok (.aload_n 2, 1) := by decide +kernel
theorem dL_advise_1 : decode cL_advise 1 = .ok (.iconst 0, 1) := by decide +kernel
theorem dL_advise_2 : decode cL_advise 2 = .ok (.aload_n 0, 1) := by decide +kernel
theorem dL_advise_3 : decode cL_advise 3 = .ok (.iload_n 1, 1) := by decide +kernel
theorem dL_advise_4 : decode cL_advise 4 = .ok (.invokevirtual 63, 3) := by decide +kernel
theorem dL_advise_7 : decode cL_advise 7 = .ok (.i2l, 1) := by decide +kernel
theorem dL_advise_8 : decode cL_advise 8 = .ok (.lastore, 1) := by decide +kernel
theorem dL_advise_9 : decode cL_advise 9 = .ok (.goto 9, 3) := by decide +kernel
theorem dL_advise_12 : decode cL_advise 12 = .ok (.astore_n 3, 1) := by decide +kernel
theorem dL_advise_13 : decode cL_advise 13 = .ok (.iconst 1, 1) := by decide +kernel
theorem dL_advise_14 : decode cL_advise 14 = .ok (.ireturn, 1) := by decide +kernel
theorem dL_advise_15 : decode cL_advise 15 = .ok (.astore_n 3, 1) := by decide +kernel
theorem dL_advise_16 : decode cL_advise 16 = .ok (.iconst 2, 1) := by decide +kernel
theorem dL_advise_17 : decode cL_advise 17 = .ok (.ireturn, 1) := by decide +kernel
theorem dL_advise_18 : decode cL_advise 18 = .ok (.iconst 0, 1) := by decide +kernel
theorem dL_advise_19 : decode cL_advise 19 = .ok (.ireturn, 1) := by decide +kernel
set_option maxRecDepth 20000 in
theorem ggL_law_X2_init : GoodIn wsL_law wsX2_init := goodIn_r _ [9, 10, 11, 12, 13, 14, 15, 16, 17, 18, 19, 20, 21, 22, 23, 24, 25, 26, 27, 28, 29, 30, 31, 32, 33, 34, 35, 36, 37, 38, 39, 632, 633, 634, 635, 636, 637, 638, 639, 640, 641, 642, 643, 644, 645, 625, 626, 646, 647, 648, 649, 650, 651, 652, 653, 654, 655] (by decide +kernel) (by decide +kernel)
set_option maxRecDepth 20000 in
theorem gL_law_X2_init : GoodIn wsL_law (wsX2_init) := ggL_law_X2_init
set_option maxRecDepth 20000 in
theorem ggL_law_X4_init : GoodIn wsL_law wsX4_init := goodIn_r _ [42, 43, 11, 12, 44, 26, 45, 46, 47, 48, 49, 50, 51, 52, 53, 54, 55, 56, 57, 58, 59, 627, 628, 629, 630, 631, 656, 657, 658, 659, 660, 661, 662, 663, 664, 665, 666, 667] (by decide +kernel) (by decide +kernel)
set_option maxRecDepth 20000 in
theorem gL_law_X4_init : GoodIn wsL_law (wsX4_init) := ggL_law_X4_init
set_option maxRecDepth 20000 in
theorem ggL_law_L_join : GoodIn wsL_law wsL_join := goodIn_ca (goodIn_ca (goodIn_r _ [63, 64, 65, 66, 67, 68, 2, 69, 70, 71, 72, 73, 16, 74, 75, 76, 77, 78, 79, 80, 81, 33, 82, 83, 84, 85, 39, 625, 626, 632, 633, 634, 635, 636, 637, 638, 639, 640, 641, 642, 643, 644, 645, 646, 647, 648, 649, 650, 651, 652, 653, 654, 655] (by decide +kernel) (by decide +kernel)) (goodIn_sub (fun _ h => List.mem_append_left _ (List.mem_append_left _ (List.mem_append_right _ h))) (by decide +kernel))) (goodIn_sub (fun _ h => List.mem_append_left _ (List.mem_append_right _ h)) (by decide +kernel))
set_option maxRecDepth 20000 in
theorem gL_law_L_join : GoodIn wsL_law (va_wsS RL 70 yL_join wsL_join) := goodIn_app (goodIn_of _ (by decide +kernel)) ggL_law_L_join
set_option maxRecDepth 20000 in
theorem ggL_law_X4_join : GoodIn wsL_law wsX4_join := goodIn_r _ [89, 90, 49, 26, 91, 92, 93, 94, 95, 96, 5, 97, 98, 99, 100, 101, 627, 628, 629, 630, 631, 656, 657, 658, 659, 660, 661, 662, 663, 664, 665, 666, 667] (by decide +kernel) (by decide +kernel)
set_option maxRecDepth 20000 in
theorem gL_law_X4_join : GoodIn wsL_law (wsV RL 75 RX4 yX4_join wsX4_join) := goodIn_app (goodIn_of _ (by decide +kernel)) ggL_law_X4_join
set_option maxRecDepth 20000 in
theorem ggL_law_X4_thrown : GoodIn wsL_law wsX4_thrown := goodIn_r _ [105, 90, 627, 628, 629, 630, 631] (by decide +kernel) (by decide +kernel)
set_option maxRecDepth 20000 in
theorem gL_law_X4_thrown : GoodIn wsL_law (wsV RL 76 RX4 yX4_thrown wsX4_thrown) := goodIn_app (goodIn_of _ (by decide +kernel)) ggL_law_X4_thrown
set_option maxRecDepth 20000 in
theorem ggL_law_L_place : GoodIn wsL_law wsL_place := goodIn_ca (goodIn_ca (goodIn_r _ [108, 109, 65, 110, 111, 112, 2, 113, 114, 115, 72, 73, 16, 75, 116, 117, 118, 119, 120, 15, 121, 31, 122, 76, 77, 78, 123, 124, 125, 126, 127, 128, 129, 130, 131, 132, 133, 134, 33, 135, 39, 625, 626, 632, 633, 634, 635, 636, 637, 638, 639, 640, 641, 642, 643, 644, 645, 646, 647, 648, 649, 650, 651, 652, 653, 654, 655] (by decide +kernel) (by decide +kernel)) (goodIn_sub (fun _ h => List.mem_append_right _ h) (by decide +kernel))) (goodIn_sub (fun _ h => List.mem_append_left _ (List.mem_append_right _ h)) (by decide +kernel))
set_option maxRecDepth 20000 in
theorem gL_law_L_place : GoodIn wsL_law (va_wsS RL 80 yL_place wsL_place) := goodIn_app (goodIn_of _ (by decide +kernel)) ggL_law_L_place
set_option maxRecDepth 20000 in
theorem ggL_law_X4_place : GoodIn wsL_law wsX4_place := goodIn_r _ [139, 90, 49, 140, 141, 142, 5, 143, 95, 96, 97, 98, 99, 100, 101, 144, 145, 146, 147, 148, 149, 150, 48, 151, 59, 152, 153, 154, 155, 156, 157, 158, 159, 160, 161, 162, 163, 164, 165, 627, 628, 629, 630, 631, 656, 657, 658, 659, 660, 661, 662, 663, 664, 665, 666, 667] (by decide +kernel) (by decide +kernel)
set_option maxRecDepth 20000 in
theorem gL_law_X4_place : GoodIn wsL_law (wsV RL 82 RX4 yX4_place wsX4_place) := goodIn_app (goodIn_of _ (by decide +kernel)) ggL_law_X4_place
set_option maxRecDepth 20000 in
theorem ggL_law_L_give : GoodIn wsL_law wsL_give := goodIn_ca (goodIn_ca (goodIn_ca (goodIn_r _ [168, 109, 64, 65, 169, 170, 171, 2, 172, 114, 115, 70, 71, 72, 73, 16, 75, 116, 173, 118, 119, 120, 15, 121, 31, 122, 76, 77, 78, 625, 626, 632, 633, 634, 635, 636, 637, 638, 639, 640, 641, 642, 643, 644, 645, 646, 647, 648, 649, 650, 651, 652, 653, 654, 655] (by decide +kernel) (by decide +kernel)) (goodIn_sub (fun _ h => List.mem_append_right _ h) (by decide +kernel))) (goodIn_sub (fun _ h => List.mem_append_left _ (List.mem_append_left _ (List.mem_append_right _ h))) (by decide +kernel))) (goodIn_sub (fun _ h => List.mem_append_left _ (List.mem_append_right _ h)) (by decide +kernel))
set_option maxRecDepth 20000 in
theorem gL_law_L_give : GoodIn wsL_law (va_wsS RL 83 yL_give wsL_give) := goodIn_app (goodIn_of _ (by decide +kernel)) ggL_law_L_give
set_option maxRecDepth 20000 in
theorem ggL_law_X4_give : GoodIn wsL_law wsX4_give := goodIn_r _ [177, 90, 49, 140, 141, 142, 5, 143, 95, 96, 97, 98, 99, 100, 101, 144, 145, 146, 147, 148, 149, 150, 48, 151, 59, 162, 163, 164, 165, 627, 628, 629, 630, 631, 656, 657, 658, 659, 660, 661, 662, 663, 664, 665, 666, 667] (by decide +kernel) (by decide +kernel)
set_option maxRecDepth 20000 in
theorem gL_law_X4_give : GoodIn wsL_law (wsV RL 86 RX4 yX4_give wsX4_give) := goodIn_app (goodIn_of _ (by decide +kernel)) ggL_law_X4_give
set_option maxRecDepth 20000 in
theorem ggL_law_L_settle : GoodIn wsL_law wsL_settle := goodIn_ca (goodIn_ca (goodIn_r _ [180, 109, 65, 181, 182, 183, 2, 184, 114, 115, 72, 73, 16, 75, 116, 185, 186, 118, 119, 120, 15, 121, 31, 122, 187, 188, 189, 33, 190, 191, 85, 192, 193, 194, 195, 625, 626, 632, 633, 634, 635, 636, 637, 638, 639, 640, 641, 642, 643, 644, 645, 646, 647, 648, 649, 650, 651, 652, 653, 654, 655] (by decide +kernel) (by decide +kernel)) (goodIn_sub (fun _ h => List.mem_append_right _ h) (by decide +kernel))) (goodIn_sub (fun _ h => List.mem_append_left _ (List.mem_append_right _ h)) (by decide +kernel))
set_option maxRecDepth 20000 in
theorem gL_law_L_settle : GoodIn wsL_law (va_wsS RL 87 yL_settle wsL_settle) := goodIn_app (goodIn_of _ (by decide +kernel)) ggL_law_L_settle
set_option maxRecDepth 20000 in
theorem ggL_law_X4_settle : GoodIn wsL_law wsX4_settle := goodIn_r _ [199, 90, 49, 140, 141, 142, 5, 143, 95, 96, 97, 98, 99, 100, 101, 144, 145, 146, 147, 148, 149, 150, 48, 151, 59, 200, 201, 202, 203, 204, 193, 194, 195, 55, 161, 205, 163, 164, 165, 627, 628, 629, 630, 631, 656, 657, 658, 659, 660, 661, 662, 663, 664, 665, 666, 667] (by decide +kernel) (by decide +kernel)
set_option maxRecDepth 20000 in
theorem gL_law_X4_settle : GoodIn wsL_law (wsV RL 90 RX4 yX4_settle wsX4_settle) := goodIn_app (goodIn_of _ (by decide +kernel)) ggL_law_X4_settle
set_option maxRecDepth 20000 in
theorem ggL_law_L_told : GoodIn wsL_law wsL_told := goodIn_ca (goodIn_r _ [208, 109, 209, 210, 211, 2, 212, 114, 115, 16, 75, 118, 119, 120, 15, 121, 31, 122, 76, 77, 78, 213, 214, 215, 33, 216, 83, 84, 85, 191, 217, 38, 39, 218, 219, 625, 626, 632, 633, 634, 635, 636, 637, 638, 639, 640, 641, 642, 643, 644, 645, 646, 647, 648, 649, 650, 651, 652, 653, 654, 655] (by decide +kernel) (by decide +kernel)) (goodIn_sub (fun _ h => List.mem_append_right _ h) (by decide +kernel))
set_option maxRecDepth 20000 in
theorem gL_law_L_told : GoodIn wsL_law (va_wsS RL 91 yL_told wsL_told) := goodIn_app (goodIn_of _ (by decide +kernel)) ggL_law_L_told
set_option maxRecDepth 20000 in
theorem ggL_law_X4_told : GoodIn wsL_law wsX4_told := goodIn_r _ [223, 90, 49, 140, 141, 142, 5, 143, 95, 96, 97, 148, 149, 150, 48, 151, 59, 98, 99, 100, 101, 627, 628, 629, 630, 631, 656, 657, 658, 659, 660, 661, 662, 663, 664, 665, 666, 667] (by decide +kernel) (by decide +kernel)
set_option maxRecDepth 20000 in
theorem gL_law_X4_told : GoodIn wsL_law (wsV RL 93 RX4 yX4_told wsX4_told) := goodIn_app (goodIn_of _ (by decide +kernel)) ggL_law_X4_told
set_option maxRecDepth 20000 in
theorem ggL_law_X2_owes : GoodIn wsL_law wsX2_owes := goodIn_r _ [227, 16, 75, 186, 625, 626, 632, 633, 634, 635, 636, 637, 638, 639, 640, 641, 642, 643, 644, 645, 646, 647, 648, 649, 650, 651, 652, 653, 654, 655] (by decide +kernel) (by decide +kernel)
set_option maxRecDepth 20000 in
theorem gL_law_X2_owes : GoodIn wsL_law (wsV RL 94 RX2 yX2_owes wsX2_owes) := goodIn_app (goodIn_of _ (by decide +kernel)) ggL_law_X2_owes
set_option maxRecDepth 20000 in
theorem ggL_law_X4_owes : GoodIn wsL_law wsX4_owes := goodIn_r _ [231, 90, 49, 148, 149, 150, 48, 151, 59, 627, 628, 629, 630, 631, 656, 657, 658, 659, 660, 661, 662, 663, 664, 665, 666, 667] (by decide +kernel) (by decide +kernel)
set_option maxRecDepth 20000 in
theorem gL_law_X4_owes : GoodIn wsL_law (wsV RL 97 RX4 yX4_owes wsX4_owes) := goodIn_app (goodIn_of _ (by decide +kernel)) ggL_law_X4_owes
set_option maxRecDepth 20000 in
theorem ggL_law_L_setFever : GoodIn wsL_law wsL_setFever := goodIn_ca (goodIn_ca (goodIn_r _ [234, 109, 64, 235, 236, 237, 2, 238, 114, 115, 70, 71, 16, 239, 76, 77, 78, 625, 626, 632, 633, 634, 635, 636, 637, 638, 639, 640, 641, 642, 643, 644, 645] (by decide +kernel) (by decide +kernel)) (goodIn_sub (fun _ h => List.mem_append_right _ h) (by decide +kernel))) (goodIn_sub (fun _ h => List.mem_append_left _ (List.mem_append_left _ (List.mem_append_right _ h))) (by decide +kernel))
set_option maxRecDepth 20000 in
theorem gL_law_L_setFever : GoodIn wsL_law (va_wsS RL 98 yL_setFever wsL_setFever) := goodIn_app (goodIn_of _ (by decide +kernel)) ggL_law_L_setFever
set_option maxRecDepth 20000 in
theorem ggL_law_X4_setFever : GoodIn wsL_law wsX4_setFever := goodIn_r _ [243, 90, 45, 95, 96, 5, 97, 98, 99, 100, 101, 627, 628, 629, 630, 631] (by decide +kernel) (by decide +kernel)
set_option maxRecDepth 20000 in
theorem gL_law_X4_setFever : GoodIn wsL_law (wsV RL 100 RX4 yX4_setFever wsX4_setFever) := goodIn_app (goodIn_of _ (by decide +kernel)) ggL_law_X4_setFever
set_option maxRecDepth 20000 in
theorem ggL_law_L_setDues : GoodIn wsL_law wsL_setDues := goodIn_ca (goodIn_r _ [246, 64, 247, 248, 249, 2, 250, 70, 71, 16, 251, 76, 77, 78, 625, 626, 632, 633, 634, 635, 636, 637, 638, 639, 640, 641, 642, 643, 644, 645] (by decide +kernel) (by decide +kernel)) (goodIn_sub (fun _ h => List.mem_append_left _ (List.mem_append_left _ (List.mem_append_right _ h))) (by decide +kernel))
set_option maxRecDepth 20000 in
theorem gL_law_L_setDues : GoodIn wsL_law (va_wsS RL 101 yL_setDues wsL_setDues) := goodIn_app (goodIn_of _ (by decide +kernel)) ggL_law_L_setDues
set_option maxRecDepth 20000 in
theorem ggL_law_X4_setDues : GoodIn wsL_law wsX4_setDues := goodIn_r _ [255, 90, 44, 95, 96, 5, 97, 98, 99, 100, 101, 627, 628, 629, 630, 631] (by decide +kernel) (by decide +kernel)
set_option maxRecDepth 20000 in
theorem gL_law_X4_setDues : GoodIn wsL_law (wsV RL 103 RX4 yX4_setDues wsX4_setDues) := goodIn_app (goodIn_of _ (by decide +kernel)) ggL_law_X4_setDues
set_option maxRecDepth 20000 in
theorem ggL_law_L_buy : GoodIn wsL_law wsL_buy := goodIn_ca (goodIn_ca (goodIn_ca (goodIn_r _ [258, 109, 64, 65, 259, 260, 261, 2, 262, 114, 115, 70, 71, 72, 73, 16, 185, 263, 264, 76, 77, 78, 625, 626, 632, 633, 634, 635, 636, 637, 638, 639, 640, 641, 642, 643, 644, 645] (by decide +kernel) (by decide +kernel)) (goodIn_sub (fun _ h => List.mem_append_right _ h) (by decide +kernel))) (goodIn_sub (fun _ h => List.mem_append_left _ (List.mem_append_left _ (List.mem_append_right _ h))) (by decide +kernel))) (goodIn_sub (fun _ h => List.mem_append_left _ (List.mem_append_right _ h)) (by decide +kernel))
set_option maxRecDepth 20000 in
theorem gL_law_L_buy : GoodIn wsL_law (va_wsS RL 104 yL_buy wsL_buy) := goodIn_app (goodIn_of _ (by decide +kernel)) ggL_law_L_buy
set_option maxRecDepth 20000 in
theorem ggL_law_X4_buy : GoodIn wsL_law wsX4_buy := goodIn_r _ [268, 90, 49, 95, 96, 5, 97, 98, 99, 100, 101, 627, 628, 629, 630, 631, 656, 657, 658, 659, 660, 661, 662, 663, 664, 665, 666, 667] (by decide +kernel) (by decide +kernel)
set_option maxRecDepth 20000 in
theorem gL_law_X4_buy : GoodIn wsL_law (wsV RL 106 RX4 yX4_buy wsX4_buy) := goodIn_app (goodIn_of _ (by decide +kernel)) ggL_law_X4_buy
set_option maxRecDepth 20000 in
theorem ggL_law_L_sell : GoodIn wsL_law wsL_sell := goodIn_ca (goodIn_ca (goodIn_r _ [271, 64, 65, 272, 273, 274, 2, 275, 70, 71, 72, 73, 16, 276, 185, 76, 77, 78, 625, 626, 632, 633, 634, 635, 636, 637, 638, 639, 640, 641, 642, 643, 644, 645] (by decide +kernel) (by decide +kernel)) (goodIn_sub (fun _ h => List.mem_append_left _ (List.mem_append_left _ (List.mem_append_right _ h))) (by decide +kernel))) (goodIn_sub (fun _ h => List.mem_append_left _ (List.mem_append_right _ h)) (by decide +kernel))
set_option maxRecDepth 20000 in
theorem gL_law_L_sell : GoodIn wsL_law (va_wsS RL 107 yL_sell wsL_sell) := goodIn_app (goodIn_of _ (by decide +kernel)) ggL_law_L_sell
set_option maxRecDepth 20000 in
theorem ggL_law_X4_sell : GoodIn wsL_law wsX4_sell := goodIn_r _ [280, 90, 49, 95, 96, 5, 97, 98, 99, 100, 101, 627, 628, 629, 630, 631, 656, 657, 658, 659, 660, 661, 662, 663, 664, 665, 666, 667] (by decide +kernel) (by decide +kernel)
set_option maxRecDepth 20000 in
theorem gL_law_X4_sell : GoodIn wsL_law (wsV RL 109 RX4 yX4_sell wsX4_sell) := goodIn_app (goodIn_of _ (by decide +kernel)) ggL_law_X4_sell
set_option maxRecDepth 20000 in
theorem ggL_law_L_pot : GoodIn wsL_law wsL_pot := goodIn_ca (goodIn_r _ [283, 109, 284, 285, 286, 2, 287, 114, 115, 76, 77, 78, 288, 289, 290, 291, 16, 17, 292, 293, 294, 15, 295, 28, 296, 129, 130, 131, 31, 127, 132, 133, 134, 33, 135, 39, 297, 298, 299, 300, 29, 301, 302, 303, 304, 305, 306, 307, 308, 38, 309, 310, 311, 312, 313, 314, 22, 23, 24, 315, 25, 316, 317, 27, 318, 319, 320, 321, 83, 84, 85, 191, 217, 218, 219, 322, 323, 324, 325, 326, 327, 193, 194, 195, 328, 329, 330, 331, 332, 333, 334, 335, 336, 337, 338, 339, 625, 626, 632, 633, 634, 635, 636, 637, 638, 639, 640, 641, 642, 643, 644, 645, 646, 647, 648, 649, 650, 651, 652, 653, 654, 655] (by decide +kernel) (by decide +kernel)) (goodIn_sub (fun _ h => List.mem_append_right _ h) (by decide +kernel))
set_option maxRecDepth 20000 in
theorem gL_law_L_pot : GoodIn wsL_law (va_wsS RL 110 yL_pot wsL_pot) := goodIn_app (goodIn_of _ (by decide +kernel)) ggL_law_L_pot
set_option maxRecDepth 20000 in
theorem ggL_law_X4_pot : GoodIn wsL_law wsX4_pot := goodIn_r _ [343, 90, 95, 96, 5, 97, 344, 345, 346, 347, 49, 156, 157, 158, 48, 159, 160, 161, 149, 150, 151, 59, 348, 349, 350, 351, 352, 353, 354, 355, 356, 357, 358, 359, 50, 360, 361, 362, 363, 364, 55, 56, 57, 365, 366, 367, 368, 58, 369, 92, 93, 94, 370, 371, 372, 373, 204, 193, 194, 195, 374, 329, 330, 375, 376, 148, 377, 378, 379, 380, 98, 99, 100, 101, 627, 628, 629, 630, 631, 656, 657, 658, 659, 660, 661, 662, 663, 664, 665, 666, 667] (by decide +kernel) (by decide +kernel)
set_option maxRecDepth 20000 in
theorem gL_law_X4_pot : GoodIn wsL_law (wsV RL 112 RX4 yX4_pot wsX4_pot) := goodIn_app (goodIn_of _ (by decide +kernel)) ggL_law_X4_pot
set_option maxRecDepth 20000 in
theorem ggL_law_L_count : GoodIn wsL_law wsL_count := goodIn_ca (goodIn_r _ [383, 109, 384, 385, 386, 2, 387, 114, 115, 16, 76, 77, 78, 388, 389, 390, 15, 391, 313, 314, 22, 23, 24, 315, 316, 317, 392, 393, 394, 395, 31, 122, 396, 397, 398, 399, 400, 401, 402, 403, 404, 405, 625, 626, 632, 633, 634, 635, 636, 637, 638, 639, 640, 641, 642, 643, 644, 645, 646, 647, 648, 649, 650, 651, 652, 653, 654, 655] (by decide +kernel) (by decide +kernel)) (goodIn_sub (fun _ h => List.mem_append_right _ h) (by decide +kernel))
set_option maxRecDepth 20000 in
theorem gL_law_L_count : GoodIn wsL_law (va_wsS RL 113 yL_count wsL_count) := goodIn_app (goodIn_of _ (by decide +kernel)) ggL_law_L_count
set_option maxRecDepth 20000 in
theorem ggL_law_X4_count : GoodIn wsL_law wsX4_count := goodIn_r _ [409, 90, 49, 95, 96, 5, 97, 410, 411, 412, 413, 414, 415, 48, 416, 160, 161, 149, 150, 151, 59, 417, 418, 419, 420, 98, 99, 100, 101, 627, 628, 629, 630, 631, 656, 657, 658, 659, 660, 661, 662, 663, 664, 665, 666, 667] (by decide +kernel) (by decide +kernel)
set_option maxRecDepth 20000 in
theorem gL_law_X4_count : GoodIn wsL_law (wsV RL 115 RX4 yX4_count wsX4_count) := goodIn_app (goodIn_of _ (by decide +kernel)) ggL_law_X4_count
set_option maxRecDepth 20000 in
theorem ggL_law_L_pass : GoodIn wsL_law wsL_pass := goodIn_ca (goodIn_r _ [423, 64, 424, 425, 426, 2, 427, 70, 71, 16, 185, 76, 77, 78, 428, 429, 430, 15, 431, 432, 433, 434, 435, 436, 313, 437, 324, 325, 326, 29, 23, 28, 327, 193, 194, 195, 328, 329, 330, 301, 302, 303, 304, 31, 127, 305, 306, 307, 33, 308, 39, 38, 438, 439, 440, 441, 24, 315, 400, 335, 336, 337, 338, 339, 442, 443, 444, 445, 27, 446, 447, 448, 449, 450, 451, 452, 453, 84, 218, 219, 454, 455, 456, 457, 122, 458, 459, 460, 461, 462, 463, 464, 465, 316, 466, 467, 468, 469, 191, 217, 322, 470, 471, 472, 473, 22, 474, 475, 476, 477, 478, 479, 480, 481, 25, 482, 483, 484, 485, 85, 192, 486, 487, 488, 489, 490, 491, 492, 493, 494, 188, 189, 190, 495, 496, 497, 498, 499, 500, 501, 502, 503, 317, 132, 133, 134, 135, 625, 626, 632, 633, 634, 635, 636, 637, 638, 639, 640, 641, 642, 643, 644, 645, 646, 647, 648, 649, 650, 651, 652, 653, 654, 655] (by decide +kernel) (by decide +kernel)) (goodIn_sub (fun _ h => List.mem_append_left _ (List.mem_append_left _ (List.mem_append_right _ h))) (by decide +kernel))
set_option maxRecDepth 20000 in
theorem gL_law_L_pass : GoodIn wsL_law (va_wsS RL 116 yL_pass wsL_pass) := goodIn_app (goodIn_of _ (by decide +kernel)) ggL_law_L_pass
set_option maxRecDepth 20000 in
theorem ggL_law_X4_pass : GoodIn wsL_law wsX4_pass := goodIn_r _ [507, 90, 49, 95, 96, 5, 97, 98, 99, 100, 101, 508, 509, 510, 48, 511, 160, 364, 512, 371, 372, 373, 56, 58, 204, 193, 194, 195, 374, 329, 330, 375, 349, 350, 351, 352, 353, 354, 355, 161, 149, 150, 151, 59, 513, 514, 515, 516, 57, 365, 517, 378, 379, 380, 205, 163, 164, 165, 518, 519, 520, 521, 53, 522, 523, 524, 525, 366, 526, 527, 528, 529, 530, 531, 532, 533, 55, 368, 534, 535, 536, 537, 538, 539, 540, 541, 542, 201, 202, 203, 543, 544, 545, 546, 367, 627, 628, 629, 630, 631, 656, 657, 658, 659, 660, 661, 662, 663, 664, 665, 666, 667] (by decide +kernel) (by decide +kernel)
set_option maxRecDepth 20000 in
theorem gL_law_X4_pass : GoodIn wsL_law (wsV RL 118 RX4 yX4_pass wsX4_pass) := goodIn_app (goodIn_of _ (by decide +kernel)) ggL_law_X4_pass
set_option maxRecDepth 20000 in
theorem ggL_law_L_foresee : GoodIn wsL_law wsL_foresee := goodIn_ca (goodIn_ca (goodIn_r _ [549, 64, 109, 550, 551, 552, 2, 553, 70, 71, 114, 115, 17, 16, 76, 77, 78, 309, 310, 311, 15, 312, 313, 314, 22, 23, 24, 315, 25, 316, 317, 27, 28, 31, 318, 319, 320, 33, 321, 83, 84, 85, 191, 217, 38, 39, 218, 219, 322, 428, 429, 430, 431, 432, 433, 434, 435, 436, 437, 324, 325, 326, 29, 327, 193, 194, 195, 328, 329, 330, 301, 302, 303, 304, 127, 305, 306, 307, 308, 438, 439, 440, 441, 400, 335, 336, 337, 338, 339, 442, 443, 444, 445, 446, 447, 448, 449, 450, 451, 452, 453, 454, 455, 456, 457, 122, 458, 459, 460, 461, 462, 463, 464, 465, 466, 467, 468, 469, 470, 471, 472, 473, 474, 475, 476, 477, 478, 479, 480, 481, 482, 483, 484, 485, 192, 486, 487, 488, 489, 490, 491, 492, 493, 494, 188, 189, 190, 495, 496, 497, 498, 499, 500, 501, 502, 503, 132, 133, 134, 135, 388, 389, 390, 391, 392, 393, 394, 395, 396, 397, 398, 399, 401, 402, 403, 404, 405, 625, 626, 632, 633, 634, 635, 636, 637, 638, 639, 640, 641, 642, 643, 644, 645, 646, 647, 648, 649, 650, 651, 652, 653, 654, 655] (by decide +kernel) (by decide +kernel)) (goodIn_sub (fun _ h => List.mem_append_left _ (List.mem_append_left _ (List.mem_append_right _ h))) (by decide +kernel))) (goodIn_sub (fun _ h => List.mem_append_right _ h) (by decide +kernel))
set_option maxRecDepth 20000 in
theorem gL_law_L_foresee : GoodIn wsL_law (va_wsS RL 119 yL_foresee wsL_foresee) := goodIn_app (goodIn_of _ (by decide +kernel)) ggL_law_L_foresee
set_option maxRecDepth 20000 in
theorem ggL_law_X4_foresee : GoodIn wsL_law wsX4_foresee := goodIn_r _ [557, 90, 50, 49, 95, 96, 5, 97, 98, 99, 100, 101, 360, 361, 362, 48, 363, 364, 160, 55, 56, 57, 365, 366, 367, 368, 58, 369, 92, 93, 94, 59, 508, 509, 510, 511, 512, 371, 372, 373, 204, 193, 194, 195, 374, 329, 330, 375, 349, 350, 351, 352, 353, 354, 355, 161, 149, 150, 151, 513, 514, 515, 516, 517, 378, 379, 380, 205, 163, 164, 165, 518, 519, 520, 521, 53, 522, 523, 524, 525, 526, 527, 528, 529, 530, 531, 532, 533, 534, 535, 536, 537, 538, 539, 540, 541, 542, 201, 202, 203, 543, 544, 545, 546, 410, 411, 412, 413, 414, 415, 416, 417, 418, 419, 420, 627, 628, 629, 630, 631, 656, 657, 658, 659, 660, 661, 662, 663, 664, 665, 666, 667] (by decide +kernel) (by decide +kernel)
set_option maxRecDepth 20000 in
theorem gL_law_X4_foresee : GoodIn wsL_law (wsV RL 121 RX4 yX4_foresee wsX4_foresee) := goodIn_app (goodIn_of _ (by decide +kernel)) ggL_law_X4_foresee
set_option maxRecDepth 20000 in
theorem ggL_law_L_earns : GoodIn wsL_law wsL_earns := goodIn_ca (goodIn_r _ [560, 109, 561, 562, 563, 2, 564, 114, 115, 16, 17, 75, 173, 118, 119, 120, 15, 121, 31, 122, 309, 310, 311, 312, 313, 314, 22, 23, 24, 315, 25, 316, 317, 27, 28, 318, 319, 320, 33, 321, 83, 84, 85, 191, 217, 38, 39, 218, 219, 322, 323, 324, 325, 326, 29, 327, 193, 194, 195, 328, 329, 330, 301, 302, 303, 304, 127, 305, 306, 307, 308, 565, 439, 440, 441, 400, 335, 336, 337, 338, 339, 625, 626, 632, 633, 634, 635, 636, 637, 638, 639, 640, 641, 642, 643, 644, 645, 646, 647, 648, 649, 650, 651, 652, 653, 654, 655] (by decide +kernel) (by decide +kernel)) (goodIn_sub (fun _ h => List.mem_append_right _ h) (by decide +kernel))
set_option maxRecDepth 20000 in
theorem gL_law_L_earns : GoodIn wsL_law (va_wsS RL 122 yL_earns wsL_earns) := goodIn_app (goodIn_of _ (by decide +kernel)) ggL_law_L_earns
set_option maxRecDepth 20000 in
theorem ggL_law_X4_earns : GoodIn wsL_law wsX4_earns := goodIn_r _ [569, 90, 50, 49, 140, 141, 142, 5, 143, 95, 96, 97, 98, 99, 100, 101, 360, 361, 362, 48, 363, 364, 160, 55, 56, 57, 365, 366, 367, 368, 58, 369, 92, 93, 94, 59, 370, 371, 372, 373, 204, 193, 194, 195, 374, 329, 330, 375, 349, 350, 351, 352, 353, 354, 355, 161, 149, 150, 151, 570, 514, 515, 516, 517, 378, 379, 380, 205, 163, 164, 165, 148, 627, 628, 629, 630, 631, 656, 657, 658, 659, 660, 661, 662, 663, 664, 665, 666, 667] (by decide +kernel) (by decide +kernel)
set_option maxRecDepth 20000 in
theorem gL_law_X4_earns : GoodIn wsL_law (wsV RL 124 RX4 yX4_earns wsX4_earns) := goodIn_app (goodIn_of _ (by decide +kernel)) ggL_law_X4_earns
set_option maxRecDepth 20000 in
theorem ggL_law_L_dies : GoodIn wsL_law wsL_dies := goodIn_ca (goodIn_r _ [573, 109, 574, 575, 576, 2, 577, 114, 115, 16, 17, 75, 116, 118, 119, 120, 15, 121, 31, 122, 309, 310, 311, 312, 313, 314, 22, 23, 24, 315, 25, 316, 317, 27, 28, 318, 319, 320, 33, 321, 83, 84, 85, 191, 217, 38, 39, 218, 219, 322, 578, 433, 434, 435, 436, 437, 324, 325, 326, 29, 327, 193, 194, 195, 328, 329, 330, 301, 302, 303, 304, 127, 305, 306, 307, 308, 438, 439, 440, 441, 400, 335, 336, 337, 338, 339, 442, 443, 444, 445, 446, 447, 448, 449, 450, 451, 452, 453, 454, 455, 456, 457, 458, 459, 460, 461, 462, 463, 464, 465, 466, 467, 468, 469, 470, 471, 472, 473, 474, 475, 476, 477, 478, 479, 480, 481, 482, 483, 484, 485, 192, 486, 487, 488, 489, 490, 491, 492, 493, 494, 188, 189, 190, 495, 496, 497, 498, 499, 500, 501, 502, 503, 132, 133, 134, 135, 625, 626, 632, 633, 634, 635, 636, 637, 638, 639, 640, 641, 642, 643, 644, 645, 646, 647, 648, 649, 650, 651, 652, 653, 654, 655] (by decide +kernel) (by decide +kernel)) (goodIn_sub (fun _ h => List.mem_append_right _ h) (by decide +kernel))
set_option maxRecDepth 20000 in
theorem gL_law_L_dies : GoodIn wsL_law (va_wsS RL 125 yL_dies wsL_dies) := goodIn_app (goodIn_of _ (by decide +kernel)) ggL_law_L_dies
set_option maxRecDepth 20000 in
theorem ggL_law_X4_dies : GoodIn wsL_law wsX4_dies := goodIn_r _ [582, 90, 50, 49, 140, 141, 142, 5, 143, 95, 96, 97, 98, 99, 100, 101, 360, 361, 362, 48, 363, 364, 160, 55, 56, 57, 365, 366, 367, 368, 58, 369, 92, 93, 94, 59, 148, 149, 150, 151, 508, 509, 510, 511, 512, 371, 372, 373, 204, 193, 194, 195, 374, 329, 330, 375, 349, 350, 351, 352, 353, 354, 355, 161, 513, 514, 515, 516, 517, 378, 379, 380, 205, 163, 164, 165, 518, 519, 520, 521, 53, 522, 523, 524, 525, 526, 527, 528, 529, 530, 531, 532, 533, 534, 535, 536, 537, 538, 539, 540, 541, 542, 201, 202, 203, 543, 544, 545, 546, 627, 628, 629, 630, 631, 656, 657, 658, 659, 660, 661, 662, 663, 664, 665, 666, 667] (by decide +kernel) (by decide +kernel)
set_option maxRecDepth 20000 in
theorem gL_law_X4_dies : GoodIn wsL_law (wsV RL 127 RX4 yX4_dies wsX4_dies) := goodIn_app (goodIn_of _ (by decide +kernel)) ggL_law_X4_dies
set_option maxRecDepth 20000 in
theorem ggL_law_X2_lasts : GoodIn wsL_law wsX2_lasts := goodIn_r _ [586, 17, 16, 587, 309, 310, 311, 15, 312, 313, 314, 22, 23, 24, 315, 25, 316, 317, 27, 28, 31, 318, 319, 320, 33, 321, 83, 84, 85, 191, 217, 38, 39, 218, 219, 322, 578, 433, 434, 435, 436, 437, 324, 325, 326, 29, 327, 193, 194, 195, 328, 329, 330, 301, 302, 303, 304, 127, 305, 306, 307, 308, 438, 439, 440, 441, 400, 335, 336, 337, 338, 339, 442, 443, 444, 445, 446, 447, 448, 449, 450, 451, 452, 453, 454, 455, 456, 457, 122, 458, 459, 460, 461, 462, 463, 464, 465, 466, 467, 468, 469, 470, 471, 472, 473, 474, 475, 476, 477, 478, 479, 480, 481, 482, 483, 484, 485, 192, 486, 487, 488, 489, 490, 491, 492, 493, 494, 188, 189, 190, 495, 496, 497, 498, 499, 500, 501, 502, 503, 132, 133, 134, 135, 625, 626, 632, 633, 634, 635, 636, 637, 638, 639, 640, 641, 642, 643, 644, 645, 646, 647, 648, 649, 650, 651, 652, 653, 654, 655] (by decide +kernel) (by decide +kernel)
set_option maxRecDepth 20000 in
theorem gL_law_X2_lasts : GoodIn wsL_law (wsV RL 128 RX2 yX2_lasts wsX2_lasts) := goodIn_app (goodIn_of _ (by decide +kernel)) ggL_law_X2_lasts
set_option maxRecDepth 20000 in
theorem ggL_law_X4_lasts : GoodIn wsL_law wsX4_lasts := goodIn_r _ [591, 90, 50, 49, 360, 361, 362, 48, 363, 364, 160, 55, 56, 57, 365, 366, 367, 368, 58, 369, 92, 93, 94, 59, 508, 509, 510, 511, 512, 371, 372, 373, 204, 193, 194, 195, 374, 329, 330, 375, 349, 350, 351, 352, 353, 354, 355, 161, 149, 150, 151, 513, 514, 515, 516, 517, 378, 379, 380, 205, 163, 164, 165, 518, 519, 520, 521, 53, 522, 523, 524, 525, 526, 527, 528, 529, 530, 531, 532, 533, 534, 535, 536, 537, 538, 539, 540, 541, 542, 201, 202, 203, 543, 544, 545, 546, 627, 628, 629, 630, 631, 656, 657, 658, 659, 660, 661, 662, 663, 664, 665, 666, 667] (by decide +kernel) (by decide +kernel)
set_option maxRecDepth 20000 in
theorem gL_law_X4_lasts : GoodIn wsL_law (wsV RL 131 RX4 yX4_lasts wsX4_lasts) := goodIn_app (goodIn_of _ (by decide +kernel)) ggL_law_X4_lasts
set_option maxRecDepth 20000 in
theorem ggL_law_L_advise : GoodIn wsL_law wsL_advise := goodIn_ca (goodIn_ca (goodIn_r _ [594, 109, 65, 595, 596, 597, 2, 598, 114, 115, 72, 73, 16, 75, 116, 17, 117, 276, 118, 119, 120, 15, 121, 31, 122, 123, 124, 125, 126, 127, 128, 129, 130, 131, 132, 133, 134, 33, 135, 39, 309, 310, 311, 312, 313, 314, 22, 23, 24, 315, 25, 316, 317, 27, 28, 318, 319, 320, 321, 83, 84, 85, 191, 217, 38, 218, 219, 322, 428, 429, 430, 431, 432, 433, 434, 435, 436, 437, 324, 325, 326, 29, 327, 193, 194, 195, 328, 329, 330, 301, 302, 303, 304, 305, 306, 307, 308, 438, 439, 440, 441, 400, 335, 336, 337, 338, 339, 442, 443, 444, 445, 446, 447, 448, 449, 450, 451, 452, 453, 454, 455, 456, 457, 458, 459, 460, 461, 462, 463, 464, 465, 466, 467, 468, 469, 470, 471, 472, 473, 474, 475, 476, 477, 478, 479, 480, 481, 482, 483, 484, 485, 192, 486, 487, 488, 489, 490, 491, 492, 493, 494, 188, 189, 190, 495, 496, 497, 498, 499, 500, 501, 502, 503, 625, 626, 632, 633, 634, 635, 636, 637, 638, 639, 640, 641, 642, 643, 644, 645, 646, 647, 648, 649, 650, 651, 652, 653, 654, 655] (by decide +kernel) (by decide +kernel)) (goodIn_sub (fun _ h => List.mem_append_right _ h) (by decide +kernel))) (goodIn_sub (fun _ h => List.mem_append_left _ (List.mem_append_right _ h)) (by decide +kernel))
set_option maxRecDepth 20000 in
theorem gL_law_L_advise : GoodIn wsL_law (va_wsS RL 132 yL_advise wsL_advise) := goodIn_app (goodIn_of _ (by decide +kernel)) ggL_law_L_advise
set_option maxRecDepth 20000 in
theorem ggL_law_X4_advise : GoodIn wsL_law wsX4_advise := goodIn_r _ [602, 90, 50, 49, 140, 141, 142, 5, 143, 95, 96, 97, 98, 99, 100, 101, 144, 145, 146, 147, 148, 149, 150, 48, 151, 59, 152, 153, 154, 155, 156, 157, 158, 159, 160, 161, 360, 361, 362, 363, 364, 55, 56, 57, 365, 366, 367, 368, 58, 369, 92, 93, 94, 162, 163, 164, 165, 508, 509, 510, 511, 512, 371, 372, 373, 204, 193, 194, 195, 374, 329, 330, 375, 349, 350, 351, 352, 353, 354, 355, 513, 514, 515, 516, 517, 378, 379, 380, 205, 518, 519, 520, 521, 53, 522, 523, 524, 525, 526, 527, 528, 529, 530, 531, 532, 533, 534, 535, 536, 537, 538, 539, 540, 541, 542, 201, 202, 203, 543, 544, 545, 546, 627, 628, 629, 630, 631, 656, 657, 658, 659, 660, 661, 662, 663, 664, 665, 666, 667] (by decide +kernel) (by decide +kernel)
set_option maxRecDepth 20000 in
theorem gL_law_X4_advise : GoodIn wsL_law (wsV RL 134 RX4 yX4_advise wsX4_advise) := goodIn_app (goodIn_of _ (by decide +kernel)) ggL_law_X4_advise
set_option maxRecDepth 20000 in
theorem ggL_law_X2_mean : GoodIn wsL_law wsX2_mean := goodIn_r _ [606, 16, 75, 607, 608, 393, 394, 15, 395, 31, 122, 625, 626, 632, 633, 634, 635, 636, 637, 638, 639, 640, 641, 642, 643, 644, 645, 646, 647, 648, 649, 650, 651, 652, 653, 654, 655] (by decide +kernel) (by decide +kernel)
set_option maxRecDepth 20000 in
theorem gL_law_X2_mean : GoodIn wsL_law (wsV RL 135 RX2 yX2_mean wsX2_mean) := goodIn_app (goodIn_of _ (by decide +kernel)) ggL_law_X2_mean
set_option maxRecDepth 20000 in
theorem ggL_law_X4_mean : GoodIn wsL_law wsX4_mean := goodIn_r _ [612, 90, 49, 413, 414, 415, 48, 416, 160, 161, 149, 150, 151, 59, 417, 418, 419, 420, 627, 628, 629, 630, 631, 656, 657, 658, 659, 660, 661, 662, 663, 664, 665, 666, 667] (by decide +kernel) (by decide +kernel)
set_option maxRecDepth 20000 in
theorem gL_law_X4_mean : GoodIn wsL_law (wsV RL 139 RX4 yX4_mean wsX4_mean) := goodIn_app (goodIn_of _ (by decide +kernel)) ggL_law_X4_mean
set_option maxRecDepth 20000 in
theorem ggL_law_X2_digest : GoodIn wsL_law wsX2_digest := goodIn_r _ [616, 617, 618, 16, 251, 239, 75, 116, 388, 389, 390, 15, 391, 313, 314, 22, 23, 24, 315, 316, 317, 392, 393, 394, 395, 31, 122, 396, 397, 398, 399, 400, 401, 402, 403, 404, 405, 288, 289, 290, 2, 291, 17, 292, 293, 294, 295, 28, 296, 129, 130, 131, 127, 132, 133, 134, 33, 135, 39, 297, 298, 299, 300, 29, 301, 302, 303, 304, 305, 306, 307, 308, 38, 309, 310, 311, 312, 25, 27, 318, 319, 320, 321, 83, 84, 85, 191, 217, 218, 219, 322, 323, 324, 325, 326, 327, 193, 194, 195, 328, 329, 330, 331, 332, 333, 334, 335, 336, 337, 338, 339, 213, 214, 215, 216, 625, 626, 632, 633, 634, 635, 636, 637, 638, 639, 640, 641, 642, 643, 644, 645, 646, 647, 648, 649, 650, 651, 652, 653, 654, 655] (by decide +kernel) (by decide +kernel)
set_option maxRecDepth 20000 in
theorem gL_law_X2_digest : GoodIn wsL_law (wsV RL 140 RX2 yX2_digest wsX2_digest) := goodIn_app (goodIn_of _ (by decide +kernel)) ggL_law_X2_digest
set_option maxRecDepth 20000 in
theorem ggL_law_X4_digest : GoodIn wsL_law wsX4_digest := goodIn_r _ [622, 90, 623, 624, 49, 44, 45, 410, 411, 5, 412, 413, 414, 415, 48, 416, 160, 161, 149, 150, 151, 59, 417, 418, 419, 420, 344, 345, 346, 347, 156, 157, 158, 159, 348, 349, 350, 351, 352, 353, 354, 355, 356, 357, 358, 359, 50, 360, 361, 362, 363, 364, 55, 56, 57, 365, 366, 367, 368, 58, 369, 92, 93, 94, 370, 371, 372, 373, 204, 193, 194, 195, 374, 329, 330, 375, 376, 148, 377, 378, 379, 380, 627, 628, 629, 630, 631, 656, 657, 658, 659, 660, 661, 662, 663, 664, 665, 666, 667] (by decide +kernel) (by decide +kernel)
set_option maxRecDepth 20000 in
theorem gL_law_X4_digest : GoodIn wsL_law (wsV RL 144 RX4 yX4_digest wsX4_digest) := goodIn_app (goodIn_of _ (by decide +kernel)) ggL_law_X4_digest
theorem dL_law_0 : decode cL_law 0 = .ok (.new 8, 3) := by decide +kernel
theorem dL_law_3 : decode cL_law 3 = .ok (.dup, 1) := by decide +kernel
theorem dL_law_4 : decode cL_law 4 = .ok (.invokespecial 66, 3) := by decide +kernel
theorem dL_law_7 : decode cL_law 7 = .ok (.astore_n 1, 1) := by decide +kernel
theorem dL_law_8 : decode cL_law 8 = .ok (.new 67, 3) := by decide +kernel
theorem dL_law_11 : decode cL_law 11 = .ok (.dup, 1) := by decide +kernel
theorem dL_law_12 : decode cL_law 12 = .ok (.invokespecial 69, 3) := by decide +kernel
theorem dL_law_15 : decode cL_law 15 = .ok (.astore_n 2, 1) := by decide +kernel
theorem dL_law_16 : decode cL_law 16 = .ok (.iconst 1, 1) := by decide +kernel
theorem dL_law_17 : decode cL_law 17 = .ok (.newarray .long, 2) := by decide +kernel
theorem dL_law_19 : decode cL_law 19 = .ok (.astore_n 3, 1) := by decide +kernel
theorem dL_law_20 : decode cL_law 20 = .ok (.iconst 0, 1) := by decide +kernel
theorem dL_law_21 : decode cL_law 21 = .ok (.istore 4, 2) := by decide +kernel
theorem dL_law_23 : decode cL_law 23 = .ok (.iload 4, 2) := by decide +kernel
theorem dL_law_25 : decode cL_law 25 = .ok (.aload_n 0, 1) := by decide +kernel
theorem dL_law_26 : decode cL_law 26 = .ok (.arraylength, 1) := by decide +kernel
theorem dL_law_27 : decode cL_law 27 = .ok (.iconst 4, 1) := by decide +kernel
theorem dL_law_28 : decode cL_law 28 = .ok (.isub, 1) := by decide +kernel
theorem dL_law_29 : decode cL_law 29 = .ok (.if_icmp .gt 1194, 3) := by decide +kernel
theorem dL_law_32 : decode cL_law 32 = .ok (.aload_n 0, 1) := by decide +kernel
theorem dL_law_33 : decode cL_law 33 = .ok (.iload 4, 2) := by decide +kernel
theorem dL_law_35 : decode cL_law 35 = .ok (.iaload, 1) := by decide +kernel
theorem dL_law_36 : decode cL_law 36 = .ok (.bipush 31, 2) := by decide +kernel
theorem dL_law_38 : decode cL_law 38 = .ok (.iand, 1) := by decide +kernel
theorem dL_law_39 : decode cL_law 39 = .ok (.tableswitch 1178 0 19 #[93, 161, 229, 309, 365, 433, 446, 514, 570, 638, 694, 762, 818, 874, 942, 998, 1054, 1067, 1123, 1164], 93) := by decide +kernel
theorem dL_law_132 : decode cL_law 132 = .ok (.aload_n 1, 1) := by decide +kernel
theorem dL_law_133 : decode cL_law 133 = .ok (.aload_n 0, 1) := by decide +kernel
theorem dL_law_134 : decode cL_law 134 = .ok (.iload 4, 2) := by decide +kernel
theorem dL_law_136 : decode cL_law 136 = .ok (.iconst 1, 1) := by decide +kernel
theorem dL_law_137 : decode cL_law 137 = .ok (.iadd, 1) := by decide +kernel
theorem dL_law_138 : decode cL_law 138 = .ok (.iaload, 1) := by decide +kernel
theorem dL_law_139 : decode cL_law 139 = .ok (.aload_n 0, 1) := by decide +kernel
theorem dL_law_140 : decode cL_law 140 = .ok (.iload 4, 2) := by decide +kernel
theorem dL_law_142 : decode cL_law 142 = .ok (.iconst 2, 1) := by decide +kernel
theorem dL_law_143 : decode cL_law 143 = .ok (.iadd, 1) := by decide +kernel
theorem dL_law_144 : decode cL_law 144 = .ok (.iaload, 1) := by decide +kernel
theorem dL_law_145 : decode cL_law 145 = .ok (.aload_n 3, 1) := by decide +kernel
theorem dL_law_146 : decode cL_law 146 = .ok (.invokestatic 70, 3) := by decide +kernel
theorem dL_law_149 : decode cL_law 149 = .ok (.istore 5, 2) := by decide +kernel
theorem dL_law_151 : decode cL_law 151 = .ok (.aload_n 2, 1) := by decide +kernel
theorem dL_law_152 : decode cL_law 152 = .ok (.aload_n 0, 1) := by decide +kernel
theorem dL_law_153 : decode cL_law 153 = .ok (.iload 4, 2) := by decide +kernel
theorem dL_law_155 : decode cL_law 155 = .ok (.iconst 1, 1) := by decide +kernel
theorem dL_law_156 : decode cL_law 156 = .ok (.iadd, 1) := by decide +kernel
theorem dL_law_157 : decode cL_law 157 = .ok (.iaload, 1) := by decide +kernel
theorem dL_law_158 : decode cL_law 158 = .ok (.aload_n 0, 1) := by decide +kernel
theorem dL_law_159 : decode cL_law 159 = .ok (.iload 4, 2) := by decide +kernel
theorem dL_law_161 : decode cL_law 161 = .ok (.iconst 2, 1) := by decide +kernel
theorem dL_law_162 : decode cL_law 162 = .ok (.iadd, 1) := by decide +kernel
theorem dL_law_163 : decode cL_law 163 = .ok (.iaload, 1) := by decide +kernel
theorem dL_law_164 : decode cL_law 164 = .ok (.invokevirtual 75, 3) := by decide +kernel
theorem dL_law_167 : decode cL_law 167 = .ok (.istore 6, 2) := by decide +kernel
theorem dL_law_169 : decode cL_law 169 = .ok (.aload_n 2, 1) := by decide +kernel
theorem dL_law_170 : decode cL_law 170 = .ok (.invokevirtual 76, 3) := by decide +kernel
theorem dL_law_173 : decode cL_law 173 = .ok (.iload 5, 2) := by decide +kernel
theorem dL_law_175 : decode cL_law 175 = .ok (.if_icmp .eq 5, 3) := by decide +kernel
theorem dL_law_178 : decode cL_law 178 = .ok (.iconst 0, 1) := by decide +kernel
theorem dL_law_179 : decode cL_law 179 = .ok (.ireturn, 1) := by decide +kernel
theorem dL_law_180 : decode cL_law 180 = .ok (.iload 5, 2) := by decide +kernel
theorem dL_law_182 : decode cL_law 182 = .ok (.ifCond .ne 15, 3) := by decide +kernel
theorem dL_law_185 : decode cL_law 185 = .ok (.aload_n 3, 1) := by decide +kernel
theorem dL_law_186 : decode cL_law 186 = .ok (.iconst 0, 1) := by decide +kernel
theorem dL_law_187 : decode cL_law 187 = .ok (.laload, 1) := by decide +kernel
theorem dL_law_188 : decode cL_law 188 = .ok (.iload 6, 2) := by decide +kernel
theorem dL_law_190 : decode cL_law 190 = .ok (.i2l, 1) := by decide +kernel
theorem dL_law_191 : decode cL_law 191 = .ok (.lcmp, 1) := by decide +kernel
theorem dL_law_192 : decode cL_law 192 = .ok (.ifCond .eq 5, 3) := by decide +kernel
theorem dL_law_195 : decode cL_law 195 = .ok (.iconst 0, 1) := by decide +kernel
theorem dL_law_196 : decode cL_law 196 = .ok (.ireturn, 1) := by decide +kernel
theorem dL_law_197 : decode cL_law 197 = .ok (.goto 1020, 3) := by decide +kernel
theorem dL_law_200 : decode cL_law 200 = .ok (.aload_n 1, 1) := by decide +kernel
theorem dL_law_201 : decode cL_law 201 = .ok (.aload_n 0, 1) := by decide +kernel
theorem dL_law_202 : decode cL_law 202 = .ok (.iload 4, 2) := by decide +kernel
theorem dL_law_204 : decode cL_law 204 = .ok (.iconst 1, 1) := by decide +kernel
theorem dL_law_205 : decode cL_law 205 = .ok (.iadd, 1) := by decide +kernel
theorem dL_law_206 : decode cL_law 206 = .ok (.iaload, 1) := by decide +kernel
theorem dL_law_207 : decode cL_law 207 = .ok (.aload_n 0, 1) := by decide +kernel
theorem dL_law_208 : decode cL_law 208 = .ok (.iload 4, 2) := by decide +kernel
theorem dL_law_210 : decode cL_law 210 = .ok (.iconst 2, 1) := by decide +kernel
theorem dL_law_211 : decode cL_law 211 = .ok (.iadd, 1) := by decide +kernel
theorem dL_law_212 : decode cL_law 212 = .ok (.iaload, 1) := by decide +kernel
theorem dL_law_213 : decode cL_law 213 = .ok (.aload_n 3, 1) := by decide +kernel
theorem dL_law_214 : decode cL_law 214 = .ok (.invokestatic 80, 3) := by decide +kernel
theorem dL_law_217 : decode cL_law 217 = .ok (.istore 5, 2) := by decide +kernel
theorem dL_law_219 : decode cL_law 219 = .ok (.aload_n 2, 1) := by decide +kernel
theorem dL_law_220 : decode cL_law 220 = .ok (.aload_n 0, 1) := by decide +kernel
theorem dL_law_221 : decode cL_law 221 = .ok (.iload 4, 2) := by decide +kernel
theorem dL_law_223 : decode cL_law 223 = .ok (.iconst 1, 1) := by decide +kernel
theorem dL_law_224 : decode cL_law 224 = .ok (.iadd, 1) := by decide +kernel
theorem dL_law_225 : decode cL_law 225 = .ok (.iaload, 1) := by decide +kernel
theorem dL_law_226 : decode cL_law 226 = .ok (.aload_n 0, 1) := by decide +kernel
theorem dL_law_227 : decode cL_law 227 = .ok (.iload 4, 2) := by decide +kernel
theorem dL_law_229 : decode cL_law 229 = .ok (.iconst 2, 1) := by decide +kernel
theorem dL_law_230 : decode cL_law 230 = .ok (.iadd, 1) := by decide +kernel
theorem dL_law_231 : decode cL_law 231 = .ok (.iaload, 1) := by decide +kernel
theorem dL_law_232 : decode cL_law 232 = .ok (.invokevirtual 82, 3) := by decide +kernel
theorem dL_law_235 : decode cL_law 235 = .ok (.istore 6, 2) := by decide +kernel
theorem dL_law_237 : decode cL_law 237 = .ok (.aload_n 2, 1) := by decide +kernel
theorem dL_law_238 : decode cL_law 238 = .ok (.invokevirtual 76, 3) := by decide +kernel
theorem dL_law_241 : decode cL_law 241 = .ok (.iload 5, 2) := by decide +kernel
theorem dL_law_243 : decode cL_law 243 = .ok (.if_icmp .eq 5, 3) := by decide +kernel
theorem dL_law_246 : decode cL_law 246 = .ok (.iconst 0, 1) := by decide +kernel
theorem dL_law_247 : decode cL_law 247 = .ok (.ireturn, 1) := by decide +kernel
theorem dL_law_248 : decode cL_law 248 = .ok (.iload 5, 2) := by decide +kernel
theorem dL_law_250 : decode cL_law 250 = .ok (.ifCond .ne 15, 3) := by decide +kernel
theorem dL_law_253 : decode cL_law 253 = .ok (.aload_n 3, 1) := by decide +kernel
theorem dL_law_254 : decode cL_law 254 = .ok (.iconst 0, 1) := by decide +kernel
theorem dL_law_255 : decode cL_law 255 = .ok (.laload, 1) := by decide +kernel
theorem dL_law_256 : decode cL_law 256 = .ok (.iload 6, 2) := by decide +kernel
theorem dL_law_258 : decode cL_law 258 = .ok (.i2l, 1) := by decide +kernel
theorem dL_law_259 : decode cL_law 259 = .ok (.lcmp, 1) := by decide +kernel
theorem dL_law_260 : decode cL_law 260 = .ok (.ifCond .eq 5, 3) := by decide +kernel
theorem dL_law_263 : decode cL_law 263 = .ok (.iconst 0, 1) := by decide +kernel
theorem dL_law_264 : decode cL_law 264 = .ok (.ireturn, 1) := by decide +kernel
theorem dL_law_265 : decode cL_law 265 = .ok (.goto 952, 3) := by decide +kernel
theorem dL_law_268 : decode cL_law 268 = .ok (.aload_n 1, 1) := by decide +kernel
theorem dL_law_269 : decode cL_law 269 = .ok (.aload_n 0, 1) := by decide +kernel
theorem dL_law_270 : decode cL_law 270 = .ok (.iload 4, 2) := by decide +kernel
theorem dL_law_272 : decode cL_law 272 = .ok (.iconst 1, 1) := by decide +kernel
theorem dL_law_273 : decode cL_law 273 = .ok (.iadd, 1) := by decide +kernel
theorem dL_law_274 : decode cL_law 274 = .ok (.iaload, 1) := by decide +kernel
theorem dL_law_275 : decode cL_law 275 = .ok (.aload_n 0, 1) := by decide +kernel
theorem dL_law_276 : decode cL_law 276 = .ok (.iload 4, 2) := by decide +kernel
theorem dL_law_278 : decode cL_law 278 = .ok (.iconst 2, 1) := by decide +kernel
theorem dL_law_279 : decode cL_law 279 = .ok (.iadd, 1) := by decide +kernel
theorem dL_law_280 : decode cL_law 280 = .ok (.iaload, 1) := by decide +kernel
theorem dL_law_281 : decode cL_law 281 = .ok (.aload_n 0, 1) := by decide +kernel
theorem dL_law_282 : decode cL_law 282 = .ok (.iload 4, 2) := by decide +kernel
theorem dL_law_284 : decode cL_law 284 = .ok (.iconst 3, 1) := by decide +kernel
theorem dL_law_285 : decode cL_law 285 = .ok (.iadd, 1) := by decide +kernel
theorem dL_law_286 : decode cL_law 286 = .ok (.iaload, 1) := by decide +kernel
theorem dL_law_287 : decode cL_law 287 = .ok (.aload_n 3, 1) := by decide +kernel
theorem dL_law_288 : decode cL_law 288 = .ok (.invokestatic 83, 3) := by decide +kernel
theorem dL_law_291 : decode cL_law 291 = .ok (.istore 5, 2) := by decide +kernel
theorem dL_law_293 : decode cL_law 293 = .ok (.aload_n 2, 1) := by decide +kernel
theorem dL_law_294 : decode cL_law 294 = .ok (.aload_n 0, 1) := by decide +kernel
theorem dL_law_295 : decode cL_law 295 = .ok (.iload 4, 2) := by decide +kernel
theorem dL_law_297 : decode cL_law 297 = .ok (.iconst 1, 1) := by decide +kernel
theorem dL_law_298 : decode cL_law 298 = .ok (.iadd, 1) := by decide +kernel
theorem dL_law_299 : decode cL_law 299 = .ok (.iaload, 1) := by decide +kernel
theorem dL_law_300 : decode cL_law 300 = .ok (.aload_n 0, 1) := by decide +kernel
theorem dL_law_301 : decode cL_law 301 = .ok (.iload 4, 2) := by decide +kernel
theorem dL_law_303 : decode cL_law 303 = .ok (.iconst 2, 1) := by decide +kernel
theorem dL_law_304 : decode cL_law 304 = .ok (.iadd, 1) := by decide +kernel
theorem dL_law_305 : decode cL_law 305 = .ok (.iaload, 1) := by decide +kernel
theorem dL_law_306 : decode cL_law 306 = .ok (.aload_n 0, 1) := by decide +kernel
theorem dL_law_307 : decode cL_law 307 = .ok (.iload 4, 2) := by decide +kernel
theorem dL_law_309 : decode cL_law 309 = .ok (.iconst 3, 1) := by decide +kernel
theorem dL_law_310 : decode cL_law 310 = .ok (.iadd, 1) := by decide +kernel
theorem dL_law_311 : decode cL_law 311 = .ok (.iaload, 1) := by decide +kernel
theorem dL_law_312 : decode cL_law 312 = .ok (.invokevirtual 86, 3) := by decide +kernel
theorem dL_law_315 : decode cL_law 315 = .ok (.istore 6, 2) := by decide +kernel
theorem dL_law_317 : decode cL_law 317 = .ok (.aload_n 2, 1) := by decide +kernel
theorem dL_law_318 : decode cL_law 318 = .ok (.invokevirtual 76, 3) := by decide +kernel
theorem dL_law_321 : decode cL_law 321 = .ok (.iload 5, 2) := by decide +kernel
theorem dL_law_323 : decode cL_law 323 = .ok (.if_icmp .eq 5, 3) := by decide +kernel
theorem dL_law_326 : decode cL_law 326 = .ok (.iconst 0, 1) := by decide +kernel
theorem dL_law_327 : decode cL_law 327 = .ok (.ireturn, 1) := by decide +kernel
theorem dL_law_328 : decode cL_law 328 = .ok (.iload 5, 2) := by decide +kernel
theorem dL_law_330 : decode cL_law 330 = .ok (.ifCond .ne 15, 3) := by decide +kernel
theorem dL_law_333 : decode cL_law 333 = .ok (.aload_n 3, 1) := by decide +kernel
theorem dL_law_334 : decode cL_law 334 = .ok (.iconst 0, 1) := by decide +kernel
theorem dL_law_335 : decode cL_law 335 = .ok (.laload, 1) := by decide +kernel
theorem dL_law_336 : decode cL_law 336 = .ok (.iload 6, 2) := by decide +kernel
theorem dL_law_338 : decode cL_law 338 = .ok (.i2l, 1) := by decide +kernel
theorem dL_law_339 : decode cL_law 339 = .ok (.lcmp, 1) := by decide +kernel
theorem dL_law_340 : decode cL_law 340 = .ok (.ifCond .eq 5, 3) := by decide +kernel
theorem dL_law_343 : decode cL_law 343 = .ok (.iconst 0, 1) := by decide +kernel
theorem dL_law_344 : decode cL_law 344 = .ok (.ireturn, 1) := by decide +kernel
theorem dL_law_345 : decode cL_law 345 = .ok (.goto 872, 3) := by decide +kernel
theorem dL_law_348 : decode cL_law 348 = .ok (.aload_n 1, 1) := by decide +kernel
theorem dL_law_349 : decode cL_law 349 = .ok (.aload_n 0, 1) := by decide +kernel
theorem dL_law_350 : decode cL_law 350 = .ok (.iload 4, 2) := by decide +kernel
theorem dL_law_352 : decode cL_law 352 = .ok (.iconst 1, 1) := by decide +kernel
theorem dL_law_353 : decode cL_law 353 = .ok (.iadd, 1) := by decide +kernel
theorem dL_law_354 : decode cL_law 354 = .ok (.iaload, 1) := by decide +kernel
theorem dL_law_355 : decode cL_law 355 = .ok (.aload_n 3, 1) := by decide +kernel
theorem dL_law_356 : decode cL_law 356 = .ok (.invokestatic 87, 3) := by decide +kernel
theorem dL_law_359 : decode cL_law 359 = .ok (.istore 5, 2) := by decide +kernel
theorem dL_law_361 : decode cL_law 361 = .ok (.aload_n 2, 1) := by decide +kernel
theorem dL_law_362 : decode cL_law 362 = .ok (.aload_n 0, 1) := by decide +kernel
theorem dL_law_363 : decode cL_law 363 = .ok (.iload 4, 2) := by decide +kernel
theorem dL_law_365 : decode cL_law 365 = .ok (.iconst 1, 1) := by decide +kernel
theorem dL_law_366 : decode cL_law 366 = .ok (.iadd, 1) := by decide +kernel
theorem dL_law_367 : decode cL_law 367 = .ok (.iaload, 1) := by decide +kernel
theorem dL_law_368 : decode cL_law 368 = .ok (.invokevirtual 90, 3) := by decide +kernel
theorem dL_law_371 : decode cL_law 371 = .ok (.istore 6, 2) := by decide +kernel
theorem dL_law_373 : decode cL_law 373 = .ok (.aload_n 2, 1) := by decide +kernel
theorem dL_law_374 : decode cL_law 374 = .ok (.invokevirtual 76, 3) := by decide +kernel
theorem dL_law_377 : decode cL_law 377 = .ok (.iload 5, 2) := by decide +kernel
theorem dL_law_379 : decode cL_law 379 = .ok (.if_icmp .eq 5, 3) := by decide +kernel
theorem dL_law_382 : decode cL_law 382 = .ok (.iconst 0, 1) := by decide +kernel
theorem dL_law_383 : decode cL_law 383 = .ok (.ireturn, 1) := by decide +kernel
theorem dL_law_384 : decode cL_law 384 = .ok (.iload 5, 2) := by decide +kernel
theorem dL_law_386 : decode cL_law 386 = .ok (.ifCond .ne 15, 3) := by decide +kernel
theorem dL_law_389 : decode cL_law 389 = .ok (.aload_n 3, 1) := by decide +kernel
theorem dL_law_390 : decode cL_law 390 = .ok (.iconst 0, 1) := by decide +kernel
theorem dL_law_391 : decode cL_law 391 = .ok (.laload, 1) := by decide +kernel
theorem dL_law_392 : decode cL_law 392 = .ok (.iload 6, 2) := by decide +kernel
theorem dL_law_394 : decode cL_law 394 = .ok (.i2l, 1) := by decide +kernel
theorem dL_law_395 : decode cL_law 395 = .ok (.lcmp, 1) := by decide +kernel
theorem dL_law_396 : decode cL_law 396 = .ok (.ifCond .eq 5, 3) := by decide +kernel
theorem dL_law_399 : decode cL_law 399 = .ok (.iconst 0, 1) := by decide +kernel
theorem dL_law_400 : decode cL_law 400 = .ok (.ireturn, 1) := by decide +kernel
theorem dL_law_401 : decode cL_law 401 = .ok (.goto 816, 3) := by decide +kernel
theorem dL_law_404 : decode cL_law 404 = .ok (.aload_n 1, 1) := by decide +kernel
theorem dL_law_405 : decode cL_law 405 = .ok (.aload_n 0, 1) := by decide +kernel
theorem dL_law_406 : decode cL_law 406 = .ok (.iload 4, 2) := by decide +kernel
theorem dL_law_408 : decode cL_law 408 = .ok (.iconst 1, 1) := by decide +kernel
theorem dL_law_409 : decode cL_law 409 = .ok (.iadd, 1) := by decide +kernel
theorem dL_law_410 : decode cL_law 410 = .ok (.iaload, 1) := by decide +kernel
theorem dL_law_411 : decode cL_law 411 = .ok (.aload_n 0, 1) := by decide +kernel
theorem dL_law_412 : decode cL_law 412 = .ok (.iload 4, 2) := by decide +kernel
theorem dL_law_414 : decode cL_law 414 = .ok (.iconst 2, 1) := by decide +kernel
theorem dL_law_415 : decode cL_law 415 = .ok (.iadd, 1) := by decide +kernel
theorem dL_law_416 : decode cL_law 416 = .ok (.iaload, 1) := by decide +kernel
theorem dL_law_417 : decode cL_law 417 = .ok (.aload_n 3, 1) := by decide +kernel
theorem dL_law_418 : decode cL_law 418 = .ok (.invokestatic 91, 3) := by decide +kernel
theorem dL_law_421 : decode cL_law 421 = .ok (.istore 5, 2) := by decide +kernel
theorem dL_law_423 : decode cL_law 423 = .ok (.aload_n 2, 1) := by decide +kernel
theorem dL_law_424 : decode cL_law 424 = .ok (.aload_n 0, 1) := by decide +kernel
theorem dL_law_425 : decode cL_law 425 = .ok (.iload 4, 2) := by decide +kernel
theorem dL_law_427 : decode cL_law 427 = .ok (.iconst 1, 1) := by decide +kernel
theorem dL_law_428 : decode cL_law 428 = .ok (.iadd, 1) := by decide +kernel
theorem dL_law_429 : decode cL_law 429 = .ok (.iaload, 1) := by decide +kernel
theorem dL_law_430 : decode cL_law 430 = .ok (.aload_n 0, 1) := by decide +kernel
theorem dL_law_431 : decode cL_law 431 = .ok (.iload 4, 2) := by decide +kernel
theorem dL_law_433 : decode cL_law 433 = .ok (.iconst 2, 1) := by decide +kernel
theorem dL_law_434 : decode cL_law 434 = .ok (.iadd, 1) := by decide +kernel
theorem dL_law_435 : decode cL_law 435 = .ok (.iaload, 1) := by decide +kernel
theorem dL_law_436 : decode cL_law 436 = .ok (.invokevirtual 93, 3) := by decide +kernel
theorem dL_law_439 : decode cL_law 439 = .ok (.istore 6, 2) := by decide +kernel
theorem dL_law_441 : decode cL_law 441 = .ok (.aload_n 2, 1) := by decide +kernel
theorem dL_law_442 : decode cL_law 442 = .ok (.invokevirtual 76, 3) := by decide +kernel
theorem dL_law_445 : decode cL_law 445 = .ok (.iload 5, 2) := by decide +kernel
theorem dL_law_447 : decode cL_law 447 = .ok (.if_icmp .eq 5, 3) := by decide +kernel
theorem dL_law_450 : decode cL_law 450 = .ok (.iconst 0, 1) := by decide +kernel
theorem dL_law_451 : decode cL_law 451 = .ok (.ireturn, 1) := by decide +kernel
theorem dL_law_452 : decode cL_law 452 = .ok (.iload 5, 2) := by decide +kernel
theorem dL_law_454 : decode cL_law 454 = .ok (.ifCond .ne 15, 3) := by decide +kernel
theorem dL_law_457 : decode cL_law 457 = .ok (.aload_n 3, 1) := by decide +kernel
theorem dL_law_458 : decode cL_law 458 = .ok (.iconst 0, 1) := by decide +kernel
theorem dL_law_459 : decode cL_law 459 = .ok (.laload, 1) := by decide +kernel
theorem dL_law_460 : decode cL_law 460 = .ok (.iload 6, 2) := by decide +kernel
theorem dL_law_462 : decode cL_law 462 = .ok (.i2l, 1) := by decide +kernel
theorem dL_law_463 : decode cL_law 463 = .ok (.lcmp, 1) := by decide +kernel
theorem dL_law_464 : decode cL_law 464 = .ok (.ifCond .eq 5, 3) := by decide +kernel
theorem dL_law_467 : decode cL_law 467 = .ok (.iconst 0, 1) := by decide +kernel
theorem dL_law_468 : decode cL_law 468 = .ok (.ireturn, 1) := by decide +kernel
theorem dL_law_469 : decode cL_law 469 = .ok (.goto 748, 3) := by decide +kernel
theorem dL_law_472 : decode cL_law 472 = .ok (.aload_n 1, 1) := by decide +kernel
theorem dL_law_473 : decode cL_law 473 = .ok (.invokevirtual 94, 3) := by decide +kernel
theorem dL_law_476 : decode cL_law 476 = .ok (.aload_n 2, 1) := by decide +kernel
theorem dL_law_477 : decode cL_law 477 = .ok (.invokevirtual 97, 3) := by decide +kernel
theorem dL_law_480 : decode cL_law 480 = .ok (.if_icmp .eq 737, 3) := by decide +kernel
theorem dL_law_483 : decode cL_law 483 = .ok (.iconst 0, 1) := by decide +kernel
theorem dL_law_484 : decode cL_law 484 = .ok (.ireturn, 1) := by decide +kernel
theorem dL_law_485 : decode cL_law 485 = .ok (.aload_n 1, 1) := by decide +kernel
theorem dL_law_486 : decode cL_law 486 = .ok (.aload_n 0, 1) := by decide +kernel
theorem dL_law_487 : decode cL_law 487 = .ok (.iload 4, 2) := by decide +kernel
theorem dL_law_489 : decode cL_law 489 = .ok (.iconst 1, 1) := by decide +kernel
theorem dL_law_490 : decode cL_law 490 = .ok (.iadd, 1) := by decide +kernel
theorem dL_law_491 : decode cL_law 491 = .ok (.iaload, 1) := by decide +kernel
theorem dL_law_492 : decode cL_law 492 = .ok (.aload_n 0, 1) := by decide +kernel
theorem dL_law_493 : decode cL_law 493 = .ok (.iload 4, 2) := by decide +kernel
theorem dL_law_495 : decode cL_law 495 = .ok (.iconst 2, 1) := by decide +kernel
theorem dL_law_496 : decode cL_law 496 = .ok (.iadd, 1) := by decide +kernel
theorem dL_law_497 : decode cL_law 497 = .ok (.iaload, 1) := by decide +kernel
theorem dL_law_498 : decode cL_law 498 = .ok (.aload_n 3, 1) := by decide +kernel
theorem dL_law_499 : decode cL_law 499 = .ok (.invokestatic 98, 3) := by decide +kernel
theorem dL_law_502 : decode cL_law 502 = .ok (.istore 5, 2) := by decide +kernel
theorem dL_law_504 : decode cL_law 504 = .ok (.aload_n 2, 1) := by decide +kernel
theorem dL_law_505 : decode cL_law 505 = .ok (.aload_n 0, 1) := by decide +kernel
theorem dL_law_506 : decode cL_law 506 = .ok (.iload 4, 2) := by decide +kernel
theorem dL_law_508 : decode cL_law 508 = .ok (.iconst 1, 1) := by decide +kernel
theorem dL_law_509 : decode cL_law 509 = .ok (.iadd, 1) := by decide +kernel
theorem dL_law_510 : decode cL_law 510 = .ok (.iaload, 1) := by decide +kernel
theorem dL_law_511 : decode cL_law 511 = .ok (.aload_n 0, 1) := by decide +kernel
theorem dL_law_512 : decode cL_law 512 = .ok (.iload 4, 2) := by decide +kernel
theorem dL_law_514 : decode cL_law 514 = .ok (.iconst 2, 1) := by decide +kernel
theorem dL_law_515 : decode cL_law 515 = .ok (.iadd, 1) := by decide +kernel
theorem dL_law_516 : decode cL_law 516 = .ok (.iaload, 1) := by decide +kernel
theorem dL_law_517 : decode cL_law 517 = .ok (.invokevirtual 100, 3) := by decide +kernel
theorem dL_law_520 : decode cL_law 520 = .ok (.istore 6, 2) := by decide +kernel
theorem dL_law_522 : decode cL_law 522 = .ok (.aload_n 2, 1) := by decide +kernel
theorem dL_law_523 : decode cL_law 523 = .ok (.invokevirtual 76, 3) := by decide +kernel
theorem dL_law_526 : decode cL_law 526 = .ok (.iload 5, 2) := by decide +kernel
theorem dL_law_528 : decode cL_law 528 = .ok (.if_icmp .eq 5, 3) := by decide +kernel
theorem dL_law_531 : decode cL_law 531 = .ok (.iconst 0, 1) := by decide +kernel
theorem dL_law_532 : decode cL_law 532 = .ok (.ireturn, 1) := by decide +kernel
theorem dL_law_533 : decode cL_law 533 = .ok (.iload 5, 2) := by decide +kernel
theorem dL_law_535 : decode cL_law 535 = .ok (.ifCond .ne 15, 3) := by decide +kernel
theorem dL_law_538 : decode cL_law 538 = .ok (.aload_n 3, 1) := by decide +kernel
theorem dL_law_539 : decode cL_law 539 = .ok (.iconst 0, 1) := by decide +kernel
theorem dL_law_540 : decode cL_law 540 = .ok (.laload, 1) := by decide +kernel
theorem dL_law_541 : decode cL_law 541 = .ok (.iload 6, 2) := by decide +kernel
theorem dL_law_543 : decode cL_law 543 = .ok (.i2l, 1) := by decide +kernel
theorem dL_law_544 : decode cL_law 544 = .ok (.lcmp, 1) := by decide +kernel
theorem dL_law_545 : decode cL_law 545 = .ok (.ifCond .eq 5, 3) := by decide +kernel
theorem dL_law_548 : decode cL_law 548 = .ok (.iconst 0, 1) := by decide +kernel
theorem dL_law_549 : decode cL_law 549 = .ok (.ireturn, 1) := by decide +kernel
theorem dL_law_550 : decode cL_law 550 = .ok (.goto 667, 3) := by decide +kernel
theorem dL_law_553 : decode cL_law 553 = .ok (.aload_n 1, 1) := by decide +kernel
theorem dL_law_554 : decode cL_law 554 = .ok (.aload_n 0, 1) := by decide +kernel
theorem dL_law_555 : decode cL_law 555 = .ok (.iload 4, 2) := by decide +kernel
theorem dL_law_557 : decode cL_law 557 = .ok (.iconst 1, 1) := by decide +kernel
theorem dL_law_558 : decode cL_law 558 = .ok (.iadd, 1) := by decide +kernel
theorem dL_law_559 : decode cL_law 559 = .ok (.iaload, 1) := by decide +kernel
theorem dL_law_560 : decode cL_law 560 = .ok (.aload_n 3, 1) := by decide +kernel
theorem dL_law_561 : decode cL_law 561 = .ok (.invokestatic 101, 3) := by decide +kernel
theorem dL_law_564 : decode cL_law 564 = .ok (.istore 5, 2) := by decide +kernel
theorem dL_law_566 : decode cL_law 566 = .ok (.aload_n 2, 1) := by decide +kernel
theorem dL_law_567 : decode cL_law 567 = .ok (.aload_n 0, 1) := by decide +kernel
theorem dL_law_568 : decode cL_law 568 = .ok (.iload 4, 2) := by decide +kernel
theorem dL_law_570 : decode cL_law 570 = .ok (.iconst 1, 1) := by decide +kernel
theorem dL_law_571 : decode cL_law 571 = .ok (.iadd, 1) := by decide +kernel
theorem dL_law_572 : decode cL_law 572 = .ok (.iaload, 1) := by decide +kernel
theorem dL_law_573 : decode cL_law 573 = .ok (.invokevirtual 103, 3) := by decide +kernel
theorem dL_law_576 : decode cL_law 576 = .ok (.istore 6, 2) := by decide +kernel
theorem dL_law_578 : decode cL_law 578 = .ok (.aload_n 2, 1) := by decide +kernel
theorem dL_law_579 : decode cL_law 579 = .ok (.invokevirtual 76, 3) := by decide +kernel
theorem dL_law_582 : decode cL_law 582 = .ok (.iload 5, 2) := by decide +kernel
theorem dL_law_584 : decode cL_law 584 = .ok (.if_icmp .eq 5, 3) := by decide +kernel
theorem dL_law_587 : decode cL_law 587 = .ok (.iconst 0, 1) := by decide +kernel
theorem dL_law_588 : decode cL_law 588 = .ok (.ireturn, 1) := by decide +kernel
theorem dL_law_589 : decode cL_law 589 = .ok (.iload 5, 2) := by decide +kernel
theorem dL_law_591 : decode cL_law 591 = .ok (.ifCond .ne 15, 3) := by decide +kernel
theorem dL_law_594 : decode cL_law 594 = .ok (.aload_n 3, 1) := by decide +kernel
theorem dL_law_595 : decode cL_law 595 = .ok (.iconst 0, 1) := by decide +kernel
theorem dL_law_596 : decode cL_law 596 = .ok (.laload, 1) := by decide +kernel
theorem dL_law_597 : decode cL_law 597 = .ok (.iload 6, 2) := by decide +kernel
theorem dL_law_599 : decode cL_law 599 = .ok (.i2l, 1) := by decide +kernel
theorem dL_law_600 : decode cL_law 600 = .ok (.lcmp, 1) := by decide +kernel
theorem dL_law_601 : decode cL_law 601 = .ok (.ifCond .eq 5, 3) := by decide +kernel
theorem dL_law_604 : decode cL_law 604 = .ok (.iconst 0, 1) := by decide +kernel
theorem dL_law_605 : decode cL_law 605 = .ok (.ireturn, 1) := by decide +kernel
theorem dL_law_606 : decode cL_law 606 = .ok (.goto 611, 3) := by decide +kernel
theorem dL_law_609 : decode cL_law 609 = .ok (.aload_n 1, 1) := by decide +kernel
theorem dL_law_610 : decode cL_law 610 = .ok (.aload_n 0, 1) := by decide +kernel
theorem dL_law_611 : decode cL_law 611 = .ok (.iload 4, 2) := by decide +kernel
theorem dL_law_613 : decode cL_law 613 = .ok (.iconst 1, 1) := by decide +kernel
theorem dL_law_614 : decode cL_law 614 = .ok (.iadd, 1) := by decide +kernel
theorem dL_law_615 : decode cL_law 615 = .ok (.iaload, 1) := by decide +kernel
theorem dL_law_616 : decode cL_law 616 = .ok (.aload_n 0, 1) := by decide +kernel
theorem dL_law_617 : decode cL_law 617 = .ok (.iload 4, 2) := by decide +kernel
theorem dL_law_619 : decode cL_law 619 = .ok (.iconst 2, 1) := by decide +kernel
theorem dL_law_620 : decode cL_law 620 = .ok (.iadd, 1) := by decide +kernel
theorem dL_law_621 : decode cL_law 621 = .ok (.iaload, 1) := by decide +kernel
theorem dL_law_622 : decode cL_law 622 = .ok (.aload_n 3, 1) := by decide +kernel
theorem dL_law_623 : decode cL_law 623 = .ok (.invokestatic 104, 3) := by decide +kernel
theorem dL_law_626 : decode cL_law 626 = .ok (.istore 5, 2) := by decide +kernel
theorem dL_law_628 : decode cL_law 628 = .ok (.aload_n 2, 1) := by decide +kernel
theorem dL_law_629 : decode cL_law 629 = .ok (.aload_n 0, 1) := by decide +kernel
theorem dL_law_630 : decode cL_law 630 = .ok (.iload 4, 2) := by decide +kernel
theorem dL_law_632 : decode cL_law 632 = .ok (.iconst 1, 1) := by decide +kernel
theorem dL_law_633 : decode cL_law 633 = .ok (.iadd, 1) := by decide +kernel
theorem dL_law_634 : decode cL_law 634 = .ok (.iaload, 1) := by decide +kernel
theorem dL_law_635 : decode cL_law 635 = .ok (.aload_n 0, 1) := by decide +kernel
theorem dL_law_636 : decode cL_law 636 = .ok (.iload 4, 2) := by decide +kernel
theorem dL_law_638 : decode cL_law 638 = .ok (.iconst 2, 1) := by decide +kernel
theorem dL_law_639 : decode cL_law 639 = .ok (.iadd, 1) := by decide +kernel
theorem dL_law_640 : decode cL_law 640 = .ok (.iaload, 1) := by decide +kernel
theorem dL_law_641 : decode cL_law 641 = .ok (.invokevirtual 106, 3) := by decide +kernel
theorem dL_law_644 : decode cL_law 644 = .ok (.istore 6, 2) := by decide +kernel
theorem dL_law_646 : decode cL_law 646 = .ok (.aload_n 2, 1) := by decide +kernel
theorem dL_law_647 : decode cL_law 647 = .ok (.invokevirtual 76, 3) := by decide +kernel
theorem dL_law_650 : decode cL_law 650 = .ok (.iload 5, 2) := by decide +kernel
theorem dL_law_652 : decode cL_law 652 = .ok (.if_icmp .eq 5, 3) := by decide +kernel
theorem dL_law_655 : decode cL_law 655 = .ok (.iconst 0, 1) := by decide +kernel
theorem dL_law_656 : decode cL_law 656 = .ok (.ireturn, 1) := by decide +kernel
theorem dL_law_657 : decode cL_law 657 = .ok (.iload 5, 2) := by decide +kernel
theorem dL_law_659 : decode cL_law 659 = .ok (.ifCond .ne 15, 3) := by decide +kernel
theorem dL_law_662 : decode cL_law 662 = .ok (.aload_n 3, 1) := by decide +kernel
theorem dL_law_663 : decode cL_law 663 = .ok (.iconst 0, 1) := by decide +kernel
theorem dL_law_664 : decode cL_law 664 = .ok (.laload, 1) := by decide +kernel
theorem dL_law_665 : decode cL_law 665 = .ok (.iload 6, 2) := by decide +kernel
theorem dL_law_667 : decode cL_law 667 = .ok (.i2l, 1) := by decide +kernel
theorem dL_law_668 : decode cL_law 668 = .ok (.lcmp, 1) := by decide +kernel
theorem dL_law_669 : decode cL_law 669 = .ok (.ifCond .eq 5, 3) := by decide +kernel
theorem dL_law_672 : decode cL_law 672 = .ok (.iconst 0, 1) := by decide +kernel
theorem dL_law_673 : decode cL_law 673 = .ok (.ireturn, 1) := by decide +kernel
theorem dL_law_674 : decode cL_law 674 = .ok (.goto 543, 3) := by decide +kernel
theorem dL_law_677 : decode cL_law 677 = .ok (.aload_n 1, 1) := by decide +kernel
theorem dL_law_678 : decode cL_law 678 = .ok (.aload_n 0, 1) := by decide +kernel
theorem dL_law_679 : decode cL_law 679 = .ok (.iload 4, 2) := by decide +kernel
theorem dL_law_681 : decode cL_law 681 = .ok (.iconst 1, 1) := by decide +kernel
theorem dL_law_682 : decode cL_law 682 = .ok (.iadd, 1) := by decide +kernel
theorem dL_law_683 : decode cL_law 683 = .ok (.iaload, 1) := by decide +kernel
theorem dL_law_684 : decode cL_law 684 = .ok (.aload_n 3, 1) := by decide +kernel
theorem dL_law_685 : decode cL_law 685 = .ok (.invokestatic 107, 3) := by decide +kernel
theorem dL_law_688 : decode cL_law 688 = .ok (.istore 5, 2) := by decide +kernel
theorem dL_law_690 : decode cL_law 690 = .ok (.aload_n 2, 1) := by decide +kernel
theorem dL_law_691 : decode cL_law 691 = .ok (.aload_n 0, 1) := by decide +kernel
theorem dL_law_692 : decode cL_law 692 = .ok (.iload 4, 2) := by decide +kernel
theorem dL_law_694 : decode cL_law 694 = .ok (.iconst 1, 1) := by decide +kernel
theorem dL_law_695 : decode cL_law 695 = .ok (.iadd, 1) := by decide +kernel
theorem dL_law_696 : decode cL_law 696 = .ok (.iaload, 1) := by decide +kernel
theorem dL_law_697 : decode cL_law 697 = .ok (.invokevirtual 109, 3) := by decide +kernel
theorem dL_law_700 : decode cL_law 700 = .ok (.istore 6, 2) := by decide +kernel
theorem dL_law_702 : decode cL_law 702 = .ok (.aload_n 2, 1) := by decide +kernel
theorem dL_law_703 : decode cL_law 703 = .ok (.invokevirtual 76, 3) := by decide +kernel
theorem dL_law_706 : decode cL_law 706 = .ok (.iload 5, 2) := by decide +kernel
theorem dL_law_708 : decode cL_law 708 = .ok (.if_icmp .eq 5, 3) := by decide +kernel
theorem dL_law_711 : decode cL_law 711 = .ok (.iconst 0, 1) := by decide +kernel
theorem dL_law_712 : decode cL_law 712 = .ok (.ireturn, 1) := by decide +kernel
theorem dL_law_713 : decode cL_law 713 = .ok (.iload 5, 2) := by decide +kernel
theorem dL_law_715 : decode cL_law 715 = .ok (.ifCond .ne 15, 3) := by decide +kernel
theorem dL_law_718 : decode cL_law 718 = .ok (.aload_n 3, 1) := by decide +kernel
theorem dL_law_719 : decode cL_law 719 = .ok (.iconst 0, 1) := by decide +kernel
theorem dL_law_720 : decode cL_law 720 = .ok (.laload, 1) := by decide +kernel
theorem dL_law_721 : decode cL_law 721 = .ok (.iload 6, 2) := by decide +kernel
theorem dL_law_723 : decode cL_law 723 = .ok (.i2l, 1) := by decide +kernel
theorem dL_law_724 : decode cL_law 724 = .ok (.lcmp, 1) := by decide +kernel
theorem dL_law_725 : decode cL_law 725 = .ok (.ifCond .eq 5, 3) := by decide +kernel
theorem dL_law_728 : decode cL_law 728 = .ok (.iconst 0, 1) := by decide +kernel
theorem dL_law_729 : decode cL_law 729 = .ok (.ireturn, 1) := by decide +kernel
theorem dL_law_730 : decode cL_law 730 = .ok (.goto 487, 3) := by decide +kernel
theorem dL_law_733 : decode cL_law 733 = .ok (.aload_n 1, 1) := by decide +kernel
theorem dL_law_734 : decode cL_law 734 = .ok (.aload_n 0, 1) := by decide +kernel
theorem dL_law_735 : decode cL_law 735 = .ok (.iload 4, 2) := by decide +kernel
theorem dL_law_737 : decode cL_law 737 = .ok (.iconst 1, 1) := by decide +kernel
theorem dL_law_738 : decode cL_law 738 = .ok (.iadd, 1) := by decide +kernel
theorem dL_law_739 : decode cL_law 739 = .ok (.iaload, 1) := by decide +kernel
theorem dL_law_740 : decode cL_law 740 = .ok (.aload_n 0, 1) := by decide +kernel
theorem dL_law_741 : decode cL_law 741 = .ok (.iload 4, 2) := by decide +kernel
theorem dL_law_743 : decode cL_law 743 = .ok (.iconst 2, 1) := by decide +kernel
theorem dL_law_744 : decode cL_law 744 = .ok (.iadd, 1) := by decide +kernel
theorem dL_law_745 : decode cL_law 745 = .ok (.iaload, 1) := by decide +kernel
theorem dL_law_746 : decode cL_law 746 = .ok (.aload_n 3, 1) := by decide +kernel
theorem dL_law_747 : decode cL_law 747 = .ok (.invokestatic 110, 3) := by decide +kernel
theorem dL_law_750 : decode cL_law 750 = .ok (.istore 5, 2) := by decide +kernel
theorem dL_law_752 : decode cL_law 752 = .ok (.aload_n 2, 1) := by decide +kernel
theorem dL_law_753 : decode cL_law 753 = .ok (.aload_n 0, 1) := by decide +kernel
theorem dL_law_754 : decode cL_law 754 = .ok (.iload 4, 2) := by decide +kernel
theorem dL_law_756 : decode cL_law 756 = .ok (.iconst 1, 1) := by decide +kernel
theorem dL_law_757 : decode cL_law 757 = .ok (.iadd, 1) := by decide +kernel
theorem dL_law_758 : decode cL_law 758 = .ok (.iaload, 1) := by decide +kernel
theorem dL_law_759 : decode cL_law 759 = .ok (.aload_n 0, 1) := by decide +kernel
theorem dL_law_760 : decode cL_law 760 = .ok (.iload 4, 2) := by decide +kernel
theorem dL_law_762 : decode cL_law 762 = .ok (.iconst 2, 1) := by decide +kernel
theorem dL_law_763 : decode cL_law 763 = .ok (.iadd, 1) := by decide +kernel
theorem dL_law_764 : decode cL_law 764 = .ok (.iaload, 1) := by decide +kernel
theorem dL_law_765 : decode cL_law 765 = .ok (.invokevirtual 112, 3) := by decide +kernel
theorem dL_law_768 : decode cL_law 768 = .ok (.istore 6, 2) := by decide +kernel
theorem dL_law_770 : decode cL_law 770 = .ok (.aload_n 2, 1) := by decide +kernel
theorem dL_law_771 : decode cL_law 771 = .ok (.invokevirtual 76, 3) := by decide +kernel
theorem dL_law_774 : decode cL_law 774 = .ok (.iload 5, 2) := by decide +kernel
theorem dL_law_776 : decode cL_law 776 = .ok (.if_icmp .eq 5, 3) := by decide +kernel
theorem dL_law_779 : decode cL_law 779 = .ok (.iconst 0, 1) := by decide +kernel
theorem dL_law_780 : decode cL_law 780 = .ok (.ireturn, 1) := by decide +kernel
theorem dL_law_781 : decode cL_law 781 = .ok (.iload 5, 2) := by decide +kernel
theorem dL_law_783 : decode cL_law 783 = .ok (.ifCond .ne 15, 3) := by decide +kernel
theorem dL_law_786 : decode cL_law 786 = .ok (.aload_n 3, 1) := by decide +kernel
theorem dL_law_787 : decode cL_law 787 = .ok (.iconst 0, 1) := by decide +kernel
theorem dL_law_788 : decode cL_law 788 = .ok (.laload, 1) := by decide +kernel
theorem dL_law_789 : decode cL_law 789 = .ok (.iload 6, 2) := by decide +kernel
theorem dL_law_791 : decode cL_law 791 = .ok (.i2l, 1) := by decide +kernel
theorem dL_law_792 : decode cL_law 792 = .ok (.lcmp, 1) := by decide +kernel
theorem dL_law_793 : decode cL_law 793 = .ok (.ifCond .eq 5, 3) := by decide +kernel
theorem dL_law_796 : decode cL_law 796 = .ok (.iconst 0, 1) := by decide +kernel
theorem dL_law_797 : decode cL_law 797 = .ok (.ireturn, 1) := by decide +kernel
theorem dL_law_798 : decode cL_law 798 = .ok (.goto 419, 3) := by decide +kernel
theorem dL_law_801 : decode cL_law 801 = .ok (.aload_n 1, 1) := by decide +kernel
theorem dL_law_802 : decode cL_law 802 = .ok (.aload_n 0, 1) := by decide +kernel
theorem dL_law_803 : decode cL_law 803 = .ok (.iload 4, 2) := by decide +kernel
theorem dL_law_805 : decode cL_law 805 = .ok (.iconst 1, 1) := by decide +kernel
theorem dL_law_806 : decode cL_law 806 = .ok (.iadd, 1) := by decide +kernel
theorem dL_law_807 : decode cL_law 807 = .ok (.iaload, 1) := by decide +kernel
theorem dL_law_808 : decode cL_law 808 = .ok (.aload_n 3, 1) := by decide +kernel
theorem dL_law_809 : decode cL_law 809 = .ok (.invokestatic 113, 3) := by decide +kernel
theorem dL_law_812 : decode cL_law 812 = .ok (.istore 5, 2) := by decide +kernel
theorem dL_law_814 : decode cL_law 814 = .ok (.aload_n 2, 1) := by decide +kernel
theorem dL_law_815 : decode cL_law 815 = .ok (.aload_n 0, 1) := by decide +kernel
theorem dL_law_816 : decode cL_law 816 = .ok (.iload 4, 2) := by decide +kernel
theorem dL_law_818 : decode cL_law 818 = .ok (.iconst 1, 1) := by decide +kernel
theorem dL_law_819 : decode cL_law 819 = .ok (.iadd, 1) := by decide +kernel
theorem dL_law_820 : decode cL_law 820 = .ok (.iaload, 1) := by decide +kernel
theorem dL_law_821 : decode cL_law 821 = .ok (.invokevirtual 115, 3) := by decide +kernel
theorem dL_law_824 : decode cL_law 824 = .ok (.istore 6, 2) := by decide +kernel
theorem dL_law_826 : decode cL_law 826 = .ok (.aload_n 2, 1) := by decide +kernel
theorem dL_law_827 : decode cL_law 827 = .ok (.invokevirtual 76, 3) := by decide +kernel
theorem dL_law_830 : decode cL_law 830 = .ok (.iload 5, 2) := by decide +kernel
theorem dL_law_832 : decode cL_law 832 = .ok (.if_icmp .eq 5, 3) := by decide +kernel
theorem dL_law_835 : decode cL_law 835 = .ok (.iconst 0, 1) := by decide +kernel
theorem dL_law_836 : decode cL_law 836 = .ok (.ireturn, 1) := by decide +kernel
theorem dL_law_837 : decode cL_law 837 = .ok (.iload 5, 2) := by decide +kernel
theorem dL_law_839 : decode cL_law 839 = .ok (.ifCond .ne 15, 3) := by decide +kernel
theorem dL_law_842 : decode cL_law 842 = .ok (.aload_n 3, 1) := by decide +kernel
theorem dL_law_843 : decode cL_law 843 = .ok (.iconst 0, 1) := by decide +kernel
theorem dL_law_844 : decode cL_law 844 = .ok (.laload, 1) := by decide +kernel
theorem dL_law_845 : decode cL_law 845 = .ok (.iload 6, 2) := by decide +kernel
theorem dL_law_847 : decode cL_law 847 = .ok (.i2l, 1) := by decide +kernel
theorem dL_law_848 : decode cL_law 848 = .ok (.lcmp, 1) := by decide +kernel
theorem dL_law_849 : decode cL_law 849 = .ok (.ifCond .eq 5, 3) := by decide +kernel
theorem dL_law_852 : decode cL_law 852 = .ok (.iconst 0, 1) := by decide +kernel
theorem dL_law_853 : decode cL_law 853 = .ok (.ireturn, 1) := by decide +kernel
theorem dL_law_854 : decode cL_law 854 = .ok (.goto 363, 3) := by decide +kernel
theorem dL_law_857 : decode cL_law 857 = .ok (.aload_n 1, 1) := by decide +kernel
theorem dL_law_858 : decode cL_law 858 = .ok (.aload_n 0, 1) := by decide +kernel
theorem dL_law_859 : decode cL_law 859 = .ok (.iload 4, 2) := by decide +kernel
theorem dL_law_861 : decode cL_law 861 = .ok (.iconst 1, 1) := by decide +kernel
theorem dL_law_862 : decode cL_law 862 = .ok (.iadd, 1) := by decide +kernel
theorem dL_law_863 : decode cL_law 863 = .ok (.iaload, 1) := by decide +kernel
theorem dL_law_864 : decode cL_law 864 = .ok (.aload_n 3, 1) := by decide +kernel
theorem dL_law_865 : decode cL_law 865 = .ok (.invokestatic 116, 3) := by decide +kernel
theorem dL_law_868 : decode cL_law 868 = .ok (.istore 5, 2) := by decide +kernel
theorem dL_law_870 : decode cL_law 870 = .ok (.aload_n 2, 1) := by decide +kernel
theorem dL_law_871 : decode cL_law 871 = .ok (.aload_n 0, 1) := by decide +kernel
theorem dL_law_872 : decode cL_law 872 = .ok (.iload 4, 2) := by decide +kernel
theorem dL_law_874 : decode cL_law 874 = .ok (.iconst 1, 1) := by decide +kernel
theorem dL_law_875 : decode cL_law 875 = .ok (.iadd, 1) := by decide +kernel
theorem dL_law_876 : decode cL_law 876 = .ok (.iaload, 1) := by decide +kernel
theorem dL_law_877 : decode cL_law 877 = .ok (.invokevirtual 118, 3) := by decide +kernel
theorem dL_law_880 : decode cL_law 880 = .ok (.istore 6, 2) := by decide +kernel
theorem dL_law_882 : decode cL_law 882 = .ok (.aload_n 2, 1) := by decide +kernel
theorem dL_law_883 : decode cL_law 883 = .ok (.invokevirtual 76, 3) := by decide +kernel
theorem dL_law_886 : decode cL_law 886 = .ok (.iload 5, 2) := by decide +kernel
theorem dL_law_888 : decode cL_law 888 = .ok (.if_icmp .eq 5, 3) := by decide +kernel
theorem dL_law_891 : decode cL_law 891 = .ok (.iconst 0, 1) := by decide +kernel
theorem dL_law_892 : decode cL_law 892 = .ok (.ireturn, 1) := by decide +kernel
theorem dL_law_893 : decode cL_law 893 = .ok (.iload 5, 2) := by decide +kernel
theorem dL_law_895 : decode cL_law 895 = .ok (.ifCond .ne 15, 3) := by decide +kernel
theorem dL_law_898 : decode cL_law 898 = .ok (.aload_n 3, 1) := by decide +kernel
theorem dL_law_899 : decode cL_law 899 = .ok (.iconst 0, 1) := by decide +kernel
theorem dL_law_900 : decode cL_law 900 = .ok (.laload, 1) := by decide +kernel
theorem dL_law_901 : decode cL_law 901 = .ok (.iload 6, 2) := by decide +kernel
theorem dL_law_903 : decode cL_law 903 = .ok (.i2l, 1) := by decide +kernel
theorem dL_law_904 : decode cL_law 904 = .ok (.lcmp, 1) := by decide +kernel
theorem dL_law_905 : decode cL_law 905 = .ok (.ifCond .eq 5, 3) := by decide +kernel
theorem dL_law_908 : decode cL_law 908 = .ok (.iconst 0, 1) := by decide +kernel
theorem dL_law_909 : decode cL_law 909 = .ok (.ireturn, 1) := by decide +kernel
theorem dL_law_910 : decode cL_law 910 = .ok (.goto 307, 3) := by decide +kernel
theorem dL_law_913 : decode cL_law 913 = .ok (.aload_n 1, 1) := by decide +kernel
theorem dL_law_914 : decode cL_law 914 = .ok (.aload_n 0, 1) := by decide +kernel
theorem dL_law_915 : decode cL_law 915 = .ok (.iload 4, 2) := by decide +kernel
theorem dL_law_917 : decode cL_law 917 = .ok (.iconst 1, 1) := by decide +kernel
theorem dL_law_918 : decode cL_law 918 = .ok (.iadd, 1) := by decide +kernel
theorem dL_law_919 : decode cL_law 919 = .ok (.iaload, 1) := by decide +kernel
theorem dL_law_920 : decode cL_law 920 = .ok (.aload_n 0, 1) := by decide +kernel
theorem dL_law_921 : decode cL_law 921 = .ok (.iload 4, 2) := by decide +kernel
theorem dL_law_923 : decode cL_law 923 = .ok (.iconst 2, 1) := by decide +kernel
theorem dL_law_924 : decode cL_law 924 = .ok (.iadd, 1) := by decide +kernel
theorem dL_law_925 : decode cL_law 925 = .ok (.iaload, 1) := by decide +kernel
theorem dL_law_926 : decode cL_law 926 = .ok (.aload_n 3, 1) := by decide +kernel
theorem dL_law_927 : decode cL_law 927 = .ok (.invokestatic 119, 3) := by decide +kernel
theorem dL_law_930 : decode cL_law 930 = .ok (.istore 5, 2) := by decide +kernel
theorem dL_law_932 : decode cL_law 932 = .ok (.aload_n 2, 1) := by decide +kernel
theorem dL_law_933 : decode cL_law 933 = .ok (.aload_n 0, 1) := by decide +kernel
theorem dL_law_934 : decode cL_law 934 = .ok (.iload 4, 2) := by decide +kernel
theorem dL_law_936 : decode cL_law 936 = .ok (.iconst 1, 1) := by decide +kernel
theorem dL_law_937 : decode cL_law 937 = .ok (.iadd, 1) := by decide +kernel
theorem dL_law_938 : decode cL_law 938 = .ok (.iaload, 1) := by decide +kernel
theorem dL_law_939 : decode cL_law 939 = .ok (.aload_n 0, 1) := by decide +kernel
theorem dL_law_940 : decode cL_law 940 = .ok (.iload 4, 2) := by decide +kernel
theorem dL_law_942 : decode cL_law 942 = .ok (.iconst 2, 1) := by decide +kernel
theorem dL_law_943 : decode cL_law 943 = .ok (.iadd, 1) := by decide +kernel
theorem dL_law_944 : decode cL_law 944 = .ok (.iaload, 1) := by decide +kernel
theorem dL_law_945 : decode cL_law 945 = .ok (.invokevirtual 121, 3) := by decide +kernel
theorem dL_law_948 : decode cL_law 948 = .ok (.istore 6, 2) := by decide +kernel
theorem dL_law_950 : decode cL_law 950 = .ok (.aload_n 2, 1) := by decide +kernel
theorem dL_law_951 : decode cL_law 951 = .ok (.invokevirtual 76, 3) := by decide +kernel
theorem dL_law_954 : decode cL_law 954 = .ok (.iload 5, 2) := by decide +kernel
theorem dL_law_956 : decode cL_law 956 = .ok (.if_icmp .eq 5, 3) := by decide +kernel
theorem dL_law_959 : decode cL_law 959 = .ok (.iconst 0, 1) := by decide +kernel
theorem dL_law_960 : decode cL_law 960 = .ok (.ireturn, 1) := by decide +kernel
theorem dL_law_961 : decode cL_law 961 = .ok (.iload 5, 2) := by decide +kernel
theorem dL_law_963 : decode cL_law 963 = .ok (.ifCond .ne 15, 3) := by decide +kernel
theorem dL_law_966 : decode cL_law 966 = .ok (.aload_n 3, 1) := by decide +kernel
theorem dL_law_967 : decode cL_law 967 = .ok (.iconst 0, 1) := by decide +kernel
theorem dL_law_968 : decode cL_law 968 = .ok (.laload, 1) := by decide +kernel
theorem dL_law_969 : decode cL_law 969 = .ok (.iload 6, 2) := by decide +kernel
theorem dL_law_971 : decode cL_law 971 = .ok (.i2l, 1) := by decide +kernel
theorem dL_law_972 : decode cL_law 972 = .ok (.lcmp, 1) := by decide +kernel
theorem dL_law_973 : decode cL_law 973 = .ok (.ifCond .eq 5, 3) := by decide +kernel
theorem dL_law_976 : decode cL_law 976 = .ok (.iconst 0, 1) := by decide +kernel
theorem dL_law_977 : decode cL_law 977 = .ok (.ireturn, 1) := by decide +kernel
theorem dL_law_978 : decode cL_law 978 = .ok (.goto 239, 3) := by decide +kernel
theorem dL_law_981 : decode cL_law 981 = .ok (.aload_n 1, 1) := by decide +kernel
theorem dL_law_982 : decode cL_law 982 = .ok (.aload_n 0, 1) := by decide +kernel
theorem dL_law_983 : decode cL_law 983 = .ok (.iload 4, 2) := by decide +kernel
theorem dL_law_985 : decode cL_law 985 = .ok (.iconst 1, 1) := by decide +kernel
theorem dL_law_986 : decode cL_law 986 = .ok (.iadd, 1) := by decide +kernel
theorem dL_law_987 : decode cL_law 987 = .ok (.iaload, 1) := by decide +kernel
theorem dL_law_988 : decode cL_law 988 = .ok (.aload_n 3, 1) := by decide +kernel
theorem dL_law_989 : decode cL_law 989 = .ok (.invokestatic 122, 3) := by decide +kernel
theorem dL_law_992 : decode cL_law 992 = .ok (.istore 5, 2) := by decide +kernel
theorem dL_law_994 : decode cL_law 994 = .ok (.aload_n 2, 1) := by decide +kernel
theorem dL_law_995 : decode cL_law 995 = .ok (.aload_n 0, 1) := by decide +kernel
theorem dL_law_996 : decode cL_law 996 = .ok (.iload 4, 2) := by decide +kernel
theorem dL_law_998 : decode cL_law 998 = .ok (.iconst 1, 1) := by decide +kernel
theorem dL_law_999 : decode cL_law 999 = .ok (.iadd, 1) := by decide +kernel
theorem dL_law_1000 : decode cL_law 1000 = .ok (.iaload, 1) := by decide +kernel
theorem dL_law_1001 : decode cL_law 1001 = .ok (.invokevirtual 124, 3) := by decide +kernel
theorem dL_law_1004 : decode cL_law 1004 = .ok (.istore 6, 2) := by decide +kernel
theorem dL_law_1006 : decode cL_law 1006 = .ok (.aload_n 2, 1) := by decide +kernel
theorem dL_law_1007 : decode cL_law 1007 = .ok (.invokevirtual 76, 3) := by decide +kernel
theorem dL_law_1010 : decode cL_law 1010 = .ok (.iload 5, 2) := by decide +kernel
theorem dL_law_1012 : decode cL_law 1012 = .ok (.if_icmp .eq 5, 3) := by decide +kernel
theorem dL_law_1015 : decode cL_law 1015 = .ok (.iconst 0, 1) := by decide +kernel
theorem dL_law_1016 : decode cL_law 1016 = .ok (.ireturn, 1) := by decide +kernel
theorem dL_law_1017 : decode cL_law 1017 = .ok (.iload 5, 2) := by decide +kernel
theorem dL_law_1019 : decode cL_law 1019 = .ok (.ifCond .ne 15, 3) := by decide +kernel
theorem dL_law_1022 : decode cL_law 1022 = .ok (.aload_n 3, 1) := by decide +kernel
theorem dL_law_1023 : decode cL_law 1023 = .ok (.iconst 0, 1) := by decide +kernel
theorem dL_law_1024 : decode cL_law 1024 = .ok (.laload, 1) := by decide +kernel
theorem dL_law_1025 : decode cL_law 1025 = .ok (.iload 6, 2) := by decide +kernel
theorem dL_law_1027 : decode cL_law 1027 = .ok (.i2l, 1) := by decide +kernel
theorem dL_law_1028 : decode cL_law 1028 = .ok (.lcmp, 1) := by decide +kernel
theorem dL_law_1029 : decode cL_law 1029 = .ok (.ifCond .eq 5, 3) := by decide +kernel
theorem dL_law_1032 : decode cL_law 1032 = .ok (.iconst 0, 1) := by decide +kernel
theorem dL_law_1033 : decode cL_law 1033 = .ok (.ireturn, 1) := by decide +kernel
theorem dL_law_1034 : decode cL_law 1034 = .ok (.goto 183, 3) := by decide +kernel
theorem dL_law_1037 : decode cL_law 1037 = .ok (.aload_n 1, 1) := by decide +kernel
theorem dL_law_1038 : decode cL_law 1038 = .ok (.aload_n 0, 1) := by decide +kernel
theorem dL_law_1039 : decode cL_law 1039 = .ok (.iload 4, 2) := by decide +kernel
theorem dL_law_1041 : decode cL_law 1041 = .ok (.iconst 1, 1) := by decide +kernel
theorem dL_law_1042 : decode cL_law 1042 = .ok (.iadd, 1) := by decide +kernel
theorem dL_law_1043 : decode cL_law 1043 = .ok (.iaload, 1) := by decide +kernel
theorem dL_law_1044 : decode cL_law 1044 = .ok (.aload_n 3, 1) := by decide +kernel
theorem dL_law_1045 : decode cL_law 1045 = .ok (.invokestatic 125, 3) := by decide +kernel
theorem dL_law_1048 : decode cL_law 1048 = .ok (.istore 5, 2) := by decide +kernel
theorem dL_law_1050 : decode cL_law 1050 = .ok (.aload_n 2, 1) := by decide +kernel
theorem dL_law_1051 : decode cL_law 1051 = .ok (.aload_n 0, 1) := by decide +kernel
theorem dL_law_1052 : decode cL_law 1052 = .ok (.iload 4, 2) := by decide +kernel
theorem dL_law_1054 : decode cL_law 1054 = .ok (.iconst 1, 1) := by decide +kernel
theorem dL_law_1055 : decode cL_law 1055 = .ok (.iadd, 1) := by decide +kernel
theorem dL_law_1056 : decode cL_law 1056 = .ok (.iaload, 1) := by decide +kernel
theorem dL_law_1057 : decode cL_law 1057 = .ok (.invokevirtual 127, 3) := by decide +kernel
theorem dL_law_1060 : decode cL_law 1060 = .ok (.istore 6, 2) := by decide +kernel
theorem dL_law_1062 : decode cL_law 1062 = .ok (.aload_n 2, 1) := by decide +kernel
theorem dL_law_1063 : decode cL_law 1063 = .ok (.invokevirtual 76, 3) := by decide +kernel
theorem dL_law_1066 : decode cL_law 1066 = .ok (.iload 5, 2) := by decide +kernel
theorem dL_law_1068 : decode cL_law 1068 = .ok (.if_icmp .eq 5, 3) := by decide +kernel
theorem dL_law_1071 : decode cL_law 1071 = .ok (.iconst 0, 1) := by decide +kernel
theorem dL_law_1072 : decode cL_law 1072 = .ok (.ireturn, 1) := by decide +kernel
theorem dL_law_1073 : decode cL_law 1073 = .ok (.iload 5, 2) := by decide +kernel
theorem dL_law_1075 : decode cL_law 1075 = .ok (.ifCond .ne 15, 3) := by decide +kernel
theorem dL_law_1078 : decode cL_law 1078 = .ok (.aload_n 3, 1) := by decide +kernel
theorem dL_law_1079 : decode cL_law 1079 = .ok (.iconst 0, 1) := by decide +kernel
theorem dL_law_1080 : decode cL_law 1080 = .ok (.laload, 1) := by decide +kernel
theorem dL_law_1081 : decode cL_law 1081 = .ok (.iload 6, 2) := by decide +kernel
theorem dL_law_1083 : decode cL_law 1083 = .ok (.i2l, 1) := by decide +kernel
theorem dL_law_1084 : decode cL_law 1084 = .ok (.lcmp, 1) := by decide +kernel
theorem dL_law_1085 : decode cL_law 1085 = .ok (.ifCond .eq 5, 3) := by decide +kernel
theorem dL_law_1088 : decode cL_law 1088 = .ok (.iconst 0, 1) := by decide +kernel
theorem dL_law_1089 : decode cL_law 1089 = .ok (.ireturn, 1) := by decide +kernel
theorem dL_law_1090 : decode cL_law 1090 = .ok (.goto 127, 3) := by decide +kernel
theorem dL_law_1093 : decode cL_law 1093 = .ok (.aload_n 1, 1) := by decide +kernel
theorem dL_law_1094 : decode cL_law 1094 = .ok (.invokevirtual 128, 3) := by decide +kernel
theorem dL_law_1097 : decode cL_law 1097 = .ok (.aload_n 2, 1) := by decide +kernel
theorem dL_law_1098 : decode cL_law 1098 = .ok (.invokevirtual 131, 3) := by decide +kernel
theorem dL_law_1101 : decode cL_law 1101 = .ok (.if_icmp .eq 116, 3) := by decide +kernel
theorem dL_law_1104 : decode cL_law 1104 = .ok (.iconst 0, 1) := by decide +kernel
theorem dL_law_1105 : decode cL_law 1105 = .ok (.ireturn, 1) := by decide +kernel
theorem dL_law_1106 : decode cL_law 1106 = .ok (.aload_n 1, 1) := by decide +kernel
theorem dL_law_1107 : decode cL_law 1107 = .ok (.aload_n 0, 1) := by decide +kernel
theorem dL_law_1108 : decode cL_law 1108 = .ok (.iload 4, 2) := by decide +kernel
theorem dL_law_1110 : decode cL_law 1110 = .ok (.iconst 1, 1) := by decide +kernel
theorem dL_law_1111 : decode cL_law 1111 = .ok (.iadd, 1) := by decide +kernel
theorem dL_law_1112 : decode cL_law 1112 = .ok (.iaload, 1) := by decide +kernel
theorem dL_law_1113 : decode cL_law 1113 = .ok (.aload_n 3, 1) := by decide +kernel
theorem dL_law_1114 : decode cL_law 1114 = .ok (.invokestatic 132, 3) := by decide +kernel
theorem dL_law_1117 : decode cL_law 1117 = .ok (.istore 5, 2) := by decide +kernel
theorem dL_law_1119 : decode cL_law 1119 = .ok (.aload_n 2, 1) := by decide +kernel
theorem dL_law_1120 : decode cL_law 1120 = .ok (.aload_n 0, 1) := by decide +kernel
theorem dL_law_1121 : decode cL_law 1121 = .ok (.iload 4, 2) := by decide +kernel
theorem dL_law_1123 : decode cL_law 1123 = .ok (.iconst 1, 1) := by decide +kernel
theorem dL_law_1124 : decode cL_law 1124 = .ok (.iadd, 1) := by decide +kernel
theorem dL_law_1125 : decode cL_law 1125 = .ok (.iaload, 1) := by decide +kernel
theorem dL_law_1126 : decode cL_law 1126 = .ok (.invokevirtual 134, 3) := by decide +kernel
theorem dL_law_1129 : decode cL_law 1129 = .ok (.istore 6, 2) := by decide +kernel
theorem dL_law_1131 : decode cL_law 1131 = .ok (.aload_n 2, 1) := by decide +kernel
theorem dL_law_1132 : decode cL_law 1132 = .ok (.invokevirtual 76, 3) := by decide +kernel
theorem dL_law_1135 : decode cL_law 1135 = .ok (.iload 5, 2) := by decide +kernel
theorem dL_law_1137 : decode cL_law 1137 = .ok (.if_icmp .eq 5, 3) := by decide +kernel
theorem dL_law_1140 : decode cL_law 1140 = .ok (.iconst 0, 1) := by decide +kernel
theorem dL_law_1141 : decode cL_law 1141 = .ok (.ireturn, 1) := by decide +kernel
theorem dL_law_1142 : decode cL_law 1142 = .ok (.iload 5, 2) := by decide +kernel
theorem dL_law_1144 : decode cL_law 1144 = .ok (.ifCond .ne 15, 3) := by decide +kernel
theorem dL_law_1147 : decode cL_law 1147 = .ok (.aload_n 3, 1) := by decide +kernel
theorem dL_law_1148 : decode cL_law 1148 = .ok (.iconst 0, 1) := by decide +kernel
theorem dL_law_1149 : decode cL_law 1149 = .ok (.laload, 1) := by decide +kernel
theorem dL_law_1150 : decode cL_law 1150 = .ok (.iload 6, 2) := by decide +kernel
theorem dL_law_1152 : decode cL_law 1152 = .ok (.i2l, 1) := by decide +kernel
theorem dL_law_1153 : decode cL_law 1153 = .ok (.lcmp, 1) := by decide +kernel
theorem dL_law_1154 : decode cL_law 1154 = .ok (.ifCond .eq 5, 3) := by decide +kernel
theorem dL_law_1157 : decode cL_law 1157 = .ok (.iconst 0, 1) := by decide +kernel
theorem dL_law_1158 : decode cL_law 1158 = .ok (.ireturn, 1) := by decide +kernel
theorem dL_law_1159 : decode cL_law 1159 = .ok (.goto 58, 3) := by decide +kernel
theorem dL_law_1162 : decode cL_law 1162 = .ok (.aload_n 1, 1) := by decide +kernel
theorem dL_law_1163 : decode cL_law 1163 = .ok (.invokevirtual 135, 3) := by decide +kernel
theorem dL_law_1166 : decode cL_law 1166 = .ok (.dstore 5, 2) := by decide +kernel
theorem dL_law_1168 : decode cL_law 1168 = .ok (.aload_n 2, 1) := by decide +kernel
theorem dL_law_1169 : decode cL_law 1169 = .ok (.invokevirtual 139, 3) := by decide +kernel
theorem dL_law_1172 : decode cL_law 1172 = .ok (.dstore 7, 2) := by decide +kernel
theorem dL_law_1174 : decode cL_law 1174 = .ok (.dload 5, 2) := by decide +kernel
theorem dL_law_1176 : decode cL_law 1176 = .ok (.dload 7, 2) := by decide +kernel
theorem dL_law_1178 : decode cL_law 1178 = .ok (.dcmp .l, 1) := by decide +kernel
theorem dL_law_1179 : decode cL_law 1179 = .ok (.ifCond .eq 21, 3) := by decide +kernel
theorem dL_law_1182 : decode cL_law 1182 = .ok (.dload 5, 2) := by decide +kernel
theorem dL_law_1184 : decode cL_law 1184 = .ok (.dload 5, 2) := by decide +kernel
theorem dL_law_1186 : decode cL_law 1186 = .ok (.dcmp .l, 1) := by decide +kernel
theorem dL_law_1187 : decode cL_law 1187 = .ok (.ifCond .eq 11, 3) := by decide +kernel
theorem dL_law_1190 : decode cL_law 1190 = .ok (.dload 7, 2) := by decide +kernel
theorem dL_law_1192 : decode cL_law 1192 = .ok (.dload 7, 2) := by decide +kernel
theorem dL_law_1194 : decode cL_law 1194 = .ok (.dcmp .l, 1) := by decide +kernel
theorem dL_law_1195 : decode cL_law 1195 = .ok (.ifCond .ne 5, 3) := by decide +kernel
theorem dL_law_1198 : decode cL_law 1198 = .ok (.iconst 0, 1) := by decide +kernel
theorem dL_law_1199 : decode cL_law 1199 = .ok (.ireturn, 1) := by decide +kernel
theorem dL_law_1200 : decode cL_law 1200 = .ok (.goto 17, 3) := by decide +kernel
theorem dL_law_1203 : decode cL_law 1203 = .ok (.aload_n 1, 1) := by decide +kernel
theorem dL_law_1204 : decode cL_law 1204 = .ok (.invokevirtual 140, 3) := by decide +kernel
theorem dL_law_1207 : decode cL_law 1207 = .ok (.aload_n 2, 1) := by decide +kernel
theorem dL_law_1208 : decode cL_law 1208 = .ok (.invokevirtual 144, 3) := by decide +kernel
theorem dL_law_1211 : decode cL_law 1211 = .ok (.lcmp, 1) := by decide +kernel
theorem dL_law_1212 : decode cL_law 1212 = .ok (.ifCond .eq 5, 3) := by decide +kernel
theorem dL_law_1215 : decode cL_law 1215 = .ok (.iconst 0, 1) := by decide +kernel
theorem dL_law_1216 : decode cL_law 1216 = .ok (.ireturn, 1) := by decide +kernel
theorem dL_law_1217 : decode cL_law 1217 = .ok (.iinc 4 4, 3) := by decide +kernel
theorem dL_law_1220 : decode cL_law 1220 = .ok (.goto (-1197), 3) := by decide +kernel
theorem dL_law_1223 : decode cL_law 1223 = .ok (.iconst 1, 1) := by decide +kernel
theorem dL_law_1224 : decode cL_law 1224 = .ok (.ireturn, 1) := by decide +kernel
abbrev vwCl : List vw_C := [(RX0, TX0, 10), (RX1, TX1, 14), (RX2, TX2, 2), (RX3, TX3, 12), (RX4, TX4, 5)]
end
section
theorem zz_look : True := trivial
end
