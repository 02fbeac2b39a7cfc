/-! THE LAW'S HELPERS: the society's world and the law's own long -/
/-- a part in the middle that a call has changed -/
theorem mid_join {D : va_G} {A Af : Nat → Prop} {x wc w1 z : va_W} {H H1 : Heap} (hP : va_P D vwCl (x ++ (wc ++ z)) H) (hD : va_D A (x ++ (wc ++ z))) (hk : ∀ q : Nat, q < H.size → ¬ Af q → H1[q]? = H[q]?) (hAf : ∀ q, Af q → (∃ (k : Nat) (p : Nat × va_E), wc[k]? = some p ∧ p.1 = q) ∨ H.size ≤ q) (hP1 : va_P D vwCl w1 H1) (he : w1.map Prod.fst = wc.map Prod.fst) : va_P D vwCl (x ++ (w1 ++ z)) H1 ∧ va_D A (x ++ (w1 ++ z)) := by
  have hx : va_P D vwCl x H1 := hP.left.kept (fun k q hq => by
    have hlt := (hP.left k q hq).lt
    refine hk q.1 hlt (fun hA => ?_)
    rcases hAf q.1 hA with ⟨j, p, hj, hjq⟩ | hge
    · have h1 := hD.1 k (x.length + j) q p (ap_l hq) (ap_r (ap_l hj)) hjq.symm
      have h2 : k < x.length := (List.getElem?_eq_some_iff.mp hq).1
      omega
    · omega)
  have hz : va_P D vwCl z H1 := hP.right.right.kept (fun k q hq => by
    have hlt := (hP.right.right k q hq).lt
    refine hk q.1 hlt (fun hA => ?_)
    rcases hAf q.1 hA with ⟨j, p, hj, hjq⟩ | hge
    · have h1 := hD.1 (x.length + (wc.length + k)) (x.length + j) q p (ap_r (ap_r hq)) (ap_r (ap_l hj)) hjq.symm
      have h2 : j < wc.length := (List.getElem?_eq_some_iff.mp hj).1
      omega
    · omega)
  refine ⟨va_P.app hx (va_P.app hP1 hz), hD.addr ?_⟩
  rw [List.map_append, List.map_append, List.map_append, List.map_append, he]
def xC (U : State) : Prop := va_Nc eS eA U ∧ va_Nc eS eI U ∧ va_Nc eA eI U ∧ va_Nc eI eA U
theorem xC.moved {s U : State} (hW : s.vm.Alike U.vm) (h : xC s) : xC U := ⟨va_Nc.moved hW h.1, va_Nc.moved hW h.2.1, va_Nc.moved hW h.2.2.1, va_Nc.moved hW h.2.2.2⟩
abbrev hTys (cI cM cL : ClassId) : List (ClassId × FieldType) := [(cI, .int), (cM, .object RX0), (cL, .long)]
abbrev oW (cL : ClassId) (o : Nat) (g : Nat → Int64) : va_W := [(o, .inl (cL, 1, .inr (.inl g)))]
abbrev hW (cI cM cL : ClassId) (a : Nat → Nat) (o s : Nat) (σ ρ : Mm) (g : Nat → Int64) : va_W := cW cI cM a s σ ρ ++ oW cL o g
def hAl (a : Nat → Nat) (o sz : Nat) : Nat → Prop := fun q => (∃ k, k < 35 ∧ q = a k) ∨ q = o ∨ sz ≤ q
def hPre (D : va_G) (cI cM cL : ClassId) (a : Nat → Nat) (o sz s : Nat) (σ ρ : Mm) (g : Nat → Int64) : State → Prop := fun U => U.heap.size = sz ∧ va_K D vwCl (hTys cI cM cL) U ∧ va_P D vwCl (hW cI cM cL a o s σ ρ g) U.heap ∧ va_D (fun _ => True) (hW cI cM cL a o s σ ρ g) ∧ xN U ∧ xZ (hAl a o sz) U U.heap ∧ xC U
/-- what a helper answers: 0 and the answer in the long, or the number of the exception -/
def hSp (cs : List String) (res : (Int32 × Mm × Mm) ⊕ String) (σ ρ : Mm) (g : Nat → Int64) (r : Int32) (u : Mm × Mm × (Nat → Int64)) : Prop := (∃ v, res = .inl (v, u.1, u.2.1) ∧ r = 0 ∧ u.2.2 0 = v.toInt64) ∨ (∃ x, res = .inr x ∧ r = codeOf cs 1 x ∧ u = (σ, ρ, g))
def hPo (D : va_G) (cI cM cL : ClassId) (a : Nat → Nat) (o s : Nat) (u : Mm × Mm × (Nat → Int64)) (t : State) : Prop := va_K D vwCl (hTys cI cM cL) t ∧ va_P D vwCl (hW cI cM cL a o s u.1 u.2.1 u.2.2) t.heap
def hMt (l : Launch) (y : MethodName) (ws : List Cond) (rm : Room) (D : va_G) (cI cM cL : ClassId) (a : Nat → Nat) (o : Nat) (av : List Value) (s : Nat) (σ ρ : Mm) (g : Nat → Int64) (cs : List String) (res : (Int32 × Mm × Mm) ⊕ String) : Prop :=
  ∀ sz, Met l y ws rm (va_Pc av (hPre D cI cM cL a o sz s σ ρ g)) (va_Qi (hSp cs res σ ρ g) (hPo D cI cM cL a o s) (hAl a o sz)) 1 6 (hAl a o sz)
theorem hPre.blind {D : va_G} {cI cM cL : ClassId} {a : Nat → Nat} {o sz s : Nat} {σ ρ : Mm} {g : Nat → Int64} {av : List Value} : FrameBlind (va_Pc av (hPre D cI cM cL a o sz s σ ρ g)) := fun v U g' mk q => by
  obtain ⟨q0, q1, qK, qP, qD, qN, qZ1, qC⟩ := q
  exact ⟨q0, q1, va_K.moved (u := U) (U := U.calling g' mk _) (Vm.Alike.refl U.vm) qK, qP, qD, qN.calling, ⟨vx_Zq.moved (u := U) (U := U.calling g' mk _) (Vm.Alike.refl U.vm) qZ1.1, vx_Zq.moved (u := U) (U := U.calling g' mk _) (Vm.Alike.refl U.vm) qZ1.2⟩, xC.moved (s := U) (U := U.calling g' mk _) (Vm.Alike.refl U.vm) qC⟩
def hB (D : va_G) (cI cM cL : ClassId) (a : Nat → Nat) (o : Nat) (U : State) (A : Nat → Prop) (H0 H : Heap) (locs : List Loc) (s : Nat) (σ ρ : Mm) (g : Nat → Int64) : Prop :=
  va_K D vwCl (hTys cI cM cL) U ∧ va_P D vwCl (hW cI cM cL a o s σ ρ g) H ∧ va_D A (hW cI cM cL a o s σ ρ g) ∧ va_S A H0 H locs
theorem cW_addr {cI cM : ClassId} {a : Nat → Nat} {s s' : Nat} {σ ρ σ' ρ' : Mm} : (cW cI cM a s σ ρ).map Prod.fst = (cW cI cM a s' σ' ρ').map Prod.fst := by
  simp [cW, gws]
theorem cA_in {cI cM : ClassId} {a : Nat → Nat} {s : Nat} {σ ρ : Mm} {sz : Nat} : ∀ q, cA a sz q → (∃ (k : Nat) (p : Nat × va_E), (cW cI cM a s σ ρ)[k]? = some p ∧ p.1 = q) ∨ sz ≤ q := by
  intro q h
  rcases h with ⟨k, hk, rfl⟩ | h
  · exact Or.inl ⟨k, _, gws_get hk, rfl⟩
  · exact Or.inr h
section HROWS
variable {p : Program} {l : Launch} {e : Env} {R : Room} {S : State} {m : MethodId} {args : Array Value} {below : List Frame} {meth : Method} {c : Code} {H : Heap} {locs : List Loc} {cells slots : Nat} {Q : State → Prop}
variable {cc bytes : ByteArray} {pc : Nat} {ls : Array Slot} {rest st0 As av : List Value} {D : va_G} {cI cM cL : ClassId} {a : Nat → Nat} {o : Nat} {A : Nat → Prop} {H0 : Heap} {s : Nat} {σ ρ : Mm} {g : Nat → Int64} {own : String} {index nL maxL n : Nat} {Ts wsy ws' : List Cond} {y : MethodName} {rm : Room} {ret : Option FieldType} {hh : List (Nat × Nat × Nat × Nat)}
theorem h_head {sz mc ms : Nat} {Qc : Array Value → State → Outcome → State → Prop} (hy : plainName y.cls = true) (hw : wsy = Cond.codeWith y cc maxL ret hh :: ws') (hle : (lg_sl av).length ≤ maxL)
    (body : ∀ (p : Program) (e : Env) (S : State) (m : MethodId) (below : List Frame) (meth : Method) (c : Code), p.tables.exec = Jvm.exec → c.code = cc → meth.sig.returnType = ret → c.maxLocals = maxL → S.vm.findClass y.cls = some m.cls → (∀ w ∈ wsy, w.before av.toArray S = true) → meth.locks = false → c.exceptionTable.toList = tableOf hh → xN S → xZ (hAl a o sz) S S.heap → xC S → (∀ q, S.heap.size ≤ q → hAl a o sz q) → S.heap.size = sz →
      hB D cI cM cL a o S (hAl a o sz) S.heap S.heap [] s σ ρ g → ∀ ls : Array Slot, lv_has ls maxL (lv_args 0 av) → W p l e (headSpec wsy rm).room S m av.toArray below meth c S.heap [] 0 0 (MQ below Qc av.toArray S mc ms (hAl a o sz)) (F0 m 0 ls [])) :
    Met l y wsy rm (va_Pc av (hPre D cI cM cL a o sz s σ ρ g)) Qc mc ms (hAl a o sz) := by
  refine va_MetW (cc := cc) (maxL := maxL) (ret := ret) hy hw ?_
  intro p e S m args below meth c s₁ B hml hv
  obtain ⟨rfl, hsz, hK, hP, hD, hXN, hXZ, hXC⟩ := hv
  have hts := atoms_spec (ws := wsy) B.pre
  have htab := vx_table (x := y) B (hts _ (by rw [hw]; exact List.mem_cons_self))
  have hl := lv_entry av (n := maxL) hle
  rw [lg_entry_eq]
  refine body p e S m below meth c B.exec B.bytes B.returns hml (findClass_of_methodNamed B.named) hts B.notSynchronized htab hXN hXZ hXC (fun q h => Or.inr (Or.inr (by rw [← hsz]; exact h))) hsz ⟨hK, hP, hD.weaken (fun k q hq _ => ?_), va_S.rf⟩ _ hl
  have hk : k < (cW cI cM a s σ ρ ++ oW cL o g).length := (List.getElem?_eq_some_iff.mp hq).1
  rcases Nat.lt_or_ge k (cW cI cM a s σ ρ).length with h | h
  · rw [List.getElem?_append_left h] at hq
    obtain ⟨lk, rfl⟩ := gws_inv hq
    exact Or.inl ⟨k, lk, rfl⟩
  · rw [List.getElem?_append_right h] at hq
    have h0 : k - (cW cI cM a s σ ρ).length < 1 := (List.getElem?_eq_some_iff.mp hq).1
    have h1 : k - (cW cI cM a s σ ρ).length = 0 := by omega
    rw [h1] at hq
    obtain rfl : (o, .inl (cL, 1, .inr (.inl g))) = q := Option.some.inj hq
    exact Or.inr (Or.inl rfl)
/-- a helper's end -/
theorem h_ret {sz : Nat} {v : Int32} {σ2 ρ2 : Mm} {g2 : Nat → Int64} {cs : List String} {res : (Int32 × Mm × Mm) ⊕ String} (hexec : p.tables.exec = Jvm.exec) (hb : c.code = cc) (hr : meth.sig.returnType = some .int) (hlocks : meth.locks = false) (hC : hB D cI cM cL a o S (hAl a o sz) S.heap H locs s σ2 ρ2 g2) (hdg : decode cc pc = .ok (.ireturn, 1)) (hv : hSp cs res σ ρ g v (σ2, ρ2, g2)) :
    W p l e R S m args below meth c H locs 1 6 (MQ below (va_Qi (hSp cs res σ ρ g) (hPo D cI cM cL a o s) (hAl a o sz)) args S 1 6 (hAl a o sz)) (F0 m pc ls [.int v]) :=
  W.iret hexec hb hr (fun t ht hW => ⟨⟨v, (σ2, ρ2, g2), rfl, hv, va_K.moved hW.alike hC.1, by rw [ht]; exact hC.2.1⟩, hC.2.2.2.F ht⟩) hC.2.2.2.2.2 hdg hlocks
/-- the call of the society's method -/
theorem h_call {sz : Nat} {res : (Int32 × Mm × Mm) ⊕ String} (F : CallFix p m c cc nL S args Ts own) (hM : xMi l y wsy rm D cI cM a (.ref (a 34) :: As) s σ ρ res) (hG : GoodIn Ts (wsV own index RX2 y wsy)) (hw : wsy = Cond.code y bytes maxL ret :: ws') (hrc : rm.cells = 1) (hrs : rm.slots = 6)
    (hd : y.cls = RX2 ∧ y.cls ≠ "java/lang/invoke/MethodHandle" ∧ y.cls ≠ "java/lang/invoke/VarHandle" ∧ (parseMethodDescriptor y.desc).map (fun d => d.parameters.length) = some n) (hRm : rm.frames + 1 ≤ R.frames ∧ 8 + (maxL + 11) + rm.locals ≤ R.locals)
    (hC : hB D cI cM cL a o S (hAl a o sz) S.heap S.heap [] s σ ρ g) (hsz : S.heap.size = sz) (hXN : xN S) (hXZ : xZ (hAl a o sz) S S.heap) (hn : As.length = n) (hsize : ls.size = nL) (hst : st0 = As.reverse ++ .ref (a 34) :: rest) (hW : (rest.map fun v => v.category).sum ≤ 8) (hdg : decode cc pc = .ok (.invokevirtual index, 3)) (hf : 0 + 1 ≤ R.cells ∧ 0 + 6 ≤ R.slots)
    (kx : ∀ (E : String) (ce : Cell) (q9 : Addr) (H : Heap) (locs : List Loc), res = .inr E → hB D cI cM cL a o S (hAl a o sz) S.heap H locs s σ ρ g → H[q9]? = some ce → ce.vm = .none → S.vm.findClass E = some ce.cls → vx_W p l e R S m args below meth c H locs 1 6 Q (F0 m pc ls rest) q9)
    (kk : ∀ (r : Int32) (σ2 ρ2 : Mm) (H : Heap) (locs : List Loc), res = .inl (r, σ2, ρ2) → hB D cI cM cL a o S (hAl a o sz) S.heap H locs s σ2 ρ2 g → W p l e R S m args below meth c H locs 1 6 Q (F0 m (pc + 3) ls (.int r :: rest))) : W p l e R S m args below meth c S.heap [] 0 0 Q (F0 m pc ls st0) := by
  obtain ⟨hK, hP, hD, hS⟩ := hC
  have hPc := hP.left
  have hcA : ∀ q, cA a S.heap.size q → hAl a o sz q := fun q h => by
    rcases h with ⟨k, hk, rfl⟩ | h
    · exact Or.inl ⟨k, hk, rfl⟩
    · exact Or.inr (Or.inr (by rw [← hsz]; exact h))
  have hrecv : ∃ cell : Cell, S.heap[a 34]? = some cell ∧ cell.vm.isStatics = false ∧ S.vm.findClass RX2 = some cell.cls := va_recv hK hPc (ci := 2) (q0 := 34) (fs := [.ref (a 0), .ref (a 17)]) rfl (gws_get (by omega))
  have hD0 : va_D (fun _ => True) (cW cI cM a s σ ρ) := hD.left.weaken (fun _ _ _ _ => trivial)
  refine vx_calli (cells := 0) (slots := 0) (vx_runV (As := As) (rest := rest) F (hM S.heap.size) (cwV n F.2.2.2.2 hG hw hrc hrs hd hRm) ⟨xPre.blind, hrecv, fun U hU hW => ⟨rfl, ⟨by rw [hU], va_K.moved hW.alike (hK.sub [0, 1] rfl), by rw [hU]; exact hPc, hD0⟩, hXN.moved hW, ⟨vx_Zq.moved hW.alike (by rw [hU]; exact hXZ.1.narrow hcA), vx_Zq.moved hW.alike (by rw [hU]; exact hXZ.2.narrow hcA)⟩⟩⟩ rfl hn hsize hst (lv_room hW) hdg hf) hS (fun q _ h => hcA q h) hcA (fun q _ h => hcA q h) (fun E ce q9 u t H1 locs1 ht hvm _ hB hz hk hS hce hcv hcl => ?_) (fun r u t H1 locs1 ht hvm hpo hB hz hk hS => ?_)
  · obtain ⟨hE, hK1, hP1⟩ := hB
    rw [ht] at hP1
    obtain ⟨hP2, hD2⟩ := mid_join (x := []) (A := hAl a o sz) hP hD hk (cA_in (cI := cI) (cM := cM) (s := s) (σ := σ) (ρ := ρ)) hP1 rfl
    exact kx E ce q9 H1 locs1 hE ⟨hK, hP2, hD2, hS⟩ hce hcv hcl
  · obtain ⟨hK1, hP1⟩ := hB
    rw [ht] at hP1
    obtain ⟨hP2, hD2⟩ := mid_join (x := []) (A := hAl a o sz) hP hD hk (cA_in (cI := cI) (cM := cM) (s := s) (σ := σ) (ρ := ρ)) hP1 cW_addr
    exact kk r u.1 u.2 H1 locs1 hpo ⟨hK, hP2, hD2, hS⟩
/-- the answer into the long -/
theorem h_put {sz : Nat} {x : Int64} (hexec : p.tables.exec = Jvm.exec) (hb : c.code = cc) (hC : hB D cI cM cL a o S (hAl a o sz) S.heap H locs s σ ρ g) (hdg : decode cc pc = .ok (.lastore, 1))
    (kk : ∀ (H : Heap) (locs : List Loc), hB D cI cM cL a o S (hAl a o sz) S.heap H locs s σ ρ (vp_updL g 0 x) → W p l e R S m args below meth c H locs cells slots Q (F0 m (pc + 1) ls rest)) : W p l e R S m args below meth c H locs cells slots Q (F0 m pc ls (.long x :: .int 0 :: .ref o :: rest)) := by
  obtain ⟨hK, hP, hD, hS⟩ := hC
  have h35 : (cW cI cM a s σ ρ).length = 35 := by simp [cW, gws]
  have hget : (hW cI cM cL a o s σ ρ g)[35]? = some (o, .inl (cL, 1, .inr (.inl g))) := by
    have h := ap_r (xs := cW cI cM a s σ ρ) (ys := oW cL o g) (k := 0) rfl
    rwa [h35] at h
  refine va_last (D := D) hexec hb hK hP hD hS 35 2 hget rfl (vp_in_nI (n := 0) (N := 1) (by decide) (by decide)) hdg (fun H1 locs1 hP1 hD1 hS1 => ?_)
  rw [List.set_append_right _ _ (by omega), h35] at hP1 hD1
  exact kk H1 locs1 ⟨hK, hP1, hD1, hS1⟩
end HROWS
