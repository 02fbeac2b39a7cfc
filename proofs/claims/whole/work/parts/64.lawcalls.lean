/-! the law's calls -/
section LCALLS
variable {p : Program} {l : Launch} {e : Env} {R : Room} {S : State} {m : MethodId} {args : Array Value} {below : List Frame} {meth : Method} {c : Code} {H : Heap} {locs : List Loc} {cells slots : Nat} {Q : State → Prop}
variable {cc bytes : ByteArray} {pc : Nat} {ls : Array Slot} {rest st0 As : List Value} {D : va_G} {cI cM cL : ClassId} {a : Nat → Nat} {o : Nat} {b : Nat → Nat} {A : Nat → Prop} {H0 : Heap} {s j : Nat} {σ ρ σ2 ρ2 θ τ α θ2 τ2 : Mm} {g : Nat → Int64} {own : String} {index nL maxL n mc ms : Nat} {Ts wsy ws' : List Cond} {y : MethodName} {rm : Room} {ret : Option FieldType} {hh : List (Nat × Nat × Nat × Nat)} {cs : List String} {res : (Int32 × Mm × Mm) ⊕ String} {r : Int32} {rl : Int64} {q : UInt64 → Prop}
theorem l_hlp (F : CallFix p m c cc nL S args Ts own) (hM : hMt l y wsy rmL D cI cM cL a o As s σ ρ g cs res) (hG : GoodIn Ts (va_wsS own index y wsy)) (hw : wsy = Cond.codeWith y bytes maxL ret hh :: ws') (hd : y.cls ≠ "java/lang/invoke/MethodHandle" ∧ y.cls ≠ "java/lang/invoke/VarHandle" ∧ (parseMethodDescriptor y.desc).map (fun d => d.parameters.length) = some n) (hRm : rmL.frames + 1 ≤ R.frames ∧ 8 + (maxL + 11) + rmL.locals ≤ R.locals)
    (hN : lSt S) (hC : lB D cI cM cL a o b S A H0 H locs s σ ρ g j θ τ α) (hA : ∀ q, H0.size ≤ q → A q) (hn : As.length = n) (hsize : ls.size = nL) (hst : st0 = As.reverse ++ rest) (hW : (rest.map fun v => v.category).sum ≤ 8) (hdg : decode cc pc = .ok (.invokestatic index, 3)) (hf : cells + 1 ≤ R.cells ∧ slots + 6 ≤ R.slots)
    (kk : ∀ (r : Int32) (u : Mm × Mm × (Nat → Int64)) (H : Heap) (locs : List Loc), hSp cs res σ ρ g r u → lB D cI cM cL a o b S A H0 H locs s u.1 u.2.1 u.2.2 j θ τ α → W p l e R S m args below meth c H locs (cells + 1) (slots + 6) Q (F0 m (pc + 3) ls (.int r :: rest))) : W p l e R S m args below meth c H locs cells slots Q (F0 m pc ls st0) := by
  have hf2 := hC.freeH hA
  refine va_calli (vx_runSW (As := As) (rest := rest) F (hM H.size) (vx_cwSW n F.2.2.2.2 hG hw rfl rfl hd hRm) ⟨hPre.blind, hC.preH hA hN As⟩ rfl hn hsize hst (lv_room hW) hdg hf) hC.2.2.2.1 (fun q _ h => hf2 q h) hf2 (fun r u t H1 locs1 ht hvm hpo hB hz hk hS => ?_)
  obtain ⟨hK1, hP1⟩ := hB
  rw [ht] at hP1
  exact kk r u H1 locs1 hpo (hC.afterH hA hk hP1 hS)
theorem l_mod (F : CallFix p m c cc nL S args Ts own) (hM : ∀ sz, Met l y wsy rm (va_Pc (.ref (b 0) :: As) (rPre D cI b sz j θ τ α)) (va_Qi (fun r' (_ : Unit) => r' = r) (rPost D cI b j θ2 τ2 α) (rA b sz)) mc ms (rA b sz)) (hG : GoodIn Ts (wsV own index RX4 y wsy)) (hw : wsy = Cond.code y bytes maxL ret :: ws') (hrc : rm.cells = mc) (hrs : rm.slots = ms) (hd : y.cls = RX4 ∧ y.cls ≠ "java/lang/invoke/MethodHandle" ∧ y.cls ≠ "java/lang/invoke/VarHandle" ∧ (parseMethodDescriptor y.desc).map (fun d => d.parameters.length) = some n) (hRm : rm.frames + 1 ≤ R.frames ∧ 8 + (maxL + 11) + rm.locals ≤ R.locals)
    (hN : lSt S) (hC : lB D cI cM cL a o b S A H0 H locs s σ ρ g j θ τ α) (hA : ∀ q, H0.size ≤ q → A q) (hn : As.length = n) (hsize : ls.size = nL) (hst : st0 = As.reverse ++ .ref (b 0) :: rest) (hW : (rest.map fun v => v.category).sum ≤ 8) (hdg : decode cc pc = .ok (.invokevirtual index, 3)) (hf : cells + mc ≤ R.cells ∧ slots + ms ≤ R.slots)
    (kk : ∀ (H : Heap) (locs : List Loc), lB D cI cM cL a o b S A H0 H locs s σ ρ g j θ2 τ2 α → W p l e R S m args below meth c H locs (cells + mc) (slots + ms) Q (F0 m (pc + 3) ls (.int r :: rest))) : W p l e R S m args below meth c H locs cells slots Q (F0 m pc ls st0) := by
  have hf2 := hC.freeM hA
  refine va_calli (va_runV (mc := mc) (ms := ms) (As := As) (rest := rest) F (hM H.size) (cwV n F.2.2.2.2 hG hw hrc hrs hd hRm) ⟨rPre.blind, hC.recvM, hC.preM hN _⟩ rfl hn hsize hst (lv_room hW) hdg hf) hC.2.2.2.1 (fun q _ h => hf2 q h) hf2 (fun r' u t H1 locs1 ht hvm hpo hB hz hk hS => ?_)
  obtain ⟨hK1, hP1⟩ := hB
  rw [ht] at hP1
  subst hpo
  exact kk H1 locs1 (hC.afterM hA hk hP1 hS)
theorem l_modl (F : CallFix p m c cc nL S args Ts own) (hM : rMl l y wsy rm D cI b (.ref (b 0) :: As) j θ τ α rl θ2 τ2) (hG : GoodIn Ts (wsV own index RX4 y wsy)) (hw : wsy = Cond.code y bytes maxL ret :: ws') (hrc : rm.cells = 0) (hrs : rm.slots = 0) (hd : y.cls = RX4 ∧ y.cls ≠ "java/lang/invoke/MethodHandle" ∧ y.cls ≠ "java/lang/invoke/VarHandle" ∧ (parseMethodDescriptor y.desc).map (fun d => d.parameters.length) = some n) (hRm : rm.frames + 1 ≤ R.frames ∧ 8 + (maxL + 11) + rm.locals ≤ R.locals)
    (hN : lSt S) (hC : lB D cI cM cL a o b S A H0 H locs s σ ρ g j θ τ α) (hA : ∀ q, H0.size ≤ q → A q) (hn : As.length = n) (hsize : ls.size = nL) (hst : st0 = As.reverse ++ .ref (b 0) :: rest) (hW : (rest.map fun v => v.category).sum ≤ 8) (hdg : decode cc pc = .ok (.invokevirtual index, 3)) (hf : cells ≤ R.cells ∧ slots ≤ R.slots)
    (kk : ∀ (H : Heap) (locs : List Loc), lB D cI cM cL a o b S A H0 H locs s σ ρ g j θ2 τ2 α → W p l e R S m args below meth c H locs cells slots Q (F0 m (pc + 3) ls (.long rl :: rest))) : W p l e R S m args below meth c H locs cells slots Q (F0 m pc ls st0) := by
  have hf2 := hC.freeM hA
  refine va_calll (va_runV (mc := 0) (ms := 0) (As := As) (rest := rest) F (hM H.size) (cwV n F.2.2.2.2 hG hw hrc hrs hd hRm) ⟨rPre.blind, hC.recvM, hC.preM hN _⟩ rfl hn hsize hst (lv_room hW) hdg hf) hC.2.2.2.1 (fun q _ h => hf2 q h) hf2 (fun r' u t H1 locs1 ht hvm hpo hB hz hk hS => ?_)
  obtain ⟨hK1, hP1⟩ := hB
  rw [ht] at hP1
  subst hpo
  exact kk H1 locs1 (hC.afterM hA hk hP1 hS)
theorem l_soc (F : CallFix p m c cc nL S args Ts own) (hM : cMi2 l y wsy rm D cI cM a (.ref (a 34) :: As) s σ ρ r σ2 ρ2) (hG : GoodIn Ts (wsV own index RX2 y wsy)) (hw : wsy = Cond.code y bytes maxL ret :: ws') (hrc : rm.cells = 0) (hrs : rm.slots = 0) (hd : y.cls = RX2 ∧ y.cls ≠ "java/lang/invoke/MethodHandle" ∧ y.cls ≠ "java/lang/invoke/VarHandle" ∧ (parseMethodDescriptor y.desc).map (fun d => d.parameters.length) = some n) (hRm : rm.frames + 1 ≤ R.frames ∧ 8 + (maxL + 11) + rm.locals ≤ R.locals)
    (hN : lSt S) (hC : lB D cI cM cL a o b S A H0 H locs s σ ρ g j θ τ α) (hA : ∀ q, H0.size ≤ q → A q) (hn : As.length = n) (hsize : ls.size = nL) (hst : st0 = As.reverse ++ .ref (a 34) :: rest) (hW : (rest.map fun v => v.category).sum ≤ 8) (hdg : decode cc pc = .ok (.invokevirtual index, 3)) (hf : cells ≤ R.cells ∧ slots ≤ R.slots)
    (kk : ∀ (H : Heap) (locs : List Loc), lB D cI cM cL a o b S A H0 H locs s σ2 ρ2 g j θ τ α → W p l e R S m args below meth c H locs cells slots Q (F0 m (pc + 3) ls (.int r :: rest))) : W p l e R S m args below meth c H locs cells slots Q (F0 m pc ls st0) := by
  have hf2 := hC.freeC hA
  refine va_calli (va_runV (mc := 0) (ms := 0) (As := As) (rest := rest) F (hM H.size) (cwV n F.2.2.2.2 hG hw hrc hrs hd hRm) ⟨cPre.blind, hC.recvC, hC.preC _⟩ rfl hn hsize hst (lv_room hW) hdg hf) hC.2.2.2.1 (fun q _ h => hf2 q h) hf2 (fun r' u t H1 locs1 ht hvm hpo hB hz hk hS => ?_)
  obtain ⟨hK1, hP1⟩ := hB
  rw [ht] at hP1
  subst hpo
  exact kk H1 locs1 (hC.afterC hA hk hP1 hS)
theorem l_socl (F : CallFix p m c cc nL S args Ts own) (hM : cMl2 l y wsy rm D cI cM a (.ref (a 34) :: As) s σ ρ rl σ2 ρ2) (hG : GoodIn Ts (wsV own index RX2 y wsy)) (hw : wsy = Cond.code y bytes maxL ret :: ws') (hrc : rm.cells = 0) (hrs : rm.slots = 0) (hd : y.cls = RX2 ∧ y.cls ≠ "java/lang/invoke/MethodHandle" ∧ y.cls ≠ "java/lang/invoke/VarHandle" ∧ (parseMethodDescriptor y.desc).map (fun d => d.parameters.length) = some n) (hRm : rm.frames + 1 ≤ R.frames ∧ 8 + (maxL + 11) + rm.locals ≤ R.locals)
    (hN : lSt S) (hC : lB D cI cM cL a o b S A H0 H locs s σ ρ g j θ τ α) (hA : ∀ q, H0.size ≤ q → A q) (hn : As.length = n) (hsize : ls.size = nL) (hst : st0 = As.reverse ++ .ref (a 34) :: rest) (hW : (rest.map fun v => v.category).sum ≤ 8) (hdg : decode cc pc = .ok (.invokevirtual index, 3)) (hf : cells ≤ R.cells ∧ slots ≤ R.slots)
    (kk : ∀ (H : Heap) (locs : List Loc), lB D cI cM cL a o b S A H0 H locs s σ2 ρ2 g j θ τ α → W p l e R S m args below meth c H locs cells slots Q (F0 m (pc + 3) ls (.long rl :: rest))) : W p l e R S m args below meth c H locs cells slots Q (F0 m pc ls st0) := by
  have hf2 := hC.freeC hA
  refine va_calll (va_runV (mc := 0) (ms := 0) (As := As) (rest := rest) F (hM H.size) (cwV n F.2.2.2.2 hG hw hrc hrs hd hRm) ⟨cPre.blind, hC.recvC, hC.preC _⟩ rfl hn hsize hst (lv_room hW) hdg hf) hC.2.2.2.1 (fun q _ h => hf2 q h) hf2 (fun r' u t H1 locs1 ht hvm hpo hB hz hk hS => ?_)
  obtain ⟨hK1, hP1⟩ := hB
  rw [ht] at hP1
  subst hpo
  exact kk H1 locs1 (hC.afterC hA hk hP1 hS)
theorem l_modd {d0 : Drawn} (hd0 : S.drawn.sameBut d0 lw_cs) (F : CallFix p m c cc nL S args Ts own) (hM : rMd l y wsy rm D cI b (.ref (b 0) :: As) j θ τ α q θ2 τ2) (hG : GoodIn Ts (wsV own index RX4 y wsy)) (hw : wsy = Cond.code y bytes maxL ret :: ws') (hrc : rm.cells = 0) (hrs : rm.slots = 0) (hd : y.cls = RX4 ∧ y.cls ≠ "java/lang/invoke/MethodHandle" ∧ y.cls ≠ "java/lang/invoke/VarHandle" ∧ (parseMethodDescriptor y.desc).map (fun d => d.parameters.length) = some n) (hRm : rm.frames + 1 ≤ R.frames ∧ 8 + (maxL + 11) + rm.locals ≤ R.locals)
    (hN : lSt S) (hC : lB D cI cM cL a o b S A H0 H locs s σ ρ g j θ τ α) (hA : ∀ q, H0.size ≤ q → A q) (hn : As.length = n) (hsize : ls.size = nL) (hst : st0 = As.reverse ++ .ref (b 0) :: rest) (hW : (rest.map fun v => v.category).sum ≤ 8) (hdg : decode cc pc = .ok (.invokevirtual index, 3)) (hf : cells ≤ R.cells ∧ slots ≤ R.slots)
    (kk : ∀ (v : UInt64) (H : Heap) (locs : List Loc) (d : Drawn), S.drawn.sameBut d lw_cs → q v → lB D cI cM cL a o b S A H0 H locs s σ ρ g j θ2 τ2 α → W p l e R (S.setDrawn d) m args below meth c H locs cells slots Q (F0 m (pc + 3) ls (.double v :: rest))) : W p l e R (S.setDrawn d0) m args below meth c H locs cells slots Q (F0 m pc ls st0) := by
  have hf2 := hC.freeM hA
  have F9 := CallFix.draw d0 F
  refine va_calldD hd0 (va_runV_D (mc := 0) (ms := 0) (As := As) (rest := rest) F9 (hM H.size) (cwV n F9.2.2.2.2 hG hw hrc hrs hd hRm) ⟨rPre.blind, (lB.draw d0 hC).recvM, (lB.draw d0 hC).preM (lSt.draw d0 hN) _⟩ rfl hn hsize hst (lv_room hW) hdg hf) hC.2.2.2.1 (fun q _ h => hf2 q h) hf2 (fun r' u t H1 locs1 ht hvm hpo hB hz hk hS d' hd' => ?_)
  obtain ⟨hK1, hP1⟩ := hB
  rw [ht] at hP1
  exact kk r' H1 locs1 d' hd' hpo (hC.afterM hA hk hP1 hS)
theorem l_socd {d0 : Drawn} (hd0 : S.drawn.sameBut d0 lw_cs) (F : CallFix p m c cc nL S args Ts own) (hM : cMd l y wsy rm D cI cM a (.ref (a 34) :: As) s σ ρ q) (hG : GoodIn Ts (wsV own index RX2 y wsy)) (hw : wsy = Cond.code y bytes maxL ret :: ws') (hrc : rm.cells = 0) (hrs : rm.slots = 0) (hd : y.cls = RX2 ∧ y.cls ≠ "java/lang/invoke/MethodHandle" ∧ y.cls ≠ "java/lang/invoke/VarHandle" ∧ (parseMethodDescriptor y.desc).map (fun d => d.parameters.length) = some n) (hRm : rm.frames + 1 ≤ R.frames ∧ 8 + (maxL + 11) + rm.locals ≤ R.locals)
    (hN : lSt S) (hC : lB D cI cM cL a o b S A H0 H locs s σ ρ g j θ τ α) (hA : ∀ q, H0.size ≤ q → A q) (hn : As.length = n) (hsize : ls.size = nL) (hst : st0 = As.reverse ++ .ref (a 34) :: rest) (hW : (rest.map fun v => v.category).sum ≤ 8) (hdg : decode cc pc = .ok (.invokevirtual index, 3)) (hf : cells ≤ R.cells ∧ slots ≤ R.slots)
    (kk : ∀ (v : UInt64) (H : Heap) (locs : List Loc) (d : Drawn), S.drawn.sameBut d lw_cs → q v → lB D cI cM cL a o b S A H0 H locs s σ ρ g j θ τ α → W p l e R (S.setDrawn d) m args below meth c H locs cells slots Q (F0 m (pc + 3) ls (.double v :: rest))) : W p l e R (S.setDrawn d0) m args below meth c H locs cells slots Q (F0 m pc ls st0) := by
  have hf2 := hC.freeC hA
  have F9 := CallFix.draw d0 F
  refine va_calldD hd0 (va_runV_D (mc := 0) (ms := 0) (As := As) (rest := rest) F9 (hM H.size) (cwV n F9.2.2.2.2 hG hw hrc hrs hd hRm) ⟨cPre.blind, (lB.draw d0 hC).recvC, (lB.draw d0 hC).preC _⟩ rfl hn hsize hst (lv_room hW) hdg hf) hC.2.2.2.1 (fun q _ h => hf2 q h) hf2 (fun r' u t H1 locs1 ht hvm hpo hB hz hk hS d' hd' => ?_)
  obtain ⟨hK1, hP1⟩ := hB
  rw [ht] at hP1
  exact kk r' H1 locs1 d' hd' hpo (hC.afterC hA hk hP1 hS)
theorem l_lald (hexec : p.tables.exec = Jvm.exec) (hb : c.code = cc) (hC : lB D cI cM cL a o b S A H0 H locs s σ ρ g j θ τ α) (hdg : decode cc pc = .ok (.laload, 1))
    (kk : W p l e R S m args below meth c H locs cells slots Q (F0 m (pc + 1) ls (.long (g 0) :: rest))) : W p l e R S m args below meth c H locs cells slots Q (F0 m pc ls (.int 0 :: .ref o :: rest)) := by
  have h35 : (cW cI cM a s σ ρ).length = 35 := by simp [cW, gws]
  have hget : (lW cI cM cL a o b s σ ρ g j θ τ α)[35]? = some (o, .inl (cL, 1, .inr (.inl g))) := by
    have h := ap_r (xs := cW cI cM a s σ ρ) (ys := oW cL o g ++ rW cI b j θ τ α) (k := 0) rfl
    rwa [h35] at h
  exact va_lald (D := D) hexec hb hC.1 hC.2.1 35 2 hget rfl (vp_in_nI (n := 0) (N := 1) (by decide) (by decide)) hdg kk
end LCALLS
