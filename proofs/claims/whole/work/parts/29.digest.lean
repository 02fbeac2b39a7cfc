/-! methods that answer a long -/
def rMl (l : Launch) (y : MethodName) (ws : List Cond) (rm : Room) (D : va_G) (cI : ClassId) (b : Nat → Nat) (av : List Value) (s : Nat) (θ τ ρ : Nat → Nat → Int32) (r : Int64) (θ2 τ2 : Nat → Nat → Int32) : Prop :=
  ∀ sz, Met l y ws rm (va_Pc av (rPre D cI b sz s θ τ ρ)) (va_Ql (fun r' (_ : Unit) => r' = r) (rPost D cI b s θ2 τ2 ρ) (rA b sz)) 0 0 (rA b sz)
theorem r_lret {p : Program} {l : Launch} {e : Env} {R : Room} {S : State} {m : MethodId} {args : Array Value} {below : List Frame} {meth : Method} {c : Code} {H : Heap} {locs : List Loc} {cells slots : Nat} {cc : ByteArray} {pc : Nat} {ls : Array Slot} {D : va_G} {cI : ClassId} {b : Nat → Nat} {s : Nat} {θ τ ρ θ2 τ2 : Nat → Nat → Int32} {r : Int64} {sz : Nat} {v : Int64} (hexec : p.tables.exec = Jvm.exec) (hb : c.code = cc) (hr : meth.sig.returnType = some .long) (hlocks : meth.locks = false) (hC : rB D cI b S (rA b sz) S.heap H locs s θ τ ρ) (hdg : decode cc pc = .ok (.lreturn, 1)) (hv : v = r ∧ θ = θ2 ∧ τ = τ2) :
    W p l e R S m args below meth c H locs cells slots (MQ below (va_Ql (fun r' (_ : Unit) => r' = r) (rPost D cI b s θ2 τ2 ρ) (rA b sz)) args S cells slots (rA b sz)) (F0 m pc ls [.long v]) := by
  obtain ⟨rfl, rfl, rfl⟩ := hv
  exact W.lret hexec hb hr (fun t ht hW => ⟨⟨v, (), rfl, rfl, (hC.end ht hW).1⟩, (hC.end ht hW).2⟩) hC.2.2.2.1.2.2 hdg hlocks
abbrev rmX4_digest : Room := { frames := 6, cells := 0, slots := 0, locals := 133 }
def fX4_digest_b4 (ρ : (Nat → Nat → Int32)) (i3x : Nat) (i4x : Nat) (v4_1 : Int64) (σL4 : (Nat → Nat → Int32)) : Int64 × (Nat → Nat → Int32) :=
    let τ8 : (Nat → Nat → Int32) := (fX4_potTold σL4 ρ (nI i3x) (nI i4x)).2
    (((v4_1 * (31 : Int64)) + (((fX4_potTold σL4 ρ (nI i3x) (nI i4x)).1).toInt64)), τ8)
def fX4_digest_k4 (v4_1 : Int64) (σL4 : (Nat → Nat → Int32)) : Int32 × Int64 × (Nat → Nat → Int32) :=
    ((nI 4), v4_1, σL4)
def fX4_digest_k4x (x : Int64 × (Nat → Nat → Int32)) : Int32 × Int64 × (Nat → Nat → Int32) := fX4_digest_k4 x.1 x.2
def fX4_digest_b6 (ρ : (Nat → Nat → Int32)) (i5x : Nat) (i6x : Nat) (v6_1 : Int64) : Int64 :=
    ((v6_1 * (31 : Int64)) + (((fX3_of ρ (nI i5x) (nI i6x))).toInt64))
def fX4_digest_k6 (v6_1 : Int64) : Int32 × Int64 :=
    ((nI 9), v6_1)
def fX4_digest_b5 (ρ : (Nat → Nat → Int32)) (i5x : Nat) (v5_4 : Int32) (v5_1 : Int64) : Int32 × Int64 :=
    fX4_digest_k6 (itR (fun i x => fX4_digest_b6 ρ i5x i x) 0 9 v5_1)
def fX4_digest_k5 (θ1 : (Nat → Nat → Int32)) (σL3 : (Nat → Nat → Int32)) (v5_4 : Int32) (v5_1 : Int64) : Int64 × (Nat → Nat → Int32) × (Nat → Nat → Int32) :=
    (v5_1, θ1, σL3)
def fX4_digest_k5x (θ1 : (Nat → Nat → Int32)) (σL3 : (Nat → Nat → Int32)) (x : Int32 × Int64) : Int64 × (Nat → Nat → Int32) × (Nat → Nat → Int32) := fX4_digest_k5 θ1 σL3 x.1 x.2
def fX4_digest_b3 (ρ : (Nat → Nat → Int32)) (i3x : Nat) (v3_4 : Int32) (v3_1 : Int64) (σL3 : (Nat → Nat → Int32)) : Int32 × Int64 × (Nat → Nat → Int32) :=
    fX4_digest_k4x (itR (fun i x => fX4_digest_b4 ρ i3x i x.1 x.2) 0 4 (v3_1, σL3))
def fX4_digest_k3 (ρ : (Nat → Nat → Int32)) (θ1 : (Nat → Nat → Int32)) (v3_4 : Int32) (v3_1 : Int64) (σL3 : (Nat → Nat → Int32)) : Int64 × (Nat → Nat → Int32) × (Nat → Nat → Int32) :=
    fX4_digest_k5x θ1 σL3 (itR (fun i x => fX4_digest_b5 ρ i x.1 x.2) 0 (wfn ρ) (v3_4, v3_1))
def fX4_digest_k3x (ρ : (Nat → Nat → Int32)) (θ1 : (Nat → Nat → Int32)) (x : Int32 × Int64 × (Nat → Nat → Int32)) : Int64 × (Nat → Nat → Int32) × (Nat → Nat → Int32) := fX4_digest_k3 ρ θ1 x.1 x.2.1 x.2.2
def fX4_digest_b2 (θ1 : (Nat → Nat → Int32)) (i2x : Nat) (v2_1 : Int64) : Int64 :=
    ((v2_1 * (31 : Int64)) + (((θ1 1 i2x)).toInt64))
def fX4_digest_k2 (τ : (Nat → Nat → Int32)) (ρ : (Nat → Nat → Int32)) (θ1 : (Nat → Nat → Int32)) (v2_1 : Int64) : Int64 × (Nat → Nat → Int32) × (Nat → Nat → Int32) :=
    fX4_digest_k3x ρ θ1 (itR (fun i x => fX4_digest_b3 ρ i x.1 x.2.1 x.2.2) 0 3 ((8 : Int32), v2_1, τ))
def fX4_digest_b1 (ρ : (Nat → Nat → Int32)) (i1x : Nat) (v1_1 : Int64) : Int64 :=
    ((v1_1 * (31 : Int64)) + (((fX4_counted ρ (nI i1x))).toInt64))
def fX4_digest_k1 (τ : (Nat → Nat → Int32)) (ρ : (Nat → Nat → Int32)) (θ1 : (Nat → Nat → Int32)) (v1_1 : Int64) : Int64 × (Nat → Nat → Int32) × (Nat → Nat → Int32) :=
    fX4_digest_k2 τ ρ θ1 (itR (fun i x => fX4_digest_b2 θ1 i x) 0 8 ((v1_1 * (31 : Int64)) + (((θ1 0 1)).toInt64)))
def fX4_digest (θ : (Nat → Nat → Int32)) (τ : (Nat → Nat → Int32)) (ρ : (Nat → Nat → Int32)) : Int64 × (Nat → Nat → Int32) × (Nat → Nat → Int32) :=
    let θ1 : (Nat → Nat → Int32) := up2 θ 0 0 (0 : Int32)
    fX4_digest_k1 τ ρ θ1 (itR (fun i x => fX4_digest_b1 ρ i x) 0 13 (1361 : Int64))
set_option maxHeartbeats 400000 in
set_option maxRecDepth 100000 in
theorem c_X4_digest (l : Launch) (D : va_G) (cI : ClassId) (b : Nat → Nat) (θ τ ρ : (Nat → Nat → Int32)) (N : Nat) (hW : wf ρ N) : rMl l yX4_digest wsX4_digest rmX4_digest D cI b [.ref (b 0)] 1 θ τ ρ (fX4_digest θ τ ρ).1 (fX4_digest θ τ ρ).2.1 (fX4_digest θ τ ρ).2.2 := by
  intro sz
  refine r_head (cc := cX4_digest) (maxL := 7) (ret := (some .long)) (plainFor_of_name (by decide)) rfl (Nat.le_of_ble_eq_true rfl) ?_
  intro p e S m below meth c hx hb hr hml hown hts hlocks hnm hsz hA hC ls hl
  have hF : CallFix p m c cX4_digest 7 S [.ref (b 0)].toArray wsX4_digest RX4 := ⟨hx, hb, hml, hown, hts⟩
  have h_f29 : (Cond.fieldLink RX4 29 "CombersSocietyModel" "thrown" "I").before [.ref (b 0)].toArray S = true := hts _ (by decide +kernel)
  have h_iX4 : ∀ w ∈ u_ws RX4 TX4 5, w ∈ wsX4_digest := by decide +kernel
  have h_l142 : (Jvm.Cond.constantLong RX4 142 (1361 : Int64)).before [.ref (b 0)].toArray S = true := hts _ (by decide +kernel)
  have h_l144 : (Jvm.Cond.constantLong RX4 144 (31 : Int64)).before [.ref (b 0)].toArray S = true := hts _ (by decide +kernel)
  have h_f22 : (Cond.fieldLink RX4 22 "CombersSocietyModel" "s" "LCombersSocietyModel$State;").before [.ref (b 0)].toArray S = true := hts _ (by decide +kernel)
  have h_f7 : (Cond.fieldLink RX4 7 "CombersSocietyModel" "dues" "I").before [.ref (b 0)].toArray S = true := hts _ (by decide +kernel)
  have h_f13 : (Cond.fieldLink RX4 13 "CombersSocietyModel" "fevers" "[I").before [.ref (b 0)].toArray S = true := hts _ (by decide +kernel)
  have h_f32 : (nw32).before [.ref (b 0)].toArray S = true := va_Nw.use rfl hC.2.2.2.2.nw32
  have h_iX3 : ∀ w ∈ u_ws RX3 TX3 12, w ∈ wsX4_digest := by decide +kernel
  have hl : lv_has ls 7 [(0, .ref (b 0))] := hl
  refine lv_aload_n hx hb dX4_digest_0 rfl (lv_at hl 0 rfl) ?_
  refine lv_iconst (v := 0) hx hb dX4_digest_1 (by decide) ?_
  refine rp_m hx hb hts h_iX4 hown hC 0 (by decide) h_f29 dX4_digest_2 ?_
  clear hC; intro H locs θ1 eθ1 hC
  refine lv_ldc2 hx hb hown h_l142 dX4_digest_5 ?_
  refine lv_lstore_n (lv' := [(1, .long (1361 : Int64)), (0, .ref (b 0))]) hx hb dX4_digest_8 rfl hl (by decide) rfl ?_
  clear hl; intro ls hl
  refine lv_iconst (v := 0) hx hb dX4_digest_9 (by decide) ?_
  refine lv_istore_n (lv' := [(3, .int (0 : Int32)), (1, .long (1361 : Int64)), (0, .ref (b 0))]) hx hb dX4_digest_10 rfl hl (by decide) rfl ?_
  clear hl; intro ls hl
  have loop1 : ∀ (n1x i1x : Nat) (v1_1 : Int64), i1x + n1x = 13 → itR (fun i x => fX4_digest_b1 ρ i x) i1x n1x v1_1 = itR (fun i x => fX4_digest_b1 ρ i x) 0 13 (1361 : Int64) → ∀ (H : Heap) (locs : List Loc), rB D cI b S (rA b sz) S.heap H locs 1 θ1 τ ρ → ∀ ls : Array Slot, lv_has ls 7 [(3, .int (nI i1x)), (1, .long v1_1), (0, .ref (b 0))] → W p l e (headSpec wsX4_digest rmX4_digest).room S m [.ref (b 0)].toArray below meth c H locs 0 0 (MQ below (va_Ql (fun r' (_ : Unit) => r' = (fX4_digest θ τ ρ).1) (rPost D cI b 1 (fX4_digest θ τ ρ).2.1 (fX4_digest θ τ ρ).2.2 ρ) (rA b sz)) [.ref (b 0)].toArray S 0 0 (rA b sz)) (F0 m 11 ls []) := by
    clear hC hl
    intro n1x
    induction n1x with
    | zero =>
      intro i1x v1_1 hin1 hX1 H locs hC ls hl
      obtain rfl : 13 = i1x := by omega
      have q1 : fX4_digest θ τ ρ = fX4_digest_k1 τ ρ θ1 v1_1 := by subst eθ1; unfold fX4_digest; exact ((congrArg (fX4_digest_k1 _ _ _) hX1.symm).trans rfl)
      refine lv_iload_n hx hb dX4_digest_11 rfl (lv_at hl 0 rfl) ?_
      refine lv_bipush (v := 13) hx hb dX4_digest_12 (by decide) ?_
      refine lv_icmp_ge (tgt := 39) hx hb dX4_digest_14 (by decide) (fun c3 => ?_) (fun c3 => absurd (by decide) c3)
      refine lv_lload_n hx hb dX4_digest_39 rfl (lv_at hl 1 rfl) ?_
      refine lv_ldc2 hx hb hown h_l144 dX4_digest_40 ?_
      refine lv_lmul hx hb dX4_digest_43 ?_
      refine lv_aload_n hx hb dX4_digest_44 rfl (lv_at hl 2 rfl) ?_
      refine rg_m hx hb hts h_iX4 hown hC 1 (by decide) h_f7 dX4_digest_45 ?_
      refine lv_i2l (v := ((θ1 0 1)).toInt64) hx hb dX4_digest_48 rfl ?_
      refine lv_ladd hx hb dX4_digest_49 ?_
      refine lv_lstore_n (lv' := [(1, .long ((v1_1 * (31 : Int64)) + (((θ1 0 1)).toInt64))), (3, .int (nI 13)), (0, .ref (b 0))]) hx hb dX4_digest_50 rfl hl (by decide) rfl ?_
      clear hl; intro ls hl
      refine lv_aload_n hx hb dX4_digest_51 rfl (lv_at hl 2 rfl) ?_
      refine rg_f hx hb hts h_iX4 hown hC h_f13 dX4_digest_52 ?_
      refine lv_astore_n (lv' := [(3, .ref (b 1)), (1, .long ((v1_1 * (31 : Int64)) + (((θ1 0 1)).toInt64))), (0, .ref (b 0))]) hx hb dX4_digest_55 rfl hl (by decide) rfl ?_
      clear hl; intro ls hl
      refine lv_aload_n hx hb dX4_digest_56 rfl (lv_at hl 0 rfl) ?_
      refine r_flen hx hb hC dX4_digest_57 ?_
      refine lv_istore (lv' := [(4, .int (8 : Int32)), (3, .ref (b 1)), (1, .long ((v1_1 * (31 : Int64)) + (((θ1 0 1)).toInt64))), (0, .ref (b 0))]) hx hb dX4_digest_58 hl (by decide) rfl ?_
      clear hl; intro ls hl
      refine lv_iconst (v := 0) hx hb dX4_digest_60 (by decide) ?_
      refine lv_istore (lv' := [(5, .int (0 : Int32)), (4, .int (8 : Int32)), (3, .ref (b 1)), (1, .long ((v1_1 * (31 : Int64)) + (((θ1 0 1)).toInt64))), (0, .ref (b 0))]) hx hb dX4_digest_61 hl (by decide) rfl ?_
      clear hl; intro ls hl
      have loop2 : ∀ (n2x i2x : Nat) (v2_1 : Int64), i2x + n2x = 8 → itR (fun i x => fX4_digest_b2 θ1 i x) i2x n2x v2_1 = itR (fun i x => fX4_digest_b2 θ1 i x) 0 8 ((v1_1 * (31 : Int64)) + (((θ1 0 1)).toInt64)) → ∀ (H : Heap) (locs : List Loc), rB D cI b S (rA b sz) S.heap H locs 1 θ1 τ ρ → ∀ ls : Array Slot, lv_has ls 7 [(5, .int (nI i2x)), (4, .int (8 : Int32)), (3, .ref (b 1)), (1, .long v2_1), (0, .ref (b 0))] → W p l e (headSpec wsX4_digest rmX4_digest).room S m [.ref (b 0)].toArray below meth c H locs 0 0 (MQ below (va_Ql (fun r' (_ : Unit) => r' = (fX4_digest θ τ ρ).1) (rPost D cI b 1 (fX4_digest θ τ ρ).2.1 (fX4_digest θ τ ρ).2.2 ρ) (rA b sz)) [.ref (b 0)].toArray S 0 0 (rA b sz)) (F0 m 63 ls []) := by
        clear hC hl
        intro n2x
        induction n2x with
        | zero =>
          intro i2x v2_1 hin2 hX2 H locs hC ls hl
          obtain rfl : 8 = i2x := by omega
          have q2 : fX4_digest_k1 τ ρ θ1 v1_1 = fX4_digest_k2 τ ρ θ1 v2_1 := by subst eθ1; unfold fX4_digest_k1; exact ((congrArg (fX4_digest_k2 _ _ _) hX2.symm).trans rfl)
          refine lv_iload hx hb dX4_digest_63 (lv_at hl 0 rfl) ?_
          refine lv_iload hx hb dX4_digest_65 (lv_at hl 1 rfl) ?_
          refine lv_icmp_ge (tgt := 92) hx hb dX4_digest_67 (by decide) (fun c5 => ?_) (fun c5 => absurd (by decide) c5)
          refine lv_iconst (v := 0) hx hb dX4_digest_92 (by decide) ?_
          refine lv_istore_n (lv' := [(3, .int (0 : Int32)), (5, .int (nI 8)), (4, .int (8 : Int32)), (1, .long v2_1), (0, .ref (b 0))]) hx hb dX4_digest_93 rfl hl (by decide) rfl ?_
          clear hl; intro ls hl
          have loop3 : ∀ (n3x i3x : Nat) (v3_4 : Int32) (v3_1 : Int64) (σL3 : (Nat → Nat → Int32)), i3x + n3x = 3 → itR (fun i x => fX4_digest_b3 ρ i x.1 x.2.1 x.2.2) i3x n3x (v3_4, v3_1, σL3) = itR (fun i x => fX4_digest_b3 ρ i x.1 x.2.1 x.2.2) 0 3 ((8 : Int32), v2_1, τ) → ∀ (H : Heap) (locs : List Loc), rB D cI b S (rA b sz) S.heap H locs 1 θ1 σL3 ρ → ∀ ls : Array Slot, lv_has ls 7 [(3, .int (nI i3x)), (5, .int (nI 8)), (4, .int v3_4), (1, .long v3_1), (0, .ref (b 0))] → W p l e (headSpec wsX4_digest rmX4_digest).room S m [.ref (b 0)].toArray below meth c H locs 0 0 (MQ below (va_Ql (fun r' (_ : Unit) => r' = (fX4_digest θ τ ρ).1) (rPost D cI b 1 (fX4_digest θ τ ρ).2.1 (fX4_digest θ τ ρ).2.2 ρ) (rA b sz)) [.ref (b 0)].toArray S 0 0 (rA b sz)) (F0 m 94 ls []) := by
            clear hC hl
            intro n3x
            induction n3x with
            | zero =>
              intro i3x v3_4 v3_1 σL3 hin3 hX3 H locs hC ls hl
              obtain rfl : 3 = i3x := by omega
              have q3 : fX4_digest_k2 τ ρ θ1 v2_1 = fX4_digest_k3 ρ θ1 v3_4 v3_1 σL3 := by subst eθ1; unfold fX4_digest_k2; exact ((congrArg (fX4_digest_k3x _ _) hX3.symm).trans rfl)
              refine lv_iload_n hx hb dX4_digest_94 rfl (lv_at hl 0 rfl) ?_
              refine lv_iconst (v := 3) hx hb dX4_digest_95 (by decide) ?_
              refine lv_icmp_ge (tgt := 135) hx hb dX4_digest_96 (by decide) (fun c10 => ?_) (fun c10 => absurd (by decide) c10)
              refine lv_iconst (v := 0) hx hb dX4_digest_135 (by decide) ?_
              refine lv_istore_n (lv' := [(3, .int (0 : Int32)), (5, .int (nI 8)), (4, .int v3_4), (1, .long v3_1), (0, .ref (b 0))]) hx hb dX4_digest_136 rfl hl (by decide) rfl ?_
              clear hl; intro ls hl
              have loop5 : ∀ (n5x i5x : Nat) (v5_4 : Int32) (v5_1 : Int64), i5x + n5x = N → itR (fun i x => fX4_digest_b5 ρ i x.1 x.2) i5x n5x (v5_4, v5_1) = itR (fun i x => fX4_digest_b5 ρ i x.1 x.2) 0 (wfn ρ) (v3_4, v3_1) → ∀ (H : Heap) (locs : List Loc), rB D cI b S (rA b sz) S.heap H locs 1 θ1 σL3 ρ → ∀ ls : Array Slot, lv_has ls 7 [(3, .int (nI i5x)), (5, .int (nI 8)), (4, .int v5_4), (1, .long v5_1), (0, .ref (b 0))] → W p l e (headSpec wsX4_digest rmX4_digest).room S m [.ref (b 0)].toArray below meth c H locs 0 0 (MQ below (va_Ql (fun r' (_ : Unit) => r' = (fX4_digest θ τ ρ).1) (rPost D cI b 1 (fX4_digest θ τ ρ).2.1 (fX4_digest θ τ ρ).2.2 ρ) (rA b sz)) [.ref (b 0)].toArray S 0 0 (rA b sz)) (F0 m 137 ls []) := by
                clear hC hl
                intro n5x
                induction n5x with
                | zero =>
                  intro i5x v5_4 v5_1 hin5 hX5 H locs hC ls hl
                  obtain rfl : N = i5x := by omega
                  have q5 : fX4_digest_k3 ρ θ1 v3_4 v3_1 σL3 = fX4_digest_k5 θ1 σL3 v5_4 v5_1 := by subst eθ1; unfold fX4_digest_k3; exact ((congrArg (fX4_digest_k5x _ _) hX5.symm).trans rfl)
                  refine lv_iload_n hx hb dX4_digest_137 rfl (lv_at hl 0 rfl) ?_
                  refine lv_aload_n hx hb dX4_digest_138 rfl (lv_at hl 4 rfl) ?_
                  refine rg_w hx hb hts h_iX4 hown hC 0 (by decide) h_f22 dX4_digest_139 ?_
                  refine rg_sN hx hb hts h_iX3 hown (hC.sw (by decide)) (by decide) 1 (by decide) h_f32 dX4_digest_142 ?_
                  refine lv_icmp_ge (tgt := 188) hx hb dX4_digest_145 (by decide) (fun c14 => ?_) (fun c14 => absurd (wf_ex hW) c14)
                  refine lv_lload_n hx hb dX4_digest_188 rfl (lv_at hl 3 rfl) ?_
                  have e0 : fX4_digest_k5 θ1 σL3 v5_4 v5_1 = (v5_1, θ1, σL3) := by subst eθ1; exact rfl
                  have e : fX4_digest θ τ ρ = (v5_1, θ1, σL3) := (q1.trans (q2.trans (q3.trans (q5.trans e0))))
                  exact r_lret hx hb hr hlocks hC dX4_digest_189 ⟨by rw [e], by rw [e], by rw [e]⟩
                | succ n5x ih5 =>
                  intro i5x v5_4 v5_1 hin5 hX5 H locs hC ls hl
                  have hN12 := wf_12 hW
                  refine lv_iload_n hx hb dX4_digest_137 rfl (lv_at hl 0 rfl) ?_
                  refine lv_aload_n hx hb dX4_digest_138 rfl (lv_at hl 4 rfl) ?_
                  refine rg_w hx hb hts h_iX4 hown hC 0 (by decide) h_f22 dX4_digest_139 ?_
                  refine rg_sN hx hb hts h_iX3 hown (hC.sw (by decide)) (by decide) 1 (by decide) h_f32 dX4_digest_142 ?_
                  refine lv_icmp_ge (tgt := 188) hx hb dX4_digest_145 (by decide) (fun c11 => absurd c11 (wf_in hW (by omega))) (fun c11 => ?_)
                  refine lv_iconst (v := 0) hx hb dX4_digest_148 (by decide) ?_
                  refine lv_istore (lv' := [(4, .int (0 : Int32)), (3, .int (nI i5x)), (5, .int (nI 8)), (1, .long v5_1), (0, .ref (b 0))]) hx hb dX4_digest_149 hl (by decide) rfl ?_
                  clear hl; intro ls hl
                  have loop6 : ∀ (n6x i6x : Nat) (v6_1 : Int64), i6x + n6x = 9 → itR (fun i x => fX4_digest_b6 ρ i5x i x) i6x n6x v6_1 = itR (fun i x => fX4_digest_b6 ρ i5x i x) 0 9 v5_1 → ∀ (H : Heap) (locs : List Loc), rB D cI b S (rA b sz) S.heap H locs 1 θ1 σL3 ρ → ∀ ls : Array Slot, lv_has ls 7 [(4, .int (nI i6x)), (3, .int (nI i5x)), (5, .int (nI 8)), (1, .long v6_1), (0, .ref (b 0))] → W p l e (headSpec wsX4_digest rmX4_digest).room S m [.ref (b 0)].toArray below meth c H locs 0 0 (MQ below (va_Ql (fun r' (_ : Unit) => r' = (fX4_digest θ τ ρ).1) (rPost D cI b 1 (fX4_digest θ τ ρ).2.1 (fX4_digest θ τ ρ).2.2 ρ) (rA b sz)) [.ref (b 0)].toArray S 0 0 (rA b sz)) (F0 m 151 ls []) := by
                    clear hC hl
                    intro n6x
                    induction n6x with
                    | zero =>
                      intro i6x v6_1 hin6 hX6 H locs hC ls hl
                      obtain rfl : 9 = i6x := by omega
                      have q6 : fX4_digest_b5 ρ i5x v5_4 v5_1 = fX4_digest_k6 v6_1 := by unfold fX4_digest_b5; exact ((congrArg (fX4_digest_k6) hX6.symm).trans rfl)
                      refine lv_iload hx hb dX4_digest_151 (lv_at hl 0 rfl) ?_
                      refine lv_bipush (v := 9) hx hb dX4_digest_153 (by decide) ?_
                      refine lv_icmp_ge (tgt := 182) hx hb dX4_digest_155 (by decide) (fun c13 => ?_) (fun c13 => absurd (by decide) c13)
                      refine lv_iinc (v := (nI (i5x + 1))) (lv' := [(3, .int (nI (i5x + 1))), (4, .int (nI 9)), (5, .int (nI 8)), (1, .long v6_1), (0, .ref (b 0))]) hx hb dX4_digest_182 hl (k := 1) rfl (nI_1 i5x) (by decide) rfl ?_
                      clear hl; intro ls hl
                      refine lv_goto (tgt := 137) hx hb dX4_digest_185 (by decide) ?_
                      have e0 : fX4_digest_k6 v6_1 = ((nI 9), v6_1) := by exact rfl
                      have e : fX4_digest_b5 ρ i5x v5_4 v5_1 = ((nI 9), v6_1) := (q6.trans e0)
                      exact ih5 (i5x + 1) (nI 9) v6_1 (by omega) (by rw [← e]; exact hX5) _ _ hC ls (lv_sub hl [0, 2, 1, 3, 4] rfl)
                    | succ n6x ih6 =>
                      intro i6x v6_1 hin6 hX6 H locs hC ls hl
                      refine lv_iload hx hb dX4_digest_151 (lv_at hl 0 rfl) ?_
                      refine lv_bipush (v := 9) hx hb dX4_digest_153 (by decide) ?_
                      refine lv_icmp_ge (tgt := 182) hx hb dX4_digest_155 (by decide) (fun c12 => absurd c12 (show ¬ (9 : Int32) ≤ nI i6x from (nI_ge (a := i6x) (b := 9) (by omega) (by decide) : ¬ nI 9 ≤ nI i6x))) (fun c12 => ?_)
                      refine lv_lload_n hx hb dX4_digest_158 rfl (lv_at hl 3 rfl) ?_
                      refine lv_ldc2 hx hb hown h_l144 dX4_digest_159 ?_
                      refine lv_lmul hx hb dX4_digest_162 ?_
                      refine lv_aload_n hx hb dX4_digest_163 rfl (lv_at hl 4 rfl) ?_
                      refine rg_w hx hb hts h_iX4 hown hC 0 (by decide) h_f22 dX4_digest_164 ?_
                      refine lv_iload_n hx hb dX4_digest_167 rfl (lv_at hl 1 rfl) ?_
                      refine lv_iload hx hb dX4_digest_168 (lv_at hl 0 rfl) ?_
                      refine r_iVp (n := 2) hF (c_X3_of l D cI b 0 θ1 ρ σL3 (by decide) (nI i5x) (nI i6x) ⟨i5x, by omega, rfl⟩ ⟨i6x, by omega, rfl⟩) gX4_digest_X3_of rfl rfl rfl (by decide +kernel) ⟨Nat.le_of_ble_eq_true rfl, Nat.le_of_ble_eq_true rfl⟩ (hC.sw (by decide)) hA ((hC.sw (by decide)).recvS (by decide)) rfl hl.1 rfl (Nat.le_of_ble_eq_true rfl) dX4_digest_170 ⟨Nat.zero_le _, Nat.zero_le _⟩ ?_
                      clear hC; intro H locs hC
                      have hC := hC.sw (by decide)
                      refine lv_i2l (v := ((fX3_of ρ (nI i5x) (nI i6x))).toInt64) hx hb dX4_digest_173 rfl ?_
                      refine lv_ladd hx hb dX4_digest_174 ?_
                      refine lv_lstore_n (lv' := [(1, .long ((v6_1 * (31 : Int64)) + (((fX3_of ρ (nI i5x) (nI i6x))).toInt64))), (4, .int (nI i6x)), (3, .int (nI i5x)), (5, .int (nI 8)), (0, .ref (b 0))]) hx hb dX4_digest_175 rfl hl (by decide) rfl ?_
                      clear hl; intro ls hl
                      refine lv_iinc (v := (nI (i6x + 1))) (lv' := [(4, .int (nI (i6x + 1))), (1, .long ((v6_1 * (31 : Int64)) + (((fX3_of ρ (nI i5x) (nI i6x))).toInt64))), (3, .int (nI i5x)), (5, .int (nI 8)), (0, .ref (b 0))]) hx hb dX4_digest_176 hl (k := 1) rfl (nI_1 i6x) (by decide) rfl ?_
                      clear hl; intro ls hl
                      refine lv_goto (tgt := 151) hx hb dX4_digest_179 (by decide) ?_
                      have e : fX4_digest_b6 ρ i5x i6x v6_1 = ((v6_1 * (31 : Int64)) + (((fX3_of ρ (nI i5x) (nI i6x))).toInt64)) := by exact rfl
                      exact ih6 (i6x + 1) ((v6_1 * (31 : Int64)) + (((fX3_of ρ (nI i5x) (nI i6x))).toInt64)) (by omega) (by rw [← e]; exact hX6) _ _ hC ls (lv_sub hl [0, 2, 3, 1, 4] rfl)
                  exact loop6 9 0 v5_1 (by omega) rfl _ _ hC ls (lv_sub hl [0, 1, 2, 3, 4] rfl)
              exact loop5 N 0 v3_4 v3_1 (by omega) (by rw [wfn_eq hW]) _ _ hC ls (lv_sub hl [0, 1, 2, 3, 4] rfl)
            | succ n3x ih3 =>
              intro i3x v3_4 v3_1 σL3 hin3 hX3 H locs hC ls hl
              refine lv_iload_n hx hb dX4_digest_94 rfl (lv_at hl 0 rfl) ?_
              refine lv_iconst (v := 3) hx hb dX4_digest_95 (by decide) ?_
              refine lv_icmp_ge (tgt := 135) hx hb dX4_digest_96 (by decide) (fun c6 => absurd c6 (show ¬ (3 : Int32) ≤ nI i3x from (nI_ge (a := i3x) (b := 3) (by omega) (by decide) : ¬ nI 3 ≤ nI i3x))) (fun c6 => ?_)
              refine lv_iconst (v := 0) hx hb dX4_digest_99 (by decide) ?_
              refine lv_istore (lv' := [(4, .int (0 : Int32)), (3, .int (nI i3x)), (5, .int (nI 8)), (1, .long v3_1), (0, .ref (b 0))]) hx hb dX4_digest_100 hl (by decide) rfl ?_
              clear hl; intro ls hl
              have loop4 : ∀ (n4x i4x : Nat) (v4_1 : Int64) (σL4 : (Nat → Nat → Int32)), i4x + n4x = 4 → itR (fun i x => fX4_digest_b4 ρ i3x i x.1 x.2) i4x n4x (v4_1, σL4) = itR (fun i x => fX4_digest_b4 ρ i3x i x.1 x.2) 0 4 (v3_1, σL3) → ∀ (H : Heap) (locs : List Loc), rB D cI b S (rA b sz) S.heap H locs 1 θ1 σL4 ρ → ∀ ls : Array Slot, lv_has ls 7 [(4, .int (nI i4x)), (3, .int (nI i3x)), (5, .int (nI 8)), (1, .long v4_1), (0, .ref (b 0))] → W p l e (headSpec wsX4_digest rmX4_digest).room S m [.ref (b 0)].toArray below meth c H locs 0 0 (MQ below (va_Ql (fun r' (_ : Unit) => r' = (fX4_digest θ τ ρ).1) (rPost D cI b 1 (fX4_digest θ τ ρ).2.1 (fX4_digest θ τ ρ).2.2 ρ) (rA b sz)) [.ref (b 0)].toArray S 0 0 (rA b sz)) (F0 m 102 ls []) := by
                clear hC hl
                intro n4x
                induction n4x with
                | zero =>
                  intro i4x v4_1 σL4 hin4 hX4 H locs hC ls hl
                  obtain rfl : 4 = i4x := by omega
                  have q4 : fX4_digest_b3 ρ i3x v3_4 v3_1 σL3 = fX4_digest_k4 v4_1 σL4 := by unfold fX4_digest_b3; exact ((congrArg (fX4_digest_k4x) hX4.symm).trans rfl)
                  refine lv_iload hx hb dX4_digest_102 (lv_at hl 0 rfl) ?_
                  refine lv_iconst (v := 4) hx hb dX4_digest_104 (by decide) ?_
                  refine lv_icmp_ge (tgt := 129) hx hb dX4_digest_105 (by decide) (fun c9 => ?_) (fun c9 => absurd (by decide) c9)
                  refine lv_iinc (v := (nI (i3x + 1))) (lv' := [(3, .int (nI (i3x + 1))), (4, .int (nI 4)), (5, .int (nI 8)), (1, .long v4_1), (0, .ref (b 0))]) hx hb dX4_digest_129 hl (k := 1) rfl (nI_1 i3x) (by decide) rfl ?_
                  clear hl; intro ls hl
                  refine lv_goto (tgt := 94) hx hb dX4_digest_132 (by decide) ?_
                  have e0 : fX4_digest_k4 v4_1 σL4 = ((nI 4), v4_1, σL4) := by exact rfl
                  have e : fX4_digest_b3 ρ i3x v3_4 v3_1 σL3 = ((nI 4), v4_1, σL4) := (q4.trans e0)
                  exact ih3 (i3x + 1) (nI 4) v4_1 σL4 (by omega) (by rw [← e]; exact hX3) _ _ hC ls (lv_sub hl [0, 2, 1, 3, 4] rfl)
                | succ n4x ih4 =>
                  intro i4x v4_1 σL4 hin4 hX4 H locs hC ls hl
                  refine lv_iload hx hb dX4_digest_102 (lv_at hl 0 rfl) ?_
                  refine lv_iconst (v := 4) hx hb dX4_digest_104 (by decide) ?_
                  refine lv_icmp_ge (tgt := 129) hx hb dX4_digest_105 (by decide) (fun c7 => absurd c7 (show ¬ (4 : Int32) ≤ nI i4x from (nI_ge (a := i4x) (b := 4) (by omega) (by decide) : ¬ nI 4 ≤ nI i4x))) (fun c7 => ?_)
                  refine lv_lload_n hx hb dX4_digest_108 rfl (lv_at hl 3 rfl) ?_
                  refine lv_ldc2 hx hb hown h_l144 dX4_digest_109 ?_
                  refine lv_lmul hx hb dX4_digest_112 ?_
                  refine lv_aload_n hx hb dX4_digest_113 rfl (lv_at hl 4 rfl) ?_
                  refine lv_iload_n hx hb dX4_digest_114 rfl (lv_at hl 1 rfl) ?_
                  refine lv_iload hx hb dX4_digest_115 (lv_at hl 0 rfl) ?_
                  refine r_iVi (n := 2) hF (c_X4_potTold l D cI b θ1 σL4 ρ (nI i3x) (nI i4x) ⟨i3x, by omega, rfl⟩ N hW) gX4_digest_X4_potTold rfl rfl rfl (by decide +kernel) ⟨Nat.le_of_ble_eq_true rfl, Nat.le_of_ble_eq_true rfl⟩ hC hA hC.recvM rfl hl.1 rfl (Nat.le_of_ble_eq_true rfl) dX4_digest_117 ⟨Nat.zero_le _, Nat.zero_le _⟩ ?_
                  clear hC; intro H locs τ8 eτ8 hC
                  refine lv_i2l (v := ((fX4_potTold σL4 ρ (nI i3x) (nI i4x)).1).toInt64) hx hb dX4_digest_120 rfl ?_
                  refine lv_ladd hx hb dX4_digest_121 ?_
                  refine lv_lstore_n (lv' := [(1, .long ((v4_1 * (31 : Int64)) + (((fX4_potTold σL4 ρ (nI i3x) (nI i4x)).1).toInt64))), (4, .int (nI i4x)), (3, .int (nI i3x)), (5, .int (nI 8)), (0, .ref (b 0))]) hx hb dX4_digest_122 rfl hl (by decide) rfl ?_
                  clear hl; intro ls hl
                  refine lv_iinc (v := (nI (i4x + 1))) (lv' := [(4, .int (nI (i4x + 1))), (1, .long ((v4_1 * (31 : Int64)) + (((fX4_potTold σL4 ρ (nI i3x) (nI i4x)).1).toInt64))), (3, .int (nI i3x)), (5, .int (nI 8)), (0, .ref (b 0))]) hx hb dX4_digest_123 hl (k := 1) rfl (nI_1 i4x) (by decide) rfl ?_
                  clear hl; intro ls hl
                  refine lv_goto (tgt := 102) hx hb dX4_digest_126 (by decide) ?_
                  have e : fX4_digest_b4 ρ i3x i4x v4_1 σL4 = (((v4_1 * (31 : Int64)) + (((fX4_potTold σL4 ρ (nI i3x) (nI i4x)).1).toInt64)), τ8) := by subst eτ8; exact rfl
                  exact ih4 (i4x + 1) ((v4_1 * (31 : Int64)) + (((fX4_potTold σL4 ρ (nI i3x) (nI i4x)).1).toInt64)) τ8 (by omega) (by rw [← e]; exact hX4) _ _ hC ls (lv_sub hl [0, 2, 3, 1, 4] rfl)
              exact loop4 4 0 v3_1 σL3 (by omega) rfl _ _ hC ls (lv_sub hl [0, 1, 2, 3, 4] rfl)
          exact loop3 3 0 (8 : Int32) v2_1 τ (by omega) rfl _ _ hC ls (lv_sub hl [0, 1, 2, 3, 4] rfl)
        | succ n2x ih2 =>
          intro i2x v2_1 hin2 hX2 H locs hC ls hl
          refine lv_iload hx hb dX4_digest_63 (lv_at hl 0 rfl) ?_
          refine lv_iload hx hb dX4_digest_65 (lv_at hl 1 rfl) ?_
          refine lv_icmp_ge (tgt := 92) hx hb dX4_digest_67 (by decide) (fun c4 => absurd c4 (show ¬ (8 : Int32) ≤ nI i2x from (nI_ge (a := i2x) (b := 8) (by omega) (by decide) : ¬ nI 8 ≤ nI i2x))) (fun c4 => ?_)
          refine lv_aload_n hx hb dX4_digest_70 rfl (lv_at hl 2 rfl) ?_
          refine lv_iload hx hb dX4_digest_71 (lv_at hl 0 rfl) ?_
          refine r_fld hx hb hC (j := i2x) rfl (by omega) dX4_digest_73 ?_
          refine lv_istore (lv' := [(6, .int (θ1 1 i2x)), (5, .int (nI i2x)), (4, .int (8 : Int32)), (3, .ref (b 1)), (1, .long v2_1), (0, .ref (b 0))]) hx hb dX4_digest_74 hl (by decide) rfl ?_
          clear hl; intro ls hl
          refine lv_lload_n hx hb dX4_digest_76 rfl (lv_at hl 4 rfl) ?_
          refine lv_ldc2 hx hb hown h_l144 dX4_digest_77 ?_
          refine lv_lmul hx hb dX4_digest_80 ?_
          refine lv_iload hx hb dX4_digest_81 (lv_at hl 0 rfl) ?_
          refine lv_i2l (v := ((θ1 1 i2x)).toInt64) hx hb dX4_digest_83 rfl ?_
          refine lv_ladd hx hb dX4_digest_84 ?_
          refine lv_lstore_n (lv' := [(1, .long ((v2_1 * (31 : Int64)) + (((θ1 1 i2x)).toInt64))), (6, .int (θ1 1 i2x)), (5, .int (nI i2x)), (4, .int (8 : Int32)), (3, .ref (b 1)), (0, .ref (b 0))]) hx hb dX4_digest_85 rfl hl (by decide) rfl ?_
          clear hl; intro ls hl
          refine lv_iinc (v := (nI (i2x + 1))) (lv' := [(5, .int (nI (i2x + 1))), (1, .long ((v2_1 * (31 : Int64)) + (((θ1 1 i2x)).toInt64))), (6, .int (θ1 1 i2x)), (4, .int (8 : Int32)), (3, .ref (b 1)), (0, .ref (b 0))]) hx hb dX4_digest_86 hl (k := 2) rfl (nI_1 i2x) (by decide) rfl ?_
          clear hl; intro ls hl
          refine lv_goto (tgt := 63) hx hb dX4_digest_89 (by decide) ?_
          have e : fX4_digest_b2 θ1 i2x v2_1 = ((v2_1 * (31 : Int64)) + (((θ1 1 i2x)).toInt64)) := by exact rfl
          exact ih2 (i2x + 1) ((v2_1 * (31 : Int64)) + (((θ1 1 i2x)).toInt64)) (by omega) (by rw [← e]; exact hX2) _ _ hC ls (lv_sub hl [0, 3, 4, 1, 5] rfl)
      exact loop2 8 0 ((v1_1 * (31 : Int64)) + (((θ1 0 1)).toInt64)) (by omega) rfl _ _ hC ls (lv_sub hl [0, 1, 2, 3, 4] rfl)
    | succ n1x ih1 =>
      intro i1x v1_1 hin1 hX1 H locs hC ls hl
      refine lv_iload_n hx hb dX4_digest_11 rfl (lv_at hl 0 rfl) ?_
      refine lv_bipush (v := 13) hx hb dX4_digest_12 (by decide) ?_
      refine lv_icmp_ge (tgt := 39) hx hb dX4_digest_14 (by decide) (fun c2 => absurd c2 (show ¬ (13 : Int32) ≤ nI i1x from (nI_ge (a := i1x) (b := 13) (by omega) (by decide) : ¬ nI 13 ≤ nI i1x))) (fun c2 => ?_)
      refine lv_lload_n hx hb dX4_digest_17 rfl (lv_at hl 1 rfl) ?_
      refine lv_ldc2 hx hb hown h_l144 dX4_digest_18 ?_
      refine lv_lmul hx hb dX4_digest_21 ?_
      refine lv_aload_n hx hb dX4_digest_22 rfl (lv_at hl 2 rfl) ?_
      refine rg_w hx hb hts h_iX4 hown hC 0 (by decide) h_f22 dX4_digest_23 ?_
      refine lv_iload_n hx hb dX4_digest_26 rfl (lv_at hl 0 rfl) ?_
      refine r_iSi (n := 2) hF (c_X4_counted l D cI b 0 θ1 ρ τ (by decide) (nI i1x) N hW) gX4_digest_X4_counted rfl rfl rfl (by decide +kernel) ⟨Nat.le_of_ble_eq_true rfl, Nat.le_of_ble_eq_true rfl⟩ (hC.sw (by decide)) hA rfl hl.1 rfl (Nat.le_of_ble_eq_true rfl) dX4_digest_27 ⟨Nat.zero_le _, Nat.zero_le _⟩ ?_
      clear hC; intro H locs hC
      have hC := hC.sw (by decide)
      refine lv_i2l (v := ((fX4_counted ρ (nI i1x))).toInt64) hx hb dX4_digest_30 rfl ?_
      refine lv_ladd hx hb dX4_digest_31 ?_
      refine lv_lstore_n (lv' := [(1, .long ((v1_1 * (31 : Int64)) + (((fX4_counted ρ (nI i1x))).toInt64))), (3, .int (nI i1x)), (0, .ref (b 0))]) hx hb dX4_digest_32 rfl hl (by decide) rfl ?_
      clear hl; intro ls hl
      refine lv_iinc (v := (nI (i1x + 1))) (lv' := [(3, .int (nI (i1x + 1))), (1, .long ((v1_1 * (31 : Int64)) + (((fX4_counted ρ (nI i1x))).toInt64))), (0, .ref (b 0))]) hx hb dX4_digest_33 hl (k := 1) rfl (nI_1 i1x) (by decide) rfl ?_
      clear hl; intro ls hl
      refine lv_goto (tgt := 11) hx hb dX4_digest_36 (by decide) ?_
      have e : fX4_digest_b1 ρ i1x v1_1 = ((v1_1 * (31 : Int64)) + (((fX4_counted ρ (nI i1x))).toInt64)) := by exact rfl
      exact ih1 (i1x + 1) ((v1_1 * (31 : Int64)) + (((fX4_counted ρ (nI i1x))).toInt64)) (by omega) (by rw [← e]; exact hX1) _ _ hC ls (lv_sub hl [0, 1, 2] rfl)
  exact loop1 13 0 (1361 : Int64) (by omega) rfl _ _ hC ls (lv_sub hl [0, 1, 2] rfl)
