/-! THE LAW'S WORLD: the society, the law's own long, the model -/
theorem cW_sw {cI cM : ClassId} {a : Nat → Nat} {s : Nat} {σ ρ : Mm} (hs : s < 2) : cW cI cM a s σ ρ = cW cI cM a (1-s) ρ σ := gws_congr (fun k hk => by
    unfold cF
    by_cases h0 : k = 34
    · rw [if_pos h0, if_pos h0]
    · rw [if_neg h0, if_neg h0]
      by_cases hq : k/17 = s
      · simp only [fo, if_pos hq]
        rw [if_neg (by omega)]
      · simp only [fo, if_neg hq]
        rw [if_pos (by omega)])
theorem va_D.rgt {A : Nat → Prop} {x y : va_W} (h : va_D A (x ++ y)) : va_D A y :=
  ⟨fun k k' q q' h1 h2 e => by
    have h3 := h.1 _ _ q q' (ap_r h1) (ap_r h2) e
    omega, fun k q h1 => h.2 _ q (ap_r h1)⟩
abbrev lW (cI cM cL : ClassId) (a : Nat → Nat) (o : Nat) (b : Nat → Nat) (s : Nat) (σ ρ : Mm) (g : Nat → Int64) (j : Nat) (θ τ α : Mm) : va_W := cW cI cM a s σ ρ ++ (oW cL o g ++ rW cI b j θ τ α)
def lSt (U : State) : Prop := xN U ∧ rNw U ∧ xC U
theorem lSt.draw {S : State} (d : Drawn) (h : lSt S) : lSt (S.setDrawn d) := ⟨xN.moved (s := S) (U := S.setDrawn d) (State.WarmedH.refl S) h.1, rNw.moved (s := S) (U := S.setDrawn d) (State.WarmedH.refl S) h.2.1, xC.moved (s := S) (U := S.setDrawn d) (Vm.Alike.refl S.vm) h.2.2⟩
def lB (D : va_G) (cI cM cL : ClassId) (a : Nat → Nat) (o : Nat) (b : Nat → Nat) (S : State) (A : Nat → Prop) (H0 H : Heap) (locs : List Loc) (s : Nat) (σ ρ : Mm) (g : Nat → Int64) (j : Nat) (θ τ α : Mm) : Prop :=
  va_K D vwCl (hTys cI cM cL) S ∧ va_P D vwCl (lW cI cM cL a o b s σ ρ g j θ τ α) H ∧ va_D A (lW cI cM cL a o b s σ ρ g j θ τ α) ∧ va_S A H0 H locs ∧ xZ A S H
section LAWB
variable {D : va_G} {cI cM cL : ClassId} {a : Nat → Nat} {o : Nat} {b : Nat → Nat} {S : State} {A : Nat → Prop} {H0 H H1 : Heap} {locs locs1 : List Loc} {s : Nat} {σ ρ σ2 ρ2 : Mm} {g g2 : Nat → Int64} {j : Nat} {θ τ α θ2 τ2 : Mm}
theorem lB.draw (d : Drawn) (h : lB D cI cM cL a o b S A H0 H locs s σ ρ g j θ τ α) : lB D cI cM cL a o b (S.setDrawn d) A H0 H locs s σ ρ g j θ τ α :=
  ⟨va_K.moved (u := S) (U := S.setDrawn d) (Vm.Alike.refl S.vm) h.1, h.2.1, h.2.2.1, h.2.2.2.1, ⟨vx_Zq.moved (u := S) (U := S.setDrawn d) (Vm.Alike.refl S.vm) h.2.2.2.2.1, vx_Zq.moved (u := S) (U := S.setDrawn d) (Vm.Alike.refl S.vm) h.2.2.2.2.2⟩⟩
theorem lB.swC (hs : s < 2) (h : lB D cI cM cL a o b S A H0 H locs s σ ρ g j θ τ α) : lB D cI cM cL a o b S A H0 H locs (1-s) ρ σ g j θ τ α := by
  unfold lB lW at h ⊢
  rw [← cW_sw hs]
  exact h
theorem lB.swM (hj : j < 2) (h : lB D cI cM cL a o b S A H0 H locs s σ ρ g j θ τ α) : lB D cI cM cL a o b S A H0 H locs s σ ρ g (1-j) θ α τ := by
  unfold lB lW at h ⊢
  rw [← rW_sw hj]
  exact h
theorem lB.inC (h : lB D cI cM cL a o b S A H0 H locs s σ ρ g j θ τ α) {k : Nat} (hk : k < 35) : A (a k) := h.2.2.1.2 k _ (ap_l (gws_get hk))
theorem lB.inO (h : lB D cI cM cL a o b S A H0 H locs s σ ρ g j θ τ α) : A o := h.2.2.1.2 _ _ (ap_r (ap_l (k := 0) rfl))
theorem lB.inM (h : lB D cI cM cL a o b S A H0 H locs s σ ρ g j θ τ α) {k : Nat} (hk : k < 8) : A (b k) := h.2.2.1.2 _ _ (ap_r (ap_r (gws_get hk)))
theorem lB.freeH (h : lB D cI cM cL a o b S A H0 H locs s σ ρ g j θ τ α) (hA : ∀ q, H0.size ≤ q → A q) : ∀ q, hAl a o H.size q → A q := by
  intro q hq
  rcases hq with ⟨k, hk, rfl⟩ | rfl | hq
  · exact h.inC hk
  · exact h.inO
  · exact hA q (Nat.le_trans h.2.2.2.1.1 hq)
theorem lB.freeC (h : lB D cI cM cL a o b S A H0 H locs s σ ρ g j θ τ α) (hA : ∀ q, H0.size ≤ q → A q) : ∀ q, cA a H.size q → A q := by
  intro q hq
  rcases hq with ⟨k, hk, rfl⟩ | hq
  · exact h.inC hk
  · exact hA q (Nat.le_trans h.2.2.2.1.1 hq)
theorem lB.freeM (h : lB D cI cM cL a o b S A H0 H locs s σ ρ g j θ τ α) (hA : ∀ q, H0.size ≤ q → A q) : ∀ q, rA b H.size q → A q := by
  intro q hq
  rcases hq with ⟨k, hk, rfl⟩ | hq
  · exact h.inM hk
  · exact hA q (Nat.le_trans h.2.2.2.1.1 hq)
theorem lB.split (h : lB D cI cM cL a o b S A H0 H locs s σ ρ g j θ τ α) : va_P D vwCl ([] ++ (hW cI cM cL a o s σ ρ g ++ rW cI b j θ τ α)) H ∧ va_D A ([] ++ (hW cI cM cL a o s σ ρ g ++ rW cI b j θ τ α)) ∧ va_P D vwCl ((cW cI cM a s σ ρ ++ oW cL o g) ++ (rW cI b j θ τ α ++ [])) H ∧ va_D A ((cW cI cM a s σ ρ ++ oW cL o g) ++ (rW cI b j θ τ α ++ [])) := by
  have e1 : lW cI cM cL a o b s σ ρ g j θ τ α = [] ++ (hW cI cM cL a o s σ ρ g ++ rW cI b j θ τ α) := by
    unfold lW hW
    rw [List.nil_append, List.append_assoc]
  have e2 : lW cI cM cL a o b s σ ρ g j θ τ α = (cW cI cM a s σ ρ ++ oW cL o g) ++ (rW cI b j θ τ α ++ []) := by
    unfold lW
    rw [List.append_nil, List.append_assoc]
  exact ⟨e1 ▸ h.2.1, e1 ▸ h.2.2.1, e2 ▸ h.2.1, e2 ▸ h.2.2.1⟩
theorem lB.keepZ {B : Nat → Prop} (h : xZ A S H) (hk : ∀ q : Nat, q < H.size → ¬ B q → H1[q]? = H[q]?) (hB : ∀ q, B q → A q) : xZ A S H1 :=
  ⟨h.1.kept (fun q h1 h2 => hk q h1 (fun h => h2 (hB q h))), h.2.kept (fun q h1 h2 => hk q h1 (fun h => h2 (hB q h)))⟩
theorem lB.afterH (h : lB D cI cM cL a o b S A H0 H locs s σ ρ g j θ τ α) (hA : ∀ q, H0.size ≤ q → A q) (hk : ∀ q : Nat, q < H.size → ¬ hAl a o H.size q → H1[q]? = H[q]?) (hP1 : va_P D vwCl (hW cI cM cL a o s σ2 ρ2 g2) H1) (hS : va_S A H0 H1 locs1) : lB D cI cM cL a o b S A H0 H1 locs1 s σ2 ρ2 g2 j θ τ α := by
  obtain ⟨p1, p2, -, -⟩ := h.split
  obtain ⟨q1, q2⟩ := mid_join p1 p2 hk (fun q hq => by
    rcases hq with ⟨k, hk, rfl⟩ | ho | hq
    · exact Or.inl ⟨k, _, ap_l (gws_get hk), rfl⟩
    · exact Or.inl ⟨_, (o, .inl (cL, 1, .inr (.inl g))), ap_r (k := 0) rfl, ho.symm⟩
    · exact Or.inr hq) hP1 (by simp [hW, oW, cW, gws])
  have e : lW cI cM cL a o b s σ2 ρ2 g2 j θ τ α = [] ++ (hW cI cM cL a o s σ2 ρ2 g2 ++ rW cI b j θ τ α) := by
    unfold lW hW
    rw [List.nil_append, List.append_assoc]
  exact ⟨h.1, e ▸ q1, e ▸ q2, hS, lB.keepZ h.2.2.2.2 hk (h.freeH hA)⟩
theorem lB.afterC (h : lB D cI cM cL a o b S A H0 H locs s σ ρ g j θ τ α) (hA : ∀ q, H0.size ≤ q → A q) (hk : ∀ q : Nat, q < H.size → ¬ cA a H.size q → H1[q]? = H[q]?) (hP1 : va_P D vwCl (cW cI cM a s σ2 ρ2) H1) (hS : va_S A H0 H1 locs1) : lB D cI cM cL a o b S A H0 H1 locs1 s σ2 ρ2 g j θ τ α := by
  obtain ⟨q1, q2⟩ := mid_join (x := []) (A := A) h.2.1 h.2.2.1 hk (cA_in (cI := cI) (cM := cM) (s := s) (σ := σ) (ρ := ρ)) hP1 cW_addr
  exact ⟨h.1, q1, q2, hS, lB.keepZ h.2.2.2.2 hk (h.freeC hA)⟩
theorem lB.afterM (h : lB D cI cM cL a o b S A H0 H locs s σ ρ g j θ τ α) (hA : ∀ q, H0.size ≤ q → A q) (hk : ∀ q : Nat, q < H.size → ¬ rA b H.size q → H1[q]? = H[q]?) (hP1 : va_P D vwCl (rW cI b j θ2 τ2 α) H1) (hS : va_S A H0 H1 locs1) : lB D cI cM cL a o b S A H0 H1 locs1 s σ ρ g j θ2 τ2 α := by
  obtain ⟨-, -, p1, p2⟩ := h.split
  obtain ⟨q1, q2⟩ := mid_join p1 p2 hk (fun q hq => by
    rcases hq with ⟨k, hk, rfl⟩ | hq
    · exact Or.inl ⟨k, _, gws_get hk, rfl⟩
    · exact Or.inr hq) hP1 (by simp [rW, gws])
  have e : lW cI cM cL a o b s σ ρ g j θ2 τ2 α = (cW cI cM a s σ ρ ++ oW cL o g) ++ (rW cI b j θ2 τ2 α ++ []) := by
    unfold lW
    rw [List.append_nil, List.append_assoc]
  exact ⟨h.1, e ▸ q1, e ▸ q2, hS, lB.keepZ h.2.2.2.2 hk (h.freeM hA)⟩
theorem lB.preH (h : lB D cI cM cL a o b S A H0 H locs s σ ρ g j θ τ α) (hA : ∀ q, H0.size ≤ q → A q) (hN : lSt S) (av : List Value) : ∀ U : State, U.heap = H → S.WarmedH U.vm → va_Pc av (hPre D cI cM cL a o H.size s σ ρ g) av.toArray U := by
  intro U hU hW
  obtain ⟨p1, p2, -, -⟩ := h.split
  exact ⟨rfl, by rw [hU], va_K.moved hW.alike h.1, by rw [hU]; exact p1.right.left, (va_D.left (va_D.rgt p2)).weaken (fun _ _ _ _ => trivial), hN.1.moved hW, ⟨vx_Zq.moved hW.alike (by rw [hU]; exact h.2.2.2.2.1.narrow (h.freeH hA)), vx_Zq.moved hW.alike (by rw [hU]; exact h.2.2.2.2.2.narrow (h.freeH hA))⟩, hN.2.2.moved hW.alike⟩
theorem lB.preC (h : lB D cI cM cL a o b S A H0 H locs s σ ρ g j θ τ α) (av : List Value) : ∀ U : State, U.heap = H → S.WarmedH U.vm → va_Pc av (cPre D cI cM a H.size s σ ρ) av.toArray U := by
  intro U hU hW
  exact ⟨rfl, by rw [hU], va_K.moved hW.alike (h.1.sub [0, 1] rfl), by rw [hU]; exact h.2.1.left, h.2.2.1.left.weaken (fun _ _ _ _ => trivial)⟩
theorem lB.preM (h : lB D cI cM cL a o b S A H0 H locs s σ ρ g j θ τ α) (hN : lSt S) (av : List Value) : ∀ U : State, U.heap = H → S.WarmedH U.vm → va_Pc av (rPre D cI b H.size j θ τ α) av.toArray U := by
  intro U hU hW
  obtain ⟨-, -, p1, p2⟩ := h.split
  exact ⟨rfl, by rw [hU], va_K.moved hW.alike (h.1.sub [0] rfl), by rw [hU]; exact p1.right.left, (va_D.left (va_D.rgt p2)).weaken (fun _ _ _ _ => trivial), hN.2.1.moved hW⟩
theorem lB.recvC (h : lB D cI cM cL a o b S A H0 H locs s σ ρ g j θ τ α) : ∃ cell : Cell, H[a 34]? = some cell ∧ cell.vm.isStatics = false ∧ S.vm.findClass RX2 = some cell.cls := va_recv h.1 h.2.1.left (ci := 2) (q0 := 34) (fs := [.ref (a 0), .ref (a 17)]) rfl (gws_get (by omega))
theorem lB.recvM (h : lB D cI cM cL a o b S A H0 H locs s σ ρ g j θ τ α) : ∃ cell : Cell, H[b 0]? = some cell ∧ cell.vm.isStatics = false ∧ S.vm.findClass RX4 = some cell.cls := va_recv h.1 h.2.1.right.right (ci := 4) (q0 := 0) (fs := modL b θ) rfl (gws_get (by omega))
end LAWB
theorem CallFix.draw {p : Program} {m : MethodId} {c : Code} {cc : ByteArray} {nL : Nat} {S : State} {args : Array Value} {Ts : List Cond} {own : String} (d : Drawn) (F : CallFix p m c cc nL S args Ts own) : CallFix p m c cc nL (S.setDrawn d) args Ts own := ⟨F.1, F.2.1, F.2.2.1, F.2.2.2.1, dr_words F.2.2.2.2 d⟩
/-- what a helper answers and what the model answers meet -/
theorem agr_meet {k : Nat} {cs : List String} {sel : Mm × Mm → Mm} {ν σ ρ : Mm} {g : Nat → Int64} {res : (Int32 × Mm × Mm) ⊕ String} {r q : Int32} {u : Mm × Mm × (Nat → Int64)} {θ' τ' : Mm} (hne : ∀ x ∈ cs, codeOf cs 1 x ≠ 0) (hs : sel (σ, ρ) = ν) (h1 : hSp cs res σ ρ g r u) (h2 : Agr k cs sel ν res q θ' τ') : θ' 0 0 = r ∧ (r = 0 → u.2.2 0 = q.toInt64) ∧ Inv (k+1) (sel (u.1, u.2.1)) τ' θ' := by
  rcases h1 with ⟨v, e1, e2, e3⟩ | ⟨x, e1, e2, e3⟩
  · rcases h2 with ⟨w, d1, d2, d3⟩ | ⟨y, d1, -, -, -⟩
    · rw [e1] at d1
      injection d1 with d1
      injection d1 with d4 d5
      subst d4
      subst d5
      exact ⟨d2.trans e2.symm, fun _ => e3, d3⟩
    · rw [e1] at d1
      cases d1
  · rcases h2 with ⟨w, d1, -, -⟩ | ⟨y, d1, d2, d3, d4⟩
    · rw [e1] at d1
      cases d1
    · rw [e1] at d1
      injection d1 with d1
      subst d1
      subst e3
      refine ⟨d3.trans e2.symm, fun h0 => absurd (e2.symm.trans h0) (hne x d2), ?_⟩
      show Inv (k+1) (sel (σ, ρ)) τ' θ'
      rw [hs]
      exact d4
theorem Agr.cs {k : Nat} {cs : List String} {sel : Mm × Mm → Mm} {ν : Mm} {res : (Int32 × Mm × Mm) ⊕ String} {q : Int32} {θ' τ' : Mm} (h : Agr k cs sel ν res q θ' τ') : ∀ x, res = .inr x → x ∈ cs := by
  intro x hx
  rcases h with ⟨w, d1, -, -⟩ | ⟨y, d1, d2, -, -⟩
  · rw [hx] at d1
    cases d1
  · rw [hx] at d1
    injection d1 with d1
    rw [d1]
    exact d2
theorem l_cmp0 (x : Int64) : lg_cmp x x = 0 := by
  unfold lg_cmp
  rw [if_neg (fun h => absurd h (Int64.lt_irrefl)), if_pos rfl]
theorem l_ix {k L : Nat} {j : Nat} (hL : L ≤ 2048) (h : 4*k+4 ≤ L) (hj : j < 4) : vp_in (nI (4*k) + nI j) L := by
  rw [nI_add]
  exact vp_in_nI (by omega) (by omega)
theorem mean_meet {z z' : Prop} {U V U' V' : Int32} {x y : UInt64} (hz : z ↔ z') (hU : U = U') (hV : V = V') (h1 : mQ z U V x) (h2 : mQ z' U' V' y) : x = y ∨ (isNaN64 x = true ∧ isNaN64 y = true) := by
  subst hU
  subst hV
  rcases h1 with ⟨a1, a2⟩ | ⟨a1, a2⟩
  · rcases h2 with ⟨b1, b2⟩ | ⟨b1, b2⟩
    · exact Or.inl (a2.trans b2.symm)
    · exact absurd (hz.mp a1) b1
  · rcases h2 with ⟨b1, b2⟩ | ⟨b1, b2⟩
    · exact absurd (hz.mpr b1) a1
    · unfold alike64 at a2 b2
      generalize FP.ddiv (FP.i2d U) (FP.i2d V) = w at a2 b2
      simp only [Bool.or_eq_true, Bool.and_eq_true, beq_iff_eq, decide_eq_true_eq] at a2 b2
      rcases a2 with rfl | ⟨c1, c2⟩
      · rcases b2 with rfl | ⟨d1, d2⟩
        · exact Or.inl rfl
        · exact Or.inr ⟨d2, d1⟩
      · rcases b2 with rfl | ⟨d1, d2⟩
        · exact Or.inr ⟨c1, c2⟩
        · exact Or.inr ⟨c1, d1⟩
theorem nan_cmp {p : UInt64} (h : isNaN64 p = true) : ¬ Op.cmpValue (FP.dcmp p p) .l = 0 := by
  rw [nan_dcmp h]
  decide
