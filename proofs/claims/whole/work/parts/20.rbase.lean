/-! THE REFERENCE'S WORLD: the model at 0, its fevers at 1, State t at 3 t + 2, its heat and its rows behind it -/
abbrev staL (b : Nat → Nat) (t : Nat) (τ : Nat → Nat → Int32) : List Value := [.int (τ 0 0), .int (τ 0 1), .int (τ 0 2), .int (τ 0 3), .int (τ 0 4), .int (τ 0 5), .int (τ 0 6), .int (τ 0 7), .int (τ 0 8), .ref (b (3*t+3)), .ref (b (3*t+4)), .ref (b 0)]
abbrev modL (b : Nat → Nat) (θ : Nat → Nat → Int32) : List Value := [.int (θ 0 0), .int (θ 0 1), .ref (b 1), .ref (b (3*0+2)), .ref (b (3*1+2))]
def rR (cI : ClassId) (b : Nat → Nat) (t r : Nat) (τ : Nat → Nat → Int32) : va_E := match r with
  | 0 => .inr (3, staL b t τ)
  | 1 => .inl (cI, 3, .inl (τ 1))
  | _ => .inl (cI, 108, .inl (τ 2))
def rF (cI : ClassId) (b : Nat → Nat) (θ : Nat → Nat → Int32) (ω : Nat → Nat → Nat → Int32) (k : Nat) : va_E := if k = 0 then .inr (4, modL b θ) else if k = 1 then .inl (cI, 8, .inl (θ 1)) else rR cI b ((k-2)/3) ((k-2)%3) (ω ((k-2)/3))
theorem rF_at {cI : ClassId} {b : Nat → Nat} {s r : Nat} {θ τ ρ : Nat → Nat → Int32} (hr : r < 3) : rF cI b θ (fo s τ ρ) (3*s+2+r) = rR cI b s r τ := by
  unfold rF
  rw [if_neg (by omega), if_neg (by omega), show (3*s+2+r-2)/3 = s by omega, show (3*s+2+r-2)%3 = r by omega]
  simp [fo]
theorem rR_row {cI : ClassId} {b : Nat → Nat} {t r : Nat} {τ τ' : Nat → Nat → Int32} (hr : r < 3) (h : τ' r = τ r) : rR cI b t r τ' = rR cI b t r τ := by
  rcases (show r = 0 ∨ r = 1 ∨ r = 2 by omega) with rfl | rfl | rfl <;> simp [rR, staL, h]
theorem rF_off {cI : ClassId} {b : Nat → Nat} {s r : Nat} {θ τ τ' ρ : Nat → Nat → Int32} (h : ∀ r', r' ≠ r → τ' r' = τ r') : ∀ j, j < 8 → j ≠ 3*s+2+r → rF cI b θ (fo s τ' ρ) j = rF cI b θ (fo s τ ρ) j := by
  intro j hj hne
  unfold rF
  by_cases h0 : j = 0
  · rw [if_pos h0, if_pos h0]
  · rw [if_neg h0, if_neg h0]
    by_cases h1 : j = 1
    · rw [if_pos h1, if_pos h1]
    · rw [if_neg h1, if_neg h1]
      by_cases hq : (j-2)/3 = s
      · rw [hq]
        simp only [fo, if_true]
        exact rR_row (by omega) (h _ (by omega))
      · simp only [fo, if_neg hq]
theorem rF_offM {cI : ClassId} {b : Nat → Nat} {θ θ' : Nat → Nat → Int32} {ω : Nat → Nat → Nat → Int32} {k : Nat} (h : ∀ r', r' ≠ k → θ' r' = θ r') : ∀ j, j < 8 → j ≠ k → rF cI b θ' ω j = rF cI b θ ω j := by
  intro j hj hne
  unfold rF
  by_cases h0 : j = 0
  · rw [if_pos h0, if_pos h0]
    simp [modL, h 0 (fun e => hne (by omega))]
  · rw [if_neg h0, if_neg h0]
    by_cases h1 : j = 1
    · rw [if_pos h1, if_pos h1, h 1 (fun e => hne (by omega))]
    · rw [if_neg h1, if_neg h1]
theorem staL_at {b : Nat → Nat} {t : Nat} {τ : Nat → Nat → Int32} {k : Nat} (hk : k < 9) : (staL b t τ)[k]? = some (.int (τ 0 k)) := by
  rcases (show k = 0 ∨ k = 1 ∨ k = 2 ∨ k = 3 ∨ k = 4 ∨ k = 5 ∨ k = 6 ∨ k = 7 ∨ k = 8 by omega) with rfl | rfl | rfl | rfl | rfl | rfl | rfl | rfl | rfl <;> rfl
theorem staL_set {b : Nat → Nat} {t k : Nat} {τ : Nat → Nat → Int32} {v : Int32} (hk : k < 9) : staL b t (up2 τ 0 k v) = (staL b t τ).set k (.int v) := by
  rcases (show k = 0 ∨ k = 1 ∨ k = 2 ∨ k = 3 ∨ k = 4 ∨ k = 5 ∨ k = 6 ∨ k = 7 ∨ k = 8 by omega) with rfl | rfl | rfl | rfl | rfl | rfl | rfl | rfl | rfl <;> simp [staL, up2]
theorem staL_ref {b : Nat → Nat} {t : Nat} {τ : Nat → Nat → Int32} {j : Nat} (hj : j < 2) : (staL b t τ)[9+j]? = some (.ref (b (3*t+2+(j+1)))) := by
  rcases (show j = 0 ∨ j = 1 by omega) with rfl | rfl <;> rfl
theorem modL_at {b : Nat → Nat} {θ : Nat → Nat → Int32} {k : Nat} (hk : k < 2) : (modL b θ)[k]? = some (.int (θ 0 k)) := by
  rcases (show k = 0 ∨ k = 1 by omega) with rfl | rfl <;> rfl
theorem modL_set {b : Nat → Nat} {k : Nat} {θ : Nat → Nat → Int32} {v : Int32} (hk : k < 2) : modL b (up2 θ 0 k v) = (modL b θ).set k (.int v) := by
  rcases (show k = 0 ∨ k = 1 by omega) with rfl | rfl <;> simp [modL, up2]
theorem TX3_int {k : Nat} (hk : k < 8) : (TX3 k).2.2.2 = false ∧ parseFieldDescriptor (TX3 k).2.2.1 = some .int := by
  rcases (show k = 0 ∨ k = 1 ∨ k = 2 ∨ k = 3 ∨ k = 4 ∨ k = 5 ∨ k = 6 ∨ k = 7 by omega) with rfl | rfl | rfl | rfl | rfl | rfl | rfl | rfl <;> exact ⟨rfl, tyX3_ok _ (by omega)⟩
theorem TX4_int {k : Nat} (hk : k < 2) : (TX4 k).2.2.2 = false ∧ parseFieldDescriptor (TX4 k).2.2.1 = some .int := by
  rcases (show k = 0 ∨ k = 1 by omega) with rfl | rfl <;> exact ⟨rfl, tyX4_ok _ (by omega)⟩
/-- the words of private members across the nest, which no list holds -/
abbrev nw101 : Cond := .fieldLinkNest "CombersSocietyModel" 101 "CombersSocietyModel$State" "heat" "[I" "CombersSocietyModel"
abbrev nw113 : Cond := .fieldLinkNest "CombersSocietyModel" 113 "CombersSocietyModel$State" "week" "I" "CombersSocietyModel"
abbrev nw122 : Cond := .fieldLinkNest "CombersSocietyModel" 122 "CombersSocietyModel$State" "nursed" "I" "CombersSocietyModel"
abbrev nw125 : Cond := .fieldLinkNest "CombersSocietyModel" 125 "CombersSocietyModel$State" "buried" "I" "CombersSocietyModel"
abbrev nw138 : Cond := .fieldLinkNest "CombersSocietyModel" 138 "CombersSocietyModel$State" "isShort" "Z" "CombersSocietyModel"
abbrev nw32 : Cond := .fieldLinkNest "CombersSocietyModel" 32 "CombersSocietyModel$State" "members" "I" "CombersSocietyModel"
abbrev nw50 : Cond := .fieldLinkNest "CombersSocietyModel" 50 "CombersSocietyModel$State" "rows" "[I" "CombersSocietyModel"
abbrev nw76 : Cond := .fieldLinkNest "CombersSocietyModel" 76 "CombersSocietyModel$State" "box" "I" "CombersSocietyModel"
abbrev nw79 : Cond := .fieldLinkNest "CombersSocietyModel" 79 "CombersSocietyModel$State" "coals" "I" "CombersSocietyModel"
abbrev nw82 : Cond := .fieldLinkNest "CombersSocietyModel" 82 "CombersSocietyModel$State" "wool" "I" "CombersSocietyModel"
abbrev nw85 : Cond := .fieldLinkNest "CombersSocietyModel" 85 "CombersSocietyModel$State" "tops" "I" "CombersSocietyModel"
abbrev nw84 : Cond := .fieldLinkNest "CombersSocietyModel$State" 84 "CombersSocietyModel" "fevers" "[I" "CombersSocietyModel"
abbrev nw94 : Cond := .fieldLinkNest "CombersSocietyModel$State" 94 "CombersSocietyModel" "dues" "I" "CombersSocietyModel"
abbrev nw19 : Cond := .methodLinkNest "CombersSocietyModel" 19 ⟨"CombersSocietyModel$State", "<init>", "(LCombersSocietyModel;)V"⟩ "CombersSocietyModel"
def rNw (U : State) : Prop := va_Nw nw101 U ∧ va_Nw nw113 U ∧ va_Nw nw122 U ∧ va_Nw nw125 U ∧ va_Nw nw138 U ∧ va_Nw nw32 U ∧ va_Nw nw50 U ∧ va_Nw nw76 U ∧ va_Nw nw79 U ∧ va_Nw nw82 U ∧ va_Nw nw85 U ∧ va_Nw nw84 U ∧ va_Nw nw94 U ∧ va_Nw nw19 U
theorem rNw.moved {s U : State} (hW : s.WarmedH U.vm) (h : rNw s) : rNw U := by
  obtain ⟨h0, h1, h2, h3, h4, h5, h6, h7, h8, h9, h10, h11, h12, h13⟩ := h
  exact ⟨va_Nw.warmF hW h0, va_Nw.warmF hW h1, va_Nw.warmF hW h2, va_Nw.warmF hW h3, va_Nw.warmF hW h4, va_Nw.warmF hW h5, va_Nw.warmF hW h6, va_Nw.warmF hW h7, va_Nw.warmF hW h8, va_Nw.warmF hW h9, va_Nw.warmF hW h10, va_Nw.warmF hW h11, va_Nw.warmF hW h12, va_Nw.warmM hW h13⟩
theorem rNw.calling {u : State} {g : JFrame} {mk : MethodId} {a : Array Value} (h : rNw u) : rNw (u.calling g mk a) := by
  obtain ⟨h0, h1, h2, h3, h4, h5, h6, h7, h8, h9, h10, h11, h12, h13⟩ := h
  exact ⟨va_Nw.same rfl rfl h0, va_Nw.same rfl rfl h1, va_Nw.same rfl rfl h2, va_Nw.same rfl rfl h3, va_Nw.same rfl rfl h4, va_Nw.same rfl rfl h5, va_Nw.same rfl rfl h6, va_Nw.same rfl rfl h7, va_Nw.same rfl rfl h8, va_Nw.same rfl rfl h9, va_Nw.same rfl rfl h10, va_Nw.same rfl rfl h11, va_Nw.same rfl rfl h12, va_Nw.same rfl rfl h13⟩
theorem rNw.nw101 {U : State} (h : rNw U) : va_Nw nw101 U := h.1
theorem rNw.nw113 {U : State} (h : rNw U) : va_Nw nw113 U := h.2.1
theorem rNw.nw122 {U : State} (h : rNw U) : va_Nw nw122 U := h.2.2.1
theorem rNw.nw125 {U : State} (h : rNw U) : va_Nw nw125 U := h.2.2.2.1
theorem rNw.nw138 {U : State} (h : rNw U) : va_Nw nw138 U := h.2.2.2.2.1
theorem rNw.nw32 {U : State} (h : rNw U) : va_Nw nw32 U := h.2.2.2.2.2.1
theorem rNw.nw50 {U : State} (h : rNw U) : va_Nw nw50 U := h.2.2.2.2.2.2.1
theorem rNw.nw76 {U : State} (h : rNw U) : va_Nw nw76 U := h.2.2.2.2.2.2.2.1
theorem rNw.nw79 {U : State} (h : rNw U) : va_Nw nw79 U := h.2.2.2.2.2.2.2.2.1
theorem rNw.nw82 {U : State} (h : rNw U) : va_Nw nw82 U := h.2.2.2.2.2.2.2.2.2.1
theorem rNw.nw85 {U : State} (h : rNw U) : va_Nw nw85 U := h.2.2.2.2.2.2.2.2.2.2.1
theorem rNw.nw84 {U : State} (h : rNw U) : va_Nw nw84 U := h.2.2.2.2.2.2.2.2.2.2.2.1
theorem rNw.nw94 {U : State} (h : rNw U) : va_Nw nw94 U := h.2.2.2.2.2.2.2.2.2.2.2.2.1
theorem rNw.nw19 {U : State} (h : rNw U) : va_Nw nw19 U := h.2.2.2.2.2.2.2.2.2.2.2.2.2
abbrev rTys (cI : ClassId) : List (ClassId × FieldType) := [(cI, .int)]
abbrev rW (cI : ClassId) (b : Nat → Nat) (s : Nat) (θ τ ρ : Nat → Nat → Int32) : va_W := gws 8 b (rF cI b θ (fo s τ ρ))
/-- the reference's world, seen from State s, which holds τ; the other holds ρ; the model's own θ: thrown and dues in row 0, fevers in row 1 -/
def rB (D : va_G) (cI : ClassId) (b : Nat → Nat) (U : State) (A : Nat → Prop) (H0 H : Heap) (locs : List Loc) (s : Nat) (θ τ ρ : Nat → Nat → Int32) : Prop :=
  va_K D vwCl (rTys cI) U ∧ va_P D vwCl (rW cI b s θ τ ρ) H ∧ va_D A (rW cI b s θ τ ρ) ∧ va_S A H0 H locs ∧ rNw U
theorem rB.get {cI : ClassId} {b : Nat → Nat} {s r : Nat} {θ τ ρ : Nat → Nat → Int32} (hs : s < 2) (hr : r < 3) : (rW cI b s θ τ ρ)[3*s+2+r]? = some (b (3*s+2+r), rR cI b s r τ) := by
  rw [gws_get (by omega), rF_at hr]
theorem rB.set {D : va_G} {cI : ClassId} {b : Nat → Nat} {U : State} {A : Nat → Prop} {H0 H H1 : Heap} {locs locs1 : List Loc} {s r : Nat} {θ τ τ' ρ : Nat → Nat → Int32} {e : va_E} (hC : rB D cI b U A H0 H locs s θ τ ρ) (hs : s < 2) (hr : r < 3) (he : rR cI b s r τ' = e) (ho : ∀ r', r' ≠ r → τ' r' = τ r')
    (hP : va_P D vwCl ((rW cI b s θ τ ρ).set (3*s+2+r) (b (3*s+2+r), e)) H1) (hD : va_D A ((rW cI b s θ τ ρ).set (3*s+2+r) (b (3*s+2+r), e))) (hS : va_S A H0 H1 locs1) : rB D cI b U A H0 H1 locs1 s θ τ' ρ := by
  have h : (rW cI b s θ τ ρ).set (3*s+2+r) (b (3*s+2+r), e) = rW cI b s θ τ' ρ := gws_set (by omega) (by rw [rF_at hr]; exact he) (rF_off ho)
  rw [h] at hP hD
  exact ⟨hC.1, hP, hD, hS, hC.2.2.2.2⟩
theorem rB.setM {D : va_G} {cI : ClassId} {b : Nat → Nat} {U : State} {A : Nat → Prop} {H0 H H1 : Heap} {locs locs1 : List Loc} {s k : Nat} {θ θ' τ ρ : Nat → Nat → Int32} {e : va_E} (hC : rB D cI b U A H0 H locs s θ τ ρ) (hk : k < 2) (he : rF cI b θ' (fo s τ ρ) k = e) (ho : ∀ r', r' ≠ k → θ' r' = θ r')
    (hP : va_P D vwCl ((rW cI b s θ τ ρ).set k (b k, e)) H1) (hD : va_D A ((rW cI b s θ τ ρ).set k (b k, e))) (hS : va_S A H0 H1 locs1) : rB D cI b U A H0 H1 locs1 s θ' τ ρ := by
  have h : (rW cI b s θ τ ρ).set k (b k, e) = rW cI b s θ' τ ρ := gws_set (by omega) he (rF_offM ho)
  rw [h] at hP hD
  exact ⟨hC.1, hP, hD, hS, hC.2.2.2.2⟩
theorem rB.sw {D : va_G} {cI : ClassId} {b : Nat → Nat} {S : State} {A : Nat → Prop} {H0 H : Heap} {locs : List Loc} {s : Nat} {θ τ ρ : Nat → Nat → Int32} (hC : rB D cI b S A H0 H locs s θ τ ρ) (hs : s < 2) : rB D cI b S A H0 H locs (1-s) θ ρ τ := by
  have h : rW cI b s θ τ ρ = rW cI b (1-s) θ ρ τ := gws_congr (fun k hk => by
    unfold rF
    by_cases h0 : k = 0
    · rw [if_pos h0, if_pos h0]
    · rw [if_neg h0, if_neg h0]
      by_cases h1 : k = 1
      · rw [if_pos h1, if_pos h1]
      · rw [if_neg h1, if_neg h1]
        by_cases hq : (k-2)/3 = s
        · simp only [fo, if_pos hq]
          rw [if_neg (by omega)]
        · simp only [fo, if_neg hq]
          rw [if_pos (by omega)])
  unfold rB
  rw [← h]
  exact hC
theorem rR_arr {cI : ClassId} {b : Nat → Nat} {t r : Nat} {τ : Nat → Nat → Int32} (h1 : 1 ≤ r) (h3 : r ≤ 2) : rR cI b t r τ = .inl (cI, (if r = 1 then 3 else 108), .inl (τ r)) := by
  rcases (show r = 1 ∨ r = 2 by omega) with rfl | rfl <;> rfl
section RROWS
variable {p : Program} {l : Launch} {e : Env} {R : Room} {S : State} {m : MethodId} {args : Array Value} {below : List Frame} {meth : Method} {c : Code} {H : Heap} {locs : List Loc} {cells slots : Nat} {Q : State → Prop}
variable {cc : ByteArray} {pc : Nat} {ls : Array Slot} {rest : List Value} {D : va_G} {cI : ClassId} {b : Nat → Nat} {A : Nat → Prop} {H0 : Heap} {s : Nat} {θ τ ρ : Nat → Nat → Int32} {own : String} {index : Nat} {Ts : List Cond}
theorem rg_s (hexec : p.tables.exec = Jvm.exec) (hb : c.code = cc) (hts : ∀ w ∈ Ts, w.before args S = true) (hin : ∀ w ∈ u_ws RX3 TX3 12, w ∈ Ts) (hown : S.vm.findClass own = some m.cls) (hC : rB D cI b S A H0 H locs s θ τ ρ) (hs : s < 2) (k : Nat) (hk : k < 9)
    (hlink : (Cond.fieldLink own index "CombersSocietyModel$State" (TX3 (k)).2.1 (TX3 (k)).2.2.1).before args S = true) (hdg : decode cc pc = .ok (.getfield index, 3))
    (kk : W p l e R S m args below meth c H locs cells slots Q (F0 m (pc + 3) ls (.int (τ 0 k) :: rest))) : W p l e R S m args below meth c H locs cells slots Q (F0 m pc ls (.ref (b (3*s+2+0)) :: rest)) := by
  obtain ⟨hK, hP, hD, hS, hN⟩ := hC
  exact va_get (D := D) (ci := 3) (C := RX3) (T := TX3) (N := 12) hexec hb hts hin hown hK hP (3*s+2+0) (rB.get hs (by omega)) rfl (k) (by omega) hlink (fun x hx => by rw [TX3_own] at hx; exact hx) (staL_at hk) hdg kk
theorem rg_r (hexec : p.tables.exec = Jvm.exec) (hb : c.code = cc) (hts : ∀ w ∈ Ts, w.before args S = true) (hin : ∀ w ∈ u_ws RX3 TX3 12, w ∈ Ts) (hown : S.vm.findClass own = some m.cls) (hC : rB D cI b S A H0 H locs s θ τ ρ) (hs : s < 2) (j : Nat) (hj : j < 2)
    (hlink : (Cond.fieldLink own index "CombersSocietyModel$State" (TX3 (9+j)).2.1 (TX3 (9+j)).2.2.1).before args S = true) (hdg : decode cc pc = .ok (.getfield index, 3))
    (kk : W p l e R S m args below meth c H locs cells slots Q (F0 m (pc + 3) ls (.ref (b (3*s+2+(j+1))) :: rest))) : W p l e R S m args below meth c H locs cells slots Q (F0 m pc ls (.ref (b (3*s+2+0)) :: rest)) := by
  obtain ⟨hK, hP, hD, hS, hN⟩ := hC
  exact va_get (D := D) (ci := 3) (C := RX3) (T := TX3) (N := 12) hexec hb hts hin hown hK hP (3*s+2+0) (rB.get hs (by omega)) rfl (9+j) (by omega) hlink (fun x hx => by rw [TX3_own] at hx; exact hx) (staL_ref hj) hdg kk
theorem rp_s (hexec : p.tables.exec = Jvm.exec) (hb : c.code = cc) (hts : ∀ w ∈ Ts, w.before args S = true) (hin : ∀ w ∈ u_ws RX3 TX3 12, w ∈ Ts) (hown : S.vm.findClass own = some m.cls) (hC : rB D cI b S A H0 H locs s θ τ ρ) (hs : s < 2) (k : Nat) (hk : k < 8) {v : Int32}
    (hlink : (Cond.fieldLink own index "CombersSocietyModel$State" (TX3 (k)).2.1 (TX3 (k)).2.2.1).before args S = true) (hdg : decode cc pc = .ok (.putfield index, 3))
    (kk : ∀ (H : Heap) (locs : List Loc) (τ1 : Nat → Nat → Int32), up2 τ 0 k v = τ1 → rB D cI b S A H0 H locs s θ τ1 ρ → W p l e R S m args below meth c H locs cells slots Q (F0 m (pc + 3) ls rest)) : W p l e R S m args below meth c H locs cells slots Q (F0 m pc ls (.int v :: .ref (b (3*s+2+0)) :: rest)) := by
  have hC0 := hC
  obtain ⟨hK, hP, hD, hS, hN⟩ := hC
  exact va_put (D := D) (ci := 3) (v := .int v) (ty := .int) (C := RX3) (T := TX3) (N := 12) hexec hb hts hin tyX3 tyX3_ok nmX3 hown hK hP hD hS (3*s+2+0) (rB.get hs (by omega)) rfl (k) (by omega) hlink (fun x hx => by rw [TX3_own] at hx; exact hx) (TX3_int hk).1 (TX3_int hk).2 rfl rfl (by show k < 12; omega) hdg
    (fun H1 locs1 hP1 hD1 hS1 => kk H1 locs1 _ rfl (hC0.set hs (by omega) (show rR cI b s 0 (up2 τ 0 k v) = .inr (3, (staL b s τ).set k (.int v)) by rw [← staL_set (by omega)]; rfl) (fun r' h' => up2_row h') hP1 hD1 hS1))
theorem rp_sb (hexec : p.tables.exec = Jvm.exec) (hb : c.code = cc) (hts : ∀ w ∈ Ts, w.before args S = true) (hin : ∀ w ∈ u_ws RX3 TX3 12, w ∈ Ts) (hown : S.vm.findClass own = some m.cls) (hC : rB D cI b S A H0 H locs s θ τ ρ) (hs : s < 2) {v : Int32} (hv : v = 0 ∨ v = 1)
    (hlink : (Cond.fieldLink own index "CombersSocietyModel$State" (TX3 (8)).2.1 (TX3 (8)).2.2.1).before args S = true) (hdg : decode cc pc = .ok (.putfield index, 3))
    (kk : ∀ (H : Heap) (locs : List Loc) (τ1 : Nat → Nat → Int32), up2 τ 0 8 v = τ1 → rB D cI b S A H0 H locs s θ τ1 ρ → W p l e R S m args below meth c H locs cells slots Q (F0 m (pc + 3) ls rest)) : W p l e R S m args below meth c H locs cells slots Q (F0 m pc ls (.int v :: .ref (b (3*s+2+0)) :: rest)) := by
  have hC0 := hC
  obtain ⟨hK, hP, hD, hS, hN⟩ := hC
  exact va_put (D := D) (ci := 3) (v := .int v) (ty := .boolean) (C := RX3) (T := TX3) (N := 12) hexec hb hts hin tyX3 tyX3_ok nmX3 hown hK hP hD hS (3*s+2+0) (rB.get hs (by omega)) rfl (8) (by omega) hlink (fun x hx => by rw [TX3_own] at hx; exact hx) rfl (tyX3_ok 8 (by omega)) (by rcases hv with rfl | rfl <;> rfl) (by rcases hv with rfl | rfl <;> rfl) (by show 8 < 12; omega) hdg
    (fun H1 locs1 hP1 hD1 hS1 => kk H1 locs1 _ rfl (hC0.set hs (by omega) (show rR cI b s 0 (up2 τ 0 8 v) = .inr (3, (staL b s τ).set 8 (.int v)) by rw [← staL_set (by omega)]; rfl) (fun r' h' => up2_row h') hP1 hD1 hS1))
theorem rg_m (hexec : p.tables.exec = Jvm.exec) (hb : c.code = cc) (hts : ∀ w ∈ Ts, w.before args S = true) (hin : ∀ w ∈ u_ws RX4 TX4 5, w ∈ Ts) (hown : S.vm.findClass own = some m.cls) (hC : rB D cI b S A H0 H locs s θ τ ρ) (k : Nat) (hk : k < 2)
    (hlink : (Cond.fieldLink own index "CombersSocietyModel" (TX4 (k)).2.1 (TX4 (k)).2.2.1).before args S = true) (hdg : decode cc pc = .ok (.getfield index, 3))
    (kk : W p l e R S m args below meth c H locs cells slots Q (F0 m (pc + 3) ls (.int (θ 0 k) :: rest))) : W p l e R S m args below meth c H locs cells slots Q (F0 m pc ls (.ref (b 0) :: rest)) := by
  obtain ⟨hK, hP, hD, hS, hN⟩ := hC
  exact va_get (D := D) (ci := 4) (C := RX4) (T := TX4) (N := 5) hexec hb hts hin hown hK hP (0) (gws_get (by omega)) rfl (k) (by omega) hlink (fun x hx => by rw [TX4_own] at hx; exact hx) (modL_at hk) hdg kk
theorem rg_f (hexec : p.tables.exec = Jvm.exec) (hb : c.code = cc) (hts : ∀ w ∈ Ts, w.before args S = true) (hin : ∀ w ∈ u_ws RX4 TX4 5, w ∈ Ts) (hown : S.vm.findClass own = some m.cls) (hC : rB D cI b S A H0 H locs s θ τ ρ) 
    (hlink : (Cond.fieldLink own index "CombersSocietyModel" (TX4 (2)).2.1 (TX4 (2)).2.2.1).before args S = true) (hdg : decode cc pc = .ok (.getfield index, 3))
    (kk : W p l e R S m args below meth c H locs cells slots Q (F0 m (pc + 3) ls (.ref (b 1) :: rest))) : W p l e R S m args below meth c H locs cells slots Q (F0 m pc ls (.ref (b 0) :: rest)) := by
  obtain ⟨hK, hP, hD, hS, hN⟩ := hC
  exact va_get (D := D) (ci := 4) (C := RX4) (T := TX4) (N := 5) hexec hb hts hin hown hK hP (0) (gws_get (by omega)) rfl (2) (by omega) hlink (fun x hx => by rw [TX4_own] at hx; exact hx) (rfl) hdg kk
theorem rp_m (hexec : p.tables.exec = Jvm.exec) (hb : c.code = cc) (hts : ∀ w ∈ Ts, w.before args S = true) (hin : ∀ w ∈ u_ws RX4 TX4 5, w ∈ Ts) (hown : S.vm.findClass own = some m.cls) (hC : rB D cI b S A H0 H locs s θ τ ρ) (k : Nat) (hk : k < 2) {v : Int32}
    (hlink : (Cond.fieldLink own index "CombersSocietyModel" (TX4 (k)).2.1 (TX4 (k)).2.2.1).before args S = true) (hdg : decode cc pc = .ok (.putfield index, 3))
    (kk : ∀ (H : Heap) (locs : List Loc) (θ1 : Nat → Nat → Int32), up2 θ 0 k v = θ1 → rB D cI b S A H0 H locs s θ1 τ ρ → W p l e R S m args below meth c H locs cells slots Q (F0 m (pc + 3) ls rest)) : W p l e R S m args below meth c H locs cells slots Q (F0 m pc ls (.int v :: .ref (b 0) :: rest)) := by
  have hC0 := hC
  obtain ⟨hK, hP, hD, hS, hN⟩ := hC
  exact va_put (D := D) (ci := 4) (v := .int v) (ty := .int) (C := RX4) (T := TX4) (N := 5) hexec hb hts hin tyX4 tyX4_ok nmX4 hown hK hP hD hS (0) (gws_get (by omega)) rfl (k) (by omega) hlink (fun x hx => by rw [TX4_own] at hx; exact hx) (TX4_int hk).1 (TX4_int hk).2 rfl rfl (by show k < 5; omega) hdg
    (fun H1 locs1 hP1 hD1 hS1 => kk H1 locs1 _ rfl (hC0.setM (k := 0) (by omega) (show rF cI b (up2 θ 0 k v) (fo s τ ρ) 0 = .inr (4, (modL b θ).set k (.int v)) by rw [← modL_set hk]; rfl) (fun r' h' => up2_row h') hP1 hD1 hS1))
theorem rg_sN (hexec : p.tables.exec = Jvm.exec) (hb : c.code = cc) (hts : ∀ w ∈ Ts, w.before args S = true) (hin : ∀ w ∈ u_ws RX3 TX3 12, w ∈ Ts) (hown : S.vm.findClass own = some m.cls) (hC : rB D cI b S A H0 H locs s θ τ ρ) (hs : s < 2) (k : Nat) (hk : k < 9)
    (hlink : (Cond.fieldLinkNest own index "CombersSocietyModel$State" (TX3 (k)).2.1 (TX3 (k)).2.2.1 "CombersSocietyModel").before args S = true) (hdg : decode cc pc = .ok (.getfield index, 3))
    (kk : W p l e R S m args below meth c H locs cells slots Q (F0 m (pc + 3) ls (.int (τ 0 k) :: rest))) : W p l e R S m args below meth c H locs cells slots Q (F0 m pc ls (.ref (b (3*s+2+0)) :: rest)) := by
  obtain ⟨hK, hP, hD, hS, hN⟩ := hC
  exact va_getN (D := D) (ci := 3) (C := RX3) (T := TX3) (N := 12) hexec hb hts hin hown hK hP (3*s+2+0) (rB.get hs (by omega)) rfl (k) (by omega) hlink (fun x hx => by rw [TX3_own] at hx; exact hx) (staL_at hk) hdg kk
theorem rg_rN (hexec : p.tables.exec = Jvm.exec) (hb : c.code = cc) (hts : ∀ w ∈ Ts, w.before args S = true) (hin : ∀ w ∈ u_ws RX3 TX3 12, w ∈ Ts) (hown : S.vm.findClass own = some m.cls) (hC : rB D cI b S A H0 H locs s θ τ ρ) (hs : s < 2) (j : Nat) (hj : j < 2)
    (hlink : (Cond.fieldLinkNest own index "CombersSocietyModel$State" (TX3 (9+j)).2.1 (TX3 (9+j)).2.2.1 "CombersSocietyModel").before args S = true) (hdg : decode cc pc = .ok (.getfield index, 3))
    (kk : W p l e R S m args below meth c H locs cells slots Q (F0 m (pc + 3) ls (.ref (b (3*s+2+(j+1))) :: rest))) : W p l e R S m args below meth c H locs cells slots Q (F0 m pc ls (.ref (b (3*s+2+0)) :: rest)) := by
  obtain ⟨hK, hP, hD, hS, hN⟩ := hC
  exact va_getN (D := D) (ci := 3) (C := RX3) (T := TX3) (N := 12) hexec hb hts hin hown hK hP (3*s+2+0) (rB.get hs (by omega)) rfl (9+j) (by omega) hlink (fun x hx => by rw [TX3_own] at hx; exact hx) (staL_ref hj) hdg kk
theorem rp_sN (hexec : p.tables.exec = Jvm.exec) (hb : c.code = cc) (hts : ∀ w ∈ Ts, w.before args S = true) (hin : ∀ w ∈ u_ws RX3 TX3 12, w ∈ Ts) (hown : S.vm.findClass own = some m.cls) (hC : rB D cI b S A H0 H locs s θ τ ρ) (hs : s < 2) (k : Nat) (hk : k < 8) {v : Int32}
    (hlink : (Cond.fieldLinkNest own index "CombersSocietyModel$State" (TX3 (k)).2.1 (TX3 (k)).2.2.1 "CombersSocietyModel").before args S = true) (hdg : decode cc pc = .ok (.putfield index, 3))
    (kk : ∀ (H : Heap) (locs : List Loc) (τ1 : Nat → Nat → Int32), up2 τ 0 k v = τ1 → rB D cI b S A H0 H locs s θ τ1 ρ → W p l e R S m args below meth c H locs cells slots Q (F0 m (pc + 3) ls rest)) : W p l e R S m args below meth c H locs cells slots Q (F0 m pc ls (.int v :: .ref (b (3*s+2+0)) :: rest)) := by
  have hC0 := hC
  obtain ⟨hK, hP, hD, hS, hN⟩ := hC
  exact va_putN (D := D) (ci := 3) (v := .int v) (ty := .int) (C := RX3) (T := TX3) (N := 12) hexec hb hts hin tyX3 tyX3_ok nmX3 hown hK hP hD hS (3*s+2+0) (rB.get hs (by omega)) rfl (k) (by omega) hlink (fun x hx => by rw [TX3_own] at hx; exact hx) (TX3_int hk).1 (TX3_int hk).2 rfl rfl (by show k < 12; omega) hdg
    (fun H1 locs1 hP1 hD1 hS1 => kk H1 locs1 _ rfl (hC0.set hs (by omega) (show rR cI b s 0 (up2 τ 0 k v) = .inr (3, (staL b s τ).set k (.int v)) by rw [← staL_set (by omega)]; rfl) (fun r' h' => up2_row h') hP1 hD1 hS1))
theorem rp_sbN (hexec : p.tables.exec = Jvm.exec) (hb : c.code = cc) (hts : ∀ w ∈ Ts, w.before args S = true) (hin : ∀ w ∈ u_ws RX3 TX3 12, w ∈ Ts) (hown : S.vm.findClass own = some m.cls) (hC : rB D cI b S A H0 H locs s θ τ ρ) (hs : s < 2) {v : Int32} (hv : v = 0 ∨ v = 1)
    (hlink : (Cond.fieldLinkNest own index "CombersSocietyModel$State" (TX3 (8)).2.1 (TX3 (8)).2.2.1 "CombersSocietyModel").before args S = true) (hdg : decode cc pc = .ok (.putfield index, 3))
    (kk : ∀ (H : Heap) (locs : List Loc) (τ1 : Nat → Nat → Int32), up2 τ 0 8 v = τ1 → rB D cI b S A H0 H locs s θ τ1 ρ → W p l e R S m args below meth c H locs cells slots Q (F0 m (pc + 3) ls rest)) : W p l e R S m args below meth c H locs cells slots Q (F0 m pc ls (.int v :: .ref (b (3*s+2+0)) :: rest)) := by
  have hC0 := hC
  obtain ⟨hK, hP, hD, hS, hN⟩ := hC
  exact va_putN (D := D) (ci := 3) (v := .int v) (ty := .boolean) (C := RX3) (T := TX3) (N := 12) hexec hb hts hin tyX3 tyX3_ok nmX3 hown hK hP hD hS (3*s+2+0) (rB.get hs (by omega)) rfl (8) (by omega) hlink (fun x hx => by rw [TX3_own] at hx; exact hx) rfl (tyX3_ok 8 (by omega)) (by rcases hv with rfl | rfl <;> rfl) (by rcases hv with rfl | rfl <;> rfl) (by show 8 < 12; omega) hdg
    (fun H1 locs1 hP1 hD1 hS1 => kk H1 locs1 _ rfl (hC0.set hs (by omega) (show rR cI b s 0 (up2 τ 0 8 v) = .inr (3, (staL b s τ).set 8 (.int v)) by rw [← staL_set (by omega)]; rfl) (fun r' h' => up2_row h') hP1 hD1 hS1))
theorem rg_mN (hexec : p.tables.exec = Jvm.exec) (hb : c.code = cc) (hts : ∀ w ∈ Ts, w.before args S = true) (hin : ∀ w ∈ u_ws RX4 TX4 5, w ∈ Ts) (hown : S.vm.findClass own = some m.cls) (hC : rB D cI b S A H0 H locs s θ τ ρ) (k : Nat) (hk : k < 2)
    (hlink : (Cond.fieldLinkNest own index "CombersSocietyModel" (TX4 (k)).2.1 (TX4 (k)).2.2.1 "CombersSocietyModel").before args S = true) (hdg : decode cc pc = .ok (.getfield index, 3))
    (kk : W p l e R S m args below meth c H locs cells slots Q (F0 m (pc + 3) ls (.int (θ 0 k) :: rest))) : W p l e R S m args below meth c H locs cells slots Q (F0 m pc ls (.ref (b 0) :: rest)) := by
  obtain ⟨hK, hP, hD, hS, hN⟩ := hC
  exact va_getN (D := D) (ci := 4) (C := RX4) (T := TX4) (N := 5) hexec hb hts hin hown hK hP (0) (gws_get (by omega)) rfl (k) (by omega) hlink (fun x hx => by rw [TX4_own] at hx; exact hx) (modL_at hk) hdg kk
theorem rg_fN (hexec : p.tables.exec = Jvm.exec) (hb : c.code = cc) (hts : ∀ w ∈ Ts, w.before args S = true) (hin : ∀ w ∈ u_ws RX4 TX4 5, w ∈ Ts) (hown : S.vm.findClass own = some m.cls) (hC : rB D cI b S A H0 H locs s θ τ ρ) 
    (hlink : (Cond.fieldLinkNest own index "CombersSocietyModel" (TX4 (2)).2.1 (TX4 (2)).2.2.1 "CombersSocietyModel").before args S = true) (hdg : decode cc pc = .ok (.getfield index, 3))
    (kk : W p l e R S m args below meth c H locs cells slots Q (F0 m (pc + 3) ls (.ref (b 1) :: rest))) : W p l e R S m args below meth c H locs cells slots Q (F0 m pc ls (.ref (b 0) :: rest)) := by
  obtain ⟨hK, hP, hD, hS, hN⟩ := hC
  exact va_getN (D := D) (ci := 4) (C := RX4) (T := TX4) (N := 5) hexec hb hts hin hown hK hP (0) (gws_get (by omega)) rfl (2) (by omega) hlink (fun x hx => by rw [TX4_own] at hx; exact hx) (rfl) hdg kk
theorem rp_mN (hexec : p.tables.exec = Jvm.exec) (hb : c.code = cc) (hts : ∀ w ∈ Ts, w.before args S = true) (hin : ∀ w ∈ u_ws RX4 TX4 5, w ∈ Ts) (hown : S.vm.findClass own = some m.cls) (hC : rB D cI b S A H0 H locs s θ τ ρ) (k : Nat) (hk : k < 2) {v : Int32}
    (hlink : (Cond.fieldLinkNest own index "CombersSocietyModel" (TX4 (k)).2.1 (TX4 (k)).2.2.1 "CombersSocietyModel").before args S = true) (hdg : decode cc pc = .ok (.putfield index, 3))
    (kk : ∀ (H : Heap) (locs : List Loc) (θ1 : Nat → Nat → Int32), up2 θ 0 k v = θ1 → rB D cI b S A H0 H locs s θ1 τ ρ → W p l e R S m args below meth c H locs cells slots Q (F0 m (pc + 3) ls rest)) : W p l e R S m args below meth c H locs cells slots Q (F0 m pc ls (.int v :: .ref (b 0) :: rest)) := by
  have hC0 := hC
  obtain ⟨hK, hP, hD, hS, hN⟩ := hC
  exact va_putN (D := D) (ci := 4) (v := .int v) (ty := .int) (C := RX4) (T := TX4) (N := 5) hexec hb hts hin tyX4 tyX4_ok nmX4 hown hK hP hD hS (0) (gws_get (by omega)) rfl (k) (by omega) hlink (fun x hx => by rw [TX4_own] at hx; exact hx) (TX4_int hk).1 (TX4_int hk).2 rfl rfl (by show k < 5; omega) hdg
    (fun H1 locs1 hP1 hD1 hS1 => kk H1 locs1 _ rfl (hC0.setM (k := 0) (by omega) (show rF cI b (up2 θ 0 k v) (fo s τ ρ) 0 = .inr (4, (modL b θ).set k (.int v)) by rw [← modL_set hk]; rfl) (fun r' h' => up2_row h') hP1 hD1 hS1))
theorem rg_t (hexec : p.tables.exec = Jvm.exec) (hb : c.code = cc) (hts : ∀ w ∈ Ts, w.before args S = true) (hin : ∀ w ∈ u_ws RX3 TX3 12, w ∈ Ts) (hown : S.vm.findClass own = some m.cls) (hC : rB D cI b S A H0 H locs s θ τ ρ) (hs : s < 2)
    (hlink : (Cond.fieldLink own index "CombersSocietyModel$State" (TX3 (11)).2.1 (TX3 (11)).2.2.1).before args S = true) (hdg : decode cc pc = .ok (.getfield index, 3))
    (kk : W p l e R S m args below meth c H locs cells slots Q (F0 m (pc + 3) ls (.ref (b 0) :: rest))) : W p l e R S m args below meth c H locs cells slots Q (F0 m pc ls (.ref (b (3*s+2+0)) :: rest)) := by
  obtain ⟨hK, hP, hD, hS, hN⟩ := hC
  exact va_get (D := D) (ci := 3) (C := RX3) (T := TX3) (N := 12) hexec hb hts hin hown hK hP (3*s+2+0) (rB.get hs (by omega)) rfl (11) (by omega) hlink (fun x hx => by rw [TX3_own] at hx; exact hx) (rfl) hdg kk
theorem rg_w (hexec : p.tables.exec = Jvm.exec) (hb : c.code = cc) (hts : ∀ w ∈ Ts, w.before args S = true) (hin : ∀ w ∈ u_ws RX4 TX4 5, w ∈ Ts) (hown : S.vm.findClass own = some m.cls) (hC : rB D cI b S A H0 H locs s θ τ ρ) (k : Nat) (hk : k < 2)
    (hlink : (Cond.fieldLink own index "CombersSocietyModel" (TX4 (3+k)).2.1 (TX4 (3+k)).2.2.1).before args S = true) (hdg : decode cc pc = .ok (.getfield index, 3))
    (kk : W p l e R S m args below meth c H locs cells slots Q (F0 m (pc + 3) ls (.ref (b (3*k+2+0)) :: rest))) : W p l e R S m args below meth c H locs cells slots Q (F0 m pc ls (.ref (b 0) :: rest)) := by
  obtain ⟨hK, hP, hD, hS, hN⟩ := hC
  exact va_get (D := D) (ci := 4) (C := RX4) (T := TX4) (N := 5) hexec hb hts hin hown hK hP (0) (gws_get (by omega)) rfl (3+k) (by omega) hlink (fun x hx => by rw [TX4_own] at hx; exact hx) (by rcases (show k = 0 ∨ k = 1 by omega) with rfl | rfl <;> rfl) hdg kk
theorem r_ild (hexec : p.tables.exec = Jvm.exec) (hb : c.code = cc) (hC : rB D cI b S A H0 H locs s θ τ ρ) (hs : s < 2) (r : Nat) (h1 : 1 ≤ r) (h3 : r ≤ 2) {j : Nat} {x : Int32} (hx : x = nI j) (hj : j < (if r = 1 then 3 else 108)) (hdg : decode cc pc = .ok (.iaload, 1))
    (kk : W p l e R S m args below meth c H locs cells slots Q (F0 m (pc + 1) ls (.int (τ r j) :: rest))) : W p l e R S m args below meth c H locs cells slots Q (F0 m pc ls (.int x :: .ref (b (3*s+2+r)) :: rest)) := by
  obtain ⟨hK, hP, hD, hS, hN⟩ := hC
  have hj9 : j < 108 := Nat.lt_of_lt_of_le hj (by split <;> omega)
  subst hx
  have hg := rB.get (cI := cI) (b := b) (θ := θ) (τ := τ) (ρ := ρ) hs (show r < 3 by omega)
  rw [rR_arr h1 h3] at hg
  refine va_iald hexec hb hK hP (3*s+2+r) 0 hg rfl (i := nI j) (vp_in_nI hj (by split <;> decide)) hdg ?_
  rw [nI_clamp (by omega)]
  exact kk
theorem r_ist (hexec : p.tables.exec = Jvm.exec) (hb : c.code = cc) (hC : rB D cI b S A H0 H locs s θ τ ρ) (hs : s < 2) (r : Nat) (h1 : 1 ≤ r) (h3 : r ≤ 2) {j : Nat} {x v : Int32} (hx : x = nI j) (hj : j < (if r = 1 then 3 else 108)) (hdg : decode cc pc = .ok (.iastore, 1))
    (kk : ∀ (H : Heap) (locs : List Loc) (τ1 : Nat → Nat → Int32), up2 τ r j v = τ1 → rB D cI b S A H0 H locs s θ τ1 ρ → W p l e R S m args below meth c H locs cells slots Q (F0 m (pc + 1) ls rest)) : W p l e R S m args below meth c H locs cells slots Q (F0 m pc ls (.int v :: .int x :: .ref (b (3*s+2+r)) :: rest)) := by
  have hC0 := hC
  obtain ⟨hK, hP, hD, hS, hN⟩ := hC
  have hj9 : j < 108 := Nat.lt_of_lt_of_le hj (by split <;> omega)
  subst hx
  have hg := rB.get (cI := cI) (b := b) (θ := θ) (τ := τ) (ρ := ρ) hs (show r < 3 by omega)
  rw [rR_arr h1 h3] at hg
  refine va_iast hexec hb hK hP hD hS (3*s+2+r) 0 hg rfl (i := nI j) (vp_in_nI hj (by split <;> decide)) hdg (fun H1 locs1 hP1 hD1 hS1 => ?_)
  rw [nI_clamp (by omega)] at hP1 hD1
  exact kk H1 locs1 _ rfl (hC0.set hs (by omega) (by rw [rR_arr h1 h3, up2_upd]) (fun r' h' => up2_row h') hP1 hD1 hS1)
theorem r_rlen (hexec : p.tables.exec = Jvm.exec) (hb : c.code = cc) (hC : rB D cI b S A H0 H locs s θ τ ρ) (hs : s < 2) (hdg : decode cc pc = .ok (.arraylength, 1))
    (kk : W p l e R S m args below meth c H locs cells slots Q (F0 m (pc + 1) ls (.int 108 :: rest))) : W p l e R S m args below meth c H locs cells slots Q (F0 m pc ls (.ref (b (3*s+2+(1+1))) :: rest)) := by
  obtain ⟨hK, hP, hD, hS, hN⟩ := hC
  exact va_alen hexec hb hK hP (3*s+2+2) 0 (rB.get hs (by omega)) rfl rfl hdg kk
/-- the fevers -/
theorem r_fld (hexec : p.tables.exec = Jvm.exec) (hb : c.code = cc) (hC : rB D cI b S A H0 H locs s θ τ ρ) {j : Nat} {x : Int32} (hx : x = nI j) (hj : j < 8) (hdg : decode cc pc = .ok (.iaload, 1))
    (kk : W p l e R S m args below meth c H locs cells slots Q (F0 m (pc + 1) ls (.int (θ 1 j) :: rest))) : W p l e R S m args below meth c H locs cells slots Q (F0 m pc ls (.int x :: .ref (b 1) :: rest)) := by
  obtain ⟨hK, hP, hD, hS, hN⟩ := hC
  subst hx
  refine va_iald (n := 8) (f := θ 1) hexec hb hK hP 1 0 (gws_get (by omega)) rfl (i := nI j) (vp_in_nI hj (by decide)) hdg ?_
  rw [nI_clamp (by omega)]
  exact kk
theorem r_fst (hexec : p.tables.exec = Jvm.exec) (hb : c.code = cc) (hC : rB D cI b S A H0 H locs s θ τ ρ) {j : Nat} {x v : Int32} (hx : x = nI j) (hj : j < 8) (hdg : decode cc pc = .ok (.iastore, 1))
    (kk : ∀ (H : Heap) (locs : List Loc) (θ1 : Nat → Nat → Int32), up2 θ 1 j v = θ1 → rB D cI b S A H0 H locs s θ1 τ ρ → W p l e R S m args below meth c H locs cells slots Q (F0 m (pc + 1) ls rest)) : W p l e R S m args below meth c H locs cells slots Q (F0 m pc ls (.int v :: .int x :: .ref (b 1) :: rest)) := by
  have hC0 := hC
  obtain ⟨hK, hP, hD, hS, hN⟩ := hC
  subst hx
  refine va_iast (n := 8) (f := θ 1) hexec hb hK hP hD hS 1 0 (gws_get (by omega)) rfl (i := nI j) (vp_in_nI hj (by decide)) hdg (fun H1 locs1 hP1 hD1 hS1 => ?_)
  rw [nI_clamp (by omega)] at hP1 hD1
  exact kk H1 locs1 _ rfl (hC0.setM (k := 1) (by omega) (show rF cI b (up2 θ 1 j v) (fo s τ ρ) 1 = .inl (cI, 8, .inl (upd (θ 1) j v)) by rw [← up2_upd]; rfl) (fun r' h' => up2_row h') hP1 hD1 hS1)
theorem r_flen (hexec : p.tables.exec = Jvm.exec) (hb : c.code = cc) (hC : rB D cI b S A H0 H locs s θ τ ρ) (hdg : decode cc pc = .ok (.arraylength, 1))
    (kk : W p l e R S m args below meth c H locs cells slots Q (F0 m (pc + 1) ls (.int 8 :: rest))) : W p l e R S m args below meth c H locs cells slots Q (F0 m pc ls (.ref (b 1) :: rest)) := by
  obtain ⟨hK, hP, hD, hS, hN⟩ := hC
  exact va_alen (x := (8, .inl (θ 1))) hexec hb hK hP 1 0 (gws_get (by omega)) rfl rfl hdg kk
end RROWS
