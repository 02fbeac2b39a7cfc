/-! THE WORLD: the cells of a side by their places; the numbers they hold as a memory of rows -/
def up2 (σ : Nat → Nat → Int32) (r f : Nat) (v : Int32) : Nat → Nat → Int32 := fun r' f' => if r' = r ∧ f' = f then v else σ r' f'
theorem up2_s {σ : Nat → Nat → Int32} {r f : Nat} {v : Int32} : up2 σ r f v r f = v := by simp [up2]
theorem up2_row {σ : Nat → Nat → Int32} {r f r' : Nat} {v : Int32} (h : r' ≠ r) : up2 σ r f v r' = σ r' := by
  funext f'
  simp [up2, h]
theorem up2_upd {σ : Nat → Nat → Int32} {r f : Nat} {v : Int32} : up2 σ r f v r = upd (σ r) f v := by
  funext f'
  simp [up2, upd]
def fo (s : Nat) (σ ρ : Nat → Nat → Int32) : Nat → Nat → Nat → Int32 := fun t => if t = s then σ else ρ
def gws (N : Nat) (a : Nat → Nat) (F : Nat → va_E) : va_W := (List.range N).map (fun k => (a k, F k))
theorem gws_get {N : Nat} {a : Nat → Nat} {F : Nat → va_E} {k : Nat} (hk : k < N) : (gws N a F)[k]? = some (a k, F k) := by
  simp [gws, hk]
theorem gws_inv {N : Nat} {a : Nat → Nat} {F : Nat → va_E} {k : Nat} {q : Nat × va_E} (h : (gws N a F)[k]? = some q) : k < N ∧ q = (a k, F k) := by
  by_cases hk : k < N
  · rw [gws_get hk] at h
    exact ⟨hk, (Option.some.inj h).symm⟩
  · simp [gws, hk] at h
theorem gws_set {N : Nat} {a : Nat → Nat} {F F' : Nat → va_E} {k : Nat} {e : va_E} (hk : k < N) (h1 : F' k = e) (h2 : ∀ j, j < N → j ≠ k → F' j = F j) : (gws N a F).set k (a k, e) = gws N a F' := by
  apply List.ext_getElem?
  intro j
  have hlen : (gws N a F).length = N := by simp [gws]
  by_cases hj : j < N
  · by_cases hjk : j = k
    · subst hjk
      rw [List.getElem?_set_self (by rw [hlen]; exact hk), gws_get hk, h1]
    · rw [List.getElem?_set_ne (Ne.symm hjk), gws_get hj, gws_get hj, h2 j hj hjk]
  · rw [List.getElem?_eq_none (by simp [hlen]; omega), List.getElem?_eq_none (by simp [gws]; omega)]
/-! the class's side: society s at 17 s, its three rows of numbers, its row of members, the members; the whole at 34 -/
abbrev memL (σ : Nat → Nat → Int32) (i : Nat) : List Value := [.int (σ (i+5) 0), .int (σ (i+5) 1), .int (σ (i+5) 2), .int (σ (i+5) 3), .int (σ (i+5) 4), .int (σ (i+5) 5), .int (σ (i+5) 6), .int (σ (i+5) 7), .int (σ (i+5) 8), .int (σ (i+5) 9)]
abbrev socL (a : Nat → Nat) (t : Nat) (σ : Nat → Nat → Int32) : List Value := [.int (σ 0 0), .int (σ 0 1), .int (σ 0 2), .int (σ 0 3), .int (σ 0 4), .int (σ 0 5), .int (σ 0 6), .int (σ 0 7), .int (σ 0 8), .int (σ 0 9), .ref (a (17*t+1)), .ref (a (17*t+2)), .ref (a (17*t+3)), .ref (a (17*t+4))]
def cR (cI cM : ClassId) (a : Nat → Nat) (t r : Nat) (σ : Nat → Nat → Int32) : va_E := match r with
  | 0 => .inr (1, socL a t σ)
  | 1 => .inl (cI, 8, .inl (σ 1))
  | 2 => .inl (cI, 3, .inl (σ 2))
  | 3 => .inl (cI, 3, .inl (σ 3))
  | 4 => .inl (cM, 12, .inr (.inr (.inr (.inr (fun i => some (a (17*t+(i+5))))))))
  | i+5 => .inr (0, memL σ i)
def cF (cI cM : ClassId) (a : Nat → Nat) (ω : Nat → Nat → Nat → Int32) (k : Nat) : va_E := if k = 34 then .inr (2, [.ref (a 0), .ref (a 17)]) else cR cI cM a (k/17) (k%17) (ω (k/17))
theorem cF_at {cI cM : ClassId} {a : Nat → Nat} {s r : Nat} {σ ρ : Nat → Nat → Int32} (hs : s < 2) (hr : r < 17) : cF cI cM a (fo s σ ρ) (17*s+r) = cR cI cM a s r σ := by
  unfold cF
  rw [if_neg (by omega), show (17*s+r)/17 = s by omega, show (17*s+r)%17 = r by omega]
  simp [fo]
theorem cR_row {cI cM : ClassId} {a : Nat → Nat} {t r : Nat} {σ σ' : Nat → Nat → Int32} (h : σ' r = σ r) : cR cI cM a t r σ' = cR cI cM a t r σ := by
  unfold cR
  split <;> simp [socL, memL, h]
theorem cF_off {cI cM : ClassId} {a : Nat → Nat} {s r : Nat} {σ σ' ρ : Nat → Nat → Int32} (h : ∀ r', r' ≠ r → σ' r' = σ r') : ∀ j, j < 35 → j ≠ 17*s+r → cF cI cM a (fo s σ' ρ) j = cF cI cM a (fo s σ ρ) j := by
  intro j hj hne
  unfold cF
  by_cases h34 : j = 34
  · rw [if_pos h34, if_pos h34]
  · rw [if_neg h34, if_neg h34]
    by_cases hq : j/17 = s
    · rw [hq]
      simp only [fo, if_true]
      exact cR_row (h _ (by omega))
    · simp only [fo, if_neg hq]
theorem cR_m (cI cM : ClassId) (a : Nat → Nat) (t i : Nat) (σ : Nat → Nat → Int32) : cR cI cM a t (i+5) σ = .inr (0, memL σ i) := rfl
theorem cR_mput {cI cM : ClassId} {a : Nat → Nat} {t i k : Nat} {σ : Nat → Nat → Int32} {v : Int32} (hk : k < 10) : cR cI cM a t (i+5) (up2 σ (i+5) k v) = .inr (0, (memL σ i).set k (.int v)) := by
  rw [cR_m]
  rcases (show k = 0 ∨ k = 1 ∨ k = 2 ∨ k = 3 ∨ k = 4 ∨ k = 5 ∨ k = 6 ∨ k = 7 ∨ k = 8 ∨ k = 9 by omega) with rfl | rfl | rfl | rfl | rfl | rfl | rfl | rfl | rfl | rfl <;> simp [memL, up2]
theorem cR_sput {cI cM : ClassId} {a : Nat → Nat} {t k : Nat} {σ : Nat → Nat → Int32} {v : Int32} (hk : k < 10) : cR cI cM a t 0 (up2 σ 0 k v) = .inr (1, (socL a t σ).set k (.int v)) := by
  rcases (show k = 0 ∨ k = 1 ∨ k = 2 ∨ k = 3 ∨ k = 4 ∨ k = 5 ∨ k = 6 ∨ k = 7 ∨ k = 8 ∨ k = 9 by omega) with rfl | rfl | rfl | rfl | rfl | rfl | rfl | rfl | rfl | rfl <;> simp [cR, socL, up2]
theorem memL_at {σ : Nat → Nat → Int32} {i k : Nat} (hk : k < 10) : (memL σ i)[k]? = some (.int (σ (i+5) k)) := by
  rcases (show k = 0 ∨ k = 1 ∨ k = 2 ∨ k = 3 ∨ k = 4 ∨ k = 5 ∨ k = 6 ∨ k = 7 ∨ k = 8 ∨ k = 9 by omega) with rfl | rfl | rfl | rfl | rfl | rfl | rfl | rfl | rfl | rfl <;> rfl
theorem socL_at {a : Nat → Nat} {t : Nat} {σ : Nat → Nat → Int32} {k : Nat} (hk : k < 10) : (socL a t σ)[k]? = some (.int (σ 0 k)) := by
  rcases (show k = 0 ∨ k = 1 ∨ k = 2 ∨ k = 3 ∨ k = 4 ∨ k = 5 ∨ k = 6 ∨ k = 7 ∨ k = 8 ∨ k = 9 by omega) with rfl | rfl | rfl | rfl | rfl | rfl | rfl | rfl | rfl | rfl <;> rfl
theorem socL_ref {a : Nat → Nat} {t : Nat} {σ : Nat → Nat → Int32} {j : Nat} (hj : j < 4) : (socL a t σ)[10+j]? = some (.ref (a (17*t+(j+1)))) := by
  rcases (show j = 0 ∨ j = 1 ∨ j = 2 ∨ j = 3 by omega) with rfl | rfl | rfl | rfl <;> rfl
theorem TX0_own (k : Nat) : (TX0 k).1 = "CombersSociety$Member" := by unfold TX0; split <;> rfl
theorem TX1_own (k : Nat) : (TX1 k).1 = "CombersSociety$Society" := by unfold TX1; split <;> rfl
theorem TX2_own (k : Nat) : (TX2 k).1 = "CombersSociety" := by unfold TX2; split <;> rfl
theorem TX3_own (k : Nat) : (TX3 k).1 = "CombersSocietyModel$State" := by unfold TX3; split <;> rfl
theorem TX4_own (k : Nat) : (TX4 k).1 = "CombersSocietyModel" := by unfold TX4; split <;> rfl
theorem TX0_int {k : Nat} (hk : k < 9) : (TX0 k).2.2.2 = false ∧ parseFieldDescriptor (TX0 k).2.2.1 = some .int := by
  rcases (show k = 0 ∨ k = 1 ∨ k = 2 ∨ k = 3 ∨ k = 4 ∨ k = 5 ∨ k = 6 ∨ k = 7 ∨ k = 8 by omega) with rfl | rfl | rfl | rfl | rfl | rfl | rfl | rfl | rfl <;> exact ⟨rfl, tyX0_ok _ (by omega)⟩
theorem TX1_int {k : Nat} (hk : k < 9) : (TX1 k).2.2.2 = false ∧ parseFieldDescriptor (TX1 k).2.2.1 = some .int := by
  rcases (show k = 0 ∨ k = 1 ∨ k = 2 ∨ k = 3 ∨ k = 4 ∨ k = 5 ∨ k = 6 ∨ k = 7 ∨ k = 8 by omega) with rfl | rfl | rfl | rfl | rfl | rfl | rfl | rfl | rfl <;> exact ⟨rfl, tyX1_ok _ (by omega)⟩
abbrev cTys (cI cM : ClassId) : List (ClassId × FieldType) := [(cI, .int), (cM, .object RX0)]
abbrev cW (cI cM : ClassId) (a : Nat → Nat) (s : Nat) (σ ρ : Nat → Nat → Int32) : va_W := gws 35 a (cF cI cM a (fo s σ ρ))
/-- the class's world, seen from society s, which holds σ; the other holds ρ -/
def cB (D : va_G) (cI cM : ClassId) (a : Nat → Nat) (U : State) (A : Nat → Prop) (H0 H : Heap) (locs : List Loc) (s : Nat) (σ ρ : Nat → Nat → Int32) : Prop :=
  va_K D vwCl (cTys cI cM) U ∧ va_P D vwCl (cW cI cM a s σ ρ) H ∧ va_D A (cW cI cM a s σ ρ) ∧ va_S A H0 H locs
theorem cB.get {D : va_G} {cI cM : ClassId} {a : Nat → Nat} {s r : Nat} {σ ρ : Nat → Nat → Int32} (hs : s < 2) (hr : r < 17) : (cW cI cM a s σ ρ)[17*s+r]? = some (a (17*s+r), cR cI cM a s r σ) := by
  rw [gws_get (by omega), cF_at hs hr]
theorem cB.set {D : va_G} {cI cM : ClassId} {a : Nat → Nat} {U : State} {A : Nat → Prop} {H0 H H1 : Heap} {locs locs1 : List Loc} {s r : Nat} {σ σ' ρ : Nat → Nat → Int32} {e : va_E} (hC : cB D cI cM a U A H0 H locs s σ ρ) (hs : s < 2) (hr : r < 17) (he : cR cI cM a s r σ' = e) (ho : ∀ r', r' ≠ r → σ' r' = σ r')
    (hP : va_P D vwCl ((cW cI cM a s σ ρ).set (17*s+r) (a (17*s+r), e)) H1) (hD : va_D A ((cW cI cM a s σ ρ).set (17*s+r) (a (17*s+r), e))) (hS : va_S A H0 H1 locs1) : cB D cI cM a U A H0 H1 locs1 s σ' ρ := by
  have h : (cW cI cM a s σ ρ).set (17*s+r) (a (17*s+r), e) = cW cI cM a s σ' ρ := gws_set (by omega) (by rw [cF_at hs hr]; exact he) (cF_off ho)
  rw [h] at hP hD
  exact ⟨hC.1, hP, hD, hS⟩
section CROWS
variable {p : Program} {l : Launch} {e : Env} {R : Room} {S : State} {m : MethodId} {args : Array Value} {below : List Frame} {meth : Method} {c : Code} {H : Heap} {locs : List Loc} {cells slots : Nat} {Q : State → Prop}
variable {cc : ByteArray} {pc : Nat} {ls : Array Slot} {rest : List Value} {D : va_G} {cI cM : ClassId} {a : Nat → Nat} {A : Nat → Prop} {H0 : Heap} {s : Nat} {σ ρ : Nat → Nat → Int32} {own : String} {index : Nat} {Ts : List Cond}
/-- a member's number -/
theorem cg_m (hexec : p.tables.exec = Jvm.exec) (hb : c.code = cc) (hts : ∀ w ∈ Ts, w.before args S = true) (hin : ∀ w ∈ u_ws RX0 TX0 10, w ∈ Ts) (hown : S.vm.findClass own = some m.cls) (hC : cB D cI cM a S A H0 H locs s σ ρ) (hs : s < 2) {i : Nat} (hi : i < 12) (k : Nat) (hk : k < 10)
    (hlink : (Cond.fieldLink own index "CombersSociety$Member" (TX0 k).2.1 (TX0 k).2.2.1).before args S = true) (hdg : decode cc pc = .ok (.getfield index, 3))
    (kk : W p l e R S m args below meth c H locs cells slots Q (F0 m (pc + 3) ls (.int (σ (i+5) k) :: rest))) : W p l e R S m args below meth c H locs cells slots Q (F0 m pc ls (.ref (a (17*s+(i+5))) :: rest)) := by
  obtain ⟨hK, hP, hD, hS⟩ := hC
  exact va_get (D := D) (ci := 0) (C := RX0) (T := TX0) (N := 10) hexec hb hts hin hown hK hP (17*s+(i+5)) (cB.get (D := D) hs (by omega)) rfl k hk hlink (fun x hx => by rw [TX0_own] at hx; exact hx) (memL_at hk) hdg kk
theorem cp_m (hexec : p.tables.exec = Jvm.exec) (hb : c.code = cc) (hts : ∀ w ∈ Ts, w.before args S = true) (hin : ∀ w ∈ u_ws RX0 TX0 10, w ∈ Ts) (hown : S.vm.findClass own = some m.cls) (hC : cB D cI cM a S A H0 H locs s σ ρ) (hs : s < 2) {i : Nat} (hi : i < 12) (k : Nat) (hk : k < 9) {v : Int32}
    (hlink : (Cond.fieldLink own index "CombersSociety$Member" (TX0 k).2.1 (TX0 k).2.2.1).before args S = true) (hdg : decode cc pc = .ok (.putfield index, 3))
    (kk : ∀ (H : Heap) (locs : List Loc) (σ1 : Nat → Nat → Int32), up2 σ (i+5) k v = σ1 → cB D cI cM a S A H0 H locs s σ1 ρ → W p l e R S m args below meth c H locs cells slots Q (F0 m (pc + 3) ls rest)) : W p l e R S m args below meth c H locs cells slots Q (F0 m pc ls (.int v :: .ref (a (17*s+(i+5))) :: rest)) := by
  have hC0 := hC
  obtain ⟨hK, hP, hD, hS⟩ := hC
  exact va_put (D := D) (ci := 0) (v := .int v) (ty := .int) (C := RX0) (T := TX0) (N := 10) hexec hb hts hin tyX0 tyX0_ok nmX0 hown hK hP hD hS (17*s+(i+5)) (cB.get (D := D) hs (by omega)) rfl k (by omega) hlink (fun x hx => by rw [TX0_own] at hx; exact hx) (TX0_int hk).1 (TX0_int hk).2 rfl rfl (by show k < 10; omega) hdg
    (fun H1 locs1 hP1 hD1 hS1 => kk H1 locs1 _ rfl (hC0.set hs (by omega) (cR_mput (by omega)) (fun r' h' => up2_row h') hP1 hD1 hS1))
/-- unburied, a boolean -/
theorem cp_mb (hexec : p.tables.exec = Jvm.exec) (hb : c.code = cc) (hts : ∀ w ∈ Ts, w.before args S = true) (hin : ∀ w ∈ u_ws RX0 TX0 10, w ∈ Ts) (hown : S.vm.findClass own = some m.cls) (hC : cB D cI cM a S A H0 H locs s σ ρ) (hs : s < 2) {i : Nat} (hi : i < 12) {v : Int32} (hv : v = 0 ∨ v = 1)
    (hlink : (Cond.fieldLink own index "CombersSociety$Member" "unburied" "Z").before args S = true) (hdg : decode cc pc = .ok (.putfield index, 3))
    (kk : ∀ (H : Heap) (locs : List Loc) (σ1 : Nat → Nat → Int32), up2 σ (i+5) 9 v = σ1 → cB D cI cM a S A H0 H locs s σ1 ρ → W p l e R S m args below meth c H locs cells slots Q (F0 m (pc + 3) ls rest)) : W p l e R S m args below meth c H locs cells slots Q (F0 m pc ls (.int v :: .ref (a (17*s+(i+5))) :: rest)) := by
  have hC0 := hC
  obtain ⟨hK, hP, hD, hS⟩ := hC
  exact va_put (D := D) (ci := 0) (v := .int v) (ty := .boolean) (C := RX0) (T := TX0) (N := 10) hexec hb hts hin tyX0 tyX0_ok nmX0 hown hK hP hD hS (17*s+(i+5)) (cB.get (D := D) hs (by omega)) rfl 9 (by omega) hlink (fun x hx => hx) rfl (tyX0_ok 9 (by omega)) (by rcases hv with rfl | rfl <;> rfl) (by rcases hv with rfl | rfl <;> rfl) (by show 9 < 10; omega) hdg
    (fun H1 locs1 hP1 hD1 hS1 => kk H1 locs1 _ rfl (hC0.set hs (by omega) (cR_mput (by omega)) (fun r' h' => up2_row h') hP1 hD1 hS1))
/-- a society's number -/
theorem cg_s (hexec : p.tables.exec = Jvm.exec) (hb : c.code = cc) (hts : ∀ w ∈ Ts, w.before args S = true) (hin : ∀ w ∈ u_ws RX1 TX1 14, w ∈ Ts) (hown : S.vm.findClass own = some m.cls) (hC : cB D cI cM a S A H0 H locs s σ ρ) (hs : s < 2) (k : Nat) (hk : k < 10)
    (hlink : (Cond.fieldLink own index "CombersSociety$Society" (TX1 k).2.1 (TX1 k).2.2.1).before args S = true) (hdg : decode cc pc = .ok (.getfield index, 3))
    (kk : W p l e R S m args below meth c H locs cells slots Q (F0 m (pc + 3) ls (.int (σ 0 k) :: rest))) : W p l e R S m args below meth c H locs cells slots Q (F0 m pc ls (.ref (a (17*s+0)) :: rest)) := by
  obtain ⟨hK, hP, hD, hS⟩ := hC
  exact va_get (D := D) (ci := 1) (C := RX1) (T := TX1) (N := 14) hexec hb hts hin hown hK hP (17*s+0) (cB.get (D := D) hs (by omega)) rfl k (by omega) hlink (fun x hx => by rw [TX1_own] at hx; exact hx) (socL_at hk) hdg kk
/-- a society's rows: 0 fevers, 1 heats, 2 combing, 3 members -/
theorem cg_r (hexec : p.tables.exec = Jvm.exec) (hb : c.code = cc) (hts : ∀ w ∈ Ts, w.before args S = true) (hin : ∀ w ∈ u_ws RX1 TX1 14, w ∈ Ts) (hown : S.vm.findClass own = some m.cls) (hC : cB D cI cM a S A H0 H locs s σ ρ) (hs : s < 2) (j : Nat) (hj : j < 4)
    (hlink : (Cond.fieldLink own index "CombersSociety$Society" (TX1 (10+j)).2.1 (TX1 (10+j)).2.2.1).before args S = true) (hdg : decode cc pc = .ok (.getfield index, 3))
    (kk : W p l e R S m args below meth c H locs cells slots Q (F0 m (pc + 3) ls (.ref (a (17*s+(j+1))) :: rest))) : W p l e R S m args below meth c H locs cells slots Q (F0 m pc ls (.ref (a (17*s+0)) :: rest)) := by
  obtain ⟨hK, hP, hD, hS⟩ := hC
  exact va_get (D := D) (ci := 1) (C := RX1) (T := TX1) (N := 14) hexec hb hts hin hown hK hP (17*s+0) (cB.get (D := D) hs (by omega)) rfl (10+j) (by omega) hlink (fun x hx => by rw [TX1_own] at hx; exact hx) (socL_ref hj) hdg kk
theorem cp_s (hexec : p.tables.exec = Jvm.exec) (hb : c.code = cc) (hts : ∀ w ∈ Ts, w.before args S = true) (hin : ∀ w ∈ u_ws RX1 TX1 14, w ∈ Ts) (hown : S.vm.findClass own = some m.cls) (hC : cB D cI cM a S A H0 H locs s σ ρ) (hs : s < 2) (k : Nat) (hk : k < 9) {v : Int32}
    (hlink : (Cond.fieldLink own index "CombersSociety$Society" (TX1 k).2.1 (TX1 k).2.2.1).before args S = true) (hdg : decode cc pc = .ok (.putfield index, 3))
    (kk : ∀ (H : Heap) (locs : List Loc) (σ1 : Nat → Nat → Int32), up2 σ 0 k v = σ1 → cB D cI cM a S A H0 H locs s σ1 ρ → W p l e R S m args below meth c H locs cells slots Q (F0 m (pc + 3) ls rest)) : W p l e R S m args below meth c H locs cells slots Q (F0 m pc ls (.int v :: .ref (a (17*s+0)) :: rest)) := by
  have hC0 := hC
  obtain ⟨hK, hP, hD, hS⟩ := hC
  exact va_put (D := D) (ci := 1) (v := .int v) (ty := .int) (C := RX1) (T := TX1) (N := 14) hexec hb hts hin tyX1 tyX1_ok nmX1 hown hK hP hD hS (17*s+0) (cB.get (D := D) hs (by omega)) rfl k (by omega) hlink (fun x hx => by rw [TX1_own] at hx; exact hx) (TX1_int hk).1 (TX1_int hk).2 rfl rfl (by show k < 14; omega) hdg
    (fun H1 locs1 hP1 hD1 hS1 => kk H1 locs1 _ rfl (hC0.set hs (by omega) (cR_sput (by omega)) (fun r' h' => up2_row h') hP1 hD1 hS1))
theorem cp_sb (hexec : p.tables.exec = Jvm.exec) (hb : c.code = cc) (hts : ∀ w ∈ Ts, w.before args S = true) (hin : ∀ w ∈ u_ws RX1 TX1 14, w ∈ Ts) (hown : S.vm.findClass own = some m.cls) (hC : cB D cI cM a S A H0 H locs s σ ρ) (hs : s < 2) {v : Int32} (hv : v = 0 ∨ v = 1)
    (hlink : (Cond.fieldLink own index "CombersSociety$Society" "fellShort" "Z").before args S = true) (hdg : decode cc pc = .ok (.putfield index, 3))
    (kk : ∀ (H : Heap) (locs : List Loc) (σ1 : Nat → Nat → Int32), up2 σ 0 9 v = σ1 → cB D cI cM a S A H0 H locs s σ1 ρ → W p l e R S m args below meth c H locs cells slots Q (F0 m (pc + 3) ls rest)) : W p l e R S m args below meth c H locs cells slots Q (F0 m pc ls (.int v :: .ref (a (17*s+0)) :: rest)) := by
  have hC0 := hC
  obtain ⟨hK, hP, hD, hS⟩ := hC
  exact va_put (D := D) (ci := 1) (v := .int v) (ty := .boolean) (C := RX1) (T := TX1) (N := 14) hexec hb hts hin tyX1 tyX1_ok nmX1 hown hK hP hD hS (17*s+0) (cB.get (D := D) hs (by omega)) rfl 9 (by omega) hlink (fun x hx => hx) rfl (tyX1_ok 9 (by omega)) (by rcases hv with rfl | rfl <;> rfl) (by rcases hv with rfl | rfl <;> rfl) (by show 9 < 14; omega) hdg
    (fun H1 locs1 hP1 hD1 hS1 => kk H1 locs1 _ rfl (hC0.set hs (by omega) (cR_sput (by omega)) (fun r' h' => up2_row h') hP1 hD1 hS1))
/-- a row of numbers, r 1 fevers, 2 heats, 3 combing -/
theorem cR_arr {t r : Nat} (h1 : 1 ≤ r) (h3 : r ≤ 3) : cR cI cM a t r σ = .inl (cI, (if r = 1 then 8 else 3), .inl (σ r)) := by
  rcases (show r = 1 ∨ r = 2 ∨ r = 3 by omega) with rfl | rfl | rfl <;> rfl
theorem c_ild (hexec : p.tables.exec = Jvm.exec) (hb : c.code = cc) (hC : cB D cI cM a S A H0 H locs s σ ρ) (hs : s < 2) (r : Nat) (h1 : 1 ≤ r) (h3 : r ≤ 3) {j : Nat} {x : Int32} (hx : x = nI j) (hj : j < (if r = 1 then 8 else 3)) (hdg : decode cc pc = .ok (.iaload, 1))
    (kk : W p l e R S m args below meth c H locs cells slots Q (F0 m (pc + 1) ls (.int (σ r j) :: rest))) : W p l e R S m args below meth c H locs cells slots Q (F0 m pc ls (.int x :: .ref (a (17*s+r)) :: rest)) := by
  obtain ⟨hK, hP, hD, hS⟩ := hC
  have hj9 : j < 9 := Nat.lt_of_lt_of_le hj (by split <;> omega)
  subst hx
  have hg := cB.get (D := D) (cI := cI) (cM := cM) (a := a) (σ := σ) (ρ := ρ) hs (show r < 17 by omega)
  rw [cR_arr h1 h3] at hg
  refine va_iald hexec hb hK hP (17*s+r) 0 hg rfl (i := nI j) (vp_in_nI hj (by split <;> decide)) hdg ?_
  rw [nI_clamp (by omega)]
  exact kk
theorem c_ist (hexec : p.tables.exec = Jvm.exec) (hb : c.code = cc) (hC : cB D cI cM a S A H0 H locs s σ ρ) (hs : s < 2) (r : Nat) (h1 : 1 ≤ r) (h3 : r ≤ 3) {j : Nat} {x v : Int32} (hx : x = nI j) (hj : j < (if r = 1 then 8 else 3)) (hdg : decode cc pc = .ok (.iastore, 1))
    (kk : ∀ (H : Heap) (locs : List Loc) (σ1 : Nat → Nat → Int32), up2 σ r j v = σ1 → cB D cI cM a S A H0 H locs s σ1 ρ → W p l e R S m args below meth c H locs cells slots Q (F0 m (pc + 1) ls rest)) : W p l e R S m args below meth c H locs cells slots Q (F0 m pc ls (.int v :: .int x :: .ref (a (17*s+r)) :: rest)) := by
  have hC0 := hC
  obtain ⟨hK, hP, hD, hS⟩ := hC
  have hj9 : j < 9 := Nat.lt_of_lt_of_le hj (by split <;> omega)
  subst hx
  have hg := cB.get (D := D) (cI := cI) (cM := cM) (a := a) (σ := σ) (ρ := ρ) hs (show r < 17 by omega)
  rw [cR_arr h1 h3] at hg
  refine va_iast hexec hb hK hP hD hS (17*s+r) 0 hg rfl (i := nI j) (vp_in_nI hj (by split <;> decide)) hdg (fun H1 locs1 hP1 hD1 hS1 => ?_)
  rw [nI_clamp (by omega)] at hP1 hD1
  exact kk H1 locs1 _ rfl (hC0.set hs (by omega) (by rw [cR_arr h1 h3, up2_upd]) (fun r' h' => up2_row h') hP1 hD1 hS1)
theorem c_ilen (hexec : p.tables.exec = Jvm.exec) (hb : c.code = cc) (hC : cB D cI cM a S A H0 H locs s σ ρ) (hs : s < 2) (hdg : decode cc pc = .ok (.arraylength, 1))
    (kk : W p l e R S m args below meth c H locs cells slots Q (F0 m (pc + 1) ls (.int 8 :: rest))) : W p l e R S m args below meth c H locs cells slots Q (F0 m pc ls (.ref (a (17*s+(0+1))) :: rest)) := by
  obtain ⟨hK, hP, hD, hS⟩ := hC
  exact va_alen hexec hb hK hP (17*s+1) 0 (cB.get (D := D) hs (by omega)) rfl rfl hdg kk
theorem c_mlen (hexec : p.tables.exec = Jvm.exec) (hb : c.code = cc) (hC : cB D cI cM a S A H0 H locs s σ ρ) (hs : s < 2) (hdg : decode cc pc = .ok (.arraylength, 1))
    (kk : W p l e R S m args below meth c H locs cells slots Q (F0 m (pc + 1) ls (.int 12 :: rest))) : W p l e R S m args below meth c H locs cells slots Q (F0 m pc ls (.ref (a (17*s+(3+1))) :: rest)) := by
  obtain ⟨hK, hP, hD, hS⟩ := hC
  exact va_alen hexec hb hK hP (17*s+4) 1 (cB.get (D := D) hs (by omega)) rfl rfl hdg kk
theorem c_mld (hexec : p.tables.exec = Jvm.exec) (hb : c.code = cc) (hC : cB D cI cM a S A H0 H locs s σ ρ) (hs : s < 2) {j : Nat} {x : Int32} (hx : x = nI j) (hj : j < 12) (hdg : decode cc pc = .ok (.aaload, 1))
    (kk : W p l e R S m args below meth c H locs cells slots Q (F0 m (pc + 1) ls (.ref (a (17*s+(j+5))) :: rest))) : W p l e R S m args below meth c H locs cells slots Q (F0 m pc ls (.int x :: .ref (a (17*s+(3+1))) :: rest)) := by
  obtain ⟨hK, hP, hD, hS⟩ := hC
  subst hx
  refine va_aldq hexec hb hK hP (17*s+4) 1 (cB.get (D := D) hs (by omega)) rfl (i := nI j) (vp_in_nI hj (by decide)) hdg ?_
  rw [nI_clamp (by omega)]
  exact kk
/-- the two societies of the whole -/
theorem cg_w (hexec : p.tables.exec = Jvm.exec) (hb : c.code = cc) (hts : ∀ w ∈ Ts, w.before args S = true) (hin : ∀ w ∈ u_ws RX2 TX2 2, w ∈ Ts) (hown : S.vm.findClass own = some m.cls) (hC : cB D cI cM a S A H0 H locs s σ ρ) (k : Nat) (hk : k < 2)
    (hlink : (Cond.fieldLink own index "CombersSociety" (TX2 k).2.1 (TX2 k).2.2.1).before args S = true) (hdg : decode cc pc = .ok (.getfield index, 3))
    (kk : W p l e R S m args below meth c H locs cells slots Q (F0 m (pc + 3) ls (.ref (a (17*k+0)) :: rest))) : W p l e R S m args below meth c H locs cells slots Q (F0 m pc ls (.ref (a 34) :: rest)) := by
  obtain ⟨hK, hP, hD, hS⟩ := hC
  exact va_get (D := D) (ci := 2) (C := RX2) (T := TX2) (N := 2) hexec hb hts hin hown hK hP 34 (gws_get (by omega)) rfl k hk hlink (fun x hx => by rw [TX2_own] at hx; exact hx) (by rcases (show k = 0 ∨ k = 1 by omega) with rfl | rfl <;> rfl) hdg kk
end CROWS
