/-! CombersSociety(): the class's world -/
theorem arrV_congr {cI : ClassId} {N : Nat} {f g : Nat → Value} (h : ∀ j, j < N → f j = g j) : arrV cI N f = arrV cI N g := by
  unfold arrV
  congr 1
  exact congrArg Array.ofFn (funext fun j => h j.1 j.2)
/-- the numbers of a society just made -/
def sgI (f1 : Nat → Int32) : Nat → Nat → Int32
  | 0 => fun f => match f with
    | 2 => 60
    | 3 => 30
    | 4 => 200
    | 6 => 1
    | _ => 0
  | 1 => f1
  | 2 => fun _ => 0
  | 3 => fun _ => 0
  | _ => fun f => match f with
    | 5 => -1
    | 6 => 3
    | _ => 0
/-- the same cells, the members' row by its twelve places -/
def jw5 (cI cM : ClassId) (h0 q1 q2 q3 q4 : Nat) (f1 : Nat → Int32) (b : Nat → Nat) (g : Nat → Option Nat) : va_W := [(h0, .inr (1, socI ++ [.ref q1, .ref q2, .ref q3, .ref q4])), (q1, .inl (cI, 8, .inl f1)), (q2, .inl (cI, 3, .inl (fAll 0))), (q3, .inl (cI, 3, .inl (fAll 0))), (q4, .inl (cM, 12, .inr (.inr (.inr (.inr g)))))] ++ (List.range 12).map (fun i => (b i, .inr (0, mem01)))
theorem iw5.jw {D : va_G} {cI cM : ClassId} {h0 q1 q2 q3 q4 : Nat} {f1 : Nat → Int32} {b : Nat → Nat} {g : Nat → Option Nat} (hg : ∀ j, j < 12 → g j = some (b j)) {H : Heap} (h : va_P D vwCl (iw5 cI cM h0 q1 q2 q3 q4 f1 b 12) H) : va_P D vwCl (jw5 cI cM h0 q1 q2 q3 q4 f1 b g) H := by
  intro k q hk
  by_cases h4 : k = 4
  · subst h4
    obtain rfl : (q4, .inl (cM, 12, .inr (.inr (.inr (.inr g))))) = q := Option.some.inj hk
    have h5 := h 4 _ rfl
    show H[q4]? = some (vp_cell cM _)
    rw [show H[q4]? = some (vp_cell cM (12, .inr (.inr (.inr (.inr (iMs b 12)))))) from h5, vp_cell_q, vp_cell_q]
    refine congrArg some (arrV_congr (fun j hj => ?_))
    simp [iMs, hj, hg j hj]
  · refine h k q ?_
    rcases k with _ | _ | _ | _ | _ | k
    · exact hk
    · exact hk
    · exact hk
    · exact hk
    · exact absurd rfl h4
    · exact hk
theorem iw5.jwD {A : Nat → Prop} {cI cM : ClassId} {h0 q1 q2 q3 q4 : Nat} {f1 : Nat → Int32} {b : Nat → Nat} (g : Nat → Option Nat) (h : va_D A (iw5 cI cM h0 q1 q2 q3 q4 f1 b 12)) : va_D A (jw5 cI cM h0 q1 q2 q3 q4 f1 b g) := by
  have h2 := h.set (p := 4) (a := q4) (e0 := .inl (cM, 12, .inr (.inr (.inr (.inr (iMs b 12)))))) (e := .inl (cM, 12, .inr (.inr (.inr (.inr g))))) rfl
  exact h2
def aAll (h0 : Nat) (q : Nat) (u : Nat → Nat) (q' : Nat) (u' : Nat → Nat) : Nat → Nat := fun k => if k = 34 then h0 else if k < 17 then (if k = 0 then q else u k) else (if k = 17 then q' else u' (k-17))
theorem aAll_get {cI cM : ClassId} {h0 q q' : Nat} {u u' : Nat → Nat} {f1 f1' : Nat → Int32} (k : Nat) (x : Nat × va_E) (hx : (cW cI cM (aAll h0 q u q' u') 0 (sgI f1) (sgI f1'))[k]? = some x) : (([(h0, .inr (2, [.ref q, .ref q'])) ] ++ jw5 cI cM q (u 1) (u 2) (u 3) (u 4) f1 (fun i => u (i+5)) (fun i => some (aAll h0 q u q' u' (17*0+(i+5))))) ++ jw5 cI cM q' (u' 1) (u' 2) (u' 3) (u' 4) f1' (fun i => u' (i+5)) (fun i => some (aAll h0 q u q' u' (17*1+(i+5)))) : va_W)[if k = 34 then 0 else k + 1]? = some x := by
  obtain ⟨hk, rfl⟩ := gws_inv hx
  rcases (show k = 0 ∨ k = 1 ∨ k = 2 ∨ k = 3 ∨ k = 4 ∨ k = 5 ∨ k = 6 ∨ k = 7 ∨ k = 8 ∨ k = 9 ∨ k = 10 ∨ k = 11 ∨ k = 12 ∨ k = 13 ∨ k = 14 ∨ k = 15 ∨ k = 16 ∨ k = 17 ∨ k = 18 ∨ k = 19 ∨ k = 20 ∨ k = 21 ∨ k = 22 ∨ k = 23 ∨ k = 24 ∨ k = 25 ∨ k = 26 ∨ k = 27 ∨ k = 28 ∨ k = 29 ∨ k = 30 ∨ k = 31 ∨ k = 32 ∨ k = 33 ∨ k = 34 by omega) with rfl | rfl | rfl | rfl | rfl | rfl | rfl | rfl | rfl | rfl | rfl | rfl | rfl | rfl | rfl | rfl | rfl | rfl | rfl | rfl | rfl | rfl | rfl | rfl | rfl | rfl | rfl | rfl | rfl | rfl | rfl | rfl | rfl | rfl | rfl <;> rfl
