/-! THE TWO SIDES AGREE: iterations, numbers, the relation -/
abbrev Mm : Type := Nat → Nat → Int32
theorem itR_last {T : Type} {f : Nat → T → T} : ∀ (n i : Nat) (x : T), itR f i (n+1) x = f (i+n) (itR f i n x) := by
  intro n
  induction n with
  | zero => intro i x; rfl
  | succ n ih =>
    intro i x
    show itR f (i+1) (n+1) (f i x) = f (i+(n+1)) (itR f (i+1) n (f i x))
    rw [ih, show i + 1 + n = i + (n+1) by omega]
theorem itR_ind {T : Type} {f : Nat → T → T} {P : Nat → T → Prop} {x : T} (h0 : P 0 x) : ∀ n, (∀ i y, i < n → P i y → P (i+1) (f i y)) → P n (itR f 0 n x) := by
  intro n
  induction n with
  | zero => exact fun _ => h0
  | succ n ih =>
    intro hs
    rw [itR_last, Nat.zero_add]
    exact hs n _ (Nat.lt_succ_self n) (ih (fun i y hi => hs i y (by omega)))
theorem itR_two {T U : Type} {f : Nat → T → T} {g : Nat → U → U} {P : Nat → T → U → Prop} {x : T} {y : U} (h0 : P 0 x y) : ∀ n, (∀ i x y, i < n → P i x y → P (i+1) (f i x) (g i y)) → P n (itR f 0 n x) (itR g 0 n y) := by
  intro n
  induction n with
  | zero => exact fun _ => h0
  | succ n ih =>
    intro hs
    rw [itR_last, itR_last, Nat.zero_add]
    exact hs n _ _ (Nat.lt_succ_self n) (ih (fun i x y hi => hs i x y (by omega)))
theorem itR_12 {T U : Type} {f : Nat → T → T} {g : Nat → U → U} {P : Nat → T → U → Prop} {x : T} {y : U} {N : Nat} (hN : N ≤ 12) (h0 : P 0 x y) (hs : ∀ i x y, i < N → P i x y → P (i+1) (f i x) (g i y)) (ht : ∀ i x y, N ≤ i → i < 12 → P i x y → P (i+1) (f i x) y) : P 12 (itR f 0 12 x) (itR g 0 N y) := by
  have key : ∀ d, N + d ≤ 12 → P (N+d) (itR f 0 (N+d) x) (itR g 0 N y) := by
    intro d
    induction d with
    | zero => exact fun _ => itR_two h0 N hs
    | succ d ih =>
      intro hd
      rw [show N + (d+1) = (N+d)+1 by omega, itR_last, Nat.zero_add]
      exact ht (N+d) _ _ (by omega) (by omega) (ih (by omega))
  have := key (12 - N) (by omega)
  rwa [show N + (12 - N) = 12 by omega] at this
theorem itE_two {R S T U : Type} {f : Nat → T → R ⊕ T} {g : Nat → U → S ⊕ U} {P : Nat → T → U → Prop} {Q : R → S → Prop} : ∀ (n i : Nat) (x : T) (y : U), P i x y → (∀ j x y, i ≤ j → j < i + n → P j x y → (∃ r s, f j x = .inl r ∧ g j y = .inl s ∧ Q r s) ∨ (∃ x' y', f j x = .inr x' ∧ g j y = .inr y' ∧ P (j+1) x' y')) → (∃ r s, itE f i n x = .inl r ∧ itE g i n y = .inl s ∧ Q r s) ∨ (∃ x' y', itE f i n x = .inr x' ∧ itE g i n y = .inr y' ∧ P (i+n) x' y') := by
  intro n
  induction n with
  | zero => exact fun i x y h _ => Or.inr ⟨x, y, rfl, rfl, h⟩
  | succ n ih =>
    intro i x y h hs
    rcases hs i x y (Nat.le_refl i) (by omega) h with ⟨r, s, h1, h2, h3⟩ | ⟨x', y', h1, h2, h3⟩
    · refine Or.inl ⟨r, s, ?_, ?_, h3⟩
      · unfold itE
        rw [h1]
      · unfold itE
        rw [h2]
    · have e1 : itE f i (n+1) x = itE f (i+1) n x' := by
        simp only [itE, h1]
      have e2 : itE g i (n+1) y = itE g (i+1) n y' := by
        simp only [itE, h2]
      rw [e1, e2, show i + (n+1) = i + 1 + n by omega]
      exact ih (i+1) x' y' h3 (fun j x y h4 h5 => hs j x y (by omega) (by omega))
theorem itE_last {R T : Type} {f : Nat → T → R ⊕ T} : ∀ (n i : Nat) (x : T), itE f i (n+1) x = (match itE f i n x with | .inl r => .inl r | .inr y => f (i+n) y) := by
  intro n
  induction n with
  | zero =>
    intro i x
    simp only [itE, Nat.add_zero]
    cases f i x <;> rfl
  | succ n ih =>
    intro i x
    cases h : f i x with
    | inl r => simp only [itE, h]
    | inr y =>
      have e1 : itE f i (n+1+1) x = itE f (i+1) (n+1) y := by rw [itE, h]
      have e2 : itE f i (n+1) x = itE f (i+1) n y := by rw [itE, h]
      rw [e1, e2, ih, show i + 1 + n = i + (n+1) by omega]
/-! numbers -/
theorem iL (a b : Int32) : a < b ↔ a.toInt < b.toInt := Int32.lt_iff_toInt_lt
theorem iG (a b : Int32) : a ≤ b ↔ a.toInt ≤ b.toInt := Int32.le_iff_toInt_le
theorem iE (a b : Int32) : a = b ↔ a.toInt = b.toInt := Int32.toInt_inj.symm
theorem tI_m1 : (-1 : Int32).toInt = -1 := by decide
theorem tI_0 : (0 : Int32).toInt = 0 := by decide
theorem tI_1 : (1 : Int32).toInt = 1 := by decide
theorem tI_2 : (2 : Int32).toInt = 2 := by decide
theorem tI_3 : (3 : Int32).toInt = 3 := by decide
theorem tI_4 : (4 : Int32).toInt = 4 := by decide
theorem tI_5 : (5 : Int32).toInt = 5 := by decide
theorem tI_6 : (6 : Int32).toInt = 6 := by decide
theorem tI_8 : (8 : Int32).toInt = 8 := by decide
theorem tI_9 : (9 : Int32).toInt = 9 := by decide
theorem tI_12 : (12 : Int32).toInt = 12 := by decide
theorem tI_20 : (20 : Int32).toInt = 20 := by decide
theorem iA {x y : Int32} (h1 : -2147483648 ≤ x.toInt + y.toInt) (h2 : x.toInt + y.toInt < 2147483648) : (x + y).toInt = x.toInt + y.toInt := Jvm.Kit.i32_add h1 h2
theorem iS {x y : Int32} (h1 : -2147483648 ≤ x.toInt - y.toInt) (h2 : x.toInt - y.toInt < 2147483648) : (x - y).toInt = x.toInt - y.toInt := Jvm.Kit.i32_sub h1 h2
theorem iD {x y : Int32} (h : 0 < y.toInt) : (x / y).toInt = x.toInt.tdiv y.toInt := Jvm.Kit.i32_div (by omega)
theorem mnT (x y : Int32) : (mnI x y).toInt = min x.toInt y.toInt := by
  unfold mnI
  split
  · rename_i h
    rw [iL] at h
    omega
  · rename_i h
    rw [iL] at h
    omega
theorem mxT (x y : Int32) : (mxI x y).toInt = max x.toInt y.toInt := by
  unfold mxI
  split
  · rename_i h
    rw [iL] at h
    omega
  · rename_i h
    rw [iL] at h
    omega
theorem mnC (x y : Int32) : mnI x y = mnI y x := (iE _ _).mpr (by rw [mnT, mnT]; omega)
theorem up2_id {σ : Mm} {r f : Nat} : up2 σ r f (σ r f) = σ := by
  funext r' f'
  unfold up2
  split
  · rename_i h
    rw [h.1, h.2]
  · rfl
theorem up2_up2 {σ : Mm} {r f : Nat} {v w : Int32} : up2 (up2 σ r f v) r f w = up2 σ r f w := by
  funext r' f'
  unfold up2
  split <;> rfl
/-! the reference's cells by their places -/
theorem of_c {τ : Mm} {i f : Nat} (hi : i < 12) (hf : f < 9) : fX3_of τ (nI i) (nI f) = τ 2 (9*i+f) := by
  unfold fX3_of
  rw [ix9v hi hf]
theorem set_c {τ : Mm} {i f : Nat} {v : Int32} (hi : i < 12) (hf : f < 9) : fX3_set τ (nI i) (nI f) v = up2 τ 2 (9*i+f) v := by
  unfold fX3_set
  rw [ix9v hi hf]
theorem of0 {τ : Mm} {i : Nat} (hi : i < 12) : fX3_of τ (nI i) 0 = τ 2 (9*i) := of_c (f := 0) hi (by decide)
theorem of1 {τ : Mm} {i : Nat} (hi : i < 12) : fX3_of τ (nI i) 1 = τ 2 (9*i+1) := of_c (f := 1) hi (by decide)
theorem of2 {τ : Mm} {i : Nat} (hi : i < 12) : fX3_of τ (nI i) 2 = τ 2 (9*i+2) := of_c (f := 2) hi (by decide)
theorem of3 {τ : Mm} {i : Nat} (hi : i < 12) : fX3_of τ (nI i) 3 = τ 2 (9*i+3) := of_c (f := 3) hi (by decide)
theorem of4 {τ : Mm} {i : Nat} (hi : i < 12) : fX3_of τ (nI i) 4 = τ 2 (9*i+4) := of_c (f := 4) hi (by decide)
theorem of5 {τ : Mm} {i : Nat} (hi : i < 12) : fX3_of τ (nI i) 5 = τ 2 (9*i+5) := of_c (f := 5) hi (by decide)
theorem of6 {τ : Mm} {i : Nat} (hi : i < 12) : fX3_of τ (nI i) 6 = τ 2 (9*i+6) := of_c (f := 6) hi (by decide)
theorem of7 {τ : Mm} {i : Nat} (hi : i < 12) : fX3_of τ (nI i) 7 = τ 2 (9*i+7) := of_c (f := 7) hi (by decide)
theorem of8 {τ : Mm} {i : Nat} (hi : i < 12) : fX3_of τ (nI i) 8 = τ 2 (9*i+8) := of_c (f := 8) hi (by decide)
theorem set1 {τ : Mm} {i : Nat} {v : Int32} (hi : i < 12) : fX3_set τ (nI i) 1 v = up2 τ 2 (9*i+1) v := set_c (f := 1) hi (by decide)
theorem set2 {τ : Mm} {i : Nat} {v : Int32} (hi : i < 12) : fX3_set τ (nI i) 2 v = up2 τ 2 (9*i+2) v := set_c (f := 2) hi (by decide)
theorem set3 {τ : Mm} {i : Nat} {v : Int32} (hi : i < 12) : fX3_set τ (nI i) 3 v = up2 τ 2 (9*i+3) v := set_c (f := 3) hi (by decide)
theorem set4 {τ : Mm} {i : Nat} {v : Int32} (hi : i < 12) : fX3_set τ (nI i) 4 v = up2 τ 2 (9*i+4) v := set_c (f := 4) hi (by decide)
theorem set5 {τ : Mm} {i : Nat} {v : Int32} (hi : i < 12) : fX3_set τ (nI i) 5 v = up2 τ 2 (9*i+5) v := set_c (f := 5) hi (by decide)
theorem set6 {τ : Mm} {i : Nat} {v : Int32} (hi : i < 12) : fX3_set τ (nI i) 6 v = up2 τ 2 (9*i+6) v := set_c (f := 6) hi (by decide)
theorem set7 {τ : Mm} {i : Nat} {v : Int32} (hi : i < 12) : fX3_set τ (nI i) 7 v = up2 τ 2 (9*i+7) v := set_c (f := 7) hi (by decide)
theorem set8 {τ : Mm} {i : Nat} {v : Int32} (hi : i < 12) : fX3_set τ (nI i) 8 v = up2 τ 2 (9*i+8) v := set_c (f := 8) hi (by decide)
theorem payC {σ : Mm} {d : Int32} : fX1_payOut σ d = (mnI d (σ 0 2), up2 (up2 σ 0 9 (if d ≤ σ 0 2 then σ 0 9 else 1)) 0 2 (σ 0 2 - mnI d (σ 0 2))) := by
  unfold fX1_payOut
  split
  · rw [up2_id]
  · have e : up2 σ 0 9 1 0 2 = σ 0 2 := by simp [up2]
    simp only [e]
theorem payR {τ : Mm} {d : Int32} : fX3_pay τ d = (mnI d (τ 0 2), up2 (up2 τ 0 8 (if d ≤ τ 0 2 then τ 0 8 else 1)) 0 2 (τ 0 2 - mnI d (τ 0 2))) := by
  have hc : d ≤ mnI (τ 0 2) d ↔ d ≤ τ 0 2 := by
    rw [iG, iG, mnT]
    omega
  unfold fX3_pay
  rw [mnC (τ 0 2) d]
  rw [mnC (τ 0 2) d] at hc
  by_cases h : d ≤ τ 0 2
  · rw [if_pos (hc.mpr h), if_pos h, up2_id]
  · rw [if_neg (fun q => h (hc.mp q)), if_neg h]
    have e : up2 τ 0 8 1 0 2 = τ 0 2 := by simp [up2]
    simp only [e]
/-! sums -/
def smq (g : Nat → Int) : Nat → Int
  | 0 => 0
  | n+1 => smq g n + g n
theorem smq_ge {g : Nat → Int} : ∀ {n : Nat}, (∀ j, j < n → 0 ≤ g j) → 0 ≤ smq g n ∧ ∀ i, i < n → g i ≤ smq g n := by
  intro n
  induction n with
  | zero => exact fun _ => ⟨Int.le_refl 0, fun i hi => by omega⟩
  | succ n ih =>
    intro h
    obtain ⟨h1, h2⟩ := ih (fun j hj => h j (by omega))
    have h3 := h n (by omega)
    refine ⟨?_, fun i hi => ?_⟩
    · show 0 ≤ smq g n + g n
      omega
    · show g i ≤ smq g n + g n
      rcases Nat.lt_or_ge i n with q | q
      · have := h2 i q
        omega
      · obtain rfl : i = n := by omega
        omega
theorem smq_eq {g g' : Nat → Int} : ∀ {n : Nat}, (∀ j, j < n → g' j = g j) → smq g' n = smq g n := by
  intro n
  induction n with
  | zero => exact fun _ => rfl
  | succ n ih =>
    intro h
    show smq g' n + g' n = smq g n + g n
    rw [ih (fun j hj => h j (by omega)), h n (by omega)]
theorem smq_upd {g g' : Nat → Int} {i : Nat} : ∀ {n : Nat}, i < n → (∀ j, j < n → j ≠ i → g' j = g j) → smq g' n = smq g n - g i + g' i := by
  intro n
  induction n with
  | zero => exact fun h => by omega
  | succ n ih =>
    intro hi h
    show smq g' n + g' n = smq g n + g n - g i + g' i
    rcases Nat.lt_or_ge i n with q | q
    · rw [ih q (fun j hj => h j (by omega)), h n (by omega) (by omega)]
      omega
    · obtain rfl : i = n := by omega
      rw [smq_eq (fun j hj => h j (by omega) (by omega))]
      omega
/-! the relation: σ the society, τ the State, θ the model's own; N members; u who is dead and not buried; E what is known of the two words of a box too small -/
def mOK (m : Nat → Int32) : Prop := (m 6 = 0 ∨ m 6 = 1 ∨ m 6 = 2) ∧ atR (m 5) ∧ (m 6 ≠ 2 → 1 ≤ (m 1).toInt ∧ (m 1).toInt ≤ 20) ∧ (m 6 = 2 → m 5 = -1) ∧ (m 6 = 1 → 1 ≤ (m 7).toInt) ∧ 0 ≤ (m 2).toInt ∧ 0 ≤ (m 3).toInt
def mNo (m : Nat → Int32) : Prop := m 6 = 3 ∧ m 5 = -1 ∧ m 1 = 0 ∧ m 2 = 0 ∧ m 3 = 0 ∧ m 4 = 0 ∧ m 7 = 0 ∧ m 8 = 0
def coI (σ : Mm) (i : Nat) : Int := (σ (i+5) 2).toInt
def phi (σ : Mm) : Int := (σ 0 2).toInt + (σ 0 4).toInt + smq (coI σ) 12
def Sc (σ τ θ : Mm) : Prop := σ 0 0 = τ 0 0 ∧ σ 0 2 = τ 0 2 ∧ σ 0 3 = τ 0 3 ∧ σ 0 4 = τ 0 4 ∧ σ 0 5 = τ 0 5 ∧ σ 0 6 = θ 0 1 ∧ σ 0 7 = τ 0 6 ∧ σ 0 8 = τ 0 7
def Fvr (σ θ : Mm) : Prop := ∀ j, j < 8 → σ 1 j = θ 1 j ∧ atR (σ 1 j)
def Rl (N : Nat) (B : Int) (u : Nat → Int32) (E : Int32 → Int32 → Prop) (σ τ θ : Mm) : Prop :=
  (N ≤ 12 ∧ B < 1000000000) ∧ (σ 0 1 = nI N ∧ τ 0 1 = nI N) ∧ Sc σ τ θ ∧ Fvr σ θ ∧ (∀ j, j < 3 → σ 2 j = τ 1 j) ∧ (∀ i f, i < N → f < 9 → σ (i+5) f = τ 2 (9*i+f)) ∧ (∀ i, i < N → mOK (σ (i+5))) ∧ (∀ i, N ≤ i → i < 12 → mNo (σ (i+5))) ∧ (∀ i, i < 12 → σ (i+5) 9 = u i) ∧ (0 ≤ (σ 0 2).toInt ∧ 0 ≤ (σ 0 4).toInt ∧ 0 ≤ (σ 0 6).toInt ∧ (σ 0 6).toInt ≤ 3 ∧ phi σ ≤ B) ∧ E (σ 0 9) (τ 0 8) ∧ E 1 1
section RLROWS
variable {N : Nat} {B : Int} {u u' : Nat → Int32} {E : Int32 → Int32 → Prop} {σ τ θ σ' τ' : Mm} {i : Nat}
theorem Rl.n12 (h : Rl N B u E σ τ θ) : N ≤ 12 := h.1.1
theorem Rl.cell (h : Rl N B u E σ τ θ) (hi : i < N) {f : Nat} (hf : f < 9) : τ 2 (9*i+f) = σ (i+5) f := (h.2.2.2.2.2.1 i f hi hf).symm
theorem Rl.ok (h : Rl N B u E σ τ θ) (hi : i < N) : mOK (σ (i+5)) := h.2.2.2.2.2.2.1 i hi
theorem Rl.no (h : Rl N B u E σ τ θ) (hi : N ≤ i) (hi2 : i < 12) : mNo (σ (i+5)) := h.2.2.2.2.2.2.2.1 i hi hi2
theorem Rl.bit (h : Rl N B u E σ τ θ) (hi : i < 12) : σ (i+5) 9 = u i := h.2.2.2.2.2.2.2.2.1 i hi
theorem Rl.sc (h : Rl N B u E σ τ θ) : Sc σ τ θ := h.2.2.1
theorem Rl.fv (h : Rl N B u E σ τ θ) : Fvr σ θ := h.2.2.2.1
theorem Rl.heat (h : Rl N B u E σ τ θ) {j : Nat} (hj : j < 3) : σ 2 j = τ 1 j := h.2.2.2.2.1 j hj
theorem Rl.e (h : Rl N B u E σ τ θ) : E (σ 0 9) (τ 0 8) := h.2.2.2.2.2.2.2.2.2.2.1
theorem Rl.e1 (h : Rl N B u E σ τ θ) : E 1 1 := h.2.2.2.2.2.2.2.2.2.2.2
theorem Rl.pos (h : Rl N B u E σ τ θ) : 0 ≤ (σ 0 2).toInt ∧ 0 ≤ (σ 0 4).toInt ∧ 0 ≤ (σ 0 6).toInt ∧ (σ 0 6).toInt ≤ 3 ∧ phi σ ≤ B := h.2.2.2.2.2.2.2.2.2.1
theorem Rl.co0 (h : Rl N B u E σ τ θ) (hi : i < 12) : 0 ≤ coI σ i := by
  rcases Nat.lt_or_ge i N with q | q
  · exact (h.ok q).2.2.2.2.2.1
  · unfold coI
    rw [(h.no q hi).2.2.2.1]
    decide
theorem Rl.room (h : Rl N B u E σ τ θ) (hi : i < 12) : 0 ≤ (σ (i+5) 2).toInt ∧ (σ 0 2).toInt + (σ 0 4).toInt + (σ (i+5) 2).toInt < 1000000000 := by
  have h1 := (smq_ge (g := coI σ) (n := 12) (fun j hj => h.co0 hj)).2 i hi
  have h2 := h.pos.2.2.2.2
  have h3 := h.1.2
  have h4 := h.co0 hi
  unfold phi at h2
  have h5 : coI σ i = (σ (i+5) 2).toInt := rfl
  rw [h5] at h1 h4
  exact ⟨h4, by omega⟩
theorem Rl.wfm (h : Rl N B u E σ τ θ) : wf τ N := ⟨h.2.1.2, h.1.1, fun m hm => by rw [h.cell hm (by decide)]; exact (h.ok hm).2.1⟩
theorem Rl.wfnm (h : Rl N B u E σ τ θ) : wfn τ = N := wfn_eq h.wfm
theorem Rl.cu (h : Rl N B u E σ τ θ) (hu : ∀ k, k < 12 → u' k = u k) : Rl N B u' E σ τ θ := by
  obtain ⟨a1, a2, a3, a4, a5, a6, a7, a8, a9, b1, b2⟩ := h
  exact ⟨a1, a2, a3, a4, a5, a6, a7, a8, fun k hk => (a9 k hk).trans (hu k hk).symm, b1, b2⟩
theorem Rl.scal {θ' : Mm} {B' : Int} {E' : Int32 → Int32 → Prop} (h : Rl N B u E σ τ θ) (hr : ∀ r, r ≠ 0 → r ≠ 3 → σ' r = σ r) (ht : ∀ r, r ≠ 0 → τ' r = τ r) (hN : σ' 0 1 = σ 0 1 ∧ τ' 0 1 = τ 0 1) (hd : 0 ≤ (σ' 0 6).toInt ∧ (σ' 0 6).toInt ≤ 3) (hθ : θ' 1 = θ 1) (hs : Sc σ' τ' θ') (hb : 0 ≤ (σ' 0 2).toInt) (hw : 0 ≤ (σ' 0 4).toInt) (hB : B' < 1000000000) (hp : (σ' 0 2).toInt + (σ' 0 4).toInt + B ≤ (σ 0 2).toInt + (σ 0 4).toInt + B') (hE : E' (σ' 0 9) (τ' 0 8)) (hE1 : E' 1 1) : Rl N B' u E' σ' τ' θ' := by
  obtain ⟨a1, a2, a3, a4, a5, a6, a7, a8, a9, b1, b2, b3⟩ := h
  refine ⟨⟨a1.1, hB⟩, ⟨hN.1.trans a2.1, hN.2.trans a2.2⟩, hs, ?_, ?_, ?_, ?_, ?_, ?_, ⟨hb, hw, hd.1, hd.2, ?_⟩, hE, hE1⟩
  · intro j hj
    rw [hr 1 (by decide) (by decide), hθ]
    exact a4 j hj
  · intro j hj
    rw [hr 2 (by decide) (by decide), ht 1 (by decide)]
    exact a5 j hj
  · intro k f hk hf
    rw [hr (k+5) (by omega) (by omega), ht 2 (by decide)]
    exact a6 k f hk hf
  · intro k hk2
    rw [hr (k+5) (by omega) (by omega)]
    exact a7 k hk2
  · intro k hk2 hk3
    rw [hr (k+5) (by omega) (by omega)]
    exact a8 k hk2 hk3
  · intro k hk2
    rw [hr (k+5) (by omega) (by omega)]
    exact a9 k hk2
  · have h1 : smq (coI σ') 12 = smq (coI σ) 12 := smq_eq (fun j hj => by
      unfold coI
      rw [hr (j+5) (by omega) (by omega)])
    have h2 := b1.2.2.2.2
    unfold phi at h2 ⊢
    omega
theorem Rl.heat1 {j : Nat} {v : Int32} (h : Rl N B u E σ τ θ) : Rl N B u E (up2 σ 2 j v) (up2 τ 1 j v) θ := by
  obtain ⟨a1, a2, a3, a4, a5, a6, a7, a8, a9, b1, b2, b3⟩ := h
  have hr : ∀ r, r ≠ 2 → up2 σ 2 j v r = σ r := fun r h => up2_row h
  have ht : ∀ r, r ≠ 1 → up2 τ 1 j v r = τ r := fun r h => up2_row h
  refine ⟨a1, ?_, ?_, ?_, ?_, ?_, ?_, ?_, ?_, ?_, ?_, b3⟩
  · rw [hr 0 (by decide), ht 0 (by decide)]
    exact a2
  · unfold Sc
    rw [hr 0 (by decide), ht 0 (by decide)]
    exact a3
  · unfold Fvr
    rw [hr 1 (by decide)]
    exact a4
  · intro k hk
    by_cases e : k = j
    · subst e
      rw [up2_s, up2_s]
    · have e1 : up2 σ 2 j v 2 k = σ 2 k := by simp [up2, e]
      have e2 : up2 τ 1 j v 1 k = τ 1 k := by simp [up2, e]
      rw [e1, e2]
      exact a5 k hk
  · intro k f hk hf
    rw [hr (k+5) (by omega), ht 2 (by decide)]
    exact a6 k f hk hf
  · intro k hk2
    rw [hr (k+5) (by omega)]
    exact a7 k hk2
  · intro k hk2 hk3
    rw [hr (k+5) (by omega)]
    exact a8 k hk2 hk3
  · intro k hk2
    rw [hr (k+5) (by omega)]
    exact a9 k hk2
  · have h1 : smq (coI (up2 σ 2 j v)) 12 = smq (coI σ) 12 := smq_eq (fun k hk => by
      unfold coI
      rw [hr (k+5) (by omega)])
    unfold phi at b1 ⊢
    rw [h1, hr 0 (by decide)]
    exact b1
  · rw [hr 0 (by decide), ht 0 (by decide)]
    exact b2
theorem Rl.row3 {σ' : Mm} (h : Rl N B u E σ τ θ) (hr : ∀ r, r ≠ 3 → σ' r = σ r) : Rl N B u E σ' τ θ := by
  refine h.scal (θ' := θ) (fun r _ h3 => hr r h3) (fun _ _ => rfl) ?_ ?_ rfl ?_ ?_ ?_ h.1.2 ?_ ?_ h.e1
  all_goals (try unfold Sc)
  all_goals rw [hr 0 (by decide)]
  · exact ⟨rfl, rfl⟩
  · exact ⟨h.pos.2.2.1, h.pos.2.2.2.1⟩
  · exact h.sc
  · exact h.pos.1
  · exact h.pos.2.1
  · exact Int.le_refl _
  · exact h.e
theorem Rl.step (h : Rl N B u E σ τ θ) (hi : i < N) (hr : ∀ r, r ≠ 0 → r ≠ 3 → r ≠ i+5 → σ' r = σ r) (ht : τ' 1 = τ 1) (hN : σ' 0 1 = σ 0 1 ∧ τ' 0 1 = τ 0 1 ∧ σ' 0 6 = σ 0 6) (hs : Sc σ' τ' θ)
    (hm : ∀ f, f < 9 → σ' (i+5) f = τ' 2 (9*i+f)) (ho : ∀ j, j < 9*i ∨ 9*i+9 ≤ j → τ' 2 j = τ 2 j) (hk : mOK (σ' (i+5))) (hu : ∀ k, k < 12 → u' k = if k = i then σ' (i+5) 9 else u k)
    (hb : 0 ≤ (σ' 0 2).toInt) (hw : 0 ≤ (σ' 0 4).toInt) (hp : (σ' 0 2).toInt + (σ' 0 4).toInt + (σ' (i+5) 2).toInt ≤ (σ 0 2).toInt + (σ 0 4).toInt + (σ (i+5) 2).toInt) (hE : E (σ' 0 9) (τ' 0 8)) : Rl N B u' E σ' τ' θ := by
  have h12 := h.1.1
  obtain ⟨a1, a2, a3, a4, a5, a6, a7, a8, a9, b1, b2, b3⟩ := h
  refine ⟨a1, ⟨hN.1.trans a2.1, hN.2.1.trans a2.2⟩, hs, ?_, ?_, ?_, ?_, ?_, ?_, ⟨hb, hw, ?_, ?_, ?_⟩, hE, b3⟩
  · intro j hj
    rw [hr 1 (by decide) (by decide) (by omega)]
    exact a4 j hj
  · intro j hj
    rw [hr 2 (by decide) (by decide) (by omega), ht]
    exact a5 j hj
  · intro k f hk hf
    by_cases e : k = i
    · subst e
      exact hm f hf
    · rw [hr (k+5) (by omega) (by omega) (by omega), ho (9*k+f) (by omega)]
      exact a6 k f hk hf
  · intro k hk2
    by_cases e : k = i
    · subst e
      exact hk
    · rw [hr (k+5) (by omega) (by omega) (by omega)]
      exact a7 k hk2
  · intro k hk2 hk3
    rw [hr (k+5) (by omega) (by omega) (by omega)]
    exact a8 k hk2 hk3
  · intro k hk2
    rw [hu k hk2]
    by_cases e : k = i
    · subst e
      rw [if_pos rfl]
    · rw [if_neg e, hr (k+5) (by omega) (by omega) (by omega)]
      exact a9 k hk2
  · rw [hN.2.2]
    exact b1.2.2.1
  · rw [hN.2.2]
    exact b1.2.2.2.1
  · have h1 : smq (coI σ') 12 = smq (coI σ) 12 - coI σ i + coI σ' i := smq_upd (by omega) (fun j hj hne => by
      unfold coI
      rw [hr (j+5) (by omega) (by omega) (by omega)])
    have h2 := b1.2.2.2.2
    unfold phi at h2 ⊢
    unfold coI at h1
    unfold coI at h2 ⊢
    omega
end RLROWS
