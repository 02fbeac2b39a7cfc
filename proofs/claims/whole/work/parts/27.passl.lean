theorem fX3_pay_00 {τ : Nat → Nat → Int32} {p0 : Int32} : (fX3_pay τ p0).2 0 0 = τ 0 0 := by
  unfold fX3_pay
  split <;> simp [up2]
theorem fX3_heal_00 {τ : Nat → Nat → Int32} {p0 p1 : Int32} : fX3_heal τ p0 p1 0 0 = τ 0 0 := by
  unfold fX3_heal
  dsimp only
  split <;> simp only [fX3_set_00]
theorem fX3_nurse_00 {τ : Nat → Nat → Int32} {p0 : Int32} : fX3_nurse τ p0 0 0 = τ 0 0 := by
  unfold fX3_nurse
  dsimp only
  repeat' split
  all_goals simp [fX3_heal_00, fX3_set_00, fX3_pay_00, up2]
theorem fX3_payDues_00 {θ τ : Nat → Nat → Int32} {p0 : Int32} : fX3_payDues θ τ p0 0 0 = τ 0 0 := by
  unfold fX3_payDues
  dsimp only
  split <;> simp [fX3_set_00, up2]
theorem fX3_settle_00 {τ : Nat → Nat → Int32} {p0 : Int32} : (fX3_settle τ p0).2 0 0 = τ 0 0 := by
  unfold fX3_settle
  simp [fX3_set_00, up2]
theorem fX3_drink_00 {τ : Nat → Nat → Int32} {p0 : Int32} : fX3_drink τ p0 0 0 = τ 0 0 := by
  unfold fX3_drink
  dsimp only
  split <;> simp [fX3_set_00, fX3_settle_00]
/-- a walk's state stays well formed and in its week -/
def wfk (N : Nat) (k : Int32) (x : Nat → Nat → Int32) : Prop := wf x N ∧ x 0 0 = k
theorem wfk_iter {N : Nat} {k : Int32} {f : Nat → (Nat → Nat → Int32) → (Nat → Nat → Int32)} (h : ∀ i x, i < 12 → wfk N k x → wfk N k (f i x)) {x : Nat → Nat → Int32} (hx : wfk N k x) : wfk N k (itR f 0 (wfn x) x) :=
  itR_pres (P := wfk N k) (f := f) (N := 12) h (wfn x) 0 x (by rw [wfn_eq hx.1]; have := hx.1.2.1; omega) hx
theorem wfk_fever {θ τ : Nat → Nat → Int32} {N : Nat} {k : Int32} (h : wfk N k τ) : wfk N k (fX3_fever θ τ) := by
  unfold fX3_fever fX3_fever_k1
  refine wfk_iter (f := fun i x => fX3_fever_b1 θ τ i x) (fun i x hi hx => ⟨wf_X3_fever_b1 hi hx.1, ?_⟩) h
  have h2 := hx.2
  unfold fX3_fever_b1
  dsimp only
  repeat' split
  all_goals simp only [fX3_set_00, h2]
theorem wfk_bury {τ : Nat → Nat → Int32} {N : Nat} {k : Int32} {p0 : Int32} (h : wfk N k τ) (h0 : Ix p0 12) : wfk N k (fX3_bury τ p0) := by
  refine ⟨wf_X3_bury h.1 h0, ?_⟩
  unfold fX3_bury fX3_bury_k1
  dsimp only
  have h1 : wfk N k (fX3_set (up2 (up2 (fX3_pay τ 12).2 0 7 (τ 0 7 + (fX3_pay τ 12).1)) 0 2 (up2 (fX3_pay τ 12).2 0 7 (τ 0 7 + (fX3_pay τ 12).1) 0 2 + fX3_of (up2 (fX3_pay τ 12).2 0 7 (τ 0 7 + (fX3_pay τ 12).1)) p0 2)) p0 2 0) :=
    ⟨wf_X3_set (wf_up0 (wf_up0 (wf_X3_pay h.1) (by decide)) (by decide)) h0 ⟨2, by decide, rfl⟩ (by decide), by simp [fX3_set_00, up2, fX3_pay_00]; exact h.2⟩
  refine (wfk_iter (f := fun i x => fX3_bury_b1 i x) (fun i x hi hx => ⟨wf_X3_bury_b1 hi hx.1, ?_⟩) h1).2
  have h2 := hx.2
  unfold fX3_bury_b1
  dsimp only
  repeat' split
  all_goals simp [fX3_set_00, up2, h2]
theorem wfk_pass1 {N : Nat} {k : Int32} {y : Nat → Nat → Int32} (h : wfk N k y) : wfk N k (itR (fun i x => fX3_pass_b1 i x.1 x.2) 0 (wfn y) ((0 : Int32), y)).2 := by
  have h12 : N ≤ 12 := wf_12 h.1
  have hn : 0 + wfn y ≤ 12 := by rw [wfn_eq h.1]; omega
  have step : ∀ (i : Nat) (x : Int32 × (Nat → Nat → Int32)), i < 12 → wfk N k x.2 → wfk N k (fX3_pass_b1 i x.1 x.2).2 := by
    intro i x hi hx
    unfold fX3_pass_b1
    dsimp only
    repeat' split
    all_goals first | with_reducible exact hx | exact ⟨wf_X3_nurse hx.1 ⟨i, hi, rfl⟩, fX3_nurse_00.trans hx.2⟩
  exact itR_pres (P := fun x : Int32 × (Nat → Nat → Int32) => wfk N k x.2) (f := fun i x => fX3_pass_b1 i x.1 x.2) (N := 12) step (wfn y) 0 ((0 : Int32), y) hn h
theorem wfk_pass2 {θ : Nat → Nat → Int32} {N : Nat} {k : Int32} {x : Int32 × (Nat → Nat → Int32)} (hx : wfk N k x.2) : wfk N (k + 1) (fX3_pass_k1x θ x) := by
  unfold fX3_pass_k1x fX3_pass_k1 fX3_pass_k2 fX3_pass_k3 fX3_pass_k4
  have a2 := wfk_iter (f := fun i x => fX3_pass_b2 θ i x) (fun i x hi hx => by
    unfold fX3_pass_b2
    split
    · exact ⟨wf_X3_payDues hx.1 ⟨i, hi, rfl⟩, fX3_payDues_00.trans hx.2⟩
    · exact hx) hx
  have a3 := wfk_iter (f := fun i x => fX3_pass_b3 i x) (fun i x hi hx => by
    unfold fX3_pass_b3
    split
    · split
      · exact ⟨wf_X3_drink hx.1 ⟨i, hi, rfl⟩, fX3_drink_00.trans hx.2⟩
      · exact hx
    · exact hx) a2
  have a4 := wfk_iter (f := fun i y => fX3_pass_b4 x.1 i y) (fun i y hi hy => by
    unfold fX3_pass_b4
    split
    · exact wfk_bury hy ⟨i, hi, rfl⟩
    · exact hy) a3
  exact ⟨wf_up0 a4.1 (by decide), up2_s.trans (congrArg (fun z => z + (1 : Int32)) a4.2)⟩
theorem wfk_pass {θ τ : Nat → Nat → Int32} {N : Nat} (h : wf τ N) : wfk N (τ 0 0 + 1) (fX3_pass θ τ) := by
  have h3 : wfk N (τ 0 0) (fX3_fever θ (fX3_comb (fX3_fire τ))) := wfk_fever ⟨wf_X3_comb (wf_X3_fire h), by rw [fX3_comb_00 (wf_X3_fire h), fX3_fire_00]⟩
  have h5 := wfk_pass2 (θ := θ) (wfk_pass1 h3)
  unfold fX3_pass
  exact h5
theorem wf_X3_pass {θ τ : Nat → Nat → Int32} {N : Nat} (h : wf τ N) : wf (fX3_pass θ τ) N := (wfk_pass h).1
theorem fX3_pass_00 {θ τ : Nat → Nat → Int32} {N : Nat} (h : wf τ N) : fX3_pass θ τ 0 0 = τ 0 0 + 1 := (wfk_pass h).2
theorem cmpB_ex {x : Int32} {n : Nat} (h : x = nI n) : x ≤ nI n := by rw [h]; exact Int32.le_refl _
theorem cmpB_in {x : Int32} {i n : Nat} (h : x = nI n) (hi : i < n) (hn : n < 2 ^ 31) : ¬ x ≤ nI i := by rw [h]; exact nI_ge hi hn
theorem isIn_ix1 {p0 : Int32} (h : ¬ fX4_isIn p0 (1 : Int32) (60 : Int32) = 0) : Ix p0 61 := by
  obtain ⟨h1, h2⟩ := isIn_le h
  obtain ⟨j, hj, rfl⟩ := nI_of (x := p0) (fun q => h1 (Int32.lt_trans q (by decide)))
  refine ⟨j, ?_, rfl⟩
  rw [Int32.lt_iff_toInt_lt, nI_toInt hj] at h2
  have : (60 : Int32).toInt = 60 := by decide
  omega
theorem atR_of {i : Nat} (h : i < 3) : atR (nI i) := by
  rcases (show i = 0 ∨ i = 1 ∨ i = 2 by omega) with rfl | rfl | rfl
  · exact Or.inr (Or.inl rfl)
  · exact Or.inr (Or.inr (Or.inl rfl))
  · exact Or.inr (Or.inr (Or.inr rfl))
theorem itE_inl {R T : Type} {f : Nat → T → R ⊕ T} {i n : Nat} {x : T} {r : R} (h : f i x = .inl r) : itE f i (n + 1) x = .inl r := by simp only [itE, h]
theorem itE_inr {R T : Type} {f : Nat → T → R ⊕ T} {i n : Nat} {x y : T} (h : f i x = .inr y) : itE f i (n + 1) x = itE f (i + 1) n y := by simp only [itE, h]
