/-! a week whole, weeks, looks ahead, what is counted -/
def Ew (e a b : Int32) : Prop := b = if a = 0 then e else 1
def ET (_ _ : Int32) : Prop := True
abbrev u0 : Nat → Int32 := fun _ => 0
theorem lw_eq {σ : Mm} {n : Nat} : fX1_liveWeeks σ n = itR (fun _ x => fX1_liveWeek x) 0 n σ := by
  unfold fX1_liveWeeks fX1_liveWeeks_k1 fX1_liveWeeks_b1
  dsimp only
theorem pk2_eq {v : Int32} {x : Mm} : fX3_pass_k2 v x = up2 (itR (fun i x => fX3_pass_b4 v i x) 0 (wfn (itR (fun i x => fX3_pass_b3 i x) 0 (wfn x) x)) (itR (fun i x => fX3_pass_b3 i x) 0 (wfn x) x)) 0 0 (itR (fun i x => fX3_pass_b4 v i x) 0 (wfn (itR (fun i x => fX3_pass_b3 i x) 0 (wfn x) x)) (itR (fun i x => fX3_pass_b3 i x) 0 (wfn x) x) 0 0 + 1) := by
  unfold fX3_pass_k2 fX3_pass_k3 fX3_pass_k4
  dsimp only
section WEEK3
variable {N : Nat} {B : Int} {u : Nat → Int32} {E E' : Int32 → Int32 → Prop} {σ τ θ θ' σ' τ' : Mm}
theorem Rl.ce (h : Rl N B u E σ τ θ) (hE : E' (σ 0 9) (τ 0 8)) (h1 : E' 1 1) : Rl N B u E' σ τ θ := by
  obtain ⟨a1, a2, a3, a4, a5, a6, a7, a8, a9, b1, b2, b3⟩ := h
  exact ⟨a1, a2, a3, a4, a5, a6, a7, a8, a9, b1, hE, h1⟩
theorem Rl.et (h : Rl N B u E σ τ θ) : Rl N B u ET σ τ θ := h.ce trivial trivial
theorem Rl.th (h : Rl N B u E σ τ θ) (h1 : θ' 1 = θ 1) (h0 : θ' 0 1 = θ 0 1) : Rl N B u E σ τ θ' := by
  obtain ⟨a1, a2, a3, a4, a5, a6, a7, a8, a9, b1, b2, b3⟩ := h
  refine ⟨a1, a2, ?_, ?_, a5, a6, a7, a8, a9, b1, b2, b3⟩
  · unfold Sc
    rw [h0]
    exact a3
  · unfold Fvr
    rw [h1]
    exact a4
theorem Rl.next {w : Nat} (h : Rl N B u E σ τ θ) (hw : τ 0 0 = nI w) : Rl N B u E (up2 σ 0 0 (σ 0 0 + 1)) (up2 τ 0 0 (τ 0 0 + 1)) θ ∧ up2 τ 0 0 (τ 0 0 + 1) 0 0 = nI (w+1) := by
  obtain ⟨s0, s2, s3, s4, s5, s6, s7, s8⟩ := h.sc
  refine ⟨h.scal (θ' := θ) (E' := E) ?_ ?_ ?_ ?_ rfl ?_ ?_ ?_ h.1.2 ?_ ?_ h.e1, ?_⟩
  · exact fun r h0 _ => up2_row h0
  · exact fun r h0 => up2_row h0
  · simp [up2_ap]
  · simp only [up2_ap]
    exact ⟨h.pos.2.2.1, h.pos.2.2.2.1⟩
  · simp [Sc, up2_ap, s0, s2, s3, s4, s5, s6, s7, s8]
  · simpa [up2_ap] using h.pos.1
  · simpa [up2_ap] using h.pos.2.1
  · simp [up2_ap]
  · simpa [up2_ap] using h.e
  · rw [up2_s, hw, nI_1]
theorem Rl.week {w : Nat} (h : Rl N B u0 E σ τ θ) (hw : σ 0 0 = nI w) (hw2 : w < 2 ^ 31) : Rl N B u0 (Ew (τ 0 8)) (fX1_liveWeek σ) (fX3_pass θ τ) θ ∧ fX3_pass θ τ 0 0 = nI (w+1) := by
  obtain ⟨s0, s2, s3, s4, s5, s6, s7, s8⟩ := h.sc
  have wτ : τ 0 0 = nI w := by rw [← s0, hw]
  have h0 : Rl N B u0 (Ew (τ 0 8)) (up2 σ 0 9 0) τ θ := by
    refine h.scal (θ' := θ) ?_ ?_ ?_ ?_ rfl ?_ ?_ ?_ h.1.2 ?_ ?_ ?_
    · exact fun r h0 _ => up2_row h0
    · exact fun r h0 => rfl
    · simp [up2_ap]
    · simp only [up2_ap]
      exact ⟨h.pos.2.2.1, h.pos.2.2.2.1⟩
    · simp [Sc, up2_ap, s0, s2, s3, s4, s5, s6, s7, s8]
    · simpa [up2_ap] using h.pos.1
    · simpa [up2_ap] using h.pos.2.1
    · simp [up2_ap]
    · simp [up2_ap, Ew]
    · simp [Ew]
  obtain ⟨h1, hc, e1⟩ := h0.fire
  obtain ⟨h2, e2⟩ := h1.combs hc
  have hw3 : fX1_combWool (fX1_lightFires (up2 σ 0 9 0)) 0 0 = nI w := by rw [h2.sc.1, e2, e1, wτ]
  obtain ⟨h3, e3⟩ := h2.fevers hw3 hw2
  have w3 : fX3_fever θ (fX3_comb (fX3_fire τ)) 0 0 = nI w := by rw [e3, e2, e1, wτ]
  obtain ⟨u, h4, hM, e4⟩ := h3.nurses
  rw [w3] at e4
  unfold fX1_liveWeek fX3_pass fX3_pass_k1x fX3_pass_k1
  dsimp only
  generalize (itR (fun i x => fX3_pass_b1 i x.1 x.2) 0 (wfn (fX3_fever θ (fX3_comb (fX3_fire τ)))) ((0 : Int32), fX3_fever θ (fX3_comb (fX3_fire τ)))) = Y at h4 hM e4 ⊢
  generalize fX1_nurseSick (fX1_spreadFever (fX1_combWool (fX1_lightFires (up2 σ 0 9 0)))) = X at h4 ⊢
  clear h3 h2 h1 h0 e3 e2 e1 w3 hw3 hc
  obtain ⟨v, y⟩ := Y
  obtain ⟨h5, e5⟩ := h4.duess
  dsimp only at e4 hM h5 e5 ⊢
  rw [e4] at e5
  generalize fX1_takeDues X = X5 at h5 ⊢
  generalize (itR (fun i x => fX3_pass_b2 θ i x) 0 (wfn y) y) = y5 at h5 e5 ⊢
  clear h4 e4
  rw [pk2_eq]
  have hfm : fJ9_floorMod_7cf53 (X5 0 0) 4 = y5 0 0 - y5 0 0 / 4 * 4 := by
    rw [h5.sc.1, e5]
    exact fm_pos (nI_pos' hw2) (by decide)
  rw [hfm]
  by_cases hm : y5 0 0 - y5 0 0 / 4 * 4 = 3
  · rw [if_pos hm]
    obtain ⟨h6, e6⟩ := h5.drinks hm
    rw [e5] at e6
    obtain ⟨h7, e7⟩ := h6.burys hM
    exact h7.next (e7.trans e6)
  · rw [if_neg hm, drinks_not hm]
    obtain ⟨h7, e7⟩ := h5.burys hM
    exact h7.next (e7.trans e5)
theorem Rl.weeks {w n : Nat} (h : Rl N B u0 E σ τ θ) (hw : σ 0 0 = nI w) (hw2 : w + n < 2 ^ 31) : Rl N B u0 ET (fX1_liveWeeks σ n) (itR (fun _ x => fX3_pass θ x) 0 n τ) θ ∧ fX1_liveWeeks σ n 0 0 = nI (w+n) := by
  rw [lw_eq]
  exact itR_two (f := fun _ x => fX1_liveWeek x) (g := fun _ x => fX3_pass θ x) (P := fun i x y => Rl N B u0 ET x y θ ∧ x 0 0 = nI (w+i)) ⟨h.et, hw⟩ n (fun i x y hi hP => by
    obtain ⟨q1, q2⟩ := hP.1.week hP.2 (by omega)
    exact ⟨q1.et, by rw [q1.sc.1, q2]; rfl⟩)
theorem Rl.same (h : Rl N B u E σ τ θ) (a0 : ∀ k, k < 9 → σ' 0 k = σ 0 k) (a1 : ∀ j, j < 8 → σ' 1 j = σ 1 j) (a2 : ∀ j, j < 3 → σ' 2 j = σ 2 j) (a5 : ∀ i, i < 12 → ∀ f, f < 10 → σ' (i+5) f = σ (i+5) f) (b0 : ∀ k, k < 8 → τ' 0 k = τ 0 k) (b1 : ∀ j, j < 3 → τ' 1 j = τ 1 j) (b2 : ∀ j, j < 108 → τ' 2 j = τ 2 j) : Rl N B u ET σ' τ' θ := by
  have hn := h.n12
  obtain ⟨c1, c2, c3, c4, c5, c6, c7, c8, c9, d1, d2, d3⟩ := h
  refine ⟨c1, ?_, ?_, ?_, ?_, ?_, ?_, ?_, ?_, ?_, trivial, trivial⟩
  · rw [a0 1 (by decide), b0 1 (by decide)]
    exact c2
  · unfold Sc
    rw [a0 0 (by decide), a0 2 (by decide), a0 3 (by decide), a0 4 (by decide), a0 5 (by decide), a0 6 (by decide), a0 7 (by decide), a0 8 (by decide), b0 0 (by decide), b0 2 (by decide), b0 3 (by decide), b0 4 (by decide), b0 5 (by decide), b0 6 (by decide), b0 7 (by decide)]
    exact c3
  · intro j hj
    rw [a1 j hj]
    exact c4 j hj
  · intro j hj
    rw [a2 j hj, b1 j hj]
    exact c5 j hj
  · intro i f hi hf
    rw [a5 i (by omega) f (by omega), b2 (9*i+f) (by omega)]
    exact c6 i f hi hf
  · intro i hi
    have a := a5 i (by omega)
    refine (c7 i hi).co (a 6 (by decide)) (a 5 (by decide)) (a 1 (by decide)) (a 7 (by decide)) ?_ ?_
    · rw [a 2 (by decide)]
      exact (c7 i hi).2.2.2.2.2.1
    · rw [a 3 (by decide)]
      exact (c7 i hi).2.2.2.2.2.2
  · intro i hi hi2
    have a := a5 i hi2
    unfold mNo
    rw [a 6 (by decide), a 5 (by decide), a 1 (by decide), a 2 (by decide), a 3 (by decide), a 4 (by decide), a 7 (by decide), a 8 (by decide)]
    exact c8 i hi hi2
  · intro i hi
    rw [a5 i hi 9 (by decide)]
    exact c9 i hi
  · have e : smq (coI σ') 12 = smq (coI σ) 12 := smq_eq (fun j hj => by
      unfold coI
      rw [a5 j hj 2 (by decide)])
    unfold phi at d1 ⊢
    rw [e, a0 2 (by decide), a0 4 (by decide), a0 6 (by decide)]
    exact d1
theorem ten {P : Nat → Prop} (h0 : P 0) (h1 : P 1) (h2 : P 2) (h3 : P 3) (h4 : P 4) (h5 : P 5) (h6 : P 6) (h7 : P 7) (h8 : P 8) (h9 : P 9) : ∀ f, f < 10 → P f := by
  intro f hf
  rcases Nat.lt_or_ge f 9 with q | q
  · exact nine h0 h1 h2 h3 h4 h5 h6 h7 h8 f q
  · obtain rfl : f = 9 := by omega
    exact h9
theorem copy_cells {t ν : Mm} : (∀ k, k < 9 → fX1_copyFrom t ν 0 k = ν 0 k) ∧ (∀ j, j < 8 → fX1_copyFrom t ν 1 j = ν 1 j) ∧ (∀ j, j < 3 → fX1_copyFrom t ν 2 j = ν 2 j) ∧ ∀ i, i < 12 → ∀ f, f < 10 → fX1_copyFrom t ν (i+5) f = ν (i+5) f := by
  unfold fX1_copyFrom fX1_copyFrom_k1 fX1_copyFrom_k2 fX1_copyFrom_k3
  dsimp only
  generalize hx0 : up2 (up2 (up2 (up2 (up2 (up2 (up2 (up2 (up2 t 0 0 (ν 0 0)) 0 1 (ν 0 1)) 0 2 (ν 0 2)) 0 3 (ν 0 3)) 0 4 (ν 0 4)) 0 5 (ν 0 5)) 0 6 (ν 0 6)) 0 7 (ν 0 7)) 0 8 (ν 0 8) = x0
  have A0 : ∀ k, k < 9 → x0 0 k = ν 0 k := by
    rw [← hx0]
    refine nine ?_ ?_ ?_ ?_ ?_ ?_ ?_ ?_ ?_ <;> simp [up2_ap]
  have A1 := itR_ind (f := fun i x => fX1_copyFrom_b1 ν i x) (P := fun i x => (∀ k, k < 9 → x 0 k = ν 0 k) ∧ ∀ j, j < i → x 1 j = ν 1 j) (x := x0) ⟨A0, fun j hj => by omega⟩ 8 (fun i y hi hP => by
    show (∀ k, k < 9 → up2 y 1 i (ν 1 i) 0 k = ν 0 k) ∧ ∀ j, j < i+1 → up2 y 1 i (ν 1 i) 1 j = ν 1 j
    refine ⟨fun k hk => by simp [up2_ap, hP.1 k hk], fun j hj => ?_⟩
    by_cases e : j = i
    · subst e
      exact up2_s
    · simp [up2_ap, e, hP.2 j (by omega)])
  generalize itR (fun i x => fX1_copyFrom_b1 ν i x) 0 8 x0 = x1 at A1 ⊢
  have A2 := itR_ind (f := fun i x => fX1_copyFrom_b2 ν i x) (P := fun i x => ((∀ k, k < 9 → x 0 k = ν 0 k) ∧ ∀ j, j < 8 → x 1 j = ν 1 j) ∧ ∀ j, j < i → x 2 j = ν 2 j) (x := x1) ⟨A1, fun j hj => by omega⟩ 3 (fun i y hi hP => by
    show ((∀ k, k < 9 → up2 y 2 i (ν 2 i) 0 k = ν 0 k) ∧ ∀ j, j < 8 → up2 y 2 i (ν 2 i) 1 j = ν 1 j) ∧ ∀ j, j < i+1 → up2 y 2 i (ν 2 i) 2 j = ν 2 j
    refine ⟨⟨fun k hk => by simp [up2_ap, hP.1.1 k hk], fun j hj => by simp [up2_ap, hP.1.2 j hj]⟩, fun j hj => ?_⟩
    by_cases e : j = i
    · subst e
      exact up2_s
    · simp [up2_ap, e, hP.2 j (by omega)])
  generalize itR (fun i x => fX1_copyFrom_b2 ν i x) 0 3 x1 = x2 at A2 ⊢
  have A3 := itR_ind (f := fun i x => fX1_copyFrom_b3 ν i x) (P := fun i x => (((∀ k, k < 9 → x 0 k = ν 0 k) ∧ ∀ j, j < 8 → x 1 j = ν 1 j) ∧ ∀ j, j < 3 → x 2 j = ν 2 j) ∧ ∀ j, j < i → ∀ f, f < 10 → x (j+5) f = ν (j+5) f) (x := x2) ⟨A2, fun j hj => by omega⟩ 12 (fun i y hi hP => by
    show (((∀ k, k < 9 → fX0_copyFrom y ν i 0 k = ν 0 k) ∧ ∀ j, j < 8 → fX0_copyFrom y ν i 1 j = ν 1 j) ∧ ∀ j, j < 3 → fX0_copyFrom y ν i 2 j = ν 2 j) ∧ ∀ j, j < i+1 → ∀ f, f < 10 → fX0_copyFrom y ν i (j+5) f = ν (j+5) f
    unfold fX0_copyFrom
    refine ⟨⟨⟨fun k hk => by simp [up2_ap, hP.1.1.1 k hk], fun j hj => by simp [up2_ap, hP.1.1.2 j hj]⟩, fun j hj => by simp [up2_ap, hP.1.2 j hj]⟩, fun j hj => ?_⟩
    by_cases e : j = i
    · subst e
      refine ten ?_ ?_ ?_ ?_ ?_ ?_ ?_ ?_ ?_ ?_ <;> simp [up2_ap]
    · intro f hf
      simp [up2_ap, e, hP.2 j (by omega) f hf])
  exact ⟨A3.1.1.1, A3.1.1.2, A3.1.2, A3.2⟩
theorem Rl.ahead {t y : Mm} (h : Rl N B u E σ τ θ) : Rl N B u ET (fX1_copyFrom t σ) (fX3_become y τ) θ ∧ fX3_become y τ 0 8 = 0 ∧ fX1_copyFrom t σ 0 0 = σ 0 0 := by
  obtain ⟨a0, a1, a2, a5⟩ := copy_cells (t := t) (ν := σ)
  refine ⟨h.same a0 a1 a2 a5 ?_ ?_ ?_, ?_, a0 0 (by decide)⟩
  all_goals unfold fX3_become
  all_goals try dsimp only
  · intro k hk
    rcases (show k = 0 ∨ k = 1 ∨ k = 2 ∨ k = 3 ∨ k = 4 ∨ k = 5 ∨ k = 6 ∨ k = 7 by omega) with rfl | rfl | rfl | rfl | rfl | rfl | rfl | rfl <;> simp [rowC, up2_ap]
  · intro j hj
    simp [rowC, va_cpy, hj]
  · intro j hj
    simp [rowC, va_cpy, hj]
  · simp [rowC, up2_ap]
end WEEK3
