/-! the calls agree: what is kept between calls -/
abbrev eA : String := "java/lang/IllegalArgumentException"
abbrev eS : String := "java/lang/IllegalStateException"
abbrev eI : String := "java/lang/IndexOutOfBoundsException"
def codeOf : List String → Int32 → String → Int32
  | [], _, _ => 0
  | e :: es, n, x => if x = e then n else codeOf es (n+1) x
def Bk (k : Nat) : Int := 260 + 300 * (k : Int)
def Inv (k : Nat) (ν τ θ : Mm) : Prop := ∃ N w, Rl N (Bk k) u0 ET ν τ θ ∧ ν 0 0 = nI w ∧ w ≤ 60 * k
def Agr (k : Nat) (cs : List String) (sel : Mm × Mm → Mm) (ν : Mm) (res : (Int32 × Mm × Mm) ⊕ String) (q : Int32) (θ' τ' : Mm) : Prop :=
  (∃ u : Mm × Mm, res = .inl (q, u) ∧ θ' 0 0 = 0 ∧ Inv (k+1) (sel u) τ' θ') ∨ (∃ x, res = .inr x ∧ x ∈ cs ∧ θ' 0 0 = codeOf cs 1 x ∧ Inv (k+1) ν τ' θ')
section AGR
variable {N k w i : Nat} {B B' : Int} {u u' : Nat → Int32} {E : Int32 → Int32 → Prop} {σ τ θ σ' τ' ν t : Mm} {cs : List String} {sel : Mm × Mm → Mm}
theorem Rl.mono (h : Rl N B u E σ τ θ) (hB : B ≤ B') (hB' : B' < 1000000000) : Rl N B' u E σ τ θ := by
  obtain ⟨a1, a2, a3, a4, a5, a6, a7, a8, a9, b1, b2, b3⟩ := h
  exact ⟨⟨a1.1, hB'⟩, a2, a3, a4, a5, a6, a7, a8, a9, ⟨b1.1, b1.2.1, b1.2.2.1, b1.2.2.2.1, Int.le_trans b1.2.2.2.2 hB⟩, b2, b3⟩
theorem Bk_ok (hk : k < 600) : Bk k < 1000000000 ∧ Bk k + 300 = Bk (k+1) ∧ Bk (k+1) < 1000000000 := by
  unfold Bk
  omega
theorem Inv.hU (hI : Inv k ν τ θ) : ∀ i, i < 12 → ν (i+5) 9 = 0 ∨ ν (i+5) 9 = 1 := by
  obtain ⟨N, w, h, -, -⟩ := hI
  exact fun i hi => Or.inl (h.bit hi)
theorem Agr.no {x : String} {c : Int32} {vt : Mm} (h : Rl N (Bk k) u0 ET ν τ θ) (hw : ν 0 0 = nI w) (hw2 : w ≤ 60 * k) (hk : k < 512) (hx : x ∈ cs) (hc : codeOf cs 1 x = c) : Agr k cs sel ν (.inr x) (fX4_no (up2 θ 0 0 0) c).1 (fX4_no (up2 θ 0 0 0) c).2 τ := by
  obtain ⟨b1, b2, b3⟩ := Bk_ok (k := k) (by omega)
  refine Or.inr ⟨x, rfl, hx, ?_, N, w, (h.mono (by omega) b3).th ?_ ?_, hw, by omega⟩
  · rw [hc]
    unfold fX4_no
    simp [up2_ap]
  · unfold fX4_no
    funext f
    simp [up2_ap]
  · unfold fX4_no
    simp [up2_ap]
theorem Agr.yes {v v' : Int32} {ν' : Mm} {x : Mm × Mm} {M : Nat} {w' : Nat} (h : Rl M B u0 ET ν' τ' θ) (hB : B ≤ Bk (k+1)) (hk : k < 512) (hw : ν' 0 0 = nI w') (hw2 : w' ≤ 60 * (k+1)) (hx : sel x = ν') (hv : v = v') : Agr k cs sel ν (.inl (v, x)) v' (up2 θ 0 0 0) τ' := by
  obtain ⟨b1, b2, b3⟩ := Bk_ok (k := k) (by omega)
  subst hv
  refine Or.inl ⟨x, rfl, ?_, M, w', ?_, ?_, hw2⟩
  · simp [up2_ap]
  · rw [hx]
    refine (h.mono hB b3).th ?_ ?_
    · funext f
      simp [up2_ap]
    · simp [up2_ap]
  · rw [hx]
    exact hw
theorem Rl.stepB (h : Rl N B u E σ τ θ) (hi : i < N) (hr : ∀ r, r ≠ 0 → r ≠ 3 → r ≠ i+5 → σ' r = σ r) (ht : τ' 1 = τ 1) (hN : σ' 0 1 = σ 0 1 ∧ τ' 0 1 = τ 0 1 ∧ σ' 0 6 = σ 0 6) (hs : Sc σ' τ' θ)
    (hm : ∀ f, f < 9 → σ' (i+5) f = τ' 2 (9*i+f)) (ho : ∀ j, j < 9*i ∨ 9*i+9 ≤ j → τ' 2 j = τ 2 j) (hk : mOK (σ' (i+5))) (hu : ∀ k, k < 12 → u' k = if k = i then σ' (i+5) 9 else u k)
    (hb : 0 ≤ (σ' 0 2).toInt) (hw : 0 ≤ (σ' 0 4).toInt) (hp : (σ' 0 2).toInt + (σ' 0 4).toInt + (σ' (i+5) 2).toInt + B ≤ (σ 0 2).toInt + (σ 0 4).toInt + (σ (i+5) 2).toInt + B') (hB : B' < 1000000000) (hE : E (σ' 0 9) (τ' 0 8)) : Rl N B' u' E σ' τ' θ := by
  have h12 := h.1.1
  obtain ⟨a1, a2, a3, a4, a5, a6, a7, a8, a9, b1, b2, b3⟩ := h
  refine ⟨⟨a1.1, hB⟩, ⟨hN.1.trans a2.1, hN.2.1.trans a2.2⟩, hs, ?_, ?_, ?_, ?_, ?_, ?_, ⟨hb, hw, ?_, ?_, ?_⟩, hE, b3⟩
  · intro j hj
    rw [hr 1 (by decide) (by decide) (by omega)]
    exact a4 j hj
  · intro j hj
    rw [hr 2 (by decide) (by decide) (by omega), ht]
    exact a5 j hj
  · intro k f hk hf
    by_cases e : k = i
    · subst e
      exact hm f hf
    · rw [hr (k+5) (by omega) (by omega) (by omega), ho (9*k+f) (by omega)]
      exact a6 k f hk hf
  · intro k hk2
    by_cases e : k = i
    · subst e
      exact hk
    · rw [hr (k+5) (by omega) (by omega) (by omega)]
      exact a7 k hk2
  · intro k hk2 hk3
    rw [hr (k+5) (by omega) (by omega) (by omega)]
    exact a8 k hk2 hk3
  · intro k hk2
    rw [hu k hk2]
    by_cases e : k = i
    · subst e
      rw [if_pos rfl]
    · rw [if_neg e, hr (k+5) (by omega) (by omega) (by omega)]
      exact a9 k hk2
  · rw [hN.2.2]
    exact b1.2.2.1
  · rw [hN.2.2]
    exact b1.2.2.2.1
  · have h1 : smq (coI σ') 12 = smq (coI σ) 12 - coI σ i + coI σ' i := smq_upd (by omega) (fun j hj hne => by
      unfold coI
      rw [hr (j+5) (by omega) (by omega) (by omega)])
    have h2 := b1.2.2.2.2
    unfold phi at h2
    unfold phi
    unfold coI at h1
    unfold coI at h2 ⊢
    omega
/-- a member's purse alone -/
theorem Rl.purse {c : Int32} (h : Rl N B u E σ τ θ) (hi : i < N) (hc : 0 ≤ c.toInt) (hp : c.toInt + B ≤ (σ (i+5) 2).toInt + B') (hB : B' < 1000000000) : Rl N B' u E (up2 σ (i+5) 2 c) (up2 τ 2 (9*i+2) c) θ := by
  have h12 := h.n12
  obtain ⟨s0, s2, s3, s4, s5, s6, s7, s8⟩ := h.sc
  have hm := h.ok hi
  refine h.stepB hi ?_ ?_ ?_ ?_ ?_ ?_ ?_ ?_ ?_ ?_ ?_ hB ?_
  · exact fun r q0 q3 q5 => up2_row q5
  · exact up2_row (by decide)
  · simp [up2_ap]
  · simp [Sc, up2_ap, s0, s2, s3, s4, s5, s6, s7, s8]
  · intro f hf
    have e := h.cell hi hf
    by_cases q : f = 2
    · subst q
      simp [up2_ap]
    · simp [up2_ap, q, e]
  · intro j hj
    simp [up2_ap, show j ≠ 9*i+2 by omega]
  · exact hm.co (by simp [up2_ap]) (by simp [up2_ap]) (by simp [up2_ap]) (by simp [up2_ap]) (by simpa [up2_ap] using hc) (by simpa [up2_ap] using hm.2.2.2.2.2.2)
  · intro k hk
    by_cases q : k = i
    · subst q
      rw [if_pos rfl]
      simpa [up2_ap] using (h.bit hk).symm
    · rw [if_neg q]
  · simpa [up2_ap] using h.pos.1
  · simpa [up2_ap] using h.pos.2.1
  · simp [up2_ap]
    omega
  · simpa [up2_ap] using h.e
/-- a member's pot alone -/
theorem Rl.put {c : Int32} (h : Rl N B u E σ τ θ) (hi : i < N) (hc : atR c) (hd : ¬ σ (i+5) 6 = 2) : Rl N B u E (up2 σ (i+5) 5 c) (up2 τ 2 (9*i+5) c) θ := by
  have h12 := h.n12
  obtain ⟨s0, s2, s3, s4, s5, s6, s7, s8⟩ := h.sc
  obtain ⟨k1, k2, k3, k4, k5, k6⟩ := h.ok hi
  refine h.stepB hi ?_ ?_ ?_ ?_ ?_ ?_ ?_ ?_ ?_ ?_ ?_ h.1.2 ?_
  · exact fun r q0 q3 q5 => up2_row q5
  · exact up2_row (by decide)
  · simp [up2_ap]
  · simp [Sc, up2_ap, s0, s2, s3, s4, s5, s6, s7, s8]
  · intro f hf
    have e := h.cell hi hf
    by_cases q : f = 5
    · subst q
      simp [up2_ap]
    · simp [up2_ap, q, e]
  · intro j hj
    simp [up2_ap, show j ≠ 9*i+5 by omega]
  · refine ⟨?_, ?_, ?_, ?_, ?_, ?_⟩
    · simpa [up2_ap] using k1
    · simpa [up2_ap] using hc
    · simpa [up2_ap] using k3
    · intro q
      exact absurd (by simpa [up2_ap] using q) hd
    · simpa [up2_ap] using k5
    · simpa [up2_ap] using k6
  · intro k hk
    by_cases q : k = i
    · subst q
      rw [if_pos rfl]
      simpa [up2_ap] using (h.bit hk).symm
    · rw [if_neg q]
  · simpa [up2_ap] using h.pos.1
  · simpa [up2_ap] using h.pos.2.1
  · simp [up2_ap]
  · simpa [up2_ap] using h.e
theorem room_iff (h : Rl N B u E σ τ θ) (hi : i < N) {p : Nat} (hp : p < 3) : fX1_hasRoom σ (nI p) i = 0 ↔ ¬ fX4_others τ (nI i) (nI p) < 4 := by
  have hi12 : i < 12 := by have := h.n12; omega
  have hz : ∀ x : Int32, x - 0 = x := fun x => Int32.sub_zero x
  have key : ∀ x : Int32, (if (4 : Int32) ≤ x then (0 : Int32) else 1) = 0 ↔ ¬ x < 4 := by
    intro x
    by_cases q : (4 : Int32) ≤ x
    · rw [if_pos q]
      rw [iG] at q
      simp only [true_iff, iL]
      omega
    · rw [if_neg q]
      rw [iG] at q
      rw [iL]
      constructor
      · intro z
        exact absurd z (by decide)
      · intro z
        omega
  unfold fX1_hasRoom fX4_others
  rw [of5 hi12, h.cell hi (by decide), if_neg (Ne.symm (pot_m1 hp)), h.there hp, hz]
  by_cases e : σ (i+5) 5 = nI p
  · rw [if_pos e, if_pos e]
    exact key _
  · rw [if_neg e, if_neg e]
    exact key _
theorem pot_rng {p : Int32} (h : fX2_isOutside p (-1) 2 = 0) : atR p ∧ (¬ p = -1 → ∃ q, q < 3 ∧ p = nI q) := by
  have hr := in_rng h
  rw [tI_m1, tI_2] at hr
  unfold atR
  rw [iE p (-1), iE p 0, iE p 1, iE p 2, tI_m1, tI_0, tI_1, tI_2]
  refine ⟨by omega, fun hn => ?_⟩
  obtain ⟨j, hj, e⟩ := nI_of (x := p) (by rw [iL, tI_0]; omega)
  rw [e, nI_toInt hj] at hr
  exact ⟨j, by omega, e⟩
end AGR
