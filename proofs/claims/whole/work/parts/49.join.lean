/-! who joins -/
theorem ag_join {k : Nat} {ν t τ θ : Mm} (p0 p1 : Int32) (hI : Inv k ν τ θ) (hk : k < 512) : Agr k [eA, eS] Prod.fst ν (fX2_join ν t p0 p1) (fX4_join θ τ p0 p1).1 (fX4_join θ τ p0 p1).2.1 (fX4_join θ τ p0 p1).2.2 := by
  obtain ⟨N, w, h, hw, hw2⟩ := hI
  have hB := Bk_ok (k := k) (by omega)
  have hN := h.n12
  unfold fX2_join fX4_join
  dsimp only
  by_cases ho : fX2_isOutside p0 1 9 = 0
  · rw [if_pos ho, if_neg (in_out.mp ho)]
    by_cases ho2 : fX2_isOutside p1 1 20 = 0
    · rw [if_pos ho2, if_neg (in_out.mp ho2), h.2.1.1, h.2.1.2]
      have hr := in_rng ho2
      rw [tI_1, tI_20] at hr
      by_cases hn : N = 12
      · subst hn
        rw [if_neg (by decide), if_pos (by decide)]
        exact Agr.no (vt := ν) h hw hw2 hk (by decide) (by decide)
      · have e1 : fX2_isOutside (nI N) 0 11 = 0 := by
          unfold fX2_isOutside
          exact (if_neg (nI_pos (by omega))).trans (if_pos (show nI N ≤ (11 : Int32) from nI_le (a := N) (b := 11) (by omega) (by decide)))
        have e2 : ¬ nI N = 12 := fun q => hn ((nI_eq (a := N) (b := 12) (by omega) (by decide)).mp q)
        rw [if_pos e1, if_neg e2, nI_clamp (by omega)]
        have e3 : fX0_enter ν N p0 p1 0 1 = nI N := by
          unfold fX0_enter
          simp [up2_ap, h.2.1.1]
        have e4 : jput τ p0 p1 0 1 = nI N := by
          unfold jput
          rw [if_neg (by decide), h.2.1.2]
        have e9 : ((9 : Int32) * τ 0 1).toNatClampNeg = 9 * N := by
          rw [h.2.1.2, show (9 : Int32) = nI 9 from rfl, pk_mul, nI_clamp (by omega)]
        rw [e3, e4, nI_1]
        have hno := h.no (Nat.le_refl N) (by omega)
        obtain ⟨n6, n5, n1, n2, n3, n4, n7, n8⟩ := hno
        refine Agr.yes (B := Bk k + 10) (M := N+1) (w' := w) (x := (up2 (fX0_enter ν N p0 p1) 0 1 (nI (N+1)), t)) ?_ (by omega) hk ?_ (by omega) rfl ?_
        · show Rl (N+1) (Bk k + 10) u0 ET (up2 (fX0_enter ν N p0 p1) 0 1 (nI (N+1))) (up2 (jput τ p0 p1) 0 1 (nI (N+1))) θ
          obtain ⟨a1, a2, a3, a4, a5, a6, a7, a8, a9, b1, b2, b3⟩ := h
          obtain ⟨s0, s2, s3, s4, s5, s6, s7, s8⟩ := a3
          have hc : ∀ r, r ≠ 0 → r ≠ N+5 → up2 (fX0_enter ν N p0 p1) 0 1 (nI (N+1)) r = ν r := by
            intro r h0 h1
            unfold fX0_enter
            funext f
            simp [up2_ap, h0, h1]
          have hrow : ∀ f, f < 10 → up2 (fX0_enter ν N p0 p1) 0 1 (nI (N+1)) (N+5) f = if f = 0 then p0 else if f = 1 then p1 else if f = 2 then 10 else if f = 6 then 0 else ν (N+5) f := by
            unfold fX0_enter
            refine ten ?_ ?_ ?_ ?_ ?_ ?_ ?_ ?_ ?_ ?_ <;> simp [up2_ap]
          have hj : ∀ r, r ≠ 2 → ∀ f, (r = 0 → f ≠ 1) → up2 (jput τ p0 p1) 0 1 (nI (N+1)) r f = τ r f := by
            intro r h2 f hf
            unfold jput
            by_cases q : r = 0
            · subst q
              simp [up2_ap, hf rfl]
            · simp [up2_ap, q, h2]
          refine ⟨⟨by omega, by omega⟩, ⟨?_, ?_⟩, ?_, ?_, ?_, ?_, ?_, ?_, ?_, ⟨?_, ?_, ?_, ?_, ?_⟩, trivial, trivial⟩
          · exact up2_s
          · exact up2_s
          · unfold Sc
            rw [hj 0 (by decide) 0 (by decide), hj 0 (by decide) 2 (by decide), hj 0 (by decide) 3 (by decide), hj 0 (by decide) 4 (by decide), hj 0 (by decide) 5 (by decide), hj 0 (by decide) 6 (by decide), hj 0 (by decide) 7 (by decide)]
            unfold fX0_enter
            simp [up2_ap, s0, s2, s3, s4, s5, s6, s7, s8]
          · intro j hj8
            rw [hc 1 (by decide) (by omega)]
            exact a4 j hj8
          · intro j hj3
            rw [hc 2 (by decide) (by omega), hj 1 (by decide) j (fun q => absurd q (by decide))]
            exact a5 j hj3
          · intro i f hi hf
            have e : up2 (jput τ p0 p1) 0 1 (nI (N+1)) 2 (9*i+f) = va_cpy (jrow p0 p1) (τ 2) 0 (9*N) 9 (9*i+f) := by
              unfold jput
              rw [e9]
              simp [up2_ap]
            rw [e]
            by_cases q : i = N
            · subst q
              rw [pk_cpy_in (by omega) (by omega), hrow f (by omega), show 0 + (9*i+f-9*i) = f by omega]
              revert f
              refine nine ?_ ?_ ?_ ?_ ?_ ?_ ?_ ?_ ?_ <;> simp [jrow, upd, n3, n4, n5, n7, n8]
            · rw [pk_cpy_out (by omega), hc (i+5) (by omega) (by omega)]
              exact a6 i f (by omega) hf
          · intro i hi
            by_cases q : i = N
            · subst q
              refine ⟨Or.inl ?_, ?_, fun _ => ?_, fun z => ?_, fun z => ?_, ?_, ?_⟩
              · rw [hrow 6 (by decide)]
                rfl
              · rw [hrow 5 (by decide)]
                exact Or.inl n5
              · rw [hrow 1 (by decide)]
                exact hr
              · exact absurd (((show up2 (fX0_enter ν i p0 p1) 0 1 (nI (i+1)) (i+5) 6 = 0 from (hrow 6 (by decide)).trans rfl)).symm.trans z) (show ¬ (0 : Int32) = 2 by decide)
              · exact absurd (((show up2 (fX0_enter ν i p0 p1) 0 1 (nI (i+1)) (i+5) 6 = 0 from (hrow 6 (by decide)).trans rfl)).symm.trans z) (show ¬ (0 : Int32) = 1 by decide)
              · rw [hrow 2 (by decide)]
                show 0 ≤ (10 : Int32).toInt
                decide
              · rw [hrow 3 (by decide)]
                show 0 ≤ (ν (i+5) 3).toInt
                rw [n3]
                decide
            · rw [hc (i+5) (by omega) (by omega)]
              exact a7 i (by omega)
          · intro i hi hi2
            rw [hc (i+5) (by omega) (by omega)]
            exact a8 i (by omega) hi2
          · intro i hi
            by_cases q : i = N
            · subst q
              rw [hrow 9 (by decide)]
              exact a9 i hi
            · rw [hc (i+5) (by omega) (by omega)]
              exact a9 i hi
          · unfold fX0_enter
            simpa [up2_ap] using b1.1
          · unfold fX0_enter
            simpa [up2_ap] using b1.2.1
          · unfold fX0_enter
            simpa [up2_ap] using b1.2.2.1
          · unfold fX0_enter
            simpa [up2_ap] using b1.2.2.2.1
          · have hs : smq (coI (up2 (fX0_enter ν N p0 p1) 0 1 (nI (N+1)))) 12 = smq (coI ν) 12 - coI ν N + coI (up2 (fX0_enter ν N p0 p1) 0 1 (nI (N+1))) N := smq_upd (by omega) (fun j hj hne => by
              unfold coI
              rw [hc (j+5) (by omega) (by omega)])
            have e5 : coI ν N = 0 := by
              unfold coI
              rw [n2]
              decide
            have e6 : coI (up2 (fX0_enter ν N p0 p1) 0 1 (nI (N+1))) N = 10 := by
              unfold coI
              rw [hrow 2 (by decide)]
              show (10 : Int32).toInt = 10
              decide
            have e7 : up2 (fX0_enter ν N p0 p1) 0 1 (nI (N+1)) 0 2 = ν 0 2 := by
              unfold fX0_enter
              simp [up2_ap]
            have e8 : up2 (fX0_enter ν N p0 p1) 0 1 (nI (N+1)) 0 4 = ν 0 4 := by
              unfold fX0_enter
              simp [up2_ap]
            have e10 := b1.2.2.2.2
            unfold phi at e10 ⊢
            rw [hs, e5, e6, e7, e8]
            omega
        · rw [← hw]
          show up2 (fX0_enter ν N p0 p1) 0 1 (nI (N+1)) 0 0 = ν 0 0
          unfold fX0_enter
          simp [up2_ap]
        · show nI N = up2 (jput τ p0 p1) 0 1 (nI (N+1)) 0 1 - 1
          rw [up2_s]
          exact (nI_pred N).symm
    · rw [if_neg ho2, if_pos (Decidable.byContradiction (fun z => ho2 (in_out.mpr z)))]
      exact Agr.no (vt := ν) h hw hw2 hk (by decide) (by decide)
  · rw [if_neg ho, if_pos (Decidable.byContradiction (fun z => ho (in_out.mpr z)))]
    exact Agr.no (vt := ν) h hw hw2 hk (by decide) (by decide)
