theorem combs_ix {σ : Nat → Nat → Int32} {i : Nat} (h : ¬ fX0_combs σ i = 0) : σ (i+5) 5 = nI (σ (i+5) 5).toNatClampNeg ∧ (σ (i+5) 5).toNatClampNeg < 3 := by
  unfold fX0_combs at h
  split at h
  · split at h
    · exact absurd rfl h
    · split at h
      · exact absurd rfl h
      · rename_i h1 h2 h3
        exact ixc (N := 3) h2 h3 (by decide)
  · exact absurd rfl h
theorem fm_ix (x : Int32) : fJ9_floorMod_7cf53 x (8 : Int32) = nI (fJ9_floorMod_7cf53 x (8 : Int32)).toNatClampNeg ∧ (fJ9_floorMod_7cf53 x (8 : Int32)).toNatClampNeg < 8 := by
  sorry
