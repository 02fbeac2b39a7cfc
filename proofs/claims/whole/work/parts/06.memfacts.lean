theorem combs_ix {σ : Nat → Nat → Int32} {i : Nat} (h : ¬ fX0_combs σ i = 0) : σ (i+5) 5 = nI (σ (i+5) 5).toNatClampNeg ∧ (σ (i+5) 5).toNatClampNeg < 3 := by
  unfold fX0_combs at h
  split at h
  · split at h
    · exact absurd rfl h
    · split at h
      · exact absurd rfl h
      · rename_i h1 h2 h3
        exact ixc (N := 3) h2 h3 (by decide)
  · exact absurd rfl h
theorem i32_msb (x : Int32) : 0 ≤ x ↔ x.toBitVec.msb = false := by
  rw [Int32.le_iff_toInt_le, Int32.toInt_zero, BitVec.msb_eq_toInt]
  show 0 ≤ x.toBitVec.toInt ↔ decide (x.toBitVec.toInt < 0) = false
  rw [decide_eq_false_iff_not]
  omega
theorem xor_pos {x m : Int32} (hm : 0 ≤ m) : 0 ≤ (x ^^^ m) ↔ 0 ≤ x := by
  rw [i32_msb, i32_msb, Int32.toBitVec_xor, BitVec.msb_xor, (i32_msb m).mp hm]
  simp
theorem fm_pos {x m : Int32} (hx : 0 ≤ x) (hm : 0 ≤ m) : fJ9_floorMod_7cf53 x m = x - x / m * m := by
  unfold fJ9_floorMod_7cf53
  exact if_pos ((xor_pos hm).mpr hx)
theorem fm_rng (x : Int32) : 0 ≤ (fJ9_floorMod_7cf53 x (8 : Int32)).toInt ∧ (fJ9_floorMod_7cf53 x (8 : Int32)).toInt < 8 := by
  have h8 : (8 : Int32).toInt = 8 := by decide
  have hr := rem_toInt x 8
  rw [h8] at hr
  unfold fJ9_floorMod_7cf53
  by_cases h0 : 0 ≤ (x ^^^ (8 : Int32))
  · rw [if_pos h0, hr]
    have hx := (xor_pos (x := x) (m := 8) (by decide)).mp h0
    rw [Int32.le_iff_toInt_le, Int32.toInt_zero] at hx
    rw [Int.tmod_eq_emod_of_nonneg hx]
    omega
  · rw [if_neg h0]
    have hx : ¬ 0 ≤ x := fun q => h0 ((xor_pos (by decide)).mpr q)
    rw [Int32.le_iff_toInt_le, Int32.toInt_zero] at hx
    have hb := tmod_bounds (a := x.toInt) (M := 8) (by decide)
    have hneg : x.toInt.tmod 8 ≤ 0 := by
      have e : x.toInt.tmod 8 = -((-x.toInt).tmod 8) := by rw [Int.neg_tmod, Int.neg_neg]
      rw [e, Int.tmod_eq_emod_of_nonneg (by omega)]
      omega
    by_cases h1 : x - x / 8 * 8 = 0
    · rw [if_pos h1, h1]
      decide
    · rw [if_neg h1]
      have h2 : (x - x / 8 * 8).toInt ≠ 0 := fun q => h1 (Int32.toInt_inj.mp (by rw [q]; rfl))
      rw [hr] at h2
      rw [Jvm.Kit.i32_add (by rw [hr, h8]; omega) (by rw [hr, h8]; omega), hr, h8]
      omega
theorem fm_ix (x : Int32) : fJ9_floorMod_7cf53 x (8 : Int32) = nI (fJ9_floorMod_7cf53 x (8 : Int32)).toNatClampNeg ∧ (fJ9_floorMod_7cf53 x (8 : Int32)).toNatClampNeg < 8 := by
  obtain ⟨h1, h2⟩ := fm_rng x
  obtain ⟨j, hj, e⟩ := nI_of (x := fJ9_floorMod_7cf53 x (8 : Int32)) (by rw [Int32.lt_iff_toInt_lt, Int32.toInt_zero]; omega)
  rw [e, nI_toInt hj] at h2
  rw [e, nI_clamp hj]
  exact ⟨rfl, by omega⟩
