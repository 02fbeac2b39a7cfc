/-! doubles that are alike compare alike -/
theorem nan_dcmp {p : UInt64} (h : isNaN64 p = true) : FP.dcmp p p = none := by
  unfold isNaN64 at h
  have h1 : (0x7ff0000000000000 : UInt64) < p &&& 0x7fffffffffffffff := by simpa using h
  rw [UInt64.lt_iff_toNat_lt, UInt64.toNat_and] at h1
  have e1 : (0x7ff0000000000000 : UInt64).toNat = 9218868437227405312 := by decide
  have e2 : (0x7fffffffffffffff : UInt64).toNat = 2 ^ 63 - 1 := by decide
  rw [e1, e2, Nat.and_two_pow_sub_one_eq_mod] at h1
  have hlt := p.toNat_lt
  have hd : FP.Core.decode FP.Core.b64 p.toNat = .nan := by
    unfold FP.Core.decode
    have hE : FP.Core.fieldE FP.Core.b64 p.toNat = FP.Core.b64.exps - 1 := by
      show p.toNat / 2 ^ 52 % 2 ^ 11 = 2 ^ 11 - 1
      omega
    have hT : ¬ FP.Core.fieldT FP.Core.b64 p.toNat = 0 := by
      show ¬ p.toNat % 2 ^ 52 = 0
      omega
    rw [if_pos hE, if_neg hT]
  unfold FP.dcmp FP.Core.dcmp FP.Core.cmp
  rw [hd]
  rfl
