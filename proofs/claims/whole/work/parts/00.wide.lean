/-! ===== a float that is no NaN: its bits (the library's float laws are named here first: the rounds are read over the whole library from here on) ===== -/
theorem fw_nn {a : UInt32} (h : FP.Core.val32 a ≠ .nan) : a &&& 0x7fffffff ≤ 0x7f800000 := by
  rw [UInt32.le_iff_toNat_le, FP.Core.mask_toNat32]
  exact (FP.Core.ne_nan32 a).mp h
