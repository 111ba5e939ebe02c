/-! ===== floats: finite ones not below zero, by their magnitude in units of the least number ===== -/
def fN (a : UInt32) : Prop := a.toNat < 2139095040
def un (m : Nat) : Nat := FP.Core.unitsOf FP.Core.b32 m
def uo (a : UInt32) : Nat := un a.toNat
theorem un_lt {m k : Nat} : un m < un k ↔ m < k := FP.Core.unitsOf_lt_iff
theorem un_le {m k : Nat} : un m ≤ un k ↔ m ≤ k := FP.Core.unitsOf_le_iff
theorem un_def (m : Nat) : un m = if m < 8388608 then m else (8388608 + m % 8388608) * 2 ^ (m / 8388608 - 1) := by
  unfold un FP.Core.unitsOf
  rw [show FP.Core.b32.tails = 8388608 from FP.Core.tails_b32]
theorem fN.nn {a : UInt32} (h : fN a) : FP.Core.val32 a ≠ .nan := (FP.Core.ne_nan32 a).mpr (by unfold fN at h; omega)
theorem fN.z {a : UInt32} (h : fN a) : FP.Core.zmag FP.Core.b32 (FP.Core.val32 a) = uo a := by
  have h2 := FP.Core.zmag_toNat32 h.nn
  rw [h2, Nat.mod_eq_of_lt (by unfold fN at h; omega)]; rfl
theorem fN.sgn {a : UInt32} (h : fN a) : FP.Core.sgn (FP.Core.val32 a) = false := by
  rw [FP.Core.sgn_bits32 h.nn]
  exact decide_eq_false (by unfold fN at h; omega)
theorem fN.FF {a : UInt32} (h : fN a) : FP.Core.FFin a := (FP.Core.fin_bits32 a).mpr (by unfold fN at h; omega)
theorem fN.fin {a : UInt32} (h : fN a) : ∃ c q, FP.Core.val32 a = .fin false c q := by
  obtain ⟨s, c, q, e⟩ := h.FF
  have h2 := h.sgn
  rw [e] at h2
  have h3 : s = false := h2
  subst h3
  exact ⟨c, q, e⟩
theorem fN.zv {a : UInt32} (h : fN a) : FP.Core.zval FP.Core.b32 (FP.Core.val32 a) = (uo a : Int) := by
  unfold FP.Core.zval
  rw [h.sgn, h.z]; rfl
/-- a rounded result that is not below zero -/
theorem fres_le {n : UInt32} {A B : Nat} {e e0 : Int} {m : Nat} (hn : FP.Core.val32 n = FP.Core.roundRatio FP.Core.b32 false A B e) (hB : 0 < B) (h0 : e0 ≤ -149) (h0e : e0 ≤ e) (hm : m < 2139095040) (h : FP.Core.inUnits A e e0 ≤ un m * 2 ^ (-149 - e0).toNat * B) : n.toNat ≤ m := by
  have h1 := FP.Core.mag_le FP.Core.good_b32 (n := n.toNat) (m := m) hn hB (by rw [FP.Core.qmin_b32]; exact h0) h0e (by rw [FP.Core.qmin_b32]; exact h)
  have h2 : FP.Core.val32 n ≠ .nan := by rw [hn]; exact FP.Core.roundRatio_ne_nan _ _ _ _ _
  have h3 := FP.Core.sgn_bits32 h2
  rw [hn, FP.Core.sgn_roundRatio] at h3
  have h4 : ¬ 2 ^ 31 ≤ n.toNat := of_decide_eq_false h3.symm
  rw [FP.Core.mag_toNat32, Nat.mod_eq_of_lt (by omega)] at h1
  exact h1
theorem fres_ge {n : UInt32} {A B : Nat} {e e0 : Int} {m : Nat} (hn : FP.Core.val32 n = FP.Core.roundRatio FP.Core.b32 false A B e) (hB : 0 < B) (h0 : e0 ≤ -149) (h0e : e0 ≤ e) (hm : m < 2139095040) (h : un m * 2 ^ (-149 - e0).toNat * B ≤ FP.Core.inUnits A e e0) : m ≤ n.toNat := by
  have h1 := FP.Core.mag_ge FP.Core.good_b32 (n := n.toNat) (m := m) hn hB (by rw [FP.Core.qmin_b32]; exact h0) h0e (by rw [FP.Core.infBits_b32]; omega) (by rw [FP.Core.qmin_b32]; exact h)
  have h2 : FP.Core.val32 n ≠ .nan := by rw [hn]; exact FP.Core.roundRatio_ne_nan _ _ _ _ _
  have h3 := FP.Core.sgn_bits32 h2
  rw [hn, FP.Core.sgn_roundRatio] at h3
  have h4 : ¬ 2 ^ 31 ≤ n.toNat := of_decide_eq_false h3.symm
  rw [FP.Core.mag_toNat32, Nat.mod_eq_of_lt (by omega)] at h1
  exact h1
/-! ### products -/
theorem fmul_prep {a b : UInt32} (ha : fN a) (hb : fN b) : ∃ A e, FP.Core.val32 (FP.fmul a b) = FP.Core.roundRatio FP.Core.b32 false A 1 e ∧ (-298 : Int) ≤ e ∧ FP.Core.inUnits A e (-298) = uo a * uo b := by
  obtain ⟨c, q, e1⟩ := ha.fin
  obtain ⟨d, r, e2⟩ := hb.fin
  have f1 := FP.Core.val32_fits a
  have f2 := FP.Core.val32_fits b
  have z1 := ha.z
  have z2 := hb.z
  rw [e1] at f1 z1
  rw [e2] at f2 z2
  obtain ⟨p1, p2, p3⟩ := FP.Core.product_units f1 f2
  rw [z1, z2, FP.Core.qmin_b32] at p3
  rw [FP.Core.qmin_b32] at p2
  refine ⟨c * d, q + r, ?_, p2, p3⟩
  show FP.Core.val32 (FP.Core.fmul a b) = _
  rw [FP.Core.val32_fmul, e1, e2, p1]; rfl
theorem fmul_le {a b : UInt32} {m : Nat} (ha : fN a) (hb : fN b) (hm : m < 2139095040) (h : uo a * uo b ≤ un m * 2 ^ 149) : (FP.fmul a b).toNat ≤ m := by
  obtain ⟨A, e, h1, h2, h3⟩ := fmul_prep ha hb
  refine fres_le h1 (by decide) (e0 := -298) (by decide) h2 hm ?_
  rw [h3, Nat.mul_one]; exact h
theorem fmul_ge {a b : UInt32} {m : Nat} (ha : fN a) (hb : fN b) (hm : m < 2139095040) (h : un m * 2 ^ 149 ≤ uo a * uo b) : m ≤ (FP.fmul a b).toNat := by
  obtain ⟨A, e, h1, h2, h3⟩ := fmul_prep ha hb
  refine fres_ge h1 (by decide) (e0 := -298) (by decide) h2 hm ?_
  rw [h3, Nat.mul_one]; exact h
theorem fmul_eq {a b : UInt32} {m : Nat} (ha : fN a) (hb : fN b) (hm : m < 2139095040) (h : uo a * uo b = un m * 2 ^ 149) : (FP.fmul a b).toNat = m :=
  Nat.le_antisymm (fmul_le ha hb hm (Nat.le_of_eq h)) (fmul_ge ha hb hm (Nat.le_of_eq h.symm))
/-! ### sums -/
theorem fadd_le {a b : UInt32} {m : Nat} (ha : fN a) (hb : fN b) (hm : m < 2139095040) (h : uo a + uo b ≤ un m) : (FP.fadd a b).toNat ≤ m := by
  obtain ⟨c, q, e1⟩ := ha.fin
  obtain ⟨d, r, e2⟩ := hb.fin
  have f1 := FP.Core.val32_fits a
  have f2 := FP.Core.val32_fits b
  have z1 := ha.zv
  have z2 := hb.zv
  rw [e1] at f1 z1
  rw [e2] at f2 z2
  obtain ⟨sg, n, e, p1, p2, p3⟩ := FP.Core.sum_units f1 f2
  rw [z1, z2] at p3
  have hsg : sg = false := by
    have p4 : FP.Core.exactSum (.fin false c q) (.fin false d r) = .fin (FP.Core.sumSign false false (FP.Core.sumUnits false c q false d r (min q r))) (FP.Core.sumUnits false c q false d r (min q r)).natAbs (min q r) := rfl
    rw [p1] at p4
    injection p4 with p5
    rw [p5]
    have p6 : 0 ≤ FP.Core.sumUnits false c q false d r (min q r) := by
      show (0 : Int) ≤ (FP.Core.inUnits c q (min q r) : Int) + (FP.Core.inUnits d r (min q r) : Int)
      omega
    unfold FP.Core.sumSign
    by_cases h0 : FP.Core.sumUnits false c q false d r (min q r) = 0
    · rw [if_pos h0]; rfl
    · rw [if_neg h0]; exact decide_eq_false (by omega)
  subst hsg
  have p7 : FP.Core.inUnits n e FP.Core.b32.qmin = uo a + uo b := by
    have : ((FP.Core.inUnits n e FP.Core.b32.qmin : Nat) : Int) = (uo a : Int) + (uo b : Int) := p3
    omega
  rw [FP.Core.qmin_b32] at p2 p7
  have hv : FP.Core.val32 (FP.fadd a b) = FP.Core.roundRatio FP.Core.b32 false n 1 e := by
    show FP.Core.val32 (FP.Core.fadd a b) = _
    rw [FP.Core.val32_fadd, e1, e2, p1]; rfl
  refine fres_le hv (by decide) (e0 := -149) (by decide) p2 hm ?_
  rw [p7, Nat.mul_one]
  exact Nat.le_trans h (Nat.le_of_eq (Nat.mul_one _).symm)
/-! ### quotients -/
theorem fdiv_le {a b : UInt32} {m : Nat} (ha : fN a) (hb : fN b) (h0 : uo b ≠ 0) (hm : m < 2139095040) (h : uo a * 2 ^ 149 ≤ un m * uo b) : (FP.fdiv a b).toNat ≤ m := by
  obtain ⟨c, q, e1⟩ := ha.fin
  obtain ⟨d, r, e2⟩ := hb.fin
  have f1 := FP.Core.val32_fits a
  have f2 := FP.Core.val32_fits b
  have z1 := ha.z
  have z2 := hb.z
  rw [e1] at f1 z1
  rw [e2] at f2 z2
  have q1 : (-149 : Int) ≤ q := by have := f1.2.1; rw [FP.Core.qmin_b32] at this; exact this
  have r1 : (-149 : Int) ≤ r := by have := f2.2.1; rw [FP.Core.qmin_b32] at this; exact this
  have z1' : c * 2 ^ (q + 149).toNat = uo a := by
    rw [← z1]
    show _ = c * 2 ^ (q - FP.Core.b32.qmin).toNat
    rw [FP.Core.qmin_b32]; exact congrArg (fun k => c * 2 ^ k) (by omega)
  have z2' : d * 2 ^ (r + 149).toNat = uo b := by
    rw [← z2]
    show _ = d * 2 ^ (r - FP.Core.b32.qmin).toNat
    rw [FP.Core.qmin_b32]; exact congrArg (fun k => d * 2 ^ k) (by omega)
  have hd : d ≠ 0 := by intro h9; rw [h9, Nat.zero_mul] at z2'; exact h0 z2'.symm
  have hv : FP.Core.val32 (FP.fdiv a b) = FP.Core.roundRatio FP.Core.b32 false c d (q - r) := by
    show FP.Core.val32 (FP.Core.fdiv a b) = _
    rw [FP.Core.val32_fdiv, e1, e2]
    show (if d = 0 then _ else _) = _
    rw [if_neg hd]; rfl
  refine fres_le hv (Nat.pos_of_ne_zero hd) (e0 := -149 - (r + 149)) (by omega) (by omega) hm ?_
  show c * 2 ^ (q - r - (-149 - (r + 149))).toNat ≤ un m * 2 ^ (-149 - (-149 - (r + 149))).toNat * d
  rw [show (q - r - (-149 - (r + 149))).toNat = (q + 149).toNat + 149 by omega, show (-149 - (-149 - (r + 149))).toNat = (r + 149).toNat by omega, Nat.pow_add, ← Nat.mul_assoc, z1', Nat.mul_assoc, Nat.mul_comm _ d, z2']
  exact h
/-! ### comparisons, whole numbers -/
theorem fcmp_u {a b : UInt32} (ha : fN a) (hb : fN b) : FP.fcmp a b = some (if (uo a : Int) < uo b then .lt else if (uo a : Int) = uo b then .eq else .gt) := by
  have h := FP.Core.fcmp_zval ha.nn hb.nn
  rw [ha.zv, hb.zv] at h
  exact h
theorem cmp_ge {a b : UInt32} (ha : fN a) (hb : fN b) (op : CmpOp) : (0 ≤ Op.cmpValue (FP.fcmp a b) op) ↔ uo b ≤ uo a := by
  rw [fcmp_u ha hb]
  by_cases h1 : (uo a : Int) < uo b
  · rw [if_pos h1]
    refine iff_of_false (show ¬ (0 : Int32) ≤ -1 by decide) (by omega)
  · rw [if_neg h1]
    by_cases h2 : (uo a : Int) = uo b
    · rw [if_pos h2]
      exact iff_of_true (show (0 : Int32) ≤ 0 by decide) (by omega)
    · rw [if_neg h2]
      exact iff_of_true (show (0 : Int32) ≤ 1 by decide) (by omega)
theorem cmp_lt {a b : UInt32} (ha : fN a) (hb : fN b) (op : CmpOp) : (Op.cmpValue (FP.fcmp a b) op < 0) ↔ uo a < uo b := by
  rw [fcmp_u ha hb]
  by_cases h1 : (uo a : Int) < uo b
  · rw [if_pos h1]
    refine iff_of_true (show (-1 : Int32) < 0 by decide) (by omega)
  · rw [if_neg h1]
    by_cases h2 : (uo a : Int) = uo b
    · rw [if_pos h2]
      exact iff_of_false (show ¬ (0 : Int32) < 0 by decide) (by omega)
    · rw [if_neg h2]
      exact iff_of_false (show ¬ (1 : Int32) < 0 by decide) (by omega)
theorem f2i_u {a : UInt32} {c : Nat} (ha : fN a) (hc : c < 2147483648) (h : uo a / 2 ^ 149 = c) : FP.f2i a = nI c := by
  have h1 := FP.Core.f2i_val ha.nn
  rw [ha.sgn, ha.z] at h1
  refine Int32.toInt_inj.mp ?_
  show (FP.Core.f2i a).toInt = _
  rw [h1, nI_toInt (by omega)]
  show max (-2 ^ 31) (min (2 ^ 31 - 1) (((uo a / 2 ^ 149 : Nat) : Int))) = _
  rw [h]
  omega
theorem i2f_u {n : Nat} (hn : n ≤ 100000) : fN (FP.i2f (nI n)) ∧ uo (FP.i2f (nI n)) = n * 2 ^ 149 := by
  have hi : (nI n).toInt = (n : Int) := nI_toInt (by omega)
  have h1 : FP.Core.FInt (nI n).toInt (FP.Core.i2f (nI n)) := FP.Core.i2f_int (by rw [hi]; show n ≤ 2 ^ 24; omega)
  have h2 := FP.Core.FInt_ne_nan h1
  have h3 := FP.Core.FInt_zval h1
  have h4 : FP.Core.sgn (FP.Core.val32 (FP.Core.i2f (nI n))) = false := by
    rw [FP.Core.val32_i2f]
    show FP.Core.sgn (FP.Core.roundRatio FP.Core.b32 (decide ((nI n).toInt < 0)) (nI n).toInt.natAbs 1 0) = false
    rw [FP.Core.sgn_roundRatio, hi]
    exact decide_eq_false (by omega)
  have h5 := FP.Core.sgn_bits32 h2
  rw [h4] at h5
  have h6 : ¬ 2 ^ 31 ≤ (FP.Core.i2f (nI n)).toNat := of_decide_eq_false h5.symm
  have h7 := FP.Core.zmag_toNat32 h2
  rw [Nat.mod_eq_of_lt (by omega)] at h7
  unfold FP.Core.zval at h3
  rw [h4, h7, hi] at h3
  have h8 : un (FP.Core.i2f (nI n)).toNat = n * 2 ^ 149 := by
    have : ((un (FP.Core.i2f (nI n)).toNat : Nat) : Int) = (n : Int) * ((2 ^ 149 : Nat) : Int) := h3
    rw [← Int.natCast_mul] at this
    exact Int.ofNat_inj.mp this
  refine ⟨?_, h8⟩
  show (FP.Core.i2f (nI n)).toNat < 2139095040
  rw [← un_lt, h8]
  have e : un 2139095040 = 8388608 * 2 ^ 254 := by rw [un_def]; rfl
  rw [e]
  have : (100000 : Nat) * 2 ^ 149 < 8388608 * 2 ^ 254 := by decide +kernel
  exact Nat.lt_of_le_of_lt (Nat.mul_le_mul_right _ hn) this
/-! ### the code's floats -/
theorem o_fmul_at {β : Type} {x z : UInt32} {K : UInt32 → Option β} (hx : fN x) (hz : fN z) : o_fmul x z K = K (FP.fmul x z) := by
  obtain ⟨A, e, h1, -, -⟩ := fmul_prep hx hz
  exact if_pos (fw_nn (by rw [h1]; exact FP.Core.roundRatio_ne_nan _ _ _ _ _))
theorem o_fadd_at {β : Type} {x z : UInt32} {K : UInt32 → Option β} (hx : fN x) (hz : fN z) : o_fadd x z K = K (FP.fadd x z) :=
  if_pos (fw_nn ((FP.Core.notNaN_iff32 _).mp (FP.Core.fadd_out ((FP.Core.notNaN_iff32 _).mpr hx.nn) hz.FF)))
theorem uo_ne {a : UInt32} (h : uo a ≠ 0) (hN : fN a) : ¬ FP.Core.FZero a := by
  intro h2
  have h3 := (FP.Core.zero_bits232 a).mp h2
  rw [Nat.mod_eq_of_lt (by unfold fN at hN; omega)] at h3
  exact h (by unfold uo; rw [h3]; rfl)
theorem o_fdiv_at {β : Type} {x z : UInt32} {K : UInt32 → Option β} (hx : fN x) (hz : fN z) (h0 : uo z ≠ 0) : o_fdiv x z K = K (FP.fdiv x z) :=
  if_pos (fw_nn ((FP.Core.notNaN_iff32 _).mp (FP.Core.fdiv_out ((FP.Core.notNaN_iff32 _).mpr hx.nn) hz.FF (uo_ne h0 hz))))
theorem o_fsub_at {β : Type} {x z : UInt32} {K : UInt32 → Option β} (hx : FP.Core.FFin x) (hz : FP.Core.fIsNaN z = false) : o_fsub x z K = K (FP.fsub x z) :=
  if_pos (fw_nn ((FP.Core.notNaN_iff32 _).mp (FP.Core.fsub_out' hx hz)))
theorem i2f_FF (v : Int32) : FP.Core.FFin (FP.i2f v) := FP.Core.fin_of_lt32 (K := 160) (FP.Core.i2f_mag v) (by decide)
