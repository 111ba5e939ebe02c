/-! ===== the class's bitsOf, and Float.floatToIntBits ===== -/
theorem un_two : un 1073741824 = 2 ^ 150 := by rw [un_def]; decide +kernel
theorem un_one : un 1065353216 = 2 ^ 149 := by rw [un_def]; decide +kernel
theorem un_half : un 1056964608 = 2 ^ 148 := by rw [un_def]; decide +kernel
theorem un_big : un 1258291200 = 2 ^ 172 := by rw [un_def]; decide +kernel
theorem uo_two : uo FP.fconst2 = 2 ^ 150 := un_two
theorem uo_one : uo FP.fconst1 = 2 ^ 149 := un_one
theorem uo_half : uo 1056964608 = 2 ^ 148 := un_half
theorem uo_big : uo 1258291200 = 2 ^ 172 := un_big
theorem fN_two : fN FP.fconst2 := by unfold fN; decide +kernel
theorem fN_one : fN FP.fconst1 := by unfold fN; decide +kernel
theorem fN_half : fN 1056964608 := by unfold fN; decide +kernel
theorem fN_big : fN 1258291200 := by unfold fN; decide +kernel
theorem un_dbl (a : Nat) : ∃ m, un m = 2 * un a ∧ m ≤ a + 8388608 := by
  by_cases h : a < 8388608
  · refine ⟨2 * a, ?_, by omega⟩
    rw [un_def, un_def, if_pos h]
    by_cases h2 : 2 * a < 8388608
    · rw [if_pos h2]
    · rw [if_neg h2, show 2 * a / 8388608 - 1 = 0 by omega, Nat.pow_zero]; omega
  · refine ⟨a + 8388608, ?_, Nat.le_refl _⟩
    rw [un_def, un_def, if_neg h, if_neg (by omega), show (a + 8388608) / 8388608 - 1 = (a / 8388608 - 1) + 1 by omega, show (a + 8388608) % 8388608 = a % 8388608 by omega, Nat.pow_succ]
    rw [← Nat.mul_assoc, Nat.mul_comm _ 2]
theorem un_dbls (a : Nat) : ∀ k, ∃ m, un m = 2 ^ k * un a ∧ m ≤ a + k * 8388608 := by
  intro k
  induction k with
  | zero => exact ⟨a, by rw [Nat.pow_zero, Nat.one_mul], by omega⟩
  | succ k ih =>
    obtain ⟨m, h1, h2⟩ := ih
    obtain ⟨m', h3, h4⟩ := un_dbl m
    refine ⟨m', ?_, by omega⟩
    rw [h3, h1, Nat.pow_succ, ← Nat.mul_assoc, Nat.mul_comm 2]
theorem un_hlf {a : Nat} (h : 16777216 ≤ a) : ∃ m, 2 * un m = un a ∧ m ≤ a := by
  refine ⟨a - 8388608, ?_, by omega⟩
  rw [un_def, un_def, if_neg (by omega), if_neg (by omega), show a / 8388608 - 1 = ((a - 8388608) / 8388608 - 1) + 1 by omega, show (a - 8388608) % 8388608 = a % 8388608 by omega, Nat.pow_succ, Nat.mul_comm 2, Nat.mul_assoc]
theorem fmul_two {a : UInt32} (ha : a.toNat < 1073741824) : fN (FP.fmul a FP.fconst2) ∧ uo (FP.fmul a FP.fconst2) = 2 * uo a := by
  obtain ⟨m, h1, h2⟩ := un_dbl a.toNat
  have h3 := fmul_eq (a := a) (b := FP.fconst2) (m := m) (show a.toNat < _ by omega) fN_two (by omega) (by
    rw [uo_two, h1]; show un a.toNat * 2 ^ 150 = 2 * un a.toNat * 2 ^ 149
    rw [show (150 : Nat) = 149 + 1 from rfl, Nat.pow_succ, ← Nat.mul_assoc, Nat.mul_comm _ 2, ← Nat.mul_assoc])
  exact ⟨show _ < _ by rw [h3]; omega, show un _ = _ by rw [h3]; exact h1⟩
theorem fmul_half {a : UInt32} (ha : fN a) (h : 16777216 ≤ a.toNat) : fN (FP.fmul a 1056964608) ∧ 2 * uo (FP.fmul a 1056964608) = uo a := by
  obtain ⟨m, h1, h2⟩ := un_hlf h
  have ha2 : a.toNat < 2139095040 := ha
  have h3 := fmul_eq (a := a) (b := 1056964608) (m := m) ha fN_half (by omega) (by
    rw [uo_half]; show un a.toNat * 2 ^ 148 = un m * 2 ^ 149
    rw [← h1, show (149 : Nat) = 148 + 1 from rfl, Nat.pow_succ, Nat.mul_comm 2, Nat.mul_assoc, Nat.mul_comm 2])
  exact ⟨show _ < _ by rw [h3]; omega, show 2 * un _ = _ by rw [h3]; exact h1⟩
theorem fmul_big {a : UInt32} (ha : a.toNat < 1073741824) : fN (FP.fmul a 1258291200) ∧ uo (FP.fmul a 1258291200) = 2 ^ 23 * uo a := by
  obtain ⟨m, h1, h2⟩ := un_dbls a.toNat 23
  have h3 := fmul_eq (a := a) (b := 1258291200) (m := m) (show a.toNat < _ by omega) fN_big (by omega) (by
    rw [uo_big, h1]; show un a.toNat * 2 ^ 172 = 2 ^ 23 * un a.toNat * 2 ^ 149
    rw [show (172 : Nat) = 23 + 149 from rfl, Nat.pow_add, ← Nat.mul_assoc, Nat.mul_comm _ (2 ^ 23)])
  exact ⟨show _ < _ by rw [h3]; omega, show un _ = _ by rw [h3]; exact h1⟩
theorem lt_of_uo {a : UInt32} {m : Nat} (h : uo a < un m) : a.toNat < m := un_lt.mp h
theorem le_of_uo {a : UInt32} {m : Nat} (h : un m ≤ uo a) : m ≤ a.toNat := un_le.mp h
theorem pow_lt_c {c k : Nat} (hc : c < 16777216) : c * 2 ^ k < 2 ^ (24 + k) := by
  rw [Nat.pow_add]
  exact Nat.mul_lt_mul_of_pos_right hc (Nat.two_pow_pos _)
theorem pow_ge_c {c k : Nat} (hc : 8388608 ≤ c) : 2 ^ (23 + k) ≤ c * 2 ^ k := by
  rw [Nat.pow_add]
  exact Nat.mul_le_mul_right _ hc
theorem bits_dn {J : UInt32 → Int32 → Mem → Option (Int32 × Mem)} {c e : Nat} (hc : c < 16777216) (he : 1 ≤ e) (hce : 8388608 ≤ c ∨ e = 1) (M : Mem) : ∀ (k fu : Nat) (r : UInt32), k ≤ 126 → e + k ≤ 254 → k < fu → fN r → uo r = c * 2 ^ (126 - k) →
    ∃ r', fN r' ∧ uo r' = c * 2 ^ 126 ∧ lp (b_X10_bitsOf_30 J) fu (r, nI (e + k), M) = J r' (nI e) M := by
  intro k
  induction k with
  | zero =>
    intro fu r hk he2 hfu hr hu
    obtain ⟨fu, rfl⟩ : ∃ z, fu = z + 1 := ⟨fu - 1, by omega⟩
    refine ⟨r, hr, hu, ?_⟩
    rw [lp_succ, b_X10_bitsOf_30]
    show (if 0 ≤ Op.cmpValue (FP.fcmp r FP.fconst1) .g then J r (nI (e + 0)) M else if nI (e + 0) ≤ 1 then J r (nI (e + 0)) M else _) = J r (nI e) M
    rw [Nat.add_zero]
    by_cases h : 0 ≤ Op.cmpValue (FP.fcmp r FP.fconst1) .g
    · rw [if_pos h]
    · rw [if_neg h]
      have h1 : ¬ uo FP.fconst1 ≤ uo r := fun h9 => h ((cmp_ge hr fN_one .g).mpr h9)
      rw [uo_one, hu] at h1
      have h2 : e = 1 := by
        rcases hce with h3 | h3
        · exact absurd (pow_ge_c (k := 126) h3) h1
        · exact h3
      rw [h2, if_pos (show nI 1 ≤ 1 by decide)]
  | succ k ih =>
    intro fu r hk he2 hfu hr hu
    obtain ⟨fu, rfl⟩ : ∃ z, fu = z + 1 := ⟨fu - 1, by omega⟩
    have h1 : uo r < 2 ^ 149 := by
      rw [hu]
      exact Nat.lt_of_lt_of_le (pow_lt_c hc) (Nat.pow_le_pow_right (by decide) (by omega))
    have hlt : r.toNat < 1065353216 := lt_of_uo (by rw [un_one]; exact h1)
    obtain ⟨g1, g2⟩ := fmul_two (a := r) (by omega)
    rw [lp_succ, b_X10_bitsOf_30]
    show ∃ r', fN r' ∧ uo r' = c * 2 ^ 126 ∧ (if 0 ≤ Op.cmpValue (FP.fcmp r FP.fconst1) .g then J r (nI (e + (k + 1))) M else if nI (e + (k + 1)) ≤ 1 then J r (nI (e + (k + 1))) M else o_fmul r FP.fconst2 (fun r12 => lp (b_X10_bitsOf_30 J) fu (r12, nI (e + (k + 1)) - 1, M))) = J r' (nI e) M
    rw [if_neg (fun h9 => absurd ((cmp_ge hr fN_one .g).mp h9) (by rw [uo_one]; omega)), if_neg (fun h9 : nI (e + (k + 1)) ≤ 1 => absurd ((i_le (b := 1) (by omega) (by omega)).mp h9) (by omega)), o_fmul_at hr fN_two, show nI (e + (k + 1)) - 1 = nI (e + k) by rw [← Nat.add_assoc, ← nI_1, Int32.add_sub_cancel]]
    refine ih fu _ (by omega) (by omega) (by omega) g1 ?_
    rw [g2, hu, show 126 - k = (126 - (k + 1)) + 1 by omega, Nat.pow_succ, Nat.mul_comm 2, Nat.mul_assoc]
theorem bits_up {J : UInt32 → Int32 → Mem → Option (Int32 × Mem)} {c e : Nat} (hc : c < 16777216) (hc2 : 8388608 ≤ c) (he : e ≤ 254) (M : Mem) : ∀ (k fu : Nat) (r : UInt32), k + 127 ≤ e → k < fu → fN r → uo r = c * 2 ^ (126 + k) →
    ∃ r', fN r' ∧ uo r' = c * 2 ^ 126 ∧ lp (b_X10_bitsOf_5 J) fu (r, nI (e - k), M) = J r' (nI e) M := by
  intro k
  induction k with
  | zero =>
    intro fu r hk hfu hr hu
    obtain ⟨fu, rfl⟩ : ∃ z, fu = z + 1 := ⟨fu - 1, by omega⟩
    refine ⟨r, hr, hu, ?_⟩
    rw [lp_succ, b_X10_bitsOf_5]
    show (if Op.cmpValue (FP.fcmp r FP.fconst2) .l < 0 then J r (nI (e - 0)) M else _) = J r (nI e) M
    rw [Nat.sub_zero, if_pos ((cmp_lt hr fN_two .l).mpr (by rw [uo_two, hu]; exact pow_lt_c hc))]
  | succ k ih =>
    intro fu r hk hfu hr hu
    obtain ⟨fu, rfl⟩ : ∃ z, fu = z + 1 := ⟨fu - 1, by omega⟩
    have h1 : 2 ^ 150 ≤ uo r := by
      rw [hu]
      exact Nat.le_trans (Nat.pow_le_pow_right (by decide) (by omega)) (pow_ge_c (k := 126 + (k + 1)) hc2)
    have hge : 1073741824 ≤ r.toNat := le_of_uo (by rw [un_two]; exact h1)
    obtain ⟨g1, g2⟩ := fmul_half hr (by omega)
    rw [lp_succ, b_X10_bitsOf_5]
    show ∃ r', fN r' ∧ uo r' = c * 2 ^ 126 ∧ (if Op.cmpValue (FP.fcmp r FP.fconst2) .l < 0 then J r (nI (e - (k + 1))) M else if 254 ≤ nI (e - (k + 1)) then J r (nI (e - (k + 1))) M else o_fmul r 1056964608 (fun r12 => lp (b_X10_bitsOf_5 J) fu (r12, nI (e - (k + 1)) + 1, M))) = J r' (nI e) M
    rw [if_neg (fun h9 => absurd ((cmp_lt hr fN_two .l).mp h9) (by rw [uo_two]; omega)), if_neg (fun h9 : 254 ≤ nI (e - (k + 1)) => absurd ((i_le (a := 254) (by omega) (by omega)).mp h9) (by omega)), o_fmul_at hr fN_half, nI_1, show e - (k + 1) + 1 = e - k by omega]
    refine ih fu _ (by omega) (by omega) g1 ?_
    have h4 : 2 * uo (FP.fmul r 1056964608) = 2 * (c * 2 ^ (126 + k)) := by
      rw [g2, hu, ← Nat.add_assoc, Nat.pow_succ, ← Nat.mul_assoc, Nat.mul_comm 2]
    omega
theorem bits_up0 {J : UInt32 → Int32 → Mem → Option (Int32 × Mem)} {x : UInt32} (hx : fN x) (h : uo x < 2 ^ 150) (M : Mem) (fu : Nat) (hfu : 0 < fu) : lp (b_X10_bitsOf_5 J) fu (x, nI 127, M) = J x (nI 127) M := by
  obtain ⟨fu, rfl⟩ : ∃ z, fu = z + 1 := ⟨fu - 1, by omega⟩
  rw [lp_succ, b_X10_bitsOf_5]
  exact if_pos ((cmp_lt hx fN_two .l).mpr (by rw [uo_two]; exact h))
theorem un_parts {x : Nat} (h : x < 2139095040) : ∃ c e, c < 16777216 ∧ 1 ≤ e ∧ e ≤ 254 ∧ (8388608 ≤ c ∨ e = 1) ∧ un x = c * 2 ^ (e - 1) ∧ x = (e - 1) * 8388608 + c := by
  rw [un_def]
  by_cases h1 : x < 8388608
  · exact ⟨x, 1, by omega, by omega, by omega, Or.inr rfl, by rw [if_pos h1, Nat.sub_self, Nat.pow_zero, Nat.mul_one], by omega⟩
  · exact ⟨8388608 + x % 8388608, x / 8388608, by omega, by omega, by omega, Or.inl (by omega), by rw [if_neg h1], by omega⟩
theorem shl_all : ∀ e, e < 255 → (nI e) <<< (23 &&& 31) = nI (e * 8388608) := by decide +kernel
theorem nI_u32 (x : UInt32) : nI x.toNat = x.toInt32 := by
  refine Int32.toBitVec_inj.mp (BitVec.eq_of_toNat_eq ?_)
  show (Int32.ofNat x.toNat).toBitVec.toNat = x.toBitVec.toNat
  rw [Int32.toBitVec_ofNat']
  exact (BitVec.toNat_ofNat ..).trans (Nat.mod_eq_of_lt x.toNat_lt)
def bJ30 : UInt32 → Int32 → Mem → Option (Int32 × Mem) := fun (r6 : UInt32) (x7 : Int32) (M8 : Mem) => o_fmul r6 1258291200 (fun (r9 : UInt32) => rt ((((x7 - 1) <<< (23 &&& 31)) + (FP.f2i r9))) M8)
def bJ5 (fu : Nat) : UInt32 → Int32 → Mem → Option (Int32 × Mem) := fun (r2 : UInt32) (x3 : Int32) (M4 : Mem) => lp (b_X10_bitsOf_30 bJ30) fu (r2, x3, M4)
theorem bits_last {x : UInt32} {c e : Nat} (c1 : c < 16777216) (e1 : 1 ≤ e) (e2 : e ≤ 254) (x1 : x.toNat = (e - 1) * 8388608 + c) (M : Mem) (r : UInt32) (hr : fN r) (hu : uo r = c * 2 ^ 126) : bJ30 r (nI e) M = some (x.toInt32, M) := by
  have hlt : r.toNat < 1073741824 := lt_of_uo (by rw [un_two, hu]; exact pow_lt_c c1)
  obtain ⟨g1, g2⟩ := fmul_big hlt
  have e5 : nI e - 1 = nI (e - 1) := by
    obtain ⟨z, rfl⟩ : ∃ z, e = z + 1 := ⟨e - 1, by omega⟩
    rw [← nI_1, Int32.add_sub_cancel]; rfl
  have e6 : uo (FP.fmul r 1258291200) / 2 ^ 149 = c := by
    rw [g2, hu, Nat.mul_comm c, ← Nat.mul_assoc, ← Nat.pow_add]
    exact Nat.mul_div_cancel_left _ (Nat.two_pow_pos _)
  unfold bJ30
  rw [o_fmul_at hr fN_big, f2i_u (c := c) g1 (by omega) e6, e5, shl_all (e - 1) (by omega), nI_add, ← x1, nI_u32]; rfl
theorem bits_core {x : UInt32} (hx : fN x) (M : Mem) (fu : Nat) (hfu : 300 < fu) : lp (b_X10_bitsOf_5 (bJ5 fu)) fu (x, nI 127, M) = some (x.toInt32, M) := by
  have hx2 : x.toNat < 2139095040 := hx
  obtain ⟨c, e, c1, e1, e2, ce, u1, x1⟩ := un_parts hx2
  by_cases h : 127 ≤ e
  · obtain ⟨r', g1, g2, g3⟩ := bits_up (J := bJ5 fu) c1 (by omega) e2 M (e - 127) fu x (by omega) (by omega) hx (by show un _ = _; rw [u1, show 126 + (e - 127) = e - 1 by omega])
    rw [show e - (e - 127) = 127 by omega] at g3
    rw [g3]
    obtain ⟨r2, k1, k2, k3⟩ := bits_dn (J := bJ30) c1 e1 ce M 0 fu r' (by omega) (by omega) (by omega) g1 g2
    rw [Nat.add_zero] at k3
    unfold bJ5
    rw [k3]
    exact bits_last c1 e1 e2 x1 M r2 k1 k2
  · rw [bits_up0 hx (by
      show un _ < _
      rw [u1]
      exact Nat.lt_of_lt_of_le (pow_lt_c c1) (Nat.pow_le_pow_right (by decide) (by omega))) M fu (by omega)]
    obtain ⟨r2, k1, k2, k3⟩ := bits_dn (J := bJ30) c1 e1 ce M (127 - e) fu x (by omega) (by omega) (by omega) hx (by show un _ = _; rw [u1, show 126 - (127 - e) = e - 1 by omega])
    rw [show e + (127 - e) = 127 by omega] at k3
    unfold bJ5
    rw [k3]
    exact bits_last c1 e1 e2 x1 M r2 k1 k2
theorem FU_big : 300 < FU := Nat.lt_of_lt_of_le (show 300 < 1000000 by omega) (Nat.le_refl _)
theorem bits_e127 : (127 : Int32) = nI 127 := rfl
theorem jn_eq {A β : Type} (f : A) (b : A → Option β) : jn f b = b f := rfl
theorem bits_gen (fu : Nat) (x : UInt32) (M : Mem) : jn (fun (r2 : UInt32) (x3 : Int32) (M4 : Mem) => jn (fun (r6 : UInt32) (x7 : Int32) (M8 : Mem) => o_fmul r6 1258291200 (fun (r9 : UInt32) => rt ((((x7 - 1) <<< (23 &&& 31)) + (FP.f2i r9))) M8)) (fun (J51_4 : UInt32 → Int32 → Mem → Option (Int32 × Mem)) => lp (b_X10_bitsOf_30 J51_4) fu (r2, x3, M4))) (fun (J30_0 : UInt32 → Int32 → Mem → Option (Int32 × Mem)) => lp (b_X10_bitsOf_5 J30_0) fu (x, 127, M)) = lp (b_X10_bitsOf_5 (bJ5 fu)) fu (x, 127, M) := rfl
theorem bits_un (x : UInt32) (M : Mem) : m_X10_bitsOf M x = lp (b_X10_bitsOf_5 (bJ5 FU)) FU (x, 127, M) := by
  unfold m_X10_bitsOf
  exact bits_gen FU x M
theorem bitsOf_c {x : UInt32} (hx : fN x) (M : Mem) : m_X10_bitsOf M x = some (x.toInt32, M) := by
  rw [bits_un, bits_e127]
  exact bits_core hx M FU FU_big
theorem floatBits_r {x : UInt32} (hx : fN x) (M : Mem) : m_Jxf58ca_floatToIntBits_5c35a M x = some (x.toInt32, M) := by
  unfold m_Jxf58ca_floatToIntBits_5c35a m_JF_isNaN
  have e : Op.cmpValue (FP.fcmp x x) .l = 0 := by
    rw [fcmp_u hx hx, if_neg (Int.lt_irrefl _), if_pos rfl]; rfl
  rw [if_pos e]; rfl
