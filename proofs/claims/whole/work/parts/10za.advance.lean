/-! ===== the call advance ===== -/
theorem layT {M M1 : Mem} (h : M1.2.2 = M.2.2) (hL : Lay M) : Lay M1 := by
  have eS : ∀ a, mS M1 a = mS M a := fun a => by unfold mS; rw [h]
  have eP : ∀ k a, mP M1 k a = mP M k a := fun k a => by unfold mP; rw [h]
  have eN : mN M1 = mN M := by unfold mN; rw [h]
  exact ⟨by rw [eN]; exact hL.1, fun a ha => ⟨(eS a).trans (hL.S ha), fun k => (eP k a).trans (hL.P ha k)⟩⟩
def nr (r : UInt32) (ex : Nat) : UInt32 := FP.fadd (FP.fmul r 1061158912) (FP.fmul (FP.i2f (nI ex)) 1048576000)
theorem un_075 : un 1061158912 = 3 * 2 ^ 147 := by rw [un_def]; decide +kernel
theorem un_025 : un 1048576000 = 2 ^ 147 := by rw [un_def]; decide +kernel
theorem un_1536 : un 1153433600 = 3 * 2 ^ 158 := by rw [un_def]; decide +kernel
theorem un_128 : un 1124073472 = 2 ^ 156 := by rw [un_def]; decide +kernel
theorem fN_075 : fN 1061158912 := by unfold fN; decide
theorem fN_025 : fN 1048576000 := by unfold fN; decide
theorem nr_ok {r : UInt32} {ex : Nat} (hr : gF r) (he : ex ≤ 512) : fN (FP.fmul r 1061158912) ∧ fN (FP.i2f (nI ex)) ∧ fN (FP.fmul (FP.i2f (nI ex)) 1048576000) ∧ gF (nr r ex) := by
  obtain ⟨a1, a2⟩ := i2f_u (n := ex) (by omega)
  have p1 : (2 : Nat) ^ 160 * (3 * 2 ^ 147) = 3 * 2 ^ 158 * 2 ^ 149 := by decide +kernel
  have p2 : (512 : Nat) * 2 ^ 149 * 2 ^ 147 = 2 ^ 156 * 2 ^ 149 := by decide +kernel
  have p3 : (3 : Nat) * 2 ^ 158 + 2 ^ 156 ≤ 2 ^ 160 := by decide +kernel
  have b1 : (FP.fmul r 1061158912).toNat ≤ 1153433600 := fmul_le hr.N fN_075 (by omega) (by
    show uo r * un 1061158912 ≤ _
    rw [un_075, un_1536, ← p1]; exact Nat.mul_le_mul_right _ hr.u)
  have b2 : (FP.fmul (FP.i2f (nI ex)) 1048576000).toNat ≤ 1124073472 := fmul_le a1 fN_025 (by omega) (by
    show uo (FP.i2f (nI ex)) * un 1048576000 ≤ _
    rw [un_025, un_128, a2, ← p2]; exact Nat.mul_le_mul_right _ (Nat.mul_le_mul_right _ he))
  have c1 : fN (FP.fmul r 1061158912) := Nat.lt_of_le_of_lt b1 (by decide)
  have c2 : fN (FP.fmul (FP.i2f (nI ex)) 1048576000) := Nat.lt_of_le_of_lt b2 (by decide)
  refine ⟨c1, a1, c2, ?_⟩
  show (FP.fadd _ _).toNat ≤ 1157627904
  refine fadd_le c1 c2 (by omega) ?_
  have d1 : uo (FP.fmul r 1061158912) ≤ 3 * 2 ^ 158 := by rw [← un_1536]; exact un_le.mpr b1
  have d2 : uo (FP.fmul (FP.i2f (nI ex)) 1048576000) ≤ 2 ^ 156 := by rw [← un_128]; exact un_le.mpr b2
  rw [un_2048]
  exact Nat.le_trans (Nat.add_le_add d1 d2) p3
def exS (ex : Nat) (j : Nat) : Nat := if j = 0 then ex else 0
def rS (r : UInt32) (ex : Nat) : Nat → UInt32
  | 0 => r
  | j + 1 => nr (rS r ex j) (exS ex j)
theorem exS_le {ex b : Nat} (h : ex ≤ b) (j : Nat) : exS ex j ≤ b := by unfold exS; split <;> omega
theorem rS_ok {r : UInt32} {ex : Nat} (hr : gF r) (he : ex ≤ 512) : ∀ j, gF (rS r ex j) := by
  intro j
  induction j with
  | zero => exact hr
  | succ j ih => exact (nr_ok ih (exS_le he j)).2.2.2
/-! the class's hours -/
def AC (M M1 : Mem) : Prop := M1.2.2 = M.2.2 ∧ (∀ k a, ¬ (k = 98 ∧ 55 ≤ a ∧ a < 59) → mI M1 k a = mI M k a) ∧ ∀ k a, ¬ (k = 100 ∧ 55 ≤ a ∧ a < 59) → mF M1 k a = mF M k a
theorem AC.rfl' {M : Mem} : AC M M := ⟨rfl, fun _ _ _ => rfl, fun _ _ _ => rfl⟩
theorem AC.trans {M M1 M2 : Mem} (h1 : AC M M1) (h2 : AC M1 M2) : AC M M2 := ⟨h2.1.trans h1.1, fun k a h => (h2.2.1 k a h).trans (h1.2.1 k a h), fun k a h => (h2.2.2 k a h).trans (h1.2.2 k a h)⟩
def LC (M : Mem) (r : Nat → UInt32) (ex : Nat → Nat) : Prop := ∀ i, i < 4 → mI M 98 (aLe (pk 0) i) = nI (ex i) ∧ mF M 100 (aLe (pk 0) i) = r i
theorem mF_uFne {M : Mem} {k a k' a' : Nat} {x : UInt32} (h : ¬ (k' = k ∧ a' = a)) : mF (uF M k a x) k' a' = mF M k' a' := if_neg h
theorem mF_uFeq {M : Mem} {k a : Nat} {x : UInt32} : mF (uF M k a x) k a = x := if_pos ⟨rfl, rfl⟩
theorem passHour_c {M : Mem} (hL : Lay M) {l ex : Nat} {r : UInt32} (hl : l < 4) (h1 : mI M 98 (aLe (pk 0) l) = nI ex) (h2 : mF M 100 (aLe (pk 0) l) = r) (hr : gF r) (he : ex ≤ 512) : m_X3_passHour M (some (aLe (pk 0) l)) = some ((), uI (uF M 100 (aLe (pk 0) l) (nr r ex)) 98 (aLe (pk 0) l) 0) := by
  have hS := S_aLe hL (q := 0) (by omega) hl
  obtain ⟨g1, g2, g3, g4⟩ := nr_ok hr he
  unfold m_X3_passHour
  rw [dF_at (by rw [hS])]
  show o_fmul (mF M 100 (aLe (pk 0) l)) _ _ = _
  rw [h2, o_fmul_at hr.N fN_075, dI_at (by rw [hS])]
  show o_fmul (FP.i2f (mI M 98 (aLe (pk 0) l))) _ _ = _
  rw [h1, o_fmul_at g2 fN_025, o_fadd_at g1 g3, pF_at (by rw [hS]), pI_at (by rw [mS_uF, hS])]; rfl
theorem hour_c {J : Mem → Option (Unit × Mem)} {r : Nat → UInt32} {ex : Nat → Nat} (hr : ∀ i, i < 4 → gF (r i)) (he : ∀ i, i < 4 → ex i ≤ 512) : ∀ (k l fu : Nat) (M : Mem), l + k = 4 → k < fu → Lay M → LC M (fun i => if i < l then nr (r i) (ex i) else r i) (fun i => if i < l then 0 else ex i) →
    ∃ M1, lp (b_X1_moveClock_37 (some (pk 0 + 4)) 4 J) fu (nI l, M) = J M1 ∧ AC M M1 ∧ LC M1 (fun i => nr (r i) (ex i)) (fun _ => 0) := by
  intro k
  induction k with
  | zero =>
    intro l fu M hl hfu hL hC
    obtain ⟨fu, rfl⟩ : ∃ z, fu = z + 1 := ⟨fu - 1, by omega⟩
    have e4 : (4 : Int32) = nI 4 := rfl
    refine ⟨M, ?_, AC.rfl', fun i hi => ?_⟩
    · rw [lp_succ, b_X1_moveClock_37]
      exact if_pos (by rw [e4]; exact le_n (by omega) (by omega))
    · have h1 : i < l := by omega
      have h2 := hC i hi
      dsimp only at h2
      rw [if_pos h1, if_pos h1] at h2
      exact h2
  | succ k ih =>
    intro l fu M hl hfu hL hC
    obtain ⟨fu, rfl⟩ : ∃ z, fu = z + 1 := ⟨fu - 1, by omega⟩
    have e4 : (4 : Int32) = nI 4 := rfl
    have hl4 : l < 4 := by omega
    have hCl := hC l hl4
    dsimp only at hCl
    rw [if_neg (by omega), if_neg (by omega)] at hCl
    have hA : ∀ i, aLe (pk 0) i = 55 + i := fun i => by unfold aLe pk; omega
    have hAl := hA l
    obtain ⟨M2, hM2⟩ : ∃ M2, M2 = uI (uF M 100 (aLe (pk 0) l) (nr (r l) (ex l))) 98 (aLe (pk 0) l) 0 := ⟨_, rfl⟩
    have hAC : AC M M2 := ⟨by rw [hM2]; rfl, fun k' a' h => by rw [hM2, mI_ne (by omega)]; rfl, fun k' a' h => by rw [hM2, mF_uI, mF_uFne (by omega)]⟩
    have hL2 : Lay M2 := layT hAC.1 hL
    obtain ⟨M1, f1, f2, f3⟩ := ih (l + 1) fu M2 (by omega) (by omega) hL2 (fun i hi => by
      have h2 := hC i hi
      have hAi := hA i
      dsimp only at h2 ⊢
      by_cases hil : i = l
      · rw [if_pos (by omega), if_pos (by omega), hil, hM2]
        exact ⟨mI_eq, by rw [mF_uI, mF_uFeq]⟩
      · have e1 : mI M2 98 (aLe (pk 0) i) = mI M 98 (aLe (pk 0) i) := by rw [hM2, mI_ne (by omega)]; rfl
        have e2 : mF M2 100 (aLe (pk 0) i) = mF M 100 (aLe (pk 0) i) := by rw [hM2, mF_uI, mF_uFne (by omega)]
        rw [e1, e2]
        by_cases hl9 : i < l
        · rw [if_pos hl9, if_pos hl9] at h2
          rw [if_pos (by omega), if_pos (by omega)]; exact h2
        · rw [if_neg hl9, if_neg hl9] at h2
          rw [if_neg (by omega), if_neg (by omega)]; exact h2)
    refine ⟨M1, ?_, hAC.trans f2, f3⟩
    rw [lp_succ, b_X1_moveClock_37]
    refine (if_neg (fun h9 : (4 : Int32) ≤ nI l => absurd ((i_le (a := 4) (by omega) (by omega)).mp h9) (by omega))).trans ?_
    show aP M 113 _ (nI l) _ = _
    rw [aP_at (S_levels hL (by omega)) hl4 (by omega), P_level hL (by omega) hl4, rc_at (by rw [S_aLe hL (by omega) hl4]), passHour_c hL hl4 hCl.1 hCl.2 (hr l hl4) (he l hl4), cl_some, ← hM2, nI_1]
    exact f1
theorem hours_c {r : Nat → UInt32} {ex : Nat → Nat} {m p : Nat} (hr : ∀ i, i < 4 → gF (r i)) (he : ∀ i, i < 4 → ex i ≤ 512) (hb : m + p < 100000) : ∀ (k j fu : Nat) (M : Mem), m / 60 + j + k = (m + p) / 60 → k < fu → Lay M → mI M 39 (pk 0) = nI m → LC M (fun i => rS (r i) (ex i) j) (fun i => exS (ex i) j) →
    ∃ M1, lp (b_X1_moveClock_18 (some (pk 0)) (nI p) (nI m)) fu (nI (m / 60 + j), M) = some ((), uI M1 39 (pk 0) (nI (m + p))) ∧ AC M M1 ∧ LC M1 (fun i => rS (r i) (ex i) (j + k)) (fun i => exS (ex i) (j + k)) := by
  intro k
  induction k with
  | zero =>
    intro j fu M hj hfu hL hm hC
    obtain ⟨fu, rfl⟩ : ∃ z, fu = z + 1 := ⟨fu - 1, by omega⟩
    have e60 : (60 : Int32) = nI 60 := rfl
    refine ⟨M, ?_, AC.rfl', hC⟩
    rw [lp_succ, b_X1_moveClock_18]
    rw [if_pos (show (nI m + nI p) / 60 ≤ nI (m / 60 + j) by rw [nI_add, e60, i_div (by omega) (by omega) (by omega)]; exact le_n (by omega) (by omega))]
    rw [dI_at (by rw [S_park hL (by omega)]), pI_at (by rw [S_park hL (by omega)])]
    show rt () (uI M 39 (pk 0) (mI M 39 (pk 0) + nI p)) = _
    rw [hm, nI_add]; rfl
  | succ k ih =>
    intro j fu M hj hfu hL hm hC
    obtain ⟨fu, rfl⟩ : ∃ z, fu = z + 1 := ⟨fu - 1, by omega⟩
    have e60 : (60 : Int32) = nI 60 := rfl
    obtain ⟨M2, g1, g2, g3⟩ := hour_c (J := fun M10 => lp (b_X1_moveClock_18 (some (pk 0)) (nI p) (nI m)) fu (nI (m / 60 + j) + 1, M10)) (r := fun i => rS (r i) (ex i) j) (ex := fun i => exS (ex i) j) (fun i hi => rS_ok (hr i hi) (he i hi) j) (fun i hi => exS_le (he i hi) j) 4 0 FU M (by omega) (by show 4 < 1000000; omega) hL (fun i hi => by
      have h2 := hC i hi
      dsimp only at h2 ⊢
      rw [if_neg (by omega), if_neg (by omega)]; exact h2)
    have hm2 : mI M2 39 (pk 0) = nI m := (g2.2.1 _ _ (by omega)).trans hm
    obtain ⟨M1, f1, f2, f3⟩ := ih (j + 1) fu M2 (by omega) (by omega) (layT g2.1 hL) hm2 (fun i hi => by
      have h2 := g3 i hi
      refine ⟨h2.1.trans ?_, h2.2⟩
      show nI 0 = nI (exS (ex i) (j + 1))
      unfold exS; rw [if_neg (by omega)])
    rw [show j + 1 + k = j + (k + 1) by omega] at f3
    refine ⟨M1, ?_, g2.trans f2, f3⟩
    rw [lp_succ, b_X1_moveClock_18]
    rw [if_neg (show ¬ (nI m + nI p) / 60 ≤ nI (m / 60 + j) from fun h9 => by
      rw [nI_add, e60, i_div (by omega) (by omega) (by omega)] at h9
      exact absurd ((i_le (by omega) (by omega)).mp h9) (by omega))]
    rw [dP_at (by rw [S_park hL (by omega)])]
    show aL M 113 (mP M 35 (pk 0)) _ = _
    rw [P_levels hL (by omega), aL_at (S_levels hL (by omega)), jn_eq]
    refine g1.trans ?_
    show lp _ fu (nI (m / 60 + j) + 1, M2) = _
    rw [nI_1]; exact f1
/-! the reference's hours -/
def AR (M M1 : Mem) : Prop := M1.2.2 = M.2.2 ∧ (∀ k a, ¬ (a = 2180 ∧ (k = 1155 ∨ k = 1159 ∨ k = 1163 ∨ k = 1167)) → mI M1 k a = mI M k a) ∧ ∀ k a, ¬ (a = 2182) → mF M1 k a = mF M k a
theorem AR.rfl' {M : Mem} : AR M M := ⟨rfl, fun _ _ _ => rfl, fun _ _ _ => rfl⟩
theorem AR.trans {M M1 M2 : Mem} (h1 : AR M M1) (h2 : AR M1 M2) : AR M M2 := ⟨h2.1.trans h1.1, fun k a h => (h2.2.1 k a h).trans (h1.2.1 k a h), fun k a h => (h2.2.2 k a h).trans (h1.2.2 k a h)⟩
def LR (M : Mem) (r : Nat → UInt32) (ex : Nat → Nat) : Prop := ∀ i, i < 4 → mI M (1000 + (153 + 4 * i + 2)) 2180 = nI (ex i) ∧ mF M (1000 + i) 2182 = r i
theorem hour_r {J : Mem → Option (Int32 × Mem)} {r : Nat → UInt32} {ex : Nat → Nat} (hr : ∀ i, i < 4 → gF (r i)) (he : ∀ i, i < 4 → ex i ≤ 512) : ∀ (k l fu : Nat) (M : Mem), l + k = 4 → k < fu → Lay M → LR M (fun i => if i < l then nr (r i) (ex i) else r i) (fun i => if i < l then 0 else ex i) →
    ∃ M1, lp (b_X11_advance_62 (some 2179) J) fu (nI l, M) = J M1 ∧ AR M M1 ∧ LR M1 (fun i => nr (r i) (ex i)) (fun _ => 0) := by
  intro k
  induction k with
  | zero =>
    intro l fu M hl hfu hL hC
    obtain ⟨fu, rfl⟩ : ∃ z, fu = z + 1 := ⟨fu - 1, by omega⟩
    have e4 : (4 : Int32) = nI 4 := rfl
    refine ⟨M, ?_, AR.rfl', fun i hi => ?_⟩
    · rw [lp_succ, b_X11_advance_62]
      exact if_pos (by rw [e4]; exact le_n (by omega) (by omega))
    · have h1 : i < l := by omega
      have h2 := hC i hi
      dsimp only at h2
      rw [if_pos h1, if_pos h1] at h2
      exact h2
  | succ k ih =>
    intro l fu M hl hfu hL hC
    obtain ⟨fu, rfl⟩ : ∃ z, fu = z + 1 := ⟨fu - 1, by omega⟩
    have hl4 : l < 4 := by omega
    have hCl := hC l hl4
    dsimp only at hCl
    rw [if_neg (by omega), if_neg (by omega)] at hCl
    obtain ⟨q1, q2, q3, q4⟩ := nr_ok (hr l hl4) (he l hl4)
    obtain ⟨M2, hM2⟩ : ∃ M2, M2 = uI (uF M (1000 + l) 2182 (nr (r l) (ex l))) (1000 + (153 + 4 * l + 2)) 2180 0 := ⟨_, rfl⟩
    have hAC : AR M M2 := ⟨by rw [hM2]; rfl, fun k' a' h => by rw [hM2, mI_ne (by omega)]; rfl, fun k' a' h => by rw [hM2, mF_uI, mF_uFne (by omega)]⟩
    have hL2 : Lay M2 := layT hAC.1 hL
    obtain ⟨M1, f1, f2, f3⟩ := ih (l + 1) fu M2 (by omega) (by omega) hL2 (fun i hi => by
      have h2 := hC i hi
      dsimp only at h2 ⊢
      by_cases hil : i = l
      · rw [if_pos (by omega), if_pos (by omega), hil, hM2]
        exact ⟨mI_eq, by rw [mF_uI, mF_uFeq]⟩
      · have e1 : mI M2 (1000 + (153 + 4 * i + 2)) 2180 = mI M (1000 + (153 + 4 * i + 2)) 2180 := by rw [hM2, mI_ne (by omega)]; rfl
        have e2 : mF M2 (1000 + i) 2182 = mF M (1000 + i) 2182 := by rw [hM2, mF_uI, mF_uFne (by omega)]
        rw [e1, e2]
        by_cases hl9 : i < l
        · rw [if_pos hl9, if_pos hl9] at h2
          rw [if_pos (by omega), if_pos (by omega)]; exact h2
        · rw [if_neg hl9, if_neg hl9] at h2
          rw [if_neg (by omega), if_neg (by omega)]; exact h2)
    refine ⟨M1, ?_, hAC.trans f2, f3⟩
    have e153 : (153 : Int32) = nI 153 := rfl
    have e4 : (4 : Int32) = nI 4 := rfl
    have e2 : (2 : Int32) = nI 2 := rfl
    have hP2 : mP M 354 2179 = some 2182 := hL.P (by omega) 354
    have hS2 : mS M 2182 = (102, 4) := hL.S (by omega)
    rw [lp_succ, b_X11_advance_62]
    refine (if_neg (fun h9 : (4 : Int32) ≤ nI l => absurd ((i_le (a := 4) (by omega) (by omega)).mp h9) (by omega))).trans ?_
    show dP M 11 2 (some 2179) (fun (q20 : Option Nat) => dP M 11 2 (some 2179) (fun (q21 : Option Nat) => aF M 102 q21 (nI l) _)) = _
    rw [dP_at (S1 _ hL), dP_at (S1 _ hL)]
    show aF M 102 (mP M 354 2179) (nI l) _ = _
    rw [hP2, aF_at hS2 hl4 (by omega), hCl.2, o_fmul_at (hr l hl4).N fN_075, rc_at (S1 _ hL), show m_X11_levelPart M (some 2179) (nI l) 2 = _ from part_r hL hl4 (j := 2) (by omega), cl_some, hCl.1, o_fmul_at q2 fN_025, o_fadd_at q1 q3]
    show sF M 102 (some 2182) (nI l) (nr (r l) (ex l)) (fun M28 => dP M28 11 0 (some 2179) fun q29 => sI M28 100 q29 (153 + 4 * nI l + 2) 0 fun M30 => lp (b_X11_advance_62 (some 2179) J) fu (nI l + 1, M30)) = _
    rw [sF_at hS2 hl4 (by omega)]
    rw [dS (hL.uF _ _ _), e153, e4, pk_mul, nI_add, e2, nI_add, s_set (hL.uF _ _ _) (by omega), ← hM2, nI_1]
    exact f1
theorem hours_r {r : Nat → UInt32} {ex : Nat → Nat} {m p : Nat} (hr : ∀ i, i < 4 → gF (r i)) (he : ∀ i, i < 4 → ex i ≤ 512) (hb : m + p < 100000) : ∀ (k j fu : Nat) (M : Mem), j + k = (m + p) / 60 - m / 60 → k < fu → Lay M → mI M 1000 2180 = nI m → LR M (fun i => rS (r i) (ex i) j) (fun i => exS (ex i) j) →
    ∃ M1, lp (b_X11_advance_54 (some 2179) (nI p) (nI m) (nI m)) fu (nI j, M) = some (nI (m + p), uI M1 1000 2180 (nI (m + p))) ∧ AR M M1 ∧ LR M1 (fun i => rS (r i) (ex i) (j + k)) (fun i => exS (ex i) (j + k)) := by
  intro k
  induction k with
  | zero =>
    intro j fu M hj hfu hL hm hC
    obtain ⟨fu, rfl⟩ : ∃ z, fu = z + 1 := ⟨fu - 1, by omega⟩
    have e60 : (60 : Int32) = nI 60 := rfl
    have e0 : (0 : Int32) = nI 0 := rfl
    refine ⟨M, ?_, AR.rfl', hC⟩
    rw [lp_succ, b_X11_advance_54]
    rw [if_pos (show (nI m + nI p) / 60 - nI m / 60 ≤ nI j by rw [nI_add, e60, i_div (by omega) (by omega) (by omega), i_div (by omega) (by omega) (by omega), pk_sub (by omega)]; exact le_n (by omega) (by omega))]
    show dP M 11 0 (some 2179) _ = _
    rw [dS hL, e0, s_at hL (by omega), s_set hL (by omega), dS (hL.uI _ _ _), s_at (hL.uI _ _ _) (by omega), mI_eq]
    show some (mI M 1000 2180 + nI p, uI M 1000 2180 (mI M 1000 2180 + nI p)) = _
    rw [hm, nI_add]
  | succ k ih =>
    intro j fu M hj hfu hL hm hC
    obtain ⟨fu, rfl⟩ : ∃ z, fu = z + 1 := ⟨fu - 1, by omega⟩
    have e60 : (60 : Int32) = nI 60 := rfl
    obtain ⟨M2, g1, g2, g3⟩ := hour_r (J := fun M10 => lp (b_X11_advance_54 (some 2179) (nI p) (nI m) (nI m)) fu (nI j + 1, M10)) (r := fun i => rS (r i) (ex i) j) (ex := fun i => exS (ex i) j) (fun i hi => rS_ok (hr i hi) (he i hi) j) (fun i hi => exS_le (he i hi) j) 4 0 FU M (by omega) (by show 4 < 1000000; omega) hL (fun i hi => by
      have h2 := hC i hi
      dsimp only at h2 ⊢
      rw [if_neg (by omega), if_neg (by omega)]; exact h2)
    have hm2 : mI M2 1000 2180 = nI m := (g2.2.1 _ _ (by omega)).trans hm
    obtain ⟨M1, f1, f2, f3⟩ := ih (j + 1) fu M2 (by omega) (by omega) (layT g2.1 hL) hm2 (fun i hi => by
      have h2 := g3 i hi
      refine ⟨h2.1.trans ?_, h2.2⟩
      show nI 0 = nI (exS (ex i) (j + 1))
      unfold exS; rw [if_neg (by omega)])
    rw [show j + 1 + k = j + (k + 1) by omega] at f3
    refine ⟨M1, ?_, g2.trans f2, f3⟩
    rw [lp_succ, b_X11_advance_54]
    rw [if_neg (show ¬ (nI m + nI p) / 60 - nI m / 60 ≤ nI j from fun h9 => by
      rw [nI_add, e60, i_div (by omega) (by omega) (by omega), i_div (by omega) (by omega) (by omega), pk_sub (by omega)] at h9
      exact absurd ((i_le (by omega) (by omega)).mp h9) (by omega)), jn_eq]
    refine g1.trans ?_
    show lp _ fu (nI j + 1, M2) = _
    rw [nI_1]; exact f1
theorem advance_inv {cnt n vc m p : Nat} {M X : Mem} (h : Inv cnt n vc m M) (hc : cnt < 512) (hp : m + p ≤ 99999) (f3 : X.2.2 = M.2.2) (f2 : ∀ k a, ¬ (k = 98 ∧ 55 ≤ a ∧ a < 59) → ¬ (k = 39 ∧ a = 1) → ¬ (a = 2180 ∧ (k = 1000 ∨ k = 1155 ∨ k = 1159 ∨ k = 1163 ∨ k = 1167)) → mI X k a = mI M k a) (f1 : ∀ k a, ¬ (k = 100 ∧ 55 ≤ a ∧ a < 59) → ¬ (a = 2182) → mF X k a = mF M k a)
    (x1 : mI X 39 (pk 0) = nI (m + p)) (x2 : mI X 1000 2180 = nI (m + p)) {r : Nat → UInt32} {ex : Nat → Nat} (hr : ∀ i, i < 4 → gF (r i)) (he : ∀ i, i < 4 → ex i ≤ cnt) (hC : LC X r ex) (hR : LR X r ex) : Inv (cnt + 1) n vc (m + p) X := by
  have hP := h.2.2.2.1
  have hn := h.n512
  have hpp : pk 0 = 1 := rfl
  have eS : ∀ a, mS X a = mS M a := fun a => by unfold mS; rw [f3]
  have eP : ∀ k a, mP X k a = mP M k a := fun k a => by unfold mP; rw [f3]
  have eN : mN X = mN M := by unfold mN; rw [f3]
  have eL : mL X = mL M := by unfold mL; rw [f3]
  have el : ∀ l, aLe (pk 0) l = 55 + l := fun l => by unfold aLe pk; omega
  refine h.of0 hc ⟨by rw [eN]; exact Nat.le_refl _, by rw [eN]; omega, by rw [eL]; omega⟩ (fun a _ => ⟨eS a, fun k => eP k a⟩) (fun k a h1 h2 h3 h4 => f2 k a (by omega) (by omega) (by omega)) (fun k a h1 h2 h3 => f1 k a (by omega) h3) ?_
  refine ⟨hP.1.of (fun a _ _ => eS a) (fun k a _ _ => eP k a) (fun k' a' h8 h9 => f2 k' a' (by omega) (by omega) (by omega)) (fun k' h8 h9 => f2 _ _ (by omega) (by omega) (by omega)),
    hP.2.1.of (f2 _ _ (by omega) (by omega) (by omega)) (fun k' a' h8 h9 => f2 k' a' (by omega) (by omega) (by omega)) (f2 _ _ (by omega) (by omega) (by omega)) (fun k' h8 h9 => f2 _ _ (by omega) (by omega) (by omega)),
    hP.2.2.1.of (Nat.le_refl _) (fun k' a' h8 h9 => f2 k' a' (by omega) (by omega) (by omega)) (fun k' h8 h9 => f2 _ _ (by omega) (by omega) (by omega)), ?_,
    hP.2.2.2.2.1.of (by omega) (by omega) (Nat.le_refl _) (by omega) (f2 _ _ (by omega) (by omega) (by omega)) (fun k' a' h8 h9 => f2 k' a' (by omega) (by omega) (by omega)) (f2 _ _ (by omega) (by omega) (by omega)) (fun k' h8 => f2 _ _ (by omega) (by omega) (by omega)), ⟨hp, x1, x2⟩,
    hP.2.2.2.2.2.2.of (fun k' h8 h9 => f2 _ _ (by omega) (by omega) (by omega)) (fun k' h8 => f2 _ _ (by omega) (by omega) (by omega)) (fun l h8 => f2 _ _ (by omega) (by omega) (by omega))⟩
  intro l hl
  obtain ⟨cap, ex', x, en, r', g1, g2, g3, g4, g5, d1, d2, d3, d4, d5, c1, c2, c3, c4, c5⟩ := hP.2.2.2.1 l hl
  have el' := el l
  have he' := he l hl
  refine ⟨cap, ex l, x, en, r l, g1, by omega, by omega, g4, hr l hl, (f2 _ _ (by omega) (by omega) (by omega)).trans d1, (f2 _ _ (by omega) (by omega) (by omega)).trans d2, (hC l hl).1, (f2 _ _ (by omega) (by omega) (by omega)).trans d4, (hC l hl).2, (f2 _ _ (by omega) (by omega) (by omega)).trans c1, (f2 _ _ (by omega) (by omega) (by omega)).trans c2, (hR l hl).1, (f2 _ _ (by omega) (by omega) (by omega)).trans c4, (hR l hl).2⟩
theorem advance_op {cnt n vc m : Nat} {M : Mem} (h : Inv cnt n vc m M) (hc : cnt < 512) (p : Int32) : Op cnt M (fun M => m_X10_advance M (some 0) p) (fun M => m_X11_advance M (some 2179) p) := by
  have hL := h.1
  have hP := h.2.2.2.1
  obtain ⟨m1, m2, m3⟩ := hP.imi
  have hpk : mS M (pk 0) = (1, 0) := S_park hL (by omega)
  have hpp : pk 0 = 1 := rfl
  have no : ∀ {r : Int32} {g : Mem → Option (Int32 × Mem)}, m_X10_advance M (some 0) p = some (r, M) → g M = some (r, M) → Op cnt M (fun M => m_X10_advance M (some 0) p) g := fun h9 h8 => Op.same h hc h9 (Keep.rfl'.mono (by omega)) h8 Sc.rfl'
  by_cases hp : (1 : Int32) ≤ p ∧ p ≤ 3000
  · obtain ⟨z, rfl, hz1, hz⟩ := nat_of (a := 1) (b := 3000) (by omega) hp (by omega)
    have e9 : (99999 : Int32) = nI 99999 := rfl
    have e0 : (0 : Int32) = nI 0 := rfl
    have hA : m_X10_advance M (some 0) (nI z) = (if nI m + nI z ≤ 99999 then dP M 10 0 (some 0) (fun (q5 : Option Nat) => rc M 1 q5 (cl (m_X1_moveClock M q5 (nI z)) (fun (_u : Unit) (M6 : Mem) => dP M6 10 0 (some 0) (fun (q7 : Option Nat) => dI M6 1 7 q7 (fun (x8 : Int32) => rt x8 M6))))) else rt ((-3)) M) := by
      unfold m_X10_advance
      rw [within_y hp, cl_some, if_pos (by decide), dPark hL, dI_at (by rw [hpk])]
      show (if mI M 39 (pk 0) + nI z ≤ 99999 then _ else _) = _
      rw [m2]
    have hB : ∀ M1, Lay M1 → mI M1 1000 2180 = nI m → m_X11_advance M1 (some 2179) (nI z) = (if nI m + nI z ≤ 99999 then lp (b_X11_advance_54 (some 2179) (nI z) (nI m) (nI m)) FU (0, M1) else rt ((-3)) M1) := by
      intro M1 hL1 h1
      have h1' : mI M1 (1000 + 0) 2180 = nI m := h1
      unfold m_X11_advance
      rw [in_y hp, cl_some, if_pos (by decide), dS hL1, e0, s_at hL1 (by omega), h1', dS hL1, s_at hL1 (by omega), h1', dS hL1, s_at hL1 (by omega), h1']
    by_cases hs : m + z ≤ 99999
    · have hle : nI m + nI z ≤ 99999 := by rw [nI_add, e9]; exact le_n (by omega) hs
      have hlv := fun l (hl : l < 4) => hP.2.2.2.1 l hl
      obtain ⟨r, hr⟩ : ∃ r : Nat → UInt32, r = fun l => mF M 100 (aLe (pk 0) l) := ⟨_, rfl⟩
      obtain ⟨ex, hex⟩ : ∃ ex : Nat → Nat, ex = fun l => (mI M 98 (aLe (pk 0) l)).toInt.toNat := ⟨_, rfl⟩
      have hall : ∀ l, l < 4 → gF (r l) ∧ ex l ≤ cnt ∧ mI M 98 (aLe (pk 0) l) = nI (ex l) ∧ mI M (1000 + (153 + 4 * l + 2)) 2180 = nI (ex l) ∧ mF M (1000 + l) 2182 = r l := by
        intro l hl
        obtain ⟨cap, ex', x, en, r', g1, g2, g3, g4, g5, d1, d2, d3, d4, d5, c1, c2, c3, c4, c5⟩ := hlv l hl
        have e1 : r l = r' := by rw [hr]; exact d5
        have e2 : ex l = ex' := by
          rw [hex]; show (mI M 98 (aLe (pk 0) l)).toInt.toNat = ex'
          rw [d3, toN (by omega)]
        rw [e1, e2]
        exact ⟨g5, g2, d3, c3, c5⟩
      have hg : ∀ l, l < 4 → gF (r l) := fun l hl => (hall l hl).1
      have he5 : ∀ l, l < 4 → ex l ≤ 512 := fun l hl => by have := (hall l hl).2.1; omega
      obtain ⟨k, hk⟩ : ∃ k, k = (m + z) / 60 - m / 60 := ⟨_, rfl⟩
      obtain ⟨M1, a1, a2, a3⟩ := hours_c (r := r) (ex := ex) (m := m) (p := z) hg he5 (by omega) k 0 FU M (by omega) (by show k < 1000000; omega) hL m2 (fun l hl => ⟨(hall l hl).2.2.1, by rw [hr]; rfl⟩)
      obtain ⟨M2, hM2⟩ : ∃ M2, M2 = uI M1 39 (pk 0) (nI (m + z)) := ⟨_, rfl⟩
      have hL1 : Lay M1 := layT a2.1 hL
      have hL2 : Lay M2 := by rw [hM2]; exact hL1
      have i2 : ∀ k a, ¬ (k = 98 ∧ 55 ≤ a ∧ a < 59) → ¬ (k = 39 ∧ a = 1) → mI M2 k a = mI M k a := fun k a h8 h9 => by rw [hM2, mI_ne (by omega)]; exact a2.2.1 k a h8
      have f2 : ∀ k a, ¬ (k = 100 ∧ 55 ≤ a ∧ a < 59) → mF M2 k a = mF M k a := fun k a h8 => by rw [hM2, mF_uI]; exact a2.2.2 k a h8
      obtain ⟨M3, b1, b2, b3⟩ := hours_r (r := r) (ex := ex) (m := m) (p := z) hg he5 (by omega) k 0 FU M2 (by omega) (by show k < 1000000; omega) hL2 ((i2 _ _ (by omega) (by omega)).trans m3) (fun l hl => ⟨(i2 _ _ (by omega) (by omega)).trans (hall l hl).2.2.2.1, (f2 _ _ (by omega)).trans (hall l hl).2.2.2.2⟩)
      rw [Nat.zero_add] at a3 b3
      have hA2 : m_X10_advance M (some 0) (nI z) = some (nI (m + z), M2) := by
        have e60 : (60 : Int32) = nI 60 := rfl
        rw [hA, if_pos hle, dPark hL, rc_at (by rw [hpk])]
        unfold m_X1_moveClock
        rw [dI_at (by rw [hpk]), dI_at (by rw [hpk])]
        show cl (lp (b_X1_moveClock_18 (some (pk 0)) (nI z) (mI M 39 (pk 0))) FU (mI M 39 (pk 0) / 60, M)) _ = _
        rw [m2, e60, i_div (by omega) (by omega) (by omega)]
        rw [show m / 60 = m / 60 + 0 from rfl, a1, cl_some, ← hM2, dPark hL2, dI_at (by rw [S_park hL2 (by omega)])]
        show some (mI M2 39 (pk 0), M2) = _
        rw [hM2, mI_eq]
      have hB2 : m_X11_advance M2 (some 2179) (nI z) = some (nI (m + z), uI M3 1000 2180 (nI (m + z))) := by
        rw [hB M2 hL2 ((i2 _ _ (by omega) (by omega)).trans m3), if_pos hle, e0]
        exact b1
      obtain ⟨X, hX⟩ : ∃ X, X = uI M3 1000 2180 (nI (m + z)) := ⟨_, rfl⟩
      rw [← hX] at hB2
      refine ⟨_, M2, X, hA2, S1 _ hL2, hB2, n, vc, m + z, advance_inv (r := fun i => rS (r i) (ex i) k) (ex := fun i => exS (ex i) k) h hc hs ?_ ?_ ?_ ?_ ?_ (fun i hi => rS_ok (hg i hi) (he5 i hi) k) (fun i hi => exS_le (hall i hi).2.1 k) ?_ ?_⟩
      · rw [hX]; show M3.2.2 = _
        rw [b2.1, hM2]; exact a2.1
      · intro k' a' h7 h8 h9
        rw [hX, mI_ne (by omega), b2.2.1 _ _ (by omega)]
        exact i2 _ _ h7 h8
      · intro k' a' h8 h9
        rw [hX, mF_uI, b2.2.2 _ _ h9]
        exact f2 _ _ h8
      · rw [hX, mI_ne (by omega), b2.2.1 _ _ (by omega), hM2, mI_eq]
      · rw [hX, mI_eq]
      · intro i hi
        have e1 : aLe (pk 0) i = 55 + i := by unfold aLe pk; omega
        have h2 := a3 i hi
        refine ⟨?_, ?_⟩
        · rw [hX, mI_ne (by omega), b2.2.1 _ _ (by omega), hM2, mI_ne (by omega)]; exact h2.1
        · rw [hX, mF_uI, b2.2.2 _ _ (by omega), hM2, mF_uI]; exact h2.2
      · intro i hi
        have h2 := b3 i hi
        refine ⟨?_, ?_⟩
        · rw [hX, mI_ne (by omega)]; exact h2.1
        · rw [hX, mF_uI]; exact h2.2
    · have hle : ¬ nI m + nI z ≤ 99999 := by
        rw [nI_add, e9]
        exact fun h9 => hs ((i_le (by omega) (by omega)).mp h9)
      rw [if_neg hle] at hA
      refine no hA ?_
      show m_X11_advance M _ _ = _
      rw [hB M hL m3, if_neg hle]; rfl
  · refine no (r := -2) ?_ ?_
    · unfold m_X10_advance
      rw [within_n hp, cl_some, if_neg (by decide)]; rfl
    · show m_X11_advance M _ _ = _
      unfold m_X11_advance
      rw [in_n hp, cl_some, if_neg (by decide)]; rfl
