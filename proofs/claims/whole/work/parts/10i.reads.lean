/-! ===== the calls plan, band, voucher, inFolder, ticket, reportCode, reportNumber ===== -/
theorem le_n {a b : Nat} (hb : b < 2147483648) (hab : a ≤ b) : nI a ≤ nI b := (i_le (by omega) hb).mpr hab
theorem ix_in (M : Mem) (x : Int32) {n : Nat} (hn : n < 1000000) : (∃ j, j < n ∧ x = nI j ∧ m_X11_in M x 0 (nI n - 1) = some (1, M)) ∨ ((¬ ∃ j, j < n ∧ x = nI j) ∧ m_X11_in M x 0 (nI n - 1) = some (0, M)) := by
  have hs : (nI n - nI 1).toInt = (n : Int) - 1 := pk_sub_toInt (by omega) (by omega)
  have e1 : nI n - 1 = nI n - nI 1 := rfl
  rw [e1]
  rcases pk_ix x (n := n) (by omega) with h | h | ⟨j, h1, h2⟩
  · refine Or.inr ⟨fun ⟨j, h1, h2⟩ => ?_, in_n (fun h9 => absurd h9.1 (Int32.not_le.mpr h))⟩
    rw [h2] at h
    have h3 := Int32.lt_iff_toInt_lt.mp h
    rw [tI j (by omega)] at h3
    have h5 : (0 : Int32).toInt = 0 := by decide
    omega
  · have h3 := Int32.le_iff_toInt_le.mp h
    rw [tI n (by omega)] at h3
    refine Or.inr ⟨fun ⟨j, h1, h2⟩ => ?_, in_n (fun h9 => ?_)⟩
    · rw [h2, tI j (by omega)] at h3; omega
    · have h4 := Int32.le_iff_toInt_le.mp h9.2
      rw [hs] at h4; omega
  · refine Or.inl ⟨j, h1, h2, in_y ⟨?_, ?_⟩⟩
    · rw [h2]; exact le_n (a := 0) (by omega) (by omega)
    · rw [Int32.le_iff_toInt_le, hs, h2, tI j (by omega)]; omega
/-- a place of the class's rows: below b, and below what is in use -/
theorem ix_at {x : Int32} {n b : Nat} (hn : n ≤ b + 1) (hb : b < 1000000) (h : ¬ ∃ j, j < n ∧ x = nI j) : ¬ ((0 : Int32) ≤ x ∧ x ≤ nI b) ∨ (((0 : Int32) ≤ x ∧ x ≤ nI b) ∧ nI n ≤ x) := by
  by_cases h1 : (0 : Int32) ≤ x ∧ x ≤ nI b
  · obtain ⟨j, rfl, -, hj⟩ := nat_of (a := 0) (b := b) (by omega) h1 (by omega)
    refine Or.inr ⟨h1, le_n (by omega) ?_⟩
    by_cases h2 : j < n
    · exact absurd ⟨j, h2, rfl⟩ h
    · omega
  · exact Or.inl h1
def pj (π : PD) (j : Nat) : Nat := if j = 0 then pFree π else if j = 1 then pCap π else if j = 2 then pWay π else if j = 3 then pLost π else pCnt π
theorem plan_op {cnt n vc m : Nat} {M : Mem} (h : Inv cnt n vc m M) (hc : cnt < 512) (p a : Int32) : Op cnt M (fun M => m_X10_plan M (some 0) p a) (fun M => m_X11_plan M (some 2179) p a) := by
  have hL := h.1
  have hpre : m_X10_plan M (some 0) p a = cl (m_X1_planAt M (some (pk 0)) p) (fun (q3 : Option Nat) (M2 : Mem) => (if q3 = none then rt ((-2)) M2 else cl (m_X10_within M2 a 0 4) (fun (x5 : Int32) (M4 : Mem) => (if x5 ≠ 0 then rc M4 5 q3 (cl (m_X5_property M4 q3 a) (fun (x7 : Int32) (M6 : Mem) => rt x7 M6)) else rt ((-2)) M4)))) := by
    unfold m_X10_plan
    rw [dP_at (by rw [S_zero hL]), P_park hL, rc_at (by rw [S_park hL (by omega)])]
  have no : ∀ {r : Int32} {g : Mem → Option (Int32 × Mem)}, m_X10_plan M (some 0) p a = some (r, M) → g M = some (r, M) → Op cnt M (fun M => m_X10_plan M (some 0) p a) g := fun h9 h8 => Op.same h hc h9 (Keep.rfl'.mono (by omega)) h8 Sc.rfl'
  by_cases hp : (0 : Int32) ≤ p ∧ p ≤ 3
  · obtain ⟨i, rfl, -, hi⟩ := nat_of (a := 0) (b := 3) (by omega) hp (by omega)
    obtain ⟨π, hπ, hC, hR⟩ := h.2.2.2.1.1 i (by omega)
    rw [planAt_y hL (by omega), cl_some, if_neg (by simp)] at hpre
    by_cases ha : (0 : Int32) ≤ a ∧ a ≤ 4
    · obtain ⟨j, rfl, -, hj⟩ := nat_of (a := 0) (b := 4) (by omega) ha (by omega)
      have e1 : m_X5_property M (some (aPl (pk 0) i)) (nI j) = some (nI (pj π j), M) := by
        unfold m_X5_property pj
        rcases (show j = 0 ∨ j = 1 ∨ j = 2 ∨ j = 3 ∨ j = 4 by omega) with rfl | rfl | rfl | rfl | rfl
        · rw [if_pos (by decide), dI_at (by rw [hC.1.1]), hC.2.1]; rfl
        · rw [if_neg (by decide), if_pos (by decide), dI_at (by rw [hC.1.1]), hC.2.2.1]; rfl
        · rw [if_neg (by decide), if_neg (by decide), if_pos (by decide), dI_at (by rw [hC.1.1]), hC.2.2.2.1]; rfl
        · rw [if_neg (by decide), if_neg (by decide), if_neg (by decide), if_pos (by decide), dI_at (by rw [hC.1.1]), hC.2.2.2.2.1]; rfl
        · rw [if_neg (by decide), if_neg (by decide), if_neg (by decide), if_neg (by decide), dI_at (by rw [hC.1.1]), hC.2.2.2.2.2.1]; rfl
      have e2 : mI M (1000 + (10 + 23 * i + j)) 2180 = nI (pj π j) := by
        unfold pj
        rcases (show j = 0 ∨ j = 1 ∨ j = 2 ∨ j = 3 ∨ j = 4 by omega) with rfl | rfl | rfl | rfl | rfl
        · exact hR.1
        · exact hR.2.1
        · exact hR.2.2.1
        · exact hR.2.2.2.1
        · exact hR.2.2.2.2.1
      rw [within_y ha, cl_some, if_pos (by decide), rc_at (by rw [S_aPl hL (by omega) (by omega)]), e1] at hpre
      refine no hpre ?_
      unfold m_X11_plan
      rw [isPlan_y hp, cl_some, if_neg (by decide), in_y ha, cl_some, if_neg (by decide), rc_at (S1 _ hL), of_r hL (by omega) (by omega), e2]; rfl
    · rw [within_n ha, cl_some, if_neg (by decide)] at hpre
      refine no hpre ?_
      unfold m_X11_plan
      rw [isPlan_y hp, cl_some, if_neg (by decide), in_n ha, cl_some, if_pos rfl]; rfl
  · rw [planAt_n hp, cl_some, if_pos rfl] at hpre
    refine no hpre ?_
    unfold m_X11_plan
    rw [isPlan_n hp, cl_some, if_pos rfl]; rfl
theorem bandAtC_y {M : Mem} {A b : Nat} {π : PD} (hC : PlC M A π) (hπ : GP π) (hb : b < pCnt π) : m_X5_bandAt M (some A) (nI b) = some (some (A + 2 + b), M) := by
  have h6 := hπ.2.2.2.2.2.1
  unfold m_X5_bandAt jn
  dsimp only
  have hw : (0 : Int32) ≤ nI b ∧ nI b ≤ 5 := ⟨le_n (a := 0) (by omega) (by omega), le_n (b := 5) (by omega) (by omega)⟩
  rw [within_y hw, cl_some, if_neg (by decide), dI_at (by rw [hC.1.1]), hC.2.2.2.2.2.1, if_neg (fun h9 => absurd ((i_le (by omega) (by omega)).mp h9) (by omega)), if_neg (by decide), dP_at (by rw [hC.1.1]), hC.1.2.1, aP_at hC.1.2.2.1 (by omega) (by omega), (hC.1.2.2.2 b (by omega)).1]; rfl
theorem bandAtC_n {M : Mem} {A : Nat} {x : Int32} {π : PD} (hC : PlC M A π) (hπ : GP π) (hb : ¬ ∃ j, j < pCnt π ∧ x = nI j) : m_X5_bandAt M (some A) x = some (none, M) := by
  have h6 := hπ.2.2.2.2.2.1
  unfold m_X5_bandAt jn
  dsimp only
  have e5 : (5 : Int32) = nI 5 := rfl
  rw [e5]
  rcases ix_at (b := 5) (by omega) (by omega) hb with h1 | ⟨h1, h2⟩
  · rw [within_n h1, cl_some, if_pos rfl, if_pos rfl]; rfl
  · rw [within_y h1, cl_some, if_neg (by decide), dI_at (by rw [hC.1.1]), hC.2.2.2.2.2.1, if_pos h2, if_pos rfl]; rfl
theorem band_op {cnt n vc m : Nat} {M : Mem} (h : Inv cnt n vc m M) (hc : cnt < 512) (p a b : Int32) : Op cnt M (fun M => m_X10_band M (some 0) p a b) (fun M => m_X11_band_ M (some 2179) p a b) := by
  have hL := h.1
  have hpre : m_X10_band M (some 0) p a b = cl (m_X1_planAt M (some (pk 0)) p) (fun (q3 : Option Nat) (M2 : Mem) => (if q3 = none then rt ((-2)) M2 else cl (m_X10_within M2 b 0 2) (fun (x5 : Int32) (M4 : Mem) => (if x5 ≠ 0 then rc M4 5 q3 (cl (m_X5_bandAt M4 q3 a) (fun (q7 : Option Nat) (M6 : Mem) => (if q7 ≠ none then rc M6 0 q7 (cl (m_X0_property M6 q7 b) (fun (x9 : Int32) (M8 : Mem) => rt x9 M8)) else rt ((-1)) M6))) else rt ((-2)) M4)))) := by
    unfold m_X10_band
    rw [dP_at (by rw [S_zero hL]), P_park hL, rc_at (by rw [S_park hL (by omega)])]
  have no : ∀ {r : Int32} {g : Mem → Option (Int32 × Mem)}, m_X10_band M (some 0) p a b = some (r, M) → g M = some (r, M) → Op cnt M (fun M => m_X10_band M (some 0) p a b) g := fun h9 h8 => Op.same h hc h9 (Keep.rfl'.mono (by omega)) h8 Sc.rfl'
  by_cases hp : (0 : Int32) ≤ p ∧ p ≤ 3
  · obtain ⟨i, rfl, -, hi⟩ := nat_of (a := 0) (b := 3) (by omega) hp (by omega)
    obtain ⟨π, hπ, hC, hR⟩ := h.2.2.2.1.1 i (by omega)
    have h6 := hπ.2.2.2.2.2.1
    have e4 : m_X11_of M (some 2179) (nI i) 4 = some (nI (pCnt π), M) := by rw [show m_X11_of M (some 2179) (nI i) 4 = _ from of_r hL (by omega) (w := 4) (by omega)]; exact congrArg (fun z => some (z, M)) hR.2.2.2.2.1
    rw [planAt_y hL (by omega), cl_some, if_neg (by simp)] at hpre
    by_cases hb : (0 : Int32) ≤ b ∧ b ≤ 2
    · obtain ⟨j, rfl, -, hj⟩ := nat_of (a := 0) (b := 2) (by omega) hb (by omega)
      rw [within_y hb, cl_some, if_pos (by decide), rc_at (by rw [S_aPl hL (by omega) (by omega)])] at hpre
      rcases ix_in M a (n := pCnt π) (by omega) with ⟨c, c1, rfl, c2⟩ | ⟨c1, c2⟩
      · have e1 : m_X0_property M (some (aPl (pk 0) i + 2 + c)) (nI j) = some (nI (pB π c j), M) := by
          have hB := hC.2.2.2.2.2.2.1 c c1
          have hS := (hC.1.2.2.2 c (by omega)).2
          unfold m_X0_property
          rcases (show j = 0 ∨ j = 1 ∨ j = 2 by omega) with rfl | rfl | rfl
          · rw [if_pos (by decide), dI_at (by rw [hS]), hB.1]; rfl
          · rw [if_neg (by decide), if_pos (by decide), dI_at (by rw [hS]), hB.2.1]; rfl
          · rw [if_neg (by decide), if_neg (by decide), dI_at (by rw [hS]), hB.2.2]; rfl
        rw [bandAtC_y hC hπ c1, cl_some, if_pos (by simp), rc_at (by rw [(hC.1.2.2.2 c (by omega)).2]), e1] at hpre
        refine no hpre ?_
        unfold m_X11_band_
        rw [isPlan_y hp, cl_some, if_neg (by decide), in_y hb, cl_some, if_pos (by decide), rc_at (S1 _ hL), e4, cl_some, c2, cl_some, if_neg (by decide), rc_at (S1 _ hL), bandPart_r hL (by omega) (by omega) (by omega), hR.2.2.2.2.2 c c1 j (by omega)]; rfl
      · rw [bandAtC_n hC hπ c1, cl_some, if_neg (by simp)] at hpre
        refine no hpre ?_
        unfold m_X11_band_
        rw [isPlan_y hp, cl_some, if_neg (by decide), in_y hb, cl_some, if_pos (by decide), rc_at (S1 _ hL), e4, cl_some, c2, cl_some, if_pos rfl]; rfl
    · rw [within_n hb, cl_some, if_neg (by decide)] at hpre
      refine no hpre ?_
      unfold m_X11_band_
      rw [isPlan_y hp, cl_some, if_neg (by decide), in_n hb, cl_some, if_neg (by decide)]; rfl
  · rw [planAt_n hp, cl_some, if_pos rfl] at hpre
    refine no hpre ?_
    unfold m_X11_band_
    rw [isPlan_n hp, cl_some, if_pos rfl]; rfl
/-! vouchers -/
theorem voucherAt_y {M : Mem} (h : Lay M) {v vc : Nat} (hvc : vc ≤ 10) (e37 : mI M 37 (pk 0) = nI vc) (hv : v < vc) : m_X1_voucherAt M (some (pk 0)) (nI v) = some (some (aVo (pk 0) v), M) := by
  unfold m_X1_voucherAt jn
  dsimp only
  have hw : (0 : Int32) ≤ nI v ∧ nI v ≤ 9 := ⟨le_n (a := 0) (by omega) (by omega), le_n (b := 9) (by omega) (by omega)⟩
  rw [within_y hw, cl_some, if_neg (by decide), dI_at (by rw [S_park h (by omega)]), e37, if_neg (fun h9 => absurd ((i_le (by omega) (by omega)).mp h9) (by omega)), if_neg (by decide), dP_at (by rw [S_park h (by omega)]), P_vouchers h (by omega), aP_at (S_vouchers h (by omega)) (by omega) (by omega), P_voucher h (by omega) (by omega)]; rfl
theorem voucherAt_n {M : Mem} (h : Lay M) {x : Int32} {vc : Nat} (hvc : vc ≤ 10) (e37 : mI M 37 (pk 0) = nI vc) (hv : ¬ ∃ j, j < vc ∧ x = nI j) : m_X1_voucherAt M (some (pk 0)) x = some (none, M) := by
  unfold m_X1_voucherAt jn
  dsimp only
  have e9 : (9 : Int32) = nI 9 := rfl
  rw [e9]
  rcases ix_at (b := 9) (by omega) (by omega) hv with h1 | ⟨h1, h2⟩
  · rw [within_n h1, cl_some, if_pos rfl, if_pos rfl]; rfl
  · rw [within_y h1, cl_some, if_neg (by decide), dI_at (by rw [S_park h (by omega)]), e37, if_pos h2, if_pos rfl]; rfl
theorem s_at {M : Mem} (h : Lay M) {K : Int32 → Option (Int32 × Mem)} {i : Nat} (hi : i < 6889) : aI M 100 (some 2180) (nI i) K = K (mI M (1000 + i) 2180) := aI_at (S_s M h) hi (by omega)
theorem isVoucher_y {M : Mem} (h : Lay M) {vc : Nat} {x : Int32} (e9 : mI M 1009 2180 = nI vc) (hx : m_X11_in M x 0 (nI vc - 1) = some (1, M)) : m_X11_isVoucher M (some 2179) x = some (1, M) := by
  unfold m_X11_isVoucher
  have e : (9 : Int32) = nI 9 := rfl
  rw [dP_at (S1 M h)]
  show aI M 100 (mP M 352 2179) _ _ = _
  rw [P_s M h, e, s_at h (by omega)]
  show cl (m_X11_in M x 0 (mI M 1009 2180 - 1)) _ = _
  rw [e9, hx]; rfl
theorem isVoucher_n {M : Mem} (h : Lay M) {vc : Nat} {x : Int32} (e9 : mI M 1009 2180 = nI vc) (hx : m_X11_in M x 0 (nI vc - 1) = some (0, M)) : m_X11_isVoucher M (some 2179) x = some (0, M) := by
  unfold m_X11_isVoucher
  have e : (9 : Int32) = nI 9 := rfl
  rw [dP_at (S1 M h)]
  show aI M 100 (mP M 352 2179) _ _ = _
  rw [P_s M h, e, s_at h (by omega)]
  show cl (m_X11_in M x 0 (mI M 1009 2180 - 1)) _ = _
  rw [e9, hx]; rfl
theorem voucher_op {cnt n vc m : Nat} {M : Mem} (h : Inv cnt n vc m M) (hc : cnt < 512) (p a : Int32) : Op cnt M (fun M => m_X10_voucher M (some 0) p a) (fun M => m_X11_voucher M (some 2179) p a) := by
  have hL := h.1
  obtain ⟨v1, v2, v3, v4⟩ := h.2.2.2.1.2.1
  have hpre : m_X10_voucher M (some 0) p a = cl (m_X1_voucherAt M (some (pk 0)) p) (fun (q3 : Option Nat) (M2 : Mem) => (if q3 ≠ none then cl (m_X10_within M2 a 0 2) (fun (x5 : Int32) (M4 : Mem) => (if x5 = 0 then rt ((-2)) M4 else rc M4 9 q3 (cl (m_X9_property M4 q3 a) (fun (x7 : Int32) (M6 : Mem) => rt x7 M6)))) else rt ((-1)) M2)) := by
    unfold m_X10_voucher
    rw [dP_at (by rw [S_zero hL]), P_park hL, rc_at (by rw [S_park hL (by omega)])]
  have no : ∀ {r : Int32} {g : Mem → Option (Int32 × Mem)}, m_X10_voucher M (some 0) p a = some (r, M) → g M = some (r, M) → Op cnt M (fun M => m_X10_voucher M (some 0) p a) g := fun h9 h8 => Op.same h hc h9 (Keep.rfl'.mono (by omega)) h8 Sc.rfl'
  rcases ix_in M p (n := vc) (by omega) with ⟨v, c1, rfl, c2⟩ | ⟨c1, c2⟩
  · obtain ⟨k, am, g, g1, g2, g3, g4, g5, g6, g7, g8, g9⟩ := v4 v c1
    rw [voucherAt_y hL v1 v2 c1, cl_some, if_pos (by simp)] at hpre
    by_cases ha : (0 : Int32) ≤ a ∧ a ≤ 2
    · obtain ⟨j, rfl, -, hj⟩ := nat_of (a := 0) (b := 2) (by omega) ha (by omega)
      have hS := S_aVo hL (q := 0) (by omega) (show v < 10 by omega)
      obtain ⟨r, r1, r2⟩ : ∃ r, m_X9_property M (some (aVo (pk 0) v)) (nI j) = some (r, M) ∧ mI M (1000 + (102 + 3 * v + j)) 2180 = r := by
        unfold m_X9_property
        rcases (show j = 0 ∨ j = 1 ∨ j = 2 by omega) with rfl | rfl | rfl
        · exact ⟨nI k, by rw [if_pos (by decide), dI_at (by rw [hS]), g4]; rfl, g7⟩
        · exact ⟨nI am, by rw [if_neg (by decide), if_pos (by decide), dI_at (by rw [hS]), g5]; rfl, g8⟩
        · exact ⟨g, by rw [if_neg (by decide), if_neg (by decide), dI_at (by rw [hS]), g6]; rfl, g9⟩
      rw [within_y ha, cl_some, if_neg (by decide), rc_at (by rw [hS]), r1] at hpre
      refine no hpre ?_
      unfold m_X11_voucher
      have e1 : (102 : Int32) = nI 102 := rfl
      have e2 : (3 : Int32) = nI 3 := rfl
      rw [rc_at (S1 _ hL), isVoucher_y hL v3 c2, cl_some, if_pos (by decide), in_y ha, cl_some, if_neg (by decide), dP_at (S1 M hL), e1, e2, pk_mul, nI_add, nI_add]
      show aI M 100 (mP M 352 2179) _ _ = _
      rw [P_s M hL, s_at hL (by omega), r2]; rfl
    · rw [within_n ha, cl_some, if_pos rfl] at hpre
      refine no hpre ?_
      unfold m_X11_voucher
      rw [rc_at (S1 _ hL), isVoucher_y hL v3 c2, cl_some, if_pos (by decide), in_n ha, cl_some, if_pos rfl]; rfl
  · rw [voucherAt_n hL v1 v2 c1, cl_some, if_neg (by simp)] at hpre
    refine no hpre ?_
    unfold m_X11_voucher
    rw [rc_at (S1 _ hL), isVoucher_n hL v3 c2, cl_some, if_neg (by decide)]; rfl
