/-! ===== the calls step and give ===== -/
theorem stepsS_bd {K : Nat → Nat} : ∀ (k i a : Nat), stepsS K k i a ≤ a + k := by
  intro k
  induction k with
  | zero => intro i a; exact Nat.le_refl _
  | succ k ih =>
    intro i a
    have := ih (i + 1) (if K i = 0 then a else a + 1)
    show stepsS K k (i + 1) (if K i = 0 then a else a + 1) ≤ _
    have h3 : (if K i = 0 then a else a + 1) ≤ a + 1 := by split <;> omega
    omega
section STEP
variable {M : Mem} {t pl en pd gv lo : Nat} {Vn K A : Nat → Nat}
theorem steps_c (hL : Lay M) (ht : t < 512) (h : CT M t pl en pd gv lo Vn K A) (hK : GK gv K A) (hg : gv ≤ 4) : ∀ (k i a fu : Nat), i + k = gv → k < fu → lp (b_X1_lastStep_4 (some (pk 0)) (some (aTi (pk 0) t))) fu (nI a, nI i, M) = some (nI (stepsS K k i a), M) := by
  have hS := S_aTi hL (q := 0) (by omega) ht
  intro k
  induction k with
  | zero =>
    intro i a fu hi hfu
    obtain ⟨fu, rfl⟩ : ∃ z, fu = z + 1 := ⟨fu - 1, by omega⟩
    rw [lp_succ, b_X1_lastStep_4]
    dsimp only
    rw [dI_at (by rw [hS])]
    show (if mI M 257 (aTi (pk 0) t) ≤ nI i then _ else _) = _
    rw [h.1.2.2.2.1, if_pos (le_n (by omega) (by omega))]; rfl
  | succ k ih =>
    intro i a fu hi hfu
    obtain ⟨fu, rfl⟩ : ∃ z, fu = z + 1 := ⟨fu - 1, by omega⟩
    have hKi := hK i (by omega)
    rw [lp_succ, b_X1_lastStep_4]
    dsimp only
    rw [dI_at (by rw [hS])]
    show (if mI M 257 (aTi (pk 0) t) ≤ nI i then _ else _) = _
    rw [h.1.2.2.2.1, if_neg (fun h9 => absurd ((i_le (by omega) (by omega)).mp h9) (by omega)), rc_at (by rw [hS]), vnum_c hL ht h hg (by omega), cl_some, rc_at (by rw [S_park hL (by omega)]), vat_c hL h (by omega), cl_some]
    unfold jn
    dsimp only
    have hSv := vS_c hL h (i := i) (by omega)
    obtain ⟨-, vc, h6, h7, h8⟩ := id h
    obtain ⟨g1, g2, g3, g4⟩ := h8 i (by omega)
    rw [if_neg (by simp), dI_at (by rw [hSv])]
    show (if mI M 288 (aVo (pk 0) (Vn i)) = 0 then _ else _) = _
    show _ = some (nI (stepsS K k (i + 1) (if K i = 0 then a else a + 1)), M)
    rw [g3, nI_1, nI_1]
    by_cases hz : K i = 0
    · rw [if_pos (show nI (K i) = 0 by rw [hz]; rfl), if_pos hz]
      exact ih (i + 1) _ fu (by omega) (by omega)
    · have hz0 : ¬ nI (K i) = 0 := fun h9 => hz ((i_eq (b := 0) (by omega) (by omega)).mp h9)
      rw [if_neg hz0, if_neg hz]
      exact ih (i + 1) _ fu (by omega) (by omega)
theorem steps_r (hL : Lay M) (ht : t < 512) (h : RT M t pl en pd gv lo Vn K A) (hK : GK gv K A) (hg : gv ≤ 4) : ∀ (k i a fu : Nat), i + k = gv → k < fu → lp (b_X11_stepsOf_4 (some 2179) (nI t)) fu (nI a, nI i, M) = some (nI (stepsS K k i a), M) := by
  intro k
  induction k with
  | zero =>
    intro i a fu hi hfu
    obtain ⟨fu, rfl⟩ : ∃ z, fu = z + 1 := ⟨fu - 1, by omega⟩
    rw [lp_succ, b_X11_stepsOf_4]
    dsimp only
    rw [rc_at (S1 _ hL), show m_X11_item M (some 2179) (nI t) 4 = _ from item_r hL ht (j := 4) (by omega), cl_some, h.1.2.2.2.1, if_pos (le_n (by omega) (by omega))]; rfl
  | succ k ih =>
    intro i a fu hi hfu
    obtain ⟨fu, rfl⟩ : ∃ z, fu = z + 1 := ⟨fu - 1, by omega⟩
    have hKi := hK i (by omega)
    obtain ⟨g1, g2, g3, g4⟩ := h.2 i (by omega)
    have e8 : (8 : Int32) = nI 8 := rfl
    have e5 : 169 + 12 * t + (8 + i) = 169 + 12 * t + 8 + i := by omega
    rw [lp_succ, b_X11_stepsOf_4]
    dsimp only
    rw [rc_at (S1 _ hL), show m_X11_item M (some 2179) (nI t) 4 = _ from item_r hL ht (j := 4) (by omega), cl_some, h.1.2.2.2.1, if_neg (fun h9 => absurd ((i_le (by omega) (by omega)).mp h9) (by omega)), rc_at (S1 _ hL), e8, nI_add, item_r hL ht (by omega), cl_some, e5, g2, rc_at (S1 _ hL), kindOf_r hL g1, cl_some, g3, nI_1]
    unfold jn
    dsimp only
    show _ = some (nI (stepsS K k (i + 1) (if K i = 0 then a else a + 1)), M)
    by_cases hz : K i = 0
    · rw [if_pos (show nI (K i) ≤ 0 by rw [hz]; decide), if_pos hz, show nI a + 0 = nI (a + 0) from nI_add a 0]
      exact ih (i + 1) _ fu (by omega) (by omega)
    · have hz0 : ¬ nI (K i) ≤ 0 := fun h9 => hz (by have := (i_le (b := 0) (by omega) (by omega)).mp h9; omega)
      rw [if_neg hz0, if_neg hz, nI_1]
      exact ih (i + 1) _ fu (by omega) (by omega)
end STEP
theorem ISu0.of2 {M M' : Mem} {n S : Nat} (h : ISu0 n M S) (hc : ∀ k, 2 ≤ k → k ≤ 8 → mI M' (1000 + k) S = mI M (1000 + k) S) (hr : ∀ s, s < n → ∀ j, (j = 0 ∨ j = 3 ∨ j = 5 ∨ j = 6) → mI M' (1000 + (169 + 12 * s + j)) S = mI M (1000 + (169 + 12 * s + j)) S) : ISu0 n M' S := by
  obtain ⟨lf, h1, h2, h3, h4, h5, h6, h7⟩ := h
  refine ⟨lf, h1, h2, (hc 2 (by omega) (by omega)).trans h3, ?_, ?_, fun k hk => ?_, ?_⟩
  · rw [← h4]; exact si_of (fun t ht => hr t ht 5 (by omega))
  · refine ((hc 8 (by omega) (by omega)).trans h5).trans (si_of (fun t ht => (hr t ht 6 (by omega)).symm))
  · refine ((hc (4 + k) (by omega) (by omega)).trans (h6 k hk)).trans (si_of (fun t ht => ?_))
    unfold paidT
    have e0 : mI M' (1000 + (169 + 12 * t)) S = mI M (1000 + (169 + 12 * t)) S := hr t ht 0 (by omega)
    rw [e0, hr t ht 3 (by omega)]
  · have e3 : mI M' 1003 S = mI M 1003 S := hc 3 (by omega) (by omega)
    have e4 : mI M' 1004 S = mI M 1004 S := hc 4 (by omega) (by omega)
    have e5 : mI M' 1005 S = mI M 1005 S := hc 5 (by omega) (by omega)
    have e6 : mI M' 1006 S = mI M 1006 S := hc 6 (by omega) (by omega)
    have e7 : mI M' 1007 S = mI M 1007 S := hc 7 (by omega) (by omega)
    rw [e3, e4, e5, e6, e7]; exact h7
theorem ISu.of2 {M M' : Mem} {n S : Nat} (h : ISu n M S) (hc : ∀ k, 2 ≤ k → k ≤ 8 → mI M' (1000 + k) S = mI M (1000 + k) S) (hr : ∀ s, s < n → ∀ j, (j = 0 ∨ j = 2 ∨ j = 3 ∨ j = 5 ∨ j = 6) → mI M' (1000 + (169 + 12 * s + j)) S = mI M (1000 + (169 + 12 * s + j)) S) (hl : ∀ l, l < 4 → mI M' (1000 + (153 + 4 * l + 1)) S = mI M (1000 + (153 + 4 * l + 1)) S) : ISu n M' S := ⟨h.1.of2 hc (fun s hs j hj => hr s hs j (by omega)), h.2.of hl (fun s hs j hj => hr s hs j (by omega))⟩
theorem step_op {cnt n vc m : Nat} {M : Mem} (h : Inv cnt n vc m M) (hc : cnt < 512) (p a : Int32) : Op cnt M (fun M => m_X10_step M (some 0) p a) (fun M => m_X11_step M (some 2179) p a) := by
  have hL := h.1
  have hP := h.2.2.2.1
  obtain ⟨m1, m2, m3⟩ := hP.imi
  have hpk : mS M (pk 0) = (1, 0) := S_park hL (by omega)
  have hn := h.n512
  have hmn := h.mn
  have no : ∀ {r : Int32} {g : Mem → Option (Int32 × Mem)}, m_X10_step M (some 0) p a = some (r, M) → g M = some (r, M) → Op cnt M (fun M => m_X10_step M (some 0) p a) g := fun h9 h8 => Op.same h hc h9 (Keep.rfl'.mono (by omega)) h8 Sc.rfl'
  rcases inside_cr h p with ⟨hA, hB⟩ | ⟨t, pl, en, lv, pd, gv, lo, la, Vn, K, A, ht, rfl, hA, hB, hT⟩
  · refine no (r := -1) ?_ ?_
    · unfold m_X10_step
      rw [dPark hL, rc_at (by rw [hpk]), hA, cl_some, if_pos rfl]; rfl
    · show m_X11_step M _ _ _ = _
      unfold m_X11_step
      rw [rc_at (S1 _ hL), hB, cl_some, if_pos rfl]; rfl
  · have hS := S_aTi hL (q := 0) (by omega) (show t < 512 by omega)
    obtain ⟨hb, hCf, hRf, hCT, hRT, hK, hVn⟩ := id hT
    obtain ⟨π, hπ, hC, hR⟩ := hP.1 pl (by omega)
    have hg4 := hb.2.2.2.2.1
    have hsb := stepsS_bd (K := K) gv 0 0
    have hA1 : m_X10_step M (some 0) (nI t) a = cl (m_X10_within M a 0 (nI (stepsS K gv 0 0))) (fun (x8 : Int32) (M7 : Mem) => (if x8 ≠ 0 then dI M7 8 8 (some (aTi (pk 0) t)) (fun (x9 : Int32) => (if x9 = 0 then dP M7 10 0 (some 0) (fun (q10 : Option Nat) => dP M7 10 0 (some 0) (fun (q11 : Option Nat) => dI M7 1 7 q11 (fun (x12 : Int32) => rc M7 1 q10 (cl (m_X1_amountAfter M7 q10 (some (aTi (pk 0) t)) x12 a) (fun (x14 : Int32) (M13 : Mem) => rt x14 M13))))) else rt ((-4)) M7)) else rt ((-1)) M7)) := by
      unfold m_X10_step
      have e : m_X1_lastStep M (some (pk 0)) (some (aTi (pk 0) t)) = some (nI (stepsS K gv 0 0), M) := steps_c hL (by omega) hCT hK hg4 gv 0 0 FU (by omega) (by show gv < 1000000; omega)
      rw [dPark hL, rc_at (by rw [hpk]), hA, cl_some, if_neg (by simp), dPark hL, rc_at (by rw [hpk]), e, cl_some]
    have hB1 : ∀ M1, Lay M1 → (∀ k, mI M1 k 2180 = mI M k 2180) → m_X11_step M1 (some 2179) (nI t) a = cl (m_X11_in M1 a 0 (nI (stepsS K gv 0 0))) (fun (x6 : Int32) (M5 : Mem) => (if x6 ≠ 0 then rc M5 11 (some 2179) (cl (m_X11_item M5 (some 2179) (nI t) 6) (fun (x8 : Int32) (M7 : Mem) => (if x8 ≠ 1 then dP M7 11 0 (some 2179) (fun (q9 : Option Nat) => aI M7 100 q9 0 (fun (x10 : Int32) => rc M7 11 (some 2179) (cl (m_X11_vouchered M7 (some 2179) (nI t) x10 a) (fun (x12 : Int32) (M11 : Mem) => rt x12 M11)))) else rt ((-4)) M7))) else rt ((-1)) M5)) := by
      intro M1 hL1 hi
      unfold m_X11_step
      have e : m_X11_stepsOf M1 (some 2179) (nI t) = some (nI (stepsS K gv 0 0), M1) := steps_r hL1 (by omega) (hRT.of hi) hK hg4 gv 0 0 FU (by omega) (by show gv < 1000000; omega)
      rw [rc_at (S1 _ hL1), isInside_keep h ht hL1 ((hi _).trans hP.2.2.2.2.1.2.2.1) ((hi _).trans hRf.2.2.2.2.2.1), cl_some, if_neg (by decide), rc_at (S1 _ hL1), e, cl_some]
    by_cases ha : (0 : Int32) ≤ a ∧ a ≤ nI (stepsS K gv 0 0)
    · obtain ⟨s, rfl, -, hs⟩ := nat_of (a := 0) (b := stepsS K gv 0 0) (by omega) ha (by omega)
      rw [within_y ha, cl_some, if_pos (by decide), dI_at (by rw [hS])] at hA1
      have hA2 : m_X10_step M (some 0) (nI t) (nI s) = if mI M 264 (aTi (pk 0) t) = 0 then dP M 10 0 (some 0) (fun (q10 : Option Nat) => dP M 10 0 (some 0) (fun (q11 : Option Nat) => dI M 1 7 q11 (fun (x12 : Int32) => rc M 1 q10 (cl (m_X1_amountAfter M q10 (some (aTi (pk 0) t)) x12 (nI s)) (fun (x14 : Int32) (M13 : Mem) => rt x14 M13))))) else rt ((-4)) M := hA1
      rw [hCf.2.2.2.2.2.2.1] at hA2
      by_cases hlo : lo = 0
      · subst hlo
        obtain ⟨M1, e1, g1⟩ := after_c (at' := m) (p3 := s) hL (show t < 512 by omega) hCT hK hg4 (by omega) hC hπ (by have := hb.2.1; omega) m1 (by omega) (by omega)
        have hk := Keep.gr hL g1
        have hI : ∀ k, mI M1 k 2180 = mI M k 2180 := fun k => (hk.2.2.2 2180 (by omega)).2.1 k (by omega)
        have hL1 := hk.Lay hL
        obtain ⟨M2, e2, g2⟩ := vouchered_r (at' := m) (p3 := s) hL1 (show t < 512 by omega) (hRT.of hI) hK hg4 (show pl < 4 by omega) (hR.of hI) hπ (by have := hb.2.1; omega) m1 (by omega)
        rw [if_pos (by decide), dPark hL, dPark hL, dI_at (by rw [hpk])] at hA2
        have hA3 : m_X10_step M (some 0) (nI t) (nI s) = rc M 1 (some (pk 0)) (cl (m_X1_amountAfter M (some (pk 0)) (some (aTi (pk 0) t)) (mI M 39 (pk 0)) (nI s)) (fun (x14 : Int32) (M13 : Mem) => rt x14 M13)) := hA2
        rw [m2, rc_at (by rw [hpk]), e1] at hA3
        refine Op.same h hc hA3 (hk.mono (by omega)) ?_ g2
        show m_X11_step M1 _ _ _ = _
        rw [hB1 M1 hL1 hI, in_y ha, cl_some, if_pos (by decide), rc_at (S1 _ hL1), show m_X11_item M1 (some 2179) (nI t) 6 = _ from item_r hL1 (show t < 512 by omega) (j := 6) (by omega), cl_some, hI, hRf.2.2.2.2.2.2.1, if_pos (by decide), dS hL1]
        show aI M1 100 (some 2180) (nI 0) _ = _
        rw [s_at hL1 (by omega)]
        show rc M1 11 _ (cl (m_X11_vouchered M1 _ _ (mI M1 1000 2180) _) _) = _
        rw [hI, m3, rc_at (S1 _ hL1), e2]; rfl
      · have hl1 : lo = 1 := by have := hb.2.2.2.2.2.2.1; omega
        subst hl1
        rw [if_neg (by decide)] at hA2
        refine no hA2 ?_
        show m_X11_step M _ _ _ = _
        rw [hB1 M hL (fun _ => rfl), in_y ha, cl_some, if_pos (by decide), rc_at (S1 _ hL), show m_X11_item M (some 2179) (nI t) 6 = _ from item_r hL (show t < 512 by omega) (j := 6) (by omega), cl_some, hRf.2.2.2.2.2.2.1, if_neg (by decide)]; rfl
    · rw [within_n ha, cl_some, if_neg (by decide)] at hA1
      refine no hA1 ?_
      show m_X11_step M _ _ _ = _
      rw [hB1 M hL (fun _ => rfl), in_n ha, cl_some, if_neg (by decide)]; rfl
theorem give_op {cnt n vc m : Nat} {M : Mem} (h : Inv cnt n vc m M) (hc : cnt < 512) (p a b : Int32) : Op cnt M (fun M => m_X10_give M (some 0) p a b) (fun M => m_X11_give M (some 2179) p a b) := by
  have hL := h.1
  have hP := h.2.2.2.1
  have hpk : mS M (pk 0) = (1, 0) := S_park hL (by omega)
  have hpp : pk 0 = 1 := rfl
  have hn := h.n512
  obtain ⟨v1, v2, v3, v4⟩ := hP.2.1
  obtain ⟨r, r1, r2, r3⟩ := inFolder_cr hL hP.2.2.1 v1 a b
  have no : ∀ {r : Int32} {g : Mem → Option (Int32 × Mem)}, m_X10_give M (some 0) p a b = some (r, M) → g M = some (r, M) → Op cnt M (fun M => m_X10_give M (some 0) p a b) g := fun h9 h8 => Op.same h hc h9 (Keep.rfl'.mono (by omega)) h8 Sc.rfl'
  have hq : ∃ q, m_X1_voucherAt M (some (pk 0)) r = some (q, M) ∧ ((r = -1 ∧ q = none) ∨ ∃ v, v < vc ∧ r = nI v ∧ q = some (aVo (pk 0) v)) := by
    rcases r3 with e | ⟨v, e1, e2⟩
    · refine ⟨none, voucherAt_n hL v1 v2 (fun ⟨j, j1, j2⟩ => ?_), Or.inl ⟨e, rfl⟩⟩
      rw [e] at j2
      have h5 := congrArg Int32.toInt j2
      rw [tI _ (by omega)] at h5
      have e5 : ((-1 : Int32)).toInt = -1 := by decide
      omega
    · exact ⟨some (aVo (pk 0) v), by rw [e2]; exact voucherAt_y hL v1 v2 e1, Or.inr ⟨v, e1, e2, rfl⟩⟩
  obtain ⟨q, q1, q2⟩ := hq
  rcases inside_cr h p with ⟨hA, hB⟩ | ⟨t, pl, en, lv, pd, gv, lo, la, Vn, K, A, ht, rfl, hA, hB, hT⟩
  · refine no (r := -1) ?_ ?_
    · unfold m_X10_give
      rw [dPark hL, rc_at (by rw [hpk]), hA, cl_some, dPark hL, rc_at (by rw [hpk]), r1, cl_some, dPark hL, rc_at (by rw [hpk]), q1, cl_some, if_pos rfl]; rfl
    · show m_X11_give M _ _ _ _ = _
      unfold m_X11_give
      rw [rc_at (S1 _ hL), hB, cl_some, if_pos rfl]; rfl
  · have hS := S_aTi hL (q := 0) (by omega) (show t < 512 by omega)
    have ea : aTi (pk 0) t = 59 + 2 * t := by unfold aTi pk; omega
    have eb : aTv (pk 0) t = 60 + 2 * t := by unfold aTv pk; omega
    obtain ⟨hb, hCf, hRf, hCT, hRT, hK, hVn⟩ := id hT
    obtain ⟨a1, a2, a3, a4, a5, a6, a7, a8⟩ := hCf
    obtain ⟨b1, b2, b3, b4, b5, b6, b7, b8⟩ := hRf
    have hg4 := hb.2.2.2.2.1
    rcases q2 with ⟨e, e2⟩ | ⟨v, hv, e, e2⟩
    · subst e; subst e2
      refine no (r := -1) ?_ ?_
      · unfold m_X10_give
        rw [dPark hL, rc_at (by rw [hpk]), hA, cl_some, dPark hL, rc_at (by rw [hpk]), r1, cl_some, dPark hL, rc_at (by rw [hpk]), q1, cl_some, if_neg (by simp), if_neg (by simp)]; rfl
      · show m_X11_give M _ _ _ _ = _
        unfold m_X11_give
        rw [rc_at (S1 _ hL), hB, cl_some, if_neg (by decide), rc_at (S1 _ hL), r2, cl_some, if_neg (by decide)]; rfl
    · subst e; subst e2
      have hv1 : nI v ≠ -1 := fun h9 => by
        have h5 := congrArg Int32.toInt h9
        rw [tI _ (by omega)] at h5
        have e5 : ((-1 : Int32)).toInt = -1 := by decide
        omega
      have hSv := S_aVo hL (q := 0) (by omega) (show v < 10 by omega)
      have ec : aVo (pk 0) v = 39 + v := by unfold aVo pk; omega
      have hA1 : m_X10_give M (some 0) (nI t) a b = (if nI lo = 0 then rc M 8 (some (aTi (pk 0) t)) (cl (m_X8_hasRoomForVoucher M (some (aTi (pk 0) t))) (fun (x12 : Int32) (M11 : Mem) => (if x12 ≠ 0 then rc M11 8 (some (aTi (pk 0) t)) (cl (m_X8_addVoucherNumber M11 (some (aTi (pk 0) t)) (nI v)) (fun (_u : Unit) (M13 : Mem) => dI M13 9 2 (some (aVo (pk 0) v)) (fun (x14 : Int32) => pI M13 9 2 (some (aVo (pk 0) v)) ((x14 + 1)) (fun (M15 : Mem) => dI M15 8 1 (some (aTi (pk 0) t)) (fun (x16 : Int32) => rt x16 M15))))) else rt ((-3)) M11))) else rt ((-4)) M) := by
        unfold m_X10_give
        rw [dPark hL, rc_at (by rw [hpk]), hA, cl_some, dPark hL, rc_at (by rw [hpk]), r1, cl_some, dPark hL, rc_at (by rw [hpk]), q1, cl_some, if_neg (by simp), if_pos (by simp), dI_at (by rw [hS])]
        show (if mI M 264 (aTi (pk 0) t) = 0 then _ else _) = _
        rw [a7]
      by_cases hlo : lo = 0
      · subst hlo
        have hroom : m_X8_hasRoomForVoucher M (some (aTi (pk 0) t)) = some (if gv = 4 then 0 else 1, M) := by
          unfold m_X8_hasRoomForVoucher
          rw [dI_at (by rw [hS])]
          show (if 4 ≤ mI M 257 (aTi (pk 0) t) then _ else _) = _
          have e4 : (4 : Int32) = nI 4 := rfl
          rw [a5, e4]
          by_cases h4 : gv = 4
          · rw [if_pos (le_n (by omega) (by omega)), if_pos h4]; rfl
          · rw [if_neg (fun h9 => h4 (by have := (i_le (by omega) (by omega)).mp h9; omega)), if_neg h4]; rfl
        rw [if_pos (by decide), rc_at (by rw [hS]), hroom, cl_some] at hA1
        by_cases h4 : gv = 4
        · rw [if_pos h4, if_neg (by decide)] at hA1
          refine no hA1 ?_
          show m_X11_give M _ _ _ _ = _
          unfold m_X11_give
          rw [rc_at (S1 _ hL), hB, cl_some, if_neg (by decide), rc_at (S1 _ hL), r2, cl_some, if_pos hv1, rc_at (S1 _ hL), show m_X11_item M (some 2179) (nI t) 6 = _ from item_r hL (show t < 512 by omega) (j := 6) (by omega), cl_some, b7, if_pos (by decide), rc_at (S1 _ hL), show m_X11_item M (some 2179) (nI t) 4 = _ from item_r hL (show t < 512 by omega) (j := 4) (by omega), cl_some, b5, h4, if_neg (by decide)]; rfl
        · obtain ⟨k0, am, g, g1, g2, g3, g4, g5, g6, g7, g8, g9⟩ := v4 v hv
          obtain ⟨M1, hM1⟩ : ∃ M1, M1 = uI (uI (uI M (1000 + gv) (aTv (pk 0) t) (nI v)) 257 (aTi (pk 0) t) (nI (gv + 1))) 290 (aVo (pk 0) v) (g + 1) := ⟨_, rfl⟩
          have hL1 : Lay M1 := by rw [hM1]; exact hL
          rw [if_neg h4, if_pos (by decide), rc_at (by rw [hS])] at hA1
          have hadd : m_X8_addVoucherNumber M (some (aTi (pk 0) t)) (nI v) = some ((), uI (uI M (1000 + gv) (aTv (pk 0) t) (nI v)) 257 (aTi (pk 0) t) (nI (gv + 1))) := by
            unfold m_X8_addVoucherNumber
            rw [rc_at (by rw [hS]), hroom, cl_some, if_neg h4, if_neg (by decide), dP_at (by rw [hS])]
            show dI M 8 1 _ (fun x4 => sI M 100 (mP M 256 (aTi (pk 0) t)) x4 _ _) = _
            rw [P_aTi hL (by omega) (by omega), dI_at (by rw [hS])]
            show sI M 100 _ (mI M 257 (aTi (pk 0) t)) _ _ = _
            rw [a5, sI_at (S_aTv hL (by omega) (by omega)) (by omega) (by omega), dI_at (by rw [mS_uI, hS])]
            show pI _ 8 1 _ (mI (uI M (1000 + gv) (aTv (pk 0) t) (nI v)) 257 (aTi (pk 0) t) + 1) _ = _
            rw [mI_ne (by omega), a5, nI_1, pI_at (by rw [mS_uI, hS])]; rfl
          rw [hadd, cl_some, dI_at (by rw [mS_uI, mS_uI, hSv]), pI_at (by rw [mS_uI, mS_uI, hSv])] at hA1
          have e290 : mI (uI (uI M (1000 + gv) (aTv (pk 0) t) (nI v)) 257 (aTi (pk 0) t) (nI (gv + 1))) (32 * 9 + 2) (aVo (pk 0) v) = g := by
            rw [mI_ne (by omega), mI_ne (by omega)]; exact g6
          rw [e290] at hA1
          have hA2 : m_X10_give M (some 0) (nI t) a b = dI M1 8 1 (some (aTi (pk 0) t)) (fun (x16 : Int32) => rt x16 M1) := by rw [hM1]; exact hA1
          have e257 : mI M1 257 (aTi (pk 0) t) = nI (gv + 1) := by rw [hM1, mI_ne (by omega), mI_eq]
          have hS1 : mS M1 (aTi (pk 0) t) = (8, 0) := by rw [hM1]; exact hS
          have hA3 : m_X10_give M (some 0) (nI t) a b = some (nI (gv + 1), M1) := by
            rw [hA2, dI_at (by rw [hS1])]
            show rt (mI M1 257 (aTi (pk 0) t)) M1 = _
            rw [e257]; rfl
          have i2 : ∀ k, mI M1 k 2180 = mI M k 2180 := fun k => by rw [hM1, mI_ne (by omega), mI_ne (by omega), mI_ne (by omega)]
          obtain ⟨X, hX⟩ : ∃ X, X = uI (uI (uI M1 (1000 + (169 + 12 * t + (8 + gv))) 2180 (nI v)) (1000 + (169 + 12 * t + 4)) 2180 (nI (gv + 1))) (1000 + (102 + 3 * v + 2)) 2180 (g + 1) := ⟨_, rfl⟩
          have r21 : m_X11_inFolder M1 (some 2179) a b = some (nI v, M1) := by
            obtain ⟨r', z1, z2, z3⟩ := inFolder_cr (vc := vc) hL1 (hP.2.2.1.of (Nat.le_refl _) (fun k a h8 h9 => by rw [hM1, mI_ne (by omega), mI_ne (by omega), mI_ne (by omega)]) (fun k _ _ => i2 _)) v1 a b
            have : m_X11_inFolder M (some 2179) a b = some (r', M) := by
              obtain ⟨r'', y1, y2, -⟩ := inFolder_cr hL hP.2.2.1 v1 a b
              rw [y2]
              refine congrArg (fun z => some (z, M)) ?_
              -- both read the same cells
              unfold m_X11_inFolder at y2 z2
              rw [rc_at (S1 _ hL)] at y2
              rw [rc_at (S1 _ hL1)] at z2
              by_cases ha : (0 : Int32) ≤ a ∧ a ≤ 2
              · obtain ⟨f, rfl, -, hf⟩ := nat_of (a := 0) (b := 2) (by omega) ha (by omega)
                obtain ⟨zz, h1, h2, h3, h4'⟩ := hP.2.2.1 f (by omega)
                have e1 : (132 : Int32) = nI 132 := rfl
                have e2 : (7 : Int32) = nI 7 := rfl
                rcases ix_in M b (n := zz) (by omega) with ⟨j, c1, rfl, c2⟩ | ⟨c1, c2⟩
                · rcases ix_in M1 (nI j) (n := zz) (by omega) with ⟨j', d1, d2, d3⟩ | ⟨d1, -⟩
                  · rw [isPlace_f hL (by omega) h3 (Or.inr rfl) c2, cl_some, if_neg (by decide), dS hL, e1, e2, pk_mul, nI_add, show nI (132 + 7 * f) + 2 = nI (132 + 7 * f + 2) from nI_add _ 2, nI_add, s_at hL (by omega)] at y2
                    rw [isPlace_f hL1 (by omega) ((i2 _).trans h3) (Or.inr rfl) d3, cl_some, if_neg (by decide), dS hL1, e1, e2, pk_mul, nI_add, show nI (132 + 7 * f) + 2 = nI (132 + 7 * f + 2) from nI_add _ 2, nI_add, s_at hL1 (by omega), i2] at z2
                    have y3 := Option.some.inj y2
                    have z3 := Option.some.inj z2
                    exact ((congrArg Prod.fst y3).symm).trans (congrArg Prod.fst z3)
                  · exact absurd ⟨j, c1, rfl⟩ d1
                · rcases ix_in M1 b (n := zz) (by omega) with ⟨j', d1, d2, d3⟩ | ⟨-, d1⟩
                  · exact absurd ⟨j', d1, d2⟩ c1
                  · rw [isPlace_f hL (by omega) h3 (Or.inl rfl) c2, cl_some, if_pos rfl] at y2
                    rw [isPlace_f hL1 (by omega) ((i2 _).trans h3) (Or.inl rfl) d1, cl_some, if_pos rfl] at z2
                    have y3 := Option.some.inj y2
                    have z3 := Option.some.inj z2
                    exact ((congrArg Prod.fst y3).symm).trans (congrArg Prod.fst z3)
              · rw [isPlace_n ha, cl_some, if_pos rfl] at y2 z2
                have y3 := Option.some.inj y2
                have z3 := Option.some.inj z2
                exact ((congrArg Prod.fst y3).symm).trans (congrArg Prod.fst z3)
            rw [r2] at this
            have h9 : nI v = r' := congrArg Prod.fst (Option.some.inj this)
            rw [z2, ← h9]
          have hBB : m_X11_give M1 (some 2179) (nI t) a b = some (nI (gv + 1), X) := by
            have e8 : (8 : Int32) = nI 8 := rfl
            have e4 : (4 : Int32) = nI 4 := rfl
            have e1 : (102 : Int32) = nI 102 := rfl
            have e2 : (3 : Int32) = nI 3 := rfl
            have hne : nI gv ≠ nI 4 := fun h9 => h4 ((i_eq (by omega) (by omega)).mp h9)
            unfold m_X11_give
            rw [rc_at (S1 _ hL1), isInside_keep h ht hL1 ((i2 _).trans hP.2.2.2.2.1.2.2.1) ((i2 _).trans b6), cl_some, if_neg (by decide), rc_at (S1 _ hL1), r21, cl_some, if_pos hv1, rc_at (S1 _ hL1), show m_X11_item M1 (some 2179) (nI t) 6 = _ from item_r hL1 (show t < 512 by omega) (j := 6) (by omega), cl_some, i2, b7, if_pos (by decide), rc_at (S1 _ hL1), e4, item_r hL1 (show t < 512 by omega) (by omega), cl_some, i2, b5, if_pos hne, rc_at (S1 _ hL1), r21, cl_some, rc_at (S1 _ hL1), e8, nI_add, set_r hL1 (by omega) (by omega), cl_some, rc_at (S1 _ (hL1.uI _ _ _)), nI_1, set_r (hL1.uI _ _ _) (by omega) (by omega), cl_some, dS ((hL1.uI _ _ _).uI _ _ _), e1, e2, pk_mul, nI_add, show nI (102 + 3 * v) + 2 = nI (102 + 3 * v + 2) from nI_add _ 2, s_at ((hL1.uI _ _ _).uI _ _ _) (by omega), mI_ne (by omega), mI_ne (by omega), i2, g9, s_set ((hL1.uI _ _ _).uI _ _ _) (by omega), ← hX]; rfl
          have f3 : X.2 = M.2 := by rw [hX, hM1]; rfl
          have f2 : ∀ k a, ¬ (a = aTi (pk 0) t ∧ k = 257) → ¬ (a = aTv (pk 0) t ∧ k = 1000 + gv) → ¬ (a = aVo (pk 0) v ∧ k = 290) → ¬ (a = 2180 ∧ (k = 1000 + (169 + 12 * t + (8 + gv)) ∨ k = 1000 + (169 + 12 * t + 4) ∨ k = 1000 + (102 + 3 * v + 2))) → mI X k a = mI M k a := by
            intro k a h5 h6 h7 h8
            rw [hX, mI_ne (by omega), mI_ne (by omega), mI_ne (by omega), hM1, mI_ne (by omega), mI_ne (by omega), mI_ne (by omega)]
          refine ⟨_, M1, X, hA3, S1 _ hL1, hBB, n, vc, m, h.of1 hc f3 (fun k a h1 h2 h3 h4 => f2 k a (by omega) (by omega) (by omega) (by omega)) (hP.tick (by omega) ht f3 (fun k a h9 => f2 k a (by omega) (by omega) (by omega) (by omega)) ?_ (hP.2.2.2.1.of (by omega) (fun k' a' h8 h9 => f2 k' a' (by omega) (by omega) (by omega) (by omega)) (fun a _ _ => eF f3 _ a) (fun k' h8 h9 => f2 _ _ (by omega) (by omega) (by omega) (by omega)) (fun k => eF f3 k _)) ?_ (hP.2.2.2.2.2.2.of2 (fun k' h8 h9 => f2 _ _ (by omega) (by omega) (by omega) (by omega)) (fun s hs j hj => f2 _ _ (by omega) (by omega) (by omega) (by omega)) (fun l h8 => f2 _ _ (by omega) (by omega) (by omega) (by omega))))⟩
          · refine ⟨v1, (f2 _ _ (by omega) (by omega) (by omega) (by omega)).trans v2, (f2 _ _ (by omega) (by omega) (by omega) (by omega)).trans v3, fun w hw => ?_⟩
            have ew : aVo (pk 0) w = 39 + w := by unfold aVo pk; omega
            by_cases hwv : w = v
            · rw [hwv]
              refine ⟨k0, am, g + 1, g1, g2, g3, (f2 _ _ (by omega) (by omega) (by omega) (by omega)).trans g4, (f2 _ _ (by omega) (by omega) (by omega) (by omega)).trans g5, ?_, (f2 _ _ (by omega) (by omega) (by omega) (by omega)).trans g7, (f2 _ _ (by omega) (by omega) (by omega) (by omega)).trans g8, ?_⟩
              · rw [hX, mI_ne (by omega), mI_ne (by omega), mI_ne (by omega), hM1, mI_eq]
              · rw [hX, mI_eq]
            · obtain ⟨k', a', g', d1, d2, d3, d4, d5, d6, d7, d8, d9⟩ := v4 w hw
              exact ⟨k', a', g', d1, d2, d3, (f2 _ _ (by omega) (by omega) (by omega) (by omega)).trans d4, (f2 _ _ (by omega) (by omega) (by omega) (by omega)).trans d5, (f2 _ _ (by omega) (by omega) (by omega) (by omega)).trans d6, (f2 _ _ (by omega) (by omega) (by omega) (by omega)).trans d7, (f2 _ _ (by omega) (by omega) (by omega) (by omega)).trans d8, (f2 _ _ (by omega) (by omega) (by omega) (by omega)).trans d9⟩
          · refine ⟨pl, en, lv, pd, gv + 1, 0, 0, la, ⟨hb.1, hb.2.1, hb.2.2.1, hb.2.2.2.1, by omega, by omega, by omega, hb.2.2.2.2.2.2.2⟩, ⟨(f2 _ _ (by omega) (by omega) (by omega) (by omega)).trans a1, (f2 _ _ (by omega) (by omega) (by omega) (by omega)).trans a2, (f2 _ _ (by omega) (by omega) (by omega) (by omega)).trans a3, (f2 _ _ (by omega) (by omega) (by omega) (by omega)).trans a4, ?_, (f2 _ _ (by omega) (by omega) (by omega) (by omega)).trans a6, (f2 _ _ (by omega) (by omega) (by omega) (by omega)).trans a7, (f2 _ _ (by omega) (by omega) (by omega) (by omega)).trans a8⟩,
              ⟨(f2 _ _ (by omega) (by omega) (by omega) (by omega)).trans b1, (f2 _ _ (by omega) (by omega) (by omega) (by omega)).trans b2, (f2 _ _ (by omega) (by omega) (by omega) (by omega)).trans b3, (f2 _ _ (by omega) (by omega) (by omega) (by omega)).trans b4, ?_, (f2 _ _ (by omega) (by omega) (by omega) (by omega)).trans b6, (f2 _ _ (by omega) (by omega) (by omega) (by omega)).trans b7, (f2 _ _ (by omega) (by omega) (by omega) (by omega)).trans b8⟩, fun j hj => ?_⟩
            · rw [hX, mI_ne (by omega), mI_ne (by omega), mI_ne (by omega)]; exact e257
            · rw [hX, mI_ne (by omega), mI_eq]
            · by_cases hjg : j = gv
              · refine ⟨v, hv, ?_, ?_⟩
                · rw [hjg, hX, mI_ne (by omega), mI_ne (by omega), mI_ne (by omega), hM1, mI_ne (by omega), mI_ne (by omega), mI_eq]
                · rw [hjg, show 1000 + (169 + 12 * t + 8 + gv) = 1000 + (169 + 12 * t + (8 + gv)) by omega, hX, mI_ne (by omega), mI_ne (by omega), mI_eq]
              · obtain ⟨-, vc', w1, w2, w3⟩ := id hCT
                obtain ⟨z1, z2, z3, z4⟩ := w3 j (by omega)
                obtain ⟨y1, y2, y3, y4⟩ := hRT.2 j (by omega)
                exact ⟨Vn j, hVn j (by omega), (f2 _ _ (by omega) (by omega) (by omega) (by omega)).trans z2, (f2 _ _ (by omega) (by omega) (by omega) (by omega)).trans y2⟩
      · have hl1 : lo = 1 := by have := hb.2.2.2.2.2.2.1; omega
        subst hl1
        rw [if_neg (by decide)] at hA1
        refine no hA1 ?_
        show m_X11_give M _ _ _ _ = _
        unfold m_X11_give
        rw [rc_at (S1 _ hL), hB, cl_some, if_neg (by decide), rc_at (S1 _ hL), r2, cl_some, if_pos hv1, rc_at (S1 _ hL), show m_X11_item M (some 2179) (nI t) 6 = _ from item_r hL (show t < 512 by omega) (j := 6) (by omega), cl_some, b7, if_neg (by decide)]; rfl
