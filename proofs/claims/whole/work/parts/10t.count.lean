/-! ===== the calls count, setCapacity, reportCode, reportNumber ===== -/
theorem ticketCell {M : Mem} (h : Lay M) {t : Nat} (ht : t < 512) {K : Option Nat → Option (Int32 × Mem)} : dP M 1 4 (some (pk 0)) (fun q => aP M 118 q (nI t) K) = K (some (aTi (pk 0) t)) := by
  rw [dP_at (by rw [S_park h (by omega)])]
  show aP M 118 (mP M 36 (pk 0)) (nI t) K = _
  rw [P_tickets h (by omega), aP_at (S_tickets h (by omega)) (by omega) (by omega), P_ticket h (by omega) ht]
theorem carsLeft_c {M : Mem} (h : Lay M) {n : Nat} {f : Nat → Int32} (hn : n ≤ 512) (e38 : mI M 38 (pk 0) = nI n) (hf : ∀ t, t < n → mI M 263 (aTi (pk 0) t) = f t ∧ (f t = nI 0 ∨ f t = nI 1)) : ∀ (k i fu : Nat), i + k = n → k < fu → lp (b_X1_carsLeft_4 (some (pk 0))) fu (si f i, nI i, M) = some (si f n, M) := by
  have e5 : (512 : Int32) = nI 512 := rfl
  intro k
  induction k with
  | zero =>
    intro i fu hi hfu
    obtain ⟨fu, rfl⟩ : ∃ z, fu = z + 1 := ⟨fu - 1, by omega⟩
    have hin : i = n := by omega
    rw [lp_succ, b_X1_carsLeft_4, e5]
    dsimp only
    by_cases h5 : 512 ≤ i
    · rw [if_pos (le_n (by omega) h5), hin]; rfl
    · rw [if_neg (fun h9 => h5 ((i_le (by omega) (by omega)).mp h9)), dI_at (by rw [S_park h (by omega)])]
      show (if mI M 38 (pk 0) ≤ nI i then _ else _) = _
      rw [e38, if_pos (le_n (by omega) (by omega)), hin]; rfl
  | succ k ih =>
    intro i fu hi hfu
    obtain ⟨fu, rfl⟩ : ∃ z, fu = z + 1 := ⟨fu - 1, by omega⟩
    obtain ⟨f1, f2⟩ := hf i (by omega)
    rw [lp_succ, b_X1_carsLeft_4, e5]
    dsimp only
    rw [if_neg (fun h9 => absurd ((i_le (by omega) (by omega)).mp h9) (by omega)), dI_at (by rw [S_park h (by omega)])]
    show (if mI M 38 (pk 0) ≤ nI i then _ else _) = _
    rw [e38, if_neg (fun h9 => absurd ((i_le (by omega) (by omega)).mp h9) (by omega)), ticketCell h (by omega), dI_at (by rw [S_aTi h (by omega) (by omega)])]
    unfold jn
    dsimp only
    show (if mI M 263 (aTi (pk 0) i) = 0 then _ else _) = _
    have hs : si f (i + 1) = si f i + f i := rfl
    rw [f1, nI_1]
    rcases f2 with e | e
    · rw [if_pos (show f i = 0 from e), show si f i + 0 = si f (i + 1) by rw [hs, e]; rfl]
      exact ih (i + 1) fu (by omega) (by omega)
    · rw [if_neg (show ¬ f i = 0 by rw [e]; decide), show si f i + 1 = si f (i + 1) by rw [hs, e]; rfl]
      exact ih (i + 1) fu (by omega) (by omega)
theorem lostTickets_c {M : Mem} (h : Lay M) {n : Nat} {f : Nat → Int32} (hn : n ≤ 512) (e38 : mI M 38 (pk 0) = nI n) (hf : ∀ t, t < n → mI M 264 (aTi (pk 0) t) = f t ∧ (f t = nI 0 ∨ f t = nI 1)) : ∀ (k i fu : Nat), i + k = n → k < fu → lp (b_X1_lostTickets_4 (some (pk 0))) fu (si f i, nI i, M) = some (si f n, M) := by
  have e5 : (512 : Int32) = nI 512 := rfl
  intro k
  induction k with
  | zero =>
    intro i fu hi hfu
    obtain ⟨fu, rfl⟩ : ∃ z, fu = z + 1 := ⟨fu - 1, by omega⟩
    have hin : i = n := by omega
    rw [lp_succ, b_X1_lostTickets_4, e5]
    dsimp only
    by_cases h5 : 512 ≤ i
    · rw [if_pos (le_n (by omega) h5), hin]; rfl
    · rw [if_neg (fun h9 => h5 ((i_le (by omega) (by omega)).mp h9)), dI_at (by rw [S_park h (by omega)])]
      show (if mI M 38 (pk 0) ≤ nI i then _ else _) = _
      rw [e38, if_pos (le_n (by omega) (by omega)), hin]; rfl
  | succ k ih =>
    intro i fu hi hfu
    obtain ⟨fu, rfl⟩ : ∃ z, fu = z + 1 := ⟨fu - 1, by omega⟩
    obtain ⟨f1, f2⟩ := hf i (by omega)
    rw [lp_succ, b_X1_lostTickets_4, e5]
    dsimp only
    rw [if_neg (fun h9 => absurd ((i_le (by omega) (by omega)).mp h9) (by omega)), dI_at (by rw [S_park h (by omega)])]
    show (if mI M 38 (pk 0) ≤ nI i then _ else _) = _
    rw [e38, if_neg (fun h9 => absurd ((i_le (by omega) (by omega)).mp h9) (by omega)), ticketCell h (by omega), dI_at (by rw [S_aTi h (by omega) (by omega)])]
    unfold jn
    dsimp only
    show (if mI M 264 (aTi (pk 0) i) = 0 then _ else _) = _
    have hs : si f (i + 1) = si f i + f i := rfl
    rw [f1, nI_1]
    rcases f2 with e | e
    · rw [if_pos (show f i = 0 from e), show si f i + 0 = si f (i + 1) by rw [hs, e]; rfl]
      exact ih (i + 1) fu (by omega) (by omega)
    · rw [if_neg (show ¬ f i = 0 by rw [e]; decide), show si f i + 1 = si f (i + 1) by rw [hs, e]; rfl]
      exact ih (i + 1) fu (by omega) (by omega)
theorem paidByPlan_c {M : Mem} (h : Lay M) {n p : Nat} (hn : n ≤ 512) (e38 : mI M 38 (pk 0) = nI n) (hf : ∀ t, t < n → mI M 258 (aTi (pk 0) t) = mI M (1000 + (169 + 12 * t)) 2180 ∧ mI M 261 (aTi (pk 0) t) = mI M (1000 + (169 + 12 * t + 3)) 2180) : ∀ (k i fu : Nat), i + k = n → k < fu → lp (b_X1_paidByPlan_4 (some (pk 0)) (nI p)) fu (si (paidT M 2180 p) i, nI i, M) = some (si (paidT M 2180 p) n, M) := by
  have e5 : (512 : Int32) = nI 512 := rfl
  intro k
  induction k with
  | zero =>
    intro i fu hi hfu
    obtain ⟨fu, rfl⟩ : ∃ z, fu = z + 1 := ⟨fu - 1, by omega⟩
    have hin : i = n := by omega
    rw [lp_succ, b_X1_paidByPlan_4, e5]
    dsimp only
    by_cases h5 : 512 ≤ i
    · rw [if_pos (le_n (by omega) h5), hin]; rfl
    · rw [if_neg (fun h9 => h5 ((i_le (by omega) (by omega)).mp h9)), dI_at (by rw [S_park h (by omega)])]
      show (if mI M 38 (pk 0) ≤ nI i then _ else _) = _
      rw [e38, if_pos (le_n (by omega) (by omega)), hin]; rfl
  | succ k ih =>
    intro i fu hi hfu
    obtain ⟨fu, rfl⟩ : ∃ z, fu = z + 1 := ⟨fu - 1, by omega⟩
    obtain ⟨f1, f2⟩ := hf i (by omega)
    rw [lp_succ, b_X1_paidByPlan_4, e5]
    dsimp only
    rw [if_neg (fun h9 => absurd ((i_le (by omega) (by omega)).mp h9) (by omega)), dI_at (by rw [S_park h (by omega)])]
    show (if mI M 38 (pk 0) ≤ nI i then _ else _) = _
    rw [e38, if_neg (fun h9 => absurd ((i_le (by omega) (by omega)).mp h9) (by omega)), ticketCell h (by omega), dI_at (by rw [S_aTi h (by omega) (by omega)])]
    unfold jn
    dsimp only
    show (if mI M 258 (aTi (pk 0) i) ≠ nI p then _ else _) = _
    have hs : si (paidT M 2180 p) (i + 1) = si (paidT M 2180 p) i + paidT M 2180 p i := rfl
    rw [f1, nI_1]
    by_cases hp : mI M (1000 + (169 + 12 * i)) 2180 = nI p
    · have hx : paidT M 2180 p i = mI M (1000 + (169 + 12 * i + 3)) 2180 := by unfold paidT; rw [if_pos hp]
      rw [if_neg (fun h9 => h9 hp), ticketCell h (by omega), dI_at (by rw [S_aTi h (by omega) (by omega)])]
      show lp _ fu (si (paidT M 2180 p) i + mI M 261 (aTi (pk 0) i), _, M) = _
      rw [f2, ← hx, ← hs]
      exact ih (i + 1) fu (by omega) (by omega)
    · have hx : paidT M 2180 p i = 0 := by unfold paidT; rw [if_neg hp]
      rw [if_pos hp, ← hx, ← hs]
      exact ih (i + 1) fu (by omega) (by omega)
theorem sI_item {M : Mem} (hL : Lay M) {j : Nat} (hj : j < 6889) {x : Int32} (hx : mI M (1000 + j) 2180 = x) : dP M 11 0 (some 2179) (fun (q7 : Option Nat) => aI M 100 q7 (nI j) (fun (x8 : Int32) => rt x8 M)) = some (x, M) := by
  rw [dS hL, s_at hL hj, hx]; rfl
theorem count_op {cnt n vc m : Nat} {M : Mem} (h : Inv cnt n vc m M) (hc : cnt < 512) (p : Int32) : Op cnt M (fun M => m_X10_count M (some 0) p) (fun M => m_X11_count M (some 2179) p) := by
  have hL := h.1
  have hP := h.2.2.2.1
  have hn := h.n512
  have hpk : mS M (pk 0) = (1, 0) := S_park hL (by omega)
  obtain ⟨t1, t2, t3, t4⟩ := hP.2.2.2.2.1
  obtain ⟨m1, m2, m3⟩ := hP.imi
  obtain ⟨v1, v2, v3, -⟩ := hP.2.1
  obtain ⟨⟨lf, s1, s2, s3, s4, s5, s6, s7⟩, -⟩ := hP.2.2.2.2.2.2
  obtain ⟨L, l1, l2, l3, -⟩ := h.2.2.2.2.2.1
  have no : ∀ {r : Int32} {g : Mem → Option (Int32 × Mem)}, m_X10_count M (some 0) p = some (r, M) → g M = some (r, M) → Op cnt M (fun M => m_X10_count M (some 0) p) g := fun h9 h8 => Op.same h hc h9 (Keep.rfl'.mono (by omega)) h8 Sc.rfl'
  have cl0 : m_X1_carsLeft M (some (pk 0)) = some (nI lf, M) := by
    rw [← s4]
    exact carsLeft_c hL (f := fun t => mI M (1000 + (169 + 12 * t + 5)) 2180) (by omega) t2 (fun t ht => by
      obtain ⟨pl, en, lv, pd, gv, go, lo, la, hb, hCf, hRf, -⟩ := t4 t ht
      refine ⟨hCf.2.2.2.2.2.1.trans hRf.2.2.2.2.2.1.symm, ?_⟩
      show mI M (1000 + (169 + 12 * t + 5)) 2180 = nI 0 ∨ mI M (1000 + (169 + 12 * t + 5)) 2180 = nI 1
      rw [hRf.2.2.2.2.2.1]
      rcases (show go = 0 ∨ go = 1 by have := hb.2.2.2.2.2.1; omega) with rfl | rfl
      · exact Or.inl rfl
      · exact Or.inr rfl) n 0 FU (by omega) (by show n < 1000000; omega)
  have lo0 : m_X1_lostTickets M (some (pk 0)) = some (mI M 1008 2180, M) := by
    rw [s5]
    exact lostTickets_c hL (f := fun t => mI M (1000 + (169 + 12 * t + 6)) 2180) (by omega) t2 (fun t ht => by
      obtain ⟨pl, en, lv, pd, gv, go, lo, la, hb, hCf, hRf, -⟩ := t4 t ht
      refine ⟨hCf.2.2.2.2.2.2.1.trans hRf.2.2.2.2.2.2.1.symm, ?_⟩
      show mI M (1000 + (169 + 12 * t + 6)) 2180 = nI 0 ∨ mI M (1000 + (169 + 12 * t + 6)) 2180 = nI 1
      rw [hRf.2.2.2.2.2.2.1]
      rcases (show lo = 0 ∨ lo = 1 by have := hb.2.2.2.2.2.2.1; omega) with rfl | rfl
      · exact Or.inl rfl
      · exact Or.inr rfl) n 0 FU (by omega) (by show n < 1000000; omega)
  have pb : ∀ k, k < 4 → m_X1_paidByPlan M (some (pk 0)) (nI k) = some (mI M (1000 + (4 + k)) 2180, M) := by
    intro k hk
    rw [s6 k hk]
    exact paidByPlan_c hL (by omega) t2 (fun t ht => by
      obtain ⟨pl, en, lv, pd, gv, go, lo, la, hb, hCf, hRf, -⟩ := t4 t ht
      exact ⟨hCf.1.trans hRf.1.symm, hCf.2.2.2.1.trans hRf.2.2.2.1.symm⟩) n 0 FU (by omega) (by show n < 1000000; omega)
  have pa : m_X1_paidAltogether M (some (pk 0)) = some (mI M 1003 2180, M) := by
    unfold m_X1_paidAltogether
    have e4 : (4 : Int32) = nI 4 := rfl
    have step : ∀ (i fu : Nat) (a : Int32), i < 4 → lp (b_X1_paidAltogether_4 (some (pk 0))) (fu + 1) (a, nI i, M) = lp (b_X1_paidAltogether_4 (some (pk 0))) fu (a + mI M (1000 + (4 + i)) 2180, nI (i + 1), M) := by
      intro i fu a hi
      rw [lp_succ, b_X1_paidAltogether_4]
      dsimp only
      rw [e4, if_neg (fun h9 => absurd ((i_le (by omega) (by omega)).mp h9) (by omega)), rc_at (by rw [hpk]), pb i hi, cl_some, nI_1]
    show lp (b_X1_paidAltogether_4 (some (pk 0))) (999995 + 1 + 1 + 1 + 1 + 1) (0, nI 0, M) = _
    rw [step 0 _ _ (by omega), step 1 _ _ (by omega), step 2 _ _ (by omega), step 3 _ _ (by omega), lp_succ, b_X1_paidAltogether_4]
    dsimp only
    rw [if_pos (by decide), s7]
    show some (0 + mI M 1004 2180 + mI M 1005 2180 + mI M 1006 2180 + mI M 1007 2180, M) = _
    rw [Int32.zero_add]
  by_cases hp : (0 : Int32) ≤ p ∧ p ≤ 11
  · obtain ⟨j, rfl, -, hj⟩ := nat_of (a := 0) (b := 11) (by omega) hp (by omega)
    rcases (show j = 0 ∨ j = 1 ∨ j = 2 ∨ j = 3 ∨ j = 4 ∨ j = 5 ∨ j = 6 ∨ j = 7 ∨ j = 8 ∨ j = 9 ∨ j = 10 ∨ j = 11 by omega) with rfl | rfl | rfl | rfl | rfl | rfl | rfl | rfl | rfl | rfl | rfl | rfl
    · refine no (r := nI m) ?_ ?_
      · unfold m_X10_count
        rw [if_pos (by decide)]
        rw [dPark hL, dI_at (by rw [hpk])]
        exact congrArg (fun z => some (z, M)) m2
      · show m_X11_count M _ _ = _
        unfold m_X11_count jn
        rw [in_y hp, cl_some, if_pos (by decide)]
        dsimp only
        rw [if_pos (by decide)]
        exact sI_item hL (j := 0) (by omega) m3
    · refine no (r := nI n) ?_ ?_
      · unfold m_X10_count
        rw [if_neg (by decide), if_pos (by decide)]
        rw [dPark hL, dI_at (by rw [hpk])]
        exact congrArg (fun z => some (z, M)) t2
      · show m_X11_count M _ _ = _
        unfold m_X11_count jn
        rw [in_y hp, cl_some, if_pos (by decide)]
        dsimp only
        rw [if_neg (by decide), if_pos (by decide)]
        exact sI_item hL (j := 1) (by omega) t3
    · refine no (r := nI lf) ?_ ?_
      · unfold m_X10_count
        rw [if_neg (by decide), if_neg (by decide), if_pos (by decide)]
        rw [dPark hL, rc_at (by rw [hpk]), cl0]
        rfl
      · show m_X11_count M _ _ = _
        unfold m_X11_count jn
        rw [in_y hp, cl_some, if_pos (by decide)]
        dsimp only
        rw [if_neg (by decide), if_neg (by decide), if_pos (by decide)]
        exact sI_item hL (j := 2) (by omega) s3
    · refine no (r := nI (n - lf)) ?_ ?_
      · unfold m_X10_count
        rw [if_neg (by decide), if_neg (by decide), if_neg (by decide), if_pos (by decide)]
        rw [dPark hL, rc_at (by rw [hpk])]
        unfold m_X1_carsInside
        rw [dI_at (by rw [hpk]), rc_at (by rw [hpk]), cl0, cl_some]
        show some (mI M 38 (pk 0) - nI lf, M) = _
        rw [t2, pk_sub s1]
      · show m_X11_count M _ _ = _
        unfold m_X11_count jn
        rw [in_y hp, cl_some, if_pos (by decide)]
        dsimp only
        rw [if_neg (by decide), if_neg (by decide), if_neg (by decide), if_pos (by decide)]
        rw [rc_at (S1 _ hL)]
        unfold m_X11_inside
        rw [dS hL, show aI M 100 (some 2180) 1 _ = _ from s_at hL (i := 1) (by omega), dS hL, show aI M 100 (some 2180) 2 _ = _ from s_at hL (i := 2) (by omega)]
        show some (mI M 1001 2180 - mI M 1002 2180, M) = _
        rw [t3, s3, pk_sub s1]
    · refine no (r := mI M 1003 2180) ?_ ?_
      · unfold m_X10_count
        rw [if_neg (by decide), if_neg (by decide), if_neg (by decide), if_neg (by decide), if_pos (by decide)]
        rw [dPark hL, rc_at (by rw [hpk]), pa]
        rfl
      · show m_X11_count M _ _ = _
        unfold m_X11_count jn
        rw [in_y hp, cl_some, if_pos (by decide)]
        dsimp only
        rw [if_neg (by decide), if_neg (by decide), if_neg (by decide), if_neg (by decide), if_pos (by decide)]
        exact sI_item hL (j := 3) (by omega) rfl
    · refine no (r := mI M 1004 2180) ?_ ?_
      · unfold m_X10_count
        rw [if_neg (by decide), if_neg (by decide), if_neg (by decide), if_neg (by decide), if_neg (by decide), if_pos (by decide)]
        rw [dPark hL, rc_at (by rw [hpk]), show m_X1_paidByPlan M (some (pk 0)) 0 = _ from pb 0 (by omega)]
        rfl
      · show m_X11_count M _ _ = _
        unfold m_X11_count jn
        rw [in_y hp, cl_some, if_pos (by decide)]
        dsimp only
        rw [if_neg (by decide), if_neg (by decide), if_neg (by decide), if_neg (by decide), if_neg (by decide), if_pos (by decide)]
        exact sI_item hL (j := 4) (by omega) rfl
    · refine no (r := mI M 1005 2180) ?_ ?_
      · unfold m_X10_count
        rw [if_neg (by decide), if_neg (by decide), if_neg (by decide), if_neg (by decide), if_neg (by decide), if_neg (by decide), if_pos (by decide)]
        rw [dPark hL, rc_at (by rw [hpk]), show m_X1_paidByPlan M (some (pk 0)) 1 = _ from pb 1 (by omega)]
        rfl
      · show m_X11_count M _ _ = _
        unfold m_X11_count jn
        rw [in_y hp, cl_some, if_pos (by decide)]
        dsimp only
        rw [if_neg (by decide), if_neg (by decide), if_neg (by decide), if_neg (by decide), if_neg (by decide), if_neg (by decide), if_pos (by decide)]
        exact sI_item hL (j := 5) (by omega) rfl
    · refine no (r := mI M 1006 2180) ?_ ?_
      · unfold m_X10_count
        rw [if_neg (by decide), if_neg (by decide), if_neg (by decide), if_neg (by decide), if_neg (by decide), if_neg (by decide), if_neg (by decide), if_pos (by decide)]
        rw [dPark hL, rc_at (by rw [hpk]), show m_X1_paidByPlan M (some (pk 0)) 2 = _ from pb 2 (by omega)]
        rfl
      · show m_X11_count M _ _ = _
        unfold m_X11_count jn
        rw [in_y hp, cl_some, if_pos (by decide)]
        dsimp only
        rw [if_neg (by decide), if_neg (by decide), if_neg (by decide), if_neg (by decide), if_neg (by decide), if_neg (by decide), if_neg (by decide), if_pos (by decide)]
        exact sI_item hL (j := 6) (by omega) rfl
    · refine no (r := mI M 1007 2180) ?_ ?_
      · unfold m_X10_count
        rw [if_neg (by decide), if_neg (by decide), if_neg (by decide), if_neg (by decide), if_neg (by decide), if_neg (by decide), if_neg (by decide), if_neg (by decide), if_pos (by decide)]
        rw [dPark hL, rc_at (by rw [hpk]), show m_X1_paidByPlan M (some (pk 0)) 3 = _ from pb 3 (by omega)]
        rfl
      · show m_X11_count M _ _ = _
        unfold m_X11_count jn
        rw [in_y hp, cl_some, if_pos (by decide)]
        dsimp only
        rw [if_neg (by decide), if_neg (by decide), if_neg (by decide), if_neg (by decide), if_neg (by decide), if_neg (by decide), if_neg (by decide), if_neg (by decide), if_pos (by decide)]
        exact sI_item hL (j := 7) (by omega) rfl
    · refine no (r := mI M 1008 2180) ?_ ?_
      · unfold m_X10_count
        rw [if_neg (by decide), if_neg (by decide), if_neg (by decide), if_neg (by decide), if_neg (by decide), if_neg (by decide), if_neg (by decide), if_neg (by decide), if_neg (by decide), if_pos (by decide)]
        rw [dPark hL, rc_at (by rw [hpk]), lo0]
        rfl
      · show m_X11_count M _ _ = _
        unfold m_X11_count jn
        rw [in_y hp, cl_some, if_pos (by decide)]
        dsimp only
        rw [if_neg (by decide), if_neg (by decide), if_neg (by decide), if_neg (by decide), if_neg (by decide), if_neg (by decide), if_neg (by decide), if_neg (by decide), if_neg (by decide), if_pos (by decide)]
        exact sI_item hL (j := 8) (by omega) rfl
    · refine no (r := nI vc) ?_ ?_
      · unfold m_X10_count
        rw [if_neg (by decide), if_neg (by decide), if_neg (by decide), if_neg (by decide), if_neg (by decide), if_neg (by decide), if_neg (by decide), if_neg (by decide), if_neg (by decide), if_neg (by decide), if_pos (by decide)]
        rw [dPark hL, dI_at (by rw [hpk])]
        exact congrArg (fun z => some (z, M)) v2
      · show m_X11_count M _ _ = _
        unfold m_X11_count jn
        rw [in_y hp, cl_some, if_pos (by decide)]
        dsimp only
        rw [if_neg (by decide), if_neg (by decide), if_neg (by decide), if_neg (by decide), if_neg (by decide), if_neg (by decide), if_neg (by decide), if_neg (by decide), if_neg (by decide), if_neg (by decide), if_pos (by decide)]
        exact sI_item hL (j := 9) (by omega) v3
    · refine no (r := nI L) ?_ ?_
      · unfold m_X10_count
        rw [if_neg (by decide), if_neg (by decide), if_neg (by decide), if_neg (by decide), if_neg (by decide), if_neg (by decide), if_neg (by decide), if_neg (by decide), if_neg (by decide), if_neg (by decide), if_neg (by decide), if_pos (by decide)]
        rw [dP_at (by rw [S_zero hL])]
        show dI M 6 3 (mP M 323 0) _ = _
        rw [show mP M 323 0 = some 2165 from hL.P (by omega) 323, dI_at (by rw [show mS M 2165 = (6, 0) from hL.S (by omega)])]
        exact congrArg (fun z => some (z, M)) l2
      · show m_X11_count M _ _ = _
        unfold m_X11_count jn
        rw [in_y hp, cl_some, if_pos (by decide)]
        dsimp only
        rw [if_neg (by decide), if_neg (by decide), if_neg (by decide), if_neg (by decide), if_neg (by decide), if_neg (by decide), if_neg (by decide), if_neg (by decide), if_neg (by decide), if_neg (by decide), if_neg (by decide), if_pos (by decide)]
        rw [dI_at (S1 _ hL)]
        exact congrArg (fun z => some (z, M)) l3
  · have hne : ∀ j, j < 12 → ¬ p = nI j := fun j hj h9 => hp (by rw [h9]; exact ⟨le_n (a := 0) (by omega) (by omega), le_n (b := 11) (by omega) (by omega)⟩)
    refine no (r := -2) ?_ ?_
    · unfold m_X10_count
      rw [if_neg (show ¬ p = 0 from hne 0 (by omega)), if_neg (show ¬ p = 1 from hne 1 (by omega)), if_neg (show ¬ p = 2 from hne 2 (by omega)), if_neg (show ¬ p = 3 from hne 3 (by omega)), if_neg (show ¬ p = 4 from hne 4 (by omega)), if_neg (show ¬ p = 5 from hne 5 (by omega)), if_neg (show ¬ p = 6 from hne 6 (by omega)), if_neg (show ¬ p = 7 from hne 7 (by omega)), if_neg (show ¬ p = 8 from hne 8 (by omega)), if_neg (show ¬ p = 9 from hne 9 (by omega)), if_neg (show ¬ p = 10 from hne 10 (by omega)), if_neg (show ¬ p = 11 from hne 11 (by omega))]; rfl
    · show m_X11_count M _ _ = _
      unfold m_X11_count jn
      rw [in_n hp, cl_some, if_neg (by decide)]; rfl
