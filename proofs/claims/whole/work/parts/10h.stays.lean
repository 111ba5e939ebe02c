/-! ===== the calls fee, unit, extend: nothing lasting changes ===== -/
theorem P_park {M : Mem} (h : Lay M) : mP M 320 0 = some (pk 0) := h.P (by omega) 320
theorem S_zero {M : Mem} (h : Lay M) : mS M 0 = (10, 0) := h.S (by omega)
theorem planAt_y {M : Mem} (h : Lay M) {i : Nat} (hi : i < 4) : m_X1_planAt M (some (pk 0)) (nI i) = some (some (aPl (pk 0) i), M) := by
  unfold m_X1_planAt
  have e0 : (0 : Int32) = nI 0 := rfl
  have e3 : (3 : Int32) = nI 3 := rfl
  rw [e0, e3, within_y ⟨(i_le (by omega) (by omega)).mpr (by omega), (i_le (by omega) (by omega)).mpr (by omega)⟩, cl_some, if_neg (by decide), dP_at (by rw [S_park h (by omega)]), P_plans h (by omega), aP_at (S_plans h (by omega)) hi (by omega), P_plan h (by omega) hi]; rfl
theorem planAt_n {M : Mem} {x : Int32} (hx : ¬ ((0 : Int32) ≤ x ∧ x ≤ 3)) (o : Option Nat) : m_X1_planAt M o x = some (none, M) := by
  unfold m_X1_planAt
  rw [within_n hx, cl_some, if_pos rfl]; rfl
theorem isPlan_y {M : Mem} {x : Int32} (hx : (0 : Int32) ≤ x ∧ x ≤ 3) : m_X11_isPlan M x = some (1, M) := by
  unfold m_X11_isPlan; rw [in_y hx]; rfl
theorem isPlan_n {M : Mem} {x : Int32} (hx : ¬ ((0 : Int32) ≤ x ∧ x ≤ 3)) : m_X11_isPlan M x = some (0, M) := by
  unfold m_X11_isPlan; rw [in_n hx]; rfl
theorem isMinute_y {M : Mem} {x : Int32} (hx : (0 : Int32) ≤ x ∧ x ≤ 99999) : m_X11_isMinute M x = some (1, M) := by
  unfold m_X11_isMinute; rw [in_y hx]; rfl
theorem isMinute_n {M : Mem} {x : Int32} (hx : ¬ ((0 : Int32) ≤ x ∧ x ≤ 99999)) : m_X11_isMinute M x = some (0, M) := by
  unfold m_X11_isMinute; rw [in_n hx]; rfl
def isStayP (a b : Int32) : Prop := ((0 : Int32) ≤ a ∧ a ≤ 99999) ∧ (a ≤ b ∧ b ≤ 99999)
theorem isStayC_y {M : Mem} {a b : Int32} (h : isStayP a b) : m_X10_isStay M a b = some (1, M) := by
  unfold m_X10_isStay; rw [within_y h.1, cl_some, if_neg (by decide), within_y h.2]; rfl
theorem isStayC_n {M : Mem} {a b : Int32} (h : ¬ isStayP a b) : m_X10_isStay M a b = some (0, M) := by
  unfold m_X10_isStay
  by_cases h1 : (0 : Int32) ≤ a ∧ a ≤ 99999
  · rw [within_y h1, cl_some, if_neg (by decide), within_n (fun h2 => h ⟨h1, h2⟩)]; rfl
  · rw [within_n h1]; rfl
theorem isStayR_y {M : Mem} {p a b : Int32} {o : Option Nat} (hp : (0 : Int32) ≤ p ∧ p ≤ 3) (h : isStayP a b) : m_X11_isStay M o p a b = some (1, M) := by
  unfold m_X11_isStay; rw [isPlan_y hp, cl_some, if_neg (by decide), isMinute_y h.1, cl_some, if_neg (by decide), in_y h.2]; rfl
theorem isStayR_n {M : Mem} {p a b : Int32} {o : Option Nat} (h : ¬ (((0 : Int32) ≤ p ∧ p ≤ 3) ∧ isStayP a b)) : m_X11_isStay M o p a b = some (0, M) := by
  unfold m_X11_isStay
  by_cases hp : (0 : Int32) ≤ p ∧ p ≤ 3
  · rw [isPlan_y hp, cl_some, if_neg (by decide)]
    by_cases h1 : (0 : Int32) ≤ a ∧ a ≤ 99999
    · rw [isMinute_y h1, cl_some, if_neg (by decide), in_n (fun h2 => h ⟨hp, h1, h2⟩)]; rfl
    · rw [isMinute_n h1]; rfl
  · rw [isPlan_n hp]; rfl
theorem stay_nat {a b : Int32} (h : isStayP a b) : ∃ x y : Nat, a = nI x ∧ b = nI y ∧ x ≤ y ∧ y ≤ 99999 := by
  obtain ⟨x, hx, -, hx2⟩ := nat_of (a := 0) (b := 99999) (by omega) h.1 (by omega)
  have h2 := h.2
  rw [hx] at h2
  obtain ⟨y, hy, hy1, hy2⟩ := nat_of (a := x) (b := 99999) (by omega) h2 (by omega)
  exact ⟨x, y, hx, hy, hy1, hy2⟩
theorem Inv.mn {cnt n vc m : Nat} {M : Mem} (h : Inv cnt n vc m M) : mN M < 100000 := by
  have := h.2.2.1.1; have := h.2.1; omega
theorem fee_op {cnt n vc m : Nat} {M : Mem} (h : Inv cnt n vc m M) (hc : cnt < 512) (p a b : Int32) : Op cnt M (fun M => m_X10_fee M (some 0) p a b) (fun M => m_X11_fee M (some 2179) p a b) := by
  have hL := h.1
  have h2 : mN M ≥ 2188 := hL.1
  have hmn := h.mn
  by_cases hp : (0 : Int32) ≤ p ∧ p ≤ 3
  · obtain ⟨i, rfl, -, hi⟩ := nat_of (a := 0) (b := 3) (by omega) hp (by omega)
    obtain ⟨π, hπ, hC, hR⟩ := h.2.2.2.1.1 i (by omega)
    by_cases hs : isStayP a b
    · obtain ⟨x, y, rfl, rfl, hxy, hy⟩ := stay_nat hs
      obtain ⟨M1, e1, g1⟩ := feeOfStay_c (fr := x) (to := y) hC hπ (by unfold aPl pk; omega) (by omega) hxy (by omega)
      have hk := Keep.gr hL g1
      have hL1 := hk.Lay hL
      have hR1 : PlR M1 2180 (10 + 23 * i) π := hR.of (fun k => (hk.2.2.2 2180 (by omega)).2.1 k (by omega))
      obtain ⟨M2, e2, g2⟩ := feeOf_r (fr := x) (to := y) hL1 (show i < 4 by omega) hR1 hπ hxy (by omega)
      refine Op.same (M1 := M1) (M2 := M2) (r := nI (feeS π x y)) h hc ?_ (hk.mono (by omega)) ?_ g2
      · show m_X10_fee M _ _ _ _ = _
        unfold m_X10_fee
        rw [dP_at (by rw [S_zero hL]), P_park hL, rc_at (by rw [S_park hL (by omega)]), planAt_y hL (by omega), cl_some, if_neg (by simp), isStayC_y hs, cl_some, if_pos (by decide), rc_at (by rw [S_aPl hL (by omega) (by omega)]), e1]; rfl
      · show m_X11_fee M1 _ _ _ _ = _
        unfold m_X11_fee
        rw [rc_at (S1 _ hL1), isStayR_y hp hs, cl_some, if_neg (by decide), rc_at (S1 _ hL1), e2]; rfl
    · refine Op.same (M1 := M) (M2 := M) (r := -2) h hc ?_ (Keep.rfl'.mono (by omega)) ?_ Sc.rfl'
      · show m_X10_fee M _ _ _ _ = _
        unfold m_X10_fee
        rw [dP_at (by rw [S_zero hL]), P_park hL, rc_at (by rw [S_park hL (by omega)]), planAt_y hL (by omega), cl_some, if_neg (by simp), isStayC_n hs, cl_some, if_neg (by decide)]; rfl
      · show m_X11_fee M _ _ _ _ = _
        unfold m_X11_fee
        rw [rc_at (S1 _ hL), isStayR_n (fun h9 => hs h9.2), cl_some, if_pos rfl]; rfl
  · refine Op.same (M1 := M) (M2 := M) (r := -2) h hc ?_ (Keep.rfl'.mono (by omega)) ?_ Sc.rfl'
    · show m_X10_fee M _ _ _ _ = _
      unfold m_X10_fee
      rw [dP_at (by rw [S_zero hL]), P_park hL, rc_at (by rw [S_park hL (by omega)]), planAt_n hp, cl_some, if_pos rfl]; rfl
    · show m_X11_fee M _ _ _ _ = _
      unfold m_X11_fee
      rw [rc_at (S1 _ hL), isStayR_n (fun h9 => hp h9.1), cl_some, if_pos rfl]; rfl
theorem extend_r {M : Mem} (h : Lay M) {i fr to : Nat} {π : PD} (hi : i < 4) (hR : PlR M 2180 (10 + 23 * i) π) (hπ : GP π) (hf : fr ≤ to) (ht : to ≤ 99999) (hp : (0 : Int32) ≤ nI i ∧ nI i ≤ 3) (hs : isStayP (nI fr) (nI to)) :
    ∃ M', m_X11_extend M (some 2179) (nI i) (nI fr) (nI to) = some (nI (extS π fr to), M') ∧ Sc M M' := by
  unfold m_X11_extend
  rw [rc_at (S1 _ h), isStayR_y hp hs, cl_some, if_pos (by decide), rc_at (S1 _ h)]
  obtain ⟨M1, e1, g1⟩ := feeOf_r (fr := fr) (to := to) h hi hR hπ hf (by omega)
  have h1 := g1.Lay h
  rw [e1, cl_some, rc_at (S1 _ h1)]
  obtain ⟨M2, e2, g2, g3⟩ := begins_r h1 π fr
  have h2 := g3.Lay h1
  have hR2 : PlR M2 2180 (10 + 23 * i) π := hR.of (fun k => (g1.trans g3).R k (by omega))
  rw [e2, cl_some]
  unfold jn
  obtain ⟨M3, e3, g4⟩ := extLoop_r (am := feeS π fr to) hi hπ (show fr ≤ 100000 by omega) (feeS_bd hπ fr to) 20000 0 FU M2 (nI fr) (by omega) (by show 20001 < 1000000; omega) h2 hR2 (by show RefIs M2 π fr (s0 π fr) (amt π (s0 π fr)); rw [amt_s0]; exact g2) (by show amt π (s0 π fr) ≤ _; rw [amt_s0]; omega)
  exact ⟨M3, e3, (g1.trans g3).trans g4⟩
theorem extend_op {cnt n vc m : Nat} {M : Mem} (h : Inv cnt n vc m M) (hc : cnt < 512) (p a b : Int32) : Op cnt M (fun M => m_X10_extend M (some 0) p a b) (fun M => m_X11_extend M (some 2179) p a b) := by
  have hL := h.1
  have h2 : mN M ≥ 2188 := hL.1
  have hmn := h.mn
  by_cases hp : (0 : Int32) ≤ p ∧ p ≤ 3
  · obtain ⟨i, rfl, -, hi⟩ := nat_of (a := 0) (b := 3) (by omega) hp (by omega)
    obtain ⟨π, hπ, hC, hR⟩ := h.2.2.2.1.1 i (by omega)
    by_cases hs : isStayP a b
    · obtain ⟨x, y, rfl, rfl, hxy, hy⟩ := stay_nat hs
      obtain ⟨M1, e1, g1⟩ := latestEnd_c (fr := x) (to := y) hC hπ (by unfold aPl pk; omega) (by omega) hxy (by omega)
      have hk := Keep.gr hL g1
      have hL1 := hk.Lay hL
      have hR1 : PlR M1 2180 (10 + 23 * i) π := hR.of (fun k => (hk.2.2.2 2180 (by omega)).2.1 k (by omega))
      obtain ⟨M2, e2, g2⟩ := extend_r (fr := x) (to := y) hL1 (show i < 4 by omega) hR1 hπ hxy hy hp hs
      refine Op.same (M1 := M1) (M2 := M2) (r := nI (extS π x y)) h hc ?_ (hk.mono (by omega)) e2 g2
      show m_X10_extend M _ _ _ _ = _
      unfold m_X10_extend
      rw [dP_at (by rw [S_zero hL]), P_park hL, rc_at (by rw [S_park hL (by omega)]), planAt_y hL (by omega), cl_some, if_neg (by simp), isStayC_y hs, cl_some, if_pos (by decide), rc_at (by rw [S_aPl hL (by omega) (by omega)]), e1]; rfl
    · refine Op.same (M1 := M) (M2 := M) (r := -2) h hc ?_ (Keep.rfl'.mono (by omega)) ?_ Sc.rfl'
      · show m_X10_extend M _ _ _ _ = _
        unfold m_X10_extend
        rw [dP_at (by rw [S_zero hL]), P_park hL, rc_at (by rw [S_park hL (by omega)]), planAt_y hL (by omega), cl_some, if_neg (by simp), isStayC_n hs, cl_some, if_neg (by decide)]; rfl
      · show m_X11_extend M _ _ _ _ = _
        unfold m_X11_extend
        rw [rc_at (S1 _ hL), isStayR_n (fun h9 => hs h9.2), cl_some, if_neg (by decide)]; rfl
  · refine Op.same (M1 := M) (M2 := M) (r := -2) h hc ?_ (Keep.rfl'.mono (by omega)) ?_ Sc.rfl'
    · show m_X10_extend M _ _ _ _ = _
      unfold m_X10_extend
      rw [dP_at (by rw [S_zero hL]), P_park hL, rc_at (by rw [S_park hL (by omega)]), planAt_n hp, cl_some, if_pos rfl]; rfl
    · show m_X11_extend M _ _ _ _ = _
      unfold m_X11_extend
      rw [rc_at (S1 _ hL), isStayR_n (fun h9 => hp h9.1), cl_some, if_neg (by decide)]; rfl
theorem unit_r {M : Mem} (h : Lay M) {i fr ix what : Nat} {π : PD} (hi : i < 4) (hR : PlR M 2180 (10 + 23 * i) π) (hπ : GP π) (hf : fr ≤ 99999) (hix : ix ≤ 99) (hw : what ≤ 2) :
    ∃ M', m_X11_unit M (some 2179) (nI i) (nI fr) (nI ix) (nI what) = some (nI (unitS π fr ix what), M') ∧ Sc M M' := by
  unfold m_X11_unit
  have le : ∀ {a b : Nat}, b < 2147483648 → a ≤ b → nI a ≤ nI b := fun hb hab => (i_le (by omega) hb).mpr hab
  have e0 : (0 : Int32) = nI 0 := rfl
  have e1 : (1 : Int32) = nI 1 := rfl
  have q1 : (0 : Int32) ≤ nI i ∧ nI i ≤ 3 := ⟨le (a := 0) (by omega) (by omega), le (b := 3) (by omega) (by omega)⟩
  have q2 : (0 : Int32) ≤ nI fr ∧ nI fr ≤ 99999 := ⟨le (a := 0) (by omega) (by omega), le (b := 99999) (by omega) (by omega)⟩
  have q3 : (0 : Int32) ≤ nI ix ∧ nI ix ≤ 99 := ⟨le (a := 0) (by omega) (by omega), le (b := 99) (by omega) (by omega)⟩
  have q4 : (0 : Int32) ≤ nI what ∧ nI what ≤ 2 := ⟨le (a := 0) (by omega) (by omega), le (b := 2) (by omega) (by omega)⟩
  rw [isPlan_y q1, cl_some, if_neg (by decide), isMinute_y q2, cl_some, if_neg (by decide), in_y q3, cl_some, if_neg (by decide), in_y q4, cl_some, if_pos (by decide), rc_at (S1 _ h)]
  obtain ⟨M1, e2, g1, g2⟩ := begins_r h π fr
  rw [e2, cl_some]
  unfold jn
  obtain ⟨M2, e3, g3, g4⟩ := unitLoop_r (fr := fr) (ix := ix) hi hπ (show fr ≤ 100000 by omega) hix (fun (M11 : Mem) => (if nI what ≠ 0 then (if nI what ≠ 1 then rc M11 11 (some 2179) (cl (m_X11_groupOf M11 (some 2179) (nI i) (nI fr)) (fun (x13 : Int32) (M12 : Mem) => rt x13 M12)) else dI M11 11 9 (some 2179) (fun (x14 : Int32) => rc M11 11 (some 2179) (cl (m_X11_bandAt M11 (some 2179) (nI i) x14) (fun (x16 : Int32) (M15 : Mem) => rt x16 M15)))) else dI M11 11 9 (some 2179) (fun (x17 : Int32) => rt x17 M11))) ix 0 FU M1 (by omega) (by show ix < 1000000; omega) (g2.Lay h) (hR.of (fun k => g2.R k (by omega))) (by show RefIs M1 π fr (s0 π fr) (amt π (s0 π fr)); rw [amt_s0]; exact g1)
  have e3' : lp (b_X11_unit_45 (some 2179) (nI i) (nI fr) (nI ix) (fun (M11 : Mem) => (if nI what ≠ 0 then (if nI what ≠ 1 then rc M11 11 (some 2179) (cl (m_X11_groupOf M11 (some 2179) (nI i) (nI fr)) (fun (x13 : Int32) (M12 : Mem) => rt x13 M12)) else dI M11 11 9 (some 2179) (fun (x14 : Int32) => rc M11 11 (some 2179) (cl (m_X11_bandAt M11 (some 2179) (nI i) x14) (fun (x16 : Int32) (M15 : Mem) => rt x16 M15)))) else dI M11 11 9 (some 2179) (fun (x17 : Int32) => rt x17 M11)))) FU (0, M1) = _ := e3
  dsimp only
  rw [e3']
  have h2 := (g2.trans g4).Lay h
  have hR2 : PlR M2 2180 (10 + 23 * i) π := hR.of (fun k => (g2.trans g4).R k (by omega))
  have hb := stn_MB hπ (show fr ≤ 100000 by omega) (show ix ≤ 20100 by omega)
  have hs1 := hb.2.1
  refine ⟨M2, ?_, g2.trans g4⟩
  unfold unitS
  rcases (show what = 0 ∨ what = 1 ∨ what = 2 by omega) with rfl | rfl | rfl
  · rw [if_neg (by decide), if_pos rfl, dI_at (S1 _ h2), g3.1]; rfl
  · rw [if_pos (by decide), if_neg (by decide), if_neg (show ¬ (1 : Nat) = 0 by decide), if_pos (show (1 : Nat) = 1 from rfl), dI_at (S1 _ h2), g3.1, rc_at (S1 _ h2), bandAt_r h2 hi hR2 hπ (by omega), cl_some]; rfl
  · rw [if_pos (by decide), if_pos (by decide), if_neg (by decide), if_neg (by decide), rc_at (S1 _ h2), groupOf_r h2 hi hR2 hπ g3.1 (by omega) hb.1, cl_some]; rfl
theorem unit_op {cnt n vc m : Nat} {M : Mem} (h : Inv cnt n vc m M) (hc : cnt < 512) (p a b c : Int32) : Op cnt M (fun M => m_X10_unit M (some 0) p a b c) (fun M => m_X11_unit M (some 2179) p a b c) := by
  have hL := h.1
  have h2 : mN M ≥ 2188 := hL.1
  have hmn := h.mn
  have hpre : m_X10_unit M (some 0) p a b c = cl (m_X1_planAt M (some (pk 0)) p) (fun (q3 : Option Nat) (M2 : Mem) => (if q3 = none then rt ((-2)) M2 else cl (m_X10_within M2 a 0 99999) (fun (x5 : Int32) (M4 : Mem) => (if x5 ≠ 0 then cl (m_X10_within M4 b 0 99) (fun (x7 : Int32) (M6 : Mem) => (if x7 = 0 then rt ((-2)) M6 else cl (m_X10_within M6 c 0 2) (fun (x9 : Int32) (M8 : Mem) => (if x9 ≠ 0 then rc M8 5 q3 (cl (m_X5_partOfUnit M8 q3 a b c) (fun (x11 : Int32) (M10 : Mem) => rt x11 M10)) else rt ((-2)) M8)))) else rt ((-2)) M4)))) := by
    unfold m_X10_unit
    rw [dP_at (by rw [S_zero hL]), P_park hL, rc_at (by rw [S_park hL (by omega)])]
  have no : ∀ {g : Mem → Option (Int32 × Mem)}, g M = some (-2, M) → m_X10_unit M (some 0) p a b c = some (-2, M) → Op cnt M (fun M => m_X10_unit M (some 0) p a b c) g := fun h8 h9 => Op.same h hc h9 (Keep.rfl'.mono (by omega)) h8 Sc.rfl'
  by_cases hp : (0 : Int32) ≤ p ∧ p ≤ 3
  · obtain ⟨i, rfl, -, hi⟩ := nat_of (a := 0) (b := 3) (by omega) hp (by omega)
    obtain ⟨π, hπ, hC, hR⟩ := h.2.2.2.1.1 i (by omega)
    rw [planAt_y hL (by omega), cl_some, if_neg (by simp)] at hpre
    by_cases ha : (0 : Int32) ≤ a ∧ a ≤ 99999
    · rw [within_y ha, cl_some, if_pos (by decide)] at hpre
      by_cases hb : (0 : Int32) ≤ b ∧ b ≤ 99
      · rw [within_y hb, cl_some, if_neg (by decide)] at hpre
        by_cases hcc : (0 : Int32) ≤ c ∧ c ≤ 2
        · rw [within_y hcc, cl_some, if_pos (by decide), rc_at (by rw [S_aPl hL (by omega) (by omega)])] at hpre
          obtain ⟨x, rfl, -, hx⟩ := nat_of (a := 0) (b := 99999) (by omega) ha (by omega)
          obtain ⟨y, rfl, -, hy⟩ := nat_of (a := 0) (b := 99) (by omega) hb (by omega)
          obtain ⟨z, rfl, -, hz⟩ := nat_of (a := 0) (b := 2) (by omega) hcc (by omega)
          obtain ⟨M1, e1, g1⟩ := partOfUnit_c (fr := x) (ix := y) (what := z) hC hπ (by unfold aPl pk; omega) (by omega) (by omega) hy hz
          have hk := Keep.gr hL g1
          have hL1 := hk.Lay hL
          have hR1 : PlR M1 2180 (10 + 23 * i) π := hR.of (fun k => (hk.2.2.2 2180 (by omega)).2.1 k (by omega))
          obtain ⟨M2, e2, g2⟩ := unit_r (fr := x) (ix := y) (what := z) hL1 (show i < 4 by omega) hR1 hπ hx hy hz
          rw [e1, cl_some] at hpre
          exact Op.same h hc hpre (hk.mono (by omega)) e2 g2
        · rw [within_n hcc, cl_some, if_neg (by decide)] at hpre
          refine no ?_ hpre
          show m_X11_unit M _ _ _ _ _ = _
          unfold m_X11_unit
          rw [isPlan_y hp, cl_some, if_neg (by decide), isMinute_y ha, cl_some, if_neg (by decide), in_y hb, cl_some, if_neg (by decide), in_n hcc, cl_some, if_neg (by decide)]; rfl
      · rw [within_n hb, cl_some, if_pos rfl] at hpre
        refine no ?_ hpre
        show m_X11_unit M _ _ _ _ _ = _
        unfold m_X11_unit
        rw [isPlan_y hp, cl_some, if_neg (by decide), isMinute_y ha, cl_some, if_neg (by decide), in_n hb, cl_some, if_pos rfl]; rfl
    · rw [within_n ha, cl_some, if_neg (by decide)] at hpre
      refine no ?_ hpre
      show m_X11_unit M _ _ _ _ _ = _
      unfold m_X11_unit
      rw [isPlan_y hp, cl_some, if_neg (by decide), isMinute_n ha, cl_some, if_pos rfl]; rfl
  · rw [planAt_n hp, cl_some, if_pos rfl] at hpre
    refine no ?_ hpre
    show m_X11_unit M _ _ _ _ _ = _
    unfold m_X11_unit
    rw [isPlan_n hp, cl_some, if_pos rfl]; rfl
