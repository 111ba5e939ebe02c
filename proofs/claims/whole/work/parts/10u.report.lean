/-! ===== the calls reportCode, reportNumber, setCapacity ===== -/
theorem hasLevel_c {M : Mem} (hL : Lay M) {n : Nat} {x : Int32} (hn : n ≤ 3) (e : mI M 226 2176 = nI n) : m_X7_hasLevel M (some 2176) x = m_X11_in M x 0 (nI n - 1) := by
  have hS : mS M 2176 = (7, 0) := hL.S (by omega)
  have e2 : (2 : Int32) = nI 2 := rfl
  rcases ix_in M x (n := n) (by omega) with ⟨j, c1, rfl, c2⟩ | ⟨c1, c2⟩
  · have hw : (0 : Int32) ≤ nI j ∧ nI j ≤ 2 := ⟨le_n (a := 0) (by omega) (by omega), le_n (b := 2) (by omega) (by omega)⟩
    rw [c2]
    unfold m_X7_hasLevel
    rw [within_y hw, cl_some, if_neg (by decide), dI_at (by rw [hS])]
    show (if mI M 226 2176 ≤ nI j then _ else _) = _
    rw [e, if_neg (fun h9 => absurd ((i_le (by omega) (by omega)).mp h9) (by omega))]; rfl
  · rw [c2]
    unfold m_X7_hasLevel
    rw [e2]
    rcases ix_at (b := 2) (by omega) (by omega) c1 with h1 | ⟨h1, h2⟩
    · rw [within_n h1, cl_some, if_pos rfl]; rfl
    · rw [within_y h1, cl_some, if_neg (by decide), dI_at (by rw [hS])]
      show (if mI M 226 2176 ≤ x then _ else _) = _
      rw [e, if_pos h2]; rfl
theorem dRep {M : Mem} (h : Lay M) {K : Option Nat → Option (Int32 × Mem)} : dP M 10 4 (some 0) K = K (some 2176) := by
  rw [dP_at (by rw [S_zero h])]
  show K (mP M 324 0) = _
  rw [show mP M 324 0 = some 2176 from h.P (by omega) 324]
theorem reportCode_op {cnt n vc m : Nat} {M : Mem} (h : Inv cnt n vc m M) (hc : cnt < 512) (p : Int32) : Op cnt M (fun M => m_X10_reportCode M (some 0) p) (fun M => m_X11_reportCode M (some 2179) p) := by
  have hL := h.1
  obtain ⟨z, z1, z2, z3, z4⟩ := h.2.2.2.2.2.2.1
  have hS : mS M 2176 = (7, 0) := hL.S (by omega)
  have no : ∀ {r : Int32} {g : Mem → Option (Int32 × Mem)}, m_X10_reportCode M (some 0) p = some (r, M) → g M = some (r, M) → Op cnt M (fun M => m_X10_reportCode M (some 0) p) g := fun h9 h8 => Op.same h hc h9 (Keep.rfl'.mono (by omega)) h8 Sc.rfl'
  have hB : m_X11_reportCode M (some 2179) p = cl (m_X11_in M p 0 (nI z - 1)) (fun (x3 : Int32) (M2 : Mem) => (if x3 = 0 then rt ((-1)) M2 else dP M2 11 7 (some 2179) (fun (q4 : Option Nat) => aI M2 100 q4 ((2 * p)) (fun (x5 : Int32) => rt x5 M2)))) := by
    unfold m_X11_reportCode
    rw [dI_at (S1 _ hL)]
    show cl (m_X11_in M p 0 (mI M 360 2179 - 1)) _ = _
    rw [z3]
  have hA : m_X10_reportCode M (some 0) p = cl (m_X11_in M p 0 (nI z - 1)) (fun (x3 : Int32) (M2 : Mem) => (if x3 = 0 then rt ((-1)) M2 else dP M2 10 4 (some 0) (fun (q4 : Option Nat) => dP M2 7 0 q4 (fun (q5 : Option Nat) => aI M2 100 q5 p (fun (x6 : Int32) => rt x6 M2))))) := by
    unfold m_X10_reportCode
    rw [dRep hL, rc_at (by rw [hS]), hasLevel_c hL (by omega) z2]
  rcases ix_in M p (n := z) (by omega) with ⟨j, c1, rfl, c2⟩ | ⟨c1, c2⟩
  · have h3 : z = 3 := by omega
    obtain ⟨w1, w2⟩ := z4 h3 j (by omega)
    refine no (r := mI M (1000 + j) 2177) ?_ ?_
    · rw [hA, c2, cl_some, if_neg (by decide), dRep hL, dP_at (by rw [hS])]
      show aI M 100 (mP M 224 2176) _ _ = _
      rw [show mP M 224 2176 = some 2177 from hL.P (by omega) 224, aI_at (show mS M 2177 = (100, 3) from hL.S (by omega)) (by omega) (by omega)]; rfl
    · show m_X11_reportCode M _ _ = _
      have e2 : (2 : Int32) = nI 2 := rfl
      rw [hB, c2, cl_some, if_neg (by decide), dP_at (S1 _ hL)]
      show aI M 100 (mP M 359 2179) _ _ = _
      rw [show mP M 359 2179 = some 2185 from hL.P (by omega) 359, e2, pk_mul, aI_at (show mS M 2185 = (100, 6) from hL.S (by omega)) (by omega) (by omega), w1]; rfl
  · refine no (r := -1) ?_ ?_
    · rw [hA, c2, cl_some, if_pos rfl]; rfl
    · show m_X11_reportCode M _ _ = _
      rw [hB, c2, cl_some, if_pos rfl]; rfl
theorem reportNumber_op {cnt n vc m : Nat} {M : Mem} (h : Inv cnt n vc m M) (hc : cnt < 512) (p : Int32) : Op cnt M (fun M => m_X10_reportNumber M (some 0) p) (fun M => m_X11_reportNumber M (some 2179) p) := by
  have hL := h.1
  obtain ⟨z, z1, z2, z3, z4⟩ := h.2.2.2.2.2.2.1
  have hS : mS M 2176 = (7, 0) := hL.S (by omega)
  have no : ∀ {r : Int32} {g : Mem → Option (Int32 × Mem)}, m_X10_reportNumber M (some 0) p = some (r, M) → g M = some (r, M) → Op cnt M (fun M => m_X10_reportNumber M (some 0) p) g := fun h9 h8 => Op.same h hc h9 (Keep.rfl'.mono (by omega)) h8 Sc.rfl'
  have hB : m_X11_reportNumber M (some 2179) p = cl (m_X11_in M p 0 (nI z - 1)) (fun (x3 : Int32) (M2 : Mem) => (if x3 = 0 then rt ((-1)) M2 else dP M2 11 7 (some 2179) (fun (q4 : Option Nat) => aI M2 100 q4 (((2 * p) + 1)) (fun (x5 : Int32) => rt x5 M2)))) := by
    unfold m_X11_reportNumber
    rw [dI_at (S1 _ hL)]
    show cl (m_X11_in M p 0 (mI M 360 2179 - 1)) _ = _
    rw [z3]
  have hA : m_X10_reportNumber M (some 0) p = cl (m_X11_in M p 0 (nI z - 1)) (fun (x3 : Int32) (M2 : Mem) => (if x3 = 0 then rt ((-1)) M2 else dP M2 10 4 (some 0) (fun (q4 : Option Nat) => dP M2 7 1 q4 (fun (q5 : Option Nat) => aI M2 100 q5 p (fun (x6 : Int32) => rt x6 M2))))) := by
    unfold m_X10_reportNumber
    rw [dRep hL, rc_at (by rw [hS]), hasLevel_c hL (by omega) z2]
  rcases ix_in M p (n := z) (by omega) with ⟨j, c1, rfl, c2⟩ | ⟨c1, c2⟩
  · have h3 : z = 3 := by omega
    obtain ⟨w1, w2⟩ := z4 h3 j (by omega)
    refine no (r := mI M (1000 + j) 2178) ?_ ?_
    · rw [hA, c2, cl_some, if_neg (by decide), dRep hL, dP_at (by rw [hS])]
      show aI M 100 (mP M 225 2176) _ _ = _
      rw [show mP M 225 2176 = some 2178 from hL.P (by omega) 225, aI_at (show mS M 2178 = (100, 3) from hL.S (by omega)) (by omega) (by omega)]; rfl
    · show m_X11_reportNumber M _ _ = _
      have e2 : (2 : Int32) = nI 2 := rfl
      rw [hB, c2, cl_some, if_neg (by decide), dP_at (S1 _ hL)]
      show aI M 100 (mP M 359 2179) _ _ = _
      rw [show mP M 359 2179 = some 2185 from hL.P (by omega) 359, e2, pk_mul, nI_1, aI_at (show mS M 2185 = (100, 6) from hL.S (by omega)) (by omega) (by omega), w2]; rfl
  · refine no (r := -1) ?_ ?_
    · rw [hA, c2, cl_some, if_pos rfl]; rfl
    · show m_X11_reportNumber M _ _ = _
      rw [hB, c2, cl_some, if_pos rfl]; rfl
theorem part_r {M : Mem} (hL : Lay M) {l j : Nat} (hl : l < 4) (hj : j < 4) : m_X11_levelPart M (some 2179) (nI l) (nI j) = some (mI M (1000 + (153 + 4 * l + j)) 2180, M) := by
  unfold m_X11_levelPart
  have e1 : (153 : Int32) = nI 153 := rfl
  have e2 : (4 : Int32) = nI 4 := rfl
  rw [dS hL, e1, e2, pk_mul, nI_add, nI_add, s_at hL (by omega)]; rfl
/-- when only one level's numbers move, all else stands -/
theorem Pk.level {M X : Mem} {cnt n vc m l : Nat} (h : Pk cnt n vc m M 0 2180 2182) (hn : n ≤ 512) (hl : l < 4) (f3 : X.2 = M.2) (f2 : ∀ k a, ¬ (a = aLe (pk 0) l) → ¬ (a = 2180 ∧ (1153 + 4 * l ≤ k ∧ k < 1157 + 4 * l)) → mI X k a = mI M k a)
    (hN : ∃ cap ex : Nat, ∃ x en : Int32, ∃ r : UInt32, cap ≤ 40 ∧ ex ≤ cnt + 1 ∧ -((cnt + 1 : Nat) : Int) ≤ x.toInt ∧ x.toInt ≤ cap ∧ gF r ∧ mI X 96 (aLe (pk 0) l) = nI cap ∧ mI X 97 (aLe (pk 0) l) = x ∧ mI X 98 (aLe (pk 0) l) = nI ex ∧ mI X 99 (aLe (pk 0) l) = en ∧ mF X 100 (aLe (pk 0) l) = r ∧
      mI X (1000 + (153 + 4 * l)) 2180 = nI cap ∧ mI X (1000 + (153 + 4 * l + 1)) 2180 = x ∧ mI X (1000 + (153 + 4 * l + 2)) 2180 = nI ex ∧ mI X (1000 + (153 + 4 * l + 3)) 2180 = en ∧ mF X (1000 + l) 2182 = r)
    (hca : ∀ l, l < 4 → mI X (1000 + (153 + 4 * l + 1)) 2180 = mI M (1000 + (153 + 4 * l + 1)) 2180) : Pk (cnt + 1) n vc m X 0 2180 2182 := by
  have hpp : pk 0 = 1 := rfl
  have el : ∀ l, aLe (pk 0) l = 55 + l := fun l => by unfold aLe pk; omega
  have ell := el l
  obtain ⟨m1, m2, m3⟩ := h.imi
  refine ⟨h.1.of (fun a _ _ => eS f3 a) (fun k a _ _ => eP f3 k a) (fun k' a' h8 h9 => f2 k' a' (by omega) (by omega)) (fun k' h8 h9 => f2 _ _ (by omega) (by omega)),
    h.2.1.of (f2 _ _ (by omega) (by omega)) (fun k' a' h8 h9 => f2 k' a' (by omega) (by omega)) (f2 _ _ (by omega) (by omega)) (fun k' h8 h9 => f2 _ _ (by omega) (by omega)),
    h.2.2.1.of (Nat.le_refl _) (fun k' a' h8 h9 => f2 k' a' (by omega) (by omega)) (fun k' h8 h9 => f2 _ _ (by omega) (by omega)), ?_,
    h.2.2.2.2.1.of (by omega) (by omega) (Nat.le_refl _) (Nat.le_refl _) (f2 _ _ (by omega) (by omega)) (fun k' a' h8 h9 => f2 k' a' (by omega) (by omega)) (f2 _ _ (by omega) (by omega)) (fun k' h8 => f2 _ _ (by omega) (by omega)), ⟨m1, (f2 _ _ (by omega) (by omega)).trans m2, (f2 _ _ (by omega) (by omega)).trans m3⟩, h.2.2.2.2.2.2.of (fun k' h8 h9 => f2 _ _ (by omega) (by omega)) (fun k' h8 => f2 _ _ (by omega) (by omega)) hca⟩
  intro l' hl'
  have el' := el l'
  by_cases hll : l' = l
  · rw [hll]; exact hN
  · obtain ⟨cap, ex', x', en', r, g1, g2, g3, g4, g5, d1, d2, d3, d4, d5, c1, c2, c3, c4, c5⟩ := h.2.2.2.1 l' hl'
    exact ⟨cap, ex', x', en', r, g1, by omega, by omega, g4, g5, (f2 _ _ (by omega) (by omega)).trans d1, (f2 _ _ (by omega) (by omega)).trans d2, (f2 _ _ (by omega) (by omega)).trans d3, (f2 _ _ (by omega) (by omega)).trans d4, (eF f3 _ _).trans d5, (f2 _ _ (by omega) (by omega)).trans c1, (f2 _ _ (by omega) (by omega)).trans c2, (f2 _ _ (by omega) (by omega)).trans c3, (f2 _ _ (by omega) (by omega)).trans c4, (eF f3 _ _).trans c5⟩
theorem setCapacity_op {cnt n vc m : Nat} {M : Mem} (h : Inv cnt n vc m M) (hc : cnt < 512) (p a : Int32) : Op cnt M (fun M => m_X10_setCapacity M (some 0) p a) (fun M => m_X11_setCapacity M (some 2179) p a) := by
  have hL := h.1
  have hP := h.2.2.2.1
  have hn := h.n512
  have hpk : mS M (pk 0) = (1, 0) := S_park hL (by omega)
  have no : ∀ {r : Int32} {g : Mem → Option (Int32 × Mem)}, m_X10_setCapacity M (some 0) p a = some (r, M) → g M = some (r, M) → Op cnt M (fun M => m_X10_setCapacity M (some 0) p a) g := fun h9 h8 => Op.same h hc h9 (Keep.rfl'.mono (by omega)) h8 Sc.rfl'
  by_cases hp : (0 : Int32) ≤ p ∧ p ≤ 3
  · obtain ⟨l, rfl, -, hl⟩ := nat_of (a := 0) (b := 3) (by omega) hp (by omega)
    have hS := S_aLe hL (q := 0) (by omega) (show l < 4 by omega)
    have el : aLe (pk 0) l = 55 + l := by unfold aLe pk; omega
    obtain ⟨cap, ex, x, en, r, g1, g2, g3, g4, g5, d1, d2, d3, d4, d5, c1, c2, c3, c4, c5⟩ := hP.2.2.2.1 l (by omega)
    by_cases ha : (0 : Int32) ≤ a ∧ a ≤ 40
    · obtain ⟨z, rfl, -, hz⟩ := nat_of (a := 0) (b := 40) (by omega) ha (by omega)
      have hA : m_X10_setCapacity M (some 0) (nI l) (nI z) = (if x ≤ nI z then some (nI cap, uI M 96 (aLe (pk 0) l) (nI z)) else some (-3, M)) := by
        unfold m_X10_setCapacity
        rw [dPark hL, rc_at (by rw [hpk]), levelAt_y hL (by omega), cl_some, if_neg (by simp), within_y ha, cl_some, if_pos (by decide), dI_at (by rw [hS])]
        show (if mI M 97 (aLe (pk 0) l) ≤ nI z then _ else _) = _
        rw [d2, dI_at (by rw [hS]), pI_at (by rw [hS])]
        show (if x ≤ nI z then rt (mI M 96 (aLe (pk 0) l)) _ else _) = _
        rw [d1]; rfl
      have hB : ∀ M1, Lay M1 → (∀ k, mI M1 k 2180 = mI M k 2180) → m_X11_setCapacity M1 (some 2179) (nI l) (nI z) = (if x ≤ nI z then some (nI cap, uI M1 (1000 + (153 + 4 * l)) 2180 (nI z)) else some (-3, M1)) := by
        intro M1 hL1 hi
        have e0 : (0 : Int32) = nI 0 := rfl
        have e153 : (153 : Int32) = nI 153 := rfl
        have e4 : (4 : Int32) = nI 4 := rfl
        unfold m_X11_setCapacity
        rw [in_y hp, cl_some, if_neg (by decide), in_y ha, cl_some, if_pos (by decide), rc_at (S1 _ hL1), show m_X11_levelPart M1 (some 2179) (nI l) 1 = _ from part_r hL1 (by omega) (j := 1) (by omega), cl_some, hi, c2, rc_at (S1 _ hL1), show m_X11_levelPart M1 (some 2179) (nI l) 0 = _ from part_r hL1 (by omega) (j := 0) (by omega), cl_some, hi]
        show (if x ≤ nI z then dP M1 11 0 (some 2179) (fun q9 => sI M1 100 q9 (153 + 4 * nI l + 0) (nI z) (fun M10 => rt (mI M (1000 + (153 + 4 * l)) 2180) M10)) else _) = _
        rw [c1, dS hL1, e153, e4, pk_mul, nI_add, show nI (153 + 4 * l) + 0 = nI (153 + 4 * l + 0) from nI_add _ 0, s_set hL1 (by omega)]; rfl
      by_cases hx : x ≤ nI z
      · rw [if_pos hx] at hA
        have hL1 : Lay (uI M 96 (aLe (pk 0) l) (nI z)) := hL
        have e2 := hB _ hL1 (fun k => by rw [mI_ne (by omega)])
        rw [if_pos hx] at e2
        obtain ⟨X, hX⟩ : ∃ X, X = uI (uI M 96 (aLe (pk 0) l) (nI z)) (1000 + (153 + 4 * l)) 2180 (nI z) := ⟨_, rfl⟩
        rw [← hX] at e2
        have f3 : X.2 = M.2 := by rw [hX]; rfl
        have f2 : ∀ k a, ¬ (a = aLe (pk 0) l ∧ k = 96) → ¬ (a = 2180 ∧ k = 1000 + (153 + 4 * l)) → mI X k a = mI M k a := fun k a h8 h9 => by rw [hX, mI_ne (by omega), mI_ne (by omega)]
        have hxz : x.toInt ≤ z := by
          have := Int32.le_iff_toInt_le.mp hx
          rw [tI z (by omega)] at this; exact this
        refine ⟨_, _, X, hA, S1 _ hL1, e2, n, vc, m, h.of1 hc f3 (fun k a h1 h2 h3 h4 => f2 k a (by omega) (by omega)) (hP.level (by omega) (show l < 4 by omega) f3 (fun k a h8 h9 => f2 k a (by omega) (by omega)) ⟨z, ex, x, en, r, hz, by omega, by omega, hxz, g5, ?_, (f2 _ _ (by omega) (by omega)).trans d2, (f2 _ _ (by omega) (by omega)).trans d3, (f2 _ _ (by omega) (by omega)).trans d4, (eF f3 _ _).trans d5, ?_, (f2 _ _ (by omega) (by omega)).trans c2, (f2 _ _ (by omega) (by omega)).trans c3, (f2 _ _ (by omega) (by omega)).trans c4, (eF f3 _ _).trans c5⟩ (fun l9 h9 => f2 _ _ (by omega) (by omega)))⟩
        · rw [hX, mI_ne (by omega), mI_eq]
        · rw [hX, mI_eq]
      · rw [if_neg hx] at hA
        refine no hA ?_
        show m_X11_setCapacity M _ _ _ = _
        rw [hB M hL (fun _ => rfl), if_neg hx]
    · refine no (r := -2) ?_ ?_
      · unfold m_X10_setCapacity
        rw [dPark hL, rc_at (by rw [hpk]), levelAt_y hL (by omega), cl_some, if_neg (by simp), within_n ha, cl_some, if_neg (by decide)]; rfl
      · show m_X11_setCapacity M _ _ _ = _
        unfold m_X11_setCapacity
        rw [in_y hp, cl_some, if_neg (by decide), in_n ha, cl_some, if_neg (by decide)]; rfl
  · refine no (r := -2) ?_ ?_
    · unfold m_X10_setCapacity
      rw [dPark hL, rc_at (by rw [hpk]), levelAt_n hp, cl_some, if_pos rfl]; rfl
    · show m_X11_setCapacity M _ _ _ = _
      unfold m_X11_setCapacity
      rw [in_n hp, cl_some, if_pos rfl]; rfl
