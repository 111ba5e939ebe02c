/-! ===== the call leave ===== -/
theorem levelAt_y {M : Mem} (h : Lay M) {i : Nat} (hi : i < 4) : m_X1_levelAt M (some (pk 0)) (nI i) = some (some (aLe (pk 0) i), M) := by
  unfold m_X1_levelAt
  have e0 : (0 : Int32) = nI 0 := rfl
  have e3 : (3 : Int32) = nI 3 := rfl
  rw [e0, e3, within_y ⟨(i_le (by omega) (by omega)).mpr (by omega), (i_le (by omega) (by omega)).mpr (by omega)⟩, cl_some, if_neg (by decide), dP_at (by rw [S_park h (by omega)]), P_levels h (by omega), aP_at (S_levels h (by omega)) hi (by omega), P_level h (by omega) hi]; rfl
theorem levelAt_n {M : Mem} {x : Int32} (hx : ¬ ((0 : Int32) ≤ x ∧ x ≤ 3)) (o : Option Nat) : m_X1_levelAt M o x = some (none, M) := by
  unfold m_X1_levelAt
  rw [within_n hx, cl_some, if_pos rfl]; rfl
theorem pred_toInt {x : Int32} (h1 : -100000 ≤ x.toInt) (h2 : x.toInt ≤ 100000) : (x - 1).toInt = x.toInt - 1 := by
  have e : (1 : Int32).toInt = 1 := by decide
  rw [Int32.toInt_sub, e]
  exact Int.bmod_eq_of_le (by omega) (by omega)
theorem leave_inv {cnt n vc m t pl en lv pd gv lo ex : Nat} {la x : Int32} {Vn K A : Nat → Nat} {M X : Mem} (h : Inv cnt n vc m M) (hc : cnt < 512) (ht : t < n) (hT : TkP vc m M t pl en lv pd gv 0 lo la Vn K A) (f3 : X.2 = M.2)
    (f2 : ∀ k a, ¬ (a = aTi (pk 0) t ∧ k = 263) → ¬ (a = aLe (pk 0) lv ∧ (k = 97 ∨ k = 98)) → ¬ (a = 2180 ∧ (k = 1002 ∨ k = 1000 + (169 + 12 * t + 5) ∨ k = 1000 + (153 + 4 * lv + 1) ∨ k = 1000 + (153 + 4 * lv + 2))) → mI X k a = mI M k a)
    (y1 : mI M 97 (aLe (pk 0) lv) = x) (y2 : mI M 98 (aLe (pk 0) lv) = nI ex)
    (x1 : mI X 263 (aTi (pk 0) t) = 1) (x2 : mI X 97 (aLe (pk 0) lv) = x - 1) (x3 : mI X 98 (aLe (pk 0) lv) = nI (ex + 1)) (x4 : mI X (1000 + (169 + 12 * t + 5)) 2180 = 1) (x5 : mI X 1002 2180 = mI M 1002 2180 + 1) (x6 : mI X (1000 + (153 + 4 * lv + 1)) 2180 = x - 1) (x7 : mI X (1000 + (153 + 4 * lv + 2)) 2180 = nI (ex + 1)) (hex : ex < 100000) : Inv (cnt + 1) n vc m X := by
  have hP := h.2.2.2.1
  have hn := h.n512
  have hpp : pk 0 = 1 := rfl
  have ea : aTi (pk 0) t = 59 + 2 * t := by unfold aTi pk; omega
  have eb : aTv (pk 0) t = 60 + 2 * t := by unfold aTv pk; omega
  have el : ∀ l, aLe (pk 0) l = 55 + l := fun l => by unfold aLe pk; omega
  have ell := el lv
  obtain ⟨hb, hCf, hRf, hCT, hRT, hK, hVn⟩ := id hT
  obtain ⟨a1, a2, a3, a4, a5, a6, a7, a8⟩ := hCf
  obtain ⟨b1, b2, b3, b4, b5, b6, b7, b8⟩ := hRf
  obtain ⟨-, vc', w1, w2, w3⟩ := id hCT
  have hlv := hb.2.2.1
  refine h.of1 hc f3 (fun k a h1 h2 h3 h4 => f2 k a (by omega) (by omega) (by omega)) ?_
  refine hP.tick (by omega) ht f3 (fun k a h9 => f2 k a (by omega) (by omega) (by omega)) (hP.2.1.of (f2 _ _ (by omega) (by omega) (by omega)) (fun k' a' h8 h9 => f2 k' a' (by omega) (by omega) (by omega)) (f2 _ _ (by omega) (by omega) (by omega)) (fun k' h8 h9 => f2 _ _ (by omega) (by omega) (by omega))) ?_ ?_ ?_
  · intro l hl
    obtain ⟨cap, ex', x', en', r, g1, g2, g3, g4, g5, d1, d2, d3, d4, d5, c1, c2, c3, c4, c5⟩ := hP.2.2.2.1 l hl
    have el' := el l
    by_cases hlv' : l = lv
    · subst hlv'
      have hx : x' = x := by rw [← d2, y1]
      have hexx : ex' = ex := by
        have := d3.symm.trans y2
        exact (i_eq (by omega) (by omega)).mp this
      subst hx; subst hexx
      have hpt := pred_toInt (x := x') (by omega) (by omega)
      refine ⟨cap, ex' + 1, x' - 1, en', r, g1, by omega, by rw [hpt]; omega, by rw [hpt]; omega, g5, (f2 _ _ (by omega) (by omega) (by omega)).trans d1, x2, x3, (f2 _ _ (by omega) (by omega) (by omega)).trans d4, (eF f3 _ _).trans d5, (f2 _ _ (by omega) (by omega) (by omega)).trans c1, x6, x7, (f2 _ _ (by omega) (by omega) (by omega)).trans c4, (eF f3 _ _).trans c5⟩
    · exact ⟨cap, ex', x', en', r, g1, by omega, by omega, g4, g5, (f2 _ _ (by omega) (by omega) (by omega)).trans d1, (f2 _ _ (by omega) (by omega) (by omega)).trans d2, (f2 _ _ (by omega) (by omega) (by omega)).trans d3, (f2 _ _ (by omega) (by omega) (by omega)).trans d4, (eF f3 _ _).trans d5, (f2 _ _ (by omega) (by omega) (by omega)).trans c1, (f2 _ _ (by omega) (by omega) (by omega)).trans c2, (f2 _ _ (by omega) (by omega) (by omega)).trans c3, (f2 _ _ (by omega) (by omega) (by omega)).trans c4, (eF f3 _ _).trans c5⟩
  · refine ⟨pl, en, lv, pd, gv, 1, lo, la, ⟨hb.1, hb.2.1, hb.2.2.1, hb.2.2.2.1, hb.2.2.2.2.1, by omega, hb.2.2.2.2.2.2.1, hb.2.2.2.2.2.2.2⟩, ⟨(f2 _ _ (by omega) (by omega) (by omega)).trans a1, (f2 _ _ (by omega) (by omega) (by omega)).trans a2, (f2 _ _ (by omega) (by omega) (by omega)).trans a3, (f2 _ _ (by omega) (by omega) (by omega)).trans a4, (f2 _ _ (by omega) (by omega) (by omega)).trans a5, x1, (f2 _ _ (by omega) (by omega) (by omega)).trans a7, (f2 _ _ (by omega) (by omega) (by omega)).trans a8⟩,
      ⟨(f2 _ _ (by omega) (by omega) (by omega)).trans b1, (f2 _ _ (by omega) (by omega) (by omega)).trans b2, (f2 _ _ (by omega) (by omega) (by omega)).trans b3, (f2 _ _ (by omega) (by omega) (by omega)).trans b4, (f2 _ _ (by omega) (by omega) (by omega)).trans b5, x4, (f2 _ _ (by omega) (by omega) (by omega)).trans b7, (f2 _ _ (by omega) (by omega) (by omega)).trans b8⟩, fun j hj => ?_⟩
    obtain ⟨z1, z2, z3, z4⟩ := w3 j hj
    obtain ⟨y1', y2', y3', y4'⟩ := hRT.2 j hj
    exact ⟨Vn j, hVn j hj, (f2 _ _ (by omega) (by omega) (by omega)).trans z2, (f2 _ _ (by omega) (by omega) (by omega)).trans y2'⟩
  · obtain ⟨⟨lf, s1, s2, s3, s4, s5, s6, s7⟩, sc⟩ := hP.2.2.2.2.2.2
    have hlt : lf < n := by
      have hsn := si_sn (f := fun t => mI M (1000 + (169 + 12 * t + 5)) 2180) (b := fun t => (mI M (1000 + (169 + 12 * t + 5)) 2180).toInt.toNat) (n := n) (fun s hs => by
        obtain ⟨pl', en', lv', pd', gv', go', lo', la', hb', -, hR', -⟩ := hP.2.2.2.2.1.2.2.2 s hs
        show mI M (1000 + (169 + 12 * s + 5)) 2180 = nI (mI M (1000 + (169 + 12 * s + 5)) 2180).toInt.toNat
        rw [hR'.2.2.2.2.2.1, toN (by omega)])
      have hlt := sn_lt (b := fun t => (mI M (1000 + (169 + 12 * t + 5)) 2180).toInt.toNat) (t := t) (n := n) ht (fun s hs => by
        obtain ⟨pl', en', lv', pd', gv', go', lo', la', hb', -, hR', -⟩ := hP.2.2.2.2.1.2.2.2 s hs
        show (mI M (1000 + (169 + 12 * s + 5)) 2180).toInt.toNat ≤ 1
        rw [hR'.2.2.2.2.2.1, toN (by omega)]; exact hb'.2.2.2.2.2.1) (by
        show (mI M (1000 + (169 + 12 * t + 5)) 2180).toInt.toNat = 0
        rw [b6]; rfl)
      rw [s4] at hsn
      have := (i_eq (by omega) (by omega)).mp hsn
      omega
    refine ⟨⟨lf + 1, by omega, by omega, by rw [x5, s3, nI_1], ?_, ?_, fun k hk => ?_, ?_⟩, fun l hl => ?_⟩
    · rw [si_add (f := fun t => mI M (1000 + (169 + 12 * t + 5)) 2180) (d := 1) ht (fun s hs hst => f2 _ _ (by omega) (by omega) (by omega)) (by show mI X (1000 + (169 + 12 * t + 5)) 2180 = mI M (1000 + (169 + 12 * t + 5)) 2180 + 1; rw [x4, b6]; rfl), s4, nI_1]
    · exact ((f2 _ _ (by omega) (by omega) (by omega)).trans s5).trans (si_of (fun s hs => (f2 _ _ (by omega) (by omega) (by omega)).symm))
    · refine ((f2 _ _ (by omega) (by omega) (by omega)).trans (s6 k hk)).trans (si_of (fun s _ => ?_))
      unfold paidT
      rw [f2 (1000 + (169 + 12 * s)) 2180 (by omega) (by omega) (by omega), f2 (1000 + (169 + 12 * s + 3)) 2180 (by omega) (by omega) (by omega)]
    · rw [f2 1003 2180 (by omega) (by omega) (by omega), f2 1004 2180 (by omega) (by omega) (by omega), f2 1005 2180 (by omega) (by omega) (by omega), f2 1006 2180 (by omega) (by omega) (by omega), f2 1007 2180 (by omega) (by omega) (by omega)]; exact s7
    · have hoth : ∀ s, s < n → s ≠ t → inT M 2180 l s = inT X 2180 l s := by
        intro s hs hst
        unfold inT
        rw [f2 (1000 + (169 + 12 * s + 2)) 2180 (by omega) (by omega) (by omega), f2 (1000 + (169 + 12 * s + 5)) 2180 (by omega) (by omega) (by omega)]
      have hxt : inT X 2180 l t = 0 := by
        unfold inT
        rw [x4, if_neg (fun h9 => absurd h9.2 (by decide))]
      by_cases hlv' : l = lv
      · subst hlv'
        have hmt : inT M 2180 l t = 1 := by
          unfold inT
          rw [b3, b6, if_pos ⟨rfl, rfl⟩]
        have h8 := si_add (f := inT X 2180 l) (g := inT M 2180 l) (d := 1) ht hoth (by rw [hxt, hmt]; rfl)
        have h7 : x = si (inT M 2180 l) n := by
          rw [← sc l hl, ← y1]
          obtain ⟨cap, ex', x', en', r, g1, g2, g3, g4, g5, d1, d2, d3, d4, d5, c1, c2, c3, c4, c5⟩ := hP.2.2.2.1 l hl
          rw [d2, c2]
        rw [x6, h7, h8, Int32.add_sub_cancel]
      · have hmt : inT M 2180 l t = 0 := by
          unfold inT
          rw [b3, if_neg (fun h9 => hlv' ((i_eq (by omega) (by omega)).mp h9.1).symm)]
        rw [f2 _ _ (by omega) (by omega) (by omega), sc l hl]
        exact si_of (fun s hs => by
          by_cases hst : s = t
          · rw [hst, hxt, hmt]
          · exact hoth s hs hst)
theorem leave_op {cnt n vc m : Nat} {M : Mem} (h : Inv cnt n vc m M) (hc : cnt < 512) (p : Int32) : Op cnt M (fun M => m_X10_leave M (some 0) p) (fun M => m_X11_leave M (some 2179) p) := by
  have hL := h.1
  have hP := h.2.2.2.1
  obtain ⟨m1, m2, m3⟩ := hP.imi
  have hpk : mS M (pk 0) = (1, 0) := S_park hL (by omega)
  have hpp : pk 0 = 1 := rfl
  have hn := h.n512
  have hmn := h.mn
  rcases inside_cr h p with ⟨hA, hB⟩ | ⟨t, pl, en, lv, pd, gv, lo, la, Vn, K, A, ht, rfl, hA, hB, hT⟩
  · refine Op.same (M1 := M) (M2 := M) (r := -1) h hc ?_ (Keep.rfl'.mono (by omega)) ?_ Sc.rfl'
    · show m_X10_leave M _ _ = _
      unfold m_X10_leave
      rw [dPark hL, rc_at (by rw [hpk]), hA, cl_some, if_neg (by simp)]; rfl
    · show m_X11_leave M _ _ = _
      unfold m_X11_leave
      rw [rc_at (S1 _ hL), hB, cl_some, if_neg (by decide)]; rfl
  · have hS := S_aTi hL (q := 0) (by omega) (show t < 512 by omega)
    have ea : aTi (pk 0) t = 59 + 2 * t := by unfold aTi pk; omega
    have el : aLe (pk 0) lv = 55 + lv := by unfold aLe pk; omega
    obtain ⟨hb, hCf, hRf, hCT, hRT, hK, hVn⟩ := id hT
    obtain ⟨a1, a2, a3, a4, a5, a6, a7, a8⟩ := hCf
    obtain ⟨b1, b2, b3, b4, b5, b6, b7, b8⟩ := hRf
    have hlv := hb.2.2.1
    obtain ⟨π, hπ, hC, hR⟩ := hP.1 pl (by omega)
    obtain ⟨cap, ex, x, en', r, g1, g2, g3, g4, g5, d1, d2, d3, d4, d5, c1, c2, c3, c4, c5⟩ := hP.2.2.2.1 lv (by omega)
    -- the class's release from a memory that keeps
    have relC : ∀ M1, Keep 1 M M1 → dP M1 10 0 (some 0) (fun (q10 : Option Nat) => rc M1 1 q10 (cl (m_X1_releaseCar M1 q10 (some (aTi (pk 0) t))) (fun (_u : Unit) (M11 : Mem) => dI M11 8 5 (some (aTi (pk 0) t)) (fun (x12 : Int32) => rt x12 M11)))) = some (nI pd, uI (uI (uI M1 263 (aTi (pk 0) t) 1) 97 (aLe (pk 0) lv) (x - 1)) 98 (aLe (pk 0) lv) (nI (ex + 1))) := by
      intro M1 hk
      have hL1 := hk.Lay hL
      have i1 : ∀ k a, a < 2179 → mI M1 k a = mI M k a := fun k a ha => (hk.2.2.2 a (by omega)).2.1 k (by omega)
      have hS1 := S_aTi hL1 (q := 0) (by omega) (show t < 512 by omega)
      have hSl := S_aLe hL1 (q := 0) (by omega) (show lv < 4 by omega)
      rw [dPark hL1, rc_at (by rw [S_park hL1 (by omega)])]
      unfold m_X1_releaseCar
      rw [pZ_at (by rw [hS1]) (Or.inr rfl), dI_at (by rw [mS_uI, hS1])]
      show cl (rc _ 1 _ (cl (m_X1_levelAt (uI M1 263 (aTi (pk 0) t) 1) _ (mI (uI M1 263 (aTi (pk 0) t) 1) 260 (aTi (pk 0) t))) _)) _ = _
      rw [mI_ne (by omega), i1 260 _ (by omega), a3, rc_at (by rw [mS_uI, S_park hL1 (by omega)]), levelAt_y (hL1.uI _ _ _) (by omega), cl_some, if_neg (by simp), rc_at (by rw [mS_uI, hSl])]
      unfold m_X3_releaseCar
      rw [dI_at (by rw [mS_uI, hSl]), pI_at (by rw [mS_uI, hSl]), dI_at (by rw [mS_uI, mS_uI, hSl]), pI_at (by rw [mS_uI, mS_uI, hSl])]
      have e97 : mI (uI M1 263 (aTi (pk 0) t) 1) (32 * 3 + 1) (aLe (pk 0) lv) = x := by rw [mI_ne (by omega), i1 _ _ (by omega)]; exact d2
      rw [e97]
      have e98 : mI (uI (uI M1 263 (aTi (pk 0) t) 1) (32 * 3 + 1) (aLe (pk 0) lv) (x - 1)) (32 * 3 + 2) (aLe (pk 0) lv) = nI ex := by rw [mI_ne (by omega), mI_ne (by omega), i1 _ _ (by omega)]; exact d3
      rw [e98, nI_1, cl_rt, cl_rt]
      rw [dI_at (by rw [mS_uI, mS_uI, mS_uI, hS1])]
      have e261 : mI (uI (uI (uI M1 263 (aTi (pk 0) t) 1) (32 * 3 + 1) (aLe (pk 0) lv) (x - 1)) (32 * 3 + 2) (aLe (pk 0) lv) (nI (ex + 1))) (32 * 8 + 5) (aTi (pk 0) t) = nI pd := by rw [mI_ne (by omega), mI_ne (by omega), mI_ne (by omega), i1 _ _ (by omega)]; exact a4
      rw [e261]; rfl
    -- the reference's
    have relR : ∀ M9, Lay M9 → (∀ k, mI M9 k 2180 = mI M k 2180) → rc M9 11 (some 2179) (cl (m_X11_set M9 (some 2179) (nI t) 5 1) (fun (_u : Unit) (M10 : Mem) => dP M10 11 0 (some 2179) (fun (q11 : Option Nat) => aI M10 100 q11 2 (fun (x12 : Int32) => sI M10 100 q11 2 ((x12 + 1)) (fun (M13 : Mem) => dP M13 11 0 (some 2179) (fun (q14 : Option Nat) => rc M13 11 (some 2179) (cl (m_X11_item M13 (some 2179) (nI t) 2) (fun (x16 : Int32) (M15 : Mem) => aI M15 100 q14 (((153 + (4 * x16)) + 1)) (fun (x17 : Int32) => sI M15 100 q14 (((153 + (4 * x16)) + 1)) ((x17 - 1)) (fun (M18 : Mem) => dP M18 11 0 (some 2179) (fun (q19 : Option Nat) => rc M18 11 (some 2179) (cl (m_X11_item M18 (some 2179) (nI t) 2) (fun (x21 : Int32) (M20 : Mem) => aI M20 100 q19 (((153 + (4 * x21)) + 2)) (fun (x22 : Int32) => sI M20 100 q19 (((153 + (4 * x21)) + 2)) ((x22 + 1)) (fun (M23 : Mem) => rc M23 11 (some 2179) (cl (m_X11_item M23 (some 2179) (nI t) 3) (fun (x25 : Int32) (M24 : Mem) => rt x25 M24))))))))))))))))) = some (nI pd, uI (uI (uI (uI M9 (1000 + (169 + 12 * t + 5)) 2180 1) 1002 2180 (mI M 1002 2180 + 1)) (1000 + (153 + 4 * lv + 1)) 2180 (x - 1)) (1000 + (153 + 4 * lv + 2)) 2180 (nI (ex + 1))) := by
      intro M9 hL9 i9
      have e5 : (5 : Int32) = nI 5 := rfl
      have e2 : (2 : Int32) = nI 2 := rfl
      have e153 : (153 : Int32) = nI 153 := rfl
      have e4 : (4 : Int32) = nI 4 := rfl
      have e3 : (3 : Int32) = nI 3 := rfl
      rw [rc_at (S1 _ hL9), e5, set_r hL9 (by omega) (by omega), cl_some, dS (hL9.uI _ _ _), e2, s_at (hL9.uI _ _ _) (by omega), s_set (hL9.uI _ _ _) (by omega), mI_ne (by omega), i9]
      rw [dS ((hL9.uI _ _ _).uI _ _ _), rc_at (S1 _ ((hL9.uI _ _ _).uI _ _ _)), item_r ((hL9.uI _ _ _).uI _ _ _) (by omega) (by omega), cl_some, mI_ne (by omega), mI_ne (by omega), i9, b3, e153, e4, pk_mul, nI_add, nI_1, s_at ((hL9.uI _ _ _).uI _ _ _) (by omega), s_set ((hL9.uI _ _ _).uI _ _ _) (by omega), mI_ne (by omega), mI_ne (by omega), i9, c2]
      rw [dS (((hL9.uI _ _ _).uI _ _ _).uI _ _ _), rc_at (S1 _ (((hL9.uI _ _ _).uI _ _ _).uI _ _ _)), item_r (((hL9.uI _ _ _).uI _ _ _).uI _ _ _) (by omega) (by omega), cl_some, mI_ne (by omega), mI_ne (by omega), mI_ne (by omega), i9, b3, pk_mul, nI_add, nI_add, s_at (((hL9.uI _ _ _).uI _ _ _).uI _ _ _) (by omega), s_set (((hL9.uI _ _ _).uI _ _ _).uI _ _ _) (by omega), mI_ne (by omega), mI_ne (by omega), mI_ne (by omega), i9, c3, nI_1]
      rw [rc_at (S1 _ ((((hL9.uI _ _ _).uI _ _ _).uI _ _ _).uI _ _ _)), e3, item_r ((((hL9.uI _ _ _).uI _ _ _).uI _ _ _).uI _ _ _) (by omega) (by omega), cl_some, mI_ne (by omega), mI_ne (by omega), mI_ne (by omega), mI_ne (by omega), i9, b4]; rfl
    obtain ⟨W, hW1, hW2⟩ : ∃ W : Bool, m_X8_paidWithin M (some (aTi (pk 0) t)) 15 (nI m) = some (if W = true then 1 else 0, M) ∧ ∀ Mc, Lay Mc → (∀ k, mI Mc k 2180 = mI M k 2180) → ∀ (J : Int32 → Mem → Option (Int32 × Mem)), (if la < 0 then J 0 Mc else dP Mc 11 0 (some 2179) (fun (q32 : Option Nat) => aI Mc 100 q32 0 (fun (x33 : Int32) => rc Mc 11 (some 2179) (cl (m_X11_item Mc (some 2179) (nI t) 7) (fun (x35 : Int32) (M34 : Mem) => (if 15 < (x33 - x35) then J 0 M34 else J 1 M34)))))) = J (if W = true then 1 else 0) Mc := by
      rcases hb.2.2.2.2.2.2.2 with e | ⟨z, z1, z2⟩
      · refine ⟨false, ?_, fun Mc hLc hic J => ?_⟩
        · unfold m_X8_paidWithin
          rw [dI_at (by rw [hS])]
          show (if mI M 262 (aTi (pk 0) t) = -1 then _ else _) = _
          rw [a8, if_pos e]; rfl
        · rw [e, if_pos (by decide)]; rfl
      · have hne : ¬ nI z = -1 := fun h9 => by
          have h5 := congrArg Int32.toInt h9
          rw [tI _ (by omega)] at h5
          have e5 : ((-1 : Int32)).toInt = -1 := by decide
          omega
        have hnl : ¬ nI z < 0 := fun h9 => by have := (i_lt (b := 0) (by omega) (by omega)).mp h9; omega
        have e15 : (15 : Int32) = nI 15 := rfl
        refine ⟨decide (¬ 15 < m - z), ?_, fun Mc hLc hic J => ?_⟩
        · unfold m_X8_paidWithin
          rw [dI_at (by rw [hS]), dI_at (by rw [hS])]
          show (if mI M 262 (aTi (pk 0) t) = -1 then _ else (if 15 < nI m - mI M 262 (aTi (pk 0) t) then _ else _)) = _
          rw [a8, z2, if_neg hne, pk_sub z1, e15]
          by_cases hw : 15 < m - z
          · rw [if_pos ((i_lt (by omega) (by omega)).mpr hw), if_neg (by simp; omega)]; rfl
          · rw [if_neg (fun h9 => hw ((i_lt (by omega) (by omega)).mp h9)), if_pos (by simp; omega)]; rfl
        · rw [z2, if_neg hnl, dS hLc]
          show aI Mc 100 (some 2180) (nI 0) _ = _
          rw [s_at hLc (by omega)]
          show rc Mc 11 _ (cl _ (fun x35 M34 => if 15 < mI Mc 1000 2180 - x35 then _ else _)) = _
          rw [hic, m3, rc_at (S1 _ hLc), show m_X11_item Mc (some 2179) (nI t) 7 = _ from item_r hLc (show t < 512 by omega) (j := 7) (by omega), cl_some, hic, b8, z2, pk_sub z1, e15]
          by_cases hw : 15 < m - z
          · rw [if_pos ((i_lt (by omega) (by omega)).mpr hw), if_neg (by simp; omega)]
          · rw [if_neg (fun h9 => hw ((i_lt (by omega) (by omega)).mp h9)), if_pos (by simp; omega)]
    have hA1 : m_X10_leave M (some 0) (nI t) = (if (if W = true then (1 : Int32) else 0) ≠ 0 then dP M 10 0 (some 0) (fun (q10 : Option Nat) => rc M 1 q10 (cl (m_X1_releaseCar M q10 (some (aTi (pk 0) t))) (fun (_u : Unit) (M11 : Mem) => dI M11 8 5 (some (aTi (pk 0) t)) (fun (x12 : Int32) => rt x12 M11)))) else rc M 1 (some (pk 0)) (cl (m_X1_dueAmount M (some (pk 0)) (some (aTi (pk 0) t)) (nI m)) (fun (x17 : Int32) (M16 : Mem) => (if x17 ≤ 0 then dP M16 10 0 (some 0) (fun (q10 : Option Nat) => rc M16 1 q10 (cl (m_X1_releaseCar M16 q10 (some (aTi (pk 0) t))) (fun (_u : Unit) (M11 : Mem) => dI M11 8 5 (some (aTi (pk 0) t)) (fun (x12 : Int32) => rt x12 M11)))) else rt ((-7)) M16)))) := by
      unfold m_X10_leave jn
      dsimp only
      rw [dPark hL, rc_at (by rw [hpk]), hA, cl_some, if_pos (by simp), dPark hL, dI_at (by rw [hpk])]
      show rc M 8 _ (cl (m_X8_paidWithin M _ 15 (mI M 39 (pk 0))) _) = _
      rw [m2, rc_at (by rw [hS]), hW1, cl_some]
      refine congr (congrArg (ite _) rfl) ?_
      rw [dPark hL, dPark hL, dI_at (by rw [hpk])]
      show rc M 1 _ (cl (m_X1_dueAmount M _ _ (mI M 39 (pk 0))) _) = _
      rw [m2]
    have hB1 : ∀ Mc, Lay Mc → (∀ k, mI Mc k 2180 = mI M k 2180) → m_X11_leave Mc (some 2179) (nI t) = (if (if W = true then (1 : Int32) else 0) ≠ 0 then some (nI pd, uI (uI (uI (uI Mc (1000 + (169 + 12 * t + 5)) 2180 1) 1002 2180 (mI M 1002 2180 + 1)) (1000 + (153 + 4 * lv + 1)) 2180 (x - 1)) (1000 + (153 + 4 * lv + 2)) 2180 (nI (ex + 1))) else rc Mc 11 (some 2179) (cl (m_X11_dueAt Mc (some 2179) (nI t) (nI m)) (fun (x29 : Int32) (M28 : Mem) => (if x29 ≤ 0 then rc M28 11 (some 2179) (cl (m_X11_set M28 (some 2179) (nI t) 5 1) (fun (_u : Unit) (M10 : Mem) => dP M10 11 0 (some 2179) (fun (q11 : Option Nat) => aI M10 100 q11 2 (fun (x12 : Int32) => sI M10 100 q11 2 ((x12 + 1)) (fun (M13 : Mem) => dP M13 11 0 (some 2179) (fun (q14 : Option Nat) => rc M13 11 (some 2179) (cl (m_X11_item M13 (some 2179) (nI t) 2) (fun (x16 : Int32) (M15 : Mem) => aI M15 100 q14 (((153 + (4 * x16)) + 1)) (fun (x17 : Int32) => sI M15 100 q14 (((153 + (4 * x16)) + 1)) ((x17 - 1)) (fun (M18 : Mem) => dP M18 11 0 (some 2179) (fun (q19 : Option Nat) => rc M18 11 (some 2179) (cl (m_X11_item M18 (some 2179) (nI t) 2) (fun (x21 : Int32) (M20 : Mem) => aI M20 100 q19 (((153 + (4 * x21)) + 2)) (fun (x22 : Int32) => sI M20 100 q19 (((153 + (4 * x21)) + 2)) ((x22 + 1)) (fun (M23 : Mem) => rc M23 11 (some 2179) (cl (m_X11_item M23 (some 2179) (nI t) 3) (fun (x25 : Int32) (M24 : Mem) => rt x25 M24))))))))))))))))) else rt ((-7)) M28)))) := by
      intro Mc hLc hic
      unfold m_X11_leave jn
      dsimp only
      rw [rc_at (S1 _ hLc), isInside_keep h ht hLc ((hic _).trans hP.2.2.2.2.1.2.2.1) ((hic _).trans b6), cl_some, if_pos (by decide), rc_at (S1 _ hLc), show m_X11_item Mc (some 2179) (nI t) 7 = _ from item_r hLc (show t < 512 by omega) (j := 7) (by omega), cl_some, hic, b8]
      refine (hW2 Mc hLc hic (fun (x6 : Int32) (M7 : Mem) => (if x6 ≠ 0 then rc M7 11 (some 2179) (cl (m_X11_set M7 (some 2179) (nI t) 5 1) (fun (_u : Unit) (M10 : Mem) => dP M10 11 0 (some 2179) (fun (q11 : Option Nat) => aI M10 100 q11 2 (fun (x12 : Int32) => sI M10 100 q11 2 ((x12 + 1)) (fun (M13 : Mem) => dP M13 11 0 (some 2179) (fun (q14 : Option Nat) => rc M13 11 (some 2179) (cl (m_X11_item M13 (some 2179) (nI t) 2) (fun (x16 : Int32) (M15 : Mem) => aI M15 100 q14 (((153 + (4 * x16)) + 1)) (fun (x17 : Int32) => sI M15 100 q14 (((153 + (4 * x16)) + 1)) ((x17 - 1)) (fun (M18 : Mem) => dP M18 11 0 (some 2179) (fun (q19 : Option Nat) => rc M18 11 (some 2179) (cl (m_X11_item M18 (some 2179) (nI t) 2) (fun (x21 : Int32) (M20 : Mem) => aI M20 100 q19 (((153 + (4 * x21)) + 2)) (fun (x22 : Int32) => sI M20 100 q19 (((153 + (4 * x21)) + 2)) ((x22 + 1)) (fun (M23 : Mem) => rc M23 11 (some 2179) (cl (m_X11_item M23 (some 2179) (nI t) 3) (fun (x25 : Int32) (M24 : Mem) => rt x25 M24))))))))))))))))) else dP M7 11 0 (some 2179) (fun (q26 : Option Nat) => aI M7 100 q26 0 (fun (x27 : Int32) => rc M7 11 (some 2179) (cl (m_X11_dueAt M7 (some 2179) (nI t) x27) (fun (x29 : Int32) (M28 : Mem) => (if x29 ≤ 0 then rc M28 11 (some 2179) (cl (m_X11_set M28 (some 2179) (nI t) 5 1) (fun (_u : Unit) (M10 : Mem) => dP M10 11 0 (some 2179) (fun (q11 : Option Nat) => aI M10 100 q11 2 (fun (x12 : Int32) => sI M10 100 q11 2 ((x12 + 1)) (fun (M13 : Mem) => dP M13 11 0 (some 2179) (fun (q14 : Option Nat) => rc M13 11 (some 2179) (cl (m_X11_item M13 (some 2179) (nI t) 2) (fun (x16 : Int32) (M15 : Mem) => aI M15 100 q14 (((153 + (4 * x16)) + 1)) (fun (x17 : Int32) => sI M15 100 q14 (((153 + (4 * x16)) + 1)) ((x17 - 1)) (fun (M18 : Mem) => dP M18 11 0 (some 2179) (fun (q19 : Option Nat) => rc M18 11 (some 2179) (cl (m_X11_item M18 (some 2179) (nI t) 2) (fun (x21 : Int32) (M20 : Mem) => aI M20 100 q19 (((153 + (4 * x21)) + 2)) (fun (x22 : Int32) => sI M20 100 q19 (((153 + (4 * x21)) + 2)) ((x22 + 1)) (fun (M23 : Mem) => rc M23 11 (some 2179) (cl (m_X11_item M23 (some 2179) (nI t) 3) (fun (x25 : Int32) (M24 : Mem) => rt x25 M24))))))))))))))))) else rt ((-7)) M28)))))))).trans ?_
      refine congr (congrArg (ite _) (relR Mc hLc hic)) ?_
      rw [dS hLc]
      show aI Mc 100 (some 2180) (nI 0) _ = _
      rw [s_at hLc (by omega)]
      show rc Mc 11 _ (cl (m_X11_dueAt Mc _ _ (mI Mc 1000 2180)) _) = _
      rw [hic, m3]
    obtain ⟨X, hX⟩ : ∃ X, X = uI (uI (uI (uI (uI (uI (uI M 263 (aTi (pk 0) t) 1) 97 (aLe (pk 0) lv) (x - 1)) 98 (aLe (pk 0) lv) (nI (ex + 1))) (1000 + (169 + 12 * t + 5)) 2180 1) 1002 2180 (mI M 1002 2180 + 1)) (1000 + (153 + 4 * lv + 1)) 2180 (x - 1)) (1000 + (153 + 4 * lv + 2)) 2180 (nI (ex + 1)) := ⟨_, rfl⟩
    have f3 : X.2 = M.2 := by rw [hX]; rfl
    have hi : Inv (cnt + 1) n vc m X := by
      refine leave_inv (x := x) (ex := ex) h hc ht hT f3 (fun k a h7 h8 h9 => by rw [hX, mI_ne (by omega), mI_ne (by omega), mI_ne (by omega), mI_ne (by omega), mI_ne (by omega), mI_ne (by omega), mI_ne (by omega)]) d2 d3 ?_ ?_ ?_ ?_ ?_ ?_ ?_ (by omega)
      · rw [hX, mI_ne (by omega), mI_ne (by omega), mI_ne (by omega), mI_ne (by omega), mI_ne (by omega), mI_ne (by omega), mI_eq]
      · rw [hX, mI_ne (by omega), mI_ne (by omega), mI_ne (by omega), mI_ne (by omega), mI_ne (by omega), mI_eq]
      · rw [hX, mI_ne (by omega), mI_ne (by omega), mI_ne (by omega), mI_ne (by omega), mI_eq]
      · rw [hX, mI_ne (by omega), mI_ne (by omega), mI_ne (by omega), mI_eq]
      · rw [hX, mI_ne (by omega), mI_ne (by omega), mI_eq]
      · rw [hX, mI_ne (by omega), mI_eq]
      · rw [hX, mI_eq]
    cases W with
    | true =>
      rw [if_pos (by decide), relC M (Keep.rfl'.mono (by omega))] at hA1
      have hLc : Lay (uI (uI (uI M 263 (aTi (pk 0) t) 1) 97 (aLe (pk 0) lv) (x - 1)) 98 (aLe (pk 0) lv) (nI (ex + 1))) := hL
      have e2 := hB1 _ hLc (fun k => by rw [mI_ne (by omega), mI_ne (by omega), mI_ne (by omega)])
      rw [if_pos (by decide), ← hX] at e2
      exact ⟨_, _, X, hA1, S1 _ hLc, e2, n, vc, m, hi⟩
    | false =>
      obtain ⟨M1, e1, q1⟩ := due_c (at' := m) (lo := lo) hL (show t < 512 by omega) hCT hK hb.2.2.2.2.1 (by omega) hC hπ hb.2.1 m1 (by omega) hb.2.2.2.1 hb.2.2.2.2.2.2.1
      have hgb := grossS_bd hπ en m lo hK
      obtain ⟨d, hd⟩ : ∃ d, d = dueS π en m gv lo pd K A := ⟨_, rfl⟩
      rw [← hd] at e1
      have hdb : d ≤ 19980000 := by rw [hd]; unfold dueS; omega
      have hk1 := Keep.gr hL q1
      have hL1 := hk1.Lay hL
      have i2 : ∀ k, mI M1 k 2180 = mI M k 2180 := fun k => (hk1.2.2.2 2180 (by omega)).2.1 k (by omega)
      rw [if_neg (by decide), rc_at (by rw [hpk]), e1, cl_some] at hA1
      have dueR : ∀ Mc, Lay Mc → (∀ k, mI Mc k 2180 = mI M k 2180) → ∃ M2, m_X11_dueAt Mc (some 2179) (nI t) (nI m) = some (nI d, M2) ∧ Sc Mc M2 := by
        intro Mc hLc hic
        rw [hd]
        exact due_r (at' := m) (lo := lo) hLc (show t < 512 by omega) (hRT.of hic) hK hb.2.2.2.2.1 (show pl < 4 by omega) (hR.of hic) hπ hb.2.1 m1 hb.2.2.2.1 hb.2.2.2.2.2.2.1
      by_cases hd0 : d = 0
      · rw [if_pos (show nI d ≤ 0 by rw [hd0]; decide), relC M1 hk1] at hA1
        have hLc : Lay (uI (uI (uI M1 263 (aTi (pk 0) t) 1) 97 (aLe (pk 0) lv) (x - 1)) 98 (aLe (pk 0) lv) (nI (ex + 1))) := hL1
        have hic : ∀ k, mI (uI (uI (uI M1 263 (aTi (pk 0) t) 1) 97 (aLe (pk 0) lv) (x - 1)) 98 (aLe (pk 0) lv) (nI (ex + 1))) k 2180 = mI M k 2180 := fun k => by rw [mI_ne (by omega), mI_ne (by omega), mI_ne (by omega)]; exact i2 k
        obtain ⟨M2, e2, s2⟩ := dueR _ hLc hic
        have e3 := hB1 _ hLc hic
        rw [if_neg (by decide), rc_at (S1 _ hLc), e2, cl_some, if_pos (show nI d ≤ 0 by rw [hd0]; decide), relR M2 (s2.Lay hLc) (fun k => (s2.R k (by omega)).trans (hic k))] at e3
        refine ⟨_, _, _, hA1, S1 _ hLc, e3, n, vc, m, hi.keep0 ?_ (by rw [eN f3, eL f3]; exact h.2.2.1)⟩
        rw [hX]
        exact (((((((hk1.uI _ _ _).uI _ _ _).uI _ _ _).trans (Keep.sc s2)).uI _ _ _).uI _ _ _).uI _ _ _).uI _ _ _ |>.mono (by omega)
      · have hd1 : ¬ nI d ≤ 0 := fun h9 => hd0 (by have := (i_le (b := 0) (by omega) (by omega)).mp h9; omega)
        rw [if_neg hd1] at hA1
        obtain ⟨M2, e2, s2⟩ := dueR M1 hL1 i2
        refine Op.same h hc hA1 (hk1.mono (by omega)) ?_ s2
        show m_X11_leave M1 _ _ = _
        rw [hB1 M1 hL1 i2, if_neg (by decide), rc_at (S1 _ hL1), e2, cl_some, if_neg hd1]; rfl
