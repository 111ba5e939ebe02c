/-! ===== the call pay ===== -/
theorem addR (a d b : Int32) : a + d + b = a + b + d := by rw [Int32.add_assoc, Int32.add_comm d b, ← Int32.add_assoc]
theorem pay_inv {cnt n vc m t pl en lv pd gv lo d : Nat} {la la' : Int32} {Vn K A : Nat → Nat} {M X : Mem} (h : Inv cnt n vc m M) (hc : cnt < 512) (ht : t < n) (hT : TkP vc m M t pl en lv pd gv 0 lo la Vn K A) (f3 : X.2 = M.2) (hd : pd + d ≤ 19980000) (hla : la' = -1 ∨ ∃ z, z ≤ m ∧ la' = nI z)
    (f2 : ∀ k a, ¬ (a = aTi (pk 0) t ∧ (k = 261 ∨ k = 262)) → ¬ (a = 2180 ∧ (k = 1003 ∨ k = 1004 + pl ∨ k = 1000 + (169 + 12 * t + 3) ∨ k = 1000 + (169 + 12 * t + 7))) → mI X k a = mI M k a)
    (x1 : mI X 261 (aTi (pk 0) t) = nI (pd + d)) (x2 : mI X 262 (aTi (pk 0) t) = la') (x3 : mI X (1000 + (169 + 12 * t + 3)) 2180 = nI (pd + d)) (x4 : mI X (1000 + (169 + 12 * t + 7)) 2180 = la') (x5 : mI X 1003 2180 = mI M 1003 2180 + nI d) (x6 : mI X (1004 + pl) 2180 = mI M (1004 + pl) 2180 + nI d) : Inv (cnt + 1) n vc m X := by
  have hP := h.2.2.2.1
  have hn := h.n512
  have hpp : pk 0 = 1 := rfl
  have ea : aTi (pk 0) t = 59 + 2 * t := by unfold aTi pk; omega
  have eb : aTv (pk 0) t = 60 + 2 * t := by unfold aTv pk; omega
  obtain ⟨hb, hCf, hRf, hCT, hRT, hK, hVn⟩ := id hT
  obtain ⟨a1, a2, a3, a4, a5, a6, a7, a8⟩ := hCf
  obtain ⟨b1, b2, b3, b4, b5, b6, b7, b8⟩ := hRf
  obtain ⟨-, vc', w1, w2, w3⟩ := id hCT
  refine h.of1 hc f3 (fun k a h1 h2 h3 h4 => f2 k a (by omega) (by omega)) ?_
  refine hP.tick (by omega) ht f3 (fun k a h9 => f2 k a (by omega) (by omega)) (hP.2.1.of (f2 _ _ (by omega) (by omega)) (fun k' a' h8 h9 => f2 k' a' (by omega) (by omega)) (f2 _ _ (by omega) (by omega)) (fun k' h8 h9 => f2 _ _ (by omega) (by omega))) (hP.2.2.2.1.of (by omega) (fun k' a' h8 h9 => f2 k' a' (by omega) (by omega)) (fun a _ _ => eF f3 _ a) (fun k' h8 h9 => f2 _ _ (by omega) (by omega)) (fun k => eF f3 k _)) ?_ ?_
  · refine ⟨pl, en, lv, pd + d, gv, 0, lo, la', ⟨hb.1, hb.2.1, hb.2.2.1, hd, hb.2.2.2.2.1, by omega, hb.2.2.2.2.2.2.1, hla⟩, ⟨(f2 _ _ (by omega) (by omega)).trans a1, (f2 _ _ (by omega) (by omega)).trans a2, (f2 _ _ (by omega) (by omega)).trans a3, x1, (f2 _ _ (by omega) (by omega)).trans a5, (f2 _ _ (by omega) (by omega)).trans a6, (f2 _ _ (by omega) (by omega)).trans a7, x2⟩,
      ⟨(f2 _ _ (by omega) (by omega)).trans b1, (f2 _ _ (by omega) (by omega)).trans b2, (f2 _ _ (by omega) (by omega)).trans b3, x3, (f2 _ _ (by omega) (by omega)).trans b5, (f2 _ _ (by omega) (by omega)).trans b6, (f2 _ _ (by omega) (by omega)).trans b7, x4⟩, fun j hj => ?_⟩
    obtain ⟨z1, z2, z3, z4⟩ := w3 j hj
    obtain ⟨y1, y2, y3, y4⟩ := hRT.2 j hj
    exact ⟨Vn j, hVn j hj, (f2 _ _ (by omega) (by omega)).trans z2, (f2 _ _ (by omega) (by omega)).trans y2⟩
  · obtain ⟨⟨lf, s1, s2, s3, s4, s5, s6, s7⟩, sc⟩ := hP.2.2.2.2.2.2
    refine ⟨⟨lf, s1, s2, (f2 _ _ (by omega) (by omega)).trans s3, ?_, ?_, fun k hk => ?_, ?_⟩, sc.of (fun l9 h9 => f2 _ _ (by omega) (by omega)) (fun s hs j hj => f2 _ _ (by omega) (by omega))⟩
    · rw [← s4]; exact si_of (fun s hs => f2 _ _ (by omega) (by omega))
    · exact ((f2 _ _ (by omega) (by omega)).trans s5).trans (si_of (fun s hs => (f2 _ _ (by omega) (by omega)).symm))
    · have hoth : ∀ s, s < n → s ≠ t → paidT X 2180 k s = paidT M 2180 k s := by
        intro s hs hst
        unfold paidT
        rw [f2 (1000 + (169 + 12 * s)) 2180 (by omega) (by omega), f2 (1000 + (169 + 12 * s + 3)) 2180 (by omega) (by omega)]
      by_cases hkp : k = pl
      · rw [show 1000 + (4 + k) = 1004 + pl by omega, x6, show 1004 + pl = 1000 + (4 + k) by omega, s6 k hk]
        refine (si_add (t := t) ht hoth ?_).symm
        unfold paidT
        rw [f2 (1000 + (169 + 12 * t)) 2180 (by omega) (by omega), b1, hkp, if_pos rfl, if_pos rfl, x3, b4, nI_add]
      · rw [f2 _ _ (by omega) (by omega), s6 k hk]
        refine si_of (fun s hs => ?_)
        by_cases hst : s = t
        · have hne : ¬ nI pl = nI k := fun h9 => hkp ((i_eq (by omega) (by omega)).mp h9).symm
          unfold paidT
          rw [hst, f2 (1000 + (169 + 12 * t)) 2180 (by omega) (by omega), b1, if_neg hne, if_neg hne]
        · exact (hoth s hs hst).symm
    · rw [x5, s7]
      have hb1 := hb.1
      rcases (show pl = 0 ∨ pl = 1 ∨ pl = 2 ∨ pl = 3 by omega) with e | e | e | e
      · subst e
        rw [show mI X 1004 2180 = _ from x6, f2 1005 2180 (by omega) (by omega), f2 1006 2180 (by omega) (by omega), f2 1007 2180 (by omega) (by omega)]
        rw [addR _ (nI d) _, addR _ (nI d) _, addR _ (nI d) _]
      · subst e
        rw [show mI X 1005 2180 = _ from x6, f2 1004 2180 (by omega) (by omega), f2 1006 2180 (by omega) (by omega), f2 1007 2180 (by omega) (by omega)]
        rw [← Int32.add_assoc (mI M 1004 2180), addR _ (nI d) _, addR _ (nI d) _]
      · subst e
        rw [show mI X 1006 2180 = _ from x6, f2 1005 2180 (by omega) (by omega), f2 1004 2180 (by omega) (by omega), f2 1007 2180 (by omega) (by omega)]
        rw [← Int32.add_assoc (mI M 1004 2180 + mI M 1005 2180), addR _ (nI d) _]
      · subst e
        rw [show mI X 1007 2180 = _ from x6, f2 1005 2180 (by omega) (by omega), f2 1006 2180 (by omega) (by omega), f2 1004 2180 (by omega) (by omega)]
        rw [← Int32.add_assoc (mI M 1004 2180 + mI M 1005 2180 + mI M 1006 2180)]
theorem pay_op {cnt n vc m : Nat} {M : Mem} (h : Inv cnt n vc m M) (hc : cnt < 512) (p : Int32) : Op cnt M (fun M => m_X10_pay M (some 0) p) (fun M => m_X11_pay M (some 2179) p) := by
  have hL := h.1
  have hP := h.2.2.2.1
  obtain ⟨m1, m2, m3⟩ := hP.imi
  have hpk : mS M (pk 0) = (1, 0) := S_park hL (by omega)
  have hpp : pk 0 = 1 := rfl
  have hn := h.n512
  have hmn := h.mn
  rcases inside_cr h p with ⟨hA, hB⟩ | ⟨t, pl, en, lv, pd, gv, lo, la, Vn, K, A, ht, rfl, hA, hB, hT⟩
  · refine Op.same (M1 := M) (M2 := M) (r := -1) h hc ?_ (Keep.rfl'.mono (by omega)) ?_ Sc.rfl'
    · show m_X10_pay M _ _ = _
      unfold m_X10_pay
      rw [dPark hL, rc_at (by rw [hpk]), hA, cl_some, if_neg (by simp)]; rfl
    · show m_X11_pay M _ _ = _
      unfold m_X11_pay
      rw [rc_at (S1 _ hL), hB, cl_some, if_neg (by decide)]; rfl
  · have hS := S_aTi hL (q := 0) (by omega) (show t < 512 by omega)
    have ea : aTi (pk 0) t = 59 + 2 * t := by unfold aTi pk; omega
    have eb : aTv (pk 0) t = 60 + 2 * t := by unfold aTv pk; omega
    obtain ⟨hb, hCf, hRf, hCT, hRT, hK, hVn⟩ := id hT
    obtain ⟨a1, a2, a3, a4, a5, a6, a7, a8⟩ := hCf
    obtain ⟨b1, b2, b3, b4, b5, b6, b7, b8⟩ := hRf
    obtain ⟨π, hπ, hC, hR⟩ := hP.1 pl (by omega)
    obtain ⟨M1, e1, g1⟩ := due_c (at' := m) (lo := lo) hL (show t < 512 by omega) hCT hK hb.2.2.2.2.1 (by omega) hC hπ hb.2.1 m1 (by omega) hb.2.2.2.1 hb.2.2.2.2.2.2.1
    have hgb := grossS_bd hπ en m lo hK
    obtain ⟨d, hd⟩ : ∃ d, d = dueS π en m gv lo pd K A := ⟨_, rfl⟩
    rw [← hd] at e1
    have hdb : pd + d ≤ 19980000 := by rw [hd]; unfold dueS; have := hb.2.2.2.1; omega
    have hk1 := Keep.gr hL g1
    have hL1 := hk1.Lay hL
    have hS1 := S_aTi hL1 (q := 0) (by omega) (show t < 512 by omega)
    have i1 : ∀ k a, a < 2179 → mI M1 k a = mI M k a := fun k a ha => (hk1.2.2.2 a (by omega)).2.1 k (by omega)
    have i2 : ∀ k, mI M1 k 2180 = mI M k 2180 := fun k => (hk1.2.2.2 2180 (by omega)).2.1 k (by omega)
    have hAA : ∀ Mc, m_X8_takePayment M1 (some (aTi (pk 0) t)) (nI d) (nI m) = some ((), Mc) → m_X10_pay M (some 0) (nI t) = some (nI d, Mc) := by
      intro Mc hMc
      unfold m_X10_pay
      rw [dPark hL, rc_at (by rw [hpk]), hA, cl_some, if_pos (by simp), dPark hL, dPark hL, dI_at (by rw [hpk])]
      show rc M 1 _ (cl (m_X1_dueAmount M _ _ (mI M 39 (pk 0))) _) = _
      rw [m2, rc_at (by rw [hpk]), e1, cl_some, dPark hL1, dI_at (by rw [S_park hL1 (by omega)])]
      show rc M1 8 _ (cl (m_X8_takePayment M1 _ _ (mI M1 39 (pk 0))) _) = _
      rw [i1 39 (pk 0) (by omega), m2, rc_at (by rw [hS1]), hMc]; rfl
    -- the reference, from any memory that keeps its row
    have hBB : ∀ Mc, Lay Mc → (∀ k, mI Mc k 2180 = mI M k 2180) → ∃ M2, Sc Mc M2 ∧ m_X11_pay Mc (some 2179) (nI t) = some (nI d, uI (uI (if d = 0 then uI M2 (1000 + (169 + 12 * t + 3)) 2180 (nI (pd + d)) else uI (uI M2 (1000 + (169 + 12 * t + 3)) 2180 (nI (pd + d))) (1000 + (169 + 12 * t + 7)) 2180 (nI m)) 1003 2180 (mI M 1003 2180 + nI d)) (1000 + (4 + pl)) 2180 (mI M (1000 + (4 + pl)) 2180 + nI d)) := by
      intro Mc hLc hic
      obtain ⟨M2, e2, g2⟩ := due_r (at' := m) (lo := lo) hLc (show t < 512 by omega) (hRT.of hic) hK hb.2.2.2.2.1 (show pl < 4 by omega) (hR.of hic) hπ hb.2.1 m1 hb.2.2.2.1 hb.2.2.2.2.2.2.1
      rw [← hd] at e2
      refine ⟨M2, g2, ?_⟩
      have hL2 := g2.Lay hLc
      have j2 : ∀ k, mI M2 k 2180 = mI M k 2180 := fun k => (g2.R k (by omega)).trans (hic k)
      have e3 : (3 : Int32) = nI 3 := rfl
      have e4 : (4 : Int32) = nI 4 := rfl
      have e7 : (7 : Int32) = nI 7 := rfl
      unfold m_X11_pay jn
      dsimp only
      rw [rc_at (S1 _ hLc), isInside_keep h ht hLc ((hic _).trans hP.2.2.2.2.1.2.2.1) ((hic _).trans b6), cl_some, if_pos (by decide), dS hLc]
      show aI Mc 100 (some 2180) (nI 0) _ = _
      rw [s_at hLc (by omega)]
      show rc Mc 11 _ (cl (m_X11_dueAt Mc _ _ (mI Mc 1000 2180)) _) = _
      rw [(hic 1000).trans m3, rc_at (S1 _ hLc), e2, cl_some, rc_at (S1 _ hL2), e3, item_r hL2 (by omega) (by omega), cl_some, j2, b4, nI_add, rc_at (S1 _ hL2), set_r hL2 (by omega) (by omega), cl_some]
      have tail : ∀ Md, Lay Md → mI Md 1003 2180 = mI M 1003 2180 → mI Md (1000 + (169 + 12 * t)) 2180 = nI pl → mI Md (1000 + (4 + pl)) 2180 = mI M (1000 + (4 + pl)) 2180 → dP Md 11 0 (some 2179) (fun (q12 : Option Nat) => aI Md 100 q12 (nI 3) (fun (x13 : Int32) => sI Md 100 q12 (nI 3) ((x13 + nI d)) (fun (M14 : Mem) => dP M14 11 0 (some 2179) (fun (q15 : Option Nat) => rc M14 11 (some 2179) (cl (m_X11_item M14 (some 2179) (nI t) 0) (fun (x17 : Int32) (M16 : Mem) => aI M16 100 q15 ((4 + x17)) (fun (x18 : Int32) => sI M16 100 q15 ((4 + x17)) ((x18 + nI d)) (fun (M19 : Mem) => rt (nI d) M19)))))))) = some (nI d, uI (uI Md 1003 2180 (mI M 1003 2180 + nI d)) (1000 + (4 + pl)) 2180 (mI M (1000 + (4 + pl)) 2180 + nI d)) := by
        intro Md hLd v1 v2 v3
        have e30 : 1000 + 3 = 1003 := rfl
        rw [dS hLd, s_at hLd (by omega), s_set hLd (by omega), e30, v1, dS (hLd.uI _ _ _), rc_at (S1 _ (hLd.uI _ _ _)), show m_X11_item (uI Md 1003 2180 (mI M 1003 2180 + nI d)) (some 2179) (nI t) 0 = _ from item_r (hLd.uI _ _ _) (show t < 512 by omega) (j := 0) (by omega), cl_some, show 1000 + (169 + 12 * t + 0) = 1000 + (169 + 12 * t) by omega, mI_ne (by omega), v2, e4, nI_add, s_at (hLd.uI _ _ _) (by have := hb.1; omega), s_set (hLd.uI _ _ _) (by have := hb.1; omega), mI_ne (by omega), v3]; rfl
      by_cases hd0 : d = 0
      · rw [if_pos (show nI d ≤ 0 by rw [hd0]; decide), if_pos hd0]
        exact tail _ (hL2.uI _ _ _) (by rw [mI_ne (by omega), j2]) (by rw [mI_ne (by omega), j2]; exact b1) (by rw [mI_ne (by omega), j2])
      · have hd1 : ¬ nI d ≤ 0 := fun h9 => hd0 (by have := (i_le (b := 0) (by omega) (by omega)).mp h9; omega)
        rw [if_neg hd1, if_neg hd0, dS (hL2.uI _ _ _)]
        show aI _ 100 (some 2180) (nI 0) _ = _
        rw [s_at (hL2.uI _ _ _) (by omega), mI_ne (by omega), j2]
        show rc _ 11 _ (cl (m_X11_set _ _ _ _ (mI M 1000 2180)) _) = _
        rw [m3, rc_at (S1 _ (hL2.uI _ _ _)), e7, set_r (hL2.uI _ _ _) (by omega) (by omega), cl_some]
        exact tail _ ((hL2.uI _ _ _).uI _ _ _) (by rw [mI_ne (by omega), mI_ne (by omega), j2]) (by rw [mI_ne (by omega), mI_ne (by omega), j2]; exact b1) (by rw [mI_ne (by omega), mI_ne (by omega), j2])
    have hbb := hb.1
    by_cases hd0 : d = 0
    · have hMc : m_X8_takePayment M1 (some (aTi (pk 0) t)) (nI d) (nI m) = some ((), M1) := by
        unfold m_X8_takePayment
        rw [if_pos (show nI d ≤ 0 by rw [hd0]; decide)]; rfl
      obtain ⟨M2, g2, e2⟩ := hBB M1 hL1 i2
      rw [if_pos hd0] at e2
      obtain ⟨X, hX⟩ : ∃ X, X = uI (uI (uI M (1000 + (169 + 12 * t + 3)) 2180 (nI (pd + d))) 1003 2180 (mI M 1003 2180 + nI d)) (1000 + (4 + pl)) 2180 (mI M (1000 + (4 + pl)) 2180 + nI d) := ⟨_, rfl⟩
      have f3 : X.2 = M.2 := by rw [hX]; rfl
      have hi : Inv (cnt + 1) n vc m X := by
        refine pay_inv (d := d) (la' := la) h hc ht hT f3 hdb hb.2.2.2.2.2.2.2 (fun k a h8 h9 => by rw [hX, mI_ne (by omega), mI_ne (by omega), mI_ne (by omega)]) ?_ ?_ ?_ ?_ ?_ ?_
        · rw [hX, mI_ne (by omega), mI_ne (by omega), mI_ne (by omega), a4, hd0]; rfl
        · rw [hX, mI_ne (by omega), mI_ne (by omega), mI_ne (by omega), a8]
        · rw [hX, mI_ne (by omega), mI_ne (by omega), mI_eq]
        · rw [hX, mI_ne (by omega), mI_ne (by omega), mI_ne (by omega), b8]
        · rw [hX, mI_ne (by omega), mI_eq]
        · rw [hX, show 1004 + pl = 1000 + (4 + pl) by omega, mI_eq]
      refine ⟨nI d, M1, _, hAA M1 hMc, S1 _ hL1, e2, n, vc, m, hi.keep0 ?_ (by rw [eN f3, eL f3]; exact h.2.2.1)⟩
      rw [hX]
      exact ((((hk1.trans (Keep.sc g2)).uI _ _ _).uI _ _ _).uI _ _ _).mono (by omega)
    · have hd1 : ¬ nI d ≤ 0 := fun h9 => hd0 (by have := (i_le (b := 0) (by omega) (by omega)).mp h9; omega)
      obtain ⟨Mc, hMcd⟩ : ∃ Mc, Mc = uI (uI M1 261 (aTi (pk 0) t) (nI (pd + d))) 262 (aTi (pk 0) t) (nI m) := ⟨_, rfl⟩
      have hMc : m_X8_takePayment M1 (some (aTi (pk 0) t)) (nI d) (nI m) = some ((), Mc) := by
        unfold m_X8_takePayment
        rw [if_neg hd1, dI_at (by rw [hS1]), pI_at (by rw [hS1]), pI_at (by rw [mS_uI, hS1])]
        show rt () (uI (uI M1 261 (aTi (pk 0) t) (mI M1 261 (aTi (pk 0) t) + nI d)) 262 (aTi (pk 0) t) (nI m)) = _
        rw [i1 261 _ (by omega), a4, nI_add, ← hMcd]; rfl
      have hLc : Lay Mc := by rw [hMcd]; exact hL1
      obtain ⟨M2, g2, e2⟩ := hBB Mc hLc (fun k => by rw [hMcd, mI_ne (by omega), mI_ne (by omega), i2])
      rw [if_neg hd0] at e2
      obtain ⟨X, hX⟩ : ∃ X, X = uI (uI (uI (uI (uI (uI M 261 (aTi (pk 0) t) (nI (pd + d))) 262 (aTi (pk 0) t) (nI m)) (1000 + (169 + 12 * t + 3)) 2180 (nI (pd + d))) (1000 + (169 + 12 * t + 7)) 2180 (nI m)) 1003 2180 (mI M 1003 2180 + nI d)) (1000 + (4 + pl)) 2180 (mI M (1000 + (4 + pl)) 2180 + nI d) := ⟨_, rfl⟩
      have f3 : X.2 = M.2 := by rw [hX]; rfl
      have hi : Inv (cnt + 1) n vc m X := by
        refine pay_inv (d := d) (la' := nI m) h hc ht hT f3 hdb (Or.inr ⟨m, Nat.le_refl _, rfl⟩) (fun k a h8 h9 => by rw [hX, mI_ne (by omega), mI_ne (by omega), mI_ne (by omega), mI_ne (by omega), mI_ne (by omega), mI_ne (by omega)]) ?_ ?_ ?_ ?_ ?_ ?_
        · rw [hX, mI_ne (by omega), mI_ne (by omega), mI_ne (by omega), mI_ne (by omega), mI_ne (by omega), mI_eq]
        · rw [hX, mI_ne (by omega), mI_ne (by omega), mI_ne (by omega), mI_ne (by omega), mI_eq]
        · rw [hX, mI_ne (by omega), mI_ne (by omega), mI_ne (by omega), mI_eq]
        · rw [hX, mI_ne (by omega), mI_ne (by omega), mI_eq]
        · rw [hX, mI_ne (by omega), mI_eq]
        · rw [hX, show 1004 + pl = 1000 + (4 + pl) by omega, mI_eq]
      refine ⟨nI d, Mc, _, hAA Mc hMc, S1 _ hLc, e2, n, vc, m, hi.keep0 ?_ (by rw [eN f3, eL f3]; exact h.2.2.1)⟩
      have kc : Keep 1 (uI (uI M 261 (aTi (pk 0) t) (nI (pd + d))) 262 (aTi (pk 0) t) (nI m)) Mc := by rw [hMcd]; exact (hk1.uI _ _ _).uI _ _ _
      rw [hX]
      exact (((((kc.trans (Keep.sc g2)).uI _ _ _).uI _ _ _).uI _ _ _).uI _ _ _).mono (by omega)
