/-! ===== the calls ticket, due, step ===== -/
/-- a ticket's numbers, laid open -/
def TkP (vc m : Nat) (M : Mem) (t pl en lv pd gv go lo : Nat) (la : Int32) (Vn K A : Nat → Nat) : Prop := (pl ≤ 3 ∧ en ≤ m ∧ lv ≤ 3 ∧ pd ≤ 19980000 ∧ gv ≤ 4 ∧ go ≤ 1 ∧ lo ≤ 1 ∧ (la = -1 ∨ ∃ z, z ≤ m ∧ la = nI z)) ∧
  (mI M 258 (aTi (pk 0) t) = nI pl ∧ mI M 259 (aTi (pk 0) t) = nI en ∧ mI M 260 (aTi (pk 0) t) = nI lv ∧ mI M 261 (aTi (pk 0) t) = nI pd ∧ mI M 257 (aTi (pk 0) t) = nI gv ∧ mI M 263 (aTi (pk 0) t) = nI go ∧ mI M 264 (aTi (pk 0) t) = nI lo ∧ mI M 262 (aTi (pk 0) t) = la) ∧
  (mI M (1000 + (169 + 12 * t)) 2180 = nI pl ∧ mI M (1000 + (169 + 12 * t + 1)) 2180 = nI en ∧ mI M (1000 + (169 + 12 * t + 2)) 2180 = nI lv ∧ mI M (1000 + (169 + 12 * t + 3)) 2180 = nI pd ∧ mI M (1000 + (169 + 12 * t + 4)) 2180 = nI gv ∧ mI M (1000 + (169 + 12 * t + 5)) 2180 = nI go ∧ mI M (1000 + (169 + 12 * t + 6)) 2180 = nI lo ∧ mI M (1000 + (169 + 12 * t + 7)) 2180 = la) ∧
  CT M t pl en pd gv lo Vn K A ∧ RT M t pl en pd gv lo Vn K A ∧ GK gv K A ∧ ∀ j, j < gv → Vn j < vc
theorem toN {n : Nat} (h : n < 2147483648) : (nI n).toInt.toNat = n := by rw [tI n h]; rfl
theorem tick_of {vc m t : Nat} {M : Mem} (hV : IVo vc M 0 2180) (h : TkOK vc m M (aTi (pk 0) t) (aTv (pk 0) t) 2180 (169 + 12 * t)) : ∃ pl en lv pd gv go lo la Vn K A, TkP vc m M t pl en lv pd gv go lo la Vn K A := by
  obtain ⟨pl, en, lv, pd, gv, go, lo, la, h1, h2, h3, h4⟩ := h
  obtain ⟨v1, v2, v3, v4⟩ := hV
  have key : ∀ j, j < gv → ∃ v, ∃ k a : Nat, v < vc ∧ mI M (1000 + j) (aTv (pk 0) t) = nI v ∧ mI M (1000 + (169 + 12 * t + 8 + j)) 2180 = nI v ∧ k ≤ 3 ∧ a ≤ 999 ∧ (k = 1 → a ≤ 100) ∧ mI M 288 (aVo (pk 0) v) = nI k ∧ mI M 289 (aVo (pk 0) v) = nI a ∧ mI M (1000 + (102 + 3 * v)) 2180 = nI k ∧ mI M (1000 + (102 + 3 * v + 1)) 2180 = nI a := by
    intro j hj
    obtain ⟨v, a1, a2, a3⟩ := h4 j hj
    obtain ⟨k, a, g, g1, g2, g3, g4, g5, g6, g7, g8, g9⟩ := v4 v a1
    exact ⟨v, k, a, a1, a2, a3, g1, g2, g3, g4, g5, g7, g8⟩
  obtain ⟨Vn, hVn⟩ : ∃ Vn : Nat → Nat, Vn = fun j => (mI M (1000 + j) (aTv (pk 0) t)).toInt.toNat := ⟨_, rfl⟩
  obtain ⟨K, hK⟩ : ∃ K : Nat → Nat, K = fun j => (mI M 288 (aVo (pk 0) (Vn j))).toInt.toNat := ⟨_, rfl⟩
  obtain ⟨A, hA⟩ : ∃ A : Nat → Nat, A = fun j => (mI M 289 (aVo (pk 0) (Vn j))).toInt.toNat := ⟨_, rfl⟩
  have key2 : ∀ j, j < gv → Vn j < vc ∧ mI M (1000 + j) (aTv (pk 0) t) = nI (Vn j) ∧ mI M (1000 + (169 + 12 * t + 8 + j)) 2180 = nI (Vn j) ∧ K j ≤ 3 ∧ A j ≤ 999 ∧ (K j = 1 → A j ≤ 100) ∧ mI M 288 (aVo (pk 0) (Vn j)) = nI (K j) ∧ mI M 289 (aVo (pk 0) (Vn j)) = nI (A j) ∧ mI M (1000 + (102 + 3 * Vn j)) 2180 = nI (K j) ∧ mI M (1000 + (102 + 3 * Vn j + 1)) 2180 = nI (A j) := by
    intro j hj
    obtain ⟨v, k, a, a1, a2, a3, a4, a5, a6, a7, a8, a9, a10⟩ := key j hj
    have e1 : Vn j = v := by rw [hVn]; show (mI M (1000 + j) (aTv (pk 0) t)).toInt.toNat = v; rw [a2]; exact toN (by omega)
    have e2 : K j = k := by rw [hK]; show (mI M 288 (aVo (pk 0) (Vn j))).toInt.toNat = k; rw [e1, a7]; exact toN (by omega)
    have e3 : A j = a := by rw [hA]; show (mI M 289 (aVo (pk 0) (Vn j))).toInt.toNat = a; rw [e1, a8]; exact toN (by omega)
    rw [e1, e2, e3]
    exact ⟨a1, a2, a3, a4, a5, a6, a7, a8, a9, a10⟩
  refine ⟨pl, en, lv, pd, gv, go, lo, la, Vn, K, A, h1, h2, h3, ⟨⟨h2.1, h2.2.1, h2.2.2.2.1, h2.2.2.2.2.1, h2.2.2.2.2.2.2.1⟩, vc, v1, v2, fun j hj => ?_⟩, ⟨⟨h3.1, h3.2.1, h3.2.2.2.1, h3.2.2.2.2.1, h3.2.2.2.2.2.2.1⟩, fun j hj => ?_⟩, fun j hj => ?_, fun j hj => (key2 j hj).1⟩
  · obtain ⟨b1, b2, b3, b4, b5, b6, b7, b8, b9, b10⟩ := key2 j hj
    exact ⟨b1, b2, b7, b8⟩
  · obtain ⟨b1, b2, b3, b4, b5, b6, b7, b8, b9, b10⟩ := key2 j hj
    exact ⟨by omega, b3, b9, b10⟩
  · obtain ⟨b1, b2, b3, b4, b5, b6, b7, b8, b9, b10⟩ := key2 j hj
    exact ⟨b4, b5, b6⟩
theorem ticketAt_y {M : Mem} (h : Lay M) {t n : Nat} (hn : n ≤ 512) (e38 : mI M 38 (pk 0) = nI n) (ht : t < n) : m_X1_ticketAt M (some (pk 0)) (nI t) = some (some (aTi (pk 0) t), M) := by
  unfold m_X1_ticketAt jn
  dsimp only
  have hw : (0 : Int32) ≤ nI t ∧ nI t ≤ 511 := ⟨le_n (a := 0) (by omega) (by omega), le_n (b := 511) (by omega) (by omega)⟩
  rw [within_y hw, cl_some, if_neg (by decide), dI_at (by rw [S_park h (by omega)]), e38, if_neg (fun h9 => absurd ((i_le (by omega) (by omega)).mp h9) (by omega)), if_neg (by decide), dP_at (by rw [S_park h (by omega)]), P_tickets h (by omega), aP_at (S_tickets h (by omega)) (by omega) (by omega), P_ticket h (by omega) (by omega)]; rfl
theorem ticketAt_n {M : Mem} (h : Lay M) {x : Int32} {n : Nat} (hn : n ≤ 512) (e38 : mI M 38 (pk 0) = nI n) (hx : ¬ ∃ j, j < n ∧ x = nI j) : m_X1_ticketAt M (some (pk 0)) x = some (none, M) := by
  unfold m_X1_ticketAt jn
  dsimp only
  have e9 : (511 : Int32) = nI 511 := rfl
  rw [e9]
  rcases ix_at (b := 511) (by omega) (by omega) hx with h1 | ⟨h1, h2⟩
  · rw [within_n h1, cl_some, if_pos rfl, if_pos rfl]; rfl
  · rw [within_y h1, cl_some, if_neg (by decide), dI_at (by rw [S_park h (by omega)]), e38, if_pos h2, if_pos rfl]; rfl
/-- is the ticket there, and its car inside: both sides -/
theorem inside_cr {cnt n vc m : Nat} {M : Mem} (h : Inv cnt n vc m M) (x : Int32) : (m_X1_ticketInside M (some (pk 0)) x = some (none, M) ∧ m_X11_isInside M (some 2179) x = some (0, M)) ∨ ∃ t pl en lv pd gv lo la Vn K A, t < n ∧ x = nI t ∧ m_X1_ticketInside M (some (pk 0)) x = some (some (aTi (pk 0) t), M) ∧ m_X11_isInside M (some 2179) x = some (1, M) ∧ TkP vc m M t pl en lv pd gv 0 lo la Vn K A := by
  have hL := h.1
  have hP := h.2.2.2.1
  obtain ⟨t1, t2, t3, t4⟩ := hP.2.2.2.2.1
  have hn := h.n512
  have e1 : (1 : Int32) = nI 1 := rfl
  have hB : m_X11_isInside M (some 2179) x = cl (m_X11_in M x 0 (nI n - 1)) (fun (x4 : Int32) (M3 : Mem) => (if x4 = 0 then rtZ 0 M3 else rc M3 11 (some 2179) (cl (m_X11_item M3 (some 2179) x 5) (fun (x6 : Int32) (M5 : Mem) => (if x6 ≠ 0 then rtZ 0 M5 else rtZ 1 M5))))) := by
    unfold m_X11_isInside
    rw [dS hL]
    show aI M 100 (some 2180) (nI 1) _ = _
    rw [s_at hL (by omega)]
    show cl (m_X11_in M x 0 (mI M 1001 2180 - 1)) _ = _
    rw [t3]
  rcases ix_in M x (n := n) (by omega) with ⟨t, c1, rfl, c2⟩ | ⟨c1, c2⟩
  · have hS := S_aTi hL (q := 0) (by omega) (show t < 512 by omega)
    obtain ⟨pl, en, lv, pd, gv, go, lo, la, Vn, K, A, hT⟩ := tick_of hP.2.1 (t4 t c1)
    have hA : m_X1_ticketInside M (some (pk 0)) (nI t) = (if mI M 263 (aTi (pk 0) t) = 0 then rt (some (aTi (pk 0) t)) M else rt none M) := by
      unfold m_X1_ticketInside
      rw [rc_at (by rw [S_park hL (by omega)]), ticketAt_y hL (by omega) t2 c1, cl_some, if_neg (by simp), dI_at (by rw [hS])]
    rw [c2, cl_some, if_neg (by decide), rc_at (S1 _ hL), show m_X11_item M (some 2179) (nI t) 5 = _ from item_r hL (show t < 512 by omega) (j := 5) (by omega), cl_some, hT.2.2.1.2.2.2.2.2.1] at hB
    rw [hT.2.1.2.2.2.2.2.1] at hA
    by_cases hg : go = 0
    · subst hg
      rw [if_pos (by decide)] at hA
      rw [if_neg (by decide)] at hB
      exact Or.inr ⟨t, pl, en, lv, pd, gv, lo, la, Vn, K, A, c1, rfl, hA, hB, hT⟩
    · have hg1 : go = 1 := by have := hT.1.2.2.2.2.2.1; omega
      subst hg1
      rw [if_neg (by decide)] at hA
      rw [if_pos (by decide)] at hB
      exact Or.inl ⟨hA, hB⟩
  · refine Or.inl ⟨?_, by rw [hB, c2, cl_some, if_pos rfl]; rfl⟩
    unfold m_X1_ticketInside
    rw [rc_at (by rw [S_park hL (by omega)]), ticketAt_n hL (by omega) t2 c1, cl_some, if_pos rfl]; rfl
theorem ticket_op {cnt n vc m : Nat} {M : Mem} (h : Inv cnt n vc m M) (hc : cnt < 512) (p a : Int32) : Op cnt M (fun M => m_X10_ticket M (some 0) p a) (fun M => m_X11_ticket M (some 2179) p a) := by
  have hL := h.1
  have hP := h.2.2.2.1
  obtain ⟨t1, t2, t3, t4⟩ := hP.2.2.2.2.1
  have hn := h.n512
  have e1 : (1 : Int32) = nI 1 := rfl
  have no : ∀ {r : Int32} {g : Mem → Option (Int32 × Mem)}, m_X10_ticket M (some 0) p a = some (r, M) → g M = some (r, M) → Op cnt M (fun M => m_X10_ticket M (some 0) p a) g := fun h9 h8 => Op.same h hc h9 (Keep.rfl'.mono (by omega)) h8 Sc.rfl'
  have hA : m_X10_ticket M (some 0) p a = cl (m_X1_ticketAt M (some (pk 0)) p) (fun (q3 : Option Nat) (M2 : Mem) => (if q3 ≠ none then cl (m_X10_within M2 a 0 7) (fun (x5 : Int32) (M4 : Mem) => (if x5 = 0 then rt ((-2)) M4 else rc M4 8 q3 (cl (m_X8_property M4 q3 a) (fun (x7 : Int32) (M6 : Mem) => rt x7 M6)))) else rt ((-1)) M2)) := by
    unfold m_X10_ticket
    rw [dPark hL, rc_at (by rw [S_park hL (by omega)])]
  have hB : m_X11_ticket M (some 2179) p a = cl (m_X11_in M p 0 (nI n - 1)) (fun (x4 : Int32) (M3 : Mem) => (if x4 ≠ 0 then cl (m_X11_in M3 a 0 7) (fun (x6 : Int32) (M5 : Mem) => (if x6 = 0 then rt ((-2)) M5 else rc M5 11 (some 2179) (cl (m_X11_item M5 (some 2179) p a) (fun (x8 : Int32) (M7 : Mem) => rt x8 M7)))) else rt ((-1)) M3)) := by
    unfold m_X11_ticket
    rw [dS hL]
    show aI M 100 (some 2180) (nI 1) _ = _
    rw [s_at hL (by omega)]
    show cl (m_X11_in M p 0 (mI M 1001 2180 - 1)) _ = _
    rw [t3]
  rcases ix_in M p (n := n) (by omega) with ⟨t, c1, rfl, c2⟩ | ⟨c1, c2⟩
  · have hS := S_aTi hL (q := 0) (by omega) (show t < 512 by omega)
    obtain ⟨pl, en, lv, pd, gv, go, lo, la, hb, hCf, hRf, -⟩ := t4 t c1
    rw [ticketAt_y hL (by omega) t2 c1, cl_some, if_pos (by simp)] at hA
    rw [c2, cl_some, if_pos (by decide)] at hB
    by_cases ha : (0 : Int32) ≤ a ∧ a ≤ 7
    · obtain ⟨j, rfl, -, hj⟩ := nat_of (a := 0) (b := 7) (by omega) ha (by omega)
      obtain ⟨r, r1, r2⟩ : ∃ r, m_X8_property M (some (aTi (pk 0) t)) (nI j) = some (r, M) ∧ mI M (1000 + (169 + 12 * t + j)) 2180 = r := by
        obtain ⟨a1, a2, a3, a4, a5, a6, a7, a8⟩ := hCf
        obtain ⟨b1, b2, b3, b4, b5, b6, b7, b8⟩ := hRf
        unfold m_X8_property
        rcases (show j = 0 ∨ j = 1 ∨ j = 2 ∨ j = 3 ∨ j = 4 ∨ j = 5 ∨ j = 6 ∨ j = 7 by omega) with rfl | rfl | rfl | rfl | rfl | rfl | rfl | rfl
        · exact ⟨_, by rw [if_pos (by decide), dI_at (by rw [hS]), a1]; rfl, b1⟩
        · exact ⟨_, by rw [if_neg (by decide), if_pos (by decide), dI_at (by rw [hS]), a2]; rfl, b2⟩
        · exact ⟨_, by rw [if_neg (by decide), if_neg (by decide), if_pos (by decide), dI_at (by rw [hS]), a3]; rfl, b3⟩
        · exact ⟨_, by rw [if_neg (by decide), if_neg (by decide), if_neg (by decide), if_pos (by decide), dI_at (by rw [hS]), a4]; rfl, b4⟩
        · exact ⟨_, by rw [if_neg (by decide), if_neg (by decide), if_neg (by decide), if_neg (by decide), if_pos (by decide), dI_at (by rw [hS]), a5]; rfl, b5⟩
        · refine ⟨nI go, ?_, b6⟩
          rw [if_neg (by decide), if_neg (by decide), if_neg (by decide), if_neg (by decide), if_neg (by decide), if_pos (by decide), dI_at (by rw [hS]), a6]
          rcases (show go = 0 ∨ go = 1 by omega) with rfl | rfl <;> rfl
        · refine ⟨nI lo, ?_, b7⟩
          rw [if_neg (by decide), if_neg (by decide), if_neg (by decide), if_neg (by decide), if_neg (by decide), if_neg (by decide), if_pos (by decide), dI_at (by rw [hS]), a7]
          rcases (show lo = 0 ∨ lo = 1 by omega) with rfl | rfl <;> rfl
        · exact ⟨_, by rw [if_neg (by decide), if_neg (by decide), if_neg (by decide), if_neg (by decide), if_neg (by decide), if_neg (by decide), if_neg (by decide), dI_at (by rw [hS]), a8]; rfl, b8⟩
      rw [within_y ha, cl_some, if_neg (by decide), rc_at (by rw [hS]), r1] at hA
      rw [in_y ha, cl_some, if_neg (by decide), rc_at (S1 _ hL), item_r hL (by omega) (by omega), r2] at hB
      exact no hA hB
    · rw [within_n ha, cl_some, if_pos rfl] at hA
      rw [in_n ha, cl_some, if_pos rfl] at hB
      exact no hA hB
  · rw [ticketAt_n hL (by omega) t2 c1, cl_some, if_neg (by simp)] at hA
    rw [c2, cl_some, if_neg (by decide)] at hB
    exact no hA hB
/-- what is due, at a minute not before the clock: both sides -/
theorem due_cr {cnt n vc m : Nat} {M : Mem} (h : Inv cnt n vc m M) {t pl en lv pd gv go lo : Nat} {la : Int32} {Vn K A : Nat → Nat} (ht : t < n) (hT : TkP vc m M t pl en lv pd gv go lo la Vn K A) {at' : Nat} (h1 : m ≤ at') (h2 : at' ≤ 99999) : ∃ d M1 M2, d ≤ 19980000 ∧ d + pd ≤ 19980000 ∧ m_X1_dueAmount M (some (pk 0)) (some (aTi (pk 0) t)) (nI at') = some (nI d, M1) ∧ Gr 1 M M1 ∧ m_X11_dueAt M1 (some 2179) (nI t) (nI at') = some (nI d, M2) ∧ Sc M1 M2 := by
  have hL := h.1
  have hmn := h.mn
  have hn := h.n512
  have hb := hT.1
  obtain ⟨π, hπ, hC, hR⟩ := h.2.2.2.1.1 pl (by omega)
  obtain ⟨M1, e1, g1⟩ := due_c (at' := at') (lo := lo) hL (show t < 512 by omega) hT.2.2.2.1 hT.2.2.2.2.2.1 hb.2.2.2.2.1 (by omega) hC hπ (by omega) h2 (by omega) hb.2.2.2.1 hb.2.2.2.2.2.2.1
  have hk := Keep.gr hL g1
  have hI : ∀ k, mI M1 k 2180 = mI M k 2180 := fun k => (hk.2.2.2 2180 (by omega)).2.1 k (by omega)
  obtain ⟨M2, e2, g2⟩ := due_r (at' := at') (lo := lo) (hk.Lay hL) (show t < 512 by omega) (hT.2.2.2.2.1.of hI) hT.2.2.2.2.2.1 hb.2.2.2.2.1 (show pl < 4 by omega) (hR.of hI) hπ (by omega) h2 hb.2.2.2.1 hb.2.2.2.2.2.2.1
  have hgb := grossS_bd hπ en at' lo hT.2.2.2.2.2.1
  exact ⟨_, M1, M2, by unfold dueS; omega, by unfold dueS; omega, e1, g1, e2, g2⟩
theorem due_op {cnt n vc m : Nat} {M : Mem} (h : Inv cnt n vc m M) (hc : cnt < 512) (p a : Int32) : Op cnt M (fun M => m_X10_due M (some 0) p a) (fun M => m_X11_due M (some 2179) p a) := by
  have hL := h.1
  obtain ⟨m1, m2, m3⟩ := h.2.2.2.1.imi
  have e9 : (99999 : Int32) = nI 99999 := rfl
  have hpk : mS M (pk 0) = (1, 0) := S_park hL (by omega)
  have no : ∀ {r : Int32} {g : Mem → Option (Int32 × Mem)}, m_X10_due M (some 0) p a = some (r, M) → g M = some (r, M) → Op cnt M (fun M => m_X10_due M (some 0) p a) g := fun h9 h8 => Op.same h hc h9 (Keep.rfl'.mono (by omega)) h8 Sc.rfl'
  rcases inside_cr h p with ⟨hA, hB⟩ | ⟨t, pl, en, lv, pd, gv, lo, la, Vn, K, A, ht, rfl, hA, hB, hT⟩
  · refine no (r := -1) ?_ ?_
    · unfold m_X10_due
      rw [dPark hL, rc_at (by rw [hpk]), hA, cl_some, if_neg (by simp)]; rfl
    · show m_X11_due M _ _ _ = _
      unfold m_X11_due
      rw [rc_at (S1 _ hL), hB, cl_some, if_neg (by decide)]; rfl
  · have hA1 : m_X10_due M (some 0) (nI t) a = cl (m_X10_within M a (nI m) 99999) (fun (x7 : Int32) (M6 : Mem) => (if x7 ≠ 0 then dP M6 10 0 (some 0) (fun (q8 : Option Nat) => rc M6 1 q8 (cl (m_X1_dueAmount M6 q8 (some (aTi (pk 0) t)) a) (fun (x10 : Int32) (M9 : Mem) => rt x10 M9))) else rt ((-2)) M6)) := by
      unfold m_X10_due
      rw [dPark hL, rc_at (by rw [hpk]), hA, cl_some, if_pos (by simp), dPark hL, dI_at (by rw [hpk])]
      show cl (m_X10_within M a (mI M 39 (pk 0)) 99999) _ = _
      rw [m2]
    have hB1 : ∀ M1, Lay M1 → mI M1 1000 2180 = nI m → m_X11_isInside M1 (some 2179) (nI t) = some (1, M1) → m_X11_due M1 (some 2179) (nI t) a = cl (m_X11_in M1 a (nI m) 99999) (fun (x6 : Int32) (M5 : Mem) => (if x6 = 0 then rt ((-2)) M5 else rc M5 11 (some 2179) (cl (m_X11_dueAt M5 (some 2179) (nI t) a) (fun (x8 : Int32) (M7 : Mem) => rt x8 M7)))) := by
      intro M1 hL1 hm hB
      unfold m_X11_due
      rw [rc_at (S1 _ hL1), hB, cl_some, if_pos (by decide), dS hL1]
      show aI M1 100 (some 2180) (nI 0) _ = _
      rw [s_at hL1 (by omega), hm]
    by_cases ha : nI m ≤ a ∧ a ≤ 99999
    · obtain ⟨at', rfl, a1, a2⟩ := nat_of (a := m) (b := 99999) (by omega) ha (by omega)
      obtain ⟨d, M1, M2, -, -, e1, g1, e2, g2⟩ := due_cr h ht hT a1 a2
      have hk := Keep.gr hL g1
      have hInv := h.keep hc (hk.mono (by omega))
      have hB2 : m_X11_isInside M1 (some 2179) (nI t) = some (1, M1) := by
        rcases inside_cr hInv (nI t) with ⟨hA', -⟩ | ⟨t', pl', en', lv', pd', gv', lo', la', Vn', K', A', -, -, -, hB', -⟩
        · exfalso
          have hS1 := S_aTi (hk.Lay hL) (q := 0) (by omega) (show t < 512 by have := h.n512; omega)
          unfold m_X1_ticketInside at hA'
          rw [rc_at (by rw [S_park (hk.Lay hL) (by omega)]), ticketAt_y (hk.Lay hL) (by have := h.n512; omega) hInv.2.2.2.1.2.2.2.2.1.2.1 ht, cl_some, if_neg (by simp), dI_at (by rw [hS1])] at hA'
          have e63 : mI M1 (32 * 8 + 7) (aTi (pk 0) t) = 0 := ((hk.2.2.2 _ (by unfold aTi pk; have := h.n512; omega)).2.1 _ (by unfold aTi pk; have := h.n512; omega)).trans hT.2.1.2.2.2.2.2.1
          rw [e63, if_pos rfl] at hA'
          have hx := congrArg (fun z : Option (Option Nat × Mem) => z.map (fun w => w.1)) hA'
          exact absurd hx (by simp [rt])
        · exact hB'
      rw [within_y ha, cl_some, if_pos (by decide), dPark hL, rc_at (by rw [hpk]), e1] at hA1
      refine Op.same h hc hA1 (hk.mono (by omega)) ?_ g2
      show m_X11_due M1 _ _ _ = _
      rw [hB1 M1 (hk.Lay hL) (((hk.2.2.2 2180 (by omega)).2.1 _ (by omega)).trans m3) hB2, in_y ha, cl_some, if_neg (by decide), rc_at (S1 _ (hk.Lay hL)), e2]; rfl
    · rw [within_n ha, cl_some, if_neg (by decide)] at hA1
      refine no hA1 ?_
      show m_X11_due M _ _ _ = _
      rw [hB1 M hL m3 hB, in_n ha, cl_some, if_pos rfl]; rfl
