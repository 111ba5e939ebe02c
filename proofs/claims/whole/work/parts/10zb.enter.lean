/-! ===== the call enter ===== -/
def bstep (fr : Nat → Nat) (sc : Nat → UInt32) (l b : Nat) : Nat := if fr l = 0 then b else if b = 4 then l else if Op.cmpValue (FP.fcmp (sc l) (sc b)) .l ≤ 0 then b else l
def bst (fr : Nat → Nat) (sc : Nat → UInt32) : Nat → Nat → Nat → Nat
  | 0, _, b => b
  | k + 1, l, b => bst fr sc k (l + 1) (bstep fr sc l b)
def vB (b : Nat) : Int32 := if b = 4 then -1 else nI b
theorem bstep_ok {fr : Nat → Nat} {sc : Nat → UInt32} {l b : Nat} (hl : l < 4) (hb : b ≤ 4 ∧ (b ≠ 4 → 0 < fr b)) : bstep fr sc l b ≤ 4 ∧ (bstep fr sc l b ≠ 4 → 0 < fr (bstep fr sc l b)) := by
  unfold bstep
  by_cases h0 : fr l = 0
  · rw [if_pos h0]; exact hb
  · rw [if_neg h0]
    by_cases h1 : b = 4
    · rw [if_pos h1]; exact ⟨by omega, fun _ => by omega⟩
    · rw [if_neg h1]
      by_cases h2 : Op.cmpValue (FP.fcmp (sc l) (sc b)) .l ≤ 0
      · rw [if_pos h2]; exact hb
      · rw [if_neg h2]; exact ⟨by omega, fun _ => by omega⟩
theorem bst_ok {fr : Nat → Nat} {sc : Nat → UInt32} : ∀ (k l b : Nat), l + k ≤ 4 → (b ≤ 4 ∧ (b ≠ 4 → 0 < fr b)) → bst fr sc k l b ≤ 4 ∧ (bst fr sc k l b ≠ 4 → 0 < fr (bst fr sc k l b)) := by
  intro k
  induction k with
  | zero => intro l b _ h; exact h
  | succ k ih => intro l b hl h; exact ih (l + 1) _ (by omega) (bstep_ok (by omega) h)
theorem vB_no {b : Nat} (h : b < 4) : vB b ≠ -1 := by
  unfold vB
  rw [if_neg (by omega)]
  rcases (show b = 0 ∨ b = 1 ∨ b = 2 ∨ b = 3 by omega) with rfl | rfl | rfl | rfl <;> decide
theorem vB_4 : vB 4 = -1 := rfl
theorem vB_n {b : Nat} (h : b < 4) : vB b = nI b := if_neg (by omega)
/-- what both sides read of the levels -/
def LVc (M : Mem) (cap x : Nat → Nat) (r : Nat → UInt32) : Prop := ∀ l, l < 4 → cap l ≤ 40 ∧ x l ≤ cap l ∧ gF (r l) ∧ mI M 96 (aLe (pk 0) l) = nI (cap l) ∧ mI M 97 (aLe (pk 0) l) = nI (x l) ∧ mF M 100 (aLe (pk 0) l) = r l
def LVr (M : Mem) (cap x : Nat → Nat) (r : Nat → UInt32) : Prop := ∀ l, l < 4 → cap l ≤ 40 ∧ x l ≤ cap l ∧ gF (r l) ∧ mI M (1000 + (153 + 4 * l)) 2180 = nI (cap l) ∧ mI M (1000 + (153 + 4 * l + 1)) 2180 = nI (x l) ∧ mF M (1000 + l) 2182 = r l
def scL (cap x : Nat → Nat) (r : Nat → UInt32) (l : Nat) : UInt32 := if cap l = 0 then 0 else scF (cap l - x l) (cap l) (r l)
theorem best_c {M : Mem} (hL : Lay M) {cap x : Nat → Nat} {r : Nat → UInt32} (h : LVc M cap x r) : ∀ (k l fu b : Nat) (s : UInt32), l + k = 4 → k < fu → b ≤ 4 → (b ≠ 4 → s = scL cap x r b) → lp (b_X1_bestLevel_6 (some (pk 0))) fu (vB b, s, nI l, M) = some (vB (bst (fun l => cap l - x l) (scL cap x r) k l b), M) := by
  intro k
  induction k with
  | zero =>
    intro l fu b s hl hfu hb hs
    obtain ⟨fu, rfl⟩ : ∃ z, fu = z + 1 := ⟨fu - 1, by omega⟩
    have e4 : (4 : Int32) = nI 4 := rfl
    rw [lp_succ, b_X1_bestLevel_6]
    refine (if_pos (by rw [e4]; exact le_n (by omega) (by omega))).trans ?_
    rfl
  | succ k ih =>
    intro l fu b s hl hfu hb hs
    obtain ⟨fu, rfl⟩ : ∃ z, fu = z + 1 := ⟨fu - 1, by omega⟩
    have hl4 : l < 4 := by omega
    have hS := S_aLe hL (q := 0) (by omega) hl4
    obtain ⟨g1, g2, g3, g4, g5, g6⟩ := h l hl4
    have hsc : m_X3_score M (some (aLe (pk 0) l)) = some (scL cap x r l, M) := score_c hS g4 g5 g6 (pk_sub g2) (by omega) g1 g3
    have hfree : m_X3_freePlaces M (some (aLe (pk 0) l)) = some (nI (cap l - x l), M) := by
      unfold m_X3_freePlaces
      rw [dI_at (by rw [hS]), dI_at (by rw [hS])]
      show some (mI M 96 (aLe (pk 0) l) - mI M 97 (aLe (pk 0) l), M) = _
      rw [g4, g5, pk_sub g2]
    have cell : ∀ {β : Type} {K : Option Nat → Option β}, dP M 1 3 (some (pk 0)) (fun q => aP M 113 q (nI l) K) = K (some (aLe (pk 0) l)) := by
      intro β K
      rw [dP_at (by rw [S_park hL (by omega)])]
      show aP M 113 (mP M 35 (pk 0)) (nI l) K = _
      rw [P_levels hL (by omega), aP_at (S_levels hL (by omega)) hl4 (by omega), P_level hL (by omega) hl4]
    rw [lp_succ, b_X1_bestLevel_6]
    refine (if_neg (fun h9 : (4 : Int32) ≤ nI l => absurd ((i_le (a := 4) (by omega) (by omega)).mp h9) (by omega))).trans ?_
    show dP M 1 3 (some (pk 0)) (fun q => aP M 113 q (nI l) _) = _
    rw [cell, rc_at (by rw [hS]), hsc, cl_some, cell, rc_at (by rw [hS]), hfree, cl_some]
    unfold jn
    dsimp only
    show _ = some (vB (bst (fun l => cap l - x l) (scL cap x r) k (l + 1) (bstep (fun l => cap l - x l) (scL cap x r) l b)), M)
    rw [nI_1]
    unfold bstep
    by_cases h0 : cap l - x l = 0
    · rw [if_pos (show nI (cap l - x l) ≤ 0 by rw [h0]; decide), if_pos h0]
      exact ih (l + 1) fu b s (by omega) (by omega) hb hs
    · rw [if_neg (fun h9 : nI (cap l - x l) ≤ 0 => h0 (by have := (i_le (b := 0) (by omega) (by omega)).mp h9; omega)), if_neg h0]
      by_cases h1 : b = 4
      · rw [if_pos (show vB b = -1 by rw [h1]; rfl), if_pos h1, ← vB_n hl4]
        exact ih (l + 1) fu l _ (by omega) (by omega) (by omega) (fun _ => rfl)
      · rw [if_neg (vB_no (by omega)), if_neg h1, hs h1]
        by_cases h2 : Op.cmpValue (FP.fcmp (scL cap x r l) (scL cap x r b)) .l ≤ 0
        · rw [if_pos h2, if_pos h2]
          exact ih (l + 1) fu b _ (by omega) (by omega) hb (fun _ => rfl)
        · rw [if_neg h2, if_neg h2, ← vB_n hl4]
          exact ih (l + 1) fu l _ (by omega) (by omega) (by omega) (fun _ => rfl)
theorem best_r {M : Mem} (hL : Lay M) {cap x : Nat → Nat} {r : Nat → UInt32} (h : LVr M cap x r) : ∀ (k l fu b : Nat), l + k = 4 → k < fu → b ≤ 4 → (b ≠ 4 → 0 < cap b - x b) → lp (b_X11_bestLevel_4 (some 2179)) fu (vB b, nI l, M) = some (vB (bst (fun l => cap l - x l) (scL cap x r) k l b), M) := by
  intro k
  induction k with
  | zero =>
    intro l fu b hl hfu hb hs
    obtain ⟨fu, rfl⟩ : ∃ z, fu = z + 1 := ⟨fu - 1, by omega⟩
    have e4 : (4 : Int32) = nI 4 := rfl
    rw [lp_succ, b_X11_bestLevel_4]
    refine (if_pos (by rw [e4]; exact le_n (by omega) (by omega))).trans ?_
    rfl
  | succ k ih =>
    intro l fu b hl hfu hb hs
    obtain ⟨fu, rfl⟩ : ∃ z, fu = z + 1 := ⟨fu - 1, by omega⟩
    have hl4 : l < 4 := by omega
    have hsc : ∀ i, i < 4 → 0 < cap i - x i → m_X11_score M (some 2179) (nI i) = some (scL cap x r i, M) := by
      intro i hi h9
      obtain ⟨g1, g2, g3, g4, g5, g6⟩ := h i hi
      have e : scL cap x r i = scF (cap i - x i) (cap i) (r i) := by unfold scL; rw [if_neg (by omega)]
      rw [e]
      exact score_r hL hi g4 g5 g6 (pk_sub g2) (by omega) (by omega) g1 g3
    obtain ⟨g1, g2, g3, g4, g5, g6⟩ := h l hl4
    have e1 : m_X11_levelPart M (some 2179) (nI l) 1 = some (nI (x l), M) := by
      rw [show m_X11_levelPart M (some 2179) (nI l) 1 = _ from part_r hL hl4 (j := 1) (by omega), g5]
    have e0 : m_X11_levelPart M (some 2179) (nI l) 0 = some (nI (cap l), M) := by
      rw [show m_X11_levelPart M (some 2179) (nI l) 0 = _ from part_r hL hl4 (j := 0) (by omega)]
      exact congrArg (fun z => some (z, M)) g4
    rw [lp_succ, b_X11_bestLevel_4]
    refine (if_neg (fun h9 : (4 : Int32) ≤ nI l => absurd ((i_le (a := 4) (by omega) (by omega)).mp h9) (by omega))).trans ?_
    dsimp only
    rw [rc_at (S1 _ hL), e1, cl_some, rc_at (S1 _ hL), e0, cl_some]
    unfold jn
    dsimp only
    show _ = some (vB (bst (fun l => cap l - x l) (scL cap x r) k (l + 1) (bstep (fun l => cap l - x l) (scL cap x r) l b)), M)
    rw [nI_1]
    unfold bstep
    by_cases h0 : cap l - x l = 0
    · rw [if_pos (show nI (cap l) ≤ nI (x l) from le_n (by omega) (by omega)), if_pos h0]
      exact ih (l + 1) fu b (by omega) (by omega) hb hs
    · rw [if_neg (fun h9 => h0 (by have := (i_le (by omega) (by omega)).mp h9; omega)), if_neg h0]
      by_cases h1 : b = 4
      · rw [if_pos (show vB b = -1 by rw [h1]; rfl), if_pos h1, ← vB_n hl4]
        exact ih (l + 1) fu l (by omega) (by omega) (by omega) (fun _ => by omega)
      · rw [if_neg (vB_no (by omega)), if_neg h1, rc_at (S1 _ hL), hsc l hl4 (by omega), cl_some, rc_at (S1 _ hL), vB_n (show b < 4 by omega), hsc b (by omega) (hs h1), cl_some]
        by_cases h2 : Op.cmpValue (FP.fcmp (scL cap x r l) (scL cap x r b)) .l ≤ 0
        · rw [if_pos h2, if_pos h2, ← vB_n (show b < 4 by omega)]
          exact ih (l + 1) fu b (by omega) (by omega) hb hs
        · rw [if_neg h2, if_neg h2, ← vB_n hl4]
          exact ih (l + 1) fu l (by omega) (by omega) (by omega) (fun _ => by omega)
/-- the cars of a level are counted, none below zero -/
theorem cars_nat {cnt n vc m : Nat} {M : Mem} (h : Inv cnt n vc m M) {l : Nat} (hl : l < 4) : ∃ x, x ≤ n ∧ mI M (1000 + (153 + 4 * l + 1)) 2180 = nI x := by
  have hI := h.2.2.2.1.2.2.2.2.2.2.2 l hl
  rw [hI]
  refine ⟨_, sn_le (b := fun t => if mI M (1000 + (169 + 12 * t + 2)) 2180 = nI l ∧ mI M (1000 + (169 + 12 * t + 5)) 2180 = 0 then 1 else 0) (n := n) (fun t _ => by split <;> omega), si_sn (fun t _ => ?_)⟩
  unfold inT
  by_cases h9 : mI M (1000 + (169 + 12 * t + 2)) 2180 = nI l ∧ mI M (1000 + (169 + 12 * t + 5)) 2180 = 0
  · rw [if_pos h9, if_pos h9]; rfl
  · rw [if_neg h9, if_neg h9]; rfl
/-- the reference's twelve zeros -/
theorem fill_r {J : Mem → Option (Int32 × Mem)} {n : Nat} (hn : n < 512) : ∀ (k i fu : Nat) (M : Mem), i + k = 12 → k < fu → Lay M → ∃ M1, lp (b_X11_enter_42 (some 2179) (nI n) J) fu (nI i, M) = J M1 ∧ M1.2 = M.2 ∧ (∀ k a, ¬ (a = 2180 ∧ 1169 + 12 * n + i ≤ k ∧ k < 1181 + 12 * n) → mI M1 k a = mI M k a) ∧ ∀ j, i ≤ j → j < 12 → mI M1 (1000 + (169 + 12 * n + j)) 2180 = 0 := by
  intro k
  induction k with
  | zero =>
    intro i fu M hi hfu hL
    obtain ⟨fu, rfl⟩ : ∃ z, fu = z + 1 := ⟨fu - 1, by omega⟩
    have e12 : (12 : Int32) = nI 12 := rfl
    refine ⟨M, ?_, rfl, fun _ _ _ => rfl, fun j h1 h2 => by omega⟩
    rw [lp_succ, b_X11_enter_42]
    exact if_pos (by rw [e12]; exact le_n (by omega) (by omega))
  | succ k ih =>
    intro i fu M hi hfu hL
    obtain ⟨fu, rfl⟩ : ∃ z, fu = z + 1 := ⟨fu - 1, by omega⟩
    obtain ⟨M1, f1, f2, f3, f4⟩ := ih (i + 1) fu (uI M (1000 + (169 + 12 * n + i)) 2180 0) (by omega) (by omega) hL
    refine ⟨M1, ?_, f2, fun k a h9 => (f3 k a (by omega)).trans (mI_ne (by omega)), fun j h1 h2 => ?_⟩
    · rw [lp_succ, b_X11_enter_42]
      refine (if_neg (fun h9 : (12 : Int32) ≤ nI i => absurd ((i_le (a := 12) (by omega) (by omega)).mp h9) (by omega))).trans ?_
      dsimp only
      rw [rc_at (S1 _ hL), set_r hL hn (by omega), cl_some, nI_1]
      exact f1
    · by_cases h5 : i + 1 ≤ j
      · exact f4 j h5 h2
      · rw [show j = i by omega, f3 _ _ (by omega), mI_eq]
/-- a new ticket -/
theorem enter_inv {cnt n vc m z l x : Nat} {en : Int32} {M X : Mem} (h : Inv cnt n vc m M) (hc : cnt < 512) (hz : z ≤ 3) (hl : l < 4) (f3 : X.2 = M.2) (hcap : ∃ cap, mI M 96 (aLe (pk 0) l) = nI cap ∧ cap ≤ 40 ∧ x + 1 ≤ cap) (hin : ∃ lf, mI M 1002 2180 = nI lf ∧ lf ≤ n ∧ n - lf < 40) (y1 : mI M (1000 + (153 + 4 * l + 1)) 2180 = nI x) (y2 : mI M (1000 + (153 + 4 * l + 3)) 2180 = en)
    (f2 : ∀ k a, ¬ (a = aTi (pk 0) n) → ¬ (a = aLe (pk 0) l ∧ (k = 97 ∨ k = 99)) → ¬ (a = pk 0 ∧ k = 38) → ¬ (a = 2180 ∧ (k = 1001 ∨ (1169 + 12 * n ≤ k ∧ k < 1181 + 12 * n) ∨ k = 1000 + (153 + 4 * l + 1) ∨ k = 1000 + (153 + 4 * l + 3))) → mI X k a = mI M k a)
    (x1 : mI X 97 (aLe (pk 0) l) = nI (x + 1)) (x2 : mI X 99 (aLe (pk 0) l) = en + 1) (x3 : mI X 38 (pk 0) = nI (n + 1)) (x4 : mI X 1001 2180 = nI (n + 1)) (x5 : mI X (1000 + (153 + 4 * l + 1)) 2180 = nI (x + 1)) (x6 : mI X (1000 + (153 + 4 * l + 3)) 2180 = en + 1)
    (a1 : mI X 258 (aTi (pk 0) n) = nI z) (a2 : mI X 259 (aTi (pk 0) n) = nI m) (a3 : mI X 260 (aTi (pk 0) n) = nI l) (a4 : mI X 261 (aTi (pk 0) n) = 0) (a5 : mI X 257 (aTi (pk 0) n) = 0) (a6 : mI X 263 (aTi (pk 0) n) = 0) (a7 : mI X 264 (aTi (pk 0) n) = 0) (a8 : mI X 262 (aTi (pk 0) n) = -1)
    (b1 : mI X (1000 + (169 + 12 * n)) 2180 = nI z) (b2 : mI X (1000 + (169 + 12 * n + 1)) 2180 = nI m) (b3 : mI X (1000 + (169 + 12 * n + 2)) 2180 = nI l) (b4 : mI X (1000 + (169 + 12 * n + 3)) 2180 = 0) (b5 : mI X (1000 + (169 + 12 * n + 4)) 2180 = 0) (b6 : mI X (1000 + (169 + 12 * n + 5)) 2180 = 0) (b7 : mI X (1000 + (169 + 12 * n + 6)) 2180 = 0) (b8 : mI X (1000 + (169 + 12 * n + 7)) 2180 = -1) : Inv (cnt + 1) (n + 1) vc m X := by
  have hP := h.2.2.2.1
  have hn := h.n512
  have hpp : pk 0 = 1 := rfl
  have ea : ∀ t, aTi (pk 0) t = 59 + 2 * t := fun t => by unfold aTi pk; omega
  have eb : ∀ t, aTv (pk 0) t = 60 + 2 * t := fun t => by unfold aTv pk; omega
  have el : ∀ l, aLe (pk 0) l = 55 + l := fun l => by unfold aLe pk; omega
  have ean := ea n
  have ell := el l
  obtain ⟨m1, m2, m3⟩ := hP.imi
  obtain ⟨t1, t2, t3, t4⟩ := hP.2.2.2.2.1
  refine h.of1 hc f3 (fun k a h1 h2 h3 h4 => f2 k a (by omega) (by omega) (by omega) (by omega)) ?_
  refine ⟨hP.1.of (fun a _ _ => eS f3 a) (fun k a _ _ => eP f3 k a) (fun k' a' h8 h9 => f2 k' a' (by omega) (by omega) (by omega) (by omega)) (fun k' h8 h9 => f2 _ _ (by omega) (by omega) (by omega) (by omega)),
    hP.2.1.of (f2 _ _ (by omega) (by omega) (by omega) (by omega)) (fun k' a' h8 h9 => f2 k' a' (by omega) (by omega) (by omega) (by omega)) (f2 _ _ (by omega) (by omega) (by omega) (by omega)) (fun k' h8 h9 => f2 _ _ (by omega) (by omega) (by omega) (by omega)),
    hP.2.2.1.of (Nat.le_refl _) (fun k' a' h8 h9 => f2 k' a' (by omega) (by omega) (by omega) (by omega)) (fun k' h8 h9 => f2 _ _ (by omega) (by omega) (by omega) (by omega)), ?_,
    ⟨by omega, x3, x4, fun s hs => ?_⟩, ⟨m1, (f2 _ _ (by omega) (by omega) (by omega) (by omega)).trans m2, (f2 _ _ (by omega) (by omega) (by omega) (by omega)).trans m3⟩, ?_⟩
  · intro l' hl'
    obtain ⟨cap, ex', x', en', r, g1, g2, g3, g4, g5, d1, d2, d3, d4, d5, c1, c2, c3, c4, c5⟩ := hP.2.2.2.1 l' hl'
    have el' := el l'
    by_cases hll : l' = l
    · subst hll
      obtain ⟨cap', q1, q2, q3⟩ := hcap
      have hcc : cap' = cap := (i_eq (by omega) (by omega)).mp (q1.symm.trans d1)
      subst hcc
      have he : en' = en := c4.symm.trans y2
      subst he
      have hxt : (nI (x + 1)).toInt = ((x + 1 : Nat) : Int) := tI _ (by omega)
      exact ⟨cap', ex', nI (x + 1), en' + 1, r, g1, by omega, by rw [hxt]; omega, by rw [hxt]; omega, g5, (f2 _ _ (by omega) (by omega) (by omega) (by omega)).trans d1, x1, (f2 _ _ (by omega) (by omega) (by omega) (by omega)).trans d3, x2, (eF f3 _ _).trans d5, (f2 _ _ (by omega) (by omega) (by omega) (by omega)).trans c1, x5, (f2 _ _ (by omega) (by omega) (by omega) (by omega)).trans c3, x6, (eF f3 _ _).trans c5⟩
    · exact ⟨cap, ex', x', en', r, g1, by omega, by omega, g4, g5, (f2 _ _ (by omega) (by omega) (by omega) (by omega)).trans d1, (f2 _ _ (by omega) (by omega) (by omega) (by omega)).trans d2, (f2 _ _ (by omega) (by omega) (by omega) (by omega)).trans d3, (f2 _ _ (by omega) (by omega) (by omega) (by omega)).trans d4, (eF f3 _ _).trans d5, (f2 _ _ (by omega) (by omega) (by omega) (by omega)).trans c1, (f2 _ _ (by omega) (by omega) (by omega) (by omega)).trans c2, (f2 _ _ (by omega) (by omega) (by omega) (by omega)).trans c3, (f2 _ _ (by omega) (by omega) (by omega) (by omega)).trans c4, (eF f3 _ _).trans c5⟩
  · by_cases hsn : s = n
    · subst hsn
      exact ⟨z, m, l, 0, 0, 0, 0, -1, ⟨hz, Nat.le_refl _, by omega, by omega, by omega, by omega, by omega, Or.inl rfl⟩, ⟨a1, a2, a3, a4, a5, a6, a7, a8⟩, ⟨b1, b2, b3, b4, b5, b6, b7, b8⟩, fun j hj => by omega⟩
    · have es := ea s
      have es' := eb s
      exact (t4 s (by omega)).of (Nat.le_refl _) (Nat.le_refl _) (fun k => f2 _ _ (by omega) (by omega) (by omega) (by omega)) (fun k => f2 _ _ (by omega) (by omega) (by omega) (by omega)) (fun k h8 h9 => f2 _ _ (by omega) (by omega) (by omega) (by omega))
  · obtain ⟨⟨lf, s1, s2, s3, s4, s5, s6, s7⟩, sc⟩ := hP.2.2.2.2.2.2
    obtain ⟨lf', q1, q2, q3⟩ := hin
    have hlf : lf' = lf := (i_eq (by omega) (by omega)).mp (q1.symm.trans s3)
    subst hlf
    refine ⟨⟨lf', by omega, by omega, (f2 _ _ (by omega) (by omega) (by omega) (by omega)).trans s3, ?_, ?_, fun k hk => ?_, ?_⟩, fun l' hl' => ?_⟩
    · show si _ n + mI X (1000 + (169 + 12 * n + 5)) 2180 = _
      rw [b6, ← s4, Int32.add_zero]; exact si_of (fun s hs => f2 _ _ (by omega) (by omega) (by omega) (by omega))
    · show mI X 1008 2180 = si _ n + mI X (1000 + (169 + 12 * n + 6)) 2180
      rw [b7, Int32.add_zero]
      exact ((f2 _ _ (by omega) (by omega) (by omega) (by omega)).trans s5).trans (si_of (fun s hs => (f2 _ _ (by omega) (by omega) (by omega) (by omega)).symm))
    · show mI X (1000 + (4 + k)) 2180 = si _ n + paidT X 2180 k n
      have e0 : paidT X 2180 k n = 0 := by
        unfold paidT
        rw [b4]; split <;> rfl
      rw [e0, Int32.add_zero]
      refine ((f2 _ _ (by omega) (by omega) (by omega) (by omega)).trans (s6 k hk)).trans (si_of (fun s _ => ?_))
      unfold paidT
      rw [f2 (1000 + (169 + 12 * s)) 2180 (by omega) (by omega) (by omega) (by omega), f2 (1000 + (169 + 12 * s + 3)) 2180 (by omega) (by omega) (by omega) (by omega)]
    · rw [f2 1003 2180 (by omega) (by omega) (by omega) (by omega), f2 1004 2180 (by omega) (by omega) (by omega) (by omega), f2 1005 2180 (by omega) (by omega) (by omega) (by omega), f2 1006 2180 (by omega) (by omega) (by omega) (by omega), f2 1007 2180 (by omega) (by omega) (by omega) (by omega)]; exact s7
    · show mI X (1000 + (153 + 4 * l' + 1)) 2180 = si _ n + inT X 2180 l' n
      have hold : si (inT X 2180 l') n = si (inT M 2180 l') n := si_of (fun s hs => by
        unfold inT
        rw [f2 (1000 + (169 + 12 * s + 2)) 2180 (by omega) (by omega) (by omega) (by omega), f2 (1000 + (169 + 12 * s + 5)) 2180 (by omega) (by omega) (by omega) (by omega)])
      rw [hold, ← sc l' hl']
      by_cases hll : l' = l
      · subst hll
        have e1 : inT X 2180 l' n = 1 := by
          unfold inT
          rw [b3, b6, if_pos ⟨rfl, rfl⟩]
        rw [e1, x5, y1, nI_1]
      · have e1 : inT X 2180 l' n = 0 := by
          unfold inT
          rw [b3, if_neg (fun h9 => hll ((i_eq (by omega) (by omega)).mp h9.1).symm)]
        rw [e1, Int32.add_zero]
        exact f2 _ _ (by omega) (by omega) (by omega) (by omega)
theorem enter_op {cnt n vc m : Nat} {M : Mem} (h : Inv cnt n vc m M) (hc : cnt < 512) (p : Int32) : Op cnt M (fun M => m_X10_enter M (some 0) p) (fun M => m_X11_enter M (some 2179) p) := by
  have hL := h.1
  have hP := h.2.2.2.1
  have hn := h.n512
  have hpk : mS M (pk 0) = (1, 0) := S_park hL (by omega)
  have hpp : pk 0 = 1 := rfl
  obtain ⟨m1, m2, m3⟩ := hP.imi
  obtain ⟨t1, t2, t3, t4⟩ := hP.2.2.2.2.1
  obtain ⟨⟨lf, s1, s2, s3, s4, s5, s6, s7⟩, sc⟩ := hP.2.2.2.2.2.2
  have no : ∀ {r : Int32} {g : Mem → Option (Int32 × Mem)}, m_X10_enter M (some 0) p = some (r, M) → g M = some (r, M) → Op cnt M (fun M => m_X10_enter M (some 0) p) g := fun h9 h8 => Op.same h hc h9 (Keep.rfl'.mono (by omega)) h8 Sc.rfl'
  by_cases hp : (0 : Int32) ≤ p ∧ p ≤ 3
  · obtain ⟨z, rfl, -, hz⟩ := nat_of (a := 0) (b := 3) (by omega) hp (by omega)
    -- the levels
    obtain ⟨cap, hcap⟩ : ∃ f : Nat → Nat, f = fun l => (mI M 96 (aLe (pk 0) l)).toInt.toNat := ⟨_, rfl⟩
    obtain ⟨xx, hxx⟩ : ∃ f : Nat → Nat, f = fun l => (mI M 97 (aLe (pk 0) l)).toInt.toNat := ⟨_, rfl⟩
    obtain ⟨r, hr⟩ : ∃ f : Nat → UInt32, f = fun l => mF M 100 (aLe (pk 0) l) := ⟨_, rfl⟩
    have hLV2 : LVc M cap xx r ∧ LVr M cap xx r := by
      refine ⟨fun l hl => ?_, fun l hl => ?_⟩
      · obtain ⟨cap', ex', x', en', r', g1, g2, g3, g4, g5, d1, d2, d3, d4, d5, c1, c2, c3, c4, c5⟩ := hP.2.2.2.1 l hl
        obtain ⟨y, y1, y2⟩ := cars_nat h hl
        have hx' : x' = nI y := c2.symm.trans y2
        have hxt : (nI y).toInt = (y : Int) := tI _ (by omega)
        have e1 : cap l = cap' := by
          rw [hcap]; show (mI M 96 (aLe (pk 0) l)).toInt.toNat = cap'
          rw [d1, toN (by omega)]
        have e2 : xx l = y := by
          rw [hxx]; show (mI M 97 (aLe (pk 0) l)).toInt.toNat = y
          rw [d2, hx', toN (by omega)]
        have e3 : r l = r' := by rw [hr]; exact d5
        rw [hx', hxt] at g4
        rw [e1, e2, e3]
        exact ⟨g1, by omega, g5, d1, d2.trans hx', d5⟩
      · obtain ⟨cap', ex', x', en', r', g1, g2, g3, g4, g5, d1, d2, d3, d4, d5, c1, c2, c3, c4, c5⟩ := hP.2.2.2.1 l hl
        obtain ⟨y, y1, y2⟩ := cars_nat h hl
        have hx' : x' = nI y := c2.symm.trans y2
        have hxt : (nI y).toInt = (y : Int) := tI _ (by omega)
        have e1 : cap l = cap' := by
          rw [hcap]; show (mI M 96 (aLe (pk 0) l)).toInt.toNat = cap'
          rw [d1, toN (by omega)]
        have e2 : xx l = y := by
          rw [hxx]; show (mI M 97 (aLe (pk 0) l)).toInt.toNat = y
          rw [d2, hx', toN (by omega)]
        have e3 : r l = r' := by rw [hr]; exact d5
        rw [hx', hxt] at g4
        rw [e1, e2, e3]
        exact ⟨g1, by omega, g5, c1, c2.trans hx', c5⟩
    obtain ⟨hLV, hLVr⟩ := hLV2
    obtain ⟨b, hb⟩ : ∃ b, b = bst (fun l => cap l - xx l) (scL cap xx r) 4 0 4 := ⟨_, rfl⟩
    have hok := bst_ok (fr := fun l => cap l - xx l) (sc := scL cap xx r) 4 0 4 (by omega) ⟨by omega, fun h9 => absurd rfl h9⟩
    rw [← hb] at hok
    have bc : m_X1_bestLevel M (some (pk 0)) = some (vB b, M) := by
      unfold m_X1_bestLevel
      rw [hb]
      exact best_c hL hLV 4 0 FU 4 _ (by omega) (by show 4 < 1000000; omega) (by omega) (fun h9 => absurd rfl h9)
    have br : ∀ M1, Lay M1 → LVr M1 cap xx r → m_X11_bestLevel M1 (some 2179) = some (vB b, M1) := by
      intro M1 hL1 hV1
      unfold m_X11_bestLevel
      rw [hb]
      exact best_r hL1 hV1 4 0 FU 4 (by omega) (by show 4 < 1000000; omega) (by omega) (fun h9 => absurd rfl h9)
    have cl0 : m_X1_carsLeft M (some (pk 0)) = some (nI lf, M) := by
      rw [← s4]
      exact carsLeft_c hL (f := fun t => mI M (1000 + (169 + 12 * t + 5)) 2180) (by omega) t2 (fun t ht => by
        obtain ⟨pl, en, lv, pd, gv, go, lo, la, hb, hCf, hRf, -⟩ := t4 t ht
        refine ⟨hCf.2.2.2.2.2.1.trans hRf.2.2.2.2.2.1.symm, ?_⟩
        show mI M (1000 + (169 + 12 * t + 5)) 2180 = nI 0 ∨ mI M (1000 + (169 + 12 * t + 5)) 2180 = nI 1
        rw [hRf.2.2.2.2.2.1]
        rcases (show go = 0 ∨ go = 1 by have := hb.2.2.2.2.2.1; omega) with rfl | rfl
        · exact Or.inl rfl
        · exact Or.inr rfl) n 0 FU (by omega) (by show n < 1000000; omega)
    have hin : m_X1_carsInside M (some (pk 0)) = some (nI (n - lf), M) := by
      unfold m_X1_carsInside
      rw [dI_at (by rw [hpk]), rc_at (by rw [hpk]), cl0, cl_some]
      show some (mI M 38 (pk 0) - nI lf, M) = _
      rw [t2, pk_sub s1]
    have e40 : (40 : Int32) = nI 40 := rfl
    have hA : m_X10_enter M (some 0) (nI z) = cl (m_X1_admitCar M (some (pk 0)) (nI z)) (fun (x6 : Int32) (M5 : Mem) => rt x6 M5) := by
      unfold m_X10_enter
      rw [dPark hL, rc_at (by rw [hpk]), planAt_y hL (by omega), cl_some, if_pos (by simp), dPark hL, rc_at (by rw [hpk])]
    have hB : ∀ M1, Lay M1 → LVr M1 cap xx r → mI M1 1001 2180 = nI n → mI M1 1002 2180 = nI lf → m_X11_enter M1 (some 2179) (nI z) = (if nI (n - lf) = 40 then rt (-3) M1 else if vB b ≠ -1 then lp (b_X11_enter_42 (some 2179) (nI n) (fun (M10 : Mem) => rc M10 11 (some 2179) (cl (m_X11_set M10 (some 2179) (nI n) 0 (nI z)) (fun (_u : Unit) (M11 : Mem) => dP M11 11 0 (some 2179) (fun (q12 : Option Nat) => aI M11 100 q12 0 (fun (x13 : Int32) => rc M11 11 (some 2179) (cl (m_X11_set M11 (some 2179) (nI n) 1 x13) (fun (_u : Unit) (M14 : Mem) => rc M14 11 (some 2179) (cl (m_X11_set M14 (some 2179) (nI n) 2 (vB b)) (fun (_u : Unit) (M15 : Mem) => rc M15 11 (some 2179) (cl (m_X11_set M15 (some 2179) (nI n) 7 ((-1))) (fun (_u : Unit) (M16 : Mem) => dP M16 11 0 (some 2179) (fun (q17 : Option Nat) => aI M16 100 q17 1 (fun (x18 : Int32) => sI M16 100 q17 1 ((x18 + 1)) (fun (M19 : Mem) => dP M19 11 0 (some 2179) (fun (q20 : Option Nat) => aI M19 100 q20 (((153 + (4 * vB b)) + 1)) (fun (x21 : Int32) => sI M19 100 q20 (((153 + (4 * vB b)) + 1)) ((x21 + 1)) (fun (M22 : Mem) => dP M22 11 0 (some 2179) (fun (q23 : Option Nat) => aI M22 100 q23 (((153 + (4 * vB b)) + 3)) (fun (x24 : Int32) => sI M22 100 q23 (((153 + (4 * vB b)) + 3)) ((x24 + 1)) (fun (M25 : Mem) => rt (nI n) M25))))))))))))))))))))) FU (0, M1) else rt (-3) M1) := by
      intro M1 hL1 hV1 h1 h2
      have h1' : mI M1 (1000 + 1) 2180 = nI n := h1
      have h2' : mI M1 (1000 + 2) 2180 = nI lf := h2
      have e1 : (1 : Int32) = nI 1 := rfl
      have e2 : (2 : Int32) = nI 2 := rfl
      have hins : m_X11_inside M1 (some 2179) = some (nI (n - lf), M1) := by
        unfold m_X11_inside
        rw [dS hL1, e1, s_at hL1 (by omega), h1', dS hL1, e2, s_at hL1 (by omega), h2', pk_sub s1]; rfl
      unfold m_X11_enter
      rw [isPlan_y hp, cl_some, if_pos (by decide), rc_at (S1 _ hL1), br M1 hL1 hV1, cl_some, rc_at (S1 _ hL1), hins, cl_some]
      refine congrArg (ite _ _) ?_
      refine congr (congrArg (ite _) ?_) rfl
      show dP M1 11 0 (some 2179) (fun q7 => aI M1 100 q7 1 _) = _
      rw [dS hL1]
      show aI M1 100 (some 2180) (nI 1) _ = _
      rw [s_at hL1 (by omega), h1', jn_eq]
    by_cases hb4 : b = 4
    · -- nowhere a free place
      have hA3 : m_X10_enter M (some 0) (nI z) = some (-3, M) := by
        rw [hA]
        unfold m_X1_admitCar
        rw [rc_at (by rw [hpk]), bc, cl_some, hb4, vB_4, rc_at (by rw [hpk]), levelAt_n (by decide), cl_some, if_pos rfl]; rfl
      refine no hA3 ?_
      show m_X11_enter M _ _ = _
      rw [hB M hL hLVr t3 s3, hb4, vB_4]
      by_cases h40 : nI (n - lf) = 40
      · rw [if_pos h40]; rfl
      · rw [if_neg h40, if_neg (fun h9 => h9 rfl)]; rfl
    · have hb3 : b < 4 := by omega
      obtain ⟨v1, v2, v3, v4, v5, v6⟩ := hLV b hb3
      obtain ⟨-, -, -, v7, v8, v9⟩ := hLVr b hb3
      have hfree := hok.2 hb4
      have hS := S_aLe hL (q := 0) (by omega) hb3
      have hA2 : m_X10_enter M (some 0) (nI z) = cl ((if 40 ≤ nI (n - lf) then rt ((-3)) M else dI M 1 6 (some (pk 0)) (fun (x7 : Int32) => (if x7 < 512 then rc M 3 (some (aLe (pk 0) b)) (cl (m_X3_admitCar M (some (aLe (pk 0) b))) (fun (_u : Unit) (M8 : Mem) => dP M8 1 4 (some (pk 0)) (fun (q9 : Option Nat) => dI M8 1 6 (some (pk 0)) (fun (x10 : Int32) => aP M8 118 q9 x10 (fun (q11 : Option Nat) => dI M8 1 7 (some (pk 0)) (fun (x12 : Int32) => rc M8 8 q11 (cl (m_X8_begin M8 q11 (nI z) x12 (nI b)) (fun (_u : Unit) (M13 : Mem) => dI M13 1 6 (some (pk 0)) (fun (x14 : Int32) => pI M13 1 6 (some (pk 0)) ((x14 + 1)) (fun (M15 : Mem) => dI M15 1 6 (some (pk 0)) (fun (x16 : Int32) => rt ((x16 - 1)) M15))))))))))) else rt ((-3)) M)))) (fun (x6 : Int32) (M5 : Mem) => rt x6 M5) := by
        rw [hA]
        unfold m_X1_admitCar
        rw [rc_at (by rw [hpk]), bc, cl_some, vB_n hb3, rc_at (by rw [hpk]), levelAt_y hL hb3, cl_some, if_neg (by simp), rc_at (by rw [hpk]), hin, cl_some]
      by_cases h40 : n - lf = 40
      · rw [if_pos (show (40 : Int32) ≤ nI (n - lf) by rw [h40]; decide)] at hA2
        refine no (r := -3) hA2 ?_
        show m_X11_enter M _ _ = _
        rw [hB M hL hLVr t3 s3, if_pos (show nI (n - lf) = 40 by rw [h40]; rfl)]; rfl
      · have hlt : n - lf < 40 := by omega
        rw [if_neg (fun h9 : (40 : Int32) ≤ nI (n - lf) => absurd ((i_le (a := 40) (by omega) (by omega)).mp h9) (by omega)), dI_at (by rw [hpk])] at hA2
        have hn5 : n < 512 := by omega
        have hSt := S_aTi hL (q := 0) (by omega) hn5
        obtain ⟨en, hen⟩ : ∃ en, en = mI M 99 (aLe (pk 0) b) := ⟨_, rfl⟩
        have hen2 : mI M (1000 + (153 + 4 * b + 3)) 2180 = en := by
          obtain ⟨cap', ex', x', en', r', g1, g2, g3, g4, g5, d1, d2, d3, d4, d5, c1, c2, c3, c4, c5⟩ := hP.2.2.2.1 b hb3
          rw [c4, hen, d4]
        have ea : aTi (pk 0) n = 59 + 2 * n := by unfold aTi pk; omega
        have el : aLe (pk 0) b = 55 + b := by unfold aLe pk; omega
        -- the class's ticket
        obtain ⟨M1, hM1⟩ : ∃ M1, M1 = uI (uI (uI (uI (uI (uI (uI (uI (uI (uI (uI M 97 (aLe (pk 0) b) (nI (xx b + 1))) 99 (aLe (pk 0) b) (en + 1)) 258 (aTi (pk 0) n) (nI z)) 259 (aTi (pk 0) n) (nI m)) 260 (aTi (pk 0) n) (nI b)) 257 (aTi (pk 0) n) 0) 261 (aTi (pk 0) n) 0) 262 (aTi (pk 0) n) (-1)) 263 (aTi (pk 0) n) 0) 264 (aTi (pk 0) n) 0) 38 (pk 0) (nI (n + 1)) := ⟨_, rfl⟩
        have hA3 : m_X10_enter M (some 0) (nI z) = some (nI n, M1) := by
          rw [hA2]
          show cl (if mI M 38 (pk 0) < 512 then _ else _) _ = _
          rw [t2, if_pos (show nI n < 512 from (i_lt (b := 512) (by omega) (by omega)).mpr hn5), rc_at (by rw [hS])]
          have hadm : m_X3_admitCar M (some (aLe (pk 0) b)) = some ((), uI (uI M 97 (aLe (pk 0) b) (nI (xx b + 1))) 99 (aLe (pk 0) b) (en + 1)) := by
            unfold m_X3_admitCar
            rw [dI_at (by rw [hS]), pI_at (by rw [hS]), dI_at (by rw [mS_uI, hS]), pI_at (by rw [mS_uI, hS])]
            show some ((), uI (uI M 97 (aLe (pk 0) b) (mI M 97 (aLe (pk 0) b) + 1)) 99 (aLe (pk 0) b) (mI (uI M 97 (aLe (pk 0) b) (mI M 97 (aLe (pk 0) b) + 1)) 99 (aLe (pk 0) b) + 1)) = _
            rw [mI_ne (by omega), v5, nI_1, ← hen]
          rw [hadm, cl_some]
          obtain ⟨Ma, hMa⟩ : ∃ Ma, Ma = uI (uI M 97 (aLe (pk 0) b) (nI (xx b + 1))) 99 (aLe (pk 0) b) (en + 1) := ⟨_, rfl⟩
          have hLa : Lay Ma := by rw [hMa]; exact hL
          have a38 : mI Ma 38 (pk 0) = nI n := by rw [hMa, mI_ne (by omega), mI_ne (by omega)]; exact t2
          have a39 : mI Ma 39 (pk 0) = nI m := by rw [hMa, mI_ne (by omega), mI_ne (by omega)]; exact m2
          have hSta := S_aTi hLa (q := 0) (by omega) hn5
          rw [← hMa, dP_at (by rw [S_park hLa (by omega)])]
          rw [dI_at (by rw [S_park hLa (by omega)])]
          show cl (aP Ma 118 (mP Ma 36 (pk 0)) (mI Ma 38 (pk 0)) _) _ = _
          rw [a38, P_tickets hLa (by omega), aP_at (S_tickets hLa (by omega)) hn5 (by omega), P_ticket hLa (by omega) hn5, dI_at (by rw [S_park hLa (by omega)])]
          show cl (rc Ma 8 _ (cl (m_X8_begin Ma _ (nI z) (mI Ma 39 (pk 0)) (nI b)) _)) _ = _
          have hbeg : m_X8_begin Ma (some (aTi (pk 0) n)) (nI z) (nI m) (nI b) = some ((), uI (uI (uI (uI (uI (uI (uI (uI Ma 258 (aTi (pk 0) n) (nI z)) 259 (aTi (pk 0) n) (nI m)) 260 (aTi (pk 0) n) (nI b)) 257 (aTi (pk 0) n) 0) 261 (aTi (pk 0) n) 0) 262 (aTi (pk 0) n) (-1)) 263 (aTi (pk 0) n) 0) 264 (aTi (pk 0) n) 0) := by
            unfold m_X8_begin
            rw [pI_at (by rw [hSta]), pI_at (by rw [mS_uI, hSta]), pI_at (by rw [mS_uI, mS_uI, hSta]), pI_at (by rw [mS_uI, mS_uI, mS_uI, hSta]), pI_at (by rw [mS_uI, mS_uI, mS_uI, mS_uI, hSta]), pI_at (by rw [mS_uI, mS_uI, mS_uI, mS_uI, mS_uI, hSta]), pZ_at (by rw [mS_uI, mS_uI, mS_uI, mS_uI, mS_uI, mS_uI, hSta]) (Or.inl rfl), pZ_at (by rw [mS_uI, mS_uI, mS_uI, mS_uI, mS_uI, mS_uI, mS_uI, hSta]) (Or.inl rfl)]; rfl
          rw [a39, rc_at (by rw [hSta]), hbeg, cl_some]
          obtain ⟨Mb, hMb⟩ : ∃ Mb, Mb = uI (uI (uI (uI (uI (uI (uI (uI Ma 258 (aTi (pk 0) n) (nI z)) 259 (aTi (pk 0) n) (nI m)) 260 (aTi (pk 0) n) (nI b)) 257 (aTi (pk 0) n) 0) 261 (aTi (pk 0) n) 0) 262 (aTi (pk 0) n) (-1)) 263 (aTi (pk 0) n) 0) 264 (aTi (pk 0) n) 0 := ⟨_, rfl⟩
          have hLb : Lay Mb := by rw [hMb]; exact hLa
          have b38 : mI Mb 38 (pk 0) = nI n := by rw [hMb, mI_ne (by omega), mI_ne (by omega), mI_ne (by omega), mI_ne (by omega), mI_ne (by omega), mI_ne (by omega), mI_ne (by omega), mI_ne (by omega)]; exact a38
          rw [← hMb, dI_at (by rw [S_park hLb (by omega)]), pI_at (by rw [S_park hLb (by omega)]), dI_at (by rw [mS_uI, S_park hLb (by omega)])]
          show cl (rt (mI (uI Mb 38 (pk 0) (mI Mb 38 (pk 0) + 1)) 38 (pk 0) - 1) (uI Mb 38 (pk 0) (mI Mb 38 (pk 0) + 1))) _ = _
          rw [mI_eq, b38, Int32.add_sub_cancel, nI_1, cl_rt, hM1, hMb, hMa]; rfl
        have hL1 : Lay M1 := by rw [hM1]; exact hL
        have i1 : ∀ k a, ¬ (a = aTi (pk 0) n) → ¬ (a = aLe (pk 0) b ∧ (k = 97 ∨ k = 99)) → ¬ (a = pk 0 ∧ k = 38) → mI M1 k a = mI M k a := fun k a h6 h7 h8 => by
          rw [hM1, mI_ne (by omega), mI_ne (by omega), mI_ne (by omega), mI_ne (by omega), mI_ne (by omega), mI_ne (by omega), mI_ne (by omega), mI_ne (by omega), mI_ne (by omega), mI_ne (by omega), mI_ne (by omega)]
        have hT1 : ∀ k, mI M1 k 2180 = mI M k 2180 := fun k => i1 _ _ (by omega) (by omega) (by omega)
        have f31 : M1.2 = M.2 := by rw [hM1]; rfl
        have hV1 : LVr M1 cap xx r := fun l hl => by
          obtain ⟨w1, w2, w3, w7, w8, w9⟩ := hLVr l hl
          exact ⟨w1, w2, w3, (hT1 _).trans w7, (hT1 _).trans w8, (eF f31 _ _).trans w9⟩
        have hB2 := hB M1 hL1 hV1 ((hT1 _).trans t3) ((hT1 _).trans s3)
        rw [if_neg (show ¬ nI (n - lf) = 40 from fun h9 => absurd ((i_eq (b := 40) (by omega) (by omega)).mp h9) (by omega)), if_pos (vB_no hb3), vB_n hb3] at hB2
        obtain ⟨M2, q1, q2, q3, q4⟩ := fill_r (J := fun (M10 : Mem) => rc M10 11 (some 2179) (cl (m_X11_set M10 (some 2179) (nI n) 0 (nI z)) (fun (_u : Unit) (M11 : Mem) => dP M11 11 0 (some 2179) (fun (q12 : Option Nat) => aI M11 100 q12 0 (fun (x13 : Int32) => rc M11 11 (some 2179) (cl (m_X11_set M11 (some 2179) (nI n) 1 x13) (fun (_u : Unit) (M14 : Mem) => rc M14 11 (some 2179) (cl (m_X11_set M14 (some 2179) (nI n) 2 (nI b)) (fun (_u : Unit) (M15 : Mem) => rc M15 11 (some 2179) (cl (m_X11_set M15 (some 2179) (nI n) 7 ((-1))) (fun (_u : Unit) (M16 : Mem) => dP M16 11 0 (some 2179) (fun (q17 : Option Nat) => aI M16 100 q17 1 (fun (x18 : Int32) => sI M16 100 q17 1 ((x18 + 1)) (fun (M19 : Mem) => dP M19 11 0 (some 2179) (fun (q20 : Option Nat) => aI M19 100 q20 (((153 + (4 * nI b)) + 1)) (fun (x21 : Int32) => sI M19 100 q20 (((153 + (4 * nI b)) + 1)) ((x21 + 1)) (fun (M22 : Mem) => dP M22 11 0 (some 2179) (fun (q23 : Option Nat) => aI M22 100 q23 (((153 + (4 * nI b)) + 3)) (fun (x24 : Int32) => sI M22 100 q23 (((153 + (4 * nI b)) + 3)) ((x24 + 1)) (fun (M25 : Mem) => rt (nI n) M25)))))))))))))))))))) hn5 12 0 FU M1 (by omega) (by show 12 < 1000000; omega) hL1
        have hL2 : Lay M2 := eLay q2 hL1
        have hZ : ∀ k, (k < 1169 + 12 * n) → mI M2 k 2180 = mI M k 2180 := fun k h9 => (q3 _ _ (by omega)).trans (hT1 k)
        obtain ⟨X, hX⟩ : ∃ X, X = uI (uI (uI (uI (uI (uI (uI M2 (1000 + (169 + 12 * n + 0)) 2180 (nI z)) (1000 + (169 + 12 * n + 1)) 2180 (nI m)) (1000 + (169 + 12 * n + 2)) 2180 (nI b)) (1000 + (169 + 12 * n + 7)) 2180 (-1)) (1000 + 1) 2180 (nI (n + 1))) (1000 + (153 + 4 * b + 1)) 2180 (nI (xx b + 1))) (1000 + (153 + 4 * b + 3)) 2180 (en + 1) := ⟨_, rfl⟩
        have hB3 : m_X11_enter M1 (some 2179) (nI z) = some (nI n, X) := by
          have e0 : (0 : Int32) = nI 0 := rfl
          have e1 : (1 : Int32) = nI 1 := rfl
          have e2 : (2 : Int32) = nI 2 := rfl
          have e3 : (3 : Int32) = nI 3 := rfl
          have e7 : (7 : Int32) = nI 7 := rfl
          have e153 : (153 : Int32) = nI 153 := rfl
          have e4 : (4 : Int32) = nI 4 := rfl
          rw [hB2, show ((0 : Int32), M1) = (nI 0, M1) from rfl, q1]
          rw [rc_at (S1 _ hL2), show m_X11_set M2 (some 2179) (nI n) 0 (nI z) = _ from set_r hL2 hn5 (j := 0) (by omega), cl_some]
          obtain ⟨Y1, hY1⟩ : ∃ Y, Y = uI M2 (1000 + (169 + 12 * n + 0)) 2180 (nI z) := ⟨_, rfl⟩
          have hLY1 : Lay Y1 := by rw [hY1]; exact hL2
          rw [← hY1, dS hLY1]
          show aI Y1 100 (some 2180) (nI 0) _ = _
          rw [s_at hLY1 (by omega), show mI Y1 (1000 + 0) 2180 = nI m by rw [hY1, mI_ne (by omega)]; exact (hZ _ (by omega)).trans m3, rc_at (S1 _ hLY1), show m_X11_set Y1 (some 2179) (nI n) 1 (nI m) = _ from set_r hLY1 hn5 (j := 1) (by omega), cl_some]
          obtain ⟨Y2, hY2⟩ : ∃ Y, Y = uI Y1 (1000 + (169 + 12 * n + 1)) 2180 (nI m) := ⟨_, rfl⟩
          have hLY2 : Lay Y2 := by rw [hY2]; exact hLY1
          rw [← hY2, rc_at (S1 _ hLY2), show m_X11_set Y2 (some 2179) (nI n) 2 (nI b) = _ from set_r hLY2 hn5 (j := 2) (by omega), cl_some]
          obtain ⟨Y3, hY3⟩ : ∃ Y, Y = uI Y2 (1000 + (169 + 12 * n + 2)) 2180 (nI b) := ⟨_, rfl⟩
          have hLY3 : Lay Y3 := by rw [hY3]; exact hLY2
          rw [← hY3, rc_at (S1 _ hLY3), show m_X11_set Y3 (some 2179) (nI n) 7 (-1) = _ from set_r hLY3 hn5 (j := 7) (by omega), cl_some]
          obtain ⟨Y4, hY4⟩ : ∃ Y, Y = uI Y3 (1000 + (169 + 12 * n + 7)) 2180 (-1) := ⟨_, rfl⟩
          have hLY4 : Lay Y4 := by rw [hY4]; exact hLY3
          have hZ4 : ∀ k, (k < 1169 + 12 * n) → mI Y4 k 2180 = mI M k 2180 := fun k h9 => by
            rw [hY4, mI_ne (by omega), hY3, mI_ne (by omega), hY2, mI_ne (by omega), hY1, mI_ne (by omega)]; exact hZ k h9
          rw [← hY4, dS hLY4]
          show aI Y4 100 (some 2180) (nI 1) (fun x18 => sI Y4 100 (some 2180) (nI 1) (x18 + 1) _) = _
          rw [s_at hLY4 (by omega), show mI Y4 (1000 + 1) 2180 = nI n from (hZ4 _ (by omega)).trans t3, s_set hLY4 (by omega), nI_1]
          obtain ⟨Y5, hY5⟩ : ∃ Y, Y = uI Y4 (1000 + 1) 2180 (nI (n + 1)) := ⟨_, rfl⟩
          have hLY5 : Lay Y5 := by rw [hY5]; exact hLY4
          rw [← hY5, dS hLY5, e153, e4, pk_mul, nI_add, nI_1, s_at hLY5 (by omega), show mI Y5 (1000 + (153 + 4 * b + 1)) 2180 = nI (xx b) by rw [hY5, mI_ne (by omega)]; exact (hZ4 _ (by omega)).trans v8, s_set hLY5 (by omega), nI_1]
          obtain ⟨Y6, hY6⟩ : ∃ Y, Y = uI Y5 (1000 + (153 + 4 * b + 1)) 2180 (nI (xx b + 1)) := ⟨_, rfl⟩
          have hLY6 : Lay Y6 := by rw [hY6]; exact hLY5
          rw [← hY6, dS hLY6, e3, nI_add, s_at hLY6 (by omega), show mI Y6 (1000 + (153 + 4 * b + 3)) 2180 = en by rw [hY6, mI_ne (by omega), hY5, mI_ne (by omega)]; exact (hZ4 _ (by omega)).trans hen2, s_set hLY6 (by omega), hX, hY6, hY5, hY4, hY3, hY2, hY1]; rfl
        have f3 : X.2 = M.2 := by rw [hX]; exact q2.trans f31
        have hne : ∀ k a, ¬ (a = 2180 ∧ (k = 1001 ∨ (1169 + 12 * n ≤ k ∧ k < 1181 + 12 * n) ∨ k = 1000 + (153 + 4 * b + 1) ∨ k = 1000 + (153 + 4 * b + 3))) → mI X k a = mI M1 k a := fun k a h9 => by
          rw [hX, mI_ne (by omega), mI_ne (by omega), mI_ne (by omega), mI_ne (by omega), mI_ne (by omega), mI_ne (by omega), mI_ne (by omega), q3 _ _ (by omega)]
        have hz0 : ∀ j, j < 12 → j ≠ 0 → j ≠ 1 → j ≠ 2 → j ≠ 7 → mI X (1000 + (169 + 12 * n + j)) 2180 = 0 := fun j h1 h2 h3 h4 h5 => by
          rw [hX, mI_ne (by omega), mI_ne (by omega), mI_ne (by omega), mI_ne (by omega), mI_ne (by omega), mI_ne (by omega), mI_ne (by omega)]
          exact q4 j (by omega) h1
        refine ⟨_, M1, X, hA3, S1 _ hL1, hB3, n + 1, vc, m, enter_inv (x := xx b) (en := en) h hc hz hb3 f3 ⟨cap b, v4, v1, by omega⟩ ⟨lf, s3, s1, hlt⟩ v8 hen2 (fun k a h6 h7 h8 h9 => (hne k a h9).trans (i1 k a h6 h7 h8)) ?_ ?_ ?_ ?_ ?_ ?_ ?_ ?_ ?_ ?_ ?_ ?_ ?_ ?_ ?_ ?_ ?_ (hz0 3 (by omega) (by omega) (by omega) (by omega) (by omega)) (hz0 4 (by omega) (by omega) (by omega) (by omega) (by omega)) (hz0 5 (by omega) (by omega) (by omega) (by omega) (by omega)) (hz0 6 (by omega) (by omega) (by omega) (by omega) (by omega)) ?_⟩
        · rw [hne _ _ (by omega), hM1, mI_ne (by omega), mI_ne (by omega), mI_ne (by omega), mI_ne (by omega), mI_ne (by omega), mI_ne (by omega), mI_ne (by omega), mI_ne (by omega), mI_ne (by omega), mI_ne (by omega), mI_eq]
        · rw [hne _ _ (by omega), hM1, mI_ne (by omega), mI_ne (by omega), mI_ne (by omega), mI_ne (by omega), mI_ne (by omega), mI_ne (by omega), mI_ne (by omega), mI_ne (by omega), mI_ne (by omega), mI_eq]
        · rw [hne _ _ (by omega), hM1, mI_eq]
        · rw [hX, mI_ne (by omega), mI_ne (by omega), mI_eq]
        · rw [hX, mI_ne (by omega), mI_eq]
        · rw [hX, mI_eq]
        · rw [hne _ _ (by omega), hM1, mI_ne (by omega), mI_ne (by omega), mI_ne (by omega), mI_ne (by omega), mI_ne (by omega), mI_ne (by omega), mI_ne (by omega), mI_ne (by omega), mI_eq]
        · rw [hne _ _ (by omega), hM1, mI_ne (by omega), mI_ne (by omega), mI_ne (by omega), mI_ne (by omega), mI_ne (by omega), mI_ne (by omega), mI_ne (by omega), mI_eq]
        · rw [hne _ _ (by omega), hM1, mI_ne (by omega), mI_ne (by omega), mI_ne (by omega), mI_ne (by omega), mI_ne (by omega), mI_ne (by omega), mI_eq]
        · rw [hne _ _ (by omega), hM1, mI_ne (by omega), mI_ne (by omega), mI_ne (by omega), mI_ne (by omega), mI_eq]
        · rw [hne _ _ (by omega), hM1, mI_ne (by omega), mI_ne (by omega), mI_ne (by omega), mI_ne (by omega), mI_ne (by omega), mI_eq]
        · rw [hne _ _ (by omega), hM1, mI_ne (by omega), mI_ne (by omega), mI_eq]
        · rw [hne _ _ (by omega), hM1, mI_ne (by omega), mI_eq]
        · rw [hne _ _ (by omega), hM1, mI_ne (by omega), mI_ne (by omega), mI_ne (by omega), mI_eq]
        · rw [hX, mI_ne (by omega), mI_ne (by omega), mI_ne (by omega), mI_ne (by omega), mI_ne (by omega), mI_ne (by omega)]; exact mI_eq
        · rw [hX, mI_ne (by omega), mI_ne (by omega), mI_ne (by omega), mI_ne (by omega), mI_ne (by omega), mI_eq]
        · rw [hX, mI_ne (by omega), mI_ne (by omega), mI_ne (by omega), mI_ne (by omega), mI_eq]
        · rw [hX, mI_ne (by omega), mI_ne (by omega), mI_ne (by omega), mI_eq]
  · refine no (r := -2) ?_ ?_
    · unfold m_X10_enter
      rw [dPark hL, rc_at (by rw [hpk]), planAt_n hp, cl_some, if_neg (by simp)]; rfl
    · show m_X11_enter M _ _ = _
      unfold m_X11_enter
      rw [isPlan_n hp, cl_some, if_neg (by decide)]; rfl
