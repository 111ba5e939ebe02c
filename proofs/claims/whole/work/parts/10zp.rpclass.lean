/-- the class's readPlan of a plan that is there -/
theorem PlC.fin {M8 X : Mem} {d : PD} {A : Nat} (hA : isPl X A) (hC : CDr M8 d) (hg : GD d) (h1 : ∀ k, 161 ≤ k → k ≤ 165 → mI X k A = mI M8 k 2168) (h2 : ∀ b k, b < 6 → 1 ≤ k → k ≤ 3 → mI X k (A + 2 + b) = mI M8 k (2170 + b)) (h0 : ∀ b, b < 6 → mI X 0 (A + 2 + b) = nI b) : PlC X A (finP d) := by
  obtain ⟨a1, a2, a3, a4, a5, a6, a7, a8⟩ := hC
  have hd5 := hg.2.2.2.2.1
  unfold finP
  by_cases hz : pCnt d = 0
  · obtain ⟨b1, b2, b3, b4⟩ := a7 hz
    rw [if_pos hz]
    refine ⟨hA, (h1 _ (by omega) (by omega)).trans a1, (h1 _ (by omega) (by omega)).trans a2, (h1 _ (by omega) (by omega)).trans a3, (h1 _ (by omega) (by omega)).trans a4, (h1 _ (by omega) (by omega)).trans b1, fun b hb => ?_, h0⟩
    have hb0 : b = 0 := by have : b < 1 := hb; omega
    subst hb0
    exact ⟨(h2 0 1 (by omega) (by omega) (by omega)).trans b2, (h2 0 2 (by omega) (by omega) (by omega)).trans b3, (h2 0 3 (by omega) (by omega) (by omega)).trans b4⟩
  · rw [if_neg hz]
    refine ⟨hA, (h1 _ (by omega) (by omega)).trans a1, (h1 _ (by omega) (by omega)).trans a2, (h1 _ (by omega) (by omega)).trans a3, (h1 _ (by omega) (by omega)).trans a4, (h1 _ (by omega) (by omega)).trans (a6 hz), fun b hb => ?_, h0⟩
    obtain ⟨b1, b2, b3⟩ := a8 b hb
    exact ⟨(h2 b 1 (by omega) (by omega) (by omega)).trans b1, (h2 b 2 (by omega) (by omega) (by omega)).trans b2, (h2 b 3 (by omega) (by omega) (by omega)).trans b3⟩
theorem dTx {M1 : Mem} (h1 : Lay M1) {β : Type} {K : Option Nat → Option β} : dP M1 10 3 (some 0) K = K (some 2165) := by
  rw [dP_at (by rw [S_zero h1])]
  show K (mP M1 323 0) = _
  rw [show mP M1 323 0 = some 2165 from h1.P (by omega) 323]
theorem rp_c {T : Nat → Nat} {L l : Nat} {M : Mem} (hL : Lay M) (hT : TX T L M) (hl : l < 4) (h0 : ∀ b, b < 6 → mI M 0 (aPl (pk 0) l + 2 + b) = nI b) :
    ((planP T L 91 0 0 d00).2.1 = 0 → ∃ X, m_X10_readPlan M (some 0) (nI l) = some (nI (pCnt (finP (planP T L 91 0 0 d00).2.2.2.2)), X) ∧ X.2.2 = M.2.2 ∧ (∀ k a, ¬ (a = 2165 ∧ 195 ≤ k ∧ k ≤ 200) → a ≠ 2167 → a ≠ 2168 → ¬ (2170 ≤ a ∧ a < 2176 ∧ k ≠ 0) → ¬ (7 + 8 * l ≤ a ∧ a < 15 + 8 * l ∧ k ≠ 0) → mI X k a = mI M k a) ∧ (∀ k a, ¬ (7 + 8 * l ≤ a ∧ a < 15 + 8 * l) → mF X k a = mF M k a) ∧ mI X 195 2165 = nI 0 ∧ PlC X (aPl (pk 0) l) (finP (planP T L 91 0 0 d00).2.2.2.2) ∧ GD (planP T L 91 0 0 d00).2.2.2.2) ∧
    ((planP T L 91 0 0 d00).2.1 ≠ 0 → ∃ X, m_X10_readPlan M (some 0) (nI l) = some (-5, X) ∧ X.2 = M.2 ∧ (∀ k a, ¬ (a = 2165 ∧ 195 ≤ k ∧ k ≤ 200) → a ≠ 2167 → a ≠ 2168 → ¬ (2170 ≤ a ∧ a < 2176 ∧ k ≠ 0) → ¬ (2176 ≤ a ∧ a ≤ 2178) → mI X k a = mI M k a) ∧ mI X 195 2165 = nI 0 ∧ mI X 226 2176 = nI 3 ∧ mI X 1000 2177 = nI 1 ∧ mI X 1000 2178 = nI l ∧ mI X 1001 2177 = nI 2 ∧ mI X 1001 2178 = nI (planP T L 91 0 0 d00).1 ∧ mI X 1002 2177 = nI (planP T L 91 0 0 d00).2.1 ∧ mI X 1002 2178 = nI (planP T L 91 0 0 d00).2.2.1) := by
  obtain ⟨g1, g2⟩ := describes_c hL hT
  obtain ⟨z, hz⟩ : ∃ z, z = planP T L 91 0 0 d00 := ⟨_, rfl⟩
  rw [← hz] at g1 g2 ⊢
  have hpk : mS M (pk 0) = (1, 0) := S_park hL (by omega)
  have hS := S_aPl hL (q := 0) (by omega) hl
  have eA : aPl (pk 0) l = 7 + 8 * l := by unfold aPl pk; omega
  refine ⟨fun hr => ?_, fun hr => ?_⟩
  · obtain ⟨M1, f1, f2, f3⟩ := g1 hr
    have hL1 := f2.1.Lay hL
    obtain ⟨M8, hM8⟩ : ∃ M8, M8 = uI M1 195 2165 0 := ⟨_, rfl⟩
    have hL8 : Lay M8 := by rw [hM8]; exact hL1
    have hC8 : CDr M8 z.2.2.2.2 := by rw [hM8]; exact f2.2.2.2.of f3.2.2.2.2.1 (fun k => mI_ne (by omega)) (mI_ne (by omega)) (fun k b hb => mI_ne (by omega))
    have i8 : ∀ k a, ¬ (a = 2165 ∧ 195 ≤ k ∧ k ≤ 200) → a ≠ 2167 → a ≠ 2168 → ¬ (2170 ≤ a ∧ a < 2176 ∧ k ≠ 0) → mI M8 k a = mI M k a := fun k a a1 a2 a3 a4 => by rw [hM8, mI_ne (by omega)]; exact f2.1.2 k a (by omega) a2 a3 a4
    have e8 : M8.2 = M.2 := by rw [hM8]; exact f2.1.1
    have ha : Apart 8 (aPl (pk 0) l) 2168 := fun o o' h1 h2 => by omega
    obtain ⟨X, w1, w2⟩ := cp_plan (N := 8) (d := aPl (pk 0) l) (s := 2168) (o := 0) hL8 ha (by omega) (fun M hL => ⟨isPl_pk hL (by omega) hl, isPl_draft hL⟩)
    have hLX := w2.Lay hL8
    have h1X : ∀ k, 161 ≤ k → k ≤ 165 → mI X k (aPl (pk 0) l) = mI M8 k 2168 := fun k k1 k2 => w2.2.2.2.2.2.1 k 0 (by omega) (Or.inl ⟨rfl, k1, k2⟩)
    have h2X : ∀ b k, b < 6 → 1 ≤ k → k ≤ 3 → mI X k (aPl (pk 0) l + 2 + b) = mI M8 k (2170 + b) := fun b k hb k1 k2 => by
      have := w2.2.2.2.2.2.1 k (2 + b) (by omega) (Or.inr ⟨by omega, by omega, k1, k2⟩)
      rw [show aPl (pk 0) l + 2 + b = aPl (pk 0) l + (2 + b) by omega, this]
      exact congrArg (mI M8 k) (by omega)
    have h0X : ∀ b, b < 6 → mI X 0 (aPl (pk 0) l + 2 + b) = nI b := fun b hb => by
      rw [w2.2.1 0 _ (by omega), i8 _ _ (by omega) (by omega) (by omega) (by omega)]; exact h0 b hb
    have hPX : PlC X (aPl (pk 0) l) (finP z.2.2.2.2) := PlC.fin (isPl_pk hLX (by omega) hl) hC8 f3 h1X h2X h0X
    have hS8 := S_aPl hL8 (q := 0) (by omega) hl
    have hSX := S_aPl hLX (q := 0) (by omega) hl
    refine ⟨X, ?_, w2.1.trans (congrArg (fun z => z.2) e8), fun k a a1 a2 a3 a4 a5 => (w2.2.1 k a (by omega)).trans (i8 k a a1 a2 a3 a4), fun k a a1 => (w2.2.2.1 k a (by omega)).trans (eF e8 k a), ?_, hPX, f3⟩
    · unfold m_X10_readPlan
      rw [dPark hL, rc_at (by rw [hpk]), planAt_y hL hl, cl_some, jn_eq, jn_eq, if_neg (by simp), dTx hL, rc_at (by rw [S6 hL]), f1, cl_some, if_neg z10]
      dsimp only
      rw [dTx hL1, rc_at (by rw [S6 hL1])]
      have hcl : m_X6_clear M1 (some 2165) = some ((), M8) := by
        unfold m_X6_clear
        rw [w6 hL1, hM8]; rfl
      rw [hcl, cl_some, if_pos (by simp), if_pos z10', dTx hL8, d62 hL8, rc_at (by rw [hS8]), show m_X5_copyFrom M8 (some (aPl (pk 0) l)) (some 2168) = some ((), X) from w1, cl_some, dI_at (by rw [hSX])]
      show some (mI X 161 (aPl (pk 0) l), X) = _
      rw [hPX.2.2.2.2.2.1]
    · rw [w2.2.1 _ _ (by omega), hM8, mI_eq]; rfl
  · obtain ⟨M1, f1, f2⟩ := g2 hr
    have hL1 := f2.1.Lay hL
    obtain ⟨M8, hM8⟩ : ∃ M8, M8 = uI M1 195 2165 0 := ⟨_, rfl⟩
    have hL8 : Lay M8 := by rw [hM8]; exact hL1
    have j5 : mI M8 (32 * 6 + 5) 2165 = nI z.1 := by rw [hM8, mI_ne (by omega)]; exact f2.2.1
    have j7 : mI M8 (32 * 6 + 7) 2165 = nI z.2.1 := by rw [hM8, mI_ne (by omega)]; exact f2.2.2.1
    have j8 : mI M8 (32 * 6 + 8) 2165 = nI z.2.2.1 := by rw [hM8, mI_ne (by omega)]; exact f2.2.2.2
    have htl := tell_c hL8 (nI l) (nI z.1) (nI z.2.1) (nI z.2.2.1)
    obtain ⟨X, hX⟩ : ∃ X, X = uI (uI (uI (uI (uI (uI (uI M8 (1000 + 0) 2177 1) (1000 + 0) 2178 (nI l)) (1000 + 1) 2177 2) (1000 + 1) 2178 (nI z.1)) (1000 + 2) 2177 (nI z.2.1)) (1000 + 2) 2178 (nI z.2.2.1)) 226 2176 3 := ⟨_, rfl⟩
    rw [← hX] at htl
    have S7 : mS M8 2176 = (7, 0) := hL8.S (by omega)
    refine ⟨X, ?_, by rw [hX, hM8]; exact f2.1.1, fun k a a1 a2 a3 a4 a5 => ?_, ?_, ?_, ?_, ?_, ?_, ?_, ?_, ?_⟩
    · unfold m_X10_readPlan
      rw [dPark hL, rc_at (by rw [hpk]), planAt_y hL hl, cl_some, jn_eq, jn_eq, if_neg (by simp), dTx hL, rc_at (by rw [S6 hL]), f1, cl_some, if_pos z00]
      dsimp only
      rw [dTx hL1, rc_at (by rw [S6 hL1])]
      have hcl : m_X6_clear M1 (some 2165) = some ((), M8) := by
        unfold m_X6_clear
        rw [w6 hL1, hM8]; rfl
      rw [hcl, cl_some, if_pos (by simp), if_neg z00', dRep hL8, dTx hL8, i6 hL8 j5, dTx hL8, i6 hL8 j7, dTx hL8, i6 hL8 j8, rc_at (by rw [S7]), htl, cl_some]; rfl
    · rw [hX, mI_ne (by omega), mI_ne (by omega), mI_ne (by omega), mI_ne (by omega), mI_ne (by omega), mI_ne (by omega), mI_ne (by omega), hM8, mI_ne (by omega)]
      exact f2.1.2 k a (by omega) a2 a3 a4
    · rw [hX, mI_ne (by omega), mI_ne (by omega), mI_ne (by omega), mI_ne (by omega), mI_ne (by omega), mI_ne (by omega), mI_ne (by omega), hM8, mI_eq]; rfl
    · rw [hX, mI_eq]; rfl
    · rw [hX, mI_ne (by omega), mI_ne (by omega), mI_ne (by omega), mI_ne (by omega), mI_ne (by omega), mI_ne (by omega)]; exact mI_eq
    · rw [hX, mI_ne (by omega), mI_ne (by omega), mI_ne (by omega), mI_ne (by omega), mI_ne (by omega), mI_eq]
    · rw [hX, mI_ne (by omega), mI_ne (by omega), mI_ne (by omega), mI_ne (by omega)]; exact mI_eq
    · rw [hX, mI_ne (by omega), mI_ne (by omega), mI_ne (by omega), mI_eq]
    · rw [hX, mI_ne (by omega), mI_ne (by omega), mI_eq]
    · rw [hX, mI_ne (by omega), mI_eq]
theorem readPlan_op {cnt n vc m : Nat} {M : Mem} (h : Inv cnt n vc m M) (hc : cnt < 512) (p : Int32) : Op cnt M (fun M => m_X10_readPlan M (some 0) p) (fun M => m_X11_readPlan M (some 2179) p) := by
  have hL := h.1
  have hP := h.2.2.2.1
  have hp0 : pk 0 = 1 := rfl
  have hpk : mS M (pk 0) = (1, 0) := S_park hL (by omega)
  obtain ⟨-, -, -, -, -, hIT, hIR, -⟩ := id h
  obtain ⟨L, t1, t2, t3, t4⟩ := hIT
  obtain ⟨T, hTd⟩ : ∃ T : Nat → Nat, T = fun j => (mI M (1000 + j) 2166).toInt.toNat := ⟨_, rfl⟩
  have hTX : TX T L M := by
    refine ⟨t1, t2, t3, fun j hj => ?_⟩
    obtain ⟨c, c1, c2, c3⟩ := t4 j hj
    have e : T j = c := by
      rw [hTd]; show (mI M (1000 + j) 2166).toInt.toNat = c
      rw [c2, toN (by omega)]
    rw [e]; exact ⟨c1, c2, c3⟩
  by_cases hp : (0 : Int32) ≤ p ∧ p ≤ 3
  · obtain ⟨l, rfl, -, hl3⟩ := nat_of (a := 0) (b := 3) (by omega) hp (by omega)
    have hl : l < 4 := by omega
    have eA : aPl (pk 0) l = 7 + 8 * l := by unfold aPl pk; omega
    obtain ⟨π0, p1, p2, p3⟩ := hP.1 l hl
    obtain ⟨gc1, gc2⟩ := rp_c hL hTX hl p2.2.2.2.2.2.2.2
    by_cases hz : (planP T L 91 0 0 d00).2.1 = 0
    · obtain ⟨M1, a1, a2, a3, a4, a5, a6, a7⟩ := gc1 hz
      have hL1 := layT a2 hL
      have hT1 : TXr T L M1 := ⟨t1, trivial, (a3 _ _ (by omega) (by omega) (by omega) (by omega) (by omega)).trans t3, fun j hj => ⟨(hTX.2.2.2 j hj).1, trivial, (a3 _ _ (by omega) (by omega) (by omega) (by omega) (by omega)).trans (hTX.2.2.2 j hj).2.2⟩⟩
      obtain ⟨X, b1, b2, b3, b4, b5⟩ := (rp_r hL1 hT1 hl).1 hz
      have iX : ∀ k a, ¬ (a = 2165 ∧ 195 ≤ k ∧ k ≤ 200) → a ≠ 2167 → a ≠ 2168 → ¬ (2170 ≤ a ∧ a < 2176 ∧ k ≠ 0) → ¬ (7 + 8 * l ≤ a ∧ a < 15 + 8 * l ∧ k ≠ 0) → ¬ (a = 2180 ∧ 1010 + 23 * l ≤ k ∧ k < 1033 + 23 * l) → ¬ (a = 2179 ∧ (k = 358 ∨ (366 ≤ k ∧ k ≤ 372))) → a ≠ 2186 → a ≠ 2187 → mI X k a = mI M k a := fun k a h1 h2 h3 h4 h5 h6 h7 h8 h9 => (b3 k a h6 h7 h8 h9).trans (a3 k a h1 h2 h3 h4 h5)
      refine ⟨_, M1, X, a1, S1 _ hL1, b1, n, vc, m, rp_inv h hc hl ((congrArg (fun z => z.2) b2).trans a2) (fun k a g0 g1 g2 g3 g4 g5 g6 => iX k a (by omega) (by omega) (by omega) (by omega) g5 g6 (by omega) (by omega) (by omega)) (fun k a _ g1 => (eF b2 k a).trans (a4 k a g1)) ⟨_, finP_GP a7, a6.of (finP_GP a7) (fun a _ _ => eS b2 a) (fun k a _ _ => eP b2 k a) (fun k a g1 g2 => b3 k a (by omega) (by omega) (by omega) (by omega)), b5⟩ ⟨0, by omega, (b3 _ _ (by omega) (by omega) (by omega) (by omega)).trans a5, b4, fun j hj => absurd hj (Nat.not_lt_zero j)⟩ ?_⟩
      obtain ⟨zn, z1, z2, z3, z4⟩ := hIR
      refine ⟨zn, z1, (iX _ _ (by omega) (by omega) (by omega) (by omega) (by omega) (by omega) (by omega) (by omega) (by omega)).trans z2, (iX _ _ (by omega) (by omega) (by omega) (by omega) (by omega) (by omega) (by omega) (by omega) (by omega)).trans z3, fun h3 j hj => ?_⟩
      obtain ⟨c1, c2⟩ := z4 h3 j hj
      rw [iX _ 2177 (by omega) (by omega) (by omega) (by omega) (by omega) (by omega) (by omega) (by omega) (by omega), iX _ 2178 (by omega) (by omega) (by omega) (by omega) (by omega) (by omega) (by omega) (by omega) (by omega), iX _ 2185 (by omega) (by omega) (by omega) (by omega) (by omega) (by omega) (by omega) (by omega) (by omega), iX _ 2185 (by omega) (by omega) (by omega) (by omega) (by omega) (by omega) (by omega) (by omega) (by omega)]
      exact ⟨c1, c2⟩
    · obtain ⟨M1, a1, a2, a3, a4, a5, a6, a7, a8, a9, a10, a11⟩ := gc2 hz
      have hL1 := eLay a2 hL
      have hT1 : TXr T L M1 := ⟨t1, trivial, (a3 _ _ (by omega) (by omega) (by omega) (by omega) (by omega)).trans t3, fun j hj => ⟨(hTX.2.2.2 j hj).1, trivial, (a3 _ _ (by omega) (by omega) (by omega) (by omega) (by omega)).trans (hTX.2.2.2 j hj).2.2⟩⟩
      obtain ⟨X, b1, b2, b3, b4, b5, b6, b7, b8, b9, b10, b11⟩ := (rp_r hL1 hT1 hl).2 hz
      have e2 : X.2 = M.2 := b2.trans a2
      have iX : ∀ k a, ¬ (a = 2165 ∧ 195 ≤ k ∧ k ≤ 200) → a ≠ 2167 → a ≠ 2168 → ¬ (2170 ≤ a ∧ a < 2176 ∧ k ≠ 0) → ¬ (2176 ≤ a ∧ a ≤ 2178) → ¬ (a = 2179 ∧ (k = 358 ∨ k = 360 ∨ (366 ≤ k ∧ k ≤ 372))) → a ≠ 2185 → a ≠ 2186 → a ≠ 2187 → mI X k a = mI M k a := fun k a h1 h2 h3 h4 h5 h6 h7 h8 h9 => (b3 k a h6 h7 h8 h9).trans (a3 k a h1 h2 h3 h4 h5)
      have iC : ∀ k a, 2165 ≤ a → a ≤ 2178 → mI X k a = mI M1 k a := fun k a h1 h2 => b3 k a (by omega) (by omega) (by omega) (by omega)
      refine ⟨_, M1, X, a1, S1 _ hL1, b1, n, vc, m, rp_inv h hc hl (congrArg (fun z => z.2) e2) (fun k a g0 g1 g2 g3 g4 g5 g6 => iX k a (by omega) (by omega) (by omega) (by omega) (by omega) (by omega) (by omega) (by omega) (by omega)) (fun k a _ g1 => eF e2 k a) ⟨π0, p1, p2.of p1 (fun a _ _ => eS e2 a) (fun k a _ _ => eP e2 k a) (fun k a g1 g2 => iX k a (by omega) (by omega) (by omega) (by omega) (by omega) (by omega) (by omega) (by omega) (by omega)), p3.of (fun k => iX _ _ (by omega) (by omega) (by omega) (by omega) (by omega) (by omega) (by omega) (by omega) (by omega))⟩ ⟨0, by omega, (iC _ _ (by omega) (by omega)).trans a4, b4, fun j hj => absurd hj (Nat.not_lt_zero j)⟩ ⟨3, Or.inr rfl, (iC _ _ (by omega) (by omega)).trans a5, b5, fun _ j hj => ?_⟩⟩
      rw [iC _ 2177 (by omega) (by omega), iC _ 2178 (by omega) (by omega)]
      rcases (show j = 0 ∨ j = 1 ∨ j = 2 by omega) with rfl | rfl | rfl
      · exact ⟨a6.trans b6.symm, a7.trans b7.symm⟩
      · exact ⟨a8.trans b8.symm, a9.trans b9.symm⟩
      · exact ⟨a10.trans b10.symm, a11.trans b11.symm⟩
  · obtain ⟨M1, hM1⟩ : ∃ M1, M1 = uI M 195 2165 0 := ⟨_, rfl⟩
    have hL1 : Lay M1 := by rw [hM1]; exact hL
    obtain ⟨X, hX⟩ : ∃ X, X = uI M1 358 2179 0 := ⟨_, rfl⟩
    have hA : m_X10_readPlan M (some 0) p = some (-2, M1) := by
      unfold m_X10_readPlan
      rw [dPark hL, rc_at (by rw [hpk]), planAt_n hp, cl_some, jn_eq, jn_eq, if_pos rfl]
      dsimp only
      rw [dTx hL, rc_at (by rw [S6 hL])]
      have hcl : m_X6_clear M (some 2165) = some ((), M1) := by
        unfold m_X6_clear
        rw [w6 hL, hM1]; rfl
      rw [hcl, cl_some, if_neg (by simp)]; rfl
    have hB : m_X11_readPlan M1 (some 2179) p = some (-2, X) := by
      unfold m_X11_readPlan
      rw [isPlan_n hp, cl_some, if_neg z00', wR hL1, hX]; rfl
    refine ⟨_, M1, X, hA, S1 _ hL1, hB, n, vc, m, h.txt hc (by rw [hX, hM1]; rfl) (fun k a g1 g2 g3 g4 => by rw [hX, mI_ne (by omega), hM1, mI_ne (by omega)]) ⟨0, by omega, by rw [hX, mI_ne (by omega), hM1, mI_eq]; rfl, by rw [hX, mI_eq]; rfl, fun j hj => absurd hj (Nat.not_lt_zero j)⟩⟩
