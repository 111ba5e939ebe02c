theorem rep_r {M : Mem} (hL : Lay M) (p i c e : Int32) (hi : mI M 367 2179 = i) (hc : mI M 368 2179 = c) (he : mI M 369 2179 = e) : m_X11_reports M (some 2179) p = some ((), uI (uI (uI (uI (uI (uI (uI M 360 2179 3) (1000 + 0) 2185 1) (1000 + 1) 2185 p) (1000 + 2) 2185 2) (1000 + 3) 2185 i) (1000 + 4) 2185 c) (1000 + 5) 2185 e) := by
  have d7 : ∀ {M : Mem}, Lay M → ∀ {K : Option Nat → Option (Unit × Mem)}, dP M 11 7 (some 2179) K = K (some 2185) := by
    intro M hL K
    rw [dP_at (S1 _ hL)]
    show K (mP M 359 2179) = _
    rw [show mP M 359 2179 = some 2185 from hL.P (by omega) 359]
  have s5 : ∀ {M : Mem}, Lay M → mS M 2185 = (100, 6) := fun hL => hL.S (by omega)
  have w : ∀ {M : Mem} (hL : Lay M) (j : Nat) (hj : j < 6) (x : Int32) {K : Mem → Option (Unit × Mem)}, sI M 100 (some 2185) (nI j) x K = K (uI M (1000 + j) 2185 x) := fun hL j hj x => sI_at (s5 hL) hj (by omega)
  obtain ⟨A1, hA1⟩ : ∃ A, A = uI M 360 2179 3 := ⟨_, rfl⟩
  have hL1 : Lay A1 := by rw [hA1]; exact hL
  obtain ⟨A2, hA2⟩ : ∃ A, A = uI A1 (1000 + 0) 2185 1 := ⟨_, rfl⟩
  have hL2 : Lay A2 := by rw [hA2]; exact hL1
  obtain ⟨A3, hA3⟩ : ∃ A, A = uI A2 (1000 + 1) 2185 p := ⟨_, rfl⟩
  have hL3 : Lay A3 := by rw [hA3]; exact hL2
  obtain ⟨A4, hA4⟩ : ∃ A, A = uI A3 (1000 + 2) 2185 2 := ⟨_, rfl⟩
  have hL4 : Lay A4 := by rw [hA4]; exact hL3
  obtain ⟨A5, hA5⟩ : ∃ A, A = uI A4 (1000 + 3) 2185 i := ⟨_, rfl⟩
  have hL5 : Lay A5 := by rw [hA5]; exact hL4
  obtain ⟨A6, hA6⟩ : ∃ A, A = uI A5 (1000 + 4) 2185 c := ⟨_, rfl⟩
  have hL6 : Lay A6 := by rw [hA6]; exact hL5
  have i4 : mI A4 (32 * 11 + 15) 2179 = i := by rw [hA4, mI_ne (by omega), hA3, mI_ne (by omega), hA2, mI_ne (by omega), hA1, mI_ne (by omega)]; exact hi
  have i5 : mI A5 (32 * 11 + 16) 2179 = c := by rw [hA5, mI_ne (by omega), hA4, mI_ne (by omega), hA3, mI_ne (by omega), hA2, mI_ne (by omega), hA1, mI_ne (by omega)]; exact hc
  have i6' : mI A6 (32 * 11 + 17) 2179 = e := by rw [hA6, mI_ne (by omega), hA5, mI_ne (by omega), hA4, mI_ne (by omega), hA3, mI_ne (by omega), hA2, mI_ne (by omega), hA1, mI_ne (by omega)]; exact he
  rw [← hA1, ← hA2, ← hA3, ← hA4, ← hA5, ← hA6]
  unfold m_X11_reports
  rw [wR hL]
  show dP (uI M 360 2179 3) 11 7 (some 2179) _ = _
  rw [← hA1, d7 hL1, show sI A1 100 (some 2185) 0 1 _ = _ from w hL1 0 (by omega) 1, ← hA2, d7 hL2, show sI A2 100 (some 2185) 1 p _ = _ from w hL2 1 (by omega) p, ← hA3, d7 hL3, show sI A3 100 (some 2185) 2 2 _ = _ from w hL3 2 (by omega) 2, ← hA4, d7 hL4, iR hL4 i4, show sI A4 100 (some 2185) 3 i _ = _ from w hL4 3 (by omega) i, ← hA5, d7 hL5, iR hL5 i5, show sI A5 100 (some 2185) 4 c _ = _ from w hL5 4 (by omega) c, ← hA6, d7 hL6, iR hL6 i6', show sI A6 100 (some 2185) 5 e _ = _ from w hL6 5 (by omega) e]; rfl
theorem tell_c {M : Mem} (hL : Lay M) (p1 p2 p3 p4 : Int32) : m_X7_tell M (some 2176) p1 p2 p3 p4 = some ((), uI (uI (uI (uI (uI (uI (uI M (1000 + 0) 2177 1) (1000 + 0) 2178 p1) (1000 + 1) 2177 2) (1000 + 1) 2178 p2) (1000 + 2) 2177 p3) (1000 + 2) 2178 p4) 226 2176 3) := by
  have S7 : ∀ {M : Mem}, Lay M → mS M 2176 = (7, 0) := fun hL => hL.S (by omega)
  have d0 : ∀ {M : Mem}, Lay M → ∀ {K : Option Nat → Option (Unit × Mem)}, dP M 7 0 (some 2176) K = K (some 2177) := by
    intro M hL K
    rw [dP_at (by rw [S7 hL])]
    show K (mP M 224 2176) = _
    rw [show mP M 224 2176 = some 2177 from hL.P (by omega) 224]
  have d1 : ∀ {M : Mem}, Lay M → ∀ {K : Option Nat → Option (Unit × Mem)}, dP M 7 1 (some 2176) K = K (some 2178) := by
    intro M hL K
    rw [dP_at (by rw [S7 hL])]
    show K (mP M 225 2176) = _
    rw [show mP M 225 2176 = some 2178 from hL.P (by omega) 225]
  have w0 : ∀ {M : Mem} (hL : Lay M) (j : Nat) (hj : j < 3) (x : Int32) {K : Mem → Option (Unit × Mem)}, sI M 100 (some 2177) (nI j) x K = K (uI M (1000 + j) 2177 x) := fun hL j hj x => sI_at (show mS _ 2177 = (100, 3) from hL.S (by omega)) hj (by omega)
  have w1 : ∀ {M : Mem} (hL : Lay M) (j : Nat) (hj : j < 3) (x : Int32) {K : Mem → Option (Unit × Mem)}, sI M 100 (some 2178) (nI j) x K = K (uI M (1000 + j) 2178 x) := fun hL j hj x => sI_at (show mS _ 2178 = (100, 3) from hL.S (by omega)) hj (by omega)
  obtain ⟨A1, hA1⟩ : ∃ A, A = uI M (1000 + 0) 2177 1 := ⟨_, rfl⟩
  have hL1 : Lay A1 := by rw [hA1]; exact hL
  obtain ⟨A2, hA2⟩ : ∃ A, A = uI A1 (1000 + 0) 2178 p1 := ⟨_, rfl⟩
  have hL2 : Lay A2 := by rw [hA2]; exact hL1
  obtain ⟨A3, hA3⟩ : ∃ A, A = uI A2 (1000 + 1) 2177 2 := ⟨_, rfl⟩
  have hL3 : Lay A3 := by rw [hA3]; exact hL2
  obtain ⟨A4, hA4⟩ : ∃ A, A = uI A3 (1000 + 1) 2178 p2 := ⟨_, rfl⟩
  have hL4 : Lay A4 := by rw [hA4]; exact hL3
  obtain ⟨A5, hA5⟩ : ∃ A, A = uI A4 (1000 + 2) 2177 p3 := ⟨_, rfl⟩
  have hL5 : Lay A5 := by rw [hA5]; exact hL4
  obtain ⟨A6, hA6⟩ : ∃ A, A = uI A5 (1000 + 2) 2178 p4 := ⟨_, rfl⟩
  have hL6 : Lay A6 := by rw [hA6]; exact hL5
  rw [← hA1, ← hA2, ← hA3, ← hA4, ← hA5, ← hA6]
  unfold m_X7_tell
  rw [d0 hL, show sI M 100 (some 2177) 0 1 _ = _ from w0 hL 0 (by omega) 1, ← hA1, d1 hL1, show sI A1 100 (some 2178) 0 p1 _ = _ from w1 hL1 0 (by omega) p1, ← hA2, d0 hL2, show sI A2 100 (some 2177) 1 2 _ = _ from w0 hL2 1 (by omega) 2, ← hA3, d1 hL3, show sI A3 100 (some 2178) 1 p2 _ = _ from w1 hL3 1 (by omega) p2, ← hA4, d0 hL4, show sI A4 100 (some 2177) 2 p3 _ = _ from w0 hL4 2 (by omega) p3, ← hA5, d1 hL5, show sI A5 100 (some 2178) 2 p4 _ = _ from w1 hL5 2 (by omega) p4, ← hA6, pI_at (by rw [S7 hL6])]; rfl
/-- the reference's readPlan of a plan that is there -/
theorem rp_r {T : Nat → Nat} {L l : Nat} {M : Mem} (hL : Lay M) (hT : TXr T L M) (hl : l < 4) :
    ((planP T L 91 0 0 d00).2.1 = 0 → ∃ X, m_X11_readPlan M (some 2179) (nI l) = some (nI (pCnt (finP (planP T L 91 0 0 d00).2.2.2.2)), X) ∧ X.2 = M.2 ∧ (∀ k a, ¬ (a = 2180 ∧ 1010 + 23 * l ≤ k ∧ k < 1033 + 23 * l) → ¬ (a = 2179 ∧ (k = 358 ∨ (366 ≤ k ∧ k ≤ 372))) → a ≠ 2186 → a ≠ 2187 → mI X k a = mI M k a) ∧ mI X 358 2179 = nI 0 ∧ PlR X 2180 (10 + 23 * l) (finP (planP T L 91 0 0 d00).2.2.2.2)) ∧
    ((planP T L 91 0 0 d00).2.1 ≠ 0 → ∃ X, m_X11_readPlan M (some 2179) (nI l) = some (-5, X) ∧ X.2 = M.2 ∧ (∀ k a, ¬ (a = 2179 ∧ (k = 358 ∨ k = 360 ∨ (366 ≤ k ∧ k ≤ 372))) → a ≠ 2185 → a ≠ 2186 → a ≠ 2187 → mI X k a = mI M k a) ∧ mI X 358 2179 = nI 0 ∧ mI X 360 2179 = nI 3 ∧ mI X 1000 2185 = nI 1 ∧ mI X 1001 2185 = nI l ∧ mI X 1002 2185 = nI 2 ∧ mI X 1003 2185 = nI (planP T L 91 0 0 d00).1 ∧ mI X 1004 2185 = nI (planP T L 91 0 0 d00).2.1 ∧ mI X 1005 2185 = nI (planP T L 91 0 0 d00).2.2.1) := by
  have hp : (0 : Int32) ≤ nI l ∧ nI l ≤ 3 := ⟨le_n (a := 0) (by omega) (by omega), le_n (b := 3) (by omega) (by omega)⟩
  obtain ⟨z, hz⟩ : ∃ z, z = planP T L 91 0 0 d00 := ⟨_, rfl⟩
  rw [← hz]
  -- the draft's row begins
  obtain ⟨A, f1, f2, f3, f4, -⟩ := zeros_r (J := fun (M4 : Mem) => dP M4 11 18 (some 2179) (fun (q5 : Option Nat) => sI M4 100 q5 3 2000 (fun (M6 : Mem) => dP M6 11 18 (some 2179) (fun (q7 : Option Nat) => sI M6 100 q7 4 1 (fun (M8 : Mem) => rc M8 11 (some 2179) (cl (m_X11_reads M8 (some 2179)) (fun (_u : Unit) (M9 : Mem) => pI M9 11 6 (some 2179) 0 (fun (M10 : Mem) => dI M10 11 16 (some 2179) (fun (x11 : Int32) => (if x11 ≤ 0 then dI M10 11 20 (some 2179) (fun (x12 : Int32) => jn (fun (M14 : Mem) => dP M14 11 18 (some 2179) (fun (q15 : Option Nat) => dI M14 11 20 (some 2179) (fun (x16 : Int32) => jn (fun (x18 : Int32) (M19 : Mem) => sI M19 100 q15 4 x18 (fun (M20 : Mem) => lp (b_X11_readPlan_131 (some 2179) (nI l)) FU (0, M20))) (fun (J128_16 : Int32 → Mem → Option (Int32 × Mem)) => (if x16 ≠ 0 then dI M14 11 20 (some 2179) (fun (x29 : Int32) => J128_16 x29 M14) else J128_16 1 M14))))) (fun (J108_12 : Mem → Option (Int32 × Mem)) => (if x12 ≠ 0 then J108_12 M10 else dP M10 11 18 (some 2179) (fun (q30 : Option Nat) => sI M10 100 q30 5 0 (fun (M31 : Mem) => dP M31 11 18 (some 2179) (fun (q32 : Option Nat) => sI M31 100 q32 6 100 (fun (M33 : Mem) => dP M33 11 18 (some 2179) (fun (q34 : Option Nat) => sI M33 100 q34 7 60 (fun (M35 : Mem) => J108_12 M35))))))))) else rc M10 11 (some 2179) (cl (m_X11_reports M10 (some 2179) (nI l)) (fun (_u : Unit) (M36 : Mem) => rt ((-5)) M36)))))))))))) 23 0 FU M (by omega) (Nat.lt_trans (by omega) FU_1000) hL
  have hLA : Lay A := eLay f2 hL
  obtain ⟨B, hB⟩ : ∃ B, B = uI (uI A (1000 + 3) 2186 2000) (1000 + 4) 2186 1 := ⟨_, rfl⟩
  have hLB : Lay B := by rw [hB]; exact hLA
  have hB2 : B.2 = M.2 := by rw [hB]; exact f2
  have iB : ∀ k a, a ≠ 2186 → mI B k a = mI M k a := fun k a h => by rw [hB, mI_ne (by omega), mI_ne (by omega)]; exact f3 k a h
  have hRB : Rfr M B := ⟨hB2, fun k a _ h2 _ => iB k a h2⟩
  have hTB : TXr T L B := hRB.TX hT
  have hO := reads_r hLB hTB (by rw [hB, mI_ne (by omega), mI_ne (by omega)]; exact f4 0 (by omega) (by omega)) (by rw [hB, mI_ne (by omega), mI_ne (by omega)]; exact f4 1 (by omega) (by omega)) (by rw [hB, mI_ne (by omega), mI_ne (by omega)]; exact f4 2 (by omega) (by omega)) (by rw [hB, mI_ne (by omega), mI_eq])
  rw [← hz] at hO
  obtain ⟨C, g1, g2, g3⟩ := hO
  obtain ⟨D, hD⟩ : ∃ D, D = uI C 358 2179 0 := ⟨_, rfl⟩
  have hrun : ∀ hLC : Lay C, m_X11_readPlan M (some 2179) (nI l) = (if mI D 368 2179 ≤ 0 then dI D 11 20 (some 2179) (fun (x12 : Int32) => jn (fun (M14 : Mem) => dP M14 11 18 (some 2179) (fun (q15 : Option Nat) => dI M14 11 20 (some 2179) (fun (x16 : Int32) => jn (fun (x18 : Int32) (M19 : Mem) => sI M19 100 q15 4 x18 (fun (M20 : Mem) => lp (b_X11_readPlan_131 (some 2179) (nI l)) FU (0, M20))) (fun (J128_16 : Int32 → Mem → Option (Int32 × Mem)) => (if x16 ≠ 0 then dI M14 11 20 (some 2179) (fun (x29 : Int32) => J128_16 x29 M14) else J128_16 1 M14))))) (fun (J108_12 : Mem → Option (Int32 × Mem)) => (if x12 ≠ 0 then J108_12 D else dP D 11 18 (some 2179) (fun (q30 : Option Nat) => sI D 100 q30 5 0 (fun (M31 : Mem) => dP M31 11 18 (some 2179) (fun (q32 : Option Nat) => sI M31 100 q32 6 100 (fun (M33 : Mem) => dP M33 11 18 (some 2179) (fun (q34 : Option Nat) => sI M33 100 q34 7 60 (fun (M35 : Mem) => J108_12 M35))))))))) else rc D 11 (some 2179) (cl (m_X11_reports D (some 2179) (nI l)) (fun (_u : Unit) (M36 : Mem) => rt ((-5)) M36))) := by
    intro hLC
    have hLD : Lay D := by rw [hD]; exact hLC
    unfold m_X11_readPlan
    rw [isPlan_y hp, cl_some, if_pos z10', jn_eq]
    refine f1.trans ?_
    rw [dR18 hLA, show sI A 100 (some 2186) 3 2000 _ = _ from sI_at (i := 3) (S86 hLA) (by omega) (by omega), dR18 (hLA.uI _ _ _), show sI (uI A (1000 + 3) 2186 2000) 100 (some 2186) 4 1 _ = _ from sI_at (i := 4) (S86 (hLA.uI _ _ _)) (by omega) (by omega), ← hB, rc_at (S1 _ hLB), g1, cl_some, wR hLC]
    show dI (uI C 358 2179 0) 11 16 (some 2179) _ = _
    rw [← hD, iR hLD (show mI D (32 * 11 + 16) 2179 = mI D 368 2179 from rfl)]
  refine ⟨fun h0 => ?_, fun h0 => ?_⟩
  · obtain ⟨k1, k2⟩ := g2 h0
    have hLC := k1.1.Lay hLB
    have hLD : Lay D := by rw [hD]; exact hLC
    have hRD : RDr D z.2.2.2.2 := by rw [hD]; exact k1.2.2.2.2.of (fun k => mI_ne (by omega)) (mI_ne (by omega))
    obtain ⟨X, w1, w2, w3, w4⟩ := fill_plan hLD hl hRD k2
    have h368 : mI D 368 2179 = 0 := by rw [hD, mI_ne (by omega)]; exact k1.2.2.2.1
    refine ⟨X, ?_, w2.trans (by rw [hD]; exact k1.1.1.trans hB2), fun k a a1 a2 a3 a4 => ?_, ?_, w4⟩
    · rw [hrun hLC, if_pos (show mI D 368 2179 ≤ 0 by rw [h368]; decide)]
      exact w1
    · rw [w3 k a a1 a3, hD, mI_ne (by omega), k1.1.2 k a (by omega) a3 a4]
      exact iB k a a3
    · rw [w3 _ _ (by omega) (by omega), hD, mI_eq]; rfl
  · have k1 := g3 h0
    have hLC := k1.1.Lay hLB
    have hLD : Lay D := by rw [hD]; exact hLC
    have h367 : mI D 367 2179 = nI z.1 := by rw [hD, mI_ne (by omega)]; exact k1.2.2.1
    have h368 : mI D 368 2179 = nI z.2.1 := by rw [hD, mI_ne (by omega)]; exact k1.2.2.2.1
    have h369 : mI D 369 2179 = nI z.2.2.1 := by rw [hD, mI_ne (by omega)]; exact k1.2.2.2.2.1
    have hc34 := k1.2.2.2.2.2.1
    obtain ⟨X, hX⟩ : ∃ X, X = uI (uI (uI (uI (uI (uI (uI D 360 2179 3) (1000 + 0) 2185 1) (1000 + 1) 2185 (nI l)) (1000 + 2) 2185 2) (1000 + 3) 2185 (nI z.1)) (1000 + 4) 2185 (nI z.2.1)) (1000 + 5) 2185 (nI z.2.2.1) := ⟨_, rfl⟩
    have hrep := rep_r hLD (nI l) _ _ _ h367 h368 h369
    rw [← hX] at hrep
    refine ⟨X, ?_, by rw [hX, hD]; exact k1.1.1.trans hB2, fun k a a1 a2 a3 a4 => ?_, ?_, ?_, ?_, ?_, ?_, ?_, ?_, ?_⟩
    · rw [hrun hLC, if_neg (show ¬ mI D 368 2179 ≤ 0 from fun h9 => by
        rw [h368] at h9
        have := (i_le (b := 0) (by omega) (by omega)).mp h9
        omega), rc_at (S1 _ hLD), hrep, cl_some]; rfl
    · rw [hX, mI_ne (by omega), mI_ne (by omega), mI_ne (by omega), mI_ne (by omega), mI_ne (by omega), mI_ne (by omega), mI_ne (by omega), hD, mI_ne (by omega), k1.1.2 k a (by omega) a3 a4]
      exact iB k a a3
    · rw [hX, mI_ne (by omega), mI_ne (by omega), mI_ne (by omega), mI_ne (by omega), mI_ne (by omega), mI_ne (by omega), mI_ne (by omega), hD, mI_eq]; rfl
    · rw [hX, mI_ne (by omega), mI_ne (by omega), mI_ne (by omega), mI_ne (by omega), mI_ne (by omega), mI_ne (by omega), mI_eq]; rfl
    · rw [hX, mI_ne (by omega), mI_ne (by omega), mI_ne (by omega), mI_ne (by omega), mI_ne (by omega)]; exact mI_eq
    · rw [hX, mI_ne (by omega), mI_ne (by omega), mI_ne (by omega), mI_ne (by omega), mI_eq]
    · rw [hX, mI_ne (by omega), mI_ne (by omega), mI_ne (by omega)]; exact mI_eq
    · rw [hX, mI_ne (by omega), mI_ne (by omega), mI_eq]
    · rw [hX, mI_ne (by omega), mI_eq]
    · rw [hX, mI_eq]
