/-! ===== the call readPlan ===== -/
def finP (d : PD) : PD := if pCnt d = 0 then (pFree d, pCap d, pWay d, pLost d, 1, fun _ j => if j = 0 then 0 else if j = 1 then 100 else 60) else d
theorem finP_GP {d : PD} (h : GD d) : GP (finP d) := by
  obtain ⟨d1, d2, d3, d4, d5, d6, d7⟩ := h
  unfold finP
  by_cases h0 : pCnt d = 0
  · rw [if_pos h0]
    exact ⟨d1, d2, d3, d4, by show 1 ≤ 1; omega, by show 1 ≤ 6; omega, rfl, fun b _ => ⟨by show 0 ≤ 1439; omega, by show 100 ≤ 999; omega, by show 5 ≤ 60; omega, by show 60 ≤ 240; omega⟩⟩
  · rw [if_neg h0]
    exact ⟨d1, d2, d3, d4, by omega, d5, d6 h0, d7⟩
theorem rp_inv {cnt n vc m l : Nat} {M X : Mem} (h : Inv cnt n vc m M) (hc : cnt < 512) (hl : l < 4) (e3 : X.2.2 = M.2.2)
    (f2 : ∀ k a, a < 2188 → a ≠ 2165 → ¬ (2167 ≤ a ∧ a ≤ 2178 ∧ ¬ (k = 0 ∧ 2170 ≤ a ∧ a ≤ 2175)) → ¬ (a = 2179 ∧ (k = 358 ∨ 360 ≤ k)) → ¬ (2185 ≤ a) → ¬ (7 + 8 * l ≤ a ∧ a < 15 + 8 * l ∧ k ≠ 0) → ¬ (a = 2180 ∧ 1010 + 23 * l ≤ k ∧ k < 1033 + 23 * l) → mI X k a = mI M k a)
    (fF : ∀ k a, a < 2188 → ¬ (7 + 8 * l ≤ a ∧ a < 15 + 8 * l) → mF X k a = mF M k a)
    (hπ : ∃ π, GP π ∧ PlC X (aPl (pk 0) l) π ∧ PlR X 2180 (10 + 23 * l) π) (hT : ITx X) (hR : IRp X) : Inv (cnt + 1) n vc m X := by
  have hL := h.1
  have hP := h.2.2.2.1
  have hn := h.n512
  have hpp : pk 0 = 1 := rfl
  have hp1 : pk 1 = 1083 := rfl
  obtain ⟨-, -, ⟨n1, n2⟩, -, h6, h7, h8, h9⟩ := id h
  have eS : ∀ a, mS X a = mS M a := fun a => by unfold mS; rw [e3]
  have eP : ∀ k a, mP X k a = mP M k a := fun k a => by unfold mP; rw [e3]
  have eN : mN X = mN M := by unfold mN; rw [e3]
  have eL : mL X = mL M := by unfold mL; rw [e3]
  have g : ∀ k a, a < 2165 → ¬ (7 + 8 * l ≤ a ∧ a < 15 + 8 * l) → mI X k a = mI M k a := fun k a h1 h2 => f2 k a (by omega) (by omega) (by omega) (by omega) (by omega) (by omega) (by omega)
  have gr : ∀ k, ¬ (1010 + 23 * l ≤ k ∧ k < 1033 + 23 * l) → mI X k 2180 = mI M k 2180 := fun k h2 => f2 k 2180 (by omega) (by omega) (by omega) (by omega) (by omega) (by omega) (by omega)
  obtain ⟨m1, m2, m3⟩ := hP.imi
  refine ⟨layT e3 hL, by omega, by rw [eN, eL]; omega, ⟨fun i hi => ?_, hP.2.1.of (g _ _ (by omega) (by omega)) (fun k a h1 h2 => g k a (by omega) (by omega)) (gr _ (by omega)) (fun k h1 h2 => gr _ (by omega)),
    hP.2.2.1.of (Nat.le_refl _) (fun k a h1 h2 => g k a (by omega) (by omega)) (fun k h1 h2 => gr _ (by omega)),
    hP.2.2.2.1.of (by omega) (fun k a h1 h2 => g k a (by omega) (by omega)) (fun a h1 h2 => fF _ a (by omega) (by omega)) (fun k h1 h2 => gr _ (by omega)) (fun k => fF _ _ (by omega) (by omega)),
    hP.2.2.2.2.1.of (by omega) (by omega) (Nat.le_refl _) (Nat.le_refl _) (g _ _ (by omega) (by omega)) (fun k a h1 h2 => g k a (by omega) (by omega)) (gr _ (by omega)) (fun k h1 => gr _ (by omega)),
    ⟨m1, (g _ _ (by omega) (by omega)).trans m2, (gr _ (by omega)).trans m3⟩, hP.2.2.2.2.2.2.of (fun k h1 h2 => gr _ (by omega)) (fun k h1 => gr _ (by omega)) (fun l' h1 => gr _ (by omega))⟩, ?_, hT, hR, ?_⟩
  · by_cases hil : i = l
    · rw [hil]; exact hπ
    · obtain ⟨π, p1, p2, p3⟩ := hP.1 i hi
      have hcnt := p1.2.2.2.2.2.1
      have eA : aPl (pk 0) i = 7 + 8 * i := by unfold aPl pk; omega
      refine ⟨π, p1, p2.of p1 (fun a _ _ => eS a) (fun k a _ _ => eP k a) (fun k a h1 h2 => g k a (by omega) (by omega)), ?_⟩
      exact ⟨(gr _ (by omega)).trans p3.1, (gr _ (by omega)).trans p3.2.1, (gr _ (by omega)).trans p3.2.2.1, (gr _ (by omega)).trans p3.2.2.2.1, (gr _ (by omega)).trans p3.2.2.2.2.1, fun b hb j hj => (gr _ (by omega)).trans (p3.2.2.2.2.2 b hb j hj)⟩
  · rcases h6 with ⟨e1, e2⟩ | ⟨e1, e2, n', vc', m', hP1⟩
    · exact Or.inl ⟨(g _ _ (by omega) (by omega)).trans e1, (f2 _ _ (by omega) (by omega) (by omega) (by omega) (by omega) (by omega) (by omega)).trans e2⟩
    · have hn' := hP1.2.2.2.2.1.1
      exact Or.inr ⟨(g _ _ (by omega) (by omega)).trans e1, (f2 _ _ (by omega) (by omega) (by omega) (by omega) (by omega) (by omega) (by omega)).trans e2, n', vc', m', hP1.of (by omega) (by omega) (fun a _ _ => eS a) (fun k a _ _ => eP k a) (fun k a h1 h2 => g k a (by omega) (by omega)) (fun k a h1 h2 => fF k a (by omega) (by omega)) (fun k => f2 _ _ (by omega) (by omega) (by omega) (by omega) (by omega) (by omega) (by omega)) (fun k => fF _ _ (by omega) (by omega))⟩
  · refine ⟨fun b hb => (f2 _ _ (by omega) (by omega) (by omega) (by omega) (by omega) (by omega) (by omega)).trans (h9.1 b hb), fun i hi b hb => ?_⟩
    have eA : aPl (pk 1) i = 1089 + 8 * i := by unfold aPl pk; omega
    exact (g 0 _ (by omega) (by omega)).trans (h9.2 i hi b hb)
/-! the reference's loops around its parser -/
theorem zeros_r {J : Mem → Option (Int32 × Mem)} : ∀ (k c fu : Nat) (M : Mem), c + k = 23 → k < fu → Lay M → ∃ M1, lp (b_X11_readPlan_17 (some 2179) J) fu (nI c, M) = J M1 ∧ M1.2 = M.2 ∧ (∀ k a, a ≠ 2186 → mI M1 k a = mI M k a) ∧ (∀ j, c ≤ j → j < 23 → mI M1 (1000 + j) 2186 = 0) ∧ ∀ j, j < c → mI M1 (1000 + j) 2186 = mI M (1000 + j) 2186 := by
  intro k
  induction k with
  | zero =>
    intro c fu M hc hfu hL
    obtain ⟨fu, rfl⟩ : ∃ z, fu = z + 1 := ⟨fu - 1, by omega⟩
    have e23 : (23 : Int32) = nI 23 := rfl
    refine ⟨M, ?_, rfl, fun _ _ _ => rfl, fun j h1 h2 => by omega, fun _ _ => rfl⟩
    rw [lp_succ, b_X11_readPlan_17]
    exact if_pos (by rw [e23]; exact le_n (by omega) (by omega))
  | succ k ih =>
    intro c fu M hc hfu hL
    obtain ⟨fu, rfl⟩ : ∃ z, fu = z + 1 := ⟨fu - 1, by omega⟩
    obtain ⟨M1, f1, f2, f3, f4, f5⟩ := ih (c + 1) fu (uI M (1000 + c) 2186 0) (by omega) (by omega) hL
    refine ⟨M1, ?_, f2, fun k a h => (f3 k a h).trans (mI_ne (by omega)), fun j h1 h2 => ?_, fun j h1 => (f5 j (by omega)).trans (mI_ne (by omega))⟩
    · rw [lp_succ, b_X11_readPlan_17]
      refine (if_neg (fun h9 : (23 : Int32) ≤ nI c => absurd ((i_le (a := 23) (by omega) (by omega)).mp h9) (by omega))).trans ?_
      dsimp only
      rw [dR18 hL, sI_at (S86 hL) (by omega) (by omega), nI_1]; exact f1
    · by_cases h5 : c + 1 ≤ j
      · exact f4 j h5 h2
      · rw [show j = c by omega, f5 c (by omega), mI_eq]
theorem plancopy_r {l : Nat} (hl : l < 4) : ∀ (k c fu : Nat) (M : Mem), c + k = 23 → k < fu → Lay M → ∃ M1, lp (b_X11_readPlan_131 (some 2179) (nI l)) fu (nI c, M) = some (mI M 1004 2186, M1) ∧ M1.2 = M.2 ∧ (∀ k a, ¬ (a = 2180 ∧ 1010 + 23 * l + c ≤ k ∧ k < 1033 + 23 * l) → mI M1 k a = mI M k a) ∧ ∀ j, c ≤ j → j < 23 → mI M1 (1000 + (10 + 23 * l + j)) 2180 = mI M (1000 + j) 2186 := by
  intro k
  induction k with
  | zero =>
    intro c fu M hc hfu hL
    obtain ⟨fu, rfl⟩ : ∃ z, fu = z + 1 := ⟨fu - 1, by omega⟩
    have e23 : (23 : Int32) = nI 23 := rfl
    refine ⟨M, ?_, rfl, fun _ _ _ => rfl, fun j h1 h2 => by omega⟩
    rw [lp_succ, b_X11_readPlan_131]
    refine (if_pos (show (23 : Int32) ≤ nI c by rw [e23]; exact le_n (by omega) (by omega))).trans ?_
    dsimp only
    rw [dR18 hL, show aI M 100 (some 2186) 4 _ = _ from aI_at (i := 4) (S86 hL) (by omega) (by omega)]; rfl
  | succ k ih =>
    intro c fu M hc hfu hL
    obtain ⟨fu, rfl⟩ : ∃ z, fu = z + 1 := ⟨fu - 1, by omega⟩
    have e10 : (10 : Int32) = nI 10 := rfl
    have e23 : (23 : Int32) = nI 23 := rfl
    obtain ⟨M1, f1, f2, f3, f4⟩ := ih (c + 1) fu (uI M (1000 + (10 + 23 * l + c)) 2180 (mI M (1000 + c) 2186)) (by omega) (by omega) hL
    refine ⟨M1, ?_, f2, fun k a h => (f3 k a (by omega)).trans (mI_ne (by omega)), fun j h1 h2 => ?_⟩
    · rw [lp_succ, b_X11_readPlan_131]
      refine (if_neg (fun h9 : (23 : Int32) ≤ nI c => absurd ((i_le (a := 23) (by omega) (by omega)).mp h9) (by omega))).trans ?_
      dsimp only
      rw [dS hL, dR18 hL, aI_at (S86 hL) (by omega) (by omega), e10, e23, pk_mul, nI_add, nI_add, s_set hL (by omega), nI_1, f1, mI_ne (by omega)]
    · by_cases h5 : c + 1 ≤ j
      · exact (f4 j h5 h2).trans (mI_ne (by omega))
      · rw [show j = c by omega, f3 _ _ (by omega), mI_eq]
/-- the draft's row is filled up, and goes into the reference's plan -/
theorem fill_plan {M : Mem} {d : PD} {l : Nat} (hL : Lay M) (hl : l < 4) (h : RDr M d) (hg : GD d) : ∃ X, (dI M 11 20 (some 2179) (fun (x12 : Int32) => jn (fun (M14 : Mem) => dP M14 11 18 (some 2179) (fun (q15 : Option Nat) => dI M14 11 20 (some 2179) (fun (x16 : Int32) => jn (fun (x18 : Int32) (M19 : Mem) => sI M19 100 q15 4 x18 (fun (M20 : Mem) => lp (b_X11_readPlan_131 (some 2179) (nI l)) FU (0, M20))) (fun (J128_16 : Int32 → Mem → Option (Int32 × Mem)) => (if x16 ≠ 0 then dI M14 11 20 (some 2179) (fun (x29 : Int32) => J128_16 x29 M14) else J128_16 1 M14))))) (fun (J108_12 : Mem → Option (Int32 × Mem)) => (if x12 ≠ 0 then J108_12 M else dP M 11 18 (some 2179) (fun (q30 : Option Nat) => sI M 100 q30 5 0 (fun (M31 : Mem) => dP M31 11 18 (some 2179) (fun (q32 : Option Nat) => sI M31 100 q32 6 100 (fun (M33 : Mem) => dP M33 11 18 (some 2179) (fun (q34 : Option Nat) => sI M33 100 q34 7 60 (fun (M35 : Mem) => J108_12 M35)))))))))) = some (nI (pCnt (finP d)), X) ∧ X.2 = M.2 ∧ (∀ k a, ¬ (a = 2180 ∧ 1010 + 23 * l ≤ k ∧ k < 1033 + 23 * l) → a ≠ 2186 → mI X k a = mI M k a) ∧ PlR X 2180 (10 + 23 * l) (finP d) := by
  have hd5 := hg.2.2.2.2.1
  obtain ⟨r1, r2, r3, r4, r5, r6⟩ := h
  have r5' : mI M (32 * 11 + 20) 2179 = nI (pCnt d) := r5
  have e0 : ((0 : Int32)) = nI 0 := rfl
  by_cases h0 : pCnt d = 0
  · obtain ⟨A, hA⟩ : ∃ A, A = uI (uI (uI M (1000 + 5) 2186 0) (1000 + 6) 2186 100) (1000 + 7) 2186 60 := ⟨_, rfl⟩
    have hLA : Lay A := by rw [hA]; exact hL
    have a5 : mI A (32 * 11 + 20) 2179 = nI 0 := by rw [hA, mI_ne (by omega), mI_ne (by omega), mI_ne (by omega), ← h0]; exact r5
    obtain ⟨B, hB⟩ : ∃ B, B = uI A (1000 + 4) 2186 1 := ⟨_, rfl⟩
    have hLB : Lay B := by rw [hB]; exact hLA
    obtain ⟨X, f1, f2, f3, f4⟩ := plancopy_r hl 23 0 FU B (by omega) (Nat.lt_trans (by omega) FU_1000) hLB
    have iB : ∀ k, k < 1004 → mI B k 2186 = mI M k 2186 := fun k hk => by rw [hB, mI_ne (by omega), hA, mI_ne (by omega), mI_ne (by omega), mI_ne (by omega)]
    have e : finP d = (pFree d, pCap d, pWay d, pLost d, 1, fun _ j => if j = 0 then 0 else if j = 1 then 100 else 60) := if_pos h0
    refine ⟨X, ?_, f2.trans (by rw [hB, hA]; rfl), fun k a h1 h2 => ?_, ?_⟩
    · rw [iR hL r5', jn_eq, h0, if_neg (show ¬ nI 0 ≠ 0 from fun h9 => h9 rfl), dR18 hL, show sI M 100 (some 2186) 5 0 _ = _ from sI_at (i := 5) (S86 hL) (by omega) (by omega), dR18 (hL.uI _ _ _), show sI (uI M (1000 + 5) 2186 0) 100 (some 2186) 6 100 _ = _ from sI_at (i := 6) (S86 (hL.uI _ _ _)) (by omega) (by omega), dR18 ((hL.uI _ _ _).uI _ _ _), show sI (uI (uI M (1000 + 5) 2186 0) (1000 + 6) 2186 100) 100 (some 2186) 7 60 _ = _ from sI_at (i := 7) (S86 ((hL.uI _ _ _).uI _ _ _)) (by omega) (by omega), ← hA]
      dsimp only
      rw [dR18 hLA, iR hLA a5, jn_eq, if_neg (show ¬ nI 0 ≠ 0 from fun h9 => h9 rfl)]
      show sI A 100 (some 2186) (nI 4) 1 _ = _
      rw [sI_at (S86 hLA) (by omega) (by omega), ← hB, e0]
      refine f1.trans ?_
      rw [show mI B 1004 2186 = 1 by rw [hB]; exact mI_eq, e]; rfl
    · rw [f3 k a (by omega), hB, mI_ne (by omega), hA, mI_ne (by omega), mI_ne (by omega), mI_ne (by omega)]
    · rw [e]
      refine ⟨(f4 0 (by omega) (by omega)).trans ((iB _ (by omega)).trans r1), (f4 1 (by omega) (by omega)).trans ((iB _ (by omega)).trans r2), (f4 2 (by omega) (by omega)).trans ((iB _ (by omega)).trans r3), (f4 3 (by omega) (by omega)).trans ((iB _ (by omega)).trans r4), (f4 4 (by omega) (by omega)).trans (by rw [hB, mI_eq]; rfl), fun b hb j hj => ?_⟩
      have hb0 : b = 0 := by have : b < 1 := hb; omega
      subst hb0
      show mI X (1000 + (10 + 23 * l + 5 + 3 * 0 + j)) 2180 = nI (if j = 0 then 0 else if j = 1 then 100 else 60)
      rw [show 10 + 23 * l + 5 + 3 * 0 + j = 10 + 23 * l + (5 + j) by omega, f4 (5 + j) (by omega) (by omega)]
      rcases (show j = 0 ∨ j = 1 ∨ j = 2 by omega) with rfl | rfl | rfl
      · rw [if_pos rfl, hB, mI_ne (by omega), hA, mI_ne (by omega), mI_ne (by omega), mI_eq]; rfl
      · rw [if_neg (by omega), if_pos rfl, hB, mI_ne (by omega), hA, mI_ne (by omega), mI_eq]; rfl
      · rw [if_neg (by omega), if_neg (by omega), hB, mI_ne (by omega), hA, mI_eq]; rfl
  · have hne : nI (pCnt d) ≠ 0 := fun h9 => h0 ((i_eq (b := 0) (by omega) (by omega)).mp h9)
    obtain ⟨B, hB⟩ : ∃ B, B = uI M (1000 + 4) 2186 (nI (pCnt d)) := ⟨_, rfl⟩
    have hLB : Lay B := by rw [hB]; exact hL
    obtain ⟨X, f1, f2, f3, f4⟩ := plancopy_r hl 23 0 FU B (by omega) (Nat.lt_trans (by omega) FU_1000) hLB
    have iB : ∀ k, k ≠ 1004 → mI B k 2186 = mI M k 2186 := fun k hk => by rw [hB, mI_ne (by omega)]
    have e : finP d = d := if_neg h0
    refine ⟨X, ?_, f2.trans (by rw [hB]; rfl), fun k a h1 h2 => ?_, ?_⟩
    · rw [iR hL r5', jn_eq, if_pos hne]
      dsimp only
      rw [dR18 hL, iR hL r5', jn_eq, if_pos hne, iR hL r5']
      show sI M 100 (some 2186) (nI 4) (nI (pCnt d)) _ = _
      rw [sI_at (S86 hL) (by omega) (by omega), ← hB, e0]
      refine f1.trans ?_
      rw [show mI B 1004 2186 = nI (pCnt d) by rw [hB]; exact mI_eq, e]
    · rw [f3 k a (by omega), hB, mI_ne (by omega)]
    · rw [e]
      refine ⟨(f4 0 (by omega) (by omega)).trans ((iB _ (by omega)).trans r1), (f4 1 (by omega) (by omega)).trans ((iB _ (by omega)).trans r2), (f4 2 (by omega) (by omega)).trans ((iB _ (by omega)).trans r3), (f4 3 (by omega) (by omega)).trans ((iB _ (by omega)).trans r4), (f4 4 (by omega) (by omega)).trans (by rw [hB, mI_eq]), fun b hb j hj => ?_⟩
      rw [show 10 + 23 * l + 5 + 3 * b + j = 10 + 23 * l + (5 + 3 * b + j) by omega, f4 (5 + 3 * b + j) (by omega) (by omega), iB _ (by omega)]
      exact r6 b hb j hj
