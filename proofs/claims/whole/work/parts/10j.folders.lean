/-! ===== the calls addVoucher, makeFolder, put, inFolder ===== -/
/-- only the car park at hand and the reference's row have changed -/
theorem Inv.of0 {M M1 : Mem} {cnt n vc m n' vc' m' : Nat} (h : Inv cnt n vc m M) (hc : cnt < 512) (hN : mN M ≤ mN M1 ∧ mN M1 ≤ mN M + 2 ∧ mL M1 ≤ mL M + 12) (hSP : ∀ a, a < 2188 → mS M1 a = mS M a ∧ ∀ k, mP M1 k a = mP M k a) (hI : ∀ k a, a < 2188 → (a = 0 ∨ 1083 ≤ a) → a ≠ 2180 → ¬ (a = 2179 ∧ 361 ≤ k ∧ k ≤ 365) → mI M1 k a = mI M k a) (hF : ∀ k a, a < 2188 → 1083 ≤ a → a ≠ 2182 → mF M1 k a = mF M k a) (hP : Pk (cnt + 1) n' vc' m' M1 0 2180 2182) : Inv (cnt + 1) n' vc' m' M1 := by
  obtain ⟨h1, h2, ⟨h3, h4⟩, h5, h6, h7, h8, h9⟩ := h
  obtain ⟨n1, n2, n3⟩ := hN
  refine ⟨⟨Nat.le_trans h1.1 n1, fun a ha => ⟨(hSP a ha).1.trans (h1.S ha), fun k => ((hSP a ha).2 k).trans (h1.P ha k)⟩⟩, by omega, ⟨by omega, by omega⟩, hP, ?_, ?_, ?_, ?_⟩
  · rcases h6 with ⟨e1, e2⟩ | ⟨e1, e2, n', vc', m', e3⟩
    · exact Or.inl ⟨(hI _ _ (by omega) (by omega) (by omega) (by omega)).trans e1, (hI _ _ (by omega) (by omega) (by omega) (by omega)).trans e2⟩
    · have hn' := e3.2.2.2.2.1.1
      refine Or.inr ⟨(hI _ _ (by omega) (by omega) (by omega) (by omega)).trans e1, (hI _ _ (by omega) (by omega) (by omega) (by omega)).trans e2, n', vc', m', e3.of (by omega) (by omega) (fun a h8 h9 => (hSP a (by unfold pk at h9; omega)).1) (fun k a h8 h9 => (hSP a (by unfold pk at h9; omega)).2 k) (fun k a h8 h9 => hI k a (by unfold pk at h9; omega) (by unfold pk at h8; omega) (by unfold pk at h9; omega) (by unfold pk at h9; omega)) (fun k a h8 h9 => hF k a (by unfold pk at h9; omega) (by unfold pk at h8; omega) (by unfold pk at h9; omega)) (fun k => hI _ _ (by omega) (by omega) (by omega) (by omega)) (fun k => hF _ _ (by omega) (by omega) (by omega))⟩
  · obtain ⟨L, t1, t2, t3, t4⟩ := h7
    refine ⟨L, t1, (hI _ _ (by omega) (by omega) (by omega) (by omega)).trans t2, (hI _ _ (by omega) (by omega) (by omega) (by omega)).trans t3, fun j hj => ?_⟩
    obtain ⟨c, c1, c2, c3⟩ := t4 j hj
    exact ⟨c, c1, (hI _ _ (by omega) (by omega) (by omega) (by omega)).trans c2, (hI _ _ (by omega) (by omega) (by omega) (by omega)).trans c3⟩
  · obtain ⟨z, t1, t2, t3, t4⟩ := h8
    refine ⟨z, t1, (hI _ _ (by omega) (by omega) (by omega) (by omega)).trans t2, (hI _ _ (by omega) (by omega) (by omega) (by omega)).trans t3, fun h3 j hj => ?_⟩
    obtain ⟨c1, c2⟩ := t4 h3 j hj
    exact ⟨((hI _ _ (by omega) (by omega) (by omega) (by omega)).trans c1).trans (hI _ _ (by omega) (by omega) (by omega) (by omega)).symm, ((hI _ _ (by omega) (by omega) (by omega) (by omega)).trans c2).trans (hI _ _ (by omega) (by omega) (by omega) (by omega)).symm⟩
  · exact ⟨fun b hb => (hI _ _ (by omega) (by omega) (by omega) (by omega)).trans (h9.1 b hb), fun i hi b hb => (hI _ _ (by unfold aPl pk; omega) (by unfold aPl pk; omega) (by unfold aPl pk; omega) (by unfold aPl pk; omega)).trans (h9.2 i hi b hb)⟩
theorem mI_ne {M : Mem} {k a k' a' : Nat} {x : Int32} (h : ¬ (k' = k ∧ a' = a)) : mI (uI M k a x) k' a' = mI M k' a' := if_neg h
theorem mI_eq {M : Mem} {k a : Nat} {x : Int32} : mI (uI M k a x) k a = x := if_pos ⟨rfl, rfl⟩
theorem s_set {M : Mem} (h : Lay M) {K : Mem → Option (Int32 × Mem)} {i : Nat} {x : Int32} (hi : i < 6889) : sI M 100 (some 2180) (nI i) x K = K (uI M (1000 + i) 2180 x) := sI_at (S_s M h) hi (by omega)
theorem dS {M : Mem} (h : Lay M) {K : Option Nat → Option (Int32 × Mem)} : dP M 11 0 (some 2179) K = K (some 2180) := by
  rw [dP_at (S1 M h)]
  show K (mP M 352 2179) = _
  rw [P_s M h]
theorem dPark {M : Mem} (h : Lay M) {β : Type} {K : Option Nat → Option β} : dP M 10 0 (some 0) K = K (some (pk 0)) := by
  rw [dP_at (by rw [S_zero h])]
  show K (mP M 320 0) = _
  rw [P_park h]
theorem Pk.imi {cnt n vc m q S R : Nat} {M : Mem} (h : Pk cnt n vc m M q S R) : IMi m M q S := h.2.2.2.2.2.1
theorem addVoucher_op {cnt n vc m : Nat} {M : Mem} (h : Inv cnt n vc m M) (hc : cnt < 512) (p a : Int32) : Op cnt M (fun M => m_X10_addVoucher M (some 0) p a) (fun M => m_X11_addVoucher M (some 2179) p a) := by
  have hL := h.1
  have hP := h.2.2.2.1
  obtain ⟨v1, v2, v3, v4⟩ := hP.2.1
  have no : ∀ {r : Int32} {g : Mem → Option (Int32 × Mem)}, m_X10_addVoucher M (some 0) p a = some (r, M) → g M = some (r, M) → Op cnt M (fun M => m_X10_addVoucher M (some 0) p a) g := fun h9 h8 => Op.same h hc h9 (Keep.rfl'.mono (by omega)) h8 Sc.rfl'
  by_cases hp : (0 : Int32) ≤ p ∧ p ≤ 3
  · obtain ⟨k, rfl, -, hk⟩ := nat_of (a := 0) (b := 3) (by omega) hp (by omega)
    obtain ⟨lim, hl⟩ : ∃ lim : Nat, lim = (if k = 1 then 100 else 999) := ⟨_, rfl⟩
    have hlim : lim ≤ 999 ∧ (k = 1 → lim ≤ 100) := by
      rw [hl]; split <;> omega
    have e0 : (0 : Int32) = nI 0 := rfl
    have e10 : (10 : Int32) = nI 10 := rfl
    have e1 : (102 : Int32) = nI 102 := rfl
    have e2 : (3 : Int32) = nI 3 := rfl
    have e9 : (9 : Int32) = nI 9 := rfl
    have hA : m_X10_addVoucher M (some 0) (nI k) a = cl (m_X10_within M a 0 (nI lim)) (fun (x7 : Int32) (M6 : Mem) => (if x7 ≠ 0 then dP M6 10 0 (some 0) (fun (q8 : Option Nat) => rc M6 1 q8 (cl (m_X1_makeVoucher M6 q8 (nI k) a) (fun (x10 : Int32) (M9 : Mem) => rt x10 M9))) else rt ((-2)) M6)) := by
      unfold m_X10_addVoucher jn
      rw [within_y hp, cl_some, if_pos (by decide)]
      dsimp only
      by_cases hk1 : k = 1
      · rw [hl, if_pos hk1, hk1]; rfl
      · have hne : nI k ≠ 1 := fun h9 => hk1 ((i_eq (b := 1) (by omega) (by omega)).mp h9)
        rw [hl, if_neg hk1, if_pos hne]; rfl
    have hB : ∀ M1, m_X11_addVoucher M1 (some 2179) (nI k) a = cl (m_X11_in M1 a 0 (nI lim)) (fun (x7 : Int32) (M6 : Mem) => (if x7 ≠ 0 then dP M6 11 0 (some 2179) (fun (q8 : Option Nat) => aI M6 100 q8 9 (fun (x9 : Int32) => (if x9 ≠ 10 then dP M6 11 0 (some 2179) (fun (q10 : Option Nat) => aI M6 100 q10 9 (fun (x11 : Int32) => dP M6 11 0 (some 2179) (fun (q12 : Option Nat) => sI M6 100 q12 ((102 + (3 * x11))) (nI k) (fun (M13 : Mem) => dP M13 11 0 (some 2179) (fun (q14 : Option Nat) => sI M13 100 q14 (((102 + (3 * x11)) + 1)) a (fun (M15 : Mem) => dP M15 11 0 (some 2179) (fun (q16 : Option Nat) => sI M15 100 q16 (((102 + (3 * x11)) + 2)) 0 (fun (M17 : Mem) => dP M17 11 0 (some 2179) (fun (q18 : Option Nat) => aI M17 100 q18 9 (fun (x19 : Int32) => sI M17 100 q18 9 ((x19 + 1)) (fun (M20 : Mem) => rt x11 M20))))))))))) else rt ((-3)) M6))) else rt ((-2)) M6)) := by
      intro M1
      unfold m_X11_addVoucher jn
      rw [in_y hp, cl_some, if_neg (by decide)]
      dsimp only
      by_cases hk1 : k = 1
      · rw [hl, if_pos hk1, hk1]; rfl
      · have hne : nI k ≠ 1 := fun h9 => hk1 ((i_eq (b := 1) (by omega) (by omega)).mp h9)
        rw [hl, if_neg hk1, if_pos hne]; rfl
    by_cases ha : (0 : Int32) ≤ a ∧ a ≤ nI lim
    · obtain ⟨am, rfl, -, ham⟩ := nat_of (a := 0) (b := lim) (by omega) ha (by omega)
      rw [within_y ha, cl_some, if_pos (by decide), dPark hL, rc_at (by rw [S_park hL (by omega)])] at hA
      by_cases hv : vc < 10
      · have hS := S_aVo hL (q := 0) (by omega) hv
        obtain ⟨M1, hM1⟩ : ∃ M1, M1 = uI (uI (uI (uI M 288 (aVo (pk 0) vc) (nI k)) 289 (aVo (pk 0) vc) (nI am)) 290 (aVo (pk 0) vc) 0) 37 (pk 0) (nI (vc + 1)) := ⟨_, rfl⟩
        have hmk : m_X1_makeVoucher M (some (pk 0)) (nI k) (nI am) = some (nI vc, M1) := by
          unfold m_X1_makeVoucher
          have hpk : mS M (pk 0) = (1, 0) := S_park hL (by omega)
          rw [dI_at (by rw [hpk]), e10]
          show (if mI M 37 (pk 0) < nI 10 then _ else _) = _
          rw [v2, if_pos ((i_lt (by omega) (by omega)).mpr hv), dP_at (by rw [hpk])]
          show dI M 1 5 (some (pk 0)) (fun x3 => aP M 119 (mP M 33 (pk 0)) x3 _) = _
          rw [P_vouchers hL (by omega), dI_at (by rw [hpk])]
          show aP M 119 (some (pk 0 + 2)) (mI M 37 (pk 0)) _ = _
          rw [v2, aP_at (S_vouchers hL (by omega)) hv (by omega), P_voucher hL (by omega) hv, rc_at (by rw [hS])]
          unfold m_X9_begin
          rw [pI_at (by rw [hS]), pI_at (by rw [mS_uI, hS]), pI_at (by rw [mS_uI, mS_uI, hS])]
          rw [cl_rt]
          show dI (uI (uI (uI M 288 (aVo (pk 0) vc) (nI k)) 289 (aVo (pk 0) vc) (nI am)) 290 (aVo (pk 0) vc) 0) 1 5 (some (pk 0)) _ = _
          rw [dI_at (by rw [mS_uI, mS_uI, mS_uI, hpk])]
          show pI _ 1 5 (some (pk 0)) (mI (uI (uI (uI M 288 (aVo (pk 0) vc) (nI k)) 289 (aVo (pk 0) vc) (nI am)) 290 (aVo (pk 0) vc) 0) 37 (pk 0) + 1) _ = _
          rw [mI_ne (by omega), mI_ne (by omega), mI_ne (by omega), v2, nI_1, pI_at (by rw [mS_uI, mS_uI, mS_uI, hpk])]
          show dI (uI _ 37 (pk 0) (nI (vc + 1))) 1 5 (some (pk 0)) _ = _
          rw [← hM1, dI_at (by rw [hM1]; show (mS M (pk 0)).1 = 1; rw [hpk])]
          show rt (mI M1 37 (pk 0) - 1) M1 = _
          rw [hM1, mI_eq, nI_pred]; rfl
        rw [hmk, cl_some] at hA
        have hL1 : Lay M1 := by rw [hM1]; exact hL
        have f1 : ∀ k' a', ¬ (a' = aVo (pk 0) vc ∨ (k' = 37 ∧ a' = pk 0)) → mI M1 k' a' = mI M k' a' := by
          intro k' a' h9
          rw [hM1, mI_ne (fun z => h9 (Or.inr z)), mI_ne (fun z => h9 (Or.inl z.2)), mI_ne (fun z => h9 (Or.inl z.2)), mI_ne (fun z => h9 (Or.inl z.2))]
        have hpv : aVo (pk 0) vc = 39 + vc := by unfold aVo pk; omega
        have hpp : pk 0 = 1 := rfl
        have r9 : mI M1 1009 2180 = nI vc := (f1 _ _ (by omega)).trans v3
        obtain ⟨M2, hM2⟩ : ∃ M2, M2 = uI (uI (uI (uI M1 (1000 + (102 + 3 * vc)) 2180 (nI k)) (1000 + (102 + 3 * vc + 1)) 2180 (nI am)) (1000 + (102 + 3 * vc + 2)) 2180 0) (1000 + 9) 2180 (nI (vc + 1)) := ⟨_, rfl⟩
        have hB1 : m_X11_addVoucher M1 (some 2179) (nI k) (nI am) = some (nI vc, M2) := by
          rw [hB M1, in_y ha, cl_some, if_pos (by decide), dS hL1, e9, s_at hL1 (by omega)]
          show (if mI M1 1009 2180 ≠ 10 then _ else _) = _
          rw [r9, e10, if_pos (fun h9 => absurd ((i_eq (by omega) (by omega)).mp h9) (by omega)), dS hL1, s_at hL1 (by omega)]
          show dP M1 11 0 (some 2179) (fun q12 => sI M1 100 q12 (102 + 3 * mI M1 1009 2180) (nI k) _) = _
          rw [r9, dS hL1, e1, e2, pk_mul, nI_add, s_set hL1 (by omega), dS (hL1.uI _ _ _), nI_1, s_set (hL1.uI _ _ _) (by omega), dS ((hL1.uI _ _ _).uI _ _ _), show nI (102 + 3 * vc) + 2 = nI (102 + 3 * vc + 2) from nI_add _ 2, s_set ((hL1.uI _ _ _).uI _ _ _) (by omega), dS (((hL1.uI _ _ _).uI _ _ _).uI _ _ _), s_at (((hL1.uI _ _ _).uI _ _ _).uI _ _ _) (by omega), s_set (((hL1.uI _ _ _).uI _ _ _).uI _ _ _) (by omega), mI_ne (by omega), mI_ne (by omega), mI_ne (by omega)]
          show rt (nI vc) (uI _ (1000 + 9) 2180 (mI M1 1009 2180 + 1)) = _
          rw [r9, nI_1, ← hM2]; rfl
        have f2 : ∀ k' a', ¬ (a' = aVo (pk 0) vc ∨ (k' = 37 ∧ a' = pk 0) ∨ (a' = 2180 ∧ (k' = 1009 ∨ (1102 + 3 * vc ≤ k' ∧ k' ≤ 1104 + 3 * vc)))) → mI M2 k' a' = mI M k' a' := by
          intro k' a' h9
          rw [hM2, mI_ne (by omega), mI_ne (by omega), mI_ne (by omega), mI_ne (by omega)]
          exact f1 k' a' (by omega)
        have f3 : M2.2 = M.2 := by rw [hM2, hM1]; rfl
        have fS : ∀ a, mS M2 a = mS M a := fun a => by unfold mS; rw [f3]
        have fP : ∀ k a, mP M2 k a = mP M k a := fun k a => by unfold mP; rw [f3]
        have fF : ∀ k a, mF M2 k a = mF M k a := fun k a => by unfold mF; rw [f3]
        have fN : mN M2 = mN M := by unfold mN; rw [f3]
        have fL : mL M2 = mL M := by unfold mL; rw [f3]
        have hnn := hP.2.2.2.2.1.1
        refine ⟨nI vc, M1, M2, hA, S1 _ hL1, hB1, n, vc + 1, m, ?_⟩
        refine h.of0 hc ⟨by omega, by omega, by omega⟩ (fun a _ => ⟨fS a, fun k => fP k a⟩) (fun k' a' h1 h2 h3 h4 => f2 k' a' (by omega)) (fun k a _ _ _ => fF k a) ?_
        refine ⟨hP.1.of (fun a _ _ => fS a) (fun k a _ _ => fP k a) (fun k' a' h8 h9 => f2 k' a' (by unfold aVo; omega)) (fun k' h8 h9 => f2 _ _ (by unfold aVo; omega)), ?_, hP.2.2.1.of (by omega) (fun k' a' h8 h9 => f2 k' a' (by unfold aVo; omega)) (fun k' h8 h9 => f2 _ _ (by unfold aVo; omega)),
          hP.2.2.2.1.of (by omega) (fun k' a' h8 h9 => f2 k' a' (by unfold aVo; omega)) (fun a _ _ => fF _ a) (fun k' h8 h9 => f2 _ _ (by unfold aVo; omega)) (fun k => fF k _),
          hP.2.2.2.2.1.of (by omega) (by omega) (by omega) (Nat.le_refl _) (f2 _ _ (by unfold aVo; omega)) (fun k' a' h8 h9 => f2 k' a' (by unfold aVo; omega)) (f2 _ _ (by unfold aVo; omega)) (fun k' h8 => f2 _ _ (by unfold aVo; omega)), ?_, hP.2.2.2.2.2.2.of (fun k' h8 h9 => f2 _ _ (by unfold aVo; omega)) (fun k' h8 => f2 _ _ (by unfold aVo; omega)) (fun l h8 => f2 _ _ (by unfold aVo; omega))⟩
        · have w37 : mI M2 37 (pk 0) = nI (vc + 1) := by
            rw [hM2, mI_ne (by omega), mI_ne (by omega), mI_ne (by omega), mI_ne (by omega), hM1, mI_eq]
          have w9 : mI M2 1009 2180 = nI (vc + 1) := by rw [hM2]; exact mI_eq
          refine ⟨by omega, w37, w9, fun v hv9 => ?_⟩
          by_cases hvv : v = vc
          · rw [hvv]
            have hav : aVo (pk 0) vc ≠ pk 0 ∧ aVo (pk 0) vc ≠ 2180 := by unfold aVo; omega
            refine ⟨k, am, 0, by omega, by omega, fun hk1 => by have := hlim.2 hk1; omega, ?_, ?_, ?_, ?_, ?_, ?_⟩
            · rw [hM2, mI_ne (by omega), mI_ne (by omega), mI_ne (by omega), mI_ne (by omega), hM1, mI_ne (by omega), mI_ne (by omega), mI_ne (by omega), mI_eq]
            · rw [hM2, mI_ne (by omega), mI_ne (by omega), mI_ne (by omega), mI_ne (by omega), hM1, mI_ne (by omega), mI_ne (by omega), mI_eq]
            · rw [hM2, mI_ne (by omega), mI_ne (by omega), mI_ne (by omega), mI_ne (by omega), hM1, mI_ne (by omega), mI_eq]
            · rw [hM2, mI_ne (by omega), mI_ne (by omega), mI_ne (by omega), mI_eq]
            · rw [hM2, mI_ne (by omega), mI_ne (by omega), mI_eq]
            · rw [hM2, mI_ne (by omega), mI_eq]
          · obtain ⟨k', a', g', g1, g2, g3, g4, g5, g6, g7, g8, g9⟩ := v4 v (by omega)
            have hne : ∀ z, mI M2 z (aVo (pk 0) v) = mI M z (aVo (pk 0) v) := fun z => f2 _ _ (by unfold aVo; omega)
            exact ⟨k', a', g', g1, g2, g3, (hne _).trans g4, (hne _).trans g5, (hne _).trans g6, (f2 _ _ (by omega)).trans g7, (f2 _ _ (by omega)).trans g8, (f2 _ _ (by omega)).trans g9⟩
        · obtain ⟨m1, m2, m3⟩ := hP.imi
          exact ⟨m1, (f2 _ _ (by unfold aVo; omega)).trans m2, (f2 _ _ (by unfold aVo; omega)).trans m3⟩
      · have hmk : m_X1_makeVoucher M (some (pk 0)) (nI k) (nI am) = some (-3, M) := by
          unfold m_X1_makeVoucher
          rw [dI_at (by rw [S_park hL (by omega)]), e10]
          show (if mI M 37 (pk 0) < nI 10 then _ else _) = _
          rw [v2, if_neg (fun h9 => absurd ((i_lt (by omega) (by omega)).mp h9) (by omega))]; rfl
        rw [hmk, cl_some] at hA
        refine no hA ?_
        show m_X11_addVoucher M _ _ _ = _
        rw [hB M, in_y ha, cl_some, if_pos (by decide), dS hL, e9, s_at hL (by omega)]
        show (if mI M 1009 2180 ≠ 10 then _ else _) = _
        rw [v3, e10, if_neg (by rw [show vc = 10 by omega]; simp)]; rfl
    · rw [within_n ha, cl_some, if_neg (by decide)] at hA
      refine no hA ?_
      show m_X11_addVoucher M _ _ _ = _
      rw [hB M, in_n ha, cl_some, if_neg (by decide)]; rfl
  · refine no (r := -2) ?_ ?_
    · unfold m_X10_addVoucher
      rw [within_n hp, cl_some, if_neg (by decide)]; rfl
    · show m_X11_addVoucher M _ _ _ = _
      unfold m_X11_addVoucher
      rw [in_n hp, cl_some, if_pos rfl]; rfl
