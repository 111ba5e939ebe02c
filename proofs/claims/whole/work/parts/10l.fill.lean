/-! ===== the call put ===== -/
def flu (cs : Nat → Nat) : Nat → Nat → Nat → Nat
  | 0, _, a => a
  | k + 1, i, a => flu cs k (i + 1) (a + if cs i = 0 then 0 else 1)
theorem flu_0 (cs : Nat → Nat) : ∀ (k i a : Nat), (∀ j, i ≤ j → j < i + k → cs j = 0) → flu cs k i a = a := by
  intro k
  induction k with
  | zero => intro i a _; rfl
  | succ k ih =>
    intro i a h
    show flu cs k (i + 1) (a + if cs i = 0 then 0 else 1) = a
    rw [if_pos (h i (by omega) (by omega))]
    exact ih (i + 1) _ (fun j h1 h2 => h j (by omega) (by omega))
theorem m1_iff {c : Nat} (hc : c < 1000) : nI c - 1 = -1 ↔ c = 0 := by
  cases c with
  | zero => exact ⟨fun _ => rfl, fun _ => by decide⟩
  | succ c =>
    rw [nI_pred]
    refine ⟨fun h => ?_, fun h => by omega⟩
    have h5 := congrArg Int32.toInt h
    rw [tI _ (by omega)] at h5
    have e5 : ((-1 : Int32)).toInt = -1 := by decide
    omega
theorem filled_c {M : Mem} {A C n : Nat} {cs : Nat → Nat} (h1 : mS M A = (2, 0)) (h2 : mP M 64 A = some C) (h3 : mS M C = (100, 5)) (hn : n ≤ 5) (e : mI M 65 A = nI n) (hc : ∀ j, j < 5 → cs j < 1000 ∧ (n ≤ j → cs j = 0) ∧ mI M (1000 + j) C = nI (cs j) - 1) : ∀ (k i a fu : Nat), i + k = 5 → k < fu → lp (b_X2_filledPlaces_4 (some A)) fu (nI a, nI i, M) = some (nI (flu cs k i a), M) := by
  have e5 : (5 : Int32) = nI 5 := rfl
  intro k
  induction k with
  | zero =>
    intro i a fu hi hfu
    obtain ⟨fu, rfl⟩ : ∃ z, fu = z + 1 := ⟨fu - 1, by omega⟩
    rw [lp_succ, b_X2_filledPlaces_4, e5, if_pos (le_n (by omega) (by omega))]; rfl
  | succ k ih =>
    intro i a fu hi hfu
    obtain ⟨fu, rfl⟩ : ∃ z, fu = z + 1 := ⟨fu - 1, by omega⟩
    rw [lp_succ, b_X2_filledPlaces_4, e5, if_neg (fun h9 => absurd ((i_le (by omega) (by omega)).mp h9) (by omega)), dI_at (by rw [h1])]
    show (if mI M 65 A ≤ nI i then _ else _) = _
    rw [e]
    by_cases hni : n ≤ i
    · rw [if_pos (le_n (by omega) hni), flu_0 cs (k + 1) i a (fun j h8 h9 => (hc j (by omega)).2.1 (by omega))]; rfl
    · rw [if_neg (fun h9 => hni ((i_le (by omega) (by omega)).mp h9)), dP_at (by rw [h1])]
      show aI M 100 (mP M 64 A) _ _ = _
      obtain ⟨d1, d2, d3⟩ := hc i (by omega)
      rw [h2, aI_at h3 (by omega) (by omega), d3]
      unfold jn
      dsimp only
      show _ = some (nI (flu cs k (i + 1) (a + if cs i = 0 then 0 else 1)), M)
      by_cases hz : cs i = 0
      · rw [if_pos ((m1_iff d1).mpr hz), if_pos hz, show nI a + 0 = nI (a + 0) from nI_add a 0, nI_1]
        exact ih (i + 1) _ fu (by omega) (by omega)
      · rw [if_neg (fun h9 => hz ((m1_iff d1).mp h9)), if_neg hz, nI_1, nI_1]
        exact ih (i + 1) _ fu (by omega) (by omega)
theorem filled_r {M : Mem} (hL : Lay M) {f : Nat} (hf : f < 3) {cs : Nat → Nat} (hc : ∀ j, j < 5 → cs j < 1000 ∧ mI M (1000 + (132 + 7 * f + 2 + j)) 2180 = nI (cs j)) : ∀ (k i a fu : Nat), i + k = 5 → k < fu → lp (b_X11_put_82 (some 2179) (nI f)) fu (nI a, nI i, M) = some (nI (flu cs k i a), M) := by
  have e5 : (5 : Int32) = nI 5 := rfl
  have e1 : (132 : Int32) = nI 132 := rfl
  have e2 : (7 : Int32) = nI 7 := rfl
  intro k
  induction k with
  | zero =>
    intro i a fu hi hfu
    obtain ⟨fu, rfl⟩ : ∃ z, fu = z + 1 := ⟨fu - 1, by omega⟩
    rw [lp_succ, b_X11_put_82, e5, if_pos (le_n (by omega) (by omega))]; rfl
  | succ k ih =>
    intro i a fu hi hfu
    obtain ⟨fu, rfl⟩ : ∃ z, fu = z + 1 := ⟨fu - 1, by omega⟩
    obtain ⟨d1, d3⟩ := hc i (by omega)
    rw [lp_succ, b_X11_put_82, e5, if_neg (fun h9 => absurd ((i_le (by omega) (by omega)).mp h9) (by omega)), dS hL, e1, e2]
    dsimp only
    rw [pk_mul, nI_add, show nI (132 + 7 * f) + 2 = nI (132 + 7 * f + 2) from nI_add _ 2, nI_add, s_at hL (by omega), d3]
    unfold jn
    dsimp only
    show _ = some (nI (flu cs k (i + 1) (a + if cs i = 0 then 0 else 1)), M)
    by_cases hz : cs i = 0
    · rw [hz, if_pos (by decide), if_pos rfl, show nI a + 0 = nI (a + 0) from nI_add a 0, nI_1]
      exact ih (i + 1) _ fu (by omega) (by omega)
    · have hz0 : ¬ nI (cs i) ≤ 0 := fun h9 => hz (by have := (i_le (b := 0) (by omega) (by omega)).mp h9; omega)
      rw [if_neg hz0, if_neg hz, nI_1, nI_1]
      exact ih (i + 1) _ fu (by omega) (by omega)
theorem takes_y {M : Mem} {A : Nat} {x : Int32} (h1 : mS M A = (2, 0)) (h : mI M 66 A = -1 ∨ mI M 66 A = x) : m_X2_takes M (some A) x = some (1, M) := by
  unfold m_X2_takes
  rw [dI_at (by rw [h1]), dI_at (by rw [h1])]
  by_cases h0 : mI M (32 * 2 + 2) A = -1
  · rw [if_pos h0]; rfl
  · rw [if_neg h0]
    rcases h with e | e
    · exact absurd e h0
    · rw [if_neg (fun h9 => h9 e)]; rfl
theorem takes_n {M : Mem} {A : Nat} {x : Int32} (h1 : mS M A = (2, 0)) (h : ¬ (mI M 66 A = -1 ∨ mI M 66 A = x)) : m_X2_takes M (some A) x = some (0, M) := by
  unfold m_X2_takes
  rw [dI_at (by rw [h1]), dI_at (by rw [h1]), if_neg (fun h9 => h (Or.inl h9)), if_pos (fun h9 => h (Or.inr h9))]; rfl
theorem kindOf_r {M : Mem} (hL : Lay M) {v : Nat} (hv : v < 10) : m_X11_kindOf M (some 2179) (nI v) = some (mI M (1000 + (102 + 3 * v)) 2180, M) := by
  unfold m_X11_kindOf
  have e1 : (102 : Int32) = nI 102 := rfl
  have e2 : (3 : Int32) = nI 3 := rfl
  rw [dS hL, e1, e2, pk_mul, nI_add, s_at hL (by omega)]; rfl
theorem amountOf_r {M : Mem} (hL : Lay M) {v : Nat} (hv : v < 10) : m_X11_amountOf M (some 2179) (nI v) = some (mI M (1000 + (102 + 3 * v + 1)) 2180, M) := by
  unfold m_X11_amountOf
  have e1 : (102 : Int32) = nI 102 := rfl
  have e2 : (3 : Int32) = nI 3 := rfl
  rw [dS hL, e1, e2, pk_mul, nI_add, nI_1, s_at hL (by omega)]; rfl
theorem put_op {cnt n vc m : Nat} {M : Mem} (h : Inv cnt n vc m M) (hc : cnt < 512) (p a b : Int32) : Op cnt M (fun M => m_X10_put M (some 0) p a b) (fun M => m_X11_put M (some 2179) p a b) := by
  have hL := h.1
  have hP := h.2.2.2.1
  have hF := hP.2.2.1
  obtain ⟨v1, v2, v3, v4⟩ := hP.2.1
  have hpk : mS M (pk 0) = (1, 0) := S_park hL (by omega)
  have no : ∀ {r : Int32} {g : Mem → Option (Int32 × Mem)}, m_X10_put M (some 0) p a b = some (r, M) → g M = some (r, M) → Op cnt M (fun M => m_X10_put M (some 0) p a b) g := fun h9 h8 => Op.same h hc h9 (Keep.rfl'.mono (by omega)) h8 Sc.rfl'
  obtain ⟨qv, hqv, hqc⟩ : ∃ q, m_X1_voucherAt M (some (pk 0)) b = some (q, M) ∧ ((q = none ∧ (¬ ∃ j, j < vc ∧ b = nI j) ∧ m_X11_isVoucher M (some 2179) b = some (0, M)) ∨ ∃ v, v < vc ∧ b = nI v ∧ q = some (aVo (pk 0) v) ∧ m_X11_isVoucher M (some 2179) b = some (1, M)) := by
    rcases ix_in M b (n := vc) (by omega) with ⟨v, c1, rfl, c2⟩ | ⟨c1, c2⟩
    · exact ⟨_, voucherAt_y hL v1 v2 c1, Or.inr ⟨v, c1, rfl, rfl, isVoucher_y hL v3 c2⟩⟩
    · exact ⟨_, voucherAt_n hL v1 v2 c1, Or.inl ⟨rfl, c1, isVoucher_n hL v3 c2⟩⟩
  -- a place that isn't there
  have bad : (m_X1_folderAt M (some (pk 0)) p = some (none, M) ∨ ∃ A, m_X1_folderAt M (some (pk 0)) p = some (some A, M) ∧ mS M A = (2, 0) ∧ m_X2_hasPlace M (some A) a = some (0, M)) → m_X11_isPlace M (some 2179) p a = some (0, M) → Op cnt M (fun M => m_X10_put M (some 0) p a b) (fun M => m_X11_put M (some 2179) p a b) := by
    intro hx hy
    refine no (r := -1) ?_ ?_
    · unfold m_X10_put
      rcases hx with hx | ⟨A, hx, hS, hz⟩
      · rw [dPark hL, rc_at (by rw [hpk]), hx, cl_some, dPark hL, rc_at (by rw [hpk]), hqv, cl_some, if_pos rfl]; rfl
      · rw [dPark hL, rc_at (by rw [hpk]), hx, cl_some, dPark hL, rc_at (by rw [hpk]), hqv, cl_some, if_neg (by simp)]
        rcases hqc with ⟨e, -, -⟩ | ⟨v, -, -, e, -⟩
        · rw [if_pos e]; rfl
        · rw [if_neg (by rw [e]; simp), rc_at (by rw [hS]), hz, cl_some, if_neg (by decide)]; rfl
    · show m_X11_put M _ _ _ _ = _
      unfold m_X11_put
      rw [rc_at (S1 _ hL), hy, cl_some, if_pos rfl]; rfl
  by_cases hp : (0 : Int32) ≤ p ∧ p ≤ 2
  · obtain ⟨f, rfl, -, hf⟩ := nat_of (a := 0) (b := 2) (by omega) hp (by omega)
    obtain ⟨z, h1, h2, h3, h4⟩ := hF f (by omega)
    have hS := S_aFo hL (q := 0) (by omega) (show f < 3 by omega)
    have hC := S_aFc hL (q := 0) (by omega) (show f < 3 by omega)
    have hPC := P_aFo hL (q := 0) (by omega) (show f < 3 by omega)
    rcases ix_in M a (n := z) (by omega) with ⟨j, c1, rfl, c2⟩ | ⟨c1, c2⟩
    · have hip := isPlace_f hL (show f < 3 by omega) h3 (Or.inr rfl) c2
      have hfa := folderAt_y hL (show f < 3 by omega) h2 (by omega) h1
      rcases hqc with ⟨e, e2, e3⟩ | ⟨v, e1, e2, e3, e4⟩
      · refine no (r := -1) ?_ ?_
        · unfold m_X10_put
          rw [dPark hL, rc_at (by rw [hpk]), hfa, cl_some, dPark hL, rc_at (by rw [hpk]), hqv, cl_some, if_neg (by simp), if_pos e]; rfl
        · show m_X11_put M _ _ _ _ = _
          unfold m_X11_put
          rw [rc_at (S1 _ hL), hip, cl_some, if_neg (by decide), rc_at (S1 _ hL), e3, cl_some, if_neg (by decide)]; rfl
      · subst e2
        subst e3
        obtain ⟨k, am, g, g1, g2, g3, g4, g5, g6, g7, g8, g9⟩ := v4 v e1
        obtain ⟨k1, k2⟩ := h4 (by omega)
        have hSv := S_aVo hL (q := 0) (by omega) (show v < 10 by omega)
        have hpre : m_X10_put M (some 0) (nI f) (nI j) (nI v) = cl (m_X2_takes M (some (aFo (pk 0) f)) (nI k)) (fun (x11 : Int32) (M10 : Mem) => (if x11 ≠ 0 then rc M10 2 (some (aFo (pk 0) f)) (cl (m_X2_fill M10 (some (aFo (pk 0) f)) (nI j) (nI v)) (fun (_u : Unit) (M12 : Mem) => rc M12 2 (some (aFo (pk 0) f)) (cl (m_X2_filledPlaces M12 (some (aFo (pk 0) f))) (fun (x14 : Int32) (M13 : Mem) => rt x14 M13)))) else rt ((-6)) M10)) := by
          unfold m_X10_put
          rw [dPark hL, rc_at (by rw [hpk]), hfa, cl_some, dPark hL, rc_at (by rw [hpk]), hqv, cl_some, if_neg (by simp), if_neg (by simp), rc_at (by rw [hS]), hasPlace_y hS h2 h1 c1, cl_some, if_pos (by decide), dI_at (by rw [hSv])]
          show rc M 2 _ (cl (m_X2_takes M _ (mI M 288 (aVo (pk 0) v))) _) = _
          rw [g4, rc_at (by rw [hS])]
        have q1 : (132 : Int32) = nI 132 := rfl
        have q2 : (7 : Int32) = nI 7 := rfl
        by_cases ht : mI M 66 (aFo (pk 0) f) = -1 ∨ mI M 66 (aFo (pk 0) f) = nI k
        · obtain ⟨M1, hM1⟩ : ∃ M1, M1 = uI M (1000 + j) (aFc (pk 0) f) (nI v) := ⟨_, rfl⟩
          have hL1 : Lay M1 := by rw [hM1]; exact hL
          obtain ⟨M2, hM2⟩ : ∃ M2, M2 = uI M1 (1000 + (132 + 7 * f + 2 + j)) 2180 (nI (v + 1)) := ⟨_, rfl⟩
          have hL2 : Lay M2 := by rw [hM2]; exact hL1
          have hpp : pk 0 = 1 := rfl
          have ea : aFo (pk 0) f = 49 + 2 * f := by unfold aFo pk; omega
          have eb : aFc (pk 0) f = 50 + 2 * f := by unfold aFc pk; omega
          obtain ⟨cs, hcs⟩ : ∃ cs : Nat → Nat, cs = fun i => if i = j then v + 1 else (mI M (1000 + (132 + 7 * f + 2 + i)) 2180).toInt.toNat := ⟨_, rfl⟩
          have hcs2 : ∀ i, i < 5 → cs i ≤ vc ∧ (z ≤ i → cs i = 0) ∧ mI M1 (1000 + i) (aFc (pk 0) f) = nI (cs i) - 1 ∧ mI M2 (1000 + i) (aFc (pk 0) f) = nI (cs i) - 1 ∧ mI M2 (1000 + (132 + 7 * f + 2 + i)) 2180 = nI (cs i) := by
            intro i hi
            by_cases hij : i = j
            · have e5 : cs i = v + 1 := by rw [hcs]; exact if_pos hij
              rw [e5, nI_pred, hij]
              refine ⟨by omega, fun _ => by omega, by rw [hM1, mI_eq], by rw [hM2, mI_ne (by omega), hM1, mI_eq], by rw [hM2, mI_eq]⟩
            · obtain ⟨c, d1, d2, d3, d4⟩ := k2 i hi
              have e5 : cs i = c := by rw [hcs]; show (if i = j then _ else _) = c; rw [if_neg hij, d4, tI c (by omega)]; rfl
              rw [e5]
              refine ⟨d1, d2, by rw [hM1, mI_ne (by omega)]; exact d3, by rw [hM2, mI_ne (by omega), hM1, mI_ne (by omega)]; exact d3, by rw [hM2, mI_ne (by omega), hM1, mI_ne (by omega)]; exact d4⟩
          have f3 : M2.2 = M.2 := by rw [hM2, hM1]; rfl
          have hA : m_X10_put M (some 0) (nI f) (nI j) (nI v) = some (nI (flu cs 5 0 0), M1) := by
            rw [hpre, takes_y hS ht, cl_some, if_pos (by decide), rc_at (by rw [hS])]
            unfold m_X2_fill
            rw [rc_at (by rw [hS]), hasPlace_y hS h2 h1 c1, cl_some, if_neg (by decide), dP_at (by rw [hS])]
            show cl (sI M 100 (mP M 64 (aFo (pk 0) f)) _ _ _) _ = _
            rw [hPC, sI_at hC (by omega) (by omega), ← hM1, cl_rt, rc_at (by rw [hM1]; show (mS M _).1 = _; rw [hS])]
            unfold m_X2_filledPlaces
            have e65 : mI M1 65 (aFo (pk 0) f) = nI z := by rw [hM1, mI_ne (by omega)]; exact h2
            have := filled_c (M := M1) (A := aFo (pk 0) f) (C := aFc (pk 0) f) (n := z) (cs := cs) (by rw [hM1]; exact hS) (by rw [hM1]; exact hPC) (by rw [hM1]; exact hC) h1 e65 (fun i hi => ⟨by have := (hcs2 i hi).1; omega, (hcs2 i hi).2.1, (hcs2 i hi).2.2.1⟩) 5 0 0 FU (by omega) (by show 5 < 1000000; omega)
            show cl (lp (b_X2_filledPlaces_4 (some (aFo (pk 0) f))) FU (nI 0, nI 0, M1)) _ = _
            rw [this]; rfl
          have hV1 : m_X11_isVoucher M1 (some 2179) (nI v) = some (1, M1) := by
            rcases ix_in M1 (nI v) (n := vc) (by omega) with ⟨w, w1, w2, w3⟩ | ⟨w1, w2⟩
            · exact isVoucher_y hL1 (by rw [hM1, mI_ne (by omega)]; exact v3) w3
            · exact absurd ⟨v, e1, rfl⟩ w1
          have hI1 : m_X11_isPlace M1 (some 2179) (nI f) (nI j) = some (1, M1) := by
            rcases ix_in M1 (nI j) (n := z) (by omega) with ⟨w, w1, w2, w3⟩ | ⟨w1, w2⟩
            · exact isPlace_f hL1 (by omega) (by rw [hM1, mI_ne (by omega)]; exact h3) (Or.inr rfl) w3
            · exact absurd ⟨j, c1, rfl⟩ w1
          have hB : m_X11_put M1 (some 2179) (nI f) (nI j) (nI v) = some (nI (flu cs 5 0 0), M2) := by
            have tail : dP M1 11 0 (some 2179) (fun (q9 : Option Nat) => sI M1 100 q9 ((((132 + (7 * nI f)) + 2) + nI j)) ((nI v + 1)) (fun (M10 : Mem) => lp (b_X11_put_82 (some 2179) (nI f)) FU (0, 0, M10))) = some (nI (flu cs 5 0 0), M2) := by
              rw [dS hL1, q1, q2, pk_mul, nI_add, show nI (132 + 7 * f) + 2 = nI (132 + 7 * f + 2) from nI_add _ 2, nI_add, nI_1, s_set hL1 (by omega), ← hM2]
              exact filled_r hL2 (show f < 3 by omega) (cs := cs) (fun i hi => ⟨by have := (hcs2 i hi).1; omega, (hcs2 i hi).2.2.2.2⟩) 5 0 0 FU (by omega) (by show 5 < 1000000; omega)
            unfold m_X11_put jn
            dsimp only
            rw [rc_at (S1 _ hL1), hI1, cl_some, if_neg (by decide), rc_at (S1 _ hL1), hV1, cl_some, if_pos (by decide), tail, dS hL1, q1, q2, pk_mul, nI_add, nI_1, s_at hL1 (by omega)]
            have e66 : mI M1 (1000 + (132 + 7 * f + 1)) 2180 = mI M 66 (aFo (pk 0) f) := by rw [hM1, mI_ne (by omega)]; exact k1.symm
            have e10 : mI M1 (1000 + (102 + 3 * v)) 2180 = nI k := by rw [hM1, mI_ne (by omega)]; exact g7
            rw [e66]
            by_cases hm1 : mI M 66 (aFo (pk 0) f) = -1
            · rw [if_pos hm1]
            · rw [if_neg hm1, dS hL1, s_at hL1 (by omega), rc_at (S1 _ hL1), kindOf_r hL1 (by omega), cl_some, e66, e10]
              rcases ht with e | e
              · exact absurd e hm1
              · rw [if_pos e, dS hL1, show nI (132 + 7 * f) + 2 = nI (132 + 7 * f + 2) from nI_add _ 2, nI_add, nI_1, s_set hL1 (by omega), ← hM2]
                exact filled_r hL2 (show f < 3 by omega) (cs := cs) (fun i hi => ⟨by have := (hcs2 i hi).1; omega, (hcs2 i hi).2.2.2.2⟩) 5 0 0 FU (by omega) (by show 5 < 1000000; omega)
          refine ⟨_, M1, M2, hA, S1 _ hL1, hB, n, vc, m, h.of1 hc f3 (fun k' a' h1 h2 h3 h4 => by rw [hM2, mI_ne (by omega), hM1, mI_ne (by omega)]) (hP.folder (by have := h.n512; omega) (show f < 3 by omega) f3 (fun k' a' h9 => by rw [hM2, mI_ne (by omega), hM1, mI_ne (by omega)]) ⟨z, h1, by rw [hM2, mI_ne (by omega), hM1, mI_ne (by omega)]; exact h2, by rw [hM2, mI_ne (by omega), hM1, mI_ne (by omega)]; exact h3, fun _ => ⟨?_, fun i hi => ⟨cs i, (hcs2 i hi).1, (hcs2 i hi).2.1, (hcs2 i hi).2.2.2.1, (hcs2 i hi).2.2.2.2⟩⟩⟩)⟩
          have w1 : mI M2 66 (aFo (pk 0) f) = mI M 66 (aFo (pk 0) f) := by rw [hM2, mI_ne (by omega), hM1, mI_ne (by omega)]
          have w2 : mI M2 (1000 + (132 + 7 * f + 1)) 2180 = mI M (1000 + (132 + 7 * f + 1)) 2180 := by rw [hM2, mI_ne (by omega), hM1, mI_ne (by omega)]
          rw [w1, w2]; exact k1
        · refine no (r := -6) ?_ ?_
          · rw [hpre, takes_n hS ht, cl_some, if_neg (by decide)]; rfl
          · show m_X11_put M _ _ _ _ = _
            unfold m_X11_put jn
            dsimp only
            rw [rc_at (S1 _ hL), hip, cl_some, if_neg (by decide), rc_at (S1 _ hL), e4, cl_some, if_pos (by decide), dS hL, q1, q2, pk_mul, nI_add, nI_1, s_at hL (by omega), ← k1, if_neg (fun h9 => ht (Or.inl h9)), dS hL, s_at hL (by omega), rc_at (S1 _ hL), kindOf_r hL (by omega), cl_some, g7, ← k1, if_neg (fun h9 => ht (Or.inr h9))]; rfl
    · refine bad ?_ (isPlace_f hL (show f < 3 by omega) h3 (Or.inl rfl) c2)
      by_cases hz : z = 0
      · exact Or.inl (folderAt_0 hL (by omega) (by rw [h2, hz]))
      · exact Or.inr ⟨_, folderAt_y hL (by omega) h2 (by omega) h1, hS, hasPlace_n hS h2 h1 c1⟩
  · exact bad (Or.inl (folderAt_n hp _)) (isPlace_n hp _)
