/-! ===== the call append ===== -/
theorem chr_all : ∀ c, c < 128 → (nI c).toUInt32.toUInt16.toUInt32.toInt32 = nI c ∧ ((nI c).toUInt32 % 65536).toInt32 = nI c := by decide +kernel
theorem Inv.txt {M M1 : Mem} {cnt n vc m : Nat} (h : Inv cnt n vc m M) (hc : cnt < 512) (f3 : M1.2 = M.2) (f2 : ∀ k a, ¬ (a = 2165 ∧ k = 195) → a ≠ 2166 → a ≠ 2184 → ¬ (a = 2179 ∧ k = 358) → mI M1 k a = mI M k a) (hT : ITx M1) : Inv (cnt + 1) n vc m M1 := by
  obtain ⟨h1, h2, ⟨h3, h4⟩, h5, h6, h7, h8, h9⟩ := h
  have hn := h5.2.2.2.2.1.1
  refine ⟨eLay f3 h1, by omega, by rw [eN f3, eL f3]; omega, h5.of (by omega) (by omega) (fun a _ _ => eS f3 a) (fun k a _ _ => eP f3 k a) (fun k a h8 h9 => f2 k a (by unfold pk at h9; omega) (by unfold pk at h9; omega) (by unfold pk at h9; omega) (by unfold pk at h9; omega)) (fun k a _ _ => eF f3 k a) (fun k => f2 _ _ (by omega) (by omega) (by omega) (by omega)) (fun k => eF f3 k _), ?_, hT, ?_, ?_⟩
  · rcases h6 with ⟨e1, e2⟩ | ⟨e1, e2, n', vc', m', e3⟩
    · exact Or.inl ⟨(f2 _ _ (by omega) (by omega) (by omega) (by omega)).trans e1, (f2 _ _ (by omega) (by omega) (by omega) (by omega)).trans e2⟩
    · have hn' := e3.2.2.2.2.1.1
      exact Or.inr ⟨(f2 _ _ (by omega) (by omega) (by omega) (by omega)).trans e1, (f2 _ _ (by omega) (by omega) (by omega) (by omega)).trans e2, n', vc', m', e3.of (by omega) (by omega) (fun a _ _ => eS f3 a) (fun k a _ _ => eP f3 k a) (fun k a h8 h9 => f2 k a (by unfold pk at h9; omega) (by unfold pk at h9; omega) (by unfold pk at h9; omega) (by unfold pk at h9; omega)) (fun k a _ _ => eF f3 k a) (fun k => f2 _ _ (by omega) (by omega) (by omega) (by omega)) (fun k => eF f3 k _)⟩
  · obtain ⟨z, t1, t2, t3, t4⟩ := h8
    refine ⟨z, t1, (f2 _ _ (by omega) (by omega) (by omega) (by omega)).trans t2, (f2 _ _ (by omega) (by omega) (by omega) (by omega)).trans t3, fun h3 j hj => ?_⟩
    obtain ⟨c1, c2⟩ := t4 h3 j hj
    exact ⟨((f2 _ _ (by omega) (by omega) (by omega) (by omega)).trans c1).trans (f2 _ _ (by omega) (by omega) (by omega) (by omega)).symm, ((f2 _ _ (by omega) (by omega) (by omega) (by omega)).trans c2).trans (f2 _ _ (by omega) (by omega) (by omega) (by omega)).symm⟩
  · exact ⟨fun b hb => (f2 _ _ (by omega) (by omega) (by omega) (by omega)).trans (h9.1 b hb), fun i hi b hb => (f2 _ _ (by unfold aPl pk; omega) (by unfold aPl pk; omega) (by unfold aPl pk; omega) (by unfold aPl pk; omega)).trans (h9.2 i hi b hb)⟩
theorem addLoop_c {c L q : Nat} (hc : c < 128) (hLq : L + q ≤ 90) : ∀ (k i fu : Nat) (M : Mem), i + k = q → k < fu → Lay M → mI M 195 2165 = nI (L + i) →
    ∃ M', lp (b_X6_add_2 (some 2165) (nI c) (nI q)) fu (nI i, M) = some ((), M') ∧ M'.2 = M.2 ∧ (∀ k a, ¬ (a = 2165 ∧ k = 195) → ¬ (a = 2166 ∧ 1000 + L + i ≤ k ∧ k < 1000 + L + q) → mI M' k a = mI M k a) ∧ mI M' 195 2165 = nI (L + q) ∧ ∀ j, L + i ≤ j → j < L + q → mI M' (1000 + j) 2166 = nI c := by
  intro k
  induction k with
  | zero =>
    intro i fu M hi hfu hL h195
    obtain ⟨fu, rfl⟩ : ∃ z, fu = z + 1 := ⟨fu - 1, by omega⟩
    rw [lp_succ, b_X6_add_2, if_pos (le_n (by omega) (by omega))]
    have e : i = q := by omega
    exact ⟨M, rfl, rfl, fun _ _ _ _ => rfl, by rw [h195, e], fun j _ _ => by omega⟩
  | succ k ih =>
    intro i fu M hi hfu hL h195
    obtain ⟨fu, rfl⟩ : ∃ z, fu = z + 1 := ⟨fu - 1, by omega⟩
    have hS : mS M 2165 = (6, 0) := hL.S (by omega)
    have hS2 : mS M 2166 = (101, 90) := hL.S (by omega)
    have e90 : (90 : Int32) = nI 90 := rfl
    have e195 : 32 * 6 + 3 = 195 := rfl
    rw [lp_succ, b_X6_add_2, if_neg (fun h9 => absurd ((i_le (by omega) (by omega)).mp h9) (by omega)), dI_at (by rw [hS]), e195, h195, e90, if_neg (fun h9 => absurd ((i_le (by omega) (by omega)).mp h9) (by omega)), dP_at (by rw [hS])]
    show ∃ M', dI M 6 3 (some 2165) (fun x5 => sI M 101 (mP M 192 2165) x5 _ _) = _ ∧ _
    rw [show mP M 192 2165 = some 2166 from hL.P (by omega) 192, dI_at (by rw [hS]), e195, h195, sI_at hS2 (by omega) (by omega), (chr_all c hc).1, dI_at (by rw [mS_uI, hS]), e195, mI_ne (by omega), h195, nI_1, nI_1, pI_at (by rw [mS_uI, hS])]
    obtain ⟨M', g1, g2, g3, g4, g5⟩ := ih (i + 1) fu (uI (uI M (1000 + (L + i)) 2166 (nI c)) 195 2165 (nI (L + i + 1))) (by omega) (by omega) hL (by rw [mI_eq]; rfl)
    refine ⟨M', g1, g2, fun k' a' h8 h9 => ?_, g4, fun j h8 h9 => ?_⟩
    · rw [g3 k' a' h8 (by omega), mI_ne (by omega), mI_ne (by omega)]
    · by_cases hj : j = L + i
      · rw [hj, g3 _ _ (by omega) (by omega), mI_ne (by omega), mI_eq]
      · exact g5 j (by omega) h9
theorem addLoop_r {c L q : Nat} (hLq : L + q ≤ 90) : ∀ (k i fu : Nat) (M : Mem), i + k = q → k < fu → Lay M → mI M 358 2179 = nI L →
    ∃ M', lp (b_X11_append_39 (some 2179) (nI c) (nI q)) fu (nI i, M) = some (nI (L + q), M') ∧ M'.2 = M.2 ∧ (∀ k a, ¬ (a = 2179 ∧ k = 358) → ¬ (a = 2184 ∧ 1000 + L + i ≤ k ∧ k < 1000 + L + q) → mI M' k a = mI M k a) ∧ mI M' 358 2179 = nI (L + q) ∧ ∀ j, L + i ≤ j → j < L + q → mI M' (1000 + j) 2184 = nI c := by
  intro k
  induction k with
  | zero =>
    intro i fu M hi hfu hL h358
    obtain ⟨fu, rfl⟩ : ∃ z, fu = z + 1 := ⟨fu - 1, by omega⟩
    have e358 : 32 * 11 + 6 = 358 := rfl
    rw [lp_succ, b_X11_append_39, if_pos (le_n (by omega) (by omega)), dI_at (S1 _ hL), e358, h358, nI_add, pI_at (S1 _ hL), dI_at (S1 _ (hL.uI _ _ _)), e358, mI_eq]
    exact ⟨_, rfl, rfl, fun k' a' h8 _ => mI_ne (by omega), mI_eq, fun j _ _ => by omega⟩
  | succ k ih =>
    intro i fu M hi hfu hL h358
    obtain ⟨fu, rfl⟩ : ∃ z, fu = z + 1 := ⟨fu - 1, by omega⟩
    have e358 : 32 * 11 + 6 = 358 := rfl
    have hS2 : mS M 2184 = (100, 90) := hL.S (by omega)
    rw [lp_succ, b_X11_append_39, if_neg (fun h9 => absurd ((i_le (by omega) (by omega)).mp h9) (by omega)), dP_at (S1 _ hL)]
    show ∃ M', dI M 11 6 (some 2179) (fun x12 => sI M 100 (mP M 357 2179) (x12 + nI i) _ _) = _ ∧ _
    rw [show mP M 357 2179 = some 2184 from hL.P (by omega) 357, dI_at (S1 _ hL), e358, h358, nI_add, sI_at hS2 (by omega) (by omega), nI_1]
    obtain ⟨M', g1, g2, g3, g4, g5⟩ := ih (i + 1) fu (uI M (1000 + (L + i)) 2184 (nI c)) (by omega) (by omega) hL (by rw [mI_ne (by omega)]; exact h358)
    refine ⟨M', g1, g2, fun k' a' h8 h9 => ?_, g4, fun j h8 h9 => ?_⟩
    · rw [g3 k' a' h8 (by omega), mI_ne (by omega)]
    · by_cases hj : j = L + i
      · rw [hj, g3 _ _ (by omega) (by omega), mI_eq]
      · exact g5 j (by omega) h9
theorem append_op {cnt n vc m : Nat} {M : Mem} (h : Inv cnt n vc m M) (hc : cnt < 512) (p a : Int32) : Op cnt M (fun M => m_X10_append M (some 0) p a) (fun M => m_X11_append M (some 2179) p a) := by
  have hL := h.1
  obtain ⟨L, t1, t2, t3, t4⟩ := h.2.2.2.2.2.1
  have hS : mS M 2165 = (6, 0) := hL.S (by omega)
  have e90 : (90 : Int32) = nI 90 := rfl
  have dTx : ∀ {M1 : Mem}, Lay M1 → ∀ {K : Option Nat → Option (Int32 × Mem)}, dP M1 10 3 (some 0) K = K (some 2165) := by
    intro M1 h1 K
    rw [dP_at (by rw [S_zero h1])]
    show K (mP M1 323 0) = _
    rw [show mP M1 323 0 = some 2165 from h1.P (by omega) 323]
  have no : ∀ {r : Int32} {g : Mem → Option (Int32 × Mem)}, m_X10_append M (some 0) p a = some (r, M) → g M = some (r, M) → Op cnt M (fun M => m_X10_append M (some 0) p a) g := fun h9 h8 => Op.same h hc h9 (Keep.rfl'.mono (by omega)) h8 Sc.rfl'
  by_cases hp : (0 : Int32) ≤ p ∧ p ≤ 127
  · by_cases ha : (1 : Int32) ≤ a ∧ a ≤ 90
    · obtain ⟨c, rfl, -, hcc⟩ := nat_of (a := 0) (b := 127) (by omega) hp (by omega)
      obtain ⟨q, rfl, hq1, hq⟩ := nat_of (a := 1) (b := 90) (by omega) ha (by omega)
      have hA : m_X10_append M (some 0) (nI c) (nI q) = (if 90 < L + q then some (-3, M) else rc M 6 (some 2165) (cl (m_X6_add M (some 2165) (nI c) (nI q)) (fun (_u : Unit) (M9 : Mem) => dP M9 10 3 (some 0) (fun (q10 : Option Nat) => dI M9 6 3 q10 (fun (x11 : Int32) => rt x11 M9))))) := by
        unfold m_X10_append
        rw [within_y hp, cl_some, if_neg (by decide), within_y ha, cl_some, if_pos (by decide), dTx hL, rc_at (by rw [hS])]
        unfold m_X6_hasRoomFor
        rw [dI_at (by rw [hS])]
        show cl (if 90 < mI M 195 2165 + nI q then _ else _) _ = _
        rw [t2, nI_add, e90]
        by_cases hx : 90 < L + q
        · rw [if_pos ((i_lt (by omega) (by omega)).mpr hx), if_pos hx]; rfl
        · rw [if_neg (fun h9 => hx ((i_lt (by omega) (by omega)).mp h9)), if_neg hx]
          show cl (some ((1 : Int32), M)) _ = _
          rw [cl_some, if_pos (by decide), dTx hL, (chr_all c (by omega)).2]
      have hB : ∀ M1, Lay M1 → mI M1 358 2179 = nI L → m_X11_append M1 (some 2179) (nI c) (nI q) = (if 90 < L + q then some (-3, M1) else lp (b_X11_append_39 (some 2179) (nI c) (nI q)) FU (0, M1)) := by
        intro M1 hL1 h358
        unfold m_X11_append
        rw [in_y hp, cl_some, if_neg (by decide), in_y ha, cl_some, if_pos (by decide), dI_at (S1 _ hL1)]
        show (if mI M1 358 2179 + nI q ≤ 90 then _ else _) = _
        rw [h358, nI_add, e90]
        by_cases hx : 90 < L + q
        · rw [if_neg (fun h9 => absurd ((i_le (by omega) (by omega)).mp h9) (by omega)), if_pos hx]; rfl
        · rw [if_pos (le_n (by omega) (by omega)), if_neg hx]
      by_cases hx : 90 < L + q
      · rw [if_pos hx] at hA
        refine no hA ?_
        show m_X11_append M _ _ _ = _
        rw [hB M hL t3, if_pos hx]
      · obtain ⟨M1, g1, g2, g3, g4, g5⟩ := addLoop_c (c := c) (L := L) (q := q) (by omega) (by omega) q 0 FU M (by omega) (by show q < 1000000; omega) hL t2
        have hL1 := eLay g2 hL
        obtain ⟨M2, k1, k2, k3, k4, k5⟩ := addLoop_r (c := c) (L := L) (q := q) (by omega) q 0 FU M1 (by omega) (by show q < 1000000; omega) hL1 (by rw [g3 _ _ (by omega) (by omega)]; exact t3)
        have hA2 : m_X10_append M (some 0) (nI c) (nI q) = some (nI (L + q), M1) := by
          rw [hA, if_neg hx, rc_at (by rw [hS])]
          unfold m_X6_add
          show cl (lp (b_X6_add_2 (some 2165) (nI c) (nI q)) FU (nI 0, M)) _ = _
          rw [g1, cl_some, dTx hL1, dI_at (by rw [show mS M1 2165 = (6, 0) from hL1.S (by omega)])]
          show rt (mI M1 195 2165) M1 = _
          rw [g4]; rfl
        have hB2 : m_X11_append M1 (some 2179) (nI c) (nI q) = some (nI (L + q), M2) := by
          rw [hB M1 hL1 (by rw [g3 _ _ (by omega) (by omega)]; exact t3), if_neg hx]; exact k1
        refine ⟨_, M1, M2, hA2, S1 _ hL1, hB2, n, vc, m, h.txt hc ((show M2.2 = M1.2 from k2).trans g2) (fun k a h5 h6 h7 h8 => by rw [k3 _ _ (by omega) (by omega), g3 _ _ (by omega) (by omega)]) ?_⟩
        refine ⟨L + q, by omega, by rw [k3 _ _ (by omega) (by omega)]; exact g4, k4, fun j hj => ?_⟩
        by_cases hjL : j < L
        · obtain ⟨c', c1, c2, c3⟩ := t4 j hjL
          exact ⟨c', c1, by rw [k3 _ _ (by omega) (by omega), g3 _ _ (by omega) (by omega)]; exact c2, by rw [k3 _ _ (by omega) (by omega), g3 _ _ (by omega) (by omega)]; exact c3⟩
        · exact ⟨c, by omega, by rw [k3 _ _ (by omega) (by omega)]; exact g5 j (by omega) hj, k5 j (by omega) hj⟩
    · refine no (r := -2) ?_ ?_
      · unfold m_X10_append
        rw [within_y hp, cl_some, if_neg (by decide), within_n ha, cl_some, if_neg (by decide)]; rfl
      · show m_X11_append M _ _ _ = _
        unfold m_X11_append
        rw [in_y hp, cl_some, if_neg (by decide), in_n ha, cl_some, if_neg (by decide)]; rfl
  · refine no (r := -2) ?_ ?_
    · unfold m_X10_append
      rw [within_n hp, cl_some, if_pos rfl]; rfl
    · show m_X11_append M _ _ _ = _
      unfold m_X11_append
      rw [in_n hp, cl_some, if_pos rfl]; rfl
