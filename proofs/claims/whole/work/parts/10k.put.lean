theorem eS {M M1 : Mem} (h : M1.2 = M.2) (a : Nat) : mS M1 a = mS M a := by unfold mS; rw [h]
theorem eP {M M1 : Mem} (h : M1.2 = M.2) (k a : Nat) : mP M1 k a = mP M k a := by unfold mP; rw [h]
theorem eF {M M1 : Mem} (h : M1.2 = M.2) (k a : Nat) : mF M1 k a = mF M k a := by unfold mF; rw [h]
theorem eN {M M1 : Mem} (h : M1.2 = M.2) : mN M1 = mN M := by unfold mN; rw [h]
theorem eL {M M1 : Mem} (h : M1.2 = M.2) : mL M1 = mL M := by unfold mL; rw [h]
theorem eLay {M M1 : Mem} (h : M1.2 = M.2) (hL : Lay M) : Lay M1 := ⟨by rw [eN h]; exact hL.1, fun a ha => ⟨(eS h a).trans (hL.S ha), fun k => (eP h k a).trans (hL.P ha k)⟩⟩
/-- only numbers have changed, of the car park at hand and of the reference's row -/
theorem Inv.of1 {M M1 : Mem} {cnt n vc m n' vc' m' : Nat} (h : Inv cnt n vc m M) (hc : cnt < 512) (f3 : M1.2 = M.2) (hI : ∀ k a, a < 2188 → (a = 0 ∨ 1083 ≤ a) → a ≠ 2180 → ¬ (a = 2179 ∧ 361 ≤ k ∧ k ≤ 365) → mI M1 k a = mI M k a) (hP : Pk (cnt + 1) n' vc' m' M1 0 2180 2182) : Inv (cnt + 1) n' vc' m' M1 :=
  h.of0 hc ⟨by rw [eN f3]; exact Nat.le_refl _, by rw [eN f3]; omega, by rw [eL f3]; omega⟩ (fun a _ => ⟨eS f3 a, fun k => eP f3 k a⟩) hI (fun k a _ _ _ => eF f3 k a) hP
theorem Inv.n512 {cnt n vc m : Nat} {M : Mem} (h : Inv cnt n vc m M) : n ≤ cnt ∧ cnt ≤ 512 := ⟨h.2.2.2.1.2.2.2.2.1.1, h.2.1⟩
/-! the folders of the class -/
theorem folder_of {M : Mem} (h : Lay M) {f : Nat} (hf : f < 3) {β : Type} {K : Option Nat → Option β} : dP M 1 2 (some (pk 0)) (fun q => aP M 112 q (nI f) K) = K (some (aFo (pk 0) f)) := by
  rw [dP_at (by rw [S_park h (by omega)])]
  show aP M 112 (mP M 34 (pk 0)) (nI f) K = _
  rw [P_folders h (by omega), aP_at (S_folders h (by omega)) hf (by omega), P_folder h (by omega) hf]
theorem folderAt_y {M : Mem} (h : Lay M) {f n : Nat} (hf : f < 3) (e : mI M 65 (aFo (pk 0) f) = nI n) (hn : 0 < n) (hn5 : n ≤ 5) : m_X1_folderAt M (some (pk 0)) (nI f) = some (some (aFo (pk 0) f), M) := by
  unfold m_X1_folderAt jn
  dsimp only
  have hw : (0 : Int32) ≤ nI f ∧ nI f ≤ 2 := ⟨le_n (a := 0) (by omega) (by omega), le_n (b := 2) (by omega) (by omega)⟩
  have e0 : (0 : Int32) = nI 0 := rfl
  rw [within_y hw, cl_some, if_neg (by decide), folder_of h hf, rc_at (by rw [S_aFo h (by omega) hf])]
  unfold m_X2_isMade
  rw [dI_at (by rw [S_aFo h (by omega) hf])]
  show cl (if mI M 65 (aFo (pk 0) f) ≤ 0 then _ else _) _ = _
  rw [e, e0, if_neg (fun h9 => absurd ((i_le (by omega) (by omega)).mp h9) (by omega))]
  show cl (some (1, M)) _ = _
  rw [cl_some, if_neg (by decide), if_neg (by decide), folder_of h hf]; rfl
theorem folderAt_0 {M : Mem} (h : Lay M) {f : Nat} (hf : f < 3) (e : mI M 65 (aFo (pk 0) f) = nI 0) : m_X1_folderAt M (some (pk 0)) (nI f) = some (none, M) := by
  unfold m_X1_folderAt jn
  dsimp only
  have hw : (0 : Int32) ≤ nI f ∧ nI f ≤ 2 := ⟨le_n (a := 0) (by omega) (by omega), le_n (b := 2) (by omega) (by omega)⟩
  rw [within_y hw, cl_some, if_neg (by decide), folder_of h hf, rc_at (by rw [S_aFo h (by omega) hf])]
  unfold m_X2_isMade
  rw [dI_at (by rw [S_aFo h (by omega) hf])]
  show cl (if mI M 65 (aFo (pk 0) f) ≤ 0 then _ else _) _ = _
  rw [e, if_pos (by decide)]
  show cl (some (0, M)) _ = _
  rw [cl_some, if_pos rfl, if_pos rfl]; rfl
theorem folderAt_n {M : Mem} {x : Int32} (hx : ¬ ((0 : Int32) ≤ x ∧ x ≤ 2)) (o : Option Nat) : m_X1_folderAt M o x = some (none, M) := by
  unfold m_X1_folderAt jn
  dsimp only
  rw [within_n hx, cl_some, if_pos rfl, if_pos rfl]; rfl
theorem hasPlace_y {M : Mem} {A n j : Nat} (hS : mS M A = (2, 0)) (e : mI M 65 A = nI n) (hn : n ≤ 5) (hj : j < n) : m_X2_hasPlace M (some A) (nI j) = some (1, M) := by
  unfold m_X2_hasPlace
  have hw : (0 : Int32) ≤ nI j ∧ nI j ≤ 4 := ⟨le_n (a := 0) (by omega) (by omega), le_n (b := 4) (by omega) (by omega)⟩
  rw [within_y hw, cl_some, if_neg (by decide), dI_at (by rw [hS])]
  show (if mI M 65 A ≤ nI j then _ else _) = _
  rw [e, if_neg (fun h9 => absurd ((i_le (by omega) (by omega)).mp h9) (by omega))]; rfl
theorem hasPlace_n {M : Mem} {A n : Nat} {x : Int32} (hS : mS M A = (2, 0)) (e : mI M 65 A = nI n) (hn : n ≤ 5) (hx : ¬ ∃ j, j < n ∧ x = nI j) : m_X2_hasPlace M (some A) x = some (0, M) := by
  unfold m_X2_hasPlace
  have e4 : (4 : Int32) = nI 4 := rfl
  rw [e4]
  rcases ix_at (b := 4) (by omega) (by omega) hx with h1 | ⟨h1, h2⟩
  · rw [within_n h1]; rfl
  · rw [within_y h1, cl_some, if_neg (by decide), dI_at (by rw [hS])]
    show (if mI M 65 A ≤ x then _ else _) = _
    rw [e, if_pos h2]; rfl
/-! the reference's -/
theorem isPlace_f {M : Mem} (h : Lay M) {f n : Nat} {x r : Int32} (hf : f < 3) (e : mI M (1000 + (132 + 7 * f)) 2180 = nI n) (hr : r = 0 ∨ r = 1) (hx : m_X11_in M x 0 (nI n - 1) = some (r, M)) : m_X11_isPlace M (some 2179) (nI f) x = some (r, M) := by
  unfold m_X11_isPlace
  have hw : (0 : Int32) ≤ nI f ∧ nI f ≤ 2 := ⟨le_n (a := 0) (by omega) (by omega), le_n (b := 2) (by omega) (by omega)⟩
  have e1 : (132 : Int32) = nI 132 := rfl
  have e2 : (7 : Int32) = nI 7 := rfl
  rw [in_y hw, cl_some, if_neg (by decide), dS h, e1, e2, pk_mul, nI_add, s_at h (by omega), e, hx, cl_some]
  rcases hr with rfl | rfl
  · rw [if_pos rfl]; rfl
  · rw [if_neg (by decide)]; rfl
theorem isPlace_n {M : Mem} {x y : Int32} (hx : ¬ ((0 : Int32) ≤ x ∧ x ≤ 2)) (o : Option Nat) : m_X11_isPlace M o x y = some (0, M) := by
  unfold m_X11_isPlace
  rw [in_n hx, cl_some, if_pos rfl]; rfl
/-- what lies in a place: both sides' answers -/
theorem inFolder_cr {vc : Nat} {M : Mem} (hL : Lay M) (hF : IFo vc M 0 2180) (hvc : vc ≤ 10) (a b : Int32) : ∃ r, m_X1_voucherInFolder M (some (pk 0)) a b = some (r, M) ∧ m_X11_inFolder M (some 2179) a b = some (r, M) ∧ (r = -1 ∨ ∃ v, v < vc ∧ r = nI v) := by
  by_cases ha : (0 : Int32) ≤ a ∧ a ≤ 2
  · obtain ⟨f, rfl, -, hf⟩ := nat_of (a := 0) (b := 2) (by omega) ha (by omega)
    obtain ⟨n, h1, h2, h3, h4⟩ := hF f (by omega)
    have hS := S_aFo hL (q := 0) (by omega) (show f < 3 by omega)
    rcases ix_in M b (n := n) (by omega) with ⟨j, c1, rfl, c2⟩ | ⟨c1, c2⟩
    · obtain ⟨c, d1, d2, d3, d4⟩ := (h4 (by omega)).2 j (by omega)
      refine ⟨nI c - 1, ?_, ?_, ?_⟩
      · unfold m_X1_voucherInFolder
        rw [rc_at (by rw [S_park hL (by omega)]), folderAt_y hL (by omega) h2 (by omega) h1, cl_some, if_pos (by simp), rc_at (by rw [hS])]
        unfold m_X2_content
        rw [rc_at (by rw [hS]), hasPlace_y hS h2 h1 c1, cl_some, if_neg (by decide), dP_at (by rw [hS])]
        show cl (aI M 100 (mP M 64 (aFo (pk 0) f)) _ _) _ = _
        rw [P_aFo hL (by omega) (by omega), aI_at (S_aFc hL (by omega) (by omega)) (by omega) (by omega), d3]
        by_cases hc1 : nI c - 1 = -1
        · rw [if_pos hc1, hc1]; rfl
        · rw [if_neg hc1, dP_at (by rw [hS])]
          show cl (aI M 100 (mP M 64 (aFo (pk 0) f)) _ _) _ = _
          rw [P_aFo hL (by omega) (by omega), aI_at (S_aFc hL (by omega) (by omega)) (by omega) (by omega), d3]; rfl
      · unfold m_X11_inFolder
        have e1 : (132 : Int32) = nI 132 := rfl
        have e2 : (7 : Int32) = nI 7 := rfl
        rw [rc_at (S1 _ hL), isPlace_f hL (by omega) h3 (Or.inr rfl) c2, cl_some, if_neg (by decide), dS hL, e1, e2, pk_mul, nI_add, show nI (132 + 7 * f) + 2 = nI (132 + 7 * f + 2) from nI_add _ 2, nI_add, s_at hL (by omega), d4]; rfl
      · cases c with
        | zero => exact Or.inl (by decide)
        | succ c => exact Or.inr ⟨c, by omega, nI_pred c⟩
    · refine ⟨-1, ?_, ?_, Or.inl rfl⟩
      · unfold m_X1_voucherInFolder
        rw [rc_at (by rw [S_park hL (by omega)])]
        by_cases hn : n = 0
        · rw [folderAt_0 hL (by omega) (by rw [h2, hn]), cl_some, if_neg (by simp)]; rfl
        · rw [folderAt_y hL (by omega) h2 (by omega) h1, cl_some, if_pos (by simp), rc_at (by rw [hS])]
          unfold m_X2_content
          rw [rc_at (by rw [hS]), hasPlace_n hS h2 h1 c1, cl_some, if_pos rfl]; rfl
      · unfold m_X11_inFolder
        rw [rc_at (S1 _ hL), isPlace_f hL (by omega) h3 (Or.inl rfl) c2, cl_some, if_pos rfl]; rfl
  · refine ⟨-1, ?_, ?_, Or.inl rfl⟩
    · unfold m_X1_voucherInFolder
      rw [rc_at (by rw [S_park hL (by omega)]), folderAt_n ha, cl_some, if_neg (by simp)]; rfl
    · unfold m_X11_inFolder
      rw [rc_at (S1 _ hL), isPlace_n ha, cl_some, if_pos rfl]; rfl
theorem inFolder_op {cnt n vc m : Nat} {M : Mem} (h : Inv cnt n vc m M) (hc : cnt < 512) (a b : Int32) : Op cnt M (fun M => m_X10_inFolder M (some 0) a b) (fun M => m_X11_inFolder M (some 2179) a b) := by
  have hL := h.1
  obtain ⟨r, r1, r2, -⟩ := inFolder_cr hL h.2.2.2.1.2.2.1 h.2.2.2.1.2.1.1 a b
  refine Op.same (M1 := M) (M2 := M) (r := r) h hc ?_ (Keep.rfl'.mono (by omega)) r2 Sc.rfl'
  show m_X10_inFolder M _ _ _ = _
  unfold m_X10_inFolder
  rw [dPark hL, rc_at (by rw [S_park hL (by omega)]), r1]; rfl
/-! makeFolder -/
theorem makeLoop_c {A C : Nat} : ∀ (d i fu : Nat) (M : Mem), i + d = 5 → d < fu → mS M A = (2, 0) → mP M 64 A = some C → mS M C = (100, 5) →
    ∃ M', lp (b_X2_make_12 (some A)) fu (nI i, M) = some ((), M') ∧ M'.2 = M.2 ∧ (∀ k a, ¬ (a = C ∧ 1000 + i ≤ k ∧ k < 1005) → mI M' k a = mI M k a) ∧ ∀ j, i ≤ j → j < 5 → mI M' (1000 + j) C = -1 := by
  have e5 : (5 : Int32) = nI 5 := rfl
  intro d
  induction d with
  | zero =>
    intro i fu M hi hfu h1 h2 h3
    obtain ⟨fu, rfl⟩ : ∃ z, fu = z + 1 := ⟨fu - 1, by omega⟩
    rw [lp_succ, b_X2_make_12, e5, if_pos (le_n (by omega) (by omega))]
    exact ⟨M, rfl, rfl, fun _ _ _ => rfl, fun j _ _ => by omega⟩
  | succ d ih =>
    intro i fu M hi hfu h1 h2 h3
    obtain ⟨fu, rfl⟩ : ∃ z, fu = z + 1 := ⟨fu - 1, by omega⟩
    rw [lp_succ, b_X2_make_12, e5, if_neg (fun h9 => absurd ((i_le (by omega) (by omega)).mp h9) (by omega)), dP_at (by rw [h1])]
    show ∃ M', sI M 100 (mP M 64 A) _ _ _ = _ ∧ _
    rw [h2, sI_at h3 (by omega) (by omega), nI_1]
    obtain ⟨M', g1, g2, g3, g4⟩ := ih (i + 1) fu (uI M (1000 + i) C (-1)) (by omega) (by omega) h1 h2 h3
    refine ⟨M', g1, g2, fun k a hk => ?_, fun j h8 h9 => ?_⟩
    · rw [g3 k a (by omega), mI_ne (by omega)]
    · by_cases hj : j = i
      · rw [hj, g3 _ _ (by omega), mI_eq]
      · exact g4 j (by omega) h9
theorem makeLoop_r {f : Nat} {x : Int32} (hf : f < 3) : ∀ (d i fu : Nat) (M : Mem), i + d = 5 → d < fu → Lay M →
    ∃ M', lp (b_X11_makeFolder_61 (some 2179) (nI f) x) fu (nI i, M) = some (x, M') ∧ M'.2 = M.2 ∧ (∀ k a, ¬ (a = 2180 ∧ 1134 + 7 * f + i ≤ k ∧ k < 1139 + 7 * f) → mI M' k a = mI M k a) ∧ ∀ j, i ≤ j → j < 5 → mI M' (1134 + 7 * f + j) 2180 = 0 := by
  have e5 : (5 : Int32) = nI 5 := rfl
  have e1 : (132 : Int32) = nI 132 := rfl
  have e2 : (7 : Int32) = nI 7 := rfl
  intro d
  induction d with
  | zero =>
    intro i fu M hi hfu h1
    obtain ⟨fu, rfl⟩ : ∃ z, fu = z + 1 := ⟨fu - 1, by omega⟩
    rw [lp_succ, b_X11_makeFolder_61, e5, if_pos (le_n (by omega) (by omega))]
    exact ⟨M, rfl, rfl, fun _ _ _ => rfl, fun j _ _ => by omega⟩
  | succ d ih =>
    intro i fu M hi hfu h1
    obtain ⟨fu, rfl⟩ : ∃ z, fu = z + 1 := ⟨fu - 1, by omega⟩
    rw [lp_succ, b_X11_makeFolder_61, e5, if_neg (fun h9 => absurd ((i_le (by omega) (by omega)).mp h9) (by omega)), dS h1, e1, e2, pk_mul, nI_add, show nI (132 + 7 * f) + 2 = nI (132 + 7 * f + 2) from nI_add _ 2, nI_add, s_set h1 (by omega), nI_1]
    obtain ⟨M', g1, g2, g3, g4⟩ := ih (i + 1) fu (uI M (1000 + (132 + 7 * f + 2 + i)) 2180 0) (by omega) (by omega) h1
    refine ⟨M', g1, g2, fun k a hk => ?_, fun j h8 h9 => ?_⟩
    · rw [g3 k a (by omega), mI_ne (by omega)]
    · by_cases hj : j = i
      · rw [hj, g3 _ _ (by omega), show 1134 + 7 * f + i = 1000 + (132 + 7 * f + 2 + i) by omega, mI_eq]
      · exact g4 j (by omega) h9
/-- when only one folder's numbers move, all else stands -/
theorem Pk.folder {M M2 : Mem} {cnt n vc m f : Nat} (h : Pk cnt n vc m M 0 2180 2182) (hn : n ≤ 512) (hf : f < 3) (f3 : M2.2 = M.2) (f2 : ∀ k a, ¬ (a = aFo (pk 0) f ∨ a = aFc (pk 0) f ∨ (a = 2180 ∧ 1132 + 7 * f ≤ k ∧ k < 1139 + 7 * f)) → mI M2 k a = mI M k a)
    (hN : ∃ n, n ≤ 5 ∧ mI M2 65 (aFo (pk 0) f) = nI n ∧ mI M2 (1000 + (132 + 7 * f)) 2180 = nI n ∧ (0 < n → mI M2 66 (aFo (pk 0) f) = mI M2 (1000 + (132 + 7 * f + 1)) 2180 ∧ ∀ j, j < 5 → ∃ c, c ≤ vc ∧ (n ≤ j → c = 0) ∧ mI M2 (1000 + j) (aFc (pk 0) f) = nI c - 1 ∧ mI M2 (1000 + (132 + 7 * f + 2 + j)) 2180 = nI c)) : Pk (cnt + 1) n vc m M2 0 2180 2182 := by
  have hpp : pk 0 = 1 := rfl
  have ea : aFo (pk 0) f = 49 + 2 * f := by unfold aFo pk; omega
  have eb : aFc (pk 0) f = 50 + 2 * f := by unfold aFc pk; omega
  obtain ⟨m1, m2, m3⟩ := h.imi
  refine ⟨h.1.of (fun a _ _ => eS f3 a) (fun k a _ _ => eP f3 k a) (fun k' a' h8 h9 => f2 k' a' (by omega)) (fun k' h8 h9 => f2 _ _ (by omega)),
    h.2.1.of (f2 _ _ (by omega)) (fun k' a' h8 h9 => f2 k' a' (by omega)) (f2 _ _ (by omega)) (fun k' h8 h9 => f2 _ _ (by omega)), ?_,
    h.2.2.2.1.of (by omega) (fun k' a' h8 h9 => f2 k' a' (by omega)) (fun a _ _ => eF f3 _ a) (fun k' h8 h9 => f2 _ _ (by omega)) (fun k => eF f3 k _),
    h.2.2.2.2.1.of (by omega) (by omega) (Nat.le_refl _) (Nat.le_refl _) (f2 _ _ (by omega)) (fun k' a' h8 h9 => f2 k' a' (by omega)) (f2 _ _ (by omega)) (fun k' h8 => f2 _ _ (by omega)), ⟨m1, (f2 _ _ (by omega)).trans m2, (f2 _ _ (by omega)).trans m3⟩, h.2.2.2.2.2.2.of (fun k' h8 h9 => f2 _ _ (by omega)) (fun k' h8 => f2 _ _ (by omega)) (fun l h8 => f2 _ _ (by omega))⟩
  intro g hg
  by_cases hgf : g = f
  · rw [hgf]; exact hN
  · obtain ⟨n', h1, h2, h3, h4⟩ := h.2.2.1 g hg
    have ea' : aFo (pk 0) g = 49 + 2 * g := by unfold aFo pk; omega
    have eb' : aFc (pk 0) g = 50 + 2 * g := by unfold aFc pk; omega
    refine ⟨n', h1, (f2 _ _ (by omega)).trans h2, (f2 _ _ (by omega)).trans h3, fun h0 => ?_⟩
    obtain ⟨g1, g2⟩ := h4 h0
    refine ⟨((f2 _ _ (by omega)).trans g1).trans (f2 _ _ (by omega)).symm, fun j hj => ?_⟩
    obtain ⟨c, c1, c2, c3, c4⟩ := g2 j hj
    exact ⟨c, c1, c2, (f2 _ _ (by omega)).trans c3, (f2 _ _ (by omega)).trans c4⟩
theorem makeFolder_op {cnt n vc m : Nat} {M : Mem} (h : Inv cnt n vc m M) (hc : cnt < 512) (p a b : Int32) : Op cnt M (fun M => m_X10_makeFolder M (some 0) p a b) (fun M => m_X11_makeFolder M (some 2179) p a b) := by
  have hL := h.1
  have no : ∀ {r : Int32} {g : Mem → Option (Int32 × Mem)}, m_X10_makeFolder M (some 0) p a b = some (r, M) → g M = some (r, M) → Op cnt M (fun M => m_X10_makeFolder M (some 0) p a b) g := fun h9 h8 => Op.same h hc h9 (Keep.rfl'.mono (by omega)) h8 Sc.rfl'
  by_cases hp : (0 : Int32) ≤ p ∧ p ≤ 2
  · by_cases ha : (-1 : Int32) ≤ a ∧ a ≤ 3
    · by_cases hb : (1 : Int32) ≤ b ∧ b ≤ 5
      · obtain ⟨f, rfl, -, hf⟩ := nat_of (a := 0) (b := 2) (by omega) hp (by omega)
        obtain ⟨z, rfl, hz1, hz⟩ := nat_of (a := 1) (b := 5) (by omega) hb (by omega)
        have hS := S_aFo hL (q := 0) (by omega) (show f < 3 by omega)
        have hC := S_aFc hL (q := 0) (by omega) (show f < 3 by omega)
        have hPC := P_aFo hL (q := 0) (by omega) (show f < 3 by omega)
        have hpp : pk 0 = 1 := rfl
        have ea : aFo (pk 0) f = 49 + 2 * f := by unfold aFo pk; omega
        have eb : aFc (pk 0) f = 50 + 2 * f := by unfold aFc pk; omega
        obtain ⟨M1, g1, g2, g3, g4⟩ := makeLoop_c 5 0 FU (uI (uI M 66 (aFo (pk 0) f) a) 65 (aFo (pk 0) f) (nI z)) (by omega) (by show 5 < 1000000; omega) hS hPC hC
        have hA : m_X10_makeFolder M (some 0) (nI f) a (nI z) = some (nI z, M1) := by
          unfold m_X10_makeFolder
          rw [within_y hp, cl_some, if_neg (by decide), within_y ha, cl_some, if_pos (by decide), within_y hb, cl_some, if_pos (by decide), dPark hL, folder_of hL (by omega), rc_at (by rw [hS])]
          unfold m_X2_make
          rw [pI_at (by rw [hS]), pI_at (by rw [mS_uI, hS])]
          show cl (lp (b_X2_make_12 (some (aFo (pk 0) f))) FU (nI 0, uI (uI M 66 (aFo (pk 0) f) a) 65 (aFo (pk 0) f) (nI z))) _ = _
          rw [g1]; rfl
        have f3 : M1.2 = M.2 := g2
        have hL1 := eLay f3 hL
        obtain ⟨M2, k1, k2, k3, k4⟩ := makeLoop_r (x := nI z) (show f < 3 by omega) 5 0 FU (uI (uI M1 (1000 + (132 + 7 * f)) 2180 (nI z)) (1000 + (132 + 7 * f + 1)) 2180 a) (by omega) (by show 5 < 1000000; omega) hL1
        have hB : m_X11_makeFolder M1 (some 2179) (nI f) a (nI z) = some (nI z, M2) := by
          unfold m_X11_makeFolder
          have e1 : (132 : Int32) = nI 132 := rfl
          have e2 : (7 : Int32) = nI 7 := rfl
          rw [in_y hp, cl_some, if_neg (by decide), in_y ha, cl_some, if_neg (by decide), in_y hb, cl_some, if_pos (by decide), dS hL1, e1, e2, pk_mul, nI_add, s_set hL1 (by omega), dS (hL1.uI _ _ _), nI_1, s_set (hL1.uI _ _ _) (by omega)]
          exact k1
        have f4 : M2.2 = M.2 := (show M2.2 = M1.2 from k2).trans f3
        have f2 : ∀ k' a', ¬ (a' = aFo (pk 0) f ∨ a' = aFc (pk 0) f ∨ (a' = 2180 ∧ 1132 + 7 * f ≤ k' ∧ k' < 1139 + 7 * f)) → mI M2 k' a' = mI M k' a' := by
          intro k' a' h9
          rw [k3 _ _ (by omega), mI_ne (by omega), mI_ne (by omega), g3 _ _ (by omega), mI_ne (by omega), mI_ne (by omega)]
        refine ⟨nI z, M1, M2, hA, S1 _ hL1, hB, n, vc, m, h.of1 hc f4 (fun k' a' h1 h2 h3 h4 => f2 k' a' (by omega)) (h.2.2.2.1.folder (by have := h.n512; omega) (show f < 3 by omega) f4 f2 ?_)⟩
        refine ⟨z, hz, ?_, ?_, fun _ => ⟨?_, fun j hj => ⟨0, by omega, fun _ => rfl, ?_, ?_⟩⟩⟩
        · rw [k3 _ _ (by omega), mI_ne (by omega), mI_ne (by omega), g3 _ _ (by omega), mI_eq]
        · rw [k3 _ _ (by omega), mI_ne (by omega), mI_eq]
        · have w1 : mI M2 66 (aFo (pk 0) f) = a := by rw [k3 _ _ (by omega), mI_ne (by omega), mI_ne (by omega), g3 _ _ (by omega), mI_ne (by omega), mI_eq]
          have w2 : mI M2 (1000 + (132 + 7 * f + 1)) 2180 = a := by rw [k3 _ _ (by omega), mI_eq]
          rw [w1, w2]
        · rw [k3 _ _ (by omega), mI_ne (by omega), mI_ne (by omega), g4 j (by omega) hj]; rfl
        · rw [show 1000 + (132 + 7 * f + 2 + j) = 1134 + 7 * f + j by omega, k4 j (by omega) hj]; rfl
      · refine no (r := -2) ?_ ?_
        · unfold m_X10_makeFolder
          rw [within_y hp, cl_some, if_neg (by decide), within_y ha, cl_some, if_pos (by decide), within_n hb, cl_some, if_neg (by decide)]; rfl
        · show m_X11_makeFolder M _ _ _ _ = _
          unfold m_X11_makeFolder
          rw [in_y hp, cl_some, if_neg (by decide), in_y ha, cl_some, if_neg (by decide), in_n hb, cl_some, if_neg (by decide)]; rfl
    · refine no (r := -2) ?_ ?_
      · unfold m_X10_makeFolder
        rw [within_y hp, cl_some, if_neg (by decide), within_n ha, cl_some, if_neg (by decide)]; rfl
      · show m_X11_makeFolder M _ _ _ _ = _
        unfold m_X11_makeFolder
        rw [in_y hp, cl_some, if_neg (by decide), in_n ha, cl_some, if_pos rfl]; rfl
  · refine no (r := -2) ?_ ?_
    · unfold m_X10_makeFolder
      rw [within_n hp, cl_some, if_pos rfl]; rfl
    · show m_X11_makeFolder M _ _ _ _ = _
      unfold m_X11_makeFolder
      rw [in_n hp, cl_some, if_pos rfl]; rfl
