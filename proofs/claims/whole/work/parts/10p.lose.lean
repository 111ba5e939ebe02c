/-! ===== the calls step, lose, pay ===== -/
theorem si_add {f g : Nat → Int32} {t : Nat} {d : Int32} : ∀ {n : Nat}, t < n → (∀ s, s < n → s ≠ t → g s = f s) → g t = f t + d → si g n = si f n + d := by
  intro n
  induction n with
  | zero => intro h; omega
  | succ n ih =>
    intro ht hs hd
    show si g n + g n = si f n + f n + d
    by_cases htn : t = n
    · have e : si g n = si f n := si_of (fun s h => hs s (by omega) (by omega))
      rw [e, ← htn, hd, Int32.add_assoc]
    · rw [ih (by omega) (fun s h => hs s (by omega)) hd, hs n (by omega) (by omega), Int32.add_assoc, Int32.add_assoc, Int32.add_comm d (f n)]
def sn (b : Nat → Nat) : Nat → Nat
  | 0 => 0
  | n + 1 => sn b n + b n
theorem si_sn {f : Nat → Int32} {b : Nat → Nat} : ∀ {n : Nat}, (∀ t, t < n → f t = nI (b t)) → si f n = nI (sn b n) := by
  intro n
  induction n with
  | zero => intro _; rfl
  | succ n ih => intro h; show si f n + f n = nI (sn b n + b n); rw [ih (fun t ht => h t (by omega)), h n (by omega), nI_add]
theorem sn_le {b : Nat → Nat} : ∀ {n : Nat}, (∀ t, t < n → b t ≤ 1) → sn b n ≤ n := by
  intro n
  induction n with
  | zero => intro _; exact Nat.le_refl _
  | succ n ih => intro h; have h1 := ih (fun t ht => h t (by omega)); have h2 := h n (by omega); show sn b n + b n ≤ n + 1; omega
theorem sn_lt {b : Nat → Nat} {t : Nat} : ∀ {n : Nat}, t < n → (∀ t, t < n → b t ≤ 1) → b t = 0 → sn b n < n := by
  intro n
  induction n with
  | zero => intro h; omega
  | succ n ih =>
    intro ht h hb
    have h1 := sn_le (b := b) (n := n) (fun t ht => h t (by omega))
    have h2 := h n (by omega)
    show sn b n + b n < n + 1
    by_cases htn : t = n
    · rw [← htn] at h1 h2 ⊢; rw [hb]; omega
    · have := ih (by omega) (fun t ht => h t (by omega)) hb; omega
theorem Keep.uI {d : Nat} {M M1 : Mem} (h : Keep d M M1) (k a : Nat) (x : Int32) : Keep d (uI M k a x) (uI M1 k a x) := by
  refine ⟨h.1, h.2.1, h.2.2.1, fun a' ha => ?_⟩
  obtain ⟨h1, h2, h3, h4⟩ := h.2.2.2 a' ha
  refine ⟨h1, fun k' hk => ?_, h3, h4⟩
  rw [mI_uI, mI_uI, h2 k' hk]
theorem Inv.keep0 {M M1 : Mem} {cnt n vc m : Nat} (h : Inv (cnt + 1) n vc m M) (hk : Keep 2 M M1) (hb : mN M ≤ 2188 + 2 * cnt ∧ mL M ≤ 60000 + 12 * cnt) : Inv (cnt + 1) n vc m M1 := by
  obtain ⟨h1, h2, h3, h5, h6, h7, h8, h9⟩ := h
  have k1 := hk.2.1
  have k2 := hk.2.2.1
  have hI : ∀ k a, a < 2188 → a ≠ 2179 → mI M1 k a = mI M k a := fun k a ha hn => (hk.2.2.2 a ha).2.1 k (fun z => hn z.1)
  have hM : ∀ k, k < 361 → mI M1 k 2179 = mI M k 2179 := fun k hk9 => (hk.2.2.2 2179 (by omega)).2.1 k (by omega)
  have hn := h5.2.2.2.2.1.1
  refine ⟨hk.Lay h1, by omega, ⟨by omega, by omega⟩, hk.Pk h5 (by omega) (by omega) (by omega) (by omega) (by omega) (by omega), ?_, ?_, ?_, ?_⟩
  · rcases h6 with ⟨e1, e2⟩ | ⟨e1, e2, n', vc', m', e3⟩
    · exact Or.inl ⟨(hI _ _ (by omega) (by omega)).trans e1, (hM _ (by omega)).trans e2⟩
    · have hn' := e3.2.2.2.2.1.1
      exact Or.inr ⟨(hI _ _ (by omega) (by omega)).trans e1, (hM _ (by omega)).trans e2, n', vc', m', hk.Pk e3 (by omega) (by omega) (by omega) (by omega) (by omega) (by omega)⟩
  · obtain ⟨L, t1, t2, t3, t4⟩ := h7
    refine ⟨L, t1, (hI _ _ (by omega) (by omega)).trans t2, (hM _ (by omega)).trans t3, fun j hj => ?_⟩
    obtain ⟨c, c1, c2, c3⟩ := t4 j hj
    exact ⟨c, c1, (hI _ _ (by omega) (by omega)).trans c2, (hI _ _ (by omega) (by omega)).trans c3⟩
  · obtain ⟨z, t1, t2, t3, t4⟩ := h8
    refine ⟨z, t1, (hI _ _ (by omega) (by omega)).trans t2, (hM _ (by omega)).trans t3, fun h3 j hj => ?_⟩
    obtain ⟨c1, c2⟩ := t4 h3 j hj
    exact ⟨((hI _ _ (by omega) (by omega)).trans c1).trans (hI _ _ (by omega) (by omega)).symm, ((hI _ _ (by omega) (by omega)).trans c2).trans (hI _ _ (by omega) (by omega)).symm⟩
  · exact ⟨fun b hb => (hI _ _ (by omega) (by omega)).trans (h9.1 b hb), fun i hi b hb => (hI _ _ (by unfold aPl pk; omega) (by unfold aPl pk; omega)).trans (h9.2 i hi b hb)⟩
/-- when one ticket's numbers, the sums, vouchers and levels move, all else stands -/
theorem Pk.tick {M X : Mem} {cnt n vc m t : Nat} (h : Pk cnt n vc m M 0 2180 2182) (hn : n ≤ 512) (ht : t < n) (f3 : X.2 = M.2) (f2 : ∀ k a, ¬ (a = aTi (pk 0) t ∨ a = aTv (pk 0) t ∨ (39 ≤ a ∧ a < 49) ∨ (55 ≤ a ∧ a < 59) ∨ (a = 2180 ∧ ((1002 ≤ k ∧ k ≤ 1008) ∨ (1102 ≤ k ∧ k < 1132) ∨ (1153 ≤ k ∧ k < 1169) ∨ (1169 + 12 * t ≤ k ∧ k < 1181 + 12 * t)))) → mI X k a = mI M k a)
    (hV : IVo vc X 0 2180) (hLe : ILe (cnt + 1) X 0 2180 2182) (hT : TkOK vc m X (aTi (pk 0) t) (aTv (pk 0) t) 2180 (169 + 12 * t)) (hS : ISu n X 2180) : Pk (cnt + 1) n vc m X 0 2180 2182 := by
  have hpp : pk 0 = 1 := rfl
  have ea : ∀ t, aTi (pk 0) t = 59 + 2 * t := fun t => by unfold aTi pk; omega
  have eb : ∀ t, aTv (pk 0) t = 60 + 2 * t := fun t => by unfold aTv pk; omega
  have ea' := ea t
  have eb' := eb t
  obtain ⟨m1, m2, m3⟩ := h.imi
  obtain ⟨t1, t2, t3, t4⟩ := h.2.2.2.2.1
  refine ⟨h.1.of (fun a _ _ => eS f3 a) (fun k a _ _ => eP f3 k a) (fun k' a' h8 h9 => f2 k' a' (by omega)) (fun k' h8 h9 => f2 _ _ (by omega)), hV,
    h.2.2.1.of (Nat.le_refl _) (fun k' a' h8 h9 => f2 k' a' (by omega)) (fun k' h8 h9 => f2 _ _ (by omega)), hLe,
    ⟨by omega, (f2 _ _ (by omega)).trans t2, (f2 _ _ (by omega)).trans t3, fun s hs => ?_⟩, ⟨m1, (f2 _ _ (by omega)).trans m2, (f2 _ _ (by omega)).trans m3⟩, hS⟩
  by_cases hst : s = t
  · rw [hst]; exact hT
  · have es := ea s
    have es' := eb s
    exact (t4 s hs).of (Nat.le_refl _) (Nat.le_refl _) (fun k => f2 _ _ (by omega)) (fun k => f2 _ _ (by omega)) (fun k h8 h9 => f2 _ _ (by omega))
theorem isInside_keep {cnt n vc m t : Nat} {M M1 : Mem} (h : Inv cnt n vc m M) (ht : t < n) (hL1 : Lay M1) (h1 : mI M1 1001 2180 = nI n) (h5 : mI M1 (1000 + (169 + 12 * t + 5)) 2180 = nI 0) : m_X11_isInside M1 (some 2179) (nI t) = some (1, M1) := by
  have hn := h.n512
  have e1 : (1 : Int32) = nI 1 := rfl
  unfold m_X11_isInside
  rw [dS hL1]
  show aI M1 100 (some 2180) (nI 1) _ = _
  rw [s_at hL1 (by omega)]
  show cl (m_X11_in M1 (nI t) 0 (mI M1 1001 2180 - 1)) _ = _
  rw [h1]
  rcases ix_in M1 (nI t) (n := n) (by omega) with ⟨j, c1, -, c2⟩ | ⟨c1, -⟩
  · rw [c2, cl_some, if_neg (by decide), rc_at (S1 _ hL1), show m_X11_item M1 (some 2179) (nI t) 5 = _ from item_r hL1 (show t < 512 by omega) (j := 5) (by omega), cl_some, h5, if_neg (by decide)]; rfl
  · exact absurd ⟨t, ht, rfl⟩ c1
theorem set_r {M : Mem} (hL : Lay M) {t j : Nat} {x : Int32} (ht : t < 512) (hj : j < 12) : m_X11_set M (some 2179) (nI t) (nI j) x = some ((), uI M (1000 + (169 + 12 * t + j)) 2180 x) := by
  unfold m_X11_set
  have e1 : (169 : Int32) = nI 169 := rfl
  have e2 : (12 : Int32) = nI 12 := rfl
  rw [dP_at (S1 M hL)]
  show sI M 100 (mP M 352 2179) _ _ _ = _
  rw [P_s M hL, e1, e2, pk_mul, nI_add, nI_add, sI_at (S_s M hL) (by omega) (by omega)]; rfl
theorem lose_op {cnt n vc m : Nat} {M : Mem} (h : Inv cnt n vc m M) (hc : cnt < 512) (p : Int32) : Op cnt M (fun M => m_X10_lose M (some 0) p) (fun M => m_X11_lose M (some 2179) p) := by
  have hL := h.1
  have hP := h.2.2.2.1
  obtain ⟨m1, m2, m3⟩ := hP.imi
  have hpk : mS M (pk 0) = (1, 0) := S_park hL (by omega)
  have hpp : pk 0 = 1 := rfl
  have hn := h.n512
  have hmn := h.mn
  have no : ∀ {r : Int32} {g : Mem → Option (Int32 × Mem)}, m_X10_lose M (some 0) p = some (r, M) → g M = some (r, M) → Op cnt M (fun M => m_X10_lose M (some 0) p) g := fun h9 h8 => Op.same h hc h9 (Keep.rfl'.mono (by omega)) h8 Sc.rfl'
  rcases inside_cr h p with ⟨hA, hB⟩ | ⟨t, pl, en, lv, pd, gv, lo, la, Vn, K, A, ht, rfl, hA, hB, hT⟩
  · refine no (r := -1) ?_ ?_
    · unfold m_X10_lose
      rw [dPark hL, rc_at (by rw [hpk]), hA, cl_some, if_neg (by simp)]; rfl
    · show m_X11_lose M _ _ = _
      unfold m_X11_lose
      rw [rc_at (S1 _ hL), hB, cl_some, if_neg (by decide)]; rfl
  · have hS := S_aTi hL (q := 0) (by omega) (show t < 512 by omega)
    have ea : aTi (pk 0) t = 59 + 2 * t := by unfold aTi pk; omega
    have eb : aTv (pk 0) t = 60 + 2 * t := by unfold aTv pk; omega
    obtain ⟨hb, hCf, hRf, hCT, hRT, hK, hVn⟩ := id hT
    obtain ⟨a1, a2, a3, a4, a5, a6, a7, a8⟩ := hCf
    obtain ⟨b1, b2, b3, b4, b5, b6, b7, b8⟩ := hRf
    have hA1 : m_X10_lose M (some 0) (nI t) = (if nI lo = 0 then pZ M 8 8 (some (aTi (pk 0) t)) 1 (fun (M5 : Mem) => dP M5 10 0 (some 0) (fun (q6 : Option Nat) => dP M5 10 0 (some 0) (fun (q7 : Option Nat) => dI M5 1 7 q7 (fun (x8 : Int32) => rc M5 1 q6 (cl (m_X1_dueAmount M5 q6 (some (aTi (pk 0) t)) x8) (fun (x10 : Int32) (M9 : Mem) => rt x10 M9)))))) else rt ((-4)) M) := by
      unfold m_X10_lose
      rw [dPark hL, rc_at (by rw [hpk]), hA, cl_some, if_pos (by simp), dI_at (by rw [hS])]
      show (if mI M 264 (aTi (pk 0) t) = 0 then _ else _) = _
      rw [a7]
    by_cases hlo : lo = 0
    · subst hlo
      obtain ⟨π, hπ, hC, hR⟩ := hP.1 pl (by omega)
      obtain ⟨Ma, hMa⟩ : ∃ Ma, Ma = uI M 264 (aTi (pk 0) t) 1 := ⟨_, rfl⟩
      have hLa : Lay Ma := by rw [hMa]; exact hL
      obtain ⟨-, vc', w1, w2, w3⟩ := id hCT
      have hCTa : CT Ma t pl en pd gv 1 Vn K A := by
        refine ⟨⟨by rw [hMa, mI_ne (by omega)]; exact a1, by rw [hMa, mI_ne (by omega)]; exact a2, by rw [hMa, mI_ne (by omega)]; exact a4, by rw [hMa, mI_ne (by omega)]; exact a5, by rw [hMa, mI_eq]; rfl⟩, vc', w1, by rw [hMa, mI_ne (by omega)]; exact w2, fun j hj => ?_⟩
        obtain ⟨x1, x2, x3, x4⟩ := w3 j hj
        have ec : aVo (pk 0) (Vn j) = 39 + Vn j := by unfold aVo pk; omega
        exact ⟨x1, by rw [hMa, mI_ne (by omega)]; exact x2, by rw [hMa, mI_ne (by omega)]; exact x3, by rw [hMa, mI_ne (by omega)]; exact x4⟩
      have hCa : PlC Ma (aPl (pk 0) pl) π := hC.of hπ (fun a _ _ => by rw [hMa]; rfl) (fun k a _ _ => by rw [hMa]; rfl) (fun k a h8 h9 => by rw [hMa, mI_ne (by unfold aPl at h9; omega)])
      obtain ⟨M1, e1, g1⟩ := due_c (at' := m) (lo := 1) hLa (show t < 512 by omega) hCTa hK hb.2.2.2.2.1 (by omega) hCa hπ hb.2.1 m1 (by rw [hMa]; show mN M < _; omega) hb.2.2.2.1 (by omega)
      have hk1 := Keep.gr hLa g1
      have hL1 := hk1.Lay hLa
      have i1 : ∀ k, mI M1 k 2180 = mI M k 2180 := fun k => ((hk1.2.2.2 2180 (by omega)).2.1 k (by omega)).trans (by rw [hMa, mI_ne (by omega)])
      obtain ⟨Mb, hMb⟩ : ∃ Mb, Mb = uI (uI M1 (1000 + (169 + 12 * t + 6)) 2180 1) 1008 2180 (mI M 1008 2180 + 1) := ⟨_, rfl⟩
      have hLb : Lay Mb := by rw [hMb]; exact hL1
      have hRTb : RT Mb t pl en pd gv 1 Vn K A := by
        obtain ⟨-, w5⟩ := id hRT
        refine ⟨⟨by rw [hMb, mI_ne (by omega), mI_ne (by omega), i1]; exact b1, by rw [hMb, mI_ne (by omega), mI_ne (by omega), i1]; exact b2, by rw [hMb, mI_ne (by omega), mI_ne (by omega), i1]; exact b4, by rw [hMb, mI_ne (by omega), mI_ne (by omega), i1]; exact b5, by rw [hMb, mI_ne (by omega), mI_eq]; rfl⟩, fun j hj => ?_⟩
        obtain ⟨x1, x2, x3, x4⟩ := w5 j hj
        exact ⟨x1, by rw [hMb, mI_ne (by omega), mI_ne (by omega), i1]; exact x2, by rw [hMb, mI_ne (by omega), mI_ne (by omega), i1]; exact x3, by rw [hMb, mI_ne (by omega), mI_ne (by omega), i1]; exact x4⟩
      have hc6 := hπ.2.2.2.2.2.1
      have hRb : PlR Mb 2180 (10 + 23 * pl) π := by
        have hf : ∀ k, 10 ≤ k → k < 102 → mI Mb (1000 + k) 2180 = mI M (1000 + k) 2180 := fun k h8 h9 => by rw [hMb, mI_ne (by omega), mI_ne (by omega), i1]
        exact ⟨(hf _ (by omega) (by omega)).trans hR.1, (hf _ (by omega) (by omega)).trans hR.2.1, (hf _ (by omega) (by omega)).trans hR.2.2.1, (hf _ (by omega) (by omega)).trans hR.2.2.2.1, (hf _ (by omega) (by omega)).trans hR.2.2.2.2.1, fun b hb j hj => (hf _ (by omega) (by omega)).trans (hR.2.2.2.2.2 b hb j hj)⟩
      obtain ⟨M2, e2, g2⟩ := due_r (at' := m) (lo := 1) hLb (show t < 512 by omega) hRTb hK hb.2.2.2.2.1 (show pl < 4 by omega) hRb hπ hb.2.1 m1 hb.2.2.2.1 (by omega)
      have hAA : m_X10_lose M (some 0) (nI t) = some (nI (dueS π en m gv 1 pd K A), M1) := by
        rw [hA1, if_pos (by decide), pZ_at (by rw [hS]) (Or.inr rfl)]
        show dP (uI M 264 (aTi (pk 0) t) 1) 10 0 (some 0) _ = _
        rw [← hMa, dPark hLa, dPark hLa, dI_at (by rw [S_park hLa (by omega)])]
        show rc Ma 1 (some (pk 0)) (cl (m_X1_dueAmount Ma (some (pk 0)) _ (mI Ma 39 (pk 0))) _) = _
        rw [show mI Ma 39 (pk 0) = nI m by rw [hMa, mI_ne (by omega)]; exact m2, rc_at (by rw [S_park hLa (by omega)]), e1]; rfl
      have hBB : m_X11_lose M1 (some 2179) (nI t) = some (nI (dueS π en m gv 1 pd K A), M2) := by
        unfold m_X11_lose
        have e8 : (8 : Int32) = nI 8 := rfl
        have e6 : (6 : Int32) = nI 6 := rfl
        rw [rc_at (S1 _ hL1), isInside_keep h ht hL1 ((i1 _).trans hP.2.2.2.2.1.2.2.1) ((i1 _).trans b6), cl_some, if_pos (by decide), rc_at (S1 _ hL1), show m_X11_item M1 (some 2179) (nI t) 6 = _ from item_r hL1 (show t < 512 by omega) (j := 6) (by omega), cl_some, i1, b7, if_pos (by decide), rc_at (S1 _ hL1), e6, set_r hL1 (by omega) (by omega), cl_some, dS (hL1.uI _ _ _), e8, s_at (hL1.uI _ _ _) (by omega), s_set (hL1.uI _ _ _) (by omega), mI_ne (by omega), i1]
        show dP (uI (uI M1 (1000 + (169 + 12 * t + 6)) 2180 1) 1008 2180 (mI M 1008 2180 + 1)) 11 0 _ _ = _
        rw [← hMb, dS hLb]
        show aI Mb 100 (some 2180) (nI 0) _ = _
        rw [s_at hLb (by omega)]
        show rc Mb 11 _ (cl (m_X11_dueAt Mb _ _ (mI Mb 1000 2180)) _) = _
        rw [show mI Mb 1000 2180 = nI m by rw [hMb, mI_ne (by omega), mI_ne (by omega), i1]; exact m3, rc_at (S1 _ hLb), e2]; rfl
      obtain ⟨X, hX⟩ : ∃ X, X = uI (uI (uI M 264 (aTi (pk 0) t) 1) (1000 + (169 + 12 * t + 6)) 2180 1) 1008 2180 (mI M 1008 2180 + 1) := ⟨_, rfl⟩
      have hXk : Keep 2 X M2 := by
        have k1 : Keep 1 X Mb := by rw [hX, hMb, ← hMa]; exact (hk1.uI _ _ _).uI _ _ _
        exact (k1.trans (Keep.sc g2)).mono (by omega)
      have f3 : X.2 = M.2 := by rw [hX]; rfl
      have f2 : ∀ k a, ¬ (k = 264 ∧ a = aTi (pk 0) t) → ¬ (a = 2180 ∧ (k = 1008 ∨ k = 1000 + (169 + 12 * t + 6))) → mI X k a = mI M k a := by
        intro k a h8 h9
        rw [hX, mI_ne (by omega), mI_ne (by omega), mI_ne (by omega)]
      have hPX : Pk (cnt + 1) n vc m X 0 2180 2182 := by
        refine hP.tick (by omega) ht f3 (fun k a h9 => f2 k a (by omega) (by omega)) (hP.2.1.of (f2 _ _ (by omega) (by omega)) (fun k' a' h8 h9 => f2 k' a' (by omega) (by omega)) (f2 _ _ (by omega) (by omega)) (fun k' h8 h9 => f2 _ _ (by omega) (by omega))) (hP.2.2.2.1.of (by omega) (fun k' a' h8 h9 => f2 k' a' (by omega) (by omega)) (fun a _ _ => eF f3 _ a) (fun k' h8 h9 => f2 _ _ (by omega) (by omega)) (fun k => eF f3 k _)) ?_ ?_
        · refine ⟨pl, en, lv, pd, gv, 0, 1, la, ⟨hb.1, hb.2.1, hb.2.2.1, hb.2.2.2.1, hb.2.2.2.2.1, by omega, by omega, hb.2.2.2.2.2.2.2⟩, ⟨(f2 _ _ (by omega) (by omega)).trans a1, (f2 _ _ (by omega) (by omega)).trans a2, (f2 _ _ (by omega) (by omega)).trans a3, (f2 _ _ (by omega) (by omega)).trans a4, (f2 _ _ (by omega) (by omega)).trans a5, (f2 _ _ (by omega) (by omega)).trans a6, ?_, (f2 _ _ (by omega) (by omega)).trans a8⟩,
            ⟨(f2 _ _ (by omega) (by omega)).trans b1, (f2 _ _ (by omega) (by omega)).trans b2, (f2 _ _ (by omega) (by omega)).trans b3, (f2 _ _ (by omega) (by omega)).trans b4, (f2 _ _ (by omega) (by omega)).trans b5, (f2 _ _ (by omega) (by omega)).trans b6, ?_, (f2 _ _ (by omega) (by omega)).trans b8⟩, fun j hj => ?_⟩
          · rw [hX, mI_ne (by omega), mI_ne (by omega), mI_eq]; rfl
          · rw [hX, mI_ne (by omega), mI_eq]; rfl
          · obtain ⟨x1, x2, x3, x4⟩ := w3 j hj
            obtain ⟨y1, y2, y3, y4⟩ := hRT.2 j hj
            exact ⟨Vn j, hVn j hj, (f2 _ _ (by omega) (by omega)).trans x2, (f2 _ _ (by omega) (by omega)).trans y2⟩
        · obtain ⟨⟨lf, s1, s2, s3, s4, s5, s6, s7⟩, sc⟩ := hP.2.2.2.2.2.2
          refine ⟨⟨lf, s1, s2, (f2 _ _ (by omega) (by omega)).trans s3, ?_, ?_, fun k hk => ?_, ?_⟩, sc.of (fun l9 h9 => f2 _ _ (by omega) (by omega)) (fun s hs j hj => f2 _ _ (by omega) (by omega))⟩
          · rw [← s4]; exact si_of (fun s hs => f2 _ _ (by omega) (by omega))
          · have e8 : mI X 1008 2180 = mI M 1008 2180 + 1 := by rw [hX, mI_eq]
            rw [e8, s5]
            refine (si_add (t := t) ht (fun s hs hst => f2 _ _ (by omega) (by omega)) ?_).symm
            show mI X (1000 + (169 + 12 * t + 6)) 2180 = mI M (1000 + (169 + 12 * t + 6)) 2180 + 1
            rw [b7, hX, mI_ne (by omega), mI_eq]; rfl
          · refine ((f2 _ _ (by omega) (by omega)).trans (s6 k hk)).trans (si_of (fun s _ => ?_))
            unfold paidT
            rw [f2 (1000 + (169 + 12 * s)) 2180 (by omega) (by omega), f2 (1000 + (169 + 12 * s + 3)) 2180 (by omega) (by omega)]
          · rw [f2 1003 2180 (by omega) (by omega), f2 1004 2180 (by omega) (by omega), f2 1005 2180 (by omega) (by omega), f2 1006 2180 (by omega) (by omega), f2 1007 2180 (by omega) (by omega)]; exact s7
      have hIX : Inv (cnt + 1) n vc m X := h.of1 hc f3 (fun k a h1 h2 h3 h4 => f2 k a (by omega) (by omega)) hPX
      exact ⟨_, M1, M2, hAA, S1 _ hL1, hBB, n, vc, m, hIX.keep0 hXk (by rw [eN f3, eL f3]; exact h.2.2.1)⟩
    · have hl1 : lo = 1 := by have := hb.2.2.2.2.2.2.1; omega
      subst hl1
      rw [if_neg (by decide)] at hA1
      refine no hA1 ?_
      show m_X11_lose M _ _ = _
      unfold m_X11_lose
      rw [rc_at (S1 _ hL), hB, cl_some, if_pos (by decide), rc_at (S1 _ hL), show m_X11_item M (some 2179) (nI t) 6 = _ from item_r hL (show t < 512 by omega) (j := 6) (by omega), cl_some, b7, if_neg (by decide)]; rfl
