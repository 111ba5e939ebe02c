/-- a copied car park holds what its source holds -/
theorem Pk.copy {M M1 : Mem} {cnt n vc m d s Ss Rs Sd Rd : Nat} (h : Pk cnt n vc m M s Ss Rs) (hn : n ≤ 512) (hd : d < 2) (hL1 : Lay M1) (hI : ∀ k o, o < 1082 → DA n k o → mI M1 k (pk d + o) = mI M k (pk s + o)) (hF : ∀ o, 54 ≤ o → o < 58 → mF M1 100 (pk d + o) = mF M 100 (pk s + o)) (h0 : ∀ i, i < 4 → ∀ b, b < 6 → mI M1 0 (aPl (pk d) i + 2 + b) = nI b) (hr : ∀ k, k < 6889 → mI M1 (1000 + k) Sd = mI M (1000 + k) Ss) (hR : ∀ k, k < 4 → mF M1 (1000 + k) Rd = mF M (1000 + k) Rs) : Pk cnt n vc m M1 d Sd Rd := by
  obtain ⟨h1, ⟨v1, v2, v3, v4⟩, h3, h4, ⟨t1, t2, t3, t4⟩, ⟨m1, m2, m3⟩, ⟨lf, s1, s2, s3, s4, s5, s6, s7⟩, sc⟩ := h
  refine ⟨fun i hi => ?_, ⟨v1, (hI 37 0 (by omega) (Or.inl (by omega))).trans v2, (hr 9 (by omega)).trans v3, fun v hv => ?_⟩, fun f hf => ?_, fun l hl => ?_, ⟨t1, (hI 38 0 (by omega) (Or.inl (by omega))).trans t2, (hr 1 (by omega)).trans t3, fun t ht => ?_⟩, ⟨m1, (hI 39 0 (by omega) (Or.inl (by omega))).trans m2, (hr 0 (by omega)).trans m3⟩, ⟨lf, s1, s2, (hr 2 (by omega)).trans s3, ?_, ?_, fun k hk => ?_, ?_⟩, fun l hl => ?_⟩
  · obtain ⟨π, p1, ⟨-, c1, c2, c3, c4, c5, c6, -⟩, ⟨r1, r2, r3, r4, r5, r6⟩⟩ := h1 i hi
    have hcnt := p1.2.2.2.2.2.1
    have eA : ∀ p b, aPl p i + 2 + b = p + (6 + 8 * i + 2 + b) := fun p b => by unfold aPl; omega
    have hk : ∀ k, 161 ≤ k → k ≤ 165 → mI M1 k (aPl (pk d) i) = mI M k (aPl (pk s) i) := fun k k1 k2 => hI k (6 + 8 * i) (by omega) (Or.inr (Or.inl ⟨i, hi, Or.inl ⟨rfl, k1, k2⟩⟩))
    have hb : ∀ b k, b < 6 → 1 ≤ k → k ≤ 3 → mI M1 k (aPl (pk d) i + 2 + b) = mI M k (aPl (pk s) i + 2 + b) := fun b k b1 k1 k2 => by
      rw [eA, eA]; exact hI k _ (by omega) (Or.inr (Or.inl ⟨i, hi, Or.inr ⟨by omega, by omega, k1, k2⟩⟩))
    refine ⟨π, p1, ⟨isPl_pk hL1 hd hi, (hk _ (by omega) (by omega)).trans c1, (hk _ (by omega) (by omega)).trans c2, (hk _ (by omega) (by omega)).trans c3, (hk _ (by omega) (by omega)).trans c4, (hk _ (by omega) (by omega)).trans c5, fun b hb9 => ?_, h0 i hi⟩, ⟨(hr _ (by omega)).trans r1, (hr _ (by omega)).trans r2, (hr _ (by omega)).trans r3, (hr _ (by omega)).trans r4, (hr _ (by omega)).trans r5, fun b hb9 j hj => (hr _ (by omega)).trans (r6 b hb9 j hj)⟩⟩
    obtain ⟨w1, w2, w3⟩ := c6 b hb9
    exact ⟨(hb b 1 (by omega) (by omega) (by omega)).trans w1, (hb b 2 (by omega) (by omega) (by omega)).trans w2, (hb b 3 (by omega) (by omega) (by omega)).trans w3⟩
  · obtain ⟨k, a, g, g1, g2, g3, g4, g5, g6, g7, g8, g9⟩ := v4 v hv
    have hk : ∀ k, 288 ≤ k → k ≤ 290 → mI M1 k (aVo (pk d) v) = mI M k (aVo (pk s) v) := fun k k1 k2 => hI k (38 + v) (by omega) (Or.inr (Or.inr (Or.inl ⟨v, by omega, rfl, k1, k2⟩)))
    exact ⟨k, a, g, g1, g2, g3, (hk _ (by omega) (by omega)).trans g4, (hk _ (by omega) (by omega)).trans g5, (hk _ (by omega) (by omega)).trans g6, (hr _ (by omega)).trans g7, (hr _ (by omega)).trans g8, (hr _ (by omega)).trans g9⟩
  · obtain ⟨n', q1, q2, q3, q4⟩ := h3 f hf
    have hk : ∀ k, k = 65 ∨ k = 66 → mI M1 k (aFo (pk d) f) = mI M k (aFo (pk s) f) := fun k k1 => hI k (48 + 2 * f) (by omega) (Or.inr (Or.inr (Or.inr (Or.inl ⟨f, hf, Or.inl ⟨rfl, k1⟩⟩))))
    have hc : ∀ j, j < 5 → mI M1 (1000 + j) (aFc (pk d) f) = mI M (1000 + j) (aFc (pk s) f) := fun j hj => hI (1000 + j) (49 + 2 * f) (by omega) (Or.inr (Or.inr (Or.inr (Or.inl ⟨f, hf, Or.inr ⟨rfl, by omega, by omega⟩⟩))))
    refine ⟨n', q1, (hk _ (by omega)).trans q2, (hr _ (by omega)).trans q3, fun hn0 => ?_⟩
    obtain ⟨w1, w2⟩ := q4 hn0
    refine ⟨((hk _ (by omega)).trans w1).trans (hr _ (by omega)).symm, fun j hj => ?_⟩
    obtain ⟨c, c1, c2, c3, c4⟩ := w2 j hj
    exact ⟨c, c1, c2, (hc j hj).trans c3, (hr _ (by omega)).trans c4⟩
  · obtain ⟨cap, ex, x, en, r, g1, g2, g3, g4, g5, a1, a2, a3, a4, a5, b1, b2, b3, b4, b5⟩ := h4 l hl
    have hk : ∀ k, 96 ≤ k → k ≤ 99 → mI M1 k (aLe (pk d) l) = mI M k (aLe (pk s) l) := fun k k1 k2 => hI k (54 + l) (by omega) (Or.inr (Or.inr (Or.inr (Or.inr (Or.inl ⟨l, hl, rfl, k1, k2⟩)))))
    exact ⟨cap, ex, x, en, r, g1, g2, g3, g4, g5, (hk _ (by omega) (by omega)).trans a1, (hk _ (by omega) (by omega)).trans a2, (hk _ (by omega) (by omega)).trans a3, (hk _ (by omega) (by omega)).trans a4, (hF (54 + l) (by omega) (by omega)).trans a5, (hr _ (by omega)).trans b1, (hr _ (by omega)).trans b2, (hr _ (by omega)).trans b3, (hr _ (by omega)).trans b4, (hR _ (by omega)).trans b5⟩
  · obtain ⟨pl, en, lv, pd, gv, go, lo, la, g, ⟨a1, a2, a3, a4, a5, a6, a7, a8⟩, ⟨b1, b2, b3, b4, b5, b6, b7, b8⟩, hj⟩ := t4 t ht
    have hk : ∀ k, 257 ≤ k → k ≤ 264 → mI M1 k (aTi (pk d) t) = mI M k (aTi (pk s) t) := fun k k1 k2 => hI k (58 + 2 * t) (by omega) (Or.inr (Or.inr (Or.inr (Or.inr (Or.inr ⟨t, ht, Or.inl ⟨rfl, k1, k2⟩⟩)))))
    have hc : ∀ j, j < 4 → mI M1 (1000 + j) (aTv (pk d) t) = mI M (1000 + j) (aTv (pk s) t) := fun j hj => hI (1000 + j) (59 + 2 * t) (by omega) (Or.inr (Or.inr (Or.inr (Or.inr (Or.inr ⟨t, ht, Or.inr ⟨rfl, by omega, by omega⟩⟩)))))
    have hg4 := g.2.2.2.2.1
    refine ⟨pl, en, lv, pd, gv, go, lo, la, g, ⟨(hk _ (by omega) (by omega)).trans a1, (hk _ (by omega) (by omega)).trans a2, (hk _ (by omega) (by omega)).trans a3, (hk _ (by omega) (by omega)).trans a4, (hk _ (by omega) (by omega)).trans a5, (hk _ (by omega) (by omega)).trans a6, (hk _ (by omega) (by omega)).trans a7, (hk _ (by omega) (by omega)).trans a8⟩, ⟨(hr _ (by omega)).trans b1, (hr _ (by omega)).trans b2, (hr _ (by omega)).trans b3, (hr _ (by omega)).trans b4, (hr _ (by omega)).trans b5, (hr _ (by omega)).trans b6, (hr _ (by omega)).trans b7, (hr _ (by omega)).trans b8⟩, fun j hj9 => ?_⟩
    obtain ⟨v, w1, w2, w3⟩ := hj j hj9
    exact ⟨v, w1, (hc j (by omega)).trans w2, (hr _ (by omega)).trans w3⟩
  · rw [← s4]; exact si_of (fun t ht => hr _ (by omega))
  · exact ((hr 8 (by omega)).trans s5).trans (si_of (fun t ht => (hr _ (by omega)).symm))
  · refine ((hr (4 + k) (by omega)).trans (s6 k hk)).trans (si_of (fun t ht => ?_))
    unfold paidT
    rw [hr (169 + 12 * t) (by omega), hr (169 + 12 * t + 3) (by omega)]
  · have e3 : mI M1 1003 Sd = mI M 1003 Ss := hr 3 (by omega)
    have e4 : mI M1 1004 Sd = mI M 1004 Ss := hr 4 (by omega)
    have e5 : mI M1 1005 Sd = mI M 1005 Ss := hr 5 (by omega)
    have e6 : mI M1 1006 Sd = mI M 1006 Ss := hr 6 (by omega)
    have e7 : mI M1 1007 Sd = mI M 1007 Ss := hr 7 (by omega)
    rw [e3, e4, e5, e6, e7]; exact s7
  · refine ((hr _ (by omega)).trans (sc l hl)).trans (si_of (fun t ht => ?_))
    unfold inT
    rw [hr (169 + 12 * t + 2) (by omega), hr (169 + 12 * t + 5) (by omega)]
/-! the reference's rows -/
theorem row_loop {Ss Sd : Nat} (hne : Ss ≠ Sd) {B : (Int32 × Mem → Option (Int32 × Mem)) → Int32 × Mem → Option (Int32 × Mem)} {J : Mem → Option (Int32 × Mem)} (hend : ∀ L M, B L (nI 6889, M) = J M) (hstep : ∀ L M i, i < 6889 → Lay M → B L (nI i, M) = L (nI i + 1, uI M (1000 + i) Sd (mI M (1000 + i) Ss))) :
    ∀ (k l fu : Nat) (M : Mem), l + k = 6889 → k < fu → Lay M → ∃ M1, lp B fu (nI l, M) = J M1 ∧ M1.2 = M.2 ∧ (∀ k a, a ≠ Sd → mI M1 k a = mI M k a) ∧ (∀ j, l ≤ j → j < 6889 → mI M1 (1000 + j) Sd = mI M (1000 + j) Ss) ∧ ∀ j, j < l → mI M1 (1000 + j) Sd = mI M (1000 + j) Sd := by
  intro k
  induction k with
  | zero =>
    intro l fu M hl hfu hL
    obtain ⟨fu, rfl⟩ : ∃ z, fu = z + 1 := ⟨fu - 1, by omega⟩
    refine ⟨M, ?_, rfl, fun _ _ _ => rfl, fun j h1 h2 => by omega, fun _ _ => rfl⟩
    rw [lp_succ, show l = 6889 by omega]
    exact hend _ M
  | succ k ih =>
    intro l fu M hl hfu hL
    obtain ⟨fu, rfl⟩ : ∃ z, fu = z + 1 := ⟨fu - 1, by omega⟩
    obtain ⟨M1, f1, f2, f3, f4, f5⟩ := ih (l + 1) fu (uI M (1000 + l) Sd (mI M (1000 + l) Ss)) (by omega) (by omega) hL
    refine ⟨M1, ?_, f2, fun k a h => (f3 k a h).trans (mI_ne (by omega)), fun j h1 h2 => ?_, fun j h1 => (f5 j (by omega)).trans (mI_ne (by omega))⟩
    · rw [lp_succ, hstep _ M l (by omega) hL, nI_1]; exact f1
    · by_cases h5 : l + 1 ≤ j
      · exact (f4 j h5 h2).trans (mI_ne (by omega))
      · rw [show j = l by omega, f5 l (by omega), mI_eq]
theorem rate_loop {Rs Rd : Nat} (hne : Rs ≠ Rd) {B : (Int32 × Mem → Option (Int32 × Mem)) → Int32 × Mem → Option (Int32 × Mem)} {J : Mem → Option (Int32 × Mem)} (hend : ∀ L M, B L (nI 4, M) = J M) (hstep : ∀ L M i, i < 4 → Lay M → B L (nI i, M) = L (nI i + 1, uF M (1000 + i) Rd (mF M (1000 + i) Rs))) :
    ∀ (k l fu : Nat) (M : Mem), l + k = 4 → k < fu → Lay M → ∃ M1, lp B fu (nI l, M) = J M1 ∧ M1.2.2 = M.2.2 ∧ M1.1 = M.1 ∧ (∀ k a, a ≠ Rd → mF M1 k a = mF M k a) ∧ (∀ j, l ≤ j → j < 4 → mF M1 (1000 + j) Rd = mF M (1000 + j) Rs) ∧ ∀ j, j < l → mF M1 (1000 + j) Rd = mF M (1000 + j) Rd := by
  intro k
  induction k with
  | zero =>
    intro l fu M hl hfu hL
    obtain ⟨fu, rfl⟩ : ∃ z, fu = z + 1 := ⟨fu - 1, by omega⟩
    refine ⟨M, ?_, rfl, rfl, fun _ _ _ => rfl, fun j h1 h2 => by omega, fun _ _ => rfl⟩
    rw [lp_succ, show l = 4 by omega]
    exact hend _ M
  | succ k ih =>
    intro l fu M hl hfu hL
    obtain ⟨fu, rfl⟩ : ∃ z, fu = z + 1 := ⟨fu - 1, by omega⟩
    obtain ⟨M1, f1, f2, f6, f3, f4, f5⟩ := ih (l + 1) fu (uF M (1000 + l) Rd (mF M (1000 + l) Rs)) (by omega) (by omega) hL
    refine ⟨M1, ?_, f2, f6, fun k a h => (f3 k a h).trans (mF_uFne (by omega)), fun j h1 h2 => ?_, fun j h1 => (f5 j (by omega)).trans (mF_uFne (by omega))⟩
    · rw [lp_succ, hstep _ M l (by omega) hL, nI_1]; exact f1
    · by_cases h5 : l + 1 ≤ j
      · exact (f4 j h5 h2).trans (mF_uFne (by omega))
      · rw [show j = l by omega, f5 l (by omega), mF_uFeq]
/-- save and restore of the reference: a row, then the rates -/
def SR (Sd Ss Rd Rs : Nat) (M M1 : Mem) : Prop := M1.2.2 = M.2.2 ∧ (∀ k a, a ≠ Sd → mI M1 k a = mI M k a) ∧ (∀ j, j < 6889 → mI M1 (1000 + j) Sd = mI M (1000 + j) Ss) ∧ (∀ k a, a ≠ Rd → mF M1 k a = mF M k a) ∧ ∀ j, j < 4 → mF M1 (1000 + j) Rd = mF M (1000 + j) Rs
theorem save_r {M : Mem} (hL : Lay M) : ∃ M1, m_X11_save M (some 2179) = pZ M1 11 4 (some 2179) 1 (fun (M5 : Mem) => dP M5 11 0 (some 2179) (fun (q6 : Option Nat) => aI M5 100 q6 0 (fun (x7 : Int32) => rt x7 M5))) ∧ SR 2181 2180 2183 2182 M M1 := by
  have e4 : (4 : Int32) = nI 4 := rfl
  have e9 : (6889 : Int32) = nI 6889 := rfl
  obtain ⟨J, hJ⟩ : ∃ J : Nat → Mem → Option (Int32 × Mem), J = fun fu (M2 : Mem) => lp (b_X11_save_29 (some 2179)) fu (0, M2) := ⟨_, rfl⟩
  obtain ⟨M1, f1, f2, f3, f4, -⟩ := row_loop (Ss := 2180) (Sd := 2181) (by omega) (B := b_X11_save_2 (some 2179) (J FU)) (J := J FU)
    (fun L M => by rw [b_X11_save_2]; exact if_pos (by rw [e9]; exact le_n (by omega) (by omega)))
    (fun L M i hi hL => by
      rw [b_X11_save_2]
      refine (if_neg (fun h9 : (6889 : Int32) ≤ nI i => absurd ((i_le (a := 6889) (by omega) (by omega)).mp h9) (by omega))).trans ?_
      dsimp only
      rw [dP_at (S1 _ hL), dP_at (S1 _ hL)]
      show aI M 100 (mP M 352 2179) (nI i) (fun x => sI M 100 (mP M 353 2179) (nI i) x _) = _
      rw [P_s M hL, show mP M 353 2179 = some 2181 from hL.P (by omega) 353, aI_at (S_s M hL) hi (by omega), sI_at (show mS M 2181 = (100, 6889) from hL.S (by omega)) hi (by omega)])
    6889 0 FU M (by omega) (by show 6889 < 1000000; omega) hL
  have hL1 : Lay M1 := eLay f2 hL
  obtain ⟨M2, g1, g2, g6, g3, g4, -⟩ := rate_loop (Rs := 2182) (Rd := 2183) (by omega) (B := b_X11_save_29 (some 2179)) (J := fun M1 => pZ M1 11 4 (some 2179) 1 (fun (M5 : Mem) => dP M5 11 0 (some 2179) (fun (q6 : Option Nat) => aI M5 100 q6 0 (fun (x7 : Int32) => rt x7 M5))))
    (fun L M => by rw [b_X11_save_29]; exact if_pos (by rw [e4]; exact le_n (by omega) (by omega)))
    (fun L M i hi hL => by
      rw [b_X11_save_29]
      refine (if_neg (fun h9 : (4 : Int32) ≤ nI i => absurd ((i_le (a := 4) (by omega) (by omega)).mp h9) (by omega))).trans ?_
      dsimp only
      rw [dP_at (S1 _ hL), dP_at (S1 _ hL)]
      show aF M 102 (mP M 354 2179) (nI i) (fun x => sF M 102 (mP M 355 2179) (nI i) x _) = _
      rw [show mP M 354 2179 = some 2182 from hL.P (by omega) 354, show mP M 355 2179 = some 2183 from hL.P (by omega) 355, aF_at (show mS M 2182 = (102, 4) from hL.S (by omega)) hi (by omega), sF_at (show mS M 2183 = (102, 4) from hL.S (by omega)) hi (by omega)])
    4 0 FU M1 (by omega) (by show 4 < 1000000; omega) hL1
  have i2 : ∀ k a, mI M2 k a = mI M1 k a := fun k a => by unfold mI; rw [g6]
  refine ⟨M2, ?_, g2.trans (congrArg (fun z => z.2) f2), fun k a h => (i2 k a).trans (f3 k a h), fun j hj => (i2 _ _).trans (f4 j (by omega) hj), fun k a h => (g3 k a h).trans (eF f2 k a), fun j hj => (g4 j (by omega) hj).trans (eF f2 _ _)⟩
  unfold m_X11_save
  rw [jn_eq]
  have h1 : lp (b_X11_save_2 (some 2179) (J FU)) FU (nI 0, M) = pZ M2 11 4 (some 2179) 1 (fun (M5 : Mem) => dP M5 11 0 (some 2179) (fun (q6 : Option Nat) => aI M5 100 q6 0 (fun (x7 : Int32) => rt x7 M5))) := by
    rw [f1, hJ]
    exact g1
  rw [hJ] at h1
  exact h1
theorem restore_r {M : Mem} (hL : Lay M) (h1 : mI M 356 2179 = 1) : ∃ M1, m_X11_restore M (some 2179) = dP M1 11 0 (some 2179) (fun (q6 : Option Nat) => aI M1 100 q6 0 (fun (x7 : Int32) => rt x7 M1)) ∧ SR 2180 2181 2182 2183 M M1 := by
  have e4 : (4 : Int32) = nI 4 := rfl
  have e9 : (6889 : Int32) = nI 6889 := rfl
  obtain ⟨J, hJ⟩ : ∃ J : Nat → Mem → Option (Int32 × Mem), J = fun fu (M2 : Mem) => lp (b_X11_restore_38 (some 2179)) fu (0, M2) := ⟨_, rfl⟩
  obtain ⟨M1, f1, f2, f3, f4, -⟩ := row_loop (Ss := 2181) (Sd := 2180) (by omega) (B := b_X11_restore_11 (some 2179) (J FU)) (J := J FU)
    (fun L M => by rw [b_X11_restore_11]; exact if_pos (by rw [e9]; exact le_n (by omega) (by omega)))
    (fun L M i hi hL => by
      rw [b_X11_restore_11]
      refine (if_neg (fun h9 : (6889 : Int32) ≤ nI i => absurd ((i_le (a := 6889) (by omega) (by omega)).mp h9) (by omega))).trans ?_
      dsimp only
      rw [dP_at (S1 _ hL), dP_at (S1 _ hL)]
      show aI M 100 (mP M 353 2179) (nI i) (fun x => sI M 100 (mP M 352 2179) (nI i) x _) = _
      rw [P_s M hL, show mP M 353 2179 = some 2181 from hL.P (by omega) 353, aI_at (show mS M 2181 = (100, 6889) from hL.S (by omega)) hi (by omega), sI_at (S_s M hL) hi (by omega)])
    6889 0 FU M (by omega) (by show 6889 < 1000000; omega) hL
  have hL1 : Lay M1 := eLay f2 hL
  obtain ⟨M2, g1, g2, g6, g3, g4, -⟩ := rate_loop (Rs := 2183) (Rd := 2182) (by omega) (B := b_X11_restore_38 (some 2179)) (J := fun M1 => dP M1 11 0 (some 2179) (fun (q6 : Option Nat) => aI M1 100 q6 0 (fun (x7 : Int32) => rt x7 M1)))
    (fun L M => by rw [b_X11_restore_38]; exact if_pos (by rw [e4]; exact le_n (by omega) (by omega)))
    (fun L M i hi hL => by
      rw [b_X11_restore_38]
      refine (if_neg (fun h9 : (4 : Int32) ≤ nI i => absurd ((i_le (a := 4) (by omega) (by omega)).mp h9) (by omega))).trans ?_
      dsimp only
      rw [dP_at (S1 _ hL), dP_at (S1 _ hL)]
      show aF M 102 (mP M 355 2179) (nI i) (fun x => sF M 102 (mP M 354 2179) (nI i) x _) = _
      rw [show mP M 354 2179 = some 2182 from hL.P (by omega) 354, show mP M 355 2179 = some 2183 from hL.P (by omega) 355, aF_at (show mS M 2183 = (102, 4) from hL.S (by omega)) hi (by omega), sF_at (show mS M 2182 = (102, 4) from hL.S (by omega)) hi (by omega)])
    4 0 FU M1 (by omega) (by show 4 < 1000000; omega) hL1
  have i2 : ∀ k a, mI M2 k a = mI M1 k a := fun k a => by unfold mI; rw [g6]
  refine ⟨M2, ?_, g2.trans (congrArg (fun z => z.2) f2), fun k a h => (i2 k a).trans (f3 k a h), fun j hj => (i2 _ _).trans (f4 j (by omega) hj), fun k a h => (g3 k a h).trans (eF f2 k a), fun j hj => (g4 j (by omega) hj).trans (eF f2 _ _)⟩
  unfold m_X11_restore
  rw [dI_at (S1 _ hL)]
  show (if mI M 356 2179 ≠ 0 then _ else _) = _
  rw [h1, if_pos (by decide), jn_eq]
  have h1 : lp (b_X11_restore_11 (some 2179) (J FU)) FU (nI 0, M) = dP M2 11 0 (some 2179) (fun (q6 : Option Nat) => aI M2 100 q6 0 (fun (x7 : Int32) => rt x7 M2)) := by
    rw [f1, hJ]
    exact g1
  rw [hJ] at h1
  exact h1
theorem tick01 {cnt n vc m q S : Nat} {M : Mem} (h : ITk cnt n vc m M q S) {t : Nat} (ht : t < n) : (mI M 263 (pk q + (58 + 2 * t)) = 0 ∨ mI M 263 (pk q + (58 + 2 * t)) = 1) ∧ (mI M 264 (pk q + (58 + 2 * t)) = 0 ∨ mI M 264 (pk q + (58 + 2 * t)) = 1) := by
  obtain ⟨pl, en, lv, pd, gv, go, lo, la, g, ⟨a1, a2, a3, a4, a5, a6, a7, a8⟩, -⟩ := h.2.2.2 t ht
  have a6' : mI M 263 (pk q + (58 + 2 * t)) = nI go := a6
  have a7' : mI M 264 (pk q + (58 + 2 * t)) = nI lo := a7
  rw [a6', a7']
  refine ⟨?_, ?_⟩
  · rcases (show go = 0 ∨ go = 1 by have := g.2.2.2.2.2.1; omega) with rfl | rfl
    · exact Or.inl rfl
    · exact Or.inr rfl
  · rcases (show lo = 0 ∨ lo = 1 by have := g.2.2.2.2.2.2.1; omega) with rfl | rfl
    · exact Or.inl rfl
    · exact Or.inr rfl
theorem FU_1000 : 1000 < FU := Nat.lt_of_lt_of_le (show 1000 < 1000000 by omega) (Nat.le_refl _)
theorem save_op {cnt n vc m : Nat} {M : Mem} (h : Inv cnt n vc m M) (hc : cnt < 512) : Op cnt M (fun M => m_X10_save M (some 0)) (fun M => m_X11_save M (some 2179)) := by
  have hL := h.1
  have hP := h.2.2.2.1
  have hn := h.n512
  obtain ⟨-, -, ⟨n1, n2⟩, -, h6, h7, h8, h9⟩ := id h
  obtain ⟨M1, a1, a2⟩ := parkcopy (d := 1) (s := 0) (by omega) (by omega) (by omega) hL (n := n) (by omega) hP.2.2.2.2.1.2.1 (fun t ht => tick01 hP.2.2.2.2.1 ht) FU FU_1000
  have hL1 := a2.Lay hL
  have hp1 : pk 1 = 1083 := rfl
  have hp0 : pk 0 = 1 := rfl
  obtain ⟨M2, hM2⟩ : ∃ M2, M2 = uI M1 322 0 1 := ⟨_, rfl⟩
  have hL2 : Lay M2 := by rw [hM2]; exact hL1
  have hz : mS M 0 = (10, 0) := hL.S (by omega)
  have i2 : ∀ k a, ¬ (1083 ≤ a ∧ a < 2165 ∧ k ≠ 0) → ¬ (a = 0 ∧ k = 322) → mI M2 k a = mI M k a := fun k a h8 h9 => by rw [hM2, mI_ne (by omega)]; exact a2.2.1 k a (by omega)
  have f2 : ∀ k a, ¬ (1083 ≤ a ∧ a < 2165) → mF M2 k a = mF M k a := fun k a h8 => by rw [hM2, mF_uI]; exact a2.2.2.1 k a (by omega)
  obtain ⟨m1, m2, m3⟩ := hP.imi
  have hA : m_X10_save M (some 0) = some (nI m, M2) := by
    unfold m_X10_save
    rw [dP_at (by rw [hz])]
    show dP M 10 0 (some 0) (fun q2 => rc M 1 (mP M 321 0) _) = _
    rw [dPark hL, show mP M 321 0 = some (pk 1) from hL.P (by omega) 321, rc_at (by rw [S_park hL (by omega)]), cpJ_eq, a1, cl_some, pZ_at (by rw [show mS M1 0 = (10, 0) from hL1.S (by omega)]) (Or.inr rfl)]
    show dP (uI M1 322 0 1) 10 0 (some 0) (fun q5 => dI (uI M1 322 0 1) 1 7 q5 (fun x6 => rt x6 (uI M1 322 0 1))) = _
    rw [← hM2, dPark hL2, dI_at (by rw [S_park hL2 (by omega)])]
    show some (mI M2 39 (pk 0), M2) = _
    rw [i2 _ _ (by omega) (by omega), m2]
  obtain ⟨M3, b1, b2⟩ := save_r hL2
  have hL3 : Lay M3 := layT b2.1 hL2
  obtain ⟨X, hX⟩ : ∃ X, X = uI M3 356 2179 1 := ⟨_, rfl⟩
  have hLX : Lay X := by rw [hX]; exact hL3
  have i3 : ∀ k a, a ≠ 2181 → ¬ (a = 2179 ∧ k = 356) → mI X k a = mI M2 k a := fun k a h8 h9 => by rw [hX, mI_ne (by omega)]; exact b2.2.1 k a h8
  have f3 : ∀ k a, a ≠ 2183 → mF X k a = mF M2 k a := fun k a h8 => by rw [hX, mF_uI]; exact b2.2.2.2.1 k a h8
  have iX : ∀ k a, ¬ (1083 ≤ a ∧ a < 2165 ∧ k ≠ 0) → ¬ (a = 0 ∧ k = 322) → a ≠ 2181 → ¬ (a = 2179 ∧ k = 356) → mI X k a = mI M k a := fun k a h6 h7 h8 h9 => (i3 k a h8 h9).trans (i2 k a h6 h7)
  have fX : ∀ k a, ¬ (1083 ≤ a ∧ a < 2165) → a ≠ 2183 → mF X k a = mF M k a := fun k a h7 h8 => (f3 k a h8).trans (f2 k a h7)
  have hB : m_X11_save M2 (some 2179) = some (nI m, X) := by
    rw [b1, pZ_at (S1 _ hL3) (Or.inr rfl)]
    show dP (uI M3 356 2179 1) 11 0 (some 2179) (fun q6 => aI (uI M3 356 2179 1) 100 q6 0 (fun x7 => rt x7 (uI M3 356 2179 1))) = _
    rw [← hX, dS hLX]
    show aI X 100 (some 2180) (nI 0) _ = _
    rw [s_at hLX (by omega)]
    show some (mI X 1000 2180, X) = _
    rw [iX _ _ (by omega) (by omega) (by omega) (by omega), m3]
  have e3 : X.2.2 = M.2.2 := by
    rw [hX]; show M3.2.2 = _
    rw [b2.1, hM2]; exact a2.1
  have eS : ∀ a, mS X a = mS M a := fun a => by unfold mS; rw [e3]
  have eP : ∀ k a, mP X k a = mP M k a := fun k a => by unfold mP; rw [e3]
  have eN : mN X = mN M := by unfold mN; rw [e3]
  have eL : mL X = mL M := by unfold mL; rw [e3]
  have hPX : Pk (cnt + 1) n vc m X 0 2180 2182 := hP.of (by omega) (by omega) (fun a _ _ => eS a) (fun k a _ _ => eP k a) (fun k a g1 g2 => iX k a (by omega) (by omega) (by omega) (by omega)) (fun k a g1 g2 => fX k a (by omega) (by omega)) (fun k => iX _ _ (by omega) (by omega) (by omega) (by omega)) (fun k => fX _ _ (by omega) (by omega))
  refine ⟨nI m, M2, X, hA, S1 _ hL2, hB, n, vc, m, hLX, by omega, by rw [eN, eL]; omega, hPX, Or.inr ⟨?_, ?_, n, vc, m, ?_⟩, ?_, ?_, ?_⟩
  · rw [i3 _ _ (by omega) (by omega), hM2, mI_eq]
  · rw [hX, mI_eq]
  · refine Pk.copy (s := 0) (Ss := 2180) (Rs := 2182) (M := M) (hP.of (by omega) (by omega) (fun _ _ _ => rfl) (fun _ _ _ _ => rfl) (fun _ _ _ _ => rfl) (fun _ _ _ _ => rfl) (fun _ => rfl) (fun _ => rfl)) (by omega) (by omega) hLX (fun k o ho hd => ?_) (fun o o1 o2 => ?_) (fun i hi b hb => ?_) (fun k hk => ?_) (fun k hk => ?_)
    · rw [i3 _ _ (by omega) (by omega), hM2, mI_ne (by omega)]
      exact a2.2.2.2.2.2.1 k o ho hd
    · rw [f3 _ _ (by omega), hM2, mF_uI]
      exact a2.2.2.2.2.2.2 o (by omega) ⟨o1, o2⟩
    · have hA9 : aPl (pk 1) i = 1083 + (6 + 8 * i) := rfl
      exact (iX 0 _ (by omega) (by omega) (by omega) (by omega)).trans (h9.2 i hi b hb)
    · rw [hX, mI_ne (by omega), b2.2.2.1 k hk]
      exact i2 _ _ (by omega) (by omega)
    · rw [hX, mF_uI, b2.2.2.2.2 k hk]
      exact f2 _ _ (by omega)
  · obtain ⟨L, t1, t2, t3, t4⟩ := h7
    refine ⟨L, t1, (iX _ _ (by omega) (by omega) (by omega) (by omega)).trans t2, (iX _ _ (by omega) (by omega) (by omega) (by omega)).trans t3, fun j hj => ?_⟩
    obtain ⟨c, c1, c2, c3⟩ := t4 j hj
    exact ⟨c, c1, (iX _ _ (by omega) (by omega) (by omega) (by omega)).trans c2, (iX _ _ (by omega) (by omega) (by omega) (by omega)).trans c3⟩
  · obtain ⟨z, t1, t2, t3, t4⟩ := h8
    refine ⟨z, t1, (iX _ _ (by omega) (by omega) (by omega) (by omega)).trans t2, (iX _ _ (by omega) (by omega) (by omega) (by omega)).trans t3, fun h3 j hj => ?_⟩
    obtain ⟨c1, c2⟩ := t4 h3 j hj
    exact ⟨((iX _ _ (by omega) (by omega) (by omega) (by omega)).trans c1).trans (iX _ _ (by omega) (by omega) (by omega) (by omega)).symm, ((iX _ _ (by omega) (by omega) (by omega) (by omega)).trans c2).trans (iX _ _ (by omega) (by omega) (by omega) (by omega)).symm⟩
  · exact ⟨fun b hb => (iX _ _ (by omega) (by omega) (by omega) (by omega)).trans (h9.1 b hb), fun i hi b hb => (iX 0 _ (by omega) (by unfold aPl pk; omega) (by unfold aPl pk; omega) (by unfold aPl pk; omega)).trans (h9.2 i hi b hb)⟩
theorem restore_op {cnt n vc m : Nat} {M : Mem} (h : Inv cnt n vc m M) (hc : cnt < 512) : Op cnt M (fun M => m_X10_restore M (some 0)) (fun M => m_X11_restore M (some 2179)) := by
  have hL := h.1
  have hP := h.2.2.2.1
  have hz : mS M 0 = (10, 0) := hL.S (by omega)
  have hp1 : pk 1 = 1083 := rfl
  have hp0 : pk 0 = 1 := rfl
  obtain ⟨-, -, ⟨n1, n2⟩, -, h6, h7, h8, h9⟩ := id h
  rcases h6 with ⟨e1, e2⟩ | ⟨e1, e2, n', vc', m', hP1⟩
  · refine Op.same (M1 := M) (M2 := M) (r := -1) h hc ?_ (Keep.rfl'.mono (by omega)) ?_ Sc.rfl'
    · show m_X10_restore M _ = _
      unfold m_X10_restore
      rw [dI_at (by rw [hz])]
      show (if mI M 322 0 ≠ 0 then _ else _) = _
      rw [e1, if_neg (by decide)]; rfl
    · show m_X11_restore M _ = _
      unfold m_X11_restore
      rw [dI_at (S1 _ hL)]
      show (if mI M 356 2179 ≠ 0 then _ else _) = _
      rw [e2, if_neg (by decide)]; rfl
  · have hn' := hP1.2.2.2.2.1.1
    have hcn := h.2.1
    obtain ⟨M2, a1, a2⟩ := parkcopy (d := 0) (s := 1) (by omega) (by omega) (by omega) hL (n := n') (by omega) hP1.2.2.2.2.1.2.1 (fun t ht => tick01 hP1.2.2.2.2.1 ht) FU FU_1000
    have hL2 := a2.Lay hL
    have i2 : ∀ k a, ¬ (1 ≤ a ∧ a < 1083 ∧ k ≠ 0) → mI M2 k a = mI M k a := fun k a h8 => a2.2.1 k a (by omega)
    have f2 : ∀ k a, ¬ (1 ≤ a ∧ a < 1083) → mF M2 k a = mF M k a := fun k a h8 => a2.2.2.1 k a (by omega)
    obtain ⟨m1, m2, m3⟩ := hP1.imi
    have c39 : mI M2 39 (pk 0) = nI m' := (a2.2.2.2.2.2.1 39 0 (by omega) (Or.inl (by omega))).trans m2
    have hA : m_X10_restore M (some 0) = some (nI m', M2) := by
      unfold m_X10_restore
      rw [dI_at (by rw [hz])]
      show (if mI M 322 0 ≠ 0 then _ else _) = _
      rw [e1, if_pos (by decide), dPark hL, dP_at (by rw [hz])]
      show rc M 1 (some (pk 0)) (cl (m_X1_copyFrom M (some (pk 0)) (mP M 321 0)) _) = _
      rw [show mP M 321 0 = some (pk 1) from hL.P (by omega) 321, rc_at (by rw [S_park hL (by omega)]), cpJ_eq, a1, cl_some, dPark hL2, dI_at (by rw [S_park hL2 (by omega)])]
      show some (mI M2 39 (pk 0), M2) = _
      rw [c39]
    obtain ⟨X, b1, b2⟩ := restore_r hL2 ((i2 _ _ (by omega)).trans e2)
    have hLX : Lay X := layT b2.1 hL2
    have i3 : ∀ k a, a ≠ 2180 → mI X k a = mI M2 k a := fun k a h8 => b2.2.1 k a h8
    have f3 : ∀ k a, a ≠ 2182 → mF X k a = mF M2 k a := fun k a h8 => b2.2.2.2.1 k a h8
    have iX : ∀ k a, ¬ (1 ≤ a ∧ a < 1083 ∧ k ≠ 0) → a ≠ 2180 → mI X k a = mI M k a := fun k a h7 h8 => (i3 k a h8).trans (i2 k a h7)
    have fX : ∀ k a, ¬ (1 ≤ a ∧ a < 1083) → a ≠ 2182 → mF X k a = mF M k a := fun k a h7 h8 => (f3 k a h8).trans (f2 k a h7)
    have hB : m_X11_restore M2 (some 2179) = some (nI m', X) := by
      rw [b1, dS hLX]
      show aI X 100 (some 2180) (nI 0) _ = _
      rw [s_at hLX (by omega)]
      show some (mI X (1000 + 0) 2180, X) = _
      rw [b2.2.2.1 0 (by omega), i2 _ _ (by omega)]
      exact congrArg (fun z => some (z, X)) m3
    have e3 : X.2.2 = M.2.2 := b2.1.trans a2.1
    have eS : ∀ a, mS X a = mS M a := fun a => by unfold mS; rw [e3]
    have eP : ∀ k a, mP X k a = mP M k a := fun k a => by unfold mP; rw [e3]
    have eN : mN X = mN M := by unfold mN; rw [e3]
    have eL : mL X = mL M := by unfold mL; rw [e3]
    refine ⟨nI m', M2, X, hA, S1 _ hL2, hB, n', vc', m', h.of0 hc ⟨by rw [eN]; exact Nat.le_refl _, by rw [eN]; omega, by rw [eL]; omega⟩ (fun a _ => ⟨eS a, fun k => eP k a⟩) (fun k a g1 g2 g3 g4 => iX k a (by omega) g3) (fun k a g1 g2 g3 => fX k a (by omega) g3) ?_⟩
    refine Pk.copy (s := 1) (Ss := 2181) (Rs := 2183) (M := M) (hP1.of (by omega) (by omega) (fun _ _ _ => rfl) (fun _ _ _ _ => rfl) (fun _ _ _ _ => rfl) (fun _ _ _ _ => rfl) (fun _ => rfl) (fun _ => rfl)) (by omega) (by omega) hLX (fun k o ho hd => ?_) (fun o o1 o2 => ?_) (fun i hi b hb => ?_) (fun k hk => ?_) (fun k hk => ?_)
    · rw [i3 _ _ (by omega)]
      exact a2.2.2.2.2.2.1 k o ho hd
    · rw [f3 _ _ (by omega)]
      exact a2.2.2.2.2.2.2 o (by omega) ⟨o1, o2⟩
    · have hA9 : aPl (pk 0) i = 1 + (6 + 8 * i) := rfl
      refine (iX 0 _ (by omega) (by omega)).trans ?_
      obtain ⟨π, -, p1, -⟩ := hP.1 i hi
      exact p1.2.2.2.2.2.2.2 b hb
    · rw [b2.2.2.1 k hk]
      exact i2 _ _ (by omega)
    · rw [b2.2.2.2.2 k hk]
      exact f2 _ _ (by omega)
