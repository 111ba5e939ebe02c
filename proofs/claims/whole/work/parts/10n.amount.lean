/-! ===== what is due, both sides ===== -/
def baseS (π : PD) (en at' gv : Nat) (K A : Nat → Nat) : Nat := if en + minS K A gv 0 0 < at' then feeS π (en + minS K A gv 0 0) at' else 0
def amtS (π : PD) (en at' gv : Nat) (K A : Nat → Nat) (l : Nat) : Nat := foldS K A l gv 0 (baseS π en at' gv K A)
def grossS (π : PD) (en at' gv lo : Nat) (K A : Nat → Nat) : Nat := if lo = 0 then amtS π en at' gv K A 4 else max (pLost π) (feeS π en at')
def dueS (π : PD) (en at' gv lo pd : Nat) (K A : Nat → Nat) : Nat := grossS π en at' gv lo K A - pd
theorem baseS_bd {π : PD} (hπ : GP π) (en at' gv : Nat) (K A : Nat → Nat) : baseS π en at' gv K A ≤ 19980000 := by
  unfold baseS; split
  · exact feeS_bd hπ _ _
  · omega
theorem grossS_bd {π : PD} (hπ : GP π) (en at' : Nat) {gv : Nat} (lo : Nat) {K A : Nat → Nat} (hK : GK gv K A) : grossS π en at' gv lo K A ≤ 19980000 := by
  unfold grossS; split
  · exact Nat.le_trans (foldS_bd hK 4 _) (baseS_bd hπ _ _ _ _ _)
  · have h1 := feeS_bd hπ en at'
    have h2 := hπ.2.2.2.1
    omega
section DUE
variable {M : Mem} {t pl en pd gv lo at' : Nat} {Vn K A : Nat → Nat} {π : PD}
theorem sub_c {a b : Nat} (ha : a < 1000000000) (hb : b < 1000000000) : imax 0 (nI a - nI b) = nI (a - b) := by
  have e0 : (0 : Int32) = nI 0 := rfl
  by_cases h : b ≤ a
  · rw [pk_sub h, e0, i_max (by omega) (by omega)]; exact congrArg nI (by omega)
  · have hneg : nI a - nI b < 0 := pk_sneg (by omega) (by omega)
    unfold imax
    rw [if_neg (fun h9 => absurd (Int32.lt_trans h9 hneg) Int32.lt_irrefl), show a - b = 0 by omega]; rfl
theorem short_c (hL : Lay M) (ht : t < 512) (h : CT M t pl en pd gv lo Vn K A) (hK : GK gv K A) (hg : gv ≤ 4) (hpl : pl < 4) (hC : PlC M (aPl (pk 0) pl) π) (hπ : GP π) (hen : en ≤ 99999) (hat : at' ≤ 99999) (hmn : mN M < 899990) :
    ∃ M', m_X1_feeOfShortenedStay M (some (pk 0)) (some (aTi (pk 0) t)) (nI at') = some (nI (baseS π en at' gv K A), M') ∧ Gr 1 M M' := by
  have hS := S_aTi hL (q := 0) (by omega) ht
  have h22 := hL.1
  have hm := minS_bd (K := K) (A := A) gv 0 0 (fun j _ h9 => (hK j (by omega)).2.1)
  unfold m_X1_feeOfShortenedStay
  rw [dI_at (by rw [hS])]
  show ∃ M', rc M 1 (some (pk 0)) (cl (m_X1_planAt M (some (pk 0)) (mI M 258 (aTi (pk 0) t))) _) = _ ∧ _
  rw [h.1.1, rc_at (by rw [S_park hL (by omega)]), planAt_y hL hpl, cl_some, dI_at (by rw [hS])]
  show ∃ M', rc M 1 (some (pk 0)) _ = _ ∧ _
  rw [rc_at (by rw [S_park hL (by omega)])]
  have e : m_X1_minutesGiven M (some (pk 0)) (some (aTi (pk 0) t)) = some (nI (minS K A gv 0 0), M) := minutes_c hL ht h hK hg gv 0 0 FU (by omega) (by show gv < 1000000; omega)
  rw [e, cl_some, if_neg (by simp)]
  show ∃ M', (if mI M 259 (aTi (pk 0) t) + nI (minS K A gv 0 0) < nI at' then rc M 5 _ (cl (m_X5_feeOfStay M _ (mI M 259 (aTi (pk 0) t) + nI (minS K A gv 0 0)) (nI at')) _) else _) = _ ∧ _
  rw [h.1.2.1, nI_add]
  unfold baseS
  by_cases hc : en + minS K A gv 0 0 < at'
  · rw [if_pos ((i_lt (by omega) (by omega)).mpr hc), if_pos hc, rc_at (by rw [S_aPl hL (by omega) hpl])]
    obtain ⟨M1, e1, g1⟩ := feeOfStay_c (fr := en + minS K A gv 0 0) (to := at') hC hπ (by unfold aPl pk; omega) (by omega) (by omega) (by omega)
    rw [e1]
    exact ⟨M1, rfl, g1⟩
  · rw [if_neg (fun h9 => hc ((i_lt (by omega) (by omega)).mp h9)), if_neg hc]
    exact ⟨M, rfl, Gr.rfl'.mono (by omega)⟩
theorem Gr.low {d : Nat} {M M1 : Mem} (h : Gr d M M1) (hL : Lay M) : ∀ k a, a < 2188 → mI M1 k a = mI M k a := fun k a ha => (h.2.2.2 a (by have := hL.1; omega)).2.1 k
theorem Gr.Lay {d : Nat} {M M1 : Mem} (h : Gr d M M1) (hL : Lay M) : Lay M1 := (Keep.gr hL h).Lay hL
theorem after_c (hL : Lay M) (ht : t < 512) (h : CT M t pl en pd gv lo Vn K A) (hK : GK gv K A) (hg : gv ≤ 4) (hpl : pl < 4) (hC : PlC M (aPl (pk 0) pl) π) (hπ : GP π) (hen : en ≤ 99999) (hat : at' ≤ 99999) (hmn : mN M < 899990) {p3 : Nat} (hp : p3 ≤ 10) :
    ∃ M', m_X1_amountAfter M (some (pk 0)) (some (aTi (pk 0) t)) (nI at') (nI p3) = some (nI (amtS π en at' gv K A p3), M') ∧ Gr 1 M M' := by
  unfold m_X1_amountAfter jn
  obtain ⟨M1, e1, g1⟩ := short_c hL ht h hK hg hpl hC hπ hen hat hmn
  rw [rc_at (by rw [S_park hL (by omega)]), e1, cl_some]
  refine ⟨M1, ?_, g1⟩
  have := foldC (g1.Lay hL) ht (h.of ht (fun k a ha => g1.low hL k a (by omega))) hK hg hp (fun (x4 : Int32) (M5 : Mem) => rt x4 M5) gv 0 0 (baseS π en at' gv K A) FU (by omega) (by show gv < 1000000; omega) (by omega) (baseS_bd hπ _ _ _ _ _)
  exact this
theorem due_c (hL : Lay M) (ht : t < 512) (h : CT M t pl en pd gv lo Vn K A) (hK : GK gv K A) (hg : gv ≤ 4) (hpl : pl < 4) (hC : PlC M (aPl (pk 0) pl) π) (hπ : GP π) (hen : en ≤ at') (hat : at' ≤ 99999) (hmn : mN M < 899990) (hpd : pd ≤ 19980000) (hlo : lo ≤ 1) :
    ∃ M', m_X1_dueAmount M (some (pk 0)) (some (aTi (pk 0) t)) (nI at') = some (nI (dueS π en at' gv lo pd K A), M') ∧ Gr 1 M M' := by
  have hS := S_aTi hL (q := 0) (by omega) ht
  have h22 := hL.1
  have hgb := grossS_bd hπ en at' lo hK
  unfold m_X1_dueAmount jn
  rw [dI_at (by rw [hS])]
  show ∃ M', (if mI M 264 (aTi (pk 0) t) = 0 then _ else _) = _ ∧ _
  rw [h.1.2.2.2.2]
  by_cases hl : lo = 0
  · obtain ⟨M1, e1, g1⟩ := after_c (p3 := 4) hL ht h hK hg hpl hC hπ (show en ≤ 99999 by omega) hat hmn (by omega)
    have e1' : m_X1_amountAfter M (some (pk 0)) (some (aTi (pk 0) t)) (nI at') 4 = _ := e1
    have e0 : grossS π en at' gv lo K A = amtS π en at' gv K A 4 := by unfold grossS; rw [if_pos hl]
    have h1 := h.of ht (fun k a ha => g1.low hL k a (by omega))
    rw [if_pos (show nI lo = 0 by rw [hl]; rfl), rc_at (by rw [S_park hL (by omega)]), e1', cl_some]
    refine ⟨M1, ?_, g1⟩
    dsimp only
    rw [dI_at (by rw [S_aTi (g1.Lay hL) (by omega) ht])]
    show rt (imax 0 (nI _ - mI M1 261 (aTi (pk 0) t))) M1 = _
    unfold dueS
    rw [h1.1.2.2.1, e0, sub_c (by omega) (by omega)]; rfl
  · have e0 : grossS π en at' gv lo K A = max (pLost π) (feeS π en at') := by unfold grossS; rw [if_neg hl]
    have hfb := feeS_bd hπ en at'
    have hlb := hπ.2.2.2.1
    have hl1 : ¬ nI lo = 0 := fun h9 => hl ((i_eq (b := 0) (by omega) (by omega)).mp h9)
    obtain ⟨M1, e1, g1⟩ := feeOfStay_c (fr := en) (to := at') hC hπ (by unfold aPl pk; omega) (by omega) hen (by omega)
    have h1 := h.of ht (fun k a ha => g1.low hL k a (by omega))
    rw [if_neg hl1, rc_at (by rw [S_park hL (by omega)])]
    refine ⟨M1, ?_, g1⟩
    unfold m_X1_amountOfLost
    rw [dI_at (by rw [hS])]
    show cl (rc M 1 (some (pk 0)) (cl (m_X1_planAt M (some (pk 0)) (mI M 258 (aTi (pk 0) t))) _)) _ = _
    rw [h.1.1, rc_at (by rw [S_park hL (by omega)]), planAt_y hL hpl, cl_some, if_pos (by simp), dI_at (by rw [hC.1.1]), dI_at (by rw [hS])]
    show cl (rc M 5 _ (cl (m_X5_feeOfStay M _ (mI M 259 (aTi (pk 0) t)) _) (fun x7 M6 => rt (imax (mI M 165 (aPl (pk 0) pl)) x7) M6))) _ = _
    rw [h.1.2.1, hC.2.2.2.2.1, rc_at (by rw [S_aPl hL (by omega) hpl]), e1, cl_some, i_max (by omega) (by omega), cl_rt]
    dsimp only
    rw [dI_at (by rw [S_aTi (g1.Lay hL) (by omega) ht])]
    show rt (imax 0 (nI _ - mI M1 261 (aTi (pk 0) t))) M1 = _
    unfold dueS
    rw [h1.1.2.2.1, e0, sub_c (by omega) (by omega)]; rfl
/-! the reference -/
theorem base_r (hL : Lay M) (ht : t < 512) (h : RT M t pl en pd gv lo Vn K A) (hK : GK gv K A) (hg : gv ≤ 4) (hpl : pl < 4) (hR : PlR M 2180 (10 + 23 * pl) π) (hπ : GP π) (hen : en ≤ 99999) (hat : at' ≤ 99999) :
    ∃ M', m_X11_base M (some 2179) (nI t) (nI at') = some (nI (baseS π en at' gv K A), M') ∧ Sc M M' := by
  have hm := minS_bd (K := K) (A := A) gv 0 0 (fun j _ h9 => (hK j (by omega)).2.1)
  unfold m_X11_base jn
  have hloop := minutes_r hL ht h hK hg (fun (x4 : Int32) (M5 : Mem) => (if nI at' ≤ x4 then rt 0 M5 else rc M5 11 (some 2179) (cl (m_X11_item M5 (some 2179) (nI t) 0) (fun (x7 : Int32) (M6 : Mem) => rc M6 11 (some 2179) (cl (m_X11_feeOf M6 (some 2179) x7 x4 (nI at')) (fun (x9 : Int32) (M8 : Mem) => rt x9 M8)))))) en gv 0 0 FU (by omega) (by show gv < 1000000; omega)
  dsimp only
  have hloop' : lp (b_X11_base_10 (some 2179) (nI t) (fun (x4 : Int32) (M5 : Mem) => (if nI at' ≤ x4 then rt 0 M5 else rc M5 11 (some 2179) (cl (m_X11_item M5 (some 2179) (nI t) 0) (fun (x7 : Int32) (M6 : Mem) => rc M6 11 (some 2179) (cl (m_X11_feeOf M6 (some 2179) x7 x4 (nI at')) (fun (x9 : Int32) (M8 : Mem) => rt x9 M8))))))) FU (nI en, 0, M) = _ := hloop
  rw [rc_at (S1 _ hL), show m_X11_item M (some 2179) (nI t) 1 = _ from item_r hL ht (j := 1) (by omega), cl_some, h.1.2.1, hloop']
  unfold baseS
  by_cases hc : en + minS K A gv 0 0 < at'
  · rw [if_neg (fun h9 => absurd ((i_le (by omega) (by omega)).mp h9) (by omega)), if_pos hc, rc_at (S1 _ hL), show m_X11_item M (some 2179) (nI t) 0 = _ from item_r hL ht (j := 0) (by omega), cl_some]
    show ∃ M', rc M 11 (some 2179) (cl (m_X11_feeOf M (some 2179) (mI M (1000 + (169 + 12 * t)) 2180) _ _) _) = _ ∧ _
    rw [h.1.1, rc_at (S1 _ hL)]
    obtain ⟨M1, e1, g1⟩ := feeOf_r (fr := en + minS K A gv 0 0) (to := at') hL hpl hR hπ (by omega) (by omega)
    rw [e1]
    exact ⟨M1, rfl, g1⟩
  · rw [if_pos (le_n (by omega) (by omega)), if_neg hc]
    exact ⟨M, rfl, Sc.rfl'⟩
theorem Sc.RT {M M1 : Mem} (hs : Sc M M1) (h : RT M t pl en pd gv lo Vn K A) : RT M1 t pl en pd gv lo Vn K A := h.of (fun k => hs.R k (by omega))
theorem vouchered_r (hL : Lay M) (ht : t < 512) (h : RT M t pl en pd gv lo Vn K A) (hK : GK gv K A) (hg : gv ≤ 4) (hpl : pl < 4) (hR : PlR M 2180 (10 + 23 * pl) π) (hπ : GP π) (hen : en ≤ 99999) (hat : at' ≤ 99999) {p3 : Nat} (hp : p3 ≤ 10) :
    ∃ M', m_X11_vouchered M (some 2179) (nI t) (nI at') (nI p3) = some (nI (amtS π en at' gv K A p3), M') ∧ Sc M M' := by
  unfold m_X11_vouchered jn
  obtain ⟨M1, e1, g1⟩ := base_r hL ht h hK hg hpl hR hπ hen hat
  rw [rc_at (S1 _ hL), e1, cl_some]
  refine ⟨M1, ?_, g1⟩
  exact foldR (g1.Lay hL) ht (g1.RT h) hK hg (fun (x4 : Int32) (M5 : Mem) => rt x4 M5) gv 0 p3 (baseS π en at' gv K A) FU (by omega) (by show gv < 1000000; omega) hp (baseS_bd hπ _ _ _ _ _)
theorem due_r (hL : Lay M) (ht : t < 512) (h : RT M t pl en pd gv lo Vn K A) (hK : GK gv K A) (hg : gv ≤ 4) (hpl : pl < 4) (hR : PlR M 2180 (10 + 23 * pl) π) (hπ : GP π) (hen : en ≤ at') (hat : at' ≤ 99999) (hpd : pd ≤ 19980000) (hlo : lo ≤ 1) :
    ∃ M', m_X11_dueAt M (some 2179) (nI t) (nI at') = some (nI (dueS π en at' gv lo pd K A), M') ∧ Sc M M' := by
  have hgb := grossS_bd hπ en at' lo hK
  have tail : ∀ (M1 : Mem), Sc M M1 → rc M1 11 (some 2179) (cl (m_X11_item M1 (some 2179) (nI t) 3) (fun (x7 : Int32) (M6 : Mem) => (if nI (grossS π en at' gv lo K A) ≤ x7 then rt 0 M6 else rc M6 11 (some 2179) (cl (m_X11_item M6 (some 2179) (nI t) 3) (fun (x9 : Int32) (M8 : Mem) => rt ((nI (grossS π en at' gv lo K A) - x9)) M8))))) = some (nI (dueS π en at' gv lo pd K A), M1) := by
    intro M1 g1
    have hL1 := g1.Lay hL
    have h1 := g1.RT h
    rw [rc_at (S1 _ hL1), show m_X11_item M1 (some 2179) (nI t) 3 = _ from item_r hL1 ht (j := 3) (by omega), cl_some, h1.1.2.2.1]
    unfold dueS
    by_cases hx : grossS π en at' gv lo K A ≤ pd
    · rw [if_pos (le_n (by omega) hx), show grossS π en at' gv lo K A - pd = 0 by omega]; rfl
    · rw [if_neg (fun h9 => hx ((i_le (by omega) (by omega)).mp h9)), rc_at (S1 _ hL1), show m_X11_item M1 (some 2179) (nI t) 3 = _ from item_r hL1 ht (j := 3) (by omega), cl_some, h1.1.2.2.1, pk_sub (by omega)]; rfl
  unfold m_X11_dueAt jn
  dsimp only
  rw [rc_at (S1 _ hL), show m_X11_item M (some 2179) (nI t) 6 = _ from item_r hL ht (j := 6) (by omega), cl_some, h.1.2.2.2.2]
  by_cases hl : lo = 0
  · have e0 : grossS π en at' gv lo K A = amtS π en at' gv K A 5 := by
      unfold grossS amtS; rw [if_pos hl]; exact foldS_big gv 4 5 0 _ hg (by omega)
    obtain ⟨M1, e1, g1⟩ := vouchered_r (p3 := 5) hL ht h hK hg hpl hR hπ (show en ≤ 99999 by omega) hat (by omega)
    have e1' : m_X11_vouchered M (some 2179) (nI t) (nI at') 5 = _ := e1
    rw [if_pos (show nI lo ≠ 1 by rw [hl]; decide), rc_at (S1 _ hL), e1', cl_some, ← e0]
    exact ⟨M1, tail M1 g1, g1⟩
  · have e0 : grossS π en at' gv lo K A = max (pLost π) (feeS π en at') := by unfold grossS; rw [if_neg hl]
    have hfb := feeS_bd hπ en at'
    have hlb := hπ.2.2.2.1
    have hl1 : nI lo = 1 := by rw [show lo = 1 by omega]; rfl
    obtain ⟨M1, e1, g1⟩ := feeOf_r (fr := en) (to := at') hL hpl hR hπ hen (by omega)
    have hL1 := g1.Lay hL
    have h1 := g1.RT h
    have hR1 : PlR M1 2180 (10 + 23 * pl) π := hR.of (fun k => g1.R k (by omega))
    have eit : m_X11_item M1 (some 2179) (nI t) 0 = some (nI pl, M1) := by rw [show m_X11_item M1 (some 2179) (nI t) 0 = _ from item_r hL1 ht (j := 0) (by omega)]; exact congrArg (fun z => some (z, M1)) h1.1.1
    have eit0 : m_X11_item M (some 2179) (nI t) 0 = some (nI pl, M) := by rw [show m_X11_item M (some 2179) (nI t) 0 = _ from item_r hL ht (j := 0) (by omega)]; exact congrArg (fun z => some (z, M)) h.1.1
    have e3 : m_X11_of M1 (some 2179) (nI pl) 3 = some (nI (pLost π), M1) := by rw [show m_X11_of M1 (some 2179) (nI pl) 3 = _ from of_r hL1 hpl (w := 3) (by omega)]; exact congrArg (fun z => some (z, M1)) hR1.2.2.2.1
    have elf : m_X11_lostFee M (some 2179) (nI t) (nI at') = some (nI (grossS π en at' gv lo K A), M1) := by
      unfold m_X11_lostFee
      rw [rc_at (S1 _ hL), eit0, cl_some, rc_at (S1 _ hL), show m_X11_item M (some 2179) (nI t) 1 = _ from item_r hL ht (j := 1) (by omega), cl_some, h.1.2.1, rc_at (S1 _ hL), e1, cl_some, rc_at (S1 _ hL1), eit, cl_some, rc_at (S1 _ hL1), e3, cl_some, e0]
      by_cases hx : feeS π en at' ≤ pLost π
      · rw [if_pos (le_n (by omega) hx), rc_at (S1 _ hL1), eit, cl_some, rc_at (S1 _ hL1), e3, cl_some]
        exact congrArg (fun z => some (nI z, M1)) (by omega)
      · rw [if_neg (fun h9 => hx ((i_le (by omega) (by omega)).mp h9))]
        exact congrArg (fun z => some (nI z, M1)) (by omega)
    rw [if_neg (fun h9 => h9 hl1), rc_at (S1 _ hL), elf, cl_some]
    exact ⟨M1, tail M1 g1, g1⟩
end DUE
