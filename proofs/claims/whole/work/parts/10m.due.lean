/-! ===== what is due: the vouchers of a ticket ===== -/
def redS (k a x : Nat) : Nat := if k = 1 then x - x * a / 100 else if k = 2 then x - a else if k = 3 then min x a else x
def foldS (K A : Nat → Nat) : Nat → Nat → Nat → Nat → Nat
  | _, 0, _, x => x
  | l, k + 1, i, x => if l = 0 then x else foldS K A (l - if K i = 0 then 0 else 1) k (i + 1) (redS (K i) (A i) x)
def minS (K A : Nat → Nat) : Nat → Nat → Nat → Nat
  | 0, _, a => a
  | k + 1, i, a => minS K A k (i + 1) (if K i = 0 then a + A i else a)
def stepsS (K : Nat → Nat) : Nat → Nat → Nat → Nat
  | 0, _, a => a
  | k + 1, i, a => stepsS K k (i + 1) (if K i = 0 then a else a + 1)
def GK (gv : Nat) (K A : Nat → Nat) : Prop := ∀ j, j < gv → K j ≤ 3 ∧ A j ≤ 999 ∧ (K j = 1 → A j ≤ 100)
theorem redS_le {k a x : Nat} (h : k = 1 → a ≤ 100) : redS k a x ≤ x := by
  unfold redS
  split
  · omega
  · split
    · omega
    · split <;> omega
theorem foldS_le {K A : Nat → Nat} : ∀ (k l i x : Nat), foldS K A l k i x ≤ x ∨ ∃ j, i ≤ j ∧ j < i + k ∧ K j = 1 ∧ 100 < A j := by
  intro k
  induction k with
  | zero => intro l i x; exact Or.inl (Nat.le_refl _)
  | succ k ih =>
    intro l i x
    show (if l = 0 then x else foldS K A (l - if K i = 0 then 0 else 1) k (i + 1) (redS (K i) (A i) x)) ≤ x ∨ _
    by_cases hl : l = 0
    · rw [if_pos hl]; exact Or.inl (Nat.le_refl _)
    · rw [if_neg hl]
      by_cases hb : K i = 1 ∧ 100 < A i
      · exact Or.inr ⟨i, Nat.le_refl _, by omega, hb.1, hb.2⟩
      · have h1 := redS_le (k := K i) (a := A i) (x := x) (fun h => by omega)
        rcases ih (l - if K i = 0 then 0 else 1) (i + 1) (redS (K i) (A i) x) with h | ⟨j, a1, a2, a3⟩
        · exact Or.inl (by omega)
        · exact Or.inr ⟨j, by omega, by omega, a3⟩
theorem foldS_bd {gv : Nat} {K A : Nat → Nat} (h : GK gv K A) (l x : Nat) : foldS K A l gv 0 x ≤ x := by
  rcases foldS_le (K := K) (A := A) gv l 0 x with h1 | ⟨j, a1, a2, a3, a4⟩
  · exact h1
  · have := (h j (by omega)).2.2 a3; omega
theorem foldS_big {K A : Nat → Nat} : ∀ (k l l' i x : Nat), k ≤ l → k ≤ l' → foldS K A l k i x = foldS K A l' k i x := by
  intro k
  induction k with
  | zero => intro l l' i x _ _; rfl
  | succ k ih =>
    intro l l' i x h1 h2
    show (if l = 0 then x else foldS K A (l - if K i = 0 then 0 else 1) k (i + 1) (redS (K i) (A i) x)) = (if l' = 0 then x else foldS K A (l' - if K i = 0 then 0 else 1) k (i + 1) (redS (K i) (A i) x))
    rw [if_neg (show ¬ l = 0 by omega), if_neg (show ¬ l' = 0 by omega)]
    refine ih _ _ _ _ ?_ ?_
    · split <;> omega
    · split <;> omega
theorem minS_bd {K A : Nat → Nat} : ∀ (k i a : Nat), (∀ j, i ≤ j → j < i + k → A j ≤ 999) → minS K A k i a ≤ a + 999 * k := by
  intro k
  induction k with
  | zero => intro i a _; exact Nat.le_refl _
  | succ k ih =>
    intro i a h
    have h1 := h i (by omega) (by omega)
    have h2 := ih (i + 1) (if K i = 0 then a + A i else a) (fun j h8 h9 => h j (by omega) (by omega))
    show minS K A k (i + 1) (if K i = 0 then a + A i else a) ≤ _
    have h3 : (if K i = 0 then a + A i else a) ≤ a + 999 := by split <;> omega
    omega
/-! the class's ticket t, and the reference's -/
def CT (M : Mem) (t pl en pd gv lo : Nat) (Vn K A : Nat → Nat) : Prop := (mI M 258 (aTi (pk 0) t) = nI pl ∧ mI M 259 (aTi (pk 0) t) = nI en ∧ mI M 261 (aTi (pk 0) t) = nI pd ∧ mI M 257 (aTi (pk 0) t) = nI gv ∧ mI M 264 (aTi (pk 0) t) = nI lo) ∧ ∃ vc, vc ≤ 10 ∧ mI M 37 (pk 0) = nI vc ∧ ∀ j, j < gv → Vn j < vc ∧ mI M (1000 + j) (aTv (pk 0) t) = nI (Vn j) ∧ mI M 288 (aVo (pk 0) (Vn j)) = nI (K j) ∧ mI M 289 (aVo (pk 0) (Vn j)) = nI (A j)
def RT (M : Mem) (t pl en pd gv lo : Nat) (Vn K A : Nat → Nat) : Prop := (mI M (1000 + (169 + 12 * t)) 2180 = nI pl ∧ mI M (1000 + (169 + 12 * t + 1)) 2180 = nI en ∧ mI M (1000 + (169 + 12 * t + 3)) 2180 = nI pd ∧ mI M (1000 + (169 + 12 * t + 4)) 2180 = nI gv ∧ mI M (1000 + (169 + 12 * t + 6)) 2180 = nI lo) ∧ ∀ j, j < gv → Vn j < 10 ∧ mI M (1000 + (169 + 12 * t + 8 + j)) 2180 = nI (Vn j) ∧ mI M (1000 + (102 + 3 * Vn j)) 2180 = nI (K j) ∧ mI M (1000 + (102 + 3 * Vn j + 1)) 2180 = nI (A j)
theorem CT.of {M M' : Mem} {t pl en pd gv lo : Nat} {Vn K A : Nat → Nat} (h : CT M t pl en pd gv lo Vn K A) (ht : t < 512) (hI : ∀ k a, a < 1083 → mI M' k a = mI M k a) : CT M' t pl en pd gv lo Vn K A := by
  have ea : aTi (pk 0) t < 1083 := by unfold aTi pk; omega
  have eb : aTv (pk 0) t < 1083 := by unfold aTv pk; omega
  obtain ⟨⟨h1, h2, h3, h4, h5⟩, vc, h6, h7, h8⟩ := h
  refine ⟨⟨(hI _ _ ea).trans h1, (hI _ _ ea).trans h2, (hI _ _ ea).trans h3, (hI _ _ ea).trans h4, (hI _ _ ea).trans h5⟩, vc, h6, (hI _ _ (by unfold pk; omega)).trans h7, fun j hj => ?_⟩
  obtain ⟨g1, g2, g3, g4⟩ := h8 j hj
  have ec : aVo (pk 0) (Vn j) < 1083 := by unfold aVo pk; omega
  exact ⟨g1, (hI _ _ eb).trans g2, (hI _ _ ec).trans g3, (hI _ _ ec).trans g4⟩
theorem RT.of {M M' : Mem} {t pl en pd gv lo : Nat} {Vn K A : Nat → Nat} (h : RT M t pl en pd gv lo Vn K A) (hI : ∀ k, mI M' k 2180 = mI M k 2180) : RT M' t pl en pd gv lo Vn K A := by
  obtain ⟨⟨h1, h2, h3, h4, h5⟩, h8⟩ := h
  refine ⟨⟨(hI _).trans h1, (hI _).trans h2, (hI _).trans h3, (hI _).trans h4, (hI _).trans h5⟩, fun j hj => ?_⟩
  obtain ⟨g1, g2, g3, g4⟩ := h8 j hj
  exact ⟨g1, (hI _).trans g2, (hI _).trans g3, (hI _).trans g4⟩
section TICK
variable {M : Mem} {t pl en pd gv lo : Nat} {Vn K A : Nat → Nat}
theorem vnum_c (hL : Lay M) (ht : t < 512) (h : CT M t pl en pd gv lo Vn K A) (hg : gv ≤ 4) {i : Nat} (hi : i < gv) : m_X8_voucherNumber M (some (aTi (pk 0) t)) (nI i) = some (nI (Vn i), M) := by
  unfold m_X8_voucherNumber
  have hw : (0 : Int32) ≤ nI i ∧ nI i ≤ 3 := ⟨le_n (a := 0) (by omega) (by omega), le_n (b := 3) (by omega) (by omega)⟩
  obtain ⟨-, vc, -, -, h8⟩ := h
  rw [within_y hw, cl_some, if_neg (by decide), dP_at (by rw [S_aTi hL (by omega) ht])]
  show aI M 100 (mP M 256 (aTi (pk 0) t)) _ _ = _
  rw [P_aTi hL (by omega) ht, aI_at (S_aTv hL (by omega) ht) (by omega) (by omega), (h8 i hi).2.1]; rfl
theorem vat_c (hL : Lay M) (h : CT M t pl en pd gv lo Vn K A) {i : Nat} (hi : i < gv) : m_X1_voucherAt M (some (pk 0)) (nI (Vn i)) = some (some (aVo (pk 0) (Vn i)), M) := by
  obtain ⟨-, vc, h6, h7, h8⟩ := h
  exact voucherAt_y hL h6 h7 (h8 i hi).1
theorem vS_c (hL : Lay M) (h : CT M t pl en pd gv lo Vn K A) {i : Nat} (hi : i < gv) : mS M (aVo (pk 0) (Vn i)) = (9, 0) := by
  obtain ⟨-, vc, h6, h7, h8⟩ := h
  exact S_aVo hL (by omega) (by have := (h8 i hi).1; omega)
theorem minutes_c (hL : Lay M) (ht : t < 512) (h : CT M t pl en pd gv lo Vn K A) (hK : GK gv K A) (hg : gv ≤ 4) : ∀ (k i a fu : Nat), i + k = gv → k < fu → lp (b_X1_minutesGiven_4 (some (pk 0)) (some (aTi (pk 0) t))) fu (nI a, nI i, M) = some (nI (minS K A k i a), M) := by
  have hS := S_aTi hL (q := 0) (by omega) ht
  intro k
  induction k with
  | zero =>
    intro i a fu hi hfu
    obtain ⟨fu, rfl⟩ : ∃ z, fu = z + 1 := ⟨fu - 1, by omega⟩
    rw [lp_succ, b_X1_minutesGiven_4]
    dsimp only
    rw [dI_at (by rw [hS])]
    show (if mI M 257 (aTi (pk 0) t) ≤ nI i then _ else _) = _
    rw [h.1.2.2.2.1, if_pos (le_n (by omega) (by omega))]; rfl
  | succ k ih =>
    intro i a fu hi hfu
    obtain ⟨fu, rfl⟩ : ∃ z, fu = z + 1 := ⟨fu - 1, by omega⟩
    have hKi := hK i (by omega)
    rw [lp_succ, b_X1_minutesGiven_4]
    dsimp only
    rw [dI_at (by rw [hS])]
    show (if mI M 257 (aTi (pk 0) t) ≤ nI i then _ else _) = _
    rw [h.1.2.2.2.1, if_neg (fun h9 => absurd ((i_le (by omega) (by omega)).mp h9) (by omega)), rc_at (by rw [hS]), vnum_c hL ht h hg (by omega), cl_some, rc_at (by rw [S_park hL (by omega)]), vat_c hL h (by omega), cl_some]
    unfold jn
    dsimp only
    have hSv := vS_c hL h (i := i) (by omega)
    obtain ⟨-, vc, h6, h7, h8⟩ := id h
    obtain ⟨g1, g2, g3, g4⟩ := h8 i (by omega)
    rw [if_neg (by simp), dI_at (by rw [hSv])]
    show (if mI M 288 (aVo (pk 0) (Vn i)) ≠ 0 then _ else _) = _
    show _ = some (nI (minS K A k (i + 1) (if K i = 0 then a + A i else a)), M)
    rw [g3, nI_1]
    by_cases hz : K i = 0
    · rw [hz, if_neg (by decide), if_pos rfl, dI_at (by rw [hSv])]
      show lp _ fu (nI a + mI M 289 (aVo (pk 0) (Vn i)), _, M) = _
      rw [g4, nI_add]
      exact ih (i + 1) _ fu (by omega) (by omega)
    · have hz0 : nI (K i) ≠ 0 := fun h9 => hz ((i_eq (b := 0) (by omega) (by omega)).mp h9)
      rw [if_pos hz0, if_neg hz]
      exact ih (i + 1) _ fu (by omega) (by omega)
theorem item_r (hL : Lay M) {t j : Nat} (ht : t < 512) (hj : j < 12) : m_X11_item M (some 2179) (nI t) (nI j) = some (mI M (1000 + (169 + 12 * t + j)) 2180, M) := by
  unfold m_X11_item
  have e1 : (169 : Int32) = nI 169 := rfl
  have e2 : (12 : Int32) = nI 12 := rfl
  rw [dS hL, e1, e2, pk_mul, nI_add, nI_add, s_at hL (by omega)]; rfl
theorem minutes_r (hL : Lay M) (ht : t < 512) (h : RT M t pl en pd gv lo Vn K A) (hK : GK gv K A) (hg : gv ≤ 4) (J : Int32 → Mem → Option (Int32 × Mem)) (e : Nat) : ∀ (k i a fu : Nat), i + k = gv → k < fu → lp (b_X11_base_10 (some 2179) (nI t) J) fu (nI (e + a), nI i, M) = J (nI (e + minS K A k i a)) M := by
  intro k
  induction k with
  | zero =>
    intro i a fu hi hfu
    obtain ⟨fu, rfl⟩ : ∃ z, fu = z + 1 := ⟨fu - 1, by omega⟩
    rw [lp_succ, b_X11_base_10]
    dsimp only
    rw [rc_at (S1 _ hL), show m_X11_item M (some 2179) (nI t) 4 = _ from item_r hL ht (j := 4) (by omega), cl_some, h.1.2.2.2.1, if_pos (le_n (by omega) (by omega))]; rfl
  | succ k ih =>
    intro i a fu hi hfu
    obtain ⟨fu, rfl⟩ : ∃ z, fu = z + 1 := ⟨fu - 1, by omega⟩
    have hKi := hK i (by omega)
    obtain ⟨g1, g2, g3, g4⟩ := h.2 i (by omega)
    have e8 : (8 : Int32) = nI 8 := rfl
    have e5 : 169 + 12 * t + (8 + i) = 169 + 12 * t + 8 + i := by omega
    rw [lp_succ, b_X11_base_10]
    dsimp only
    rw [rc_at (S1 _ hL), show m_X11_item M (some 2179) (nI t) 4 = _ from item_r hL ht (j := 4) (by omega), cl_some, h.1.2.2.2.1, if_neg (fun h9 => absurd ((i_le (by omega) (by omega)).mp h9) (by omega)), rc_at (S1 _ hL), e8, nI_add, item_r hL ht (by omega), cl_some, e5, g2, rc_at (S1 _ hL), kindOf_r hL g1, cl_some, g3, nI_1]
    unfold jn
    dsimp only
    show _ = J (nI (e + minS K A k (i + 1) (if K i = 0 then a + A i else a))) M
    by_cases hz : K i = 0
    · rw [hz, if_neg (by decide), if_pos rfl, rc_at (S1 _ hL), item_r hL ht (by omega), cl_some, e5, g2, rc_at (S1 _ hL), amountOf_r hL g1, cl_some, g4, nI_add, show e + a + A i = e + (a + A i) by omega]
      exact ih (i + 1) _ fu (by omega) (by omega)
    · have hz0 : nI (K i) ≠ 0 := fun h9 => hz ((i_eq (b := 0) (by omega) (by omega)).mp h9)
      rw [if_pos hz0, if_neg hz, show nI (e + a) + 0 = nI (e + a + 0) from nI_add _ 0]
      exact ih (i + 1) _ fu (by omega) (by omega)
/-! the steps -/
theorem reduce_c {v k a x : Nat} (hS : mS M v = (9, 0)) (h1 : mI M 288 v = nI k) (h2 : mI M 289 v = nI a) (hk : k ≤ 3) (ha : a ≤ 999) (hka : k = 1 → a ≤ 100) (hx : x ≤ 19980000) : m_X9_reduce M (some v) (nI x) = some (nI (redS k a x), M) := by
  unfold m_X9_reduce
  have e100 : (100 : Int32) = nI 100 := rfl
  have e0 : (0 : Int32) = nI 0 := rfl
  rw [dI_at (by rw [hS])]
  show (if mI M 288 v = 1 then _ else _) = _
  rw [h1]
  have e289 : 32 * 9 + 1 = 289 := rfl
  rcases (show k = 0 ∨ k = 1 ∨ k = 2 ∨ k = 3 by omega) with rfl | rfl | rfl | rfl
  · rw [if_neg (by decide), if_neg (by decide), if_neg (by decide)]; rfl
  · have hxa : x * a ≤ 19980000 * 100 := Nat.mul_le_mul hx (hka rfl)
    have hxb : x * a ≤ x * 100 := Nat.mul_le_mul (Nat.le_refl x) (hka rfl)
    show _ = some (nI (x - x * a / 100), M)
    rw [if_pos (by decide), dI_at (by rw [hS]), e289, h2, pk_mul, e100, i_div (by omega) (by omega) (by omega), pk_sub (by omega)]; rfl
  · show _ = some (nI (x - a), M)
    rw [if_neg (by decide), if_pos (by decide), dI_at (by rw [hS]), e289, h2]
    show some (imax 0 (nI x - nI a), M) = _
    by_cases hxa : a ≤ x
    · rw [pk_sub hxa, e0, i_max (by omega) (by omega)]
      exact congrArg (fun z => some (nI z, M)) (by omega)
    · have hneg : nI x - nI a < 0 := pk_sneg (by omega) (by omega)
      have : imax 0 (nI x - nI a) = 0 := by
        unfold imax
        rw [if_neg (fun h9 => absurd (Int32.lt_trans h9 hneg) Int32.lt_irrefl)]
      rw [this, show x - a = 0 by omega]; rfl
  · show _ = some (nI (min x a), M)
    rw [if_neg (by decide), if_neg (by decide), if_pos (by decide), dI_at (by rw [hS]), e289, h2, i_min (by omega) (by omega)]; rfl
theorem lowered_r {k a x : Nat} (hk : k ≤ 3) (ha : a ≤ 999) (hka : k = 1 → a ≤ 100) (hx : x ≤ 19980000) : m_X11_lowered M (nI x) (nI k) (nI a) = some (nI (redS k a x), M) := by
  unfold m_X11_lowered
  have e100 : (100 : Int32) = nI 100 := rfl
  rcases (show k = 0 ∨ k = 1 ∨ k = 2 ∨ k = 3 by omega) with rfl | rfl | rfl | rfl
  · rw [if_neg (by decide), if_neg (by decide), if_neg (by decide)]; rfl
  · have hxa : x * a ≤ 19980000 * 100 := Nat.mul_le_mul hx (hka rfl)
    have hxb : x * a ≤ x * 100 := Nat.mul_le_mul (Nat.le_refl x) (hka rfl)
    show _ = some (nI (x - x * a / 100), M)
    rw [if_pos (by decide), pk_mul, e100, i_div (by omega) (by omega) (by omega), pk_sub (by omega)]; rfl
  · show _ = some (nI (x - a), M)
    rw [if_neg (by decide), if_pos (by decide)]
    by_cases hxa : x ≤ a
    · rw [if_pos (le_n (by omega) hxa), show x - a = 0 by omega]; rfl
    · rw [if_neg (fun h9 => hxa ((i_le (by omega) (by omega)).mp h9)), pk_sub (by omega)]; rfl
  · show _ = some (nI (min x a), M)
    rw [if_neg (by decide), if_neg (by decide), if_pos (by decide)]
    by_cases hxa : a ≤ x
    · rw [if_pos (le_n (by omega) hxa)]; exact congrArg (fun z => some (nI z, M)) (by omega)
    · rw [if_neg (fun h9 => hxa ((i_le (by omega) (by omega)).mp h9))]; exact congrArg (fun z => some (nI z, M)) (by omega)
theorem foldC (hL : Lay M) (ht : t < 512) (h : CT M t pl en pd gv lo Vn K A) (hK : GK gv K A) (hg : gv ≤ 4) {p3 : Nat} (hp : p3 ≤ 10) (J : Int32 → Mem → Option (Int32 × Mem)) : ∀ (k i s x fu : Nat), i + k = gv → k < fu → s ≤ p3 → x ≤ 19980000 → lp (b_X1_amountAfter_14 (some (pk 0)) (some (aTi (pk 0) t)) (nI p3) J) fu (nI x, nI s, nI i, M) = J (nI (foldS K A (p3 - s) k i x)) M := by
  have hS := S_aTi hL (q := 0) (by omega) ht
  intro k
  induction k with
  | zero =>
    intro i s x fu hi hfu hs hx
    obtain ⟨fu, rfl⟩ : ∃ z, fu = z + 1 := ⟨fu - 1, by omega⟩
    rw [lp_succ, b_X1_amountAfter_14]
    dsimp only
    rw [dI_at (by rw [hS])]
    show (if mI M 257 (aTi (pk 0) t) ≤ nI i then _ else _) = _
    rw [h.1.2.2.2.1, if_pos (le_n (by omega) (by omega))]; rfl
  | succ k ih =>
    intro i s x fu hi hfu hs hx
    obtain ⟨fu, rfl⟩ : ∃ z, fu = z + 1 := ⟨fu - 1, by omega⟩
    obtain ⟨k1, k2, k3⟩ := hK i (by omega)
    rw [lp_succ, b_X1_amountAfter_14]
    dsimp only
    rw [dI_at (by rw [hS])]
    show (if mI M 257 (aTi (pk 0) t) ≤ nI i then _ else _) = _
    rw [h.1.2.2.2.1, if_neg (fun h9 => absurd ((i_le (by omega) (by omega)).mp h9) (by omega))]
    show _ = J (nI (if p3 - s = 0 then x else foldS K A (p3 - s - if K i = 0 then 0 else 1) k (i + 1) (redS (K i) (A i) x))) M
    by_cases hps : p3 ≤ s
    · rw [if_pos (le_n (by omega) hps), if_pos (by omega)]
    · rw [if_neg (fun h9 => hps ((i_le (by omega) (by omega)).mp h9)), if_neg (by omega), rc_at (by rw [hS]), vnum_c hL ht h hg (by omega), cl_some, rc_at (by rw [S_park hL (by omega)]), vat_c hL h (by omega), cl_some]
      unfold jn
      dsimp only
      have hSv := vS_c hL h (i := i) (by omega)
      obtain ⟨-, vc, h6, h7, h8⟩ := id h
      obtain ⟨g1, g2, g3, g4⟩ := h8 i (by omega)
      rw [if_neg (by simp), dI_at (by rw [hSv])]
      show (if mI M 288 (aVo (pk 0) (Vn i)) = 0 then _ else _) = _
      rw [g3, nI_1, nI_1]
      by_cases hz : K i = 0
      · have hr : redS (K i) (A i) x = x := by rw [hz]; rfl
        rw [hr, if_pos (show nI (K i) = 0 by rw [hz]; rfl), if_pos hz]
        exact ih (i + 1) s x fu (by omega) (by omega) hs hx
      · have hz0 : ¬ nI (K i) = 0 := fun h9 => hz ((i_eq (b := 0) (by omega) (by omega)).mp h9)
        have hle := redS_le (k := K i) (a := A i) (x := x) k3
        rw [if_neg hz0, rc_at (by rw [hSv]), reduce_c hSv g3 g4 k1 k2 k3 hx, cl_some, if_neg hz, show p3 - s - 1 = p3 - (s + 1) by omega]
        exact ih (i + 1) (s + 1) _ fu (by omega) (by omega) (by omega) (by omega)
theorem foldR (hL : Lay M) (ht : t < 512) (h : RT M t pl en pd gv lo Vn K A) (hK : GK gv K A) (hg : gv ≤ 4) (J : Int32 → Mem → Option (Int32 × Mem)) : ∀ (k i l x fu : Nat), i + k = gv → k < fu → l ≤ 10 → x ≤ 19980000 → lp (b_X11_vouchered_14 (some 2179) (nI t) J) fu (nI x, nI l, nI i, M) = J (nI (foldS K A l k i x)) M := by
  intro k
  induction k with
  | zero =>
    intro i l x fu hi hfu hl hx
    obtain ⟨fu, rfl⟩ : ∃ z, fu = z + 1 := ⟨fu - 1, by omega⟩
    rw [lp_succ, b_X11_vouchered_14]
    dsimp only
    rw [rc_at (S1 _ hL), show m_X11_item M (some 2179) (nI t) 4 = _ from item_r hL ht (j := 4) (by omega), cl_some, h.1.2.2.2.1, if_pos (le_n (by omega) (by omega))]; rfl
  | succ k ih =>
    intro i l x fu hi hfu hl hx
    obtain ⟨fu, rfl⟩ : ∃ z, fu = z + 1 := ⟨fu - 1, by omega⟩
    obtain ⟨k1, k2, k3⟩ := hK i (by omega)
    obtain ⟨g1, g2, g3, g4⟩ := h.2 i (by omega)
    have e8 : (8 : Int32) = nI 8 := rfl
    have e5 : 169 + 12 * t + (8 + i) = 169 + 12 * t + 8 + i := by omega
    rw [lp_succ, b_X11_vouchered_14]
    dsimp only
    rw [rc_at (S1 _ hL), show m_X11_item M (some 2179) (nI t) 4 = _ from item_r hL ht (j := 4) (by omega), cl_some, h.1.2.2.2.1, if_neg (fun h9 => absurd ((i_le (by omega) (by omega)).mp h9) (by omega))]
    show _ = J (nI (if l = 0 then x else foldS K A (l - if K i = 0 then 0 else 1) k (i + 1) (redS (K i) (A i) x))) M
    by_cases hl0 : l = 0
    · rw [if_pos (show nI l ≤ 0 by rw [hl0]; decide), if_pos hl0]
    · have hl1 : ¬ nI l ≤ 0 := fun h9 => hl0 (by have := (i_le (b := 0) (by omega) (by omega)).mp h9; omega)
      have hle := redS_le (k := K i) (a := A i) (x := x) k3
      rw [if_neg hl1, if_neg hl0, rc_at (S1 _ hL), e8, nI_add, item_r hL ht (by omega), cl_some, e5, g2, rc_at (S1 _ hL), kindOf_r hL g1, cl_some, g3, rc_at (S1 _ hL), amountOf_r hL g1, cl_some, g4, lowered_r k1 k2 k3 hx, cl_some, rc_at (S1 _ hL), kindOf_r hL g1, cl_some, g3, nI_1]
      unfold jn
      dsimp only
      by_cases hz : K i = 0
      · rw [if_pos (show nI (K i) ≤ 0 by rw [hz]; decide), if_pos hz, show nI l - 0 = nI (l - 0) from pk_sub (b := 0) (by omega)]
        exact ih (i + 1) _ _ fu (by omega) (by omega) (by omega) (by omega)
      · have hz0 : ¬ nI (K i) ≤ 0 := fun h9 => hz (by have := (i_le (b := 0) (by omega) (by omega)).mp h9; omega)
        rw [if_neg hz0, if_neg hz, show nI l - 1 = nI (l - 1) from pk_sub (b := 1) (by omega)]
        exact ih (i + 1) _ _ fu (by omega) (by omega) (by omega) (by omega)
end TICK
