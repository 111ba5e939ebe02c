/-! ===== a plan's numbers, and what a stay's units come to ===== -/
theorem i_le {a b : Nat} (ha : a < 2147483648) (hb : b < 2147483648) : nI a ≤ nI b ↔ a ≤ b := nI_leI (by omega) (by omega)
theorem i_lt {a b : Nat} (ha : a < 2147483648) (hb : b < 2147483648) : nI a < nI b ↔ a < b := nI_ltI (by omega) (by omega)
theorem i_eq {a b : Nat} (ha : a < 2147483648) (hb : b < 2147483648) : nI a = nI b ↔ a = b := nI_eq (by omega) (by omega)
theorem i_div {a d : Nat} (ha : a < 2147483648) (h0 : 0 < d) (hd : d < 2147483648) : nI a / nI d = nI (a / d) := pk_div (by omega) h0 (by omega)
theorem i_rem {a d : Nat} (ha : a < 2147483648) (h0 : 0 < d) (hd : d < 2147483648) : nI a - nI a / nI d * nI d = nI (a % d) := pk_rem (by omega) h0 (by omega)
theorem i_min {a b : Nat} (ha : a < 2147483648) (hb : b < 2147483648) : imin (nI a) (nI b) = nI (min a b) := by
  unfold imin
  by_cases h : b < a
  · rw [if_pos ((i_lt hb ha).mpr h)]; congr 1; omega
  · rw [if_neg (fun h9 => h ((i_lt hb ha).mp h9))]; congr 1; omega
theorem i_max {a b : Nat} (ha : a < 2147483648) (hb : b < 2147483648) : imax (nI a) (nI b) = nI (max a b) := by
  unfold imax
  by_cases h : a < b
  · rw [if_pos ((i_lt ha hb).mpr h)]; congr 1; omega
  · rw [if_neg (fun h9 => h ((i_lt ha hb).mp h9))]; congr 1; omega
/-- free minutes, cap, way, lost fee, number of bands, the bands' parts -/
abbrev PD : Type := Nat × Nat × Nat × Nat × Nat × (Nat → Nat → Nat)
def pFree (π : PD) : Nat := π.1
def pCap (π : PD) : Nat := π.2.1
def pWay (π : PD) : Nat := π.2.2.1
def pLost (π : PD) : Nat := π.2.2.2.1
def pCnt (π : PD) : Nat := π.2.2.2.2.1
def pB (π : PD) (b j : Nat) : Nat := π.2.2.2.2.2 b j
def GP (π : PD) : Prop := pFree π ≤ 60 ∧ pCap π ≤ 9999 ∧ pWay π ≤ 1 ∧ pLost π ≤ 9999 ∧ 1 ≤ pCnt π ∧ pCnt π ≤ 6 ∧ pB π 0 0 = 0 ∧ ∀ b, b < pCnt π → pB π b 0 ≤ 1439 ∧ pB π b 1 ≤ 999 ∧ 5 ≤ pB π b 2 ∧ pB π b 2 ≤ 240
/-- the class's plan at A holds π -/
def PlC (M : Mem) (A : Nat) (π : PD) : Prop := isPl M A ∧ mI M 162 A = nI (pFree π) ∧ mI M 163 A = nI (pCap π) ∧ mI M 164 A = nI (pWay π) ∧ mI M 165 A = nI (pLost π) ∧ mI M 161 A = nI (pCnt π) ∧ (∀ b, b < pCnt π → mI M 1 (A + 2 + b) = nI (pB π b 0) ∧ mI M 2 (A + 2 + b) = nI (pB π b 1) ∧ mI M 3 (A + 2 + b) = nI (pB π b 2)) ∧ ∀ b, b < 6 → mI M 0 (A + 2 + b) = nI b
/-- the reference's row S holds π from o on -/
def PlR (M : Mem) (S o : Nat) (π : PD) : Prop := mI M (1000 + o) S = nI (pFree π) ∧ mI M (1000 + (o + 1)) S = nI (pCap π) ∧ mI M (1000 + (o + 2)) S = nI (pWay π) ∧ mI M (1000 + (o + 3)) S = nI (pLost π) ∧ mI M (1000 + (o + 4)) S = nI (pCnt π) ∧ ∀ b, b < pCnt π → ∀ j, j < 3 → mI M (1000 + (o + 5 + 3 * b + j)) S = nI (pB π b j)
def bxu (π : PD) (m : Nat) : Nat → Nat → Nat → Nat
  | 0, _, f => f
  | k + 1, i, f => bxu π m k (i + 1) (if pB π i 0 ≤ m then i else f)
def bandIx (π : PD) (n : Nat) : Nat := bxu π (n % 1440) (pCnt π - 1) 1 0
def grp (π : PD) (fr n : Nat) : Nat := if pWay π = 1 then n / 1440 else (n - fr) / 1440
def capd (π : PD) (x : Nat) : Nat := if pCap π ≠ 0 then min x (pCap π) else x
/-- next, group, closed sum, open sum -/
abbrev MS : Type := Nat × Nat × Nat × Nat
def stp (π : PD) (fr : Nat) (s : MS) : MS :=
  (s.1 + pB π (bandIx π s.1) 2, grp π fr s.1, if grp π fr s.1 = s.2.1 then s.2.2.1 else s.2.2.1 + capd π s.2.2.2, (if grp π fr s.1 = s.2.1 then s.2.2.2 else 0) + pB π (bandIx π s.1) 1)
def amt (π : PD) (s : MS) : Nat := s.2.2.1 + capd π s.2.2.2
def s0 (π : PD) (fr : Nat) : MS := (fr, grp π fr fr, 0, 0)
def stn (π : PD) (fr : Nat) : Nat → MS
  | 0 => s0 π fr
  | k + 1 => stp π fr (stn π fr k)
theorem bxu_spec (π : PD) (m : Nat) : ∀ (k i f : Nat), (bxu π m k i f = f ∧ ∀ b, i ≤ b → b < i + k → ¬ pB π b 0 ≤ m) ∨ (i ≤ bxu π m k i f ∧ bxu π m k i f < i + k ∧ pB π (bxu π m k i f) 0 ≤ m ∧ ∀ b, bxu π m k i f < b → b < i + k → ¬ pB π b 0 ≤ m) := by
  intro k
  induction k with
  | zero => intro i f; exact Or.inl ⟨rfl, fun b h1 h2 => absurd h2 (by omega)⟩
  | succ k ih =>
    intro i f
    show (bxu π m k (i + 1) (if pB π i 0 ≤ m then i else f) = f ∧ _) ∨ _
    have e : bxu π m (k + 1) i f = bxu π m k (i + 1) (if pB π i 0 ≤ m then i else f) := rfl
    rw [e]
    rcases ih (i + 1) (if pB π i 0 ≤ m then i else f) with ⟨h1, h2⟩ | ⟨h1, h2, h3, h4⟩
    · rw [h1]
      by_cases hc : pB π i 0 ≤ m
      · rw [if_pos hc]
        exact Or.inr ⟨Nat.le_refl _, by omega, hc, fun b hb1 hb2 => h2 b (by omega) (by omega)⟩
      · rw [if_neg hc]
        refine Or.inl ⟨rfl, fun b hb1 hb2 => ?_⟩
        by_cases hbi : b = i
        · rw [hbi]; exact hc
        · exact h2 b (by omega) (by omega)
    · exact Or.inr ⟨by omega, by omega, h3, fun b hb1 hb2 => h4 b hb1 (by omega)⟩
theorem bandIx_spec {π : PD} (hπ : GP π) (n : Nat) : bandIx π n < pCnt π ∧ pB π (bandIx π n) 0 ≤ n % 1440 ∧ ∀ b, bandIx π n < b → b < pCnt π → ¬ pB π b 0 ≤ n % 1440 := by
  obtain ⟨-, -, -, -, h1, h2, h0, -⟩ := hπ
  unfold bandIx
  rcases bxu_spec π (n % 1440) (pCnt π - 1) 1 0 with ⟨e, h⟩ | ⟨g1, g2, g3, g4⟩
  · rw [e]; exact ⟨by omega, by omega, fun b hb1 hb2 => h b (by omega) (by omega)⟩
  · exact ⟨by omega, g3, fun b hb1 hb2 => g4 b hb1 (by omega)⟩
theorem bandIx_uniq {π : PD} (hπ : GP π) {n r : Nat} (h1 : r < pCnt π) (h2 : pB π r 0 ≤ n % 1440) (h3 : ∀ b, r < b → b < pCnt π → ¬ pB π b 0 ≤ n % 1440) : r = bandIx π n := by
  obtain ⟨g1, g2, g3⟩ := bandIx_spec hπ n
  rcases Nat.lt_trichotomy r (bandIx π n) with h | h | h
  · exact absurd g2 (h3 _ h g1)
  · exact h
  · exact absurd h2 (g3 _ h h1)
theorem capd_le {π : PD} (x : Nat) : capd π x ≤ x := by unfold capd; split <;> omega
/-- what k units leave -/
theorem stn_bd {π : PD} (hπ : GP π) (fr : Nat) : ∀ k, fr + 5 * k ≤ (stn π fr k).1 ∧ (stn π fr k).1 ≤ fr + 240 * k ∧ (stn π fr k).2.2.1 + (stn π fr k).2.2.2 ≤ 999 * k := by
  intro k
  induction k with
  | zero => exact ⟨by show fr + 5 * 0 ≤ fr; omega, by show fr ≤ fr + 240 * 0; omega, Nat.le_refl _⟩
  | succ k ih =>
    obtain ⟨h1, h2, h3⟩ := ih
    have hb := (bandIx_spec hπ (stn π fr k).1).1
    obtain ⟨-, g1, g2, g3⟩ := hπ.2.2.2.2.2.2.2 _ hb
    have hc := capd_le (π := π) (stn π fr k).2.2.2
    refine ⟨?_, ?_, ?_⟩
    · show _ ≤ (stn π fr k).1 + pB π (bandIx π (stn π fr k).1) 2; omega
    · show (stn π fr k).1 + pB π (bandIx π (stn π fr k).1) 2 ≤ _; omega
    · show (if grp π fr (stn π fr k).1 = (stn π fr k).2.1 then (stn π fr k).2.2.1 else (stn π fr k).2.2.1 + capd π (stn π fr k).2.2.2) + ((if grp π fr (stn π fr k).1 = (stn π fr k).2.1 then (stn π fr k).2.2.2 else 0) + pB π (bandIx π (stn π fr k).1) 1) ≤ _
      split <;> omega
theorem grp_le (π : PD) (fr n : Nat) : grp π fr n ≤ n := by unfold grp; split <;> omega
theorem stn_g {π : PD} (hπ : GP π) (fr k : Nat) : (stn π fr k).2.1 ≤ fr + 240 * k := by
  cases k with
  | zero => exact Nat.le_trans (grp_le π fr fr) (by omega)
  | succ k => exact Nat.le_trans (grp_le π fr _) (by have := (stn_bd hπ fr k).2.1; omega)
/-! ===== the class's side ===== -/
theorem groupOf_c {M : Mem} {A fr n : Nat} {π : PD} (h : PlC M A π) (hπ : GP π) (hn : n < 2147483648) (hf : fr ≤ n) : m_X5_groupOf M (some A) (nI fr) (nI n) = some (nI (grp π fr n), M) := by
  unfold m_X5_groupOf
  rw [dI_at (by rw [h.1.1]), h.2.2.2.1]
  have hw := hπ.2.2.1
  unfold grp rt
  have e1 : (1440 : Int32) = nI 1440 := rfl
  have e2 : (1 : Int32) = nI 1 := rfl
  rw [e1, e2, pk_sub hf, i_div (by omega) (by omega) (by omega), i_div hn (by omega) (by omega)]
  by_cases hc : pWay π = 1
  · rw [if_neg (by rw [hc]; simp), if_pos hc]
  · rw [if_pos (fun h9 => hc ((i_eq (by omega) (by omega)).mp h9)), if_neg hc]
theorem capped_c {M : Mem} {A x : Nat} {π : PD} (h : PlC M A π) (hπ : GP π) (hx : x < 2147483648) : m_X5_capped M (some A) (nI x) = some (nI (capd π x), M) := by
  unfold m_X5_capped
  have hc9 := hπ.2.1
  rw [dI_at (by rw [h.1.1]), dI_at (by rw [h.1.1]), h.2.2.1]
  unfold capd rt
  have e2 : (0 : Int32) = nI 0 := rfl
  rw [e2, i_min hx (by omega)]
  by_cases hc : pCap π = 0
  · rw [if_neg (by rw [hc]; simp), if_neg (by omega)]
  · rw [if_pos (fun h9 => hc ((i_eq (by omega) (by omega)).mp h9)), if_pos hc]
theorem bandLoop_c {M : Mem} {A n : Nat} {π : PD} (h : PlC M A π) (hπ : GP π) (hn : n < 2147483648) : ∀ (k i f fu : Nat), i + k = pCnt π → 1 ≤ i → k < fu → lp (b_X5_bandOfMinute_16 (some A) (nI n)) fu (some (A + 2 + f), nI i, M) = some (some (A + 2 + bxu π (n % 1440) k i f), M) := by
  have hcnt := hπ.2.2.2.2.2.1
  intro k
  induction k with
  | zero =>
    intro i f fu hi h1 hfu
    obtain ⟨fu, rfl⟩ : ∃ z, fu = z + 1 := ⟨fu - 1, by omega⟩
    rw [lp_succ, b_X5_bandOfMinute_16]
    have e6 : (6 : Int32) = nI 6 := rfl
    dsimp only
    by_cases h6 : 6 ≤ i
    · rw [e6, if_pos ((i_le (by omega) (by omega)).mpr h6)]; rfl
    · rw [e6, if_neg (fun h9 => h6 ((i_le (by omega) (by omega)).mp h9)), dI_at (by rw [h.1.1]), h.2.2.2.2.2.1, if_pos ((i_le (by omega) (by omega)).mpr (by omega))]; rfl
  | succ k ih =>
    intro i f fu hi h1 hfu
    obtain ⟨fu, rfl⟩ : ∃ z, fu = z + 1 := ⟨fu - 1, by omega⟩
    rw [lp_succ, b_X5_bandOfMinute_16]
    have e6 : (6 : Int32) = nI 6 := rfl
    have e1 : (1440 : Int32) = nI 1440 := rfl
    dsimp only
    have hb := h.1.2.2.2 i (by omega)
    have hB := h.2.2.2.2.2.2.1 i (by omega)
    have hGB := hπ.2.2.2.2.2.2.2 i (by omega)
    rw [e6, if_neg (fun h9 => absurd ((i_le (by omega) (by omega)).mp h9) (by omega)), dI_at (by rw [h.1.1]), h.2.2.2.2.2.1, if_neg (fun h9 => absurd ((i_le (by omega) (by omega)).mp h9) (by omega))]
    rw [dP_at (by rw [h.1.1]), h.1.2.1, aP_at h.1.2.2.1 (by omega) (by omega), hb.1, dI_at (by rw [hb.2]), hB.1]
    unfold jn
    dsimp only
    rw [dP_at (by rw [h.1.1]), h.1.2.1, aP_at h.1.2.2.1 (by omega) (by omega), hb.1]
    rw [e1, i_rem hn (by omega) (by omega), nI_1]
    show _ = some (some (A + 2 + bxu π (n % 1440) k (i + 1) (if pB π i 0 ≤ n % 1440 then i else f)), M)
    by_cases hc : pB π i 0 ≤ n % 1440
    · rw [if_neg (fun h9 => absurd ((i_lt (by omega) (by omega)).mp h9) (by omega)), if_pos hc]
      exact ih (i + 1) i fu (by omega) (by omega) (by omega)
    · rw [if_pos ((i_lt (by omega) (by omega)).mpr (by omega)), if_neg hc]
      exact ih (i + 1) f fu (by omega) (by omega) (by omega)
theorem bandOfMinute_c {M : Mem} {A n : Nat} {π : PD} (h : PlC M A π) (hπ : GP π) (hn : n < 2147483648) : m_X5_bandOfMinute M (some A) (nI n) = some (some (A + 2 + bandIx π n), M) := by
  unfold m_X5_bandOfMinute
  have hb := h.1.2.2.2 0 (by omega)
  have e0 : (0 : Int32) = nI 0 := rfl
  have e1 : (1 : Int32) = nI 1 := rfl
  rw [dP_at (by rw [h.1.1]), h.1.2.1, e0, aP_at h.1.2.2.1 (by omega) (by omega), hb.1, e1]
  exact bandLoop_c h hπ hn (pCnt π - 1) 1 0 FU (by have := hπ.2.2.2.2.1; omega) (by omega) (by have := hπ.2.2.2.2.2.1; show _ < 1000000; omega)
