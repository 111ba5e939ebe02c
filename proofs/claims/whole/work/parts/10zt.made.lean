def S6t (S : Nat → Nat → Prop) (t k a : Nat) : Prop := S k a ∨ (a = 2165 ∧ 192 + t ≤ k ∧ k < 195)
theorem build_text {ℓ : Nat} {S SI : Nat → Nat → Prop} {M : Mem} (h : PR (2165 + 1) ℓ (pP' S 2165) (pI' SI 2165) M) (hS : ∀ k a, 2165 ≤ a → ¬ S k a) : ∃ M1, m_X6_init M (some 2165) = some ((), M1) ∧ PR (2165 + 11) (ℓ + 129) S SI M1 := by
  have s5 : (shp 2165).1 = 6 := rfl
  have pt : ∀ k, ptr k 2165 = if k = 192 then some 2166 else if k = 193 then some 2167 else if k = 194 then some 2168 else none := fun k => by
    unfold ptr; rw [if_neg (by omega), if_neg (by omega), if_neg (by omega), if_pos rfl]
  have pn : ∀ k a, a = 2166 ∨ a = 2167 → ptr k a = none := fun k a ha => by
    unfold ptr; rw [if_neg (by omega), if_neg (by omega), if_neg (by omega), if_neg (by omega), if_neg (by omega), if_neg (by omega), if_neg (by omega), if_neg (by omega)]
  have i0 : ∀ k a, 2165 ≤ a → a < 2168 → ini k a = 0 := fun k a h1 h2 => by
    unfold ini; rw [if_neg (by omega), if_neg (by omega), if_neg (by omega), if_pos h2]
  have h0 : PR (2165 + 1) ℓ (S6t S 0) SI M := h.mono (fun k a _ h9 => by
    rcases h9 with h9 | ⟨rfl, h9⟩
    · exact Or.inl h9
    · rw [pt] at h9
      by_cases k1 : k = 192
      · exact Or.inr (by omega)
      · rw [if_neg k1] at h9
        by_cases k2 : k = 193
        · exact Or.inr (by omega)
        · rw [if_neg k2] at h9
          have := ite_ne h9
          exact Or.inr (by omega)) (fun k a _ h9 => by
    rcases h9 with h9 | ⟨rfl, h9⟩
    · exact h9
    · exact absurd (i0 k _ (by omega) (by omega)) h9)
  obtain ⟨A1, w1, h1⟩ := arr_stage (N := 2166) (ci := 6) (tag := 101) (len := 90) (j := 0) (p := 2165) (S' := S6t S 1) h0 (by omega) (by omega) s5 rfl (by omega) (fun k => i0 k _ (by omega) (by omega)) rfl (fun k a g1 g2 => by
    rcases g1 with (g1 | g1) | ⟨rfl, g1⟩
    · exact Or.inl g1
    · exact Or.inr (by omega)
    · exact absurd (pn k _ (by omega)) g1)
  obtain ⟨A2, w2, h2⟩ := arr_stage (N := 2167) (ci := 6) (tag := 100) (len := 3) (j := 1) (p := 2165) (S' := S6t S 2) h1 (by omega) (by omega) s5 rfl (by omega) (fun k => i0 k _ (by omega) (by omega)) rfl (fun k a g1 g2 => by
    rcases g1 with (g1 | g1) | ⟨rfl, g1⟩
    · exact Or.inl g1
    · exact Or.inr (by omega)
    · exact absurd (pn k _ (by omega)) g1)
  obtain ⟨A3, w3, h3⟩ := obj_stage (N := 2168) (ci := 6) (co := 5) (sl := 6) (sz := 8) (ℓ' := ℓ + 129) (j := 2) (p := 2165) (S' := S) (f := m_X5_init) h2 (by omega) (by omega) (by omega) s5 rfl rfl (fun M' h' => by
    obtain ⟨M1, f1, f2⟩ := build_plan PlanAt_draft h' (by omega) (fun k a ha h9 => by
      rcases h9 with h9 | h9
      · exact hS k a (by omega) h9
      · omega)
    refine ⟨M1, f1, ?_⟩
    rw [show ℓ + 129 = ℓ + 90 + 3 + 6 + 30 by omega]
    exact f2) (fun k a g1 g2 => by
    rcases g1 with g1 | g1
    · exact g1
    · omega)
  refine ⟨A3, ?_, h3⟩
  unfold m_X6_init
  rw [oi_at]
  exact (w1 _).trans ((w2 _).trans ((w3 _).trans rfl))
theorem build_report {ℓ : Nat} {S SI : Nat → Nat → Prop} {M : Mem} (h : PR (2176 + 1) ℓ (pP' S 2176) (pI' SI 2176) M) : ∃ M1, m_X7_init M (some 2176) = some ((), M1) ∧ PR (2176 + 3) (ℓ + 6) S SI M1 := by
  have s5 : (shp 2176).1 = 7 := rfl
  have pt : ∀ k, ptr k 2176 = if k = 224 then some 2177 else if k = 225 then some 2178 else none := fun k => by
    unfold ptr; rw [if_neg (by omega), if_neg (by omega), if_neg (by omega), if_neg (by omega), if_neg (by omega), if_neg (by omega), if_pos rfl]
  have pn : ∀ k a, a = 2177 ∨ a = 2178 → ptr k a = none := fun k a ha => by
    unfold ptr; rw [if_neg (by omega), if_neg (by omega), if_neg (by omega), if_neg (by omega), if_neg (by omega), if_neg (by omega), if_neg (by omega), if_neg (by omega)]
  have i0 : ∀ k a, 2176 ≤ a → ini k a = 0 := fun k a h1 => by
    unfold ini; rw [if_neg (by omega), if_neg (by omega), if_neg (by omega), if_neg (by omega), if_neg (by omega)]
  have h0 : PR (2176 + 1) ℓ (fun k a => S k a ∨ (a = 2176 ∧ (k = 224 ∨ k = 225))) SI M := h.mono (fun k a _ h9 => by
    rcases h9 with h9 | ⟨rfl, h9⟩
    · exact Or.inl h9
    · rw [pt] at h9
      by_cases k1 : k = 224
      · exact Or.inr ⟨rfl, Or.inl k1⟩
      · rw [if_neg k1] at h9
        exact Or.inr ⟨rfl, Or.inr (ite_ne h9)⟩) (fun k a _ h9 => by
    rcases h9 with h9 | ⟨rfl, h9⟩
    · exact h9
    · exact absurd (i0 k _ (by omega)) h9)
  obtain ⟨A1, w1, h1⟩ := arr_stage (N := 2177) (ci := 7) (tag := 100) (len := 3) (j := 0) (p := 2176) (S' := fun k a => S k a ∨ (a = 2176 ∧ k = 225)) h0 (by omega) (by omega) s5 rfl (by omega) (fun k => i0 k _ (by omega)) rfl (fun k a g1 g2 => by
    rcases g1 with (g1 | g1) | ⟨rfl, g1⟩
    · exact Or.inl g1
    · exact Or.inr (by omega)
    · exact absurd (pn k _ (by omega)) g1)
  obtain ⟨A2, w2, h2⟩ := arr_stage (N := 2178) (ci := 7) (tag := 100) (len := 3) (j := 1) (p := 2176) (S' := S) h1 (by omega) (by omega) s5 rfl (by omega) (fun k => i0 k _ (by omega)) rfl (fun k a g1 g2 => by
    rcases g1 with (g1 | g1) | ⟨rfl, g1⟩
    · exact g1
    · omega
    · exact absurd (pn k _ (by omega)) g1)
  refine ⟨A2, ?_, by
    rw [show ℓ + 6 = ℓ + 3 + 3 by omega]; exact h2⟩
  unfold m_X7_init
  rw [oi_at]
  exact (w1 _).trans ((w2 _).trans rfl)
def S0t (t k a : Nat) : Prop := a = 0 ∧ ((t ≤ 0 ∧ k = 320) ∨ (t ≤ 1 ∧ k = 321) ∨ (t ≤ 2 ∧ k = 323) ∨ (t ≤ 3 ∧ k = 324))
theorem build_class {ℓ : Nat} {M : Mem} (h : PR 1 ℓ (pP' noS 0) (pI' noS 0) M) : ∃ M1, m_X10_init M (some 0) = some ((), M1) ∧ PR 2179 (ℓ + 14977) noS noS M1 := by
  have s0 : (shp 0).1 = 10 := rfl
  have pt : ∀ k, ptr k 0 = if k = 320 then some 1 else if k = 321 then some 1083 else if k = 323 then some 2165 else if k = 324 then some 2176 else none := fun k => by
    unfold ptr; rw [if_pos rfl]
  have h0 : PR 1 ℓ (S0t 0) noS M := h.mono (fun k a _ h9 => by
    rcases h9 with h9 | ⟨rfl, h9⟩
    · exact absurd h9 id
    · rw [pt] at h9
      refine ⟨rfl, ?_⟩
      by_cases k1 : k = 320
      · omega
      · rw [if_neg k1] at h9
        by_cases k2 : k = 321
        · omega
        · rw [if_neg k2] at h9
          by_cases k3 : k = 323
          · omega
          · rw [if_neg k3] at h9
            have := ite_ne h9
            omega) (fun k a _ h9 => by
    rcases h9 with h9 | ⟨rfl, h9⟩
    · exact h9
    · exact absurd (show ini k 0 = 0 from if_pos rfl) h9)
  have up : ∀ t k a, S0t t k a → ¬ (k = (if t = 0 then 320 else if t = 1 then 321 else if t = 2 then 323 else 324) ∧ a = 0) → S0t (t + 1) k a := fun t k a g1 g2 => by
    obtain ⟨rfl, g1⟩ := g1
    refine ⟨rfl, ?_⟩
    rcases g1 with ⟨g3, g4⟩ | ⟨g3, g4⟩ | ⟨g3, g4⟩ | ⟨g3, g4⟩
    · rw [if_pos (show t = 0 by omega)] at g2; omega
    · by_cases h1 : t = 1
      · rw [if_neg (show ¬ t = 0 by omega), if_pos h1] at g2; omega
      · omega
    · by_cases h1 : t = 2
      · rw [if_neg (show ¬ t = 0 by omega), if_neg (show ¬ t = 1 by omega), if_pos h1] at g2; omega
      · omega
    · by_cases h1 : t = 3
      · rw [if_neg (show ¬ t = 0 by omega), if_neg (show ¬ t = 1 by omega), if_neg (show ¬ t = 2 by omega)] at g2; omega
      · omega
  have nz : ∀ t k a, 1 ≤ a → ¬ S0t t k a := fun t k a h1 h9 => by have := h9.1; omega
  obtain ⟨A1, w1, h1⟩ := obj_stage (N := 1) (ci := 10) (co := 1) (sl := 8) (sz := 1082) (ℓ' := ℓ + 7415) (j := 0) (p := 0) (S' := S0t 1) (f := m_X1_init) h0 (by omega) (by omega) (by omega) s0 rfl rfl (fun M' h' => by
    obtain ⟨M1, f1, f2⟩ := build_park (q := 0) (by omega) h' (fun k a ha => nz _ k a (by unfold pk at ha; omega))
    exact ⟨M1, f1, f2⟩) (fun k a g1 g2 => up 0 k a g1 (by rw [if_pos rfl]; exact g2))
  obtain ⟨A2, w2, h2⟩ := obj_stage (N := 1083) (ci := 10) (co := 1) (sl := 8) (sz := 1082) (ℓ' := ℓ + 14830) (j := 1) (p := 0) (S' := S0t 2) (f := m_X1_init) h1 (by omega) (by omega) (by omega) s0 rfl rfl (fun M' h' => by
    obtain ⟨M1, f1, f2⟩ := build_park (q := 1) (by omega) h' (fun k a ha => nz _ k a (by unfold pk at ha; omega))
    exact ⟨M1, f1, f2⟩) (fun k a g1 g2 => up 1 k a g1 (by rw [if_neg (by omega), if_pos rfl]; exact g2))
  obtain ⟨A3, w3, h3⟩ := obj_stage (N := 2165) (ci := 10) (co := 6) (sl := 9) (sz := 11) (ℓ' := ℓ + 14968) (j := 3) (p := 0) (S' := S0t 3) (f := m_X6_init) h2 (by omega) (by omega) (by omega) s0 rfl rfl (fun M' h' => by
    obtain ⟨M1, f1, f2⟩ := build_text h' (fun k a ha => nz _ k a (by omega))
    exact ⟨M1, f1, f2⟩) (fun k a g1 g2 => up 2 k a g1 (by rw [if_neg (by omega), if_neg (by omega), if_pos rfl]; exact g2))
  obtain ⟨A4, w4, h4⟩ := obj_stage (N := 2176) (ci := 10) (co := 7) (sl := 3) (sz := 3) (ℓ' := ℓ + 14977) (j := 4) (p := 0) (S' := S0t 4) (f := m_X7_init) h3 (by omega) (by omega) (by omega) s0 rfl rfl (fun M' h' => by
    obtain ⟨M1, f1, f2⟩ := build_report h'
    exact ⟨M1, f1, f2⟩) (fun k a g1 g2 => up 3 k a g1 (by rw [if_neg (by omega), if_neg (by omega), if_neg (by omega)]; exact g2))
  refine ⟨A4, ?_, h4.mono (fun k a _ h9 => by have := h9.2; omega) (fun _ _ _ h => h)⟩
  unfold m_X10_init
  rw [oi_at]
  exact (w1 _).trans ((w2 _).trans ((w3 _).trans ((w4 _).trans rfl)))
/-! the reference -/
def rK (t : Nat) : Nat := if t = 0 then 352 else if t = 1 then 353 else if t = 2 then 354 else if t = 3 then 355 else if t = 4 then 357 else if t = 5 then 359 else if t = 6 then 370 else 371
def SMt (t k a : Nat) : Prop := a = 2179 ∧ ∃ s, t ≤ s ∧ s < 8 ∧ k = rK s
def dfl (j : Nat) : Int32 := if j = 3 then 2000 else if j = 4 then 1 else if j = 6 then 100 else if j = 7 then 60 else 0
theorem clear_r {M : Mem} (hL : Lay M) {p : Nat} (hp : p + 23 ≤ 6889) : ∃ M1, m_X11_clears M (some 2179) (nI p) = some ((), M1) ∧ M1.2 = M.2 ∧ (∀ k a, ¬ (a = 2180 ∧ 1000 + p ≤ k ∧ k < 1023 + p) → mI M1 k a = mI M k a) ∧ ∀ j, j < 23 → mI M1 (1000 + (p + j)) 2180 = dfl j := by
  have hloop : ∀ {J : Mem → Option (Unit × Mem)} (k c fu : Nat) (M : Mem), c + k = 23 → k < fu → Lay M → ∃ M1, lp (b_X11_clears_2 (some 2179) (nI p) J) fu (nI c, M) = J M1 ∧ M1.2 = M.2 ∧ (∀ k a, ¬ (a = 2180 ∧ 1000 + p + c ≤ k ∧ k < 1023 + p) → mI M1 k a = mI M k a) ∧ ∀ j, c ≤ j → j < 23 → mI M1 (1000 + (p + j)) 2180 = 0 := by
    intro J k
    induction k with
    | zero =>
      intro c fu M hc hfu hL
      obtain ⟨fu, rfl⟩ : ∃ z, fu = z + 1 := ⟨fu - 1, by omega⟩
      have e23 : (23 : Int32) = nI 23 := rfl
      refine ⟨M, ?_, rfl, fun _ _ _ => rfl, fun j h1 h2 => by omega⟩
      rw [lp_succ, b_X11_clears_2]
      exact if_pos (by rw [e23]; exact le_n (by omega) (by omega))
    | succ k ih =>
      intro c fu M hc hfu hL
      obtain ⟨fu, rfl⟩ : ∃ z, fu = z + 1 := ⟨fu - 1, by omega⟩
      obtain ⟨M1, f1, f2, f3, f4⟩ := ih (c + 1) fu (uI M (1000 + (p + c)) 2180 0) (by omega) (by omega) hL
      refine ⟨M1, ?_, f2, fun k a h => (f3 k a (by omega)).trans (mI_ne (by omega)), fun j h1 h2 => ?_⟩
      · rw [lp_succ, b_X11_clears_2]
        refine (if_neg (fun h9 : (23 : Int32) ≤ nI c => absurd ((i_le (a := 23) (by omega) (by omega)).mp h9) (by omega))).trans ?_
        dsimp only
        rw [dP_at (S1 _ hL)]
        show sI M 100 (mP M 352 2179) _ _ _ = _
        rw [P_s M hL, nI_add, sI_at (S_s M hL) (by omega) (by omega), nI_1]; exact f1
      · by_cases h5 : c + 1 ≤ j
        · exact f4 j h5 h2
        · rw [show j = c by omega, f3 _ _ (by omega), mI_eq]
  obtain ⟨A, f1, f2, f3, f4⟩ := hloop (J := fun (M2 : Mem) => dP M2 11 0 (some 2179) (fun (q3 : Option Nat) => sI M2 100 q3 ((nI p + 3)) 2000 (fun (M4 : Mem) => dP M4 11 0 (some 2179) (fun (q5 : Option Nat) => sI M4 100 q5 ((nI p + 4)) 1 (fun (M6 : Mem) => dP M6 11 0 (some 2179) (fun (q7 : Option Nat) => sI M6 100 q7 (((nI p + 5) + 1)) 100 (fun (M8 : Mem) => dP M8 11 0 (some 2179) (fun (q9 : Option Nat) => sI M8 100 q9 (((nI p + 5) + 2)) 60 (fun (M10 : Mem) => rt () M10))))))))) 23 0 FU M (by omega) (Nat.lt_trans (by omega) FU_1000) hL
  have hLA : Lay A := eLay f2 hL
  have w : ∀ {M : Mem} (hL : Lay M) (i : Nat) (x : Int32) (hi : i < 6889) {K : Mem → Option (Unit × Mem)}, dP M 11 0 (some 2179) (fun q => sI M 100 q (nI i) x K) = K (uI M (1000 + i) 2180 x) := by
    intro M hL i x hi K
    rw [dP_at (S1 _ hL)]
    show sI M 100 (mP M 352 2179) _ _ _ = _
    rw [P_s M hL, sI_at (S_s M hL) hi (by omega)]
  have e3 : (3 : Int32) = nI 3 := rfl
  have e4 : (4 : Int32) = nI 4 := rfl
  have e5 : (5 : Int32) = nI 5 := rfl
  have e1 : (1 : Int32) = nI 1 := rfl
  have e2 : (2 : Int32) = nI 2 := rfl
  refine ⟨uI (uI (uI (uI A (1000 + (p + 3)) 2180 2000) (1000 + (p + 4)) 2180 1) (1000 + (p + 6)) 2180 100) (1000 + (p + 7)) 2180 60, ?_, f2, fun k a h => ?_, fun j hj => ?_⟩
  · unfold m_X11_clears
    rw [jn_eq]
    refine f1.trans ?_
    show dP A 11 0 (some 2179) (fun q3 => sI A 100 q3 (nI p + nI 3) 2000 _) = _
    rw [nI_add, w hLA _ _ (by omega)]
    show dP _ 11 0 (some 2179) (fun q3 => sI _ 100 q3 (nI p + nI 4) 1 _) = _
    rw [nI_add, w (hLA.uI _ _ _) _ _ (by omega)]
    show dP _ 11 0 (some 2179) (fun q3 => sI _ 100 q3 (nI p + nI 5 + nI 1) 100 _) = _
    rw [nI_add, nI_add, w ((hLA.uI _ _ _).uI _ _ _) _ _ (by omega)]
    show dP _ 11 0 (some 2179) (fun q3 => sI _ 100 q3 (nI p + nI 5 + nI 2) 60 _) = _
    rw [nI_add, nI_add, w (((hLA.uI _ _ _).uI _ _ _).uI _ _ _) _ _ (by omega)]; rfl
  · rw [mI_ne (by omega), mI_ne (by omega), mI_ne (by omega), mI_ne (by omega)]
    exact f3 k a (by omega)
  · unfold dfl
    by_cases h3 : j = 3
    · rw [if_pos h3, h3, mI_ne (by omega), mI_ne (by omega), mI_ne (by omega), mI_eq]
    · rw [if_neg h3]
      by_cases h4 : j = 4
      · rw [if_pos h4, h4, mI_ne (by omega), mI_ne (by omega), mI_eq]
      · rw [if_neg h4]
        by_cases h6 : j = 6
        · rw [if_pos h6, h6, mI_ne (by omega), mI_eq]
        · rw [if_neg h6]
          by_cases h7 : j = 7
          · rw [if_pos h7, h7, mI_eq]
          · rw [if_neg h7, mI_ne (by omega), mI_ne (by omega), mI_ne (by omega), mI_ne (by omega)]
            exact f4 j (by omega) hj
