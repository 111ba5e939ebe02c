theorem SMt.up {N t k a : Nat} (h : SMt t k a ∨ (a = N ∧ ptr k N ≠ none)) (hN : ∀ k, ptr k N = none) (h2 : ¬ (k = rK t ∧ a = 2179)) : SMt (t + 1) k a := by
  rcases h with ⟨rfl, s, h3, h4, h5⟩ | ⟨rfl, h3⟩
  · refine ⟨rfl, s, ?_, h4, h5⟩
    by_cases hs : s = t
    · exact absurd ⟨by rw [h5, hs], rfl⟩ h2
    · omega
  · exact absurd (hN k) h3
theorem ptr_hi {k a : Nat} (h : 2180 ≤ a) : ptr k a = none := by
  unfold ptr; rw [if_neg (by omega), if_neg (by omega), if_neg (by omega), if_neg (by omega), if_neg (by omega), if_neg (by omega), if_neg (by omega), if_neg (by omega)]
theorem ini_hi {k a : Nat} (h : 2176 ≤ a) : ini k a = 0 := by
  unfold ini; rw [if_neg (by omega), if_neg (by omega), if_neg (by omega), if_neg (by omega), if_neg (by omega)]
/-- the reference's rows stand; then its numbers -/
theorem build_rows {ℓ : Nat} {M : Mem} (h : PR 2180 ℓ (pP' noS 2179) (pI' noS 2179) M) : ∃ M1, (∀ J : Mem → Option (Unit × Mem), nA M 100 6889 (fun (q1 : Option Nat) (M2 : Mem) => pP M2 11 0 (some 2179) q1 (fun (M3 : Mem) => nA M3 100 6889 (fun (q4 : Option Nat) (M5 : Mem) => pP M5 11 1 (some 2179) q4 (fun (M6 : Mem) => nA M6 102 4 (fun (q7 : Option Nat) (M8 : Mem) => pP M8 11 2 (some 2179) q7 (fun (M9 : Mem) => nA M9 102 4 (fun (q10 : Option Nat) (M11 : Mem) => pP M11 11 3 (some 2179) q10 (fun (M12 : Mem) => nA M12 100 90 (fun (q13 : Option Nat) (M14 : Mem) => pP M14 11 5 (some 2179) q13 (fun (M15 : Mem) => nA M15 100 6 (fun (q16 : Option Nat) (M17 : Mem) => pP M17 11 7 (some 2179) q16 (fun (M18 : Mem) => nA M18 100 23 (fun (q19 : Option Nat) (M20 : Mem) => pP M20 11 18 (some 2179) q19 (fun (M21 : Mem) => nA M21 100 3 (fun (q22 : Option Nat) (M23 : Mem) => pP M23 11 19 (some 2179) q22 (fun (M24 : Mem) => J M24)))))))))))))))) = J M1) ∧ PR 2188 (ℓ + 13908) noS noS M1 := by
  have s0 : (shp 2179).1 = 11 := rfl
  have pt : ∀ k, ptr k 2179 = if k = 352 then some 2180 else if k = 353 then some 2181 else if k = 354 then some 2182 else if k = 355 then some 2183 else if k = 357 then some 2184 else if k = 359 then some 2185 else if k = 370 then some 2186 else if k = 371 then some 2187 else none := fun k => by
    unfold ptr; rw [if_neg (by omega), if_neg (by omega), if_neg (by omega), if_neg (by omega), if_neg (by omega), if_neg (by omega), if_neg (by omega), if_pos rfl]
  have h0 : PR 2180 ℓ (SMt 0) noS M := h.mono (fun k a _ h9 => by
    rcases h9 with h9 | ⟨rfl, h9⟩
    · exact absurd h9 id
    · rw [pt] at h9
      refine ⟨rfl, ?_⟩
      by_cases k0 : k = 352
      · exact ⟨0, by omega, by omega, k0⟩
      · rw [if_neg k0] at h9
        by_cases k1 : k = 353
        · exact ⟨1, by omega, by omega, k1⟩
        · rw [if_neg k1] at h9
          by_cases k2 : k = 354
          · exact ⟨2, by omega, by omega, k2⟩
          · rw [if_neg k2] at h9
            by_cases k3 : k = 355
            · exact ⟨3, by omega, by omega, k3⟩
            · rw [if_neg k3] at h9
              by_cases k4 : k = 357
              · exact ⟨4, by omega, by omega, k4⟩
              · rw [if_neg k4] at h9
                by_cases k5 : k = 359
                · exact ⟨5, by omega, by omega, k5⟩
                · rw [if_neg k5] at h9
                  by_cases k6 : k = 370
                  · exact ⟨6, by omega, by omega, k6⟩
                  · rw [if_neg k6] at h9
                    exact ⟨7, by omega, by omega, ite_ne h9⟩) (fun k a _ h9 => by
    rcases h9 with h9 | ⟨rfl, h9⟩
    · exact h9
    · exact absurd (ini_hi (by omega)) h9)
  obtain ⟨A1, w1, h1⟩ := arr_stage (N := 2180) (ci := 11) (tag := 100) (len := 6889) (j := 0) (p := 2179) (S' := SMt 1) h0 (by omega) (by omega) s0 rfl (by omega) (fun k => ini_hi (by omega)) rfl (fun k a g1 g2 => SMt.up g1 (fun k => ptr_hi (by omega)) g2)
  obtain ⟨A2, w2, h2⟩ := arr_stage (N := 2181) (ci := 11) (tag := 100) (len := 6889) (j := 1) (p := 2179) (S' := SMt 2) h1 (by omega) (by omega) s0 rfl (by omega) (fun k => ini_hi (by omega)) rfl (fun k a g1 g2 => SMt.up g1 (fun k => ptr_hi (by omega)) g2)
  obtain ⟨A3, w3, h3⟩ := arr_stage (N := 2182) (ci := 11) (tag := 102) (len := 4) (j := 2) (p := 2179) (S' := SMt 3) h2 (by omega) (by omega) s0 rfl (by omega) (fun k => ini_hi (by omega)) rfl (fun k a g1 g2 => SMt.up g1 (fun k => ptr_hi (by omega)) g2)
  obtain ⟨A4, w4, h4⟩ := arr_stage (N := 2183) (ci := 11) (tag := 102) (len := 4) (j := 3) (p := 2179) (S' := SMt 4) h3 (by omega) (by omega) s0 rfl (by omega) (fun k => ini_hi (by omega)) rfl (fun k a g1 g2 => SMt.up g1 (fun k => ptr_hi (by omega)) g2)
  obtain ⟨A5, w5, h5⟩ := arr_stage (N := 2184) (ci := 11) (tag := 100) (len := 90) (j := 5) (p := 2179) (S' := SMt 5) h4 (by omega) (by omega) s0 rfl (by omega) (fun k => ini_hi (by omega)) rfl (fun k a g1 g2 => SMt.up g1 (fun k => ptr_hi (by omega)) g2)
  obtain ⟨A6, w6, h6⟩ := arr_stage (N := 2185) (ci := 11) (tag := 100) (len := 6) (j := 7) (p := 2179) (S' := SMt 6) h5 (by omega) (by omega) s0 rfl (by omega) (fun k => ini_hi (by omega)) rfl (fun k a g1 g2 => SMt.up g1 (fun k => ptr_hi (by omega)) g2)
  obtain ⟨A7, w7, h7⟩ := arr_stage (N := 2186) (ci := 11) (tag := 100) (len := 23) (j := 18) (p := 2179) (S' := SMt 7) h6 (by omega) (by omega) s0 rfl (by omega) (fun k => ini_hi (by omega)) rfl (fun k a g1 g2 => SMt.up g1 (fun k => ptr_hi (by omega)) g2)
  obtain ⟨A8, w8, h8⟩ := arr_stage (N := 2187) (ci := 11) (tag := 100) (len := 3) (j := 19) (p := 2179) (S' := SMt 8) h7 (by omega) (by omega) s0 rfl (by omega) (fun k => ini_hi (by omega)) rfl (fun k a g1 g2 => SMt.up g1 (fun k => ptr_hi (by omega)) g2)
  refine ⟨A8, fun J => (w1 _).trans ((w2 _).trans ((w3 _).trans ((w4 _).trans ((w5 _).trans ((w6 _).trans ((w7 _).trans ((w8 _).trans rfl))))))), ?_⟩
  rw [show ℓ + 13908 = ℓ + 6889 + 6889 + 4 + 4 + 90 + 6 + 23 + 3 by omega]
  exact PR.mono (N := 2188) h8 (fun k a _ h9 => by obtain ⟨-, s, g1, g2, -⟩ := h9; omega) (fun _ _ _ h => h)
def π00 : PD := (0, 0, 0, 2000, 1, fun _ j => if j = 0 then 0 else if j = 1 then 100 else 60)
theorem GP00 : GP π00 := finP_GP GD00
/-- before the first call -/
theorem inv0 {M : Mem} (hL : Lay M) (hN : mN M = 2188) (hLs : mL M ≤ 60000) (hI : ∀ k a, a < 2188 → a ≠ 2180 → mI M k a = ini k a) (hF : ∀ k a, a < 2188 → mF M k a = 0) (r1 : ∀ i, i < 4 → ∀ j, j < 23 → mI M (1000 + (10 + 23 * i + j)) 2180 = dfl j) (r2 : ∀ l, l < 4 → mI M (1000 + (153 + 4 * l)) 2180 = 10) (r3 : ∀ k, (k < 10 ∨ 102 ≤ k) → (∀ l, l < 4 → k ≠ 153 + 4 * l) → mI M (1000 + k) 2180 = 0) : Inv 0 0 0 0 M := by
  have hz : ∀ k, ini k (pk 0) = 0 := fun k => by
    have := ini_pk (o := 0) (q := 0) (k := k) (by omega) (by omega)
    rw [Nat.add_zero] at this
    rw [this]; rfl
  have hp0 : pk 0 = 1 := rfl
  refine ⟨hL, by omega, ⟨by omega, by omega⟩, ⟨fun i hi => ?_, ⟨by omega, ?_, ?_, fun v hv => by omega⟩, fun f hf => ?_, fun l hl => ?_, ⟨by omega, ?_, ?_, fun t ht => by omega⟩, ⟨by omega, ?_, ?_⟩, ⟨0, by omega, by omega, ?_, rfl, ?_, fun k hk => ?_, ?_⟩, fun l hl => ?_⟩, Or.inl ⟨?_, ?_⟩, ⟨0, by omega, ?_, ?_, fun j hj => by omega⟩, ⟨0, Or.inl rfl, ?_, ?_, fun h => by omega⟩, fun b hb => ?_, fun i hi b hb => ?_⟩
  · obtain ⟨s1, s2, s3, p1, p2, p3, i1, i2, i3⟩ := PlanAt_pk (q := 0) (by omega) hi
    have g : ∀ k, mI M k (aPl (pk 0) i) = if k = 161 then 1 else if k = 165 then 2000 else 0 := fun k => by
      have : aPl (pk 0) i = pk 0 + (6 + 8 * i) := rfl
      rw [hI _ _ (by omega) (by omega), this, i1]
    have gb : ∀ b k, b < 6 → mI M k (aPl (pk 0) i + 2 + b) = if k = 0 then nI b else if b = 0 ∧ k = 2 then 100 else if b = 0 ∧ k = 3 then 60 else 0 := fun b k hb => by
      have : aPl (pk 0) i = pk 0 + (6 + 8 * i) := rfl
      rw [hI _ _ (by omega) (by omega), this, i3 b k hb]
    refine ⟨π00, GP00, ⟨isPl_pk hL (by omega) hi, ?_, ?_, ?_, ?_, ?_, fun b hb => ?_, fun b hb => ?_⟩, ?_, ?_, ?_, ?_, ?_, fun b hb j hj => ?_⟩
    · rw [g, if_neg (by omega), if_neg (by omega)]; rfl
    · rw [g, if_neg (by omega), if_neg (by omega)]; rfl
    · rw [g, if_neg (by omega), if_neg (by omega)]; rfl
    · rw [g, if_neg (by omega), if_pos rfl]; rfl
    · rw [g, if_pos rfl]; rfl
    · have hb0 : b = 0 := by have : b < 1 := hb; omega
      subst hb0
      refine ⟨?_, ?_, ?_⟩
      · rw [gb 0 1 (by omega), if_neg (by omega), if_neg (by omega), if_neg (by omega)]; rfl
      · rw [gb 0 2 (by omega), if_neg (by omega), if_pos ⟨rfl, rfl⟩]; rfl
      · rw [gb 0 3 (by omega), if_neg (by omega), if_neg (by omega), if_pos ⟨rfl, rfl⟩]; rfl
    · rw [gb b 0 hb, if_pos rfl]
    · exact r1 i hi 0 (by omega)
    · exact r1 i hi 1 (by omega)
    · exact r1 i hi 2 (by omega)
    · exact r1 i hi 3 (by omega)
    · exact r1 i hi 4 (by omega)
    · have hb0 : b = 0 := by have : b < 1 := hb; omega
      subst hb0
      rw [show 10 + 23 * i + 5 + 3 * 0 + j = 10 + 23 * i + (5 + j) by omega, r1 i hi (5 + j) (by omega)]
      rcases (show j = 0 ∨ j = 1 ∨ j = 2 by omega) with rfl | rfl | rfl <;> rfl
  · rw [hI _ _ (by omega) (by omega), hz]; rfl
  · exact r3 9 (by omega) (fun l hl => by omega)
  · have e : ∀ k, mI M k (aFo (pk 0) f) = 0 := fun k => by
      have e1 : aFo (pk 0) f = pk 0 + (48 + 2 * f) := rfl
      rw [hI _ _ (by omega) (by omega), e1, ini_pk (by omega) (by omega)]
      unfold iniC
      rw [if_neg (by omega), if_neg (by omega), if_pos (by omega)]
    exact ⟨0, by omega, e _, r3 _ (by omega) (fun l hl => by omega), fun h => by omega⟩
  · have e : ∀ k, mI M k (aLe (pk 0) l) = if k = 96 then 10 else 0 := fun k => by
      have e1 : aLe (pk 0) l = pk 0 + (54 + l) := rfl
      rw [hI _ _ (by omega) (by omega), e1, ini_pk (by omega) (by omega)]
      unfold iniC
      rw [if_neg (by omega), if_neg (by omega), if_neg (by omega), if_pos (by omega)]
    have e1 : aLe (pk 0) l = pk 0 + (54 + l) := rfl
    exact ⟨10, 0, 0, 0, 0, by omega, by omega, by decide, by decide, by unfold gF; decide, (e 96).trans rfl, (e 97).trans rfl, (e 98).trans rfl, (e 99).trans rfl, hF _ _ (by omega), r2 l hl, r3 _ (by omega) (fun l' hl' => by omega), r3 _ (by omega) (fun l' hl' => by omega), r3 _ (by omega) (fun l' hl' => by omega), hF _ _ (by omega)⟩
  · rw [hI _ _ (by omega) (by omega), hz]; rfl
  · exact r3 1 (by omega) (fun l hl => by omega)
  · rw [hI _ _ (by omega) (by omega), hz]; rfl
  · exact r3 0 (by omega) (fun l hl => by omega)
  · exact r3 2 (by omega) (fun l hl => by omega)
  · exact r3 8 (by omega) (fun l hl => by omega)
  · exact r3 (4 + k) (by omega) (fun l hl => by omega)
  · rw [show mI M 1003 2180 = 0 from r3 3 (by omega) (fun l hl => by omega), show mI M 1004 2180 = 0 from r3 4 (by omega) (fun l hl => by omega), show mI M 1005 2180 = 0 from r3 5 (by omega) (fun l hl => by omega), show mI M 1006 2180 = 0 from r3 6 (by omega) (fun l hl => by omega), show mI M 1007 2180 = 0 from r3 7 (by omega) (fun l hl => by omega)]; rfl
  · exact r3 _ (by omega) (fun l' hl' => by omega)
  · rw [hI _ _ (by omega) (by omega)]; exact if_pos rfl
  · rw [hI _ _ (by omega) (by omega)]; exact ini_hi (by omega)
  · rw [hI _ _ (by omega) (by omega)]; rfl
  · rw [hI _ _ (by omega) (by omega)]; exact ini_hi (by omega)
  · rw [hI _ _ (by omega) (by omega)]; exact ini_hi (by omega)
  · rw [hI _ _ (by omega) (by omega)]; exact ini_hi (by omega)
  · rw [hI _ _ (by omega) (by omega), show 2170 + b = 2168 + 2 + b from rfl, PlanAt_draft.2.2.2.2.2.2.2.2 b 0 hb, if_pos rfl]
  · have e : aPl (pk 1) i + 2 + b = pk 1 + (6 + 8 * i) + 2 + b := rfl
    have hp1 : pk 1 = 1083 := rfl
    rw [hI _ _ (by omega) (by omega), e, (PlanAt_pk (q := 1) (by omega) hi).2.2.2.2.2.2.2.2 b 0 hb, if_pos rfl]
/-- the reference is made -/
theorem build_model {ℓ : Nat} {M : Mem} (h : PR 2180 ℓ (pP' noS 2179) (pI' noS 2179) M) (hℓ : ℓ ≤ 40000) : ∃ M1, m_X11_init M (some 2179) = some ((), M1) ∧ Inv 0 0 0 0 M1 := by
  obtain ⟨A, w, hA⟩ := build_rows h
  have hL : Lay A := ⟨by rw [hA.1]; exact Nat.le_refl _, fun a ha => ⟨hA.sh ha, fun k => hA.pt ha id⟩⟩
  have iA : ∀ k a, a < 2188 → mI A k a = ini k a := fun k a ha => ((hA.2.2 a ha).2 k).2.2 id
  have fA : ∀ k a, a < 2188 → mF A k a = 0 := fun k a ha => ((hA.2.2 a ha).2 k).1
  have e10 : (10 : Int32) = nI 10 := rfl
  have e23 : (23 : Int32) = nI 23 := rfl
  have e4 : (4 : Int32) = nI 4 := rfl
  have e153 : (153 : Int32) = nI 153 := rfl
  have loop1 : ∀ {J : Mem → Option (Unit × Mem)} (k i fu : Nat) (M : Mem), i + k = 4 → k < fu → Lay M → ∃ M1, lp (b_X11_init_69 (some 2179) J) fu (nI i, M) = J M1 ∧ M1.2 = M.2 ∧ (∀ k a, ¬ (a = 2180 ∧ 1010 + 23 * i ≤ k ∧ k < 1102) → mI M1 k a = mI M k a) ∧ ∀ i', i ≤ i' → i' < 4 → ∀ j, j < 23 → mI M1 (1000 + (10 + 23 * i' + j)) 2180 = dfl j := by
    intro J k
    induction k with
    | zero =>
      intro i fu M hi hfu hL
      obtain ⟨fu, rfl⟩ : ∃ z, fu = z + 1 := ⟨fu - 1, by omega⟩
      refine ⟨M, ?_, rfl, fun _ _ _ => rfl, fun i' h1 h2 => by omega⟩
      rw [lp_succ, b_X11_init_69]
      exact if_pos (by rw [e4]; exact le_n (by omega) (by omega))
    | succ k ih =>
      intro i fu M hi hfu hL
      obtain ⟨fu, rfl⟩ : ∃ z, fu = z + 1 := ⟨fu - 1, by omega⟩
      obtain ⟨B, g1, g2, g3, g4⟩ := clear_r hL (p := 10 + 23 * i) (by omega)
      obtain ⟨M1, f1, f2, f3, f4⟩ := ih (i + 1) fu B (by omega) (by omega) (eLay g2 hL)
      refine ⟨M1, ?_, f2.trans g2, fun k a h => (f3 k a (by omega)).trans (g3 k a (by omega)), fun i' h1 h2 j hj => ?_⟩
      · rw [lp_succ, b_X11_init_69]
        refine (if_neg (fun h9 : (4 : Int32) ≤ nI i => absurd ((i_le (a := 4) (by omega) (by omega)).mp h9) (by omega))).trans ?_
        dsimp only
        rw [rc_at (S1 _ hL), e10, e23, pk_mul, nI_add, g1, cl_some, nI_1]; exact f1
      · by_cases h5 : i + 1 ≤ i'
        · exact f4 i' h5 h2 j hj
        · rw [show i' = i by omega, f3 _ _ (by omega)]; exact g4 j hj
  have loop2 : ∀ (k i fu : Nat) (M : Mem), i + k = 4 → k < fu → Lay M → ∃ M1, lp (b_X11_init_93 (some 2179)) fu (nI i, M) = some ((), M1) ∧ M1.2 = M.2 ∧ (∀ k a, ¬ (a = 2180 ∧ ∃ l, i ≤ l ∧ l < 4 ∧ k = 1000 + (153 + 4 * l)) → mI M1 k a = mI M k a) ∧ ∀ l, i ≤ l → l < 4 → mI M1 (1000 + (153 + 4 * l)) 2180 = 10 := by
    intro k
    induction k with
    | zero =>
      intro i fu M hi hfu hL
      obtain ⟨fu, rfl⟩ : ∃ z, fu = z + 1 := ⟨fu - 1, by omega⟩
      refine ⟨M, ?_, rfl, fun _ _ _ => rfl, fun i' h1 h2 => by omega⟩
      rw [lp_succ, b_X11_init_93]
      exact (if_pos (show (4 : Int32) ≤ nI i by rw [e4]; exact le_n (by omega) (by omega))).trans rfl
    | succ k ih =>
      intro i fu M hi hfu hL
      obtain ⟨fu, rfl⟩ : ∃ z, fu = z + 1 := ⟨fu - 1, by omega⟩
      obtain ⟨M1, f1, f2, f3, f4⟩ := ih (i + 1) fu (uI M (1000 + (153 + 4 * i)) 2180 10) (by omega) (by omega) hL
      refine ⟨M1, ?_, f2, fun k a h => (f3 k a (fun ⟨h1, l, h2, h3, h4⟩ => h ⟨h1, l, by omega, h3, h4⟩)).trans (mI_ne (fun h9 => h ⟨h9.2, i, by omega, by omega, h9.1⟩)), fun l h1 h2 => ?_⟩
      · rw [lp_succ, b_X11_init_93]
        refine (if_neg (fun h9 : (4 : Int32) ≤ nI i => absurd ((i_le (a := 4) (by omega) (by omega)).mp h9) (by omega))).trans ?_
        dsimp only
        rw [dP_at (S1 _ hL)]
        show sI M 100 (mP M 352 2179) _ _ _ = _
        rw [P_s M hL, e153, e4, pk_mul, nI_add, sI_at (S_s M hL) (by omega) (by omega), nI_1]; exact f1
      · by_cases h5 : i + 1 ≤ l
        · exact f4 l h5 h2
        · rw [show l = i by omega, f3 _ _ (fun ⟨_, l', h2, h3, h4⟩ => by omega), mI_eq]
  obtain ⟨J, hJ⟩ : ∃ J : Nat → Mem → Option (Unit × Mem), J = fun fu M26 => lp (b_X11_init_93 (some 2179)) fu (0, M26) := ⟨_, rfl⟩
  obtain ⟨B, g1, g2, g3, g4⟩ := loop1 (J := J FU) 4 0 FU A (by omega) (Nat.lt_trans (by omega) FU_1000) hL
  have hLB : Lay B := eLay g2 hL
  obtain ⟨C, f1, f2, f3, f4⟩ := loop2 4 0 FU B (by omega) (Nat.lt_trans (by omega) FU_1000) hLB
  have e2 : C.2 = A.2 := f2.trans g2
  have iC : ∀ k a, a < 2188 → a ≠ 2180 → mI C k a = ini k a := fun k a ha h => by
    rw [f3 k a (fun h9 => h h9.1), g3 k a (by omega)]; exact iA k a ha
  refine ⟨C, ?_, inv0 (eLay e2 hL) ((eN e2).trans hA.1) (by rw [eL e2, hA.2.1]; omega) iC (fun k a ha => (eF e2 k a).trans (fA k a ha)) (fun i hi j hj => ?_) (fun l hl => f4 l (by omega) hl) (fun k hk hl => ?_)⟩
  · unfold m_X11_init
    rw [oi_at]
    refine (w _).trans ?_
    rw [jn_eq]
    have h1 : lp (b_X11_init_69 (some 2179) (J FU)) FU (nI 0, A) = some ((), C) := by
      rw [g1, hJ]
      exact f1
    rw [hJ] at h1
    exact h1
  · rw [f3 _ _ (fun ⟨_, l', h2, h3, h4⟩ => by omega)]
    exact g4 i (by omega) hi j hj
  · rw [f3 _ _ (fun ⟨_, l', h2, h3, h4⟩ => hl l' h3 (by omega)), g3 _ _ (by omega), iA _ _ (by omega)]
    exact ini_hi (by omega)
