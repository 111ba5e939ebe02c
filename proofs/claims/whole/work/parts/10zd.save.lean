theorem Apart_pk {d s : Nat} (hd : d < 2) (hs : s < 2) (h : d ≠ s) : Apart 1082 (pk d) (pk s) := by
  intro o o' h1 h2
  rcases (show d = 0 ∧ s = 1 ∨ d = 1 ∧ s = 0 by omega) with ⟨rfl, rfl⟩ | ⟨rfl, rfl⟩
  · unfold pk; omega
  · unfold pk; omega
/-- what a car park's copy holds -/
def DA (n k o : Nat) : Prop := (o = 0 ∧ 37 ≤ k ∧ k ≤ 39) ∨ (∃ i, i < 4 ∧ ((o = 6 + 8 * i ∧ 161 ≤ k ∧ k ≤ 165) ∨ (6 + 8 * i + 2 ≤ o ∧ o < 6 + 8 * i + 8 ∧ 1 ≤ k ∧ k ≤ 3))) ∨ (∃ v, v < 10 ∧ o = 38 + v ∧ 288 ≤ k ∧ k ≤ 290) ∨ (∃ f, f < 3 ∧ ((o = 48 + 2 * f ∧ (k = 65 ∨ k = 66)) ∨ (o = 49 + 2 * f ∧ 1000 ≤ k ∧ k < 1005))) ∨ (∃ l, l < 4 ∧ o = 54 + l ∧ 96 ≤ k ∧ k ≤ 99) ∨ ∃ t, t < n ∧ ((o = 58 + 2 * t ∧ 257 ≤ k ∧ k ≤ 264) ∨ (o = 59 + 2 * t ∧ 1000 ≤ k ∧ k < 1004))
def cpJ5 (d s : Nat) : Mem → Option (Unit × Mem) := fun M10 => dI M10 1 5 (some s) (fun (x11 : Int32) => pI M10 1 5 (some d) x11 (fun (M12 : Mem) => dI M12 1 6 (some s) (fun (x13 : Int32) => pI M12 1 6 (some d) x13 (fun (M14 : Mem) => dI M14 1 7 (some s) (fun (x15 : Int32) => pI M14 1 7 (some d) x15 (fun (M16 : Mem) => rt () M16))))))
def cpJ4 (d s fu : Nat) : Mem → Option (Unit × Mem) := fun M8 => lp (b_X1_copyFrom_115 (some d) (some s) (cpJ5 d s)) fu (0, M8)
def cpJ3 (d s fu : Nat) : Mem → Option (Unit × Mem) := fun M6 => lp (b_X1_copyFrom_87 (some d) (some s) (cpJ4 d s fu)) fu (0, M6)
def cpJ2 (d s fu : Nat) : Mem → Option (Unit × Mem) := fun M4 => lp (b_X1_copyFrom_59 (some d) (some s) (cpJ3 d s fu)) fu (0, M4)
def cpJ1 (d s fu : Nat) : Mem → Option (Unit × Mem) := fun M2 => lp (b_X1_copyFrom_30 (some d) (some s) (cpJ2 d s fu)) fu (0, M2)
theorem cpJ_gen (fu : Nat) (M : Mem) (this p1 : Nat) : jn (fun (M2 : Mem) => jn (fun (M4 : Mem) => jn (fun (M6 : Mem) => jn (fun (M8 : Mem) => jn (fun (M10 : Mem) => dI M10 1 5 (some p1) (fun (x11 : Int32) => pI M10 1 5 (some this) x11 (fun (M12 : Mem) => dI M12 1 6 (some p1) (fun (x13 : Int32) => pI M12 1 6 (some this) x13 (fun (M14 : Mem) => dI M14 1 7 (some p1) (fun (x15 : Int32) => pI M14 1 7 (some this) x15 (fun (M16 : Mem) => rt () M16))))))) (fun (J151_8 : Mem → Option (Unit × Mem)) => lp (b_X1_copyFrom_115 (some this) (some p1) J151_8) fu (0, M8))) (fun (J113_6 : Mem → Option (Unit × Mem)) => lp (b_X1_copyFrom_87 (some this) (some p1) J113_6) fu (0, M6))) (fun (J85_4 : Mem → Option (Unit × Mem)) => lp (b_X1_copyFrom_59 (some this) (some p1) J85_4) fu (0, M4))) (fun (J57_2 : Mem → Option (Unit × Mem)) => lp (b_X1_copyFrom_30 (some this) (some p1) J57_2) fu (0, M2))) (fun (J28_0 : Mem → Option (Unit × Mem)) => lp (b_X1_copyFrom_2 (some this) (some p1) J28_0) fu (0, M)) = lp (b_X1_copyFrom_2 (some this) (some p1) (cpJ1 this p1 fu)) fu (0, M) := rfl
theorem cpJ_eq (M : Mem) (d s : Nat) : m_X1_copyFrom M (some d) (some s) = lp (b_X1_copyFrom_2 (some d) (some s) (cpJ1 d s FU)) FU (0, M) := by
  unfold m_X1_copyFrom
  exact cpJ_gen FU M d s
/-- an object out of an array of a car park -/
theorem parkCell {M : Mem} (hL : Lay M) {q j tag len : Nat} (hq : q < 2) {x : Nat} {β : Type} {K : Option Nat → Option β} {i y : Nat} (hi : i < len) (hlen : len < 1000) (hP : mP M (32 * 1 + j) (pk q) = some x) (hS : mS M x = (tag, len)) (hy : mP M (1000 + i) x = some y) : dP M 1 j (some (pk q)) (fun r => aP M tag r (nI i) K) = K (some y) := by
  rw [dP_at (by rw [S_park hL hq]), hP, aP_at hS hi (by omega), hy]
theorem parkcopy {M : Mem} {d s n : Nat} (hd : d < 2) (hs : s < 2) (hds : d ≠ s) (hL : Lay M) (hn : n ≤ 512) (h38 : mI M 38 (pk s) = nI n) (hz : ∀ t, t < n → (mI M 263 (pk s + (58 + 2 * t)) = 0 ∨ mI M 263 (pk s + (58 + 2 * t)) = 1) ∧ (mI M 264 (pk s + (58 + 2 * t)) = 0 ∨ mI M 264 (pk s + (58 + 2 * t)) = 1)) (fu : Nat) (hfu : 1000 < fu) :
    ∃ M1, lp (b_X1_copyFrom_2 (some (pk d)) (some (pk s)) (cpJ1 (pk d) (pk s) fu)) fu (0, M) = some ((), M1) ∧ CI 1082 (pk d) (pk s) (DA n) (fun o => 54 ≤ o ∧ o < 58) M M1 := by
  have ha := Apart_pk hd hs hds
  have e4 : (4 : Int32) = nI 4 := rfl
  have e10 : (10 : Int32) = nI 10 := rfl
  have e3 : (3 : Int32) = nI 3 := rfl
  have e512 : (512 : Int32) = nI 512 := rfl
  -- the plans
  obtain ⟨M1, f1, g1⟩ := copy_loop (n := 4) (P := fun _ => True) (D := fun i k o => (o = 6 + 8 * i ∧ 161 ≤ k ∧ k ≤ 165) ∨ (6 + 8 * i + 2 ≤ o ∧ o < 6 + 8 * i + 8 ∧ 1 ≤ k ∧ k ≤ 3)) (E := fun _ => nE) (B := b_X1_copyFrom_2 (some (pk d)) (some (pk s)) (cpJ1 (pk d) (pk s) fu)) (J := cpJ1 (pk d) (pk s) fu) ha (fun _ _ _ _ _ _ => trivial)
    (fun L M hL hc => by rw [b_X1_copyFrom_2]; exact if_pos (by rw [e4]; exact le_n (by omega) (by omega)))
    (fun L M i hi hL hc => by
      obtain ⟨M1, v1, v2⟩ := cp_plan hL ha (o := 6 + 8 * i) (by omega) (fun M hL => ⟨isPl_pk hL hd hi, isPl_pk hL hs hi⟩)
      refine ⟨M1, ?_, v2⟩
      rw [b_X1_copyFrom_2]
      refine (if_neg (fun h9 : (4 : Int32) ≤ nI i => absurd ((i_le (a := 4) (by omega) (by omega)).mp h9) (by omega))).trans ?_
      dsimp only
      rw [parkCell hL hd hi (by omega) (P_plans hL hd) (S_plans hL hd) (P_plan hL hd hi), parkCell hL hs hi (by omega) (P_plans hL hs) (S_plans hL hs) (P_plan hL hs hi), rc_at (by rw [S_aPl hL hd hi])]
      show cl (m_X5_copyFrom M (some (pk d + (6 + 8 * i))) (some (pk s + (6 + 8 * i)))) _ = _
      rw [v1, cl_some])
    4 0 fu M (by omega) (by omega) hL trivial
  have hL1 := g1.Lay hL
  -- the vouchers
  obtain ⟨M2, f2, g2⟩ := copy_loop (n := 10) (P := fun _ => True) (D := fun i k o => o = 38 + i ∧ (k = 288 ∨ k = 289 ∨ k = 290)) (E := fun _ => nE) (B := b_X1_copyFrom_30 (some (pk d)) (some (pk s)) (cpJ2 (pk d) (pk s) fu)) (J := cpJ2 (pk d) (pk s) fu) ha (fun _ _ _ _ _ _ => trivial)
    (fun L M hL hc => by rw [b_X1_copyFrom_30]; exact if_pos (by rw [e10]; exact le_n (by omega) (by omega)))
    (fun L M i hi hL hc => by
      obtain ⟨M1, v1, v2⟩ := cp_voucher ha (o := 38 + i) (by omega) (S_aVo hL hd hi) (S_aVo hL hs hi)
      refine ⟨M1, ?_, v2⟩
      rw [b_X1_copyFrom_30]
      refine (if_neg (fun h9 : (10 : Int32) ≤ nI i => absurd ((i_le (a := 10) (by omega) (by omega)).mp h9) (by omega))).trans ?_
      dsimp only
      rw [parkCell hL hd hi (by omega) (P_vouchers hL hd) (S_vouchers hL hd) (P_voucher hL hd hi), parkCell hL hs hi (by omega) (P_vouchers hL hs) (S_vouchers hL hs) (P_voucher hL hs hi), rc_at (by rw [S_aVo hL hd hi])]
      show cl (m_X9_copyFrom M (some (pk d + (38 + i))) (some (pk s + (38 + i)))) _ = _
      rw [v1, cl_some])
    10 0 fu M1 (by omega) (by omega) hL1 trivial
  have hL2 := g2.Lay hL1
  -- the folders
  obtain ⟨M3, f3, g3⟩ := copy_loop (n := 3) (P := fun _ => True) (D := fun i k o => (o = 48 + 2 * i ∧ (k = 65 ∨ k = 66)) ∨ (o = 48 + 2 * i + 1 ∧ 1000 ≤ k ∧ k < 1005)) (E := fun _ => nE) (B := b_X1_copyFrom_59 (some (pk d)) (some (pk s)) (cpJ3 (pk d) (pk s) fu)) (J := cpJ3 (pk d) (pk s) fu) ha (fun _ _ _ _ _ _ => trivial)
    (fun L M hL hc => by rw [b_X1_copyFrom_59]; exact if_pos (by rw [e3]; exact le_n (by omega) (by omega)))
    (fun L M i hi hL hc => by
      have eA : ∀ p, aFc p i = p + (48 + 2 * i + 1) := fun p => by unfold aFc; omega
      obtain ⟨M1, v1, v2⟩ := cp_folder hL ha (o := 48 + 2 * i) (by omega) (fun M hL => ⟨S_aFo hL hd hi, S_aFo hL hs hi, by rw [← eA]; exact S_aFc hL hd hi, by rw [← eA]; exact S_aFc hL hs hi, by rw [← eA]; exact P_aFo hL hd hi, by rw [← eA]; exact P_aFo hL hs hi⟩)
      refine ⟨M1, ?_, v2⟩
      rw [b_X1_copyFrom_59]
      refine (if_neg (fun h9 : (3 : Int32) ≤ nI i => absurd ((i_le (a := 3) (by omega) (by omega)).mp h9) (by omega))).trans ?_
      dsimp only
      rw [parkCell hL hd hi (by omega) (P_folders hL hd) (S_folders hL hd) (P_folder hL hd hi), parkCell hL hs hi (by omega) (P_folders hL hs) (S_folders hL hs) (P_folder hL hs hi), rc_at (by rw [S_aFo hL hd hi])]
      show cl (m_X2_copyFrom M (some (pk d + (48 + 2 * i))) (some (pk s + (48 + 2 * i)))) _ = _
      rw [v1, cl_some])
    3 0 fu M2 (by omega) (by omega) hL2 trivial
  have hL3 := g3.Lay hL2
  -- the levels
  obtain ⟨M4, f4, g4⟩ := copy_loop (n := 4) (P := fun _ => True) (D := fun i k o => o = 54 + i ∧ (k = 96 ∨ k = 97 ∨ k = 98 ∨ k = 99)) (E := fun i o => o = 54 + i) (B := b_X1_copyFrom_87 (some (pk d)) (some (pk s)) (cpJ4 (pk d) (pk s) fu)) (J := cpJ4 (pk d) (pk s) fu) ha (fun _ _ _ _ _ _ => trivial)
    (fun L M hL hc => by rw [b_X1_copyFrom_87]; exact if_pos (by rw [e4]; exact le_n (by omega) (by omega)))
    (fun L M i hi hL hc => by
      obtain ⟨M1, v1, v2⟩ := cp_level ha (o := 54 + i) (by omega) (S_aLe hL hd hi) (S_aLe hL hs hi)
      refine ⟨M1, ?_, v2⟩
      rw [b_X1_copyFrom_87]
      refine (if_neg (fun h9 : (4 : Int32) ≤ nI i => absurd ((i_le (a := 4) (by omega) (by omega)).mp h9) (by omega))).trans ?_
      dsimp only
      rw [parkCell hL hd hi (by omega) (P_levels hL hd) (S_levels hL hd) (P_level hL hd hi), parkCell hL hs hi (by omega) (P_levels hL hs) (S_levels hL hs) (P_level hL hs hi), rc_at (by rw [S_aLe hL hd hi])]
      show cl (m_X3_copyFrom M (some (pk d + (54 + i))) (some (pk s + (54 + i)))) _ = _
      rw [v1, cl_some])
    4 0 fu M3 (by omega) (by omega) hL3 trivial
  have hL4 := g4.Lay hL3
  have g14 := CI.trans ha (CI.trans ha (CI.trans ha g1 g2) g3) g4
  -- the tickets
  obtain ⟨M5, f5, g5⟩ := copy_loop (n := n) (P := fun M => mI M 38 (pk s + 0) = nI n ∧ ∀ t, t < n → (mI M 263 (pk s + (58 + 2 * t)) = 0 ∨ mI M 263 (pk s + (58 + 2 * t)) = 1) ∧ (mI M 264 (pk s + (58 + 2 * t)) = 0 ∨ mI M 264 (pk s + (58 + 2 * t)) = 1)) (D := fun i k o => (o = 58 + 2 * i ∧ 257 ≤ k ∧ k ≤ 264) ∨ (o = 58 + 2 * i + 1 ∧ 1000 ≤ k ∧ k < 1004)) (E := fun _ => nE) (B := b_X1_copyFrom_115 (some (pk d)) (some (pk s)) (cpJ5 (pk d) (pk s))) (J := cpJ5 (pk d) (pk s)) ha
    (fun D E M M1 hp hc => ⟨(hc.src ha (by omega) 38).1.trans hp.1, fun t ht => by rw [(hc.src ha (o := 58 + 2 * t) (by omega) 263).1, (hc.src ha (o := 58 + 2 * t) (by omega) 264).1]; exact hp.2 t ht⟩)
    (fun L M hL hc => by
      rw [b_X1_copyFrom_115]
      dsimp only
      by_cases h5 : 512 ≤ n
      · rw [e512, if_pos (le_n (by omega) h5)]
      · rw [e512, if_neg (fun h9 => h5 ((i_le (by omega) (by omega)).mp h9)), dI_at (by rw [S_park hL hs])]
        exact if_pos (show mI M 38 (pk s + 0) ≤ nI n by rw [hc.1]; exact le_n (by omega) (by omega)))
    (fun L M i hi hL hc => by
      have eA : ∀ p, aTv p i = p + (58 + 2 * i + 1) := fun p => by unfold aTv; omega
      have hi5 : i < 512 := by omega
      obtain ⟨M1, v1, v2⟩ := cp_ticket hL ha (o := 58 + 2 * i) (by omega) (fun M hL => ⟨S_aTi hL hd hi5, S_aTi hL hs hi5, by rw [← eA]; exact S_aTv hL hd hi5, by rw [← eA]; exact S_aTv hL hs hi5, by rw [← eA]; exact P_aTi hL hd hi5, by rw [← eA]; exact P_aTi hL hs hi5⟩) (hc.2 i hi).1 (hc.2 i hi).2
      refine ⟨M1, ?_, v2⟩
      rw [b_X1_copyFrom_115]
      dsimp only
      rw [e512, if_neg (fun h9 => absurd ((i_le (by omega) (by omega)).mp h9) (by omega)), dI_at (by rw [S_park hL hs])]
      refine (if_neg (show ¬ mI M 38 (pk s + 0) ≤ nI i by rw [hc.1]; exact fun h9 => absurd ((i_le (by omega) (by omega)).mp h9) (by omega))).trans ?_
      rw [parkCell hL hd hi5 (by omega) (P_tickets hL hd) (S_tickets hL hd) (P_ticket hL hd hi5), parkCell hL hs hi5 (by omega) (P_tickets hL hs) (S_tickets hL hs) (P_ticket hL hs hi5), rc_at (by rw [S_aTi hL hd hi5])]
      show cl (m_X8_copyFrom M (some (pk d + (58 + 2 * i))) (some (pk s + (58 + 2 * i)))) _ = _
      rw [v1, cl_some])
    n 0 fu M4 (by omega) (by omega) hL4 ⟨(g14.src ha (by omega) 38).1.trans h38, fun t ht => by rw [(g14.src ha (o := 58 + 2 * t) (by omega) 263).1, (g14.src ha (o := 58 + 2 * t) (by omega) 264).1]; exact hz t ht⟩
  have hL5 := g5.Lay hL4
  -- its own numbers
  obtain ⟨A1, hA1⟩ : ∃ A, A = uI M5 37 (pk d + 0) (mI M5 37 (pk s + 0)) := ⟨_, rfl⟩
  obtain ⟨A2, hA2⟩ : ∃ A, A = uI A1 38 (pk d + 0) (mI A1 38 (pk s + 0)) := ⟨_, rfl⟩
  obtain ⟨A3, hA3⟩ : ∃ A, A = uI A2 39 (pk d + 0) (mI A2 39 (pk s + 0)) := ⟨_, rfl⟩
  have c1 : CI 1082 (pk d) (pk s) (fun k o' => k = 37 ∧ o' = 0) (fun _ => False) M5 A1 := by rw [hA1]; exact CI.set (by omega) (by omega) rfl
  have c2 : CI 1082 (pk d) (pk s) (fun k o' => k = 38 ∧ o' = 0) (fun _ => False) A1 A2 := by rw [hA2]; exact CI.set (by omega) (by omega) rfl
  have c3 : CI 1082 (pk d) (pk s) (fun k o' => k = 39 ∧ o' = 0) (fun _ => False) A2 A3 := by rw [hA3]; exact CI.set (by omega) (by omega) rfl
  have hLA1 := c1.Lay hL5
  have hLA2 := c2.Lay hLA1
  have g := CI.trans ha (CI.trans ha (CI.trans ha (CI.trans ha g14 g5) c1) c2) c3
  refine ⟨A3, ?_, g.mono (fun k o h => ?_) (fun o h => ?_)⟩
  · show lp _ fu (nI 0, M) = _
    rw [f1]
    show lp _ fu (nI 0, M1) = _
    rw [f2]
    show lp _ fu (nI 0, M2) = _
    rw [f3]
    show lp _ fu (nI 0, M3) = _
    rw [f4]
    show lp _ fu (nI 0, M4) = _
    rw [f5]
    show dI M5 1 5 (some (pk s)) _ = _
    rw [dI_at (by rw [S_park hL5 hs]), pI_at (by rw [S_park hL5 hd])]
    show dI (uI M5 37 (pk d + 0) (mI M5 37 (pk s + 0))) 1 6 (some (pk s)) (fun x13 => pI (uI M5 37 (pk d + 0) (mI M5 37 (pk s + 0))) 1 6 (some (pk d)) x13 (fun M14 => dI M14 1 7 (some (pk s)) (fun x15 => pI M14 1 7 (some (pk d)) x15 (fun M16 => rt () M16)))) = _
    rw [← hA1, dI_at (by rw [S_park hLA1 hs]), pI_at (by rw [S_park hLA1 hd])]
    show dI (uI A1 38 (pk d + 0) (mI A1 38 (pk s + 0))) 1 7 (some (pk s)) (fun x15 => pI (uI A1 38 (pk d + 0) (mI A1 38 (pk s + 0))) 1 7 (some (pk d)) x15 (fun M16 => rt () M16)) = _
    rw [← hA2, dI_at (by rw [S_park hLA2 hs]), pI_at (by rw [S_park hLA2 hd]), hA3]; rfl
  · rcases h with ⟨rfl, h1, h2⟩ | ⟨i, h1, h2⟩ | ⟨v, h1, h2, h3, h4⟩ | ⟨f, h1, h2⟩ | ⟨l, h1, h2, h3, h4⟩ | ⟨t, h1, h2⟩
    · rcases (show k = 37 ∨ k = 38 ∨ k = 39 by omega) with e | e | e
      · exact Or.inl (Or.inl (Or.inr ⟨e, rfl⟩))
      · exact Or.inl (Or.inr ⟨e, rfl⟩)
      · exact Or.inr ⟨e, rfl⟩
    · exact Or.inl (Or.inl (Or.inl (Or.inl (Or.inl (Or.inl (Or.inl ⟨i, by omega, h1, h2⟩))))))
    · exact Or.inl (Or.inl (Or.inl (Or.inl (Or.inl (Or.inl (Or.inr ⟨v, by omega, h1, h2, by omega⟩))))))
    · refine Or.inl (Or.inl (Or.inl (Or.inl (Or.inl (Or.inr ⟨f, by omega, h1, ?_⟩)))))
      rcases h2 with h2 | h2
      · exact Or.inl h2
      · exact Or.inr (by omega)
    · exact Or.inl (Or.inl (Or.inl (Or.inl (Or.inr ⟨l, by omega, h1, h2, by omega⟩))))
    · refine Or.inl (Or.inl (Or.inl (Or.inr ⟨t, by omega, h1, ?_⟩)))
      rcases h2 with h2 | h2
      · exact Or.inl h2
      · exact Or.inr (by omega)
  · exact Or.inl (Or.inl (Or.inl (Or.inl (Or.inr ⟨o - 54, by omega, by omega, by omega⟩))))
