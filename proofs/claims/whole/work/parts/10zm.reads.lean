/-! the reference's loop over the clauses -/
def rJ (M7 : Mem) : Option (Unit × Mem) := dI M7 11 14 (some 2179) (fun (x8 : Int32) => dI M7 11 6 (some 2179) (fun (x9 : Int32) => (if x9 ≤ x8 then rt () M7 else dI M7 11 14 (some 2179) (fun (x10 : Int32) => rc M7 11 (some 2179) (cl (m_X11_fails M7 (some 2179) 3 x10) (fun (_u : Unit) (M11 : Mem) => rt () M11))))))
section RFS5
variable {T : Nat → Nat} {L : Nat} {M0 M : Mem} {i p c e : Nat} {d : PD}
theorem rJ_b (hL0 : Lay M0) (hT0 : TXr T L M0) (h : GF L M0 M i c e) : rJ M = some ((), M) := by
  have hL := h.1.Lay hL0
  have hT := h.1.TX hT0
  unfold rJ
  rw [iR hL (show mI M (32 * 11 + 14) 2179 = _ from rfl), iR hL (show mI M (32 * 11 + 6) 2179 = _ from rfl)]
  by_cases hx : mI M (32 * 11 + 6) 2179 ≤ mI M (32 * 11 + 14) 2179
  · rw [if_pos hx]; rfl
  · rw [if_neg hx, iR hL (show mI M (32 * 11 + 14) 2179 = _ from rfl), rc_at (S1 _ hL), h.fails hL0, cl_some]; rfl
theorem rJ_g (hL0 : Lay M0) (hT0 : TXr T L M0) (h : GS M0 M i p d) (hp : p ≤ L) : rJ M = some ((), if p < L then uI (uI M 368 2179 (nI 3)) 369 2179 (nI p) else M) := by
  have hL := h.1.Lay hL0
  have hT := h.1.TX hT0
  have h90 := hT.1
  have h14 : mI M (32 * 11 + 14) 2179 = nI p := h.2.1
  unfold rJ
  rw [iR hL h14, iR hL (show mI M (32 * 11 + 6) 2179 = nI L from hT.2.2.1)]
  by_cases hx : p < L
  · rw [if_neg (fun h9 => absurd ((i_le (by omega) (by omega)).mp h9) (by omega)), if_pos hx, iR hL h14, rc_at (S1 _ hL), fails_r hL, if_pos (show mI M 368 2179 ≤ 0 by rw [h.2.2.2.1]; decide), cl_some]; rfl
  · rw [if_pos (le_n (by omega) (by omega)), if_neg hx]; rfl
def Oz (L : Nat) (M0 : Mem) (z : Nat × Rz) (x : Option (Unit × Mem)) : Prop := ∃ M1, x = some ((), M1) ∧ (z.2.1 = 0 → GS M0 M1 z.1 z.2.2.2.1 z.2.2.2.2 ∧ GD z.2.2.2.2) ∧ (z.2.1 ≠ 0 → GF L M0 M1 z.1 z.2.1 z.2.2.1)
theorem readloop_r (hL0 : Lay M0) (hT0 : TXr T L M0) : ∀ (k i : Nat) (r : Rz) (fu : Nat) (M : Mem), (r.1 = 0 → GS M0 M i r.2.2.1 r.2.2.2 ∧ r.2.2.1 ≤ L ∧ GD r.2.2.2 ∧ L ≤ k + r.2.2.1) → (r.1 ≠ 0 → GF L M0 M i r.1 r.2.1) → k < fu → Oz L M0 (planQ T L i r (fun p' d' => planP T L k (i + 1) p' d')) (lp (b_X11_reads_24 (some 2179) rJ) fu M) := by
  have h90 := hT0.1
  intro k
  induction k with
  | zero =>
    intro i r fu M h0 h1 hfu
    obtain ⟨fu, rfl⟩ : ∃ z, fu = z + 1 := ⟨fu - 1, by omega⟩
    rw [lp_succ, b_X11_reads_24]
    unfold planQ
    by_cases hr : r.1 = 0
    · obtain ⟨g1, g2, g3, g4⟩ := h0 hr
      have hL := g1.1.Lay hL0
      have hT := g1.1.TX hT0
      have hV : hereV T L r.2.2.1 ≠ 59 := fun h9 => by
        have := (here_eq (c := 59) hT (by omega)).mp h9
        omega
      rw [if_pos hr, if_neg (show ¬ r.2.2.1 < L by omega), iR hL (show mI M (32 * 11 + 16) 2179 = 0 from g1.2.2.2.1), if_neg z00', rc_at (S1 _ hL), here_r hL hT g1.2.1 g2, cl_some, if_pos hV, rJ_g hL0 hT0 g1 g2, if_neg (show ¬ r.2.2.1 < L by omega)]
      exact ⟨M, rfl, fun _ => ⟨g1, g3⟩, fun h9 => absurd hr h9⟩
    · have g := h1 hr
      have hL := g.1.Lay hL0
      rw [if_neg hr, iR hL (show mI M (32 * 11 + 16) 2179 = _ from rfl), if_pos g.ne, rJ_b hL0 hT0 g]
      exact ⟨M, rfl, fun h9 => absurd h9 hr, fun _ => g⟩
  | succ k ih =>
    intro i r fu M h0 h1 hfu
    obtain ⟨fu, rfl⟩ : ∃ z, fu = z + 1 := ⟨fu - 1, by omega⟩
    rw [lp_succ, b_X11_reads_24]
    unfold planQ
    by_cases hr : r.1 = 0
    · obtain ⟨g1, g2, g3, g4⟩ := h0 hr
      have hL := g1.1.Lay hL0
      have hT := g1.1.TX hT0
      rw [if_pos hr, iR hL (show mI M (32 * 11 + 16) 2179 = 0 from g1.2.2.2.1), if_neg z00', rc_at (S1 _ hL), here_r hL hT g1.2.1 g2, cl_some]
      by_cases hlt : r.2.2.1 < L
      · rw [if_pos hlt]
        by_cases h59 : T r.2.2.1 = 59
        · have hV : ¬ hereV T L r.2.2.1 ≠ 59 := fun h9 => h9 ((here_eq (c := 59) hT (by omega)).mpr ⟨hlt, h59⟩)
          have g5 := g1.spot (r.2.2.1 + 1)
          have hLA := g5.1.Lay hL0
          have g6 : GS M0 (uI (uI M 366 2179 (nI (r.2.2.1 + 1))) 367 2179 (nI (i + 1))) (i + 1) (r.2.2.1 + 1) r.2.2.2 := ⟨g5.1.trans (Rfr.set (by omega)), (mI_ne (by omega)).trans g5.2.1, mI_eq, (mI_ne (by omega)).trans g5.2.2.2.1, g5.2.2.2.2.of (fun k => mI_ne (by omega)) (mI_ne (by omega))⟩
          have hLB := g6.1.Lay hL0
          obtain ⟨M2, f1, f2, f3⟩ := clause_r hL0 hT0 g6 g3 (by omega)
          have hR := RG.clause (T := T) h90 g3 (show r.2.2.1 + 1 ≤ L by omega)
          rw [if_pos h59, if_neg hV, iR hL (show mI M (32 * 11 + 14) 2179 = nI r.2.2.1 from g1.2.1), wR hL, nI_1]
          show Oz L M0 _ (dI (uI M 366 2179 (nI (r.2.2.1 + 1))) 11 15 (some 2179) _)
          rw [iR hLA (show mI (uI M 366 2179 (nI (r.2.2.1 + 1))) (32 * 11 + 15) 2179 = nI i from g5.2.2.1), wR hLA, nI_1]
          show Oz L M0 _ (rc (uI (uI M 366 2179 (nI (r.2.2.1 + 1))) 367 2179 (nI (i + 1))) 11 (some 2179) _)
          rw [rc_at (S1 _ hLB), f1, cl_some]
          exact ih (i + 1) (clauseP T L r.2.2.2 (r.2.2.1 + 1)) fu M2 (fun h9 => by
            obtain ⟨w1, w2, w3⟩ := hR.2.2 h9
            exact ⟨f2 h9, w2, w3, by omega⟩) f3 (by omega)
        · have hV : hereV T L r.2.2.1 ≠ 59 := fun h9 => h59 ((here_eq (c := 59) hT (by omega)).mp h9).2
          rw [if_neg h59, if_pos hV, rJ_g hL0 hT0 g1 g2, if_pos hlt]
          exact ⟨_, rfl, fun h9 => absurd h9 (show ¬ (3 = 0) by omega), fun _ => g1.fail g2 g3.2.2.2.2.1 (Or.inl rfl)⟩
      · have hV : hereV T L r.2.2.1 ≠ 59 := fun h9 => hlt ((here_eq (c := 59) hT (by omega)).mp h9).1
        rw [if_neg hlt, if_pos hV, rJ_g hL0 hT0 g1 g2, if_neg hlt]
        exact ⟨M, rfl, fun _ => ⟨g1, g3⟩, fun h9 => absurd hr h9⟩
    · have g := h1 hr
      have hL := g.1.Lay hL0
      rw [if_neg hr, iR hL (show mI M (32 * 11 + 16) 2179 = _ from rfl), if_pos g.ne, rJ_b hL0 hT0 g]
      exact ⟨M, rfl, fun h9 => absurd h9 hr, fun _ => g⟩
theorem reads_r (hL : Lay M) (hT : TXr T L M) (c0 : mI M 1000 2186 = 0) (c1 : mI M 1001 2186 = 0) (c2 : mI M 1002 2186 = 0) (c3 : mI M 1003 2186 = 2000) : Oz L M (planP T L 91 0 0 d00) (m_X11_reads M (some 2179)) := by
  obtain ⟨A, hA⟩ : ∃ A, A = uI (uI (uI (uI M 366 2179 0) 367 2179 0) 368 2179 0) 372 2179 0 := ⟨_, rfl⟩
  have hLA : Lay A := by rw [hA]; exact hL
  have hG : GS M A 0 0 d00 := by
    have cA : Rfr M A := by rw [hA]; exact (((Rfr.set (by omega)).trans (Rfr.set (by omega))).trans (Rfr.set (by omega))).trans (Rfr.set (by omega))
    have i2 : ∀ k, mI A k 2186 = mI M k 2186 := fun k => by rw [hA, mI_ne (by omega), mI_ne (by omega), mI_ne (by omega), mI_ne (by omega)]
    refine ⟨cA, ?_, ?_, ?_, (i2 _).trans c0, (i2 _).trans c1, (i2 _).trans c2, (i2 _).trans c3, ?_, fun b hb => absurd hb (Nat.not_lt_zero b)⟩
    · rw [hA, mI_ne (by omega), mI_ne (by omega), mI_ne (by omega), mI_eq]; rfl
    · rw [hA, mI_ne (by omega), mI_ne (by omega), mI_eq]; rfl
    · rw [hA, mI_ne (by omega), mI_eq]
    · rw [hA, mI_eq]; rfl
  obtain ⟨M2, f1, f2, f3⟩ := clause_r hL hT hG GD00 (Nat.zero_le _)
  have hR := RG.clause (T := T) hT.1 GD00 (Nat.zero_le L)
  have h90 := hT.1
  have key := readloop_r (T := T) (L := L) (M0 := M) hL hT 90 0 (clauseP T L d00 0) FU M2 (fun h9 => by
    obtain ⟨w1, w2, w3⟩ := hR.2.2 h9
    exact ⟨f2 h9, w2, w3, by omega⟩) f3 (Nat.lt_trans (by omega) FU_1000)
  have e : planP T L 91 0 0 d00 = planQ T L 0 (clauseP T L d00 0) (fun p' d' => planP T L 90 (0 + 1) p' d') := rfl
  rw [e]
  have hrun : m_X11_reads M (some 2179) = lp (b_X11_reads_24 (some 2179) rJ) FU M2 := by
    unfold m_X11_reads
    rw [wR hL, wR (hL.uI _ _ _), wR ((hL.uI _ _ _).uI _ _ _), wR (((hL.uI _ _ _).uI _ _ _).uI _ _ _)]
    show rc (uI (uI (uI (uI M 366 2179 0) 367 2179 0) 368 2179 0) 372 2179 0) 11 (some 2179) (cl (m_X11_clause (uI (uI (uI (uI M 366 2179 0) 367 2179 0) 368 2179 0) 372 2179 0) (some 2179)) _) = _
    rw [← hA, rc_at (S1 _ hLA), f1, cl_some, jn_eq]; rfl
  rw [hrun]
  exact key
end RFS5
