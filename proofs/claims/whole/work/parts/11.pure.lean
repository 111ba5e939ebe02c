def M00 : Mem := (fun _ _ => 0, fun _ _ => 0, fun _ _ => none, fun _ => (999, 0), 0, 0)
theorem law_pure (κ : Cfg) (h : kL κ ≤ 2560) : ∃ M', m_L_law κ M00 = some (1, M') ∧ mN M' ≤ 600000 ∧ mL M' ≤ 7302250 := by
  have h0 : PR 0 0 noS noS M00 := ⟨rfl, rfl, fun a ha => absurd ha (Nat.not_lt_zero a)⟩
  have h1 := h0.alloc (sh := (10, 0)) (sl := 5) rfl
  obtain ⟨A, f1, f2⟩ := build_class h1
  have h2 := f2.alloc (sh := (11, 0)) (sl := 21) rfl
  obtain ⟨B, g1, g2⟩ := build_model h2 (by omega)
  obtain ⟨M', w1, w2⟩ := law_loop (κ := κ) h 513 0 FU B (by omega) (Nat.le_of_lt (Nat.lt_trans (by omega) FU_1000)) (by omega) ⟨0, 0, 0, g2⟩ (by omega)
  refine ⟨M', ?_, w2⟩
  unfold m_L_law
  rw [b_nO h0 (by omega), rc_at (by rw [h1.sh (by omega)]; rfl), f1, cl_some, b_nO f2 (by omega), rc_at (by rw [h2.sh (by omega)]; rfl), g1, cl_some]
  exact w1
