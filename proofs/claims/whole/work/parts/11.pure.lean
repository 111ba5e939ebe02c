def M00 : Mem := (fun _ _ => 0, fun _ _ => 0, fun _ _ => none, fun _ => (999, 0), 0, 0)
theorem law_pure (κ : Cfg) (h : kL κ ≤ 2560) : ∃ M', m_L_law κ M00 = some (1, M') ∧ mN M' ≤ 600000 ∧ mL M' ≤ 7302250 := sorry
