/-! ===== the call reportLevels ===== -/
theorem reportLevels_op {cnt n vc m : Nat} {M : Mem} (h : Inv cnt n vc m M) (hc : cnt < 512) : Op cnt M (fun M => m_X10_reportLevels M (some 0)) (fun M => m_X11_reportLevels M (some 2179)) := by
  have hL := h.1
  obtain ⟨z, z1, z2, z3, z4⟩ := h.2.2.2.2.2.2.1
  have hS : mS M 2176 = (7, 0) := hL.S (by omega)
  refine Op.same (M1 := M) (M2 := M) (r := nI z) h hc ?_ (Keep.rfl'.mono (by omega)) ?_ Sc.rfl'
  · show m_X10_reportLevels M _ = _
    unfold m_X10_reportLevels
    rw [dRep hL, dI_at (by rw [hS])]
    exact congrArg (fun w => some (w, M)) z2
  · show m_X11_reportLevels M _ = _
    unfold m_X11_reportLevels
    rw [dI_at (S1 _ hL)]
    exact congrArg (fun w => some (w, M)) z3
