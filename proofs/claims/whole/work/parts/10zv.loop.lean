/-! ===== the law's loop ===== -/
theorem scI_fn {κ : Cfg} {i : Nat} (h : i < kL κ) (hb : i < 2147483648) {β : Type} : (scI κ (nI i) : (Int32 → Option β) → Option β) = fun K => K (kX κ i) := by
  funext K
  unfold scI
  rw [tI i hb, if_pos ⟨by omega, by exact_mod_cast h⟩]; rfl
/-- a step of the loop: on to a memory that keeps -/
def Pst (cnt : Nat) (J : Mem → Option (Int32 × Mem)) (x : Option (Int32 × Mem)) : Prop := ∃ M2, x = J M2 ∧ ∃ n vc m, Inv (cnt + 1) n vc m M2
theorem Pst.ite {cnt : Nat} {J : Mem → Option (Int32 × Mem)} {c : Prop} [Decidable c] {a b : Option (Int32 × Mem)} (h1 : Pst cnt J a) (h2 : Pst cnt J b) : Pst cnt J (if c then a else b) := by
  by_cases hc : c
  · rw [if_pos hc]; exact h1
  · rw [if_neg hc]; exact h2
theorem Pst.op {cnt : Nat} {J : Mem → Option (Int32 × Mem)} {M : Mem} {f g : Mem → Option (Int32 × Mem)} (hz : (mS M 0).1 = 10) (h : Op cnt M f g) : Pst cnt J (rc M 10 (some 0) (cl (f M) (fun (x : Int32) (M1 : Mem) => rc M1 11 (some 2179) (cl (g M1) (fun (y : Int32) (M2 : Mem) => (if x = y then J M2 else rtZ 0 M2)))))) := by
  obtain ⟨r, M1, M2, h1, h2, h3, h4⟩ := h
  refine ⟨M2, ?_, h4⟩
  rw [rc_at hz, h1, cl_some, rc_at h2, h3, cl_some, if_pos rfl]
set_option maxRecDepth 100000 in
set_option maxHeartbeats 4000000 in
theorem law_step {κ : Cfg} {cnt n vc m i : Nat} {M : Mem} (L : Int32 × Mem → Option (Int32 × Mem)) (h : Inv cnt n vc m M) (hc : cnt < 512) (hi : i + 5 ≤ kL κ) (hk : kL κ ≤ 2560) : Pst cnt (fun M11 => L (nI i + 5, M11)) (b_L_law_18 κ (some 0) (some 2179) L (nI i, M)) := by
  have hz : (mS M 0).1 = 10 := by rw [S_zero h.1]
  have hcond : ¬ (Int32.ofNat (kL κ) - 5 < nI i) := by
    intro h9
    have h8 := Int32.lt_iff_toInt_lt.mp h9
    have h7 : (Int32.ofNat (kL κ) - 5).toInt = (kL κ : Int) - 5 := pk_sub_toInt (a := kL κ) (b := 5) (by omega) (by omega)
    rw [h7, tI i (by omega)] at h8
    omega
  have s0 := @scI_fn κ i (by omega) (by omega) (Int32 × Mem)
  have s1 : (scI κ (nI i + 1) : (Int32 → Option (Int32 × Mem)) → Option (Int32 × Mem)) = _ := (congrArg (scI κ) (nI_1 i)).trans (scI_fn (κ := κ) (i := i + 1) (by omega) (by omega))
  have s2 : (scI κ (nI i + 2) : (Int32 → Option (Int32 × Mem)) → Option (Int32 × Mem)) = _ := (congrArg (scI κ) (nI_add i 2)).trans (scI_fn (κ := κ) (i := i + 2) (by omega) (by omega))
  have s3 : (scI κ (nI i + 3) : (Int32 → Option (Int32 × Mem)) → Option (Int32 × Mem)) = _ := (congrArg (scI κ) (nI_add i 3)).trans (scI_fn (κ := κ) (i := i + 3) (by omega) (by omega))
  have s4 : (scI κ (nI i + 4) : (Int32 → Option (Int32 × Mem)) → Option (Int32 × Mem)) = _ := (congrArg (scI κ) (nI_add i 4)).trans (scI_fn (κ := κ) (i := i + 4) (by omega) (by omega))
  obtain ⟨J, hJ⟩ : ∃ J : Mem → Option (Int32 × Mem), J = fun M11 => L (nI i + 5, M11) := ⟨_, rfl⟩
  rw [← hJ]
  unfold b_L_law_18
  dsimp only
  rw [if_neg hcond, s0, ← hJ]
  dsimp only
  rw [jn_eq]
  rw [s1, s2, s3, s4]
  dsimp only
  refine Pst.ite (Pst.op hz (append_op h hc _ _)) ?_
  refine Pst.ite (Pst.op hz (readPlan_op h hc _)) ?_
  refine Pst.ite (Pst.op hz (plan_op h hc _ _)) ?_
  refine Pst.ite (Pst.op hz (band_op h hc _ _ _)) ?_
  refine Pst.ite (Pst.op hz (fee_op h hc _ _ _)) ?_
  refine Pst.ite (Pst.op hz (unit_op h hc _ _ _ _)) ?_
  refine Pst.ite (Pst.op hz (extend_op h hc _ _ _)) ?_
  refine Pst.ite (Pst.op hz (addVoucher_op h hc _ _)) ?_
  refine Pst.ite (Pst.op hz (voucher_op h hc _ _)) ?_
  refine Pst.ite (Pst.op hz (makeFolder_op h hc _ _ _)) ?_
  refine Pst.ite (Pst.op hz (put_op h hc _ _ _)) ?_
  refine Pst.ite (Pst.op hz (inFolder_op h hc _ _)) ?_
  refine Pst.ite (Pst.op hz (enter_op h hc _)) ?_
  refine Pst.ite (Pst.op hz (give_op h hc _ _ _)) ?_
  refine Pst.ite (Pst.op hz (lose_op h hc _)) ?_
  refine Pst.ite (Pst.op hz (due_op h hc _ _)) ?_
  refine Pst.ite (Pst.op hz (pay_op h hc _)) ?_
  refine Pst.ite (Pst.op hz (leave_op h hc _)) ?_
  refine Pst.ite (Pst.op hz (ticket_op h hc _ _)) ?_
  refine Pst.ite (Pst.op hz (step_op h hc _ _)) ?_
  refine Pst.ite (Pst.op hz (advance_op h hc _)) ?_
  refine Pst.ite (Pst.op hz (setCapacity_op h hc _ _)) ?_
  refine Pst.ite (Pst.op hz (level_op h hc _ _)) ?_
  refine Pst.ite (Pst.op hz (forecast_op h hc _ _)) ?_
  refine Pst.ite (Pst.op hz (count_op h hc _)) ?_
  refine Pst.ite (Pst.op hz (reportLevels_op h hc)) ?_
  refine Pst.ite (Pst.op hz (reportCode_op h hc _)) ?_
  refine Pst.ite (Pst.op hz (reportNumber_op h hc _)) ?_
  refine Pst.ite (Pst.op hz (save_op h hc)) ?_
  refine Pst.ite (Pst.op hz (restore_op h hc)) ?_
  exact ⟨M, rfl, n, vc, m, h.keep hc (Keep.rfl'.mono (by omega))⟩
theorem law_loop {κ : Cfg} (hk : kL κ ≤ 2560) : ∀ (k cnt : Nat) (fu : Nat) (M : Mem), kL κ < 5 * cnt + 5 * k → k ≤ fu → 0 < k → (∃ n vc m, Inv cnt n vc m M) → cnt ≤ 512 → ∃ M', lp (b_L_law_18 κ (some 0) (some 2179)) fu (nI (5 * cnt), M) = some (1, M') ∧ mN M' ≤ 600000 ∧ mL M' ≤ 7302250 := by
  intro k
  induction k with
  | zero => intro cnt fu M _ _ h; omega
  | succ k ih =>
    intro cnt fu M h1 h2 _ ⟨n, vc, m, h⟩ hc
    obtain ⟨fu, rfl⟩ : ∃ z, fu = z + 1 := ⟨fu - 1, by omega⟩
    rw [lp_succ]
    by_cases hi : 5 * cnt + 5 ≤ kL κ
    · obtain ⟨M2, f1, f2⟩ := law_step (lp (b_L_law_18 κ (some 0) (some 2179)) fu) h (by omega) hi hk
      have e5 : nI (5 * cnt) + 5 = nI (5 * (cnt + 1)) := (nI_add (5 * cnt) 5).trans (congrArg nI (by omega))
      rw [f1]
      dsimp only
      rw [e5]
      exact ih (cnt + 1) fu M2 (by omega) (by omega) (by omega) f2 (by omega)
    · have hcond : Int32.ofNat (kL κ) - 5 < nI (5 * cnt) := by
        refine Int32.lt_iff_toInt_lt.mpr ?_
        have h7 : (Int32.ofNat (kL κ) - 5).toInt = (kL κ : Int) - 5 := pk_sub_toInt (a := kL κ) (b := 5) (by omega) (by omega)
        rw [h7, tI _ (by omega)]
        omega
      refine ⟨M, ?_, ?_, ?_⟩
      · rw [b_L_law_18]
        exact (if_pos hcond).trans rfl
      · have := h.2.2.1.1; omega
      · have := h.2.2.1.2; omega
