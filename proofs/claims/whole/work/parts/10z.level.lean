/-! ===== the calls level, forecast ===== -/
theorem sub_f {cap cnt : Nat} {x : Int32} (hc : cap ≤ 40) (h1 : x.toInt ≤ cap) (h2 : -(cnt : Int) ≤ x.toInt) (h3 : cnt ≤ 512) : ∃ f : Nat, f ≤ 552 ∧ nI cap - x = nI f ∧ (f : Int) = cap - x.toInt := by
  refine ⟨(cap - x.toInt).toNat, by omega, ?_, by omega⟩
  refine Int32.toInt_inj.mp ?_
  rw [Int32.toInt_sub, tI cap (by omega), tI _ (by omega), Int.bmod_eq_of_le (by omega) (by omega)]
  omega
def scF (f cap : Nat) (r : UInt32) : UInt32 := FP.fdiv (FP.fadd (FP.i2f (nI f)) (FP.fmul r 1056964608)) (FP.i2f (nI cap))
theorem un_2048 : un 1157627904 = 2 ^ 160 := by rw [un_def]; decide +kernel
theorem un_1024 : un 1149239296 = 2 ^ 159 := by rw [un_def]; decide +kernel
theorem un_4096 : un 1166016512 = 2 ^ 161 := by rw [un_def]; decide +kernel
theorem gF.N {r : UInt32} (h : gF r) : fN r := by unfold gF at h; unfold fN; omega
theorem gF.u {r : UInt32} (h : gF r) : uo r ≤ 2 ^ 160 := by rw [← un_2048]; exact un_le.mpr h
theorem sc_ok {f cap : Nat} {r : UInt32} (hf : f ≤ 1024) (h1 : 1 ≤ cap) (hc : cap ≤ 40) (hr : gF r) :
    fN (FP.fmul r 1056964608) ∧ fN (FP.i2f (nI f)) ∧ fN (FP.fadd (FP.i2f (nI f)) (FP.fmul r 1056964608)) ∧ fN (FP.i2f (nI cap)) ∧ uo (FP.i2f (nI cap)) ≠ 0 ∧ fN (scF f cap r) := by
  obtain ⟨a1, a2⟩ := i2f_u (n := f) (by omega)
  obtain ⟨b1, b2⟩ := i2f_u (n := cap) (by omega)
  have c1 : (FP.fmul r 1056964608).toNat ≤ 1149239296 := fmul_le hr.N fN_half (by omega) (by
    rw [uo_half, un_1024, ← Nat.pow_add]
    exact Nat.le_trans (Nat.mul_le_mul_right _ hr.u) (by rw [← Nat.pow_add]; exact Nat.le_refl _))
  have c2 : fN (FP.fmul r 1056964608) := Nat.lt_of_le_of_lt c1 (by decide)
  have c3 : uo (FP.fmul r 1056964608) ≤ 2 ^ 159 := by rw [← un_1024]; exact un_le.mpr c1
  have p1 : (1024 : Nat) * 2 ^ 149 = 2 ^ 159 := by decide +kernel
  have p2 : (2 : Nat) ^ 159 + 2 ^ 159 = 2 ^ 160 := by decide +kernel
  have a3 : uo (FP.i2f (nI f)) ≤ 2 ^ 159 := by rw [a2, ← p1]; exact Nat.mul_le_mul_right _ hf
  have d1 : (FP.fadd (FP.i2f (nI f)) (FP.fmul r 1056964608)).toNat ≤ 1157627904 := fadd_le a1 c2 (by omega) (by rw [un_2048, ← p2]; exact Nat.add_le_add a3 c3)
  have d2 : fN (FP.fadd (FP.i2f (nI f)) (FP.fmul r 1056964608)) := Nat.lt_of_le_of_lt d1 (by decide)
  have b3 : uo (FP.i2f (nI cap)) ≠ 0 := by
    rw [b2]
    exact Nat.ne_of_gt (Nat.mul_pos h1 (Nat.two_pow_pos _))
  refine ⟨c2, a1, d2, b1, b3, ?_⟩
  refine Nat.lt_of_le_of_lt (fdiv_le (m := 1157627904) d2 b1 b3 (by omega) ?_) (by decide)
  rw [b2]
  refine Nat.le_trans (Nat.mul_le_mul_right _ (un_le.mpr d1)) (Nat.mul_le_mul_left _ ?_)
  exact Nat.le_mul_of_pos_left _ h1
theorem score_c {M : Mem} {A f cap : Nat} {x : Int32} {r : UInt32} (hS : mS M A = (3, 0)) (a1 : mI M 96 A = nI cap) (a2 : mI M 97 A = x) (a5 : mF M 100 A = r) (hx : nI cap - x = nI f) (hf : f ≤ 1024) (hc : cap ≤ 40) (hr : gF r) :
    m_X3_score M (some A) = some (if cap = 0 then 0 else scF f cap r, M) := by
  unfold m_X3_score
  rw [dI_at (by rw [hS])]
  show (if mI M 96 A ≤ 0 then _ else _) = _
  rw [a1]
  by_cases h0 : cap = 0
  · rw [if_pos h0, if_pos (by rw [h0]; decide)]; rfl
  · obtain ⟨g1, g2, g3, g4, g5, g6⟩ := sc_ok (f := f) (cap := cap) hf (by omega) hc hr
    rw [if_neg h0, if_neg (fun h9 : nI cap ≤ 0 => absurd ((i_le (b := 0) (by omega) (by omega)).mp h9) (by omega)), rc_at (by rw [hS])]
    unfold m_X3_freePlaces
    rw [dI_at (by rw [hS]), dI_at (by rw [hS])]
    show cl (rt (mI M 96 A - mI M 97 A) M) _ = _
    rw [a1, a2, hx, cl_rt, dF_at (by rw [hS])]
    show o_fmul (mF M 100 A) _ _ = _
    rw [a5, o_fmul_at hr.N fN_half, o_fadd_at g2 g1, dI_at (by rw [hS])]
    show o_fdiv _ (FP.i2f (mI M 96 A)) _ = _
    rw [a1, o_fdiv_at g3 g4 g5]; rfl
theorem score_r {M : Mem} {l f cap : Nat} {x : Int32} {r : UInt32} (hL : Lay M) (hl : l < 4) (b1 : mI M (1000 + (153 + 4 * l)) 2180 = nI cap) (b2 : mI M (1000 + (153 + 4 * l + 1)) 2180 = x) (b5 : mF M (1000 + l) 2182 = r) (hx : nI cap - x = nI f) (hf : f ≤ 1024) (h1 : 1 ≤ cap) (hc : cap ≤ 40) (hr : gF r) :
    m_X11_score M (some 2179) (nI l) = some (scF f cap r, M) := by
  obtain ⟨g1, g2, g3, g4, g5, g6⟩ := sc_ok (f := f) (cap := cap) hf h1 hc hr
  have e0 : m_X11_levelPart M (some 2179) (nI l) 0 = some (nI cap, M) := by
    rw [show m_X11_levelPart M (some 2179) (nI l) 0 = _ from part_r hL hl (j := 0) (by omega)]
    show some (mI M (1000 + (153 + 4 * l)) 2180, M) = _
    rw [b1]
  have e1 : m_X11_levelPart M (some 2179) (nI l) 1 = some (x, M) := by
    rw [show m_X11_levelPart M (some 2179) (nI l) 1 = _ from part_r hL hl (j := 1) (by omega), b2]
  unfold m_X11_score
  rw [rc_at (S1 _ hL), e0, cl_some, rc_at (S1 _ hL), e1, cl_some, dP_at (S1 _ hL)]
  show aF M 102 (mP M 354 2179) (nI l) _ = _
  rw [show mP M 354 2179 = some 2182 from hL.P (by omega) 354, aF_at (show mS M 2182 = (102, 4) from hL.S (by omega)) hl (by omega), b5, o_fmul_at hr.N fN_half, hx, o_fadd_at g2 g1, rc_at (S1 _ hL), e0, cl_some, o_fdiv_at g3 g4 g5]; rfl
theorem level_op {cnt n vc m : Nat} {M : Mem} (h : Inv cnt n vc m M) (hc : cnt < 512) (p w : Int32) : Op cnt M (fun M => m_X10_level M (some 0) p w) (fun M => m_X11_level M (some 2179) p w) := by
  have hL := h.1
  have hP := h.2.2.2.1
  have hn := h.n512
  have hpk : mS M (pk 0) = (1, 0) := S_park hL (by omega)
  have no : ∀ {r : Int32} {g : Mem → Option (Int32 × Mem)}, m_X10_level M (some 0) p w = some (r, M) → g M = some (r, M) → Op cnt M (fun M => m_X10_level M (some 0) p w) g := fun h9 h8 => Op.same h hc h9 (Keep.rfl'.mono (by omega)) h8 Sc.rfl'
  by_cases hp : (0 : Int32) ≤ p ∧ p ≤ 3
  · obtain ⟨l, rfl, -, hl⟩ := nat_of (a := 0) (b := 3) (by omega) hp (by omega)
    have hl4 : l < 4 := by omega
    have hS := S_aLe hL (q := 0) (by omega) hl4
    obtain ⟨cap, ex, x, en, r, g1, g2, g3, g4, g5, d1, d2, d3, d4, d5, c1, c2, c3, c4, c5⟩ := hP.2.2.2.1 l hl4
    obtain ⟨f, f1, f2, f3⟩ := sub_f g1 g4 g3 h.2.1
    have e0 : m_X11_levelPart M (some 2179) (nI l) 0 = some (nI cap, M) := by
      rw [show m_X11_levelPart M (some 2179) (nI l) 0 = _ from part_r hL hl4 (j := 0) (by omega)]
      show some (mI M (1000 + (153 + 4 * l)) 2180, M) = _
      rw [c1]
    have e1 : m_X11_levelPart M (some 2179) (nI l) 1 = some (x, M) := by
      rw [show m_X11_levelPart M (some 2179) (nI l) 1 = _ from part_r hL hl4 (j := 1) (by omega), c2]
    have e2 : m_X11_levelPart M (some 2179) (nI l) 2 = some (nI ex, M) := by
      rw [show m_X11_levelPart M (some 2179) (nI l) 2 = _ from part_r hL hl4 (j := 2) (by omega), c3]
    have e3 : m_X11_levelPart M (some 2179) (nI l) 3 = some (en, M) := by
      rw [show m_X11_levelPart M (some 2179) (nI l) 3 = _ from part_r hL hl4 (j := 3) (by omega), c4]
    have hsc := score_c hS d1 d2 d5 f2 (by omega) g1 g5
    have hA : ∀ {u : Int32}, ((0 : Int32) ≤ w ∧ w ≤ 5) → m_X3_property M (some (aLe (pk 0) l)) w = some (u, M) → m_X10_level M (some 0) (nI l) w = some (u, M) := by
      intro u hw hu
      unfold m_X10_level
      rw [dPark hL, rc_at (by rw [hpk]), levelAt_y hL (by omega), cl_some, if_neg (by simp), within_y hw, cl_some, if_pos (by decide), rc_at (by rw [hS]), hu]; rfl
    by_cases hw : (0 : Int32) ≤ w ∧ w ≤ 5
    · obtain ⟨j, rfl, -, hj⟩ := nat_of (a := 0) (b := 5) (by omega) hw (by omega)
      rcases (show j = 0 ∨ j = 1 ∨ j = 2 ∨ j = 3 ∨ j = 4 ∨ j = 5 by omega) with rfl | rfl | rfl | rfl | rfl | rfl
      · refine no (r := nI cap) (hA hw ?_) ?_
        · unfold m_X3_property
          rw [if_pos (by decide), dI_at (by rw [hS])]
          exact congrArg (fun z => some (z, M)) d1
        · show m_X11_level M _ _ _ = _
          unfold m_X11_level
          rw [in_y hp, cl_some, if_pos (by decide), if_pos (by decide), rc_at (S1 _ hL), e0]; rfl
      · refine no (r := x) (hA hw ?_) ?_
        · unfold m_X3_property
          rw [if_neg (by decide), if_pos (by decide), dI_at (by rw [hS])]
          exact congrArg (fun z => some (z, M)) d2
        · show m_X11_level M _ _ _ = _
          unfold m_X11_level
          rw [in_y hp, cl_some, if_pos (by decide), if_neg (by decide), if_pos (by decide), rc_at (S1 _ hL), e1]; rfl
      · refine no (r := r.toInt32) (hA hw ?_) ?_
        · unfold m_X3_property
          rw [if_neg (by decide), if_neg (by decide), if_pos (by decide), dF_at (by rw [hS])]
          show cl (m_X10_bitsOf M (mF M 100 (aLe (pk 0) l))) _ = _
          rw [d5, bitsOf_c g5.N]; rfl
        · show m_X11_level M _ _ _ = _
          unfold m_X11_level
          rw [in_y hp, cl_some, if_pos (by decide), if_neg (by decide), if_neg (by decide), if_pos (by decide), dP_at (S1 _ hL)]
          show aF M 102 (mP M 354 2179) (nI l) _ = _
          rw [show mP M 354 2179 = some 2182 from hL.P (by omega) 354, aF_at (show mS M 2182 = (102, 4) from hL.S (by omega)) hl4 (by omega), c5, floatBits_r g5.N]; rfl
      · refine no (r := if cap = 0 then 0 else (scF f cap r).toInt32) (hA hw ?_) ?_
        · unfold m_X3_property
          rw [if_neg (by decide), if_neg (by decide), if_neg (by decide), if_pos (by decide), rc_at (by rw [hS]), hsc, cl_some]
          by_cases h0 : cap = 0
          · rw [if_pos h0, if_pos h0, bitsOf_c (by unfold fN; decide)]; rfl
          · rw [if_neg h0, if_neg h0, bitsOf_c (sc_ok (f := f) (cap := cap) (by omega) (by omega) g1 g5).2.2.2.2.2]; rfl
        · show m_X11_level M _ _ _ = _
          unfold m_X11_level
          rw [in_y hp, cl_some, if_pos (by decide), if_neg (by decide), if_neg (by decide), if_neg (by decide), if_pos (by decide), rc_at (S1 _ hL), e0, cl_some]
          by_cases h0 : cap = 0
          · rw [if_pos h0, if_neg (fun h9 => h9 (by rw [h0]; rfl))]; rfl
          · rw [if_neg h0, if_pos (show nI cap ≠ 0 from fun h9 => h0 ((i_eq (b := 0) (by omega) (by omega)).mp h9)), rc_at (S1 _ hL), score_r hL hl4 c1 c2 c5 f2 (by omega) (by omega) g1 g5, cl_some, floatBits_r (sc_ok (f := f) (cap := cap) (by omega) (by omega) g1 g5).2.2.2.2.2]; rfl
      · refine no (r := nI ex) (hA hw ?_) ?_
        · unfold m_X3_property
          rw [if_neg (by decide), if_neg (by decide), if_neg (by decide), if_neg (by decide), if_pos (by decide), dI_at (by rw [hS])]
          exact congrArg (fun z => some (z, M)) d3
        · show m_X11_level M _ _ _ = _
          unfold m_X11_level
          rw [in_y hp, cl_some, if_pos (by decide), if_neg (by decide), if_neg (by decide), if_neg (by decide), if_neg (by decide), if_pos (by decide), rc_at (S1 _ hL), e2]; rfl
      · refine no (r := en) (hA hw ?_) ?_
        · unfold m_X3_property
          rw [if_neg (by decide), if_neg (by decide), if_neg (by decide), if_neg (by decide), if_neg (by decide), dI_at (by rw [hS])]
          exact congrArg (fun z => some (z, M)) d4
        · show m_X11_level M _ _ _ = _
          unfold m_X11_level
          rw [in_y hp, cl_some, if_pos (by decide), if_neg (by decide), if_neg (by decide), if_neg (by decide), if_neg (by decide), if_neg (by decide), if_pos (by decide), rc_at (S1 _ hL), e3]; rfl
    · have hk : ∀ j : Nat, j ≤ 5 → ¬ w = nI j := fun j hj h9 => hw (by rw [h9]; exact ⟨le_n (a := 0) (by omega) (by omega), le_n (b := 5) (by omega) (by omega)⟩)
      refine no (r := -2) ?_ ?_
      · unfold m_X10_level
        rw [dPark hL, rc_at (by rw [hpk]), levelAt_y hL (by omega), cl_some, if_neg (by simp), within_n hw, cl_some, if_neg (by decide)]; rfl
      · show m_X11_level M _ _ _ = _
        unfold m_X11_level
        rw [in_y hp, cl_some, if_pos (by decide), if_neg (show ¬ w = 0 from hk 0 (by omega)), if_neg (show ¬ w = 1 from hk 1 (by omega)), if_neg (show ¬ w = 2 from hk 2 (by omega)), if_neg (show ¬ w = 3 from hk 3 (by omega)), if_neg (show ¬ w = 4 from hk 4 (by omega)), if_neg (show ¬ w = 5 from hk 5 (by omega))]; rfl
  · refine no (r := -2) ?_ ?_
    · unfold m_X10_level
      rw [dPark hL, rc_at (by rw [hpk]), levelAt_n hp, cl_some, if_pos rfl]; rfl
    · show m_X11_level M _ _ _ = _
      unfold m_X11_level
      rw [in_n hp, cl_some, if_neg (by decide)]; rfl
theorem fcast_ok (x : Int32) {r : UInt32} {z : Nat} (hr : gF r) (hz : z ≤ 600) : fN (FP.i2f (nI z)) ∧ fN (FP.fmul r (FP.i2f (nI z))) ∧ FP.Core.fIsNaN (FP.fdiv (FP.fmul r (FP.i2f (nI z))) 1114636288) = false := by
  obtain ⟨a1, a2⟩ := i2f_u (n := z) (by omega)
  have p1 : (2 : Nat) ^ 160 * (600 * 2 ^ 149) ≤ 2 ^ 254 * 2 ^ 149 := by decide +kernel
  have p2 : un 1946157056 = 2 ^ 254 := by rw [un_def]; decide +kernel
  have c1 : (FP.fmul r (FP.i2f (nI z))).toNat ≤ 1946157056 := fmul_le hr.N a1 (by omega) (by
    rw [p2, a2]
    exact Nat.le_trans (Nat.mul_le_mul hr.u (Nat.mul_le_mul_right _ hz)) p1)
  have c2 : fN (FP.fmul r (FP.i2f (nI z))) := Nat.lt_of_le_of_lt c1 (by decide)
  have k1 : fN 1114636288 := by unfold fN; decide
  exact ⟨a1, c2, FP.Core.fdiv_out ((FP.Core.notNaN_iff32 _).mpr c2.nn) k1.FF (uo_ne (by show un 1114636288 ≠ 0; rw [un_def]; decide +kernel) k1)⟩
theorem forecast_op {cnt n vc m : Nat} {M : Mem} (h : Inv cnt n vc m M) (hc : cnt < 512) (p w : Int32) : Op cnt M (fun M => m_X10_forecast M (some 0) p w) (fun M => m_X11_forecast M (some 2179) p w) := by
  have hL := h.1
  have hP := h.2.2.2.1
  have hpk : mS M (pk 0) = (1, 0) := S_park hL (by omega)
  have no : ∀ {r : Int32} {g : Mem → Option (Int32 × Mem)}, m_X10_forecast M (some 0) p w = some (r, M) → g M = some (r, M) → Op cnt M (fun M => m_X10_forecast M (some 0) p w) g := fun h9 h8 => Op.same h hc h9 (Keep.rfl'.mono (by omega)) h8 Sc.rfl'
  by_cases hp : (0 : Int32) ≤ p ∧ p ≤ 3
  · obtain ⟨l, rfl, -, hl⟩ := nat_of (a := 0) (b := 3) (by omega) hp (by omega)
    have hl4 : l < 4 := by omega
    have hS := S_aLe hL (q := 0) (by omega) hl4
    obtain ⟨cap, ex, x, en, r, g1, g2, g3, g4, g5, d1, d2, d3, d4, d5, c1, c2, c3, c4, c5⟩ := hP.2.2.2.1 l hl4
    by_cases hw : (0 : Int32) ≤ w ∧ w ≤ 600
    · obtain ⟨z, rfl, -, hz⟩ := nat_of (a := 0) (b := 600) (by omega) hw (by omega)
      obtain ⟨k1, k2, k3⟩ := fcast_ok x g5 hz
      have k4 : fN 1114636288 := by unfold fN; decide
      have k5 : uo 1114636288 ≠ 0 := by show un 1114636288 ≠ 0; rw [un_def]; decide +kernel
      have e1 : m_X11_levelPart M (some 2179) (nI l) 1 = some (x, M) := by
        rw [show m_X11_levelPart M (some 2179) (nI l) 1 = _ from part_r hL hl4 (j := 1) (by omega), c2]
      obtain ⟨y, hy⟩ : ∃ y, y = FP.f2i (FP.fsub (FP.i2f x) (FP.fdiv (FP.fmul r (FP.i2f (nI z))) 1114636288)) := ⟨_, rfl⟩
      refine no (r := imax 0 y) ?_ ?_
      · unfold m_X10_forecast
        rw [dPark hL, rc_at (by rw [hpk]), levelAt_y hL (by omega), cl_some, if_neg (by simp), within_y hw, cl_some, if_pos (by decide), rc_at (by rw [hS])]
        unfold m_X3_carsAfter
        rw [dI_at (by rw [hS]), dF_at (by rw [hS])]
        show cl (o_fmul (mF M 100 (aLe (pk 0) l)) _ (fun r3 => o_fdiv r3 _ (fun r4 => o_fsub (FP.i2f (mI M 97 (aLe (pk 0) l))) r4 _))) _ = _
        rw [d5, d2, o_fmul_at g5.N k1, o_fdiv_at k2 k4 k5, o_fsub_at (i2f_FF x) k3, ← hy]; rfl
      · show m_X11_forecast M _ _ _ = _
        unfold m_X11_forecast
        rw [in_y hp, cl_some, if_neg (by decide), in_y hw, cl_some, if_pos (by decide), rc_at (S1 _ hL), e1, cl_some, dP_at (S1 _ hL)]
        show aF M 102 (mP M 354 2179) (nI l) _ = _
        rw [show mP M 354 2179 = some 2182 from hL.P (by omega) 354, aF_at (show mS M 2182 = (102, 4) from hL.S (by omega)) hl4 (by omega), c5, o_fmul_at g5.N k1, o_fdiv_at k2 k4 k5, o_fsub_at (i2f_FF x) k3, ← hy]
        have e9 : imax 0 y = if (0 : Int32) ≤ y then y else 0 := by
          unfold imax
          by_cases h0 : (0 : Int32) < y
          · rw [if_pos h0, if_pos (Int32.le_of_lt h0)]
          · rw [if_neg h0]
            by_cases h1 : (0 : Int32) ≤ y
            · rw [if_pos h1]; exact Int32.le_antisymm h1 (Int32.not_lt.mp h0)
            · rw [if_neg h1]
        rw [e9]
        by_cases h0 : (0 : Int32) ≤ y
        · rw [if_pos h0, if_pos h0]; rfl
        · rw [if_neg h0, if_neg h0]; rfl
    · refine no (r := -2) ?_ ?_
      · unfold m_X10_forecast
        rw [dPark hL, rc_at (by rw [hpk]), levelAt_y hL (by omega), cl_some, if_neg (by simp), within_n hw, cl_some, if_neg (by decide)]; rfl
      · show m_X11_forecast M _ _ _ = _
        unfold m_X11_forecast
        rw [in_y hp, cl_some, if_neg (by decide), in_n hw, cl_some, if_neg (by decide)]; rfl
  · refine no (r := -2) ?_ ?_
    · unfold m_X10_forecast
      rw [dPark hL, rc_at (by rw [hpk]), levelAt_n hp, cl_some, if_pos rfl]; rfl
    · show m_X11_forecast M _ _ _ = _
      unfold m_X11_forecast
      rw [in_n hp, cl_some, if_pos rfl]; rfl
