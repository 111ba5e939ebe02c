/-! ===== the reference's fee, extend and unit over its units ===== -/
theorem amt_s0 (π : PD) (fr : Nat) : amt π (s0 π fr) = 0 := by
  have := capd_le (π := π) 0
  show 0 + capd π 0 = 0; omega
theorem feeLoop_r {i fr to : Nat} {π : PD} (hi : i < 4) (hπ : GP π) (hf : fr ≤ 100000) (ht : to ≤ 100000) : ∀ (f k fu : Nat) (M : Mem), k + f = 20000 → f < fu → Lay M → PlR M 2180 (10 + 23 * i) π → RefIs M π fr (stn π fr k) (amt π (stn π fr k)) →
    ∃ M', lp (b_X11_feeOf_19 (some 2179) (nI i) (nI fr) (nI to)) fu M = some (nI (amt π (stn π fr (unitsTo π fr to f k))), M') ∧ Sc M M' := by
  intro f
  induction f with
  | zero =>
    intro k fu M hk hfu h hR hm
    obtain ⟨fu, rfl⟩ : ∃ z, fu = z + 1 := ⟨fu - 1, by omega⟩
    have hbd := stn_bd hπ fr k
    have hb := stn_MB hπ hf (show k ≤ 20100 by omega)
    have hs1 := hb.2.1
    rw [lp_succ, b_X11_feeOf_19, dI_at (S1 M h), hm.1, if_pos ((i_le (by omega) (by omega)).mpr (by omega)), dI_at (S1 M h), hm.2.2.2.2]
    exact ⟨M, rfl, Sc.rfl'⟩
  | succ f ih =>
    intro k fu M hk hfu h hR hm
    obtain ⟨fu, rfl⟩ : ∃ z, fu = z + 1 := ⟨fu - 1, by omega⟩
    have hb := stn_MB hπ hf (show k ≤ 20100 by omega)
    have hs1 := hb.2.1
    rw [lp_succ, b_X11_feeOf_19, dI_at (S1 M h), hm.1]
    have e4 : unitsTo π fr to (f + 1) k = (if (stn π fr k).1 < to then unitsTo π fr to f (k + 1) else k) := rfl
    rw [e4]
    by_cases hc : (stn π fr k).1 < to
    · rw [if_neg (fun h9 => absurd ((i_le (by omega) (by omega)).mp h9) (by omega)), if_pos hc, rc_at (S1 M h)]
      obtain ⟨M1, e, g1, g2⟩ := adds_r h hi hR hπ hm hb
      rw [e, cl_some]
      obtain ⟨M2, e3, g3⟩ := ih (k + 1) fu M1 (by omega) (by omega) (g2.Lay h) (hR.of (fun k => g2.R k (by omega))) g1
      exact ⟨M2, e3, g2.trans g3⟩
    · rw [if_pos ((i_le (by omega) (by omega)).mpr (by omega)), if_neg hc, dI_at (S1 M h), hm.2.2.2.2]
      exact ⟨M, rfl, Sc.rfl'⟩
theorem feeOf_r {M : Mem} (h : Lay M) {i fr to : Nat} {π : PD} (hi : i < 4) (hR : PlR M 2180 (10 + 23 * i) π) (hπ : GP π) (hf : fr ≤ to) (ht : to ≤ 100000) :
    ∃ M', m_X11_feeOf M (some 2179) (nI i) (nI fr) (nI to) = some (nI (feeS π fr to), M') ∧ Sc M M' := by
  unfold m_X11_feeOf
  have e1 : m_X11_of M (some 2179) (nI i) 0 = some (nI (pFree π), M) := by rw [show m_X11_of M (some 2179) (nI i) 0 = _ from of_r h hi (w := 0) (by omega)]; exact congrArg (fun z => some (z, M)) hR.1
  have h60 := hπ.1
  rw [rc_at (S1 M h), e1, cl_some, pk_sub hf]
  unfold feeS
  by_cases hc : to - fr ≤ pFree π
  · rw [if_neg (fun h9 => absurd ((i_lt (by omega) (by omega)).mp h9) (by omega)), if_pos hc]
    exact ⟨M, rfl, Sc.rfl'⟩
  · rw [if_pos ((i_lt (by omega) (by omega)).mpr (by omega)), if_neg hc, rc_at (S1 M h)]
    obtain ⟨M1, e2, g1, g2⟩ := begins_r h π fr
    rw [e2, cl_some]
    obtain ⟨M2, e3, g3⟩ := feeLoop_r (fr := fr) (to := to) hi hπ (by omega) ht 20000 0 FU M1 (by omega) (by show 20000 < 1000000; omega) (g2.Lay h) (hR.of (fun k => g2.R k (by omega))) (by show RefIs M1 π fr (s0 π fr) (amt π (s0 π fr)); rw [amt_s0]; exact g1)
    exact ⟨M2, e3, g2.trans g3⟩
def extJ (p1 p2 x4 : Int32) (x7 : Int32) (M8 : Mem) : Option (Int32 × Mem) := dI M8 11 13 (some 2179) (fun (x9 : Int32) => (if x4 < x9 then rc M8 11 (some 2179) (cl (m_X11_of M8 (some 2179) p1 0) (fun (x11 : Int32) (M10 : Mem) => (if (p2 + x11) ≤ x7 then rt x7 M10 else (if (p2 + x11) ≤ 99999 then rt ((p2 + x11)) M10 else rt 99999 M10)))) else rt 99999 M8))
theorem extJ_lo {M : Mem} (h : Lay M) {p1 p2 e : Int32} {am tot : Nat} (ht : mI M 365 2179 = nI tot) (hm : am < 2147483648) (hle : tot ≤ am) : extJ p1 p2 (nI am) e M = some (99999, M) := by
  unfold extJ
  rw [dI_at (S1 M h), ht, if_neg (fun h9 => absurd ((i_lt (by omega) (by omega)).mp h9) (by omega))]; rfl
theorem extJ_hi {M : Mem} (h : Lay M) {i fr e am tot : Nat} {π : PD} (hi : i < 4) (hR : PlR M 2180 (10 + 23 * i) π) (hπ : GP π) (ht : mI M 365 2179 = nI tot) (hm : tot < 2147483648) (hlt : am < tot) (hf : fr ≤ 100000) (he : e ≤ 99999) : extJ (nI i) (nI fr) (nI am) (nI e) M = some (nI (max e (min (fr + pFree π) 99999)), M) := by
  unfold extJ
  have e1 : m_X11_of M (some 2179) (nI i) 0 = some (nI (pFree π), M) := by rw [show m_X11_of M (some 2179) (nI i) 0 = _ from of_r h hi (w := 0) (by omega)]; exact congrArg (fun z => some (z, M)) hR.1
  have h60 := hπ.1
  have e9 : (99999 : Int32) = nI 99999 := rfl
  rw [dI_at (S1 M h), ht, if_pos ((i_lt (by omega) (by omega)).mpr hlt), rc_at (S1 M h), e1, cl_some, nI_add, e9]
  by_cases hc : fr + pFree π ≤ e
  · rw [if_pos ((i_le (by omega) (by omega)).mpr hc)]
    exact congrArg (fun z => some (nI z, M)) (by omega)
  · rw [if_neg (fun h9 => hc ((i_le (by omega) (by omega)).mp h9))]
    by_cases hd : fr + pFree π ≤ 99999
    · rw [if_pos ((i_le (by omega) (by omega)).mpr hd)]
      exact congrArg (fun z => some (nI z, M)) (by omega)
    · rw [if_neg (fun h9 => hd ((i_le (by omega) (by omega)).mp h9))]
      exact congrArg (fun z => some (nI z, M)) (by omega)
theorem extL_end (π : PD) (fr am f k : Nat) (h : 99999 ≤ (stn π fr k).1) : extL π fr am f k = 99999 := by
  cases f with
  | zero => rfl
  | succ f => show (if _ then _ else _) = _; rw [if_neg (by omega)]
theorem extLoop_r {i fr am : Nat} {π : PD} (hi : i < 4) (hπ : GP π) (hf : fr ≤ 100000) (ham : am ≤ 19980000) : ∀ (f k fu : Nat) (M : Mem) (e : Int32), k + f = 20000 → f + 1 < fu → Lay M → PlR M 2180 (10 + 23 * i) π → RefIs M π fr (stn π fr k) (amt π (stn π fr k)) → amt π (stn π fr k) ≤ am →
    ∃ M', lp (b_X11_extend_30 (some 2179) (nI i) (nI fr) (nI am) (extJ (nI i) (nI fr) (nI am))) fu (e, M) = some (nI (extL π fr am f k), M') ∧ Sc M M' := by
  have e9 : (99999 : Int32) = nI 99999 := rfl
  intro f
  induction f with
  | zero =>
    intro k fu M e hk hfu h hR hm hle
    obtain ⟨fu, rfl⟩ : ∃ z, fu = z + 1 := ⟨fu - 1, by omega⟩
    have hbd := stn_bd hπ fr k
    have hb := stn_MB hπ hf (show k ≤ 20100 by omega)
    have hs1 := hb.2.1
    rw [lp_succ, b_X11_extend_30]
    dsimp only
    rw [dI_at (S1 M h), hm.1, e9, if_pos ((i_lt (by omega) (by omega)).mpr (by omega)), extJ_lo h hm.2.2.2.2 (by omega) hle]
    exact ⟨M, rfl, Sc.rfl'⟩
  | succ f ih =>
    intro k fu M e hk hfu h hR hm hle
    obtain ⟨fu, rfl⟩ : ∃ z, fu = z + 1 := ⟨fu - 1, by omega⟩
    have hb := stn_MB hπ hf (show k ≤ 20100 by omega)
    have hb1 := stn_MB hπ hf (show k + 1 ≤ 20100 by omega)
    have hs1 := hb.2.1
    have hs2 := hb1.2.1
    have hbd1 := stn_bd hπ fr (k + 1)
    have ham1 := amt_bd hπ fr (k + 1)
    have hstep : (stn π fr k).1 + 5 ≤ (stn π fr (k + 1)).1 := by
      have hg := (hπ.2.2.2.2.2.2.2 _ (bandIx_spec hπ (stn π fr k).1).1).2.2.1
      show _ ≤ (stn π fr k).1 + pB π (bandIx π (stn π fr k).1) 2; omega
    rw [lp_succ, b_X11_extend_30]
    dsimp only
    rw [dI_at (S1 M h), hm.1, e9]
    by_cases hc : 99999 < (stn π fr k).1
    · rw [if_pos ((i_lt (by omega) (by omega)).mpr hc), extJ_lo h hm.2.2.2.2 (by omega) hle, extL_end π fr am _ k (by omega)]
      exact ⟨M, rfl, Sc.rfl'⟩
    · rw [if_neg (fun h9 => hc ((i_lt (by omega) (by omega)).mp h9)), dI_at (S1 M h), hm.2.2.2.2, if_neg (fun h9 => absurd ((i_lt (by omega) (by omega)).mp h9) (by omega)), dI_at (S1 M h), hm.1, rc_at (S1 M h)]
      obtain ⟨M1, e2, g1, g2⟩ := adds_r h hi hR hπ hm hb
      have h1 := g2.Lay h
      have hR1 : PlR M1 2180 (10 + 23 * i) π := hR.of (fun k => g2.R k (by omega))
      have g1' : RefIs M1 π fr (stn π fr (k + 1)) (amt π (stn π fr (k + 1))) := g1
      rw [e2, cl_some]
      have e4 : extL π fr am (f + 1) k = (if (stn π fr k).1 < 99999 then (if amt π (stn π fr (k + 1)) ≤ am then extL π fr am f (k + 1) else max (stn π fr k).1 (min (fr + pFree π) 99999)) else 99999) := rfl
      by_cases hd : amt π (stn π fr (k + 1)) ≤ am
      · obtain ⟨M2, e3, g3⟩ := ih (k + 1) fu M1 (nI (stn π fr k).1) (by omega) (by omega) h1 hR1 g1' hd
        refine ⟨M2, ?_, g2.trans g3⟩
        rw [e3, e4, if_pos hd]
        by_cases hx : (stn π fr k).1 < 99999
        · rw [if_pos hx]
        · rw [if_neg hx, extL_end π fr am f (k + 1) (by omega)]
      · obtain ⟨fu, rfl⟩ : ∃ z, fu = z + 1 := ⟨fu - 1, by omega⟩
        refine ⟨M1, ?_, g2⟩
        rw [lp_succ, b_X11_extend_30]
        dsimp only
        have hJ := extJ_hi h1 hi hR1 hπ g1'.2.2.2.2 (by omega) (show am < amt π (stn π fr (k + 1)) by omega) hf (show (stn π fr k).1 ≤ 99999 by omega)
        have e5 : extL π fr am (f + 1) k = max (stn π fr k).1 (min (fr + pFree π) 99999) := by
          rw [e4, if_neg hd]
          by_cases hx : (stn π fr k).1 < 99999
          · rw [if_pos hx]
          · rw [if_neg hx]; omega
        rw [e5, dI_at (S1 M1 h1), g1'.1, e9]
        by_cases hy : 99999 < (stn π fr (k + 1)).1
        · rw [if_pos ((i_lt (by omega) (by omega)).mpr hy), hJ]
        · rw [if_neg (fun h9 => hy ((i_lt (by omega) (by omega)).mp h9)), dI_at (S1 M1 h1), g1'.2.2.2.2, if_pos ((i_lt (by omega) (by omega)).mpr (by omega)), hJ]
theorem unitLoop_r {i fr ix : Nat} {π : PD} (hi : i < 4) (hπ : GP π) (hf : fr ≤ 100000) (hix : ix ≤ 99) (J : Mem → Option (Int32 × Mem)) : ∀ (f k fu : Nat) (M : Mem), k + f = ix → f < fu → Lay M → PlR M 2180 (10 + 23 * i) π → RefIs M π fr (stn π fr k) (amt π (stn π fr k)) →
    ∃ M', lp (b_X11_unit_45 (some 2179) (nI i) (nI fr) (nI ix) J) fu (nI k, M) = J M' ∧ RefIs M' π fr (stn π fr ix) (amt π (stn π fr ix)) ∧ Sc M M' := by
  intro f
  induction f with
  | zero =>
    intro k fu M hk hfu h hR hm
    obtain ⟨fu, rfl⟩ : ∃ z, fu = z + 1 := ⟨fu - 1, by omega⟩
    rw [lp_succ, b_X11_unit_45, if_pos ((i_le (by omega) (by omega)).mpr (by omega))]
    have e : k = ix := by omega
    rw [e] at hm
    exact ⟨M, rfl, hm, Sc.rfl'⟩
  | succ f ih =>
    intro k fu M hk hfu h hR hm
    obtain ⟨fu, rfl⟩ : ∃ z, fu = z + 1 := ⟨fu - 1, by omega⟩
    have hb := stn_MB hπ hf (show k ≤ 20100 by omega)
    rw [lp_succ, b_X11_unit_45, if_neg (fun h9 => absurd ((i_le (by omega) (by omega)).mp h9) (by omega)), rc_at (S1 M h)]
    obtain ⟨M1, e, g1, g2⟩ := adds_r h hi hR hπ hm hb
    rw [e, cl_some, nI_1]
    obtain ⟨M2, e3, g3, g4⟩ := ih (k + 1) fu M1 (by omega) (by omega) (g2.Lay h) (hR.of (fun k => g2.R k (by omega))) g1
    exact ⟨M2, e3, g3, g2.trans g4⟩
/-! ===== ranges ===== -/
theorem within_y {M : Mem} {x a b : Int32} (h : a ≤ x ∧ x ≤ b) : m_X10_within M x a b = some (1, M) := by
  unfold m_X10_within
  rw [if_neg (Int32.not_lt.mpr h.1), if_neg (Int32.not_lt.mpr h.2)]; rfl
theorem within_n {M : Mem} {x a b : Int32} (h : ¬ (a ≤ x ∧ x ≤ b)) : m_X10_within M x a b = some (0, M) := by
  unfold m_X10_within
  by_cases h1 : x < a
  · rw [if_pos h1]; rfl
  · by_cases h2 : b < x
    · rw [if_neg h1, if_pos h2]; rfl
    · exact absurd ⟨Int32.not_lt.mp h1, Int32.not_lt.mp h2⟩ h
theorem in_y {M : Mem} {x a b : Int32} (h : a ≤ x ∧ x ≤ b) : m_X11_in M x a b = some (1, M) := by
  unfold m_X11_in
  rw [if_neg (Int32.not_lt.mpr h.1), if_neg (Int32.not_lt.mpr h.2)]; rfl
theorem in_n {M : Mem} {x a b : Int32} (h : ¬ (a ≤ x ∧ x ≤ b)) : m_X11_in M x a b = some (0, M) := by
  unfold m_X11_in
  by_cases h1 : x < a
  · rw [if_pos h1]; rfl
  · by_cases h2 : b < x
    · rw [if_neg h1, if_pos h2]; rfl
    · exact absurd ⟨Int32.not_lt.mp h1, Int32.not_lt.mp h2⟩ h
/-- a number of a range is a natural number of it -/
theorem nat_of {x : Int32} {a b : Nat} (hb : b < 2147483647) (h : nI a ≤ x ∧ x ≤ nI b) (ha : a < 2147483648) : ∃ n, x = nI n ∧ a ≤ n ∧ n ≤ b := by
  rcases pk_ix x (n := b + 1) (by omega) with h1 | h1 | ⟨j, h1, h2⟩
  · have h3 := Int32.lt_iff_toInt_lt.mp h1
    have h4 := Int32.le_iff_toInt_le.mp h.1
    rw [tI a ha] at h4
    have h5 : (0 : Int32).toInt = 0 := by decide
    omega
  · have h3 := Int32.le_iff_toInt_le.mp h1
    have h4 := Int32.le_iff_toInt_le.mp h.2
    rw [tI b (by omega)] at h4
    rw [tI (b + 1) (by omega)] at h3
    omega
  · rw [h2] at h
    exact ⟨j, h2, (i_le ha (by omega)).mp h.1, by omega⟩
