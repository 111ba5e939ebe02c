def Outr (L : Nat) (M0 : Mem) (i : Nat) (r : Rz) (x : Option (Unit × Mem)) : Prop := ∃ M1, x = some ((), M1) ∧ (r.1 = 0 → GS M0 M1 i r.2.2.1 r.2.2.2) ∧ (r.1 ≠ 0 → GF L M0 M1 i r.1 r.2.1)
theorem Outr.bad {L : Nat} {M0 M1 : Mem} {i c e : Nat} (h : GF L M0 M1 i c e) : Outr L M0 i (badR c e) (some ((), M1)) := ⟨M1, rfl, fun h9 => by have := h.2.2.2.2.2.1; have h8 : c = 0 := h9; omega, fun _ => h⟩
def bTl (x15 : Int32) (M16 : Mem) : Option (Unit × Mem) := dI M16 11 20 (some 2179) (fun (x17 : Int32) => jn (fun (M19 : Mem) => dI M19 11 16 (some 2179) (fun (x20 : Int32) => (if x20 ≤ 0 then lp (b_X11_band_158 (some 2179)) FU (0, M19) else rt () M19))) (fun (J148_17 : Mem → Option (Unit × Mem)) => jn (fun (M31 : Mem) => dP M31 11 19 (some 2179) (fun (q32 : Option Nat) => aI M31 100 q32 0 (fun (x33 : Int32) => rc M31 11 (some 2179) (cl (m_X11_fails M31 (some 2179) 4 x33) (fun (_u : Unit) (M34 : Mem) => J148_17 M34))))) (fun (J137_29 : Mem → Option (Unit × Mem)) => (if x17 = 6 then J137_29 M16 else (if x15 ≠ 0 then J148_17 M16 else J137_29 M16)))))
def bFin (M9 : Mem) : Option (Unit × Mem) := dI M9 11 20 (some 2179) (fun (x10 : Int32) => jn (fun (x12 : Int32) (M13 : Mem) => jn (fun (x15 : Int32) (M16 : Mem) => bTl x15 M16) (fun (J123_13 : Int32 → Mem → Option (Unit × Mem)) => (if x12 = 0 then dP M13 11 19 (some 2179) (fun (q35 : Option Nat) => aI M13 100 q35 0 (fun (x36 : Int32) => dP M13 11 18 (some 2179) (fun (q37 : Option Nat) => dI M13 11 20 (some 2179) (fun (x38 : Int32) => aI M13 100 q37 (((5 + (3 * x38)) - 3)) (fun (x39 : Int32) => (if x36 ≤ x39 then J123_13 0 M13 else J123_13 1 M13)))))) else dP M13 11 19 (some 2179) (fun (q40 : Option Nat) => aI M13 100 q40 0 (fun (x41 : Int32) => (if x41 ≠ 0 then J123_13 0 M13 else J123_13 1 M13)))))) (fun (J72_10 : Int32 → Mem → Option (Unit × Mem)) => (if x10 ≠ 0 then J72_10 0 M9 else J72_10 1 M9)))
def bK3 (M6 : Mem) : Option (Unit × Mem) := rc M6 11 (some 2179) (cl (m_X11_ranges M6 (some 2179) 0 0 1439) (fun (_u : Unit) (M7 : Mem) => rc M7 11 (some 2179) (cl (m_X11_ranges M7 (some 2179) 1 0 999) (fun (_u : Unit) (M8 : Mem) => rc M8 11 (some 2179) (cl (m_X11_ranges M8 (some 2179) 2 5 240) (fun (_u : Unit) (M9 : Mem) => bFin M9))))))
def bK2 (M4 : Mem) : Option (Unit × Mem) := rc M4 11 (some 2179) (cl (m_X11_must M4 (some 2179) 44) (fun (_u : Unit) (M5 : Mem) => rc M5 11 (some 2179) (cl (m_X11_number M5 (some 2179) 2) (fun (_u : Unit) (M6 : Mem) => bK3 M6))))
def bK1 (M2 : Mem) : Option (Unit × Mem) := rc M2 11 (some 2179) (cl (m_X11_must M2 (some 2179) 44) (fun (_u : Unit) (M3 : Mem) => rc M3 11 (some 2179) (cl (m_X11_number M3 (some 2179) 1) (fun (_u : Unit) (M4 : Mem) => bK2 M4))))
theorem band_un (M : Mem) : m_X11_band M (some 2179) = rc M 11 (some 2179) (cl (m_X11_must M (some 2179) 32) (fun (_u : Unit) (M1 : Mem) => rc M1 11 (some 2179) (cl (m_X11_number M1 (some 2179) 0) (fun (_u : Unit) (M2 : Mem) => bK1 M2)))) := rfl
section RFS3
variable {T : Nat → Nat} {L : Nat} {M0 M : Mem} {i p c e : Nat} {d : PD}
theorem amount_r (hL0 : Lay M0) (hT0 : TXr T L M0) (h : GS M0 M i p d) (hp : p ≤ L) (hd : pCnt d ≤ 6) {w hi : Nat} (hw : w < 23) (hhi : hi ≤ 9999) (K : Nat → PD) (hK : ∀ M1 q v, GS M0 M1 i q d → GS M0 (uI M1 (1000 + w) 2186 (nI v)) i q (K v)) : Outr L M0 i (settingP (stepN T L 32 p) hi K) (m_X11_amount M (some 2179) (nI w) (nI hi)) := by
  obtain ⟨s1, s2, s3, s4, s5⟩ := stepN_le (T := T) (c := 32) hp
  obtain ⟨M1, f1, f2, f3⟩ := step_r hL0 hT0 h hp hd (j := 0) (x := 32) (by omega) (by omega)
  have e : m_X11_amount M (some 2179) (nI w) (nI hi) = rc M1 11 (some 2179) (cl (m_X11_ranges M1 (some 2179) (nI 0) (nI 0) (nI hi)) (fun (_u : Unit) (M3 : Mem) => dI M3 11 16 (some 2179) (fun (x4 : Int32) => (if x4 ≠ 0 then rt () M3 else dP M3 11 18 (some 2179) (fun (q5 : Option Nat) => dP M3 11 19 (some 2179) (fun (q6 : Option Nat) => aI M3 100 q6 0 (fun (x7 : Int32) => sI M3 100 q5 (nI w) x7 (fun (M8 : Mem) => rt () M8)))))))) := by
    unfold m_X11_amount
    exact f1 _
  rw [e]
  unfold settingP
  by_cases h0 : (stepN T L 32 p).1 = 0
  · obtain ⟨g1, g2, g3⟩ := f2 h0
    have hL1 := g1.1.Lay hL0
    rw [if_pos h0, rc_at (S1 _ hL1), range_g hL0 g1 s4 hd (j := 0) (a := 0) (by omega) s3 (by omega) hhi g2, cl_some]
    by_cases h1 : (stepN T L 32 p).2.2.1 ≤ hi
    · rw [if_pos h1, if_pos (show 0 ≤ (stepN T L 32 p).2.2.1 ∧ (stepN T L 32 p).2.2.1 ≤ hi from ⟨by omega, h1⟩), iR hL1 (show mI M1 (32 * 11 + 16) 2179 = 0 from g1.2.2.2.1), if_neg z00', dR18 hL1, dR19 hL1, show aI M1 100 (some 2187) 0 _ = _ from aI_at (i := 0) (S87 hL1) (by omega) (by omega), g2, sI_at (S86 hL1) hw (by omega)]
      exact ⟨_, rfl, fun _ => hK M1 _ _ g1, fun h9 => absurd rfl h9⟩
    · have hf := g1.fail (e := (stepN T L 32 p).2.2.1) (c := 4) s4 hd (Or.inr rfl)
      rw [if_neg h1, if_neg (show ¬ (0 ≤ (stepN T L 32 p).2.2.1 ∧ (stepN T L 32 p).2.2.1 ≤ hi) from fun h9 => h1 h9.2), iR (hf.1.Lay hL0) (show mI _ (32 * 11 + 16) 2179 = _ from rfl), if_pos hf.ne]
      exact Outr.bad hf
  · have hf := f3 h0
    have hL1 := hf.1.Lay hL0
    rw [if_neg h0, rc_at (S1 _ hL1), range_b hL0 hf (by omega), cl_some, iR hL1 (show mI M1 (32 * 11 + 16) 2179 = _ from rfl), if_pos hf.ne]
    exact Outr.bad hf
/-- once failed, the band's rest changes nothing -/
theorem bTl_b (hL0 : Lay M0) (h : GF L M0 M i c e) (x : Int32) : bTl x M = some ((), M) := by
  have hL := h.1.Lay hL0
  have hJ : dI M 11 16 (some 2179) (fun (x20 : Int32) => (if x20 ≤ 0 then lp (b_X11_band_158 (some 2179)) FU (0, M) else rt () M)) = some ((), M) := by
    rw [iR hL (show mI M (32 * 11 + 16) 2179 = _ from rfl)]
    exact (if_neg h.pos).trans rfl
  have hF : dP M 11 19 (some 2179) (fun (q32 : Option Nat) => aI M 100 q32 0 (fun (x33 : Int32) => rc M 11 (some 2179) (cl (m_X11_fails M (some 2179) 4 x33) (fun (_u : Unit) (M34 : Mem) => dI M34 11 16 (some 2179) (fun (x20 : Int32) => (if x20 ≤ 0 then lp (b_X11_band_158 (some 2179)) FU (0, M34) else rt () M34)))))) = some ((), M) := by
    rw [dR19 hL, show aI M 100 (some 2187) 0 _ = _ from aI_at (i := 0) (S87 hL) (by omega) (by omega), rc_at (S1 _ hL), h.fails hL0, cl_some]
    exact hJ
  unfold bTl
  rw [iR hL (show mI M (32 * 11 + 20) 2179 = _ from rfl), jn_eq, jn_eq]
  by_cases h6 : mI M (32 * 11 + 20) 2179 = 6
  · rw [if_pos h6]; exact hF
  · rw [if_neg h6]
    by_cases hx : x ≠ 0
    · rw [if_pos hx]; exact hJ
    · rw [if_neg hx]; exact hF
theorem bFin_b (hL0 : Lay M0) (h : GF L M0 M i c e) : bFin M = some ((), M) := by
  have hL := h.1.Lay hL0
  obtain ⟨n, hn, h372⟩ := h.2.2.2.2.2.2
  have h372' : mI M (32 * 11 + 20) 2179 = nI n := h372
  unfold bFin
  rw [iR hL h372', jn_eq]
  by_cases h0 : n = 0
  · rw [if_neg (show ¬ nI n ≠ 0 from fun h9 => h9 (by rw [h0]; rfl))]
    dsimp only
    rw [jn_eq, if_neg z10, dR19 hL, show aI M 100 (some 2187) 0 _ = _ from aI_at (i := 0) (S87 hL) (by omega) (by omega)]
    by_cases hx : mI M (1000 + 0) 2187 ≠ 0
    · rw [if_pos hx]; exact bTl_b hL0 h _
    · rw [if_neg hx]; exact bTl_b hL0 h _
  · have e5 : (5 : Int32) = nI 5 := rfl
    have e3 : (3 : Int32) = nI 3 := rfl
    rw [if_pos (show nI n ≠ 0 from fun h9 => h0 ((i_eq (b := 0) (by omega) (by omega)).mp h9))]
    dsimp only
    rw [jn_eq, if_pos z00, dR19 hL, show aI M 100 (some 2187) 0 _ = _ from aI_at (i := 0) (S87 hL) (by omega) (by omega), dR18 hL, iR hL h372', e5, e3, pk_mul, nI_add, pk_sub (by omega), aI_at (S86 hL) (by omega) (by omega)]
    by_cases hx : mI M (1000 + 0) 2187 ≤ mI M (1000 + (5 + 3 * n - 3)) 2186
    · rw [if_pos hx]; exact bTl_b hL0 h _
    · rw [if_neg hx]; exact bTl_b hL0 h _
theorem bK3_b (hL0 : Lay M0) (h : GF L M0 M i c e) : bK3 M = some ((), M) := by
  have hL := h.1.Lay hL0
  unfold bK3
  rw [rc_at (S1 _ hL), show m_X11_ranges M (some 2179) 0 0 1439 = _ from range_b (j := 0) hL0 h (by omega) _ _, cl_some, rc_at (S1 _ hL), show m_X11_ranges M (some 2179) 1 0 999 = _ from range_b (j := 1) hL0 h (by omega) _ _, cl_some, rc_at (S1 _ hL), show m_X11_ranges M (some 2179) 2 5 240 = _ from range_b (j := 2) hL0 h (by omega) _ _, cl_some]
  exact bFin_b hL0 h
theorem bK2_b (hL0 : Lay M0) (hT0 : TXr T L M0) (h : GF L M0 M i c e) : ∃ M1, bK2 M = some ((), M1) ∧ GF L M0 M1 i c e := by
  obtain ⟨M1, f1, f2⟩ := step_b hL0 hT0 h (j := 2) (x := 44) (by omega)
  exact ⟨M1, (f1 (fun _ M6 => bK3 M6)).trans (bK3_b hL0 f2), f2⟩
theorem bK1_b (hL0 : Lay M0) (hT0 : TXr T L M0) (h : GF L M0 M i c e) : ∃ M1, bK1 M = some ((), M1) ∧ GF L M0 M1 i c e := by
  obtain ⟨M1, f1, f2⟩ := step_b hL0 hT0 h (j := 1) (x := 44) (by omega)
  obtain ⟨M2, g1, g2⟩ := bK2_b hL0 hT0 f2
  exact ⟨M2, (f1 (fun _ M4 => bK2 M4)).trans g1, g2⟩
/-- the band goes into the draft -/
theorem addB_r (hL0 : Lay M0) (h : GS M0 M i p d) (hd : pCnt d < 6) {v0 v1 v2 : Nat} (n0 : mI M 1000 2187 = nI v0) (n1 : mI M 1001 2187 = nI v1) (n2 : mI M 1002 2187 = nI v2) : ∃ M1, lp (b_X11_band_158 (some 2179)) FU (0, M) = some ((), M1) ∧ GS M0 M1 i p (addB d v0 v1 v2) := by
  have hL := h.1.Lay hL0
  obtain ⟨r1, r2, r3, r4, r5, r6⟩ := h.2.2.2.2
  obtain ⟨fu, hfu⟩ : ∃ z, FU = z + 4 := ⟨FU - 4, by have := FU_1000; omega⟩
  have e5 : (5 : Int32) = nI 5 := rfl
  have e3 : (3 : Int32) = nI 3 := rfl
  have e0 : (0 : Int32) = nI 0 := rfl
  have one : ∀ (M : Mem) (fu j : Nat) (v : Nat), Lay M → j < 3 → mI M 372 2179 = nI (pCnt d) → mI M (1000 + j) 2187 = nI v → lp (b_X11_band_158 (some 2179)) (fu + 1) (nI j, M) = lp (b_X11_band_158 (some 2179)) fu (nI (j + 1), uI M (1000 + (5 + 3 * pCnt d + j)) 2186 (nI v)) := by
    intro M fu j v hL hj h372 hv
    rw [lp_succ, b_X11_band_158]
    dsimp only
    rw [if_neg (show ¬ (3 : Int32) ≤ nI j from fun h9 => absurd ((i_le (a := 3) (by omega) (by omega)).mp h9) (by omega)), dR18 hL, iR hL (show mI M (32 * 11 + 20) 2179 = nI (pCnt d) from h372), dR19 hL, aI_at (S87 hL) hj (by omega), hv, e5, e3, pk_mul, nI_add, nI_add, sI_at (S86 hL) (by omega) (by omega), nI_1]
  obtain ⟨A1, hA1⟩ : ∃ A, A = uI M (1000 + (5 + 3 * pCnt d + 0)) 2186 (nI v0) := ⟨_, rfl⟩
  obtain ⟨A2, hA2⟩ : ∃ A, A = uI A1 (1000 + (5 + 3 * pCnt d + 1)) 2186 (nI v1) := ⟨_, rfl⟩
  obtain ⟨A3, hA3⟩ : ∃ A, A = uI A2 (1000 + (5 + 3 * pCnt d + 2)) 2186 (nI v2) := ⟨_, rfl⟩
  have i1 : ∀ k a, a ≠ 2186 → mI A1 k a = mI M k a := fun k a h => by rw [hA1]; exact mI_ne (by omega)
  have i2 : ∀ k a, a ≠ 2186 → mI A2 k a = mI M k a := fun k a h => by rw [hA2, mI_ne (by omega)]; exact i1 k a h
  have i3 : ∀ k a, a ≠ 2186 → mI A3 k a = mI M k a := fun k a h => by rw [hA3, mI_ne (by omega)]; exact i2 k a h
  have hL1 : Lay A1 := by rw [hA1]; exact hL
  have hL2 : Lay A2 := by rw [hA2]; exact hL1
  have hL3 : Lay A3 := by rw [hA3]; exact hL2
  refine ⟨uI A3 372 2179 (nI (pCnt d + 1)), ?_, ?_⟩
  · rw [hfu, show ((0 : Int32), M) = (nI 0, M) from rfl, one M _ 0 v0 hL (by omega) r5 n0, ← hA1, one A1 _ 1 v1 hL1 (by omega) ((i1 _ _ (by omega)).trans r5) ((i1 _ _ (by omega)).trans n1), ← hA2, one A2 _ 2 v2 hL2 (by omega) ((i2 _ _ (by omega)).trans r5) ((i2 _ _ (by omega)).trans n2), ← hA3, lp_succ, b_X11_band_158]
    refine (if_pos (show (3 : Int32) ≤ nI (2 + 1) by decide)).trans ?_
    rw [iR hL3 (show mI A3 (32 * 11 + 20) 2179 = nI (pCnt d) from (i3 _ _ (by omega)).trans r5), wR hL3, nI_1]; rfl
  · have j3 : ∀ k, ¬ (1005 + 3 * pCnt d ≤ k ∧ k < 1008 + 3 * pCnt d) → mI (uI A3 372 2179 (nI (pCnt d + 1))) k 2186 = mI M k 2186 := fun k hk => by
      rw [mI_ne (by omega), hA3, mI_ne (by omega), hA2, mI_ne (by omega), hA1, mI_ne (by omega)]
    have cA : Rfr M A3 := by rw [hA3, hA2, hA1]; exact ((Rfr.set (by omega)).trans (Rfr.set (by omega))).trans (Rfr.set (by omega))
    refine ⟨(h.1.trans cA).trans (Rfr.set (by omega)), by rw [mI_ne (by omega), i3 _ _ (by omega)]; exact h.2.1, by rw [mI_ne (by omega), i3 _ _ (by omega)]; exact h.2.2.1, by rw [mI_ne (by omega), i3 _ _ (by omega)]; exact h.2.2.2.1, (j3 _ (by omega)).trans r1, (j3 _ (by omega)).trans r2, (j3 _ (by omega)).trans r3, (j3 _ (by omega)).trans r4, mI_eq, fun b hb j hj => ?_⟩
    have hb' : b < pCnt d + 1 := hb
    show _ = nI (if b = pCnt d then (if j = 0 then v0 else if j = 1 then v1 else v2) else pB d b j)
    by_cases h9 : b = pCnt d
    · rw [if_pos h9, h9, mI_ne (by omega)]
      rcases (show j = 0 ∨ j = 1 ∨ j = 2 by omega) with rfl | rfl | rfl
      · rw [if_pos rfl, hA3, mI_ne (by omega), hA2, mI_ne (by omega), hA1, mI_eq]
      · rw [if_neg (by omega), if_pos rfl, hA3, mI_ne (by omega), hA2, mI_eq]
      · rw [if_neg (by omega), if_neg (by omega), hA3, mI_eq]
    · rw [if_neg h9]
      exact (j3 _ (by omega)).trans (r6 b (by omega) j hj)
theorem bTl_g (hL0 : Lay M0) (h : GS M0 M i p d) (hp : p ≤ L) (hd : pCnt d ≤ 6) {v0 v1 v2 : Nat} (n0 : mI M 1000 2187 = nI v0) (n1 : mI M 1001 2187 = nI v1) (n2 : mI M 1002 2187 = nI v2) (b : Bool) : Outr L M0 i (if 6 ≤ pCnt d then badR 4 v0 else if b = true then (0, 0, p, addB d v0 v1 v2) else badR 4 v0) (bTl (if b = true then 1 else 0) M) := by
  have hL := h.1.Lay hL0
  have hf := h.fail (e := v0) (c := 4) hp hd (Or.inr rfl)
  have hLf := hf.1.Lay hL0
  have hF : dP M 11 19 (some 2179) (fun (q32 : Option Nat) => aI M 100 q32 0 (fun (x33 : Int32) => rc M 11 (some 2179) (cl (m_X11_fails M (some 2179) 4 x33) (fun (_u : Unit) (M34 : Mem) => dI M34 11 16 (some 2179) (fun (x20 : Int32) => (if x20 ≤ 0 then lp (b_X11_band_158 (some 2179)) FU (0, M34) else rt () M34)))))) = some ((), uI (uI M 368 2179 (nI 4)) 369 2179 (nI v0)) := by
    rw [dR19 hL, show aI M 100 (some 2187) 0 _ = _ from aI_at (i := 0) (S87 hL) (by omega) (by omega), show mI M (1000 + 0) 2187 = nI v0 from n0, rc_at (S1 _ hL), fails_r hL, if_pos (show mI M 368 2179 ≤ 0 by rw [h.2.2.2.1]; decide), cl_some]
    show dI (uI (uI M 368 2179 (nI 4)) 369 2179 (nI v0)) 11 16 (some 2179) _ = _
    rw [iR hLf (show mI _ (32 * 11 + 16) 2179 = _ from rfl)]
    exact (if_neg hf.pos).trans rfl
  have h372 : mI M (32 * 11 + 20) 2179 = nI (pCnt d) := h.2.2.2.2.2.2.2.2.1
  unfold bTl
  rw [iR hL h372, jn_eq, jn_eq]
  by_cases h6 : 6 ≤ pCnt d
  · rw [if_pos h6, if_pos (show nI (pCnt d) = 6 by rw [show pCnt d = 6 by omega]; rfl)]
    refine ⟨_, hF, fun h9 => absurd h9 (show ¬ (4 = 0) by omega), fun _ => hf⟩
  · rw [if_neg h6, if_neg (show ¬ nI (pCnt d) = 6 from fun h9 => h6 (by have := (i_eq (b := 6) (by omega) (by omega)).mp h9; omega))]
    cases b with
    | true =>
      obtain ⟨M1, g1, g2⟩ := addB_r hL0 h (by omega) n0 n1 n2
      rw [if_pos rfl, if_pos rfl, if_pos z10']
      refine ⟨M1, ?_, fun _ => g2, fun h9 => absurd rfl h9⟩
      dsimp only
      rw [iR hL (show mI M (32 * 11 + 16) 2179 = 0 from h.2.2.2.1)]
      exact (if_pos (by decide)).trans g1
    | false =>
      rw [if_neg (by simp), if_neg (by simp)]
      exact ⟨_, hF, fun h9 => absurd h9 (show ¬ (4 = 0) by omega), fun _ => hf⟩
end RFS3
