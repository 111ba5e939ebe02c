/-! words -/
theorem len_s {M : Mem} {i : Nat} (hi : i < 5) : m_J0_length_8abf5 M (some (1000000 + i)) = some (nI (wL i), M) := by
  show (if 1000000 ≤ 1000000 + i ∧ 1000000 + i < 1000005 then rt (Int32.ofNat (lenJ.getD (1000000 + i - 1000000) 0)) M else none) = _
  rw [if_pos (by omega), Nat.add_sub_cancel_left]
  rcases (show i = 0 ∨ i = 1 ∨ i = 2 ∨ i = 3 ∨ i = 4 by omega) with rfl | rfl | rfl | rfl | rfl <;> rfl
theorem rcS_y {β : Type} {i : Nat} (hi : i < 5) (r : Option β) : rcS (some (1000000 + i)) r = r := if_pos (by omega)
theorem chJ_w : ∀ i, i < 5 → ∀ k, k < wL i → chJ i k = nI (wN i k) ∧ k < lenJ.getD i 0 := by decide +kernel
theorem char_s {M : Mem} {i k : Nat} (hi : i < 5) (hk : k < wL i) : m_J0_charAt_5068e M (some (1000000 + i)) (nI k) = some (nI (wN i k), M) := by
  obtain ⟨h1, h2⟩ := chJ_w i hi k hk
  have hk4 : k < 5 := by
    have : wL i ≤ 4 := by unfold wL; split <;> omega
    omega
  have hk1 : (nI k).toInt = (k : Int) := tI k (by omega)
  have hk2 : (nI k).toInt.toNat = k := toN (by omega)
  have hc : i < 5 ∧ 0 ≤ (nI k).toInt ∧ (nI k).toInt < lenJ.getD i 0 := ⟨hi, by omega, by rw [hk1]; exact_mod_cast h2⟩
  unfold m_J0_charAt_5068e
  have e : k_J0_charAt M (some (1000000 + i)) (nI k) = chS M i (nI k) := by
    show (if 1000000 ≤ 1000000 + i ∧ 1000000 + i < 1000005 then chS M (1000000 + i - 1000000) (nI k) else none) = _
    rw [if_pos (by omega), Nat.add_sub_cancel_left]
  rw [e]
  unfold chS
  rw [dif_pos hc]
  show some (chJ i (nI k).toInt.toNat, M) = _
  rw [hk2, h1]
theorem word_loop {T : Nat → Nat} {L i p : Nat} (hi : i < 5) (hp : p + wL i ≤ L) : ∀ (k c fu : Nat) (M : Mem), c + k = wL i → k < fu → Lay M → TX T L M → lp (b_X6_isWord_17 (some 2165) (nI p) (some (1000000 + i))) fu (nI c, M) = some (if wF T i p k c = true then 1 else 0, M) := by
  have hw4 : wL i ≤ 4 := by unfold wL; split <;> omega
  intro k
  induction k with
  | zero =>
    intro c fu M hc hfu hL hT
    obtain ⟨fu, rfl⟩ : ∃ z, fu = z + 1 := ⟨fu - 1, by omega⟩
    rw [lp_succ, b_X6_isWord_17, rcS_y hi, len_s hi, cl_some]
    refine (if_pos (show nI (wL i) ≤ nI c from le_n (by omega) (by omega))).trans ?_
    rfl
  | succ k ih =>
    intro c fu M hc hfu hL hT
    obtain ⟨fu, rfl⟩ : ∃ z, fu = z + 1 := ⟨fu - 1, by omega⟩
    have h90 := hT.1
    obtain ⟨c1, -, -⟩ := hT.2.2.2 (p + c) (by omega)
    have hwn : wN i c < 200 := by
      have : ∀ i, i < 5 → ∀ k, k < wL i → wN i k < 200 := by decide +kernel
      exact this i hi c (by omega)
    rw [lp_succ, b_X6_isWord_17, rcS_y hi, len_s hi, cl_some]
    dsimp only
    rw [if_neg (show ¬ nI (wL i) ≤ nI c from fun h9 => absurd ((i_le (by omega) (by omega)).mp h9) (by omega)), d60 hL, nI_add, ch_c hL hT (by omega), rcS_y hi, char_s hi (by omega), cl_some]
    have e : wF T i p (k + 1) c = if T (p + c) = wN i c then wF T i p k (c + 1) else false := rfl
    rw [e]
    by_cases h : T (p + c) = wN i c
    · rw [if_pos (show nI (T (p + c)) = nI (wN i c) by rw [h]), if_pos h, nI_1]
      exact ih (c + 1) fu M (by omega) (by omega) hL hT
    · rw [if_neg (show ¬ nI (T (p + c)) = nI (wN i c) from fun h9 => h ((i_eq (by omega) (by omega)).mp h9)), if_neg h]; rfl
theorem word_c {T : Nat → Nat} {L i p q : Nat} {M : Mem} (hL : Lay M) (hT : TX T L M) (hi : i < 5) (hpq : p ≤ q) (hq : q ≤ L) (h : mI M 196 2165 = nI q) : m_X6_isWord M (some 2165) (nI p) (some (1000000 + i)) = some (if wOk T i p q = true then 1 else 0, M) := by
  have h90 := hT.1
  have hw4 : wL i ≤ 4 := by unfold wL; split <;> omega
  unfold m_X6_isWord wOk
  rw [i6 hL h, rcS_y hi, len_s hi, cl_some, pk_sub hpq]
  by_cases h1 : q = p + wL i
  · rw [if_pos (show nI (q - p) = nI (wL i) by rw [show q - p = wL i by omega]), if_pos h1]
    exact word_loop hi (by omega) (wL i) 0 FU M (by omega) (Nat.lt_of_le_of_lt hw4 (Nat.lt_trans (by omega) FU_1000)) hL hT
  · rw [if_neg (show ¬ nI (q - p) = nI (wL i) from fun h9 => h1 (by have := (i_eq (by omega) (by omega)).mp h9; omega)), if_neg h1]; rfl
/-! a band, a clause, the plan -/
def Outc (M0 : Mem) (i : Nat) (r : Rz) (x : Option (Int32 × Mem)) : Prop := (r.1 = 0 → ∃ M1, x = some (1, M1) ∧ KS M0 M1 i r.2.2.1 r.2.2.2) ∧ (r.1 ≠ 0 → ∃ M1, x = some (0, M1) ∧ KF M0 M1 i r.1 r.2.1)
theorem Outc.bad {M0 M1 : Mem} {i c e : Nat} (h : KF M0 M1 i c e) (hc : c ≠ 0) : Outc M0 i (badR c e) (some (0, M1)) := ⟨fun h9 => absurd h9 hc, fun _ => ⟨M1, rfl, h⟩⟩
section CLS3
variable {T : Nat → Nat} {L : Nat} {M0 M : Mem} {i p : Nat} {d : PD}
theorem draftP (hL : Lay M) {b : Nat} (hb : b < 6) {β : Type} {K : Option Nat → Option β} : dP M 5 0 (some 2168) (fun q => aP M 110 q (nI b) K) = K (some (2170 + b)) := by
  obtain ⟨q1, q2, q3, q4⟩ := isPl_draft hL
  rw [dP_at (by rw [q1])]
  show aP M 110 (mP M 160 2168) (nI b) K = _
  rw [q2, aP_at q3 hb (by omega), (q4 b hb).1]
theorem S5 (hL : Lay M) : mS M 2168 = (5, 0) := hL.S (by omega)
theorem order_c (hL : Lay M) (h : CDr M d) (hd : pCnt d < 6) {v : Nat} (hv : v ≤ 9999) (hg : GD d) : m_X6_isInOrder M (some 2165) (nI v) = some (if (if pCnt d = 0 then v = 0 else pB d (pCnt d - 1) 0 < v) then 1 else 0, M) := by
  obtain ⟨a1, a2, a3, a4, a5, a6, a7, a8⟩ := h
  unfold m_X6_isInOrder
  rw [d62 hL, i6 hL a5, rc_at (by rw [S5 hL])]
  have e5 : (5 : Int32) = nI 5 := rfl
  by_cases h0 : pCnt d = 0
  · have hb : m_X5_bandAt M (some 2168) (nI (pCnt d) - 1) = some (none, M) := by
      unfold m_X5_bandAt
      rw [h0, within_n (by decide), cl_some, jn_eq, jn_eq, if_pos z00]; rfl
    rw [hb, cl_some, if_neg (by simp)]
    have hz : (if pCnt d = 0 then v = 0 else pB d (pCnt d - 1) 0 < v) ↔ v = 0 := by rw [if_pos h0]
    by_cases hv0 : v = 0
    · rw [if_neg (show ¬ nI v ≠ 0 from fun h9 => h9 (by rw [hv0]; rfl)), if_pos (hz.mpr hv0)]; rfl
    · rw [if_pos (show nI v ≠ 0 from fun h9 => hv0 ((i_eq (b := 0) (by omega) (by omega)).mp h9)), if_neg (fun h9 => hv0 (hz.mp h9))]; rfl
  · obtain ⟨n, hn⟩ : ∃ n, pCnt d = n + 1 := ⟨pCnt d - 1, by omega⟩
    have hb : m_X5_bandAt M (some 2168) (nI (pCnt d) - 1) = some (some (2170 + n), M) := by
      unfold m_X5_bandAt
      rw [hn, show nI (n + 1) - 1 = nI n by rw [← nI_1, Int32.add_sub_cancel], within_y (show (0 : Int32) ≤ nI n ∧ nI n ≤ 5 from ⟨le_n (a := 0) (by omega) (by omega), le_n (b := 5) (by omega) (by omega)⟩), cl_some, jn_eq, jn_eq, if_neg z10, dI_at (by rw [S5 hL])]
      show (if mI M 161 2168 ≤ nI n then _ else _) = _
      rw [a6 h0, hn, if_neg (fun h9 => absurd ((i_le (by omega) (by omega)).mp h9) (by omega))]
      show (if (1 : Int32) = 0 then _ else dP M 5 0 (some 2168) (fun q6 => aP M 110 q6 (nI n) _)) = _
      rw [if_neg z10, draftP hL (by omega)]; rfl
    have hSb : mS M (2170 + n) = (0, 0) := by
      have := ((isPl_draft hL).2.2.2 n (by omega)).2
      rwa [show 2168 + 2 + n = 2170 + n by omega] at this
    have hgb := (hg.2.2.2.2.2.2 n (by omega)).1
    rw [hb, cl_some, if_pos (by simp), dI_at (by rw [hSb])]
    show (if nI v ≤ mI M 1 (2170 + n) then _ else _) = _
    rw [(a8 n (by omega)).1]
    have hz : (if pCnt d = 0 then v = 0 else pB d (pCnt d - 1) 0 < v) ↔ pB d n 0 < v := by rw [if_neg h0, hn, Nat.add_sub_cancel]
    by_cases hlt : pB d n 0 < v
    · rw [if_neg (show ¬ nI v ≤ nI (pB d n 0) from fun h9 => absurd ((i_le (by omega) (by omega)).mp h9) (by omega)), if_pos (hz.mpr hlt)]; rfl
    · rw [if_pos (show nI v ≤ nI (pB d n 0) from le_n (by omega) (by omega)), if_neg (fun h9 => hlt (hz.mp h9))]; rfl
theorem bandP4_eq (d : PD) (v0 v1 v2 q : Nat) : bandP4 d v0 v1 v2 q = if 6 ≤ pCnt d then badR 4 v0 else if (if pCnt d = 0 then v0 = 0 else pB d (pCnt d - 1) 0 < v0) then (0, 0, q, addB d v0 v1 v2) else badR 4 v0 := by
  unfold bandP4
  by_cases h0 : pCnt d = 0
  · simp only [h0, if_true]
  · simp only [if_neg h0]
/-- the band goes into the draft -/
theorem addB_c (hL0 : Lay M0) (h : KS M0 M i p d) (hd : pCnt d < 6) (v0 v1 v2 : Nat) : KS M0 (uI (uI (uI (uI (uI M 1 (2170 + pCnt d) (nI v0)) 2 (2170 + pCnt d) (nI v1)) 3 (2170 + pCnt d) (nI v2)) 198 2165 (nI (pCnt d + 1))) 161 2168 (nI (pCnt d + 1))) i p (addB d v0 v1 v2) := by
  obtain ⟨h1, h2, h3, a1, a2, a3, a4, a5, a6, a7, a8⟩ := h
  refine ⟨((((h1.trans (Cfr.set (by omega))).trans (Cfr.set (by omega))).trans (Cfr.set (by omega))).trans (Cfr.set (by omega))).trans (Cfr.set (by omega)), ?_, ?_, ?_, ?_, ?_, ?_, ?_, fun _ => mI_eq, fun h9 => absurd h9 (show ¬ pCnt d + 1 = 0 by omega), fun b hb => ?_⟩
  · rw [mI_ne (by omega), mI_ne (by omega), mI_ne (by omega), mI_ne (by omega), mI_ne (by omega)]; exact h2
  · rw [mI_ne (by omega), mI_ne (by omega), mI_ne (by omega), mI_ne (by omega), mI_ne (by omega)]; exact h3
  · rw [mI_ne (by omega), mI_ne (by omega), mI_ne (by omega), mI_ne (by omega), mI_ne (by omega)]; exact a1
  · rw [mI_ne (by omega), mI_ne (by omega), mI_ne (by omega), mI_ne (by omega), mI_ne (by omega)]; exact a2
  · rw [mI_ne (by omega), mI_ne (by omega), mI_ne (by omega), mI_ne (by omega), mI_ne (by omega)]; exact a3
  · rw [mI_ne (by omega), mI_ne (by omega), mI_ne (by omega), mI_ne (by omega), mI_ne (by omega)]; exact a4
  · rw [mI_ne (by omega), mI_eq]; rfl
  · have hb' : b < pCnt d + 1 := hb
    show _ = nI (if b = pCnt d then (if 0 = 0 then v0 else if 0 = 1 then v1 else v2) else pB d b 0) ∧ _ = nI (if b = pCnt d then (if 1 = 0 then v0 else if 1 = 1 then v1 else v2) else pB d b 1) ∧ _ = nI (if b = pCnt d then (if 2 = 0 then v0 else if 2 = 1 then v1 else v2) else pB d b 2)
    by_cases h9 : b = pCnt d
    · rw [if_pos h9, if_pos h9, if_pos h9, if_pos rfl, if_neg (by omega), if_pos rfl, if_neg (by omega), if_neg (by omega), h9]
      refine ⟨?_, ?_, ?_⟩
      · rw [mI_ne (by omega), mI_ne (by omega), mI_ne (by omega), mI_ne (by omega), mI_eq]
      · rw [mI_ne (by omega), mI_ne (by omega), mI_ne (by omega), mI_eq]
      · rw [mI_ne (by omega), mI_ne (by omega), mI_eq]
    · rw [if_neg h9, if_neg h9, if_neg h9]
      obtain ⟨b1, b2, b3⟩ := a8 b (by omega)
      refine ⟨?_, ?_, ?_⟩
      · rw [mI_ne (by omega), mI_ne (by omega), mI_ne (by omega), mI_ne (by omega), mI_ne (by omega)]; exact b1
      · rw [mI_ne (by omega), mI_ne (by omega), mI_ne (by omega), mI_ne (by omega), mI_ne (by omega)]; exact b2
      · rw [mI_ne (by omega), mI_ne (by omega), mI_ne (by omega), mI_ne (by omega), mI_ne (by omega)]; exact b3
/-- three numbers read: the ranges, the order -/
theorem band3_c (hL0 : Lay M0) (h : KS M0 M i p d) (hg : GD d) {v0 v1 v2 : Nat} (b0 : v0 ≤ 9999) (b1 : v1 ≤ 9999) (b2 : v2 ≤ 9999) (n0 : mI M 1000 2167 = nI v0) (n1 : mI M 1001 2167 = nI v1) (n2 : mI M 1002 2167 = nI v2) {x : Option (Int32 × Mem)} (hx : x = rc M 6 (some 2165) (cl (m_X6_inRange M (some 2165) 0 0 1439) (fun (x4 : Int32) (M3 : Mem) => (if x4 = 0 then rtZ 0 M3 else rc M3 6 (some 2165) (cl (m_X6_inRange M3 (some 2165) 1 0 999) (fun (x6 : Int32) (M5 : Mem) => (if x6 = 0 then rtZ 0 M5 else rc M5 6 (some 2165) (cl (m_X6_inRange M5 (some 2165) 2 5 240) (fun (x8 : Int32) (M7 : Mem) => (if x8 ≠ 0 then dP M7 6 1 (some 2165) (fun (q9 : Option Nat) => aI M7 100 q9 0 (fun (x10 : Int32) => dI M7 6 6 (some 2165) (fun (x11 : Int32) => jn (fun (M13 : Mem) => rc M13 6 (some 2165) (cl (m_X6_fault M13 (some 2165) 4 x10) (fun (x15 : Int32) (M14 : Mem) => rtZ x15 M14))) (fun (J72_11 : Mem → Option (Int32 × Mem)) => (if 6 ≤ x11 then J72_11 M7 else rc M7 6 (some 2165) (cl (m_X6_isInOrder M7 (some 2165) x10) (fun (x17 : Int32) (M16 : Mem) => (if x17 ≠ 0 then dP M16 6 2 (some 2165) (fun (q18 : Option Nat) => dP M16 5 0 q18 (fun (q19 : Option Nat) => dI M16 6 6 (some 2165) (fun (x20 : Int32) => aP M16 110 q19 x20 (fun (q21 : Option Nat) => dP M16 6 1 (some 2165) (fun (q22 : Option Nat) => aI M16 100 q22 1 (fun (x23 : Int32) => dP M16 6 1 (some 2165) (fun (q24 : Option Nat) => aI M16 100 q24 2 (fun (x25 : Int32) => rc M16 0 q21 (cl (m_X0_tell M16 q21 x10 x23 x25) (fun (_u : Unit) (M26 : Mem) => dI M26 6 6 (some 2165) (fun (x27 : Int32) => pI M26 6 6 (some 2165) ((x27 + 1)) (fun (M28 : Mem) => dP M28 6 2 (some 2165) (fun (q29 : Option Nat) => dI M28 6 6 (some 2165) (fun (x30 : Int32) => pI M28 5 1 q29 x30 (fun (M31 : Mem) => rtZ 1 M31))))))))))))))) else J72_11 M16)))))))) else rtZ 0 M7)))))))))) : Outc M0 i (bandP3 d v0 v1 v2 p) x := by
  have hL := h.1.Lay hL0
  have hd5 := hg.2.2.2.2.1
  obtain ⟨-, -, -, -, -, -, -, a5, -⟩ := id h
  have a5' : mI M (32 * 6 + 6) 2165 = nI (pCnt d) := a5
  rw [hx, rc_at (by rw [S6 hL])]
  unfold bandP3
  rw [show m_X6_inRange M (some 2165) 0 0 1439 = _ from range_c hL (j := 0) (a := 0) (b := 1439) (by omega) b0 (by omega) (by omega) n0]
  by_cases h0 : v0 ≤ 1439
  · rw [if_pos (show 0 ≤ v0 ∧ v0 ≤ 1439 from ⟨by omega, h0⟩), if_pos h0, cl_some, if_neg z10, rc_at (by rw [S6 hL]), show m_X6_inRange M (some 2165) 1 0 999 = _ from range_c hL (j := 1) (a := 0) (b := 999) (by omega) b1 (by omega) (by omega) n1]
    by_cases h1 : v1 ≤ 999
    · rw [if_pos (show 0 ≤ v1 ∧ v1 ≤ 999 from ⟨by omega, h1⟩), if_pos h1, cl_some, if_neg z10, rc_at (by rw [S6 hL]), show m_X6_inRange M (some 2165) 2 5 240 = _ from range_c hL (j := 2) (a := 5) (b := 240) (by omega) b2 (by omega) (by omega) n2]
      by_cases h2 : 5 ≤ v2 ∧ v2 ≤ 240
      · rw [if_pos h2, if_pos h2, cl_some, if_pos z10', d61 hL, show aI M 100 (some 2167) 0 _ = _ from aI_at (i := 0) (S67 hL) (by omega) (by omega), show mI M (1000 + 0) 2167 = nI v0 from n0, i6 hL a5', jn_eq, bandP4_eq]
        have hbad : rc M 6 (some 2165) (cl (m_X6_fault M (some 2165) 4 (nI v0)) (fun (x15 : Int32) (M14 : Mem) => rtZ x15 M14)) = some (0, uI (uI M 199 2165 (nI 4)) 200 2165 (nI v0)) := by
          rw [rc_at (by rw [S6 hL]), fault_c hL, cl_some]; rfl
        by_cases h6 : 6 ≤ pCnt d
        · rw [if_pos (show (6 : Int32) ≤ nI (pCnt d) from le_n (a := 6) (by omega) h6), if_pos h6]
          show Outc M0 i (badR 4 v0) (rc M 6 (some 2165) (cl (m_X6_fault M (some 2165) 4 (nI v0)) (fun (x15 : Int32) (M14 : Mem) => rtZ x15 M14)))
          rw [hbad]
          exact Outc.bad (h.bad 4 v0) (by omega)
        · rw [if_neg (show ¬ (6 : Int32) ≤ nI (pCnt d) from fun h9 => h6 ((i_le (a := 6) (by omega) (by omega)).mp h9)), if_neg h6, rc_at (by rw [S6 hL]), order_c hL h.2.2.2 (by omega) b0 hg, cl_some]
          by_cases ho : (if pCnt d = 0 then v0 = 0 else pB d (pCnt d - 1) 0 < v0)
          · rw [if_pos ho, if_pos ho, if_pos z10', d62 hL]
            have hSb : mS M (2170 + pCnt d) = (0, 0) := by
              have := ((isPl_draft hL).2.2.2 (pCnt d) (by omega)).2
              rwa [show 2168 + 2 + pCnt d = 2170 + pCnt d by omega] at this
            obtain ⟨q1, q2, q3, q4⟩ := isPl_draft hL
            obtain ⟨A, hA⟩ : ∃ A, A = uI (uI (uI M 1 (2170 + pCnt d) (nI v0)) 2 (2170 + pCnt d) (nI v1)) 3 (2170 + pCnt d) (nI v2) := ⟨_, rfl⟩
            have hLA : Lay A := by rw [hA]; exact hL
            have aA : mI A (32 * 6 + 6) 2165 = nI (pCnt d) := by rw [hA, mI_ne (by omega), mI_ne (by omega), mI_ne (by omega)]; exact a5
            have htell : m_X0_tell M (some (2170 + pCnt d)) (nI v0) (nI v1) (nI v2) = some ((), A) := by
              unfold m_X0_tell
              rw [pI_at (by rw [hSb]), pI_at (by rw [mS_uI, hSb]), pI_at (by rw [mS_uI, mS_uI, hSb]), hA]; rfl
            rw [dP_at (by rw [q1])]
            show Outc M0 i _ (dI M 6 6 (some 2165) (fun x20 => aP M 110 (mP M 160 2168) x20 _))
            rw [q2, i6 hL a5', aP_at q3 (by omega) (by omega), (q4 (pCnt d) (by omega)).1, show 2168 + 2 + pCnt d = 2170 + pCnt d by omega, d61 hL, show aI M 100 (some 2167) 1 _ = _ from aI_at (i := 1) (S67 hL) (by omega) (by omega), show mI M (1000 + 1) 2167 = nI v1 from n1, d61 hL, show aI M 100 (some 2167) 2 _ = _ from aI_at (i := 2) (S67 hL) (by omega) (by omega), show mI M (1000 + 2) 2167 = nI v2 from n2, rc_at (by rw [hSb]), htell, cl_some, i6 hLA aA, w6 hLA, nI_1]
            have hLB : Lay (uI A (32 * 6 + 6) 2165 (nI (pCnt d + 1))) := hLA.uI _ _ _
            rw [d62 hLB, i6 hLB mI_eq, pI_at (by rw [S5 hLB]), hA]
            exact ⟨fun _ => ⟨_, rfl, addB_c hL0 h (by omega) v0 v1 v2⟩, fun h9 => absurd rfl h9⟩
          · rw [if_neg ho, if_neg ho, if_neg z00']
            show Outc M0 i (badR 4 v0) (rc M 6 (some 2165) (cl (m_X6_fault M (some 2165) 4 (nI v0)) (fun (x15 : Int32) (M14 : Mem) => rtZ x15 M14)))
            rw [hbad]
            exact Outc.bad (h.bad 4 v0) (by omega)
      · rw [if_neg h2, if_neg h2, cl_some, if_neg z00']
        exact Outc.bad (h.bad 4 v2) (by omega)
    · rw [if_neg (show ¬ (0 ≤ v1 ∧ v1 ≤ 999) from fun h9 => h1 h9.2), if_neg h1, cl_some, if_pos z00]
      exact Outc.bad (h.bad 4 v1) (by omega)
  · rw [if_neg (show ¬ (0 ≤ v0 ∧ v0 ≤ 1439) from fun h9 => h0 h9.2), if_neg h0, cl_some, if_pos z00]
    exact Outc.bad (h.bad 4 v0) (by omega)
theorem band_c (hL0 : Lay M0) (hT0 : TX T L M0) (h : KS M0 M i p d) (hg : GD d) (hp : p ≤ L) : Outc M0 i (bandP0 T L d (stepN T L 32 p)) (m_X6_readBand M (some 2165)) := by
  have hL := h.1.Lay hL0
  have hd5 := hg.2.2.2.2.1
  obtain ⟨fu, hfu⟩ : ∃ z, FU = z + 4 := ⟨FU - 4, by have := FU_1000; omega⟩
  obtain ⟨s1, s2, s3, s4, s5⟩ := stepN_le (T := T) (c := 32) hp
  obtain ⟨g1, g2⟩ := step_c hL0 hT0 h hd5 hp (j := 0) (n := 3) (c := 32) (fu := fu + 3) (by omega) (by omega) (by omega) rfl
  unfold m_X6_readBand m_X6_readNumbers
  rw [rc_at (by rw [S6 hL]), hfu, show ((0 : Int32), M) = (nI 0, M) from rfl]
  unfold bandP0
  by_cases h0 : (stepN T L 32 p).1 = 0
  · obtain ⟨M1, f1, f2, f3, f4⟩ := g1 h0
    obtain ⟨k1, k2, k3, k4, k5⟩ := stepN_le (T := T) (c := 44) s4
    obtain ⟨g3, g4⟩ := step_c hL0 hT0 f2 hd5 s4 (j := 1) (n := 3) (c := 44) (fu := fu + 2) (by omega) (by omega) (by omega) rfl
    rw [if_pos h0]
    unfold bandP1
    by_cases h1 : (stepN T L 44 (stepN T L 32 p).2.2.2).1 = 0
    · obtain ⟨M2, f5, f6, f7, f8⟩ := g3 h1
      obtain ⟨m1, m2, m3, m4, m5⟩ := stepN_le (T := T) (c := 44) k4
      obtain ⟨g5, g6⟩ := step_c hL0 hT0 f6 hd5 k4 (j := 2) (n := 3) (c := 44) (fu := fu + 1) (by omega) (by omega) (by omega) rfl
      rw [if_pos h1]
      unfold bandP2
      by_cases h2 : (stepN T L 44 (stepN T L 44 (stepN T L 32 p).2.2.2).2.2.2).1 = 0
      · obtain ⟨M3, f9, f10, f11, f12⟩ := g5 h2
        have hlp : lp (b_X6_readNumbers_2 (some 2165) 3) (fu + 4) (nI 0, M) = some (1, M3) := f1.trans (f5.trans (f9.trans (rn_end (n := 3) (by omega) (by omega) M3)))
        rw [if_pos h2, hlp, cl_some, if_pos z10']
        exact band3_c hL0 f10 hg s3 k3 m3 ((f12 0 (by omega)).trans ((f8 0 (by omega)).trans f3)) ((f12 1 (by omega)).trans f7) f11 rfl
      · obtain ⟨M3, f9, f10⟩ := g6 h2
        have hlp : lp (b_X6_readNumbers_2 (some 2165) 3) (fu + 4) (nI 0, M) = some (0, M3) := f1.trans (f5.trans f9)
        rw [if_neg h2, hlp, cl_some, if_neg z00']
        exact Outc.bad f10 h2
    · obtain ⟨M2, f5, f6⟩ := g4 h1
      have hlp : lp (b_X6_readNumbers_2 (some 2165) 3) (fu + 4) (nI 0, M) = some (0, M2) := f1.trans f5
      rw [if_neg h1, hlp, cl_some, if_neg z00']
      exact Outc.bad f6 h1
  · obtain ⟨M1, f1, f2⟩ := g2 h0
    have hlp : lp (b_X6_readNumbers_2 (some 2165) 3) (fu + 4) (nI 0, M) = some (0, M1) := f1
    rw [if_neg h0, hlp, cl_some, if_neg z00']
    exact Outc.bad f2 h0
end CLS3
