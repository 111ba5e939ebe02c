section RFS4
variable {T : Nat → Nat} {L : Nat} {M0 M : Mem} {i p c e : Nat} {d : PD}
theorem bFin_g (hL0 : Lay M0) (h : GS M0 M i p d) (hp : p ≤ L) (hg : GD d) {v0 v1 v2 : Nat} (b0 : v0 ≤ 9999) (n0 : mI M 1000 2187 = nI v0) (n1 : mI M 1001 2187 = nI v1) (n2 : mI M 1002 2187 = nI v2) : Outr L M0 i (bandP4 d v0 v1 v2 p) (bFin M) := by
  have hL := h.1.Lay hL0
  have hd := hg.2.2.2.2.1
  have h372 : mI M (32 * 11 + 20) 2179 = nI (pCnt d) := h.2.2.2.2.2.2.2.2.1
  have hN : aI M 100 (some 2187) 0 = fun (K : Int32 → Option (Unit × Mem)) => K (mI M (1000 + 0) 2187) := by
    funext K; exact aI_at (i := 0) (S87 hL) (by omega) (by omega)
  rw [bandP4_eq]
  unfold bFin
  rw [iR hL h372, jn_eq]
  by_cases h0 : pCnt d = 0
  · have hz : (if pCnt d = 0 then v0 = 0 else pB d (pCnt d - 1) 0 < v0) ↔ v0 = 0 := by rw [if_pos h0]
    rw [if_neg (show ¬ nI (pCnt d) ≠ 0 from fun h9 => h9 (by rw [h0]; rfl))]
    dsimp only
    rw [jn_eq, if_neg z10, dR19 hL, hN]
    dsimp only
    rw [show mI M (1000 + 0) 2187 = nI v0 from n0]
    by_cases hv : v0 = 0
    · have h1 := bTl_g hL0 h hp hd n0 n1 n2 true
      rw [if_neg (show ¬ nI v0 ≠ 0 from fun h9 => h9 (by rw [hv]; rfl))]
      simp only [hz.mpr hv, if_true] at h1 ⊢
      exact h1
    · have h1 := bTl_g hL0 h hp hd n0 n1 n2 false
      have hnz : ¬ (if pCnt d = 0 then v0 = 0 else pB d (pCnt d - 1) 0 < v0) := fun h9 => hv (hz.mp h9)
      rw [if_pos (show nI v0 ≠ 0 from fun h9 => hv ((i_eq (b := 0) (by omega) (by omega)).mp h9)), if_neg hnz]
      rw [if_neg (show ¬ (false = true) by simp), if_neg (show ¬ (false = true) by simp)] at h1
      exact h1
  · have e5 : (5 : Int32) = nI 5 := rfl
    have e3 : (3 : Int32) = nI 3 := rfl
    have hgb := (hg.2.2.2.2.2.2 (pCnt d - 1) (by omega)).1
    have hb := h.2.2.2.2.2.2.2.2.2 (pCnt d - 1) (by omega) 0 (by omega)
    rw [show 5 + 3 * (pCnt d - 1) + 0 = 5 + 3 * pCnt d - 3 by omega] at hb
    have hz : (if pCnt d = 0 then v0 = 0 else pB d (pCnt d - 1) 0 < v0) ↔ pB d (pCnt d - 1) 0 < v0 := by rw [if_neg h0]
    rw [if_pos (show nI (pCnt d) ≠ 0 from fun h9 => h0 ((i_eq (b := 0) (by omega) (by omega)).mp h9))]
    dsimp only
    rw [jn_eq, if_pos z00, dR19 hL, hN]
    dsimp only
    rw [show mI M (1000 + 0) 2187 = nI v0 from n0, dR18 hL, iR hL h372, e5, e3, pk_mul, nI_add, pk_sub (by omega), aI_at (S86 hL) (by omega) (by omega), hb]
    by_cases hv : pB d (pCnt d - 1) 0 < v0
    · have h1 := bTl_g hL0 h hp hd n0 n1 n2 true
      rw [if_neg (show ¬ nI v0 ≤ nI (pB d (pCnt d - 1) 0) from fun h9 => absurd ((i_le (by omega) (by omega)).mp h9) (by omega)), if_pos (hz.mpr hv)]
      rw [if_pos rfl, if_pos rfl] at h1
      exact h1
    · have h1 := bTl_g hL0 h hp hd n0 n1 n2 false
      rw [if_pos (show nI v0 ≤ nI (pB d (pCnt d - 1) 0) from le_n (by omega) (by omega)), if_neg (fun h9 => hv (hz.mp h9))]
      rw [if_neg (show ¬ (false = true) by simp), if_neg (show ¬ (false = true) by simp)] at h1
      exact h1
theorem bK3_g (hL0 : Lay M0) (h : GS M0 M i p d) (hp : p ≤ L) (hg : GD d) {v0 v1 v2 : Nat} (b0 : v0 ≤ 9999) (b1 : v1 ≤ 9999) (b2 : v2 ≤ 9999) (n0 : mI M 1000 2187 = nI v0) (n1 : mI M 1001 2187 = nI v1) (n2 : mI M 1002 2187 = nI v2) : Outr L M0 i (bandP3 d v0 v1 v2 p) (bK3 M) := by
  have hL := h.1.Lay hL0
  have hd := hg.2.2.2.2.1
  have hf : ∀ e, GF L M0 (uI (uI M 368 2179 (nI 4)) 369 2179 (nI e)) i 4 e := fun e => h.fail (e := e) (c := 4) hp hd (Or.inr rfl)
  unfold bK3 bandP3
  rw [rc_at (S1 _ hL), show m_X11_ranges M (some 2179) 0 0 1439 = _ from range_g hL0 h hp hd (j := 0) (a := 0) (b := 1439) (by omega) b0 (by omega) (by omega) n0, cl_some]
  by_cases h0 : v0 ≤ 1439
  · rw [if_pos (show 0 ≤ v0 ∧ v0 ≤ 1439 from ⟨by omega, h0⟩), if_pos h0, rc_at (S1 _ hL), show m_X11_ranges M (some 2179) 1 0 999 = _ from range_g hL0 h hp hd (j := 1) (a := 0) (b := 999) (by omega) b1 (by omega) (by omega) n1, cl_some]
    by_cases h1 : v1 ≤ 999
    · rw [if_pos (show 0 ≤ v1 ∧ v1 ≤ 999 from ⟨by omega, h1⟩), if_pos h1, rc_at (S1 _ hL), show m_X11_ranges M (some 2179) 2 5 240 = _ from range_g hL0 h hp hd (j := 2) (a := 5) (b := 240) (by omega) b2 (by omega) (by omega) n2, cl_some]
      by_cases h2 : 5 ≤ v2 ∧ v2 ≤ 240
      · rw [if_pos h2, if_pos h2]
        exact bFin_g hL0 h hp hg b0 n0 n1 n2
      · rw [if_neg h2, if_neg h2, bFin_b hL0 (hf v2)]
        exact Outr.bad (hf v2)
    · have hLf := (hf v1).1.Lay hL0
      rw [if_neg (show ¬ (0 ≤ v1 ∧ v1 ≤ 999) from fun h9 => h1 h9.2), if_neg h1, rc_at (S1 _ hLf), show m_X11_ranges (uI (uI M 368 2179 (nI 4)) 369 2179 (nI v1)) (some 2179) 2 5 240 = _ from range_b (j := 2) hL0 (hf v1) (by omega) _ _, cl_some, bFin_b hL0 (hf v1)]
      exact Outr.bad (hf v1)
  · have hLf := (hf v0).1.Lay hL0
    rw [if_neg (show ¬ (0 ≤ v0 ∧ v0 ≤ 1439) from fun h9 => h0 h9.2), if_neg h0, rc_at (S1 _ hLf), show m_X11_ranges (uI (uI M 368 2179 (nI 4)) 369 2179 (nI v0)) (some 2179) 1 0 999 = _ from range_b (j := 1) hL0 (hf v0) (by omega) _ _, cl_some, rc_at (S1 _ hLf), show m_X11_ranges (uI (uI M 368 2179 (nI 4)) 369 2179 (nI v0)) (some 2179) 2 5 240 = _ from range_b (j := 2) hL0 (hf v0) (by omega) _ _, cl_some, bFin_b hL0 (hf v0)]
    exact Outr.bad (hf v0)
theorem band_r (hL0 : Lay M0) (hT0 : TXr T L M0) (h : GS M0 M i p d) (hg : GD d) (hp : p ≤ L) : Outr L M0 i (bandP0 T L d (stepN T L 32 p)) (m_X11_band M (some 2179)) := by
  have hL := h.1.Lay hL0
  have hd := hg.2.2.2.2.1
  obtain ⟨s1, s2, s3, s4, s5⟩ := stepN_le (T := T) (c := 32) hp
  obtain ⟨M1, f1, f2, f3⟩ := step_r hL0 hT0 h hp hd (j := 0) (x := 32) (by omega) (by omega)
  rw [band_un, show rc M 11 (some 2179) (cl (m_X11_must M (some 2179) 32) (fun (_u : Unit) (M1 : Mem) => rc M1 11 (some 2179) (cl (m_X11_number M1 (some 2179) 0) (fun (_u : Unit) (M2 : Mem) => bK1 M2)))) = bK1 M1 from f1 (fun _ M2 => bK1 M2)]
  unfold bandP0
  by_cases h0 : (stepN T L 32 p).1 = 0
  · obtain ⟨g1, g2, g3⟩ := f2 h0
    obtain ⟨k1, k2, k3, k4, k5⟩ := stepN_le (T := T) (c := 44) s4
    obtain ⟨M2, f4, f5, f6⟩ := step_r hL0 hT0 g1 s4 hd (j := 1) (x := 44) (by omega) (by omega)
    rw [if_pos h0, show bK1 M1 = bK2 M2 from f4 (fun _ M4 => bK2 M4)]
    unfold bandP1
    by_cases h1 : (stepN T L 44 (stepN T L 32 p).2.2.2).1 = 0
    · obtain ⟨g4, g5, g6⟩ := f5 h1
      obtain ⟨m1, m2, m3, m4, m5⟩ := stepN_le (T := T) (c := 44) k4
      obtain ⟨M3, f7, f8, f9⟩ := step_r hL0 hT0 g4 k4 hd (j := 2) (x := 44) (by omega) (by omega)
      rw [if_pos h1, show bK2 M2 = bK3 M3 from f7 (fun _ M6 => bK3 M6)]
      unfold bandP2
      by_cases h2 : (stepN T L 44 (stepN T L 44 (stepN T L 32 p).2.2.2).2.2.2).1 = 0
      · obtain ⟨g7, g8, g9⟩ := f8 h2
        rw [if_pos h2]
        exact bK3_g hL0 g7 m4 hg s3 k3 m3 ((g9 1000 (by omega)).trans ((g6 1000 (by omega)).trans g2)) ((g9 1001 (by omega)).trans g5) g8
      · have hf := f9 h2
        rw [if_neg h2, bK3_b hL0 hf]
        exact Outr.bad hf
    · obtain ⟨M3, w1, w2⟩ := bK2_b hL0 hT0 (f6 h1)
      rw [if_neg h1, w1]
      exact Outr.bad w2
  · obtain ⟨M2, w1, w2⟩ := bK1_b hL0 hT0 (f3 h0)
    rw [if_neg h0, w1]
    exact Outr.bad w2
/-! words -/
def w4 (T : Nat → Nat) (p q a b c d : Nat) : Bool := if q = p + 4 then (if T (p + 0) = a then (if T (p + 1) = b then (if T (p + 2) = c then (if T (p + 3) = d then true else false) else false) else false) else false) else false
def w3 (T : Nat → Nat) (p q a b c : Nat) : Bool := if q = p + 3 then (if T (p + 0) = a then (if T (p + 1) = b then (if T (p + 2) = c then true else false) else false) else false) else false
theorem wOk0 (p q : Nat) : wOk T 0 p q = w4 T p q 102 114 101 101 := rfl
theorem wOk1 (p q : Nat) : wOk T 1 p q = w3 T p q 99 97 112 := rfl
theorem wOk2 (p q : Nat) : wOk T 2 p q = w4 T p q 108 111 115 116 := rfl
theorem wOk3 (p q : Nat) : wOk T 3 p q = w4 T p q 100 97 121 115 := rfl
theorem wOk4 (p q : Nat) : wOk T 4 p q = w4 T p q 98 97 110 100 := rfl
theorem chr_r (hL : Lay M) (hT : TXr T L M) {j : Nat} (hj : j < L) {β : Type} {K : Int32 → Option β} : dP M 11 5 (some 2179) (fun q => aI M 100 q (nI j) K) = K (nI (T j)) := by
  have h90 := hT.1
  rw [dR5 hL, aI_at (S84 hL) (by omega) (by omega), (hT.2.2.2 j hj).2.2]
theorem word_r4 (hL : Lay M) (hT : TXr T L M) {p q a b c d : Nat} (hpq : p ≤ q) (hq : q ≤ L) (ha : a ≤ 127) (hb : b ≤ 127) (hc : c ≤ 127) (hd : d ≤ 127) (hd0 : d ≠ 0) : m_X11_isWord M (some 2179) (nI p) (nI (q - p)) (nI a) (nI b) (nI c) (nI d) = some (if w4 T p q a b c d = true then 1 else 0, M) := by
  have h90 := hT.1
  have hd0' : nI d ≠ 0 := fun h9 => hd0 ((i_eq (b := 0) (by omega) (by omega)).mp h9)
  have e1 : (1 : Int32) = nI 1 := rfl
  have e2 : (2 : Int32) = nI 2 := rfl
  have e3 : (3 : Int32) = nI 3 := rfl
  have no : ∀ x : Int32, rtZ 0 M = some (if (false = true) then 1 else 0, M) := fun _ => rfl
  unfold m_X11_isWord w4
  rw [jn_eq, if_pos hd0']
  dsimp only
  by_cases h1 : q = p + 4
  · have ch : ∀ j, j < 4 → T (p + j) ≤ 127 := fun j hj => (hT.2.2.2 (p + j) (by omega)).1
    have t0 := ch 0 (by omega)
    have t1 := ch 1 (by omega)
    have t2 := ch 2 (by omega)
    have t3 := ch 3 (by omega)
    rw [if_neg (show ¬ nI (q - p) ≠ 4 from fun h9 => h9 (by rw [h1, Nat.add_sub_cancel_left]; rfl)), if_pos h1, show dP M 11 5 (some 2179) (fun q4 => aI M 100 q4 (nI p) _) = _ from chr_r (j := p + 0) hL hT (by omega)]
    by_cases g0 : T (p + 0) = a
    · rw [if_neg (show ¬ nI (T (p + 0)) ≠ nI a from fun h9 => h9 (by rw [g0])), if_pos g0, e1, nI_add, chr_r hL hT (by omega)]
      by_cases g1 : T (p + 1) = b
      · rw [if_neg (show ¬ nI (T (p + 1)) ≠ nI b from fun h9 => h9 (by rw [g1])), if_pos g1, e2, nI_add, chr_r hL hT (by omega)]
        by_cases g2 : T (p + 2) = c
        · rw [if_neg (show ¬ nI (T (p + 2)) ≠ nI c from fun h9 => h9 (by rw [g2])), if_pos g2, if_neg hd0', e3, nI_add, chr_r hL hT (by omega)]
          by_cases g3 : T (p + 3) = d
          · rw [if_neg (show ¬ nI (T (p + 3)) ≠ nI d from fun h9 => h9 (by rw [g3])), if_pos g3]; rfl
          · rw [if_pos (show nI (T (p + 3)) ≠ nI d from fun h9 => g3 ((i_eq (by omega) (by omega)).mp h9)), if_neg g3]; rfl
        · rw [if_pos (show nI (T (p + 2)) ≠ nI c from fun h9 => g2 ((i_eq (by omega) (by omega)).mp h9)), if_neg g2]; rfl
      · rw [if_pos (show nI (T (p + 1)) ≠ nI b from fun h9 => g1 ((i_eq (by omega) (by omega)).mp h9)), if_neg g1]; rfl
    · rw [if_pos (show nI (T (p + 0)) ≠ nI a from fun h9 => g0 ((i_eq (by omega) (by omega)).mp h9)), if_neg g0]; rfl
  · rw [if_pos (show nI (q - p) ≠ 4 from fun h9 => h1 (by have := (i_eq (b := 4) (by omega) (by omega)).mp h9; omega)), if_neg h1]; rfl
theorem word_r3 (hL : Lay M) (hT : TXr T L M) {p q a b c : Nat} (hpq : p ≤ q) (hq : q ≤ L) (ha : a ≤ 127) (hb : b ≤ 127) (hc : c ≤ 127) : m_X11_isWord M (some 2179) (nI p) (nI (q - p)) (nI a) (nI b) (nI c) 0 = some (if w3 T p q a b c = true then 1 else 0, M) := by
  have h90 := hT.1
  have e1 : (1 : Int32) = nI 1 := rfl
  have e2 : (2 : Int32) = nI 2 := rfl
  unfold m_X11_isWord w3
  rw [jn_eq, if_neg z00']
  dsimp only
  by_cases h1 : q = p + 3
  · have ch : ∀ j, j < 3 → T (p + j) ≤ 127 := fun j hj => (hT.2.2.2 (p + j) (by omega)).1
    have t0 := ch 0 (by omega)
    have t1 := ch 1 (by omega)
    have t2 := ch 2 (by omega)
    rw [if_neg (show ¬ nI (q - p) ≠ 3 from fun h9 => h9 (by rw [h1, Nat.add_sub_cancel_left]; rfl)), if_pos h1, show dP M 11 5 (some 2179) (fun q4 => aI M 100 q4 (nI p) _) = _ from chr_r (j := p + 0) hL hT (by omega)]
    by_cases g0 : T (p + 0) = a
    · rw [if_neg (show ¬ nI (T (p + 0)) ≠ nI a from fun h9 => h9 (by rw [g0])), if_pos g0, e1, nI_add, chr_r hL hT (by omega)]
      by_cases g1 : T (p + 1) = b
      · rw [if_neg (show ¬ nI (T (p + 1)) ≠ nI b from fun h9 => h9 (by rw [g1])), if_pos g1, e2, nI_add, chr_r hL hT (by omega)]
        by_cases g2 : T (p + 2) = c
        · rw [if_neg (show ¬ nI (T (p + 2)) ≠ nI c from fun h9 => h9 (by rw [g2])), if_pos g2, if_pos z00]; rfl
        · rw [if_pos (show nI (T (p + 2)) ≠ nI c from fun h9 => g2 ((i_eq (by omega) (by omega)).mp h9)), if_neg g2]; rfl
      · rw [if_pos (show nI (T (p + 1)) ≠ nI b from fun h9 => g1 ((i_eq (by omega) (by omega)).mp h9)), if_neg g1]; rfl
    · rw [if_pos (show nI (T (p + 0)) ≠ nI a from fun h9 => g0 ((i_eq (by omega) (by omega)).mp h9)), if_neg g0]; rfl
  · rw [if_pos (show nI (q - p) ≠ 3 from fun h9 => h1 (by have := (i_eq (b := 3) (by omega) (by omega)).mp h9; omega)), if_neg h1]; rfl
/-- the letters of a clause's first word -/
theorem letters_r {J : Mem → Option (Unit × Mem)} : ∀ (k p fu : Nat) (M : Mem), Lay M → TXr T L M → GS M0 M i p d → p ≤ L → L - p < k → k ≤ fu → ∃ M1, lp (b_X11_clause_5 (some 2179) J) fu M = J M1 ∧ GS M0 M1 i (skW T L k p) d := by
  intro k
  induction k with
  | zero => intro p fu M _ _ _ _ h; omega
  | succ k ih =>
    intro p fu M hL hT h hpL hk hfu
    obtain ⟨fu, rfl⟩ : ∃ z, fu = z + 1 := ⟨fu - 1, by omega⟩
    have e : skW T L (k + 1) p = if p < L ∧ 97 ≤ T p ∧ T p ≤ 122 then skW T L k (p + 1) else p := rfl
    rw [lp_succ, b_X11_clause_5, rc_at (S1 _ hL), here_r hL hT h.2.1 hpL, cl_some, show m_X11_in M (hereV T L p) 97 122 = _ from here_in (a := 97) (b := 122) hT (by omega) (by omega) M, cl_some, e]
    by_cases h2 : p < L ∧ 97 ≤ T p ∧ T p ≤ 122
    · rw [if_pos h2, if_neg z10, if_pos h2, iR hL (show mI M (32 * 11 + 14) 2179 = nI p from h.2.1), wR hL, nI_1]
      exact ih (p + 1) fu _ (hL.uI _ _ _) ((Rfr.set (by omega)).TX hT) (h.spot (p + 1)) (by omega) (by omega) (by omega)
    · rw [if_neg h2, if_pos z00, if_neg h2]
      exact ⟨M, rfl, h⟩
theorem GS.dset (h : GS M0 M i p d) {k : Nat} {x : Int32} {d' : PD} (hC : RDr M d → RDr (uI M k 2186 x) d') : GS M0 (uI M k 2186 x) i p d' := ⟨h.1.trans (Rfr.set (by omega)), (mI_ne (by omega)).trans h.2.1, (mI_ne (by omega)).trans h.2.2.1, (mI_ne (by omega)).trans h.2.2.2.1, hC h.2.2.2.2⟩
theorem RDr.rest {M1 : Mem} {d d' : PD} (h : RDr M d) (hc : pCnt d' = pCnt d) (hB : ∀ b j, pB d' b j = pB d b j) (h1 : ∀ k a, ¬ (a = 2186 ∧ k < 1004) → mI M1 k a = mI M k a) (c1 : mI M1 1000 2186 = nI (pFree d')) (c2 : mI M1 1001 2186 = nI (pCap d')) (c3 : mI M1 1002 2186 = nI (pWay d')) (c4 : mI M1 1003 2186 = nI (pLost d')) : RDr M1 d' := by
  obtain ⟨a1, a2, a3, a4, a5, a6⟩ := h
  refine ⟨c1, c2, c3, c4, by rw [hc]; exact (h1 _ _ (by omega)).trans a5, fun b hb j hj => ?_⟩
  rw [hc] at hb
  rw [hB]
  exact (h1 _ _ (by omega)).trans (a6 b hb j hj)
theorem clause_r (hL0 : Lay M0) (hT0 : TXr T L M0) (h : GS M0 M i p d) (hg : GD d) (hp : p ≤ L) : Outr L M0 i (clauseP T L d p) (m_X11_clause M (some 2179)) := by
  have hL := h.1.Lay hL0
  have hT := h.1.TX hT0
  have hd5 := hg.2.2.2.2.1
  have h90 := hT.1
  obtain ⟨q1, q2⟩ := skW_le (T := T) 91 p hp
  obtain ⟨q, hq⟩ : ∃ q, q = skW T L 91 p := ⟨_, rfl⟩
  rw [← hq] at q1 q2
  unfold m_X11_clause clauseP clauseQ
  rw [iR hL (show mI M (32 * 11 + 14) 2179 = nI p from h.2.1), jn_eq, ← hq]
  obtain ⟨M2, f1, h2⟩ := letters_r (T := T) (L := L) (M0 := M0) (i := i) (d := d) (J := fun (M3 : Mem) => dI M3 11 14 (some 2179) (fun (x4 : Int32) => rc M3 11 (some 2179) (cl (m_X11_isWord M3 (some 2179) (nI p) ((x4 - nI p)) 102 114 101 101) (fun (x6 : Int32) (M5 : Mem) => (if x6 = 0 then rc M5 11 (some 2179) (cl (m_X11_isWord M5 (some 2179) (nI p) ((x4 - nI p)) 99 97 112 0) (fun (x8 : Int32) (M7 : Mem) => (if x8 = 0 then rc M7 11 (some 2179) (cl (m_X11_isWord M7 (some 2179) (nI p) ((x4 - nI p)) 108 111 115 116) (fun (x10 : Int32) (M9 : Mem) => (if x10 = 0 then rc M9 11 (some 2179) (cl (m_X11_isWord M9 (some 2179) (nI p) ((x4 - nI p)) 100 97 121 115) (fun (x12 : Int32) (M11 : Mem) => (if x12 = 0 then rc M11 11 (some 2179) (cl (m_X11_isWord M11 (some 2179) (nI p) ((x4 - nI p)) 98 97 110 100) (fun (x14 : Int32) (M13 : Mem) => (if x14 = 0 then rc M13 11 (some 2179) (cl (m_X11_fails M13 (some 2179) 3 (nI p)) (fun (_u : Unit) (M15 : Mem) => rt () M15)) else rc M13 11 (some 2179) (cl (m_X11_band M13 (some 2179)) (fun (_u : Unit) (M16 : Mem) => rt () M16))))) else dP M11 11 18 (some 2179) (fun (q17 : Option Nat) => sI M11 100 q17 2 1 (fun (M18 : Mem) => rt () M18))))) else rc M9 11 (some 2179) (cl (m_X11_amount M9 (some 2179) 3 9999) (fun (_u : Unit) (M19 : Mem) => rt () M19))))) else rc M7 11 (some 2179) (cl (m_X11_amount M7 (some 2179) 1 9999) (fun (_u : Unit) (M20 : Mem) => rt () M20))))) else rc M5 11 (some 2179) (cl (m_X11_amount M5 (some 2179) 0 60) (fun (_u : Unit) (M21 : Mem) => rt () M21))))))) 91 p FU M hL hT h hp (by omega) (Nat.le_of_lt (Nat.lt_trans (by omega) FU_1000))
  rw [← hq] at h2
  have hL2 := h2.1.Lay hL0
  have hT2 := h2.1.TX hT0
  have hrt : ∀ {r : Rz} {x : Option (Unit × Mem)}, Outr L M0 i r x → Outr L M0 i r (cl x (fun (_u : Unit) (M21 : Mem) => rt () M21)) := by
    intro r x ⟨M1, g1, g2, g3⟩
    exact ⟨M1, by rw [g1, cl_some]; rfl, g2, g3⟩
  rw [f1]
  rw [iR hL2 (show mI M2 (32 * 11 + 14) 2179 = nI q from h2.2.1), pk_sub q1, rc_at (S1 _ hL2), show m_X11_isWord M2 (some 2179) (nI p) (nI (q - p)) 102 114 101 101 = _ from word_r4 hL2 hT2 (a := 102) (b := 114) (c := 101) (d := 101) q1 q2 (by omega) (by omega) (by omega) (by omega) (by omega), ← wOk0, cl_some]
  by_cases h0 : wOk T 0 p q = true
  · rw [if_neg (fun h9 => (ite10 _).mp h9 h0), if_pos h0, rc_at (S1 _ hL2)]
    refine hrt (amount_r hL0 hT0 h2 q2 hd5 (hi := 60) (w := 0) (by omega) (by omega) _ (fun M1 q' v hk => hk.dset (fun hc => ?_)))
    obtain ⟨a1, a2, a3, a4, -⟩ := id hc
    exact hc.rest rfl (fun _ _ => rfl) (fun k a hn => mI_ne (by omega)) mI_eq ((mI_ne (by omega)).trans a2) ((mI_ne (by omega)).trans a3) ((mI_ne (by omega)).trans a4)
  · rw [if_pos ((ite10 _).mpr h0), if_neg h0, rc_at (S1 _ hL2), show m_X11_isWord M2 (some 2179) (nI p) (nI (q - p)) 99 97 112 0 = _ from word_r3 hL2 hT2 (a := 99) (b := 97) (c := 112) q1 q2 (by omega) (by omega) (by omega), ← wOk1, cl_some]
    by_cases h1 : wOk T 1 p q = true
    · rw [if_neg (fun h9 => (ite10 _).mp h9 h1), if_pos h1, rc_at (S1 _ hL2)]
      refine hrt (amount_r hL0 hT0 h2 q2 hd5 (hi := 9999) (w := 1) (by omega) (by omega) _ (fun M1 q' v hk => hk.dset (fun hc => ?_)))
      obtain ⟨a1, a2, a3, a4, -⟩ := id hc
      exact hc.rest rfl (fun _ _ => rfl) (fun k a hn => mI_ne (by omega)) ((mI_ne (by omega)).trans a1) mI_eq ((mI_ne (by omega)).trans a3) ((mI_ne (by omega)).trans a4)
    · rw [if_pos ((ite10 _).mpr h1), if_neg h1, rc_at (S1 _ hL2), show m_X11_isWord M2 (some 2179) (nI p) (nI (q - p)) 108 111 115 116 = _ from word_r4 hL2 hT2 (a := 108) (b := 111) (c := 115) (d := 116) q1 q2 (by omega) (by omega) (by omega) (by omega) (by omega), ← wOk2, cl_some]
      by_cases h2' : wOk T 2 p q = true
      · rw [if_neg (fun h9 => (ite10 _).mp h9 h2'), if_pos h2', rc_at (S1 _ hL2)]
        refine hrt (amount_r hL0 hT0 h2 q2 hd5 (hi := 9999) (w := 3) (by omega) (by omega) _ (fun M1 q' v hk => hk.dset (fun hc => ?_)))
        obtain ⟨a1, a2, a3, a4, -⟩ := id hc
        exact hc.rest rfl (fun _ _ => rfl) (fun k a hn => mI_ne (by omega)) ((mI_ne (by omega)).trans a1) ((mI_ne (by omega)).trans a2) ((mI_ne (by omega)).trans a3) mI_eq
      · rw [if_pos ((ite10 _).mpr h2'), if_neg h2', rc_at (S1 _ hL2), show m_X11_isWord M2 (some 2179) (nI p) (nI (q - p)) 100 97 121 115 = _ from word_r4 hL2 hT2 (a := 100) (b := 97) (c := 121) (d := 115) q1 q2 (by omega) (by omega) (by omega) (by omega) (by omega), ← wOk3, cl_some]
        by_cases h3 : wOk T 3 p q = true
        · rw [if_neg (fun h9 => (ite10 _).mp h9 h3), if_pos h3, dR18 hL2, show sI M2 100 (some 2186) 2 1 _ = _ from sI_at (i := 2) (S86 hL2) (by omega) (by omega)]
          refine ⟨_, rfl, fun _ => h2.dset (fun hc => ?_), fun h9 => absurd rfl h9⟩
          obtain ⟨a1, a2, a3, a4, -⟩ := id hc
          exact hc.rest rfl (fun _ _ => rfl) (fun k a hn => mI_ne (by omega)) ((mI_ne (by omega)).trans a1) ((mI_ne (by omega)).trans a2) mI_eq ((mI_ne (by omega)).trans a4)
        · rw [if_pos ((ite10 _).mpr h3), if_neg h3, rc_at (S1 _ hL2), show m_X11_isWord M2 (some 2179) (nI p) (nI (q - p)) 98 97 110 100 = _ from word_r4 hL2 hT2 (a := 98) (b := 97) (c := 110) (d := 100) q1 q2 (by omega) (by omega) (by omega) (by omega) (by omega), ← wOk4, cl_some]
          by_cases h4 : wOk T 4 p q = true
          · rw [if_neg (fun h9 => (ite10 _).mp h9 h4), if_pos h4, rc_at (S1 _ hL2)]
            exact hrt (band_r hL0 hT0 h2 hg q2)
          · have hf := h2.fail (e := p) (c := 3) q2 hd5 (Or.inl rfl)
            rw [if_pos ((ite10 _).mpr h4), if_neg h4, rc_at (S1 _ hL2), fails_r hL2, if_pos (show mI M2 368 2179 ≤ 0 by rw [h2.2.2.2.1]; decide), cl_some]
            exact Outr.bad hf
end RFS4
