/-! ===== readPlan: the reference's parser ===== -/
def Rfr (M0 M : Mem) : Prop := M.2 = M0.2 ∧ ∀ k a, ¬ (a = 2179 ∧ 366 ≤ k ∧ k ≤ 372) → a ≠ 2186 → a ≠ 2187 → mI M k a = mI M0 k a
theorem Rfr.trans {M0 M1 M2 : Mem} (h1 : Rfr M0 M1) (h2 : Rfr M1 M2) : Rfr M0 M2 := ⟨h2.1.trans h1.1, fun k a a1 a2 a3 => (h2.2 k a a1 a2 a3).trans (h1.2 k a a1 a2 a3)⟩
theorem Rfr.set {M : Mem} {k a : Nat} {x : Int32} (h : (a = 2179 ∧ 366 ≤ k ∧ k ≤ 372) ∨ a = 2186 ∨ a = 2187) : Rfr M (uI M k a x) := ⟨rfl, fun k' a' a1 a2 a3 => mI_ne (fun h9 => by obtain ⟨rfl, rfl⟩ := h9; omega)⟩
theorem Rfr.rfl' {M : Mem} : Rfr M M := ⟨rfl, fun _ _ _ _ _ => rfl⟩
theorem Rfr.Lay {M0 M : Mem} (h : Rfr M0 M) (hL : Lay M0) : Lay M := eLay h.1 hL
/-- the text, on the reference's side alone -/
def TXr (T : Nat → Nat) (L : Nat) (M : Mem) : Prop := L ≤ 90 ∧ True ∧ mI M 358 2179 = nI L ∧ ∀ j, j < L → T j ≤ 127 ∧ True ∧ mI M (1000 + j) 2184 = nI (T j)
theorem Rfr.TX {T : Nat → Nat} {L : Nat} {M0 M : Mem} (h : Rfr M0 M) (hT : TXr T L M0) : TXr T L M := by
  obtain ⟨t1, -, t3, t4⟩ := hT
  refine ⟨t1, trivial, (h.2 _ _ (by omega) (by omega) (by omega)).trans t3, fun j hj => ?_⟩
  obtain ⟨c1, -, c3⟩ := t4 j hj
  exact ⟨c1, trivial, (h.2 _ _ (by omega) (by omega) (by omega)).trans c3⟩
section RFS
variable {T : Nat → Nat} {L : Nat} {M : Mem}
theorem iR (hL : Lay M) {j : Nat} {x : Int32} {β : Type} {K : Int32 → Option β} (h : mI M (32 * 11 + j) 2179 = x) : dI M 11 j (some 2179) K = K x := by
  rw [dI_at (S1 _ hL), h]
theorem wR (hL : Lay M) {j : Nat} {x : Int32} {β : Type} {K : Mem → Option β} : pI M 11 j (some 2179) x K = K (uI M (32 * 11 + j) 2179 x) := pI_at (S1 _ hL)
theorem dR5 (hL : Lay M) {β : Type} {K : Option Nat → Option β} : dP M 11 5 (some 2179) K = K (some 2184) := by
  rw [dP_at (S1 _ hL)]
  show K (mP M 357 2179) = _
  rw [show mP M 357 2179 = some 2184 from hL.P (by omega) 357]
theorem dR18 (hL : Lay M) {β : Type} {K : Option Nat → Option β} : dP M 11 18 (some 2179) K = K (some 2186) := by
  rw [dP_at (S1 _ hL)]
  show K (mP M 370 2179) = _
  rw [show mP M 370 2179 = some 2186 from hL.P (by omega) 370]
theorem dR19 (hL : Lay M) {β : Type} {K : Option Nat → Option β} : dP M 11 19 (some 2179) K = K (some 2187) := by
  rw [dP_at (S1 _ hL)]
  show K (mP M 371 2179) = _
  rw [show mP M 371 2179 = some 2187 from hL.P (by omega) 371]
theorem S84 (hL : Lay M) : mS M 2184 = (100, 90) := hL.S (by omega)
theorem S86 (hL : Lay M) : mS M 2186 = (100, 23) := hL.S (by omega)
theorem S87 (hL : Lay M) : mS M 2187 = (100, 3) := hL.S (by omega)
def hereV (T : Nat → Nat) (L p : Nat) : Int32 := if p < L then nI (T p) else -1
theorem here_r (hL : Lay M) (hT : TXr T L M) {p : Nat} (hp : mI M 366 2179 = nI p) (hpL : p ≤ L) : m_X11_here M (some 2179) = some (hereV T L p, M) := by
  have h90 := hT.1
  unfold m_X11_here hereV
  rw [iR hL (show mI M (32 * 11 + 14) 2179 = nI p from hp), iR hL (show mI M (32 * 11 + 6) 2179 = nI L from hT.2.2.1)]
  by_cases h1 : p < L
  · obtain ⟨c1, c2, c3⟩ := hT.2.2.2 p h1
    rw [if_neg (fun h9 => absurd ((i_le (by omega) (by omega)).mp h9) (by omega)), if_pos h1, dR5 hL, iR hL (show mI M (32 * 11 + 14) 2179 = nI p from hp), aI_at (S84 hL) (by omega) (by omega), c3]; rfl
  · rw [if_pos (le_n (by omega) (by omega)), if_neg h1]; rfl
theorem here_eq {p c : Nat} (hT : TXr T L M) (hc : c ≤ 127) : (hereV T L p = nI c) ↔ (p < L ∧ T p = c) := by
  unfold hereV
  by_cases h1 : p < L
  · obtain ⟨c1, -, -⟩ := hT.2.2.2 p h1
    rw [if_pos h1]
    exact ⟨fun h9 => ⟨h1, (i_eq (by omega) (by omega)).mp h9⟩, fun h9 => by rw [h9.2]⟩
  · rw [if_neg h1]
    refine ⟨fun h9 => ?_, fun h9 => absurd h9.1 h1⟩
    have h5 := congrArg Int32.toInt h9
    rw [tI _ (by omega)] at h5
    have e5 : ((-1 : Int32)).toInt = -1 := by decide
    omega
theorem here_in {p a b : Nat} (hT : TXr T L M) (ha : a < 1000) (hb : b < 1000) (M' : Mem) : m_X11_in M' (hereV T L p) (nI a) (nI b) = some (if p < L ∧ a ≤ T p ∧ T p ≤ b then 1 else 0, M') := by
  unfold hereV
  by_cases h1 : p < L
  · obtain ⟨c1, -, -⟩ := hT.2.2.2 p h1
    rw [if_pos h1]
    by_cases h2 : a ≤ T p ∧ T p ≤ b
    · rw [in_y ⟨le_n (by omega) h2.1, le_n (by omega) h2.2⟩, if_pos ⟨h1, h2⟩]
    · rw [in_n (fun h9 => h2 ⟨(i_le (by omega) (by omega)).mp h9.1, (i_le (by omega) (by omega)).mp h9.2⟩), if_neg (fun h9 => h2 h9.2)]
  · rw [if_neg h1, if_neg (fun h9 => h1 h9.1), in_n (fun h9 => by
      have h5 := Int32.le_iff_toInt_le.mp h9.1
      rw [tI _ (by omega)] at h5
      have e5 : ((-1 : Int32)).toInt = -1 := by decide
      omega)]
theorem fails_r (hL : Lay M) (x y : Int32) : m_X11_fails M (some 2179) x y = some ((), if mI M 368 2179 ≤ 0 then uI (uI M 368 2179 x) 369 2179 y else M) := by
  unfold m_X11_fails
  rw [iR hL (show mI M (32 * 11 + 16) 2179 = _ from rfl)]
  show (if mI M 368 2179 ≤ 0 then _ else _) = _
  by_cases h : mI M 368 2179 ≤ 0
  · rw [if_pos h, if_pos h, wR hL, wR (hL.uI _ _ _)]; rfl
  · rw [if_neg h, if_neg h]; rfl
end RFS
/-- the draft on the reference's side; what holds while nothing has failed, and once it has -/
def RDr (M : Mem) (d : PD) : Prop := mI M 1000 2186 = nI (pFree d) ∧ mI M 1001 2186 = nI (pCap d) ∧ mI M 1002 2186 = nI (pWay d) ∧ mI M 1003 2186 = nI (pLost d) ∧ mI M 372 2179 = nI (pCnt d) ∧ ∀ b, b < pCnt d → ∀ j, j < 3 → mI M (1000 + (5 + 3 * b + j)) 2186 = nI (pB d b j)
def GS (M0 M : Mem) (i p : Nat) (d : PD) : Prop := Rfr M0 M ∧ mI M 366 2179 = nI p ∧ mI M 367 2179 = nI i ∧ mI M 368 2179 = 0 ∧ RDr M d
def GF (L : Nat) (M0 M : Mem) (i c e : Nat) : Prop := Rfr M0 M ∧ (∃ p, p ≤ L ∧ mI M 366 2179 = nI p) ∧ mI M 367 2179 = nI i ∧ mI M 368 2179 = nI c ∧ mI M 369 2179 = nI e ∧ (c = 3 ∨ c = 4) ∧ ∃ n, n ≤ 6 ∧ mI M 372 2179 = nI n
theorem RDr.of {M M1 : Mem} {d : PD} (h : RDr M d) (h1 : ∀ k, mI M1 k 2186 = mI M k 2186) (h2 : mI M1 372 2179 = mI M 372 2179) : RDr M1 d := ⟨(h1 _).trans h.1, (h1 _).trans h.2.1, (h1 _).trans h.2.2.1, (h1 _).trans h.2.2.2.1, h2.trans h.2.2.2.2.1, fun b hb j hj => (h1 _).trans (h.2.2.2.2.2 b hb j hj)⟩
section RFS2
variable {T : Nat → Nat} {L : Nat} {M0 M : Mem} {i p c e : Nat} {d : PD}
theorem GS.fail (h : GS M0 M i p d) (hp : p ≤ L) (hd : pCnt d ≤ 6) (hc : c = 3 ∨ c = 4) : GF L M0 (uI (uI M 368 2179 (nI c)) 369 2179 (nI e)) i c e :=
  ⟨(h.1.trans (Rfr.set (by omega))).trans (Rfr.set (by omega)), ⟨p, hp, by rw [mI_ne (by omega), mI_ne (by omega)]; exact h.2.1⟩, by rw [mI_ne (by omega), mI_ne (by omega)]; exact h.2.2.1, by rw [mI_ne (by omega), mI_eq], mI_eq, hc, pCnt d, hd, by rw [mI_ne (by omega), mI_ne (by omega)]; exact h.2.2.2.2.2.2.2.2.1⟩
theorem GF.pos (h : GF L M0 M i c e) : ¬ mI M 368 2179 ≤ 0 := by
  rw [h.2.2.2.1]
  have := h.2.2.2.2.2.1
  exact fun h9 => absurd ((i_le (b := 0) (by omega) (by omega)).mp h9) (by omega)
theorem GF.ne (h : GF L M0 M i c e) : mI M 368 2179 ≠ 0 := fun h9 => h.pos (by rw [h9]; decide)
theorem GF.fails (hL0 : Lay M0) (h : GF L M0 M i c e) (x y : Int32) : m_X11_fails M (some 2179) x y = some ((), M) := by
  rw [fails_r (h.1.Lay hL0), if_neg h.pos]
theorem GF.num (h : GF L M0 M i c e) (k : Nat) (x : Int32) : GF L M0 (uI M k 2187 x) i c e := by
  obtain ⟨h1, ⟨p, h2, h3⟩, h4, h5, h6, h7, n, h8, h9⟩ := h
  exact ⟨h1.trans (Rfr.set (by omega)), ⟨p, h2, (mI_ne (by omega)).trans h3⟩, (mI_ne (by omega)).trans h4, (mI_ne (by omega)).trans h5, (mI_ne (by omega)).trans h6, h7, n, h8, (mI_ne (by omega)).trans h9⟩
theorem GF.spot (h : GF L M0 M i c e) {q : Nat} (hq : q ≤ L) : GF L M0 (uI M 366 2179 (nI q)) i c e := by
  obtain ⟨h1, ⟨p, h2, h3⟩, h4, h5, h6, h7, n, h8, h9⟩ := h
  exact ⟨h1.trans (Rfr.set (by omega)), ⟨q, hq, mI_eq⟩, (mI_ne (by omega)).trans h4, (mI_ne (by omega)).trans h5, (mI_ne (by omega)).trans h6, h7, n, h8, (mI_ne (by omega)).trans h9⟩
theorem GS.num (h : GS M0 M i p d) (k : Nat) (x : Int32) : GS M0 (uI M k 2187 x) i p d := ⟨h.1.trans (Rfr.set (by omega)), (mI_ne (by omega)).trans h.2.1, (mI_ne (by omega)).trans h.2.2.1, (mI_ne (by omega)).trans h.2.2.2.1, h.2.2.2.2.of (fun k => mI_ne (by omega)) (mI_ne (by omega))⟩
theorem GS.spot (h : GS M0 M i p d) (q : Nat) : GS M0 (uI M 366 2179 (nI q)) i q d := ⟨h.1.trans (Rfr.set (by omega)), mI_eq, (mI_ne (by omega)).trans h.2.2.1, (mI_ne (by omega)).trans h.2.2.2.1, h.2.2.2.2.of (fun k => mI_ne (by omega)) (mI_ne (by omega))⟩
theorem must_b (hL0 : Lay M0) (hT0 : TXr T L M0) (h : GF L M0 M i c e) (x : Int32) : ∃ M1, m_X11_must M (some 2179) x = some ((), M1) ∧ GF L M0 M1 i c e := by
  have hL := h.1.Lay hL0
  obtain ⟨p, hp, h3⟩ := h.2.1
  refine ⟨uI M 366 2179 (nI p), ?_, h.spot hp⟩
  have hJ : ∀ {K : Int32 → Mem → Option (Unit × Mem)}, K = (fun (x8 : Int32) (M9 : Mem) => pI M9 11 14 (some 2179) ((nI p + x8)) (fun (M10 : Mem) => rt () M10)) → (if mI M 368 2179 ≠ 0 then K 0 M else K 1 M) = some ((), uI M 366 2179 (nI p)) := by
    intro K hK
    rw [if_pos h.ne, hK]
    show pI M 11 14 (some 2179) (nI p + nI 0) _ = _
    rw [nI_add, wR hL]; rfl
  unfold m_X11_must
  rw [rc_at (S1 _ hL), here_r hL (h.1.TX hT0) h3 hp, cl_some, jn_eq]
  by_cases hx : hereV T L p = x
  · rw [if_pos hx]
    dsimp only
    rw [iR hL (show mI M (32 * 11 + 14) 2179 = nI p from h3), iR hL (show mI M (32 * 11 + 16) 2179 = _ from rfl), jn_eq]
    exact hJ rfl
  · rw [if_neg hx, iR hL (show mI M (32 * 11 + 14) 2179 = nI p from h3), rc_at (S1 _ hL), h.fails hL0, cl_some]
    dsimp only
    rw [iR hL (show mI M (32 * 11 + 14) 2179 = nI p from h3), iR hL (show mI M (32 * 11 + 16) 2179 = _ from rfl), jn_eq]
    exact hJ rfl
theorem must_g (hL0 : Lay M0) (hT0 : TXr T L M0) (h : GS M0 M i p d) (hp : p ≤ L) (hd : pCnt d ≤ 6) {x : Nat} (hx : x ≤ 127) : ∃ M1, m_X11_must M (some 2179) (nI x) = some ((), M1) ∧ ((p < L ∧ T p = x) → GS M0 M1 i (p + 1) d ∧ ∀ k, mI M1 k 2187 = mI M k 2187) ∧ (¬ (p < L ∧ T p = x) → GF L M0 M1 i 3 p) := by
  have hL := h.1.Lay hL0
  have hT := h.1.TX hT0
  unfold m_X11_must
  rw [rc_at (S1 _ hL), here_r hL hT h.2.1 hp, cl_some, jn_eq]
  by_cases h1 : p < L ∧ T p = x
  · rw [if_pos (show hereV T L p = nI x from (here_eq hT hx).mpr h1)]
    dsimp only
    rw [iR hL (show mI M (32 * 11 + 14) 2179 = nI p from h.2.1), iR hL (show mI M (32 * 11 + 16) 2179 = 0 from h.2.2.2.1), jn_eq, if_neg z00']
    refine ⟨uI M 366 2179 (nI (p + 1)), ?_, fun _ => ⟨h.spot (p + 1), fun k => mI_ne (by omega)⟩, fun h9 => absurd h1 h9⟩
    show pI M 11 14 (some 2179) (nI p + 1) _ = _
    rw [nI_1, wR hL]; rfl
  · have hf := h.fail (e := p) (c := 3) hp hd (Or.inl rfl)
    have hL1 := hf.1.Lay hL0
    rw [if_neg (show ¬ hereV T L p = nI x from fun h9 => h1 ((here_eq hT hx).mp h9)), iR hL (show mI M (32 * 11 + 14) 2179 = nI p from h.2.1), rc_at (S1 _ hL), fails_r hL, if_pos (show mI M 368 2179 ≤ 0 by rw [h.2.2.2.1]; decide), cl_some]
    show ∃ M1, dI (uI (uI M 368 2179 (nI 3)) 369 2179 (nI p)) 11 14 (some 2179) _ = _ ∧ _
    rw [iR hL1 (show mI (uI (uI M 368 2179 (nI 3)) 369 2179 (nI p)) (32 * 11 + 14) 2179 = nI p by rw [mI_ne (by omega), mI_ne (by omega)]; exact h.2.1)]
    refine ⟨uI (uI (uI M 368 2179 (nI 3)) 369 2179 (nI p)) 366 2179 (nI p), ?_, fun h9 => absurd h9 h1, fun _ => hf.spot hp⟩
    show dI (uI (uI M 368 2179 (nI 3)) 369 2179 (nI p)) 11 16 (some 2179) (fun x6 => jn (fun (x8 : Int32) (M9 : Mem) => pI M9 11 14 (some 2179) (nI p + x8) (fun (M10 : Mem) => rt () M10)) (fun (J34_6 : Int32 → Mem → Option (Unit × Mem)) => (if x6 ≠ 0 then J34_6 0 (uI (uI M 368 2179 (nI 3)) 369 2179 (nI p)) else J34_6 1 (uI (uI M 368 2179 (nI 3)) 369 2179 (nI p))))) = _
    rw [iR hL1 (show mI (uI (uI M 368 2179 (nI 3)) 369 2179 (nI p)) (32 * 11 + 16) 2179 = _ from rfl), jn_eq, if_pos hf.ne]
    show pI (uI (uI M 368 2179 (nI 3)) 369 2179 (nI p)) 11 14 (some 2179) (nI p + nI 0) _ = _
    rw [nI_add, wR hL1]; rfl
/-- a number's digits -/
theorem numloop_r {j : Nat} (hj : j < 3) : ∀ (k c p v fu : Nat) (M : Mem), c + k = 4 → k < fu → Lay M → TXr T L M → mI M 366 2179 = nI p → p ≤ L → mI M 368 2179 = 0 → mI M (1000 + j) 2187 = nI v → ∃ M1, lp (b_X11_number_32 (some 2179) (nI j)) fu (nI c, M) = some ((), M1) ∧ M1.2 = M.2 ∧ (∀ k a, ¬ (a = 2179 ∧ k = 366) → ¬ (a = 2187 ∧ k = 1000 + j) → mI M1 k a = mI M k a) ∧ mI M1 366 2179 = nI (nmS T L k p v).2 ∧ mI M1 (1000 + j) 2187 = nI (nmS T L k p v).1 := by
  intro k
  induction k with
  | zero =>
    intro c p v fu M hc hfu hL hT hp hpL h0 hv
    obtain ⟨fu, rfl⟩ : ∃ z, fu = z + 1 := ⟨fu - 1, by omega⟩
    have e4 : (4 : Int32) = nI 4 := rfl
    refine ⟨M, ?_, rfl, fun _ _ _ _ => rfl, hp, hv⟩
    rw [lp_succ, b_X11_number_32]
    exact (if_pos (show (4 : Int32) ≤ nI c by rw [e4]; exact le_n (by omega) (by omega))).trans rfl
  | succ k ih =>
    intro c p v fu M hc hfu hL hT hp hpL h0 hv
    obtain ⟨fu, rfl⟩ : ∃ z, fu = z + 1 := ⟨fu - 1, by omega⟩
    have e : nmS T L (k + 1) p v = if p < L ∧ 48 ≤ T p ∧ T p ≤ 57 then nmS T L k (p + 1) (v * 10 + (T p - 48)) else (v, p) := rfl
    rw [lp_succ, b_X11_number_32, e]
    dsimp only
    rw [if_neg (show ¬ (4 : Int32) ≤ nI c from fun h9 => absurd ((i_le (a := 4) (by omega) (by omega)).mp h9) (by omega)), iR hL (show mI M (32 * 11 + 16) 2179 = 0 from h0), if_neg z00', rc_at (S1 _ hL), here_r hL hT hp hpL, cl_some, show m_X11_in M (hereV T L p) 48 57 = _ from here_in (a := 48) (b := 57) hT (by omega) (by omega) M, cl_some]
    by_cases h2 : p < L ∧ 48 ≤ T p ∧ T p ≤ 57
    · have e10 : (10 : Int32) = nI 10 := rfl
      have e48 : (48 : Int32) = nI 48 := rfl
      obtain ⟨c1, -, -⟩ := hT.2.2.2 p h2.1
      have hV : hereV T L p = nI (T p) := if_pos h2.1
      rw [if_pos h2, if_pos h2, if_neg z10, dR19 hL, dR19 hL, aI_at (S87 hL) hj (by omega), hv, rc_at (S1 _ hL), here_r hL hT hp hpL, cl_some, hV, e10, pk_mul, nI_add, e48, pk_sub (by omega), sI_at (S87 hL) hj (by omega), show 10 * v + T p - 48 = v * 10 + (T p - 48) by omega]
      obtain ⟨A, hA⟩ : ∃ A, A = uI M (1000 + j) 2187 (nI (v * 10 + (T p - 48))) := ⟨_, rfl⟩
      have hLA : Lay A := by rw [hA]; exact hL
      have hpA : mI A 366 2179 = nI p := by rw [hA, mI_ne (by omega)]; exact hp
      rw [← hA, iR hLA (show mI A (32 * 11 + 14) 2179 = nI p from hpA), wR hLA, nI_1, nI_1]
      have hTA : TXr T L A := by rw [hA]; exact (Rfr.set (by omega)).TX hT
      obtain ⟨M1, f1, f2, f3, f4, f5⟩ := ih (c + 1) (p + 1) (v * 10 + (T p - 48)) fu (uI A 366 2179 (nI (p + 1))) (by omega) (by omega) (hLA.uI _ _ _) ((Rfr.set (by omega)).TX hTA) mI_eq (by omega) (by rw [mI_ne (by omega), hA, mI_ne (by omega)]; exact h0) (by rw [mI_ne (by omega), hA, mI_eq])
      refine ⟨M1, f1, f2.trans (by rw [hA]; rfl), fun k' a' g1 g2 => ?_, f4, f5⟩
      rw [f3 k' a' g1 g2, mI_ne (by omega), hA, mI_ne (by omega)]
    · rw [if_neg h2, if_neg h2, if_pos z00]
      exact ⟨M, rfl, rfl, fun _ _ _ _ => rfl, hp, hv⟩
theorem number_b (hL0 : Lay M0) (hT0 : TXr T L M0) (h : GF L M0 M i c e) {j : Nat} (hj : j < 3) : ∃ M1, m_X11_number M (some 2179) (nI j) = some ((), M1) ∧ GF L M0 M1 i c e := by
  have hL := h.1.Lay hL0
  obtain ⟨p, hp, h3⟩ := h.2.1
  have hL1 : Lay (uI M (1000 + j) 2187 0) := hL.uI _ _ _
  have h1 := h.num (1000 + j) 0
  refine ⟨uI M (1000 + j) 2187 0, ?_, h1⟩
  obtain ⟨fu, hfu⟩ : ∃ z, FU = z + 1 := ⟨FU - 1, by have := FU_1000; omega⟩
  have hJ : dP M 11 19 (some 2179) (fun (q7 : Option Nat) => sI M 100 q7 (nI j) 0 (fun (M8 : Mem) => lp (b_X11_number_32 (some 2179) (nI j)) FU (0, M8))) = some ((), uI M (1000 + j) 2187 0) := by
    rw [dR19 hL, sI_at (S87 hL) hj (by omega), hfu, lp_succ, b_X11_number_32]
    dsimp only
    rw [if_neg (show ¬ (4 : Int32) ≤ 0 by decide), iR hL1 (show mI (uI M (1000 + j) 2187 0) (32 * 11 + 16) 2179 = _ from rfl)]
    exact (if_pos h1.ne).trans rfl
  unfold m_X11_number
  rw [rc_at (S1 _ hL), here_r hL (h.1.TX hT0) h3 hp, cl_some, show m_X11_in M (hereV T L p) 48 57 = _ from here_in (a := 48) (b := 57) (h.1.TX hT0) (by omega) (by omega) M, cl_some, jn_eq]
  by_cases h2 : p < L ∧ 48 ≤ T p ∧ T p ≤ 57
  · rw [if_pos h2, if_pos z10']; exact hJ
  · rw [if_neg h2, if_neg z00', iR hL (show mI M (32 * 11 + 14) 2179 = nI p from h3), rc_at (S1 _ hL), h.fails hL0, cl_some]; exact hJ
theorem number_g (hL0 : Lay M0) (hT0 : TXr T L M0) (h : GS M0 M i p d) (hp : p ≤ L) (hd : pCnt d ≤ 6) {j : Nat} (hj : j < 3) : ∃ M1, m_X11_number M (some 2179) (nI j) = some ((), M1) ∧ (¬ (nmS T L 4 p 0).2 = p → GS M0 M1 i (nmS T L 4 p 0).2 d ∧ mI M1 (1000 + j) 2187 = nI (nmS T L 4 p 0).1 ∧ ∀ k, k ≠ 1000 + j → mI M1 k 2187 = mI M k 2187) ∧ ((nmS T L 4 p 0).2 = p → GF L M0 M1 i 3 p) := by
  have hL := h.1.Lay hL0
  have hT := h.1.TX hT0
  unfold m_X11_number
  rw [rc_at (S1 _ hL), here_r hL hT h.2.1 hp, cl_some, show m_X11_in M (hereV T L p) 48 57 = _ from here_in (a := 48) (b := 57) hT (by omega) (by omega) M, cl_some, jn_eq]
  have e : nmS T L 4 p 0 = if p < L ∧ 48 ≤ T p ∧ T p ≤ 57 then nmS T L 3 (p + 1) (0 * 10 + (T p - 48)) else (0, p) := rfl
  by_cases h2 : p < L ∧ 48 ≤ T p ∧ T p ≤ 57
  · have hne : ¬ (nmS T L 4 p 0).2 = p := by
      rw [e, if_pos h2]
      have := (nmS_le (T := T) (L := L) 3 (p + 1) (0 * 10 + (T p - 48)) (by omega)).2.1
      omega
    have h3 := h.num (1000 + j) 0
    obtain ⟨M1, f1, f2, f3, f4, f5⟩ := numloop_r (T := T) (L := L) hj 4 0 p 0 FU (uI M (1000 + j) 2187 0) (by omega) (Nat.lt_trans (by omega) FU_1000) (hL.uI _ _ _) (h3.1.TX hT0) h3.2.1 hp h3.2.2.2.1 mI_eq
    rw [if_pos h2, if_pos z10']
    dsimp only
    rw [dR19 hL, sI_at (S87 hL) hj (by omega)]
    refine ⟨M1, f1, fun _ => ⟨⟨h3.1.trans ⟨f2, fun k a g1 g2 g3 => f3 k a (by omega) (by omega)⟩, f4, (f3 _ _ (by omega) (by omega)).trans h3.2.2.1, (f3 _ _ (by omega) (by omega)).trans h3.2.2.2.1, h3.2.2.2.2.of (fun k => f3 _ _ (by omega) (by omega)) (f3 _ _ (by omega) (by omega))⟩, f5, fun k hk => (f3 _ _ (by omega) (by omega)).trans (mI_ne (by omega))⟩, fun h9 => absurd h9 hne⟩
  · have heq : (nmS T L 4 p 0).2 = p := by rw [e, if_neg h2]
    have hf := h.fail (e := p) (c := 3) hp hd (Or.inl rfl)
    have hL1 := hf.1.Lay hL0
    have h3 := hf.num (1000 + j) 0
    have hL3 := h3.1.Lay hL0
    obtain ⟨fu, hfu⟩ : ∃ z, FU = z + 1 := ⟨FU - 1, by have := FU_1000; omega⟩
    rw [if_neg h2, if_neg z00', iR hL (show mI M (32 * 11 + 14) 2179 = nI p from h.2.1), rc_at (S1 _ hL), fails_r hL, if_pos (show mI M 368 2179 ≤ 0 by rw [h.2.2.2.1]; decide), cl_some]
    refine ⟨uI (uI (uI M 368 2179 (nI 3)) 369 2179 (nI p)) (1000 + j) 2187 0, ?_, fun h9 => absurd heq h9, fun _ => h3⟩
    show dP (uI (uI M 368 2179 (nI 3)) 369 2179 (nI p)) 11 19 (some 2179) (fun (q7 : Option Nat) => sI (uI (uI M 368 2179 (nI 3)) 369 2179 (nI p)) 100 q7 (nI j) 0 (fun (M8 : Mem) => lp (b_X11_number_32 (some 2179) (nI j)) FU (0, M8))) = _
    rw [dR19 hL1, sI_at (S87 hL1) hj (by omega), hfu, lp_succ, b_X11_number_32]
    dsimp only
    rw [if_neg (show ¬ (4 : Int32) ≤ 0 by decide), iR hL3 (show mI (uI (uI (uI M 368 2179 (nI 3)) 369 2179 (nI p)) (1000 + j) 2187 0) (32 * 11 + 16) 2179 = _ from rfl)]
    exact (if_pos h3.ne).trans rfl
/-- a sign and a number -/
theorem step_r (hL0 : Lay M0) (hT0 : TXr T L M0) (h : GS M0 M i p d) (hp : p ≤ L) (hd : pCnt d ≤ 6) {j x : Nat} (hj : j < 3) (hx : x ≤ 127) : ∃ M1, (∀ K : Unit → Mem → Option (Unit × Mem), rc M 11 (some 2179) (cl (m_X11_must M (some 2179) (nI x)) (fun (_u : Unit) (M1 : Mem) => rc M1 11 (some 2179) (cl (m_X11_number M1 (some 2179) (nI j)) K))) = K () M1) ∧ ((stepN T L x p).1 = 0 → GS M0 M1 i (stepN T L x p).2.2.2 d ∧ mI M1 (1000 + j) 2187 = nI (stepN T L x p).2.2.1 ∧ ∀ k, k ≠ 1000 + j → mI M1 k 2187 = mI M k 2187) ∧ ((stepN T L x p).1 ≠ 0 → GF L M0 M1 i (stepN T L x p).1 (stepN T L x p).2.1) := by
  have hL := h.1.Lay hL0
  obtain ⟨M1, f1, f2, f3⟩ := must_g hL0 hT0 h hp hd hx
  unfold stepN
  by_cases h1 : p < L ∧ T p = x
  · obtain ⟨g1, g2⟩ := f2 h1
    have hL1 := g1.1.Lay hL0
    obtain ⟨M2, k1, k2, k3⟩ := number_g hL0 hT0 g1 (by omega) hd hj
    rw [if_pos h1]
    refine ⟨M2, fun K => by rw [rc_at (S1 _ hL), f1, cl_some, rc_at (S1 _ hL1), k1, cl_some], ?_⟩
    by_cases h2 : (nmS T L 4 (p + 1) 0).2 = p + 1
    · rw [if_pos h2]
      exact ⟨fun h9 => absurd h9 (show ¬ (3 = 0) by omega), fun _ => k3 h2⟩
    · rw [if_neg h2]
      obtain ⟨a1, a2, a3⟩ := k2 h2
      exact ⟨fun _ => ⟨a1, a2, fun k hk => (a3 k hk).trans (g2 k)⟩, fun h9 => absurd rfl h9⟩
  · have g1 := f3 h1
    have hL1 := g1.1.Lay hL0
    obtain ⟨M2, k1, k2⟩ := number_b hL0 hT0 g1 hj
    rw [if_neg h1]
    exact ⟨M2, fun K => by rw [rc_at (S1 _ hL), f1, cl_some, rc_at (S1 _ hL1), k1, cl_some], fun h9 => absurd h9 (show ¬ (3 = 0) by omega), fun _ => k2⟩
theorem step_b (hL0 : Lay M0) (hT0 : TXr T L M0) (h : GF L M0 M i c e) {j x : Nat} (hj : j < 3) : ∃ M1, (∀ K : Unit → Mem → Option (Unit × Mem), rc M 11 (some 2179) (cl (m_X11_must M (some 2179) (nI x)) (fun (_u : Unit) (M1 : Mem) => rc M1 11 (some 2179) (cl (m_X11_number M1 (some 2179) (nI j)) K))) = K () M1) ∧ GF L M0 M1 i c e := by
  have hL := h.1.Lay hL0
  obtain ⟨M1, f1, f2⟩ := must_b hL0 hT0 h (nI x)
  have hL1 := f2.1.Lay hL0
  obtain ⟨M2, k1, k2⟩ := number_b hL0 hT0 f2 hj
  exact ⟨M2, fun K => by rw [rc_at (S1 _ hL), f1, cl_some, rc_at (S1 _ hL1), k1, cl_some], k2⟩
theorem range_g (hL0 : Lay M0) (h : GS M0 M i p d) (hp : p ≤ L) (hd : pCnt d ≤ 6) {j v a b : Nat} (hj : j < 3) (hv : v ≤ 9999) (ha : a ≤ 9999) (hb : b ≤ 9999) (hn : mI M (1000 + j) 2187 = nI v) : m_X11_ranges M (some 2179) (nI j) (nI a) (nI b) = some ((), if a ≤ v ∧ v ≤ b then M else uI (uI M 368 2179 (nI 4)) 369 2179 (nI v)) := by
  have hL := h.1.Lay hL0
  unfold m_X11_ranges
  rw [dR19 hL, aI_at (S87 hL) hj (by omega), hn]
  by_cases h1 : a ≤ v ∧ v ≤ b
  · rw [in_y ⟨le_n (by omega) h1.1, le_n (by omega) h1.2⟩, cl_some, if_pos z10', if_pos h1]; rfl
  · rw [in_n (fun h9 => h1 ⟨(i_le (by omega) (by omega)).mp h9.1, (i_le (by omega) (by omega)).mp h9.2⟩), cl_some, if_neg z00', if_neg h1, dR19 hL, aI_at (S87 hL) hj (by omega), hn, rc_at (S1 _ hL), fails_r hL, if_pos (show mI M 368 2179 ≤ 0 by rw [h.2.2.2.1]; decide), cl_some]; rfl
theorem range_b (hL0 : Lay M0) (h : GF L M0 M i c e) {j : Nat} (hj : j < 3) (a b : Int32) : m_X11_ranges M (some 2179) (nI j) a b = some ((), M) := by
  have hL := h.1.Lay hL0
  unfold m_X11_ranges
  rw [dR19 hL, aI_at (S87 hL) hj (by omega)]
  by_cases h1 : a ≤ mI M (1000 + j) 2187 ∧ mI M (1000 + j) 2187 ≤ b
  · rw [in_y h1, cl_some, if_pos z10']; rfl
  · rw [in_n h1, cl_some, if_neg z00', dR19 hL, aI_at (S87 hL) hj (by omega), rc_at (S1 _ hL), h.fails hL0, cl_some]; rfl
end RFS2
