/-! ===== readPlan: the text's meaning, as a function ===== -/
def TX (T : Nat → Nat) (L : Nat) (M : Mem) : Prop := L ≤ 90 ∧ mI M 195 2165 = nI L ∧ mI M 358 2179 = nI L ∧ ∀ j, j < L → T j ≤ 127 ∧ mI M (1000 + j) 2166 = nI (T j) ∧ mI M (1000 + j) 2184 = nI (T j)
def dZ : PD := (0, 0, 0, 0, 0, fun _ _ => 0)
def skW (T : Nat → Nat) (L : Nat) : Nat → Nat → Nat
  | 0, p => p
  | k + 1, p => if p < L ∧ 97 ≤ T p ∧ T p ≤ 122 then skW T L k (p + 1) else p
def nmS (T : Nat → Nat) (L : Nat) : Nat → Nat → Nat → Nat × Nat
  | 0, p, v => (v, p)
  | k + 1, p, v => if p < L ∧ 48 ≤ T p ∧ T p ≤ 57 then nmS T L k (p + 1) (v * 10 + (T p - 48)) else (v, p)
/-- a sign c, then a number: code, number of the fault, the value, the spot behind -/
def stepN (T : Nat → Nat) (L c p : Nat) : Nat × Nat × Nat × Nat := if p < L ∧ T p = c then (if (nmS T L 4 (p + 1) 0).2 = p + 1 then (3, p + 1, 0, 0) else (0, 0, (nmS T L 4 (p + 1) 0).1, (nmS T L 4 (p + 1) 0).2)) else (3, p, 0, 0)
abbrev Rz : Type := Nat × Nat × Nat × PD
def badR (c e : Nat) : Rz := (c, e, 0, dZ)
def settingP (s : Nat × Nat × Nat × Nat) (hi : Nat) (K : Nat → PD) : Rz := if s.1 = 0 then (if s.2.2.1 ≤ hi then (0, 0, s.2.2.2, K s.2.2.1) else badR 4 s.2.2.1) else badR s.1 s.2.1
def addB (d : PD) (v0 v1 v2 : Nat) : PD := (pFree d, pCap d, pWay d, pLost d, pCnt d + 1, fun b j => if b = pCnt d then (if j = 0 then v0 else if j = 1 then v1 else v2) else pB d b j)
def bandP4 (d : PD) (v0 v1 v2 q : Nat) : Rz := if 6 ≤ pCnt d then badR 4 v0 else if pCnt d = 0 then (if v0 = 0 then (0, 0, q, addB d v0 v1 v2) else badR 4 v0) else if pB d (pCnt d - 1) 0 < v0 then (0, 0, q, addB d v0 v1 v2) else badR 4 v0
def bandP3 (d : PD) (v0 v1 v2 q : Nat) : Rz := if v0 ≤ 1439 then (if v1 ≤ 999 then (if 5 ≤ v2 ∧ v2 ≤ 240 then bandP4 d v0 v1 v2 q else badR 4 v2) else badR 4 v1) else badR 4 v0
def bandP2 (d : PD) (v0 v1 : Nat) (s : Nat × Nat × Nat × Nat) : Rz := if s.1 = 0 then bandP3 d v0 v1 s.2.2.1 s.2.2.2 else badR s.1 s.2.1
def bandP1 (T : Nat → Nat) (L : Nat) (d : PD) (v0 : Nat) (s : Nat × Nat × Nat × Nat) : Rz := if s.1 = 0 then bandP2 d v0 s.2.2.1 (stepN T L 44 s.2.2.2) else badR s.1 s.2.1
def bandP0 (T : Nat → Nat) (L : Nat) (d : PD) (s : Nat × Nat × Nat × Nat) : Rz := if s.1 = 0 then bandP1 T L d s.2.2.1 (stepN T L 44 s.2.2.2) else badR s.1 s.2.1
def wL (i : Nat) : Nat := if i = 1 then 3 else 4
def wN (i k : Nat) : Nat := (([[102, 114, 101, 101], [99, 97, 112], [108, 111, 115, 116], [100, 97, 121, 115], [98, 97, 110, 100]] : List (List Nat)).getD i []).getD k 0
def wF (T : Nat → Nat) (i p : Nat) : Nat → Nat → Bool
  | 0, _ => true
  | k + 1, c => if T (p + c) = wN i c then wF T i p k (c + 1) else false
def wOk (T : Nat → Nat) (i p q : Nat) : Bool := if q = p + wL i then wF T i p (wL i) 0 else false
def clauseQ (T : Nat → Nat) (L : Nat) (d : PD) (p q : Nat) : Rz :=
  if wOk T 0 p q = true then settingP (stepN T L 32 q) 60 (fun v => (v, pCap d, pWay d, pLost d, pCnt d, pB d))
  else if wOk T 1 p q = true then settingP (stepN T L 32 q) 9999 (fun v => (pFree d, v, pWay d, pLost d, pCnt d, pB d))
  else if wOk T 2 p q = true then settingP (stepN T L 32 q) 9999 (fun v => (pFree d, pCap d, pWay d, v, pCnt d, pB d))
  else if wOk T 3 p q = true then (0, 0, q, (pFree d, pCap d, 1, pLost d, pCnt d, pB d))
  else if wOk T 4 p q = true then bandP0 T L d (stepN T L 32 q)
  else badR 3 p
def clauseP (T : Nat → Nat) (L : Nat) (d : PD) (p : Nat) : Rz := clauseQ T L d p (skW T L 91 p)
def planQ (T : Nat → Nat) (L : Nat) (i : Nat) (r : Rz) (K : Nat → PD → Nat × Rz) : Nat × Rz := if r.1 = 0 then (if r.2.2.1 < L then (if T r.2.2.1 = 59 then K (r.2.2.1 + 1) r.2.2.2 else (i, badR 3 r.2.2.1)) else (i, r)) else (i, r)
def planP (T : Nat → Nat) (L : Nat) : Nat → Nat → Nat → PD → Nat × Rz
  | 0, i, p, d => (i, (0, 0, p, d))
  | k + 1, i, p, d => planQ T L i (clauseP T L d p) (fun p' d' => planP T L k (i + 1) p' d')
/-! its bounds -/
theorem skW_le {T : Nat → Nat} {L : Nat} : ∀ k p, p ≤ L → p ≤ skW T L k p ∧ skW T L k p ≤ L := by
  intro k
  induction k with
  | zero => intro p h; exact ⟨Nat.le_refl _, h⟩
  | succ k ih =>
    intro p h
    show p ≤ (if p < L ∧ 97 ≤ T p ∧ T p ≤ 122 then skW T L k (p + 1) else p) ∧ (if p < L ∧ 97 ≤ T p ∧ T p ≤ 122 then skW T L k (p + 1) else p) ≤ L
    by_cases h1 : p < L ∧ 97 ≤ T p ∧ T p ≤ 122
    · rw [if_pos h1]
      have := ih (p + 1) (by omega)
      omega
    · rw [if_neg h1]; omega
theorem nmS_le {T : Nat → Nat} {L : Nat} : ∀ k p v, p ≤ L → (nmS T L k p v).1 < (v + 1) * 10 ^ k ∧ p ≤ (nmS T L k p v).2 ∧ (nmS T L k p v).2 ≤ L ∧ (nmS T L k p v).2 ≤ p + k := by
  intro k
  induction k with
  | zero => intro p v h; exact ⟨by show v < (v + 1) * 1; omega, Nat.le_refl _, h, Nat.le_refl _⟩
  | succ k ih =>
    intro p v h
    have e : nmS T L (k + 1) p v = if p < L ∧ 48 ≤ T p ∧ T p ≤ 57 then nmS T L k (p + 1) (v * 10 + (T p - 48)) else (v, p) := rfl
    rw [e]
    by_cases h1 : p < L ∧ 48 ≤ T p ∧ T p ≤ 57
    · rw [if_pos h1]
      obtain ⟨g1, g2, g3, g4⟩ := ih (p + 1) (v * 10 + (T p - 48)) (by omega)
      refine ⟨Nat.lt_of_lt_of_le g1 ?_, by omega, g3, by omega⟩
      rw [Nat.pow_succ, Nat.mul_comm (10 ^ k) 10, ← Nat.mul_assoc]
      exact Nat.mul_le_mul_right _ (by omega)
    · rw [if_neg h1]
      refine ⟨?_, Nat.le_refl _, h, by show p ≤ p + (k + 1); omega⟩
      show v < (v + 1) * 10 ^ (k + 1)
      have := Nat.mul_le_mul_left (v + 1) (Nat.one_le_two_pow (n := 0))
      exact Nat.lt_of_lt_of_le (Nat.lt_succ_self v) (Nat.le_mul_of_pos_right _ (Nat.pow_pos (by decide)))
theorem stepN_le {T : Nat → Nat} {L c p : Nat} (h : p ≤ L) : ((stepN T L c p).1 = 0 ∨ (stepN T L c p).1 = 3) ∧ (stepN T L c p).2.1 ≤ L ∧ (stepN T L c p).2.2.1 ≤ 9999 ∧ (stepN T L c p).2.2.2 ≤ L ∧ ((stepN T L c p).1 = 0 → p + 2 ≤ (stepN T L c p).2.2.2) := by
  unfold stepN
  by_cases h1 : p < L ∧ T p = c
  · rw [if_pos h1]
    obtain ⟨g1, g2, g3, g4⟩ := nmS_le (T := T) (L := L) 4 (p + 1) 0 (by omega)
    by_cases h2 : (nmS T L 4 (p + 1) 0).2 = p + 1
    · rw [if_pos h2]; exact ⟨Or.inr rfl, by show p + 1 ≤ L; omega, by show 0 ≤ 9999; omega, by show 0 ≤ L; omega, fun h => absurd h (by show ¬ (3 = 0); omega)⟩
    · rw [if_neg h2]
      refine ⟨Or.inl rfl, by show 0 ≤ L; omega, ?_, g3, fun _ => ?_⟩
      · show (nmS T L 4 (p + 1) 0).1 ≤ 9999
        omega
      · show p + 2 ≤ (nmS T L 4 (p + 1) 0).2
        omega
  · rw [if_neg h1]; exact ⟨Or.inr rfl, h, by show 0 ≤ 9999; omega, by show 0 ≤ L; omega, fun h => absurd h (by show ¬ (3 = 0); omega)⟩
/-- a draft that keeps the ranges -/
def GD (d : PD) : Prop := pFree d ≤ 60 ∧ pCap d ≤ 9999 ∧ pWay d ≤ 1 ∧ pLost d ≤ 9999 ∧ pCnt d ≤ 6 ∧ (pCnt d ≠ 0 → pB d 0 0 = 0) ∧ ∀ b, b < pCnt d → pB d b 0 ≤ 1439 ∧ pB d b 1 ≤ 999 ∧ 5 ≤ pB d b 2 ∧ pB d b 2 ≤ 240
/-- a clause's outcome: a fault with a number below 2^30, or a spot behind and a draft that keeps the ranges -/
def RG (L p : Nat) (r : Rz) : Prop := (r.1 = 0 ∨ r.1 = 3 ∨ r.1 = 4) ∧ r.2.1 ≤ 9999 ∧ (r.1 = 0 → p ≤ r.2.2.1 ∧ r.2.2.1 ≤ L ∧ GD r.2.2.2)
theorem RG.bad {L p c e : Nat} (h : c = 3 ∨ c = 4) (he : e ≤ 9999) : RG L p (badR c e) := ⟨by rcases h with rfl | rfl <;> simp [badR], he, fun h9 => by rcases h with rfl | rfl <;> exact absurd h9 (by simp [badR])⟩
theorem RG.setting {T : Nat → Nat} {L p q hi : Nat} {K : Nat → PD} (hL : L ≤ 90) (hp : p ≤ q) (hq : q ≤ L) (hK : ∀ v, v ≤ hi → GD (K v)) : RG L p (settingP (stepN T L 32 q) hi K) := by
  obtain ⟨g1, g2, g3, g4, g5⟩ := stepN_le (T := T) (c := 32) hq
  unfold settingP
  by_cases h0 : (stepN T L 32 q).1 = 0
  · rw [if_pos h0]
    by_cases h1 : (stepN T L 32 q).2.2.1 ≤ hi
    · rw [if_pos h1]
      have := g5 h0
      exact ⟨Or.inl rfl, by show 0 ≤ 9999; omega, fun _ => ⟨by show p ≤ (stepN T L 32 q).2.2.2; omega, g4, hK _ h1⟩⟩
    · rw [if_neg h1]; exact RG.bad (Or.inr rfl) g3
  · rw [if_neg h0]; exact RG.bad (by omega) (by omega)
theorem RG.band4 {L p q v0 v1 v2 : Nat} {d : PD} (hd : GD d) (hp : p ≤ q) (hq : q ≤ L) (h0 : v0 ≤ 1439) (h1 : v1 ≤ 999) (h2 : 5 ≤ v2 ∧ v2 ≤ 240) : RG L p (bandP4 d v0 v1 v2 q) := by
  have bad : RG L p (badR 4 v0) := RG.bad (Or.inr rfl) (by omega)
  obtain ⟨d1, d2, d3, d4, d5, d6, d7⟩ := hd
  have good : pCnt d < 6 → (pCnt d = 0 → v0 = 0) → RG L p ((0, 0, q, addB d v0 v1 v2) : Rz) := fun h6 hz => by
    refine ⟨Or.inl rfl, by show 0 ≤ 9999; omega, fun _ => ⟨hp, hq, d1, d2, d3, d4, by show pCnt d + 1 ≤ 6; omega, fun _ => ?_, fun b hb => ?_⟩⟩
    · show (if 0 = pCnt d then (if 0 = 0 then v0 else if 0 = 1 then v1 else v2) else pB d 0 0) = 0
      by_cases h9 : 0 = pCnt d
      · rw [if_pos h9, if_pos rfl]; exact hz h9.symm
      · rw [if_neg h9]; exact d6 (by omega)
    · have hb' : b < pCnt d + 1 := hb
      show (if b = pCnt d then (if 0 = 0 then v0 else if 0 = 1 then v1 else v2) else pB d b 0) ≤ 1439 ∧ (if b = pCnt d then (if 1 = 0 then v0 else if 1 = 1 then v1 else v2) else pB d b 1) ≤ 999 ∧ 5 ≤ (if b = pCnt d then (if 2 = 0 then v0 else if 2 = 1 then v1 else v2) else pB d b 2) ∧ (if b = pCnt d then (if 2 = 0 then v0 else if 2 = 1 then v1 else v2) else pB d b 2) ≤ 240
      by_cases h9 : b = pCnt d
      · rw [if_pos h9, if_pos h9, if_pos h9, if_pos rfl, if_neg (by omega), if_pos rfl, if_neg (by omega), if_neg (by omega)]; exact ⟨h0, h1, h2⟩
      · rw [if_neg h9, if_neg h9, if_neg h9]; exact d7 b (by omega)
  unfold bandP4
  by_cases a1 : 6 ≤ pCnt d
  · rw [if_pos a1]; exact bad
  · rw [if_neg a1]
    by_cases a2 : pCnt d = 0
    · rw [if_pos a2]
      by_cases a3 : v0 = 0
      · rw [if_pos a3]; exact good (by omega) (fun _ => a3)
      · rw [if_neg a3]; exact bad
    · rw [if_neg a2]
      by_cases a3 : pB d (pCnt d - 1) 0 < v0
      · rw [if_pos a3]; exact good (by omega) (fun h => absurd h a2)
      · rw [if_neg a3]; exact bad
theorem RG.band {T : Nat → Nat} {L p q : Nat} {d : PD} (hL : L ≤ 90) (hd : GD d) (hp : p ≤ q) (hq : q ≤ L) : RG L p (bandP0 T L d (stepN T L 32 q)) := by
  obtain ⟨g1, g2, g3, g4, g5⟩ := stepN_le (T := T) (c := 32) hq
  unfold bandP0
  by_cases h0 : (stepN T L 32 q).1 = 0
  · rw [if_pos h0]
    obtain ⟨k1, k2, k3, k4, k5⟩ := stepN_le (T := T) (c := 44) g4
    have := g5 h0
    unfold bandP1
    by_cases h1 : (stepN T L 44 (stepN T L 32 q).2.2.2).1 = 0
    · rw [if_pos h1]
      obtain ⟨m1, m2, m3, m4, m5⟩ := stepN_le (T := T) (c := 44) k4
      have := k5 h1
      unfold bandP2
      by_cases h2 : (stepN T L 44 (stepN T L 44 (stepN T L 32 q).2.2.2).2.2.2).1 = 0
      · rw [if_pos h2]
        have := m5 h2
        unfold bandP3
        by_cases a0 : (stepN T L 32 q).2.2.1 ≤ 1439
        · rw [if_pos a0]
          by_cases a1 : (stepN T L 44 (stepN T L 32 q).2.2.2).2.2.1 ≤ 999
          · rw [if_pos a1]
            by_cases a2 : 5 ≤ (stepN T L 44 (stepN T L 44 (stepN T L 32 q).2.2.2).2.2.2).2.2.1 ∧ (stepN T L 44 (stepN T L 44 (stepN T L 32 q).2.2.2).2.2.2).2.2.1 ≤ 240
            · rw [if_pos a2]; exact RG.band4 hd (by omega) m4 a0 a1 a2
            · rw [if_neg a2]; exact RG.bad (Or.inr rfl) m3
          · rw [if_neg a1]; exact RG.bad (Or.inr rfl) k3
        · rw [if_neg a0]; exact RG.bad (Or.inr rfl) g3
      · rw [if_neg h2]; exact RG.bad (by omega) (by omega)
    · rw [if_neg h1]; exact RG.bad (by omega) (by omega)
  · rw [if_neg h0]; exact RG.bad (by omega) (by omega)
theorem RG.clause {T : Nat → Nat} {L p : Nat} {d : PD} (hL : L ≤ 90) (hd : GD d) (hp : p ≤ L) : RG L p (clauseP T L d p) := by
  obtain ⟨g1, g2⟩ := skW_le (T := T) 91 p hp
  obtain ⟨d1, d2, d3, d4, d5, d6, d7⟩ := id hd
  unfold clauseP clauseQ
  by_cases h0 : wOk T 0 p (skW T L 91 p) = true
  · rw [if_pos h0]; exact RG.setting hL g1 g2 (fun v hv => ⟨hv, d2, d3, d4, d5, d6, d7⟩)
  · rw [if_neg h0]
    by_cases h1 : wOk T 1 p (skW T L 91 p) = true
    · rw [if_pos h1]; exact RG.setting hL g1 g2 (fun v hv => ⟨d1, hv, d3, d4, d5, d6, d7⟩)
    · rw [if_neg h1]
      by_cases h2 : wOk T 2 p (skW T L 91 p) = true
      · rw [if_pos h2]; exact RG.setting hL g1 g2 (fun v hv => ⟨d1, d2, d3, hv, d5, d6, d7⟩)
      · rw [if_neg h2]
        by_cases h3 : wOk T 3 p (skW T L 91 p) = true
        · rw [if_pos h3]; exact ⟨Or.inl rfl, by show 0 ≤ 9999; omega, fun _ => ⟨g1, g2, d1, d2, by show 1 ≤ 1; omega, d4, d5, d6, d7⟩⟩
        · rw [if_neg h3]
          by_cases h4 : wOk T 4 p (skW T L 91 p) = true
          · rw [if_pos h4]; exact RG.band hL hd g1 g2
          · rw [if_neg h4]; exact RG.bad (Or.inl rfl) (by omega)
