/-! ===== the calls save and restore ===== -/
/-- from a car park at s to one at d: every cell of d is a copy or stands, those of D (floats: E) are copies, nothing else moves -/
def CI (N d s : Nat) (D : Nat → Nat → Prop) (E : Nat → Prop) (M M1 : Mem) : Prop := M1.2.2 = M.2.2 ∧ (∀ k a, ¬ (d ≤ a ∧ a < d + N ∧ k ≠ 0) → mI M1 k a = mI M k a) ∧ (∀ k a, ¬ (d ≤ a ∧ a < d + N) → mF M1 k a = mF M k a) ∧ (∀ k o, o < N → mI M1 k (d + o) = mI M k (s + o) ∨ mI M1 k (d + o) = mI M k (d + o)) ∧ (∀ k o, o < N → mF M1 k (d + o) = mF M k (s + o) ∨ mF M1 k (d + o) = mF M k (d + o)) ∧ (∀ k o, o < N → D k o → mI M1 k (d + o) = mI M k (s + o)) ∧ ∀ o, o < N → E o → mF M1 100 (d + o) = mF M 100 (s + o)
def Apart (N d s : Nat) : Prop := ∀ o o', o < N → o' < N → s + o ≠ d + o'
theorem CI.src {N d s : Nat} {D : Nat → Nat → Prop} {E : Nat → Prop} {M M1 : Mem} (h : CI N d s D E M M1) (ha : Apart N d s) {o : Nat} (ho : o < N) (k : Nat) : mI M1 k (s + o) = mI M k (s + o) ∧ mF M1 k (s + o) = mF M k (s + o) := by
  have h9 : ¬ (d ≤ s + o ∧ s + o < d + N) := fun h9 => ha o (s + o - d) ho (by omega) (by omega)
  exact ⟨h.2.1 _ _ (fun h8 => h9 ⟨h8.1, h8.2.1⟩), h.2.2.1 _ _ h9⟩
theorem CI.rfl' {N d s : Nat} {D : Nat → Nat → Prop} {E : Nat → Prop} {M : Mem} (hD : ∀ k o, ¬ D k o) (hE : ∀ o, ¬ E o) : CI N d s D E M M := ⟨rfl, fun _ _ _ => rfl, fun _ _ _ => rfl, fun _ _ _ => Or.inr rfl, fun _ _ _ => Or.inr rfl, fun k o _ h => absurd h (hD k o), fun o _ h => absurd h (hE o)⟩
theorem CI.trans {N d s : Nat} {D D' : Nat → Nat → Prop} {E E' : Nat → Prop} {M M1 M2 : Mem} (ha : Apart N d s) (h1 : CI N d s D E M M1) (h2 : CI N d s D' E' M1 M2) : CI N d s (fun k o => D k o ∨ D' k o) (fun o => E o ∨ E' o) M M2 := by
  refine ⟨h2.1.trans h1.1, fun k a h => (h2.2.1 k a h).trans (h1.2.1 k a h), fun k a h => (h2.2.2.1 k a h).trans (h1.2.2.1 k a h), fun k o ho => ?_, fun k o ho => ?_, fun k o ho hd => ?_, fun o ho hd => ?_⟩
  · rcases h2.2.2.2.1 k o ho with e | e
    · exact Or.inl (e.trans (h1.src ha ho k).1)
    · rcases h1.2.2.2.1 k o ho with e' | e'
      · exact Or.inl (e.trans e')
      · exact Or.inr (e.trans e')
  · rcases h2.2.2.2.2.1 k o ho with e | e
    · exact Or.inl (e.trans (h1.src ha ho k).2)
    · rcases h1.2.2.2.2.1 k o ho with e' | e'
      · exact Or.inl (e.trans e')
      · exact Or.inr (e.trans e')
  · rcases hd with hd | hd
    · rcases h2.2.2.2.1 k o ho with e | e
      · exact e.trans (h1.src ha ho k).1
      · exact e.trans (h1.2.2.2.2.2.1 k o ho hd)
    · exact (h2.2.2.2.2.2.1 k o ho hd).trans (h1.src ha ho k).1
  · rcases hd with hd | hd
    · rcases h2.2.2.2.2.1 100 o ho with e | e
      · exact e.trans (h1.src ha ho 100).2
      · exact e.trans (h1.2.2.2.2.2.2 o ho hd)
    · exact (h2.2.2.2.2.2.2 o ho hd).trans (h1.src ha ho 100).2
theorem CI.mono {N d s : Nat} {D D' : Nat → Nat → Prop} {E E' : Nat → Prop} {M M1 : Mem} (h : CI N d s D E M M1) (hD : ∀ k o, D' k o → D k o) (hE : ∀ o, E' o → E o) : CI N d s D' E' M M1 := ⟨h.1, h.2.1, h.2.2.1, h.2.2.2.1, h.2.2.2.2.1, fun k o ho h9 => h.2.2.2.2.2.1 k o ho (hD k o h9), fun o ho h9 => h.2.2.2.2.2.2 o ho (hE o h9)⟩
theorem CI.set {N d s k0 o0 : Nat} {x : Int32} {M : Mem} (hk : k0 ≠ 0) (ho : o0 < N) (hx : mI M k0 (s + o0) = x) : CI N d s (fun k o => k = k0 ∧ o = o0) (fun _ => False) M (uI M k0 (d + o0) x) := by
  refine ⟨rfl, fun k a h => mI_ne (by omega), fun k a h => rfl, fun k o _ => ?_, fun k o _ => Or.inr rfl, fun k o _ h => ?_, fun o _ h => absurd h id⟩
  · by_cases h : k = k0 ∧ o = o0
    · rw [h.1, h.2, mI_eq, hx]; exact Or.inl rfl
    · exact Or.inr (mI_ne (by omega))
  · rw [h.1, h.2, mI_eq, hx]
theorem CI.setF {N d s o0 : Nat} {x : UInt32} {M : Mem} (ho : o0 < N) (hx : mF M 100 (s + o0) = x) : CI N d s (fun _ _ => False) (fun o => o = o0) M (uF M 100 (d + o0) x) := by
  refine ⟨rfl, fun k a h => rfl, fun k a h => mF_uFne (by omega), fun k o _ => Or.inr rfl, fun k o _ => ?_, fun k o _ h => absurd h id, fun o _ h => ?_⟩
  · by_cases h : k = 100 ∧ o = o0
    · rw [h.1, h.2, mF_uFeq, hx]; exact Or.inl rfl
    · exact Or.inr (mF_uFne (by omega))
  · rw [h, mF_uFeq, hx]
theorem CI.Lay {N d s : Nat} {D : Nat → Nat → Prop} {E : Nat → Prop} {M M1 : Mem} (h : CI N d s D E M M1) (hL : Lay M) : Lay M1 := layT h.1 hL
def nE : Nat → Prop := fun _ => False
/-- a loop that copies -/
theorem copy_loop {N d s n : Nat} {P : Mem → Prop} {D : Nat → Nat → Nat → Prop} {E : Nat → Nat → Prop} {B : (Int32 × Mem → Option (Unit × Mem)) → Int32 × Mem → Option (Unit × Mem)} {J : Mem → Option (Unit × Mem)} (ha : Apart N d s) (hP : ∀ D E M M1, P M → CI N d s D E M M1 → P M1)
    (hend : ∀ L M, Lay M → P M → B L (nI n, M) = J M) (hstep : ∀ L M i, i < n → Lay M → P M → ∃ M1, B L (nI i, M) = L (nI i + 1, M1) ∧ CI N d s (D i) (E i) M M1) :
    ∀ (k l fu : Nat) (M : Mem), l + k = n → k < fu → Lay M → P M → ∃ M1, lp B fu (nI l, M) = J M1 ∧ CI N d s (fun k' o => ∃ i, l ≤ i ∧ i < n ∧ D i k' o) (fun o => ∃ i, l ≤ i ∧ i < n ∧ E i o) M M1 := by
  intro k
  induction k with
  | zero =>
    intro l fu M hl hfu hL hc
    obtain ⟨fu, rfl⟩ : ∃ z, fu = z + 1 := ⟨fu - 1, by omega⟩
    refine ⟨M, ?_, CI.rfl' (fun k' o ⟨i, h1, h2, _⟩ => by omega) (fun o ⟨i, h1, h2, _⟩ => by omega)⟩
    rw [lp_succ, show l = n by omega]
    exact hend _ M hL hc
  | succ k ih =>
    intro l fu M hl hfu hL hc
    obtain ⟨fu, rfl⟩ : ∃ z, fu = z + 1 := ⟨fu - 1, by omega⟩
    obtain ⟨M1, f1, f2⟩ := hstep (lp B fu) M l (by omega) hL hc
    obtain ⟨M2, g1, g2⟩ := ih (l + 1) fu M1 (by omega) (by omega) (f2.Lay hL) (hP _ _ _ _ hc f2)
    refine ⟨M2, ?_, (CI.trans ha f2 g2).mono (fun k' o ⟨i, h1, h2, h3⟩ => ?_) (fun o ⟨i, h1, h2, h3⟩ => ?_)⟩
    · rw [lp_succ, f1, nI_1]; exact g1
    · by_cases hil : i = l
      · exact Or.inl (hil ▸ h3)
      · exact Or.inr ⟨i, by omega, h2, h3⟩
    · by_cases hil : i = l
      · exact Or.inl (hil ▸ h3)
      · exact Or.inr ⟨i, by omega, h2, h3⟩
section CP
variable {N d s : Nat} {M : Mem}
theorem cp_voucher (ha : Apart N d s) {o : Nat} (ho : o < N) (hS : mS M (d + o) = (9, 0)) (hS2 : mS M (s + o) = (9, 0)) : ∃ M1, m_X9_copyFrom M (some (d + o)) (some (s + o)) = some ((), M1) ∧ CI N d s (fun k o' => o' = o ∧ (k = 288 ∨ k = 289 ∨ k = 290)) nE M M1 := by
  have c1 : CI N d s _ _ M (uI M 288 (d + o) (mI M 288 (s + o))) := CI.set (by omega) ho rfl
  have c2 : CI N d s _ _ (uI M 288 (d + o) (mI M 288 (s + o))) _ := CI.set (k0 := 289) (by omega) ho rfl
  have c3 : CI N d s _ _ (uI (uI M 288 (d + o) (mI M 288 (s + o))) 289 (d + o) (mI (uI M 288 (d + o) (mI M 288 (s + o))) 289 (s + o))) _ := CI.set (k0 := 290) (by omega) ho rfl
  refine ⟨_, ?_, (CI.trans ha (CI.trans ha c1 c2) c3).mono (fun k o' h => by omega) (fun o h => absurd h id)⟩
  unfold m_X9_copyFrom
  rw [dI_at (by rw [hS2]), pI_at (by rw [hS]), dI_at (by rw [mS_uI, hS2]), pI_at (by rw [mS_uI, hS]), dI_at (by rw [mS_uI, mS_uI, hS2]), pI_at (by rw [mS_uI, mS_uI, hS])]; rfl
theorem cp_band (ha : Apart N d s) {o : Nat} (ho : o < N) (hS : mS M (d + o) = (0, 0)) (hS2 : mS M (s + o) = (0, 0)) : ∃ M1, m_X0_copyFrom M (some (d + o)) (some (s + o)) = some ((), M1) ∧ CI N d s (fun k o' => o' = o ∧ (k = 1 ∨ k = 2 ∨ k = 3)) nE M M1 := by
  have q : ∀ k, mI M k (s + o) = mI M k (s + o) := fun _ => rfl
  have hne : s + o ≠ d + o := ha o o ho ho
  have c1 : CI N d s _ _ M (uI M 1 (d + o) (mI M 1 (s + o))) := CI.set (by omega) ho rfl
  have c2 : CI N d s _ _ (uI M 1 (d + o) (mI M 1 (s + o))) (uI (uI M 1 (d + o) (mI M 1 (s + o))) 2 (d + o) (mI M 2 (s + o))) := CI.set (k0 := 2) (by omega) ho (mI_ne (by omega))
  have c3 : CI N d s _ _ (uI (uI M 1 (d + o) (mI M 1 (s + o))) 2 (d + o) (mI M 2 (s + o))) (uI (uI (uI M 1 (d + o) (mI M 1 (s + o))) 2 (d + o) (mI M 2 (s + o))) 3 (d + o) (mI M 3 (s + o))) := CI.set (k0 := 3) (by omega) ho (by rw [mI_ne (by omega), mI_ne (by omega)])
  refine ⟨_, ?_, (CI.trans ha (CI.trans ha c1 c2) c3).mono (fun k o' h => by omega) (fun o h => absurd h id)⟩
  unfold m_X0_copyFrom
  rw [dI_at (by rw [hS2]), dI_at (by rw [hS2]), dI_at (by rw [hS2]), rc_at (by rw [hS])]
  unfold m_X0_tell
  rw [pI_at (by rw [hS]), pI_at (by rw [mS_uI, hS]), pI_at (by rw [mS_uI, mS_uI, hS])]; rfl
theorem cp_level (ha : Apart N d s) {o : Nat} (ho : o < N) (hS : mS M (d + o) = (3, 0)) (hS2 : mS M (s + o) = (3, 0)) : ∃ M1, m_X3_copyFrom M (some (d + o)) (some (s + o)) = some ((), M1) ∧ CI N d s (fun k o' => o' = o ∧ (k = 96 ∨ k = 97 ∨ k = 98 ∨ k = 99)) (fun o' => o' = o) M M1 := by
  obtain ⟨A1, hA1⟩ : ∃ A, A = uI M 96 (d + o) (mI M 96 (s + o)) := ⟨_, rfl⟩
  obtain ⟨A2, hA2⟩ : ∃ A, A = uI A1 97 (d + o) (mI A1 97 (s + o)) := ⟨_, rfl⟩
  obtain ⟨A3, hA3⟩ : ∃ A, A = uI A2 98 (d + o) (mI A2 98 (s + o)) := ⟨_, rfl⟩
  obtain ⟨A4, hA4⟩ : ∃ A, A = uI A3 99 (d + o) (mI A3 99 (s + o)) := ⟨_, rfl⟩
  obtain ⟨A5, hA5⟩ : ∃ A, A = uF A4 100 (d + o) (mF A4 100 (s + o)) := ⟨_, rfl⟩
  have c1 : CI N d s (fun k o' => k = 96 ∧ o' = o) (fun _ => False) M A1 := by rw [hA1]; exact CI.set (by omega) ho rfl
  have c2 : CI N d s (fun k o' => k = 97 ∧ o' = o) (fun _ => False) A1 A2 := by rw [hA2]; exact CI.set (by omega) ho rfl
  have c3 : CI N d s (fun k o' => k = 98 ∧ o' = o) (fun _ => False) A2 A3 := by rw [hA3]; exact CI.set (by omega) ho rfl
  have c4 : CI N d s (fun k o' => k = 99 ∧ o' = o) (fun _ => False) A3 A4 := by rw [hA4]; exact CI.set (by omega) ho rfl
  have c5 : CI N d s (fun _ _ => False) (fun o' => o' = o) A4 A5 := by rw [hA5]; exact CI.setF ho rfl
  have s1 : ∀ a, mS A1 a = mS M a := fun a => by rw [hA1]; rfl
  have s2 : ∀ a, mS A2 a = mS M a := fun a => by rw [hA2]; exact s1 a
  have s3 : ∀ a, mS A3 a = mS M a := fun a => by rw [hA3]; exact s2 a
  have s4 : ∀ a, mS A4 a = mS M a := fun a => by rw [hA4]; exact s3 a
  refine ⟨A5, ?_, (CI.trans ha (CI.trans ha (CI.trans ha (CI.trans ha c1 c2) c3) c4) c5).mono (fun k o' h => by omega) (fun o h => Or.inr h)⟩
  unfold m_X3_copyFrom
  rw [dI_at (by rw [hS2]), pI_at (by rw [hS])]
  show dI (uI M 96 (d + o) (mI M 96 (s + o))) 3 1 _ _ = _
  rw [← hA1, dI_at (by rw [s1, hS2]), pI_at (by rw [s1, hS])]
  show dI (uI A1 97 (d + o) (mI A1 97 (s + o))) 3 2 _ _ = _
  rw [← hA2, dI_at (by rw [s2, hS2]), pI_at (by rw [s2, hS])]
  show dI (uI A2 98 (d + o) (mI A2 98 (s + o))) 3 3 _ _ = _
  rw [← hA3, dI_at (by rw [s3, hS2]), pI_at (by rw [s3, hS])]
  show dF (uI A3 99 (d + o) (mI A3 99 (s + o))) 3 4 _ _ = _
  rw [← hA4, dF_at (by rw [s4, hS2]), pF_at (by rw [s4, hS]), hA5]; rfl
/-- an array's cells -/
theorem cp_cell (ha : Apart N d s) {o i n : Nat} {β : Type} {K : Mem → Option β} {K2 : Option β} (ho : o < N) (hS : mS M (d + o) = (100, n)) (hS2 : mS M (s + o) = (100, n)) (hi : i < n) (hn : n < 1000) (hK : K (uI M (1000 + i) (d + o) (mI M (1000 + i) (s + o))) = K2) : aI M 100 (some (s + o)) (nI i) (fun x => sI M 100 (some (d + o)) (nI i) x K) = K2 ∧ CI N d s (fun k o' => o' = o ∧ k = 1000 + i) nE M (uI M (1000 + i) (d + o) (mI M (1000 + i) (s + o))) := by
  refine ⟨?_, (CI.set (by omega) ho rfl).mono (fun k o' h => ⟨h.2, h.1⟩) (fun o h => h)⟩
  rw [aI_at hS2 hi (by omega), sI_at hS hi (by omega)]; exact hK
theorem cp_folder (hL : Lay M) (ha : Apart N d s) {o : Nat} (ho : o + 1 < N) (hS : ∀ M, Lay M → mS M (d + o) = (2, 0) ∧ mS M (s + o) = (2, 0) ∧ mS M (d + (o + 1)) = (100, 5) ∧ mS M (s + (o + 1)) = (100, 5) ∧ mP M 64 (d + o) = some (d + (o + 1)) ∧ mP M 64 (s + o) = some (s + (o + 1))) :
    ∃ M1, m_X2_copyFrom M (some (d + o)) (some (s + o)) = some ((), M1) ∧ CI N d s (fun k o' => (o' = o ∧ (k = 65 ∨ k = 66)) ∨ (o' = o + 1 ∧ 1000 ≤ k ∧ k < 1005)) nE M M1 := by
  obtain ⟨A1, hA1⟩ : ∃ A, A = uI M 66 (d + o) (mI M 66 (s + o)) := ⟨_, rfl⟩
  obtain ⟨A2, hA2⟩ : ∃ A, A = uI A1 65 (d + o) (mI A1 65 (s + o)) := ⟨_, rfl⟩
  have c1 : CI N d s (fun k o' => k = 66 ∧ o' = o) (fun _ => False) M A1 := by rw [hA1]; exact CI.set (by omega) (by omega) rfl
  have c2 : CI N d s (fun k o' => k = 65 ∧ o' = o) (fun _ => False) A1 A2 := by rw [hA2]; exact CI.set (by omega) (by omega) rfl
  have c12 := CI.trans ha c1 c2
  have hL1 := c1.Lay hL
  have hL2 := c2.Lay hL1
  have e5 : (5 : Int32) = nI 5 := rfl
  obtain ⟨M1, f1, f2⟩ := copy_loop (n := 5) (P := fun _ => True) (D := fun i k o' => o' = o + 1 ∧ k = 1000 + i) (E := fun _ _ => False) (B := b_X2_copyFrom_18 (some (d + o)) (some (s + o))) (J := fun M => rt () M) ha (fun _ _ _ _ _ _ => trivial)
    (fun L M hL hc => by rw [b_X2_copyFrom_18]; exact if_pos (by rw [e5]; exact le_n (by omega) (by omega)))
    (fun L M i hi hL hc => by
      obtain ⟨q1, q2, q3, q4, q5, q6⟩ := hS M hL
      rw [b_X2_copyFrom_18]
      obtain ⟨w1, w2⟩ := cp_cell (K := fun M10 => L (nI i + 1, M10)) (K2 := _) ha (by omega) q3 q4 hi (by omega) rfl
      refine ⟨_, ?_, w2⟩
      refine (if_neg (fun h9 : (5 : Int32) ≤ nI i => absurd ((i_le (a := 5) (by omega) (by omega)).mp h9) (by omega))).trans ?_
      dsimp only
      rw [dP_at (by rw [q1]), dP_at (by rw [q2])]
      show aI M 100 (mP M 64 (s + o)) (nI i) (fun x => sI M 100 (mP M 64 (d + o)) (nI i) x _) = _
      rw [q5, q6]; exact w1)
    5 0 FU A2 (by omega) (by show 5 < 1000000; omega) hL2 trivial
  refine ⟨M1, ?_, (CI.trans ha c12 f2).mono (fun k o' h => ?_) (fun o h => absurd h id)⟩
  · obtain ⟨q1, q2, q3, q4, q5, q6⟩ := hS M hL
    obtain ⟨r1, r2, -⟩ := hS A1 hL1
    unfold m_X2_copyFrom
    rw [dI_at (by rw [q2]), pI_at (by rw [q1])]
    show dI (uI M 66 (d + o) (mI M 66 (s + o))) 2 1 _ _ = _
    rw [← hA1, dI_at (by rw [r2]), pI_at (by rw [r1])]
    show lp _ FU (0, uI A1 65 (d + o) (mI A1 65 (s + o))) = _
    rw [← hA2]; exact f1
  · rcases h with ⟨h1, h2 | h2⟩ | ⟨h1, h2, h3⟩
    · exact Or.inl (Or.inr ⟨h2, h1⟩)
    · exact Or.inl (Or.inl ⟨h2, h1⟩)
    · exact Or.inr ⟨k - 1000, by omega, by omega, h1, by omega⟩
theorem cp_plan (hL : Lay M) (ha : Apart N d s) {o : Nat} (ho : o + 8 ≤ N) (hS : ∀ M, Lay M → isPl M (d + o) ∧ isPl M (s + o)) :
    ∃ M1, m_X5_copyFrom M (some (d + o)) (some (s + o)) = some ((), M1) ∧ CI N d s (fun k o' => (o' = o ∧ 161 ≤ k ∧ k ≤ 165) ∨ (o + 2 ≤ o' ∧ o' < o + 8 ∧ 1 ≤ k ∧ k ≤ 3)) nE M M1 := by
  obtain ⟨A1, hA1⟩ : ∃ A, A = uI M 162 (d + o) (mI M 162 (s + o)) := ⟨_, rfl⟩
  obtain ⟨A2, hA2⟩ : ∃ A, A = uI A1 163 (d + o) (mI A1 163 (s + o)) := ⟨_, rfl⟩
  obtain ⟨A3, hA3⟩ : ∃ A, A = uI A2 164 (d + o) (mI A2 164 (s + o)) := ⟨_, rfl⟩
  obtain ⟨A4, hA4⟩ : ∃ A, A = uI A3 165 (d + o) (mI A3 165 (s + o)) := ⟨_, rfl⟩
  have c1 : CI N d s (fun k o' => k = 162 ∧ o' = o) (fun _ => False) M A1 := by rw [hA1]; exact CI.set (by omega) (by omega) rfl
  have c2 : CI N d s (fun k o' => k = 163 ∧ o' = o) (fun _ => False) A1 A2 := by rw [hA2]; exact CI.set (by omega) (by omega) rfl
  have c3 : CI N d s (fun k o' => k = 164 ∧ o' = o) (fun _ => False) A2 A3 := by rw [hA3]; exact CI.set (by omega) (by omega) rfl
  have c4 : CI N d s (fun k o' => k = 165 ∧ o' = o) (fun _ => False) A3 A4 := by rw [hA4]; exact CI.set (by omega) (by omega) rfl
  have c14 := CI.trans ha (CI.trans ha (CI.trans ha c1 c2) c3) c4
  have hL1 := c1.Lay hL
  have hL2 := c2.Lay hL1
  have hL3 := c3.Lay hL2
  have hL4 := c4.Lay hL3
  have e6 : (6 : Int32) = nI 6 := rfl
  obtain ⟨M1, f1, f2⟩ := copy_loop (n := 6) (P := fun _ => True) (D := fun i k o' => o' = o + 2 + i ∧ (k = 1 ∨ k = 2 ∨ k = 3)) (E := fun _ _ => False) (B := b_X5_copyFrom_34 (some (d + o)) (some (s + o))) (J := fun M => dI M 5 1 (some (s + o)) (fun (x11 : Int32) => pI M 5 1 (some (d + o)) x11 (fun (M12 : Mem) => rt () M12))) ha (fun _ _ _ _ _ _ => trivial)
    (fun L M hL hc => by rw [b_X5_copyFrom_34]; exact if_pos (by rw [e6]; exact le_n (by omega) (by omega)))
    (fun L M i hi hL hc => by
      obtain ⟨q1, q2⟩ := hS M hL
      obtain ⟨w1, w2⟩ := q1.2.2.2 i hi
      obtain ⟨w3, w4⟩ := q2.2.2.2 i hi
      have ed : d + o + 2 + i = d + (o + 2 + i) := by omega
      have es : s + o + 2 + i = s + (o + 2 + i) := by omega
      rw [ed] at w1 w2
      rw [es] at w3 w4
      obtain ⟨M1, v1, v2⟩ := cp_band ha (o := o + 2 + i) (by omega) w2 w4
      refine ⟨M1, ?_, v2⟩
      rw [b_X5_copyFrom_34]
      refine (if_neg (fun h9 : (6 : Int32) ≤ nI i => absurd ((i_le (a := 6) (by omega) (by omega)).mp h9) (by omega))).trans ?_
      dsimp only
      rw [dP_at (by rw [q1.1])]
      show aP M 110 (mP M 160 (d + o)) (nI i) _ = _
      rw [q1.2.1, aP_at q1.2.2.1 hi (by omega), w1, dP_at (by rw [q2.1])]
      show aP M 110 (mP M 160 (s + o)) (nI i) _ = _
      rw [q2.2.1, aP_at q2.2.2.1 hi (by omega), w3, rc_at (by rw [w2]), v1, cl_some])
    6 0 FU A4 (by omega) (by show 6 < 1000000; omega) hL4 trivial
  have hL5 := f2.Lay hL4
  have c5 : CI N d s (fun k o' => k = 161 ∧ o' = o) (fun _ => False) M1 (uI M1 161 (d + o) (mI M1 161 (s + o))) := CI.set (by omega) (by omega) rfl
  refine ⟨uI M1 161 (d + o) (mI M1 161 (s + o)), ?_, (CI.trans ha (CI.trans ha c14 f2) c5).mono (fun k o' h => ?_) (fun o h => absurd h id)⟩
  · obtain ⟨q1, q2⟩ := hS M hL
    obtain ⟨r1, r2⟩ := hS A1 hL1
    obtain ⟨s1, s2⟩ := hS A2 hL2
    obtain ⟨t1, t2⟩ := hS A3 hL3
    obtain ⟨u1, u2⟩ := hS M1 hL5
    unfold m_X5_copyFrom
    rw [dI_at (by rw [q2.1]), pI_at (by rw [q1.1])]
    show dI (uI M 162 (d + o) (mI M 162 (s + o))) 5 3 _ _ = _
    rw [← hA1, dI_at (by rw [r2.1]), pI_at (by rw [r1.1])]
    show dI (uI A1 163 (d + o) (mI A1 163 (s + o))) 5 4 _ _ = _
    rw [← hA2, dI_at (by rw [s2.1]), pI_at (by rw [s1.1])]
    show dI (uI A2 164 (d + o) (mI A2 164 (s + o))) 5 5 _ _ = _
    rw [← hA3, dI_at (by rw [t2.1]), pI_at (by rw [t1.1])]
    show lp _ FU (0, uI A3 165 (d + o) (mI A3 165 (s + o))) = _
    rw [← hA4]
    refine f1.trans ?_
    rw [dI_at (by rw [u2.1]), pI_at (by rw [u1.1])]; rfl
  · rcases h with ⟨h1, h2, h3⟩ | ⟨h1, h2, h3, h4⟩
    · rcases (show k = 161 ∨ k = 162 ∨ k = 163 ∨ k = 164 ∨ k = 165 by omega) with e | e | e | e | e
      · exact Or.inr ⟨e, h1⟩
      · exact Or.inl (Or.inl (Or.inl (Or.inl (Or.inl ⟨e, h1⟩))))
      · exact Or.inl (Or.inl (Or.inl (Or.inl (Or.inr ⟨e, h1⟩))))
      · exact Or.inl (Or.inl (Or.inl (Or.inr ⟨e, h1⟩)))
      · exact Or.inl (Or.inl (Or.inr ⟨e, h1⟩))
    · exact Or.inl (Or.inr ⟨o' - (o + 2), by omega, by omega, by omega, by omega⟩)
theorem cp_ticket (hL : Lay M) (ha : Apart N d s) {o : Nat} (ho : o + 1 < N) (hS : ∀ M, Lay M → mS M (d + o) = (8, 0) ∧ mS M (s + o) = (8, 0) ∧ mS M (d + (o + 1)) = (100, 4) ∧ mS M (s + (o + 1)) = (100, 4) ∧ mP M 256 (d + o) = some (d + (o + 1)) ∧ mP M 256 (s + o) = some (s + (o + 1)))
    (z1 : mI M 263 (s + o) = 0 ∨ mI M 263 (s + o) = 1) (z2 : mI M 264 (s + o) = 0 ∨ mI M 264 (s + o) = 1) :
    ∃ M1, m_X8_copyFrom M (some (d + o)) (some (s + o)) = some ((), M1) ∧ CI N d s (fun k o' => (o' = o ∧ 257 ≤ k ∧ k ≤ 264) ∨ (o' = o + 1 ∧ 1000 ≤ k ∧ k < 1004)) nE M M1 := by
  obtain ⟨B, hB⟩ : ∃ B, B = uI (uI (uI (uI (uI (uI (uI (uI M 258 (d + o) (mI M 258 (s + o))) 259 (d + o) (mI M 259 (s + o))) 260 (d + o) (mI M 260 (s + o))) 257 (d + o) 0) 261 (d + o) 0) 262 (d + o) (-1)) 263 (d + o) 0) 264 (d + o) 0 := ⟨_, rfl⟩
  have hLB : Lay B := by rw [hB]; exact hL
  have hne : ∀ o', o' < N → s + o' ≠ d + o := fun o' h => ha o' o h (by omega)
  have hB2 : B.2 = M.2 := by rw [hB]; rfl
  have fB : ∀ k a, ¬ (a = d + o ∧ 257 ≤ k ∧ k ≤ 264) → mI B k a = mI M k a := fun k a h => by
    rw [hB, mI_ne (by omega), mI_ne (by omega), mI_ne (by omega), mI_ne (by omega), mI_ne (by omega), mI_ne (by omega), mI_ne (by omega), mI_ne (by omega)]
  have bB : ∀ k, k = 258 ∨ k = 259 ∨ k = 260 → mI B k (d + o) = mI M k (s + o) := fun k h => by
    rcases h with rfl | rfl | rfl
    · rw [hB, mI_ne (by omega), mI_ne (by omega), mI_ne (by omega), mI_ne (by omega), mI_ne (by omega), mI_ne (by omega), mI_ne (by omega), mI_eq]
    · rw [hB, mI_ne (by omega), mI_ne (by omega), mI_ne (by omega), mI_ne (by omega), mI_ne (by omega), mI_ne (by omega), mI_eq]
    · rw [hB, mI_ne (by omega), mI_ne (by omega), mI_ne (by omega), mI_ne (by omega), mI_ne (by omega), mI_eq]
  have sB : ∀ k o', o' < N → mI B k (s + o') = mI M k (s + o') := fun k o' h => fB _ _ (fun h9 => hne o' h h9.1)
  have e4 : (4 : Int32) = nI 4 := rfl
  obtain ⟨J, hJ⟩ : ∃ J : Mem → Option (Unit × Mem), J = fun (M6 : Mem) => dI M6 8 1 (some (s + o)) (fun (x7 : Int32) => pI M6 8 1 (some (d + o)) x7 (fun (M8 : Mem) => dI M8 8 5 (some (s + o)) (fun (x9 : Int32) => pI M8 8 5 (some (d + o)) x9 (fun (M10 : Mem) => dI M10 8 6 (some (s + o)) (fun (x11 : Int32) => pI M10 8 6 (some (d + o)) x11 (fun (M12 : Mem) => dI M12 8 7 (some (s + o)) (fun (x13 : Int32) => pZ M12 8 7 (some (d + o)) x13 (fun (M14 : Mem) => dI M14 8 8 (some (s + o)) (fun (x15 : Int32) => pZ M14 8 8 (some (d + o)) x15 (fun (M16 : Mem) => rt () M16)))))))))) := ⟨_, rfl⟩
  obtain ⟨M4, f1, f2⟩ := copy_loop (n := 4) (P := fun _ => True) (D := fun i k o' => o' = o + 1 ∧ k = 1000 + i) (E := fun _ _ => False) (B := b_X8_copyFrom_18 (some (d + o)) (some (s + o)) J) (J := J) ha (fun _ _ _ _ _ _ => trivial)
    (fun L M hL hc => by rw [b_X8_copyFrom_18]; exact if_pos (by rw [e4]; exact le_n (by omega) (by omega)))
    (fun L M i hi hL hc => by
      obtain ⟨q1, q2, q3, q4, q5, q6⟩ := hS M hL
      rw [b_X8_copyFrom_18]
      obtain ⟨w1, w2⟩ := cp_cell (K := fun M10 => L (nI i + 1, M10)) (K2 := _) ha (by omega) q3 q4 hi (by omega) rfl
      refine ⟨_, ?_, w2⟩
      refine (if_neg (fun h9 : (4 : Int32) ≤ nI i => absurd ((i_le (a := 4) (by omega) (by omega)).mp h9) (by omega))).trans ?_
      dsimp only
      rw [dP_at (by rw [q1]), dP_at (by rw [q2])]
      show aI M 100 (mP M 256 (s + o)) (nI i) (fun x => sI M 100 (mP M 256 (d + o)) (nI i) x _) = _
      rw [q5, q6]; exact w1)
    4 0 FU B (by omega) (by show 4 < 1000000; omega) hLB trivial
  obtain ⟨A1, hA1⟩ : ∃ A, A = uI M4 257 (d + o) (mI M4 257 (s + o)) := ⟨_, rfl⟩
  obtain ⟨A2, hA2⟩ : ∃ A, A = uI A1 261 (d + o) (mI A1 261 (s + o)) := ⟨_, rfl⟩
  obtain ⟨A3, hA3⟩ : ∃ A, A = uI A2 262 (d + o) (mI A2 262 (s + o)) := ⟨_, rfl⟩
  obtain ⟨A4, hA4⟩ : ∃ A, A = uI A3 263 (d + o) (mI A3 263 (s + o)) := ⟨_, rfl⟩
  obtain ⟨A5, hA5⟩ : ∃ A, A = uI A4 264 (d + o) (mI A4 264 (s + o)) := ⟨_, rfl⟩
  have c1 : CI N d s (fun k o' => k = 257 ∧ o' = o) (fun _ => False) M4 A1 := by rw [hA1]; exact CI.set (by omega) (by omega) rfl
  have c2 : CI N d s (fun k o' => k = 261 ∧ o' = o) (fun _ => False) A1 A2 := by rw [hA2]; exact CI.set (by omega) (by omega) rfl
  have c3 : CI N d s (fun k o' => k = 262 ∧ o' = o) (fun _ => False) A2 A3 := by rw [hA3]; exact CI.set (by omega) (by omega) rfl
  have c4 : CI N d s (fun k o' => k = 263 ∧ o' = o) (fun _ => False) A3 A4 := by rw [hA4]; exact CI.set (by omega) (by omega) rfl
  have c5 : CI N d s (fun k o' => k = 264 ∧ o' = o) (fun _ => False) A4 A5 := by rw [hA5]; exact CI.set (by omega) (by omega) rfl
  have hc13 := CI.trans ha (CI.trans ha (CI.trans ha f2 c1) c2) c3
  have hc14 := CI.trans ha hc13 c4
  have hc15 := CI.trans ha hc14 c5
  have hL4 := f2.Lay hLB
  have hLA1 := c1.Lay hL4
  have hLA2 := c2.Lay hLA1
  have hLA3 := c3.Lay hLA2
  have hLA4 := c4.Lay hLA3
  refine ⟨A5, ?_, hc15.1.trans (congrArg (fun z => z.2) hB2), fun k a h => (hc15.2.1 k a h).trans (fB k a (by omega)), fun k a h => (hc15.2.2.1 k a h).trans (eF hB2 k a), fun k o' h => ?_, fun k o' h => ?_, fun k o' h h9 => ?_, fun o' h h9 => absurd h9 id⟩
  · obtain ⟨q1, q2, -⟩ := hS M hL
    unfold m_X8_copyFrom
    rw [dI_at (by rw [q2]), dI_at (by rw [q2]), dI_at (by rw [q2]), rc_at (by rw [q1])]
    have hbeg : m_X8_begin M (some (d + o)) (mI M 258 (s + o)) (mI M 259 (s + o)) (mI M 260 (s + o)) = some ((), B) := by
      unfold m_X8_begin
      rw [pI_at (by rw [q1]), pI_at (by rw [mS_uI, q1]), pI_at (by rw [mS_uI, mS_uI, q1]), pI_at (by rw [mS_uI, mS_uI, mS_uI, q1]), pI_at (by rw [mS_uI, mS_uI, mS_uI, mS_uI, q1]), pI_at (by rw [mS_uI, mS_uI, mS_uI, mS_uI, mS_uI, q1]), pZ_at (by rw [mS_uI, mS_uI, mS_uI, mS_uI, mS_uI, mS_uI, q1]) (Or.inl rfl), pZ_at (by rw [mS_uI, mS_uI, mS_uI, mS_uI, mS_uI, mS_uI, mS_uI, q1]) (Or.inl rfl), hB]; rfl
    show cl (m_X8_begin M (some (d + o)) (mI M 258 (s + o)) (mI M 259 (s + o)) (mI M 260 (s + o))) _ = _
    rw [hbeg, cl_some]
    unfold jn
    rw [← hJ]
    refine f1.trans ?_
    obtain ⟨r1, r2, -⟩ := hS M4 hL4
    obtain ⟨s1, s2, -⟩ := hS A1 hLA1
    obtain ⟨t1, t2, -⟩ := hS A2 hLA2
    obtain ⟨u1, u2, -⟩ := hS A3 hLA3
    obtain ⟨v1, v2, -⟩ := hS A4 hLA4
    have z1' : mI A3 263 (s + o) = 0 ∨ mI A3 263 (s + o) = 1 := by rw [(hc13.src ha (by omega) 263).1, sB _ _ (by omega)]; exact z1
    have z2' : mI A4 264 (s + o) = 0 ∨ mI A4 264 (s + o) = 1 := by rw [(hc14.src ha (by omega) 264).1, sB _ _ (by omega)]; exact z2
    rw [hJ]
    dsimp only
    rw [dI_at (by rw [r2]), pI_at (by rw [r1])]
    show dI (uI M4 257 (d + o) (mI M4 257 (s + o))) 8 5 _ _ = _
    rw [← hA1, dI_at (by rw [s2]), pI_at (by rw [s1])]
    show dI (uI A1 261 (d + o) (mI A1 261 (s + o))) 8 6 _ _ = _
    rw [← hA2, dI_at (by rw [t2]), pI_at (by rw [t1])]
    show dI (uI A2 262 (d + o) (mI A2 262 (s + o))) 8 7 _ _ = _
    rw [← hA3, dI_at (by rw [u2]), pZ_at (by rw [u1]) z1']
    show dI (uI A3 263 (d + o) (mI A3 263 (s + o))) 8 8 _ _ = _
    rw [← hA4, dI_at (by rw [v2]), pZ_at (by rw [v1]) z2', hA5]; rfl
  · rcases hc15.2.2.2.1 k o' h with e | e
    · exact Or.inl (e.trans (sB k o' h))
    · by_cases hk : o' = o ∧ 257 ≤ k ∧ k ≤ 264
      · obtain ⟨rfl, k1, k2⟩ := hk
        by_cases hk3 : k = 258 ∨ k = 259 ∨ k = 260
        · exact Or.inl (e.trans (bB k hk3))
        · refine Or.inl ((hc15.2.2.2.2.2.1 k o' h ?_).trans (sB k o' h))
          rcases (show k = 257 ∨ k = 261 ∨ k = 262 ∨ k = 263 ∨ k = 264 by omega) with e | e | e | e | e
          · exact Or.inl (Or.inl (Or.inl (Or.inl (Or.inr ⟨e, rfl⟩))))
          · exact Or.inl (Or.inl (Or.inl (Or.inr ⟨e, rfl⟩)))
          · exact Or.inl (Or.inl (Or.inr ⟨e, rfl⟩))
          · exact Or.inl (Or.inr ⟨e, rfl⟩)
          · exact Or.inr ⟨e, rfl⟩
      · exact Or.inr (e.trans (fB _ _ (by omega)))
  · rcases hc15.2.2.2.2.1 k o' h with e | e
    · exact Or.inl (e.trans (eF hB2 _ _))
    · exact Or.inr (e.trans (eF hB2 _ _))
  · rcases h9 with ⟨rfl, k1, k2⟩ | ⟨rfl, k1, k2⟩
    · by_cases hk3 : k = 258 ∨ k = 259 ∨ k = 260
      · rcases hc15.2.2.2.1 k o' h with e | e
        · exact e.trans (sB k o' h)
        · exact e.trans (bB k hk3)
      · refine (hc15.2.2.2.2.2.1 k o' h ?_).trans (sB k o' h)
        rcases (show k = 257 ∨ k = 261 ∨ k = 262 ∨ k = 263 ∨ k = 264 by omega) with e | e | e | e | e
        · exact Or.inl (Or.inl (Or.inl (Or.inl (Or.inr ⟨e, rfl⟩))))
        · exact Or.inl (Or.inl (Or.inl (Or.inr ⟨e, rfl⟩)))
        · exact Or.inl (Or.inl (Or.inr ⟨e, rfl⟩))
        · exact Or.inl (Or.inr ⟨e, rfl⟩)
        · exact Or.inr ⟨e, rfl⟩
    · refine (hc15.2.2.2.2.2.1 k _ h ?_).trans (sB k _ h)
      exact Or.inl (Or.inl (Or.inl (Or.inl (Or.inl ⟨k - 1000, by omega, by omega, rfl, by omega⟩))))
end CP
