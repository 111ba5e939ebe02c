theorem ini_pk {q o k : Nat} (hq : q < 2) (ho : o < 1082) : ini k (pk q + o) = iniC k o := by
  unfold ini pk
  rcases (show q = 0 ∨ q = 1 by omega) with rfl | rfl
  · rw [if_neg (by omega), if_pos (by omega)]; exact congrArg (iniC k) (by omega)
  · rw [if_neg (by omega), if_neg (by omega), if_pos (by omega)]; exact congrArg (iniC k) (by omega)
theorem PlanAt_pk {q i : Nat} (hq : q < 2) (hi : i < 4) : PlanAt (pk q + (6 + 8 * i)) := by
  have e1 : pk q + (6 + 8 * i) + 1 = pk q + (7 + 8 * i) := by omega
  have e2 : ∀ b, pk q + (6 + 8 * i) + 2 + b = pk q + (8 + 8 * i + b) := fun b => by omega
  refine ⟨?_, ?_, fun b hb => ?_, fun k => ?_, fun k => ?_, fun b k hb => ?_, fun k => ?_, fun k => ?_, fun b k hb => ?_⟩
  · rw [shp_pk hq (by omega)]; unfold shpC
    rw [if_neg (by omega), if_neg (by omega), if_neg (by omega), if_neg (by omega), if_neg (by omega), if_neg (by omega), if_pos (by omega), if_pos (by omega)]
  · rw [e1, shp_pk hq (by omega)]; unfold shpC
    rw [if_neg (by omega), if_neg (by omega), if_neg (by omega), if_neg (by omega), if_neg (by omega), if_neg (by omega), if_pos (by omega), if_neg (by omega), if_pos (by omega)]
  · rw [e2, shp_pk hq (by omega)]; unfold shpC
    rw [if_neg (by omega), if_neg (by omega), if_neg (by omega), if_neg (by omega), if_neg (by omega), if_neg (by omega), if_pos (by omega), if_neg (by omega), if_neg (by omega)]
  · rw [ptr_pk hq (by omega)]; unfold ptrC
    rw [if_neg (by omega), if_neg (by omega), if_neg (by omega), if_neg (by omega), if_neg (by omega), if_neg (by omega), if_pos (by omega), if_pos (by omega)]
  · rw [e1, ptr_pk hq (by omega)]; unfold ptrC
    rw [if_neg (by omega), if_neg (by omega), if_neg (by omega), if_neg (by omega), if_neg (by omega), if_neg (by omega), if_pos (by omega), if_neg (by omega), if_pos (by omega)]
    by_cases h : 1000 ≤ k ∧ k < 1006
    · rw [if_pos h, if_pos h]; exact congrArg some (by omega)
    · rw [if_neg h, if_neg h]
  · rw [e2, ptr_pk hq (by omega)]; unfold ptrC
    rw [if_neg (by omega), if_neg (by omega), if_neg (by omega), if_neg (by omega), if_neg (by omega), if_neg (by omega), if_pos (by omega), if_neg (by omega), if_neg (by omega)]
  · rw [ini_pk hq (by omega)]; unfold iniC
    rw [if_neg (by omega), if_pos (by omega), if_pos (by omega)]
  · rw [e1, ini_pk hq (by omega)]; unfold iniC
    rw [if_neg (by omega), if_pos (by omega), if_neg (by omega), if_pos (by omega)]
  · rw [e2, ini_pk hq (by omega)]; unfold iniC
    rw [if_neg (by omega), if_pos (by omega), if_neg (by omega), if_neg (by omega), show (8 + 8 * i + b - 6) % 8 = 2 + b by omega, Nat.add_sub_cancel_left]
    have e : ∀ j, (2 + b = 2 ∧ k = j) ↔ (b = 0 ∧ k = j) := fun j => by omega
    simp only [e]
theorem PlanAt_draft : PlanAt 2168 := by
  refine ⟨rfl, rfl, fun b hb => ?_, fun k => ?_, fun k => ?_, fun b k hb => ?_, fun k => ?_, fun k => ?_, fun b k hb => ?_⟩
  · rcases (show b = 0 ∨ b = 1 ∨ b = 2 ∨ b = 3 ∨ b = 4 ∨ b = 5 by omega) with rfl | rfl | rfl | rfl | rfl | rfl <;> rfl
  · unfold ptr
    rw [if_neg (by omega), if_neg (by omega), if_neg (by omega), if_neg (by omega), if_pos (by omega)]
  · unfold ptr
    rw [if_neg (by omega), if_neg (by omega), if_neg (by omega), if_neg (by omega), if_neg (by omega), if_pos (by omega)]
  · unfold ptr
    rw [if_neg (by omega), if_neg (by omega), if_neg (by omega), if_neg (by omega), if_neg (by omega), if_neg (by omega), if_neg (by omega), if_neg (by omega)]
  · unfold ini
    rw [if_neg (by omega), if_neg (by omega), if_neg (by omega), if_neg (by omega), if_pos (by omega)]
    unfold iniC
    rw [if_neg (by omega), if_pos (by omega), if_pos (by omega)]
  · unfold ini
    rw [if_neg (by omega), if_neg (by omega), if_neg (by omega), if_neg (by omega), if_pos (by omega)]
    unfold iniC
    rw [if_neg (by omega), if_pos (by omega), if_neg (by omega), if_pos (by omega)]
  · unfold ini
    rw [if_neg (by omega), if_neg (by omega), if_neg (by omega), if_neg (by omega), if_pos (by omega)]
    unfold iniC
    rw [if_neg (by omega), if_pos (by omega), if_neg (by omega), if_neg (by omega), show (2168 + 2 + b - 2162 - 6) % 8 = 2 + b by omega, Nat.add_sub_cancel_left]
    have e : ∀ j, (2 + b = 2 ∧ k = j) ↔ (b = 0 ∧ k = j) := fun j => by omega
    simp only [e]
theorem arr_loop {n sz u base : Nat} {St : Nat → Nat → Nat → Prop} {SI : Nat → Nat → Prop} {B : (Int32 × Mem → Option (Unit × Mem)) → Int32 × Mem → Option (Unit × Mem)} {J : Mem → Option (Unit × Mem)} (hend : ∀ L M, B L (nI n, M) = J M) (hstep : ∀ L M ℓ i, i < n → PR (base + sz * i) ℓ (St i) SI M → ∃ M1, B L (nI i, M) = L (nI i + 1, M1) ∧ PR (base + sz * (i + 1)) (ℓ + u) (St (i + 1)) SI M1) :
    ∀ (k l fu ℓ : Nat) (M : Mem), l + k = n → k < fu → PR (base + sz * l) ℓ (St l) SI M → ∃ M1, lp B fu (nI l, M) = J M1 ∧ PR (base + sz * n) (ℓ + u * k) (St n) SI M1 := by
  intro k
  induction k with
  | zero =>
    intro l fu ℓ M hl hfu h
    obtain ⟨fu, rfl⟩ : ∃ z, fu = z + 1 := ⟨fu - 1, by omega⟩
    have e : l = n := by omega
    subst e
    exact ⟨M, by rw [lp_succ]; exact hend _ M, h⟩
  | succ k ih =>
    intro l fu ℓ M hl hfu h
    obtain ⟨fu, rfl⟩ : ∃ z, fu = z + 1 := ⟨fu - 1, by omega⟩
    obtain ⟨M1, f1, f2⟩ := hstep (lp B fu) M ℓ l (by omega) h
    obtain ⟨M2, g1, g2⟩ := ih (l + 1) fu (ℓ + u) M1 (by omega) (by omega) f2
    rw [show ℓ + u + u * k = ℓ + u * (k + 1) by rw [Nat.mul_add]; omega] at g2
    exact ⟨M2, by rw [lp_succ, f1, nI_1]; exact g1, g2⟩
theorem arr_step {A ℓ sz sl u ci p j q len i : Nat} {S S' SI : Nat → Nat → Prop} {M : Mem} {f : Mem → Option Nat → Option (Unit × Mem)} {β : Type} {K : Mem → Option β} (h : PR A ℓ S SI M) (hA : A < 100000) (hsz : 0 < sz) (hp : p < A) (hq : q < A) (hsp : (shp p).1 = 1) (hpp : ptr (32 * 1 + j) p = some q) (hpS : ¬ S (32 * 1 + j) p) (hsq : shp q = (110 + ci, len)) (hi : i < len) (hlen : len < 1000) (hsA : shp A = (ci, 0)) (hptr : ptr (1000 + i) q = some A)
    (hf : ∀ M', PR (A + 1) (ℓ + sl) (pP' S A) (pI' SI A) M' → ∃ M1, f M' (some A) = some ((), M1) ∧ PR (A + sz) (ℓ + sl + u) S SI M1) (hS' : ∀ k a, S k a → ¬ (k = 1000 + i ∧ a = q) → S' k a) :
    ∃ M1, dP M 1 j (some p) (fun (q26 : Option Nat) => nO M ci sl (fun (q27 : Option Nat) (M28 : Mem) => rc M28 ci q27 (cl (f M28 q27) (fun (_u : Unit) (M29 : Mem) => sP M29 ci q26 (nI i) q27 (fun (M30 : Mem) => K M30))))) = K M1 ∧ PR (A + sz) (ℓ + sl + u) S' SI M1 := by
  have h1 := h.alloc (sh := (ci, 0)) (sl := sl) hsA.symm
  obtain ⟨M1, f1, f2⟩ := hf _ h1
  refine ⟨uP M1 (1000 + i) q (some A), ?_, f2.setP hptr (fun k a _ g1 g2 => hS' k a g1 g2)⟩
  rw [dP_at (by rw [h.sh hp, hsp]), h.pt hp hpS, hpp, b_nO h (by omega), rc_at (by rw [h1.sh (by omega), hsA]), f1, cl_some, sP_at (by rw [f2.sh (by omega), hsq]) hi (by omega) (by rw [f2.sh (by omega), hsA])]
/-! the park -/
def SKp (S : Nat → Nat → Prop) (p i1 i2 i3 i4 i5 k a : Nat) : Prop := S k a ∨ (a = p + 1 ∧ 1000 + i1 ≤ k ∧ k < 1004) ∨ (a = p + 2 ∧ 1000 + i2 ≤ k ∧ k < 1010) ∨ (a = p + 3 ∧ 1000 + i3 ≤ k ∧ k < 1003) ∨ (a = p + 4 ∧ 1000 + i4 ≤ k ∧ k < 1004) ∨ (a = p + 5 ∧ 1000 + i5 ≤ k ∧ k < 1512)
def jI4 (p fu : Nat) : Mem → Option (Unit × Mem) := fun M23 => lp (b_X1_init_154 (some p)) fu (0, M23)
def jI3 (p fu : Nat) : Mem → Option (Unit × Mem) := fun M21 => lp (b_X1_init_128 (some p) (jI4 p fu)) fu (0, M21)
def jI2 (p fu : Nat) : Mem → Option (Unit × Mem) := fun M19 => lp (b_X1_init_102 (some p) (jI3 p fu)) fu (0, M19)
def jI1 (p fu : Nat) : Mem → Option (Unit × Mem) := fun M17 => lp (b_X1_init_75 (some p) (jI2 p fu)) fu (0, M17)
theorem jI_gen (fu p : Nat) (M15 : Mem) : jn (fun (M17 : Mem) => jn (fun (M19 : Mem) => jn (fun (M21 : Mem) => jn (fun (M23 : Mem) => lp (b_X1_init_154 (some p)) fu (0, M23)) (fun (J152_21 : Mem → Option (Unit × Mem)) => lp (b_X1_init_128 (some p) J152_21) fu (0, M21))) (fun (J126_19 : Mem → Option (Unit × Mem)) => lp (b_X1_init_102 (some p) J126_19) fu (0, M19))) (fun (J100_17 : Mem → Option (Unit × Mem)) => lp (b_X1_init_75 (some p) J100_17) fu (0, M17))) (fun (J73_15 : Mem → Option (Unit × Mem)) => lp (b_X1_init_49 (some p) J73_15) fu (0, M15)) = lp (b_X1_init_49 (some p) (jI1 p fu)) fu (0, M15) := rfl
section PARK
variable {S SI : Nat → Nat → Prop} {q : Nat}
theorem pk_s (hq : q < 2) : (shp (pk q)).1 = 1 := by
  have := shp_pk (o := 0) hq (by omega)
  rw [Nat.add_zero] at this
  rw [this]; rfl
theorem pk_p (hq : q < 2) {j : Nat} (hj : j < 5) : ptr (32 * 1 + j) (pk q) = some (pk q + (1 + j)) := by
  have := ptr_pk (o := 0) (k := 32 * 1 + j) hq (by omega)
  rw [Nat.add_zero] at this
  rw [this]; unfold ptrC
  rw [if_pos rfl, if_pos (by omega)]; exact congrArg some (by omega)
theorem loops_b (hq : q < 2) (hS : ∀ k a, pk q ≤ a → ¬ S k a) (fu : Nat) (hfu : 1000 < fu) {ℓ : Nat} {M : Mem} (h : PR (pk q + 6 + 8 * 0) ℓ (SKp S (pk q) 0 0 0 0 0) SI M) : ∃ M1, lp (b_X1_init_49 (some (pk q)) (jI1 (pk q) fu)) fu (0, M) = some ((), M1) ∧ PR (pk q + 58 + 2 * 512) (ℓ + 36 * 4 + 3 * 10 + 8 * 3 + 5 * 4 + 13 * 512) S SI M1 := by
  have hpb : pk q ≤ 1083 := by unfold pk; omega
  have e4 : (4 : Int32) = nI 4 := rfl
  have e10 : (10 : Int32) = nI 10 := rfl
  have e3 : (3 : Int32) = nI 3 := rfl
  have e512 : (512 : Int32) = nI 512 := rfl
  have nS : ∀ k a (i1 i2 i3 i4 i5 : Nat), pk q + 6 ≤ a → ¬ SKp S (pk q) i1 i2 i3 i4 i5 k a := fun k a i1 i2 i3 i4 i5 ha h9 => by
    rcases h9 with h9 | h9 | h9 | h9 | h9 | h9
    · exact hS k a (by omega) h9
    all_goals omega
  have nP : ∀ k (i1 i2 i3 i4 i5 : Nat), ¬ SKp S (pk q) i1 i2 i3 i4 i5 k (pk q) := fun k i1 i2 i3 i4 i5 h9 => by
    rcases h9 with h9 | h9 | h9 | h9 | h9 | h9
    · exact hS k _ (by omega) h9
    all_goals omega
  obtain ⟨M1, f1, g1⟩ := arr_loop (n := 4) (sz := 8) (u := 36) (base := pk q + 6) (St := fun i => SKp S (pk q) i 0 0 0 0) (SI := SI) (B := b_X1_init_49 (some (pk q)) (jI1 (pk q) fu)) (J := jI1 (pk q) fu)
    (fun L M => by rw [b_X1_init_49]; exact if_pos (by rw [e4]; exact le_n (by omega) (by omega)))
    (fun L M ℓ i hi h => by
      have eA : pk q + 6 + 8 * i = pk q + (6 + 8 * i) := by omega
      have hPl := PlanAt_pk hq hi
      rw [← eA] at hPl
      rw [b_X1_init_49]
      obtain ⟨M1, w1, w2⟩ := arr_step (ci := 5) (sl := 6) (sz := 8) (u := 30) (p := pk q) (j := 0) (q := pk q + 1) (len := 4) (i := i) (S' := SKp S (pk q) (i + 1) 0 0 0 0) (f := m_X5_init) (K := fun M30 => L (nI i + 1, M30)) h (by omega) (by omega) (by omega) (by omega) (pk_s hq) (pk_p hq (by omega)) (nP _ _ _ _ _ _) ((shp_pk hq (by omega)).trans rfl) hi (by omega) hPl.1 (by
        rw [ptr_pk hq (by omega)]; unfold ptrC
        rw [if_neg (by omega), if_pos rfl, if_pos (by omega)]; exact congrArg some (by omega)) (fun M' h' => build_plan hPl h' (by omega) (fun k a ha => nS k a _ _ _ _ _ (by omega))) (fun k a g1 g2 => by
        rcases g1 with g1 | g1 | g1
        · exact Or.inl g1
        · exact Or.inr (Or.inl (by omega))
        · exact Or.inr (Or.inr g1))
      refine ⟨M1, ?_, by rw [show pk q + 6 + 8 * (i + 1) = pk q + 6 + 8 * i + 8 by omega]; exact w2⟩
      exact (if_neg (fun h9 : (4 : Int32) ≤ nI i => absurd ((i_le (a := 4) (by omega) (by omega)).mp h9) (by omega))).trans w1)
    4 0 fu ℓ M (by omega) (by omega) h
  obtain ⟨M2, f2, g2⟩ := arr_loop (n := 10) (sz := 1) (u := 3) (base := pk q + 38) (St := fun i => SKp S (pk q) 4 i 0 0 0) (SI := SI) (B := b_X1_init_75 (some (pk q)) (jI2 (pk q) fu)) (J := jI2 (pk q) fu)
    (fun L M => by rw [b_X1_init_75]; exact if_pos (by rw [e10]; exact le_n (by omega) (by omega)))
    (fun L M ℓ i hi h => by
      have eA : pk q + 38 + 1 * i = pk q + (38 + i) := by omega
      have q1 : ∀ k, ptr k (pk q + 38 + 1 * i) = none := fun k => by
        rw [eA, ptr_pk hq (by omega)]; unfold ptrC
        rw [if_neg (by omega), if_neg (by omega), if_neg (by omega), if_neg (by omega), if_neg (by omega), if_neg (by omega), if_neg (by omega), if_pos (by omega)]
      have q2 : ∀ k, ini k (pk q + 38 + 1 * i) = 0 := fun k => by
        rw [eA, ini_pk hq (by omega)]; unfold iniC
        rw [if_neg (by omega), if_neg (by omega), if_pos (by omega)]
      rw [b_X1_init_75]
      obtain ⟨M1, w1, w2⟩ := arr_step (ci := 9) (sl := 3) (sz := 1) (u := 0) (p := pk q) (j := 1) (q := pk q + 2) (len := 10) (i := i) (S' := SKp S (pk q) 4 (i + 1) 0 0 0) (f := m_X9_init) (K := fun M30 => L (nI i + 1, M30)) h (by omega) (by omega) (by omega) (by omega) (pk_s hq) (pk_p hq (by omega)) (nP _ _ _ _ _ _) ((shp_pk hq (by omega)).trans rfl) hi (by omega) (by
        rw [eA, shp_pk hq (by omega)]; unfold shpC
        rw [if_neg (by omega), if_neg (by omega), if_neg (by omega), if_neg (by omega), if_neg (by omega), if_neg (by omega), if_neg (by omega), if_pos (by omega)]) (by
        rw [ptr_pk hq (by omega)]; unfold ptrC
        rw [if_neg (by omega), if_neg (by omega), if_pos rfl, if_pos (by omega)]; exact congrArg some (by omega)) (fun M' h' => build_voucher h' q1 q2) (fun k a g1 g2 => by
        rcases g1 with g1 | g1 | g1 | g1
        · exact Or.inl g1
        · exact Or.inr (Or.inl g1)
        · exact Or.inr (Or.inr (Or.inl (by omega)))
        · exact Or.inr (Or.inr (Or.inr g1)))
      refine ⟨M1, ?_, by rw [show pk q + 38 + 1 * (i + 1) = pk q + 38 + 1 * i + 1 by omega]; exact w2⟩
      exact (if_neg (fun h9 : (10 : Int32) ≤ nI i => absurd ((i_le (a := 10) (by omega) (by omega)).mp h9) (by omega))).trans w1)
    10 0 fu _ M1 (by omega) (by omega) (by rw [show pk q + 38 + 1 * 0 = pk q + 6 + 8 * 4 by omega]; exact g1)
  obtain ⟨M3, f3, g3⟩ := arr_loop (n := 3) (sz := 2) (u := 8) (base := pk q + 48) (St := fun i => SKp S (pk q) 4 10 i 0 0) (SI := SI) (B := b_X1_init_102 (some (pk q)) (jI3 (pk q) fu)) (J := jI3 (pk q) fu)
    (fun L M => by rw [b_X1_init_102]; exact if_pos (by rw [e3]; exact le_n (by omega) (by omega)))
    (fun L M ℓ i hi h => by
      have eA : pk q + 48 + 2 * i = pk q + (48 + 2 * i) := by omega
      have eB : pk q + 48 + 2 * i + 1 = pk q + (49 + 2 * i) := by omega
      have sA : shp (pk q + 48 + 2 * i) = (2, 0) := by
        rw [eA, shp_pk hq (by omega)]; unfold shpC
        rw [if_neg (by omega), if_neg (by omega), if_neg (by omega), if_neg (by omega), if_neg (by omega), if_neg (by omega), if_neg (by omega), if_neg (by omega), if_pos (by omega), if_pos (by omega)]
      have sB : shp (pk q + 48 + 2 * i + 1) = (100, 5) := by
        rw [eB, shp_pk hq (by omega)]; unfold shpC
        rw [if_neg (by omega), if_neg (by omega), if_neg (by omega), if_neg (by omega), if_neg (by omega), if_neg (by omega), if_neg (by omega), if_neg (by omega), if_pos (by omega), if_neg (by omega)]
      have q1 : ∀ k, ptr k (pk q + 48 + 2 * i) = if k = 64 then some (pk q + 48 + 2 * i + 1) else none := fun k => by
        rw [eA, ptr_pk hq (by omega)]; unfold ptrC
        rw [if_neg (by omega), if_neg (by omega), if_neg (by omega), if_neg (by omega), if_neg (by omega), if_neg (by omega), if_neg (by omega), if_neg (by omega), if_pos (by omega)]
        by_cases hk : k = 64
        · rw [if_pos ⟨by omega, hk⟩, if_pos hk]
        · rw [if_neg (fun h9 => hk h9.2), if_neg hk]
      have q2 : ∀ k, ptr k (pk q + 48 + 2 * i + 1) = none := fun k => by
        rw [eB, ptr_pk hq (by omega)]; unfold ptrC
        rw [if_neg (by omega), if_neg (by omega), if_neg (by omega), if_neg (by omega), if_neg (by omega), if_neg (by omega), if_neg (by omega), if_neg (by omega), if_pos (by omega), if_neg (by omega)]
      have q3 : ∀ k, ini k (pk q + 48 + 2 * i) = 0 := fun k => by
        rw [eA, ini_pk hq (by omega)]; unfold iniC
        rw [if_neg (by omega), if_neg (by omega), if_pos (by omega)]
      have q4 : ∀ k, ini k (pk q + 48 + 2 * i + 1) = 0 := fun k => by
        rw [eB, ini_pk hq (by omega)]; unfold iniC
        rw [if_neg (by omega), if_neg (by omega), if_pos (by omega)]
      rw [b_X1_init_102]
      obtain ⟨M1, w1, w2⟩ := arr_step (ci := 2) (sl := 3) (sz := 2) (u := 5) (p := pk q) (j := 2) (q := pk q + 3) (len := 3) (i := i) (S' := SKp S (pk q) 4 10 (i + 1) 0 0) (f := m_X2_init) (K := fun M30 => L (nI i + 1, M30)) h (by omega) (by omega) (by omega) (by omega) (pk_s hq) (pk_p hq (by omega)) (nP _ _ _ _ _ _) ((shp_pk hq (by omega)).trans rfl) hi (by omega) sA (by
        rw [ptr_pk hq (by omega)]; unfold ptrC
        rw [if_neg (by omega), if_neg (by omega), if_neg (by omega), if_pos rfl, if_pos (by omega)]; exact congrArg some (by omega)) (fun M' h' => build_folder h' (by omega) sA sB q1 q2 q3 q4) (fun k a g1 g2 => by
        rcases g1 with g1 | g1 | g1 | g1 | g1
        · exact Or.inl g1
        · exact Or.inr (Or.inl g1)
        · exact Or.inr (Or.inr (Or.inl g1))
        · exact Or.inr (Or.inr (Or.inr (Or.inl (by omega))))
        · exact Or.inr (Or.inr (Or.inr (Or.inr g1))))
      refine ⟨M1, ?_, by rw [show pk q + 48 + 2 * (i + 1) = pk q + 48 + 2 * i + 2 by omega]; exact w2⟩
      exact (if_neg (fun h9 : (3 : Int32) ≤ nI i => absurd ((i_le (a := 3) (by omega) (by omega)).mp h9) (by omega))).trans w1)
    3 0 fu _ M2 (by omega) (by omega) (by rw [show pk q + 48 + 2 * 0 = pk q + 38 + 1 * 10 by omega]; exact g2)
  obtain ⟨M4, f4, g4⟩ := arr_loop (n := 4) (sz := 1) (u := 5) (base := pk q + 54) (St := fun i => SKp S (pk q) 4 10 3 i 0) (SI := SI) (B := b_X1_init_128 (some (pk q)) (jI4 (pk q) fu)) (J := jI4 (pk q) fu)
    (fun L M => by rw [b_X1_init_128]; exact if_pos (by rw [e4]; exact le_n (by omega) (by omega)))
    (fun L M ℓ i hi h => by
      have eA : pk q + 54 + 1 * i = pk q + (54 + i) := by omega
      have sA : shp (pk q + 54 + 1 * i) = (3, 0) := by
        rw [eA, shp_pk hq (by omega)]; unfold shpC
        rw [if_neg (by omega), if_neg (by omega), if_neg (by omega), if_neg (by omega), if_neg (by omega), if_neg (by omega), if_neg (by omega), if_neg (by omega), if_neg (by omega), if_pos (by omega)]
      have q1 : ∀ k, ptr k (pk q + 54 + 1 * i) = none := fun k => by
        rw [eA, ptr_pk hq (by omega)]; unfold ptrC
        rw [if_neg (by omega), if_neg (by omega), if_neg (by omega), if_neg (by omega), if_neg (by omega), if_neg (by omega), if_neg (by omega), if_neg (by omega), if_neg (by omega), if_pos (by omega)]
      have q2 : ∀ k, ini k (pk q + 54 + 1 * i) = if k = 96 then 10 else 0 := fun k => by
        rw [eA, ini_pk hq (by omega)]; unfold iniC
        rw [if_neg (by omega), if_neg (by omega), if_neg (by omega), if_pos (by omega)]
      rw [b_X1_init_128]
      obtain ⟨M1, w1, w2⟩ := arr_step (ci := 3) (sl := 5) (sz := 1) (u := 0) (p := pk q) (j := 3) (q := pk q + 4) (len := 4) (i := i) (S' := SKp S (pk q) 4 10 3 (i + 1) 0) (f := m_X3_init) (K := fun M30 => L (nI i + 1, M30)) h (by omega) (by omega) (by omega) (by omega) (pk_s hq) (pk_p hq (by omega)) (nP _ _ _ _ _ _) ((shp_pk hq (by omega)).trans rfl) hi (by omega) sA (by
        rw [ptr_pk hq (by omega)]; unfold ptrC
        rw [if_neg (by omega), if_neg (by omega), if_neg (by omega), if_neg (by omega), if_pos rfl, if_pos (by omega)]; exact congrArg some (by omega)) (fun M' h' => build_level h' sA q1 q2) (fun k a g1 g2 => by
        rcases g1 with g1 | g1 | g1 | g1 | g1 | g1
        · exact Or.inl g1
        · exact Or.inr (Or.inl g1)
        · exact Or.inr (Or.inr (Or.inl g1))
        · exact Or.inr (Or.inr (Or.inr (Or.inl g1)))
        · exact Or.inr (Or.inr (Or.inr (Or.inr (Or.inl (by omega)))))
        · exact Or.inr (Or.inr (Or.inr (Or.inr (Or.inr g1)))))
      refine ⟨M1, ?_, by rw [show pk q + 54 + 1 * (i + 1) = pk q + 54 + 1 * i + 1 by omega]; exact w2⟩
      exact (if_neg (fun h9 : (4 : Int32) ≤ nI i => absurd ((i_le (a := 4) (by omega) (by omega)).mp h9) (by omega))).trans w1)
    4 0 fu _ M3 (by omega) (by omega) (by rw [show pk q + 54 + 1 * 0 = pk q + 48 + 2 * 3 by omega]; exact g3)
  obtain ⟨M5, f5, g5⟩ := arr_loop (n := 512) (sz := 2) (u := 13) (base := pk q + 58) (St := fun i => SKp S (pk q) 4 10 3 4 i) (SI := SI) (B := b_X1_init_154 (some (pk q))) (J := fun M => rt () M)
    (fun L M => by rw [b_X1_init_154]; exact if_pos (by rw [e512]; exact le_n (by omega) (by omega)))
    (fun L M ℓ i hi h => by
      have eA : pk q + 58 + 2 * i = pk q + (58 + 2 * i) := by omega
      have eB : pk q + 58 + 2 * i + 1 = pk q + (59 + 2 * i) := by omega
      have sA : shp (pk q + 58 + 2 * i) = (8, 0) := by
        rw [eA, shp_pk hq (by omega)]; unfold shpC
        rw [if_neg (by omega), if_neg (by omega), if_neg (by omega), if_neg (by omega), if_neg (by omega), if_neg (by omega), if_neg (by omega), if_neg (by omega), if_neg (by omega), if_neg (by omega), if_pos (by omega)]
      have sB : shp (pk q + 58 + 2 * i + 1) = (100, 4) := by
        rw [eB, shp_pk hq (by omega)]; unfold shpC
        rw [if_neg (by omega), if_neg (by omega), if_neg (by omega), if_neg (by omega), if_neg (by omega), if_neg (by omega), if_neg (by omega), if_neg (by omega), if_neg (by omega), if_neg (by omega), if_neg (by omega)]
      have q1 : ∀ k, ptr k (pk q + 58 + 2 * i) = if k = 256 then some (pk q + 58 + 2 * i + 1) else none := fun k => by
        rw [eA, ptr_pk hq (by omega)]; unfold ptrC
        rw [if_neg (by omega), if_neg (by omega), if_neg (by omega), if_neg (by omega), if_neg (by omega), if_neg (by omega), if_neg (by omega), if_neg (by omega), if_neg (by omega), if_neg (by omega)]
        by_cases hk : k = 256
        · rw [if_pos ⟨by omega, hk⟩, if_pos hk]
        · rw [if_neg (fun h9 => hk h9.2), if_neg hk]
      have q2 : ∀ k, ptr k (pk q + 58 + 2 * i + 1) = none := fun k => by
        rw [eB, ptr_pk hq (by omega)]; unfold ptrC
        rw [if_neg (by omega), if_neg (by omega), if_neg (by omega), if_neg (by omega), if_neg (by omega), if_neg (by omega), if_neg (by omega), if_neg (by omega), if_neg (by omega), if_neg (by omega), if_neg (by omega)]
      have q3 : ∀ k, ini k (pk q + 58 + 2 * i) = 0 := fun k => by
        rw [eA, ini_pk hq (by omega)]; unfold iniC
        rw [if_neg (by omega), if_neg (by omega), if_neg (by omega), if_neg (by omega)]
      have q4 : ∀ k, ini k (pk q + 58 + 2 * i + 1) = 0 := fun k => by
        rw [eB, ini_pk hq (by omega)]; unfold iniC
        rw [if_neg (by omega), if_neg (by omega), if_neg (by omega), if_neg (by omega)]
      rw [b_X1_init_154]
      obtain ⟨M1, w1, w2⟩ := arr_step (ci := 8) (sl := 9) (sz := 2) (u := 4) (p := pk q) (j := 4) (q := pk q + 5) (len := 512) (i := i) (S' := SKp S (pk q) 4 10 3 4 (i + 1)) (f := m_X8_init) (K := fun M30 => L (nI i + 1, M30)) h (by omega) (by omega) (by omega) (by omega) (pk_s hq) (pk_p hq (by omega)) (nP _ _ _ _ _ _) ((shp_pk hq (by omega)).trans rfl) hi (by omega) sA (by
        rw [ptr_pk hq (by omega)]; unfold ptrC
        rw [if_neg (by omega), if_neg (by omega), if_neg (by omega), if_neg (by omega), if_neg (by omega), if_pos rfl, if_pos (by omega)]; exact congrArg some (by omega)) (fun M' h' => build_ticket h' (by omega) sA sB q1 q2 q3 q4) (fun k a g1 g2 => by
        rcases g1 with g1 | g1 | g1 | g1 | g1 | g1
        · exact Or.inl g1
        · exact Or.inr (Or.inl g1)
        · exact Or.inr (Or.inr (Or.inl g1))
        · exact Or.inr (Or.inr (Or.inr (Or.inl g1)))
        · exact Or.inr (Or.inr (Or.inr (Or.inr (Or.inl g1))))
        · exact Or.inr (Or.inr (Or.inr (Or.inr (Or.inr (by omega))))))
      refine ⟨M1, ?_, by rw [show pk q + 58 + 2 * (i + 1) = pk q + 58 + 2 * i + 2 by omega]; exact w2⟩
      exact (if_neg (fun h9 : (512 : Int32) ≤ nI i => absurd ((i_le (a := 512) (by omega) (by omega)).mp h9) (by omega))).trans w1)
    512 0 fu _ M4 (by omega) (by omega) (by rw [show pk q + 58 + 2 * 0 = pk q + 54 + 1 * 4 by omega]; exact g4)
  refine ⟨M5, ?_, g5.mono (fun k a _ h9 => ?_) (fun _ _ _ h => h)⟩
  · show lp _ fu (nI 0, M) = _
    rw [f1]
    show lp _ fu (nI 0, M1) = _
    rw [f2]
    show lp _ fu (nI 0, M2) = _
    rw [f3]
    show lp _ fu (nI 0, M3) = _
    rw [f4]
    show lp _ fu (nI 0, M4) = _
    rw [f5]; rfl
  · rcases h9 with h9 | h9 | h9 | h9 | h9 | h9
    · exact h9
    all_goals omega
end PARK
