theorem arr_stage {N ℓ ci tag len j p : Nat} {S S' SI : Nat → Nat → Prop} {M : Mem} (h : PR N ℓ S SI M) (hp : p < N) (hN : N < 100000) (hsp : (shp p).1 = ci) (hsN : shp N = (tag, len)) (hlen : len < 100000) (hini : ∀ k, ini k N = 0) (hptr : ptr (32 * ci + j) p = some N) (hS' : ∀ k a, (S k a ∨ (a = N ∧ ptr k N ≠ none)) → ¬ (k = 32 * ci + j ∧ a = p) → S' k a) : ∃ M1, (∀ K : Mem → Option (Unit × Mem), nA M tag (nI len) (fun (q1 : Option Nat) (M2 : Mem) => pP M2 ci j (some p) q1 K) = K M1) ∧ PR (N + 1) (ℓ + len) S' SI M1 := by
  have h1 := h.alloc (sh := (tag, len)) (sl := len) hsN.symm
  refine ⟨uP (nw M (tag, len) len) (32 * ci + j) p (some N), fun K => ?_, (h1.setP (S' := S') hptr (fun k a _ g1 g2 => hS' k a g1 g2)).mono (fun _ _ _ h => h) (fun k a _ h9 => ?_)⟩
  · rw [b_nA h (by omega) hlen, pP_at (by rw [h1.sh (by omega), hsp])]
  · rcases h9 with h9 | ⟨rfl, h9⟩
    · exact h9
    · exact absurd (hini k) h9
theorem obj_stage {N ℓ ℓ' sz ci co sl j p : Nat} {S S' SI : Nat → Nat → Prop} {M : Mem} {f : Mem → Option Nat → Option (Unit × Mem)} (h : PR N ℓ S SI M) (hp : p < N) (hN : N < 100000) (hsz : 0 < sz) (hsp : (shp p).1 = ci) (hsN : shp N = (co, 0)) (hptr : ptr (32 * ci + j) p = some N)
    (hf : ∀ M', PR (N + 1) (ℓ + sl) (pP' S N) (pI' SI N) M' → ∃ M1, f M' (some N) = some ((), M1) ∧ PR (N + sz) ℓ' S SI M1) (hS' : ∀ k a, S k a → ¬ (k = 32 * ci + j ∧ a = p) → S' k a) : ∃ M1, (∀ K : Mem → Option (Unit × Mem), nO M co sl (fun (q1 : Option Nat) (M2 : Mem) => rc M2 co q1 (cl (f M2 q1) (fun (_u : Unit) (M3 : Mem) => pP M3 ci j (some p) q1 K))) = K M1) ∧ PR (N + sz) ℓ' S' SI M1 := by
  have h1 := h.alloc (sh := (co, 0)) (sl := sl) hsN.symm
  obtain ⟨M1, f1, f2⟩ := hf _ h1
  refine ⟨uP M1 (32 * ci + j) p (some N), fun K => ?_, f2.setP hptr (fun k a _ g1 g2 => hS' k a g1 g2)⟩
  rw [b_nO h (by omega), rc_at (by rw [h1.sh (by omega), hsN]), f1, cl_some, pP_at (by rw [f2.sh (by omega), hsp])]
section PARK2
variable {S SI : Nat → Nat → Prop} {q ℓ : Nat} {M : Mem}
def SKt (S : Nat → Nat → Prop) (p t k a : Nat) : Prop := S k a ∨ (a = p ∧ 32 + t ≤ k ∧ k < 37) ∨ (1 ≤ t ∧ a = p + 1 ∧ 1000 ≤ k ∧ k < 1004) ∨ (2 ≤ t ∧ a = p + 2 ∧ 1000 ≤ k ∧ k < 1010) ∨ (3 ≤ t ∧ a = p + 3 ∧ 1000 ≤ k ∧ k < 1003) ∨ (4 ≤ t ∧ a = p + 4 ∧ 1000 ≤ k ∧ k < 1004) ∨ (5 ≤ t ∧ a = p + 5 ∧ 1000 ≤ k ∧ k < 1512)
theorem SKt.up {p t k a : Nat} {b : Nat} (h : SKt S p t k a ∨ (a = p + (1 + t) ∧ 1000 ≤ k ∧ k < b)) (hb : b = if t = 0 then 1004 else if t = 1 then 1010 else if t = 2 then 1003 else if t = 3 then 1004 else 1512) (h2 : ¬ (k = 32 * 1 + t ∧ a = p)) (ht : t < 5) : SKt S p (t + 1) k a := by
  unfold SKt at h ⊢
  rcases h with (h | h | h | h | h | h | h) | h
  · exact Or.inl h
  · exact Or.inr (Or.inl (by omega))
  · exact Or.inr (Or.inr (Or.inl (by omega)))
  · exact Or.inr (Or.inr (Or.inr (Or.inl (by omega))))
  · exact Or.inr (Or.inr (Or.inr (Or.inr (Or.inl (by omega)))))
  · exact Or.inr (Or.inr (Or.inr (Or.inr (Or.inr (Or.inl (by omega))))))
  · exact Or.inr (Or.inr (Or.inr (Or.inr (Or.inr (Or.inr (by omega))))))
  · rcases (show t = 0 ∨ t = 1 ∨ t = 2 ∨ t = 3 ∨ t = 4 by omega) with rfl | rfl | rfl | rfl | rfl
    · rw [if_pos rfl] at hb; exact Or.inr (Or.inr (Or.inl (by omega)))
    · rw [if_neg (by omega), if_pos rfl] at hb; exact Or.inr (Or.inr (Or.inr (Or.inl (by omega))))
    · rw [if_neg (by omega), if_neg (by omega), if_pos rfl] at hb; exact Or.inr (Or.inr (Or.inr (Or.inr (Or.inl (by omega)))))
    · rw [if_neg (by omega), if_neg (by omega), if_neg (by omega), if_pos rfl] at hb; exact Or.inr (Or.inr (Or.inr (Or.inr (Or.inr (Or.inl (by omega))))))
    · rw [if_neg (by omega), if_neg (by omega), if_neg (by omega), if_neg (by omega)] at hb; exact Or.inr (Or.inr (Or.inr (Or.inr (Or.inr (Or.inr (by omega))))))
theorem ite_ne {α : Type} {c : Prop} [Decidable c] {x : α} (h : (if c then some x else none) ≠ none) : c := by
  by_cases hc : c
  · exact hc
  · rw [if_neg hc] at h; exact absurd rfl h
theorem build_park (hq : q < 2) (h : PR (pk q + 1) ℓ (pP' S (pk q)) (pI' SI (pk q)) M) (hS : ∀ k a, pk q ≤ a → ¬ S k a) : ∃ M1, m_X1_init M (some (pk q)) = some ((), M1) ∧ PR (pk q + 1082) (ℓ + 7407) S SI M1 := by
  have hpb : pk q ≤ 1083 := by unfold pk; omega
  have e0 : ∀ k, ini k (pk q) = 0 := fun k => by
    have := ini_pk (o := 0) (k := k) hq (by omega)
    rw [Nat.add_zero] at this
    rw [this]; rfl
  have ei : ∀ k o, o < 6 → ini k (pk q + o) = 0 := fun k o ho => by
    rw [ini_pk hq (by omega)]; unfold iniC; rw [if_pos ho]
  have h0 : PR (pk q + (1 + 0)) ℓ (SKt S (pk q) 0) SI M := PR.mono (N := pk q + 1) h (fun k a _ h9 => by
    rcases h9 with h9 | ⟨rfl, h9⟩
    · exact Or.inl h9
    · have hp := ptr_pk (o := 0) (k := k) hq (by omega)
      rw [Nat.add_zero] at hp
      rw [hp] at h9
      unfold ptrC at h9
      rw [if_pos rfl] at h9
      have := ite_ne h9
      exact Or.inr (Or.inl ⟨rfl, by omega, by omega⟩)) (fun k a _ h9 => by
    rcases h9 with h9 | ⟨rfl, h9⟩
    · exact h9
    · exact absurd (e0 k) h9)
  obtain ⟨A1, w1, h1⟩ := arr_stage (ci := 1) (tag := 110 + 5) (len := 4) (j := 0) (p := pk q) (S' := SKt S (pk q) 1) h0 (by omega) (by omega) (pk_s hq) ((shp_pk hq (by omega)).trans rfl) (by omega) (fun k => ei k _ (by omega)) (pk_p hq (by omega)) (fun k a g1 g2 => SKt.up (t := 0) (b := 1004) (g1.imp id (fun ⟨g3, g4⟩ => by
    rw [ptr_pk hq (by omega)] at g4
    unfold ptrC at g4
    rw [if_neg (by omega), if_pos (by omega)] at g4
    have := ite_ne g4
    exact ⟨g3, by omega, by omega⟩)) (by rw [if_pos rfl]) g2 (by omega))
  obtain ⟨A2, w2, h2⟩ := arr_stage (N := pk q + (1 + 1)) (ci := 1) (tag := 110 + 9) (len := 10) (j := 1) (p := pk q) (S' := SKt S (pk q) 2) h1 (by omega) (by omega) (pk_s hq) ((shp_pk hq (by omega)).trans rfl) (by omega) (fun k => ei k _ (by omega)) (pk_p hq (by omega)) (fun k a g1 g2 => SKt.up (t := 1) (b := 1010) (g1.imp id (fun ⟨g3, g4⟩ => by
    rw [ptr_pk hq (by omega)] at g4
    unfold ptrC at g4
    rw [if_neg (by omega), if_neg (by omega), if_pos (by omega)] at g4
    have := ite_ne g4
    exact ⟨g3, by omega, by omega⟩)) (by rw [if_neg (by omega), if_pos rfl]) g2 (by omega))
  obtain ⟨A3, w3, h3⟩ := arr_stage (N := pk q + (1 + 2)) (ci := 1) (tag := 110 + 2) (len := 3) (j := 2) (p := pk q) (S' := SKt S (pk q) 3) h2 (by omega) (by omega) (pk_s hq) ((shp_pk hq (by omega)).trans rfl) (by omega) (fun k => ei k _ (by omega)) (pk_p hq (by omega)) (fun k a g1 g2 => SKt.up (t := 2) (b := 1003) (g1.imp id (fun ⟨g3, g4⟩ => by
    rw [ptr_pk hq (by omega)] at g4
    unfold ptrC at g4
    rw [if_neg (by omega), if_neg (by omega), if_neg (by omega), if_pos (by omega)] at g4
    have := ite_ne g4
    exact ⟨g3, by omega, by omega⟩)) (by rw [if_neg (by omega), if_neg (by omega), if_pos rfl]) g2 (by omega))
  obtain ⟨A4, w4, h4⟩ := arr_stage (N := pk q + (1 + 3)) (ci := 1) (tag := 110 + 3) (len := 4) (j := 3) (p := pk q) (S' := SKt S (pk q) 4) h3 (by omega) (by omega) (pk_s hq) ((shp_pk hq (by omega)).trans rfl) (by omega) (fun k => ei k _ (by omega)) (pk_p hq (by omega)) (fun k a g1 g2 => SKt.up (t := 3) (b := 1004) (g1.imp id (fun ⟨g3, g4⟩ => by
    rw [ptr_pk hq (by omega)] at g4
    unfold ptrC at g4
    rw [if_neg (by omega), if_neg (by omega), if_neg (by omega), if_neg (by omega), if_pos (by omega)] at g4
    have := ite_ne g4
    exact ⟨g3, by omega, by omega⟩)) (by rw [if_neg (by omega), if_neg (by omega), if_neg (by omega), if_pos rfl]) g2 (by omega))
  obtain ⟨A5, w5, h5⟩ := arr_stage (N := pk q + (1 + 4)) (ci := 1) (tag := 110 + 8) (len := 512) (j := 4) (p := pk q) (S' := SKt S (pk q) 5) h4 (by omega) (by omega) (pk_s hq) ((shp_pk hq (by omega)).trans rfl) (by omega) (fun k => ei k _ (by omega)) (pk_p hq (by omega)) (fun k a g1 g2 => SKt.up (t := 4) (b := 1512) (g1.imp id (fun ⟨g3, g4⟩ => by
    rw [ptr_pk hq (by omega)] at g4
    unfold ptrC at g4
    rw [if_neg (by omega), if_neg (by omega), if_neg (by omega), if_neg (by omega), if_neg (by omega), if_pos (by omega)] at g4
    have := ite_ne g4
    exact ⟨g3, by omega, by omega⟩)) (by rw [if_neg (by omega), if_neg (by omega), if_neg (by omega), if_neg (by omega)]) g2 (by omega))
  obtain ⟨M1, f1, f2⟩ := loops_b (M := A5) hq hS FU FU_1000 (PR.mono (N := pk q + (1 + 4) + 1) h5 (fun k a _ h9 => by
    rcases h9 with h9 | h9 | h9 | h9 | h9 | h9 | h9
    · exact Or.inl h9
    · omega
    · exact Or.inr (Or.inl (by omega))
    · exact Or.inr (Or.inr (Or.inl (by omega)))
    · exact Or.inr (Or.inr (Or.inr (Or.inl (by omega))))
    · exact Or.inr (Or.inr (Or.inr (Or.inr (Or.inl (by omega)))))
    · exact Or.inr (Or.inr (Or.inr (Or.inr (Or.inr (by omega)))))) (fun _ _ _ h => h))
  refine ⟨M1, ?_, by
    rw [show ℓ + 4 + 10 + 3 + 4 + 512 + 36 * 4 + 3 * 10 + 8 * 3 + 5 * 4 + 13 * 512 = ℓ + 7407 by omega] at f2
    exact f2⟩
  unfold m_X1_init
  rw [oi_at]
  refine (w1 _).trans ?_
  refine (w2 _).trans ?_
  refine (w3 _).trans ?_
  refine (w4 _).trans ?_
  refine (w5 _).trans ?_
  refine (jI_gen FU (pk q) A5).trans ?_
  exact f1
end PARK2
