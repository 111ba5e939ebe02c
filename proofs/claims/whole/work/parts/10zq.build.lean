/-! ===== the constructors ===== -/
/-- the first numbers of the class's objects -/
def iniC (k o : Nat) : Int32 :=
  if o < 6 then 0 else if o < 38 then (if (o - 6) % 8 = 0 then (if k = 161 then 1 else if k = 165 then 2000 else 0) else if (o - 6) % 8 = 1 then 0 else if k = 0 then nI ((o - 6) % 8 - 2) else if (o - 6) % 8 = 2 ∧ k = 2 then 100 else if (o - 6) % 8 = 2 ∧ k = 3 then 60 else 0)
  else if o < 54 then 0 else if o < 58 then (if k = 96 then 10 else 0) else 0
def ini (k a : Nat) : Int32 :=
  if a = 0 then 0 else if a < 1083 then iniC k (a - 1) else if a < 2165 then iniC k (a - 1083)
  else if a < 2168 then 0 else if a < 2176 then iniC k (a - 2162) else 0
def noS : Nat → Nat → Prop := fun _ _ => False
/-- built up to N: S: references still to come, SI: numbers still to come -/
def PR (N ℓ : Nat) (S SI : Nat → Nat → Prop) (M : Mem) : Prop := mN M = N ∧ mL M = ℓ ∧ ∀ a, a < N → mS M a = shp a ∧ ∀ k, mF M k a = 0 ∧ (¬ S k a → mP M k a = ptr k a) ∧ (¬ SI k a → mI M k a = ini k a)
def pP' (S : Nat → Nat → Prop) (N k a : Nat) : Prop := S k a ∨ (a = N ∧ ptr k N ≠ none)
def pI' (S : Nat → Nat → Prop) (N k a : Nat) : Prop := S k a ∨ (a = N ∧ ini k N ≠ 0)
section BUILD
variable {N ℓ : Nat} {S SI S' SI' : Nat → Nat → Prop} {M : Mem}
theorem PR.mono (h : PR N ℓ S SI M) (h1 : ∀ k a, a < N → S k a → S' k a) (h2 : ∀ k a, a < N → SI k a → SI' k a) : PR N ℓ S' SI' M := ⟨h.1, h.2.1, fun a ha => ⟨(h.2.2 a ha).1, fun k => ⟨((h.2.2 a ha).2 k).1, fun h9 => ((h.2.2 a ha).2 k).2.1 (fun h8 => h9 (h1 k a ha h8)), fun h9 => ((h.2.2 a ha).2 k).2.2 (fun h8 => h9 (h2 k a ha h8))⟩⟩⟩
theorem PR.sh (h : PR N ℓ S SI M) {a : Nat} (ha : a < N) : mS M a = shp a := (h.2.2 a ha).1
theorem PR.pt (h : PR N ℓ S SI M) {a k : Nat} (ha : a < N) (hs : ¬ S k a) : mP M k a = ptr k a := ((h.2.2 a ha).2 k).2.1 hs
theorem PR.alloc (h : PR N ℓ S SI M) {sh : Nat × Nat} {sl : Nat} (hs : sh = shp N) : PR (N + 1) (ℓ + sl) (pP' S N) (pI' SI N) (nw M sh sl) := by
  have hN := h.1
  refine ⟨by rw [mN_nw, hN], by rw [mL_nw, h.2.1], fun a ha => ?_⟩
  by_cases hn : a = N
  · rw [hn]
    refine ⟨by rw [mS_nw, if_pos hN.symm, hs], fun k => ⟨by rw [mF_nw, if_pos hN.symm], fun h9 => ?_, fun h9 => ?_⟩⟩
    · rw [mP_nw, if_pos hN.symm]
      exact (Classical.byContradiction (fun h8 => h9 (Or.inr ⟨rfl, fun h7 => h8 h7.symm⟩)))
    · rw [mI_nw, if_pos hN.symm]
      exact (Classical.byContradiction (fun h8 => h9 (Or.inr ⟨rfl, fun h7 => h8 h7.symm⟩)))
  · obtain ⟨h1, h2⟩ := h.2.2 a (by omega)
    refine ⟨by rw [mS_nw, if_neg (by rw [hN]; exact hn)]; exact h1, fun k => ⟨by rw [mF_nw, if_neg (by rw [hN]; exact hn)]; exact (h2 k).1, fun h9 => ?_, fun h9 => ?_⟩⟩
    · rw [mP_nw, if_neg (by rw [hN]; exact hn)]; exact (h2 k).2.1 (fun h8 => h9 (Or.inl h8))
    · rw [mI_nw, if_neg (by rw [hN]; exact hn)]; exact (h2 k).2.2 (fun h8 => h9 (Or.inl h8))
theorem PR.setP (h : PR N ℓ S SI M) {k0 a0 : Nat} {x : Option Nat} (hx : ptr k0 a0 = x) (hS' : ∀ k a, a < N → S k a → ¬ (k = k0 ∧ a = a0) → S' k a) : PR N ℓ S' SI (uP M k0 a0 x) := by
  refine ⟨h.1, h.2.1, fun a ha => ⟨(h.2.2 a ha).1, fun k => ⟨((h.2.2 a ha).2 k).1, fun h9 => ?_, ((h.2.2 a ha).2 k).2.2⟩⟩⟩
  rw [mP_uP]
  by_cases h1 : k = k0 ∧ a = a0
  · rw [if_pos h1, h1.1, h1.2, hx]
  · rw [if_neg h1]; exact ((h.2.2 a ha).2 k).2.1 (fun h8 => h9 (hS' k a ha h8 h1))
theorem PR.setI (h : PR N ℓ S SI M) {k0 a0 : Nat} {x : Int32} (hx : ini k0 a0 = x) (hS' : ∀ k a, a < N → SI k a → ¬ (k = k0 ∧ a = a0) → SI' k a) : PR N ℓ S SI' (uI M k0 a0 x) := by
  refine ⟨h.1, h.2.1, fun a ha => ⟨(h.2.2 a ha).1, fun k => ⟨((h.2.2 a ha).2 k).1, ((h.2.2 a ha).2 k).2.1, fun h9 => ?_⟩⟩⟩
  rw [mI_uI]
  by_cases h1 : k = k0 ∧ a = a0
  · rw [if_pos h1, h1.1, h1.2, hx]
  · rw [if_neg h1]; exact ((h.2.2 a ha).2 k).2.2 (fun h8 => h9 (hS' k a ha h8 h1))
theorem oi_at {β : Type} {a : Nat} {r : Option β} : oi (some a) r = r := rfl
theorem b_nO (h : PR N ℓ S SI M) (hN : N < 800000) {β : Type} {ci sl : Nat} {K : Option Nat → Mem → Option β} : nO M ci sl K = K (some N) (nw M (ci, 0) sl) := by
  rw [nO_at (by rw [h.1]; omega), h.1]
theorem b_nA (h : PR N ℓ S SI M) (hN : N < 800000) {β : Type} {t n : Nat} (hn : n < 100000) {K : Option Nat → Mem → Option β} : nA M t (nI n) K = K (some N) (nw M (t, n) n) := by
  rw [nA_at (by rw [h.1]; omega) hn, h.1]
/-- a folder or a ticket: the object at A, its array at A + 1 -/
theorem build_folder {A : Nat} (h : PR (A + 1) ℓ (pP' S A) (pI' SI A) M) (hA : A < 100000) (s1 : shp A = (2, 0)) (s2 : shp (A + 1) = (100, 5)) (p1 : ∀ k, ptr k A = if k = 64 then some (A + 1) else none) (p2 : ∀ k, ptr k (A + 1) = none) (i1 : ∀ k, ini k A = 0) (i2 : ∀ k, ini k (A + 1) = 0) : ∃ M1, m_X2_init M (some A) = some ((), M1) ∧ PR (A + 2) (ℓ + 5) S SI M1 := by
  have h1 := h.alloc (sh := (100, 5)) (sl := 5) s2.symm
  refine ⟨uP (nw M (100, 5) 5) 64 A (some (A + 1)), ?_, ?_⟩
  · unfold m_X2_init
    rw [oi_at, show nA M 100 5 _ = _ from b_nA (n := 5) h (by omega) (by omega), pP_at (by rw [h1.sh (by omega), s1])]; rfl
  · refine (h1.setP (S' := S) (by rw [p1, if_pos rfl]) (fun k a ha h9 h8 => ?_)).mono (fun _ _ _ h => h) (fun k a ha h9 => ?_)
    · rcases h9 with (h9 | ⟨rfl, h9⟩) | ⟨rfl, h9⟩
      · exact h9
      · exfalso; rw [p1] at h9
        by_cases hk : k = 64
        · exact h8 ⟨hk, rfl⟩
        · rw [if_neg hk] at h9; exact h9 rfl
      · exact absurd (p2 k) h9
    · rcases h9 with (h9 | ⟨rfl, h9⟩) | ⟨rfl, h9⟩
      · exact h9
      · exact absurd (i1 k) h9
      · exact absurd (i2 k) h9
theorem build_ticket {A : Nat} (h : PR (A + 1) ℓ (pP' S A) (pI' SI A) M) (hA : A < 100000) (s1 : shp A = (8, 0)) (s2 : shp (A + 1) = (100, 4)) (p1 : ∀ k, ptr k A = if k = 256 then some (A + 1) else none) (p2 : ∀ k, ptr k (A + 1) = none) (i1 : ∀ k, ini k A = 0) (i2 : ∀ k, ini k (A + 1) = 0) : ∃ M1, m_X8_init M (some A) = some ((), M1) ∧ PR (A + 2) (ℓ + 4) S SI M1 := by
  have h1 := h.alloc (sh := (100, 4)) (sl := 4) s2.symm
  refine ⟨uP (nw M (100, 4) 4) 256 A (some (A + 1)), ?_, ?_⟩
  · unfold m_X8_init
    rw [oi_at, show nA M 100 4 _ = _ from b_nA (n := 4) h (by omega) (by omega), pP_at (by rw [h1.sh (by omega), s1])]; rfl
  · refine (h1.setP (S' := S) (by rw [p1, if_pos rfl]) (fun k a ha h9 h8 => ?_)).mono (fun _ _ _ h => h) (fun k a ha h9 => ?_)
    · rcases h9 with (h9 | ⟨rfl, h9⟩) | ⟨rfl, h9⟩
      · exact h9
      · exfalso; rw [p1] at h9
        by_cases hk : k = 256
        · exact h8 ⟨hk, rfl⟩
        · rw [if_neg hk] at h9; exact h9 rfl
      · exact absurd (p2 k) h9
    · rcases h9 with (h9 | ⟨rfl, h9⟩) | ⟨rfl, h9⟩
      · exact h9
      · exact absurd (i1 k) h9
      · exact absurd (i2 k) h9
theorem build_level {A : Nat} (h : PR (A + 1) ℓ (pP' S A) (pI' SI A) M) (s1 : shp A = (3, 0)) (p1 : ∀ k, ptr k A = none) (i1 : ∀ k, ini k A = if k = 96 then 10 else 0) : ∃ M1, m_X3_init M (some A) = some ((), M1) ∧ PR (A + 1) ℓ S SI M1 := by
  refine ⟨uI M 96 A 10, ?_, ?_⟩
  · unfold m_X3_init
    rw [oi_at, pI_at (by rw [h.sh (by omega), s1])]; rfl
  · refine (h.setI (SI' := SI) (by rw [i1, if_pos rfl]) (fun k a ha h9 h8 => ?_)).mono (fun k a ha h9 => ?_) (fun _ _ _ h => h)
    · rcases h9 with h9 | ⟨rfl, h9⟩
      · exact h9
      · exfalso; rw [i1] at h9
        by_cases hk : k = 96
        · exact h8 ⟨hk, rfl⟩
        · rw [if_neg hk] at h9; exact h9 rfl
    · rcases h9 with h9 | ⟨rfl, h9⟩
      · exact h9
      · exact absurd (p1 k) h9
theorem build_voucher {A : Nat} (h : PR (A + 1) ℓ (pP' S A) (pI' SI A) M) (p1 : ∀ k, ptr k A = none) (i1 : ∀ k, ini k A = 0) : ∃ M1, m_X9_init M (some A) = some ((), M1) ∧ PR (A + 1) ℓ S SI M1 := by
  refine ⟨M, rfl, h.mono (fun k a ha h9 => ?_) (fun k a ha h9 => ?_)⟩
  · rcases h9 with h9 | ⟨rfl, h9⟩
    · exact h9
    · exact absurd (p1 k) h9
  · rcases h9 with h9 | ⟨rfl, h9⟩
    · exact h9
    · exact absurd (i1 k) h9
/-- a plan at A is what the tables say -/
def PlanAt (A : Nat) : Prop := shp A = (5, 0) ∧ shp (A + 1) = (110, 6) ∧ (∀ b, b < 6 → shp (A + 2 + b) = (0, 0)) ∧ (∀ k, ptr k A = if k = 160 then some (A + 1) else none) ∧ (∀ k, ptr k (A + 1) = if 1000 ≤ k ∧ k < 1006 then some (A + 2 + (k - 1000)) else none) ∧ (∀ b k, b < 6 → ptr k (A + 2 + b) = none) ∧ (∀ k, ini k A = if k = 161 then 1 else if k = 165 then 2000 else 0) ∧ (∀ k, ini k (A + 1) = 0) ∧ ∀ b k, b < 6 → ini k (A + 2 + b) = if k = 0 then nI b else if b = 0 ∧ k = 2 then 100 else if b = 0 ∧ k = 3 then 60 else 0
theorem reset_b {A : Nat} (hP : PlanAt A) (h : PR (A + 8) ℓ S SI' M) (hS : ∀ k a, A ≤ a → ¬ S k a) (hSI : ∀ k a, a < A + 8 → SI' k a → SI k a ∨ (a = A ∧ (k = 161 ∨ k = 165)) ∨ (a = A + 2 ∧ (k = 2 ∨ k = 3))) : ∃ M1, m_X5_reset M (some A) = some ((), M1) ∧ PR (A + 8) ℓ S SI M1 := by
  obtain ⟨s1, s2, s3, p1, p2, p3, i1, i2, i3⟩ := hP
  have hA : mS M A = (5, 0) := (h.sh (by omega)).trans s1
  have hB : mS M (A + 1) = (110, 6) := (h.sh (by omega)).trans s2
  have hC : mS M (A + 2) = (0, 0) := (h.sh (by omega)).trans (s3 0 (by omega))
  have q1 : mP M 160 A = some (A + 1) := (h.pt (by omega) (hS _ _ (by omega))).trans (by rw [p1, if_pos rfl])
  have q2 : mP M 1000 (A + 1) = some (A + 2) := (h.pt (by omega) (hS _ _ (by omega))).trans (by rw [p2, if_pos (by omega)])
  have j3 := fun k => i3 0 k (by omega)
  have h1 : PR (A + 8) ℓ S SI' (uI M 162 A 0) := h.setI (by rw [i1, if_neg (by omega), if_neg (by omega)]) (fun k a _ h _ => h)
  have h2 : PR (A + 8) ℓ S SI' (uI (uI M 162 A 0) 163 A 0) := h1.setI (by rw [i1, if_neg (by omega), if_neg (by omega)]) (fun k a _ h _ => h)
  have h3 : PR (A + 8) ℓ S SI' (uI (uI (uI M 162 A 0) 163 A 0) 164 A 0) := h2.setI (by rw [i1, if_neg (by omega), if_neg (by omega)]) (fun k a _ h _ => h)
  obtain ⟨D, hD⟩ : ∃ D, D = uI (uI (uI (uI M 162 A 0) 163 A 0) 164 A 0) 165 A 2000 := ⟨_, rfl⟩
  have h4 : PR (A + 8) ℓ S (fun k a => SI' k a ∧ ¬ (k = 165 ∧ a = A)) D := by
    rw [hD]; exact h3.setI (by rw [i1, if_neg (by omega), if_pos rfl]) (fun k a _ h8 h9 => ⟨h8, h9⟩)
  obtain ⟨E, hE⟩ : ∃ E, E = uI (uI (uI D 1 (A + 2) 0) 2 (A + 2) 100) 3 (A + 2) 60 := ⟨_, rfl⟩
  have h5 : PR (A + 8) ℓ S (fun k a => SI' k a ∧ ¬ (k = 165 ∧ a = A)) (uI D 1 (A + 2) 0) := h4.setI (by rw [show A + 2 = A + 2 + 0 from rfl, j3, if_neg (by omega), if_neg (by omega), if_neg (by omega)]) (fun k a _ h _ => h)
  have h6 : PR (A + 8) ℓ S (fun k a => (SI' k a ∧ ¬ (k = 165 ∧ a = A)) ∧ ¬ (k = 2 ∧ a = A + 2)) (uI (uI D 1 (A + 2) 0) 2 (A + 2) 100) := h5.setI (by rw [show A + 2 = A + 2 + 0 from rfl, j3, if_neg (by omega), if_pos ⟨rfl, rfl⟩]) (fun k a _ h8 h9 => ⟨h8, h9⟩)
  have h7 : PR (A + 8) ℓ S (fun k a => ((SI' k a ∧ ¬ (k = 165 ∧ a = A)) ∧ ¬ (k = 2 ∧ a = A + 2)) ∧ ¬ (k = 3 ∧ a = A + 2)) E := by
    rw [hE]; exact h6.setI (by rw [show A + 2 = A + 2 + 0 from rfl, j3, if_neg (by omega), if_neg (by omega), if_pos ⟨rfl, rfl⟩]) (fun k a _ h8 h9 => ⟨h8, h9⟩)
  have h8 : PR (A + 8) ℓ S SI (uI E 161 A 1) := h7.setI (by rw [i1, if_pos rfl]) (fun k a ha g1 g2 => by
    obtain ⟨⟨⟨g3, g4⟩, g5⟩, g6⟩ := g1
    rcases hSI k a ha g3 with g7 | ⟨rfl, rfl | rfl⟩ | ⟨rfl, rfl | rfl⟩
    · exact g7
    · exact absurd ⟨rfl, rfl⟩ g2
    · exact absurd ⟨rfl, rfl⟩ g4
    · exact absurd ⟨rfl, rfl⟩ g5
    · exact absurd ⟨rfl, rfl⟩ g6)
  refine ⟨uI E 161 A 1, ?_, h8⟩
  have hDA : mS D A = (5, 0) := by rw [hD]; exact hA
  have hDB : mS D (A + 1) = (110, 6) := by rw [hD]; exact hB
  have hDC : mS D (A + 2) = (0, 0) := by rw [hD]; exact hC
  have hEA : mS E A = (5, 0) := by rw [hE]; exact hDA
  have hD1 : mP D 160 A = some (A + 1) := by rw [hD]; exact q1
  have hD2 : mP D (1000 + 0) (A + 1) = some (A + 2) := by rw [hD]; exact q2
  unfold m_X5_reset
  rw [pI_at (by rw [hA]), pI_at (by rw [mS_uI, hA]), pI_at (by rw [mS_uI, mS_uI, hA]), pI_at (by rw [mS_uI, mS_uI, mS_uI, hA])]
  show dP (uI (uI (uI (uI M 162 A 0) 163 A 0) 164 A 0) 165 A 2000) 5 0 (some A) (fun (q5 : Option Nat) => aP (uI (uI (uI (uI M 162 A 0) 163 A 0) 164 A 0) 165 A 2000) 110 q5 0 (fun (q6 : Option Nat) => rc (uI (uI (uI (uI M 162 A 0) 163 A 0) 164 A 0) 165 A 2000) 0 q6 (cl (m_X0_tell (uI (uI (uI (uI M 162 A 0) 163 A 0) 164 A 0) 165 A 2000) q6 0 100 60) (fun (_u : Unit) (M7 : Mem) => pI M7 5 1 (some A) 1 (fun (M8 : Mem) => rt () M8))))) = _
  rw [← hD, dP_at (by rw [hDA])]
  show aP D 110 (mP D 160 A) 0 _ = _
  rw [hD1, show aP D 110 (some (A + 1)) 0 _ = _ from aP_at (i := 0) hDB (by omega) (by omega), hD2, rc_at (by rw [hDC])]
  have htell : m_X0_tell D (some (A + 2)) 0 100 60 = some ((), E) := by
    unfold m_X0_tell
    rw [pI_at (by rw [hDC]), pI_at (by rw [mS_uI, hDC]), pI_at (by rw [mS_uI, mS_uI, hDC]), hE]; rfl
  rw [htell, cl_some, pI_at (by rw [hEA])]; rfl
/-- the six bands -/
theorem bands_b {A : Nat} (hP : PlanAt A) (hA : A < 100000) (hS : ∀ k a, A ≤ a → ¬ S k a) : ∀ (k b fu ℓ : Nat) (M : Mem), b + k = 6 → k < fu → PR (A + 2 + b) ℓ (fun k a => S k a ∨ (a = A + 1 ∧ 1000 + b ≤ k ∧ k < 1006)) (fun k a => SI k a ∨ (a = A ∧ (k = 161 ∨ k = 165)) ∨ (0 < b ∧ a = A + 2 ∧ (k = 2 ∨ k = 3))) M → ∃ M1, lp (b_X5_init_15 (some A)) fu (nI b, M) = some ((), M1) ∧ PR (A + 8) (ℓ + 4 * k) S SI M1 := by
  obtain ⟨s1, s2, s3, p1, p2, p3, i1, i2, i3⟩ := id hP
  intro k
  induction k with
  | zero =>
    intro b fu ℓ M hb hfu h
    obtain ⟨fu, rfl⟩ : ∃ z, fu = z + 1 := ⟨fu - 1, by omega⟩
    have hb6 : b = 6 := by omega
    subst hb6
    have h' : PR (A + 8) ℓ S (fun k a => SI k a ∨ (a = A ∧ (k = 161 ∨ k = 165)) ∨ (a = A + 2 ∧ (k = 2 ∨ k = 3))) M := PR.mono (N := A + 8) h (fun k a _ h9 => by
      rcases h9 with h9 | h9
      · exact h9
      · omega) (fun k a _ h9 => by
      rcases h9 with h9 | h9 | h9
      · exact Or.inl h9
      · exact Or.inr (Or.inl h9)
      · exact Or.inr (Or.inr h9.2))
    obtain ⟨M1, f1, f2⟩ := reset_b (SI := SI) hP h' hS (fun k a _ h9 => h9)
    refine ⟨M1, ?_, f2⟩
    rw [lp_succ, b_X5_init_15]
    refine (if_pos (show (6 : Int32) ≤ nI 6 by decide)).trans ?_
    dsimp only
    rw [rc_at (by rw [h'.sh (by omega), s1]), f1, cl_some]; rfl
  | succ k ih =>
    intro b fu ℓ M hb hfu h
    obtain ⟨fu, rfl⟩ : ∃ z, fu = z + 1 := ⟨fu - 1, by omega⟩
    have hb6 : b < 6 := by omega
    have hsA : mS M A = (5, 0) := (h.sh (by omega)).trans s1
    have hpA : mP M 160 A = some (A + 1) := (h.pt (by omega) (fun h9 => by
      rcases h9 with h9 | h9
      · exact hS _ _ (by omega) h9
      · omega)).trans (by rw [p1, if_pos rfl])
    have h1 := h.alloc (sh := (0, 0)) (sl := 4) (s3 b hb6).symm
    obtain ⟨B, hB⟩ : ∃ B, B = nw M (0, 0) 4 := ⟨_, rfl⟩
    rw [← hB] at h1
    have hsN : mS B (A + 2 + b) = (0, 0) := (h1.sh (by omega)).trans (s3 b hb6)
    have h2 := h1.setI (SI' := fun k a => SI k a ∨ (a = A ∧ (k = 161 ∨ k = 165)) ∨ (0 < b + 1 ∧ a = A + 2 ∧ (k = 2 ∨ k = 3))) (k0 := 0) (a0 := A + 2 + b) (x := nI b) (by rw [i3 b 0 hb6, if_pos rfl]) (fun k a ha g1 g2 => by
      rcases g1 with (g1 | g1 | g1) | ⟨rfl, g1⟩
      · exact Or.inl g1
      · exact Or.inr (Or.inl g1)
      · exact Or.inr (Or.inr ⟨by omega, g1.2⟩)
      · rw [i3 b k hb6] at g1
        by_cases k0 : k = 0
        · exact absurd ⟨k0, rfl⟩ g2
        · rw [if_neg k0] at g1
          by_cases k2 : b = 0 ∧ k = 2
          · exact Or.inr (Or.inr ⟨by omega, by omega, Or.inl k2.2⟩)
          · rw [if_neg k2] at g1
            by_cases k3 : b = 0 ∧ k = 3
            · exact Or.inr (Or.inr ⟨by omega, by omega, Or.inr k3.2⟩)
            · rw [if_neg k3] at g1; exact absurd rfl g1)
    obtain ⟨C, hC⟩ : ∃ C, C = uI B 0 (A + 2 + b) (nI b) := ⟨_, rfl⟩
    rw [← hC] at h2
    have hsC1 : mS C (A + 1) = (110, 6) := (h2.sh (by omega)).trans s2
    have hsCN : mS C (A + 2 + b) = (0, 0) := (h2.sh (by omega)).trans (s3 b hb6)
    have h3 := h2.setP (S' := fun k a => S k a ∨ (a = A + 1 ∧ 1000 + (b + 1) ≤ k ∧ k < 1006)) (k0 := 1000 + b) (a0 := A + 1) (x := some (A + 2 + b)) (by rw [p2, if_pos (by omega)]; exact congrArg some (by omega)) (fun k a ha g1 g2 => by
      rcases g1 with (g1 | g1) | ⟨rfl, g1⟩
      · exact Or.inl g1
      · exact Or.inr (by omega)
      · exact absurd (p3 b k hb6) g1)
    obtain ⟨M1, f1, f2⟩ := ih (b + 1) fu (ℓ + 4) _ (by omega) (by omega) h3
    rw [show ℓ + 4 + 4 * k = ℓ + 4 * (k + 1) by omega] at f2
    refine ⟨M1, ?_, f2⟩
    rw [lp_succ, b_X5_init_15]
    refine (if_neg (fun h9 : (6 : Int32) ≤ nI b => absurd ((i_le (a := 6) (by omega) (by omega)).mp h9) (by omega))).trans ?_
    dsimp only
    rw [dP_at (by rw [hsA])]
    show nO M 0 4 (fun q8 M9 => rc M9 0 q8 (cl (m_X0_init M9 q8 (nI b)) (fun _u M10 => sP M10 0 (mP M 160 A) (nI b) q8 (fun M11 => lp (b_X5_init_15 (some A)) fu (nI b + 1, M11))))) = _
    rw [hpA, b_nO h (by omega), ← hB, rc_at (by rw [hsN])]
    have hini : m_X0_init B (some (A + 2 + b)) (nI b) = some ((), C) := by
      unfold m_X0_init
      rw [oi_at, pI_at (by rw [hsN]), hC]; rfl
    rw [hini, cl_some, sP_at (by rw [hsC1]) hb6 (by omega) (by rw [hsCN]), nI_1]
    exact f1
theorem build_plan {A : Nat} (hP : PlanAt A) (h : PR (A + 1) ℓ (pP' S A) (pI' SI A) M) (hA : A < 100000) (hS : ∀ k a, A ≤ a → ¬ S k a) : ∃ M1, m_X5_init M (some A) = some ((), M1) ∧ PR (A + 8) (ℓ + 30) S SI M1 := by
  obtain ⟨s1, s2, s3, p1, p2, p3, i1, i2, i3⟩ := id hP
  have h1 := h.alloc (sh := (110, 6)) (sl := 6) s2.symm
  obtain ⟨B, hB⟩ : ∃ B, B = uP (nw M (110, 6) 6) 160 A (some (A + 1)) := ⟨_, rfl⟩
  have h2 : PR (A + 2 + 0) (ℓ + 6) (fun k a => S k a ∨ (a = A + 1 ∧ 1000 + 0 ≤ k ∧ k < 1006)) (fun k a => SI k a ∨ (a = A ∧ (k = 161 ∨ k = 165)) ∨ (0 < 0 ∧ a = A + 2 ∧ (k = 2 ∨ k = 3))) B := by
    rw [hB]
    refine PR.mono (N := A + 2) (h1.setP (S' := fun k a => S k a ∨ (a = A + 1 ∧ 1000 + 0 ≤ k ∧ k < 1006)) (by rw [p1, if_pos rfl]) (fun k a ha h9 h8 => ?_)) (fun _ _ _ h => h) (fun k a ha h9 => ?_)
    · rcases h9 with (h9 | ⟨rfl, h9⟩) | ⟨rfl, h9⟩
      · exact Or.inl h9
      · exfalso; rw [p1] at h9
        by_cases hk : k = 160
        · exact h8 ⟨hk, rfl⟩
        · rw [if_neg hk] at h9; exact h9 rfl
      · rw [p2] at h9
        by_cases hk : 1000 ≤ k ∧ k < 1006
        · exact Or.inr ⟨rfl, by omega, hk.2⟩
        · rw [if_neg hk] at h9; exact absurd rfl h9
    · rcases h9 with (h9 | ⟨rfl, h9⟩) | ⟨rfl, h9⟩
      · exact Or.inl h9
      · rw [i1] at h9
        by_cases k1 : k = 161
        · exact Or.inr (Or.inl ⟨rfl, Or.inl k1⟩)
        · rw [if_neg k1] at h9
          by_cases k5 : k = 165
          · exact Or.inr (Or.inl ⟨rfl, Or.inr k5⟩)
          · rw [if_neg k5] at h9; exact absurd rfl h9
      · exact absurd (i2 k) h9
  obtain ⟨M1, f1, f2⟩ := bands_b hP hA hS 6 0 FU (ℓ + 6) B (by omega) (Nat.lt_trans (by omega) FU_1000) h2
  refine ⟨M1, ?_, f2⟩
  unfold m_X5_init
  rw [oi_at, show nA M (110 + 0) 6 _ = _ from b_nA (n := 6) h (by omega) (by omega), pP_at (by rw [h1.sh (by omega), s1])]
  show lp (b_X5_init_15 (some A)) FU (nI 0, uP (nw M (110, 6) 6) 160 A (some (A + 1))) = _
  rw [← hB]; exact f1
end BUILD
