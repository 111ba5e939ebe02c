/-! ===== what the class's code does to the memory, in the order of its instructions; none: the machine would throw, or leave what is modelled ===== -/
def dI {β : Type} (M : Mem) (ci j : Nat) (o : Option Nat) (K : Int32 → Option β) : Option β := match o with | none => none | some a => if (mS M a).1 = ci then K (mI M (32 * ci + j) a) else none
def dF {β : Type} (M : Mem) (ci j : Nat) (o : Option Nat) (K : UInt32 → Option β) : Option β := match o with | none => none | some a => if (mS M a).1 = ci then K (mF M (32 * ci + j) a) else none
def dP {β : Type} (M : Mem) (ci j : Nat) (o : Option Nat) (K : Option Nat → Option β) : Option β := match o with | none => none | some a => if (mS M a).1 = ci then K (mP M (32 * ci + j) a) else none
def pI {β : Type} (M : Mem) (ci j : Nat) (o : Option Nat) (x : Int32) (K : Mem → Option β) : Option β := match o with | none => none | some a => if (mS M a).1 = ci then K (uI M (32 * ci + j) a x) else none
def pZ {β : Type} (M : Mem) (ci j : Nat) (o : Option Nat) (x : Int32) (K : Mem → Option β) : Option β := match o with | none => none | some a => if (mS M a).1 = ci ∧ (x = 0 ∨ x = 1) then K (uI M (32 * ci + j) a x) else none
def pF {β : Type} (M : Mem) (ci j : Nat) (o : Option Nat) (x : UInt32) (K : Mem → Option β) : Option β := match o with | none => none | some a => if (mS M a).1 = ci then K (uF M (32 * ci + j) a x) else none
def pP {β : Type} (M : Mem) (ci j : Nat) (o : Option Nat) (x : Option Nat) (K : Mem → Option β) : Option β := match o with | none => none | some a => if (mS M a).1 = ci then K (uP M (32 * ci + j) a x) else none
def aI {β : Type} (M : Mem) (t : Nat) (o : Option Nat) (i : Int32) (K : Int32 → Option β) : Option β := match o with | none => none | some a => if (mS M a).1 = t ∧ 0 ≤ i.toInt ∧ i.toInt < (mS M a).2 then K (mI M (1000 + i.toInt.toNat) a) else none
def aF {β : Type} (M : Mem) (t : Nat) (o : Option Nat) (i : Int32) (K : UInt32 → Option β) : Option β := match o with | none => none | some a => if (mS M a).1 = t ∧ 0 ≤ i.toInt ∧ i.toInt < (mS M a).2 then K (mF M (1000 + i.toInt.toNat) a) else none
def aP {β : Type} (M : Mem) (t : Nat) (o : Option Nat) (i : Int32) (K : Option Nat → Option β) : Option β := match o with | none => none | some a => if (mS M a).1 = t ∧ 0 ≤ i.toInt ∧ i.toInt < (mS M a).2 then K (mP M (1000 + i.toInt.toNat) a) else none
def sI {β : Type} (M : Mem) (t : Nat) (o : Option Nat) (i x : Int32) (K : Mem → Option β) : Option β := match o with | none => none | some a => if (mS M a).1 = t ∧ 0 ≤ i.toInt ∧ i.toInt < (mS M a).2 then K (uI M (1000 + i.toInt.toNat) a x) else none
def sF {β : Type} (M : Mem) (t : Nat) (o : Option Nat) (i : Int32) (x : UInt32) (K : Mem → Option β) : Option β := match o with | none => none | some a => if (mS M a).1 = t ∧ 0 ≤ i.toInt ∧ i.toInt < (mS M a).2 then K (uF M (1000 + i.toInt.toNat) a x) else none
def sP {β : Type} (M : Mem) (ci : Nat) (o : Option Nat) (i : Int32) (x : Option Nat) (K : Mem → Option β) : Option β := match o with | none => none | some a => if (mS M a).1 = 110 + ci ∧ 0 ≤ i.toInt ∧ i.toInt < (mS M a).2 ∧ (∃ v, x = some v ∧ (mS M v).1 = ci) then K (uP M (1000 + i.toInt.toNat) a x) else none
def aL {β : Type} (M : Mem) (t : Nat) (o : Option Nat) (K : Int32 → Option β) : Option β := match o with | none => none | some a => if (mS M a).1 = t then K (Int32.ofNat (mS M a).2) else none
def nO {β : Type} (M : Mem) (ci sl : Nat) (K : Option Nat → Mem → Option β) : Option β := if mN M < 900000 then K (some (mN M)) (nw M (ci, 0) sl) else none
def nA {β : Type} (M : Mem) (t : Nat) (n : Int32) (K : Option Nat → Mem → Option β) : Option β := if mN M < 900000 ∧ 0 ≤ n.toInt ∧ n.toInt < 100000 then K (some (mN M)) (nw M (t, n.toInt.toNat) n.toInt.toNat) else none
def rc {β : Type} (M : Mem) (ci : Nat) (o : Option Nat) (r : Option β) : Option β := match o with | none => none | some a => if (mS M a).1 = ci then r else none
def cl {β γ : Type} (o : Option (β × Mem)) (K : β → Mem → Option γ) : Option γ := match o with | none => none | some z => K z.1 z.2
def rt {β : Type} (v : β) (M : Mem) : Option (β × Mem) := some (v, M)
def rtZ (v : Int32) (M : Mem) : Option (Int32 × Mem) := if v = 0 ∨ v = 1 then some (v, M) else none
def jn {A : Type} {β : Type} (f : A) (b : A → Option β) : Option β := b f
def lp {A β : Type} (B : (A → Option β) → A → Option β) : Nat → A → Option β
  | 0, _ => none
  | n + 1, a => B (lp B n) a
/-! ===== the memory and the heap ===== -/
theorem enc_ne {κ : Cfg} {M M' : Mem} {a : Nat} (h1 : mS M' a = mS M a) (h2 : ∀ k, mI M' k a = mI M k a) (h3 : ∀ k, mF M' k a = mF M k a) (h4 : ∀ k, mP M' k a = mP M k a) : enc κ M' a = enc κ M a := by
  simp only [enc, fls, fv, h1, h2, h3, h4]
theorem vp_in_iff2 {i : Int32} {n : Nat} (h0 : 0 ≤ i.toInt) (h : i.toInt < n) : ¬ (i < 0 ∨ n ≤ i.toNatClampNeg) := by
  rintro (h2 | h2)
  · rw [Int32.lt_iff_toInt_lt] at h2
    simp at h2; omega
  · have : i.toNatClampNeg = i.toInt.toNat := rfl
    omega
theorem enc_obj {κ : Cfg} {M : Mem} {a ci : Nat} (h : (mS M a).1 = ci) (hc : ci < 12) : enc κ M a = .inr (ci, fls κ M ci a) := by
  unfold enc; rw [if_pos (by omega), h]
theorem enc_arrI {κ : Cfg} {M : Mem} {a t : Nat} (h : (mS M a).1 = t) (h1 : t = 100 ∨ t = 101) : enc κ M a = .inl (kA κ t, (mS M a).2, .inl (fun i => mI M (1000 + i) a)) := by
  unfold enc; rw [if_neg (by omega), if_pos (by omega), h]
theorem enc_arrF {κ : Cfg} {M : Mem} {a t : Nat} (h : (mS M a).1 = t) (h1 : t = 102) : enc κ M a = .inl (kA κ t, (mS M a).2, .inr (.inr (.inl (fun i => mF M (1000 + i) a)))) := by
  unfold enc; rw [if_neg (by omega), if_neg (by omega), if_pos (by omega), h]
theorem enc_arrP {κ : Cfg} {M : Mem} {a t : Nat} (h : (mS M a).1 = t) (h1 : 110 ≤ t) : enc κ M a = .inl (kA κ t, (mS M a).2, .inr (.inr (.inr (.inr (fun i => (mP M (1000 + i) a).map (kad κ)))))) := by
  unfold enc; rw [if_neg (by omega), if_neg (by omega), if_neg (by omega), h]
/-- a write at one cell: the rest stays -/
theorem HR.write {κ : Cfg} {M M' : Mem} {H H' : Heap} {a : Nat} (hH : HR κ M H) (hs : (mS M a).1 < 900) (hn : mN M' = mN M) (hsh : ∀ q, mS M' q = mS M q) (hI : ∀ k q, q ≠ a → mI M' k q = mI M k q) (hF : ∀ k q, q ≠ a → mF M' k q = mF M k q) (hP : ∀ k q, q ≠ a → mP M' k q = mP M k q)
    (e1 : va_at (kD κ) vwCl (kB κ + a, enc κ M' a) H') (e2 : H'.size = H.size) (e3 : ∀ q, q ≠ kB κ + a → H'[q]? = H[q]?) : HR κ M' H' := by
  refine ⟨by rw [e2, hn]; exact hH.1, by rw [hn]; exact hH.2.1, fun q hq => ?_, fun q hq => by rw [e3 q (by omega)]; exact hH.2.2.2 q hq⟩
  rw [hsh] at hq
  rw [hn]
  refine ⟨(hH.2.2.1 q hq).1, ?_⟩
  by_cases hqa : q = a
  · subst hqa; exact e1
  · rw [enc_ne (hsh q) (fun k => hI k q hqa) (fun k => hF k q hqa) (fun k => hP k q hqa)]
    exact (hH.2.2.1 q hq).2.kept (e3 _ (by show kB κ + q ≠ kB κ + a; omega))
/-- a new cell -/
theorem HR.push {κ : Cfg} {M : Mem} {H H' : Heap} {sh : Nat × Nat} {sl : Nat} (hH : HR κ M H) (hlt : mN M < 900000) (hs : sh.1 < 900)
    (e1 : va_at (kD κ) vwCl (kB κ + mN M, enc κ (nw M sh sl) (mN M)) H') (e2 : H'.size = H.size + 1) (e3 : ∀ q, q < H.size → H'[q]? = H[q]?) : HR κ (nw M sh sl) H' := by
  have hN : mN (nw M sh sl) = mN M + 1 := rfl
  refine ⟨by rw [e2, hH.1, hN]; omega, by rw [hN]; omega, fun q hq => ?_, fun q hq => by rw [e3 q (by rw [hH.1]; omega)]; exact hH.2.2.2 q hq⟩
  by_cases hqa : q = mN M
  · subst hqa
    exact ⟨by rw [hN]; omega, e1⟩
  · have es : mS (nw M sh sl) q = mS M q := if_neg hqa
    rw [es] at hq
    have h1 := hH.2.2.1 q hq
    refine ⟨by rw [hN]; omega, ?_⟩
    rw [enc_ne es (fun k => if_neg hqa) (fun k => if_neg hqa) (fun k => if_neg hqa)]
    exact h1.2.kept (e3 _ (by show kB κ + q < _; rw [hH.1]; omega))
/-- a class's facts for its fields' rows -/
def CF (ci : Nat) (C : String) (T : u_T) (N : Nat) (ty : Nat → FieldType) : Prop :=
  ci < 12 ∧ vwCl[ci]? = some (C, T, N) ∧ (∀ w ∈ u_ws C T N, w ∈ WS) ∧ (∀ k, k < N → parseFieldDescriptor (T k).2.2.1 = some (ty k)) ∧ (∀ a, a < N → ∀ b, b < N → a ≠ b → (T a).2.1 ≠ (T b).2.1) ∧ (kd ci).length = N
theorem fls_set {κ : Cfg} {M M' : Mem} {ci a j : Nat} {v : Value} (hj : j < (kd ci).length) (hv : fv κ M' ((kd ci).getD j 0) (32 * ci + j) a = v) (ho : ∀ i, i ≠ j → i < (kd ci).length → fv κ M' ((kd ci).getD i 0) (32 * ci + i) a = fv κ M ((kd ci).getD i 0) (32 * ci + i) a) : fls κ M' ci a = (fls κ M ci a).set j v := by
  apply List.ext_getElem?
  intro i
  by_cases hi : i < (kd ci).length
  · rw [List.getElem?_set]
    by_cases hij : j = i
    · subst hij
      rw [if_pos rfl, if_pos (by rw [fls_len]; exact hi)]
      simp only [fls, List.getElem?_map, List.getElem?_range hi, Option.map_some, hv]
    · rw [if_neg hij]
      simp only [fls, List.getElem?_map, List.getElem?_range hi, Option.map_some, ho i (fun h => hij h.symm) hi]
  · rw [List.getElem?_eq_none (by rw [fls_len]; omega), List.getElem?_eq_none (by rw [List.length_set, fls_len]; omega)]
