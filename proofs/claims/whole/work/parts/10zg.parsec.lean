/-! ===== readPlan: the class's parser ===== -/
def Cfr (M0 M : Mem) : Prop := M.2 = M0.2 ∧ ∀ k a, ¬ (a = 2165 ∧ 196 ≤ k ∧ k ≤ 200) → a ≠ 2167 → a ≠ 2168 → ¬ (2170 ≤ a ∧ a < 2176 ∧ k ≠ 0) → mI M k a = mI M0 k a
theorem Cfr.trans {M0 M1 M2 : Mem} (h1 : Cfr M0 M1) (h2 : Cfr M1 M2) : Cfr M0 M2 := ⟨h2.1.trans h1.1, fun k a a1 a2 a3 a4 => (h2.2 k a a1 a2 a3 a4).trans (h1.2 k a a1 a2 a3 a4)⟩
theorem Cfr.set {M : Mem} {k a : Nat} {x : Int32} (h : (a = 2165 ∧ 196 ≤ k ∧ k ≤ 200) ∨ a = 2167 ∨ a = 2168 ∨ (2170 ≤ a ∧ a < 2176 ∧ k ≠ 0)) : Cfr M (uI M k a x) := ⟨rfl, fun k' a' a1 a2 a3 a4 => mI_ne (fun h9 => by obtain ⟨rfl, rfl⟩ := h9; omega)⟩
theorem Cfr.Lay {M0 M : Mem} (h : Cfr M0 M) (hL : Lay M0) : Lay M := eLay h.1 hL
theorem Cfr.TX {T : Nat → Nat} {L : Nat} {M0 M : Mem} (h : Cfr M0 M) (hT : TX T L M0) : TX T L M := by
  obtain ⟨t1, t2, t3, t4⟩ := hT
  refine ⟨t1, (h.2 _ _ (by omega) (by omega) (by omega) (by omega)).trans t2, (h.2 _ _ (by omega) (by omega) (by omega) (by omega)).trans t3, fun j hj => ?_⟩
  obtain ⟨c1, c2, c3⟩ := t4 j hj
  exact ⟨c1, (h.2 _ _ (by omega) (by omega) (by omega) (by omega)).trans c2, (h.2 _ _ (by omega) (by omega) (by omega) (by omega)).trans c3⟩
/-- the spot moves to p -/
def PosTo (M M1 : Mem) (p : Nat) : Prop := M1.2 = M.2 ∧ (∀ k a, ¬ (k = 196 ∧ a = 2165) → mI M1 k a = mI M k a) ∧ mI M1 196 2165 = nI p
theorem PosTo.Cfr {M M1 : Mem} {p : Nat} (h : PosTo M M1 p) : Cfr M M1 := ⟨h.1, fun k a a1 _ _ _ => h.2.1 k a (by omega)⟩
theorem PosTo.set {M M1 : Mem} {p q : Nat} (h : PosTo (uI M 196 2165 (nI p)) M1 q) : PosTo M M1 q := ⟨h.1, fun k a h9 => (h.2.1 k a h9).trans (mI_ne h9), h.2.2⟩
section CLS
variable {T : Nat → Nat} {L : Nat} {M : Mem}
theorem S6 (hL : Lay M) : mS M 2165 = (6, 0) := hL.S (by omega)
theorem d60 (hL : Lay M) {β : Type} {K : Option Nat → Option β} : dP M 6 0 (some 2165) K = K (some 2166) := by
  rw [dP_at (by rw [S6 hL])]
  show K (mP M 192 2165) = _
  rw [show mP M 192 2165 = some 2166 from hL.P (by omega) 192]
theorem d61 (hL : Lay M) {β : Type} {K : Option Nat → Option β} : dP M 6 1 (some 2165) K = K (some 2167) := by
  rw [dP_at (by rw [S6 hL])]
  show K (mP M 193 2165) = _
  rw [show mP M 193 2165 = some 2167 from hL.P (by omega) 193]
theorem d62 (hL : Lay M) {β : Type} {K : Option Nat → Option β} : dP M 6 2 (some 2165) K = K (some 2168) := by
  rw [dP_at (by rw [S6 hL])]
  show K (mP M 194 2165) = _
  rw [show mP M 194 2165 = some 2168 from hL.P (by omega) 194]
theorem i6 (hL : Lay M) {j : Nat} {x : Int32} {β : Type} {K : Int32 → Option β} (h : mI M (32 * 6 + j) 2165 = x) : dI M 6 j (some 2165) K = K x := by
  rw [dI_at (by rw [S6 hL]), h]
theorem w6 (hL : Lay M) {j : Nat} {x : Int32} {β : Type} {K : Mem → Option β} : pI M 6 j (some 2165) x K = K (uI M (32 * 6 + j) 2165 x) := pI_at (by rw [S6 hL])
theorem ch_c (hL : Lay M) (hT : TX T L M) {j : Nat} (hj : j < L) {β : Type} {K : Int32 → Option β} : aI M 101 (some 2166) (nI j) K = K (nI (T j)) := by
  have h90 := hT.1
  rw [aI_at (show mS M 2166 = (101, 90) from hL.S (by omega)) (by omega) (by omega), (hT.2.2.2 j hj).2.1]
theorem S67 (hL : Lay M) : mS M 2167 = (100, 3) := hL.S (by omega)
theorem letter_c {c : Nat} (hc : c ≤ 127) (t : Option Nat) : m_X6_isSmallLetter M t (nI c) = some (if 97 ≤ c ∧ c ≤ 122 then 1 else 0, M) := by
  unfold m_X6_isSmallLetter
  by_cases h1 : 97 ≤ c
  · rw [if_neg (fun h9 : nI c < 97 => absurd ((i_lt (b := 97) (by omega) (by omega)).mp h9) (by omega))]
    by_cases h2 : c ≤ 122
    · rw [if_neg (fun h9 : (122 : Int32) < nI c => absurd ((i_lt (a := 122) (by omega) (by omega)).mp h9) (by omega)), if_pos ⟨h1, h2⟩]; rfl
    · rw [if_pos (show (122 : Int32) < nI c from (i_lt (a := 122) (by omega) (by omega)).mpr (by omega)), if_neg (fun h9 => h2 h9.2)]; rfl
  · rw [if_pos (show nI c < 97 from (i_lt (b := 97) (by omega) (by omega)).mpr (by omega)), if_neg (fun h9 => h1 h9.1)]; rfl
theorem digit_c {c : Nat} (hc : c ≤ 127) (t : Option Nat) : m_X6_isDigit M t (nI c) = some (if 48 ≤ c ∧ c ≤ 57 then 1 else 0, M) := by
  unfold m_X6_isDigit
  by_cases h1 : 48 ≤ c
  · rw [if_neg (fun h9 : nI c < 48 => absurd ((i_lt (b := 48) (by omega) (by omega)).mp h9) (by omega))]
    by_cases h2 : c ≤ 57
    · rw [if_neg (fun h9 : (57 : Int32) < nI c => absurd ((i_lt (a := 57) (by omega) (by omega)).mp h9) (by omega)), if_pos ⟨h1, h2⟩]; rfl
    · rw [if_pos (show (57 : Int32) < nI c from (i_lt (a := 57) (by omega) (by omega)).mpr (by omega)), if_neg (fun h9 => h2 h9.2)]; rfl
  · rw [if_pos (show nI c < 48 from (i_lt (b := 48) (by omega) (by omega)).mpr (by omega)), if_neg (fun h9 => h1 h9.1)]; rfl
theorem fault_c (hL : Lay M) (x y : Int32) : m_X6_fault M (some 2165) x y = some (0, uI (uI M 199 2165 x) 200 2165 y) := by
  unfold m_X6_fault
  rw [w6 hL, w6 (hL.uI _ _ _)]; rfl
theorem skip_c : ∀ (k p fu : Nat) (M : Mem), Lay M → TX T L M → mI M 196 2165 = nI p → p ≤ L → L - p < k → k ≤ fu → ∃ M1, lp (b_X6_skipWord_0 (some 2165)) fu M = some ((), M1) ∧ PosTo M M1 (skW T L k p) := by
  intro k
  induction k with
  | zero => intro p fu M _ _ _ _ h; omega
  | succ k ih =>
    intro p fu M hL hT hp hpL hk hfu
    obtain ⟨fu, rfl⟩ : ∃ z, fu = z + 1 := ⟨fu - 1, by omega⟩
    have e : skW T L (k + 1) p = if p < L ∧ 97 ≤ T p ∧ T p ≤ 122 then skW T L k (p + 1) else p := rfl
    have h90 := hT.1
    rw [lp_succ, b_X6_skipWord_0, i6 hL hp, i6 hL hT.2.1, e]
    by_cases h1 : L ≤ p
    · rw [if_pos (le_n (by omega) h1), if_neg (fun h9 => by omega)]
      exact ⟨M, rfl, rfl, fun _ _ _ => rfl, hp⟩
    · have hlt : p < L := by omega
      obtain ⟨c1, c2, c3⟩ := hT.2.2.2 p hlt
      rw [if_neg (fun h9 => h1 ((i_le (by omega) (by omega)).mp h9)), d60 hL, i6 hL hp, ch_c hL hT hlt, rc_at (by rw [S6 hL]), letter_c c1, cl_some]
      by_cases h2 : 97 ≤ T p ∧ T p ≤ 122
      · rw [if_pos h2, if_neg (by decide), if_pos ⟨hlt, h2⟩, i6 hL hp, w6 hL, nI_1]
        obtain ⟨M1, f1, f2⟩ := ih (p + 1) fu (uI M 196 2165 (nI (p + 1))) (hL.uI _ _ _) ((Cfr.set (by omega)).TX hT) mI_eq (by omega) (by omega) (by omega)
        exact ⟨M1, f1, f2.set⟩
      · rw [if_neg h2, if_pos rfl, if_neg (fun h9 => h2 h9.2)]
        exact ⟨M, rfl, rfl, fun _ _ _ => rfl, hp⟩
theorem sign_c (hL : Lay M) (hT : TX T L M) {p c : Nat} (hp : mI M 196 2165 = nI p) (hpL : p ≤ L) (hc : c ≤ 127) : m_X6_readSign M (some 2165) (nI c) = if p < L ∧ T p = c then some (1, uI M 196 2165 (nI (p + 1))) else some (0, uI (uI M 199 2165 3) 200 2165 (nI p)) := by
  have h90 := hT.1
  unfold m_X6_readSign
  rw [i6 hL hp, i6 hL hT.2.1, jn_eq]
  have hJ : dI M 6 4 (some 2165) (fun (x5 : Int32) => rc M 6 (some 2165) (cl (m_X6_fault M (some 2165) 3 x5) (fun (x7 : Int32) (M6 : Mem) => rtZ x7 M6))) = some (0, uI (uI M 199 2165 3) 200 2165 (nI p)) := by
    rw [i6 hL hp, rc_at (by rw [S6 hL]), fault_c hL, cl_some]; rfl
  by_cases h1 : L ≤ p
  · rw [if_pos (show nI L ≤ nI p from le_n (by omega) h1), if_neg (fun h9 => by omega)]; exact hJ
  · have hlt : p < L := by omega
    obtain ⟨c1, c2, c3⟩ := hT.2.2.2 p hlt
    rw [if_neg (show ¬ nI L ≤ nI p from fun h9 => h1 ((i_le (by omega) (by omega)).mp h9)), d60 hL, i6 hL hp, ch_c hL hT hlt]
    by_cases h2 : T p = c
    · rw [if_pos (show nI (T p) = nI c by rw [h2]), if_pos ⟨hlt, h2⟩, i6 hL hp, w6 hL, nI_1]; rfl
    · rw [if_neg (show ¬ nI (T p) = nI c from fun h9 => h2 ((i_eq (by omega) (by omega)).mp h9)), if_neg (fun h9 => h2 h9.2)]; exact hJ
theorem numloop_c {J : Int32 → Int32 → Mem → Option (Int32 × Mem)} : ∀ (k c p v fu : Nat) (M : Mem), c + k = 4 → k < fu → Lay M → TX T L M → mI M 196 2165 = nI p → p ≤ L → ∃ M1, lp (b_X6_readNumber_4 (some 2165) J) fu (nI v, nI c, M) = J (nI (nmS T L k p v).1) (nI (c + ((nmS T L k p v).2 - p))) M1 ∧ PosTo M M1 (nmS T L k p v).2 := by
  intro k
  induction k with
  | zero =>
    intro c p v fu M hc hfu hL hT hp hpL
    obtain ⟨fu, rfl⟩ : ∃ z, fu = z + 1 := ⟨fu - 1, by omega⟩
    have e4 : (4 : Int32) = nI 4 := rfl
    refine ⟨M, ?_, rfl, fun _ _ _ => rfl, hp⟩
    rw [lp_succ, b_X6_readNumber_4]
    refine (if_pos (show (4 : Int32) ≤ nI c by rw [e4]; exact le_n (by omega) (by omega))).trans ?_
    show J (nI v) (nI c) M = J (nI v) (nI (c + (p - p))) M
    rw [Nat.sub_self, Nat.add_zero]
  | succ k ih =>
    intro c p v fu M hc hfu hL hT hp hpL
    obtain ⟨fu, rfl⟩ : ∃ z, fu = z + 1 := ⟨fu - 1, by omega⟩
    have h90 := hT.1
    have e : nmS T L (k + 1) p v = if p < L ∧ 48 ≤ T p ∧ T p ≤ 57 then nmS T L k (p + 1) (v * 10 + (T p - 48)) else (v, p) := rfl
    have stay : J (nI v) (nI c) M = J (nI v) (nI (c + (p - p))) M := by rw [Nat.sub_self, Nat.add_zero]
    rw [lp_succ, b_X6_readNumber_4, e]
    dsimp only
    rw [if_neg (show ¬ (4 : Int32) ≤ nI c from fun h9 => absurd ((i_le (a := 4) (by omega) (by omega)).mp h9) (by omega)), i6 hL hp, i6 hL hT.2.1]
    by_cases h1 : L ≤ p
    · rw [if_pos (le_n (by omega) h1), if_neg (fun h9 => by omega)]
      exact ⟨M, stay, rfl, fun _ _ _ => rfl, hp⟩
    · have hlt : p < L := by omega
      obtain ⟨c1, c2, c3⟩ := hT.2.2.2 p hlt
      rw [if_neg (fun h9 => h1 ((i_le (by omega) (by omega)).mp h9)), d60 hL, i6 hL hp, ch_c hL hT hlt, rc_at (by rw [S6 hL]), digit_c c1, cl_some]
      by_cases h2 : 48 ≤ T p ∧ T p ≤ 57
      · have e48 : (48 : Int32) = nI 48 := rfl
        have e10 : (10 : Int32) = nI 10 := rfl
        rw [if_pos h2, if_neg (by decide), if_pos ⟨hlt, h2⟩, d60 hL, i6 hL hp, ch_c hL hT hlt, i6 hL hp, w6 hL, nI_1, nI_1, e48, pk_sub h2.1, e10, pk_mul, nI_add]
        obtain ⟨M1, f1, f2⟩ := ih (c + 1) (p + 1) (v * 10 + (T p - 48)) fu (uI M 196 2165 (nI (p + 1))) (by omega) (by omega) (hL.uI _ _ _) ((Cfr.set (by omega)).TX hT) mI_eq (by omega)
        have hle := (nmS_le (T := T) (L := L) k (p + 1) (v * 10 + (T p - 48)) (by omega)).2.1
        rw [show c + 1 + ((nmS T L k (p + 1) (v * 10 + (T p - 48))).2 - (p + 1)) = c + ((nmS T L k (p + 1) (v * 10 + (T p - 48))).2 - p) by omega] at f1
        exact ⟨M1, f1, f2.set⟩
      · rw [if_neg h2, if_pos rfl, if_neg (fun h9 => h2 h9.2)]
        exact ⟨M, stay, rfl, fun _ _ _ => rfl, hp⟩
theorem number_c (hL : Lay M) (hT : TX T L M) {p j : Nat} (hp : mI M 196 2165 = nI p) (hpL : p ≤ L) (hj : j < 3) : ∃ M1, PosTo M M1 (nmS T L 4 p 0).2 ∧ m_X6_readNumber M (some 2165) (nI j) = if (nmS T L 4 p 0).2 = p then some (0, uI (uI M1 199 2165 3) 200 2165 (nI p)) else some (1, uI M1 (1000 + j) 2167 (nI (nmS T L 4 p 0).1)) := by
  obtain ⟨M1, f1, f2⟩ := numloop_c (T := T) (L := L) (J := fun (x2 : Int32) (x3 : Int32) (M4 : Mem) => (if x3 ≠ 0 then dP M4 6 1 (some 2165) (fun (q5 : Option Nat) => sI M4 100 q5 (nI j) x2 (fun (M6 : Mem) => rtZ 1 M6)) else dI M4 6 4 (some 2165) (fun (x7 : Int32) => rc M4 6 (some 2165) (cl (m_X6_fault M4 (some 2165) 3 x7) (fun (x9 : Int32) (M8 : Mem) => rtZ x9 M8))))) 4 0 p 0 FU M (by omega) (by show 4 < 1000000; omega) hL hT hp hpL
  have hL1 := f2.Cfr.Lay hL
  obtain ⟨-, g2, -, g4⟩ := nmS_le (T := T) (L := L) 4 p 0 hpL
  refine ⟨M1, f2, ?_⟩
  unfold m_X6_readNumber
  rw [jn_eq]
  refine f1.trans ?_
  by_cases h : (nmS T L 4 p 0).2 = p
  · have e0 : (0 : Nat) + ((nmS T L 4 p 0).2 - p) = 0 := by omega
    rw [e0, if_neg (show ¬ nI 0 ≠ 0 from fun h9 => h9 rfl), if_pos h, i6 hL1 f2.2.2, rc_at (by rw [S6 hL1]), fault_c hL1, cl_some, h]; rfl
  · rw [if_pos (show nI (0 + ((nmS T L 4 p 0).2 - p)) ≠ 0 from fun h9 => by have := (i_eq (b := 0) (by omega) (by omega)).mp h9; omega), if_neg h, d61 hL1, sI_at (S67 hL1) hj (by omega)]; rfl
end CLS
/-- the draft, on the class's side -/
def CDr (M : Mem) (d : PD) : Prop := mI M 162 2168 = nI (pFree d) ∧ mI M 163 2168 = nI (pCap d) ∧ mI M 164 2168 = nI (pWay d) ∧ mI M 165 2168 = nI (pLost d) ∧ mI M 198 2165 = nI (pCnt d) ∧ (pCnt d ≠ 0 → mI M 161 2168 = nI (pCnt d)) ∧ (pCnt d = 0 → mI M 161 2168 = nI 1 ∧ mI M 1 2170 = nI 0 ∧ mI M 2 2170 = nI 100 ∧ mI M 3 2170 = nI 60) ∧ ∀ b, b < pCnt d → mI M 1 (2170 + b) = nI (pB d b 0) ∧ mI M 2 (2170 + b) = nI (pB d b 1) ∧ mI M 3 (2170 + b) = nI (pB d b 2)
theorem CDr.of {M M1 : Mem} {d : PD} (h : CDr M d) (hd : pCnt d ≤ 6) (h1 : ∀ k, mI M1 k 2168 = mI M k 2168) (h2 : mI M1 198 2165 = mI M 198 2165) (h3 : ∀ k b, b < 6 → mI M1 k (2170 + b) = mI M k (2170 + b)) : CDr M1 d := by
  obtain ⟨a1, a2, a3, a4, a5, a6, a7, a8⟩ := h
  refine ⟨(h1 _).trans a1, (h1 _).trans a2, (h1 _).trans a3, (h1 _).trans a4, h2.trans a5, fun h => (h1 _).trans (a6 h), fun h => ?_, fun b hb => ?_⟩
  · obtain ⟨b1, b2, b3, b4⟩ := a7 h
    exact ⟨(h1 _).trans b1, (h3 1 0 (by omega)).trans b2, (h3 2 0 (by omega)).trans b3, (h3 3 0 (by omega)).trans b4⟩
  · obtain ⟨b1, b2, b3⟩ := a8 b hb
    exact ⟨(h3 1 b (by omega)).trans b1, (h3 2 b (by omega)).trans b2, (h3 3 b (by omega)).trans b3⟩
def KS (M0 M : Mem) (i p : Nat) (d : PD) : Prop := Cfr M0 M ∧ mI M 196 2165 = nI p ∧ mI M 197 2165 = nI i ∧ CDr M d
def KF (M0 M : Mem) (i c e : Nat) : Prop := Cfr M0 M ∧ mI M 197 2165 = nI i ∧ mI M 199 2165 = nI c ∧ mI M 200 2165 = nI e
theorem z10 : ¬ (1 : Int32) = 0 := by decide
theorem z00 : (0 : Int32) = 0 := rfl
theorem z10' : (1 : Int32) ≠ 0 := by decide
theorem z00' : ¬ (0 : Int32) ≠ 0 := fun h => h rfl
section CLS2
variable {T : Nat → Nat} {L : Nat} {M0 M : Mem} {i p : Nat} {d : PD}
theorem KS.pos (h : KS M0 M i p d) (hd : pCnt d ≤ 6) {M1 : Mem} {q : Nat} (h1 : PosTo M M1 q) : KS M0 M1 i q d := ⟨h.1.trans h1.Cfr, h1.2.2, (h1.2.1 _ _ (by omega)).trans h.2.2.1, h.2.2.2.of hd (fun k => h1.2.1 _ _ (by omega)) (h1.2.1 _ _ (by omega)) (fun k b hb => h1.2.1 _ _ (by omega))⟩
theorem KS.num (h : KS M0 M i p d) (hd : pCnt d ≤ 6) (k : Nat) (x : Int32) : KS M0 (uI M k 2167 x) i p d := ⟨h.1.trans (Cfr.set (by omega)), (mI_ne (by omega)).trans h.2.1, (mI_ne (by omega)).trans h.2.2.1, h.2.2.2.of hd (fun k => mI_ne (by omega)) (mI_ne (by omega)) (fun k b hb => mI_ne (by omega))⟩
theorem KS.bad (h : KS M0 M i p d) (c e : Nat) : KF M0 (uI (uI M 199 2165 (nI c)) 200 2165 (nI e)) i c e := ⟨(h.1.trans (Cfr.set (by omega))).trans (Cfr.set (by omega)), by rw [mI_ne (by omega), mI_ne (by omega)]; exact h.2.2.1, by rw [mI_ne (by omega), mI_eq], mI_eq⟩
theorem step_c (hL0 : Lay M0) (hT0 : TX T L M0) (h : KS M0 M i p d) (hd : pCnt d ≤ 6) (hp : p ≤ L) {j n c fu : Nat} (hj : j < 3) (hjn : j < n) (hn : n < 10) (hc : c = if j = 0 then 32 else 44) :
    ((stepN T L c p).1 = 0 → ∃ M1, lp (b_X6_readNumbers_2 (some 2165) (nI n)) (fu + 1) (nI j, M) = lp (b_X6_readNumbers_2 (some 2165) (nI n)) fu (nI (j + 1), M1) ∧ KS M0 M1 i (stepN T L c p).2.2.2 d ∧ mI M1 (1000 + j) 2167 = nI (stepN T L c p).2.2.1 ∧ ∀ j', j' ≠ j → mI M1 (1000 + j') 2167 = mI M (1000 + j') 2167) ∧
    ((stepN T L c p).1 ≠ 0 → ∃ M1, lp (b_X6_readNumbers_2 (some 2165) (nI n)) (fu + 1) (nI j, M) = some (0, M1) ∧ KF M0 M1 i (stepN T L c p).1 (stepN T L c p).2.1) := by
  have hL := h.1.Lay hL0
  have hT := h.1.TX hT0
  have e3 : (3 : Int32) = nI 3 := rfl
  have hc127 : c ≤ 127 := by rw [hc]; split <;> omega
  have hbody : lp (b_X6_readNumbers_2 (some 2165) (nI n)) (fu + 1) (nI j, M) = rc M 6 (some 2165) (cl (m_X6_readSign M (some 2165) (nI c)) (fun (x7 : Int32) (M6 : Mem) => (if x7 = 0 then rtZ 0 M6 else rc M6 6 (some 2165) (cl (m_X6_readNumber M6 (some 2165) (nI j)) (fun (x9 : Int32) (M8 : Mem) => (if x9 ≠ 0 then lp (b_X6_readNumbers_2 (some 2165) (nI n)) fu ((nI j + 1), M8) else rtZ 0 M8)))))) := by
    rw [lp_succ, b_X6_readNumbers_2]
    dsimp only
    rw [if_neg (fun h9 => absurd ((i_le (by omega) (by omega)).mp h9) (by omega)), if_neg (show ¬ (3 : Int32) ≤ nI j from fun h9 => absurd ((i_le (a := 3) (by omega) (by omega)).mp h9) (by omega)), jn_eq]
    by_cases h0 : j = 0
    · rw [if_neg (show ¬ nI j ≠ 0 from fun h9 => h9 (by rw [h0]; rfl)), hc, if_pos h0]; rfl
    · rw [if_pos (show nI j ≠ 0 from fun h9 => h0 ((i_eq (b := 0) (by omega) (by omega)).mp h9)), hc, if_neg h0]; rfl
  rw [hbody, rc_at (by rw [S6 hL]), sign_c hL hT h.2.1 hp hc127]
  unfold stepN
  by_cases h1 : p < L ∧ T p = c
  · rw [if_pos h1, if_pos h1, cl_some, if_neg z10]
    have hL1 : Lay (uI M 196 2165 (nI (p + 1))) := hL.uI _ _ _
    have hT1 : TX T L (uI M 196 2165 (nI (p + 1))) := (Cfr.set (by omega)).TX hT
    have hP1 : PosTo M (uI M 196 2165 (nI (p + 1))) (p + 1) := ⟨rfl, fun k a h9 => mI_ne h9, mI_eq⟩
    obtain ⟨M2, f1, f2⟩ := number_c hL1 hT1 (p := p + 1) (j := j) mI_eq (by omega) hj
    have f3 : PosTo M M2 (nmS T L 4 (p + 1) 0).2 := f1.set
    rw [rc_at (by rw [S6 hL1]), f2]
    by_cases h2 : (nmS T L 4 (p + 1) 0).2 = p + 1
    · rw [if_pos h2, if_pos h2, cl_some, if_neg z00']
      exact ⟨fun h9 => absurd h9 (show ¬ (3 = 0) by omega), fun _ => ⟨_, rfl, (h.pos hd f3).bad 3 (p + 1)⟩⟩
    · rw [if_neg h2, if_neg h2, cl_some, if_pos z10', nI_1]
      refine ⟨fun _ => ⟨_, rfl, (h.pos hd f3).num hd _ _, mI_eq, fun j' hj' => ?_⟩, fun h9 => absurd rfl h9⟩
      rw [mI_ne (by omega)]; exact f3.2.1 _ _ (by omega)
  · rw [if_neg h1, if_neg h1, cl_some, if_pos z00]
    exact ⟨fun h9 => absurd h9 (show ¬ (3 = 0) by omega), fun _ => ⟨_, rfl, h.bad 3 p⟩⟩
theorem rn_end {n j fu : Nat} (hj : n ≤ j) (hjb : j < 100) (M : Mem) : lp (b_X6_readNumbers_2 (some 2165) (nI n)) (fu + 1) (nI j, M) = some (1, M) := by
  rw [lp_succ, b_X6_readNumbers_2]
  exact (if_pos (le_n (by omega) hj)).trans rfl
theorem range_c (hL : Lay M) {j v a b : Nat} (hj : j < 3) (hv : v ≤ 9999) (ha : a ≤ 9999) (hb : b ≤ 9999) (h : mI M (1000 + j) 2167 = nI v) : m_X6_inRange M (some 2165) (nI j) (nI a) (nI b) = if a ≤ v ∧ v ≤ b then some (1, M) else some (0, uI (uI M 199 2165 4) 200 2165 (nI v)) := by
  unfold m_X6_inRange
  rw [d61 hL, aI_at (S67 hL) hj (by omega), h]
  by_cases h1 : a ≤ v ∧ v ≤ b
  · rw [within_y ⟨le_n (by omega) h1.1, le_n (by omega) h1.2⟩, cl_some, if_pos (by decide), if_pos h1]; rfl
  · rw [within_n (fun h9 => h1 ⟨(i_le (by omega) (by omega)).mp h9.1, (i_le (by omega) (by omega)).mp h9.2⟩), cl_some, if_neg (by decide), if_neg h1, d61 hL, aI_at (S67 hL) hj (by omega), h, rc_at (by rw [S6 hL]), fault_c hL, cl_some, if_pos rfl]; rfl
theorem setting_c (hL0 : Lay M0) (hT0 : TX T L M0) (h : KS M0 M i p d) (hd : pCnt d ≤ 6) (hp : p ≤ L) {hi : Nat} (hhi : hi ≤ 9999) (K : Nat → PD) :
    ((settingP (stepN T L 32 p) hi K).1 = 0 → ∃ M1 v, m_X6_readSetting M (some 2165) (nI hi) = some (1, M1) ∧ KS M0 M1 i (settingP (stepN T L 32 p) hi K).2.2.1 d ∧ mI M1 1000 2167 = nI v ∧ (settingP (stepN T L 32 p) hi K).2.2.2 = K v) ∧
    ((settingP (stepN T L 32 p) hi K).1 ≠ 0 → ∃ M1, m_X6_readSetting M (some 2165) (nI hi) = some (0, M1) ∧ KF M0 M1 i (settingP (stepN T L 32 p) hi K).1 (settingP (stepN T L 32 p) hi K).2.1) := by
  have hL := h.1.Lay hL0
  obtain ⟨s1, s2, s3, s4, s5⟩ := stepN_le (T := T) (c := 32) hp
  obtain ⟨fu, hfu⟩ : ∃ z, FU = z + 2 := ⟨FU - 2, by have := FU_1000; omega⟩
  obtain ⟨g1, g2⟩ := step_c hL0 hT0 h hd hp (j := 0) (n := 1) (c := 32) (fu := fu + 1) (by omega) (by omega) (by omega) rfl
  unfold settingP m_X6_readSetting m_X6_readNumbers
  rw [rc_at (by rw [S6 hL]), hfu]
  have e0 : ((0 : Int32), M) = (nI 0, M) := rfl
  have e1 : (1 : Int32) = nI 1 := rfl
  rw [e0]
  by_cases h0 : (stepN T L 32 p).1 = 0
  · obtain ⟨M1, f1, f2, f3, f4⟩ := g1 h0
    have hL1 := f2.1.Lay hL0
    have f1' : lp (b_X6_readNumbers_2 (some 2165) 1) (fu + 2) (nI 0, M) = some (1, M1) := f1.trans (rn_end (by omega) (by omega) M1)
    rw [if_pos h0, f1', cl_some, if_neg z10, rc_at (by rw [S6 hL1]), show m_X6_inRange M1 (some 2165) 0 0 (nI hi) = _ from range_c hL1 (j := 0) (a := 0) (by omega) s3 (by omega) hhi f3]
    by_cases h1 : (stepN T L 32 p).2.2.1 ≤ hi
    · rw [if_pos (show 0 ≤ (stepN T L 32 p).2.2.1 ∧ (stepN T L 32 p).2.2.1 ≤ hi from ⟨by omega, h1⟩), if_pos h1, cl_some, if_neg z10]
      exact ⟨fun _ => ⟨M1, _, rfl, f2, f3, rfl⟩, fun h9 => absurd rfl h9⟩
    · rw [if_neg (show ¬ (0 ≤ (stepN T L 32 p).2.2.1 ∧ (stepN T L 32 p).2.2.1 ≤ hi) from fun h9 => h1 h9.2), if_neg h1, cl_some, if_pos z00]
      exact ⟨fun h9 => absurd h9 (show ¬ (4 = 0) by omega), fun _ => ⟨_, rfl, f2.bad 4 _⟩⟩
  · obtain ⟨M1, f1, f2⟩ := g2 h0
    have f1' : lp (b_X6_readNumbers_2 (some 2165) 1) (fu + 2) (nI 0, M) = some (0, M1) := f1
    rw [if_neg h0, f1', cl_some, if_pos z00]
    exact ⟨fun h9 => absurd h9 h0, fun _ => ⟨M1, rfl, f2⟩⟩
end CLS2
