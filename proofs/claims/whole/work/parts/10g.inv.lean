/-! ===== what holds between the calls: the class's objects and the reference's rows tell the same ===== -/
def si (f : Nat → Int32) : Nat → Int32
  | 0 => 0
  | n + 1 => si f n + f n
theorem si_of {f g : Nat → Int32} : ∀ {n : Nat}, (∀ t, t < n → f t = g t) → si f n = si g n := by
  intro n
  induction n with
  | zero => intro _; rfl
  | succ n ih => intro h; show si f n + f n = si g n + g n; rw [ih (fun t ht => h t (by omega)), h n (by omega)]
/-- a rate: a finite number, not below zero, not above 2048 -/
def gF (r : UInt32) : Prop := r.toNat ≤ 1157627904
def IPl (M : Mem) (q S : Nat) : Prop := ∀ i, i < 4 → ∃ π, GP π ∧ PlC M (aPl (pk q) i) π ∧ PlR M S (10 + 23 * i) π
def IVo (vc : Nat) (M : Mem) (q S : Nat) : Prop := vc ≤ 10 ∧ mI M 37 (pk q) = nI vc ∧ mI M 1009 S = nI vc ∧ ∀ v, v < vc → ∃ k a : Nat, ∃ g : Int32, k ≤ 3 ∧ a ≤ 999 ∧ (k = 1 → a ≤ 100) ∧ mI M 288 (aVo (pk q) v) = nI k ∧ mI M 289 (aVo (pk q) v) = nI a ∧ mI M 290 (aVo (pk q) v) = g ∧ mI M (1000 + (102 + 3 * v)) S = nI k ∧ mI M (1000 + (102 + 3 * v + 1)) S = nI a ∧ mI M (1000 + (102 + 3 * v + 2)) S = g
def IFo (vc : Nat) (M : Mem) (q S : Nat) : Prop := ∀ f, f < 3 → ∃ n, n ≤ 5 ∧ mI M 65 (aFo (pk q) f) = nI n ∧ mI M (1000 + (132 + 7 * f)) S = nI n ∧ (0 < n → mI M 66 (aFo (pk q) f) = mI M (1000 + (132 + 7 * f + 1)) S ∧ ∀ j, j < 5 → ∃ c, c ≤ vc ∧ (n ≤ j → c = 0) ∧ mI M (1000 + j) (aFc (pk q) f) = nI c - 1 ∧ mI M (1000 + (132 + 7 * f + 2 + j)) S = nI c)
def ILe (cnt : Nat) (M : Mem) (q S R : Nat) : Prop := ∀ l, l < 4 → ∃ cap ex : Nat, ∃ x en : Int32, ∃ r : UInt32, cap ≤ 40 ∧ ex ≤ cnt ∧ -(cnt : Int) ≤ x.toInt ∧ x.toInt ≤ cap ∧ gF r ∧ mI M 96 (aLe (pk q) l) = nI cap ∧ mI M 97 (aLe (pk q) l) = x ∧ mI M 98 (aLe (pk q) l) = nI ex ∧ mI M 99 (aLe (pk q) l) = en ∧ mF M 100 (aLe (pk q) l) = r ∧
  mI M (1000 + (153 + 4 * l)) S = nI cap ∧ mI M (1000 + (153 + 4 * l + 1)) S = x ∧ mI M (1000 + (153 + 4 * l + 2)) S = nI ex ∧ mI M (1000 + (153 + 4 * l + 3)) S = en ∧ mF M (1000 + l) R = r
/-- a ticket at A, its numbers of vouchers at V, in the reference's row from o on -/
def TkOK (vc m : Nat) (M : Mem) (A V S o : Nat) : Prop := ∃ pl en lv pd gv go lo : Nat, ∃ la : Int32, (pl ≤ 3 ∧ en ≤ m ∧ lv ≤ 3 ∧ pd ≤ 19980000 ∧ gv ≤ 4 ∧ go ≤ 1 ∧ lo ≤ 1 ∧ (la = -1 ∨ ∃ z, z ≤ m ∧ la = nI z)) ∧
  (mI M 258 A = nI pl ∧ mI M 259 A = nI en ∧ mI M 260 A = nI lv ∧ mI M 261 A = nI pd ∧ mI M 257 A = nI gv ∧ mI M 263 A = nI go ∧ mI M 264 A = nI lo ∧ mI M 262 A = la) ∧
  (mI M (1000 + o) S = nI pl ∧ mI M (1000 + (o + 1)) S = nI en ∧ mI M (1000 + (o + 2)) S = nI lv ∧ mI M (1000 + (o + 3)) S = nI pd ∧ mI M (1000 + (o + 4)) S = nI gv ∧ mI M (1000 + (o + 5)) S = nI go ∧ mI M (1000 + (o + 6)) S = nI lo ∧ mI M (1000 + (o + 7)) S = la) ∧
  ∀ j, j < gv → ∃ v, v < vc ∧ mI M (1000 + j) V = nI v ∧ mI M (1000 + (o + 8 + j)) S = nI v
def ITk (cnt n vc m : Nat) (M : Mem) (q S : Nat) : Prop := n ≤ cnt ∧ mI M 38 (pk q) = nI n ∧ mI M 1001 S = nI n ∧ ∀ t, t < n → TkOK vc m M (aTi (pk q) t) (aTv (pk q) t) S (169 + 12 * t)
def IMi (m : Nat) (M : Mem) (q S : Nat) : Prop := m ≤ 99999 ∧ mI M 39 (pk q) = nI m ∧ mI M 1000 S = nI m
def paidT (M : Mem) (S k t : Nat) : Int32 := if mI M (1000 + (169 + 12 * t)) S = nI k then mI M (1000 + (169 + 12 * t + 3)) S else 0
def ISu0 (n : Nat) (M : Mem) (S : Nat) : Prop := ∃ lf, lf ≤ n ∧ n ≤ lf + 40 ∧ mI M 1002 S = nI lf ∧ si (fun t => mI M (1000 + (169 + 12 * t + 5)) S) n = nI lf ∧ mI M 1008 S = si (fun t => mI M (1000 + (169 + 12 * t + 6)) S) n ∧ (∀ k, k < 4 → mI M (1000 + (4 + k)) S = si (paidT M S k) n) ∧ mI M 1003 S = mI M 1004 S + mI M 1005 S + mI M 1006 S + mI M 1007 S
/-- is the ticket t's car on the level l, inside -/
def inT (M : Mem) (S l t : Nat) : Int32 := if mI M (1000 + (169 + 12 * t + 2)) S = nI l ∧ mI M (1000 + (169 + 12 * t + 5)) S = 0 then 1 else 0
def ICa (n : Nat) (M : Mem) (S : Nat) : Prop := ∀ l, l < 4 → mI M (1000 + (153 + 4 * l + 1)) S = si (inT M S l) n
def ISu (n : Nat) (M : Mem) (S : Nat) : Prop := ISu0 n M S ∧ ICa n M S
def Pk (cnt n vc m : Nat) (M : Mem) (q S R : Nat) : Prop := IPl M q S ∧ IVo vc M q S ∧ IFo vc M q S ∧ ILe cnt M q S R ∧ ITk cnt n vc m M q S ∧ IMi m M q S ∧ ISu n M S
def ITx (M : Mem) : Prop := ∃ L, L ≤ 90 ∧ mI M 195 2165 = nI L ∧ mI M 358 2179 = nI L ∧ ∀ j, j < L → ∃ c, c ≤ 127 ∧ mI M (1000 + j) 2166 = nI c ∧ mI M (1000 + j) 2184 = nI c
def IRp (M : Mem) : Prop := ∃ n, (n = 0 ∨ n = 3) ∧ mI M 226 2176 = nI n ∧ mI M 360 2179 = nI n ∧ (n = 3 → ∀ j, j < 3 → mI M (1000 + j) 2177 = mI M (1000 + 2 * j) 2185 ∧ mI M (1000 + j) 2178 = mI M (1000 + (2 * j + 1)) 2185)
def ISv (cnt : Nat) (M : Mem) : Prop := (mI M 322 0 = 0 ∧ mI M 356 2179 = 0) ∨ (mI M 322 0 = 1 ∧ mI M 356 2179 = 1 ∧ ∃ n vc m, Pk cnt n vc m M 1 2181 2183)
def IDr (M : Mem) : Prop := (∀ b, b < 6 → mI M 0 (2170 + b) = nI b) ∧ ∀ i, i < 4 → ∀ b, b < 6 → mI M 0 (aPl (pk 1) i + 2 + b) = nI b
def Inv (cnt n vc m : Nat) (M : Mem) : Prop := Lay M ∧ cnt ≤ 512 ∧ (mN M ≤ 2188 + 2 * cnt ∧ mL M ≤ 60000 + 12 * cnt) ∧ Pk cnt n vc m M 0 2180 2182 ∧ ISv cnt M ∧ ITx M ∧ IRp M ∧ IDr M
/-! ===== each part stands where what it reads stands ===== -/
theorem IPl.of {M M' : Mem} {q S : Nat} (h : IPl M q S) (hS : ∀ a, pk q ≤ a → a < pk q + 38 → mS M' a = mS M a) (hP : ∀ k a, pk q ≤ a → a < pk q + 38 → mP M' k a = mP M k a) (hI : ∀ k a, pk q + 6 ≤ a → a < pk q + 38 → mI M' k a = mI M k a) (hr : ∀ k, 10 ≤ k → k < 102 → mI M' (1000 + k) S = mI M (1000 + k) S) : IPl M' q S := by
  intro i hi
  obtain ⟨π, h1, h2, h3⟩ := h i hi
  have hc := h1.2.2.2.2.2.1
  refine ⟨π, h1, h2.of h1 (fun a h8 h9 => hS a (by unfold aPl at h8; omega) (by unfold aPl at h9; omega)) (fun k a h8 h9 => hP k a (by unfold aPl at h8; omega) (by unfold aPl at h9; omega)) (fun k a h8 h9 => hI k a (by unfold aPl at h8; omega) (by unfold aPl at h9; omega)), ?_⟩
  refine ⟨(hr _ (by omega) (by omega)).trans h3.1, (hr _ (by omega) (by omega)).trans h3.2.1, (hr _ (by omega) (by omega)).trans h3.2.2.1, (hr _ (by omega) (by omega)).trans h3.2.2.2.1, (hr _ (by omega) (by omega)).trans h3.2.2.2.2.1, fun b hb j hj => (hr _ (by omega) (by omega)).trans (h3.2.2.2.2.2 b hb j hj)⟩
theorem IVo.of {M M' : Mem} {vc q S : Nat} (h : IVo vc M q S) (h37 : mI M' 37 (pk q) = mI M 37 (pk q)) (hI : ∀ k a, pk q + 38 ≤ a → a < pk q + 48 → mI M' k a = mI M k a) (h9 : mI M' 1009 S = mI M 1009 S) (hr : ∀ k, 102 ≤ k → k < 132 → mI M' (1000 + k) S = mI M (1000 + k) S) : IVo vc M' q S := by
  obtain ⟨h1, h2, h3, h4⟩ := h
  refine ⟨h1, h37.trans h2, h9.trans h3, fun v hv => ?_⟩
  obtain ⟨k, a, g, g1, g2, g3, g4, g5, g6, g7, g8, g9⟩ := h4 v hv
  have hA : ∀ k, mI M' k (aVo (pk q) v) = mI M k (aVo (pk q) v) := fun k => hI k _ (by unfold aVo; omega) (by unfold aVo; omega)
  exact ⟨k, a, g, g1, g2, g3, (hA _).trans g4, (hA _).trans g5, (hA _).trans g6, (hr _ (by omega) (by omega)).trans g7, (hr _ (by omega) (by omega)).trans g8, (hr _ (by omega) (by omega)).trans g9⟩
theorem IFo.of {M M' : Mem} {vc vc' q S : Nat} (h : IFo vc M q S) (hvc : vc ≤ vc') (hI : ∀ k a, pk q + 48 ≤ a → a < pk q + 54 → mI M' k a = mI M k a) (hr : ∀ k, 132 ≤ k → k < 153 → mI M' (1000 + k) S = mI M (1000 + k) S) : IFo vc' M' q S := by
  intro f hf
  obtain ⟨n, h1, h2, h3, h4⟩ := h f hf
  refine ⟨n, h1, (hI _ _ (by unfold aFo; omega) (by unfold aFo; omega)).trans h2, (hr _ (by omega) (by omega)).trans h3, fun hn => ?_⟩
  obtain ⟨g1, g2⟩ := h4 hn
  refine ⟨((hI _ _ (by unfold aFo; omega) (by unfold aFo; omega)).trans g1).trans (hr _ (by omega) (by omega)).symm, fun j hj => ?_⟩
  obtain ⟨c, c1, c2, c3, c4⟩ := g2 j hj
  exact ⟨c, by omega, c2, (hI _ _ (by unfold aFc; omega) (by unfold aFc; omega)).trans c3, (hr _ (by omega) (by omega)).trans c4⟩
theorem ILe.of {M M' : Mem} {cnt cnt' q S R : Nat} (h : ILe cnt M q S R) (hc : cnt ≤ cnt') (hI : ∀ k a, pk q + 54 ≤ a → a < pk q + 58 → mI M' k a = mI M k a) (hF : ∀ a, pk q + 54 ≤ a → a < pk q + 58 → mF M' 100 a = mF M 100 a) (hr : ∀ k, 153 ≤ k → k < 169 → mI M' (1000 + k) S = mI M (1000 + k) S) (hR : ∀ k, mF M' k R = mF M k R) : ILe cnt' M' q S R := by
  intro l hl
  obtain ⟨cap, ex, x, en, r, g1, g2, g3, g4, g5, a1, a2, a3, a4, a5, b1, b2, b3, b4, b5⟩ := h l hl
  have hA : ∀ k, mI M' k (aLe (pk q) l) = mI M k (aLe (pk q) l) := fun k => hI k _ (by unfold aLe; omega) (by unfold aLe; omega)
  exact ⟨cap, ex, x, en, r, g1, by omega, by omega, g4, g5, (hA _).trans a1, (hA _).trans a2, (hA _).trans a3, (hA _).trans a4, (hF _ (by unfold aLe; omega) (by unfold aLe; omega)).trans a5,
    (hr _ (by omega) (by omega)).trans b1, (hr _ (by omega) (by omega)).trans b2, (hr _ (by omega) (by omega)).trans b3, (hr _ (by omega) (by omega)).trans b4, (hR _).trans b5⟩
theorem TkOK.of {M M' : Mem} {vc vc' m m' A V S o : Nat} (h : TkOK vc m M A V S o) (hv : vc ≤ vc') (hm : m ≤ m') (hA : ∀ k, mI M' k A = mI M k A) (hV : ∀ k, mI M' k V = mI M k V) (hr : ∀ k, o ≤ k → k < o + 12 → mI M' (1000 + k) S = mI M (1000 + k) S) : TkOK vc' m' M' A V S o := by
  obtain ⟨pl, en, lv, pd, gv, go, lo, la, ⟨g1, g2, g3, g4, g5, g6, g7, g8⟩, ⟨a1, a2, a3, a4, a5, a6, a7, a8⟩, ⟨b1, b2, b3, b4, b5, b6, b7, b8⟩, hj⟩ := h
  refine ⟨pl, en, lv, pd, gv, go, lo, la, ⟨g1, by omega, g3, g4, g5, g6, g7, ?_⟩, ⟨(hA _).trans a1, (hA _).trans a2, (hA _).trans a3, (hA _).trans a4, (hA _).trans a5, (hA _).trans a6, (hA _).trans a7, (hA _).trans a8⟩,
    ⟨(hr _ (by omega) (by omega)).trans b1, (hr _ (by omega) (by omega)).trans b2, (hr _ (by omega) (by omega)).trans b3, (hr _ (by omega) (by omega)).trans b4, (hr _ (by omega) (by omega)).trans b5, (hr _ (by omega) (by omega)).trans b6, (hr _ (by omega) (by omega)).trans b7, (hr _ (by omega) (by omega)).trans b8⟩, fun j hj9 => ?_⟩
  · rcases g8 with e | ⟨z, z1, z2⟩
    · exact Or.inl e
    · exact Or.inr ⟨z, by omega, z2⟩
  · obtain ⟨v, v1, v2, v3⟩ := hj j hj9
    exact ⟨v, by omega, (hV _).trans v2, (hr _ (by omega) (by omega)).trans v3⟩
theorem ITk.of {M M' : Mem} {cnt cnt' n vc vc' m m' q S : Nat} (h : ITk cnt n vc m M q S) (hn : n ≤ 512) (hc : cnt ≤ cnt') (hv : vc ≤ vc') (hm : m ≤ m') (h38 : mI M' 38 (pk q) = mI M 38 (pk q)) (hI : ∀ k a, pk q + 58 ≤ a → a < pk q + 1082 → mI M' k a = mI M k a) (h1 : mI M' 1001 S = mI M 1001 S) (hr : ∀ k, 169 ≤ k → mI M' (1000 + k) S = mI M (1000 + k) S) : ITk cnt' n vc' m' M' q S := by
  obtain ⟨g1, g2, g3, g4⟩ := h
  exact ⟨by omega, h38.trans g2, h1.trans g3, fun t ht => (g4 t ht).of hv hm (fun k => hI k _ (by unfold aTi; omega) (by unfold aTi; omega)) (fun k => hI k _ (by unfold aTv; omega) (by unfold aTv; omega)) (fun k h8 h9 => hr k (by omega))⟩
theorem ISu0.of {M M' : Mem} {n S : Nat} (h : ISu0 n M S) (hc : ∀ k, 2 ≤ k → k ≤ 8 → mI M' (1000 + k) S = mI M (1000 + k) S) (hr : ∀ k, 169 ≤ k → mI M' (1000 + k) S = mI M (1000 + k) S) : ISu0 n M' S := by
  obtain ⟨lf, h1, h2, h3, h4, h5, h6, h7⟩ := h
  refine ⟨lf, h1, h2, (hc 2 (by omega) (by omega)).trans h3, ?_, ?_, fun k hk => ?_, ?_⟩
  · rw [← h4]; exact si_of (fun t _ => hr _ (by omega))
  · refine ((hc 8 (by omega) (by omega)).trans h5).trans (si_of (fun t _ => (hr _ (by omega)).symm))
  · refine ((hc (4 + k) (by omega) (by omega)).trans (h6 k hk)).trans (si_of (fun t _ => ?_))
    unfold paidT
    rw [hr (169 + 12 * t) (by omega), hr (169 + 12 * t + 3) (by omega)]
  · have e3 : mI M' 1003 S = mI M 1003 S := hc 3 (by omega) (by omega)
    have e4 : mI M' 1004 S = mI M 1004 S := hc 4 (by omega) (by omega)
    have e5 : mI M' 1005 S = mI M 1005 S := hc 5 (by omega) (by omega)
    have e6 : mI M' 1006 S = mI M 1006 S := hc 6 (by omega) (by omega)
    have e7 : mI M' 1007 S = mI M 1007 S := hc 7 (by omega) (by omega)
    rw [e3, e4, e5, e6, e7]; exact h7
theorem ICa.of {M M' : Mem} {n S : Nat} (h : ICa n M S) (hc : ∀ l, l < 4 → mI M' (1000 + (153 + 4 * l + 1)) S = mI M (1000 + (153 + 4 * l + 1)) S) (hr : ∀ s, s < n → ∀ j, (j = 2 ∨ j = 5) → mI M' (1000 + (169 + 12 * s + j)) S = mI M (1000 + (169 + 12 * s + j)) S) : ICa n M' S := by
  intro l hl
  refine ((hc l hl).trans (h l hl)).trans (si_of (fun t ht => ?_))
  unfold inT
  rw [hr t ht 2 (by omega), hr t ht 5 (by omega)]
theorem ISu.of {M M' : Mem} {n S : Nat} (h : ISu n M S) (hc : ∀ k, 2 ≤ k → k ≤ 8 → mI M' (1000 + k) S = mI M (1000 + k) S) (hr : ∀ k, 169 ≤ k → mI M' (1000 + k) S = mI M (1000 + k) S) (hl : ∀ l, l < 4 → mI M' (1000 + (153 + 4 * l + 1)) S = mI M (1000 + (153 + 4 * l + 1)) S) : ISu n M' S := ⟨h.1.of hc hr, h.2.of hl (fun s _ j _ => hr _ (by omega))⟩
/-- a car park and its row stand when nothing of them moves -/
theorem Pk.of {M M' : Mem} {cnt cnt' n vc m q S R : Nat} (h : Pk cnt n vc m M q S R) (hn : n ≤ 512) (hc : cnt ≤ cnt') (hS : ∀ a, pk q ≤ a → a < pk q + 1082 → mS M' a = mS M a) (hP : ∀ k a, pk q ≤ a → a < pk q + 1082 → mP M' k a = mP M k a) (hI : ∀ k a, pk q ≤ a → a < pk q + 1082 → mI M' k a = mI M k a) (hF : ∀ k a, pk q ≤ a → a < pk q + 1082 → mF M' k a = mF M k a) (hr : ∀ k, mI M' (1000 + k) S = mI M (1000 + k) S) (hR : ∀ k, mF M' k R = mF M k R) : Pk cnt' n vc m M' q S R := by
  obtain ⟨h1, h2, h3, h4, h5, ⟨m1, m2, m3⟩, h7⟩ := h
  refine ⟨h1.of (fun a h8 h9 => hS a h8 (by omega)) (fun k a h8 h9 => hP k a h8 (by omega)) (fun k a h8 h9 => hI k a (by omega) (by omega)) (fun k _ _ => hr k),
    h2.of (hI _ _ (by omega) (by omega)) (fun k a h8 h9 => hI k a (by omega) (by omega)) (hr 9) (fun k _ _ => hr k),
    h3.of (Nat.le_refl _) (fun k a h8 h9 => hI k a (by omega) (by omega)) (fun k _ _ => hr k),
    h4.of hc (fun k a h8 h9 => hI k a (by omega) (by omega)) (fun a h8 h9 => hF _ a (by omega) (by omega)) (fun k _ _ => hr k) hR,
    h5.of hn hc (Nat.le_refl _) (Nat.le_refl _) (hI _ _ (by omega) (by omega)) (fun k a h8 h9 => hI k a (by omega) (by omega)) (hr 1) (fun k _ => hr k),
    ⟨m1, (hI _ _ (by omega) (by omega)).trans m2, (hr 0).trans m3⟩, h7.of (fun k _ _ => hr k) (fun k _ => hr k) (fun l _ => hr _)⟩
/-- nothing but new cells and the reference's scratch -/
def Keep (d : Nat) (M M' : Mem) : Prop := mN M ≤ mN M' ∧ mN M' ≤ mN M + d ∧ mL M' ≤ mL M + 6 * d ∧ ∀ a, a < 2188 → mS M' a = mS M a ∧ (∀ k, ¬ (a = 2179 ∧ 361 ≤ k ∧ k ≤ 365) → mI M' k a = mI M k a) ∧ (∀ k, mF M' k a = mF M k a) ∧ ∀ k, mP M' k a = mP M k a
theorem Keep.rfl' {M : Mem} : Keep 0 M M := ⟨Nat.le_refl _, Nat.le_refl _, Nat.le_refl _, fun _ _ => ⟨rfl, fun _ _ => rfl, fun _ => rfl, fun _ => rfl⟩⟩
theorem Keep.trans {d e : Nat} {M M1 M2 : Mem} (h1 : Keep d M M1) (h2 : Keep e M1 M2) : Keep (d + e) M M2 := by
  have a1 := h1.1; have a2 := h1.2.1; have a3 := h1.2.2.1; have b1 := h2.1; have b2 := h2.2.1; have b3 := h2.2.2.1
  refine ⟨by omega, by omega, by omega, fun a ha => ?_⟩
  obtain ⟨c1, c2, c3, c4⟩ := h1.2.2.2 a ha
  obtain ⟨d1, d2, d3, d4⟩ := h2.2.2.2 a ha
  exact ⟨d1.trans c1, fun k hk => (d2 k hk).trans (c2 k hk), fun k => (d3 k).trans (c3 k), fun k => (d4 k).trans (c4 k)⟩
theorem Keep.mono {d e : Nat} {M M1 : Mem} (h : Keep d M M1) (hd : d ≤ e) : Keep e M M1 := ⟨h.1, by have := h.2.1; omega, by have := h.2.2.1; omega, h.2.2.2⟩
theorem Keep.gr {d : Nat} {M M1 : Mem} (hL : Lay M) (h : Gr d M M1) : Keep d M M1 := ⟨h.1, h.2.1, h.2.2.1, fun a ha => by
  have h2 := hL.1
  obtain ⟨c1, c2, c3, c4⟩ := h.2.2.2 a (by omega)
  exact ⟨c1, fun k _ => c2 k, c3, c4⟩⟩
theorem Keep.sc {M M1 : Mem} (h : Sc M M1) : Keep 0 M M1 := ⟨by rw [h.N]; exact Nat.le_refl _, by rw [h.N]; exact Nat.le_refl _, by rw [h.L]; exact Nat.le_refl _, fun a _ => ⟨h.S a, fun k hk => h.2 k a hk, fun k => h.F k a, fun k => h.P k a⟩⟩
theorem Keep.Lay {d : Nat} {M M1 : Mem} (h : Keep d M M1) (hL : Lay M) : Lay M1 := ⟨Nat.le_trans hL.1 h.1, fun a ha => ⟨(h.2.2.2 a ha).1.trans (hL.S ha), fun k => ((h.2.2.2 a ha).2.2.2 k).trans (hL.P ha k)⟩⟩
theorem pkb_lt {q a : Nat} (hq : q < 2) (h : a < pk q + 1082) : a < 2165 := by unfold pk at h; omega
theorem Keep.Pk {d : Nat} {M M1 : Mem} {cnt cnt' n vc m q S R : Nat} (h : Keep d M M1) (hp : Pk cnt n vc m M q S R) (hn : n ≤ 512) (hc : cnt ≤ cnt') (hq : q < 2) (hS : S < 2188) (hR : R < 2188) (hS9 : S ≠ 2179) : Pk cnt' n vc m M1 q S R :=
  hp.of hn hc (fun a _ h9 => (h.2.2.2 a (by have := pkb_lt hq h9; omega)).1) (fun k a _ h9 => (h.2.2.2 a (by have := pkb_lt hq h9; omega)).2.2.2 k) (fun k a _ h9 => (h.2.2.2 a (by have := pkb_lt hq h9; omega)).2.1 k (fun h7 => by have := pkb_lt hq h9; omega)) (fun k a _ h9 => (h.2.2.2 a (by have := pkb_lt hq h9; omega)).2.2.1 k) (fun k => (h.2.2.2 S hS).2.1 _ (fun h7 => hS9 h7.1)) (fun k => (h.2.2.2 R hR).2.2.1 k)
theorem Inv.keep {M M1 : Mem} {cnt n vc m : Nat} (h : Inv cnt n vc m M) (hc : cnt < 512) (hk : Keep 2 M M1) : Inv (cnt + 1) n vc m M1 := by
  obtain ⟨h1, h2, ⟨h3, h4⟩, h5, h6, h7, h8, h9⟩ := h
  have k1 := hk.2.1
  have k2 := hk.2.2.1
  have hI : ∀ k a, a < 2188 → a ≠ 2179 → mI M1 k a = mI M k a := fun k a ha hn => (hk.2.2.2 a ha).2.1 k (fun z => hn z.1)
  have hM : ∀ k, k < 361 → mI M1 k 2179 = mI M k 2179 := fun k hk9 => (hk.2.2.2 2179 (by omega)).2.1 k (by omega)
  have hn := h5.2.2.2.2.1.1
  refine ⟨hk.Lay h1, by omega, ⟨by omega, by omega⟩, hk.Pk h5 (by omega) (by omega) (by omega) (by omega) (by omega) (by omega), ?_, ?_, ?_, ?_⟩
  · rcases h6 with ⟨e1, e2⟩ | ⟨e1, e2, n', vc', m', e3⟩
    · exact Or.inl ⟨(hI _ _ (by omega) (by omega)).trans e1, (hM _ (by omega)).trans e2⟩
    · have hn' := e3.2.2.2.2.1.1
      exact Or.inr ⟨(hI _ _ (by omega) (by omega)).trans e1, (hM _ (by omega)).trans e2, n', vc', m', hk.Pk e3 (by omega) (by omega) (by omega) (by omega) (by omega) (by omega)⟩
  · obtain ⟨L, t1, t2, t3, t4⟩ := h7
    refine ⟨L, t1, (hI _ _ (by omega) (by omega)).trans t2, (hM _ (by omega)).trans t3, fun j hj => ?_⟩
    obtain ⟨c, c1, c2, c3⟩ := t4 j hj
    exact ⟨c, c1, (hI _ _ (by omega) (by omega)).trans c2, (hI _ _ (by omega) (by omega)).trans c3⟩
  · obtain ⟨z, t1, t2, t3, t4⟩ := h8
    refine ⟨z, t1, (hI _ _ (by omega) (by omega)).trans t2, (hM _ (by omega)).trans t3, fun h3 j hj => ?_⟩
    obtain ⟨c1, c2⟩ := t4 h3 j hj
    exact ⟨((hI _ _ (by omega) (by omega)).trans c1).trans (hI _ _ (by omega) (by omega)).symm, ((hI _ _ (by omega) (by omega)).trans c2).trans (hI _ _ (by omega) (by omega)).symm⟩
  · exact ⟨fun b hb => (hI _ _ (by omega) (by omega)).trans (h9.1 b hb), fun i hi b hb => (hI _ _ (by unfold aPl pk; omega) (by unfold aPl pk; omega)).trans (h9.2 i hi b hb)⟩
/-- a call: both sides answer r -/
def Op (cnt : Nat) (M : Mem) (f : Mem → Option (Int32 × Mem)) (g : Mem → Option (Int32 × Mem)) : Prop := ∃ r M1 M2, f M = some (r, M1) ∧ (mS M1 2179).1 = 11 ∧ g M1 = some (r, M2) ∧ ∃ n vc m, Inv (cnt + 1) n vc m M2
/-- a call that changes nothing that lasts -/
theorem Op.same {cnt n vc m : Nat} {M M1 M2 : Mem} {f g : Mem → Option (Int32 × Mem)} {r : Int32} (h : Inv cnt n vc m M) (hc : cnt < 512) (h1 : f M = some (r, M1)) (hk : Keep 2 M M1) (h2 : g M1 = some (r, M2)) (hs : Sc M1 M2) : Op cnt M f g :=
  ⟨r, M1, M2, h1, S1 M1 (hk.Lay h.1), h2, n, vc, m, h.keep hc (hk.trans (Keep.sc hs))⟩
