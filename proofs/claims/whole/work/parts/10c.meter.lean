/-! ===== the class's meter ===== -/
theorem oi_some {β : Type} (a : Nat) (r : Option β) : oi (some a) r = r := rfl
/-- M' is M but for ints of the cell q -/
def Fr (q : Nat) (M M' : Mem) : Prop := M'.2 = M.2 ∧ ∀ k a, a ≠ q → mI M' k a = mI M k a
theorem Fr.rfl' {q : Nat} {M : Mem} : Fr q M M := ⟨rfl, fun _ _ _ => rfl⟩
theorem Fr.trans {q : Nat} {M M1 M2 : Mem} (h1 : Fr q M M1) (h2 : Fr q M1 M2) : Fr q M M2 := ⟨h2.1.trans h1.1, fun k a h => (h2.2 k a h).trans (h1.2 k a h)⟩
theorem Fr.u {q : Nat} {M M1 : Mem} (h1 : Fr q M M1) (k : Nat) (x : Int32) : Fr q M (uI M1 k q x) := ⟨h1.1, fun k' a h => by rw [mI_uI, if_neg (fun h9 => h h9.2)]; exact h1.2 k' a h⟩
theorem Fr.S {q : Nat} {M M1 : Mem} (h : Fr q M M1) (a : Nat) : mS M1 a = mS M a := by unfold mS; rw [h.1]
theorem Fr.P {q : Nat} {M M1 : Mem} (h : Fr q M M1) (k a : Nat) : mP M1 k a = mP M k a := by unfold mP; rw [h.1]
theorem Fr.F {q : Nat} {M M1 : Mem} (h : Fr q M M1) (k a : Nat) : mF M1 k a = mF M k a := by unfold mF; rw [h.1]
theorem Fr.N {q : Nat} {M M1 : Mem} (h : Fr q M M1) : mN M1 = mN M := by unfold mN; rw [h.1]
theorem Fr.L {q : Nat} {M M1 : Mem} (h : Fr q M M1) : mL M1 = mL M := by unfold mL; rw [h.1]
theorem isPl.of {M M' : Mem} {A : Nat} (h : isPl M A) (hS : ∀ a, A ≤ a → a < A + 8 → mS M' a = mS M a) (hP : ∀ k a, A ≤ a → a < A + 8 → mP M' k a = mP M k a) : isPl M' A :=
  ⟨(hS A (by omega) (by omega)).trans h.1, (hP 160 A (by omega) (by omega)).trans h.2.1, (hS (A + 1) (by omega) (by omega)).trans h.2.2.1, fun b hb => ⟨(hP _ (A + 1) (by omega) (by omega)).trans (h.2.2.2 b hb).1, (hS (A + 2 + b) (by omega) (by omega)).trans (h.2.2.2 b hb).2⟩⟩
theorem PlC.of {M M' : Mem} {A : Nat} {π : PD} (h : PlC M A π) (hπ : GP π) (hS : ∀ a, A ≤ a → a < A + 8 → mS M' a = mS M a) (hP : ∀ k a, A ≤ a → a < A + 8 → mP M' k a = mP M k a) (hI : ∀ k a, A ≤ a → a < A + 8 → mI M' k a = mI M k a) : PlC M' A π := by
  obtain ⟨h0, h1, h2, h3, h4, h5, h6, h7⟩ := h
  have hc := hπ.2.2.2.2.2.1
  refine ⟨h0.of hS hP, (hI _ A (by omega) (by omega)).trans h1, (hI _ A (by omega) (by omega)).trans h2, (hI _ A (by omega) (by omega)).trans h3, (hI _ A (by omega) (by omega)).trans h4, (hI _ A (by omega) (by omega)).trans h5, fun b hb => ?_, fun b hb => (hI _ _ (by omega) (by omega)).trans (h7 b hb)⟩
  obtain ⟨g1, g2, g3⟩ := h6 b hb
  exact ⟨(hI _ _ (by omega) (by omega)).trans g1, (hI _ _ (by omega) (by omega)).trans g2, (hI _ _ (by omega) (by omega)).trans g3⟩
theorem PlC.fr {M M' : Mem} {A q : Nat} {π : PD} (h : PlC M A π) (hπ : GP π) (hf : Fr q M M') (hq : A + 8 ≤ q) : PlC M' A π :=
  h.of hπ (fun a _ _ => hf.S a) (fun k a _ _ => hf.P k a) (fun k a _ h2 => hf.2 k a (by omega))
def MeterIs (M : Mem) (q A fr : Nat) (s : MS) : Prop := mS M q = (4, 0) ∧ mP M 128 q = some A ∧ mI M 129 q = nI fr ∧ mI M 130 q = nI s.1 ∧ mI M 131 q = nI s.2.1 ∧ mI M 132 q = nI s.2.2.1 ∧ mI M 133 q = nI s.2.2.2
def MB (fr : Nat) (s : MS) : Prop := fr ≤ s.1 ∧ s.1 ≤ 10000000 ∧ s.2.1 ≤ 10000000 ∧ s.2.2.1 + s.2.2.2 ≤ 100000000
theorem meterInit_c {M : Mem} {q A fr : Nat} {π : PD} (h : PlC M A π) (hπ : GP π) (hq : A + 8 ≤ q) (hs : mS M q = (4, 0)) (h0 : ∀ k, mI M k q = 0) (hf : fr ≤ 1000000) :
    ∃ M', m_X4_init M (some q) (some A) (nI fr) = some ((), M') ∧ MeterIs M' q A fr (s0 π fr) ∧ Fr q (uP M 128 q (some A)) M' := by
  unfold m_X4_init
  rw [oi_some, pP_at (by rw [hs]), pI_at (by rw [mS_uP, hs]), pI_at (by rw [mS_uI, mS_uP, hs])]
  have f1 : Fr q (uP M (32 * 4 + 0) q (some A)) (uI (uI (uP M (32 * 4 + 0) q (some A)) (32 * 4 + 1) q (nI fr)) (32 * 4 + 2) q (nI fr)) := (Fr.rfl'.u _ _).u _ _
  have h2 : PlC (uP M (32 * 4 + 0) q (some A)) A π := h.of hπ (fun a _ _ => rfl) (fun k a _ h9 => by rw [mP_uP, if_neg (fun h8 => by omega)]) (fun k a _ _ => rfl)
  have h3 := h2.fr hπ f1 hq
  rw [rc_at (by rw [h3.1.1]), groupOf_c h3 hπ (by omega) (Nat.le_refl _), cl_some, pI_at (by rw [mS_uI, mS_uI, mS_uP, hs])]
  refine ⟨_, rfl, ⟨hs, ?_, ?_, ?_, ?_, ?_, ?_⟩, f1.u _ _⟩
  · rw [mP_uI, mP_uI, mP_uI, mP_uP, if_pos ⟨rfl, rfl⟩]
  · rw [mI_uI, if_neg (by omega), mI_uI, if_neg (by omega), mI_uI, if_pos ⟨rfl, rfl⟩]
  · rw [mI_uI, if_neg (by omega), mI_uI, if_pos ⟨rfl, rfl⟩]; rfl
  · rw [mI_uI, if_pos ⟨rfl, rfl⟩]; rfl
  · rw [mI_uI, if_neg (by omega), mI_uI, if_neg (by omega), mI_uI, if_neg (by omega), mI_uP, h0]; rfl
  · rw [mI_uI, if_neg (by omega), mI_uI, if_neg (by omega), mI_uI, if_neg (by omega), mI_uP, h0]; rfl
/-- the end of addUnit: the open sum and the next unit -/
theorem addTail_c {M : Mem} {q A fr : Nat} {π : PD} {s : MS} (h : PlC M A π) (hπ : GP π) (hq : A + 8 ≤ q) (hm : MeterIs M q A fr s) (hb : MB fr s) (K : Mem → Option (Unit × Mem)) :
    ∃ M', dP M 4 0 (some q) (fun (q9 : Option Nat) => dI M 4 2 (some q) (fun (x10 : Int32) => rc M 5 q9 (cl (m_X5_bandOfMinute M q9 x10) (fun (q12 : Option Nat) (M11 : Mem) => dI M11 4 5 (some q) (fun (x13 : Int32) => dI M11 0 2 q12 (fun (x14 : Int32) => pI M11 4 5 (some q) ((x13 + x14)) (fun (M15 : Mem) => dI M15 4 2 (some q) (fun (x16 : Int32) => dI M15 0 3 q12 (fun (x17 : Int32) => pI M15 4 2 (some q) ((x16 + x17)) K))))))))) = K M' ∧
      MeterIs M' q A fr (s.1 + pB π (bandIx π s.1) 2, s.2.1, s.2.2.1, s.2.2.2 + pB π (bandIx π s.1) 1) ∧ Fr q M M' := by
  obtain ⟨m1, m2, m3, m4, m5, m6, m7⟩ := hm
  obtain ⟨b1, b2, b3, b4⟩ := hb
  have hs : (mS M q).1 = 4 := by rw [m1]
  have hbi := (bandIx_spec hπ s.1).1
  have hB := h.2.2.2.2.2.2.1 _ hbi
  have hc := hπ.2.2.2.2.2.1
  have hS := (h.1.2.2.2 (bandIx π s.1) (by omega)).2
  have hne : A + 2 + bandIx π s.1 ≠ q := by omega
  rw [dP_at hs, m2, dI_at hs, m4, rc_at (by rw [h.1.1]), bandOfMinute_c h hπ (by omega), cl_some, dI_at hs, m7, dI_at (by rw [hS]), hB.2.1, nI_add, pI_at hs]
  rw [dI_at (by rw [mS_uI]; exact hs), mI_uI, if_neg (by omega), m4, dI_at (by rw [mS_uI, hS]), mI_uI, if_neg (fun h9 => hne h9.2), hB.2.2, nI_add, pI_at (by rw [mS_uI]; exact hs)]
  refine ⟨_, rfl, ⟨m1, m2, ?_, ?_, ?_, ?_, ?_⟩, (Fr.rfl'.u _ _).u _ _⟩
  · rw [mI_uI, if_neg (by omega), mI_uI, if_neg (by omega)]; exact m3
  · rw [mI_uI, if_pos ⟨rfl, rfl⟩]
  · rw [mI_uI, if_neg (by omega), mI_uI, if_neg (by omega)]; exact m5
  · rw [mI_uI, if_neg (by omega), mI_uI, if_neg (by omega)]; exact m6
  · rw [mI_uI, if_neg (by omega), mI_uI, if_pos ⟨rfl, rfl⟩]
theorem addUnit_c {M : Mem} {q A fr : Nat} {π : PD} {s : MS} (h : PlC M A π) (hπ : GP π) (hq : A + 8 ≤ q) (hm : MeterIs M q A fr s) (hb : MB fr s) :
    ∃ M', m_X4_addUnit M (some q) = some ((), M') ∧ MeterIs M' q A fr (stp π fr s) ∧ Fr q M M' := by
  obtain ⟨m1, m2, m3, m4, m5, m6, m7⟩ := id hm
  obtain ⟨b1, b2, b3, b4⟩ := id hb
  have hs : (mS M q).1 = 4 := by rw [m1]
  unfold m_X4_addUnit jn
  dsimp only
  rw [dP_at hs, m2, dI_at hs, m3, dI_at hs, m4, rc_at (by rw [h.1.1]), groupOf_c h hπ (by omega) b1, cl_some, dI_at hs, m5]
  have hg := grp_le π fr s.1
  by_cases hgr : grp π fr s.1 = s.2.1
  · rw [if_pos (by rw [hgr])]
    obtain ⟨M', e, g1, g2⟩ := addTail_c h hπ hq hm hb (fun M18 => rt () M18)
    refine ⟨M', e, ?_, g2⟩
    have e2 : stp π fr s = (s.1 + pB π (bandIx π s.1) 2, s.2.1, s.2.2.1, s.2.2.2 + pB π (bandIx π s.1) 1) := by
      unfold stp; rw [if_pos hgr, if_pos hgr, hgr]
    rw [e2]; exact g1
  · rw [if_neg (fun h9 => hgr ((i_eq (by omega) (by omega)).mp h9)), dI_at hs, m6, dP_at hs, m2, dI_at hs, m7, rc_at (by rw [h.1.1]), capped_c h hπ (by omega), cl_some, nI_add, pI_at hs, pI_at (by rw [mS_uI]; exact hs), pI_at (by rw [mS_uI, mS_uI]; exact hs)]
    have f1 : Fr q M (uI (uI (uI M (32 * 4 + 4) q (nI (s.2.2.1 + capd π s.2.2.2))) (32 * 4 + 5) q 0) (32 * 4 + 3) q (nI (grp π fr s.1))) := ((Fr.rfl'.u _ _).u _ _).u _ _
    have hcl := capd_le (π := π) s.2.2.2
    have hm2 : MeterIs (uI (uI (uI M (32 * 4 + 4) q (nI (s.2.2.1 + capd π s.2.2.2))) (32 * 4 + 5) q 0) (32 * 4 + 3) q (nI (grp π fr s.1))) q A fr (s.1, grp π fr s.1, s.2.2.1 + capd π s.2.2.2, 0) := by
      refine ⟨m1, m2, ?_, ?_, ?_, ?_, ?_⟩
      · rw [mI_uI, if_neg (by omega), mI_uI, if_neg (by omega), mI_uI, if_neg (by omega)]; exact m3
      · rw [mI_uI, if_neg (by omega), mI_uI, if_neg (by omega), mI_uI, if_neg (by omega)]; exact m4
      · rw [mI_uI, if_pos ⟨rfl, rfl⟩]
      · rw [mI_uI, if_neg (by omega), mI_uI, if_neg (by omega), mI_uI, if_pos ⟨rfl, rfl⟩]
      · rw [mI_uI, if_neg (by omega), mI_uI, if_pos ⟨rfl, rfl⟩]; rfl
    obtain ⟨M', e, g1, g2⟩ := addTail_c (h.fr hπ f1 hq) hπ hq hm2 ⟨b1, b2, by show grp π fr s.1 ≤ _; omega, by show s.2.2.1 + capd π s.2.2.2 + 0 ≤ _; omega⟩ (fun M18 => rt () M18)
    refine ⟨M', e, ?_, f1.trans g2⟩
    have e2 : stp π fr s = (s.1 + pB π (bandIx π s.1) 2, grp π fr s.1, s.2.2.1 + capd π s.2.2.2, 0 + pB π (bandIx π s.1) 1) := by
      unfold stp; rw [if_neg hgr, if_neg hgr]
    rw [e2]; exact g1
theorem amount_c {M : Mem} {q A fr : Nat} {π : PD} {s : MS} (h : PlC M A π) (hπ : GP π) (hm : MeterIs M q A fr s) (hb : MB fr s) : m_X4_amount M (some q) = some (nI (amt π s), M) := by
  obtain ⟨m1, m2, m3, m4, m5, m6, m7⟩ := hm
  obtain ⟨b1, b2, b3, b4⟩ := hb
  have hs : (mS M q).1 = 4 := by rw [m1]
  unfold m_X4_amount
  rw [dI_at hs, m6, dP_at hs, m2, dI_at hs, m7, rc_at (by rw [h.1.1]), capped_c h hπ (by omega), cl_some, nI_add]; rfl
theorem stn_MB {π : PD} (hπ : GP π) {fr k : Nat} (hf : fr ≤ 100000) (hk : k ≤ 20100) : MB fr (stn π fr k) := by
  obtain ⟨h1, h2, h3⟩ := stn_bd hπ fr k
  have h4 := stn_g hπ fr k
  exact ⟨by omega, by omega, by omega, by omega⟩
/-! ===== the fee ===== -/
/-- the number of units that begin before 'to', up to f -/
def unitsTo (π : PD) (fr to : Nat) : Nat → Nat → Nat
  | 0, k => k
  | f + 1, k => if (stn π fr k).1 < to then unitsTo π fr to f (k + 1) else k
def feeS (π : PD) (fr to : Nat) : Nat := if to - fr ≤ pFree π then 0 else amt π (stn π fr (unitsTo π fr to 20000 0))
theorem unitsTo_bd (π : PD) (fr to : Nat) : ∀ f k, unitsTo π fr to f k ≤ k + f ∧ k ≤ unitsTo π fr to f k := by
  intro f
  induction f with
  | zero => intro k; exact ⟨Nat.le_refl _, Nat.le_refl _⟩
  | succ f ih =>
    intro k
    unfold unitsTo
    split
    · have := ih (k + 1); omega
    · omega
theorem amt_bd {π : PD} (hπ : GP π) (fr k : Nat) : amt π (stn π fr k) ≤ 999 * k := by
  have h := (stn_bd hπ fr k).2.2
  have := capd_le (π := π) (stn π fr k).2.2.2
  unfold amt; omega
theorem feeS_bd {π : PD} (hπ : GP π) (fr to : Nat) : feeS π fr to ≤ 19980000 := by
  unfold feeS
  split
  · omega
  · have h1 := amt_bd hπ fr (unitsTo π fr to 20000 0)
    have h2 := (unitsTo_bd π fr to 20000 0).1
    omega
theorem feeLoop_c {q A fr to : Nat} {π : PD} (hπ : GP π) (hq : A + 8 ≤ q) (hf : fr ≤ 100000) (ht : to ≤ 100000) (J : Mem → Option (Int32 × Mem)) : ∀ (f k fu : Nat) (M : Mem), k + f = 20000 → f < fu → PlC M A π → MeterIs M q A fr (stn π fr k) →
    ∃ M', lp (b_X5_feeOfStay_25 (nI to) (some q) J) fu (nI k, M) = J M' ∧ MeterIs M' q A fr (stn π fr (unitsTo π fr to f k)) ∧ Fr q M M' := by
  intro f
  have e2 : (20000 : Int32) = nI 20000 := rfl
  induction f with
  | zero =>
    intro k fu M hk hfu h hm
    obtain ⟨fu, rfl⟩ : ∃ z, fu = z + 1 := ⟨fu - 1, by omega⟩
    rw [lp_succ, b_X5_feeOfStay_25, e2, if_pos ((i_le (by omega) (by omega)).mpr (by omega))]
    exact ⟨M, rfl, hm, Fr.rfl'⟩
  | succ f ih =>
    intro k fu M hk hfu h hm
    obtain ⟨fu, rfl⟩ : ∃ z, fu = z + 1 := ⟨fu - 1, by omega⟩
    have hb := stn_MB hπ hf (show k ≤ 20100 by omega)
    rw [lp_succ, b_X5_feeOfStay_25, e2, if_neg (fun h9 => absurd ((i_le (by omega) (by omega)).mp h9) (by omega)), dI_at (by rw [hm.1]), hm.2.2.2.1]
    by_cases hc : (stn π fr k).1 < to
    · rw [if_neg (fun h9 => absurd ((i_le (by omega) (by have := hb.2.1; omega)).mp h9) (by omega)), rc_at (by rw [hm.1])]
      obtain ⟨M1, e, g1, g2⟩ := addUnit_c h hπ hq hm hb
      rw [e, cl_some, nI_1]
      obtain ⟨M2, e3, g3, g4⟩ := ih (k + 1) fu M1 (by omega) (by omega) (h.fr hπ g2 hq) g1
      refine ⟨M2, e3, ?_, g2.trans g4⟩
      have e4 : unitsTo π fr to (f + 1) k = unitsTo π fr to f (k + 1) := by show (if _ then _ else _) = _; rw [if_pos hc]
      rw [e4]; exact g3
    · rw [if_pos ((i_le (by omega) (by have := hb.2.1; omega)).mpr (by omega))]
      have e4 : unitsTo π fr to (f + 1) k = k := by show (if _ then _ else _) = _; rw [if_neg hc]
      exact ⟨M, rfl, by rw [e4]; exact hm, Fr.rfl'⟩
/-- M' is M with up to d cells more: nothing below has changed -/
def Gr (d : Nat) (M M' : Mem) : Prop := mN M ≤ mN M' ∧ mN M' ≤ mN M + d ∧ mL M' ≤ mL M + 6 * d ∧ ∀ a, a < mN M → mS M' a = mS M a ∧ (∀ k, mI M' k a = mI M k a) ∧ (∀ k, mF M' k a = mF M k a) ∧ ∀ k, mP M' k a = mP M k a
theorem Gr.rfl' {M : Mem} : Gr 0 M M := ⟨Nat.le_refl _, Nat.le_refl _, Nat.le_refl _, fun _ _ => ⟨rfl, fun _ => rfl, fun _ => rfl, fun _ => rfl⟩⟩
theorem Gr.trans {d e : Nat} {M M1 M2 : Mem} (h1 : Gr d M M1) (h2 : Gr e M1 M2) : Gr (d + e) M M2 := by
  refine ⟨Nat.le_trans h1.1 h2.1, by have := h1.2.1; have := h2.2.1; omega, by have := h1.2.2.1; have := h2.2.2.1; omega, fun a ha => ?_⟩
  have g1 := h1.2.2.2 a ha
  have g2 := h2.2.2.2 a (Nat.lt_of_lt_of_le ha h1.1)
  exact ⟨g2.1.trans g1.1, fun k => (g2.2.1 k).trans (g1.2.1 k), fun k => (g2.2.2.1 k).trans (g1.2.2.1 k), fun k => (g2.2.2.2 k).trans (g1.2.2.2 k)⟩
theorem Gr.mono {d e : Nat} {M M1 : Mem} (h1 : Gr d M M1) (h : d ≤ e) : Gr e M M1 := ⟨h1.1, by have := h1.2.1; omega, by have := h1.2.2.1; omega, h1.2.2.2⟩
/-- a meter made: what the rest of the class's code does to it stays above -/
theorem Gr.meter {M M1 M' : Mem} {A : Nat} (h1 : Fr (mN M) (uP (nw M (4, 0) 6) 128 (mN M) (some A)) M1) (h2 : Fr (mN M) M1 M') : Gr 1 M M' := by
  have h := h1.trans h2
  have hN : mN M' = mN M + 1 := h.N
  have hL : mL M' = mL M + 6 := h.L
  refine ⟨by omega, by omega, by omega, fun a ha => ⟨?_, fun k => ?_, fun k => ?_, fun k => ?_⟩⟩
  · rw [h.S, mS_uP, mS_nw, if_neg (by omega)]
  · rw [h.2 k a (by omega), mI_uP, mI_nw, if_neg (by omega)]
  · rw [h.F, mF_uP, mF_nw, if_neg (by omega)]
  · rw [h.P, mP_uP, if_neg (by omega), mP_nw, if_neg (by omega)]
theorem feeOfStay_c {M : Mem} {A fr to : Nat} {π : PD} (h : PlC M A π) (hπ : GP π) (hA : A + 8 ≤ mN M) (hn : mN M < 900000) (hf : fr ≤ to) (ht : to ≤ 100000) :
    ∃ M', m_X5_feeOfStay M (some A) (nI fr) (nI to) = some (nI (feeS π fr to), M') ∧ Gr 1 M M' := by
  unfold m_X5_feeOfStay
  rw [dI_at (by rw [h.1.1]), h.2.1, pk_sub hf]
  have hfr := hπ.1
  by_cases hc : to - fr ≤ pFree π
  · rw [if_neg (fun h9 => absurd ((i_lt (by omega) (by omega)).mp h9) (by omega))]
    refine ⟨M, ?_, Gr.rfl'.mono (by omega)⟩
    unfold feeS rt; rw [if_pos hc]; rfl
  · rw [if_pos ((i_lt (by omega) (by omega)).mpr (by omega)), nO_at hn]
    have hs : mS (nw M (4, 0) 6) (mN M) = (4, 0) := by rw [mS_nw, if_pos rfl]
    have h2 : PlC (nw M (4, 0) 6) A π := h.of hπ (fun a _ h9 => by rw [mS_nw, if_neg (by omega)]) (fun k a _ h9 => by rw [mP_nw, if_neg (by omega)]) (fun k a _ h9 => by rw [mI_nw, if_neg (by omega)])
    obtain ⟨M1, e1, g1, g2⟩ := meterInit_c (q := mN M) (fr := fr) h2 hπ hA hs (fun k => by rw [mI_nw, if_pos rfl]) (by omega)
    rw [rc_at (by rw [hs]), e1, cl_some]
    have h3 : PlC M1 A π := (h2.of hπ (M' := uP (nw M (4, 0) 6) 128 (mN M) (some A)) (fun a _ _ => rfl) (fun k a _ h9 => by rw [mP_uP, if_neg (by omega)]) (fun k a _ _ => rfl)).fr hπ g2 hA
    unfold jn
    dsimp only
    obtain ⟨M2, e2, g3, g4⟩ := feeLoop_c (to := to) hπ hA (by omega) ht (fun (M6 : Mem) => rc M6 4 (some (mN M)) (cl (m_X4_amount M6 (some (mN M))) (fun (x8 : Int32) (M7 : Mem) => rt x8 M7))) 20000 0 FU M1 (by omega) (by show 20000 < 1000000; omega) h3 g1
    have e0 : (0 : Int32) = nI 0 := rfl
    rw [e0, e2]
    have hbu := (unitsTo_bd π fr to 20000 0).1
    rw [rc_at (by rw [g3.1]), amount_c (h3.fr hπ g4 hA) hπ g3 (stn_MB hπ (by omega) (by omega)), cl_some]
    refine ⟨M2, ?_, Gr.meter g2 g4⟩
    unfold feeS rt; rw [if_neg hc]
