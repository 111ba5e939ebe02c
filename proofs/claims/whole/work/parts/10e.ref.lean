/-! ===== the reference: its row, a plan in it, its units ===== -/
/-- M' is M but for the reference's five scratch numbers -/
def Sc (M M' : Mem) : Prop := M'.2 = M.2 ∧ ∀ k a, ¬ (a = 2179 ∧ 361 ≤ k ∧ k ≤ 365) → mI M' k a = mI M k a
theorem Sc.rfl' {M : Mem} : Sc M M := ⟨rfl, fun _ _ _ => rfl⟩
theorem Sc.trans {M M1 M2 : Mem} (h1 : Sc M M1) (h2 : Sc M1 M2) : Sc M M2 := ⟨h2.1.trans h1.1, fun k a h => (h2.2 k a h).trans (h1.2 k a h)⟩
theorem Sc.u {M M1 : Mem} (h1 : Sc M M1) (k : Nat) (x : Int32) (hk : 361 ≤ k ∧ k ≤ 365) : Sc M (uI M1 k 2179 x) := ⟨h1.1, fun k' a h => by rw [mI_uI, if_neg (fun h9 => h ⟨h9.2, by omega⟩)]; exact h1.2 k' a h⟩
theorem Sc.S {M M1 : Mem} (h : Sc M M1) (a : Nat) : mS M1 a = mS M a := by unfold mS; rw [h.1]
theorem Sc.P {M M1 : Mem} (h : Sc M M1) (k a : Nat) : mP M1 k a = mP M k a := by unfold mP; rw [h.1]
theorem Sc.F {M M1 : Mem} (h : Sc M M1) (k a : Nat) : mF M1 k a = mF M k a := by unfold mF; rw [h.1]
theorem Sc.N {M M1 : Mem} (h : Sc M M1) : mN M1 = mN M := by unfold mN; rw [h.1]
theorem Sc.L {M M1 : Mem} (h : Sc M M1) : mL M1 = mL M := by unfold mL; rw [h.1]
theorem Sc.Lay {M M1 : Mem} (h : Sc M M1) (hL : Lay M) : Lay M1 := ⟨by rw [h.N]; exact hL.1, fun a ha => ⟨(h.S a).trans (hL.S ha), fun k => (h.P k a).trans (hL.P ha k)⟩⟩
theorem Sc.R {M M1 : Mem} (h : Sc M M1) (k : Nat) {a : Nat} (ha : a ≠ 2179) : mI M1 k a = mI M k a := h.2 k a (fun h9 => ha h9.1)
theorem PlR.of {M M' : Mem} {S o : Nat} {π : PD} (h : PlR M S o π) (hI : ∀ k, mI M' k S = mI M k S) : PlR M' S o π :=
  ⟨(hI _).trans h.1, (hI _).trans h.2.1, (hI _).trans h.2.2.1, (hI _).trans h.2.2.2.1, (hI _).trans h.2.2.2.2.1, fun b hb j hj => (hI _).trans (h.2.2.2.2.2 b hb j hj)⟩
theorem SM (M : Mem) (h : Lay M) : mS M 2179 = (11, 0) := h.S (by omega)
theorem S1 (M : Mem) (h : Lay M) : (mS M 2179).1 = 11 := by rw [SM M h]
theorem P_s (M : Mem) (h : Lay M) : mP M 352 2179 = some 2180 := h.P (by omega) 352
theorem S_s (M : Mem) (h : Lay M) : mS M 2180 = (100, 6889) := h.S (by omega)
theorem of_r {M : Mem} (h : Lay M) {i w : Nat} (hi : i < 4) (hw : w < 23) : m_X11_of M (some 2179) (nI i) (nI w) = some (mI M (1000 + (10 + 23 * i + w)) 2180, M) := by
  unfold m_X11_of
  have e1 : (10 : Int32) = nI 10 := rfl
  have e2 : (23 : Int32) = nI 23 := rfl
  rw [dP_at (S1 M h), e1, e2, pk_mul, nI_add, nI_add]
  show aI M 100 (mP M 352 2179) _ _ = _
  rw [P_s M h, aI_at (S_s M h) (by omega) (by omega)]; rfl
theorem bandPart_r {M : Mem} (h : Lay M) {i b j : Nat} (hi : i < 4) (hb : b < 6) (hj : j < 3) : m_X11_bandPart M (some 2179) (nI i) (nI b) (nI j) = some (mI M (1000 + (10 + 23 * i + 5 + 3 * b + j)) 2180, M) := by
  unfold m_X11_bandPart
  have e1 : (5 : Int32) = nI 5 := rfl
  have e2 : (3 : Int32) = nI 3 := rfl
  rw [rc_at (S1 M h), e1, e2, pk_mul, nI_add, nI_add, of_r h hi (by omega), cl_some]
  have e3 : 10 + 23 * i + (5 + 3 * b + j) = 10 + 23 * i + 5 + 3 * b + j := by omega
  rw [e3]; rfl
theorem groupOf_r {M : Mem} (h : Lay M) {i fr n : Nat} {π : PD} (hi : i < 4) (hR : PlR M 2180 (10 + 23 * i) π) (hπ : GP π) (hat : mI M 361 2179 = nI n) (hn : n < 2147483648) (hf : fr ≤ n) : m_X11_groupOf M (some 2179) (nI i) (nI fr) = some (nI (grp π fr n), M) := by
  unfold m_X11_groupOf
  have e1 : (1440 : Int32) = nI 1440 := rfl
  have e0 : (0 : Int32) = nI 0 := rfl
  have hw := hπ.2.2.1
  rw [rc_at (S1 M h), (show m_X11_of M (some 2179) (nI i) 2 = _ from of_r h hi (w := 2) (by omega)), cl_some, hR.2.2.1, dI_at (S1 M h), dI_at (S1 M h), hat, e1, pk_sub hf, i_div (a := n) hn (by omega) (by omega), i_div (a := n - fr) (by omega) (by omega) (by omega)]
  unfold grp rt
  by_cases hc : pWay π = 1
  · rw [if_pos (by rw [hc]; decide), if_pos hc]
  · rw [if_neg (by rw [show pWay π = 0 by omega]; decide), if_neg hc]
theorem capped_r {M : Mem} (h : Lay M) {i x : Nat} {π : PD} (hi : i < 4) (hR : PlR M 2180 (10 + 23 * i) π) (hπ : GP π) (hx : x < 2147483648) : m_X11_capped M (some 2179) (nI i) (nI x) = some (nI (capd π x), M) := by
  unfold m_X11_capped
  have e0 : (0 : Int32) = nI 0 := rfl
  have hc9 := hπ.2.1
  have hof : m_X11_of M (some 2179) (nI i) 1 = some (nI (pCap π), M) := by rw [(show m_X11_of M (some 2179) (nI i) 1 = _ from of_r h hi (w := 1) (by omega)), hR.2.1]
  rw [rc_at (S1 M h), hof, cl_some, rc_at (S1 M h), hof, cl_some, rc_at (S1 M h), hof, cl_some]
  unfold capd rt
  by_cases hc : pCap π = 0
  · rw [hc, if_pos (by decide), if_neg (by omega)]
  · rw [if_pos hc, e0, if_neg (fun h9 => absurd ((i_le (by omega) (by omega)).mp h9) (by omega))]
    by_cases hd : x ≤ pCap π
    · rw [if_pos ((i_le (by omega) (by omega)).mpr hd)]; congr 3; omega
    · rw [if_neg (fun h9 => hd ((i_le (by omega) (by omega)).mp h9))]; congr 3; omega
theorem bandAtL_r {M : Mem} (h : Lay M) {i n : Nat} {π : PD} (hi : i < 4) (hR : PlR M 2180 (10 + 23 * i) π) (hπ : GP π) (hn : n < 2147483648) : ∀ (b fu : Nat), b < pCnt π → b < fu → (∀ c, b < c → c < pCnt π → ¬ pB π c 0 ≤ n % 1440) → lp (b_X11_bandAt_9 (some 2179) (nI i) (nI n)) fu (nI b, M) = some (nI (bandIx π n), M) := by
  have hc6 := hπ.2.2.2.2.2.1
  have e1 : (1440 : Int32) = nI 1440 := rfl
  have e0 : (0 : Int32) = nI 0 := rfl
  intro b
  induction b with
  | zero =>
    intro fu hb hfu hall
    obtain ⟨fu, rfl⟩ : ∃ z, fu = z + 1 := ⟨fu - 1, by omega⟩
    rw [lp_succ, b_X11_bandAt_9, rc_at (S1 M h), e0, bandPart_r h hi (by omega) (by omega), cl_some, hR.2.2.2.2.2 0 hb 0 (by omega), e1, i_rem hn (by omega) (by omega)]
    have h0 : pB π 0 0 = 0 := hπ.2.2.2.2.2.2.1
    rw [if_pos ((i_le (by omega) (by omega)).mpr (by omega)), ← bandIx_uniq hπ (r := 0) hb (by omega) hall]; rfl
  | succ b ih =>
    intro fu hb hfu hall
    obtain ⟨fu, rfl⟩ : ∃ z, fu = z + 1 := ⟨fu - 1, by omega⟩
    have hGB := hπ.2.2.2.2.2.2.2 _ hb
    rw [lp_succ, b_X11_bandAt_9, rc_at (S1 M h), e0, bandPart_r h hi (by omega) (by omega), cl_some, hR.2.2.2.2.2 _ hb 0 (by omega), e1, i_rem hn (by omega) (by omega)]
    by_cases hc : pB π (b + 1) 0 ≤ n % 1440
    · rw [if_pos ((i_le (by omega) (by omega)).mpr hc), ← bandIx_uniq hπ hb hc hall]; rfl
    · rw [if_neg (fun h9 => hc ((i_le (by omega) (by omega)).mp h9))]
      have e2 : nI (b + 1) - 1 = nI b := nI_pred b
      rw [e2]
      refine ih fu (by omega) (by omega) (fun c h1 h2 => ?_)
      by_cases hcb : c = b + 1
      · rw [hcb]; exact hc
      · exact hall c (by omega) h2
theorem bandAt_r {M : Mem} (h : Lay M) {i n : Nat} {π : PD} (hi : i < 4) (hR : PlR M 2180 (10 + 23 * i) π) (hπ : GP π) (hn : n < 2147483648) : m_X11_bandAt M (some 2179) (nI i) (nI n) = some (nI (bandIx π n), M) := by
  unfold m_X11_bandAt
  have hc1 := hπ.2.2.2.2.1
  have hc6 := hπ.2.2.2.2.2.1
  rw [rc_at (S1 M h), (show m_X11_of M (some 2179) (nI i) 4 = _ from of_r h hi (w := 4) (by omega)), cl_some, hR.2.2.2.2.1]
  obtain ⟨c, hc⟩ : ∃ c, pCnt π = c + 1 := ⟨pCnt π - 1, by omega⟩
  have e2 : nI (pCnt π) - 1 = nI c := by rw [hc]; exact nI_pred c
  rw [e2]
  exact bandAtL_r h hi hR hπ hn c FU (by omega) (by show c < 1000000; omega) (fun z h1 h2 => by omega)
/-- the reference's scratch holds s (before the first unit its group is -1), and the total -/
def RefIs (M : Mem) (π : PD) (fr : Nat) (s : MS) (tot : Nat) : Prop := mI M 361 2179 = nI s.1 ∧ (mI M 362 2179 = nI s.2.1 ∨ (mI M 362 2179 = -1 ∧ s = s0 π fr)) ∧ mI M 363 2179 = nI s.2.2.2 ∧ mI M 364 2179 = nI s.2.2.1 ∧ mI M 365 2179 = nI tot
theorem begins_r {M : Mem} (h : Lay M) (π : PD) (fr : Nat) : ∃ M', m_X11_begins M (some 2179) (nI fr) = some ((), M') ∧ RefIs M' π fr (s0 π fr) 0 ∧ Sc M M' := by
  unfold m_X11_begins
  have hs := S1 M h
  rw [pI_at hs, pI_at (by rw [mS_uI]; exact hs), pI_at (by rw [mS_uI, mS_uI]; exact hs), pI_at (by rw [mS_uI, mS_uI, mS_uI]; exact hs), pI_at (by rw [mS_uI, mS_uI, mS_uI, mS_uI]; exact hs)]
  refine ⟨_, rfl, ⟨?_, Or.inr ⟨?_, rfl⟩, ?_, ?_, ?_⟩, ((((Sc.rfl'.u _ _ (by omega)).u _ _ (by omega)).u _ _ (by omega)).u _ _ (by omega)).u _ _ (by omega)⟩
  · rw [mI_uI, if_neg (by omega), mI_uI, if_neg (by omega), mI_uI, if_neg (by omega), mI_uI, if_neg (by omega), mI_uI, if_pos ⟨rfl, rfl⟩]; rfl
  · rw [mI_uI, if_neg (by omega), mI_uI, if_neg (by omega), mI_uI, if_neg (by omega), mI_uI, if_pos ⟨rfl, rfl⟩]
  · rw [mI_uI, if_neg (by omega), mI_uI, if_neg (by omega), mI_uI, if_pos ⟨rfl, rfl⟩]; rfl
  · rw [mI_uI, if_neg (by omega), mI_uI, if_pos ⟨rfl, rfl⟩]; rfl
  · rw [mI_uI, if_pos ⟨rfl, rfl⟩]; rfl
theorem addsTail_r {M : Mem} (h : Lay M) {i fr : Nat} {π : PD} (hi : i < 4) (hR : PlR M 2180 (10 + 23 * i) π) (hπ : GP π) {s : MS} {tot : Nat} (hm : RefIs M π fr s tot) (hg : mI M 362 2179 = nI s.2.1) (hb : MB fr s) (K : Mem → Option (Unit × Mem)) :
    ∃ M', dI M 11 9 (some 2179) (fun (x6 : Int32) => rc M 11 (some 2179) (cl (m_X11_bandAt M (some 2179) (nI i) x6) (fun (x8 : Int32) (M7 : Mem) => dI M7 11 11 (some 2179) (fun (x9 : Int32) => rc M7 11 (some 2179) (cl (m_X11_bandPart M7 (some 2179) (nI i) x8 1) (fun (x11 : Int32) (M10 : Mem) => pI M10 11 11 (some 2179) ((x9 + x11)) (fun (M12 : Mem) => dI M12 11 12 (some 2179) (fun (x13 : Int32) => dI M12 11 11 (some 2179) (fun (x14 : Int32) => rc M12 11 (some 2179) (cl (m_X11_capped M12 (some 2179) (nI i) x14) (fun (x16 : Int32) (M15 : Mem) => pI M15 11 13 (some 2179) ((x13 + x16)) (fun (M17 : Mem) => dI M17 11 9 (some 2179) (fun (x18 : Int32) => rc M17 11 (some 2179) (cl (m_X11_bandPart M17 (some 2179) (nI i) x8 2) (fun (x20 : Int32) (M19 : Mem) => pI M19 11 9 (some 2179) ((x18 + x20)) K))))))))))))))) = K M' ∧
      RefIs M' π fr (s.1 + pB π (bandIx π s.1) 2, s.2.1, s.2.2.1, s.2.2.2 + pB π (bandIx π s.1) 1) (s.2.2.1 + capd π (s.2.2.2 + pB π (bandIx π s.1) 1)) ∧ Sc M M' := by
  obtain ⟨m1, m2, m3, m4, m5⟩ := hm
  obtain ⟨b1, b2, b3, b4⟩ := hb
  have hs := S1 M h
  have hbi := (bandIx_spec hπ s.1).1
  have hc := hπ.2.2.2.2.2.1
  have hGB := hπ.2.2.2.2.2.2.2 _ hbi
  rw [dI_at hs, m1, rc_at hs, bandAt_r h hi hR hπ (by omega), cl_some, dI_at hs, m3, rc_at hs, (show m_X11_bandPart M (some 2179) (nI i) (nI (bandIx π s.1)) 1 = _ from bandPart_r h hi (j := 1) (by omega) (by omega)), cl_some, hR.2.2.2.2.2 _ hbi 1 (by omega), nI_add, pI_at hs]
  obtain ⟨M1, hM1⟩ : ∃ M1, M1 = uI M (32 * 11 + 11) 2179 (nI (s.2.2.2 + pB π (bandIx π s.1) 1)) := ⟨_, rfl⟩
  rw [← hM1]
  have f1 : Sc M M1 := by rw [hM1]; exact Sc.rfl'.u _ _ (by omega)
  have h1 := f1.Lay h
  have hR1 : PlR M1 2180 (10 + 23 * i) π := hR.of (fun k => f1.R k (by omega))
  have r1 : mI M1 361 2179 = nI s.1 := by rw [hM1, mI_uI, if_neg (by omega)]; exact m1
  have r2 : mI M1 362 2179 = nI s.2.1 := by rw [hM1, mI_uI, if_neg (by omega)]; exact hg
  have r3 : mI M1 363 2179 = nI (s.2.2.2 + pB π (bandIx π s.1) 1) := by rw [hM1, mI_uI, if_pos ⟨rfl, rfl⟩]
  have r4 : mI M1 364 2179 = nI s.2.2.1 := by rw [hM1, mI_uI, if_neg (by omega)]; exact m4
  rw [dI_at (S1 _ h1), dI_at (S1 _ h1), r4, r3, rc_at (S1 _ h1), capped_r h1 hi hR1 hπ (by omega), cl_some, nI_add, pI_at (S1 _ h1)]
  obtain ⟨M2, hM2⟩ : ∃ M2, M2 = uI M1 (32 * 11 + 13) 2179 (nI (s.2.2.1 + capd π (s.2.2.2 + pB π (bandIx π s.1) 1))) := ⟨_, rfl⟩
  rw [← hM2]
  have f2 : Sc M M2 := by rw [hM2]; exact f1.u _ _ (by omega)
  have h2 := f2.Lay h
  have hR2 : PlR M2 2180 (10 + 23 * i) π := hR.of (fun k => f2.R k (by omega))
  have q1 : mI M2 361 2179 = nI s.1 := by rw [hM2, mI_uI, if_neg (by omega)]; exact r1
  rw [dI_at (S1 _ h2), q1, rc_at (S1 _ h2), (show m_X11_bandPart _ (some 2179) (nI i) (nI (bandIx π s.1)) 2 = _ from bandPart_r h2 hi (j := 2) (by omega) (by omega)), cl_some, hR2.2.2.2.2.2 _ hbi 2 (by omega), nI_add, pI_at (S1 _ h2)]
  refine ⟨_, rfl, ⟨?_, Or.inl ?_, ?_, ?_, ?_⟩, f2.u _ _ (by omega)⟩
  · rw [mI_uI, if_pos ⟨rfl, rfl⟩]
  · rw [mI_uI, if_neg (by omega), hM2, mI_uI, if_neg (by omega)]; exact r2
  · rw [mI_uI, if_neg (by omega), hM2, mI_uI, if_neg (by omega)]; exact r3
  · rw [mI_uI, if_neg (by omega), hM2, mI_uI, if_neg (by omega)]; exact r4
  · rw [mI_uI, if_neg (by omega), hM2, mI_uI, if_pos ⟨rfl, rfl⟩]
theorem adds_r {M : Mem} (h : Lay M) {i fr : Nat} {π : PD} (hi : i < 4) (hR : PlR M 2180 (10 + 23 * i) π) (hπ : GP π) {s : MS} {tot : Nat} (hm : RefIs M π fr s tot) (hb : MB fr s) :
    ∃ M', m_X11_adds M (some 2179) (nI i) (nI fr) = some ((), M') ∧ RefIs M' π fr (stp π fr s) (amt π (stp π fr s)) ∧ Sc M M' := by
  obtain ⟨m1, m2, m3, m4, m5⟩ := id hm
  obtain ⟨b1, b2, b3, b4⟩ := id hb
  have hs := S1 M h
  have hg := grp_le π fr s.1
  unfold m_X11_adds jn
  dsimp only
  rw [rc_at hs, groupOf_r h hi hR hπ m1 (by omega) b1, cl_some, dI_at hs]
  by_cases hgr : mI M 362 2179 = nI (grp π fr s.1)
  · rw [if_pos (by show nI (grp π fr s.1) = mI M 362 2179; rw [hgr])]
    have hg2 : mI M 362 2179 = nI s.2.1 ∧ grp π fr s.1 = s.2.1 := by
      rcases m2 with e | ⟨e, -⟩
      · rw [e] at hgr
        exact ⟨e, ((i_eq (by omega) (by omega)).mp hgr).symm⟩
      · rw [e] at hgr
        have h5 := congrArg Int32.toInt hgr
        rw [tI _ (by omega)] at h5
        have e5 : ((-1 : Int32)).toInt = -1 := by decide
        omega
    obtain ⟨M', e, g1, g2⟩ := addsTail_r h hi hR hπ hm hg2.1 hb (fun M21 => rt () M21)
    refine ⟨M', e, ?_, g2⟩
    have e2 : stp π fr s = (s.1 + pB π (bandIx π s.1) 2, s.2.1, s.2.2.1, s.2.2.2 + pB π (bandIx π s.1) 1) := by
      unfold stp; rw [if_pos hg2.2, if_pos hg2.2, hg2.2]
    rw [e2]; exact g1
  · rw [if_neg (by show ¬ nI (grp π fr s.1) = mI M 362 2179; exact fun h9 => hgr h9.symm), dI_at hs, m4, dI_at hs, m3, rc_at hs, capped_r h hi hR hπ (by omega), cl_some, nI_add, pI_at hs, pI_at (by rw [mS_uI]; exact hs), pI_at (by rw [mS_uI, mS_uI]; exact hs)]
    have f1 : Sc M (uI (uI (uI M (32 * 11 + 12) 2179 (nI (s.2.2.1 + capd π s.2.2.2))) (32 * 11 + 11) 2179 0) (32 * 11 + 10) 2179 (nI (grp π fr s.1))) := ((Sc.rfl'.u _ _ (by omega)).u _ _ (by omega)).u _ _ (by omega)
    have hcl := capd_le (π := π) s.2.2.2
    have hm2 : RefIs (uI (uI (uI M (32 * 11 + 12) 2179 (nI (s.2.2.1 + capd π s.2.2.2))) (32 * 11 + 11) 2179 0) (32 * 11 + 10) 2179 (nI (grp π fr s.1))) π fr (s.1, grp π fr s.1, s.2.2.1 + capd π s.2.2.2, 0) tot := by
      refine ⟨?_, Or.inl ?_, ?_, ?_, ?_⟩
      · rw [mI_uI, if_neg (by omega), mI_uI, if_neg (by omega), mI_uI, if_neg (by omega)]; exact m1
      · rw [mI_uI, if_pos ⟨rfl, rfl⟩]
      · rw [mI_uI, if_neg (by omega), mI_uI, if_pos ⟨rfl, rfl⟩]; rfl
      · rw [mI_uI, if_neg (by omega), mI_uI, if_neg (by omega), mI_uI, if_pos ⟨rfl, rfl⟩]
      · rw [mI_uI, if_neg (by omega), mI_uI, if_neg (by omega), mI_uI, if_neg (by omega)]; exact m5
    obtain ⟨M', e, g1, g2⟩ := addsTail_r (f1.Lay h) hi (hR.of (fun k => f1.R k (by omega))) hπ hm2 (by rw [mI_uI, if_pos ⟨rfl, rfl⟩]) ⟨b1, b2, by show grp π fr s.1 ≤ _; omega, by show s.2.2.1 + capd π s.2.2.2 + 0 ≤ _; omega⟩ (fun M21 => rt () M21)
    refine ⟨M', e, ?_, f1.trans g2⟩
    have e2 : stp π fr s = (s.1 + pB π (bandIx π s.1) 2, grp π fr s.1, s.2.2.1 + capd π s.2.2.2, 0 + pB π (bandIx π s.1) 1) := by
      by_cases hgs : grp π fr s.1 = s.2.1
      · rcases m2 with e5 | ⟨e5, e6⟩
        · exact absurd (by rw [e5, hgs]) hgr
        · have c0 : capd π 0 = 0 := by have := capd_le (π := π) 0; omega
          unfold stp
          rw [if_pos hgs, if_pos hgs, e6]
          show (_, _, 0, 0 + _) = (_, _, 0 + capd π 0, 0 + _)
          rw [c0]
      · unfold stp; rw [if_neg hgs, if_neg hgs]
    rw [e2]; exact g1
