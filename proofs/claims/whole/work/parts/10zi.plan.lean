section CLS4
variable {T : Nat → Nat} {L : Nat} {M0 M : Mem} {i p : Nat} {d : PD}
theorem KF.dset {c e k : Nat} {x : Int32} (h : KF M0 M i c e) : KF M0 (uI M k 2168 x) i c e := ⟨h.1.trans (Cfr.set (by omega)), (mI_ne (by omega)).trans h.2.1, (mI_ne (by omega)).trans h.2.2.1, (mI_ne (by omega)).trans h.2.2.2⟩
/-- a setting, and its number into the draft -/
theorem put_c (hL0 : Lay M0) (hT0 : TX T L M0) (h : KS M0 M i p d) (hd : pCnt d ≤ 6) (hp : p ≤ L) {hi j : Nat} (hhi : hi ≤ 9999) (K : Nat → PD) (hK : ∀ M1 q v, KS M0 M1 i q d → KS M0 (uI M1 (32 * 5 + j) 2168 (nI v)) i q (K v)) :
    Outc M0 i (settingP (stepN T L 32 p) hi K) (cl (m_X6_readSetting M (some 2165) (nI hi)) (fun (x32 : Int32) (M31 : Mem) => dP M31 6 2 (some 2165) (fun (q33 : Option Nat) => dP M31 6 1 (some 2165) (fun (q34 : Option Nat) => aI M31 100 q34 0 (fun (x35 : Int32) => pI M31 5 j q33 x35 (fun (M36 : Mem) => rtZ x32 M36)))))) := by
  obtain ⟨g1, g2⟩ := setting_c hL0 hT0 h hd hp hhi K
  refine ⟨fun h0 => ?_, fun h0 => ?_⟩
  · obtain ⟨M1, v, f1, f2, f3, f4⟩ := g1 h0
    have hL1 := f2.1.Lay hL0
    refine ⟨uI M1 (32 * 5 + j) 2168 (nI v), ?_, ?_⟩
    · rw [f1, cl_some, d62 hL1, d61 hL1, show aI M1 100 (some 2167) 0 _ = _ from aI_at (i := 0) (S67 hL1) (by omega) (by omega), show mI M1 (1000 + 0) 2167 = nI v from f3, pI_at (by rw [S5 hL1])]; rfl
    · rw [f4]; exact hK M1 _ v f2
  · obtain ⟨M1, f1, f2⟩ := g2 h0
    have hL1 := f2.1.Lay hL0
    refine ⟨uI M1 (32 * 5 + j) 2168 (mI M1 (1000 + 0) 2167), ?_, f2.dset⟩
    rw [f1, cl_some, d62 hL1, d61 hL1, show aI M1 100 (some 2167) 0 _ = _ from aI_at (i := 0) (S67 hL1) (by omega) (by omega), pI_at (by rw [S5 hL1])]; rfl
theorem KS.dr (h : KS M0 M i p d) {k : Nat} {x : Int32} {d' : PD} (hk : k ≠ 161) (hC : CDr M d → CDr (uI M k 2168 x) d') : KS M0 (uI M k 2168 x) i p d' := ⟨h.1.trans (Cfr.set (by omega)), (mI_ne (by omega)).trans h.2.1, (mI_ne (by omega)).trans h.2.2.1, hC h.2.2.2⟩
theorem CDr.rest {M1 : Mem} {d d' : PD} (h : CDr M d) (hd : pCnt d ≤ 6) (hc : pCnt d' = pCnt d) (hB : ∀ b j, pB d' b j = pB d b j) (h1 : ∀ k a, ¬ (a = 2168 ∧ k ≠ 161) → mI M1 k a = mI M k a) (c1 : mI M1 162 2168 = nI (pFree d')) (c2 : mI M1 163 2168 = nI (pCap d')) (c3 : mI M1 164 2168 = nI (pWay d')) (c4 : mI M1 165 2168 = nI (pLost d')) : CDr M1 d' := by
  obtain ⟨a1, a2, a3, a4, a5, a6, a7, a8⟩ := h
  refine ⟨c1, c2, c3, c4, by rw [hc]; exact (h1 _ _ (by omega)).trans a5, fun h => by rw [hc] at h ⊢; exact (h1 _ _ (by omega)).trans (a6 h), fun h => ?_, fun b hb => ?_⟩
  · rw [hc] at h
    obtain ⟨b1, b2, b3, b4⟩ := a7 h
    exact ⟨(h1 _ _ (by omega)).trans b1, (h1 _ _ (by omega)).trans b2, (h1 _ _ (by omega)).trans b3, (h1 _ _ (by omega)).trans b4⟩
  · rw [hc] at hb
    obtain ⟨b1, b2, b3⟩ := a8 b hb
    rw [hB, hB, hB]
    exact ⟨(h1 _ _ (by omega)).trans b1, (h1 _ _ (by omega)).trans b2, (h1 _ _ (by omega)).trans b3⟩
theorem ite10 (b : Bool) : ((if b = true then (1 : Int32) else 0) = 0) ↔ ¬ b = true := by cases b <;> simp
theorem clause_c (hL0 : Lay M0) (hT0 : TX T L M0) (h : KS M0 M i p d) (hg : GD d) (hp : p ≤ L) : Outc M0 i (clauseP T L d p) (m_X6_readClause M (some 2165)) := by
  have hL := h.1.Lay hL0
  have hT := h.1.TX hT0
  have hd5 := hg.2.2.2.2.1
  have h90 := hT.1
  obtain ⟨M2, f1, f2⟩ := skip_c (T := T) 91 p FU M hL hT h.2.1 hp (by omega) (Nat.le_of_lt (Nat.lt_trans (by omega) FU_1000))
  obtain ⟨q1, q2⟩ := skW_le (T := T) 91 p hp
  have h2 := h.pos hd5 f2
  have hL2 := h2.1.Lay hL0
  have hT2 := h2.1.TX hT0
  have w := fun (k : Nat) (hk : k < 5) => word_c (M := M2) hL2 hT2 hk q1 q2 h2.2.1
  obtain ⟨q, hq⟩ : ∃ q, q = skW T L 91 p := ⟨_, rfl⟩
  rw [← hq] at h2 q1 q2 w
  unfold m_X6_readClause clauseP clauseQ
  rw [i6 hL h.2.1, rc_at (by rw [S6 hL])]
  unfold m_X6_skipWord
  rw [f1, cl_some, ← hq, rc_at (by rw [S6 hL2]), w 0 (by omega), cl_some]
  by_cases h0 : wOk T 0 p q = true
  · rw [if_neg (fun h9 => (ite10 _).mp h9 h0), if_pos h0, rc_at (by rw [S6 hL2])]
    refine put_c hL0 hT0 h2 hd5 q2 (hi := 60) (j := 2) (by omega) _ (fun M1 q' v hk => hk.dr (by omega) (fun hc => ?_))
    obtain ⟨a1, a2, a3, a4, -⟩ := id hc
    exact hc.rest hd5 rfl (fun _ _ => rfl) (fun k a hn => mI_ne (by omega)) mI_eq ((mI_ne (by omega)).trans a2) ((mI_ne (by omega)).trans a3) ((mI_ne (by omega)).trans a4)
  · rw [if_pos ((ite10 _).mpr h0), if_neg h0, rc_at (by rw [S6 hL2]), w 1 (by omega), cl_some]
    by_cases h1 : wOk T 1 p q = true
    · rw [if_neg (fun h9 => (ite10 _).mp h9 h1), if_pos h1, rc_at (by rw [S6 hL2])]
      refine put_c hL0 hT0 h2 hd5 q2 (hi := 9999) (j := 3) (by omega) _ (fun M1 q' v hk => hk.dr (by omega) (fun hc => ?_))
      obtain ⟨a1, a2, a3, a4, -⟩ := id hc
      exact hc.rest hd5 rfl (fun _ _ => rfl) (fun k a hn => mI_ne (by omega)) ((mI_ne (by omega)).trans a1) mI_eq ((mI_ne (by omega)).trans a3) ((mI_ne (by omega)).trans a4)
    · rw [if_pos ((ite10 _).mpr h1), if_neg h1, rc_at (by rw [S6 hL2]), w 2 (by omega), cl_some]
      by_cases h2' : wOk T 2 p q = true
      · rw [if_neg (fun h9 => (ite10 _).mp h9 h2'), if_pos h2', rc_at (by rw [S6 hL2])]
        refine put_c hL0 hT0 h2 hd5 q2 (hi := 9999) (j := 5) (by omega) _ (fun M1 q' v hk => hk.dr (by omega) (fun hc => ?_))
        obtain ⟨a1, a2, a3, a4, -⟩ := id hc
        exact hc.rest hd5 rfl (fun _ _ => rfl) (fun k a hn => mI_ne (by omega)) ((mI_ne (by omega)).trans a1) ((mI_ne (by omega)).trans a2) ((mI_ne (by omega)).trans a3) mI_eq
      · rw [if_pos ((ite10 _).mpr h2'), if_neg h2', rc_at (by rw [S6 hL2]), w 3 (by omega), cl_some]
        by_cases h3 : wOk T 3 p q = true
        · rw [if_neg (fun h9 => (ite10 _).mp h9 h3), if_pos h3, d62 hL2, pI_at (by rw [S5 hL2])]
          refine ⟨fun _ => ⟨_, rfl, h2.dr (by omega) (fun hc => ?_)⟩, fun h9 => absurd rfl h9⟩
          obtain ⟨a1, a2, a3, a4, -⟩ := id hc
          exact hc.rest hd5 rfl (fun _ _ => rfl) (fun k a hn => mI_ne (by omega)) ((mI_ne (by omega)).trans a1) ((mI_ne (by omega)).trans a2) mI_eq ((mI_ne (by omega)).trans a4)
        · rw [if_pos ((ite10 _).mpr h3), if_neg h3, rc_at (by rw [S6 hL2]), w 4 (by omega), cl_some]
          by_cases h4 : wOk T 4 p q = true
          · rw [if_neg (fun h9 => (ite10 _).mp h9 h4), if_pos h4, rc_at (by rw [S6 hL2])]
            have hb := band_c hL0 hT0 h2 hg q2
            refine ⟨fun h9 => ?_, fun h9 => ?_⟩
            · obtain ⟨M1, e1, e2⟩ := hb.1 h9
              exact ⟨M1, by rw [e1, cl_some]; rfl, e2⟩
            · obtain ⟨M1, e1, e2⟩ := hb.2 h9
              exact ⟨M1, by rw [e1, cl_some]; rfl, e2⟩
          · rw [if_pos ((ite10 _).mpr h4), if_neg h4, rc_at (by rw [S6 hL2]), fault_c hL2, cl_some]
            exact Outc.bad (h2.bad 3 p) (by omega)
/-- the loop over the clauses -/
theorem plan_c (hL0 : Lay M0) (hT0 : TX T L M0) : ∀ (k i p : Nat) (d : PD) (fu : Nat) (M : Mem), KS M0 M i p d → GD d → p ≤ L → i ≤ p → 91 ≤ k + p → k ≤ fu →
    ((planP T L k i p d).2.1 = 0 → ∃ M1, lp (b_X6_describesPlan_22 (some 2165)) fu M = some (1, M1) ∧ KS M0 M1 (planP T L k i p d).1 (planP T L k i p d).2.2.2.1 (planP T L k i p d).2.2.2.2 ∧ GD (planP T L k i p d).2.2.2.2) ∧
    ((planP T L k i p d).2.1 ≠ 0 → ∃ M1, lp (b_X6_describesPlan_22 (some 2165)) fu M = some (0, M1) ∧ KF M0 M1 (planP T L k i p d).1 (planP T L k i p d).2.1 (planP T L k i p d).2.2.1) := by
  have h90 := hT0.1
  intro k
  induction k with
  | zero => intro i p d fu M _ _ h1 _ h2; omega
  | succ k ih =>
    intro i p d fu M h hg hp hip hk hfu
    obtain ⟨fu, rfl⟩ : ∃ z, fu = z + 1 := ⟨fu - 1, by omega⟩
    have hL := h.1.Lay hL0
    have hT := h.1.TX hT0
    have e90 : (90 : Int32) = nI 90 := rfl
    have e : planP T L (k + 1) i p d = planQ T L i (clauseP T L d p) (fun p' d' => planP T L k (i + 1) p' d') := rfl
    rw [e, lp_succ, b_X6_describesPlan_22, i6 hL h.2.2.1]
    unfold planQ
    by_cases hi9 : 90 ≤ i
    · have hbad : clauseP T L d p = badR 3 p := by
        have hsk : skW T L 91 p = p := by
          show (if p < L ∧ 97 ≤ T p ∧ T p ≤ 122 then skW T L 90 (p + 1) else p) = p
          rw [if_neg (fun h9 => by omega)]
        have hw : ∀ j, ¬ wOk T j p p = true := by
          intro j
          unfold wOk
          have : 0 < wL j := by unfold wL; split <;> omega
          rw [if_neg (by omega)]; simp
        unfold clauseP clauseQ
        rw [hsk, if_neg (hw 0), if_neg (hw 1), if_neg (hw 2), if_neg (hw 3), if_neg (hw 4)]
      rw [if_pos (show (90 : Int32) ≤ nI i by rw [e90]; exact le_n (by omega) hi9), hbad, if_neg (show ¬ (badR 3 p).1 = 0 by show ¬ (3 = 0); omega), i6 hL h.2.1, rc_at (by rw [S6 hL]), fault_c hL, cl_some]
      exact ⟨fun h9 => absurd h9 (show ¬ (3 = 0) by omega), fun _ => ⟨_, rfl, h.bad 3 p⟩⟩
    · rw [if_neg (show ¬ (90 : Int32) ≤ nI i by rw [e90]; exact fun h9 => hi9 ((i_le (by omega) (by omega)).mp h9)), rc_at (by rw [S6 hL])]
      obtain ⟨r, hr⟩ : ∃ r, r = clauseP T L d p := ⟨_, rfl⟩
      have ho := clause_c hL0 hT0 h hg hp
      have hR := RG.clause (T := T) h90 hg hp
      rw [← hr] at ho hR ⊢
      by_cases hr0 : r.1 = 0
      · obtain ⟨M1, f1, f2⟩ := ho.1 hr0
        obtain ⟨r1, r2, r3⟩ := hR.2.2 hr0
        have hL1 := f2.1.Lay hL0
        have hT1 := f2.1.TX hT0
        rw [if_pos hr0, f1, cl_some, if_pos z10', i6 hL1 f2.2.1, i6 hL1 hT1.2.1]
        by_cases hlt : r.2.2.1 < L
        · rw [if_pos ((i_lt (by omega) (by omega)).mpr hlt), if_pos hlt, rc_at (by rw [S6 hL1]), show m_X6_readSign M1 (some 2165) 59 = _ from sign_c (c := 59) hL1 hT1 f2.2.1 r2 (by omega)]
          by_cases h59 : T r.2.2.1 = 59
          · have hLA : Lay (uI M1 196 2165 (nI (r.2.2.1 + 1))) := hL1.uI _ _ _
            have a197 : mI (uI M1 196 2165 (nI (r.2.2.1 + 1))) (32 * 6 + 5) 2165 = nI i := (mI_ne (by omega)).trans f2.2.2.1
            rw [if_pos h59, if_pos (show r.2.2.1 < L ∧ T r.2.2.1 = 59 from ⟨hlt, h59⟩), cl_some, if_pos z10', i6 hLA a197, w6 hLA, nI_1]
            refine ih (i + 1) (r.2.2.1 + 1) r.2.2.2 fu _ ?_ r3 (by omega) (by omega) (by omega) (by omega)
            have hd5 := r3.2.2.2.2.1
            exact ⟨(f2.1.trans (Cfr.set (by omega))).trans (Cfr.set (by omega)), by rw [mI_ne (by omega), mI_eq], mI_eq, f2.2.2.2.of hd5 (fun k => by rw [mI_ne (by omega), mI_ne (by omega)]) (by rw [mI_ne (by omega), mI_ne (by omega)]) (fun k b hb => by rw [mI_ne (by omega), mI_ne (by omega)])⟩
          · rw [if_neg h59, if_neg (show ¬ (r.2.2.1 < L ∧ T r.2.2.1 = 59) from fun h9 => h59 h9.2), cl_some, if_neg z00']
            exact ⟨fun h9 => absurd h9 (show ¬ (3 = 0) by omega), fun _ => ⟨_, rfl, f2.bad 3 _⟩⟩
        · rw [if_neg (fun h9 => hlt ((i_lt (by omega) (by omega)).mp h9)), if_neg hlt]
          exact ⟨fun _ => ⟨M1, rfl, f2, r3⟩, fun h9 => absurd hr0 h9⟩
      · obtain ⟨M1, f1, f2⟩ := ho.2 hr0
        rw [if_neg hr0, f1, cl_some, if_neg z00']
        exact ⟨fun h9 => absurd h9 hr0, fun _ => ⟨M1, rfl, f2⟩⟩
def d00 : PD := (0, 0, 0, 2000, 0, fun _ _ => 0)
theorem GD00 : GD d00 := ⟨by show 0 ≤ 60; omega, by show 0 ≤ 9999; omega, by show 0 ≤ 1; omega, by show 2000 ≤ 9999; omega, by show 0 ≤ 6; omega, fun h => absurd rfl h, fun b hb => absurd hb (Nat.not_lt_zero b)⟩
theorem describes_c (hL : Lay M) (hT : TX T L M) :
    ((planP T L 91 0 0 d00).2.1 = 0 → ∃ M1, m_X6_describesPlan M (some 2165) = some (1, M1) ∧ KS M M1 (planP T L 91 0 0 d00).1 (planP T L 91 0 0 d00).2.2.2.1 (planP T L 91 0 0 d00).2.2.2.2 ∧ GD (planP T L 91 0 0 d00).2.2.2.2) ∧
    ((planP T L 91 0 0 d00).2.1 ≠ 0 → ∃ M1, m_X6_describesPlan M (some 2165) = some (0, M1) ∧ KF M M1 (planP T L 91 0 0 d00).1 (planP T L 91 0 0 d00).2.1 (planP T L 91 0 0 d00).2.2.1) := by
  obtain ⟨A, hA⟩ : ∃ A, A = uI (uI (uI (uI M 162 2168 0) 163 2168 0) 164 2168 0) 165 2168 2000 := ⟨_, rfl⟩
  obtain ⟨B, hB⟩ : ∃ B, B = uI (uI (uI A 1 2170 0) 2 2170 100) 3 2170 60 := ⟨_, rfl⟩
  obtain ⟨C, hC⟩ : ∃ C, C = uI (uI (uI (uI B 161 2168 1) 198 2165 0) 196 2165 0) 197 2165 0 := ⟨_, rfl⟩
  have hLA : Lay A := by rw [hA]; exact hL
  have hLB : Lay B := by rw [hB]; exact hLA
  have hS5 := S5 hL
  obtain ⟨q1, q2, q3, q4⟩ := isPl_draft hLA
  have hSb : mS A 2170 = (0, 0) := (q4 0 (by omega)).2
  have hres : m_X5_reset M (some 2168) = some ((), uI B 161 2168 1) := by
    unfold m_X5_reset
    rw [pI_at (by rw [hS5]), pI_at (by rw [mS_uI, hS5]), pI_at (by rw [mS_uI, mS_uI, hS5]), pI_at (by rw [mS_uI, mS_uI, mS_uI, hS5])]
    show dP (uI (uI (uI (uI M 162 2168 0) 163 2168 0) 164 2168 0) 165 2168 2000) 5 0 (some 2168) (fun (q5 : Option Nat) => aP (uI (uI (uI (uI M 162 2168 0) 163 2168 0) 164 2168 0) 165 2168 2000) 110 q5 0 (fun (q6 : Option Nat) => rc (uI (uI (uI (uI M 162 2168 0) 163 2168 0) 164 2168 0) 165 2168 2000) 0 q6 (cl (m_X0_tell (uI (uI (uI (uI M 162 2168 0) 163 2168 0) 164 2168 0) 165 2168 2000) q6 0 100 60) (fun (_u : Unit) (M7 : Mem) => pI M7 5 1 (some 2168) 1 (fun (M8 : Mem) => rt () M8))))) = _
    rw [← hA, show dP A 5 0 (some 2168) (fun (q5 : Option Nat) => aP A 110 q5 0 _) = _ from draftP (b := 0) hLA (by omega), rc_at (by rw [show 2170 + 0 = 2170 from rfl, hSb])]
    have htell : m_X0_tell A (some (2170 + 0)) 0 100 60 = some ((), B) := by
      unfold m_X0_tell
      rw [pI_at (by rw [show 2170 + 0 = 2170 from rfl, hSb]), pI_at (by rw [mS_uI, show 2170 + 0 = 2170 from rfl, hSb]), pI_at (by rw [mS_uI, mS_uI, show 2170 + 0 = 2170 from rfl, hSb]), hB]; rfl
    rw [htell, cl_some, pI_at (by rw [S5 hLB])]; rfl
  have hstart : m_X6_describesPlan M (some 2165) = lp (b_X6_describesPlan_22 (some 2165)) FU C := by
    unfold m_X6_describesPlan
    rw [d62 hL, rc_at (by rw [hS5]), hres, cl_some, w6 (hLB.uI _ _ _), w6 ((hLB.uI _ _ _).uI _ _ _), w6 (((hLB.uI _ _ _).uI _ _ _).uI _ _ _), hC]
  have hKS : KS M C 0 0 d00 := by
    have cA : Cfr M A := by rw [hA]; exact (((Cfr.set (by omega)).trans (Cfr.set (by omega))).trans (Cfr.set (by omega))).trans (Cfr.set (by omega))
    have cB : Cfr A B := by rw [hB]; exact ((Cfr.set (by omega)).trans (Cfr.set (by omega))).trans (Cfr.set (by omega))
    have cC : Cfr B C := by rw [hC]; exact (((Cfr.set (by omega)).trans (Cfr.set (by omega))).trans (Cfr.set (by omega))).trans (Cfr.set (by omega))
    have iC : ∀ k a, ¬ (a = 2168 ∧ k = 161) → a ≠ 2165 → mI C k a = mI B k a := fun k a h1 h2 => by rw [hC, mI_ne (by omega), mI_ne (by omega), mI_ne (by omega), mI_ne (by omega)]
    have iB : ∀ k, mI B k 2168 = mI A k 2168 := fun k => by rw [hB, mI_ne (by omega), mI_ne (by omega), mI_ne (by omega)]
    refine ⟨(cA.trans cB).trans cC, ?_, ?_, ?_, ?_, ?_, ?_, ?_, fun h => absurd rfl h, fun _ => ⟨?_, ?_, ?_, ?_⟩, fun b hb => absurd hb (Nat.not_lt_zero b)⟩
    · rw [hC, mI_ne (by omega), mI_eq]; rfl
    · rw [hC, mI_eq]; rfl
    · rw [iC _ _ (by omega) (by omega), iB, hA, mI_ne (by omega), mI_ne (by omega), mI_ne (by omega), mI_eq]; rfl
    · rw [iC _ _ (by omega) (by omega), iB, hA, mI_ne (by omega), mI_ne (by omega), mI_eq]; rfl
    · rw [iC _ _ (by omega) (by omega), iB, hA, mI_ne (by omega), mI_eq]; rfl
    · rw [iC _ _ (by omega) (by omega), iB, hA, mI_eq]; rfl
    · rw [hC, mI_ne (by omega), mI_ne (by omega), mI_eq]; rfl
    · rw [hC, mI_ne (by omega), mI_ne (by omega), mI_ne (by omega), mI_eq]; rfl
    · rw [iC _ _ (by omega) (by omega), hB, mI_ne (by omega), mI_ne (by omega), mI_eq]; rfl
    · rw [iC _ _ (by omega) (by omega), hB, mI_ne (by omega), mI_eq]; rfl
    · rw [iC _ _ (by omega) (by omega), hB, mI_eq]; rfl
  rw [hstart]
  exact plan_c hL hT 91 0 0 d00 FU C hKS GD00 (by omega) (by omega) (by omega) (Nat.le_of_lt (Nat.lt_trans (by omega) FU_1000))
end CLS4
