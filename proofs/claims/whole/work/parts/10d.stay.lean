/-! ===== the class: extend and unit ===== -/
def extL (π : PD) (fr am : Nat) : Nat → Nat → Nat
  | 0, _ => 99999
  | f + 1, k => if (stn π fr k).1 < 99999 then (if amt π (stn π fr (k + 1)) ≤ am then extL π fr am f (k + 1) else max (stn π fr k).1 (min (fr + pFree π) 99999)) else 99999
def extS (π : PD) (fr to : Nat) : Nat := extL π fr (feeS π fr to) 20000 0
theorem extLoop_c {q A fr am : Nat} {π : PD} (hπ : GP π) (hq : A + 8 ≤ q) (hf : fr ≤ 100000) (ham : am ≤ 19980000) : ∀ (f k fu : Nat) (M : Mem), k + f = 20000 → f < fu → PlC M A π → MeterIs M q A fr (stn π fr k) →
    ∃ M', lp (b_X5_latestEnd_34 (nI fr) (nI am) (nI (pFree π)) (some q) (fun (M8 : Mem) => rt 99999 M8)) fu (nI k, M) = some (nI (extL π fr am f k), M') ∧ Fr q M M' := by
  intro f
  have e2 : (20000 : Int32) = nI 20000 := rfl
  have e9 : (99999 : Int32) = nI 99999 := rfl
  have hfree := hπ.1
  induction f with
  | zero =>
    intro k fu M hk hfu h hm
    obtain ⟨fu, rfl⟩ : ∃ z, fu = z + 1 := ⟨fu - 1, by omega⟩
    rw [lp_succ, b_X5_latestEnd_34, e2, if_pos ((i_le (by omega) (by omega)).mpr (by omega))]
    exact ⟨M, rfl, Fr.rfl'⟩
  | succ f ih =>
    intro k fu M hk hfu h hm
    obtain ⟨fu, rfl⟩ : ∃ z, fu = z + 1 := ⟨fu - 1, by omega⟩
    have hb := stn_MB hπ hf (show k ≤ 20100 by omega)
    have hb1 := stn_MB hπ hf (show k + 1 ≤ 20100 by omega)
    have hs1 := hb.2.1
    rw [lp_succ, b_X5_latestEnd_34, e2, if_neg (fun h9 => absurd ((i_le (by omega) (by omega)).mp h9) (by omega)), dI_at (by rw [hm.1]), hm.2.2.2.1]
    by_cases hc : (stn π fr k).1 < 99999
    · rw [e9, if_neg (fun h9 => absurd ((i_le (by omega) (by omega)).mp h9) (by omega)), dI_at (by rw [hm.1]), hm.2.2.2.1, rc_at (by rw [hm.1])]
      obtain ⟨M1, e, g1, g2⟩ := addUnit_c h hπ hq hm hb
      have h1 := h.fr hπ g2 hq
      have hbd := amt_bd hπ fr (k + 1)
      rw [e, cl_some, rc_at (by rw [g1.1]), amount_c h1 hπ g1 hb1, cl_some, nI_1]
      have e5 : stp π fr (stn π fr k) = stn π fr (k + 1) := rfl
      rw [e5]
      have e4 : extL π fr am (f + 1) k = (if amt π (stn π fr (k + 1)) ≤ am then extL π fr am f (k + 1) else max (stn π fr k).1 (min (fr + pFree π) 99999)) := by
        show (if _ then _ else _) = _; rw [if_pos hc]
      rw [e4]
      by_cases hd : amt π (stn π fr (k + 1)) ≤ am
      · rw [if_pos ((i_le (by omega) (by omega)).mpr hd), if_pos hd]
        obtain ⟨M2, e3, g4⟩ := ih (k + 1) fu M1 (by omega) (by omega) h1 g1
        exact ⟨M2, e3, g2.trans g4⟩
      · rw [if_neg (fun h9 => hd ((i_le (by omega) (by omega)).mp h9)), if_neg hd, nI_add, i_min (by omega) (by omega), i_max (by omega) (by omega)]
        exact ⟨M1, rfl, g2⟩
    · rw [e9, if_pos ((i_le (by omega) (by omega)).mpr (by omega))]
      have e4 : extL π fr am (f + 1) k = 99999 := by show (if _ then _ else _) = _; rw [if_neg hc]
      rw [e4]
      exact ⟨M, rfl, Fr.rfl'⟩
theorem latestEnd_c {M : Mem} {A fr to : Nat} {π : PD} (h : PlC M A π) (hπ : GP π) (hA : A + 8 ≤ mN M) (hn : mN M < 899990) (hf : fr ≤ to) (ht : to ≤ 100000) :
    ∃ M', m_X5_latestEnd M (some A) (nI fr) (nI to) = some (nI (extS π fr to), M') ∧ Gr 2 M M' := by
  unfold m_X5_latestEnd
  obtain ⟨M1, e1, g1⟩ := feeOfStay_c h hπ hA (by omega) hf ht
  rw [rc_at (by rw [h.1.1]), e1, cl_some]
  have hA1 := g1.1
  have h1 : PlC M1 A π := h.of hπ (fun a _ h9 => (g1.2.2.2 a (by omega)).1) (fun k a _ h9 => (g1.2.2.2 a (by omega)).2.2.2 k) (fun k a _ h9 => (g1.2.2.2 a (by omega)).2.1 k)
  have hn1 := g1.2.1
  rw [dI_at (by rw [h1.1.1]), h1.2.1, nO_at (by omega)]
  have hs : mS (nw M1 (4, 0) 6) (mN M1) = (4, 0) := by rw [mS_nw, if_pos rfl]
  have h2 : PlC (nw M1 (4, 0) 6) A π := h1.of hπ (fun a _ h9 => by rw [mS_nw, if_neg (by omega)]) (fun k a _ h9 => by rw [mP_nw, if_neg (by omega)]) (fun k a _ h9 => by rw [mI_nw, if_neg (by omega)])
  obtain ⟨M2, e2, g2, g3⟩ := meterInit_c (q := mN M1) (fr := fr) h2 hπ (by omega) hs (fun k => by rw [mI_nw, if_pos rfl]) (by omega)
  rw [rc_at (by rw [hs]), e2, cl_some]
  have h3 : PlC M2 A π := (h2.of hπ (M' := uP (nw M1 (4, 0) 6) 128 (mN M1) (some A)) (fun a _ _ => rfl) (fun k a _ h9 => by rw [mP_uP, if_neg (by omega)]) (fun k a _ _ => rfl)).fr hπ g3 (by omega)
  unfold jn
  dsimp only
  have e0 : (0 : Int32) = nI 0 := rfl
  obtain ⟨M3, e3, g4⟩ := extLoop_c (am := feeS π fr to) hπ (show A + 8 ≤ mN M1 by omega) (by omega) (feeS_bd hπ fr to) 20000 0 FU M2 (by omega) (by show 20000 < 1000000; omega) h3 g2
  rw [e0, e3]
  exact ⟨M3, rfl, g1.trans (Gr.meter g3 g4)⟩
def unitS (π : PD) (fr k what : Nat) : Nat := if what = 0 then (stn π fr k).1 else if what = 1 then bandIx π (stn π fr k).1 else grp π fr (stn π fr k).1
theorem unitLoop_c {q A fr ix : Nat} {π : PD} (hπ : GP π) (hq : A + 8 ≤ q) (hf : fr ≤ 100000) (hix : ix ≤ 99) (J : Mem → Option (Int32 × Mem)) : ∀ (f k fu : Nat) (M : Mem), k + f = ix → f < fu → PlC M A π → MeterIs M q A fr (stn π fr k) →
    ∃ M', lp (b_X5_partOfUnit_14 (nI ix) (some q) J) fu (nI k, M) = J M' ∧ MeterIs M' q A fr (stn π fr ix) ∧ Fr q M M' := by
  intro f
  induction f with
  | zero =>
    intro k fu M hk hfu h hm
    obtain ⟨fu, rfl⟩ : ∃ z, fu = z + 1 := ⟨fu - 1, by omega⟩
    rw [lp_succ, b_X5_partOfUnit_14, if_pos ((i_le (by omega) (by omega)).mpr (by omega))]
    have e : k = ix := by omega
    rw [e] at hm
    exact ⟨M, rfl, hm, Fr.rfl'⟩
  | succ f ih =>
    intro k fu M hk hfu h hm
    obtain ⟨fu, rfl⟩ : ∃ z, fu = z + 1 := ⟨fu - 1, by omega⟩
    have hb := stn_MB hπ hf (show k ≤ 20100 by omega)
    rw [lp_succ, b_X5_partOfUnit_14, if_neg (fun h9 => absurd ((i_le (by omega) (by omega)).mp h9) (by omega)), rc_at (by rw [hm.1])]
    obtain ⟨M1, e, g1, g2⟩ := addUnit_c h hπ hq hm hb
    rw [e, cl_some, nI_1]
    obtain ⟨M2, e3, g3, g4⟩ := ih (k + 1) fu M1 (by omega) (by omega) (h.fr hπ g2 hq) g1
    exact ⟨M2, e3, g3, g2.trans g4⟩
theorem partOfUnit_c {M : Mem} {A fr ix what : Nat} {π : PD} (h : PlC M A π) (hπ : GP π) (hA : A + 8 ≤ mN M) (hn : mN M < 900000) (hf : fr ≤ 100000) (hix : ix ≤ 99) (hw : what ≤ 2) :
    ∃ M', m_X5_partOfUnit M (some A) (nI fr) (nI ix) (nI what) = some (nI (unitS π fr ix what), M') ∧ Gr 1 M M' := by
  unfold m_X5_partOfUnit
  rw [nO_at hn]
  have hs : mS (nw M (4, 0) 6) (mN M) = (4, 0) := by rw [mS_nw, if_pos rfl]
  have h2 : PlC (nw M (4, 0) 6) A π := h.of hπ (fun a _ h9 => by rw [mS_nw, if_neg (by omega)]) (fun k a _ h9 => by rw [mP_nw, if_neg (by omega)]) (fun k a _ h9 => by rw [mI_nw, if_neg (by omega)])
  obtain ⟨M1, e1, g1, g2⟩ := meterInit_c (q := mN M) (fr := fr) h2 hπ hA hs (fun k => by rw [mI_nw, if_pos rfl]) (by omega)
  rw [rc_at (by rw [hs]), e1, cl_some]
  have h3 : PlC M1 A π := (h2.of hπ (M' := uP (nw M (4, 0) 6) 128 (mN M) (some A)) (fun a _ _ => rfl) (fun k a _ h9 => by rw [mP_uP, if_neg (by omega)]) (fun k a _ _ => rfl)).fr hπ g2 hA
  unfold jn
  dsimp only
  obtain ⟨M2, e2, g3, g4⟩ := unitLoop_c (fr := fr) (ix := ix) hπ hA hf hix (fun (M5 : Mem) => (if nI what = 0 then dI M5 4 2 (some (mN M)) (fun (x6 : Int32) => rt x6 M5) else (if nI what = 1 then dI M5 4 2 (some (mN M)) (fun (x7 : Int32) => rc M5 5 (some A) (cl (m_X5_bandOfMinute M5 (some A) x7) (fun (q9 : Option Nat) (M8 : Mem) => dI M8 0 0 q9 (fun (x10 : Int32) => rt x10 M8)))) else dI M5 4 2 (some (mN M)) (fun (x11 : Int32) => rc M5 5 (some A) (cl (m_X5_groupOf M5 (some A) (nI fr) x11) (fun (x13 : Int32) (M12 : Mem) => rt x13 M12)))))) ix 0 FU M1 (by omega) (by show ix < 1000000; omega) h3 g1
  have e0 : (0 : Int32) = nI 0 := rfl
  have e1' : (1 : Int32) = nI 1 := rfl
  rw [e0] at e2 ⊢
  rw [e2]
  have hb := stn_MB hπ hf (show ix ≤ 20100 by omega)
  have hs1 := hb.2.1
  have h4 := h3.fr hπ g4 hA
  have hbi := bandIx_spec hπ (stn π fr ix).1
  have hc6 := hπ.2.2.2.2.2.1
  refine ⟨M2, ?_, Gr.meter g2 g4⟩
  unfold unitS
  rcases (show what = 0 ∨ what = 1 ∨ what = 2 by omega) with rfl | rfl | rfl
  · rw [if_pos rfl, if_pos rfl, dI_at (by rw [g3.1]), g3.2.2.2.1]; rfl
  · rw [if_neg (show ¬ nI 1 = nI 0 by decide), if_pos (show nI 1 = 1 from rfl), if_neg (show ¬ (1 : Nat) = 0 by decide), if_pos (show (1 : Nat) = 1 from rfl), dI_at (by rw [g3.1]), g3.2.2.2.1, rc_at (by rw [h4.1.1]), bandOfMinute_c h4 hπ (by omega), cl_some, dI_at (by rw [(h4.1.2.2.2 _ (by omega)).2]), h4.2.2.2.2.2.2.2 _ (by omega)]; rfl
  · rw [if_neg (by decide), if_neg (by decide), if_neg (by decide), if_neg (by decide), dI_at (by rw [g3.1]), g3.2.2.2.1, rc_at (by rw [h4.1.1]), groupOf_c h4 hπ (by omega) hb.1, cl_some]; rfl
