/-! ===== String.length, String.charAt on the constants; Float.floatToIntBits ===== -/
section STR
variable {κ : Cfg} {y : MD} {α : Type} {cv : α → Option Value} {o : Option (α × Mem)} {pc : Nat} {lv : List (Nat × Value)} {st : List Value} {M : Mem}
theorem keptH {κ : Cfg} {M : Mem} {H : Heap} (hH : HR κ M H) : ∀ a : Nat, a < (kH κ).size → ¬ (fun q => kB κ ≤ q) a → H[a]? = (kH κ)[a]? := fun a _ h => hH.2.2.2 a (Nat.not_le.mp h)
theorem kad_v (κ : Cfg) (i : Nat) : kad κ (1000010 + i) = kS κ (10 + i) := by
  have : 1000010 + i = 1000000 + (10 + i) := by omega
  rw [this, kad_s]
theorem G_sval {i idx : Nat} (hi : i < 5) (hl : Jvm.Cond.fieldLink (mdO y) idx "java/lang/String" "value" "[B" ∈ WS) (hd : decode (mdC y) pc = .ok (.getfield idx, 3)) (k : G κ y cv o (pc + 3) lv (rv κ (some (1000010 + i)) :: st) M) : G κ y cv o pc lv (rv κ (some (1000000 + i)) :: st) M := by
  refine G.step k ?_
  intro p l e R s m args below meth c H locs cells slots ls Q X hH hl0 kk
  rw [rv_some, kad_s κ i]
  rw [rv_some, kad_v κ i] at kk
  obtain ⟨cf, kc, fi, f, cell, h1, h2, h3, h4, h5, h6⟩ := (X.N.2.2.2.1.1 i hi).2.2.1.kept (keptH hH)
  exact W.getf X.1 X.2.1 X.2.2.2.1 (X.w _ hl) h1 h2 h3 h4 h5 rfl rfl hd (kk ls hl0)
theorem G_scod {i idx : Nat} (hi : i < 5) (hl : Jvm.Cond.fieldLink (mdO y) idx "java/lang/String" "coder" "B" ∈ WS) (hd : decode (mdC y) pc = .ok (.getfield idx, 3)) (k : G κ y cv o (pc + 3) lv (.int 0 :: st) M) : G κ y cv o pc lv (rv κ (some (1000000 + i)) :: st) M := by
  refine G.step k ?_
  intro p l e R s m args below meth c H locs cells slots ls Q X hH hl0 kk
  rw [rv_some, kad_s κ i]
  obtain ⟨cf, kc, fi, f, cell, h1, h2, h3, h4, h5, h6⟩ := (X.N.2.2.2.1.1 i hi).2.1.kept (keptH hH)
  exact W.getf X.1 X.2.1 X.2.2.2.1 (X.w _ hl) h1 h2 h3 h4 h5 rfl rfl hd (kk ls hl0)
theorem G_blen {i : Nat} (hi : i < 5) (hd : decode (mdC y) pc = .ok (.arraylength, 1)) (k : G κ y cv o (pc + 1) lv (.int (Int32.ofNat (lenJ.getD i 0)) :: st) M) : G κ y cv o pc lv (rv κ (some (1000010 + i)) :: st) M := by
  refine G.step k ?_
  intro p l e R s m args below meth c H locs cells slots ls Q X hH hl0 kk
  rw [rv_some, kad_v κ i]
  obtain ⟨cell, h1, h2, h3, h4, h5, h6, h7⟩ := (X.N.2.2.2.1.1 i hi).2.2.2.kept (keptH hH)
  exact W.alen X.1 X.2.1 h1 h2 h5 rfl rfl hd (kk ls hl0)
theorem G_bald {i : Nat} {j : Int32} (hi : i < 5) (h0 : 0 ≤ j.toInt) (hj : j.toInt < lenJ.getD i 0) (hd : decode (mdC y) pc = .ok (.baload, 1)) (k : G κ y cv o (pc + 1) lv (.int ((bytJ.getD i []).getD j.toInt.toNat 0) :: st) M) : G κ y cv o pc lv (.int j :: rv κ (some (1000010 + i)) :: st) M := by
  refine G.step k ?_
  intro p l e R s m args below meth c H locs cells slots ls Q X hH hl0 kk
  rw [rv_some, kad_v κ i]
  obtain ⟨cell, h1, h2, h3, h4, h5, h6, h7⟩ := (X.N.2.2.2.1.1 i hi).2.2.2.kept (keptH hH)
  have e0 : j.toNatClampNeg = j.toInt.toNat := rfl
  have hin := vp_in_iff2 h0 hj
  refine W.bald X.1 X.2.1 h1 h2 h3 (fun q => ?_) (h6 j.toNatClampNeg (by omega)) rfl rfl hd (kk ls hl0)
  rcases q with q | q
  · exact hin (Or.inl q)
  · exact hin (Or.inr (Nat.le_trans h4 q))
theorem G_gcomp {idx : Nat} (hl : Jvm.Cond.fieldLink (mdO y) idx "java/lang/String" "COMPACT_STRINGS" "Z" ∈ WS) (hd : decode (mdC y) pc = .ok (.getstatic idx, 3)) (k : G κ y cv o (pc + 3) lv (.int 1 :: st) M) : G κ y cv o pc lv st M := by
  refine G.step k ?_
  intro p l e R s m args below meth c H locs cells slots ls Q X hH hl0 kk
  obtain ⟨cf, kf, fi, f, a, cell, h1, h2, h3, h4, h5, h6, h7, h8⟩ := X.N.2.2.2.2.1.kept (keptH hH)
  exact W.gets X.1 X.2.1 X.2.2.2.1 (X.w _ hl) h1 h2 h3 h4 h5 (fun h9 => by rw [h9] at h6; cases h6) h7 rfl hd (kk ls hl0)
theorem G_gfmt {idx : Nat} (hl : Jvm.Cond.fieldLink (mdO y) idx "jdk/internal/util/Preconditions" "SIOOBE_FORMATTER" "Ljava/util/function/BiFunction;" ∈ WS) (hd : decode (mdC y) pc = .ok (.getstatic idx, 3)) (k : ∀ fo, G κ y cv o (pc + 3) lv (rv κ fo :: st) M) : G κ y cv o pc lv st M := by
  intro r hr
  obtain ⟨g1, -⟩ := k none r hr
  refine ⟨g1, ?_⟩
  intro p l e R s m args below meth c H locs cells slots ls Q X hH hl0 hlo hc hs fin
  rcases X.N.2.2.2.2.2.1 with hZ | hZ
  · obtain ⟨cf, kf, fi, f, a, cell, h1, h2, h3, h4, h5, h6, h7, h8⟩ := hZ.kept (keptH hH)
    exact W.gets X.1 X.2.1 X.2.2.2.1 (X.w _ hl) h1 h2 h3 h4 h5 (fun h9 => by rw [h9] at h6; cases h6) h7 rfl hd ((k none r hr).2 p l e R s m args below meth c H locs cells slots ls Q X hH hl0 hlo hc hs fin)
  · obtain ⟨cf, kf, fi, f, a, cell, h1, h2, h3, h4, h5, h6, h7, h8⟩ := hZ.kept (keptH hH)
    have h9 := (k (some (1000000 + 30)) r hr).2 p l e R s m args below meth c H locs cells slots ls Q X hH hl0 hlo hc hs fin
    rw [rv_some, kad_s κ 30] at h9
    exact W.gets X.1 X.2.1 X.2.2.2.1 (X.w _ hl) h1 h2 h3 h4 h5 (fun h9 => by rw [h9] at h6; cases h6) h7 rfl hd h9
def rcS {β : Type} (ob : Option Nat) (r : Option β) : Option β := match ob with | none => none | some a => if 1000000 ≤ a ∧ a < 1000005 then r else none
theorem G_callStr {β : Type} {cv' : β → Option Value} {o' : Option (β × Mem)} {K : β → Mem → Option (α × Mem)} {y' : MD} {n idx : Nat} (ok : MOk y' n) (as st : List Value) {stk : List Value} {ob : Option Nat} (hc : Con κ y' (rv κ ob :: as) M cv' o') (hn : as.length = n)
    (hl : Jvm.Cond.methodLink (mdO y) idx (mdY y') ∈ WS) (hin : Jvm.Cond.instanceMethod (mdY y') ∈ WS) (hsel : Jvm.Cond.selects "java/lang/String" (mdY y') (mdY y') ∈ WS) (hF : mdF y' + 1 ≤ mdF y) (hK : 8 + (mdL y' + 11) + mdK y' ≤ mdK y) (hd : decode (mdC y) pc = .ok (.invokevirtual idx, 3)) (hstk : stk = as.reverse ++ rv κ ob :: st) (h4 : st.length ≤ 4)
    (k : ∀ v M1, G κ y cv (K v M1) (pc + 3) lv ((cv' v).toList ++ st) M1) : G κ y cv (rcS ob (cl o' K)) pc lv stk M := by
  subst hstk
  cases ob with
  | none => exact G.none'
  | some a =>
    show G κ y cv (if 1000000 ≤ a ∧ a < 1000005 then cl o' K else none) pc lv _ M
    refine G.cond (fun hs => ?_) (fun _ => G.none')
    obtain ⟨i, rfl⟩ : ∃ i, a = 1000000 + i := ⟨a - 1000000, by omega⟩
    refine G_call hc ?_ k
    intro p l e R s m args below meth c H locs cells slots ls r X hH hl0 hM h1 h2
    obtain ⟨cell, g1, g2, g3, -⟩ := (X.N.2.2.2.1.1 i (by omega)).1.kept (keptH hH)
    rw [← kad_s κ i] at g1
    exact va_runV (C := "java/lang/String") (b := kad κ (1000000 + i)) (As := as) (fix X) hM ⟨callB ok hl hF hK X, X.w _ hin, X.w _ hsel⟩ ⟨PcK.blind, ⟨cell, g1, g2, g3⟩, (preS X hH).2⟩ rfl hn hl0.1.1 rfl (lv_room (room_st st h4)) hd ⟨h1, h2⟩
end STR
theorem Con.map {κ : Cfg} {y : MD} {as : List Value} {M : Mem} {α β : Type} {cv : α → Option Value} {cv2 : β → Option Value} {o : Option (α × Mem)} (f : α → β) (h : Con κ y as M cv o) (hf : ∀ a, cv a = cv2 (f a)) : Con κ y as M cv2 (o.map (fun z => (f z.1, z.2))) := by
  intro r hr
  cases o with
  | none => cases hr
  | some z =>
    cases hr
    obtain ⟨h1, h2⟩ := h z rfl
    refine ⟨h1, fun l => ?_⟩
    have h3 := h2 l
    rw [hf] at h3
    exact h3
theorem cats {as : List Value} (h : as.all (fun v => v.category == 1) = true) : ∀ v ∈ as, v.category = 1 := fun v hv => by
  have := List.all_eq_true.mp h v hv
  simpa using this
-- Preconditions.checkIndex
def m_J3_checkIndex (M : Mem) (p1 p2 : Int32) : Option (Int32 × Mem) := (if p1 < 0 then none else (if p1 < p2 then rt p1 M else none))
abbrev md_J3_checkIndex : MD := (RJ3, yJ3_checkIndex_8e157, cJ3_checkIndex_8e157, 3, some .int, 0, 0)
theorem ok_J3_checkIndex : MOk md_J3_checkIndex 3 := ⟨by decide +kernel, w_389, w_14, ⟨by decide +kernel, by decide +kernel⟩, by decide +kernel, rfl⟩
theorem con_J3_checkIndex (κ : Cfg) (M : Mem) (p1 p2 : Int32) (fo : Option Nat) : Con κ md_J3_checkIndex [.int p1, .int p2, rv κ fo] M cvI (m_J3_checkIndex M p1 p2) := by
  refine Con.of ok_J3_checkIndex (ret_I rfl) (by
    intro v hv
    simp only [List.mem_cons, List.not_mem_nil, or_false] at hv
    rcases hv with rfl | rfl | rfl <;> first | rfl | exact rv_cat _ _) (Nat.le_of_ble_eq_true rfl) ?_
  unfold m_J3_checkIndex
  refine G.sub (lv' := [(0, .int p1), (1, .int p2)]) [0, 1] rfl ?_
  refine G_iload_n dJ3_checkIndex_8e157_0 0 rfl rfl ?_
  refine G_if_lt (tgt := 9) dJ3_checkIndex_8e157_1 (by decide) G.none' ?_
  refine G_iload_n dJ3_checkIndex_8e157_4 0 rfl rfl ?_
  refine G_iload_n dJ3_checkIndex_8e157_5 1 rfl rfl ?_
  refine G_icmp_lt (tgt := 16) dJ3_checkIndex_8e157_6 (by decide) ?_ G.none'
  refine G_iload_n dJ3_checkIndex_8e157_16 0 rfl rfl ?_
  exact G_ret (v := p1) dJ3_checkIndex_8e157_17 (fun h => by cases h) rfl
-- String.checkIndex
def m_J0_checkIndex (M : Mem) (p1 p2 : Int32) : Option (Unit × Mem) := cl (m_J3_checkIndex M p1 p2) (fun (_ : Int32) (M2 : Mem) => rt () M2)
abbrev md_J0_checkIndex : MD := (RJ0, yJ0_checkIndex_df160, cJ0_checkIndex_df160, 2, none, 1, 22)
theorem ok_J0_checkIndex : MOk md_J0_checkIndex 2 := ⟨by decide +kernel, w_384, w_12, ⟨by decide +kernel, by decide +kernel⟩, by decide +kernel, rfl⟩
theorem con_J0_checkIndex (κ : Cfg) (M : Mem) (p1 p2 : Int32) : Con κ md_J0_checkIndex [.int p1, .int p2] M cvV (m_J0_checkIndex M p1 p2) := by
  refine Con.of ok_J0_checkIndex (ret_V rfl) (cats rfl) (Nat.le_of_ble_eq_true rfl) ?_
  unfold m_J0_checkIndex
  refine G.sub (lv' := [(0, .int p1), (1, .int p2)]) [0, 1] rfl ?_
  refine G_iload_n dJ0_checkIndex_df160_0 0 rfl rfl ?_
  refine G_iload_n dJ0_checkIndex_df160_1 1 rfl rfl ?_
  refine G_gfmt w_385 dJ0_checkIndex_df160_2 (fun fo => ?_)
  refine G_callS ok_J3_checkIndex [.int p1, .int p2, rv κ fo] [] (con_J3_checkIndex κ M p1 p2 fo) rfl w_387 w_388 (Nat.le_of_ble_eq_true rfl) (Nat.le_of_ble_eq_true rfl) dJ0_checkIndex_df160_5 rfl (by simp) (fun v M2 => (show G _ _ _ _ _ _ [.int v] _ from ?_))
  refine G_pop dJ0_checkIndex_df160_8 rfl ?_
  exact G_ret (v := ()) dJ0_checkIndex_df160_9 (fun h => by cases h) rfl
-- String.coder
abbrev cvC0 : Unit → Option Value := fun _ => some (.int 0)
def m_J0_coder (M : Mem) (ob : Option Nat) : Option (Unit × Mem) := rcS ob (rt () M)
abbrev md_J0_coder : MD := (RJ0, yJ0_coder_7d493, cJ0_coder_7d493, 1, some .byte, 0, 0)
theorem ok_J0_coder : MOk md_J0_coder 0 := ⟨by decide +kernel, w_368, w_12, ⟨by decide +kernel, by decide +kernel⟩, by decide +kernel, rfl⟩
theorem con_J0_coder (κ : Cfg) (M : Mem) (ob : Option Nat) : Con κ md_J0_coder [rv κ ob] M cvC0 (m_J0_coder M ob) := by
  refine Con.of ok_J0_coder ?_ (by
    intro v hv
    simp only [List.mem_cons, List.not_mem_nil, or_false] at hv
    subst hv; exact rv_cat _ _) (Nat.le_of_ble_eq_true rfl) ?_
  · intro a p l e R s m args below meth c H locs cells slots ls pc Qc hx hb hr hlk hd hbo hq hf
    exact W.zret hx hb hr (by rfl) hq hf hd hlk
  unfold m_J0_coder
  cases ob with
  | none => exact G.none'
  | some a =>
    show G _ _ _ (if 1000000 ≤ a ∧ a < 1000005 then rt () M else none) _ _ _ _
    refine G.cond (fun hs => ?_) (fun _ => G.none')
    obtain ⟨i, rfl⟩ : ∃ i, a = 1000000 + i := ⟨a - 1000000, by omega⟩
    refine G.sub (lv' := [(0, rv κ (some (1000000 + i)))]) [0] rfl ?_
    refine G_gcomp w_369 dJ0_coder_7d493_0 ?_
    refine (if_neg (show ¬ (1 : Int32) = 0 by decide) : (if (1 : Int32) = 0 then (none : Option (Unit × Mem)) else rt () M) = rt () M) ▸ G_if_eq (tgt := 13) dJ0_coder_7d493_3 (by decide) G.none' ?_
    refine G_aload_n dJ0_coder_7d493_6 0 rfl rfl ?_
    refine G_scod (by omega) w_1275 dJ0_coder_7d493_7 ?_
    refine G_goto (tgt := 14) dJ0_coder_7d493_10 (by decide) ?_
    exact G_ret (v := ()) dJ0_coder_7d493_14 (fun h => by cases h) rfl
-- String.length
def m_J0_length_8abf5 (M : Mem) (ob : Option Nat) : Option (Int32 × Mem) := match ob with | none => none | some a => if 1000000 ≤ a ∧ a < 1000005 then rt (Int32.ofNat (lenJ.getD (a - 1000000) 0)) M else none
abbrev md_J0_length_8abf5 : MD := (RJ0, yJ0_length_8abf5, cJ0_length_8abf5, 1, some .int, 1, 20)
theorem ok_J0_length_8abf5 : MOk md_J0_length_8abf5 0 := ⟨by decide +kernel, w_364, w_12, ⟨by decide +kernel, by decide +kernel⟩, by decide +kernel, rfl⟩
theorem shr0 (x : Int32) : x >>> ((0 : Int32) &&& 31) = x := by
  have h : (0 : Int32) &&& 31 = 0 := by decide
  rw [h]
  simp
theorem con_J0_length_8abf5 (κ : Cfg) (M : Mem) (ob : Option Nat) : Con κ md_J0_length_8abf5 [rv κ ob] M cvI (m_J0_length_8abf5 M ob) := by
  refine Con.of ok_J0_length_8abf5 (ret_I rfl) (by
    intro v hv
    simp only [List.mem_cons, List.not_mem_nil, or_false] at hv
    subst hv; exact rv_cat _ _) (Nat.le_of_ble_eq_true rfl) ?_
  unfold m_J0_length_8abf5
  cases ob with
  | none => exact G.none'
  | some a =>
    show G _ _ _ (if 1000000 ≤ a ∧ a < 1000005 then _ else none) _ _ _ _
    refine G.cond (fun hs => ?_) (fun _ => G.none')
    obtain ⟨i, rfl⟩ : ∃ i, a = 1000000 + i := ⟨a - 1000000, by omega⟩
    rw [Nat.add_sub_cancel_left]
    refine G.sub (lv' := [(0, rv κ (some (1000000 + i)))]) [0] rfl ?_
    refine G_aload_n dJ0_length_8abf5_0 0 rfl rfl ?_
    refine G_sval (i := i) (by omega) w_1274 dJ0_length_8abf5_1 ?_
    refine G_blen (i := i) (by omega) dJ0_length_8abf5_4 ?_
    refine G_aload_n dJ0_length_8abf5_5 0 rfl rfl ?_
    have e : rcS (some (1000000 + i)) (cl (m_J0_coder M (some (1000000 + i))) (fun (_ : Unit) (M2 : Mem) => rt (Int32.ofNat (lenJ.getD i 0) >>> ((0 : Int32) &&& 31)) M2)) = rt (Int32.ofNat (lenJ.getD i 0)) M := by
      have h1 : ∀ {β : Type} (r : Option β), rcS (some (1000000 + i)) r = r := fun r => if_pos hs
      rw [h1]
      unfold m_J0_coder
      rw [h1]
      show rt (Int32.ofNat (lenJ.getD i 0) >>> ((0 : Int32) &&& 31)) M = _
      rw [shr0]
    rw [← e]
    refine G_callStr ok_J0_coder [] [.int (Int32.ofNat (lenJ.getD i 0))] (con_J0_coder κ M (some (1000000 + i))) rfl w_365 w_366 w_367 (Nat.le_of_ble_eq_true rfl) (Nat.le_of_ble_eq_true rfl) dJ0_length_8abf5_6 rfl (by simp) (fun v M2 => (show G _ _ _ _ _ _ [.int 0, .int (Int32.ofNat (lenJ.getD i 0))] _ from ?_))
    refine G_ishr dJ0_length_8abf5_9 ?_
    exact G_ret (v := (Int32.ofNat (lenJ.getD i 0) >>> ((0 : Int32) &&& 31))) dJ0_length_8abf5_10 (fun h => by cases h) rfl
-- String.isLatin1
def m_J0_isLatin1 (M : Mem) (ob : Option Nat) : Option (Int32 × Mem) := rcS ob (rtZ 1 M)
abbrev md_J0_isLatin1 : MD := (RJ0, yJ0_isLatin1_aae02, cJ0_isLatin1_aae02, 1, some .boolean, 0, 0)
theorem ok_J0_isLatin1 : MOk md_J0_isLatin1 0 := ⟨by decide +kernel, w_378, w_12, ⟨by decide +kernel, by decide +kernel⟩, by decide +kernel, rfl⟩
theorem con_J0_isLatin1 (κ : Cfg) (M : Mem) (ob : Option Nat) : Con κ md_J0_isLatin1 [rv κ ob] M cvI (m_J0_isLatin1 M ob) := by
  refine Con.of ok_J0_isLatin1 (ret_Z rfl) (by
    intro v hv
    simp only [List.mem_cons, List.not_mem_nil, or_false] at hv
    subst hv; exact rv_cat _ _) (Nat.le_of_ble_eq_true rfl) ?_
  unfold m_J0_isLatin1
  cases ob with
  | none => exact G.none'
  | some a =>
    show G _ _ _ (if 1000000 ≤ a ∧ a < 1000005 then rtZ 1 M else none) _ _ _ _
    refine G.cond (fun hs => ?_) (fun _ => G.none')
    obtain ⟨i, rfl⟩ : ∃ i, a = 1000000 + i := ⟨a - 1000000, by omega⟩
    refine G.sub (lv' := [(0, rv κ (some (1000000 + i)))]) [0] rfl ?_
    refine G_gcomp w_369 dJ0_isLatin1_aae02_0 ?_
    refine (if_neg (show ¬ (1 : Int32) = 0 by decide) : (if (1 : Int32) = 0 then (none : Option (Int32 × Mem)) else rtZ 1 M) = rtZ 1 M) ▸ G_if_eq (tgt := 17) dJ0_isLatin1_aae02_3 (by decide) G.none' ?_
    refine G_aload_n dJ0_isLatin1_aae02_6 0 rfl rfl ?_
    refine G_scod (by omega) w_1275 dJ0_isLatin1_aae02_7 ?_
    refine (if_neg (show ¬ (0 : Int32) ≠ 0 by decide) : (if (0 : Int32) ≠ 0 then (none : Option (Int32 × Mem)) else rtZ 1 M) = rtZ 1 M) ▸ G_if_ne (tgt := 17) dJ0_isLatin1_aae02_10 (by decide) G.none' ?_
    refine G_iconst (v := 1) dJ0_isLatin1_aae02_13 (by decide) ?_
    refine G_goto (tgt := 18) dJ0_isLatin1_aae02_14 (by decide) ?_
    exact G_retZ dJ0_isLatin1_aae02_18
-- StringLatin1.charAt, String.charAt: the answer is a char
def chJ (i k : Nat) : Int32 := ((((bytJ.getD i []).getD k 0) &&& 255).toUInt32 % 65536).toInt32
theorem chJ_ok : ∀ i, i < 5 → ∀ k, k < lenJ.getD i 0 → narrow .char (.int (chJ i k)) = .int (chJ i k) := by decide +kernel
abbrev ChT : Type := { x : Int32 // narrow .char (.int x) = .int x }
abbrev cvCh : ChT → Option Value := fun x => some (.int x.1)
theorem ret_Ch {κ : Cfg} {y : MD} (h : mdR y = some .char) : RetOk κ y cvCh := by
  intro a p l e R s m args below meth c H locs cells slots ls pc Qc hx hb hr hlk hd hbo hq hf
  rw [h] at hr hd
  exact W.zret hx hb hr a.2 hq hf hd hlk
def chS (M : Mem) (i : Nat) (k : Int32) : Option (ChT × Mem) := if h : i < 5 ∧ 0 ≤ k.toInt ∧ k.toInt < lenJ.getD i 0 then rt ⟨chJ i k.toInt.toNat, chJ_ok i h.1 _ (by omega)⟩ M else none
def m_J1_charAt (M : Mem) (ob : Option Nat) (k : Int32) : Option (ChT × Mem) := match ob with | none => none | some a => if 1000010 ≤ a then chS M (a - 1000010) k else none
abbrev md_J1_charAt : MD := (RJ1, yJ1_charAt_3b067, cJ1_charAt_3b067, 2, some .char, 2, 43)
theorem ok_J1_charAt : MOk md_J1_charAt 2 := ⟨by decide +kernel, w_381, w_13, ⟨by decide +kernel, by decide +kernel⟩, by decide +kernel, rfl⟩
theorem con_J1_charAt (κ : Cfg) (M : Mem) (ob : Option Nat) (k : Int32) : Con κ md_J1_charAt [rv κ ob, .int k] M cvCh (m_J1_charAt M ob k) := by
  refine Con.of ok_J1_charAt (ret_Ch rfl) (by
    intro v hv
    simp only [List.mem_cons, List.not_mem_nil, or_false] at hv
    rcases hv with rfl | rfl <;> first | rfl | exact rv_cat _ _) (Nat.le_of_ble_eq_true rfl) ?_
  cases ob with
  | none => exact G.none'
  | some a =>
    show G _ _ _ (if 1000010 ≤ a then chS M (a - 1000010) k else none) _ _ _ _
    refine G.cond (fun hs => ?_) (fun _ => G.none')
    obtain ⟨i, rfl⟩ : ∃ i, a = 1000010 + i := ⟨a - 1000010, by omega⟩
    rw [Nat.add_sub_cancel_left]
    unfold chS
    by_cases h : i < 5 ∧ 0 ≤ k.toInt ∧ k.toInt < lenJ.getD i 0
    · rw [dif_pos h]
      have hlen : lenJ.getD i 0 < 5 := by
        have h5 : ∀ i, i < 5 → lenJ.getD i 0 < 5 := by decide
        exact h5 i h.1
      have e2 : (Int32.ofNat (lenJ.getD i 0)).toInt = lenJ.getD i 0 := by
        have h5 : ∀ n, n < 5 → (Int32.ofNat n).toInt = n := by decide
        exact h5 _ hlen
      have e : cl (m_J0_checkIndex M k (Int32.ofNat (lenJ.getD i 0))) (fun (_ : Unit) (M2 : Mem) => (rt ⟨chJ i k.toInt.toNat, chJ_ok i h.1 _ (by omega)⟩ M2 : Option (ChT × Mem))) = rt ⟨chJ i k.toInt.toNat, chJ_ok i h.1 _ (by omega)⟩ M := by
        unfold m_J0_checkIndex m_J3_checkIndex
        rw [if_neg (by rw [Int32.lt_iff_toInt_lt]; simp; omega), if_pos (by rw [Int32.lt_iff_toInt_lt, e2]; exact h.2.2)]
        rfl
      rw [← e]
      refine G.sub (lv' := [(0, rv κ (some (1000010 + i))), (1, .int k)]) [0, 1] rfl ?_
      refine G_iload_n dJ1_charAt_3b067_0 1 rfl rfl ?_
      refine G_aload_n dJ1_charAt_3b067_1 0 rfl rfl ?_
      refine G_blen (i := i) h.1 dJ1_charAt_3b067_2 ?_
      refine G_callS ok_J0_checkIndex [.int k, .int (Int32.ofNat (lenJ.getD i 0))] [] (con_J0_checkIndex κ M k _) rfl w_382 w_383 (Nat.le_of_ble_eq_true rfl) (Nat.le_of_ble_eq_true rfl) dJ1_charAt_3b067_3 rfl (by simp) (fun v M2 => (show G _ _ _ _ _ _ [] _ from ?_))
      refine G_aload_n dJ1_charAt_3b067_6 0 rfl rfl ?_
      refine G_iload_n dJ1_charAt_3b067_7 1 rfl rfl ?_
      refine G_bald (i := i) h.1 h.2.1 h.2.2 dJ1_charAt_3b067_8 ?_
      refine G_sipush (v := 255) dJ1_charAt_3b067_9 (by decide) ?_
      refine G_iand dJ1_charAt_3b067_12 ?_
      refine G_i2c dJ1_charAt_3b067_13 ?_
      exact G_ret (y := md_J1_charAt) (cv := cvCh) (v := (⟨chJ i k.toInt.toNat, chJ_ok i h.1 _ (by omega)⟩ : ChT)) dJ1_charAt_3b067_14 (fun h => by cases h) rfl
    · rw [dif_neg h]; exact G.none'
def k_J0_charAt (M : Mem) (ob : Option Nat) (k : Int32) : Option (ChT × Mem) := match ob with | none => none | some a => if 1000000 ≤ a ∧ a < 1000005 then chS M (a - 1000000) k else none
abbrev md_J0_charAt_5068e : MD := (RJ0, yJ0_charAt_5068e, cJ0_charAt_5068e, 2, some .char, 4, 110)
theorem ok_J0_charAt_5068e : MOk md_J0_charAt_5068e 1 := ⟨by decide +kernel, w_374, w_12, ⟨by decide +kernel, by decide +kernel⟩, by decide +kernel, rfl⟩
theorem con_J0_charAt_k (κ : Cfg) (M : Mem) (ob : Option Nat) (k : Int32) : Con κ md_J0_charAt_5068e [rv κ ob, .int k] M cvCh (k_J0_charAt M ob k) := by
  refine Con.of ok_J0_charAt_5068e (ret_Ch rfl) (by
    intro v hv
    simp only [List.mem_cons, List.not_mem_nil, or_false] at hv
    rcases hv with rfl | rfl <;> first | rfl | exact rv_cat _ _) (Nat.le_of_ble_eq_true rfl) ?_
  cases ob with
  | none => exact G.none'
  | some a =>
    show G _ _ _ (if 1000000 ≤ a ∧ a < 1000005 then chS M (a - 1000000) k else none) _ _ _ _
    refine G.cond (fun hs => ?_) (fun _ => G.none')
    obtain ⟨i, rfl⟩ : ∃ i, a = 1000000 + i := ⟨a - 1000000, by omega⟩
    rw [Nat.add_sub_cancel_left]
    have h1 : ∀ {β : Type} (r : Option β), rcS (some (1000000 + i)) r = r := fun r => if_pos hs
    have h2 : ∀ z : Option (ChT × Mem), cl z (fun (v : ChT) (M2 : Mem) => rt v M2) = z := fun z => by cases z <;> rfl
    have e : rcS (some (1000000 + i)) (cl (m_J0_isLatin1 M (some (1000000 + i))) (fun (x : Int32) (M2 : Mem) => (if x = 0 then none else cl (m_J1_charAt M2 (some (1000010 + i)) k) (fun (v : ChT) (M3 : Mem) => rt v M3)))) = chS M i k := by
      rw [h1]
      unfold m_J0_isLatin1
      rw [h1]
      show (if (1 : Int32) = 0 then none else cl (m_J1_charAt M (some (1000010 + i)) k) (fun (v : ChT) (M3 : Mem) => rt v M3)) = _
      rw [if_neg (by decide), h2]
      show (if 1000010 ≤ 1000010 + i then chS M (1000010 + i - 1000010) k else none) = _
      rw [if_pos (by omega), Nat.add_sub_cancel_left]
    rw [← e]
    refine G.sub (lv' := [(0, rv κ (some (1000000 + i))), (1, .int k)]) [0, 1] rfl ?_
    refine G_aload_n dJ0_charAt_5068e_0 0 rfl rfl ?_
    refine G_callStr ok_J0_isLatin1 [] [] (con_J0_isLatin1 κ M (some (1000000 + i))) rfl w_375 w_376 w_377 (Nat.le_of_ble_eq_true rfl) (Nat.le_of_ble_eq_true rfl) dJ0_charAt_5068e_1 rfl (by simp) (fun x M2 => (show G _ _ _ _ _ _ [.int x] _ from ?_))
    refine G_if_eq (tgt := 16) dJ0_charAt_5068e_4 (by decide) G.none' ?_
    refine G_aload_n dJ0_charAt_5068e_7 0 rfl rfl ?_
    refine G_sval (i := i) (by omega) w_1274 dJ0_charAt_5068e_8 ?_
    refine G_iload_n dJ0_charAt_5068e_11 1 rfl rfl ?_
    refine G_callS ok_J1_charAt [rv κ (some (1000010 + i)), .int k] [] (con_J1_charAt κ M2 _ k) rfl w_379 w_380 (Nat.le_of_ble_eq_true rfl) (Nat.le_of_ble_eq_true rfl) dJ0_charAt_5068e_12 rfl (by simp) (fun v M3 => (show G _ _ _ _ _ _ [.int v.1] _ from ?_))
    exact G_ret (v := v) dJ0_charAt_5068e_15 (fun h => by cases h) rfl
def m_J0_charAt_5068e (M : Mem) (ob : Option Nat) (k : Int32) : Option (Int32 × Mem) := (k_J0_charAt M ob k).map (fun z => (z.1.1, z.2))
theorem con_J0_charAt_5068e (κ : Cfg) (M : Mem) (ob : Option Nat) (k : Int32) : Con κ md_J0_charAt_5068e [rv κ ob, .int k] M cvI (m_J0_charAt_5068e M ob k) :=
  Con.map (fun x : ChT => x.1) (con_J0_charAt_k κ M ob k) (fun _ => rfl)
-- Float.isNaN, Float.floatToIntBits, for no NaN
def m_JF_isNaN (M : Mem) (x : UInt32) : Option (Int32 × Mem) := (if Op.cmpValue (FP.fcmp x x) .l = 0 then rtZ 0 M else rtZ 1 M)
abbrev md_JF_isNaN : MD := (RJxf58ca, yJxf58ca_isNaN_12338, cJxf58ca_isNaN_12338, 1, some .boolean, 0, 0)
theorem ok_JF_isNaN : MOk md_JF_isNaN 1 := ⟨by decide +kernel, w_1149, w_18, ⟨by decide +kernel, by decide +kernel⟩, by decide +kernel, rfl⟩
theorem con_JF_isNaN (κ : Cfg) (M : Mem) (x : UInt32) : Con κ md_JF_isNaN [.float x] M cvI (m_JF_isNaN M x) := by
  refine Con.of ok_JF_isNaN (ret_Z rfl) (cats rfl) (Nat.le_of_ble_eq_true rfl) ?_
  unfold m_JF_isNaN
  refine G.sub (lv' := [(0, .float x)]) [0] rfl ?_
  refine G_fload_n dJxf58ca_isNaN_12338_0 0 rfl rfl ?_
  refine G_fload_n dJxf58ca_isNaN_12338_1 0 rfl rfl ?_
  refine G_fcmp dJxf58ca_isNaN_12338_2 ?_
  refine G_if_eq (tgt := 10) dJxf58ca_isNaN_12338_3 (by decide) ?_ ?_
  · refine G_iconst (v := 0) dJxf58ca_isNaN_12338_10 (by decide) ?_
    exact G_retZ dJxf58ca_isNaN_12338_11
  · refine G_iconst (v := 1) dJxf58ca_isNaN_12338_6 (by decide) ?_
    refine G_goto (tgt := 11) dJxf58ca_isNaN_12338_7 (by decide) ?_
    exact G_retZ dJxf58ca_isNaN_12338_11
theorem G_raw {κ : Cfg} {y : MD} {α : Type} {cv : α → Option Value} {o : Option (α × Mem)} {pc : Nat} {lv : List (Nat × Value)} {st : List Value} {M : Mem} {x : UInt32} {idx : Nat} (hl : Jvm.Cond.methodLink (mdO y) idx ⟨"java/lang/Float", "floatToRawIntBits", "(F)I"⟩ ∈ WS) (h1 : Jvm.Cond.native ⟨"java/lang/Float", "floatToRawIntBits", "(F)I"⟩ ∈ WS) (h2 : Jvm.Cond.static ⟨"java/lang/Float", "floatToRawIntBits", "(F)I"⟩ ∈ WS) (h3 : Jvm.Cond.initialized "java/lang/Float" ∈ WS) (hF : 1 ≤ mdF y) (hK : 23 ≤ mdK y) (h4 : st.length ≤ 4) (hd : decode (mdC y) pc = .ok (.invokestatic idx, 3)) (k : G κ y cv o (pc + 3) lv (.int x.toInt32 :: st) M) : G κ y cv o pc lv (.float x :: st) M := by
  refine G.step k ?_
  intro p l e R s m args below meth c H locs cells slots ls Q X hH hl0 kk
  have h8 := room_st st h4
  have h9 := X.2.2.2.2.2.2.2.2.2.2.2
  exact vn_f2i X.1 X.2.1 (X.2.2.1.trans hl0.1.1.symm) X.2.2.2.1 (X.w _ hl) (X.w _ h1) (X.w _ h2) (X.w _ h3) (Nat.le_trans hF X.2.2.2.2.2.2.2.2.2.2.1) (by omega) hd (kk ls hl0)
def m_Jxf58ca_floatToIntBits_5c35a (M : Mem) (x : UInt32) : Option (Int32 × Mem) := cl (m_JF_isNaN M x) (fun (z : Int32) (M2 : Mem) => (if z ≠ 0 then rt 2143289344 M2 else rt x.toInt32 M2))
abbrev md_Jxf58ca_floatToIntBits_5c35a : MD := (RJxf58ca, yJxf58ca_floatToIntBits_5c35a, cJxf58ca_floatToIntBits_5c35a, 1, some .int, 1, 30)
theorem ok_Jxf58ca_floatToIntBits_5c35a : MOk md_Jxf58ca_floatToIntBits_5c35a 1 := ⟨by decide +kernel, w_1146, w_18, ⟨by decide +kernel, by decide +kernel⟩, by decide +kernel, rfl⟩
theorem con_Jxf58ca_floatToIntBits_5c35a (κ : Cfg) (M : Mem) (x : UInt32) : Con κ md_Jxf58ca_floatToIntBits_5c35a [.float x] M cvI (m_Jxf58ca_floatToIntBits_5c35a M x) := by
  refine Con.of ok_Jxf58ca_floatToIntBits_5c35a (ret_I rfl) (cats rfl) (Nat.le_of_ble_eq_true rfl) ?_
  unfold m_Jxf58ca_floatToIntBits_5c35a
  refine G.sub (lv' := [(0, .float x)]) [0] rfl ?_
  refine G_fload_n dJxf58ca_floatToIntBits_5c35a_0 0 rfl rfl ?_
  refine G_callS ok_JF_isNaN [.float x] [] (con_JF_isNaN κ M x) rfl w_1147 w_1148 (Nat.le_of_ble_eq_true rfl) (Nat.le_of_ble_eq_true rfl) dJxf58ca_floatToIntBits_5c35a_1 rfl (by simp) (fun z M2 => (show G _ _ _ _ _ _ [.int z] _ from ?_))
  refine G_if_ne (tgt := 12) dJxf58ca_floatToIntBits_5c35a_4 (by decide) ?_ ?_
  · refine G_ldc (v := 2143289344) dJxf58ca_floatToIntBits_5c35a_12 w_1153 ?_
    exact G_ret (v := 2143289344) dJxf58ca_floatToIntBits_5c35a_14 (fun h => by cases h) rfl
  · refine G_fload_n dJxf58ca_floatToIntBits_5c35a_7 0 rfl rfl ?_
    refine G_raw w_1150 w_1152 w_1151 w_18 (Nat.le_of_ble_eq_true rfl) (Nat.le_of_ble_eq_true rfl) (by simp) dJxf58ca_floatToIntBits_5c35a_8 ?_
    exact G_ret (v := x.toInt32) dJxf58ca_floatToIntBits_5c35a_11 (fun h => by cases h) rfl
