def m_X6_init (M : Mem) (this : Option Nat) : Option (Unit × Mem) :=
  oi this (nA M 101 90 (fun (q1 : Option Nat) (M2 : Mem) => pP M2 6 0 this q1 (fun (M3 : Mem) => nA M3 100 3 (fun (q4 : Option Nat) (M5 : Mem) => pP M5 6 1 this q4 (fun (M6 : Mem) => nO M6 5 6 (fun (q7 : Option Nat) (M8 : Mem) => rc M8 5 q7 (cl (m_X5_init M8 q7) (fun (_u : Unit) (M9 : Mem) => pP M9 6 2 this q7 (fun (M10 : Mem) => rt () M10)))))))))
abbrev md_X6_init : MD := (RX6, yX6_init, cX6_init, 1, Option.none, 3, 64)
theorem ok_X6_init : MOk md_X6_init 0 := ⟨by decide +kernel, w_242, w_9, ⟨by decide +kernel, by decide +kernel⟩, by decide +kernel, rfl⟩
set_option maxRecDepth 100000 in
set_option maxHeartbeats 4000000 in
theorem con_X6_init (κ : Cfg) (M : Mem) (this : Option Nat) : Con κ md_X6_init [rv κ this] M cvV (m_X6_init M this) := by
  refine Con.of ok_X6_init (ret_V rfl) (by
    intro v hv
    simp only [List.mem_cons, List.not_mem_nil, or_false] at hv
    subst hv; first | rfl | exact rv_cat _ _) (Nat.le_of_ble_eq_true rfl) ?_
  unfold m_X6_init
  refine G.sub (lv' := [(0, rv κ this)]) [0] rfl ?_
  refine G_aload_n dX6_init_0 0 rfl rfl ?_
  refine G_objInit w_243 w_25 w_26 (Nat.le_of_ble_eq_true rfl) (Nat.le_of_ble_eq_true rfl) (by simp) dX6_init_1 ?_
  refine G_aload_n dX6_init_4 0 rfl rfl ?_
  refine G_bipush (v := 90) dX6_init_5 (by decide) ?_
  refine G_newa (at9 := .char) (fun _ => rfl) w_279 (by simp) dX6_init_7 (fun q1 M2 => ?_)
  refine G_putP cf_X6 (j := 0) rfl (Or.inr ⟨_, rfl⟩) w_246 (Or.inr ⟨rfl, rfl, rfl⟩) dX6_init_9 (fun M3 => ?_)
  refine G_aload_n dX6_init_12 0 rfl rfl ?_
  refine G_iconst (v := 3) dX6_init_13 (by decide) ?_
  refine G_newa (at9 := .int) (fun _ => rfl) w_142 (by simp) dX6_init_14 (fun q4 M5 => ?_)
  refine G_putP cf_X6 (j := 1) rfl (Or.inr ⟨_, rfl⟩) w_247 (Or.inr ⟨rfl, rfl, rfl⟩) dX6_init_16 (fun M6 => ?_)
  refine G_aload_n dX6_init_19 0 rfl rfl ?_
  refine G_new cf_X5 cd_X5 w_244 w_43 w_3 dX6_init_20 (fun q7 M8 => ?_)
  refine G_dup dX6_init_23 (rv_cat _ _) ?_
  refine G_callI ok_X5_init [] [rv κ q7, rv κ this] (con_X5_init κ M8 q7) rfl w_245 w_45 rfl rfl (Nat.le_of_ble_eq_true rfl) (Nat.le_of_ble_eq_true rfl) dX6_init_24 rfl (by simp) (fun _u M9 => (show G _ _ _ _ _ _ [rv κ q7, rv κ this] _ from ?_))
  refine G_putP cf_X6 (j := 2) rfl (Or.inl ⟨_, rfl⟩) w_248 (Or.inr ⟨rfl, rfl, rfl⟩) dX6_init_27 (fun M10 => ?_)
  exact G_ret (v := ()) dX6_init_30 (fun h => by cases h) rfl
def m_X6_hasRoomFor (M : Mem) (this : Option Nat) (p1 : Int32) : Option (Int32 × Mem) :=
  dI M 6 3 this (fun (x1 : Int32) => (if 90 < (x1 + p1) then rtZ 0 M else rtZ 1 M))
abbrev md_X6_hasRoomFor : MD := (RX6, yX6_hasRoomFor, cX6_hasRoomFor, 2, Option.some Jvm.ClassFile.FieldType.boolean, 0, 0)
theorem ok_X6_hasRoomFor : MOk md_X6_hasRoomFor 1 := ⟨by decide +kernel, w_325, w_9, ⟨by decide +kernel, by decide +kernel⟩, by decide +kernel, rfl⟩
set_option maxRecDepth 100000 in
set_option maxHeartbeats 4000000 in
theorem con_X6_hasRoomFor (κ : Cfg) (M : Mem) (this : Option Nat) (p1 : Int32) : Con κ md_X6_hasRoomFor [rv κ this, .int p1] M cvI (m_X6_hasRoomFor M this p1) := by
  refine Con.of ok_X6_hasRoomFor (ret_Z rfl) (by
    intro v hv
    simp only [List.mem_cons, List.not_mem_nil, or_false] at hv
    rcases hv with rfl | rfl <;> first | rfl | exact rv_cat _ _) (Nat.le_of_ble_eq_true rfl) ?_
  unfold m_X6_hasRoomFor
  refine G.sub (lv' := [(0, rv κ this), (1, .int p1)]) [0, 1] rfl ?_
  refine G_aload_n dX6_hasRoomFor_0 0 rfl rfl ?_
  refine G_getI cf_X6 (j := 3) rfl w_250 dX6_hasRoomFor_1 (fun x1 => ?_)
  refine G_iload_n dX6_hasRoomFor_4 1 rfl rfl ?_
  refine G_iadd dX6_hasRoomFor_5 ?_
  refine G_bipush (v := 90) dX6_hasRoomFor_6 (by decide) ?_
  refine G_icmp_gt (tgt := 15) dX6_hasRoomFor_8 (by decide) ?_ ?_
  · refine G_iconst (v := 0) dX6_hasRoomFor_15 (by decide) ?_
    exact G_retZ dX6_hasRoomFor_16
  · refine G_iconst (v := 1) dX6_hasRoomFor_11 (by decide) ?_
    refine G_goto (tgt := 16) dX6_hasRoomFor_12 (by decide) ?_
    exact G_retZ dX6_hasRoomFor_16
def b_X6_add_2 (this : Option Nat) (p1 : Int32) (p2 : Int32) (L2_0 : (Int32 × Mem) → Option (Unit × Mem)) (a1 : Int32 × Mem) : Option (Unit × Mem) :=
  (if p2 ≤ a1.1 then rt () a1.2 else dI a1.2 6 3 this (fun (x3 : Int32) => (if 90 ≤ x3 then rt () a1.2 else dP a1.2 6 0 this (fun (q4 : Option Nat) => dI a1.2 6 3 this (fun (x5 : Int32) => sI a1.2 101 q4 x5 (((p1).toUInt32.toUInt16.toUInt32.toInt32)) (fun (M6 : Mem) => dI M6 6 3 this (fun (x7 : Int32) => pI M6 6 3 this ((x7 + 1)) (fun (M8 : Mem) => L2_0 ((a1.1 + 1), M8)))))))))
def m_X6_add (M : Mem) (this : Option Nat) (p1 : Int32) (p2 : Int32) : Option (Unit × Mem) :=
  lp (b_X6_add_2 this p1 p2) FU (0, M)
abbrev md_X6_add : MD := (RX6, yX6_add, cX6_add, 4, Option.none, 0, 0)
theorem ok_X6_add : MOk md_X6_add 2 := ⟨by decide +kernel, w_329, w_9, ⟨by decide +kernel, by decide +kernel⟩, by decide +kernel, rfl⟩
set_option maxRecDepth 100000 in
set_option maxHeartbeats 4000000 in
theorem con_X6_add (κ : Cfg) (M : Mem) (this : Option Nat) (p1 : Int32) (p2 : Int32) : Con κ md_X6_add [rv κ this, .int p1, .int p2] M cvV (m_X6_add M this p1 p2) := by
  refine Con.of ok_X6_add (ret_V rfl) (by
    intro v hv
    simp only [List.mem_cons, List.not_mem_nil, or_false] at hv
    rcases hv with rfl | rfl | rfl <;> first | rfl | exact rv_cat _ _) (Nat.le_of_ble_eq_true rfl) ?_
  unfold m_X6_add
  refine G.sub (lv' := [(0, rv κ this), (1, .int p1), (2, .int p2)]) [0, 1, 2] rfl ?_
  refine G_iconst (v := 0) dX6_add_0 (by decide) ?_
  refine G_istore_n (lv' := [(3, .int 0), (0, rv κ this), (1, .int p1), (2, .int p2)]) dX6_add_1 rfl (Nat.le_of_ble_eq_true rfl) rfl ?_
  refine G.sub (lv' := [(0, rv κ this), (1, .int p1), (2, .int p2), (3, .int 0)]) [1, 2, 3, 0] rfl ?_
  refine G.loop (lvf := fun (a1 : Int32 × Mem) => [(0, rv κ this), (1, .int p1), (2, .int p2), (3, .int a1.1)]) (mf := fun (a1 : Int32 × Mem) => a1.2) (fun L2_0 hL2_0 a1 => ?_) FU (0, M)
  unfold b_X6_add_2
  refine G_iload_n dX6_add_2 3 rfl rfl ?_
  refine G_iload_n dX6_add_3 2 rfl rfl ?_
  refine G_icmp_ge (tgt := 42) dX6_add_4 (by decide) ?_ ?_
  · exact G_ret (v := ()) dX6_add_42 (fun h => by cases h) rfl
  · refine G_aload_n dX6_add_7 0 rfl rfl ?_
    refine G_getI cf_X6 (j := 3) rfl w_250 dX6_add_8 (fun x3 => ?_)
    refine G_bipush (v := 90) dX6_add_11 (by decide) ?_
    refine G_icmp_ge (tgt := 42) dX6_add_13 (by decide) ?_ ?_
    · exact G_ret (v := ()) dX6_add_42 (fun h => by cases h) rfl
    · refine G_aload_n dX6_add_16 0 rfl rfl ?_
      refine G_getP cf_X6 (j := 0) rfl w_246 dX6_add_17 (fun q4 => ?_)
      refine G_aload_n dX6_add_20 0 rfl rfl ?_
      refine G_getI cf_X6 (j := 3) rfl w_250 dX6_add_21 (fun x5 => ?_)
      refine G_iload_n dX6_add_24 1 rfl rfl ?_
      refine G_cast dX6_add_25 (fun M6 => ?_)
      refine G_aload_n dX6_add_26 0 rfl rfl ?_
      refine G_dup dX6_add_27 (rv_cat _ _) ?_
      refine G_getI cf_X6 (j := 3) rfl w_250 dX6_add_28 (fun x7 => ?_)
      refine G_iconst (v := 1) dX6_add_31 (by decide) ?_
      refine G_iadd dX6_add_32 ?_
      refine G_putI cf_X6 (j := 3) rfl rfl w_250 (Or.inl rfl) dX6_add_33 (fun M8 => ?_)
      refine G_iinc (v := (a1.1 + 1)) (lv' := [(3, .int (a1.1 + 1)), (0, rv κ this), (1, .int p1), (2, .int p2)]) dX6_add_36 3 rfl (congrArg (fun z9 : Int32 => a1.1 + z9) (by decide : Int32.ofInt 1 = 1)) (Nat.le_of_ble_eq_true rfl) rfl ?_
      refine G_goto (tgt := 2) dX6_add_39 (by decide) ?_
      exact G.sub [1, 2, 3, 0] rfl (hL2_0 _)
def m_X6_clear (M : Mem) (this : Option Nat) : Option (Unit × Mem) :=
  pI M 6 3 this 0 (fun (M1 : Mem) => rt () M1)
abbrev md_X6_clear : MD := (RX6, yX6_clear, cX6_clear, 1, Option.none, 0, 0)
theorem ok_X6_clear : MOk md_X6_clear 0 := ⟨by decide +kernel, w_459, w_9, ⟨by decide +kernel, by decide +kernel⟩, by decide +kernel, rfl⟩
set_option maxRecDepth 100000 in
set_option maxHeartbeats 4000000 in
theorem con_X6_clear (κ : Cfg) (M : Mem) (this : Option Nat) : Con κ md_X6_clear [rv κ this] M cvV (m_X6_clear M this) := by
  refine Con.of ok_X6_clear (ret_V rfl) (by
    intro v hv
    simp only [List.mem_cons, List.not_mem_nil, or_false] at hv
    subst hv; first | rfl | exact rv_cat _ _) (Nat.le_of_ble_eq_true rfl) ?_
  unfold m_X6_clear
  refine G.sub (lv' := [(0, rv κ this)]) [0] rfl ?_
  refine G_aload_n dX6_clear_0 0 rfl rfl ?_
  refine G_iconst (v := 0) dX6_clear_1 (by decide) ?_
  refine G_putI cf_X6 (j := 3) rfl rfl w_250 (Or.inl rfl) dX6_clear_2 (fun M1 => ?_)
  exact G_ret (v := ()) dX6_clear_5 (fun h => by cases h) rfl
def m_X6_isSmallLetter (M : Mem) (this : Option Nat) (p1 : Int32) : Option (Int32 × Mem) :=
  (if p1 < 97 then rtZ 0 M else (if 122 < p1 then rtZ 0 M else rtZ 1 M))
abbrev md_X6_isSmallLetter : MD := (RX6, yX6_isSmallLetter, cX6_isSmallLetter, 2, Option.some Jvm.ClassFile.FieldType.boolean, 0, 0)
theorem ok_X6_isSmallLetter : MOk md_X6_isSmallLetter 1 := ⟨by decide +kernel, w_355, w_9, ⟨by decide +kernel, by decide +kernel⟩, by decide +kernel, rfl⟩
set_option maxRecDepth 100000 in
set_option maxHeartbeats 4000000 in
theorem con_X6_isSmallLetter (κ : Cfg) (M : Mem) (this : Option Nat) (p1 : Int32) : Con κ md_X6_isSmallLetter [rv κ this, .int p1] M cvI (m_X6_isSmallLetter M this p1) := by
  refine Con.of ok_X6_isSmallLetter (ret_Z rfl) (by
    intro v hv
    simp only [List.mem_cons, List.not_mem_nil, or_false] at hv
    rcases hv with rfl | rfl <;> first | rfl | exact rv_cat _ _) (Nat.le_of_ble_eq_true rfl) ?_
  unfold m_X6_isSmallLetter
  refine G.sub (lv' := [(0, rv κ this), (1, .int p1)]) [0, 1] rfl ?_
  refine G_iload_n dX6_isSmallLetter_0 1 rfl rfl ?_
  refine G_bipush (v := 97) dX6_isSmallLetter_1 (by decide) ?_
  refine G_icmp_lt (tgt := 16) dX6_isSmallLetter_3 (by decide) ?_ ?_
  · refine G_iconst (v := 0) dX6_isSmallLetter_16 (by decide) ?_
    exact G_retZ dX6_isSmallLetter_17
  · refine G_iload_n dX6_isSmallLetter_6 1 rfl rfl ?_
    refine G_bipush (v := 122) dX6_isSmallLetter_7 (by decide) ?_
    refine G_icmp_gt (tgt := 16) dX6_isSmallLetter_9 (by decide) ?_ ?_
    · refine G_iconst (v := 0) dX6_isSmallLetter_16 (by decide) ?_
      exact G_retZ dX6_isSmallLetter_17
    · refine G_iconst (v := 1) dX6_isSmallLetter_12 (by decide) ?_
      refine G_goto (tgt := 17) dX6_isSmallLetter_13 (by decide) ?_
      exact G_retZ dX6_isSmallLetter_17
def b_X6_skipWord_0 (this : Option Nat) (L0_0 : (Mem) → Option (Unit × Mem)) (a1 : Mem) : Option (Unit × Mem) :=
  dI a1 6 4 this (fun (x3 : Int32) => dI a1 6 3 this (fun (x4 : Int32) => (if x4 ≤ x3 then rt () a1 else dP a1 6 0 this (fun (q5 : Option Nat) => dI a1 6 4 this (fun (x6 : Int32) => aI a1 101 q5 x6 (fun (x7 : Int32) => rc a1 6 this (cl (m_X6_isSmallLetter a1 this x7) (fun (x9 : Int32) (M8 : Mem) => (if x9 = 0 then rt () M8 else dI M8 6 4 this (fun (x10 : Int32) => pI M8 6 4 this ((x10 + 1)) (fun (M11 : Mem) => L0_0 M11)))))))))))
def m_X6_skipWord (M : Mem) (this : Option Nat) : Option (Unit × Mem) :=
  lp (b_X6_skipWord_0 this) FU M
abbrev md_X6_skipWord : MD := (RX6, yX6_skipWord, cX6_skipWord, 1, Option.none, 1, 21)
theorem ok_X6_skipWord : MOk md_X6_skipWord 0 := ⟨by decide +kernel, w_351, w_9, ⟨by decide +kernel, by decide +kernel⟩, by decide +kernel, rfl⟩
set_option maxRecDepth 100000 in
set_option maxHeartbeats 4000000 in
theorem con_X6_skipWord (κ : Cfg) (M : Mem) (this : Option Nat) : Con κ md_X6_skipWord [rv κ this] M cvV (m_X6_skipWord M this) := by
  refine Con.of ok_X6_skipWord (ret_V rfl) (by
    intro v hv
    simp only [List.mem_cons, List.not_mem_nil, or_false] at hv
    subst hv; first | rfl | exact rv_cat _ _) (Nat.le_of_ble_eq_true rfl) ?_
  unfold m_X6_skipWord
  refine G.sub (lv' := [(0, rv κ this)]) [0] rfl ?_
  refine G.sub (lv' := [(0, rv κ this)]) [0] rfl ?_
  refine G.loop (lvf := fun (a1 : Mem) => [(0, rv κ this)]) (mf := fun (a1 : Mem) => a1) (fun L0_0 hL0_0 a1 => ?_) FU M
  unfold b_X6_skipWord_0
  refine G_aload_n dX6_skipWord_0 0 rfl rfl ?_
  refine G_getI cf_X6 (j := 4) rfl w_252 dX6_skipWord_1 (fun x3 => ?_)
  refine G_aload_n dX6_skipWord_4 0 rfl rfl ?_
  refine G_getI cf_X6 (j := 3) rfl w_250 dX6_skipWord_5 (fun x4 => ?_)
  refine G_icmp_ge (tgt := 40) dX6_skipWord_8 (by decide) ?_ ?_
  · exact G_ret (v := ()) dX6_skipWord_40 (fun h => by cases h) rfl
  · refine G_aload_n dX6_skipWord_11 0 rfl rfl ?_
    refine G_aload_n dX6_skipWord_12 0 rfl rfl ?_
    refine G_getP cf_X6 (j := 0) rfl w_246 dX6_skipWord_13 (fun q5 => ?_)
    refine G_aload_n dX6_skipWord_16 0 rfl rfl ?_
    refine G_getI cf_X6 (j := 4) rfl w_252 dX6_skipWord_17 (fun x6 => ?_)
    refine G_cald dX6_skipWord_20 (fun x7 => ?_)
    refine G_callV cf_X6 ok_X6_isSmallLetter [.int x7] [] (con_X6_isSmallLetter κ a1 this x7) rfl w_352 w_353 w_354 (Nat.le_of_ble_eq_true rfl) (Nat.le_of_ble_eq_true rfl) dX6_skipWord_21 rfl (by simp) (fun x9 M8 => (show G _ _ _ _ _ _ [.int x9] _ from ?_))
    refine G_if_eq (tgt := 40) dX6_skipWord_24 (by decide) ?_ ?_
    · exact G_ret (v := ()) dX6_skipWord_40 (fun h => by cases h) rfl
    · refine G_aload_n dX6_skipWord_27 0 rfl rfl ?_
      refine G_dup dX6_skipWord_28 (rv_cat _ _) ?_
      refine G_getI cf_X6 (j := 4) rfl w_252 dX6_skipWord_29 (fun x10 => ?_)
      refine G_iconst (v := 1) dX6_skipWord_32 (by decide) ?_
      refine G_iadd dX6_skipWord_33 ?_
      refine G_putI cf_X6 (j := 4) rfl rfl w_252 (Or.inl rfl) dX6_skipWord_34 (fun M11 => ?_)
      refine G_goto (tgt := 0) dX6_skipWord_37 (by decide) ?_
      exact G.sub [0] rfl (hL0_0 _)
def m_X6_fault (M : Mem) (this : Option Nat) (p1 : Int32) (p2 : Int32) : Option (Int32 × Mem) :=
  pI M 6 7 this p1 (fun (M1 : Mem) => pI M1 6 8 this p2 (fun (M2 : Mem) => rtZ 0 M2))
abbrev md_X6_fault : MD := (RX6, yX6_fault, cX6_fault, 3, Option.some Jvm.ClassFile.FieldType.boolean, 0, 0)
theorem ok_X6_fault : MOk md_X6_fault 2 := ⟨by decide +kernel, w_424, w_9, ⟨by decide +kernel, by decide +kernel⟩, by decide +kernel, rfl⟩
set_option maxRecDepth 100000 in
set_option maxHeartbeats 4000000 in
theorem con_X6_fault (κ : Cfg) (M : Mem) (this : Option Nat) (p1 : Int32) (p2 : Int32) : Con κ md_X6_fault [rv κ this, .int p1, .int p2] M cvI (m_X6_fault M this p1 p2) := by
  refine Con.of ok_X6_fault (ret_Z rfl) (by
    intro v hv
    simp only [List.mem_cons, List.not_mem_nil, or_false] at hv
    rcases hv with rfl | rfl | rfl <;> first | rfl | exact rv_cat _ _) (Nat.le_of_ble_eq_true rfl) ?_
  unfold m_X6_fault
  refine G.sub (lv' := [(0, rv κ this), (1, .int p1), (2, .int p2)]) [0, 1, 2] rfl ?_
  refine G_aload_n dX6_fault_0 0 rfl rfl ?_
  refine G_iload_n dX6_fault_1 1 rfl rfl ?_
  refine G_putI cf_X6 (j := 7) rfl rfl w_257 (Or.inl rfl) dX6_fault_2 (fun M1 => ?_)
  refine G_aload_n dX6_fault_5 0 rfl rfl ?_
  refine G_iload_n dX6_fault_6 2 rfl rfl ?_
  refine G_putI cf_X6 (j := 8) rfl rfl w_259 (Or.inl rfl) dX6_fault_7 (fun M2 => ?_)
  refine G_iconst (v := 0) dX6_fault_10 (by decide) ?_
  exact G_retZ dX6_fault_11
def m_X6_readSign (M : Mem) (this : Option Nat) (p1 : Int32) : Option (Int32 × Mem) :=
  dI M 6 4 this (fun (x1 : Int32) => dI M 6 3 this (fun (x2 : Int32) => jn (fun (M4 : Mem) => dI M4 6 4 this (fun (x5 : Int32) => rc M4 6 this (cl (m_X6_fault M4 this 3 x5) (fun (x7 : Int32) (M6 : Mem) => rtZ x7 M6)))) (fun (J24_2 : Mem → Option (Int32 × Mem)) => (if x2 ≤ x1 then J24_2 M else dP M 6 0 this (fun (q8 : Option Nat) => dI M 6 4 this (fun (x9 : Int32) => aI M 101 q8 x9 (fun (x10 : Int32) => (if x10 = p1 then dI M 6 4 this (fun (x11 : Int32) => pI M 6 4 this ((x11 + 1)) (fun (M12 : Mem) => rtZ 1 M12)) else J24_2 M))))))))
abbrev md_X6_readSign : MD := (RX6, yX6_readSign, cX6_readSign, 2, Option.some Jvm.ClassFile.FieldType.boolean, 1, 22)
theorem ok_X6_readSign : MOk md_X6_readSign 1 := ⟨by decide +kernel, w_420, w_9, ⟨by decide +kernel, by decide +kernel⟩, by decide +kernel, rfl⟩
set_option maxRecDepth 100000 in
set_option maxHeartbeats 4000000 in
theorem con_X6_readSign (κ : Cfg) (M : Mem) (this : Option Nat) (p1 : Int32) : Con κ md_X6_readSign [rv κ this, .int p1] M cvI (m_X6_readSign M this p1) := by
  refine Con.of ok_X6_readSign (ret_Z rfl) (by
    intro v hv
    simp only [List.mem_cons, List.not_mem_nil, or_false] at hv
    rcases hv with rfl | rfl <;> first | rfl | exact rv_cat _ _) (Nat.le_of_ble_eq_true rfl) ?_
  unfold m_X6_readSign
  refine G.sub (lv' := [(0, rv κ this), (1, .int p1)]) [0, 1] rfl ?_
  refine G_aload_n dX6_readSign_0 0 rfl rfl ?_
  refine G_getI cf_X6 (j := 4) rfl w_252 dX6_readSign_1 (fun x1 => ?_)
  refine G_aload_n dX6_readSign_4 0 rfl rfl ?_
  refine G_getI cf_X6 (j := 3) rfl w_250 dX6_readSign_5 (fun x2 => ?_)
  refine G.jn (P := (fun (J : Mem → Option (Int32 × Mem)) => ∀ (M4 : Mem), G κ md_X6_readSign cvI (J M4) 24 [(0, rv κ this)] [] M4)) ?_ ?_
  · intro M4
    refine G_aload_n dX6_readSign_24 0 rfl rfl ?_
    refine G_iconst (v := 3) dX6_readSign_25 (by decide) ?_
    refine G_aload_n dX6_readSign_26 0 rfl rfl ?_
    refine G_getI cf_X6 (j := 4) rfl w_252 dX6_readSign_27 (fun x5 => ?_)
    refine G_callV cf_X6 ok_X6_fault [.int 3, .int x5] [] (con_X6_fault κ M4 this 3 x5) rfl w_421 w_422 w_423 (Nat.le_of_ble_eq_true rfl) (Nat.le_of_ble_eq_true rfl) dX6_readSign_30 rfl (by simp) (fun x7 M6 => (show G _ _ _ _ _ _ [.int x7] _ from ?_))
    exact G_retZ dX6_readSign_33
  · intro J24_2 hJ24_2
    refine G_icmp_ge (tgt := 24) dX6_readSign_8 (by decide) ?_ ?_
    · exact G.sub [0] rfl (hJ24_2 _)
    · refine G_aload_n dX6_readSign_11 0 rfl rfl ?_
      refine G_getP cf_X6 (j := 0) rfl w_246 dX6_readSign_12 (fun q8 => ?_)
      refine G_aload_n dX6_readSign_15 0 rfl rfl ?_
      refine G_getI cf_X6 (j := 4) rfl w_252 dX6_readSign_16 (fun x9 => ?_)
      refine G_cald dX6_readSign_19 (fun x10 => ?_)
      refine G_iload_n dX6_readSign_20 1 rfl rfl ?_
      refine G_icmp_eq (tgt := 34) dX6_readSign_21 (by decide) ?_ ?_
      · refine G_aload_n dX6_readSign_34 0 rfl rfl ?_
        refine G_dup dX6_readSign_35 (rv_cat _ _) ?_
        refine G_getI cf_X6 (j := 4) rfl w_252 dX6_readSign_36 (fun x11 => ?_)
        refine G_iconst (v := 1) dX6_readSign_39 (by decide) ?_
        refine G_iadd dX6_readSign_40 ?_
        refine G_putI cf_X6 (j := 4) rfl rfl w_252 (Or.inl rfl) dX6_readSign_41 (fun M12 => ?_)
        refine G_iconst (v := 1) dX6_readSign_44 (by decide) ?_
        exact G_retZ dX6_readSign_45
      · exact G.sub [0] rfl (hJ24_2 _)
def m_X6_isDigit (M : Mem) (this : Option Nat) (p1 : Int32) : Option (Int32 × Mem) :=
  (if p1 < 48 then rtZ 0 M else (if 57 < p1 then rtZ 0 M else rtZ 1 M))
abbrev md_X6_isDigit : MD := (RX6, yX6_isDigit, cX6_isDigit, 2, Option.some Jvm.ClassFile.FieldType.boolean, 0, 0)
theorem ok_X6_isDigit : MOk md_X6_isDigit 1 := ⟨by decide +kernel, w_432, w_9, ⟨by decide +kernel, by decide +kernel⟩, by decide +kernel, rfl⟩
set_option maxRecDepth 100000 in
set_option maxHeartbeats 4000000 in
theorem con_X6_isDigit (κ : Cfg) (M : Mem) (this : Option Nat) (p1 : Int32) : Con κ md_X6_isDigit [rv κ this, .int p1] M cvI (m_X6_isDigit M this p1) := by
  refine Con.of ok_X6_isDigit (ret_Z rfl) (by
    intro v hv
    simp only [List.mem_cons, List.not_mem_nil, or_false] at hv
    rcases hv with rfl | rfl <;> first | rfl | exact rv_cat _ _) (Nat.le_of_ble_eq_true rfl) ?_
  unfold m_X6_isDigit
  refine G.sub (lv' := [(0, rv κ this), (1, .int p1)]) [0, 1] rfl ?_
  refine G_iload_n dX6_isDigit_0 1 rfl rfl ?_
  refine G_bipush (v := 48) dX6_isDigit_1 (by decide) ?_
  refine G_icmp_lt (tgt := 16) dX6_isDigit_3 (by decide) ?_ ?_
  · refine G_iconst (v := 0) dX6_isDigit_16 (by decide) ?_
    exact G_retZ dX6_isDigit_17
  · refine G_iload_n dX6_isDigit_6 1 rfl rfl ?_
    refine G_bipush (v := 57) dX6_isDigit_7 (by decide) ?_
    refine G_icmp_gt (tgt := 16) dX6_isDigit_9 (by decide) ?_ ?_
    · refine G_iconst (v := 0) dX6_isDigit_16 (by decide) ?_
      exact G_retZ dX6_isDigit_17
    · refine G_iconst (v := 1) dX6_isDigit_12 (by decide) ?_
      refine G_goto (tgt := 17) dX6_isDigit_13 (by decide) ?_
      exact G_retZ dX6_isDigit_17
def b_X6_readNumber_4 (this : Option Nat) (J70_0 : Int32 → Int32 → Mem → Option (Int32 × Mem)) (L4_9 : (Int32 × Int32 × Mem) → Option (Int32 × Mem)) (a10 : Int32 × Int32 × Mem) : Option (Int32 × Mem) :=
  (if 4 ≤ a10.2.1 then J70_0 a10.1 a10.2.1 a10.2.2 else dI a10.2.2 6 4 this (fun (x12 : Int32) => dI a10.2.2 6 3 this (fun (x13 : Int32) => (if x13 ≤ x12 then J70_0 a10.1 a10.2.1 a10.2.2 else dP a10.2.2 6 0 this (fun (q14 : Option Nat) => dI a10.2.2 6 4 this (fun (x15 : Int32) => aI a10.2.2 101 q14 x15 (fun (x16 : Int32) => rc a10.2.2 6 this (cl (m_X6_isDigit a10.2.2 this x16) (fun (x18 : Int32) (M17 : Mem) => (if x18 = 0 then J70_0 a10.1 a10.2.1 M17 else dP M17 6 0 this (fun (q19 : Option Nat) => dI M17 6 4 this (fun (x20 : Int32) => aI M17 101 q19 x20 (fun (x21 : Int32) => dI M17 6 4 this (fun (x22 : Int32) => pI M17 6 4 this ((x22 + 1)) (fun (M23 : Mem) => L4_9 (((a10.1 * 10) + (x21 - 48)), (a10.2.1 + 1), M23))))))))))))))))
def m_X6_readNumber (M : Mem) (this : Option Nat) (p1 : Int32) : Option (Int32 × Mem) :=
  jn (fun (x2 : Int32) (x3 : Int32) (M4 : Mem) => (if x3 ≠ 0 then dP M4 6 1 this (fun (q5 : Option Nat) => sI M4 100 q5 p1 x2 (fun (M6 : Mem) => rtZ 1 M6)) else dI M4 6 4 this (fun (x7 : Int32) => rc M4 6 this (cl (m_X6_fault M4 this 3 x7) (fun (x9 : Int32) (M8 : Mem) => rtZ x9 M8))))) (fun (J70_0 : Int32 → Int32 → Mem → Option (Int32 × Mem)) => lp (b_X6_readNumber_4 this J70_0) FU (0, 0, M))
abbrev md_X6_readNumber : MD := (RX6, yX6_readNumber, cX6_readNumber, 4, Option.some Jvm.ClassFile.FieldType.boolean, 1, 22)
theorem ok_X6_readNumber : MOk md_X6_readNumber 1 := ⟨by decide +kernel, w_428, w_9, ⟨by decide +kernel, by decide +kernel⟩, by decide +kernel, rfl⟩
set_option maxRecDepth 100000 in
set_option maxHeartbeats 4000000 in
theorem con_X6_readNumber (κ : Cfg) (M : Mem) (this : Option Nat) (p1 : Int32) : Con κ md_X6_readNumber [rv κ this, .int p1] M cvI (m_X6_readNumber M this p1) := by
  refine Con.of ok_X6_readNumber (ret_Z rfl) (by
    intro v hv
    simp only [List.mem_cons, List.not_mem_nil, or_false] at hv
    rcases hv with rfl | rfl <;> first | rfl | exact rv_cat _ _) (Nat.le_of_ble_eq_true rfl) ?_
  unfold m_X6_readNumber
  refine G.sub (lv' := [(0, rv κ this), (1, .int p1)]) [0, 1] rfl ?_
  refine G_iconst (v := 0) dX6_readNumber_0 (by decide) ?_
  refine G_istore_n (lv' := [(2, .int 0), (0, rv κ this), (1, .int p1)]) dX6_readNumber_1 rfl (Nat.le_of_ble_eq_true rfl) rfl ?_
  refine G_iconst (v := 0) dX6_readNumber_2 (by decide) ?_
  refine G_istore_n (lv' := [(3, .int 0), (2, .int 0), (0, rv κ this), (1, .int p1)]) dX6_readNumber_3 rfl (Nat.le_of_ble_eq_true rfl) rfl ?_
  refine G.jn (P := (fun (J : Int32 → Int32 → Mem → Option (Int32 × Mem)) => ∀ (x2 : Int32) (x3 : Int32) (M4 : Mem), G κ md_X6_readNumber cvI (J x2 x3 M4) 70 [(0, rv κ this), (1, .int p1), (2, .int x2), (3, .int x3)] [] M4)) ?_ ?_
  · intro x2 x3 M4
    refine G_iload_n dX6_readNumber_70 3 rfl rfl ?_
    refine G_if_ne (tgt := 84) dX6_readNumber_71 (by decide) ?_ ?_
    · refine G_aload_n dX6_readNumber_84 0 rfl rfl ?_
      refine G_getP cf_X6 (j := 1) rfl w_247 dX6_readNumber_85 (fun q5 => ?_)
      refine G_iload_n dX6_readNumber_88 1 rfl rfl ?_
      refine G_iload_n dX6_readNumber_89 2 rfl rfl ?_
      refine G_iast dX6_readNumber_90 (fun M6 => ?_)
      refine G_iconst (v := 1) dX6_readNumber_91 (by decide) ?_
      exact G_retZ dX6_readNumber_92
    · refine G_aload_n dX6_readNumber_74 0 rfl rfl ?_
      refine G_iconst (v := 3) dX6_readNumber_75 (by decide) ?_
      refine G_aload_n dX6_readNumber_76 0 rfl rfl ?_
      refine G_getI cf_X6 (j := 4) rfl w_252 dX6_readNumber_77 (fun x7 => ?_)
      refine G_callV cf_X6 ok_X6_fault [.int 3, .int x7] [] (con_X6_fault κ M4 this 3 x7) rfl w_421 w_422 w_423 (Nat.le_of_ble_eq_true rfl) (Nat.le_of_ble_eq_true rfl) dX6_readNumber_80 rfl (by simp) (fun x9 M8 => (show G _ _ _ _ _ _ [.int x9] _ from ?_))
      exact G_retZ dX6_readNumber_83
  · intro J70_0 hJ70_0
    refine G.sub (lv' := [(0, rv κ this), (1, .int p1), (2, .int 0), (3, .int 0)]) [2, 3, 1, 0] rfl ?_
    refine G.loop (lvf := fun (a10 : Int32 × Int32 × Mem) => [(0, rv κ this), (1, .int p1), (2, .int a10.1), (3, .int a10.2.1)]) (mf := fun (a10 : Int32 × Int32 × Mem) => a10.2.2) (fun L4_9 hL4_9 a10 => ?_) FU (0, 0, M)
    unfold b_X6_readNumber_4
    refine G_iload_n dX6_readNumber_4 3 rfl rfl ?_
    refine G_iconst (v := 4) dX6_readNumber_5 (by decide) ?_
    refine G_icmp_ge (tgt := 70) dX6_readNumber_6 (by decide) ?_ ?_
    · exact G.sub [0, 1, 2, 3] rfl (hJ70_0 _ _ _)
    · refine G_aload_n dX6_readNumber_9 0 rfl rfl ?_
      refine G_getI cf_X6 (j := 4) rfl w_252 dX6_readNumber_10 (fun x12 => ?_)
      refine G_aload_n dX6_readNumber_13 0 rfl rfl ?_
      refine G_getI cf_X6 (j := 3) rfl w_250 dX6_readNumber_14 (fun x13 => ?_)
      refine G_icmp_ge (tgt := 70) dX6_readNumber_17 (by decide) ?_ ?_
      · exact G.sub [0, 1, 2, 3] rfl (hJ70_0 _ _ _)
      · refine G_aload_n dX6_readNumber_20 0 rfl rfl ?_
        refine G_aload_n dX6_readNumber_21 0 rfl rfl ?_
        refine G_getP cf_X6 (j := 0) rfl w_246 dX6_readNumber_22 (fun q14 => ?_)
        refine G_aload_n dX6_readNumber_25 0 rfl rfl ?_
        refine G_getI cf_X6 (j := 4) rfl w_252 dX6_readNumber_26 (fun x15 => ?_)
        refine G_cald dX6_readNumber_29 (fun x16 => ?_)
        refine G_callV cf_X6 ok_X6_isDigit [.int x16] [] (con_X6_isDigit κ a10.2.2 this x16) rfl w_429 w_430 w_431 (Nat.le_of_ble_eq_true rfl) (Nat.le_of_ble_eq_true rfl) dX6_readNumber_30 rfl (by simp) (fun x18 M17 => (show G _ _ _ _ _ _ [.int x18] _ from ?_))
        refine G_if_eq (tgt := 70) dX6_readNumber_33 (by decide) ?_ ?_
        · exact G.sub [0, 1, 2, 3] rfl (hJ70_0 _ _ _)
        · refine G_iload_n dX6_readNumber_36 2 rfl rfl ?_
          refine G_bipush (v := 10) dX6_readNumber_37 (by decide) ?_
          refine G_imul dX6_readNumber_39 ?_
          refine G_aload_n dX6_readNumber_40 0 rfl rfl ?_
          refine G_getP cf_X6 (j := 0) rfl w_246 dX6_readNumber_41 (fun q19 => ?_)
          refine G_aload_n dX6_readNumber_44 0 rfl rfl ?_
          refine G_getI cf_X6 (j := 4) rfl w_252 dX6_readNumber_45 (fun x20 => ?_)
          refine G_cald dX6_readNumber_48 (fun x21 => ?_)
          refine G_bipush (v := 48) dX6_readNumber_49 (by decide) ?_
          refine G_isub dX6_readNumber_51 ?_
          refine G_iadd dX6_readNumber_52 ?_
          refine G_istore_n (lv' := [(2, .int ((a10.1 * 10) + (x21 - 48))), (0, rv κ this), (1, .int p1), (3, .int a10.2.1)]) dX6_readNumber_53 rfl (Nat.le_of_ble_eq_true rfl) rfl ?_
          refine G_aload_n dX6_readNumber_54 1 rfl rfl ?_
          refine G_dup dX6_readNumber_55 (rv_cat _ _) ?_
          refine G_getI cf_X6 (j := 4) rfl w_252 dX6_readNumber_56 (fun x22 => ?_)
          refine G_iconst (v := 1) dX6_readNumber_59 (by decide) ?_
          refine G_iadd dX6_readNumber_60 ?_
          refine G_putI cf_X6 (j := 4) rfl rfl w_252 (Or.inl rfl) dX6_readNumber_61 (fun M23 => ?_)
          refine G_iinc (v := (a10.2.1 + 1)) (lv' := [(3, .int (a10.2.1 + 1)), (2, .int ((a10.1 * 10) + (x21 - 48))), (0, rv κ this), (1, .int p1)]) dX6_readNumber_64 3 rfl (congrArg (fun z9 : Int32 => a10.2.1 + z9) (by decide : Int32.ofInt 1 = 1)) (Nat.le_of_ble_eq_true rfl) rfl ?_
          refine G_goto (tgt := 4) dX6_readNumber_67 (by decide) ?_
          exact G.sub [2, 3, 1, 0] rfl (hL4_9 _)
def b_X6_readNumbers_2 (this : Option Nat) (p1 : Int32) (L2_0 : (Int32 × Mem) → Option (Int32 × Mem)) (a1 : Int32 × Mem) : Option (Int32 × Mem) :=
  (if p1 ≤ a1.1 then rtZ 1 a1.2 else (if 3 ≤ a1.1 then rtZ 1 a1.2 else jn (fun (x4 : Int32) (M5 : Mem) => rc M5 6 this (cl (m_X6_readSign M5 this x4) (fun (x7 : Int32) (M6 : Mem) => (if x7 = 0 then rtZ 0 M6 else rc M6 6 this (cl (m_X6_readNumber M6 this a1.1) (fun (x9 : Int32) (M8 : Mem) => (if x9 ≠ 0 then L2_0 ((a1.1 + 1), M8) else rtZ 0 M8))))))) (fun (J24_2 : Int32 → Mem → Option (Int32 × Mem)) => (if a1.1 ≠ 0 then J24_2 44 a1.2 else J24_2 32 a1.2))))
def m_X6_readNumbers (M : Mem) (this : Option Nat) (p1 : Int32) : Option (Int32 × Mem) :=
  lp (b_X6_readNumbers_2 this p1) FU (0, M)
abbrev md_X6_readNumbers : MD := (RX6, yX6_readNumbers, cX6_readNumbers, 3, Option.some Jvm.ClassFile.FieldType.boolean, 2, 45)
theorem ok_X6_readNumbers : MOk md_X6_readNumbers 1 := ⟨by decide +kernel, w_416, w_9, ⟨by decide +kernel, by decide +kernel⟩, by decide +kernel, rfl⟩
set_option maxRecDepth 100000 in
set_option maxHeartbeats 4000000 in
theorem con_X6_readNumbers (κ : Cfg) (M : Mem) (this : Option Nat) (p1 : Int32) : Con κ md_X6_readNumbers [rv κ this, .int p1] M cvI (m_X6_readNumbers M this p1) := by
  refine Con.of ok_X6_readNumbers (ret_Z rfl) (by
    intro v hv
    simp only [List.mem_cons, List.not_mem_nil, or_false] at hv
    rcases hv with rfl | rfl <;> first | rfl | exact rv_cat _ _) (Nat.le_of_ble_eq_true rfl) ?_
  unfold m_X6_readNumbers
  refine G.sub (lv' := [(0, rv κ this), (1, .int p1)]) [0, 1] rfl ?_
  refine G_iconst (v := 0) dX6_readNumbers_0 (by decide) ?_
  refine G_istore_n (lv' := [(2, .int 0), (0, rv κ this), (1, .int p1)]) dX6_readNumbers_1 rfl (Nat.le_of_ble_eq_true rfl) rfl ?_
  refine G.sub (lv' := [(0, rv κ this), (1, .int p1), (2, .int 0)]) [1, 2, 0] rfl ?_
  refine G.loop (lvf := fun (a1 : Int32 × Mem) => [(0, rv κ this), (1, .int p1), (2, .int a1.1)]) (mf := fun (a1 : Int32 × Mem) => a1.2) (fun L2_0 hL2_0 a1 => ?_) FU (0, M)
  unfold b_X6_readNumbers_2
  refine G_iload_n dX6_readNumbers_2 2 rfl rfl ?_
  refine G_iload_n dX6_readNumbers_3 1 rfl rfl ?_
  refine G_icmp_ge (tgt := 46) dX6_readNumbers_4 (by decide) ?_ ?_
  · refine G_iconst (v := 1) dX6_readNumbers_46 (by decide) ?_
    exact G_retZ dX6_readNumbers_47
  · refine G_iload_n dX6_readNumbers_7 2 rfl rfl ?_
    refine G_iconst (v := 3) dX6_readNumbers_8 (by decide) ?_
    refine G_icmp_ge (tgt := 46) dX6_readNumbers_9 (by decide) ?_ ?_
    · refine G_iconst (v := 1) dX6_readNumbers_46 (by decide) ?_
      exact G_retZ dX6_readNumbers_47
    · refine G_aload_n dX6_readNumbers_12 0 rfl rfl ?_
      refine G_iload_n dX6_readNumbers_13 2 rfl rfl ?_
      refine G.jn (P := (fun (J : Int32 → Mem → Option (Int32 × Mem)) => ∀ (x4 : Int32) (M5 : Mem), G κ md_X6_readNumbers cvI (J x4 M5) 24 [(0, rv κ this), (1, .int p1), (2, .int a1.1)] [.int x4, rv κ this] M5)) ?_ ?_
      · intro x4 M5
        refine G_callV cf_X6 ok_X6_readSign [.int x4] [] (con_X6_readSign κ M5 this x4) rfl w_417 w_418 w_419 (Nat.le_of_ble_eq_true rfl) (Nat.le_of_ble_eq_true rfl) dX6_readNumbers_24 rfl (by simp) (fun x7 M6 => (show G _ _ _ _ _ _ [.int x7] _ from ?_))
        refine G_if_eq (tgt := 38) dX6_readNumbers_27 (by decide) ?_ ?_
        · refine G_iconst (v := 0) dX6_readNumbers_38 (by decide) ?_
          exact G_retZ dX6_readNumbers_39
        · refine G_aload_n dX6_readNumbers_30 0 rfl rfl ?_
          refine G_iload_n dX6_readNumbers_31 2 rfl rfl ?_
          refine G_callV cf_X6 ok_X6_readNumber [.int a1.1] [] (con_X6_readNumber κ M6 this a1.1) rfl w_425 w_426 w_427 (Nat.le_of_ble_eq_true rfl) (Nat.le_of_ble_eq_true rfl) dX6_readNumbers_32 rfl (by simp) (fun x9 M8 => (show G _ _ _ _ _ _ [.int x9] _ from ?_))
          refine G_if_ne (tgt := 40) dX6_readNumbers_35 (by decide) ?_ ?_
          · refine G_iinc (v := (a1.1 + 1)) (lv' := [(2, .int (a1.1 + 1)), (0, rv κ this), (1, .int p1)]) dX6_readNumbers_40 2 rfl (congrArg (fun z9 : Int32 => a1.1 + z9) (by decide : Int32.ofInt 1 = 1)) (Nat.le_of_ble_eq_true rfl) rfl ?_
            refine G_goto (tgt := 2) dX6_readNumbers_43 (by decide) ?_
            exact G.sub [1, 2, 0] rfl (hL2_0 _)
          · refine G_iconst (v := 0) dX6_readNumbers_38 (by decide) ?_
            exact G_retZ dX6_readNumbers_39
      · intro J24_2 hJ24_2
        refine G_if_ne (tgt := 22) dX6_readNumbers_14 (by decide) ?_ ?_
        · refine G_bipush (v := 44) dX6_readNumbers_22 (by decide) ?_
          exact G.sub [0, 1, 2] rfl (hJ24_2 _ _)
        · refine G_bipush (v := 32) dX6_readNumbers_17 (by decide) ?_
          refine G_goto (tgt := 24) dX6_readNumbers_19 (by decide) ?_
          exact G.sub [0, 1, 2] rfl (hJ24_2 _ _)
def m_X6_inRange (M : Mem) (this : Option Nat) (p1 : Int32) (p2 : Int32) (p3 : Int32) : Option (Int32 × Mem) :=
  dP M 6 1 this (fun (q1 : Option Nat) => aI M 100 q1 p1 (fun (x2 : Int32) => cl (m_X10_within M x2 p2 p3) (fun (x4 : Int32) (M3 : Mem) => (if x4 ≠ 0 then rtZ 1 M3 else dP M3 6 1 this (fun (q5 : Option Nat) => aI M3 100 q5 p1 (fun (x6 : Int32) => rc M3 6 this (cl (m_X6_fault M3 this 4 x6) (fun (x8 : Int32) (M7 : Mem) => (if x8 = 0 then rtZ 0 M7 else rtZ 1 M7)))))))))
abbrev md_X6_inRange : MD := (RX6, yX6_inRange, cX6_inRange, 4, Option.some Jvm.ClassFile.FieldType.boolean, 1, 22)
theorem ok_X6_inRange : MOk md_X6_inRange 3 := ⟨by decide +kernel, w_436, w_9, ⟨by decide +kernel, by decide +kernel⟩, by decide +kernel, rfl⟩
set_option maxRecDepth 100000 in
set_option maxHeartbeats 4000000 in
theorem con_X6_inRange (κ : Cfg) (M : Mem) (this : Option Nat) (p1 : Int32) (p2 : Int32) (p3 : Int32) : Con κ md_X6_inRange [rv κ this, .int p1, .int p2, .int p3] M cvI (m_X6_inRange M this p1 p2 p3) := by
  refine Con.of ok_X6_inRange (ret_Z rfl) (by
    intro v hv
    simp only [List.mem_cons, List.not_mem_nil, or_false] at hv
    rcases hv with rfl | rfl | rfl | rfl <;> first | rfl | exact rv_cat _ _) (Nat.le_of_ble_eq_true rfl) ?_
  unfold m_X6_inRange
  refine G.sub (lv' := [(0, rv κ this), (1, .int p1), (2, .int p2), (3, .int p3)]) [0, 1, 2, 3] rfl ?_
  refine G_aload_n dX6_inRange_0 0 rfl rfl ?_
  refine G_getP cf_X6 (j := 1) rfl w_247 dX6_inRange_1 (fun q1 => ?_)
  refine G_iload_n dX6_inRange_4 1 rfl rfl ?_
  refine G_iald dX6_inRange_5 (fun x2 => ?_)
  refine G_iload_n dX6_inRange_6 2 rfl rfl ?_
  refine G_iload_n dX6_inRange_7 3 rfl rfl ?_
  refine G_callSN ok_X10_within [.int x2, .int p2, .int p3] [] (con_X10_within κ M x2 p2 p3) rfl (by simp [nestL, mdO, mdY]) w_320 (Nat.le_of_ble_eq_true rfl) (Nat.le_of_ble_eq_true rfl) dX6_inRange_8 rfl (by simp) (fun x4 M3 => (show G _ _ _ _ _ _ [.int x4] _ from ?_))
  refine G_if_ne (tgt := 28) dX6_inRange_11 (by decide) ?_ ?_
  · refine G_iconst (v := 1) dX6_inRange_28 (by decide) ?_
    refine G_goto (tgt := 33) dX6_inRange_29 (by decide) ?_
    exact G_retZ dX6_inRange_33
  · refine G_aload_n dX6_inRange_14 0 rfl rfl ?_
    refine G_iconst (v := 4) dX6_inRange_15 (by decide) ?_
    refine G_aload_n dX6_inRange_16 0 rfl rfl ?_
    refine G_getP cf_X6 (j := 1) rfl w_247 dX6_inRange_17 (fun q5 => ?_)
    refine G_iload_n dX6_inRange_20 1 rfl rfl ?_
    refine G_iald dX6_inRange_21 (fun x6 => ?_)
    refine G_callV cf_X6 ok_X6_fault [.int 4, .int x6] [] (con_X6_fault κ M3 this 4 x6) rfl w_421 w_422 w_423 (Nat.le_of_ble_eq_true rfl) (Nat.le_of_ble_eq_true rfl) dX6_inRange_22 rfl (by simp) (fun x8 M7 => (show G _ _ _ _ _ _ [.int x8] _ from ?_))
    refine G_if_eq (tgt := 32) dX6_inRange_25 (by decide) ?_ ?_
    · refine G_iconst (v := 0) dX6_inRange_32 (by decide) ?_
      exact G_retZ dX6_inRange_33
    · refine G_iconst (v := 1) dX6_inRange_28 (by decide) ?_
      refine G_goto (tgt := 33) dX6_inRange_29 (by decide) ?_
      exact G_retZ dX6_inRange_33
def m_X6_readSetting (M : Mem) (this : Option Nat) (p1 : Int32) : Option (Int32 × Mem) :=
  rc M 6 this (cl (m_X6_readNumbers M this 1) (fun (x2 : Int32) (M1 : Mem) => (if x2 = 0 then rtZ 0 M1 else rc M1 6 this (cl (m_X6_inRange M1 this 0 0 p1) (fun (x4 : Int32) (M3 : Mem) => (if x4 = 0 then rtZ 0 M3 else rtZ 1 M3))))))
abbrev md_X6_readSetting : MD := (RX6, yX6_readSetting, cX6_readSetting, 2, Option.some Jvm.ClassFile.FieldType.boolean, 3, 67)
theorem ok_X6_readSetting : MOk md_X6_readSetting 1 := ⟨by decide +kernel, w_412, w_9, ⟨by decide +kernel, by decide +kernel⟩, by decide +kernel, rfl⟩
set_option maxRecDepth 100000 in
set_option maxHeartbeats 4000000 in
theorem con_X6_readSetting (κ : Cfg) (M : Mem) (this : Option Nat) (p1 : Int32) : Con κ md_X6_readSetting [rv κ this, .int p1] M cvI (m_X6_readSetting M this p1) := by
  refine Con.of ok_X6_readSetting (ret_Z rfl) (by
    intro v hv
    simp only [List.mem_cons, List.not_mem_nil, or_false] at hv
    rcases hv with rfl | rfl <;> first | rfl | exact rv_cat _ _) (Nat.le_of_ble_eq_true rfl) ?_
  unfold m_X6_readSetting
  refine G.sub (lv' := [(0, rv κ this), (1, .int p1)]) [0, 1] rfl ?_
  refine G_aload_n dX6_readSetting_0 0 rfl rfl ?_
  refine G_iconst (v := 1) dX6_readSetting_1 (by decide) ?_
  refine G_callV cf_X6 ok_X6_readNumbers [.int 1] [] (con_X6_readNumbers κ M this 1) rfl w_413 w_414 w_415 (Nat.le_of_ble_eq_true rfl) (Nat.le_of_ble_eq_true rfl) dX6_readSetting_2 rfl (by simp) (fun x2 M1 => (show G _ _ _ _ _ _ [.int x2] _ from ?_))
  refine G_if_eq (tgt := 22) dX6_readSetting_5 (by decide) ?_ ?_
  · refine G_iconst (v := 0) dX6_readSetting_22 (by decide) ?_
    exact G_retZ dX6_readSetting_23
  · refine G_aload_n dX6_readSetting_8 0 rfl rfl ?_
    refine G_iconst (v := 0) dX6_readSetting_9 (by decide) ?_
    refine G_iconst (v := 0) dX6_readSetting_10 (by decide) ?_
    refine G_iload_n dX6_readSetting_11 1 rfl rfl ?_
    refine G_callV cf_X6 ok_X6_inRange [.int 0, .int 0, .int p1] [] (con_X6_inRange κ M1 this 0 0 p1) rfl w_433 w_434 w_435 (Nat.le_of_ble_eq_true rfl) (Nat.le_of_ble_eq_true rfl) dX6_readSetting_12 rfl (by simp) (fun x4 M3 => (show G _ _ _ _ _ _ [.int x4] _ from ?_))
    refine G_if_eq (tgt := 22) dX6_readSetting_15 (by decide) ?_ ?_
    · refine G_iconst (v := 0) dX6_readSetting_22 (by decide) ?_
      exact G_retZ dX6_readSetting_23
    · refine G_iconst (v := 1) dX6_readSetting_18 (by decide) ?_
      refine G_goto (tgt := 23) dX6_readSetting_19 (by decide) ?_
      exact G_retZ dX6_readSetting_23
def m_X6_isInOrder (M : Mem) (this : Option Nat) (p1 : Int32) : Option (Int32 × Mem) :=
  dP M 6 2 this (fun (q1 : Option Nat) => dI M 6 6 this (fun (x2 : Int32) => rc M 5 q1 (cl (m_X5_bandAt M q1 ((x2 - 1))) (fun (q4 : Option Nat) (M3 : Mem) => (if q4 ≠ none then dI M3 0 1 q4 (fun (x5 : Int32) => (if p1 ≤ x5 then rtZ 0 M3 else rtZ 1 M3)) else (if p1 ≠ 0 then rtZ 0 M3 else rtZ 1 M3))))))
abbrev md_X6_isInOrder : MD := (RX6, yX6_isInOrder, cX6_isInOrder, 3, Option.some Jvm.ClassFile.FieldType.boolean, 2, 44)
theorem ok_X6_isInOrder : MOk md_X6_isInOrder 1 := ⟨by decide +kernel, w_449, w_9, ⟨by decide +kernel, by decide +kernel⟩, by decide +kernel, rfl⟩
set_option maxRecDepth 100000 in
set_option maxHeartbeats 4000000 in
theorem con_X6_isInOrder (κ : Cfg) (M : Mem) (this : Option Nat) (p1 : Int32) : Con κ md_X6_isInOrder [rv κ this, .int p1] M cvI (m_X6_isInOrder M this p1) := by
  refine Con.of ok_X6_isInOrder (ret_Z rfl) (by
    intro v hv
    simp only [List.mem_cons, List.not_mem_nil, or_false] at hv
    rcases hv with rfl | rfl <;> first | rfl | exact rv_cat _ _) (Nat.le_of_ble_eq_true rfl) ?_
  unfold m_X6_isInOrder
  refine G.sub (lv' := [(0, rv κ this), (1, .int p1)]) [0, 1] rfl ?_
  refine G_aload_n dX6_isInOrder_0 0 rfl rfl ?_
  refine G_getP cf_X6 (j := 2) rfl w_248 dX6_isInOrder_1 (fun q1 => ?_)
  refine G_aload_n dX6_isInOrder_4 0 rfl rfl ?_
  refine G_getI cf_X6 (j := 6) rfl w_255 dX6_isInOrder_5 (fun x2 => ?_)
  refine G_iconst (v := 1) dX6_isInOrder_8 (by decide) ?_
  refine G_isub dX6_isInOrder_9 ?_
  refine G_callV cf_X5 ok_X5_bandAt [.int (x2 - 1)] [] (con_X5_bandAt κ M q1 ((x2 - 1))) rfl w_450 w_451 w_452 (Nat.le_of_ble_eq_true rfl) (Nat.le_of_ble_eq_true rfl) dX6_isInOrder_10 rfl (by simp) (fun q4 M3 => (show G _ _ _ _ _ _ [rv κ q4] _ from ?_))
  refine G_astore_n (lv' := [(2, rv κ q4), (0, rv κ this), (1, .int p1)]) dX6_isInOrder_13 rfl (Nat.le_of_ble_eq_true rfl) rfl ?_
  refine G_aload_n dX6_isInOrder_14 0 rfl rfl ?_
  refine G_ifnonnull (tgt := 30) dX6_isInOrder_15 (by decide) ?_ ?_
  · refine G_iload_n dX6_isInOrder_30 2 rfl rfl ?_
    refine G_aload_n dX6_isInOrder_31 0 rfl rfl ?_
    refine G_getI cf_X0 (j := 1) rfl w_59 dX6_isInOrder_32 (fun x5 => ?_)
    refine G_icmp_le (tgt := 42) dX6_isInOrder_35 (by decide) ?_ ?_
    · refine G_iconst (v := 0) dX6_isInOrder_42 (by decide) ?_
      exact G_retZ dX6_isInOrder_43
    · refine G_iconst (v := 1) dX6_isInOrder_38 (by decide) ?_
      refine G_goto (tgt := 43) dX6_isInOrder_39 (by decide) ?_
      exact G_retZ dX6_isInOrder_43
  · refine G_iload_n dX6_isInOrder_18 2 rfl rfl ?_
    refine G_if_ne (tgt := 26) dX6_isInOrder_19 (by decide) ?_ ?_
    · refine G_iconst (v := 0) dX6_isInOrder_26 (by decide) ?_
      refine G_goto (tgt := 43) dX6_isInOrder_27 (by decide) ?_
      exact G_retZ dX6_isInOrder_43
    · refine G_iconst (v := 1) dX6_isInOrder_22 (by decide) ?_
      refine G_goto (tgt := 43) dX6_isInOrder_23 (by decide) ?_
      exact G_retZ dX6_isInOrder_43
def m_X6_readBand (M : Mem) (this : Option Nat) : Option (Int32 × Mem) :=
  rc M 6 this (cl (m_X6_readNumbers M this 3) (fun (x2 : Int32) (M1 : Mem) => (if x2 ≠ 0 then rc M1 6 this (cl (m_X6_inRange M1 this 0 0 1439) (fun (x4 : Int32) (M3 : Mem) => (if x4 = 0 then rtZ 0 M3 else rc M3 6 this (cl (m_X6_inRange M3 this 1 0 999) (fun (x6 : Int32) (M5 : Mem) => (if x6 = 0 then rtZ 0 M5 else rc M5 6 this (cl (m_X6_inRange M5 this 2 5 240) (fun (x8 : Int32) (M7 : Mem) => (if x8 ≠ 0 then dP M7 6 1 this (fun (q9 : Option Nat) => aI M7 100 q9 0 (fun (x10 : Int32) => dI M7 6 6 this (fun (x11 : Int32) => jn (fun (M13 : Mem) => rc M13 6 this (cl (m_X6_fault M13 this 4 x10) (fun (x15 : Int32) (M14 : Mem) => rtZ x15 M14))) (fun (J72_11 : Mem → Option (Int32 × Mem)) => (if 6 ≤ x11 then J72_11 M7 else rc M7 6 this (cl (m_X6_isInOrder M7 this x10) (fun (x17 : Int32) (M16 : Mem) => (if x17 ≠ 0 then dP M16 6 2 this (fun (q18 : Option Nat) => dP M16 5 0 q18 (fun (q19 : Option Nat) => dI M16 6 6 this (fun (x20 : Int32) => aP M16 110 q19 x20 (fun (q21 : Option Nat) => dP M16 6 1 this (fun (q22 : Option Nat) => aI M16 100 q22 1 (fun (x23 : Int32) => dP M16 6 1 this (fun (q24 : Option Nat) => aI M16 100 q24 2 (fun (x25 : Int32) => rc M16 0 q21 (cl (m_X0_tell M16 q21 x10 x23 x25) (fun (_u : Unit) (M26 : Mem) => dI M26 6 6 this (fun (x27 : Int32) => pI M26 6 6 this ((x27 + 1)) (fun (M28 : Mem) => dP M28 6 2 this (fun (q29 : Option Nat) => dI M28 6 6 this (fun (x30 : Int32) => pI M28 5 1 q29 x30 (fun (M31 : Mem) => rtZ 1 M31))))))))))))))) else J72_11 M16)))))))) else rtZ 0 M7))))))))) else rtZ 0 M1)))
abbrev md_X6_readBand : MD := (RX6, yX6_readBand, cX6_readBand, 2, Option.some Jvm.ClassFile.FieldType.boolean, 3, 67)
theorem ok_X6_readBand : MOk md_X6_readBand 0 := ⟨by decide +kernel, w_445, w_9, ⟨by decide +kernel, by decide +kernel⟩, by decide +kernel, rfl⟩
set_option maxRecDepth 100000 in
set_option maxHeartbeats 4000000 in
theorem con_X6_readBand (κ : Cfg) (M : Mem) (this : Option Nat) : Con κ md_X6_readBand [rv κ this] M cvI (m_X6_readBand M this) := by
  refine Con.of ok_X6_readBand (ret_Z rfl) (by
    intro v hv
    simp only [List.mem_cons, List.not_mem_nil, or_false] at hv
    subst hv; first | rfl | exact rv_cat _ _) (Nat.le_of_ble_eq_true rfl) ?_
  unfold m_X6_readBand
  refine G.sub (lv' := [(0, rv κ this)]) [0] rfl ?_
  refine G_aload_n dX6_readBand_0 0 rfl rfl ?_
  refine G_iconst (v := 3) dX6_readBand_1 (by decide) ?_
  refine G_callV cf_X6 ok_X6_readNumbers [.int 3] [] (con_X6_readNumbers κ M this 3) rfl w_413 w_414 w_415 (Nat.le_of_ble_eq_true rfl) (Nat.le_of_ble_eq_true rfl) dX6_readBand_2 rfl (by simp) (fun x2 M1 => (show G _ _ _ _ _ _ [.int x2] _ from ?_))
  refine G_if_ne (tgt := 10) dX6_readBand_5 (by decide) ?_ ?_
  · refine G_aload_n dX6_readBand_10 0 rfl rfl ?_
    refine G_iconst (v := 0) dX6_readBand_11 (by decide) ?_
    refine G_iconst (v := 0) dX6_readBand_12 (by decide) ?_
    refine G_sipush (v := 1439) dX6_readBand_13 (by decide) ?_
    refine G_callV cf_X6 ok_X6_inRange [.int 0, .int 0, .int 1439] [] (con_X6_inRange κ M1 this 0 0 1439) rfl w_433 w_434 w_435 (Nat.le_of_ble_eq_true rfl) (Nat.le_of_ble_eq_true rfl) dX6_readBand_16 rfl (by simp) (fun x4 M3 => (show G _ _ _ _ _ _ [.int x4] _ from ?_))
    refine G_if_eq (tgt := 46) dX6_readBand_19 (by decide) ?_ ?_
    · refine G_iconst (v := 0) dX6_readBand_46 (by decide) ?_
      exact G_retZ dX6_readBand_47
    · refine G_aload_n dX6_readBand_22 0 rfl rfl ?_
      refine G_iconst (v := 1) dX6_readBand_23 (by decide) ?_
      refine G_iconst (v := 0) dX6_readBand_24 (by decide) ?_
      refine G_sipush (v := 999) dX6_readBand_25 (by decide) ?_
      refine G_callV cf_X6 ok_X6_inRange [.int 1, .int 0, .int 999] [] (con_X6_inRange κ M3 this 1 0 999) rfl w_433 w_434 w_435 (Nat.le_of_ble_eq_true rfl) (Nat.le_of_ble_eq_true rfl) dX6_readBand_28 rfl (by simp) (fun x6 M5 => (show G _ _ _ _ _ _ [.int x6] _ from ?_))
      refine G_if_eq (tgt := 46) dX6_readBand_31 (by decide) ?_ ?_
      · refine G_iconst (v := 0) dX6_readBand_46 (by decide) ?_
        exact G_retZ dX6_readBand_47
      · refine G_aload_n dX6_readBand_34 0 rfl rfl ?_
        refine G_iconst (v := 2) dX6_readBand_35 (by decide) ?_
        refine G_iconst (v := 5) dX6_readBand_36 (by decide) ?_
        refine G_sipush (v := 240) dX6_readBand_37 (by decide) ?_
        refine G_callV cf_X6 ok_X6_inRange [.int 2, .int 5, .int 240] [] (con_X6_inRange κ M5 this 2 5 240) rfl w_433 w_434 w_435 (Nat.le_of_ble_eq_true rfl) (Nat.le_of_ble_eq_true rfl) dX6_readBand_40 rfl (by simp) (fun x8 M7 => (show G _ _ _ _ _ _ [.int x8] _ from ?_))
        refine G_if_ne (tgt := 48) dX6_readBand_43 (by decide) ?_ ?_
        · refine G_aload_n dX6_readBand_48 0 rfl rfl ?_
          refine G_getP cf_X6 (j := 1) rfl w_247 dX6_readBand_49 (fun q9 => ?_)
          refine G_iconst (v := 0) dX6_readBand_52 (by decide) ?_
          refine G_iald dX6_readBand_53 (fun x10 => ?_)
          refine G_istore_n (lv' := [(1, .int x10), (0, rv κ this)]) dX6_readBand_54 rfl (Nat.le_of_ble_eq_true rfl) rfl ?_
          refine G_aload_n dX6_readBand_55 1 rfl rfl ?_
          refine G_getI cf_X6 (j := 6) rfl w_255 dX6_readBand_56 (fun x11 => ?_)
          refine G_bipush (v := 6) dX6_readBand_59 (by decide) ?_
          refine G.jn (P := (fun (J : Mem → Option (Int32 × Mem)) => ∀ (M13 : Mem), G κ md_X6_readBand cvI (J M13) 72 [(0, rv κ this), (1, .int x10)] [] M13)) ?_ ?_
          · intro M13
            refine G_aload_n dX6_readBand_72 0 rfl rfl ?_
            refine G_iconst (v := 4) dX6_readBand_73 (by decide) ?_
            refine G_iload_n dX6_readBand_74 1 rfl rfl ?_
            refine G_callV cf_X6 ok_X6_fault [.int 4, .int x10] [] (con_X6_fault κ M13 this 4 x10) rfl w_421 w_422 w_423 (Nat.le_of_ble_eq_true rfl) (Nat.le_of_ble_eq_true rfl) dX6_readBand_75 rfl (by simp) (fun x15 M14 => (show G _ _ _ _ _ _ [.int x15] _ from ?_))
            exact G_retZ dX6_readBand_78
          · intro J72_11 hJ72_11
            refine G_icmp_ge (tgt := 72) dX6_readBand_61 (by decide) ?_ ?_
            · exact G.sub [1, 0] rfl (hJ72_11 _)
            · refine G_aload_n dX6_readBand_64 1 rfl rfl ?_
              refine G_iload_n dX6_readBand_65 0 rfl rfl ?_
              refine G_callV cf_X6 ok_X6_isInOrder [.int x10] [] (con_X6_isInOrder κ M7 this x10) rfl w_446 w_447 w_448 (Nat.le_of_ble_eq_true rfl) (Nat.le_of_ble_eq_true rfl) dX6_readBand_66 rfl (by simp) (fun x17 M16 => (show G _ _ _ _ _ _ [.int x17] _ from ?_))
              refine G_if_ne (tgt := 79) dX6_readBand_69 (by decide) ?_ ?_
              · refine G_aload_n dX6_readBand_79 1 rfl rfl ?_
                refine G_getP cf_X6 (j := 2) rfl w_248 dX6_readBand_80 (fun q18 => ?_)
                refine G_getP cf_X5 (j := 0) rfl w_82 dX6_readBand_83 (fun q19 => ?_)
                refine G_aload_n dX6_readBand_86 1 rfl rfl ?_
                refine G_getI cf_X6 (j := 6) rfl w_255 dX6_readBand_87 (fun x20 => ?_)
                refine G_aald (tn := 3) (fun _ => rfl) (by decide) dX6_readBand_90 (fun q21 => ?_)
                refine G_iload_n dX6_readBand_91 0 rfl rfl ?_
                refine G_aload_n dX6_readBand_92 1 rfl rfl ?_
                refine G_getP cf_X6 (j := 1) rfl w_247 dX6_readBand_93 (fun q22 => ?_)
                refine G_iconst (v := 1) dX6_readBand_96 (by decide) ?_
                refine G_iald dX6_readBand_97 (fun x23 => ?_)
                refine G_aload_n dX6_readBand_98 1 rfl rfl ?_
                refine G_getP cf_X6 (j := 1) rfl w_247 dX6_readBand_99 (fun q24 => ?_)
                refine G_iconst (v := 2) dX6_readBand_102 (by decide) ?_
                refine G_iald dX6_readBand_103 (fun x25 => ?_)
                refine G_callV cf_X0 ok_X0_tell [.int x10, .int x23, .int x25] [] (con_X0_tell κ M16 q21 x10 x23 x25) rfl w_455 w_78 w_79 (Nat.le_of_ble_eq_true rfl) (Nat.le_of_ble_eq_true rfl) dX6_readBand_104 rfl (by simp) (fun _u M26 => (show G _ _ _ _ _ _ [] _ from ?_))
                refine G_aload_n dX6_readBand_107 1 rfl rfl ?_
                refine G_dup dX6_readBand_108 (rv_cat _ _) ?_
                refine G_getI cf_X6 (j := 6) rfl w_255 dX6_readBand_109 (fun x27 => ?_)
                refine G_iconst (v := 1) dX6_readBand_112 (by decide) ?_
                refine G_iadd dX6_readBand_113 ?_
                refine G_putI cf_X6 (j := 6) rfl rfl w_255 (Or.inl rfl) dX6_readBand_114 (fun M28 => ?_)
                refine G_aload_n dX6_readBand_117 1 rfl rfl ?_
                refine G_getP cf_X6 (j := 2) rfl w_248 dX6_readBand_118 (fun q29 => ?_)
                refine G_aload_n dX6_readBand_121 1 rfl rfl ?_
                refine G_getI cf_X6 (j := 6) rfl w_255 dX6_readBand_122 (fun x30 => ?_)
                refine G_putI cf_X5 (j := 1) rfl rfl w_85 (Or.inl rfl) dX6_readBand_125 (fun M31 => ?_)
                refine G_iconst (v := 1) dX6_readBand_128 (by decide) ?_
                exact G_retZ dX6_readBand_129
              · exact G.sub [1, 0] rfl (hJ72_11 _)
        · refine G_iconst (v := 0) dX6_readBand_46 (by decide) ?_
          exact G_retZ dX6_readBand_47
  · refine G_iconst (v := 0) dX6_readBand_8 (by decide) ?_
    exact G_retZ dX6_readBand_9
def m_X10_init (M : Mem) (this : Option Nat) : Option (Unit × Mem) :=
  oi this (nO M 1 8 (fun (q1 : Option Nat) (M2 : Mem) => rc M2 1 q1 (cl (m_X1_init M2 q1) (fun (_u : Unit) (M3 : Mem) => pP M3 10 0 this q1 (fun (M4 : Mem) => nO M4 1 8 (fun (q5 : Option Nat) (M6 : Mem) => rc M6 1 q5 (cl (m_X1_init M6 q5) (fun (_u : Unit) (M7 : Mem) => pP M7 10 1 this q5 (fun (M8 : Mem) => nO M8 6 9 (fun (q9 : Option Nat) (M10 : Mem) => rc M10 6 q9 (cl (m_X6_init M10 q9) (fun (_u : Unit) (M11 : Mem) => pP M11 10 3 this q9 (fun (M12 : Mem) => nO M12 7 3 (fun (q13 : Option Nat) (M14 : Mem) => rc M14 7 q13 (cl (m_X7_init M14 q13) (fun (_u : Unit) (M15 : Mem) => pP M15 10 4 this q13 (fun (M16 : Mem) => rt () M16)))))))))))))))))
abbrev md_X10_init : MD := (RX10, yX10_init, cX10_init, 1, Option.none, 4, 85)
theorem ok_X10_init : MOk md_X10_init 0 := ⟨by decide +kernel, w_23, w_1, ⟨by decide +kernel, by decide +kernel⟩, by decide +kernel, rfl⟩
set_option maxRecDepth 100000 in
set_option maxHeartbeats 4000000 in
theorem con_X10_init (κ : Cfg) (M : Mem) (this : Option Nat) : Con κ md_X10_init [rv κ this] M cvV (m_X10_init M this) := by
  refine Con.of ok_X10_init (ret_V rfl) (by
    intro v hv
    simp only [List.mem_cons, List.not_mem_nil, or_false] at hv
    subst hv; first | rfl | exact rv_cat _ _) (Nat.le_of_ble_eq_true rfl) ?_
  unfold m_X10_init
  refine G.sub (lv' := [(0, rv κ this)]) [0] rfl ?_
  refine G_aload_n dX10_init_0 0 rfl rfl ?_
  refine G_objInit w_24 w_25 w_26 (Nat.le_of_ble_eq_true rfl) (Nat.le_of_ble_eq_true rfl) (by simp) dX10_init_1 ?_
  refine G_aload_n dX10_init_4 0 rfl rfl ?_
  refine G_new cf_X1 cd_X1 w_27 w_28 w_2 dX10_init_5 (fun q1 M2 => ?_)
  refine G_dup dX10_init_8 (rv_cat _ _) ?_
  refine G_callI ok_X1_init [] [rv κ q1, rv κ this] (con_X1_init κ M2 q1) rfl w_29 w_30 rfl rfl (Nat.le_of_ble_eq_true rfl) (Nat.le_of_ble_eq_true rfl) dX10_init_9 rfl (by simp) (fun _u M3 => (show G _ _ _ _ _ _ [rv κ q1, rv κ this] _ from ?_))
  refine G_putP cf_X10 (j := 0) rfl (Or.inl ⟨_, rfl⟩) w_299 (Or.inr ⟨rfl, rfl, rfl⟩) dX10_init_12 (fun M4 => ?_)
  refine G_aload_n dX10_init_15 0 rfl rfl ?_
  refine G_new cf_X1 cd_X1 w_27 w_28 w_2 dX10_init_16 (fun q5 M6 => ?_)
  refine G_dup dX10_init_19 (rv_cat _ _) ?_
  refine G_callI ok_X1_init [] [rv κ q5, rv κ this] (con_X1_init κ M6 q5) rfl w_29 w_30 rfl rfl (Nat.le_of_ble_eq_true rfl) (Nat.le_of_ble_eq_true rfl) dX10_init_20 rfl (by simp) (fun _u M7 => (show G _ _ _ _ _ _ [rv κ q5, rv κ this] _ from ?_))
  refine G_putP cf_X10 (j := 1) rfl (Or.inl ⟨_, rfl⟩) w_300 (Or.inr ⟨rfl, rfl, rfl⟩) dX10_init_23 (fun M8 => ?_)
  refine G_aload_n dX10_init_26 0 rfl rfl ?_
  refine G_new cf_X6 cd_X6 w_238 w_239 w_9 dX10_init_27 (fun q9 M10 => ?_)
  refine G_dup dX10_init_30 (rv_cat _ _) ?_
  refine G_callIN ok_X6_init [] [rv κ q9, rv κ this] (con_X6_init κ M10 q9) rfl (by simp [nestL, mdO, mdY]) w_241 rfl rfl (Nat.le_of_ble_eq_true rfl) (Nat.le_of_ble_eq_true rfl) dX10_init_31 rfl (by simp) (fun _u M11 => (show G _ _ _ _ _ _ [rv κ q9, rv κ this] _ from ?_))
  refine G_putP cf_X10 (j := 3) rfl (Or.inl ⟨_, rfl⟩) w_302 (Or.inr ⟨rfl, rfl, rfl⟩) dX10_init_34 (fun M12 => ?_)
  refine G_aload_n dX10_init_37 0 rfl rfl ?_
  refine G_new cf_X7 cd_X7 w_280 w_281 w_10 dX10_init_38 (fun q13 M14 => ?_)
  refine G_dup dX10_init_41 (rv_cat _ _) ?_
  refine G_callIN ok_X7_init [] [rv κ q13, rv κ this] (con_X7_init κ M14 q13) rfl (by simp [nestL, mdO, mdY]) w_283 rfl rfl (Nat.le_of_ble_eq_true rfl) (Nat.le_of_ble_eq_true rfl) dX10_init_42 rfl (by simp) (fun _u M15 => (show G _ _ _ _ _ _ [rv κ q13, rv κ this] _ from ?_))
  refine G_putP cf_X10 (j := 4) rfl (Or.inl ⟨_, rfl⟩) w_303 (Or.inr ⟨rfl, rfl, rfl⟩) dX10_init_45 (fun M16 => ?_)
  exact G_ret (v := ()) dX10_init_48 (fun h => by cases h) rfl
def m_X10_append (M : Mem) (this : Option Nat) (p1 : Int32) (p2 : Int32) : Option (Int32 × Mem) :=
  cl (m_X10_within M p1 0 127) (fun (x2 : Int32) (M1 : Mem) => (if x2 = 0 then rt ((-2)) M1 else cl (m_X10_within M1 p2 1 90) (fun (x4 : Int32) (M3 : Mem) => (if x4 ≠ 0 then dP M3 10 3 this (fun (q5 : Option Nat) => rc M3 6 q5 (cl (m_X6_hasRoomFor M3 q5 p2) (fun (x7 : Int32) (M6 : Mem) => (if x7 ≠ 0 then dP M6 10 3 this (fun (q8 : Option Nat) => rc M6 6 q8 (cl (m_X6_add M6 q8 (((p1).toUInt32 % 65536).toInt32) p2) (fun (_u : Unit) (M9 : Mem) => dP M9 10 3 this (fun (q10 : Option Nat) => dI M9 6 3 q10 (fun (x11 : Int32) => rt x11 M9))))) else rt ((-3)) M6)))) else rt ((-2)) M3))))
abbrev md_X10_append : MD := (RX10, yX10_append, cX10_append, 3, Option.some Jvm.ClassFile.FieldType.int, 1, 23)
theorem ok_X10_append : MOk md_X10_append 2 := ⟨by decide +kernel, w_318, w_1, ⟨by decide +kernel, by decide +kernel⟩, by decide +kernel, rfl⟩
set_option maxRecDepth 100000 in
set_option maxHeartbeats 4000000 in
theorem con_X10_append (κ : Cfg) (M : Mem) (this : Option Nat) (p1 : Int32) (p2 : Int32) : Con κ md_X10_append [rv κ this, .int p1, .int p2] M cvI (m_X10_append M this p1 p2) := by
  refine Con.of ok_X10_append (ret_I rfl) (by
    intro v hv
    simp only [List.mem_cons, List.not_mem_nil, or_false] at hv
    rcases hv with rfl | rfl | rfl <;> first | rfl | exact rv_cat _ _) (Nat.le_of_ble_eq_true rfl) ?_
  unfold m_X10_append
  refine G.sub (lv' := [(0, rv κ this), (1, .int p1), (2, .int p2)]) [0, 1, 2] rfl ?_
  refine G_iload_n dX10_append_0 1 rfl rfl ?_
  refine G_iconst (v := 0) dX10_append_1 (by decide) ?_
  refine G_bipush (v := 127) dX10_append_2 (by decide) ?_
  refine G_callS ok_X10_within [.int p1, .int 0, .int 127] [] (con_X10_within κ M p1 0 127) rfl w_319 w_320 (Nat.le_of_ble_eq_true rfl) (Nat.le_of_ble_eq_true rfl) dX10_append_4 rfl (by simp) (fun x2 M1 => (show G _ _ _ _ _ _ [.int x2] _ from ?_))
  refine G_if_eq (tgt := 20) dX10_append_7 (by decide) ?_ ?_
  · refine G_bipush (v := (-2)) dX10_append_20 (by decide) ?_
    exact G_ret (v := ((-2))) dX10_append_22 (fun h => by cases h) rfl
  · refine G_iload_n dX10_append_10 2 rfl rfl ?_
    refine G_iconst (v := 1) dX10_append_11 (by decide) ?_
    refine G_bipush (v := 90) dX10_append_12 (by decide) ?_
    refine G_callS ok_X10_within [.int p2, .int 1, .int 90] [] (con_X10_within κ M1 p2 1 90) rfl w_319 w_320 (Nat.le_of_ble_eq_true rfl) (Nat.le_of_ble_eq_true rfl) dX10_append_14 rfl (by simp) (fun x4 M3 => (show G _ _ _ _ _ _ [.int x4] _ from ?_))
    refine G_if_ne (tgt := 23) dX10_append_17 (by decide) ?_ ?_
    · refine G_aload_n dX10_append_23 0 rfl rfl ?_
      refine G_getP cf_X10 (j := 3) rfl w_302 dX10_append_24 (fun q5 => ?_)
      refine G_iload_n dX10_append_27 2 rfl rfl ?_
      refine G_callV cf_X6 ok_X6_hasRoomFor [.int p2] [] (con_X6_hasRoomFor κ M3 q5 p2) rfl w_322 w_323 w_324 (Nat.le_of_ble_eq_true rfl) (Nat.le_of_ble_eq_true rfl) dX10_append_28 rfl (by simp) (fun x7 M6 => (show G _ _ _ _ _ _ [.int x7] _ from ?_))
      refine G_if_ne (tgt := 37) dX10_append_31 (by decide) ?_ ?_
      · refine G_aload_n dX10_append_37 0 rfl rfl ?_
        refine G_getP cf_X10 (j := 3) rfl w_302 dX10_append_38 (fun q8 => ?_)
        refine G_iload_n dX10_append_41 1 rfl rfl ?_
        refine G_i2c dX10_append_42 ?_
        refine G_iload_n dX10_append_43 2 rfl rfl ?_
        refine G_callV cf_X6 ok_X6_add [.int ((p1).toUInt32 % 65536).toInt32, .int p2] [] (con_X6_add κ M6 q8 (((p1).toUInt32 % 65536).toInt32) p2) rfl w_326 w_327 w_328 (Nat.le_of_ble_eq_true rfl) (Nat.le_of_ble_eq_true rfl) dX10_append_44 rfl (by simp) (fun _u M9 => (show G _ _ _ _ _ _ [] _ from ?_))
        refine G_aload_n dX10_append_47 0 rfl rfl ?_
        refine G_getP cf_X10 (j := 3) rfl w_302 dX10_append_48 (fun q10 => ?_)
        refine G_getI cf_X6 (j := 3) rfl w_251 dX10_append_51 (fun x11 => ?_)
        exact G_ret (v := x11) dX10_append_54 (fun h => by cases h) rfl
      · refine G_bipush (v := (-3)) dX10_append_34 (by decide) ?_
        exact G_ret (v := ((-3))) dX10_append_36 (fun h => by cases h) rfl
    · refine G_bipush (v := (-2)) dX10_append_20 (by decide) ?_
      exact G_ret (v := ((-2))) dX10_append_22 (fun h => by cases h) rfl
def m_X10_plan (M : Mem) (this : Option Nat) (p1 : Int32) (p2 : Int32) : Option (Int32 × Mem) :=
  dP M 10 0 this (fun (q1 : Option Nat) => rc M 1 q1 (cl (m_X1_planAt M q1 p1) (fun (q3 : Option Nat) (M2 : Mem) => (if q3 = none then rt ((-2)) M2 else cl (m_X10_within M2 p2 0 4) (fun (x5 : Int32) (M4 : Mem) => (if x5 ≠ 0 then rc M4 5 q3 (cl (m_X5_property M4 q3 p2) (fun (x7 : Int32) (M6 : Mem) => rt x7 M6)) else rt ((-2)) M4))))))
abbrev md_X10_plan : MD := (RX10, yX10_plan, cX10_plan, 4, Option.some Jvm.ClassFile.FieldType.int, 2, 43)
theorem ok_X10_plan : MOk md_X10_plan 2 := ⟨by decide +kernel, w_477, w_1, ⟨by decide +kernel, by decide +kernel⟩, by decide +kernel, rfl⟩
set_option maxRecDepth 100000 in
set_option maxHeartbeats 4000000 in
theorem con_X10_plan (κ : Cfg) (M : Mem) (this : Option Nat) (p1 : Int32) (p2 : Int32) : Con κ md_X10_plan [rv κ this, .int p1, .int p2] M cvI (m_X10_plan M this p1 p2) := by
  refine Con.of ok_X10_plan (ret_I rfl) (by
    intro v hv
    simp only [List.mem_cons, List.not_mem_nil, or_false] at hv
    rcases hv with rfl | rfl | rfl <;> first | rfl | exact rv_cat _ _) (Nat.le_of_ble_eq_true rfl) ?_
  unfold m_X10_plan
  refine G.sub (lv' := [(0, rv κ this), (1, .int p1), (2, .int p2)]) [0, 1, 2] rfl ?_
  refine G_aload_n dX10_plan_0 0 rfl rfl ?_
  refine G_getP cf_X10 (j := 0) rfl w_299 dX10_plan_1 (fun q1 => ?_)
  refine G_iload_n dX10_plan_4 1 rfl rfl ?_
  refine G_callV cf_X1 ok_X1_planAt [.int p1] [] (con_X1_planAt κ M q1 p1) rfl w_334 w_335 w_336 (Nat.le_of_ble_eq_true rfl) (Nat.le_of_ble_eq_true rfl) dX10_plan_5 rfl (by simp) (fun q3 M2 => (show G _ _ _ _ _ _ [rv κ q3] _ from ?_))
  refine G_astore_n (lv' := [(3, rv κ q3), (0, rv κ this), (1, .int p1), (2, .int p2)]) dX10_plan_8 rfl (Nat.le_of_ble_eq_true rfl) rfl ?_
  refine G_aload_n dX10_plan_9 0 rfl rfl ?_
  refine G_ifnull (tgt := 22) dX10_plan_10 (by decide) ?_ ?_
  · refine G_bipush (v := (-2)) dX10_plan_22 (by decide) ?_
    exact G_ret (v := ((-2))) dX10_plan_24 (fun h => by cases h) rfl
  · refine G_iload_n dX10_plan_13 3 rfl rfl ?_
    refine G_iconst (v := 0) dX10_plan_14 (by decide) ?_
    refine G_iconst (v := 4) dX10_plan_15 (by decide) ?_
    refine G_callS ok_X10_within [.int p2, .int 0, .int 4] [] (con_X10_within κ M2 p2 0 4) rfl w_319 w_320 (Nat.le_of_ble_eq_true rfl) (Nat.le_of_ble_eq_true rfl) dX10_plan_16 rfl (by simp) (fun x5 M4 => (show G _ _ _ _ _ _ [.int x5] _ from ?_))
    refine G_if_ne (tgt := 25) dX10_plan_19 (by decide) ?_ ?_
    · refine G_aload_n dX10_plan_25 0 rfl rfl ?_
      refine G_iload_n dX10_plan_26 3 rfl rfl ?_
      refine G_callV cf_X5 ok_X5_property [.int p2] [] (con_X5_property κ M4 q3 p2) rfl w_478 w_479 w_480 (Nat.le_of_ble_eq_true rfl) (Nat.le_of_ble_eq_true rfl) dX10_plan_27 rfl (by simp) (fun x7 M6 => (show G _ _ _ _ _ _ [.int x7] _ from ?_))
      exact G_ret (v := x7) dX10_plan_30 (fun h => by cases h) rfl
    · refine G_bipush (v := (-2)) dX10_plan_22 (by decide) ?_
      exact G_ret (v := ((-2))) dX10_plan_24 (fun h => by cases h) rfl
def m_X10_band (M : Mem) (this : Option Nat) (p1 : Int32) (p2 : Int32) (p3 : Int32) : Option (Int32 × Mem) :=
  dP M 10 0 this (fun (q1 : Option Nat) => rc M 1 q1 (cl (m_X1_planAt M q1 p1) (fun (q3 : Option Nat) (M2 : Mem) => (if q3 = none then rt ((-2)) M2 else cl (m_X10_within M2 p3 0 2) (fun (x5 : Int32) (M4 : Mem) => (if x5 ≠ 0 then rc M4 5 q3 (cl (m_X5_bandAt M4 q3 p2) (fun (q7 : Option Nat) (M6 : Mem) => (if q7 ≠ none then rc M6 0 q7 (cl (m_X0_property M6 q7 p3) (fun (x9 : Int32) (M8 : Mem) => rt x9 M8)) else rt ((-1)) M6))) else rt ((-2)) M4))))))
abbrev md_X10_band : MD := (RX10, yX10_band, cX10_band, 6, Option.some Jvm.ClassFile.FieldType.int, 2, 44)
theorem ok_X10_band : MOk md_X10_band 3 := ⟨by decide +kernel, w_485, w_1, ⟨by decide +kernel, by decide +kernel⟩, by decide +kernel, rfl⟩
set_option maxRecDepth 100000 in
set_option maxHeartbeats 4000000 in
theorem con_X10_band (κ : Cfg) (M : Mem) (this : Option Nat) (p1 : Int32) (p2 : Int32) (p3 : Int32) : Con κ md_X10_band [rv κ this, .int p1, .int p2, .int p3] M cvI (m_X10_band M this p1 p2 p3) := by
  refine Con.of ok_X10_band (ret_I rfl) (by
    intro v hv
    simp only [List.mem_cons, List.not_mem_nil, or_false] at hv
    rcases hv with rfl | rfl | rfl | rfl <;> first | rfl | exact rv_cat _ _) (Nat.le_of_ble_eq_true rfl) ?_
  unfold m_X10_band
  refine G.sub (lv' := [(0, rv κ this), (1, .int p1), (2, .int p2), (3, .int p3)]) [0, 1, 2, 3] rfl ?_
  refine G_aload_n dX10_band_0 0 rfl rfl ?_
  refine G_getP cf_X10 (j := 0) rfl w_299 dX10_band_1 (fun q1 => ?_)
  refine G_iload_n dX10_band_4 1 rfl rfl ?_
  refine G_callV cf_X1 ok_X1_planAt [.int p1] [] (con_X1_planAt κ M q1 p1) rfl w_334 w_335 w_336 (Nat.le_of_ble_eq_true rfl) (Nat.le_of_ble_eq_true rfl) dX10_band_5 rfl (by simp) (fun q3 M2 => (show G _ _ _ _ _ _ [rv κ q3] _ from ?_))
  refine G_astore (lv' := [(4, rv κ q3), (0, rv κ this), (1, .int p1), (2, .int p2), (3, .int p3)]) dX10_band_8 (Nat.le_of_ble_eq_true rfl) rfl ?_
  refine G_aload dX10_band_10 0 rfl ?_
  refine G_ifnull (tgt := 24) dX10_band_12 (by decide) ?_ ?_
  · refine G_bipush (v := (-2)) dX10_band_24 (by decide) ?_
    exact G_ret (v := ((-2))) dX10_band_26 (fun h => by cases h) rfl
  · refine G_iload_n dX10_band_15 4 rfl rfl ?_
    refine G_iconst (v := 0) dX10_band_16 (by decide) ?_
    refine G_iconst (v := 2) dX10_band_17 (by decide) ?_
    refine G_callS ok_X10_within [.int p3, .int 0, .int 2] [] (con_X10_within κ M2 p3 0 2) rfl w_319 w_320 (Nat.le_of_ble_eq_true rfl) (Nat.le_of_ble_eq_true rfl) dX10_band_18 rfl (by simp) (fun x5 M4 => (show G _ _ _ _ _ _ [.int x5] _ from ?_))
    refine G_if_ne (tgt := 27) dX10_band_21 (by decide) ?_ ?_
    · refine G_aload dX10_band_27 0 rfl ?_
      refine G_iload_n dX10_band_29 3 rfl rfl ?_
      refine G_callV cf_X5 ok_X5_bandAt [.int p2] [] (con_X5_bandAt κ M4 q3 p2) rfl w_486 w_451 w_452 (Nat.le_of_ble_eq_true rfl) (Nat.le_of_ble_eq_true rfl) dX10_band_30 rfl (by simp) (fun q7 M6 => (show G _ _ _ _ _ _ [rv κ q7] _ from ?_))
      refine G_astore (lv' := [(5, rv κ q7), (4, rv κ q3), (0, rv κ this), (1, .int p1), (2, .int p2), (3, .int p3)]) dX10_band_33 (Nat.le_of_ble_eq_true rfl) rfl ?_
      refine G_aload dX10_band_35 0 rfl ?_
      refine G_ifnonnull (tgt := 44) dX10_band_37 (by decide) ?_ ?_
      · refine G_aload dX10_band_44 0 rfl ?_
        refine G_iload_n dX10_band_46 5 rfl rfl ?_
        refine G_callV cf_X0 ok_X0_property [.int p3] [] (con_X0_property κ M6 q7 p3) rfl w_487 w_488 w_489 (Nat.le_of_ble_eq_true rfl) (Nat.le_of_ble_eq_true rfl) dX10_band_47 rfl (by simp) (fun x9 M8 => (show G _ _ _ _ _ _ [.int x9] _ from ?_))
        exact G_ret (v := x9) dX10_band_50 (fun h => by cases h) rfl
      · refine G_iconst (v := (-1)) dX10_band_40 (by decide) ?_
        refine G_goto (tgt := 50) dX10_band_41 (by decide) ?_
        exact G_ret (v := ((-1))) dX10_band_50 (fun h => by cases h) rfl
    · refine G_bipush (v := (-2)) dX10_band_24 (by decide) ?_
      exact G_ret (v := ((-2))) dX10_band_26 (fun h => by cases h) rfl
def m_X10_isStay (M : Mem) (p1 : Int32) (p2 : Int32) : Option (Int32 × Mem) :=
  cl (m_X10_within M p1 0 99999) (fun (x2 : Int32) (M1 : Mem) => (if x2 = 0 then rtZ 0 M1 else cl (m_X10_within M1 p2 p1 99999) (fun (x4 : Int32) (M3 : Mem) => (if x4 = 0 then rtZ 0 M3 else rtZ 1 M3))))
abbrev md_X10_isStay : MD := (RX10, yX10_isStay, cX10_isStay, 2, Option.some Jvm.ClassFile.FieldType.boolean, 1, 22)
theorem ok_X10_isStay : MOk md_X10_isStay 2 := ⟨by decide +kernel, w_497, w_1, ⟨by decide +kernel, by decide +kernel⟩, by decide +kernel, rfl⟩
set_option maxRecDepth 100000 in
set_option maxHeartbeats 4000000 in
theorem con_X10_isStay (κ : Cfg) (M : Mem) (p1 : Int32) (p2 : Int32) : Con κ md_X10_isStay [.int p1, .int p2] M cvI (m_X10_isStay M p1 p2) := by
  refine Con.of ok_X10_isStay (ret_Z rfl) (by
    intro v hv
    simp only [List.mem_cons, List.not_mem_nil, or_false] at hv
    rcases hv with rfl | rfl <;> first | rfl | exact rv_cat _ _) (Nat.le_of_ble_eq_true rfl) ?_
  unfold m_X10_isStay
  refine G.sub (lv' := [(0, .int p1), (1, .int p2)]) [0, 1] rfl ?_
  refine G_iload_n dX10_isStay_0 0 rfl rfl ?_
  refine G_iconst (v := 0) dX10_isStay_1 (by decide) ?_
  refine G_ldc (v := 99999) dX10_isStay_2 w_498 ?_
  refine G_callS ok_X10_within [.int p1, .int 0, .int 99999] [] (con_X10_within κ M p1 0 99999) rfl w_319 w_320 (Nat.le_of_ble_eq_true rfl) (Nat.le_of_ble_eq_true rfl) dX10_isStay_4 rfl (by simp) (fun x2 M1 => (show G _ _ _ _ _ _ [.int x2] _ from ?_))
  refine G_if_eq (tgt := 24) dX10_isStay_7 (by decide) ?_ ?_
  · refine G_iconst (v := 0) dX10_isStay_24 (by decide) ?_
    exact G_retZ dX10_isStay_25
  · refine G_iload_n dX10_isStay_10 1 rfl rfl ?_
    refine G_iload_n dX10_isStay_11 0 rfl rfl ?_
    refine G_ldc (v := 99999) dX10_isStay_12 w_498 ?_
    refine G_callS ok_X10_within [.int p2, .int p1, .int 99999] [] (con_X10_within κ M1 p2 p1 99999) rfl w_319 w_320 (Nat.le_of_ble_eq_true rfl) (Nat.le_of_ble_eq_true rfl) dX10_isStay_14 rfl (by simp) (fun x4 M3 => (show G _ _ _ _ _ _ [.int x4] _ from ?_))
    refine G_if_eq (tgt := 24) dX10_isStay_17 (by decide) ?_ ?_
    · refine G_iconst (v := 0) dX10_isStay_24 (by decide) ?_
      exact G_retZ dX10_isStay_25
    · refine G_iconst (v := 1) dX10_isStay_20 (by decide) ?_
      refine G_goto (tgt := 25) dX10_isStay_21 (by decide) ?_
      exact G_retZ dX10_isStay_25
def m_X10_fee (M : Mem) (this : Option Nat) (p1 : Int32) (p2 : Int32) (p3 : Int32) : Option (Int32 × Mem) :=
  dP M 10 0 this (fun (q1 : Option Nat) => rc M 1 q1 (cl (m_X1_planAt M q1 p1) (fun (q3 : Option Nat) (M2 : Mem) => (if q3 = none then rt ((-2)) M2 else cl (m_X10_isStay M2 p2 p3) (fun (x5 : Int32) (M4 : Mem) => (if x5 ≠ 0 then rc M4 5 q3 (cl (m_X5_feeOfStay M4 q3 p2 p3) (fun (x7 : Int32) (M6 : Mem) => rt x7 M6)) else rt ((-2)) M4))))))
abbrev md_X10_fee : MD := (RX10, yX10_fee, cX10_fee, 5, Option.some Jvm.ClassFile.FieldType.int, 4, 88)
theorem ok_X10_fee : MOk md_X10_fee 3 := ⟨by decide +kernel, w_494, w_1, ⟨by decide +kernel, by decide +kernel⟩, by decide +kernel, rfl⟩
set_option maxRecDepth 100000 in
set_option maxHeartbeats 4000000 in
theorem con_X10_fee (κ : Cfg) (M : Mem) (this : Option Nat) (p1 : Int32) (p2 : Int32) (p3 : Int32) : Con κ md_X10_fee [rv κ this, .int p1, .int p2, .int p3] M cvI (m_X10_fee M this p1 p2 p3) := by
  refine Con.of ok_X10_fee (ret_I rfl) (by
    intro v hv
    simp only [List.mem_cons, List.not_mem_nil, or_false] at hv
    rcases hv with rfl | rfl | rfl | rfl <;> first | rfl | exact rv_cat _ _) (Nat.le_of_ble_eq_true rfl) ?_
  unfold m_X10_fee
  refine G.sub (lv' := [(0, rv κ this), (1, .int p1), (2, .int p2), (3, .int p3)]) [0, 1, 2, 3] rfl ?_
  refine G_aload_n dX10_fee_0 0 rfl rfl ?_
  refine G_getP cf_X10 (j := 0) rfl w_299 dX10_fee_1 (fun q1 => ?_)
  refine G_iload_n dX10_fee_4 1 rfl rfl ?_
  refine G_callV cf_X1 ok_X1_planAt [.int p1] [] (con_X1_planAt κ M q1 p1) rfl w_334 w_335 w_336 (Nat.le_of_ble_eq_true rfl) (Nat.le_of_ble_eq_true rfl) dX10_fee_5 rfl (by simp) (fun q3 M2 => (show G _ _ _ _ _ _ [rv κ q3] _ from ?_))
  refine G_astore (lv' := [(4, rv κ q3), (0, rv κ this), (1, .int p1), (2, .int p2), (3, .int p3)]) dX10_fee_8 (Nat.le_of_ble_eq_true rfl) rfl ?_
  refine G_aload dX10_fee_10 0 rfl ?_
  refine G_ifnull (tgt := 23) dX10_fee_12 (by decide) ?_ ?_
  · refine G_bipush (v := (-2)) dX10_fee_23 (by decide) ?_
    exact G_ret (v := ((-2))) dX10_fee_25 (fun h => by cases h) rfl
  · refine G_iload_n dX10_fee_15 3 rfl rfl ?_
    refine G_iload_n dX10_fee_16 4 rfl rfl ?_
    refine G_callS ok_X10_isStay [.int p2, .int p3] [] (con_X10_isStay κ M2 p2 p3) rfl w_495 w_496 (Nat.le_of_ble_eq_true rfl) (Nat.le_of_ble_eq_true rfl) dX10_fee_17 rfl (by simp) (fun x5 M4 => (show G _ _ _ _ _ _ [.int x5] _ from ?_))
    refine G_if_ne (tgt := 26) dX10_fee_20 (by decide) ?_ ?_
    · refine G_aload dX10_fee_26 0 rfl ?_
      refine G_iload_n dX10_fee_28 3 rfl rfl ?_
      refine G_iload_n dX10_fee_29 4 rfl rfl ?_
      refine G_callV cf_X5 ok_X5_feeOfStay [.int p2, .int p3] [] (con_X5_feeOfStay κ M4 q3 p2 p3) rfl w_499 w_500 w_501 (Nat.le_of_ble_eq_true rfl) (Nat.le_of_ble_eq_true rfl) dX10_fee_30 rfl (by simp) (fun x7 M6 => (show G _ _ _ _ _ _ [.int x7] _ from ?_))
      exact G_ret (v := x7) dX10_fee_33 (fun h => by cases h) rfl
    · refine G_bipush (v := (-2)) dX10_fee_23 (by decide) ?_
      exact G_ret (v := ((-2))) dX10_fee_25 (fun h => by cases h) rfl
def m_X10_unit (M : Mem) (this : Option Nat) (p1 : Int32) (p2 : Int32) (p3 : Int32) (p4 : Int32) : Option (Int32 × Mem) :=
  dP M 10 0 this (fun (q1 : Option Nat) => rc M 1 q1 (cl (m_X1_planAt M q1 p1) (fun (q3 : Option Nat) (M2 : Mem) => (if q3 = none then rt ((-2)) M2 else cl (m_X10_within M2 p2 0 99999) (fun (x5 : Int32) (M4 : Mem) => (if x5 ≠ 0 then cl (m_X10_within M4 p3 0 99) (fun (x7 : Int32) (M6 : Mem) => (if x7 = 0 then rt ((-2)) M6 else cl (m_X10_within M6 p4 0 2) (fun (x9 : Int32) (M8 : Mem) => (if x9 ≠ 0 then rc M8 5 q3 (cl (m_X5_partOfUnit M8 q3 p2 p3 p4) (fun (x11 : Int32) (M10 : Mem) => rt x11 M10)) else rt ((-2)) M8)))) else rt ((-2)) M4))))))
abbrev md_X10_unit : MD := (RX10, yX10_unit, cX10_unit, 6, Option.some Jvm.ClassFile.FieldType.int, 4, 89)
theorem ok_X10_unit : MOk md_X10_unit 4 := ⟨by decide +kernel, w_555, w_1, ⟨by decide +kernel, by decide +kernel⟩, by decide +kernel, rfl⟩
set_option maxRecDepth 100000 in
set_option maxHeartbeats 4000000 in
theorem con_X10_unit (κ : Cfg) (M : Mem) (this : Option Nat) (p1 : Int32) (p2 : Int32) (p3 : Int32) (p4 : Int32) : Con κ md_X10_unit [rv κ this, .int p1, .int p2, .int p3, .int p4] M cvI (m_X10_unit M this p1 p2 p3 p4) := by
  refine Con.of ok_X10_unit (ret_I rfl) (by
    intro v hv
    simp only [List.mem_cons, List.not_mem_nil, or_false] at hv
    rcases hv with rfl | rfl | rfl | rfl | rfl <;> first | rfl | exact rv_cat _ _) (Nat.le_of_ble_eq_true rfl) ?_
  unfold m_X10_unit
  refine G.sub (lv' := [(0, rv κ this), (1, .int p1), (2, .int p2), (3, .int p3), (4, .int p4)]) [0, 1, 2, 3, 4] rfl ?_
  refine G_aload_n dX10_unit_0 0 rfl rfl ?_
  refine G_getP cf_X10 (j := 0) rfl w_299 dX10_unit_1 (fun q1 => ?_)
  refine G_iload_n dX10_unit_4 1 rfl rfl ?_
  refine G_callV cf_X1 ok_X1_planAt [.int p1] [] (con_X1_planAt κ M q1 p1) rfl w_334 w_335 w_336 (Nat.le_of_ble_eq_true rfl) (Nat.le_of_ble_eq_true rfl) dX10_unit_5 rfl (by simp) (fun q3 M2 => (show G _ _ _ _ _ _ [rv κ q3] _ from ?_))
  refine G_astore (lv' := [(5, rv κ q3), (0, rv κ this), (1, .int p1), (2, .int p2), (3, .int p3), (4, .int p4)]) dX10_unit_8 (Nat.le_of_ble_eq_true rfl) rfl ?_
  refine G_aload dX10_unit_10 0 rfl ?_
  refine G_ifnull (tgt := 25) dX10_unit_12 (by decide) ?_ ?_
  · refine G_bipush (v := (-2)) dX10_unit_25 (by decide) ?_
    exact G_ret (v := ((-2))) dX10_unit_27 (fun h => by cases h) rfl
  · refine G_iload_n dX10_unit_15 3 rfl rfl ?_
    refine G_iconst (v := 0) dX10_unit_16 (by decide) ?_
    refine G_ldc (v := 99999) dX10_unit_17 w_498 ?_
    refine G_callS ok_X10_within [.int p2, .int 0, .int 99999] [] (con_X10_within κ M2 p2 0 99999) rfl w_319 w_320 (Nat.le_of_ble_eq_true rfl) (Nat.le_of_ble_eq_true rfl) dX10_unit_19 rfl (by simp) (fun x5 M4 => (show G _ _ _ _ _ _ [.int x5] _ from ?_))
    refine G_if_ne (tgt := 28) dX10_unit_22 (by decide) ?_ ?_
    · refine G_iload_n dX10_unit_28 4 rfl rfl ?_
      refine G_iconst (v := 0) dX10_unit_29 (by decide) ?_
      refine G_bipush (v := 99) dX10_unit_30 (by decide) ?_
      refine G_callS ok_X10_within [.int p3, .int 0, .int 99] [] (con_X10_within κ M4 p3 0 99) rfl w_319 w_320 (Nat.le_of_ble_eq_true rfl) (Nat.le_of_ble_eq_true rfl) dX10_unit_32 rfl (by simp) (fun x7 M6 => (show G _ _ _ _ _ _ [.int x7] _ from ?_))
      refine G_if_eq (tgt := 48) dX10_unit_35 (by decide) ?_ ?_
      · refine G_bipush (v := (-2)) dX10_unit_48 (by decide) ?_
        exact G_ret (v := ((-2))) dX10_unit_50 (fun h => by cases h) rfl
      · refine G_iload dX10_unit_38 5 rfl ?_
        refine G_iconst (v := 0) dX10_unit_40 (by decide) ?_
        refine G_iconst (v := 2) dX10_unit_41 (by decide) ?_
        refine G_callS ok_X10_within [.int p4, .int 0, .int 2] [] (con_X10_within κ M6 p4 0 2) rfl w_319 w_320 (Nat.le_of_ble_eq_true rfl) (Nat.le_of_ble_eq_true rfl) dX10_unit_42 rfl (by simp) (fun x9 M8 => (show G _ _ _ _ _ _ [.int x9] _ from ?_))
        refine G_if_ne (tgt := 51) dX10_unit_45 (by decide) ?_ ?_
        · refine G_aload dX10_unit_51 0 rfl ?_
          refine G_iload_n dX10_unit_53 3 rfl rfl ?_
          refine G_iload_n dX10_unit_54 4 rfl rfl ?_
          refine G_iload dX10_unit_55 5 rfl ?_
          refine G_callV cf_X5 ok_X5_partOfUnit [.int p2, .int p3, .int p4] [] (con_X5_partOfUnit κ M8 q3 p2 p3 p4) rfl w_556 w_557 w_558 (Nat.le_of_ble_eq_true rfl) (Nat.le_of_ble_eq_true rfl) dX10_unit_57 rfl (by simp) (fun x11 M10 => (show G _ _ _ _ _ _ [.int x11] _ from ?_))
          exact G_ret (v := x11) dX10_unit_60 (fun h => by cases h) rfl
        · refine G_bipush (v := (-2)) dX10_unit_48 (by decide) ?_
          exact G_ret (v := ((-2))) dX10_unit_50 (fun h => by cases h) rfl
    · refine G_bipush (v := (-2)) dX10_unit_25 (by decide) ?_
      exact G_ret (v := ((-2))) dX10_unit_27 (fun h => by cases h) rfl
def m_X10_extend (M : Mem) (this : Option Nat) (p1 : Int32) (p2 : Int32) (p3 : Int32) : Option (Int32 × Mem) :=
  dP M 10 0 this (fun (q1 : Option Nat) => rc M 1 q1 (cl (m_X1_planAt M q1 p1) (fun (q3 : Option Nat) (M2 : Mem) => (if q3 = none then rt ((-2)) M2 else cl (m_X10_isStay M2 p2 p3) (fun (x5 : Int32) (M4 : Mem) => (if x5 ≠ 0 then rc M4 5 q3 (cl (m_X5_latestEnd M4 q3 p2 p3) (fun (x7 : Int32) (M6 : Mem) => rt x7 M6)) else rt ((-2)) M4))))))
abbrev md_X10_extend : MD := (RX10, yX10_extend, cX10_extend, 5, Option.some Jvm.ClassFile.FieldType.int, 5, 115)
theorem ok_X10_extend : MOk md_X10_extend 3 := ⟨by decide +kernel, w_565, w_1, ⟨by decide +kernel, by decide +kernel⟩, by decide +kernel, rfl⟩
set_option maxRecDepth 100000 in
set_option maxHeartbeats 4000000 in
theorem con_X10_extend (κ : Cfg) (M : Mem) (this : Option Nat) (p1 : Int32) (p2 : Int32) (p3 : Int32) : Con κ md_X10_extend [rv κ this, .int p1, .int p2, .int p3] M cvI (m_X10_extend M this p1 p2 p3) := by
  refine Con.of ok_X10_extend (ret_I rfl) (by
    intro v hv
    simp only [List.mem_cons, List.not_mem_nil, or_false] at hv
    rcases hv with rfl | rfl | rfl | rfl <;> first | rfl | exact rv_cat _ _) (Nat.le_of_ble_eq_true rfl) ?_
  unfold m_X10_extend
  refine G.sub (lv' := [(0, rv κ this), (1, .int p1), (2, .int p2), (3, .int p3)]) [0, 1, 2, 3] rfl ?_
  refine G_aload_n dX10_extend_0 0 rfl rfl ?_
  refine G_getP cf_X10 (j := 0) rfl w_299 dX10_extend_1 (fun q1 => ?_)
  refine G_iload_n dX10_extend_4 1 rfl rfl ?_
  refine G_callV cf_X1 ok_X1_planAt [.int p1] [] (con_X1_planAt κ M q1 p1) rfl w_334 w_335 w_336 (Nat.le_of_ble_eq_true rfl) (Nat.le_of_ble_eq_true rfl) dX10_extend_5 rfl (by simp) (fun q3 M2 => (show G _ _ _ _ _ _ [rv κ q3] _ from ?_))
  refine G_astore (lv' := [(4, rv κ q3), (0, rv κ this), (1, .int p1), (2, .int p2), (3, .int p3)]) dX10_extend_8 (Nat.le_of_ble_eq_true rfl) rfl ?_
  refine G_aload dX10_extend_10 0 rfl ?_
  refine G_ifnull (tgt := 23) dX10_extend_12 (by decide) ?_ ?_
  · refine G_bipush (v := (-2)) dX10_extend_23 (by decide) ?_
    exact G_ret (v := ((-2))) dX10_extend_25 (fun h => by cases h) rfl
  · refine G_iload_n dX10_extend_15 3 rfl rfl ?_
    refine G_iload_n dX10_extend_16 4 rfl rfl ?_
    refine G_callS ok_X10_isStay [.int p2, .int p3] [] (con_X10_isStay κ M2 p2 p3) rfl w_495 w_496 (Nat.le_of_ble_eq_true rfl) (Nat.le_of_ble_eq_true rfl) dX10_extend_17 rfl (by simp) (fun x5 M4 => (show G _ _ _ _ _ _ [.int x5] _ from ?_))
    refine G_if_ne (tgt := 26) dX10_extend_20 (by decide) ?_ ?_
    · refine G_aload dX10_extend_26 0 rfl ?_
      refine G_iload_n dX10_extend_28 3 rfl rfl ?_
      refine G_iload_n dX10_extend_29 4 rfl rfl ?_
      refine G_callV cf_X5 ok_X5_latestEnd [.int p2, .int p3] [] (con_X5_latestEnd κ M4 q3 p2 p3) rfl w_566 w_567 w_568 (Nat.le_of_ble_eq_true rfl) (Nat.le_of_ble_eq_true rfl) dX10_extend_30 rfl (by simp) (fun x7 M6 => (show G _ _ _ _ _ _ [.int x7] _ from ?_))
      exact G_ret (v := x7) dX10_extend_33 (fun h => by cases h) rfl
    · refine G_bipush (v := (-2)) dX10_extend_23 (by decide) ?_
      exact G_ret (v := ((-2))) dX10_extend_25 (fun h => by cases h) rfl
def m_X10_addVoucher (M : Mem) (this : Option Nat) (p1 : Int32) (p2 : Int32) : Option (Int32 × Mem) :=
  cl (m_X10_within M p1 0 3) (fun (x2 : Int32) (M1 : Mem) => (if x2 ≠ 0 then jn (fun (x4 : Int32) (M5 : Mem) => cl (m_X10_within M5 p2 0 x4) (fun (x7 : Int32) (M6 : Mem) => (if x7 ≠ 0 then dP M6 10 0 this (fun (q8 : Option Nat) => rc M6 1 q8 (cl (m_X1_makeVoucher M6 q8 p1 p2) (fun (x10 : Int32) (M9 : Mem) => rt x10 M9))) else rt ((-2)) M6))) (fun (J27_2 : Int32 → Mem → Option (Int32 × Mem)) => (if p1 ≠ 1 then J27_2 999 M1 else J27_2 100 M1)) else rt ((-2)) M1))
abbrev md_X10_addVoucher : MD := (RX10, yX10_addVoucher, cX10_addVoucher, 3, Option.some Jvm.ClassFile.FieldType.int, 2, 44)
theorem ok_X10_addVoucher : MOk md_X10_addVoucher 2 := ⟨by decide +kernel, w_578, w_1, ⟨by decide +kernel, by decide +kernel⟩, by decide +kernel, rfl⟩
set_option maxRecDepth 100000 in
set_option maxHeartbeats 4000000 in
theorem con_X10_addVoucher (κ : Cfg) (M : Mem) (this : Option Nat) (p1 : Int32) (p2 : Int32) : Con κ md_X10_addVoucher [rv κ this, .int p1, .int p2] M cvI (m_X10_addVoucher M this p1 p2) := by
  refine Con.of ok_X10_addVoucher (ret_I rfl) (by
    intro v hv
    simp only [List.mem_cons, List.not_mem_nil, or_false] at hv
    rcases hv with rfl | rfl | rfl <;> first | rfl | exact rv_cat _ _) (Nat.le_of_ble_eq_true rfl) ?_
  unfold m_X10_addVoucher
  refine G.sub (lv' := [(0, rv κ this), (1, .int p1), (2, .int p2)]) [0, 1, 2] rfl ?_
  refine G_iload_n dX10_addVoucher_0 1 rfl rfl ?_
  refine G_iconst (v := 0) dX10_addVoucher_1 (by decide) ?_
  refine G_iconst (v := 3) dX10_addVoucher_2 (by decide) ?_
  refine G_callS ok_X10_within [.int p1, .int 0, .int 3] [] (con_X10_within κ M p1 0 3) rfl w_319 w_320 (Nat.le_of_ble_eq_true rfl) (Nat.le_of_ble_eq_true rfl) dX10_addVoucher_3 rfl (by simp) (fun x2 M1 => (show G _ _ _ _ _ _ [.int x2] _ from ?_))
  refine G_if_ne (tgt := 12) dX10_addVoucher_6 (by decide) ?_ ?_
  · refine G_iload_n dX10_addVoucher_12 2 rfl rfl ?_
    refine G_iconst (v := 0) dX10_addVoucher_13 (by decide) ?_
    refine G_iload_n dX10_addVoucher_14 1 rfl rfl ?_
    refine G_iconst (v := 1) dX10_addVoucher_15 (by decide) ?_
    refine G.jn (P := (fun (J : Int32 → Mem → Option (Int32 × Mem)) => ∀ (x4 : Int32) (M5 : Mem), G κ md_X10_addVoucher cvI (J x4 M5) 27 [(0, rv κ this), (1, .int p1), (2, .int p2)] [.int x4, .int 0, .int p2] M5)) ?_ ?_
    · intro x4 M5
      refine G_callS ok_X10_within [.int p2, .int 0, .int x4] [] (con_X10_within κ M5 p2 0 x4) rfl w_319 w_320 (Nat.le_of_ble_eq_true rfl) (Nat.le_of_ble_eq_true rfl) dX10_addVoucher_27 rfl (by simp) (fun x7 M6 => (show G _ _ _ _ _ _ [.int x7] _ from ?_))
      refine G_if_ne (tgt := 36) dX10_addVoucher_30 (by decide) ?_ ?_
      · refine G_aload_n dX10_addVoucher_36 0 rfl rfl ?_
        refine G_getP cf_X10 (j := 0) rfl w_299 dX10_addVoucher_37 (fun q8 => ?_)
        refine G_iload_n dX10_addVoucher_40 1 rfl rfl ?_
        refine G_iload_n dX10_addVoucher_41 2 rfl rfl ?_
        refine G_callV cf_X1 ok_X1_makeVoucher [.int p1, .int p2] [] (con_X1_makeVoucher κ M6 q8 p1 p2) rfl w_579 w_580 w_581 (Nat.le_of_ble_eq_true rfl) (Nat.le_of_ble_eq_true rfl) dX10_addVoucher_42 rfl (by simp) (fun x10 M9 => (show G _ _ _ _ _ _ [.int x10] _ from ?_))
        exact G_ret (v := x10) dX10_addVoucher_45 (fun h => by cases h) rfl
      · refine G_bipush (v := (-2)) dX10_addVoucher_33 (by decide) ?_
        exact G_ret (v := ((-2))) dX10_addVoucher_35 (fun h => by cases h) rfl
    · intro J27_2 hJ27_2
      refine G_icmp_ne (tgt := 24) dX10_addVoucher_16 (by decide) ?_ ?_
      · refine G_sipush (v := 999) dX10_addVoucher_24 (by decide) ?_
        exact G.sub [0, 1, 2] rfl (hJ27_2 _ _)
      · refine G_bipush (v := 100) dX10_addVoucher_19 (by decide) ?_
        refine G_goto (tgt := 27) dX10_addVoucher_21 (by decide) ?_
        exact G.sub [0, 1, 2] rfl (hJ27_2 _ _)
  · refine G_bipush (v := (-2)) dX10_addVoucher_9 (by decide) ?_
    exact G_ret (v := ((-2))) dX10_addVoucher_11 (fun h => by cases h) rfl
def m_X10_voucher (M : Mem) (this : Option Nat) (p1 : Int32) (p2 : Int32) : Option (Int32 × Mem) :=
  dP M 10 0 this (fun (q1 : Option Nat) => rc M 1 q1 (cl (m_X1_voucherAt M q1 p1) (fun (q3 : Option Nat) (M2 : Mem) => (if q3 ≠ none then cl (m_X10_within M2 p2 0 2) (fun (x5 : Int32) (M4 : Mem) => (if x5 = 0 then rt ((-2)) M4 else rc M4 9 q3 (cl (m_X9_property M4 q3 p2) (fun (x7 : Int32) (M6 : Mem) => rt x7 M6)))) else rt ((-1)) M2))))
abbrev md_X10_voucher : MD := (RX10, yX10_voucher, cX10_voucher, 4, Option.some Jvm.ClassFile.FieldType.int, 2, 44)
theorem ok_X10_voucher : MOk md_X10_voucher 2 := ⟨by decide +kernel, w_590, w_1, ⟨by decide +kernel, by decide +kernel⟩, by decide +kernel, rfl⟩
set_option maxRecDepth 100000 in
set_option maxHeartbeats 4000000 in
theorem con_X10_voucher (κ : Cfg) (M : Mem) (this : Option Nat) (p1 : Int32) (p2 : Int32) : Con κ md_X10_voucher [rv κ this, .int p1, .int p2] M cvI (m_X10_voucher M this p1 p2) := by
  refine Con.of ok_X10_voucher (ret_I rfl) (by
    intro v hv
    simp only [List.mem_cons, List.not_mem_nil, or_false] at hv
    rcases hv with rfl | rfl | rfl <;> first | rfl | exact rv_cat _ _) (Nat.le_of_ble_eq_true rfl) ?_
  unfold m_X10_voucher
  refine G.sub (lv' := [(0, rv κ this), (1, .int p1), (2, .int p2)]) [0, 1, 2] rfl ?_
  refine G_aload_n dX10_voucher_0 0 rfl rfl ?_
  refine G_getP cf_X10 (j := 0) rfl w_299 dX10_voucher_1 (fun q1 => ?_)
  refine G_iload_n dX10_voucher_4 1 rfl rfl ?_
  refine G_callV cf_X1 ok_X1_voucherAt [.int p1] [] (con_X1_voucherAt κ M q1 p1) rfl w_591 w_592 w_593 (Nat.le_of_ble_eq_true rfl) (Nat.le_of_ble_eq_true rfl) dX10_voucher_5 rfl (by simp) (fun q3 M2 => (show G _ _ _ _ _ _ [rv κ q3] _ from ?_))
  refine G_astore_n (lv' := [(3, rv κ q3), (0, rv κ this), (1, .int p1), (2, .int p2)]) dX10_voucher_8 rfl (Nat.le_of_ble_eq_true rfl) rfl ?_
  refine G_aload_n dX10_voucher_9 0 rfl rfl ?_
  refine G_ifnonnull (tgt := 15) dX10_voucher_10 (by decide) ?_ ?_
  · refine G_iload_n dX10_voucher_15 3 rfl rfl ?_
    refine G_iconst (v := 0) dX10_voucher_16 (by decide) ?_
    refine G_iconst (v := 2) dX10_voucher_17 (by decide) ?_
    refine G_callS ok_X10_within [.int p2, .int 0, .int 2] [] (con_X10_within κ M2 p2 0 2) rfl w_319 w_320 (Nat.le_of_ble_eq_true rfl) (Nat.le_of_ble_eq_true rfl) dX10_voucher_18 rfl (by simp) (fun x5 M4 => (show G _ _ _ _ _ _ [.int x5] _ from ?_))
    refine G_if_eq (tgt := 32) dX10_voucher_21 (by decide) ?_ ?_
    · refine G_bipush (v := (-2)) dX10_voucher_32 (by decide) ?_
      exact G_ret (v := ((-2))) dX10_voucher_34 (fun h => by cases h) rfl
    · refine G_aload_n dX10_voucher_24 0 rfl rfl ?_
      refine G_iload_n dX10_voucher_25 3 rfl rfl ?_
      refine G_callV cf_X9 ok_X9_property [.int p2] [] (con_X9_property κ M4 q3 p2) rfl w_595 w_596 w_597 (Nat.le_of_ble_eq_true rfl) (Nat.le_of_ble_eq_true rfl) dX10_voucher_26 rfl (by simp) (fun x7 M6 => (show G _ _ _ _ _ _ [.int x7] _ from ?_))
      refine G_goto (tgt := 34) dX10_voucher_29 (by decide) ?_
      exact G_ret (v := x7) dX10_voucher_34 (fun h => by cases h) rfl
  · refine G_iconst (v := (-1)) dX10_voucher_13 (by decide) ?_
    exact G_ret (v := ((-1))) dX10_voucher_14 (fun h => by cases h) rfl
def m_X10_makeFolder (M : Mem) (this : Option Nat) (p1 : Int32) (p2 : Int32) (p3 : Int32) : Option (Int32 × Mem) :=
  cl (m_X10_within M p1 0 2) (fun (x2 : Int32) (M1 : Mem) => (if x2 = 0 then rt ((-2)) M1 else cl (m_X10_within M1 p2 ((-1)) 3) (fun (x4 : Int32) (M3 : Mem) => (if x4 ≠ 0 then cl (m_X10_within M3 p3 1 5) (fun (x6 : Int32) (M5 : Mem) => (if x6 ≠ 0 then dP M5 10 0 this (fun (q7 : Option Nat) => dP M5 1 2 q7 (fun (q8 : Option Nat) => aP M5 112 q8 p1 (fun (q9 : Option Nat) => rc M5 2 q9 (cl (m_X2_make M5 q9 p2 p3) (fun (_u : Unit) (M10 : Mem) => rt p3 M10))))) else rt ((-2)) M5)) else rt ((-2)) M3))))
abbrev md_X10_makeFolder : MD := (RX10, yX10_makeFolder, cX10_makeFolder, 4, Option.some Jvm.ClassFile.FieldType.int, 1, 23)
theorem ok_X10_makeFolder : MOk md_X10_makeFolder 3 := ⟨by decide +kernel, w_602, w_1, ⟨by decide +kernel, by decide +kernel⟩, by decide +kernel, rfl⟩
set_option maxRecDepth 100000 in
set_option maxHeartbeats 4000000 in
theorem con_X10_makeFolder (κ : Cfg) (M : Mem) (this : Option Nat) (p1 : Int32) (p2 : Int32) (p3 : Int32) : Con κ md_X10_makeFolder [rv κ this, .int p1, .int p2, .int p3] M cvI (m_X10_makeFolder M this p1 p2 p3) := by
  refine Con.of ok_X10_makeFolder (ret_I rfl) (by
    intro v hv
    simp only [List.mem_cons, List.not_mem_nil, or_false] at hv
    rcases hv with rfl | rfl | rfl | rfl <;> first | rfl | exact rv_cat _ _) (Nat.le_of_ble_eq_true rfl) ?_
  unfold m_X10_makeFolder
  refine G.sub (lv' := [(0, rv κ this), (1, .int p1), (2, .int p2), (3, .int p3)]) [0, 1, 2, 3] rfl ?_
  refine G_iload_n dX10_makeFolder_0 1 rfl rfl ?_
  refine G_iconst (v := 0) dX10_makeFolder_1 (by decide) ?_
  refine G_iconst (v := 2) dX10_makeFolder_2 (by decide) ?_
  refine G_callS ok_X10_within [.int p1, .int 0, .int 2] [] (con_X10_within κ M p1 0 2) rfl w_319 w_320 (Nat.le_of_ble_eq_true rfl) (Nat.le_of_ble_eq_true rfl) dX10_makeFolder_3 rfl (by simp) (fun x2 M1 => (show G _ _ _ _ _ _ [.int x2] _ from ?_))
  refine G_if_eq (tgt := 18) dX10_makeFolder_6 (by decide) ?_ ?_
  · refine G_bipush (v := (-2)) dX10_makeFolder_18 (by decide) ?_
    exact G_ret (v := ((-2))) dX10_makeFolder_20 (fun h => by cases h) rfl
  · refine G_iload_n dX10_makeFolder_9 2 rfl rfl ?_
    refine G_iconst (v := (-1)) dX10_makeFolder_10 (by decide) ?_
    refine G_iconst (v := 3) dX10_makeFolder_11 (by decide) ?_
    refine G_callS ok_X10_within [.int p2, .int (-1), .int 3] [] (con_X10_within κ M1 p2 ((-1)) 3) rfl w_319 w_320 (Nat.le_of_ble_eq_true rfl) (Nat.le_of_ble_eq_true rfl) dX10_makeFolder_12 rfl (by simp) (fun x4 M3 => (show G _ _ _ _ _ _ [.int x4] _ from ?_))
    refine G_if_ne (tgt := 21) dX10_makeFolder_15 (by decide) ?_ ?_
    · refine G_iload_n dX10_makeFolder_21 3 rfl rfl ?_
      refine G_iconst (v := 1) dX10_makeFolder_22 (by decide) ?_
      refine G_iconst (v := 5) dX10_makeFolder_23 (by decide) ?_
      refine G_callS ok_X10_within [.int p3, .int 1, .int 5] [] (con_X10_within κ M3 p3 1 5) rfl w_319 w_320 (Nat.le_of_ble_eq_true rfl) (Nat.le_of_ble_eq_true rfl) dX10_makeFolder_24 rfl (by simp) (fun x6 M5 => (show G _ _ _ _ _ _ [.int x6] _ from ?_))
      refine G_if_ne (tgt := 33) dX10_makeFolder_27 (by decide) ?_ ?_
      · refine G_aload_n dX10_makeFolder_33 0 rfl rfl ?_
        refine G_getP cf_X10 (j := 0) rfl w_299 dX10_makeFolder_34 (fun q7 => ?_)
        refine G_getP cf_X1 (j := 2) rfl w_212 dX10_makeFolder_37 (fun q8 => ?_)
        refine G_iload_n dX10_makeFolder_40 1 rfl rfl ?_
        refine G_aald (tn := 4) (fun _ => rfl) (by decide) dX10_makeFolder_41 (fun q9 => ?_)
        refine G_iload_n dX10_makeFolder_42 2 rfl rfl ?_
        refine G_iload_n dX10_makeFolder_43 3 rfl rfl ?_
        refine G_callV cf_X2 ok_X2_make [.int p2, .int p3] [] (con_X2_make κ M5 q9 p2 p3) rfl w_603 w_604 w_605 (Nat.le_of_ble_eq_true rfl) (Nat.le_of_ble_eq_true rfl) dX10_makeFolder_44 rfl (by simp) (fun _u M10 => (show G _ _ _ _ _ _ [] _ from ?_))
        refine G_iload_n dX10_makeFolder_47 3 rfl rfl ?_
        exact G_ret (v := p3) dX10_makeFolder_48 (fun h => by cases h) rfl
      · refine G_bipush (v := (-2)) dX10_makeFolder_30 (by decide) ?_
        exact G_ret (v := ((-2))) dX10_makeFolder_32 (fun h => by cases h) rfl
    · refine G_bipush (v := (-2)) dX10_makeFolder_18 (by decide) ?_
      exact G_ret (v := ((-2))) dX10_makeFolder_20 (fun h => by cases h) rfl
def m_X10_put (M : Mem) (this : Option Nat) (p1 : Int32) (p2 : Int32) (p3 : Int32) : Option (Int32 × Mem) :=
  dP M 10 0 this (fun (q1 : Option Nat) => rc M 1 q1 (cl (m_X1_folderAt M q1 p1) (fun (q3 : Option Nat) (M2 : Mem) => dP M2 10 0 this (fun (q4 : Option Nat) => rc M2 1 q4 (cl (m_X1_voucherAt M2 q4 p3) (fun (q6 : Option Nat) (M5 : Mem) => (if q3 = none then rt ((-1)) M5 else (if q6 = none then rt ((-1)) M5 else rc M5 2 q3 (cl (m_X2_hasPlace M5 q3 p2) (fun (x8 : Int32) (M7 : Mem) => (if x8 ≠ 0 then dI M7 9 0 q6 (fun (x9 : Int32) => rc M7 2 q3 (cl (m_X2_takes M7 q3 x9) (fun (x11 : Int32) (M10 : Mem) => (if x11 ≠ 0 then rc M10 2 q3 (cl (m_X2_fill M10 q3 p2 p3) (fun (_u : Unit) (M12 : Mem) => rc M12 2 q3 (cl (m_X2_filledPlaces M12 q3) (fun (x14 : Int32) (M13 : Mem) => rt x14 M13)))) else rt ((-6)) M10)))) else rt ((-1)) M7)))))))))))
abbrev md_X10_put : MD := (RX10, yX10_put, cX10_put, 6, Option.some Jvm.ClassFile.FieldType.int, 3, 65)
theorem ok_X10_put : MOk md_X10_put 3 := ⟨by decide +kernel, w_610, w_1, ⟨by decide +kernel, by decide +kernel⟩, by decide +kernel, rfl⟩
set_option maxRecDepth 100000 in
set_option maxHeartbeats 4000000 in
theorem con_X10_put (κ : Cfg) (M : Mem) (this : Option Nat) (p1 : Int32) (p2 : Int32) (p3 : Int32) : Con κ md_X10_put [rv κ this, .int p1, .int p2, .int p3] M cvI (m_X10_put M this p1 p2 p3) := by
  refine Con.of ok_X10_put (ret_I rfl) (by
    intro v hv
    simp only [List.mem_cons, List.not_mem_nil, or_false] at hv
    rcases hv with rfl | rfl | rfl | rfl <;> first | rfl | exact rv_cat _ _) (Nat.le_of_ble_eq_true rfl) ?_
  unfold m_X10_put
  refine G.sub (lv' := [(0, rv κ this), (1, .int p1), (2, .int p2), (3, .int p3)]) [0, 1, 2, 3] rfl ?_
  refine G_aload_n dX10_put_0 0 rfl rfl ?_
  refine G_getP cf_X10 (j := 0) rfl w_299 dX10_put_1 (fun q1 => ?_)
  refine G_iload_n dX10_put_4 1 rfl rfl ?_
  refine G_callV cf_X1 ok_X1_folderAt [.int p1] [] (con_X1_folderAt κ M q1 p1) rfl w_611 w_612 w_613 (Nat.le_of_ble_eq_true rfl) (Nat.le_of_ble_eq_true rfl) dX10_put_5 rfl (by simp) (fun q3 M2 => (show G _ _ _ _ _ _ [rv κ q3] _ from ?_))
  refine G_astore (lv' := [(4, rv κ q3), (0, rv κ this), (1, .int p1), (2, .int p2), (3, .int p3)]) dX10_put_8 (Nat.le_of_ble_eq_true rfl) rfl ?_
  refine G_aload_n dX10_put_10 1 rfl rfl ?_
  refine G_getP cf_X10 (j := 0) rfl w_299 dX10_put_11 (fun q4 => ?_)
  refine G_iload_n dX10_put_14 4 rfl rfl ?_
  refine G_callV cf_X1 ok_X1_voucherAt [.int p3] [] (con_X1_voucherAt κ M2 q4 p3) rfl w_591 w_592 w_593 (Nat.le_of_ble_eq_true rfl) (Nat.le_of_ble_eq_true rfl) dX10_put_15 rfl (by simp) (fun q6 M5 => (show G _ _ _ _ _ _ [rv κ q6] _ from ?_))
  refine G_astore (lv' := [(5, rv κ q6), (4, rv κ q3), (0, rv κ this), (1, .int p1), (2, .int p2), (3, .int p3)]) dX10_put_18 (Nat.le_of_ble_eq_true rfl) rfl ?_
  refine G_aload dX10_put_20 1 rfl ?_
  refine G_ifnull (tgt := 39) dX10_put_22 (by decide) ?_ ?_
  · refine G_iconst (v := (-1)) dX10_put_39 (by decide) ?_
    exact G_ret (v := ((-1))) dX10_put_40 (fun h => by cases h) rfl
  · refine G_aload dX10_put_25 0 rfl ?_
    refine G_ifnull (tgt := 39) dX10_put_27 (by decide) ?_ ?_
    · refine G_iconst (v := (-1)) dX10_put_39 (by decide) ?_
      exact G_ret (v := ((-1))) dX10_put_40 (fun h => by cases h) rfl
    · refine G_aload dX10_put_30 1 rfl ?_
      refine G_iload_n dX10_put_32 4 rfl rfl ?_
      refine G_callV cf_X2 ok_X2_hasPlace [.int p2] [] (con_X2_hasPlace κ M5 q3 p2) rfl w_619 w_620 w_621 (Nat.le_of_ble_eq_true rfl) (Nat.le_of_ble_eq_true rfl) dX10_put_33 rfl (by simp) (fun x8 M7 => (show G _ _ _ _ _ _ [.int x8] _ from ?_))
      refine G_if_ne (tgt := 41) dX10_put_36 (by decide) ?_ ?_
      · refine G_aload dX10_put_41 1 rfl ?_
        refine G_aload dX10_put_43 0 rfl ?_
        refine G_getI cf_X9 (j := 0) rfl w_114 dX10_put_45 (fun x9 => ?_)
        refine G_callV cf_X2 ok_X2_takes [.int x9] [] (con_X2_takes κ M7 q3 x9) rfl w_624 w_625 w_626 (Nat.le_of_ble_eq_true rfl) (Nat.le_of_ble_eq_true rfl) dX10_put_48 rfl (by simp) (fun x11 M10 => (show G _ _ _ _ _ _ [.int x11] _ from ?_))
        refine G_if_ne (tgt := 57) dX10_put_51 (by decide) ?_ ?_
        · refine G_aload dX10_put_57 1 rfl ?_
          refine G_iload_n dX10_put_59 4 rfl rfl ?_
          refine G_iload_n dX10_put_60 5 rfl rfl ?_
          refine G_callV cf_X2 ok_X2_fill [.int p2, .int p3] [] (con_X2_fill κ M10 q3 p2 p3) rfl w_628 w_629 w_630 (Nat.le_of_ble_eq_true rfl) (Nat.le_of_ble_eq_true rfl) dX10_put_61 rfl (by simp) (fun _u M12 => (show G _ _ _ _ _ _ [] _ from ?_))
          refine G_aload dX10_put_64 1 rfl ?_
          refine G_callV cf_X2 ok_X2_filledPlaces [] [] (con_X2_filledPlaces κ M12 q3) rfl w_633 w_634 w_635 (Nat.le_of_ble_eq_true rfl) (Nat.le_of_ble_eq_true rfl) dX10_put_66 rfl (by simp) (fun x14 M13 => (show G _ _ _ _ _ _ [.int x14] _ from ?_))
          exact G_ret (v := x14) dX10_put_69 (fun h => by cases h) rfl
        · refine G_bipush (v := (-6)) dX10_put_54 (by decide) ?_
          exact G_ret (v := ((-6))) dX10_put_56 (fun h => by cases h) rfl
      · refine G_iconst (v := (-1)) dX10_put_39 (by decide) ?_
        exact G_ret (v := ((-1))) dX10_put_40 (fun h => by cases h) rfl
def m_X10_inFolder (M : Mem) (this : Option Nat) (p1 : Int32) (p2 : Int32) : Option (Int32 × Mem) :=
  dP M 10 0 this (fun (q1 : Option Nat) => rc M 1 q1 (cl (m_X1_voucherInFolder M q1 p1 p2) (fun (x3 : Int32) (M2 : Mem) => rt x3 M2)))
abbrev md_X10_inFolder : MD := (RX10, yX10_inFolder, cX10_inFolder, 3, Option.some Jvm.ClassFile.FieldType.int, 4, 87)
theorem ok_X10_inFolder : MOk md_X10_inFolder 2 := ⟨by decide +kernel, w_640, w_1, ⟨by decide +kernel, by decide +kernel⟩, by decide +kernel, rfl⟩
set_option maxRecDepth 100000 in
set_option maxHeartbeats 4000000 in
theorem con_X10_inFolder (κ : Cfg) (M : Mem) (this : Option Nat) (p1 : Int32) (p2 : Int32) : Con κ md_X10_inFolder [rv κ this, .int p1, .int p2] M cvI (m_X10_inFolder M this p1 p2) := by
  refine Con.of ok_X10_inFolder (ret_I rfl) (by
    intro v hv
    simp only [List.mem_cons, List.not_mem_nil, or_false] at hv
    rcases hv with rfl | rfl | rfl <;> first | rfl | exact rv_cat _ _) (Nat.le_of_ble_eq_true rfl) ?_
  unfold m_X10_inFolder
  refine G.sub (lv' := [(0, rv κ this), (1, .int p1), (2, .int p2)]) [0, 1, 2] rfl ?_
  refine G_aload_n dX10_inFolder_0 0 rfl rfl ?_
  refine G_getP cf_X10 (j := 0) rfl w_299 dX10_inFolder_1 (fun q1 => ?_)
  refine G_iload_n dX10_inFolder_4 1 rfl rfl ?_
  refine G_iload_n dX10_inFolder_5 2 rfl rfl ?_
  refine G_callV cf_X1 ok_X1_voucherInFolder [.int p1, .int p2] [] (con_X1_voucherInFolder κ M q1 p1 p2) rfl w_641 w_642 w_643 (Nat.le_of_ble_eq_true rfl) (Nat.le_of_ble_eq_true rfl) dX10_inFolder_6 rfl (by simp) (fun x3 M2 => (show G _ _ _ _ _ _ [.int x3] _ from ?_))
  exact G_ret (v := x3) dX10_inFolder_9 (fun h => by cases h) rfl
def m_X10_enter (M : Mem) (this : Option Nat) (p1 : Int32) : Option (Int32 × Mem) :=
  dP M 10 0 this (fun (q1 : Option Nat) => rc M 1 q1 (cl (m_X1_planAt M q1 p1) (fun (q3 : Option Nat) (M2 : Mem) => (if q3 ≠ none then dP M2 10 0 this (fun (q4 : Option Nat) => rc M2 1 q4 (cl (m_X1_admitCar M2 q4 p1) (fun (x6 : Int32) (M5 : Mem) => rt x6 M5))) else rt ((-2)) M2))))
abbrev md_X10_enter : MD := (RX10, yX10_enter, cX10_enter, 2, Option.some Jvm.ClassFile.FieldType.int, 4, 87)
theorem ok_X10_enter : MOk md_X10_enter 1 := ⟨by decide +kernel, w_653, w_1, ⟨by decide +kernel, by decide +kernel⟩, by decide +kernel, rfl⟩
set_option maxRecDepth 100000 in
set_option maxHeartbeats 4000000 in
theorem con_X10_enter (κ : Cfg) (M : Mem) (this : Option Nat) (p1 : Int32) : Con κ md_X10_enter [rv κ this, .int p1] M cvI (m_X10_enter M this p1) := by
  refine Con.of ok_X10_enter (ret_I rfl) (by
    intro v hv
    simp only [List.mem_cons, List.not_mem_nil, or_false] at hv
    rcases hv with rfl | rfl <;> first | rfl | exact rv_cat _ _) (Nat.le_of_ble_eq_true rfl) ?_
  unfold m_X10_enter
  refine G.sub (lv' := [(0, rv κ this), (1, .int p1)]) [0, 1] rfl ?_
  refine G_aload_n dX10_enter_0 0 rfl rfl ?_
  refine G_getP cf_X10 (j := 0) rfl w_299 dX10_enter_1 (fun q1 => ?_)
  refine G_iload_n dX10_enter_4 1 rfl rfl ?_
  refine G_callV cf_X1 ok_X1_planAt [.int p1] [] (con_X1_planAt κ M q1 p1) rfl w_334 w_335 w_336 (Nat.le_of_ble_eq_true rfl) (Nat.le_of_ble_eq_true rfl) dX10_enter_5 rfl (by simp) (fun q3 M2 => (show G _ _ _ _ _ _ [rv κ q3] _ from ?_))
  refine G_ifnonnull (tgt := 14) dX10_enter_8 (by decide) ?_ ?_
  · refine G_aload_n dX10_enter_14 0 rfl rfl ?_
    refine G_getP cf_X10 (j := 0) rfl w_299 dX10_enter_15 (fun q4 => ?_)
    refine G_iload_n dX10_enter_18 1 rfl rfl ?_
    refine G_callV cf_X1 ok_X1_admitCar [.int p1] [] (con_X1_admitCar κ M2 q4 p1) rfl w_654 w_655 w_656 (Nat.le_of_ble_eq_true rfl) (Nat.le_of_ble_eq_true rfl) dX10_enter_19 rfl (by simp) (fun x6 M5 => (show G _ _ _ _ _ _ [.int x6] _ from ?_))
    exact G_ret (v := x6) dX10_enter_22 (fun h => by cases h) rfl
  · refine G_bipush (v := (-2)) dX10_enter_11 (by decide) ?_
    exact G_ret (v := ((-2))) dX10_enter_13 (fun h => by cases h) rfl
def m_X10_give (M : Mem) (this : Option Nat) (p1 : Int32) (p2 : Int32) (p3 : Int32) : Option (Int32 × Mem) :=
  dP M 10 0 this (fun (q1 : Option Nat) => rc M 1 q1 (cl (m_X1_ticketInside M q1 p1) (fun (q3 : Option Nat) (M2 : Mem) => dP M2 10 0 this (fun (q4 : Option Nat) => rc M2 1 q4 (cl (m_X1_voucherInFolder M2 q4 p2 p3) (fun (x6 : Int32) (M5 : Mem) => dP M5 10 0 this (fun (q7 : Option Nat) => rc M5 1 q7 (cl (m_X1_voucherAt M5 q7 x6) (fun (q9 : Option Nat) (M8 : Mem) => (if q3 = none then rt ((-1)) M8 else (if q9 ≠ none then dI M8 8 8 q3 (fun (x10 : Int32) => (if x10 = 0 then rc M8 8 q3 (cl (m_X8_hasRoomForVoucher M8 q3) (fun (x12 : Int32) (M11 : Mem) => (if x12 ≠ 0 then rc M11 8 q3 (cl (m_X8_addVoucherNumber M11 q3 x6) (fun (_u : Unit) (M13 : Mem) => dI M13 9 2 q9 (fun (x14 : Int32) => pI M13 9 2 q9 ((x14 + 1)) (fun (M15 : Mem) => dI M15 8 1 q3 (fun (x16 : Int32) => rt x16 M15))))) else rt ((-3)) M11))) else rt ((-4)) M8)) else rt ((-1)) M8)))))))))))
abbrev md_X10_give : MD := (RX10, yX10_give, cX10_give, 7, Option.some Jvm.ClassFile.FieldType.int, 4, 87)
theorem ok_X10_give : MOk md_X10_give 3 := ⟨by decide +kernel, w_695, w_1, ⟨by decide +kernel, by decide +kernel⟩, by decide +kernel, rfl⟩
set_option maxRecDepth 100000 in
set_option maxHeartbeats 4000000 in
theorem con_X10_give (κ : Cfg) (M : Mem) (this : Option Nat) (p1 : Int32) (p2 : Int32) (p3 : Int32) : Con κ md_X10_give [rv κ this, .int p1, .int p2, .int p3] M cvI (m_X10_give M this p1 p2 p3) := by
  refine Con.of ok_X10_give (ret_I rfl) (by
    intro v hv
    simp only [List.mem_cons, List.not_mem_nil, or_false] at hv
    rcases hv with rfl | rfl | rfl | rfl <;> first | rfl | exact rv_cat _ _) (Nat.le_of_ble_eq_true rfl) ?_
  unfold m_X10_give
  refine G.sub (lv' := [(0, rv κ this), (1, .int p1), (2, .int p2), (3, .int p3)]) [0, 1, 2, 3] rfl ?_
  refine G_aload_n dX10_give_0 0 rfl rfl ?_
  refine G_getP cf_X10 (j := 0) rfl w_299 dX10_give_1 (fun q1 => ?_)
  refine G_iload_n dX10_give_4 1 rfl rfl ?_
  refine G_callV cf_X1 ok_X1_ticketInside [.int p1] [] (con_X1_ticketInside κ M q1 p1) rfl w_696 w_697 w_698 (Nat.le_of_ble_eq_true rfl) (Nat.le_of_ble_eq_true rfl) dX10_give_5 rfl (by simp) (fun q3 M2 => (show G _ _ _ _ _ _ [rv κ q3] _ from ?_))
  refine G_astore (lv' := [(4, rv κ q3), (0, rv κ this), (1, .int p1), (2, .int p2), (3, .int p3)]) dX10_give_8 (Nat.le_of_ble_eq_true rfl) rfl ?_
  refine G_aload_n dX10_give_10 1 rfl rfl ?_
  refine G_getP cf_X10 (j := 0) rfl w_299 dX10_give_11 (fun q4 => ?_)
  refine G_iload_n dX10_give_14 3 rfl rfl ?_
  refine G_iload_n dX10_give_15 4 rfl rfl ?_
  refine G_callV cf_X1 ok_X1_voucherInFolder [.int p2, .int p3] [] (con_X1_voucherInFolder κ M2 q4 p2 p3) rfl w_641 w_642 w_643 (Nat.le_of_ble_eq_true rfl) (Nat.le_of_ble_eq_true rfl) dX10_give_16 rfl (by simp) (fun x6 M5 => (show G _ _ _ _ _ _ [.int x6] _ from ?_))
  refine G_istore (lv' := [(5, .int x6), (4, rv κ q3), (0, rv κ this), (1, .int p1), (2, .int p2), (3, .int p3)]) dX10_give_19 (Nat.le_of_ble_eq_true rfl) rfl ?_
  refine G_aload_n dX10_give_21 2 rfl rfl ?_
  refine G_getP cf_X10 (j := 0) rfl w_299 dX10_give_22 (fun q7 => ?_)
  refine G_iload dX10_give_25 0 rfl ?_
  refine G_callV cf_X1 ok_X1_voucherAt [.int x6] [] (con_X1_voucherAt κ M5 q7 x6) rfl w_591 w_592 w_593 (Nat.le_of_ble_eq_true rfl) (Nat.le_of_ble_eq_true rfl) dX10_give_27 rfl (by simp) (fun q9 M8 => (show G _ _ _ _ _ _ [rv κ q9] _ from ?_))
  refine G_astore (lv' := [(6, rv κ q9), (5, .int x6), (4, rv κ q3), (0, rv κ this), (1, .int p1), (2, .int p2), (3, .int p3)]) dX10_give_30 (Nat.le_of_ble_eq_true rfl) rfl ?_
  refine G_aload dX10_give_32 2 rfl ?_
  refine G_ifnull (tgt := 42) dX10_give_34 (by decide) ?_ ?_
  · refine G_iconst (v := (-1)) dX10_give_42 (by decide) ?_
    exact G_ret (v := ((-1))) dX10_give_43 (fun h => by cases h) rfl
  · refine G_aload dX10_give_37 0 rfl ?_
    refine G_ifnonnull (tgt := 44) dX10_give_39 (by decide) ?_ ?_
    · refine G_aload dX10_give_44 2 rfl ?_
      refine G_getI cf_X8 (j := 8) rfl w_189 dX10_give_46 (fun x10 => ?_)
      refine G_if_eq (tgt := 55) dX10_give_49 (by decide) ?_ ?_
      · refine G_aload dX10_give_55 2 rfl ?_
        refine G_callV cf_X8 ok_X8_hasRoomForVoucher [] [] (con_X8_hasRoomForVoucher κ M8 q3) rfl w_704 w_705 w_706 (Nat.le_of_ble_eq_true rfl) (Nat.le_of_ble_eq_true rfl) dX10_give_57 rfl (by simp) (fun x12 M11 => (show G _ _ _ _ _ _ [.int x12] _ from ?_))
        refine G_if_ne (tgt := 66) dX10_give_60 (by decide) ?_ ?_
        · refine G_aload dX10_give_66 2 rfl ?_
          refine G_iload dX10_give_68 1 rfl ?_
          refine G_callV cf_X8 ok_X8_addVoucherNumber [.int x6] [] (con_X8_addVoucherNumber κ M11 q3 x6) rfl w_708 w_709 w_710 (Nat.le_of_ble_eq_true rfl) (Nat.le_of_ble_eq_true rfl) dX10_give_70 rfl (by simp) (fun _u M13 => (show G _ _ _ _ _ _ [] _ from ?_))
          refine G_aload dX10_give_73 0 rfl ?_
          refine G_dup dX10_give_75 (rv_cat _ _) ?_
          refine G_getI cf_X9 (j := 2) rfl w_119 dX10_give_76 (fun x14 => ?_)
          refine G_iconst (v := 1) dX10_give_79 (by decide) ?_
          refine G_iadd dX10_give_80 ?_
          refine G_putI cf_X9 (j := 2) rfl rfl w_119 (Or.inl rfl) dX10_give_81 (fun M15 => ?_)
          refine G_aload dX10_give_84 2 rfl ?_
          refine G_getI cf_X8 (j := 1) rfl w_173 dX10_give_86 (fun x16 => ?_)
          exact G_ret (v := x16) dX10_give_89 (fun h => by cases h) rfl
        · refine G_bipush (v := (-3)) dX10_give_63 (by decide) ?_
          exact G_ret (v := ((-3))) dX10_give_65 (fun h => by cases h) rfl
      · refine G_bipush (v := (-4)) dX10_give_52 (by decide) ?_
        exact G_ret (v := ((-4))) dX10_give_54 (fun h => by cases h) rfl
    · refine G_iconst (v := (-1)) dX10_give_42 (by decide) ?_
      exact G_ret (v := ((-1))) dX10_give_43 (fun h => by cases h) rfl
def m_X10_lose (M : Mem) (this : Option Nat) (p1 : Int32) : Option (Int32 × Mem) :=
  dP M 10 0 this (fun (q1 : Option Nat) => rc M 1 q1 (cl (m_X1_ticketInside M q1 p1) (fun (q3 : Option Nat) (M2 : Mem) => (if q3 ≠ none then dI M2 8 8 q3 (fun (x4 : Int32) => (if x4 = 0 then pZ M2 8 8 q3 1 (fun (M5 : Mem) => dP M5 10 0 this (fun (q6 : Option Nat) => dP M5 10 0 this (fun (q7 : Option Nat) => dI M5 1 7 q7 (fun (x8 : Int32) => rc M5 1 q6 (cl (m_X1_dueAmount M5 q6 q3 x8) (fun (x10 : Int32) (M9 : Mem) => rt x10 M9)))))) else rt ((-4)) M2)) else rt ((-1)) M2))))
abbrev md_X10_lose : MD := (RX10, yX10_lose, cX10_lose, 3, Option.some Jvm.ClassFile.FieldType.int, 7, 162)
theorem ok_X10_lose : MOk md_X10_lose 1 := ⟨by decide +kernel, w_716, w_1, ⟨by decide +kernel, by decide +kernel⟩, by decide +kernel, rfl⟩
set_option maxRecDepth 100000 in
set_option maxHeartbeats 4000000 in
theorem con_X10_lose (κ : Cfg) (M : Mem) (this : Option Nat) (p1 : Int32) : Con κ md_X10_lose [rv κ this, .int p1] M cvI (m_X10_lose M this p1) := by
  refine Con.of ok_X10_lose (ret_I rfl) (by
    intro v hv
    simp only [List.mem_cons, List.not_mem_nil, or_false] at hv
    rcases hv with rfl | rfl <;> first | rfl | exact rv_cat _ _) (Nat.le_of_ble_eq_true rfl) ?_
  unfold m_X10_lose
  refine G.sub (lv' := [(0, rv κ this), (1, .int p1)]) [0, 1] rfl ?_
  refine G_aload_n dX10_lose_0 0 rfl rfl ?_
  refine G_getP cf_X10 (j := 0) rfl w_299 dX10_lose_1 (fun q1 => ?_)
  refine G_iload_n dX10_lose_4 1 rfl rfl ?_
  refine G_callV cf_X1 ok_X1_ticketInside [.int p1] [] (con_X1_ticketInside κ M q1 p1) rfl w_696 w_697 w_698 (Nat.le_of_ble_eq_true rfl) (Nat.le_of_ble_eq_true rfl) dX10_lose_5 rfl (by simp) (fun q3 M2 => (show G _ _ _ _ _ _ [rv κ q3] _ from ?_))
  refine G_astore_n (lv' := [(2, rv κ q3), (0, rv κ this), (1, .int p1)]) dX10_lose_8 rfl (Nat.le_of_ble_eq_true rfl) rfl ?_
  refine G_aload_n dX10_lose_9 0 rfl rfl ?_
  refine G_ifnonnull (tgt := 15) dX10_lose_10 (by decide) ?_ ?_
  · refine G_aload_n dX10_lose_15 0 rfl rfl ?_
    refine G_getI cf_X8 (j := 8) rfl w_189 dX10_lose_16 (fun x4 => ?_)
    refine G_if_eq (tgt := 25) dX10_lose_19 (by decide) ?_ ?_
    · refine G_aload_n dX10_lose_25 0 rfl rfl ?_
      refine G_iconst (v := 1) dX10_lose_26 (by decide) ?_
      refine G_putZ cf_X8 (j := 8) rfl rfl w_189 (Or.inl rfl) dX10_lose_27 (fun M5 => ?_)
      refine G_aload_n dX10_lose_30 1 rfl rfl ?_
      refine G_getP cf_X10 (j := 0) rfl w_299 dX10_lose_31 (fun q6 => ?_)
      refine G_aload_n dX10_lose_34 0 rfl rfl ?_
      refine G_aload_n dX10_lose_35 1 rfl rfl ?_
      refine G_getP cf_X10 (j := 0) rfl w_299 dX10_lose_36 (fun q7 => ?_)
      refine G_getI cf_X1 (j := 7) rfl w_220 dX10_lose_39 (fun x8 => ?_)
      refine G_callV cf_X1 ok_X1_dueAmount [rv κ q3, .int x8] [] (con_X1_dueAmount κ M5 q6 q3 x8) rfl w_717 w_718 w_719 (Nat.le_of_ble_eq_true rfl) (Nat.le_of_ble_eq_true rfl) dX10_lose_42 rfl (by simp) (fun x10 M9 => (show G _ _ _ _ _ _ [.int x10] _ from ?_))
      exact G_ret (v := x10) dX10_lose_45 (fun h => by cases h) rfl
    · refine G_bipush (v := (-4)) dX10_lose_22 (by decide) ?_
      exact G_ret (v := ((-4))) dX10_lose_24 (fun h => by cases h) rfl
  · refine G_iconst (v := (-1)) dX10_lose_13 (by decide) ?_
    exact G_ret (v := ((-1))) dX10_lose_14 (fun h => by cases h) rfl
def m_X10_due (M : Mem) (this : Option Nat) (p1 : Int32) (p2 : Int32) : Option (Int32 × Mem) :=
  dP M 10 0 this (fun (q1 : Option Nat) => rc M 1 q1 (cl (m_X1_ticketInside M q1 p1) (fun (q3 : Option Nat) (M2 : Mem) => (if q3 ≠ none then dP M2 10 0 this (fun (q4 : Option Nat) => dI M2 1 7 q4 (fun (x5 : Int32) => cl (m_X10_within M2 p2 x5 99999) (fun (x7 : Int32) (M6 : Mem) => (if x7 ≠ 0 then dP M6 10 0 this (fun (q8 : Option Nat) => rc M6 1 q8 (cl (m_X1_dueAmount M6 q8 q3 p2) (fun (x10 : Int32) (M9 : Mem) => rt x10 M9))) else rt ((-2)) M6)))) else rt ((-1)) M2))))
abbrev md_X10_due : MD := (RX10, yX10_due, cX10_due, 4, Option.some Jvm.ClassFile.FieldType.int, 7, 162)
theorem ok_X10_due : MOk md_X10_due 2 := ⟨by decide +kernel, w_755, w_1, ⟨by decide +kernel, by decide +kernel⟩, by decide +kernel, rfl⟩
set_option maxRecDepth 100000 in
set_option maxHeartbeats 4000000 in
theorem con_X10_due (κ : Cfg) (M : Mem) (this : Option Nat) (p1 : Int32) (p2 : Int32) : Con κ md_X10_due [rv κ this, .int p1, .int p2] M cvI (m_X10_due M this p1 p2) := by
  refine Con.of ok_X10_due (ret_I rfl) (by
    intro v hv
    simp only [List.mem_cons, List.not_mem_nil, or_false] at hv
    rcases hv with rfl | rfl | rfl <;> first | rfl | exact rv_cat _ _) (Nat.le_of_ble_eq_true rfl) ?_
  unfold m_X10_due
  refine G.sub (lv' := [(0, rv κ this), (1, .int p1), (2, .int p2)]) [0, 1, 2] rfl ?_
  refine G_aload_n dX10_due_0 0 rfl rfl ?_
  refine G_getP cf_X10 (j := 0) rfl w_299 dX10_due_1 (fun q1 => ?_)
  refine G_iload_n dX10_due_4 1 rfl rfl ?_
  refine G_callV cf_X1 ok_X1_ticketInside [.int p1] [] (con_X1_ticketInside κ M q1 p1) rfl w_696 w_697 w_698 (Nat.le_of_ble_eq_true rfl) (Nat.le_of_ble_eq_true rfl) dX10_due_5 rfl (by simp) (fun q3 M2 => (show G _ _ _ _ _ _ [rv κ q3] _ from ?_))
  refine G_astore_n (lv' := [(3, rv κ q3), (0, rv κ this), (1, .int p1), (2, .int p2)]) dX10_due_8 rfl (Nat.le_of_ble_eq_true rfl) rfl ?_
  refine G_aload_n dX10_due_9 0 rfl rfl ?_
  refine G_ifnonnull (tgt := 15) dX10_due_10 (by decide) ?_ ?_
  · refine G_iload_n dX10_due_15 3 rfl rfl ?_
    refine G_aload_n dX10_due_16 1 rfl rfl ?_
    refine G_getP cf_X10 (j := 0) rfl w_299 dX10_due_17 (fun q4 => ?_)
    refine G_getI cf_X1 (j := 7) rfl w_220 dX10_due_20 (fun x5 => ?_)
    refine G_ldc (v := 99999) dX10_due_23 w_498 ?_
    refine G_callS ok_X10_within [.int p2, .int x5, .int 99999] [] (con_X10_within κ M2 p2 x5 99999) rfl w_319 w_320 (Nat.le_of_ble_eq_true rfl) (Nat.le_of_ble_eq_true rfl) dX10_due_25 rfl (by simp) (fun x7 M6 => (show G _ _ _ _ _ _ [.int x7] _ from ?_))
    refine G_if_ne (tgt := 34) dX10_due_28 (by decide) ?_ ?_
    · refine G_aload_n dX10_due_34 1 rfl rfl ?_
      refine G_getP cf_X10 (j := 0) rfl w_299 dX10_due_35 (fun q8 => ?_)
      refine G_aload_n dX10_due_38 0 rfl rfl ?_
      refine G_iload_n dX10_due_39 3 rfl rfl ?_
      refine G_callV cf_X1 ok_X1_dueAmount [rv κ q3, .int p2] [] (con_X1_dueAmount κ M6 q8 q3 p2) rfl w_717 w_718 w_719 (Nat.le_of_ble_eq_true rfl) (Nat.le_of_ble_eq_true rfl) dX10_due_40 rfl (by simp) (fun x10 M9 => (show G _ _ _ _ _ _ [.int x10] _ from ?_))
      exact G_ret (v := x10) dX10_due_43 (fun h => by cases h) rfl
    · refine G_bipush (v := (-2)) dX10_due_31 (by decide) ?_
      exact G_ret (v := ((-2))) dX10_due_33 (fun h => by cases h) rfl
  · refine G_iconst (v := (-1)) dX10_due_13 (by decide) ?_
    exact G_ret (v := ((-1))) dX10_due_14 (fun h => by cases h) rfl
def m_X10_pay (M : Mem) (this : Option Nat) (p1 : Int32) : Option (Int32 × Mem) :=
  dP M 10 0 this (fun (q1 : Option Nat) => rc M 1 q1 (cl (m_X1_ticketInside M q1 p1) (fun (q3 : Option Nat) (M2 : Mem) => (if q3 ≠ none then dP M2 10 0 this (fun (q4 : Option Nat) => dP M2 10 0 this (fun (q5 : Option Nat) => dI M2 1 7 q5 (fun (x6 : Int32) => rc M2 1 q4 (cl (m_X1_dueAmount M2 q4 q3 x6) (fun (x8 : Int32) (M7 : Mem) => dP M7 10 0 this (fun (q9 : Option Nat) => dI M7 1 7 q9 (fun (x10 : Int32) => rc M7 8 q3 (cl (m_X8_takePayment M7 q3 x8 x10) (fun (_u : Unit) (M11 : Mem) => rt x8 M11))))))))) else rt ((-1)) M2))))
abbrev md_X10_pay : MD := (RX10, yX10_pay, cX10_pay, 4, Option.some Jvm.ClassFile.FieldType.int, 7, 162)
theorem ok_X10_pay : MOk md_X10_pay 1 := ⟨by decide +kernel, w_759, w_1, ⟨by decide +kernel, by decide +kernel⟩, by decide +kernel, rfl⟩
set_option maxRecDepth 100000 in
set_option maxHeartbeats 4000000 in
theorem con_X10_pay (κ : Cfg) (M : Mem) (this : Option Nat) (p1 : Int32) : Con κ md_X10_pay [rv κ this, .int p1] M cvI (m_X10_pay M this p1) := by
  refine Con.of ok_X10_pay (ret_I rfl) (by
    intro v hv
    simp only [List.mem_cons, List.not_mem_nil, or_false] at hv
    rcases hv with rfl | rfl <;> first | rfl | exact rv_cat _ _) (Nat.le_of_ble_eq_true rfl) ?_
  unfold m_X10_pay
  refine G.sub (lv' := [(0, rv κ this), (1, .int p1)]) [0, 1] rfl ?_
  refine G_aload_n dX10_pay_0 0 rfl rfl ?_
  refine G_getP cf_X10 (j := 0) rfl w_299 dX10_pay_1 (fun q1 => ?_)
  refine G_iload_n dX10_pay_4 1 rfl rfl ?_
  refine G_callV cf_X1 ok_X1_ticketInside [.int p1] [] (con_X1_ticketInside κ M q1 p1) rfl w_696 w_697 w_698 (Nat.le_of_ble_eq_true rfl) (Nat.le_of_ble_eq_true rfl) dX10_pay_5 rfl (by simp) (fun q3 M2 => (show G _ _ _ _ _ _ [rv κ q3] _ from ?_))
  refine G_astore_n (lv' := [(2, rv κ q3), (0, rv κ this), (1, .int p1)]) dX10_pay_8 rfl (Nat.le_of_ble_eq_true rfl) rfl ?_
  refine G_aload_n dX10_pay_9 0 rfl rfl ?_
  refine G_ifnonnull (tgt := 15) dX10_pay_10 (by decide) ?_ ?_
  · refine G_aload_n dX10_pay_15 1 rfl rfl ?_
    refine G_getP cf_X10 (j := 0) rfl w_299 dX10_pay_16 (fun q4 => ?_)
    refine G_aload_n dX10_pay_19 0 rfl rfl ?_
    refine G_aload_n dX10_pay_20 1 rfl rfl ?_
    refine G_getP cf_X10 (j := 0) rfl w_299 dX10_pay_21 (fun q5 => ?_)
    refine G_getI cf_X1 (j := 7) rfl w_220 dX10_pay_24 (fun x6 => ?_)
    refine G_callV cf_X1 ok_X1_dueAmount [rv κ q3, .int x6] [] (con_X1_dueAmount κ M2 q4 q3 x6) rfl w_717 w_718 w_719 (Nat.le_of_ble_eq_true rfl) (Nat.le_of_ble_eq_true rfl) dX10_pay_27 rfl (by simp) (fun x8 M7 => (show G _ _ _ _ _ _ [.int x8] _ from ?_))
    refine G_istore_n (lv' := [(3, .int x8), (2, rv κ q3), (0, rv κ this), (1, .int p1)]) dX10_pay_30 rfl (Nat.le_of_ble_eq_true rfl) rfl ?_
    refine G_aload_n dX10_pay_31 1 rfl rfl ?_
    refine G_iload_n dX10_pay_32 0 rfl rfl ?_
    refine G_aload_n dX10_pay_33 2 rfl rfl ?_
    refine G_getP cf_X10 (j := 0) rfl w_299 dX10_pay_34 (fun q9 => ?_)
    refine G_getI cf_X1 (j := 7) rfl w_220 dX10_pay_37 (fun x10 => ?_)
    refine G_callV cf_X8 ok_X8_takePayment [.int x8, .int x10] [] (con_X8_takePayment κ M7 q3 x8 x10) rfl w_760 w_761 w_762 (Nat.le_of_ble_eq_true rfl) (Nat.le_of_ble_eq_true rfl) dX10_pay_40 rfl (by simp) (fun _u M11 => (show G _ _ _ _ _ _ [] _ from ?_))
    refine G_iload_n dX10_pay_43 0 rfl rfl ?_
    exact G_ret (v := x8) dX10_pay_44 (fun h => by cases h) rfl
  · refine G_iconst (v := (-1)) dX10_pay_13 (by decide) ?_
    exact G_ret (v := ((-1))) dX10_pay_14 (fun h => by cases h) rfl
def m_X10_leave (M : Mem) (this : Option Nat) (p1 : Int32) : Option (Int32 × Mem) :=
  dP M 10 0 this (fun (q1 : Option Nat) => rc M 1 q1 (cl (m_X1_ticketInside M q1 p1) (fun (q3 : Option Nat) (M2 : Mem) => (if q3 ≠ none then dP M2 10 0 this (fun (q4 : Option Nat) => dI M2 1 7 q4 (fun (x5 : Int32) => rc M2 8 q3 (cl (m_X8_paidWithin M2 q3 15 x5) (fun (x7 : Int32) (M6 : Mem) => jn (fun (M9 : Mem) => dP M9 10 0 this (fun (q10 : Option Nat) => rc M9 1 q10 (cl (m_X1_releaseCar M9 q10 q3) (fun (_u : Unit) (M11 : Mem) => dI M11 8 5 q3 (fun (x12 : Int32) => rt x12 M11))))) (fun (J54_7 : Mem → Option (Int32 × Mem)) => (if x7 ≠ 0 then J54_7 M6 else dP M6 10 0 this (fun (q13 : Option Nat) => dP M6 10 0 this (fun (q14 : Option Nat) => dI M6 1 7 q14 (fun (x15 : Int32) => rc M6 1 q13 (cl (m_X1_dueAmount M6 q13 q3 x15) (fun (x17 : Int32) (M16 : Mem) => (if x17 ≤ 0 then J54_7 M16 else rt ((-7)) M16)))))))))))) else rt ((-1)) M2))))
abbrev md_X10_leave : MD := (RX10, yX10_leave, cX10_leave, 4, Option.some Jvm.ClassFile.FieldType.int, 7, 162)
theorem ok_X10_leave : MOk md_X10_leave 1 := ⟨by decide +kernel, w_767, w_1, ⟨by decide +kernel, by decide +kernel⟩, by decide +kernel, rfl⟩
set_option maxRecDepth 100000 in
set_option maxHeartbeats 4000000 in
theorem con_X10_leave (κ : Cfg) (M : Mem) (this : Option Nat) (p1 : Int32) : Con κ md_X10_leave [rv κ this, .int p1] M cvI (m_X10_leave M this p1) := by
  refine Con.of ok_X10_leave (ret_I rfl) (by
    intro v hv
    simp only [List.mem_cons, List.not_mem_nil, or_false] at hv
    rcases hv with rfl | rfl <;> first | rfl | exact rv_cat _ _) (Nat.le_of_ble_eq_true rfl) ?_
  unfold m_X10_leave
  refine G.sub (lv' := [(0, rv κ this), (1, .int p1)]) [0, 1] rfl ?_
  refine G_aload_n dX10_leave_0 0 rfl rfl ?_
  refine G_getP cf_X10 (j := 0) rfl w_299 dX10_leave_1 (fun q1 => ?_)
  refine G_iload_n dX10_leave_4 1 rfl rfl ?_
  refine G_callV cf_X1 ok_X1_ticketInside [.int p1] [] (con_X1_ticketInside κ M q1 p1) rfl w_696 w_697 w_698 (Nat.le_of_ble_eq_true rfl) (Nat.le_of_ble_eq_true rfl) dX10_leave_5 rfl (by simp) (fun q3 M2 => (show G _ _ _ _ _ _ [rv κ q3] _ from ?_))
  refine G_astore_n (lv' := [(2, rv κ q3), (0, rv κ this), (1, .int p1)]) dX10_leave_8 rfl (Nat.le_of_ble_eq_true rfl) rfl ?_
  refine G_aload_n dX10_leave_9 0 rfl rfl ?_
  refine G_ifnonnull (tgt := 15) dX10_leave_10 (by decide) ?_ ?_
  · refine G_aload_n dX10_leave_15 0 rfl rfl ?_
    refine G_bipush (v := 15) dX10_leave_16 (by decide) ?_
    refine G_aload_n dX10_leave_18 1 rfl rfl ?_
    refine G_getP cf_X10 (j := 0) rfl w_299 dX10_leave_19 (fun q4 => ?_)
    refine G_getI cf_X1 (j := 7) rfl w_220 dX10_leave_22 (fun x5 => ?_)
    refine G_callV cf_X8 ok_X8_paidWithin [.int 15, .int x5] [] (con_X8_paidWithin κ M2 q3 15 x5) rfl w_768 w_769 w_770 (Nat.le_of_ble_eq_true rfl) (Nat.le_of_ble_eq_true rfl) dX10_leave_25 rfl (by simp) (fun x7 M6 => (show G _ _ _ _ _ _ [.int x7] _ from ?_))
    refine G_istore_n (lv' := [(3, .int x7), (2, rv κ q3), (0, rv κ this), (1, .int p1)]) dX10_leave_28 rfl (Nat.le_of_ble_eq_true rfl) rfl ?_
    refine G_iload_n dX10_leave_29 0 rfl rfl ?_
    refine G.jn (P := (fun (J : Mem → Option (Int32 × Mem)) => ∀ (M9 : Mem), G κ md_X10_leave cvI (J M9) 54 [(0, rv κ this), (2, rv κ q3)] [] M9)) ?_ ?_
    · intro M9
      refine G_aload_n dX10_leave_54 0 rfl rfl ?_
      refine G_getP cf_X10 (j := 0) rfl w_299 dX10_leave_55 (fun q10 => ?_)
      refine G_aload_n dX10_leave_58 1 rfl rfl ?_
      refine G_callV cf_X1 ok_X1_releaseCar [rv κ q3] [] (con_X1_releaseCar κ M9 q10 q3) rfl w_772 w_773 w_774 (Nat.le_of_ble_eq_true rfl) (Nat.le_of_ble_eq_true rfl) dX10_leave_59 rfl (by simp) (fun _u M11 => (show G _ _ _ _ _ _ [] _ from ?_))
      refine G_aload_n dX10_leave_62 1 rfl rfl ?_
      refine G_getI cf_X8 (j := 5) rfl w_183 dX10_leave_63 (fun x12 => ?_)
      exact G_ret (v := x12) dX10_leave_66 (fun h => by cases h) rfl
    · intro J54_7 hJ54_7
      refine G_if_ne (tgt := 54) dX10_leave_30 (by decide) ?_ ?_
      · exact G.sub [2, 1] rfl (hJ54_7 _)
      · refine G_aload_n dX10_leave_33 2 rfl rfl ?_
        refine G_getP cf_X10 (j := 0) rfl w_299 dX10_leave_34 (fun q13 => ?_)
        refine G_aload_n dX10_leave_37 1 rfl rfl ?_
        refine G_aload_n dX10_leave_38 2 rfl rfl ?_
        refine G_getP cf_X10 (j := 0) rfl w_299 dX10_leave_39 (fun q14 => ?_)
        refine G_getI cf_X1 (j := 7) rfl w_220 dX10_leave_42 (fun x15 => ?_)
        refine G_callV cf_X1 ok_X1_dueAmount [rv κ q3, .int x15] [] (con_X1_dueAmount κ M6 q13 q3 x15) rfl w_717 w_718 w_719 (Nat.le_of_ble_eq_true rfl) (Nat.le_of_ble_eq_true rfl) dX10_leave_45 rfl (by simp) (fun x17 M16 => (show G _ _ _ _ _ _ [.int x17] _ from ?_))
        refine G_if_le (tgt := 54) dX10_leave_48 (by decide) ?_ ?_
        · exact G.sub [2, 1] rfl (hJ54_7 _)
        · refine G_bipush (v := (-7)) dX10_leave_51 (by decide) ?_
          exact G_ret (v := ((-7))) dX10_leave_53 (fun h => by cases h) rfl
  · refine G_iconst (v := (-1)) dX10_leave_13 (by decide) ?_
    exact G_ret (v := ((-1))) dX10_leave_14 (fun h => by cases h) rfl
def m_X10_ticket (M : Mem) (this : Option Nat) (p1 : Int32) (p2 : Int32) : Option (Int32 × Mem) :=
  dP M 10 0 this (fun (q1 : Option Nat) => rc M 1 q1 (cl (m_X1_ticketAt M q1 p1) (fun (q3 : Option Nat) (M2 : Mem) => (if q3 ≠ none then cl (m_X10_within M2 p2 0 7) (fun (x5 : Int32) (M4 : Mem) => (if x5 = 0 then rt ((-2)) M4 else rc M4 8 q3 (cl (m_X8_property M4 q3 p2) (fun (x7 : Int32) (M6 : Mem) => rt x7 M6)))) else rt ((-1)) M2))))
abbrev md_X10_ticket : MD := (RX10, yX10_ticket, cX10_ticket, 4, Option.some Jvm.ClassFile.FieldType.int, 2, 44)
theorem ok_X10_ticket : MOk md_X10_ticket 2 := ⟨by decide +kernel, w_783, w_1, ⟨by decide +kernel, by decide +kernel⟩, by decide +kernel, rfl⟩
set_option maxRecDepth 100000 in
set_option maxHeartbeats 4000000 in
theorem con_X10_ticket (κ : Cfg) (M : Mem) (this : Option Nat) (p1 : Int32) (p2 : Int32) : Con κ md_X10_ticket [rv κ this, .int p1, .int p2] M cvI (m_X10_ticket M this p1 p2) := by
  refine Con.of ok_X10_ticket (ret_I rfl) (by
    intro v hv
    simp only [List.mem_cons, List.not_mem_nil, or_false] at hv
    rcases hv with rfl | rfl | rfl <;> first | rfl | exact rv_cat _ _) (Nat.le_of_ble_eq_true rfl) ?_
  unfold m_X10_ticket
  refine G.sub (lv' := [(0, rv κ this), (1, .int p1), (2, .int p2)]) [0, 1, 2] rfl ?_
  refine G_aload_n dX10_ticket_0 0 rfl rfl ?_
  refine G_getP cf_X10 (j := 0) rfl w_299 dX10_ticket_1 (fun q1 => ?_)
  refine G_iload_n dX10_ticket_4 1 rfl rfl ?_
  refine G_callV cf_X1 ok_X1_ticketAt [.int p1] [] (con_X1_ticketAt κ M q1 p1) rfl w_784 w_701 w_702 (Nat.le_of_ble_eq_true rfl) (Nat.le_of_ble_eq_true rfl) dX10_ticket_5 rfl (by simp) (fun q3 M2 => (show G _ _ _ _ _ _ [rv κ q3] _ from ?_))
  refine G_astore_n (lv' := [(3, rv κ q3), (0, rv κ this), (1, .int p1), (2, .int p2)]) dX10_ticket_8 rfl (Nat.le_of_ble_eq_true rfl) rfl ?_
  refine G_aload_n dX10_ticket_9 0 rfl rfl ?_
  refine G_ifnonnull (tgt := 15) dX10_ticket_10 (by decide) ?_ ?_
  · refine G_iload_n dX10_ticket_15 3 rfl rfl ?_
    refine G_iconst (v := 0) dX10_ticket_16 (by decide) ?_
    refine G_bipush (v := 7) dX10_ticket_17 (by decide) ?_
    refine G_callS ok_X10_within [.int p2, .int 0, .int 7] [] (con_X10_within κ M2 p2 0 7) rfl w_319 w_320 (Nat.le_of_ble_eq_true rfl) (Nat.le_of_ble_eq_true rfl) dX10_ticket_19 rfl (by simp) (fun x5 M4 => (show G _ _ _ _ _ _ [.int x5] _ from ?_))
    refine G_if_eq (tgt := 33) dX10_ticket_22 (by decide) ?_ ?_
    · refine G_bipush (v := (-2)) dX10_ticket_33 (by decide) ?_
      exact G_ret (v := ((-2))) dX10_ticket_35 (fun h => by cases h) rfl
    · refine G_aload_n dX10_ticket_25 0 rfl rfl ?_
      refine G_iload_n dX10_ticket_26 3 rfl rfl ?_
      refine G_callV cf_X8 ok_X8_property [.int p2] [] (con_X8_property κ M4 q3 p2) rfl w_785 w_786 w_787 (Nat.le_of_ble_eq_true rfl) (Nat.le_of_ble_eq_true rfl) dX10_ticket_27 rfl (by simp) (fun x7 M6 => (show G _ _ _ _ _ _ [.int x7] _ from ?_))
      refine G_goto (tgt := 35) dX10_ticket_30 (by decide) ?_
      exact G_ret (v := x7) dX10_ticket_35 (fun h => by cases h) rfl
  · refine G_iconst (v := (-1)) dX10_ticket_13 (by decide) ?_
    exact G_ret (v := ((-1))) dX10_ticket_14 (fun h => by cases h) rfl
def m_X10_step (M : Mem) (this : Option Nat) (p1 : Int32) (p2 : Int32) : Option (Int32 × Mem) :=
  dP M 10 0 this (fun (q1 : Option Nat) => rc M 1 q1 (cl (m_X1_ticketInside M q1 p1) (fun (q3 : Option Nat) (M2 : Mem) => (if q3 = none then rt ((-1)) M2 else dP M2 10 0 this (fun (q4 : Option Nat) => rc M2 1 q4 (cl (m_X1_lastStep M2 q4 q3) (fun (x6 : Int32) (M5 : Mem) => cl (m_X10_within M5 p2 0 x6) (fun (x8 : Int32) (M7 : Mem) => (if x8 ≠ 0 then dI M7 8 8 q3 (fun (x9 : Int32) => (if x9 = 0 then dP M7 10 0 this (fun (q10 : Option Nat) => dP M7 10 0 this (fun (q11 : Option Nat) => dI M7 1 7 q11 (fun (x12 : Int32) => rc M7 1 q10 (cl (m_X1_amountAfter M7 q10 q3 x12 p2) (fun (x14 : Int32) (M13 : Mem) => rt x14 M13))))) else rt ((-4)) M7)) else rt ((-1)) M7)))))))))
abbrev md_X10_step : MD := (RX10, yX10_step, cX10_step, 4, Option.some Jvm.ClassFile.FieldType.int, 6, 139)
theorem ok_X10_step : MOk md_X10_step 2 := ⟨by decide +kernel, w_792, w_1, ⟨by decide +kernel, by decide +kernel⟩, by decide +kernel, rfl⟩
set_option maxRecDepth 100000 in
set_option maxHeartbeats 4000000 in
theorem con_X10_step (κ : Cfg) (M : Mem) (this : Option Nat) (p1 : Int32) (p2 : Int32) : Con κ md_X10_step [rv κ this, .int p1, .int p2] M cvI (m_X10_step M this p1 p2) := by
  refine Con.of ok_X10_step (ret_I rfl) (by
    intro v hv
    simp only [List.mem_cons, List.not_mem_nil, or_false] at hv
    rcases hv with rfl | rfl | rfl <;> first | rfl | exact rv_cat _ _) (Nat.le_of_ble_eq_true rfl) ?_
  unfold m_X10_step
  refine G.sub (lv' := [(0, rv κ this), (1, .int p1), (2, .int p2)]) [0, 1, 2] rfl ?_
  refine G_aload_n dX10_step_0 0 rfl rfl ?_
  refine G_getP cf_X10 (j := 0) rfl w_299 dX10_step_1 (fun q1 => ?_)
  refine G_iload_n dX10_step_4 1 rfl rfl ?_
  refine G_callV cf_X1 ok_X1_ticketInside [.int p1] [] (con_X1_ticketInside κ M q1 p1) rfl w_696 w_697 w_698 (Nat.le_of_ble_eq_true rfl) (Nat.le_of_ble_eq_true rfl) dX10_step_5 rfl (by simp) (fun q3 M2 => (show G _ _ _ _ _ _ [rv κ q3] _ from ?_))
  refine G_astore_n (lv' := [(3, rv κ q3), (0, rv κ this), (1, .int p1), (2, .int p2)]) dX10_step_8 rfl (Nat.le_of_ble_eq_true rfl) rfl ?_
  refine G_aload_n dX10_step_9 0 rfl rfl ?_
  refine G_ifnull (tgt := 29) dX10_step_10 (by decide) ?_ ?_
  · refine G_iconst (v := (-1)) dX10_step_29 (by decide) ?_
    exact G_ret (v := ((-1))) dX10_step_30 (fun h => by cases h) rfl
  · refine G_iload_n dX10_step_13 3 rfl rfl ?_
    refine G_iconst (v := 0) dX10_step_14 (by decide) ?_
    refine G_aload_n dX10_step_15 1 rfl rfl ?_
    refine G_getP cf_X10 (j := 0) rfl w_299 dX10_step_16 (fun q4 => ?_)
    refine G_aload_n dX10_step_19 0 rfl rfl ?_
    refine G_callV cf_X1 ok_X1_lastStep [rv κ q3] [.int 0, .int p2] (con_X1_lastStep κ M2 q4 q3) rfl w_793 w_794 w_795 (Nat.le_of_ble_eq_true rfl) (Nat.le_of_ble_eq_true rfl) dX10_step_20 rfl (by simp) (fun x6 M5 => (show G _ _ _ _ _ _ [.int x6, .int 0, .int p2] _ from ?_))
    refine G_callS ok_X10_within [.int p2, .int 0, .int x6] [] (con_X10_within κ M5 p2 0 x6) rfl w_319 w_320 (Nat.le_of_ble_eq_true rfl) (Nat.le_of_ble_eq_true rfl) dX10_step_23 rfl (by simp) (fun x8 M7 => (show G _ _ _ _ _ _ [.int x8] _ from ?_))
    refine G_if_ne (tgt := 31) dX10_step_26 (by decide) ?_ ?_
    · refine G_aload_n dX10_step_31 0 rfl rfl ?_
      refine G_getI cf_X8 (j := 8) rfl w_189 dX10_step_32 (fun x9 => ?_)
      refine G_if_eq (tgt := 43) dX10_step_35 (by decide) ?_ ?_
      · refine G_aload_n dX10_step_43 1 rfl rfl ?_
        refine G_getP cf_X10 (j := 0) rfl w_299 dX10_step_44 (fun q10 => ?_)
        refine G_aload_n dX10_step_47 0 rfl rfl ?_
        refine G_aload_n dX10_step_48 1 rfl rfl ?_
        refine G_getP cf_X10 (j := 0) rfl w_299 dX10_step_49 (fun q11 => ?_)
        refine G_getI cf_X1 (j := 7) rfl w_220 dX10_step_52 (fun x12 => ?_)
        refine G_iload_n dX10_step_55 3 rfl rfl ?_
        refine G_callV cf_X1 ok_X1_amountAfter [rv κ q3, .int x12, .int p2] [] (con_X1_amountAfter κ M7 q10 q3 x12 p2) rfl w_797 w_729 w_730 (Nat.le_of_ble_eq_true rfl) (Nat.le_of_ble_eq_true rfl) dX10_step_56 rfl (by simp) (fun x14 M13 => (show G _ _ _ _ _ _ [.int x14] _ from ?_))
        exact G_ret (v := x14) dX10_step_59 (fun h => by cases h) rfl
      · refine G_bipush (v := (-4)) dX10_step_38 (by decide) ?_
        refine G_goto (tgt := 59) dX10_step_40 (by decide) ?_
        exact G_ret (v := ((-4))) dX10_step_59 (fun h => by cases h) rfl
    · refine G_iconst (v := (-1)) dX10_step_29 (by decide) ?_
      exact G_ret (v := ((-1))) dX10_step_30 (fun h => by cases h) rfl
def m_X10_advance (M : Mem) (this : Option Nat) (p1 : Int32) : Option (Int32 × Mem) :=
  cl (m_X10_within M p1 1 3000) (fun (x2 : Int32) (M1 : Mem) => (if x2 ≠ 0 then dP M1 10 0 this (fun (q3 : Option Nat) => dI M1 1 7 q3 (fun (x4 : Int32) => (if (x4 + p1) ≤ 99999 then dP M1 10 0 this (fun (q5 : Option Nat) => rc M1 1 q5 (cl (m_X1_moveClock M1 q5 p1) (fun (_u : Unit) (M6 : Mem) => dP M6 10 0 this (fun (q7 : Option Nat) => dI M6 1 7 q7 (fun (x8 : Int32) => rt x8 M6))))) else rt ((-3)) M1))) else rt ((-2)) M1))
abbrev md_X10_advance : MD := (RX10, yX10_advance, cX10_advance, 2, Option.some Jvm.ClassFile.FieldType.int, 2, 47)
theorem ok_X10_advance : MOk md_X10_advance 1 := ⟨by decide +kernel, w_801, w_1, ⟨by decide +kernel, by decide +kernel⟩, by decide +kernel, rfl⟩
set_option maxRecDepth 100000 in
set_option maxHeartbeats 4000000 in
theorem con_X10_advance (κ : Cfg) (M : Mem) (this : Option Nat) (p1 : Int32) : Con κ md_X10_advance [rv κ this, .int p1] M cvI (m_X10_advance M this p1) := by
  refine Con.of ok_X10_advance (ret_I rfl) (by
    intro v hv
    simp only [List.mem_cons, List.not_mem_nil, or_false] at hv
    rcases hv with rfl | rfl <;> first | rfl | exact rv_cat _ _) (Nat.le_of_ble_eq_true rfl) ?_
  unfold m_X10_advance
  refine G.sub (lv' := [(0, rv κ this), (1, .int p1)]) [0, 1] rfl ?_
  refine G_iload_n dX10_advance_0 1 rfl rfl ?_
  refine G_iconst (v := 1) dX10_advance_1 (by decide) ?_
  refine G_sipush (v := 3000) dX10_advance_2 (by decide) ?_
  refine G_callS ok_X10_within [.int p1, .int 1, .int 3000] [] (con_X10_within κ M p1 1 3000) rfl w_319 w_320 (Nat.le_of_ble_eq_true rfl) (Nat.le_of_ble_eq_true rfl) dX10_advance_5 rfl (by simp) (fun x2 M1 => (show G _ _ _ _ _ _ [.int x2] _ from ?_))
  refine G_if_ne (tgt := 14) dX10_advance_8 (by decide) ?_ ?_
  · refine G_aload_n dX10_advance_14 0 rfl rfl ?_
    refine G_getP cf_X10 (j := 0) rfl w_299 dX10_advance_15 (fun q3 => ?_)
    refine G_getI cf_X1 (j := 7) rfl w_220 dX10_advance_18 (fun x4 => ?_)
    refine G_iload_n dX10_advance_21 1 rfl rfl ?_
    refine G_iadd dX10_advance_22 ?_
    refine G_ldc (v := 99999) dX10_advance_23 w_498 ?_
    refine G_icmp_le (tgt := 31) dX10_advance_25 (by decide) ?_ ?_
    · refine G_aload_n dX10_advance_31 0 rfl rfl ?_
      refine G_getP cf_X10 (j := 0) rfl w_299 dX10_advance_32 (fun q5 => ?_)
      refine G_iload_n dX10_advance_35 1 rfl rfl ?_
      refine G_callV cf_X1 ok_X1_moveClock [.int p1] [] (con_X1_moveClock κ M1 q5 p1) rfl w_802 w_803 w_804 (Nat.le_of_ble_eq_true rfl) (Nat.le_of_ble_eq_true rfl) dX10_advance_36 rfl (by simp) (fun _u M6 => (show G _ _ _ _ _ _ [] _ from ?_))
      refine G_aload_n dX10_advance_39 0 rfl rfl ?_
      refine G_getP cf_X10 (j := 0) rfl w_299 dX10_advance_40 (fun q7 => ?_)
      refine G_getI cf_X1 (j := 7) rfl w_220 dX10_advance_43 (fun x8 => ?_)
      exact G_ret (v := x8) dX10_advance_46 (fun h => by cases h) rfl
    · refine G_bipush (v := (-3)) dX10_advance_28 (by decide) ?_
      exact G_ret (v := ((-3))) dX10_advance_30 (fun h => by cases h) rfl
  · refine G_bipush (v := (-2)) dX10_advance_11 (by decide) ?_
    exact G_ret (v := ((-2))) dX10_advance_13 (fun h => by cases h) rfl
def m_X10_setCapacity (M : Mem) (this : Option Nat) (p1 : Int32) (p2 : Int32) : Option (Int32 × Mem) :=
  dP M 10 0 this (fun (q1 : Option Nat) => rc M 1 q1 (cl (m_X1_levelAt M q1 p1) (fun (q3 : Option Nat) (M2 : Mem) => (if q3 = none then rt ((-2)) M2 else cl (m_X10_within M2 p2 0 40) (fun (x5 : Int32) (M4 : Mem) => (if x5 ≠ 0 then dI M4 3 1 q3 (fun (x6 : Int32) => (if x6 ≤ p2 then dI M4 3 0 q3 (fun (x7 : Int32) => pI M4 3 0 q3 p2 (fun (M8 : Mem) => rt x7 M8)) else rt ((-3)) M4)) else rt ((-2)) M4))))))
abbrev md_X10_setCapacity : MD := (RX10, yX10_setCapacity, cX10_setCapacity, 5, Option.some Jvm.ClassFile.FieldType.int, 2, 43)
theorem ok_X10_setCapacity : MOk md_X10_setCapacity 2 := ⟨by decide +kernel, w_815, w_1, ⟨by decide +kernel, by decide +kernel⟩, by decide +kernel, rfl⟩
set_option maxRecDepth 100000 in
set_option maxHeartbeats 4000000 in
theorem con_X10_setCapacity (κ : Cfg) (M : Mem) (this : Option Nat) (p1 : Int32) (p2 : Int32) : Con κ md_X10_setCapacity [rv κ this, .int p1, .int p2] M cvI (m_X10_setCapacity M this p1 p2) := by
  refine Con.of ok_X10_setCapacity (ret_I rfl) (by
    intro v hv
    simp only [List.mem_cons, List.not_mem_nil, or_false] at hv
    rcases hv with rfl | rfl | rfl <;> first | rfl | exact rv_cat _ _) (Nat.le_of_ble_eq_true rfl) ?_
  unfold m_X10_setCapacity
  refine G.sub (lv' := [(0, rv κ this), (1, .int p1), (2, .int p2)]) [0, 1, 2] rfl ?_
  refine G_aload_n dX10_setCapacity_0 0 rfl rfl ?_
  refine G_getP cf_X10 (j := 0) rfl w_299 dX10_setCapacity_1 (fun q1 => ?_)
  refine G_iload_n dX10_setCapacity_4 1 rfl rfl ?_
  refine G_callV cf_X1 ok_X1_levelAt [.int p1] [] (con_X1_levelAt κ M q1 p1) rfl w_816 w_673 w_674 (Nat.le_of_ble_eq_true rfl) (Nat.le_of_ble_eq_true rfl) dX10_setCapacity_5 rfl (by simp) (fun q3 M2 => (show G _ _ _ _ _ _ [rv κ q3] _ from ?_))
  refine G_astore_n (lv' := [(3, rv κ q3), (0, rv κ this), (1, .int p1), (2, .int p2)]) dX10_setCapacity_8 rfl (Nat.le_of_ble_eq_true rfl) rfl ?_
  refine G_aload_n dX10_setCapacity_9 0 rfl rfl ?_
  refine G_ifnull (tgt := 23) dX10_setCapacity_10 (by decide) ?_ ?_
  · refine G_bipush (v := (-2)) dX10_setCapacity_23 (by decide) ?_
    exact G_ret (v := ((-2))) dX10_setCapacity_25 (fun h => by cases h) rfl
  · refine G_iload_n dX10_setCapacity_13 3 rfl rfl ?_
    refine G_iconst (v := 0) dX10_setCapacity_14 (by decide) ?_
    refine G_bipush (v := 40) dX10_setCapacity_15 (by decide) ?_
    refine G_callS ok_X10_within [.int p2, .int 0, .int 40] [] (con_X10_within κ M2 p2 0 40) rfl w_319 w_320 (Nat.le_of_ble_eq_true rfl) (Nat.le_of_ble_eq_true rfl) dX10_setCapacity_17 rfl (by simp) (fun x5 M4 => (show G _ _ _ _ _ _ [.int x5] _ from ?_))
    refine G_if_ne (tgt := 26) dX10_setCapacity_20 (by decide) ?_ ?_
    · refine G_aload_n dX10_setCapacity_26 0 rfl rfl ?_
      refine G_getI cf_X3 (j := 1) rfl w_151 dX10_setCapacity_27 (fun x6 => ?_)
      refine G_iload_n dX10_setCapacity_30 3 rfl rfl ?_
      refine G_icmp_le (tgt := 37) dX10_setCapacity_31 (by decide) ?_ ?_
      · refine G_aload_n dX10_setCapacity_37 0 rfl rfl ?_
        refine G_getI cf_X3 (j := 0) rfl w_149 dX10_setCapacity_38 (fun x7 => ?_)
        refine G_istore (lv' := [(4, .int x7), (3, rv κ q3), (0, rv κ this), (1, .int p1), (2, .int p2)]) dX10_setCapacity_41 (Nat.le_of_ble_eq_true rfl) rfl ?_
        refine G_aload_n dX10_setCapacity_43 1 rfl rfl ?_
        refine G_iload_n dX10_setCapacity_44 4 rfl rfl ?_
        refine G_putI cf_X3 (j := 0) rfl rfl w_149 (Or.inl rfl) dX10_setCapacity_45 (fun M8 => ?_)
        refine G_iload dX10_setCapacity_48 0 rfl ?_
        exact G_ret (v := x7) dX10_setCapacity_50 (fun h => by cases h) rfl
      · refine G_bipush (v := (-3)) dX10_setCapacity_34 (by decide) ?_
        exact G_ret (v := ((-3))) dX10_setCapacity_36 (fun h => by cases h) rfl
    · refine G_bipush (v := (-2)) dX10_setCapacity_23 (by decide) ?_
      exact G_ret (v := ((-2))) dX10_setCapacity_25 (fun h => by cases h) rfl
def m_X10_level (M : Mem) (this : Option Nat) (p1 : Int32) (p2 : Int32) : Option (Int32 × Mem) :=
  dP M 10 0 this (fun (q1 : Option Nat) => rc M 1 q1 (cl (m_X1_levelAt M q1 p1) (fun (q3 : Option Nat) (M2 : Mem) => (if q3 = none then rt ((-2)) M2 else cl (m_X10_within M2 p2 0 5) (fun (x5 : Int32) (M4 : Mem) => (if x5 ≠ 0 then rc M4 3 q3 (cl (m_X3_property M4 q3 p2) (fun (x7 : Int32) (M6 : Mem) => rt x7 M6)) else rt ((-2)) M4))))))
abbrev md_X10_level : MD := (RX10, yX10_level, cX10_level, 4, Option.some Jvm.ClassFile.FieldType.int, 3, 61)
theorem ok_X10_level : MOk md_X10_level 2 := ⟨by decide +kernel, w_820, w_1, ⟨by decide +kernel, by decide +kernel⟩, by decide +kernel, rfl⟩
set_option maxRecDepth 100000 in
set_option maxHeartbeats 4000000 in
theorem con_X10_level (κ : Cfg) (M : Mem) (this : Option Nat) (p1 : Int32) (p2 : Int32) : Con κ md_X10_level [rv κ this, .int p1, .int p2] M cvI (m_X10_level M this p1 p2) := by
  refine Con.of ok_X10_level (ret_I rfl) (by
    intro v hv
    simp only [List.mem_cons, List.not_mem_nil, or_false] at hv
    rcases hv with rfl | rfl | rfl <;> first | rfl | exact rv_cat _ _) (Nat.le_of_ble_eq_true rfl) ?_
  unfold m_X10_level
  refine G.sub (lv' := [(0, rv κ this), (1, .int p1), (2, .int p2)]) [0, 1, 2] rfl ?_
  refine G_aload_n dX10_level_0 0 rfl rfl ?_
  refine G_getP cf_X10 (j := 0) rfl w_299 dX10_level_1 (fun q1 => ?_)
  refine G_iload_n dX10_level_4 1 rfl rfl ?_
  refine G_callV cf_X1 ok_X1_levelAt [.int p1] [] (con_X1_levelAt κ M q1 p1) rfl w_816 w_673 w_674 (Nat.le_of_ble_eq_true rfl) (Nat.le_of_ble_eq_true rfl) dX10_level_5 rfl (by simp) (fun q3 M2 => (show G _ _ _ _ _ _ [rv κ q3] _ from ?_))
  refine G_astore_n (lv' := [(3, rv κ q3), (0, rv κ this), (1, .int p1), (2, .int p2)]) dX10_level_8 rfl (Nat.le_of_ble_eq_true rfl) rfl ?_
  refine G_aload_n dX10_level_9 0 rfl rfl ?_
  refine G_ifnull (tgt := 22) dX10_level_10 (by decide) ?_ ?_
  · refine G_bipush (v := (-2)) dX10_level_22 (by decide) ?_
    exact G_ret (v := ((-2))) dX10_level_24 (fun h => by cases h) rfl
  · refine G_iload_n dX10_level_13 3 rfl rfl ?_
    refine G_iconst (v := 0) dX10_level_14 (by decide) ?_
    refine G_iconst (v := 5) dX10_level_15 (by decide) ?_
    refine G_callS ok_X10_within [.int p2, .int 0, .int 5] [] (con_X10_within κ M2 p2 0 5) rfl w_319 w_320 (Nat.le_of_ble_eq_true rfl) (Nat.le_of_ble_eq_true rfl) dX10_level_16 rfl (by simp) (fun x5 M4 => (show G _ _ _ _ _ _ [.int x5] _ from ?_))
    refine G_if_ne (tgt := 25) dX10_level_19 (by decide) ?_ ?_
    · refine G_aload_n dX10_level_25 0 rfl rfl ?_
      refine G_iload_n dX10_level_26 3 rfl rfl ?_
      refine G_callV cf_X3 ok_X3_property [.int p2] [] (con_X3_property κ M4 q3 p2) rfl w_821 w_822 w_823 (Nat.le_of_ble_eq_true rfl) (Nat.le_of_ble_eq_true rfl) dX10_level_27 rfl (by simp) (fun x7 M6 => (show G _ _ _ _ _ _ [.int x7] _ from ?_))
      exact G_ret (v := x7) dX10_level_30 (fun h => by cases h) rfl
    · refine G_bipush (v := (-2)) dX10_level_22 (by decide) ?_
      exact G_ret (v := ((-2))) dX10_level_24 (fun h => by cases h) rfl
def m_X10_forecast (M : Mem) (this : Option Nat) (p1 : Int32) (p2 : Int32) : Option (Int32 × Mem) :=
  dP M 10 0 this (fun (q1 : Option Nat) => rc M 1 q1 (cl (m_X1_levelAt M q1 p1) (fun (q3 : Option Nat) (M2 : Mem) => (if q3 = none then rt ((-2)) M2 else cl (m_X10_within M2 p2 0 600) (fun (x5 : Int32) (M4 : Mem) => (if x5 ≠ 0 then rc M4 3 q3 (cl (m_X3_carsAfter M4 q3 p2) (fun (x7 : Int32) (M6 : Mem) => rt x7 M6)) else rt ((-2)) M4))))))
abbrev md_X10_forecast : MD := (RX10, yX10_forecast, cX10_forecast, 4, Option.some Jvm.ClassFile.FieldType.int, 2, 43)
theorem ok_X10_forecast : MOk md_X10_forecast 2 := ⟨by decide +kernel, w_834, w_1, ⟨by decide +kernel, by decide +kernel⟩, by decide +kernel, rfl⟩
set_option maxRecDepth 100000 in
set_option maxHeartbeats 4000000 in
theorem con_X10_forecast (κ : Cfg) (M : Mem) (this : Option Nat) (p1 : Int32) (p2 : Int32) : Con κ md_X10_forecast [rv κ this, .int p1, .int p2] M cvI (m_X10_forecast M this p1 p2) := by
  refine Con.of ok_X10_forecast (ret_I rfl) (by
    intro v hv
    simp only [List.mem_cons, List.not_mem_nil, or_false] at hv
    rcases hv with rfl | rfl | rfl <;> first | rfl | exact rv_cat _ _) (Nat.le_of_ble_eq_true rfl) ?_
  unfold m_X10_forecast
  refine G.sub (lv' := [(0, rv κ this), (1, .int p1), (2, .int p2)]) [0, 1, 2] rfl ?_
  refine G_aload_n dX10_forecast_0 0 rfl rfl ?_
  refine G_getP cf_X10 (j := 0) rfl w_299 dX10_forecast_1 (fun q1 => ?_)
  refine G_iload_n dX10_forecast_4 1 rfl rfl ?_
  refine G_callV cf_X1 ok_X1_levelAt [.int p1] [] (con_X1_levelAt κ M q1 p1) rfl w_816 w_673 w_674 (Nat.le_of_ble_eq_true rfl) (Nat.le_of_ble_eq_true rfl) dX10_forecast_5 rfl (by simp) (fun q3 M2 => (show G _ _ _ _ _ _ [rv κ q3] _ from ?_))
  refine G_astore_n (lv' := [(3, rv κ q3), (0, rv κ this), (1, .int p1), (2, .int p2)]) dX10_forecast_8 rfl (Nat.le_of_ble_eq_true rfl) rfl ?_
  refine G_aload_n dX10_forecast_9 0 rfl rfl ?_
  refine G_ifnull (tgt := 24) dX10_forecast_10 (by decide) ?_ ?_
  · refine G_bipush (v := (-2)) dX10_forecast_24 (by decide) ?_
    exact G_ret (v := ((-2))) dX10_forecast_26 (fun h => by cases h) rfl
  · refine G_iload_n dX10_forecast_13 3 rfl rfl ?_
    refine G_iconst (v := 0) dX10_forecast_14 (by decide) ?_
    refine G_sipush (v := 600) dX10_forecast_15 (by decide) ?_
    refine G_callS ok_X10_within [.int p2, .int 0, .int 600] [] (con_X10_within κ M2 p2 0 600) rfl w_319 w_320 (Nat.le_of_ble_eq_true rfl) (Nat.le_of_ble_eq_true rfl) dX10_forecast_18 rfl (by simp) (fun x5 M4 => (show G _ _ _ _ _ _ [.int x5] _ from ?_))
    refine G_if_ne (tgt := 27) dX10_forecast_21 (by decide) ?_ ?_
    · refine G_aload_n dX10_forecast_27 0 rfl rfl ?_
      refine G_iload_n dX10_forecast_28 3 rfl rfl ?_
      refine G_callV cf_X3 ok_X3_carsAfter [.int p2] [] (con_X3_carsAfter κ M4 q3 p2) rfl w_835 w_836 w_837 (Nat.le_of_ble_eq_true rfl) (Nat.le_of_ble_eq_true rfl) dX10_forecast_29 rfl (by simp) (fun x7 M6 => (show G _ _ _ _ _ _ [.int x7] _ from ?_))
      exact G_ret (v := x7) dX10_forecast_32 (fun h => by cases h) rfl
    · refine G_bipush (v := (-2)) dX10_forecast_24 (by decide) ?_
      exact G_ret (v := ((-2))) dX10_forecast_26 (fun h => by cases h) rfl
def m_X10_count (M : Mem) (this : Option Nat) (p1 : Int32) : Option (Int32 × Mem) :=
  (if p1 = 0 then dP M 10 0 this (fun (q1 : Option Nat) => dI M 1 7 q1 (fun (x2 : Int32) => rt x2 M)) else (if p1 = 1 then dP M 10 0 this (fun (q3 : Option Nat) => dI M 1 6 q3 (fun (x4 : Int32) => rt x4 M)) else (if p1 = 2 then dP M 10 0 this (fun (q5 : Option Nat) => rc M 1 q5 (cl (m_X1_carsLeft M q5) (fun (x7 : Int32) (M6 : Mem) => rt x7 M6))) else (if p1 = 3 then dP M 10 0 this (fun (q8 : Option Nat) => rc M 1 q8 (cl (m_X1_carsInside M q8) (fun (x10 : Int32) (M9 : Mem) => rt x10 M9))) else (if p1 = 4 then dP M 10 0 this (fun (q11 : Option Nat) => rc M 1 q11 (cl (m_X1_paidAltogether M q11) (fun (x13 : Int32) (M12 : Mem) => rt x13 M12))) else (if p1 = 5 then dP M 10 0 this (fun (q14 : Option Nat) => rc M 1 q14 (cl (m_X1_paidByPlan M q14 0) (fun (x16 : Int32) (M15 : Mem) => rt x16 M15))) else (if p1 = 6 then dP M 10 0 this (fun (q17 : Option Nat) => rc M 1 q17 (cl (m_X1_paidByPlan M q17 1) (fun (x19 : Int32) (M18 : Mem) => rt x19 M18))) else (if p1 = 7 then dP M 10 0 this (fun (q20 : Option Nat) => rc M 1 q20 (cl (m_X1_paidByPlan M q20 2) (fun (x22 : Int32) (M21 : Mem) => rt x22 M21))) else (if p1 = 8 then dP M 10 0 this (fun (q23 : Option Nat) => rc M 1 q23 (cl (m_X1_paidByPlan M q23 3) (fun (x25 : Int32) (M24 : Mem) => rt x25 M24))) else (if p1 = 9 then dP M 10 0 this (fun (q26 : Option Nat) => rc M 1 q26 (cl (m_X1_lostTickets M q26) (fun (x28 : Int32) (M27 : Mem) => rt x28 M27))) else (if p1 = 10 then dP M 10 0 this (fun (q29 : Option Nat) => dI M 1 5 q29 (fun (x30 : Int32) => rt x30 M)) else (if p1 = 11 then dP M 10 3 this (fun (q31 : Option Nat) => dI M 6 3 q31 (fun (x32 : Int32) => rt x32 M)) else rt ((-2)) M))))))))))))
abbrev md_X10_count : MD := (RX10, yX10_count, cX10_count, 2, Option.some Jvm.ClassFile.FieldType.int, 2, 45)
theorem ok_X10_count : MOk md_X10_count 1 := ⟨by decide +kernel, w_844, w_1, ⟨by decide +kernel, by decide +kernel⟩, by decide +kernel, rfl⟩
set_option maxRecDepth 100000 in
set_option maxHeartbeats 4000000 in
theorem con_X10_count (κ : Cfg) (M : Mem) (this : Option Nat) (p1 : Int32) : Con κ md_X10_count [rv κ this, .int p1] M cvI (m_X10_count M this p1) := by
  refine Con.of ok_X10_count (ret_I rfl) (by
    intro v hv
    simp only [List.mem_cons, List.not_mem_nil, or_false] at hv
    rcases hv with rfl | rfl <;> first | rfl | exact rv_cat _ _) (Nat.le_of_ble_eq_true rfl) ?_
  unfold m_X10_count
  refine G.sub (lv' := [(0, rv κ this), (1, .int p1)]) [0, 1] rfl ?_
  refine G_iload_n dX10_count_0 1 rfl rfl ?_
  refine G.cond (fun hx1_0 => ?_) (fun hn1_0 => ?_)
  · refine G_tin (n := 0) (tgt := 64) dX10_count_1 (by rw [hx1_0]; rfl) (by decide) (by decide) rfl (by decide) ?_
    refine G_aload_n dX10_count_64 0 rfl rfl ?_
    refine G_getP cf_X10 (j := 0) rfl w_299 dX10_count_65 (fun q1 => ?_)
    refine G_getI cf_X1 (j := 7) rfl w_220 dX10_count_68 (fun x2 => ?_)
    exact G_ret (v := x2) dX10_count_71 (fun h => by cases h) rfl
  refine G.cond (fun hx1_1 => ?_) (fun hn1_1 => ?_)
  · refine G_tin (n := 1) (tgt := 72) dX10_count_1 (by rw [hx1_1]; rfl) (by decide) (by decide) rfl (by decide) ?_
    refine G_aload_n dX10_count_72 0 rfl rfl ?_
    refine G_getP cf_X10 (j := 0) rfl w_299 dX10_count_73 (fun q3 => ?_)
    refine G_getI cf_X1 (j := 6) rfl w_218 dX10_count_76 (fun x4 => ?_)
    exact G_ret (v := x4) dX10_count_79 (fun h => by cases h) rfl
  refine G.cond (fun hx1_2 => ?_) (fun hn1_2 => ?_)
  · refine G_tin (n := 2) (tgt := 80) dX10_count_1 (by rw [hx1_2]; rfl) (by decide) (by decide) rfl (by decide) ?_
    refine G_aload_n dX10_count_80 0 rfl rfl ?_
    refine G_getP cf_X10 (j := 0) rfl w_299 dX10_count_81 (fun q5 => ?_)
    refine G_callV cf_X1 ok_X1_carsLeft [] [] (con_X1_carsLeft κ M q5) rfl w_845 w_681 w_682 (Nat.le_of_ble_eq_true rfl) (Nat.le_of_ble_eq_true rfl) dX10_count_84 rfl (by simp) (fun x7 M6 => (show G _ _ _ _ _ _ [.int x7] _ from ?_))
    exact G_ret (v := x7) dX10_count_87 (fun h => by cases h) rfl
  refine G.cond (fun hx1_3 => ?_) (fun hn1_3 => ?_)
  · refine G_tin (n := 3) (tgt := 88) dX10_count_1 (by rw [hx1_3]; rfl) (by decide) (by decide) rfl (by decide) ?_
    refine G_aload_n dX10_count_88 0 rfl rfl ?_
    refine G_getP cf_X10 (j := 0) rfl w_299 dX10_count_89 (fun q8 => ?_)
    refine G_callV cf_X1 ok_X1_carsInside [] [] (con_X1_carsInside κ M q8) rfl w_846 w_677 w_678 (Nat.le_of_ble_eq_true rfl) (Nat.le_of_ble_eq_true rfl) dX10_count_92 rfl (by simp) (fun x10 M9 => (show G _ _ _ _ _ _ [.int x10] _ from ?_))
    exact G_ret (v := x10) dX10_count_95 (fun h => by cases h) rfl
  refine G.cond (fun hx1_4 => ?_) (fun hn1_4 => ?_)
  · refine G_tin (n := 4) (tgt := 96) dX10_count_1 (by rw [hx1_4]; rfl) (by decide) (by decide) rfl (by decide) ?_
    refine G_aload_n dX10_count_96 0 rfl rfl ?_
    refine G_getP cf_X10 (j := 0) rfl w_299 dX10_count_97 (fun q11 => ?_)
    refine G_callV cf_X1 ok_X1_paidAltogether [] [] (con_X1_paidAltogether κ M q11) rfl w_847 w_848 w_849 (Nat.le_of_ble_eq_true rfl) (Nat.le_of_ble_eq_true rfl) dX10_count_100 rfl (by simp) (fun x13 M12 => (show G _ _ _ _ _ _ [.int x13] _ from ?_))
    exact G_ret (v := x13) dX10_count_103 (fun h => by cases h) rfl
  refine G.cond (fun hx1_5 => ?_) (fun hn1_5 => ?_)
  · refine G_tin (n := 5) (tgt := 104) dX10_count_1 (by rw [hx1_5]; rfl) (by decide) (by decide) rfl (by decide) ?_
    refine G_aload_n dX10_count_104 0 rfl rfl ?_
    refine G_getP cf_X10 (j := 0) rfl w_299 dX10_count_105 (fun q14 => ?_)
    refine G_iconst (v := 0) dX10_count_108 (by decide) ?_
    refine G_callV cf_X1 ok_X1_paidByPlan [.int 0] [] (con_X1_paidByPlan κ M q14 0) rfl w_855 w_852 w_853 (Nat.le_of_ble_eq_true rfl) (Nat.le_of_ble_eq_true rfl) dX10_count_109 rfl (by simp) (fun x16 M15 => (show G _ _ _ _ _ _ [.int x16] _ from ?_))
    exact G_ret (v := x16) dX10_count_112 (fun h => by cases h) rfl
  refine G.cond (fun hx1_6 => ?_) (fun hn1_6 => ?_)
  · refine G_tin (n := 6) (tgt := 113) dX10_count_1 (by rw [hx1_6]; rfl) (by decide) (by decide) rfl (by decide) ?_
    refine G_aload_n dX10_count_113 0 rfl rfl ?_
    refine G_getP cf_X10 (j := 0) rfl w_299 dX10_count_114 (fun q17 => ?_)
    refine G_iconst (v := 1) dX10_count_117 (by decide) ?_
    refine G_callV cf_X1 ok_X1_paidByPlan [.int 1] [] (con_X1_paidByPlan κ M q17 1) rfl w_855 w_852 w_853 (Nat.le_of_ble_eq_true rfl) (Nat.le_of_ble_eq_true rfl) dX10_count_118 rfl (by simp) (fun x19 M18 => (show G _ _ _ _ _ _ [.int x19] _ from ?_))
    exact G_ret (v := x19) dX10_count_121 (fun h => by cases h) rfl
  refine G.cond (fun hx1_7 => ?_) (fun hn1_7 => ?_)
  · refine G_tin (n := 7) (tgt := 122) dX10_count_1 (by rw [hx1_7]; rfl) (by decide) (by decide) rfl (by decide) ?_
    refine G_aload_n dX10_count_122 0 rfl rfl ?_
    refine G_getP cf_X10 (j := 0) rfl w_299 dX10_count_123 (fun q20 => ?_)
    refine G_iconst (v := 2) dX10_count_126 (by decide) ?_
    refine G_callV cf_X1 ok_X1_paidByPlan [.int 2] [] (con_X1_paidByPlan κ M q20 2) rfl w_855 w_852 w_853 (Nat.le_of_ble_eq_true rfl) (Nat.le_of_ble_eq_true rfl) dX10_count_127 rfl (by simp) (fun x22 M21 => (show G _ _ _ _ _ _ [.int x22] _ from ?_))
    exact G_ret (v := x22) dX10_count_130 (fun h => by cases h) rfl
  refine G.cond (fun hx1_8 => ?_) (fun hn1_8 => ?_)
  · refine G_tin (n := 8) (tgt := 131) dX10_count_1 (by rw [hx1_8]; rfl) (by decide) (by decide) rfl (by decide) ?_
    refine G_aload_n dX10_count_131 0 rfl rfl ?_
    refine G_getP cf_X10 (j := 0) rfl w_299 dX10_count_132 (fun q23 => ?_)
    refine G_iconst (v := 3) dX10_count_135 (by decide) ?_
    refine G_callV cf_X1 ok_X1_paidByPlan [.int 3] [] (con_X1_paidByPlan κ M q23 3) rfl w_855 w_852 w_853 (Nat.le_of_ble_eq_true rfl) (Nat.le_of_ble_eq_true rfl) dX10_count_136 rfl (by simp) (fun x25 M24 => (show G _ _ _ _ _ _ [.int x25] _ from ?_))
    exact G_ret (v := x25) dX10_count_139 (fun h => by cases h) rfl
  refine G.cond (fun hx1_9 => ?_) (fun hn1_9 => ?_)
  · refine G_tin (n := 9) (tgt := 140) dX10_count_1 (by rw [hx1_9]; rfl) (by decide) (by decide) rfl (by decide) ?_
    refine G_aload_n dX10_count_140 0 rfl rfl ?_
    refine G_getP cf_X10 (j := 0) rfl w_299 dX10_count_141 (fun q26 => ?_)
    refine G_callV cf_X1 ok_X1_lostTickets [] [] (con_X1_lostTickets κ M q26) rfl w_856 w_857 w_858 (Nat.le_of_ble_eq_true rfl) (Nat.le_of_ble_eq_true rfl) dX10_count_144 rfl (by simp) (fun x28 M27 => (show G _ _ _ _ _ _ [.int x28] _ from ?_))
    exact G_ret (v := x28) dX10_count_147 (fun h => by cases h) rfl
  refine G.cond (fun hx1_10 => ?_) (fun hn1_10 => ?_)
  · refine G_tin (n := 10) (tgt := 148) dX10_count_1 (by rw [hx1_10]; rfl) (by decide) (by decide) rfl (by decide) ?_
    refine G_aload_n dX10_count_148 0 rfl rfl ?_
    refine G_getP cf_X10 (j := 0) rfl w_299 dX10_count_149 (fun q29 => ?_)
    refine G_getI cf_X1 (j := 5) rfl w_216 dX10_count_152 (fun x30 => ?_)
    exact G_ret (v := x30) dX10_count_155 (fun h => by cases h) rfl
  refine G.cond (fun hx1_11 => ?_) (fun hn1_11 => ?_)
  · refine G_tin (n := 11) (tgt := 156) dX10_count_1 (by rw [hx1_11]; rfl) (by decide) (by decide) rfl (by decide) ?_
    refine G_aload_n dX10_count_156 0 rfl rfl ?_
    refine G_getP cf_X10 (j := 3) rfl w_302 dX10_count_157 (fun q31 => ?_)
    refine G_getI cf_X6 (j := 3) rfl w_251 dX10_count_160 (fun x32 => ?_)
    exact G_ret (v := x32) dX10_count_163 (fun h => by cases h) rfl
  refine G_tout (tgt := 164) dX10_count_1 (by
      have hz0 : (p1).toInt ≠ 0 := fun h => hn1_0 (Int32.toInt_inj.mp (h.trans rfl))
      have hz1 : (p1).toInt ≠ 1 := fun h => hn1_1 (Int32.toInt_inj.mp (h.trans rfl))
      have hz2 : (p1).toInt ≠ 2 := fun h => hn1_2 (Int32.toInt_inj.mp (h.trans rfl))
      have hz3 : (p1).toInt ≠ 3 := fun h => hn1_3 (Int32.toInt_inj.mp (h.trans rfl))
      have hz4 : (p1).toInt ≠ 4 := fun h => hn1_4 (Int32.toInt_inj.mp (h.trans rfl))
      have hz5 : (p1).toInt ≠ 5 := fun h => hn1_5 (Int32.toInt_inj.mp (h.trans rfl))
      have hz6 : (p1).toInt ≠ 6 := fun h => hn1_6 (Int32.toInt_inj.mp (h.trans rfl))
      have hz7 : (p1).toInt ≠ 7 := fun h => hn1_7 (Int32.toInt_inj.mp (h.trans rfl))
      have hz8 : (p1).toInt ≠ 8 := fun h => hn1_8 (Int32.toInt_inj.mp (h.trans rfl))
      have hz9 : (p1).toInt ≠ 9 := fun h => hn1_9 (Int32.toInt_inj.mp (h.trans rfl))
      have hz10 : (p1).toInt ≠ 10 := fun h => hn1_10 (Int32.toInt_inj.mp (h.trans rfl))
      have hz11 : (p1).toInt ≠ 11 := fun h => hn1_11 (Int32.toInt_inj.mp (h.trans rfl))
      omega) (by decide) ?_
  refine G_bipush (v := (-2)) dX10_count_164 (by decide) ?_
  exact G_ret (v := ((-2))) dX10_count_166 (fun h => by cases h) rfl
def m_X10_reportLevels (M : Mem) (this : Option Nat) : Option (Int32 × Mem) :=
  dP M 10 4 this (fun (q1 : Option Nat) => dI M 7 2 q1 (fun (x2 : Int32) => rt x2 M))
abbrev md_X10_reportLevels : MD := (RX10, yX10_reportLevels, cX10_reportLevels, 1, Option.some Jvm.ClassFile.FieldType.int, 0, 0)
theorem ok_X10_reportLevels : MOk md_X10_reportLevels 0 := ⟨by decide +kernel, w_863, w_1, ⟨by decide +kernel, by decide +kernel⟩, by decide +kernel, rfl⟩
set_option maxRecDepth 100000 in
set_option maxHeartbeats 4000000 in
theorem con_X10_reportLevels (κ : Cfg) (M : Mem) (this : Option Nat) : Con κ md_X10_reportLevels [rv κ this] M cvI (m_X10_reportLevels M this) := by
  refine Con.of ok_X10_reportLevels (ret_I rfl) (by
    intro v hv
    simp only [List.mem_cons, List.not_mem_nil, or_false] at hv
    subst hv; first | rfl | exact rv_cat _ _) (Nat.le_of_ble_eq_true rfl) ?_
  unfold m_X10_reportLevels
  refine G.sub (lv' := [(0, rv κ this)]) [0] rfl ?_
  refine G_aload_n dX10_reportLevels_0 0 rfl rfl ?_
  refine G_getP cf_X10 (j := 4) rfl w_303 dX10_reportLevels_1 (fun q1 => ?_)
  refine G_getI cf_X7 (j := 2) rfl w_291 dX10_reportLevels_4 (fun x2 => ?_)
  exact G_ret (v := x2) dX10_reportLevels_7 (fun h => by cases h) rfl
def m_X10_reportCode (M : Mem) (this : Option Nat) (p1 : Int32) : Option (Int32 × Mem) :=
  dP M 10 4 this (fun (q1 : Option Nat) => rc M 7 q1 (cl (m_X7_hasLevel M q1 p1) (fun (x3 : Int32) (M2 : Mem) => (if x3 = 0 then rt ((-1)) M2 else dP M2 10 4 this (fun (q4 : Option Nat) => dP M2 7 0 q4 (fun (q5 : Option Nat) => aI M2 100 q5 p1 (fun (x6 : Int32) => rt x6 M2)))))))
abbrev md_X10_reportCode : MD := (RX10, yX10_reportCode, cX10_reportCode, 2, Option.some Jvm.ClassFile.FieldType.int, 2, 43)
theorem ok_X10_reportCode : MOk md_X10_reportCode 1 := ⟨by decide +kernel, w_867, w_1, ⟨by decide +kernel, by decide +kernel⟩, by decide +kernel, rfl⟩
set_option maxRecDepth 100000 in
set_option maxHeartbeats 4000000 in
theorem con_X10_reportCode (κ : Cfg) (M : Mem) (this : Option Nat) (p1 : Int32) : Con κ md_X10_reportCode [rv κ this, .int p1] M cvI (m_X10_reportCode M this p1) := by
  refine Con.of ok_X10_reportCode (ret_I rfl) (by
    intro v hv
    simp only [List.mem_cons, List.not_mem_nil, or_false] at hv
    rcases hv with rfl | rfl <;> first | rfl | exact rv_cat _ _) (Nat.le_of_ble_eq_true rfl) ?_
  unfold m_X10_reportCode
  refine G.sub (lv' := [(0, rv κ this), (1, .int p1)]) [0, 1] rfl ?_
  refine G_aload_n dX10_reportCode_0 0 rfl rfl ?_
  refine G_getP cf_X10 (j := 4) rfl w_303 dX10_reportCode_1 (fun q1 => ?_)
  refine G_iload_n dX10_reportCode_4 1 rfl rfl ?_
  refine G_callV cf_X7 ok_X7_hasLevel [.int p1] [] (con_X7_hasLevel κ M q1 p1) rfl w_868 w_869 w_870 (Nat.le_of_ble_eq_true rfl) (Nat.le_of_ble_eq_true rfl) dX10_reportCode_5 rfl (by simp) (fun x3 M2 => (show G _ _ _ _ _ _ [.int x3] _ from ?_))
  refine G_if_eq (tgt := 23) dX10_reportCode_8 (by decide) ?_ ?_
  · refine G_iconst (v := (-1)) dX10_reportCode_23 (by decide) ?_
    exact G_ret (v := ((-1))) dX10_reportCode_24 (fun h => by cases h) rfl
  · refine G_aload_n dX10_reportCode_11 0 rfl rfl ?_
    refine G_getP cf_X10 (j := 4) rfl w_303 dX10_reportCode_12 (fun q4 => ?_)
    refine G_getP cf_X7 (j := 0) rfl w_287 dX10_reportCode_15 (fun q5 => ?_)
    refine G_iload_n dX10_reportCode_18 1 rfl rfl ?_
    refine G_iald dX10_reportCode_19 (fun x6 => ?_)
    refine G_goto (tgt := 24) dX10_reportCode_20 (by decide) ?_
    exact G_ret (v := x6) dX10_reportCode_24 (fun h => by cases h) rfl
def m_X10_reportNumber (M : Mem) (this : Option Nat) (p1 : Int32) : Option (Int32 × Mem) :=
  dP M 10 4 this (fun (q1 : Option Nat) => rc M 7 q1 (cl (m_X7_hasLevel M q1 p1) (fun (x3 : Int32) (M2 : Mem) => (if x3 = 0 then rt ((-1)) M2 else dP M2 10 4 this (fun (q4 : Option Nat) => dP M2 7 1 q4 (fun (q5 : Option Nat) => aI M2 100 q5 p1 (fun (x6 : Int32) => rt x6 M2)))))))
abbrev md_X10_reportNumber : MD := (RX10, yX10_reportNumber, cX10_reportNumber, 2, Option.some Jvm.ClassFile.FieldType.int, 2, 43)
theorem ok_X10_reportNumber : MOk md_X10_reportNumber 1 := ⟨by decide +kernel, w_876, w_1, ⟨by decide +kernel, by decide +kernel⟩, by decide +kernel, rfl⟩
set_option maxRecDepth 100000 in
set_option maxHeartbeats 4000000 in
theorem con_X10_reportNumber (κ : Cfg) (M : Mem) (this : Option Nat) (p1 : Int32) : Con κ md_X10_reportNumber [rv κ this, .int p1] M cvI (m_X10_reportNumber M this p1) := by
  refine Con.of ok_X10_reportNumber (ret_I rfl) (by
    intro v hv
    simp only [List.mem_cons, List.not_mem_nil, or_false] at hv
    rcases hv with rfl | rfl <;> first | rfl | exact rv_cat _ _) (Nat.le_of_ble_eq_true rfl) ?_
  unfold m_X10_reportNumber
  refine G.sub (lv' := [(0, rv κ this), (1, .int p1)]) [0, 1] rfl ?_
  refine G_aload_n dX10_reportNumber_0 0 rfl rfl ?_
  refine G_getP cf_X10 (j := 4) rfl w_303 dX10_reportNumber_1 (fun q1 => ?_)
  refine G_iload_n dX10_reportNumber_4 1 rfl rfl ?_
  refine G_callV cf_X7 ok_X7_hasLevel [.int p1] [] (con_X7_hasLevel κ M q1 p1) rfl w_868 w_869 w_870 (Nat.le_of_ble_eq_true rfl) (Nat.le_of_ble_eq_true rfl) dX10_reportNumber_5 rfl (by simp) (fun x3 M2 => (show G _ _ _ _ _ _ [.int x3] _ from ?_))
  refine G_if_eq (tgt := 23) dX10_reportNumber_8 (by decide) ?_ ?_
  · refine G_iconst (v := (-1)) dX10_reportNumber_23 (by decide) ?_
    exact G_ret (v := ((-1))) dX10_reportNumber_24 (fun h => by cases h) rfl
  · refine G_aload_n dX10_reportNumber_11 0 rfl rfl ?_
    refine G_getP cf_X10 (j := 4) rfl w_303 dX10_reportNumber_12 (fun q4 => ?_)
    refine G_getP cf_X7 (j := 1) rfl w_289 dX10_reportNumber_15 (fun q5 => ?_)
    refine G_iload_n dX10_reportNumber_18 1 rfl rfl ?_
    refine G_iald dX10_reportNumber_19 (fun x6 => ?_)
    refine G_goto (tgt := 24) dX10_reportNumber_20 (by decide) ?_
    exact G_ret (v := x6) dX10_reportNumber_24 (fun h => by cases h) rfl
def m_X10_save (M : Mem) (this : Option Nat) : Option (Int32 × Mem) :=
  dP M 10 1 this (fun (q1 : Option Nat) => dP M 10 0 this (fun (q2 : Option Nat) => rc M 1 q1 (cl (m_X1_copyFrom M q1 q2) (fun (_u : Unit) (M3 : Mem) => pZ M3 10 2 this 1 (fun (M4 : Mem) => dP M4 10 0 this (fun (q5 : Option Nat) => dI M4 1 7 q5 (fun (x6 : Int32) => rt x6 M4)))))))
abbrev md_X10_save : MD := (RX10, yX10_save, cX10_save, 1, Option.some Jvm.ClassFile.FieldType.int, 4, 88)
theorem ok_X10_save : MOk md_X10_save 0 := ⟨by decide +kernel, w_880, w_1, ⟨by decide +kernel, by decide +kernel⟩, by decide +kernel, rfl⟩
set_option maxRecDepth 100000 in
set_option maxHeartbeats 4000000 in
theorem con_X10_save (κ : Cfg) (M : Mem) (this : Option Nat) : Con κ md_X10_save [rv κ this] M cvI (m_X10_save M this) := by
  refine Con.of ok_X10_save (ret_I rfl) (by
    intro v hv
    simp only [List.mem_cons, List.not_mem_nil, or_false] at hv
    subst hv; first | rfl | exact rv_cat _ _) (Nat.le_of_ble_eq_true rfl) ?_
  unfold m_X10_save
  refine G.sub (lv' := [(0, rv κ this)]) [0] rfl ?_
  refine G_aload_n dX10_save_0 0 rfl rfl ?_
  refine G_getP cf_X10 (j := 1) rfl w_300 dX10_save_1 (fun q1 => ?_)
  refine G_aload_n dX10_save_4 0 rfl rfl ?_
  refine G_getP cf_X10 (j := 0) rfl w_299 dX10_save_5 (fun q2 => ?_)
  refine G_callV cf_X1 ok_X1_copyFrom [rv κ q2] [] (con_X1_copyFrom κ M q1 q2) rfl w_881 w_882 w_883 (Nat.le_of_ble_eq_true rfl) (Nat.le_of_ble_eq_true rfl) dX10_save_8 rfl (by simp) (fun _u M3 => (show G _ _ _ _ _ _ [] _ from ?_))
  refine G_aload_n dX10_save_11 0 rfl rfl ?_
  refine G_iconst (v := 1) dX10_save_12 (by decide) ?_
  refine G_putZ cf_X10 (j := 2) rfl rfl w_301 (Or.inl rfl) dX10_save_13 (fun M4 => ?_)
  refine G_aload_n dX10_save_16 0 rfl rfl ?_
  refine G_getP cf_X10 (j := 0) rfl w_299 dX10_save_17 (fun q5 => ?_)
  refine G_getI cf_X1 (j := 7) rfl w_220 dX10_save_20 (fun x6 => ?_)
  exact G_ret (v := x6) dX10_save_23 (fun h => by cases h) rfl
def m_X10_restore (M : Mem) (this : Option Nat) : Option (Int32 × Mem) :=
  dI M 10 2 this (fun (x1 : Int32) => (if x1 ≠ 0 then dP M 10 0 this (fun (q2 : Option Nat) => dP M 10 1 this (fun (q3 : Option Nat) => rc M 1 q2 (cl (m_X1_copyFrom M q2 q3) (fun (_u : Unit) (M4 : Mem) => dP M4 10 0 this (fun (q5 : Option Nat) => dI M4 1 7 q5 (fun (x6 : Int32) => rt x6 M4)))))) else rt ((-1)) M))
abbrev md_X10_restore : MD := (RX10, yX10_restore, cX10_restore, 1, Option.some Jvm.ClassFile.FieldType.int, 4, 88)
theorem ok_X10_restore : MOk md_X10_restore 0 := ⟨by decide +kernel, w_906, w_1, ⟨by decide +kernel, by decide +kernel⟩, by decide +kernel, rfl⟩
set_option maxRecDepth 100000 in
set_option maxHeartbeats 4000000 in
theorem con_X10_restore (κ : Cfg) (M : Mem) (this : Option Nat) : Con κ md_X10_restore [rv κ this] M cvI (m_X10_restore M this) := by
  refine Con.of ok_X10_restore (ret_I rfl) (by
    intro v hv
    simp only [List.mem_cons, List.not_mem_nil, or_false] at hv
    subst hv; first | rfl | exact rv_cat _ _) (Nat.le_of_ble_eq_true rfl) ?_
  unfold m_X10_restore
  refine G.sub (lv' := [(0, rv κ this)]) [0] rfl ?_
  refine G_aload_n dX10_restore_0 0 rfl rfl ?_
  refine G_getI cf_X10 (j := 2) rfl w_301 dX10_restore_1 (fun x1 => ?_)
  refine G_if_ne (tgt := 9) dX10_restore_4 (by decide) ?_ ?_
  · refine G_aload_n dX10_restore_9 0 rfl rfl ?_
    refine G_getP cf_X10 (j := 0) rfl w_299 dX10_restore_10 (fun q2 => ?_)
    refine G_aload_n dX10_restore_13 0 rfl rfl ?_
    refine G_getP cf_X10 (j := 1) rfl w_300 dX10_restore_14 (fun q3 => ?_)
    refine G_callV cf_X1 ok_X1_copyFrom [rv κ q3] [] (con_X1_copyFrom κ M q2 q3) rfl w_881 w_882 w_883 (Nat.le_of_ble_eq_true rfl) (Nat.le_of_ble_eq_true rfl) dX10_restore_17 rfl (by simp) (fun _u M4 => (show G _ _ _ _ _ _ [] _ from ?_))
    refine G_aload_n dX10_restore_20 0 rfl rfl ?_
    refine G_getP cf_X10 (j := 0) rfl w_299 dX10_restore_21 (fun q5 => ?_)
    refine G_getI cf_X1 (j := 7) rfl w_220 dX10_restore_24 (fun x6 => ?_)
    exact G_ret (v := x6) dX10_restore_27 (fun h => by cases h) rfl
  · refine G_iconst (v := (-1)) dX10_restore_7 (by decide) ?_
    exact G_ret (v := ((-1))) dX10_restore_8 (fun h => by cases h) rfl
