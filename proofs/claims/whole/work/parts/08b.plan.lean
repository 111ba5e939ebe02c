def m_X5_reset (M : Mem) (this : Option Nat) : Option (Unit × Mem) :=
  pI M 5 2 this 0 (fun (M1 : Mem) => pI M1 5 3 this 0 (fun (M2 : Mem) => pI M2 5 4 this 0 (fun (M3 : Mem) => pI M3 5 5 this 2000 (fun (M4 : Mem) => dP M4 5 0 this (fun (q5 : Option Nat) => aP M4 110 q5 0 (fun (q6 : Option Nat) => rc M4 0 q6 (cl (m_X0_tell M4 q6 0 100 60) (fun (_u : Unit) (M7 : Mem) => pI M7 5 1 this 1 (fun (M8 : Mem) => rt () M8)))))))))
abbrev md_X5_reset : MD := (RX5, yX5_reset, cX5_reset, 1, Option.none, 1, 23)
theorem ok_X5_reset : MOk md_X5_reset 0 := ⟨by decide +kernel, w_76, w_3, ⟨by decide +kernel, by decide +kernel⟩, by decide +kernel, rfl⟩
set_option maxRecDepth 100000 in
set_option maxHeartbeats 4000000 in
theorem con_X5_reset (κ : Cfg) (M : Mem) (this : Option Nat) : Con κ md_X5_reset [rv κ this] M cvV (m_X5_reset M this) := by
  refine Con.of ok_X5_reset (ret_V rfl) (by
    intro v hv
    simp only [List.mem_cons, List.not_mem_nil, or_false] at hv
    subst hv; first | rfl | exact rv_cat _ _) (Nat.le_of_ble_eq_true rfl) ?_
  unfold m_X5_reset
  refine G.sub (lv' := [(0, rv κ this)]) [0] rfl ?_
  refine G_aload_n dX5_reset_0 0 rfl rfl ?_
  refine G_iconst (v := 0) dX5_reset_1 (by decide) ?_
  refine G_putI cf_X5 (j := 2) rfl rfl w_86 (Or.inl rfl) dX5_reset_2 (fun M1 => ?_)
  refine G_aload_n dX5_reset_5 0 rfl rfl ?_
  refine G_iconst (v := 0) dX5_reset_6 (by decide) ?_
  refine G_putI cf_X5 (j := 3) rfl rfl w_88 (Or.inl rfl) dX5_reset_7 (fun M2 => ?_)
  refine G_aload_n dX5_reset_10 0 rfl rfl ?_
  refine G_iconst (v := 0) dX5_reset_11 (by decide) ?_
  refine G_putI cf_X5 (j := 4) rfl rfl w_90 (Or.inl rfl) dX5_reset_12 (fun M3 => ?_)
  refine G_aload_n dX5_reset_15 0 rfl rfl ?_
  refine G_sipush (v := 2000) dX5_reset_16 (by decide) ?_
  refine G_putI cf_X5 (j := 5) rfl rfl w_92 (Or.inl rfl) dX5_reset_19 (fun M4 => ?_)
  refine G_aload_n dX5_reset_22 0 rfl rfl ?_
  refine G_getP cf_X5 (j := 0) rfl w_81 dX5_reset_23 (fun q5 => ?_)
  refine G_iconst (v := 0) dX5_reset_26 (by decide) ?_
  refine G_aald (tn := 3) (fun _ => rfl) (by decide) dX5_reset_27 (fun q6 => ?_)
  refine G_iconst (v := 0) dX5_reset_28 (by decide) ?_
  refine G_bipush (v := 100) dX5_reset_29 (by decide) ?_
  refine G_bipush (v := 60) dX5_reset_31 (by decide) ?_
  refine G_callV cf_X0 ok_X0_tell [.int 0, .int 100, .int 60] [] (con_X0_tell κ M4 q6 0 100 60) rfl w_77 w_78 w_79 (Nat.le_of_ble_eq_true rfl) (Nat.le_of_ble_eq_true rfl) dX5_reset_33 rfl (by simp) (fun _u M7 => (show G _ _ _ _ _ _ [] _ from ?_))
  refine G_aload_n dX5_reset_36 0 rfl rfl ?_
  refine G_iconst (v := 1) dX5_reset_37 (by decide) ?_
  refine G_putI cf_X5 (j := 1) rfl rfl w_83 (Or.inl rfl) dX5_reset_38 (fun M8 => ?_)
  exact G_ret (v := ()) dX5_reset_41 (fun h => by cases h) rfl
def b_X5_init_15 (this : Option Nat) (L15_3 : (Int32 × Mem) → Option (Unit × Mem)) (a4 : Int32 × Mem) : Option (Unit × Mem) :=
  (if 6 ≤ a4.1 then rc a4.2 5 this (cl (m_X5_reset a4.2 this) (fun (_u : Unit) (M6 : Mem) => rt () M6)) else dP a4.2 5 0 this (fun (q7 : Option Nat) => nO a4.2 0 4 (fun (q8 : Option Nat) (M9 : Mem) => rc M9 0 q8 (cl (m_X0_init M9 q8 a4.1) (fun (_u : Unit) (M10 : Mem) => sP M10 0 q7 a4.1 q8 (fun (M11 : Mem) => L15_3 ((a4.1 + 1), M11)))))))
def m_X5_init (M : Mem) (this : Option Nat) : Option (Unit × Mem) :=
  oi this (nA M (110 + 0) 6 (fun (q1 : Option Nat) (M2 : Mem) => pP M2 5 0 this q1 (fun (M3 : Mem) => lp (b_X5_init_15 this) FU (0, M3))))
abbrev md_X5_init : MD := (RX5, yX5_init, cX5_init, 2, Option.none, 2, 43)
theorem ok_X5_init : MOk md_X5_init 0 := ⟨by decide +kernel, w_46, w_3, ⟨by decide +kernel, by decide +kernel⟩, by decide +kernel, rfl⟩
set_option maxRecDepth 100000 in
set_option maxHeartbeats 4000000 in
theorem con_X5_init (κ : Cfg) (M : Mem) (this : Option Nat) : Con κ md_X5_init [rv κ this] M cvV (m_X5_init M this) := by
  refine Con.of ok_X5_init (ret_V rfl) (by
    intro v hv
    simp only [List.mem_cons, List.not_mem_nil, or_false] at hv
    subst hv; first | rfl | exact rv_cat _ _) (Nat.le_of_ble_eq_true rfl) ?_
  unfold m_X5_init
  refine G.sub (lv' := [(0, rv κ this)]) [0] rfl ?_
  refine G_aload_n dX5_init_0 0 rfl rfl ?_
  refine G_objInit w_47 w_25 w_26 (Nat.le_of_ble_eq_true rfl) (Nat.le_of_ble_eq_true rfl) (by simp) dX5_init_1 ?_
  refine G_aload_n dX5_init_4 0 rfl rfl ?_
  refine G_bipush (v := 6) dX5_init_5 (by decide) ?_
  refine G_newq (tn := 3) cf_X0 (fun _ => rfl) (by simp) w_48 dX5_init_7 (fun q1 M2 => ?_)
  refine G_putP cf_X5 (j := 0) rfl (Or.inr ⟨_, rfl⟩) w_81 (Or.inr ⟨rfl, rfl, rfl⟩) dX5_init_10 (fun M3 => ?_)
  refine G_iconst (v := 0) dX5_init_13 (by decide) ?_
  refine G_istore_n (lv' := [(1, .int 0), (0, rv κ this)]) dX5_init_14 rfl (Nat.le_of_ble_eq_true rfl) rfl ?_
  refine G.sub (lv' := [(0, rv κ this), (1, .int 0)]) [1, 0] rfl ?_
  refine G.loop (lvf := fun (a4 : Int32 × Mem) => [(0, rv κ this), (1, .int a4.1)]) (mf := fun (a4 : Int32 × Mem) => a4.2) (fun L15_3 hL15_3 a4 => ?_) FU (0, M3)
  unfold b_X5_init_15
  refine G_iload_n dX5_init_15 1 rfl rfl ?_
  refine G_bipush (v := 6) dX5_init_16 (by decide) ?_
  refine G_icmp_ge (tgt := 41) dX5_init_18 (by decide) ?_ ?_
  · refine G_aload_n dX5_init_41 0 rfl rfl ?_
    refine G_callV cf_X5 ok_X5_reset [] [] (con_X5_reset κ a4.2 this) rfl w_73 w_74 w_75 (Nat.le_of_ble_eq_true rfl) (Nat.le_of_ble_eq_true rfl) dX5_init_42 rfl (by simp) (fun _u M6 => (show G _ _ _ _ _ _ [] _ from ?_))
    exact G_ret (v := ()) dX5_init_45 (fun h => by cases h) rfl
  · refine G_aload_n dX5_init_21 0 rfl rfl ?_
    refine G_getP cf_X5 (j := 0) rfl w_81 dX5_init_22 (fun q7 => ?_)
    refine G_iload_n dX5_init_25 1 rfl rfl ?_
    refine G_new cf_X0 cd_X0 w_48 w_50 w_4 dX5_init_26 (fun q8 M9 => ?_)
    refine G_dup dX5_init_29 (rv_cat _ _) ?_
    refine G_iload_n dX5_init_30 1 rfl rfl ?_
    refine G_callI ok_X0_init [.int a4.1] [rv κ q8, .int a4.1, rv κ q7] (con_X0_init κ M9 q8 a4.1) rfl w_51 w_52 rfl rfl (Nat.le_of_ble_eq_true rfl) (Nat.le_of_ble_eq_true rfl) dX5_init_31 rfl (by simp) (fun _u M10 => (show G _ _ _ _ _ _ [rv κ q8, .int a4.1, rv κ q7] _ from ?_))
    refine G_aast (tn := 3) cf_X0 (fun _ => rfl) dX5_init_34 (fun M11 => ?_)
    refine G_iinc (v := (a4.1 + 1)) (lv' := [(1, .int (a4.1 + 1)), (0, rv κ this)]) dX5_init_35 1 rfl (congrArg (fun z9 : Int32 => a4.1 + z9) (by decide : Int32.ofInt 1 = 1)) (Nat.le_of_ble_eq_true rfl) rfl ?_
    refine G_goto (tgt := 15) dX5_init_38 (by decide) ?_
    exact G.sub [1, 0] rfl (hL15_3 _)
def m_X8_init (M : Mem) (this : Option Nat) : Option (Unit × Mem) :=
  oi this (nA M 100 4 (fun (q1 : Option Nat) (M2 : Mem) => pP M2 8 0 this q1 (fun (M3 : Mem) => rt () M3)))
abbrev md_X8_init : MD := (RX8, yX8_init, cX8_init, 1, Option.none, 1, 20)
theorem ok_X8_init : MOk md_X8_init 0 := ⟨by decide +kernel, w_169, w_8, ⟨by decide +kernel, by decide +kernel⟩, by decide +kernel, rfl⟩
set_option maxRecDepth 100000 in
set_option maxHeartbeats 4000000 in
theorem con_X8_init (κ : Cfg) (M : Mem) (this : Option Nat) : Con κ md_X8_init [rv κ this] M cvV (m_X8_init M this) := by
  refine Con.of ok_X8_init (ret_V rfl) (by
    intro v hv
    simp only [List.mem_cons, List.not_mem_nil, or_false] at hv
    subst hv; first | rfl | exact rv_cat _ _) (Nat.le_of_ble_eq_true rfl) ?_
  unfold m_X8_init
  refine G.sub (lv' := [(0, rv κ this)]) [0] rfl ?_
  refine G_aload_n dX8_init_0 0 rfl rfl ?_
  refine G_objInit w_170 w_25 w_26 (Nat.le_of_ble_eq_true rfl) (Nat.le_of_ble_eq_true rfl) (by simp) dX8_init_1 ?_
  refine G_aload_n dX8_init_4 0 rfl rfl ?_
  refine G_iconst (v := 4) dX8_init_5 (by decide) ?_
  refine G_newa (at9 := .int) (fun _ => rfl) w_142 (by simp) dX8_init_6 (fun q1 M2 => ?_)
  refine G_putP cf_X8 (j := 0) rfl (Or.inr ⟨_, rfl⟩) w_171 (Or.inr ⟨rfl, rfl, rfl⟩) dX8_init_8 (fun M3 => ?_)
  exact G_ret (v := ()) dX8_init_11 (fun h => by cases h) rfl
def b_X5_copyFrom_34 (this : Option Nat) (p1 : Option Nat) (L34_8 : (Int32 × Mem) → Option (Unit × Mem)) (a9 : Int32 × Mem) : Option (Unit × Mem) :=
  (if 6 ≤ a9.1 then dI a9.2 5 1 p1 (fun (x11 : Int32) => pI a9.2 5 1 this x11 (fun (M12 : Mem) => rt () M12)) else dP a9.2 5 0 this (fun (q13 : Option Nat) => aP a9.2 110 q13 a9.1 (fun (q14 : Option Nat) => dP a9.2 5 0 p1 (fun (q15 : Option Nat) => aP a9.2 110 q15 a9.1 (fun (q16 : Option Nat) => rc a9.2 0 q14 (cl (m_X0_copyFrom a9.2 q14 q16) (fun (_u : Unit) (M17 : Mem) => L34_8 ((a9.1 + 1), M17))))))))
def m_X5_copyFrom (M : Mem) (this : Option Nat) (p1 : Option Nat) : Option (Unit × Mem) :=
  dI M 5 2 p1 (fun (x1 : Int32) => pI M 5 2 this x1 (fun (M2 : Mem) => dI M2 5 3 p1 (fun (x3 : Int32) => pI M2 5 3 this x3 (fun (M4 : Mem) => dI M4 5 4 p1 (fun (x5 : Int32) => pI M4 5 4 this x5 (fun (M6 : Mem) => dI M6 5 5 p1 (fun (x7 : Int32) => pI M6 5 5 this x7 (fun (M8 : Mem) => lp (b_X5_copyFrom_34 this p1) FU (0, M8)))))))))
abbrev md_X5_copyFrom : MD := (RX5, yX5_copyFrom, cX5_copyFrom, 3, Option.none, 2, 44)
theorem ok_X5_copyFrom : MOk md_X5_copyFrom 1 := ⟨by decide +kernel, w_467, w_3, ⟨by decide +kernel, by decide +kernel⟩, by decide +kernel, rfl⟩
set_option maxRecDepth 100000 in
set_option maxHeartbeats 4000000 in
theorem con_X5_copyFrom (κ : Cfg) (M : Mem) (this : Option Nat) (p1 : Option Nat) : Con κ md_X5_copyFrom [rv κ this, rv κ p1] M cvV (m_X5_copyFrom M this p1) := by
  refine Con.of ok_X5_copyFrom (ret_V rfl) (by
    intro v hv
    simp only [List.mem_cons, List.not_mem_nil, or_false] at hv
    rcases hv with rfl | rfl <;> first | rfl | exact rv_cat _ _) (Nat.le_of_ble_eq_true rfl) ?_
  unfold m_X5_copyFrom
  refine G.sub (lv' := [(0, rv κ this), (1, rv κ p1)]) [0, 1] rfl ?_
  refine G_aload_n dX5_copyFrom_0 0 rfl rfl ?_
  refine G_aload_n dX5_copyFrom_1 1 rfl rfl ?_
  refine G_getI cf_X5 (j := 2) rfl w_86 dX5_copyFrom_2 (fun x1 => ?_)
  refine G_putI cf_X5 (j := 2) rfl rfl w_86 (Or.inl rfl) dX5_copyFrom_5 (fun M2 => ?_)
  refine G_aload_n dX5_copyFrom_8 0 rfl rfl ?_
  refine G_aload_n dX5_copyFrom_9 1 rfl rfl ?_
  refine G_getI cf_X5 (j := 3) rfl w_88 dX5_copyFrom_10 (fun x3 => ?_)
  refine G_putI cf_X5 (j := 3) rfl rfl w_88 (Or.inl rfl) dX5_copyFrom_13 (fun M4 => ?_)
  refine G_aload_n dX5_copyFrom_16 0 rfl rfl ?_
  refine G_aload_n dX5_copyFrom_17 1 rfl rfl ?_
  refine G_getI cf_X5 (j := 4) rfl w_90 dX5_copyFrom_18 (fun x5 => ?_)
  refine G_putI cf_X5 (j := 4) rfl rfl w_90 (Or.inl rfl) dX5_copyFrom_21 (fun M6 => ?_)
  refine G_aload_n dX5_copyFrom_24 0 rfl rfl ?_
  refine G_aload_n dX5_copyFrom_25 1 rfl rfl ?_
  refine G_getI cf_X5 (j := 5) rfl w_92 dX5_copyFrom_26 (fun x7 => ?_)
  refine G_putI cf_X5 (j := 5) rfl rfl w_92 (Or.inl rfl) dX5_copyFrom_29 (fun M8 => ?_)
  refine G_iconst (v := 0) dX5_copyFrom_32 (by decide) ?_
  refine G_istore_n (lv' := [(2, .int 0), (0, rv κ this), (1, rv κ p1)]) dX5_copyFrom_33 rfl (Nat.le_of_ble_eq_true rfl) rfl ?_
  refine G.sub (lv' := [(0, rv κ this), (1, rv κ p1), (2, .int 0)]) [1, 2, 0] rfl ?_
  refine G.loop (lvf := fun (a9 : Int32 × Mem) => [(0, rv κ this), (1, rv κ p1), (2, .int a9.1)]) (mf := fun (a9 : Int32 × Mem) => a9.2) (fun L34_8 hL34_8 a9 => ?_) FU (0, M8)
  unfold b_X5_copyFrom_34
  refine G_iload_n dX5_copyFrom_34 2 rfl rfl ?_
  refine G_bipush (v := 6) dX5_copyFrom_35 (by decide) ?_
  refine G_icmp_ge (tgt := 61) dX5_copyFrom_37 (by decide) ?_ ?_
  · refine G_aload_n dX5_copyFrom_61 0 rfl rfl ?_
    refine G_aload_n dX5_copyFrom_62 1 rfl rfl ?_
    refine G_getI cf_X5 (j := 1) rfl w_83 dX5_copyFrom_63 (fun x11 => ?_)
    refine G_putI cf_X5 (j := 1) rfl rfl w_83 (Or.inl rfl) dX5_copyFrom_66 (fun M12 => ?_)
    exact G_ret (v := ()) dX5_copyFrom_69 (fun h => by cases h) rfl
  · refine G_aload_n dX5_copyFrom_40 0 rfl rfl ?_
    refine G_getP cf_X5 (j := 0) rfl w_81 dX5_copyFrom_41 (fun q13 => ?_)
    refine G_iload_n dX5_copyFrom_44 2 rfl rfl ?_
    refine G_aald (tn := 3) (fun _ => rfl) (by decide) dX5_copyFrom_45 (fun q14 => ?_)
    refine G_aload_n dX5_copyFrom_46 1 rfl rfl ?_
    refine G_getP cf_X5 (j := 0) rfl w_81 dX5_copyFrom_47 (fun q15 => ?_)
    refine G_iload_n dX5_copyFrom_50 2 rfl rfl ?_
    refine G_aald (tn := 3) (fun _ => rfl) (by decide) dX5_copyFrom_51 (fun q16 => ?_)
    refine G_callV cf_X0 ok_X0_copyFrom [rv κ q16] [] (con_X0_copyFrom κ a9.2 q14 q16) rfl w_468 w_469 w_470 (Nat.le_of_ble_eq_true rfl) (Nat.le_of_ble_eq_true rfl) dX5_copyFrom_52 rfl (by simp) (fun _u M17 => (show G _ _ _ _ _ _ [] _ from ?_))
    refine G_iinc (v := (a9.1 + 1)) (lv' := [(2, .int (a9.1 + 1)), (0, rv κ this), (1, rv κ p1)]) dX5_copyFrom_55 2 rfl (congrArg (fun z9 : Int32 => a9.1 + z9) (by decide : Int32.ofInt 1 = 1)) (Nat.le_of_ble_eq_true rfl) rfl ?_
    refine G_goto (tgt := 34) dX5_copyFrom_58 (by decide) ?_
    exact G.sub [1, 2, 0] rfl (hL34_8 _)
def m_X8_begin (M : Mem) (this : Option Nat) (p1 : Int32) (p2 : Int32) (p3 : Int32) : Option (Unit × Mem) :=
  pI M 8 2 this p1 (fun (M1 : Mem) => pI M1 8 3 this p2 (fun (M2 : Mem) => pI M2 8 4 this p3 (fun (M3 : Mem) => pI M3 8 1 this 0 (fun (M4 : Mem) => pI M4 8 5 this 0 (fun (M5 : Mem) => pI M5 8 6 this ((-1)) (fun (M6 : Mem) => pZ M6 8 7 this 0 (fun (M7 : Mem) => pZ M7 8 8 this 0 (fun (M8 : Mem) => rt () M8))))))))
abbrev md_X8_begin : MD := (RX8, yX8_begin, cX8_begin, 4, Option.none, 0, 0)
theorem ok_X8_begin : MOk md_X8_begin 3 := ⟨by decide +kernel, w_691, w_8, ⟨by decide +kernel, by decide +kernel⟩, by decide +kernel, rfl⟩
set_option maxRecDepth 100000 in
set_option maxHeartbeats 4000000 in
theorem con_X8_begin (κ : Cfg) (M : Mem) (this : Option Nat) (p1 : Int32) (p2 : Int32) (p3 : Int32) : Con κ md_X8_begin [rv κ this, .int p1, .int p2, .int p3] M cvV (m_X8_begin M this p1 p2 p3) := by
  refine Con.of ok_X8_begin (ret_V rfl) (by
    intro v hv
    simp only [List.mem_cons, List.not_mem_nil, or_false] at hv
    rcases hv with rfl | rfl | rfl | rfl <;> first | rfl | exact rv_cat _ _) (Nat.le_of_ble_eq_true rfl) ?_
  unfold m_X8_begin
  refine G.sub (lv' := [(0, rv κ this), (1, .int p1), (2, .int p2), (3, .int p3)]) [0, 1, 2, 3] rfl ?_
  refine G_aload_n dX8_begin_0 0 rfl rfl ?_
  refine G_iload_n dX8_begin_1 1 rfl rfl ?_
  refine G_putI cf_X8 (j := 2) rfl rfl w_175 (Or.inl rfl) dX8_begin_2 (fun M1 => ?_)
  refine G_aload_n dX8_begin_5 0 rfl rfl ?_
  refine G_iload_n dX8_begin_6 2 rfl rfl ?_
  refine G_putI cf_X8 (j := 3) rfl rfl w_177 (Or.inl rfl) dX8_begin_7 (fun M2 => ?_)
  refine G_aload_n dX8_begin_10 0 rfl rfl ?_
  refine G_iload_n dX8_begin_11 3 rfl rfl ?_
  refine G_putI cf_X8 (j := 4) rfl rfl w_179 (Or.inl rfl) dX8_begin_12 (fun M3 => ?_)
  refine G_aload_n dX8_begin_15 0 rfl rfl ?_
  refine G_iconst (v := 0) dX8_begin_16 (by decide) ?_
  refine G_putI cf_X8 (j := 1) rfl rfl w_172 (Or.inl rfl) dX8_begin_17 (fun M4 => ?_)
  refine G_aload_n dX8_begin_20 0 rfl rfl ?_
  refine G_iconst (v := 0) dX8_begin_21 (by decide) ?_
  refine G_putI cf_X8 (j := 5) rfl rfl w_181 (Or.inl rfl) dX8_begin_22 (fun M5 => ?_)
  refine G_aload_n dX8_begin_25 0 rfl rfl ?_
  refine G_iconst (v := (-1)) dX8_begin_26 (by decide) ?_
  refine G_putI cf_X8 (j := 6) rfl rfl w_184 (Or.inl rfl) dX8_begin_27 (fun M6 => ?_)
  refine G_aload_n dX8_begin_30 0 rfl rfl ?_
  refine G_iconst (v := 0) dX8_begin_31 (by decide) ?_
  refine G_putZ cf_X8 (j := 7) rfl rfl w_185 (Or.inl rfl) dX8_begin_32 (fun M7 => ?_)
  refine G_aload_n dX8_begin_35 0 rfl rfl ?_
  refine G_iconst (v := 0) dX8_begin_36 (by decide) ?_
  refine G_putZ cf_X8 (j := 8) rfl rfl w_187 (Or.inl rfl) dX8_begin_37 (fun M8 => ?_)
  exact G_ret (v := ()) dX8_begin_40 (fun h => by cases h) rfl
def b_X8_copyFrom_18 (this : Option Nat) (p1 : Option Nat) (J41_4 : Mem → Option (Unit × Mem)) (L18_16 : (Int32 × Mem) → Option (Unit × Mem)) (a17 : Int32 × Mem) : Option (Unit × Mem) :=
  (if 4 ≤ a17.1 then J41_4 a17.2 else dP a17.2 8 0 this (fun (q19 : Option Nat) => dP a17.2 8 0 p1 (fun (q20 : Option Nat) => aI a17.2 100 q20 a17.1 (fun (x21 : Int32) => sI a17.2 100 q19 a17.1 x21 (fun (M22 : Mem) => L18_16 ((a17.1 + 1), M22))))))
def m_X8_copyFrom (M : Mem) (this : Option Nat) (p1 : Option Nat) : Option (Unit × Mem) :=
  dI M 8 2 p1 (fun (x1 : Int32) => dI M 8 3 p1 (fun (x2 : Int32) => dI M 8 4 p1 (fun (x3 : Int32) => rc M 8 this (cl (m_X8_begin M this x1 x2 x3) (fun (_u : Unit) (M4 : Mem) => jn (fun (M6 : Mem) => dI M6 8 1 p1 (fun (x7 : Int32) => pI M6 8 1 this x7 (fun (M8 : Mem) => dI M8 8 5 p1 (fun (x9 : Int32) => pI M8 8 5 this x9 (fun (M10 : Mem) => dI M10 8 6 p1 (fun (x11 : Int32) => pI M10 8 6 this x11 (fun (M12 : Mem) => dI M12 8 7 p1 (fun (x13 : Int32) => pZ M12 8 7 this x13 (fun (M14 : Mem) => dI M14 8 8 p1 (fun (x15 : Int32) => pZ M14 8 8 this x15 (fun (M16 : Mem) => rt () M16))))))))))) (fun (J41_4 : Mem → Option (Unit × Mem)) => lp (b_X8_copyFrom_18 this p1 J41_4) FU (0, M4)))))))
abbrev md_X8_copyFrom : MD := (RX8, yX8_copyFrom, cX8_copyFrom, 3, Option.none, 1, 23)
theorem ok_X8_copyFrom : MOk md_X8_copyFrom 1 := ⟨by decide +kernel, w_901, w_8, ⟨by decide +kernel, by decide +kernel⟩, by decide +kernel, rfl⟩
set_option maxRecDepth 100000 in
set_option maxHeartbeats 4000000 in
theorem con_X8_copyFrom (κ : Cfg) (M : Mem) (this : Option Nat) (p1 : Option Nat) : Con κ md_X8_copyFrom [rv κ this, rv κ p1] M cvV (m_X8_copyFrom M this p1) := by
  refine Con.of ok_X8_copyFrom (ret_V rfl) (by
    intro v hv
    simp only [List.mem_cons, List.not_mem_nil, or_false] at hv
    rcases hv with rfl | rfl <;> first | rfl | exact rv_cat _ _) (Nat.le_of_ble_eq_true rfl) ?_
  unfold m_X8_copyFrom
  refine G.sub (lv' := [(0, rv κ this), (1, rv κ p1)]) [0, 1] rfl ?_
  refine G_aload_n dX8_copyFrom_0 0 rfl rfl ?_
  refine G_aload_n dX8_copyFrom_1 1 rfl rfl ?_
  refine G_getI cf_X8 (j := 2) rfl w_175 dX8_copyFrom_2 (fun x1 => ?_)
  refine G_aload_n dX8_copyFrom_5 1 rfl rfl ?_
  refine G_getI cf_X8 (j := 3) rfl w_177 dX8_copyFrom_6 (fun x2 => ?_)
  refine G_aload_n dX8_copyFrom_9 1 rfl rfl ?_
  refine G_getI cf_X8 (j := 4) rfl w_179 dX8_copyFrom_10 (fun x3 => ?_)
  refine G_callV cf_X8 ok_X8_begin [.int x1, .int x2, .int x3] [] (con_X8_begin κ M this x1 x2 x3) rfl w_902 w_689 w_690 (Nat.le_of_ble_eq_true rfl) (Nat.le_of_ble_eq_true rfl) dX8_copyFrom_13 rfl (by simp) (fun _u M4 => (show G _ _ _ _ _ _ [] _ from ?_))
  refine G_iconst (v := 0) dX8_copyFrom_16 (by decide) ?_
  refine G_istore_n (lv' := [(2, .int 0), (0, rv κ this), (1, rv κ p1)]) dX8_copyFrom_17 rfl (Nat.le_of_ble_eq_true rfl) rfl ?_
  refine G.jn (P := (fun (J : Mem → Option (Unit × Mem)) => ∀ (M6 : Mem), G κ md_X8_copyFrom cvV (J M6) 41 [(0, rv κ this), (1, rv κ p1)] [] M6)) ?_ ?_
  · intro M6
    refine G_aload_n dX8_copyFrom_41 0 rfl rfl ?_
    refine G_aload_n dX8_copyFrom_42 1 rfl rfl ?_
    refine G_getI cf_X8 (j := 1) rfl w_172 dX8_copyFrom_43 (fun x7 => ?_)
    refine G_putI cf_X8 (j := 1) rfl rfl w_172 (Or.inl rfl) dX8_copyFrom_46 (fun M8 => ?_)
    refine G_aload_n dX8_copyFrom_49 0 rfl rfl ?_
    refine G_aload_n dX8_copyFrom_50 1 rfl rfl ?_
    refine G_getI cf_X8 (j := 5) rfl w_181 dX8_copyFrom_51 (fun x9 => ?_)
    refine G_putI cf_X8 (j := 5) rfl rfl w_181 (Or.inl rfl) dX8_copyFrom_54 (fun M10 => ?_)
    refine G_aload_n dX8_copyFrom_57 0 rfl rfl ?_
    refine G_aload_n dX8_copyFrom_58 1 rfl rfl ?_
    refine G_getI cf_X8 (j := 6) rfl w_184 dX8_copyFrom_59 (fun x11 => ?_)
    refine G_putI cf_X8 (j := 6) rfl rfl w_184 (Or.inl rfl) dX8_copyFrom_62 (fun M12 => ?_)
    refine G_aload_n dX8_copyFrom_65 0 rfl rfl ?_
    refine G_aload_n dX8_copyFrom_66 1 rfl rfl ?_
    refine G_getI cf_X8 (j := 7) rfl w_185 dX8_copyFrom_67 (fun x13 => ?_)
    refine G_putZ cf_X8 (j := 7) rfl rfl w_185 (Or.inl rfl) dX8_copyFrom_70 (fun M14 => ?_)
    refine G_aload_n dX8_copyFrom_73 0 rfl rfl ?_
    refine G_aload_n dX8_copyFrom_74 1 rfl rfl ?_
    refine G_getI cf_X8 (j := 8) rfl w_187 dX8_copyFrom_75 (fun x15 => ?_)
    refine G_putZ cf_X8 (j := 8) rfl rfl w_187 (Or.inl rfl) dX8_copyFrom_78 (fun M16 => ?_)
    exact G_ret (v := ()) dX8_copyFrom_81 (fun h => by cases h) rfl
  · intro J41_4 hJ41_4
    refine G.sub (lv' := [(0, rv κ this), (1, rv κ p1), (2, .int 0)]) [1, 2, 0] rfl ?_
    refine G.loop (lvf := fun (a17 : Int32 × Mem) => [(0, rv κ this), (1, rv κ p1), (2, .int a17.1)]) (mf := fun (a17 : Int32 × Mem) => a17.2) (fun L18_16 hL18_16 a17 => ?_) FU (0, M4)
    unfold b_X8_copyFrom_18
    refine G_iload_n dX8_copyFrom_18 2 rfl rfl ?_
    refine G_iconst (v := 4) dX8_copyFrom_19 (by decide) ?_
    refine G_icmp_ge (tgt := 41) dX8_copyFrom_20 (by decide) ?_ ?_
    · exact G.sub [0, 1] rfl (hJ41_4 _)
    · refine G_aload_n dX8_copyFrom_23 0 rfl rfl ?_
      refine G_getP cf_X8 (j := 0) rfl w_171 dX8_copyFrom_24 (fun q19 => ?_)
      refine G_iload_n dX8_copyFrom_27 2 rfl rfl ?_
      refine G_aload_n dX8_copyFrom_28 1 rfl rfl ?_
      refine G_getP cf_X8 (j := 0) rfl w_171 dX8_copyFrom_29 (fun q20 => ?_)
      refine G_iload_n dX8_copyFrom_32 2 rfl rfl ?_
      refine G_iald dX8_copyFrom_33 (fun x21 => ?_)
      refine G_iast dX8_copyFrom_34 (fun M22 => ?_)
      refine G_iinc (v := (a17.1 + 1)) (lv' := [(2, .int (a17.1 + 1)), (0, rv κ this), (1, rv κ p1)]) dX8_copyFrom_35 2 rfl (congrArg (fun z9 : Int32 => a17.1 + z9) (by decide : Int32.ofInt 1 = 1)) (Nat.le_of_ble_eq_true rfl) rfl ?_
      refine G_goto (tgt := 18) dX8_copyFrom_38 (by decide) ?_
      exact G.sub [1, 2, 0] rfl (hL18_16 _)
def m_X5_groupOf (M : Mem) (this : Option Nat) (p1 : Int32) (p2 : Int32) : Option (Int32 × Mem) :=
  dI M 5 4 this (fun (x1 : Int32) => (if x1 ≠ 1 then rt (((p2 - p1) / 1440)) M else rt ((p2 / 1440)) M))
abbrev md_X5_groupOf : MD := (RX5, yX5_groupOf, cX5_groupOf, 3, Option.some Jvm.ClassFile.FieldType.int, 0, 0)
theorem ok_X5_groupOf : MOk md_X5_groupOf 2 := ⟨by decide +kernel, w_512, w_3, ⟨by decide +kernel, by decide +kernel⟩, by decide +kernel, rfl⟩
set_option maxRecDepth 100000 in
set_option maxHeartbeats 4000000 in
theorem con_X5_groupOf (κ : Cfg) (M : Mem) (this : Option Nat) (p1 : Int32) (p2 : Int32) : Con κ md_X5_groupOf [rv κ this, .int p1, .int p2] M cvI (m_X5_groupOf M this p1 p2) := by
  refine Con.of ok_X5_groupOf (ret_I rfl) (by
    intro v hv
    simp only [List.mem_cons, List.not_mem_nil, or_false] at hv
    rcases hv with rfl | rfl | rfl <;> first | rfl | exact rv_cat _ _) (Nat.le_of_ble_eq_true rfl) ?_
  unfold m_X5_groupOf
  refine G.sub (lv' := [(0, rv κ this), (1, .int p1), (2, .int p2)]) [0, 1, 2] rfl ?_
  refine G_aload_n dX5_groupOf_0 0 rfl rfl ?_
  refine G_getI cf_X5 (j := 4) rfl w_90 dX5_groupOf_1 (fun x1 => ?_)
  refine G_iconst (v := 1) dX5_groupOf_4 (by decide) ?_
  refine G_icmp_ne (tgt := 16) dX5_groupOf_5 (by decide) ?_ ?_
  · refine G_iload_n dX5_groupOf_16 2 rfl rfl ?_
    refine G_iload_n dX5_groupOf_17 1 rfl rfl ?_
    refine G_isub dX5_groupOf_18 ?_
    refine G_sipush (v := 1440) dX5_groupOf_19 (by decide) ?_
    refine G_idiv dX5_groupOf_22 (by decide) ?_
    exact G_ret (v := (((p2 - p1) / 1440))) dX5_groupOf_23 (fun h => by cases h) rfl
  · refine G_iload_n dX5_groupOf_8 2 rfl rfl ?_
    refine G_sipush (v := 1440) dX5_groupOf_9 (by decide) ?_
    refine G_idiv dX5_groupOf_12 (by decide) ?_
    refine G_goto (tgt := 23) dX5_groupOf_13 (by decide) ?_
    exact G_ret (v := ((p2 / 1440))) dX5_groupOf_23 (fun h => by cases h) rfl
def m_X4_init (M : Mem) (this : Option Nat) (p1 : Option Nat) (p2 : Int32) : Option (Unit × Mem) :=
  oi this (pP M 4 0 this p1 (fun (M1 : Mem) => pI M1 4 1 this p2 (fun (M2 : Mem) => pI M2 4 2 this p2 (fun (M3 : Mem) => rc M3 5 p1 (cl (m_X5_groupOf M3 p1 p2 p2) (fun (x5 : Int32) (M4 : Mem) => pI M4 4 3 this x5 (fun (M6 : Mem) => rt () M6)))))))
abbrev md_X4_init : MD := (RX4, yX4_init, cX4_init, 3, Option.none, 1, 22)
theorem ok_X4_init : MOk md_X4_init 2 := ⟨by decide +kernel, w_507, w_16, ⟨by decide +kernel, by decide +kernel⟩, by decide +kernel, rfl⟩
set_option maxRecDepth 100000 in
set_option maxHeartbeats 4000000 in
theorem con_X4_init (κ : Cfg) (M : Mem) (this : Option Nat) (p1 : Option Nat) (p2 : Int32) : Con κ md_X4_init [rv κ this, rv κ p1, .int p2] M cvV (m_X4_init M this p1 p2) := by
  refine Con.of ok_X4_init (ret_V rfl) (by
    intro v hv
    simp only [List.mem_cons, List.not_mem_nil, or_false] at hv
    rcases hv with rfl | rfl | rfl <;> first | rfl | exact rv_cat _ _) (Nat.le_of_ble_eq_true rfl) ?_
  unfold m_X4_init
  refine G.sub (lv' := [(0, rv κ this), (1, rv κ p1), (2, .int p2)]) [0, 1, 2] rfl ?_
  refine G_aload_n dX4_init_0 0 rfl rfl ?_
  refine G_objInit w_508 w_25 w_26 (Nat.le_of_ble_eq_true rfl) (Nat.le_of_ble_eq_true rfl) (by simp) dX4_init_1 ?_
  refine G_aload_n dX4_init_4 0 rfl rfl ?_
  refine G_aload_n dX4_init_5 1 rfl rfl ?_
  refine G_putP cf_X4 (j := 0) rfl (Or.inl ⟨_, rfl⟩) w_513 (Or.inr ⟨rfl, rfl, rfl⟩) dX4_init_6 (fun M1 => ?_)
  refine G_aload_n dX4_init_9 0 rfl rfl ?_
  refine G_iload_n dX4_init_10 2 rfl rfl ?_
  refine G_putI cf_X4 (j := 1) rfl rfl w_514 (Or.inr ⟨rfl, rfl, rfl⟩) dX4_init_11 (fun M2 => ?_)
  refine G_aload_n dX4_init_14 0 rfl rfl ?_
  refine G_iload_n dX4_init_15 2 rfl rfl ?_
  refine G_putI cf_X4 (j := 2) rfl rfl w_515 (Or.inl rfl) dX4_init_16 (fun M3 => ?_)
  refine G_aload_n dX4_init_19 0 rfl rfl ?_
  refine G_aload_n dX4_init_20 1 rfl rfl ?_
  refine G_iload_n dX4_init_21 2 rfl rfl ?_
  refine G_iload_n dX4_init_22 2 rfl rfl ?_
  refine G_callV cf_X5 ok_X5_groupOf [.int p2, .int p2] [rv κ this] (con_X5_groupOf κ M3 p1 p2 p2) rfl w_509 w_510 w_511 (Nat.le_of_ble_eq_true rfl) (Nat.le_of_ble_eq_true rfl) dX4_init_23 rfl (by simp) (fun x5 M4 => (show G _ _ _ _ _ _ [.int x5, rv κ this] _ from ?_))
  refine G_putI cf_X4 (j := 3) rfl rfl w_517 (Or.inl rfl) dX4_init_26 (fun M6 => ?_)
  exact G_ret (v := ()) dX4_init_29 (fun h => by cases h) rfl
def m_X5_capped (M : Mem) (this : Option Nat) (p1 : Int32) : Option (Int32 × Mem) :=
  dI M 5 3 this (fun (x1 : Int32) => (if x1 ≠ 0 then dI M 5 3 this (fun (x2 : Int32) => rt ((imin p1 x2)) M) else rt p1 M))
abbrev md_X5_capped : MD := (RX5, yX5_capped, cX5_capped, 2, Option.some Jvm.ClassFile.FieldType.int, 1, 21)
theorem ok_X5_capped : MOk md_X5_capped 1 := ⟨by decide +kernel, w_540, w_3, ⟨by decide +kernel, by decide +kernel⟩, by decide +kernel, rfl⟩
set_option maxRecDepth 100000 in
set_option maxHeartbeats 4000000 in
theorem con_X5_capped (κ : Cfg) (M : Mem) (this : Option Nat) (p1 : Int32) : Con κ md_X5_capped [rv κ this, .int p1] M cvI (m_X5_capped M this p1) := by
  refine Con.of ok_X5_capped (ret_I rfl) (by
    intro v hv
    simp only [List.mem_cons, List.not_mem_nil, or_false] at hv
    rcases hv with rfl | rfl <;> first | rfl | exact rv_cat _ _) (Nat.le_of_ble_eq_true rfl) ?_
  unfold m_X5_capped
  refine G.sub (lv' := [(0, rv κ this), (1, .int p1)]) [0, 1] rfl ?_
  refine G_aload_n dX5_capped_0 0 rfl rfl ?_
  refine G_getI cf_X5 (j := 3) rfl w_88 dX5_capped_1 (fun x1 => ?_)
  refine G_if_ne (tgt := 11) dX5_capped_4 (by decide) ?_ ?_
  · refine G_iload_n dX5_capped_11 1 rfl rfl ?_
    refine G_aload_n dX5_capped_12 0 rfl rfl ?_
    refine G_getI cf_X5 (j := 3) rfl w_88 dX5_capped_13 (fun x2 => ?_)
    refine G_min w_541 w_542 w_17 w_543 (Nat.le_of_ble_eq_true rfl) (Nat.le_of_ble_eq_true rfl) (by simp) dX5_capped_16 ?_
    exact G_ret (v := ((imin p1 x2))) dX5_capped_19 (fun h => by cases h) rfl
  · refine G_iload_n dX5_capped_7 1 rfl rfl ?_
    refine G_goto (tgt := 19) dX5_capped_8 (by decide) ?_
    exact G_ret (v := p1) dX5_capped_19 (fun h => by cases h) rfl
def b_X5_bandOfMinute_16 (this : Option Nat) (p1 : Int32) (L16_2 : ((Option Nat) × Int32 × Mem) → Option (Option Nat × Mem)) (a3 : (Option Nat) × Int32 × Mem) : Option (Option Nat × Mem) :=
  (if 6 ≤ a3.2.1 then rt a3.1 a3.2.2 else dI a3.2.2 5 1 this (fun (x5 : Int32) => (if x5 ≤ a3.2.1 then rt a3.1 a3.2.2 else dP a3.2.2 5 0 this (fun (q6 : Option Nat) => aP a3.2.2 110 q6 a3.2.1 (fun (q7 : Option Nat) => dI a3.2.2 0 1 q7 (fun (x8 : Int32) => jn (fun (q10 : Option Nat) (M11 : Mem) => L16_2 (q10, (a3.2.1 + 1), M11)) (fun (J54_8 : Option Nat → Mem → Option (Option Nat × Mem)) => (if (p1 - p1 / 1440 * 1440) < x8 then J54_8 a3.1 a3.2.2 else dP a3.2.2 5 0 this (fun (q12 : Option Nat) => aP a3.2.2 110 q12 a3.2.1 (fun (q13 : Option Nat) => J54_8 q13 a3.2.2))))))))))
def m_X5_bandOfMinute (M : Mem) (this : Option Nat) (p1 : Int32) : Option (Option Nat × Mem) :=
  dP M 5 0 this (fun (q1 : Option Nat) => aP M 110 q1 0 (fun (q2 : Option Nat) => lp (b_X5_bandOfMinute_16 this p1) FU (q2, 1, M)))
abbrev md_X5_bandOfMinute : MD := (RX5, yX5_bandOfMinute, cX5_bandOfMinute, 5, Option.some (Jvm.ClassFile.FieldType.object "ParkingTariff$Band"), 0, 0)
theorem ok_X5_bandOfMinute : MOk md_X5_bandOfMinute 1 := ⟨by decide +kernel, w_547, w_3, ⟨by decide +kernel, by decide +kernel⟩, by decide +kernel, rfl⟩
set_option maxRecDepth 100000 in
set_option maxHeartbeats 4000000 in
theorem con_X5_bandOfMinute (κ : Cfg) (M : Mem) (this : Option Nat) (p1 : Int32) : Con κ md_X5_bandOfMinute [rv κ this, .int p1] M (cvQ κ) (m_X5_bandOfMinute M this p1) := by
  refine Con.of ok_X5_bandOfMinute (ret_Q rfl) (by
    intro v hv
    simp only [List.mem_cons, List.not_mem_nil, or_false] at hv
    rcases hv with rfl | rfl <;> first | rfl | exact rv_cat _ _) (Nat.le_of_ble_eq_true rfl) ?_
  unfold m_X5_bandOfMinute
  refine G.sub (lv' := [(0, rv κ this), (1, .int p1)]) [0, 1] rfl ?_
  refine G_iload_n dX5_bandOfMinute_0 1 rfl rfl ?_
  refine G_sipush (v := 1440) dX5_bandOfMinute_1 (by decide) ?_
  refine G_irem dX5_bandOfMinute_4 (by decide) ?_
  refine G_istore_n (lv' := [(2, .int (p1 - p1 / 1440 * 1440)), (0, rv κ this), (1, .int p1)]) dX5_bandOfMinute_5 rfl (Nat.le_of_ble_eq_true rfl) rfl ?_
  refine G_aload_n dX5_bandOfMinute_6 1 rfl rfl ?_
  refine G_getP cf_X5 (j := 0) rfl w_81 dX5_bandOfMinute_7 (fun q1 => ?_)
  refine G_iconst (v := 0) dX5_bandOfMinute_10 (by decide) ?_
  refine G_aald (tn := 3) (fun _ => rfl) (by decide) dX5_bandOfMinute_11 (fun q2 => ?_)
  refine G_astore_n (lv' := [(3, rv κ q2), (2, .int (p1 - p1 / 1440 * 1440)), (0, rv κ this), (1, .int p1)]) dX5_bandOfMinute_12 rfl (Nat.le_of_ble_eq_true rfl) rfl ?_
  refine G_iconst (v := 1) dX5_bandOfMinute_13 (by decide) ?_
  refine G_istore (lv' := [(4, .int 1), (3, rv κ q2), (2, .int (p1 - p1 / 1440 * 1440)), (0, rv κ this), (1, .int p1)]) dX5_bandOfMinute_14 (Nat.le_of_ble_eq_true rfl) rfl ?_
  refine G.sub (lv' := [(0, rv κ this), (2, .int (p1 - p1 / 1440 * 1440)), (3, rv κ q2), (4, .int 1)]) [3, 2, 1, 0] rfl ?_
  refine G.loop (lvf := fun (a3 : (Option Nat) × Int32 × Mem) => [(0, rv κ this), (2, .int (p1 - p1 / 1440 * 1440)), (3, rv κ a3.1), (4, .int a3.2.1)]) (mf := fun (a3 : (Option Nat) × Int32 × Mem) => a3.2.2) (fun L16_2 hL16_2 a3 => ?_) FU (q2, 1, M)
  unfold b_X5_bandOfMinute_16
  refine G_iload dX5_bandOfMinute_16 3 rfl ?_
  refine G_bipush (v := 6) dX5_bandOfMinute_18 (by decide) ?_
  refine G_icmp_ge (tgt := 60) dX5_bandOfMinute_20 (by decide) ?_ ?_
  · refine G_aload_n dX5_bandOfMinute_60 2 rfl rfl ?_
    exact G_ret (v := a3.1) dX5_bandOfMinute_61 (fun h => by cases h) rfl
  · refine G_iload dX5_bandOfMinute_23 3 rfl ?_
    refine G_aload_n dX5_bandOfMinute_25 0 rfl rfl ?_
    refine G_getI cf_X5 (j := 1) rfl w_83 dX5_bandOfMinute_26 (fun x5 => ?_)
    refine G_icmp_ge (tgt := 60) dX5_bandOfMinute_29 (by decide) ?_ ?_
    · refine G_aload_n dX5_bandOfMinute_60 2 rfl rfl ?_
      exact G_ret (v := a3.1) dX5_bandOfMinute_61 (fun h => by cases h) rfl
    · refine G_aload_n dX5_bandOfMinute_32 0 rfl rfl ?_
      refine G_getP cf_X5 (j := 0) rfl w_81 dX5_bandOfMinute_33 (fun q6 => ?_)
      refine G_iload dX5_bandOfMinute_36 3 rfl ?_
      refine G_aald (tn := 3) (fun _ => rfl) (by decide) dX5_bandOfMinute_38 (fun q7 => ?_)
      refine G_getI cf_X0 (j := 1) rfl w_58 dX5_bandOfMinute_39 (fun x8 => ?_)
      refine G_iload_n dX5_bandOfMinute_42 1 rfl rfl ?_
      refine G.jn (P := (fun (J : Option Nat → Mem → Option (Option Nat × Mem)) => ∀ (q10 : Option Nat) (M11 : Mem), G κ md_X5_bandOfMinute (cvQ κ) (J q10 M11) 54 [(0, rv κ this), (2, .int (p1 - p1 / 1440 * 1440)), (3, rv κ q10), (4, .int a3.2.1)] [] M11)) ?_ ?_
      · intro q10 M11
        refine G_iinc (v := (a3.2.1 + 1)) (lv' := [(4, .int (a3.2.1 + 1)), (0, rv κ this), (2, .int (p1 - p1 / 1440 * 1440)), (3, rv κ q10)]) dX5_bandOfMinute_54 3 rfl (congrArg (fun z9 : Int32 => a3.2.1 + z9) (by decide : Int32.ofInt 1 = 1)) (Nat.le_of_ble_eq_true rfl) rfl ?_
        refine G_goto (tgt := 16) dX5_bandOfMinute_57 (by decide) ?_
        exact G.sub [1, 2, 3, 0] rfl (hL16_2 _)
      · intro J54_8 hJ54_8
        refine G_icmp_gt (tgt := 54) dX5_bandOfMinute_43 (by decide) ?_ ?_
        · exact G.sub [0, 1, 2, 3] rfl (hJ54_8 _ _)
        · refine G_aload_n dX5_bandOfMinute_46 0 rfl rfl ?_
          refine G_getP cf_X5 (j := 0) rfl w_81 dX5_bandOfMinute_47 (fun q12 => ?_)
          refine G_iload dX5_bandOfMinute_50 3 rfl ?_
          refine G_aald (tn := 3) (fun _ => rfl) (by decide) dX5_bandOfMinute_52 (fun q13 => ?_)
          refine G_astore_n (lv' := [(3, rv κ q13), (0, rv κ this), (2, .int (p1 - p1 / 1440 * 1440)), (4, .int a3.2.1)]) dX5_bandOfMinute_53 rfl (Nat.le_of_ble_eq_true rfl) rfl ?_
          exact G.sub [1, 2, 0, 3] rfl (hJ54_8 _ _)
def m_X4_addUnit (M : Mem) (this : Option Nat) : Option (Unit × Mem) :=
  dP M 4 0 this (fun (q1 : Option Nat) => dI M 4 1 this (fun (x2 : Int32) => dI M 4 2 this (fun (x3 : Int32) => rc M 5 q1 (cl (m_X5_groupOf M q1 x2 x3) (fun (x5 : Int32) (M4 : Mem) => dI M4 4 3 this (fun (x6 : Int32) => jn (fun (M8 : Mem) => dP M8 4 0 this (fun (q9 : Option Nat) => dI M8 4 2 this (fun (x10 : Int32) => rc M8 5 q9 (cl (m_X5_bandOfMinute M8 q9 x10) (fun (q12 : Option Nat) (M11 : Mem) => dI M11 4 5 this (fun (x13 : Int32) => dI M11 0 2 q12 (fun (x14 : Int32) => pI M11 4 5 this ((x13 + x14)) (fun (M15 : Mem) => dI M15 4 2 this (fun (x16 : Int32) => dI M15 0 3 q12 (fun (x17 : Int32) => pI M15 4 2 this ((x16 + x17)) (fun (M18 : Mem) => rt () M18))))))))))) (fun (J54_6 : Mem → Option (Unit × Mem)) => (if x5 = x6 then J54_6 M4 else dI M4 4 4 this (fun (x19 : Int32) => dP M4 4 0 this (fun (q20 : Option Nat) => dI M4 4 5 this (fun (x21 : Int32) => rc M4 5 q20 (cl (m_X5_capped M4 q20 x21) (fun (x23 : Int32) (M22 : Mem) => pI M22 4 4 this ((x19 + x23)) (fun (M24 : Mem) => pI M24 4 5 this 0 (fun (M25 : Mem) => pI M25 4 3 this x5 (fun (M26 : Mem) => J54_6 M26))))))))))))))))
abbrev md_X4_addUnit : MD := (RX4, yX4_addUnit, cX4_addUnit, 3, Option.none, 2, 42)
theorem ok_X4_addUnit : MOk md_X4_addUnit 0 := ⟨by decide +kernel, w_536, w_16, ⟨by decide +kernel, by decide +kernel⟩, by decide +kernel, rfl⟩
set_option maxRecDepth 100000 in
set_option maxHeartbeats 4000000 in
theorem con_X4_addUnit (κ : Cfg) (M : Mem) (this : Option Nat) : Con κ md_X4_addUnit [rv κ this] M cvV (m_X4_addUnit M this) := by
  refine Con.of ok_X4_addUnit (ret_V rfl) (by
    intro v hv
    simp only [List.mem_cons, List.not_mem_nil, or_false] at hv
    subst hv; first | rfl | exact rv_cat _ _) (Nat.le_of_ble_eq_true rfl) ?_
  unfold m_X4_addUnit
  refine G.sub (lv' := [(0, rv κ this)]) [0] rfl ?_
  refine G_aload_n dX4_addUnit_0 0 rfl rfl ?_
  refine G_getP cf_X4 (j := 0) rfl w_513 dX4_addUnit_1 (fun q1 => ?_)
  refine G_aload_n dX4_addUnit_4 0 rfl rfl ?_
  refine G_getI cf_X4 (j := 1) rfl w_514 dX4_addUnit_5 (fun x2 => ?_)
  refine G_aload_n dX4_addUnit_8 0 rfl rfl ?_
  refine G_getI cf_X4 (j := 2) rfl w_515 dX4_addUnit_9 (fun x3 => ?_)
  refine G_callV cf_X5 ok_X5_groupOf [.int x2, .int x3] [] (con_X5_groupOf κ M q1 x2 x3) rfl w_509 w_510 w_511 (Nat.le_of_ble_eq_true rfl) (Nat.le_of_ble_eq_true rfl) dX4_addUnit_12 rfl (by simp) (fun x5 M4 => (show G _ _ _ _ _ _ [.int x5] _ from ?_))
  refine G_istore_n (lv' := [(1, .int x5), (0, rv κ this)]) dX4_addUnit_15 rfl (Nat.le_of_ble_eq_true rfl) rfl ?_
  refine G_iload_n dX4_addUnit_16 0 rfl rfl ?_
  refine G_aload_n dX4_addUnit_17 1 rfl rfl ?_
  refine G_getI cf_X4 (j := 3) rfl w_517 dX4_addUnit_18 (fun x6 => ?_)
  refine G.jn (P := (fun (J : Mem → Option (Unit × Mem)) => ∀ (M8 : Mem), G κ md_X4_addUnit cvV (J M8) 54 [(0, rv κ this)] [] M8)) ?_ ?_
  · intro M8
    refine G_aload_n dX4_addUnit_54 0 rfl rfl ?_
    refine G_getP cf_X4 (j := 0) rfl w_513 dX4_addUnit_55 (fun q9 => ?_)
    refine G_aload_n dX4_addUnit_58 0 rfl rfl ?_
    refine G_getI cf_X4 (j := 2) rfl w_515 dX4_addUnit_59 (fun x10 => ?_)
    refine G_callV cf_X5 ok_X5_bandOfMinute [.int x10] [] (con_X5_bandOfMinute κ M8 q9 x10) rfl w_544 w_545 w_546 (Nat.le_of_ble_eq_true rfl) (Nat.le_of_ble_eq_true rfl) dX4_addUnit_62 rfl (by simp) (fun q12 M11 => (show G _ _ _ _ _ _ [rv κ q12] _ from ?_))
    refine G_astore_n (lv' := [(2, rv κ q12), (0, rv κ this)]) dX4_addUnit_65 rfl (Nat.le_of_ble_eq_true rfl) rfl ?_
    refine G_aload_n dX4_addUnit_66 1 rfl rfl ?_
    refine G_dup dX4_addUnit_67 (rv_cat _ _) ?_
    refine G_getI cf_X4 (j := 5) rfl w_519 dX4_addUnit_68 (fun x13 => ?_)
    refine G_aload_n dX4_addUnit_71 0 rfl rfl ?_
    refine G_getI cf_X0 (j := 2) rfl w_61 dX4_addUnit_72 (fun x14 => ?_)
    refine G_iadd dX4_addUnit_75 ?_
    refine G_putI cf_X4 (j := 5) rfl rfl w_519 (Or.inl rfl) dX4_addUnit_76 (fun M15 => ?_)
    refine G_aload_n dX4_addUnit_79 1 rfl rfl ?_
    refine G_dup dX4_addUnit_80 (rv_cat _ _) ?_
    refine G_getI cf_X4 (j := 2) rfl w_515 dX4_addUnit_81 (fun x16 => ?_)
    refine G_aload_n dX4_addUnit_84 0 rfl rfl ?_
    refine G_getI cf_X0 (j := 3) rfl w_63 dX4_addUnit_85 (fun x17 => ?_)
    refine G_iadd dX4_addUnit_88 ?_
    refine G_putI cf_X4 (j := 2) rfl rfl w_515 (Or.inl rfl) dX4_addUnit_89 (fun M18 => ?_)
    exact G_ret (v := ()) dX4_addUnit_92 (fun h => by cases h) rfl
  · intro J54_6 hJ54_6
    refine G_icmp_eq (tgt := 54) dX4_addUnit_21 (by decide) ?_ ?_
    · exact G.sub [1] rfl (hJ54_6 _)
    · refine G_aload_n dX4_addUnit_24 1 rfl rfl ?_
      refine G_dup dX4_addUnit_25 (rv_cat _ _) ?_
      refine G_getI cf_X4 (j := 4) rfl w_518 dX4_addUnit_26 (fun x19 => ?_)
      refine G_aload_n dX4_addUnit_29 1 rfl rfl ?_
      refine G_getP cf_X4 (j := 0) rfl w_513 dX4_addUnit_30 (fun q20 => ?_)
      refine G_aload_n dX4_addUnit_33 1 rfl rfl ?_
      refine G_getI cf_X4 (j := 5) rfl w_519 dX4_addUnit_34 (fun x21 => ?_)
      refine G_callV cf_X5 ok_X5_capped [.int x21] [.int x19, rv κ this] (con_X5_capped κ M4 q20 x21) rfl w_537 w_538 w_539 (Nat.le_of_ble_eq_true rfl) (Nat.le_of_ble_eq_true rfl) dX4_addUnit_37 rfl (by simp) (fun x23 M22 => (show G _ _ _ _ _ _ [.int x23, .int x19, rv κ this] _ from ?_))
      refine G_iadd dX4_addUnit_40 ?_
      refine G_putI cf_X4 (j := 4) rfl rfl w_518 (Or.inl rfl) dX4_addUnit_41 (fun M24 => ?_)
      refine G_aload_n dX4_addUnit_44 1 rfl rfl ?_
      refine G_iconst (v := 0) dX4_addUnit_45 (by decide) ?_
      refine G_putI cf_X4 (j := 5) rfl rfl w_519 (Or.inl rfl) dX4_addUnit_46 (fun M25 => ?_)
      refine G_aload_n dX4_addUnit_49 1 rfl rfl ?_
      refine G_iload_n dX4_addUnit_50 0 rfl rfl ?_
      refine G_putI cf_X4 (j := 3) rfl rfl w_517 (Or.inl rfl) dX4_addUnit_51 (fun M26 => ?_)
      exact G.sub [1] rfl (hJ54_6 _)
def m_X4_amount (M : Mem) (this : Option Nat) : Option (Int32 × Mem) :=
  dI M 4 4 this (fun (x1 : Int32) => dP M 4 0 this (fun (q2 : Option Nat) => dI M 4 5 this (fun (x3 : Int32) => rc M 5 q2 (cl (m_X5_capped M q2 x3) (fun (x5 : Int32) (M4 : Mem) => rt ((x1 + x5)) M4)))))
abbrev md_X4_amount : MD := (RX4, yX4_amount, cX4_amount, 1, Option.some Jvm.ClassFile.FieldType.int, 2, 42)
theorem ok_X4_amount : MOk md_X4_amount 0 := ⟨by decide +kernel, w_551, w_16, ⟨by decide +kernel, by decide +kernel⟩, by decide +kernel, rfl⟩
set_option maxRecDepth 100000 in
set_option maxHeartbeats 4000000 in
theorem con_X4_amount (κ : Cfg) (M : Mem) (this : Option Nat) : Con κ md_X4_amount [rv κ this] M cvI (m_X4_amount M this) := by
  refine Con.of ok_X4_amount (ret_I rfl) (by
    intro v hv
    simp only [List.mem_cons, List.not_mem_nil, or_false] at hv
    subst hv; first | rfl | exact rv_cat _ _) (Nat.le_of_ble_eq_true rfl) ?_
  unfold m_X4_amount
  refine G.sub (lv' := [(0, rv κ this)]) [0] rfl ?_
  refine G_aload_n dX4_amount_0 0 rfl rfl ?_
  refine G_getI cf_X4 (j := 4) rfl w_518 dX4_amount_1 (fun x1 => ?_)
  refine G_aload_n dX4_amount_4 0 rfl rfl ?_
  refine G_getP cf_X4 (j := 0) rfl w_513 dX4_amount_5 (fun q2 => ?_)
  refine G_aload_n dX4_amount_8 0 rfl rfl ?_
  refine G_getI cf_X4 (j := 5) rfl w_519 dX4_amount_9 (fun x3 => ?_)
  refine G_callV cf_X5 ok_X5_capped [.int x3] [.int x1] (con_X5_capped κ M q2 x3) rfl w_537 w_538 w_539 (Nat.le_of_ble_eq_true rfl) (Nat.le_of_ble_eq_true rfl) dX4_amount_12 rfl (by simp) (fun x5 M4 => (show G _ _ _ _ _ _ [.int x5, .int x1] _ from ?_))
  refine G_iadd dX4_amount_15 ?_
  exact G_ret (v := ((x1 + x5))) dX4_amount_16 (fun h => by cases h) rfl
def b_X5_feeOfStay_25 (p2 : Int32) (q2 : Option Nat) (J51_4 : Mem → Option (Int32 × Mem)) (L25_8 : (Int32 × Mem) → Option (Int32 × Mem)) (a9 : Int32 × Mem) : Option (Int32 × Mem) :=
  (if 20000 ≤ a9.1 then J51_4 a9.2 else dI a9.2 4 2 q2 (fun (x11 : Int32) => (if p2 ≤ x11 then J51_4 a9.2 else rc a9.2 4 q2 (cl (m_X4_addUnit a9.2 q2) (fun (_u : Unit) (M12 : Mem) => L25_8 ((a9.1 + 1), M12))))))
def m_X5_feeOfStay (M : Mem) (this : Option Nat) (p1 : Int32) (p2 : Int32) : Option (Int32 × Mem) :=
  dI M 5 2 this (fun (x1 : Int32) => (if x1 < (p2 - p1) then nO M 4 6 (fun (q2 : Option Nat) (M3 : Mem) => rc M3 4 q2 (cl (m_X4_init M3 q2 this p1) (fun (_u : Unit) (M4 : Mem) => jn (fun (M6 : Mem) => rc M6 4 q2 (cl (m_X4_amount M6 q2) (fun (x8 : Int32) (M7 : Mem) => rt x8 M7))) (fun (J51_4 : Mem → Option (Int32 × Mem)) => lp (b_X5_feeOfStay_25 p2 q2 J51_4) FU (0, M4))))) else rt 0 M))
abbrev md_X5_feeOfStay : MD := (RX5, yX5_feeOfStay, cX5_feeOfStay, 5, Option.some Jvm.ClassFile.FieldType.int, 3, 64)
theorem ok_X5_feeOfStay : MOk md_X5_feeOfStay 2 := ⟨by decide +kernel, w_502, w_3, ⟨by decide +kernel, by decide +kernel⟩, by decide +kernel, rfl⟩
set_option maxRecDepth 100000 in
set_option maxHeartbeats 4000000 in
theorem con_X5_feeOfStay (κ : Cfg) (M : Mem) (this : Option Nat) (p1 : Int32) (p2 : Int32) : Con κ md_X5_feeOfStay [rv κ this, .int p1, .int p2] M cvI (m_X5_feeOfStay M this p1 p2) := by
  refine Con.of ok_X5_feeOfStay (ret_I rfl) (by
    intro v hv
    simp only [List.mem_cons, List.not_mem_nil, or_false] at hv
    rcases hv with rfl | rfl | rfl <;> first | rfl | exact rv_cat _ _) (Nat.le_of_ble_eq_true rfl) ?_
  unfold m_X5_feeOfStay
  refine G.sub (lv' := [(0, rv κ this), (1, .int p1), (2, .int p2)]) [0, 1, 2] rfl ?_
  refine G_iload_n dX5_feeOfStay_0 2 rfl rfl ?_
  refine G_iload_n dX5_feeOfStay_1 1 rfl rfl ?_
  refine G_isub dX5_feeOfStay_2 ?_
  refine G_aload_n dX5_feeOfStay_3 0 rfl rfl ?_
  refine G_getI cf_X5 (j := 2) rfl w_86 dX5_feeOfStay_4 (fun x1 => ?_)
  refine G_icmp_gt (tgt := 12) dX5_feeOfStay_7 (by decide) ?_ ?_
  · refine G_new cf_X4 cd_X4 w_503 w_504 w_16 dX5_feeOfStay_12 (fun q2 M3 => ?_)
    refine G_dup dX5_feeOfStay_15 (rv_cat _ _) ?_
    refine G_aload_n dX5_feeOfStay_16 0 rfl rfl ?_
    refine G_iload_n dX5_feeOfStay_17 1 rfl rfl ?_
    refine G_callI ok_X4_init [rv κ this, .int p1] [rv κ q2] (con_X4_init κ M3 q2 this p1) rfl w_505 w_506 rfl rfl (Nat.le_of_ble_eq_true rfl) (Nat.le_of_ble_eq_true rfl) dX5_feeOfStay_18 rfl (by simp) (fun _u M4 => (show G _ _ _ _ _ _ [rv κ q2] _ from ?_))
    refine G_astore_n (lv' := [(3, rv κ q2), (0, rv κ this), (1, .int p1), (2, .int p2)]) dX5_feeOfStay_21 rfl (Nat.le_of_ble_eq_true rfl) rfl ?_
    refine G_iconst (v := 0) dX5_feeOfStay_22 (by decide) ?_
    refine G_istore (lv' := [(4, .int 0), (3, rv κ q2), (0, rv κ this), (1, .int p1), (2, .int p2)]) dX5_feeOfStay_23 (Nat.le_of_ble_eq_true rfl) rfl ?_
    refine G.jn (P := (fun (J : Mem → Option (Int32 × Mem)) => ∀ (M6 : Mem), G κ md_X5_feeOfStay cvI (J M6) 51 [(3, rv κ q2)] [] M6)) ?_ ?_
    · intro M6
      refine G_aload_n dX5_feeOfStay_51 0 rfl rfl ?_
      refine G_callV cf_X4 ok_X4_amount [] [] (con_X4_amount κ M6 q2) rfl w_548 w_549 w_550 (Nat.le_of_ble_eq_true rfl) (Nat.le_of_ble_eq_true rfl) dX5_feeOfStay_52 rfl (by simp) (fun x8 M7 => (show G _ _ _ _ _ _ [.int x8] _ from ?_))
      exact G_ret (v := x8) dX5_feeOfStay_55 (fun h => by cases h) rfl
    · intro J51_4 hJ51_4
      refine G.sub (lv' := [(2, .int p2), (3, rv κ q2), (4, .int 0)]) [4, 1, 0] rfl ?_
      refine G.loop (lvf := fun (a9 : Int32 × Mem) => [(2, .int p2), (3, rv κ q2), (4, .int a9.1)]) (mf := fun (a9 : Int32 × Mem) => a9.2) (fun L25_8 hL25_8 a9 => ?_) FU (0, M4)
      unfold b_X5_feeOfStay_25
      refine G_iload dX5_feeOfStay_25 2 rfl ?_
      refine G_sipush (v := 20000) dX5_feeOfStay_27 (by decide) ?_
      refine G_icmp_ge (tgt := 51) dX5_feeOfStay_30 (by decide) ?_ ?_
      · exact G.sub [1] rfl (hJ51_4 _)
      · refine G_aload_n dX5_feeOfStay_33 1 rfl rfl ?_
        refine G_getI cf_X4 (j := 2) rfl w_516 dX5_feeOfStay_34 (fun x11 => ?_)
        refine G_iload_n dX5_feeOfStay_37 0 rfl rfl ?_
        refine G_icmp_ge (tgt := 51) dX5_feeOfStay_38 (by decide) ?_ ?_
        · exact G.sub [1] rfl (hJ51_4 _)
        · refine G_aload_n dX5_feeOfStay_41 1 rfl rfl ?_
          refine G_callV cf_X4 ok_X4_addUnit [] [] (con_X4_addUnit κ a9.2 q2) rfl w_533 w_534 w_535 (Nat.le_of_ble_eq_true rfl) (Nat.le_of_ble_eq_true rfl) dX5_feeOfStay_42 rfl (by simp) (fun _u M12 => (show G _ _ _ _ _ _ [] _ from ?_))
          refine G_iinc (v := (a9.1 + 1)) (lv' := [(4, .int (a9.1 + 1)), (2, .int p2), (3, rv κ q2)]) dX5_feeOfStay_45 2 rfl (congrArg (fun z9 : Int32 => a9.1 + z9) (by decide : Int32.ofInt 1 = 1)) (Nat.le_of_ble_eq_true rfl) rfl ?_
          refine G_goto (tgt := 25) dX5_feeOfStay_48 (by decide) ?_
          exact G.sub [1, 2, 0] rfl (hL25_8 _)
  · refine G_iconst (v := 0) dX5_feeOfStay_10 (by decide) ?_
    exact G_ret (v := 0) dX5_feeOfStay_11 (fun h => by cases h) rfl
def m_X8_voucherNumber (M : Mem) (this : Option Nat) (p1 : Int32) : Option (Int32 × Mem) :=
  cl (m_X10_within M p1 0 3) (fun (x2 : Int32) (M1 : Mem) => (if x2 = 0 then rt ((-1)) M1 else dP M1 8 0 this (fun (q3 : Option Nat) => aI M1 100 q3 p1 (fun (x4 : Int32) => rt x4 M1))))
abbrev md_X8_voucherNumber : MD := (RX8, yX8_voucherNumber, cX8_voucherNumber, 2, Option.some Jvm.ClassFile.FieldType.int, 1, 22)
theorem ok_X8_voucherNumber : MOk md_X8_voucherNumber 1 := ⟨by decide +kernel, w_743, w_8, ⟨by decide +kernel, by decide +kernel⟩, by decide +kernel, rfl⟩
set_option maxRecDepth 100000 in
set_option maxHeartbeats 4000000 in
theorem con_X8_voucherNumber (κ : Cfg) (M : Mem) (this : Option Nat) (p1 : Int32) : Con κ md_X8_voucherNumber [rv κ this, .int p1] M cvI (m_X8_voucherNumber M this p1) := by
  refine Con.of ok_X8_voucherNumber (ret_I rfl) (by
    intro v hv
    simp only [List.mem_cons, List.not_mem_nil, or_false] at hv
    rcases hv with rfl | rfl <;> first | rfl | exact rv_cat _ _) (Nat.le_of_ble_eq_true rfl) ?_
  unfold m_X8_voucherNumber
  refine G.sub (lv' := [(0, rv κ this), (1, .int p1)]) [0, 1] rfl ?_
  refine G_iload_n dX8_voucherNumber_0 1 rfl rfl ?_
  refine G_iconst (v := 0) dX8_voucherNumber_1 (by decide) ?_
  refine G_iconst (v := 3) dX8_voucherNumber_2 (by decide) ?_
  refine G_callSN ok_X10_within [.int p1, .int 0, .int 3] [] (con_X10_within κ M p1 0 3) rfl (by simp [nestL, mdO, mdY]) w_320 (Nat.le_of_ble_eq_true rfl) (Nat.le_of_ble_eq_true rfl) dX8_voucherNumber_3 rfl (by simp) (fun x2 M1 => (show G _ _ _ _ _ _ [.int x2] _ from ?_))
  refine G_if_eq (tgt := 18) dX8_voucherNumber_6 (by decide) ?_ ?_
  · refine G_iconst (v := (-1)) dX8_voucherNumber_18 (by decide) ?_
    exact G_ret (v := ((-1))) dX8_voucherNumber_19 (fun h => by cases h) rfl
  · refine G_aload_n dX8_voucherNumber_9 0 rfl rfl ?_
    refine G_getP cf_X8 (j := 0) rfl w_171 dX8_voucherNumber_10 (fun q3 => ?_)
    refine G_iload_n dX8_voucherNumber_13 1 rfl rfl ?_
    refine G_iald dX8_voucherNumber_14 (fun x4 => ?_)
    refine G_goto (tgt := 19) dX8_voucherNumber_15 (by decide) ?_
    exact G_ret (v := x4) dX8_voucherNumber_19 (fun h => by cases h) rfl
def m_X5_property (M : Mem) (this : Option Nat) (p1 : Int32) : Option (Int32 × Mem) :=
  (if p1 = 0 then dI M 5 2 this (fun (x1 : Int32) => rt x1 M) else (if p1 = 1 then dI M 5 3 this (fun (x2 : Int32) => rt x2 M) else (if p1 = 2 then dI M 5 4 this (fun (x3 : Int32) => rt x3 M) else (if p1 = 3 then dI M 5 5 this (fun (x4 : Int32) => rt x4 M) else dI M 5 1 this (fun (x5 : Int32) => rt x5 M)))))
abbrev md_X5_property : MD := (RX5, yX5_property, cX5_property, 2, Option.some Jvm.ClassFile.FieldType.int, 0, 0)
theorem ok_X5_property : MOk md_X5_property 1 := ⟨by decide +kernel, w_481, w_3, ⟨by decide +kernel, by decide +kernel⟩, by decide +kernel, rfl⟩
set_option maxRecDepth 100000 in
set_option maxHeartbeats 4000000 in
theorem con_X5_property (κ : Cfg) (M : Mem) (this : Option Nat) (p1 : Int32) : Con κ md_X5_property [rv κ this, .int p1] M cvI (m_X5_property M this p1) := by
  refine Con.of ok_X5_property (ret_I rfl) (by
    intro v hv
    simp only [List.mem_cons, List.not_mem_nil, or_false] at hv
    rcases hv with rfl | rfl <;> first | rfl | exact rv_cat _ _) (Nat.le_of_ble_eq_true rfl) ?_
  unfold m_X5_property
  refine G.sub (lv' := [(0, rv κ this), (1, .int p1)]) [0, 1] rfl ?_
  refine G_iload_n dX5_property_0 1 rfl rfl ?_
  refine G.cond (fun hx1_0 => ?_) (fun hn1_0 => ?_)
  · refine G_tin (n := 0) (tgt := 32) dX5_property_1 (by rw [hx1_0]; rfl) (by decide) (by decide) rfl (by decide) ?_
    refine G_aload_n dX5_property_32 0 rfl rfl ?_
    refine G_getI cf_X5 (j := 2) rfl w_86 dX5_property_33 (fun x1 => ?_)
    exact G_ret (v := x1) dX5_property_36 (fun h => by cases h) rfl
  refine G.cond (fun hx1_1 => ?_) (fun hn1_1 => ?_)
  · refine G_tin (n := 1) (tgt := 37) dX5_property_1 (by rw [hx1_1]; rfl) (by decide) (by decide) rfl (by decide) ?_
    refine G_aload_n dX5_property_37 0 rfl rfl ?_
    refine G_getI cf_X5 (j := 3) rfl w_88 dX5_property_38 (fun x2 => ?_)
    exact G_ret (v := x2) dX5_property_41 (fun h => by cases h) rfl
  refine G.cond (fun hx1_2 => ?_) (fun hn1_2 => ?_)
  · refine G_tin (n := 2) (tgt := 42) dX5_property_1 (by rw [hx1_2]; rfl) (by decide) (by decide) rfl (by decide) ?_
    refine G_aload_n dX5_property_42 0 rfl rfl ?_
    refine G_getI cf_X5 (j := 4) rfl w_90 dX5_property_43 (fun x3 => ?_)
    exact G_ret (v := x3) dX5_property_46 (fun h => by cases h) rfl
  refine G.cond (fun hx1_3 => ?_) (fun hn1_3 => ?_)
  · refine G_tin (n := 3) (tgt := 47) dX5_property_1 (by rw [hx1_3]; rfl) (by decide) (by decide) rfl (by decide) ?_
    refine G_aload_n dX5_property_47 0 rfl rfl ?_
    refine G_getI cf_X5 (j := 5) rfl w_92 dX5_property_48 (fun x4 => ?_)
    exact G_ret (v := x4) dX5_property_51 (fun h => by cases h) rfl
  refine G_tout (tgt := 52) dX5_property_1 (by
      have hz0 : (p1).toInt ≠ 0 := fun h => hn1_0 (Int32.toInt_inj.mp (h.trans rfl))
      have hz1 : (p1).toInt ≠ 1 := fun h => hn1_1 (Int32.toInt_inj.mp (h.trans rfl))
      have hz2 : (p1).toInt ≠ 2 := fun h => hn1_2 (Int32.toInt_inj.mp (h.trans rfl))
      have hz3 : (p1).toInt ≠ 3 := fun h => hn1_3 (Int32.toInt_inj.mp (h.trans rfl))
      omega) (by decide) ?_
  refine G_aload_n dX5_property_52 0 rfl rfl ?_
  refine G_getI cf_X5 (j := 1) rfl w_83 dX5_property_53 (fun x5 => ?_)
  exact G_ret (v := x5) dX5_property_56 (fun h => by cases h) rfl
def m_X5_bandAt (M : Mem) (this : Option Nat) (p1 : Int32) : Option (Option Nat × Mem) :=
  cl (m_X10_within M p1 0 5) (fun (x2 : Int32) (M1 : Mem) => jn (fun (x4 : Int32) (M5 : Mem) => (if x4 = 0 then rt none M5 else dP M5 5 0 this (fun (q6 : Option Nat) => aP M5 110 q6 p1 (fun (q7 : Option Nat) => rt q7 M5)))) (fun (J22_2 : Int32 → Mem → Option (Option Nat × Mem)) => jn (fun (M9 : Mem) => J22_2 0 M9) (fun (J21_7 : Mem → Option (Option Nat × Mem)) => (if x2 = 0 then J21_7 M1 else dI M1 5 1 this (fun (x10 : Int32) => (if x10 ≤ p1 then J21_7 M1 else J22_2 1 M1))))))
abbrev md_X5_bandAt : MD := (RX5, yX5_bandAt, cX5_bandAt, 3, Option.some (Jvm.ClassFile.FieldType.object "ParkingTariff$Band"), 1, 22)
theorem ok_X5_bandAt : MOk md_X5_bandAt 1 := ⟨by decide +kernel, w_453, w_3, ⟨by decide +kernel, by decide +kernel⟩, by decide +kernel, rfl⟩
set_option maxRecDepth 100000 in
set_option maxHeartbeats 4000000 in
theorem con_X5_bandAt (κ : Cfg) (M : Mem) (this : Option Nat) (p1 : Int32) : Con κ md_X5_bandAt [rv κ this, .int p1] M (cvQ κ) (m_X5_bandAt M this p1) := by
  refine Con.of ok_X5_bandAt (ret_Q rfl) (by
    intro v hv
    simp only [List.mem_cons, List.not_mem_nil, or_false] at hv
    rcases hv with rfl | rfl <;> first | rfl | exact rv_cat _ _) (Nat.le_of_ble_eq_true rfl) ?_
  unfold m_X5_bandAt
  refine G.sub (lv' := [(0, rv κ this), (1, .int p1)]) [0, 1] rfl ?_
  refine G_iload_n dX5_bandAt_0 1 rfl rfl ?_
  refine G_iconst (v := 0) dX5_bandAt_1 (by decide) ?_
  refine G_iconst (v := 5) dX5_bandAt_2 (by decide) ?_
  refine G_callSN ok_X10_within [.int p1, .int 0, .int 5] [] (con_X10_within κ M p1 0 5) rfl (by simp [nestL, mdO, mdY]) w_320 (Nat.le_of_ble_eq_true rfl) (Nat.le_of_ble_eq_true rfl) dX5_bandAt_3 rfl (by simp) (fun x2 M1 => (show G _ _ _ _ _ _ [.int x2] _ from ?_))
  refine G.jn (P := (fun (J : Int32 → Mem → Option (Option Nat × Mem)) => ∀ (x4 : Int32) (M5 : Mem), G κ md_X5_bandAt (cvQ κ) (J x4 M5) 22 [(0, rv κ this), (1, .int p1)] [.int x4] M5)) ?_ ?_
  · intro x4 M5
    refine G_istore_n (lv' := [(2, .int x4), (0, rv κ this), (1, .int p1)]) dX5_bandAt_22 rfl (Nat.le_of_ble_eq_true rfl) rfl ?_
    refine G_iload_n dX5_bandAt_23 0 rfl rfl ?_
    refine G_if_eq (tgt := 36) dX5_bandAt_24 (by decide) ?_ ?_
    · refine G_null dX5_bandAt_36 ?_
      exact G_ret (v := none) dX5_bandAt_37 (fun h => by cases h) rfl
    · refine G_aload_n dX5_bandAt_27 1 rfl rfl ?_
      refine G_getP cf_X5 (j := 0) rfl w_81 dX5_bandAt_28 (fun q6 => ?_)
      refine G_iload_n dX5_bandAt_31 2 rfl rfl ?_
      refine G_aald (tn := 3) (fun _ => rfl) (by decide) dX5_bandAt_32 (fun q7 => ?_)
      refine G_goto (tgt := 37) dX5_bandAt_33 (by decide) ?_
      exact G_ret (v := q7) dX5_bandAt_37 (fun h => by cases h) rfl
  · intro J22_2 hJ22_2
    refine G.jn (P := (fun (J : Mem → Option (Option Nat × Mem)) => ∀ (M9 : Mem), G κ md_X5_bandAt (cvQ κ) (J M9) 21 [(0, rv κ this), (1, .int p1)] [] M9)) ?_ ?_
    · intro M9
      refine G_iconst (v := 0) dX5_bandAt_21 (by decide) ?_
      exact G.sub [0, 1] rfl (hJ22_2 _ _)
    · intro J21_7 hJ21_7
      refine G_if_eq (tgt := 21) dX5_bandAt_6 (by decide) ?_ ?_
      · exact G.sub [0, 1] rfl (hJ21_7 _)
      · refine G_iload_n dX5_bandAt_9 1 rfl rfl ?_
        refine G_aload_n dX5_bandAt_10 0 rfl rfl ?_
        refine G_getI cf_X5 (j := 1) rfl w_83 dX5_bandAt_11 (fun x10 => ?_)
        refine G_icmp_ge (tgt := 21) dX5_bandAt_14 (by decide) ?_ ?_
        · exact G.sub [0, 1] rfl (hJ21_7 _)
        · refine G_iconst (v := 1) dX5_bandAt_17 (by decide) ?_
          refine G_goto (tgt := 22) dX5_bandAt_18 (by decide) ?_
          exact G.sub [0, 1] rfl (hJ22_2 _ _)
def b_X5_latestEnd_34 (p1 : Int32) (x2 : Int32) (x3 : Int32) (q4 : Option Nat) (J87_6 : Mem → Option (Int32 × Mem)) (L34_8 : (Int32 × Mem) → Option (Int32 × Mem)) (a9 : Int32 × Mem) : Option (Int32 × Mem) :=
  (if 20000 ≤ a9.1 then J87_6 a9.2 else dI a9.2 4 2 q4 (fun (x11 : Int32) => (if 99999 ≤ x11 then J87_6 a9.2 else dI a9.2 4 2 q4 (fun (x12 : Int32) => rc a9.2 4 q4 (cl (m_X4_addUnit a9.2 q4) (fun (_u : Unit) (M13 : Mem) => rc M13 4 q4 (cl (m_X4_amount M13 q4) (fun (x15 : Int32) (M14 : Mem) => (if x15 ≤ x2 then L34_8 ((a9.1 + 1), M14) else rt ((imax x12 ((imin ((p1 + x3)) 99999)))) M14)))))))))
def m_X5_latestEnd (M : Mem) (this : Option Nat) (p1 : Int32) (p2 : Int32) : Option (Int32 × Mem) :=
  rc M 5 this (cl (m_X5_feeOfStay M this p1 p2) (fun (x2 : Int32) (M1 : Mem) => dI M1 5 2 this (fun (x3 : Int32) => nO M1 4 6 (fun (q4 : Option Nat) (M5 : Mem) => rc M5 4 q4 (cl (m_X4_init M5 q4 this p1) (fun (_u : Unit) (M6 : Mem) => jn (fun (M8 : Mem) => rt 99999 M8) (fun (J87_6 : Mem → Option (Int32 × Mem)) => lp (b_X5_latestEnd_34 p1 x2 x3 q4 J87_6) FU (0, M6))))))))
abbrev md_X5_latestEnd : MD := (RX5, yX5_latestEnd, cX5_latestEnd, 8, Option.some Jvm.ClassFile.FieldType.int, 4, 88)
theorem ok_X5_latestEnd : MOk md_X5_latestEnd 2 := ⟨by decide +kernel, w_569, w_3, ⟨by decide +kernel, by decide +kernel⟩, by decide +kernel, rfl⟩
set_option maxRecDepth 100000 in
set_option maxHeartbeats 4000000 in
theorem con_X5_latestEnd (κ : Cfg) (M : Mem) (this : Option Nat) (p1 : Int32) (p2 : Int32) : Con κ md_X5_latestEnd [rv κ this, .int p1, .int p2] M cvI (m_X5_latestEnd M this p1 p2) := by
  refine Con.of ok_X5_latestEnd (ret_I rfl) (by
    intro v hv
    simp only [List.mem_cons, List.not_mem_nil, or_false] at hv
    rcases hv with rfl | rfl | rfl <;> first | rfl | exact rv_cat _ _) (Nat.le_of_ble_eq_true rfl) ?_
  unfold m_X5_latestEnd
  refine G.sub (lv' := [(0, rv κ this), (1, .int p1), (2, .int p2)]) [0, 1, 2] rfl ?_
  refine G_aload_n dX5_latestEnd_0 0 rfl rfl ?_
  refine G_iload_n dX5_latestEnd_1 1 rfl rfl ?_
  refine G_iload_n dX5_latestEnd_2 2 rfl rfl ?_
  refine G_callV cf_X5 ok_X5_feeOfStay [.int p1, .int p2] [] (con_X5_feeOfStay κ M this p1 p2) rfl w_570 w_500 w_501 (Nat.le_of_ble_eq_true rfl) (Nat.le_of_ble_eq_true rfl) dX5_latestEnd_3 rfl (by simp) (fun x2 M1 => (show G _ _ _ _ _ _ [.int x2] _ from ?_))
  refine G_istore_n (lv' := [(3, .int x2), (0, rv κ this), (1, .int p1), (2, .int p2)]) dX5_latestEnd_6 rfl (Nat.le_of_ble_eq_true rfl) rfl ?_
  refine G_iload_n dX5_latestEnd_7 2 rfl rfl ?_
  refine G_aload_n dX5_latestEnd_8 1 rfl rfl ?_
  refine G_getI cf_X5 (j := 2) rfl w_86 dX5_latestEnd_9 (fun x3 => ?_)
  refine G_iadd dX5_latestEnd_12 ?_
  refine G_ldc (v := 99999) dX5_latestEnd_13 w_571 ?_
  refine G_min w_541 w_542 w_17 w_543 (Nat.le_of_ble_eq_true rfl) (Nat.le_of_ble_eq_true rfl) (by simp) dX5_latestEnd_15 ?_
  refine G_istore (lv' := [(4, .int (imin ((p1 + x3)) 99999)), (3, .int x2), (0, rv κ this), (1, .int p1), (2, .int p2)]) dX5_latestEnd_18 (Nat.le_of_ble_eq_true rfl) rfl ?_
  refine G_new cf_X4 cd_X4 w_503 w_504 w_16 dX5_latestEnd_20 (fun q4 M5 => ?_)
  refine G_dup dX5_latestEnd_23 (rv_cat _ _) ?_
  refine G_aload_n dX5_latestEnd_24 2 rfl rfl ?_
  refine G_iload_n dX5_latestEnd_25 3 rfl rfl ?_
  refine G_callI ok_X4_init [rv κ this, .int p1] [rv κ q4] (con_X4_init κ M5 q4 this p1) rfl w_505 w_506 rfl rfl (Nat.le_of_ble_eq_true rfl) (Nat.le_of_ble_eq_true rfl) dX5_latestEnd_26 rfl (by simp) (fun _u M6 => (show G _ _ _ _ _ _ [rv κ q4] _ from ?_))
  refine G_astore (lv' := [(5, rv κ q4), (4, .int (imin ((p1 + x3)) 99999)), (3, .int x2), (0, rv κ this), (1, .int p1), (2, .int p2)]) dX5_latestEnd_29 (Nat.le_of_ble_eq_true rfl) rfl ?_
  refine G_iconst (v := 0) dX5_latestEnd_31 (by decide) ?_
  refine G_istore (lv' := [(6, .int 0), (5, rv κ q4), (4, .int (imin ((p1 + x3)) 99999)), (3, .int x2), (0, rv κ this), (1, .int p1), (2, .int p2)]) dX5_latestEnd_32 (Nat.le_of_ble_eq_true rfl) rfl ?_
  refine G.jn (P := (fun (J : Mem → Option (Int32 × Mem)) => ∀ (M8 : Mem), G κ md_X5_latestEnd cvI (J M8) 87 [] [] M8)) ?_ ?_
  · intro M8
    refine G_ldc (v := 99999) dX5_latestEnd_87 w_571 ?_
    exact G_ret (v := 99999) dX5_latestEnd_89 (fun h => by cases h) rfl
  · intro J87_6 hJ87_6
    refine G.sub (lv' := [(3, .int x2), (4, .int (imin ((p1 + x3)) 99999)), (5, rv κ q4), (6, .int 0)]) [3, 2, 1, 0] rfl ?_
    refine G.loop (lvf := fun (a9 : Int32 × Mem) => [(3, .int x2), (4, .int (imin ((p1 + x3)) 99999)), (5, rv κ q4), (6, .int a9.1)]) (mf := fun (a9 : Int32 × Mem) => a9.2) (fun L34_8 hL34_8 a9 => ?_) FU (0, M6)
    unfold b_X5_latestEnd_34
    refine G_iload dX5_latestEnd_34 3 rfl ?_
    refine G_sipush (v := 20000) dX5_latestEnd_36 (by decide) ?_
    refine G_icmp_ge (tgt := 87) dX5_latestEnd_39 (by decide) ?_ ?_
    · exact G.sub [] rfl (hJ87_6 _)
    · refine G_aload dX5_latestEnd_42 2 rfl ?_
      refine G_getI cf_X4 (j := 2) rfl w_516 dX5_latestEnd_44 (fun x11 => ?_)
      refine G_ldc (v := 99999) dX5_latestEnd_47 w_571 ?_
      refine G_icmp_ge (tgt := 87) dX5_latestEnd_49 (by decide) ?_ ?_
      · exact G.sub [] rfl (hJ87_6 _)
      · refine G_aload dX5_latestEnd_52 2 rfl ?_
        refine G_getI cf_X4 (j := 2) rfl w_516 dX5_latestEnd_54 (fun x12 => ?_)
        refine G_istore (lv' := [(7, .int x12), (3, .int x2), (4, .int (imin ((p1 + x3)) 99999)), (5, rv κ q4), (6, .int a9.1)]) dX5_latestEnd_57 (Nat.le_of_ble_eq_true rfl) rfl ?_
        refine G_aload dX5_latestEnd_59 3 rfl ?_
        refine G_callV cf_X4 ok_X4_addUnit [] [] (con_X4_addUnit κ a9.2 q4) rfl w_533 w_534 w_535 (Nat.le_of_ble_eq_true rfl) (Nat.le_of_ble_eq_true rfl) dX5_latestEnd_61 rfl (by simp) (fun _u M13 => (show G _ _ _ _ _ _ [] _ from ?_))
        refine G_aload dX5_latestEnd_64 3 rfl ?_
        refine G_callV cf_X4 ok_X4_amount [] [] (con_X4_amount κ M13 q4) rfl w_548 w_549 w_550 (Nat.le_of_ble_eq_true rfl) (Nat.le_of_ble_eq_true rfl) dX5_latestEnd_66 rfl (by simp) (fun x15 M14 => (show G _ _ _ _ _ _ [.int x15] _ from ?_))
        refine G_iload_n dX5_latestEnd_69 1 rfl rfl ?_
        refine G_icmp_le (tgt := 81) dX5_latestEnd_70 (by decide) ?_ ?_
        · refine G_iinc (v := (a9.1 + 1)) (lv' := [(6, .int (a9.1 + 1)), (7, .int x12), (3, .int x2), (4, .int (imin ((p1 + x3)) 99999)), (5, rv κ q4)]) dX5_latestEnd_81 4 rfl (congrArg (fun z9 : Int32 => a9.1 + z9) (by decide : Int32.ofInt 1 = 1)) (Nat.le_of_ble_eq_true rfl) rfl ?_
          refine G_goto (tgt := 34) dX5_latestEnd_84 (by decide) ?_
          exact G.sub [2, 3, 4, 0] rfl (hL34_8 _)
        · refine G_iload dX5_latestEnd_73 0 rfl ?_
          refine G_iload dX5_latestEnd_75 2 rfl ?_
          refine G_max w_572 w_573 w_17 w_574 (Nat.le_of_ble_eq_true rfl) (Nat.le_of_ble_eq_true rfl) (by simp) dX5_latestEnd_77 ?_
          exact G_ret (v := ((imax x12 ((imin ((p1 + x3)) 99999))))) dX5_latestEnd_80 (fun h => by cases h) rfl
def b_X5_partOfUnit_14 (p2 : Int32) (q1 : Option Nat) (J31_3 : Mem → Option (Int32 × Mem)) (L14_13 : (Int32 × Mem) → Option (Int32 × Mem)) (a14 : Int32 × Mem) : Option (Int32 × Mem) :=
  (if p2 ≤ a14.1 then J31_3 a14.2 else rc a14.2 4 q1 (cl (m_X4_addUnit a14.2 q1) (fun (_u : Unit) (M16 : Mem) => L14_13 ((a14.1 + 1), M16))))
def m_X5_partOfUnit (M : Mem) (this : Option Nat) (p1 : Int32) (p2 : Int32) (p3 : Int32) : Option (Int32 × Mem) :=
  nO M 4 6 (fun (q1 : Option Nat) (M2 : Mem) => rc M2 4 q1 (cl (m_X4_init M2 q1 this p1) (fun (_u : Unit) (M3 : Mem) => jn (fun (M5 : Mem) => (if p3 = 0 then dI M5 4 2 q1 (fun (x6 : Int32) => rt x6 M5) else (if p3 = 1 then dI M5 4 2 q1 (fun (x7 : Int32) => rc M5 5 this (cl (m_X5_bandOfMinute M5 this x7) (fun (q9 : Option Nat) (M8 : Mem) => dI M8 0 0 q9 (fun (x10 : Int32) => rt x10 M8)))) else dI M5 4 2 q1 (fun (x11 : Int32) => rc M5 5 this (cl (m_X5_groupOf M5 this p1 x11) (fun (x13 : Int32) (M12 : Mem) => rt x13 M12)))))) (fun (J31_3 : Mem → Option (Int32 × Mem)) => lp (b_X5_partOfUnit_14 p2 q1 J31_3) FU (0, M3)))))
abbrev md_X5_partOfUnit : MD := (RX5, yX5_partOfUnit, cX5_partOfUnit, 6, Option.some Jvm.ClassFile.FieldType.int, 3, 64)
theorem ok_X5_partOfUnit : MOk md_X5_partOfUnit 3 := ⟨by decide +kernel, w_559, w_3, ⟨by decide +kernel, by decide +kernel⟩, by decide +kernel, rfl⟩
set_option maxRecDepth 100000 in
set_option maxHeartbeats 4000000 in
theorem con_X5_partOfUnit (κ : Cfg) (M : Mem) (this : Option Nat) (p1 : Int32) (p2 : Int32) (p3 : Int32) : Con κ md_X5_partOfUnit [rv κ this, .int p1, .int p2, .int p3] M cvI (m_X5_partOfUnit M this p1 p2 p3) := by
  refine Con.of ok_X5_partOfUnit (ret_I rfl) (by
    intro v hv
    simp only [List.mem_cons, List.not_mem_nil, or_false] at hv
    rcases hv with rfl | rfl | rfl | rfl <;> first | rfl | exact rv_cat _ _) (Nat.le_of_ble_eq_true rfl) ?_
  unfold m_X5_partOfUnit
  refine G.sub (lv' := [(0, rv κ this), (1, .int p1), (2, .int p2), (3, .int p3)]) [0, 1, 2, 3] rfl ?_
  refine G_new cf_X4 cd_X4 w_503 w_504 w_16 dX5_partOfUnit_0 (fun q1 M2 => ?_)
  refine G_dup dX5_partOfUnit_3 (rv_cat _ _) ?_
  refine G_aload_n dX5_partOfUnit_4 0 rfl rfl ?_
  refine G_iload_n dX5_partOfUnit_5 1 rfl rfl ?_
  refine G_callI ok_X4_init [rv κ this, .int p1] [rv κ q1] (con_X4_init κ M2 q1 this p1) rfl w_505 w_506 rfl rfl (Nat.le_of_ble_eq_true rfl) (Nat.le_of_ble_eq_true rfl) dX5_partOfUnit_6 rfl (by simp) (fun _u M3 => (show G _ _ _ _ _ _ [rv κ q1] _ from ?_))
  refine G_astore (lv' := [(4, rv κ q1), (0, rv κ this), (1, .int p1), (2, .int p2), (3, .int p3)]) dX5_partOfUnit_9 (Nat.le_of_ble_eq_true rfl) rfl ?_
  refine G_iconst (v := 0) dX5_partOfUnit_11 (by decide) ?_
  refine G_istore (lv' := [(5, .int 0), (4, rv κ q1), (0, rv κ this), (1, .int p1), (2, .int p2), (3, .int p3)]) dX5_partOfUnit_12 (Nat.le_of_ble_eq_true rfl) rfl ?_
  refine G.jn (P := (fun (J : Mem → Option (Int32 × Mem)) => ∀ (M5 : Mem), G κ md_X5_partOfUnit cvI (J M5) 31 [(0, rv κ this), (1, .int p1), (3, .int p3), (4, rv κ q1)] [] M5)) ?_ ?_
  · intro M5
    refine G_iload_n dX5_partOfUnit_31 2 rfl rfl ?_
    refine G.cond (fun hx32_0 => ?_) (fun hn32_0 => ?_)
    · refine G_lks (off := 28) (tgt := 60) dX5_partOfUnit_32 (by decide) (by rw [hx32_0]; rfl) (by decide) ?_
      refine G_aload dX5_partOfUnit_60 3 rfl ?_
      refine G_getI cf_X4 (j := 2) rfl w_516 dX5_partOfUnit_62 (fun x6 => ?_)
      exact G_ret (v := x6) dX5_partOfUnit_65 (fun h => by cases h) rfl
    refine G.cond (fun hx32_1 => ?_) (fun hn32_1 => ?_)
    · refine G_lks (off := 34) (tgt := 66) dX5_partOfUnit_32 (by decide) (by rw [hx32_1]; rfl) (by decide) ?_
      refine G_aload_n dX5_partOfUnit_66 0 rfl rfl ?_
      refine G_aload dX5_partOfUnit_67 3 rfl ?_
      refine G_getI cf_X4 (j := 2) rfl w_516 dX5_partOfUnit_69 (fun x7 => ?_)
      refine G_callV cf_X5 ok_X5_bandOfMinute [.int x7] [] (con_X5_bandOfMinute κ M5 this x7) rfl w_560 w_545 w_546 (Nat.le_of_ble_eq_true rfl) (Nat.le_of_ble_eq_true rfl) dX5_partOfUnit_72 rfl (by simp) (fun q9 M8 => (show G _ _ _ _ _ _ [rv κ q9] _ from ?_))
      refine G_getI cf_X0 (j := 0) rfl w_56 dX5_partOfUnit_75 (fun x10 => ?_)
      exact G_ret (v := x10) dX5_partOfUnit_78 (fun h => by cases h) rfl
    refine G_lks (off := 47) (tgt := 79) dX5_partOfUnit_32 (by decide) ((lv_osw hn32_0 rfl).trans ((lv_osw hn32_1 rfl).trans (rfl))) (by decide) ?_
    refine G_aload_n dX5_partOfUnit_79 0 rfl rfl ?_
    refine G_iload_n dX5_partOfUnit_80 1 rfl rfl ?_
    refine G_aload dX5_partOfUnit_81 3 rfl ?_
    refine G_getI cf_X4 (j := 2) rfl w_516 dX5_partOfUnit_83 (fun x11 => ?_)
    refine G_callV cf_X5 ok_X5_groupOf [.int p1, .int x11] [] (con_X5_groupOf κ M5 this p1 x11) rfl w_561 w_510 w_511 (Nat.le_of_ble_eq_true rfl) (Nat.le_of_ble_eq_true rfl) dX5_partOfUnit_86 rfl (by simp) (fun x13 M12 => (show G _ _ _ _ _ _ [.int x13] _ from ?_))
    exact G_ret (v := x13) dX5_partOfUnit_89 (fun h => by cases h) rfl
  · intro J31_3 hJ31_3
    refine G.sub (lv' := [(0, rv κ this), (1, .int p1), (2, .int p2), (3, .int p3), (4, rv κ q1), (5, .int 0)]) [2, 3, 4, 5, 1, 0] rfl ?_
    refine G.loop (lvf := fun (a14 : Int32 × Mem) => [(0, rv κ this), (1, .int p1), (2, .int p2), (3, .int p3), (4, rv κ q1), (5, .int a14.1)]) (mf := fun (a14 : Int32 × Mem) => a14.2) (fun L14_13 hL14_13 a14 => ?_) FU (0, M3)
    unfold b_X5_partOfUnit_14
    refine G_iload dX5_partOfUnit_14 5 rfl ?_
    refine G_iload_n dX5_partOfUnit_16 2 rfl rfl ?_
    refine G_icmp_ge (tgt := 31) dX5_partOfUnit_17 (by decide) ?_ ?_
    · exact G.sub [0, 1, 3, 4] rfl (hJ31_3 _)
    · refine G_aload dX5_partOfUnit_20 4 rfl ?_
      refine G_callV cf_X4 ok_X4_addUnit [] [] (con_X4_addUnit κ a14.2 q1) rfl w_533 w_534 w_535 (Nat.le_of_ble_eq_true rfl) (Nat.le_of_ble_eq_true rfl) dX5_partOfUnit_22 rfl (by simp) (fun _u M16 => (show G _ _ _ _ _ _ [] _ from ?_))
      refine G_iinc (v := (a14.1 + 1)) (lv' := [(5, .int (a14.1 + 1)), (0, rv κ this), (1, .int p1), (2, .int p2), (3, .int p3), (4, rv κ q1)]) dX5_partOfUnit_25 5 rfl (congrArg (fun z9 : Int32 => a14.1 + z9) (by decide : Int32.ofInt 1 = 1)) (Nat.le_of_ble_eq_true rfl) rfl ?_
      refine G_goto (tgt := 14) dX5_partOfUnit_28 (by decide) ?_
      exact G.sub [1, 2, 3, 4, 5, 0] rfl (hL14_13 _)
def m_X7_init (M : Mem) (this : Option Nat) : Option (Unit × Mem) :=
  oi this (nA M 100 3 (fun (q1 : Option Nat) (M2 : Mem) => pP M2 7 0 this q1 (fun (M3 : Mem) => nA M3 100 3 (fun (q4 : Option Nat) (M5 : Mem) => pP M5 7 1 this q4 (fun (M6 : Mem) => rt () M6)))))
abbrev md_X7_init : MD := (RX7, yX7_init, cX7_init, 1, Option.none, 1, 20)
theorem ok_X7_init : MOk md_X7_init 0 := ⟨by decide +kernel, w_284, w_10, ⟨by decide +kernel, by decide +kernel⟩, by decide +kernel, rfl⟩
set_option maxRecDepth 100000 in
set_option maxHeartbeats 4000000 in
theorem con_X7_init (κ : Cfg) (M : Mem) (this : Option Nat) : Con κ md_X7_init [rv κ this] M cvV (m_X7_init M this) := by
  refine Con.of ok_X7_init (ret_V rfl) (by
    intro v hv
    simp only [List.mem_cons, List.not_mem_nil, or_false] at hv
    subst hv; first | rfl | exact rv_cat _ _) (Nat.le_of_ble_eq_true rfl) ?_
  unfold m_X7_init
  refine G.sub (lv' := [(0, rv κ this)]) [0] rfl ?_
  refine G_aload_n dX7_init_0 0 rfl rfl ?_
  refine G_objInit w_285 w_25 w_26 (Nat.le_of_ble_eq_true rfl) (Nat.le_of_ble_eq_true rfl) (by simp) dX7_init_1 ?_
  refine G_aload_n dX7_init_4 0 rfl rfl ?_
  refine G_iconst (v := 3) dX7_init_5 (by decide) ?_
  refine G_newa (at9 := .int) (fun _ => rfl) w_142 (by simp) dX7_init_6 (fun q1 M2 => ?_)
  refine G_putP cf_X7 (j := 0) rfl (Or.inr ⟨_, rfl⟩) w_286 (Or.inr ⟨rfl, rfl, rfl⟩) dX7_init_8 (fun M3 => ?_)
  refine G_aload_n dX7_init_11 0 rfl rfl ?_
  refine G_iconst (v := 3) dX7_init_12 (by decide) ?_
  refine G_newa (at9 := .int) (fun _ => rfl) w_142 (by simp) dX7_init_13 (fun q4 M5 => ?_)
  refine G_putP cf_X7 (j := 1) rfl (Or.inr ⟨_, rfl⟩) w_288 (Or.inr ⟨rfl, rfl, rfl⟩) dX7_init_15 (fun M6 => ?_)
  exact G_ret (v := ()) dX7_init_18 (fun h => by cases h) rfl
def m_X7_hasLevel (M : Mem) (this : Option Nat) (p1 : Int32) : Option (Int32 × Mem) :=
  cl (m_X10_within M p1 0 2) (fun (x2 : Int32) (M1 : Mem) => (if x2 = 0 then rtZ 0 M1 else dI M1 7 2 this (fun (x3 : Int32) => (if x3 ≤ p1 then rtZ 0 M1 else rtZ 1 M1))))
abbrev md_X7_hasLevel : MD := (RX7, yX7_hasLevel, cX7_hasLevel, 2, Option.some Jvm.ClassFile.FieldType.boolean, 1, 22)
theorem ok_X7_hasLevel : MOk md_X7_hasLevel 1 := ⟨by decide +kernel, w_871, w_10, ⟨by decide +kernel, by decide +kernel⟩, by decide +kernel, rfl⟩
set_option maxRecDepth 100000 in
set_option maxHeartbeats 4000000 in
theorem con_X7_hasLevel (κ : Cfg) (M : Mem) (this : Option Nat) (p1 : Int32) : Con κ md_X7_hasLevel [rv κ this, .int p1] M cvI (m_X7_hasLevel M this p1) := by
  refine Con.of ok_X7_hasLevel (ret_Z rfl) (by
    intro v hv
    simp only [List.mem_cons, List.not_mem_nil, or_false] at hv
    rcases hv with rfl | rfl <;> first | rfl | exact rv_cat _ _) (Nat.le_of_ble_eq_true rfl) ?_
  unfold m_X7_hasLevel
  refine G.sub (lv' := [(0, rv κ this), (1, .int p1)]) [0, 1] rfl ?_
  refine G_iload_n dX7_hasLevel_0 1 rfl rfl ?_
  refine G_iconst (v := 0) dX7_hasLevel_1 (by decide) ?_
  refine G_iconst (v := 2) dX7_hasLevel_2 (by decide) ?_
  refine G_callSN ok_X10_within [.int p1, .int 0, .int 2] [] (con_X10_within κ M p1 0 2) rfl (by simp [nestL, mdO, mdY]) w_320 (Nat.le_of_ble_eq_true rfl) (Nat.le_of_ble_eq_true rfl) dX7_hasLevel_3 rfl (by simp) (fun x2 M1 => (show G _ _ _ _ _ _ [.int x2] _ from ?_))
  refine G_if_eq (tgt := 21) dX7_hasLevel_6 (by decide) ?_ ?_
  · refine G_iconst (v := 0) dX7_hasLevel_21 (by decide) ?_
    exact G_retZ dX7_hasLevel_22
  · refine G_iload_n dX7_hasLevel_9 1 rfl rfl ?_
    refine G_aload_n dX7_hasLevel_10 0 rfl rfl ?_
    refine G_getI cf_X7 (j := 2) rfl w_290 dX7_hasLevel_11 (fun x3 => ?_)
    refine G_icmp_ge (tgt := 21) dX7_hasLevel_14 (by decide) ?_ ?_
    · refine G_iconst (v := 0) dX7_hasLevel_21 (by decide) ?_
      exact G_retZ dX7_hasLevel_22
    · refine G_iconst (v := 1) dX7_hasLevel_17 (by decide) ?_
      refine G_goto (tgt := 22) dX7_hasLevel_18 (by decide) ?_
      exact G_retZ dX7_hasLevel_22
def m_X7_tell (M : Mem) (this : Option Nat) (p1 : Int32) (p2 : Int32) (p3 : Int32) (p4 : Int32) : Option (Unit × Mem) :=
  dP M 7 0 this (fun (q1 : Option Nat) => sI M 100 q1 0 1 (fun (M2 : Mem) => dP M2 7 1 this (fun (q3 : Option Nat) => sI M2 100 q3 0 p1 (fun (M4 : Mem) => dP M4 7 0 this (fun (q5 : Option Nat) => sI M4 100 q5 1 2 (fun (M6 : Mem) => dP M6 7 1 this (fun (q7 : Option Nat) => sI M6 100 q7 1 p2 (fun (M8 : Mem) => dP M8 7 0 this (fun (q9 : Option Nat) => sI M8 100 q9 2 p3 (fun (M10 : Mem) => dP M10 7 1 this (fun (q11 : Option Nat) => sI M10 100 q11 2 p4 (fun (M12 : Mem) => pI M12 7 2 this 3 (fun (M13 : Mem) => rt () M13)))))))))))))
abbrev md_X7_tell : MD := (RX7, yX7_tell, cX7_tell, 5, Option.none, 0, 0)
theorem ok_X7_tell : MOk md_X7_tell 4 := ⟨by decide +kernel, w_463, w_10, ⟨by decide +kernel, by decide +kernel⟩, by decide +kernel, rfl⟩
set_option maxRecDepth 100000 in
set_option maxHeartbeats 4000000 in
theorem con_X7_tell (κ : Cfg) (M : Mem) (this : Option Nat) (p1 : Int32) (p2 : Int32) (p3 : Int32) (p4 : Int32) : Con κ md_X7_tell [rv κ this, .int p1, .int p2, .int p3, .int p4] M cvV (m_X7_tell M this p1 p2 p3 p4) := by
  refine Con.of ok_X7_tell (ret_V rfl) (by
    intro v hv
    simp only [List.mem_cons, List.not_mem_nil, or_false] at hv
    rcases hv with rfl | rfl | rfl | rfl | rfl <;> first | rfl | exact rv_cat _ _) (Nat.le_of_ble_eq_true rfl) ?_
  unfold m_X7_tell
  refine G.sub (lv' := [(0, rv κ this), (1, .int p1), (2, .int p2), (3, .int p3), (4, .int p4)]) [0, 1, 2, 3, 4] rfl ?_
  refine G_aload_n dX7_tell_0 0 rfl rfl ?_
  refine G_getP cf_X7 (j := 0) rfl w_286 dX7_tell_1 (fun q1 => ?_)
  refine G_iconst (v := 0) dX7_tell_4 (by decide) ?_
  refine G_iconst (v := 1) dX7_tell_5 (by decide) ?_
  refine G_iast dX7_tell_6 (fun M2 => ?_)
  refine G_aload_n dX7_tell_7 0 rfl rfl ?_
  refine G_getP cf_X7 (j := 1) rfl w_288 dX7_tell_8 (fun q3 => ?_)
  refine G_iconst (v := 0) dX7_tell_11 (by decide) ?_
  refine G_iload_n dX7_tell_12 1 rfl rfl ?_
  refine G_iast dX7_tell_13 (fun M4 => ?_)
  refine G_aload_n dX7_tell_14 0 rfl rfl ?_
  refine G_getP cf_X7 (j := 0) rfl w_286 dX7_tell_15 (fun q5 => ?_)
  refine G_iconst (v := 1) dX7_tell_18 (by decide) ?_
  refine G_iconst (v := 2) dX7_tell_19 (by decide) ?_
  refine G_iast dX7_tell_20 (fun M6 => ?_)
  refine G_aload_n dX7_tell_21 0 rfl rfl ?_
  refine G_getP cf_X7 (j := 1) rfl w_288 dX7_tell_22 (fun q7 => ?_)
  refine G_iconst (v := 1) dX7_tell_25 (by decide) ?_
  refine G_iload_n dX7_tell_26 2 rfl rfl ?_
  refine G_iast dX7_tell_27 (fun M8 => ?_)
  refine G_aload_n dX7_tell_28 0 rfl rfl ?_
  refine G_getP cf_X7 (j := 0) rfl w_286 dX7_tell_29 (fun q9 => ?_)
  refine G_iconst (v := 2) dX7_tell_32 (by decide) ?_
  refine G_iload_n dX7_tell_33 3 rfl rfl ?_
  refine G_iast dX7_tell_34 (fun M10 => ?_)
  refine G_aload_n dX7_tell_35 0 rfl rfl ?_
  refine G_getP cf_X7 (j := 1) rfl w_288 dX7_tell_36 (fun q11 => ?_)
  refine G_iconst (v := 2) dX7_tell_39 (by decide) ?_
  refine G_iload dX7_tell_40 4 rfl ?_
  refine G_iast dX7_tell_42 (fun M12 => ?_)
  refine G_aload_n dX7_tell_43 0 rfl rfl ?_
  refine G_iconst (v := 3) dX7_tell_44 (by decide) ?_
  refine G_putI cf_X7 (j := 2) rfl rfl w_290 (Or.inl rfl) dX7_tell_45 (fun M13 => ?_)
  exact G_ret (v := ()) dX7_tell_48 (fun h => by cases h) rfl
def m_X8_property (M : Mem) (this : Option Nat) (p1 : Int32) : Option (Int32 × Mem) :=
  (if p1 = 0 then dI M 8 2 this (fun (x1 : Int32) => rt x1 M) else (if p1 = 1 then dI M 8 3 this (fun (x2 : Int32) => rt x2 M) else (if p1 = 2 then dI M 8 4 this (fun (x3 : Int32) => rt x3 M) else (if p1 = 3 then dI M 8 5 this (fun (x4 : Int32) => rt x4 M) else (if p1 = 4 then dI M 8 1 this (fun (x5 : Int32) => rt x5 M) else (if p1 = 5 then dI M 8 7 this (fun (x6 : Int32) => (if x6 = 0 then rt 0 M else rt 1 M)) else (if p1 = 6 then dI M 8 8 this (fun (x7 : Int32) => (if x7 = 0 then rt 0 M else rt 1 M)) else dI M 8 6 this (fun (x8 : Int32) => rt x8 M))))))))
abbrev md_X8_property : MD := (RX8, yX8_property, cX8_property, 2, Option.some Jvm.ClassFile.FieldType.int, 0, 0)
theorem ok_X8_property : MOk md_X8_property 1 := ⟨by decide +kernel, w_788, w_8, ⟨by decide +kernel, by decide +kernel⟩, by decide +kernel, rfl⟩
set_option maxRecDepth 100000 in
set_option maxHeartbeats 4000000 in
theorem con_X8_property (κ : Cfg) (M : Mem) (this : Option Nat) (p1 : Int32) : Con κ md_X8_property [rv κ this, .int p1] M cvI (m_X8_property M this p1) := by
  refine Con.of ok_X8_property (ret_I rfl) (by
    intro v hv
    simp only [List.mem_cons, List.not_mem_nil, or_false] at hv
    rcases hv with rfl | rfl <;> first | rfl | exact rv_cat _ _) (Nat.le_of_ble_eq_true rfl) ?_
  unfold m_X8_property
  refine G.sub (lv' := [(0, rv κ this), (1, .int p1)]) [0, 1] rfl ?_
  refine G_iload_n dX8_property_0 1 rfl rfl ?_
  refine G.cond (fun hx1_0 => ?_) (fun hn1_0 => ?_)
  · refine G_tin (n := 0) (tgt := 44) dX8_property_1 (by rw [hx1_0]; rfl) (by decide) (by decide) rfl (by decide) ?_
    refine G_aload_n dX8_property_44 0 rfl rfl ?_
    refine G_getI cf_X8 (j := 2) rfl w_175 dX8_property_45 (fun x1 => ?_)
    exact G_ret (v := x1) dX8_property_48 (fun h => by cases h) rfl
  refine G.cond (fun hx1_1 => ?_) (fun hn1_1 => ?_)
  · refine G_tin (n := 1) (tgt := 49) dX8_property_1 (by rw [hx1_1]; rfl) (by decide) (by decide) rfl (by decide) ?_
    refine G_aload_n dX8_property_49 0 rfl rfl ?_
    refine G_getI cf_X8 (j := 3) rfl w_177 dX8_property_50 (fun x2 => ?_)
    exact G_ret (v := x2) dX8_property_53 (fun h => by cases h) rfl
  refine G.cond (fun hx1_2 => ?_) (fun hn1_2 => ?_)
  · refine G_tin (n := 2) (tgt := 54) dX8_property_1 (by rw [hx1_2]; rfl) (by decide) (by decide) rfl (by decide) ?_
    refine G_aload_n dX8_property_54 0 rfl rfl ?_
    refine G_getI cf_X8 (j := 4) rfl w_179 dX8_property_55 (fun x3 => ?_)
    exact G_ret (v := x3) dX8_property_58 (fun h => by cases h) rfl
  refine G.cond (fun hx1_3 => ?_) (fun hn1_3 => ?_)
  · refine G_tin (n := 3) (tgt := 59) dX8_property_1 (by rw [hx1_3]; rfl) (by decide) (by decide) rfl (by decide) ?_
    refine G_aload_n dX8_property_59 0 rfl rfl ?_
    refine G_getI cf_X8 (j := 5) rfl w_181 dX8_property_60 (fun x4 => ?_)
    exact G_ret (v := x4) dX8_property_63 (fun h => by cases h) rfl
  refine G.cond (fun hx1_4 => ?_) (fun hn1_4 => ?_)
  · refine G_tin (n := 4) (tgt := 64) dX8_property_1 (by rw [hx1_4]; rfl) (by decide) (by decide) rfl (by decide) ?_
    refine G_aload_n dX8_property_64 0 rfl rfl ?_
    refine G_getI cf_X8 (j := 1) rfl w_172 dX8_property_65 (fun x5 => ?_)
    exact G_ret (v := x5) dX8_property_68 (fun h => by cases h) rfl
  refine G.cond (fun hx1_5 => ?_) (fun hn1_5 => ?_)
  · refine G_tin (n := 5) (tgt := 69) dX8_property_1 (by rw [hx1_5]; rfl) (by decide) (by decide) rfl (by decide) ?_
    refine G_aload_n dX8_property_69 0 rfl rfl ?_
    refine G_getI cf_X8 (j := 7) rfl w_185 dX8_property_70 (fun x6 => ?_)
    refine G_if_eq (tgt := 80) dX8_property_73 (by decide) ?_ ?_
    · refine G_iconst (v := 0) dX8_property_80 (by decide) ?_
      exact G_ret (v := 0) dX8_property_81 (fun h => by cases h) rfl
    · refine G_iconst (v := 1) dX8_property_76 (by decide) ?_
      refine G_goto (tgt := 81) dX8_property_77 (by decide) ?_
      exact G_ret (v := 1) dX8_property_81 (fun h => by cases h) rfl
  refine G.cond (fun hx1_6 => ?_) (fun hn1_6 => ?_)
  · refine G_tin (n := 6) (tgt := 82) dX8_property_1 (by rw [hx1_6]; rfl) (by decide) (by decide) rfl (by decide) ?_
    refine G_aload_n dX8_property_82 0 rfl rfl ?_
    refine G_getI cf_X8 (j := 8) rfl w_187 dX8_property_83 (fun x7 => ?_)
    refine G_if_eq (tgt := 93) dX8_property_86 (by decide) ?_ ?_
    · refine G_iconst (v := 0) dX8_property_93 (by decide) ?_
      exact G_ret (v := 0) dX8_property_94 (fun h => by cases h) rfl
    · refine G_iconst (v := 1) dX8_property_89 (by decide) ?_
      refine G_goto (tgt := 94) dX8_property_90 (by decide) ?_
      exact G_ret (v := 1) dX8_property_94 (fun h => by cases h) rfl
  refine G_tout (tgt := 95) dX8_property_1 (by
      have hz0 : (p1).toInt ≠ 0 := fun h => hn1_0 (Int32.toInt_inj.mp (h.trans rfl))
      have hz1 : (p1).toInt ≠ 1 := fun h => hn1_1 (Int32.toInt_inj.mp (h.trans rfl))
      have hz2 : (p1).toInt ≠ 2 := fun h => hn1_2 (Int32.toInt_inj.mp (h.trans rfl))
      have hz3 : (p1).toInt ≠ 3 := fun h => hn1_3 (Int32.toInt_inj.mp (h.trans rfl))
      have hz4 : (p1).toInt ≠ 4 := fun h => hn1_4 (Int32.toInt_inj.mp (h.trans rfl))
      have hz5 : (p1).toInt ≠ 5 := fun h => hn1_5 (Int32.toInt_inj.mp (h.trans rfl))
      have hz6 : (p1).toInt ≠ 6 := fun h => hn1_6 (Int32.toInt_inj.mp (h.trans rfl))
      omega) (by decide) ?_
  refine G_aload_n dX8_property_95 0 rfl rfl ?_
  refine G_getI cf_X8 (j := 6) rfl w_184 dX8_property_96 (fun x8 => ?_)
  exact G_ret (v := x8) dX8_property_99 (fun h => by cases h) rfl
def m_X8_hasRoomForVoucher (M : Mem) (this : Option Nat) : Option (Int32 × Mem) :=
  dI M 8 1 this (fun (x1 : Int32) => (if 4 ≤ x1 then rtZ 0 M else rtZ 1 M))
abbrev md_X8_hasRoomForVoucher : MD := (RX8, yX8_hasRoomForVoucher, cX8_hasRoomForVoucher, 1, Option.some Jvm.ClassFile.FieldType.boolean, 0, 0)
theorem ok_X8_hasRoomForVoucher : MOk md_X8_hasRoomForVoucher 0 := ⟨by decide +kernel, w_707, w_8, ⟨by decide +kernel, by decide +kernel⟩, by decide +kernel, rfl⟩
set_option maxRecDepth 100000 in
set_option maxHeartbeats 4000000 in
theorem con_X8_hasRoomForVoucher (κ : Cfg) (M : Mem) (this : Option Nat) : Con κ md_X8_hasRoomForVoucher [rv κ this] M cvI (m_X8_hasRoomForVoucher M this) := by
  refine Con.of ok_X8_hasRoomForVoucher (ret_Z rfl) (by
    intro v hv
    simp only [List.mem_cons, List.not_mem_nil, or_false] at hv
    subst hv; first | rfl | exact rv_cat _ _) (Nat.le_of_ble_eq_true rfl) ?_
  unfold m_X8_hasRoomForVoucher
  refine G.sub (lv' := [(0, rv κ this)]) [0] rfl ?_
  refine G_aload_n dX8_hasRoomForVoucher_0 0 rfl rfl ?_
  refine G_getI cf_X8 (j := 1) rfl w_172 dX8_hasRoomForVoucher_1 (fun x1 => ?_)
  refine G_iconst (v := 4) dX8_hasRoomForVoucher_4 (by decide) ?_
  refine G_icmp_ge (tgt := 12) dX8_hasRoomForVoucher_5 (by decide) ?_ ?_
  · refine G_iconst (v := 0) dX8_hasRoomForVoucher_12 (by decide) ?_
    exact G_retZ dX8_hasRoomForVoucher_13
  · refine G_iconst (v := 1) dX8_hasRoomForVoucher_8 (by decide) ?_
    refine G_goto (tgt := 13) dX8_hasRoomForVoucher_9 (by decide) ?_
    exact G_retZ dX8_hasRoomForVoucher_13
def m_X8_addVoucherNumber (M : Mem) (this : Option Nat) (p1 : Int32) : Option (Unit × Mem) :=
  rc M 8 this (cl (m_X8_hasRoomForVoucher M this) (fun (x2 : Int32) (M1 : Mem) => (if x2 = 0 then rt () M1 else dP M1 8 0 this (fun (q3 : Option Nat) => dI M1 8 1 this (fun (x4 : Int32) => sI M1 100 q3 x4 p1 (fun (M5 : Mem) => dI M5 8 1 this (fun (x6 : Int32) => pI M5 8 1 this ((x6 + 1)) (fun (M7 : Mem) => rt () M7))))))))
abbrev md_X8_addVoucherNumber : MD := (RX8, yX8_addVoucherNumber, cX8_addVoucherNumber, 2, Option.none, 1, 20)
theorem ok_X8_addVoucherNumber : MOk md_X8_addVoucherNumber 1 := ⟨by decide +kernel, w_711, w_8, ⟨by decide +kernel, by decide +kernel⟩, by decide +kernel, rfl⟩
set_option maxRecDepth 100000 in
set_option maxHeartbeats 4000000 in
theorem con_X8_addVoucherNumber (κ : Cfg) (M : Mem) (this : Option Nat) (p1 : Int32) : Con κ md_X8_addVoucherNumber [rv κ this, .int p1] M cvV (m_X8_addVoucherNumber M this p1) := by
  refine Con.of ok_X8_addVoucherNumber (ret_V rfl) (by
    intro v hv
    simp only [List.mem_cons, List.not_mem_nil, or_false] at hv
    rcases hv with rfl | rfl <;> first | rfl | exact rv_cat _ _) (Nat.le_of_ble_eq_true rfl) ?_
  unfold m_X8_addVoucherNumber
  refine G.sub (lv' := [(0, rv κ this), (1, .int p1)]) [0, 1] rfl ?_
  refine G_aload_n dX8_addVoucherNumber_0 0 rfl rfl ?_
  refine G_callV cf_X8 ok_X8_hasRoomForVoucher [] [] (con_X8_hasRoomForVoucher κ M this) rfl w_712 w_705 w_706 (Nat.le_of_ble_eq_true rfl) (Nat.le_of_ble_eq_true rfl) dX8_addVoucherNumber_1 rfl (by simp) (fun x2 M1 => (show G _ _ _ _ _ _ [.int x2] _ from ?_))
  refine G_if_eq (tgt := 27) dX8_addVoucherNumber_4 (by decide) ?_ ?_
  · exact G_ret (v := ()) dX8_addVoucherNumber_27 (fun h => by cases h) rfl
  · refine G_aload_n dX8_addVoucherNumber_7 0 rfl rfl ?_
    refine G_getP cf_X8 (j := 0) rfl w_171 dX8_addVoucherNumber_8 (fun q3 => ?_)
    refine G_aload_n dX8_addVoucherNumber_11 0 rfl rfl ?_
    refine G_getI cf_X8 (j := 1) rfl w_172 dX8_addVoucherNumber_12 (fun x4 => ?_)
    refine G_iload_n dX8_addVoucherNumber_15 1 rfl rfl ?_
    refine G_iast dX8_addVoucherNumber_16 (fun M5 => ?_)
    refine G_aload_n dX8_addVoucherNumber_17 0 rfl rfl ?_
    refine G_dup dX8_addVoucherNumber_18 (rv_cat _ _) ?_
    refine G_getI cf_X8 (j := 1) rfl w_172 dX8_addVoucherNumber_19 (fun x6 => ?_)
    refine G_iconst (v := 1) dX8_addVoucherNumber_22 (by decide) ?_
    refine G_iadd dX8_addVoucherNumber_23 ?_
    refine G_putI cf_X8 (j := 1) rfl rfl w_172 (Or.inl rfl) dX8_addVoucherNumber_24 (fun M7 => ?_)
    exact G_ret (v := ()) dX8_addVoucherNumber_27 (fun h => by cases h) rfl
def m_X8_takePayment (M : Mem) (this : Option Nat) (p1 : Int32) (p2 : Int32) : Option (Unit × Mem) :=
  (if p1 ≤ 0 then rt () M else dI M 8 5 this (fun (x1 : Int32) => pI M 8 5 this ((x1 + p1)) (fun (M2 : Mem) => pI M2 8 6 this p2 (fun (M3 : Mem) => rt () M3))))
abbrev md_X8_takePayment : MD := (RX8, yX8_takePayment, cX8_takePayment, 3, Option.none, 0, 0)
theorem ok_X8_takePayment : MOk md_X8_takePayment 2 := ⟨by decide +kernel, w_763, w_8, ⟨by decide +kernel, by decide +kernel⟩, by decide +kernel, rfl⟩
set_option maxRecDepth 100000 in
set_option maxHeartbeats 4000000 in
theorem con_X8_takePayment (κ : Cfg) (M : Mem) (this : Option Nat) (p1 : Int32) (p2 : Int32) : Con κ md_X8_takePayment [rv κ this, .int p1, .int p2] M cvV (m_X8_takePayment M this p1 p2) := by
  refine Con.of ok_X8_takePayment (ret_V rfl) (by
    intro v hv
    simp only [List.mem_cons, List.not_mem_nil, or_false] at hv
    rcases hv with rfl | rfl | rfl <;> first | rfl | exact rv_cat _ _) (Nat.le_of_ble_eq_true rfl) ?_
  unfold m_X8_takePayment
  refine G.sub (lv' := [(0, rv κ this), (1, .int p1), (2, .int p2)]) [0, 1, 2] rfl ?_
  refine G_iload_n dX8_takePayment_0 1 rfl rfl ?_
  refine G_if_le (tgt := 19) dX8_takePayment_1 (by decide) ?_ ?_
  · exact G_ret (v := ()) dX8_takePayment_19 (fun h => by cases h) rfl
  · refine G_aload_n dX8_takePayment_4 0 rfl rfl ?_
    refine G_dup dX8_takePayment_5 (rv_cat _ _) ?_
    refine G_getI cf_X8 (j := 5) rfl w_181 dX8_takePayment_6 (fun x1 => ?_)
    refine G_iload_n dX8_takePayment_9 1 rfl rfl ?_
    refine G_iadd dX8_takePayment_10 ?_
    refine G_putI cf_X8 (j := 5) rfl rfl w_181 (Or.inl rfl) dX8_takePayment_11 (fun M2 => ?_)
    refine G_aload_n dX8_takePayment_14 0 rfl rfl ?_
    refine G_iload_n dX8_takePayment_15 2 rfl rfl ?_
    refine G_putI cf_X8 (j := 6) rfl rfl w_184 (Or.inl rfl) dX8_takePayment_16 (fun M3 => ?_)
    exact G_ret (v := ()) dX8_takePayment_19 (fun h => by cases h) rfl
def m_X8_paidWithin (M : Mem) (this : Option Nat) (p1 : Int32) (p2 : Int32) : Option (Int32 × Mem) :=
  dI M 8 6 this (fun (x1 : Int32) => (if x1 = (-1) then rtZ 0 M else dI M 8 6 this (fun (x2 : Int32) => (if p1 < (p2 - x2) then rtZ 0 M else rtZ 1 M))))
abbrev md_X8_paidWithin : MD := (RX8, yX8_paidWithin, cX8_paidWithin, 3, Option.some Jvm.ClassFile.FieldType.boolean, 0, 0)
theorem ok_X8_paidWithin : MOk md_X8_paidWithin 2 := ⟨by decide +kernel, w_771, w_8, ⟨by decide +kernel, by decide +kernel⟩, by decide +kernel, rfl⟩
set_option maxRecDepth 100000 in
set_option maxHeartbeats 4000000 in
theorem con_X8_paidWithin (κ : Cfg) (M : Mem) (this : Option Nat) (p1 : Int32) (p2 : Int32) : Con κ md_X8_paidWithin [rv κ this, .int p1, .int p2] M cvI (m_X8_paidWithin M this p1 p2) := by
  refine Con.of ok_X8_paidWithin (ret_Z rfl) (by
    intro v hv
    simp only [List.mem_cons, List.not_mem_nil, or_false] at hv
    rcases hv with rfl | rfl | rfl <;> first | rfl | exact rv_cat _ _) (Nat.le_of_ble_eq_true rfl) ?_
  unfold m_X8_paidWithin
  refine G.sub (lv' := [(0, rv κ this), (1, .int p1), (2, .int p2)]) [0, 1, 2] rfl ?_
  refine G_aload_n dX8_paidWithin_0 0 rfl rfl ?_
  refine G_getI cf_X8 (j := 6) rfl w_184 dX8_paidWithin_1 (fun x1 => ?_)
  refine G_iconst (v := (-1)) dX8_paidWithin_4 (by decide) ?_
  refine G_icmp_eq (tgt := 22) dX8_paidWithin_5 (by decide) ?_ ?_
  · refine G_iconst (v := 0) dX8_paidWithin_22 (by decide) ?_
    exact G_retZ dX8_paidWithin_23
  · refine G_iload_n dX8_paidWithin_8 2 rfl rfl ?_
    refine G_aload_n dX8_paidWithin_9 0 rfl rfl ?_
    refine G_getI cf_X8 (j := 6) rfl w_184 dX8_paidWithin_10 (fun x2 => ?_)
    refine G_isub dX8_paidWithin_13 ?_
    refine G_iload_n dX8_paidWithin_14 1 rfl rfl ?_
    refine G_icmp_gt (tgt := 22) dX8_paidWithin_15 (by decide) ?_ ?_
    · refine G_iconst (v := 0) dX8_paidWithin_22 (by decide) ?_
      exact G_retZ dX8_paidWithin_23
    · refine G_iconst (v := 1) dX8_paidWithin_18 (by decide) ?_
      refine G_goto (tgt := 23) dX8_paidWithin_19 (by decide) ?_
      exact G_retZ dX8_paidWithin_23
