/-! ===== written by program (tools/decomp.py) out of the decode rows and the words ===== -/
def FU : Nat := 1000000
theorem iinc_m1 (x : Int32) : x + Int32.ofInt (-1) = x - 1 := by
  rw [show Int32.ofInt (-1) = -1 from by decide]
  exact (Int32.sub_eq_add_neg ..).symm
theorem cf_X0 : CF 0 RX0 TX0 4 tyX0 := ⟨by decide, rfl, uwX0, tyX0_ok, nmX0, rfl⟩
theorem cd_X0 : CD 0 4 tyX0 := by unfold CD; decide +kernel
theorem cf_X1 : CF 1 RX1 TX1 8 tyX1 := ⟨by decide, rfl, uwX1, tyX1_ok, nmX1, rfl⟩
theorem cd_X1 : CD 1 8 tyX1 := by unfold CD; decide +kernel
theorem cf_X2 : CF 2 RX2 TX2 3 tyX2 := ⟨by decide, rfl, uwX2, tyX2_ok, nmX2, rfl⟩
theorem cd_X2 : CD 2 3 tyX2 := by unfold CD; decide +kernel
theorem cf_X3 : CF 3 RX3 TX3 5 tyX3 := ⟨by decide, rfl, uwX3, tyX3_ok, nmX3, rfl⟩
theorem cd_X3 : CD 3 5 tyX3 := by unfold CD; decide +kernel
theorem cf_X4 : CF 4 RX4 TX4 6 tyX4 := ⟨by decide, rfl, uwX4, tyX4_ok, nmX4, rfl⟩
theorem cd_X4 : CD 4 6 tyX4 := by unfold CD; decide +kernel
theorem cf_X5 : CF 5 RX5 TX5 6 tyX5 := ⟨by decide, rfl, uwX5, tyX5_ok, nmX5, rfl⟩
theorem cd_X5 : CD 5 6 tyX5 := by unfold CD; decide +kernel
theorem cf_X6 : CF 6 RX6 TX6 9 tyX6 := ⟨by decide, rfl, uwX6, tyX6_ok, nmX6, rfl⟩
theorem cd_X6 : CD 6 9 tyX6 := by unfold CD; decide +kernel
theorem cf_X7 : CF 7 RX7 TX7 3 tyX7 := ⟨by decide, rfl, uwX7, tyX7_ok, nmX7, rfl⟩
theorem cd_X7 : CD 7 3 tyX7 := by unfold CD; decide +kernel
theorem cf_X8 : CF 8 RX8 TX8 9 tyX8 := ⟨by decide, rfl, uwX8, tyX8_ok, nmX8, rfl⟩
theorem cd_X8 : CD 8 9 tyX8 := by unfold CD; decide +kernel
theorem cf_X9 : CF 9 RX9 TX9 3 tyX9 := ⟨by decide, rfl, uwX9, tyX9_ok, nmX9, rfl⟩
theorem cd_X9 : CD 9 3 tyX9 := by unfold CD; decide +kernel
theorem cf_X10 : CF 10 RX10 TX10 5 tyX10 := ⟨by decide, rfl, uwX10, tyX10_ok, nmX10, rfl⟩
theorem cd_X10 : CD 10 5 tyX10 := by unfold CD; decide +kernel
theorem cf_X11 : CF 11 RX11 TX11 21 tyX11 := ⟨by decide, rfl, uwX11, tyX11_ok, nmX11, rfl⟩
theorem cd_X11 : CD 11 21 tyX11 := by unfold CD; decide +kernel
def m_X0_init (M : Mem) (this : Option Nat) (p1 : Int32) : Option (Unit × Mem) :=
  oi this (pI M 0 0 this p1 (fun (M1 : Mem) => rt () M1))
abbrev md_X0_init : MD := (RX0, yX0_init, cX0_init, 2, Option.none, 1, 20)
theorem ok_X0_init : MOk md_X0_init 1 := ⟨by decide +kernel, w_53, w_4, ⟨by decide +kernel, by decide +kernel⟩, by decide +kernel, rfl⟩
set_option maxRecDepth 100000 in
set_option maxHeartbeats 4000000 in
theorem con_X0_init (κ : Cfg) (M : Mem) (this : Option Nat) (p1 : Int32) : Con κ md_X0_init [rv κ this, .int p1] M cvV (m_X0_init M this p1) := by
  refine Con.of ok_X0_init (ret_V rfl) (by
    intro v hv
    simp only [List.mem_cons, List.not_mem_nil, or_false] at hv
    rcases hv with rfl | rfl <;> first | rfl | exact rv_cat _ _) (Nat.le_of_ble_eq_true rfl) ?_
  unfold m_X0_init
  refine G.sub (lv' := [(0, rv κ this), (1, .int p1)]) [0, 1] rfl ?_
  refine G_aload_n dX0_init_0 0 rfl rfl ?_
  refine G_objInit w_54 w_25 w_26 (Nat.le_of_ble_eq_true rfl) (Nat.le_of_ble_eq_true rfl) (by simp) dX0_init_1 ?_
  refine G_aload_n dX0_init_4 0 rfl rfl ?_
  refine G_iload_n dX0_init_5 1 rfl rfl ?_
  refine G_putI cf_X0 (j := 0) rfl rfl w_55 (Or.inr ⟨rfl, rfl, rfl⟩) dX0_init_6 (fun M1 => ?_)
  exact G_ret (v := ()) dX0_init_9 (fun h => by cases h) rfl
def m_X0_tell (M : Mem) (this : Option Nat) (p1 : Int32) (p2 : Int32) (p3 : Int32) : Option (Unit × Mem) :=
  pI M 0 1 this p1 (fun (M1 : Mem) => pI M1 0 2 this p2 (fun (M2 : Mem) => pI M2 0 3 this p3 (fun (M3 : Mem) => rt () M3)))
abbrev md_X0_tell : MD := (RX0, yX0_tell, cX0_tell, 4, Option.none, 0, 0)
theorem ok_X0_tell : MOk md_X0_tell 3 := ⟨by decide +kernel, w_80, w_4, ⟨by decide +kernel, by decide +kernel⟩, by decide +kernel, rfl⟩
set_option maxRecDepth 100000 in
set_option maxHeartbeats 4000000 in
theorem con_X0_tell (κ : Cfg) (M : Mem) (this : Option Nat) (p1 : Int32) (p2 : Int32) (p3 : Int32) : Con κ md_X0_tell [rv κ this, .int p1, .int p2, .int p3] M cvV (m_X0_tell M this p1 p2 p3) := by
  refine Con.of ok_X0_tell (ret_V rfl) (by
    intro v hv
    simp only [List.mem_cons, List.not_mem_nil, or_false] at hv
    rcases hv with rfl | rfl | rfl | rfl <;> first | rfl | exact rv_cat _ _) (Nat.le_of_ble_eq_true rfl) ?_
  unfold m_X0_tell
  refine G.sub (lv' := [(0, rv κ this), (1, .int p1), (2, .int p2), (3, .int p3)]) [0, 1, 2, 3] rfl ?_
  refine G_aload_n dX0_tell_0 0 rfl rfl ?_
  refine G_iload_n dX0_tell_1 1 rfl rfl ?_
  refine G_putI cf_X0 (j := 1) rfl rfl w_57 (Or.inl rfl) dX0_tell_2 (fun M1 => ?_)
  refine G_aload_n dX0_tell_5 0 rfl rfl ?_
  refine G_iload_n dX0_tell_6 2 rfl rfl ?_
  refine G_putI cf_X0 (j := 2) rfl rfl w_60 (Or.inl rfl) dX0_tell_7 (fun M2 => ?_)
  refine G_aload_n dX0_tell_10 0 rfl rfl ?_
  refine G_iload_n dX0_tell_11 3 rfl rfl ?_
  refine G_putI cf_X0 (j := 3) rfl rfl w_62 (Or.inl rfl) dX0_tell_12 (fun M3 => ?_)
  exact G_ret (v := ()) dX0_tell_15 (fun h => by cases h) rfl
def m_X0_copyFrom (M : Mem) (this : Option Nat) (p1 : Option Nat) : Option (Unit × Mem) :=
  dI M 0 1 p1 (fun (x1 : Int32) => dI M 0 2 p1 (fun (x2 : Int32) => dI M 0 3 p1 (fun (x3 : Int32) => rc M 0 this (cl (m_X0_tell M this x1 x2 x3) (fun (_u : Unit) (M4 : Mem) => rt () M4)))))
abbrev md_X0_copyFrom : MD := (RX0, yX0_copyFrom, cX0_copyFrom, 2, Option.none, 1, 23)
theorem ok_X0_copyFrom : MOk md_X0_copyFrom 1 := ⟨by decide +kernel, w_471, w_4, ⟨by decide +kernel, by decide +kernel⟩, by decide +kernel, rfl⟩
set_option maxRecDepth 100000 in
set_option maxHeartbeats 4000000 in
theorem con_X0_copyFrom (κ : Cfg) (M : Mem) (this : Option Nat) (p1 : Option Nat) : Con κ md_X0_copyFrom [rv κ this, rv κ p1] M cvV (m_X0_copyFrom M this p1) := by
  refine Con.of ok_X0_copyFrom (ret_V rfl) (by
    intro v hv
    simp only [List.mem_cons, List.not_mem_nil, or_false] at hv
    rcases hv with rfl | rfl <;> first | rfl | exact rv_cat _ _) (Nat.le_of_ble_eq_true rfl) ?_
  unfold m_X0_copyFrom
  refine G.sub (lv' := [(0, rv κ this), (1, rv κ p1)]) [0, 1] rfl ?_
  refine G_aload_n dX0_copyFrom_0 0 rfl rfl ?_
  refine G_aload_n dX0_copyFrom_1 1 rfl rfl ?_
  refine G_getI cf_X0 (j := 1) rfl w_57 dX0_copyFrom_2 (fun x1 => ?_)
  refine G_aload_n dX0_copyFrom_5 1 rfl rfl ?_
  refine G_getI cf_X0 (j := 2) rfl w_60 dX0_copyFrom_6 (fun x2 => ?_)
  refine G_aload_n dX0_copyFrom_9 1 rfl rfl ?_
  refine G_getI cf_X0 (j := 3) rfl w_62 dX0_copyFrom_10 (fun x3 => ?_)
  refine G_callV cf_X0 ok_X0_tell [.int x1, .int x2, .int x3] [] (con_X0_tell κ M this x1 x2 x3) rfl w_472 w_78 w_79 (Nat.le_of_ble_eq_true rfl) (Nat.le_of_ble_eq_true rfl) dX0_copyFrom_13 rfl (by simp) (fun _u M4 => (show G _ _ _ _ _ _ [] _ from ?_))
  exact G_ret (v := ()) dX0_copyFrom_16 (fun h => by cases h) rfl
def m_X0_property (M : Mem) (this : Option Nat) (p1 : Int32) : Option (Int32 × Mem) :=
  (if p1 = 0 then dI M 0 1 this (fun (x1 : Int32) => rt x1 M) else (if p1 = 1 then dI M 0 2 this (fun (x2 : Int32) => rt x2 M) else dI M 0 3 this (fun (x3 : Int32) => rt x3 M)))
abbrev md_X0_property : MD := (RX0, yX0_property, cX0_property, 2, Option.some Jvm.ClassFile.FieldType.int, 0, 0)
theorem ok_X0_property : MOk md_X0_property 1 := ⟨by decide +kernel, w_490, w_4, ⟨by decide +kernel, by decide +kernel⟩, by decide +kernel, rfl⟩
set_option maxRecDepth 100000 in
set_option maxHeartbeats 4000000 in
theorem con_X0_property (κ : Cfg) (M : Mem) (this : Option Nat) (p1 : Int32) : Con κ md_X0_property [rv κ this, .int p1] M cvI (m_X0_property M this p1) := by
  refine Con.of ok_X0_property (ret_I rfl) (by
    intro v hv
    simp only [List.mem_cons, List.not_mem_nil, or_false] at hv
    rcases hv with rfl | rfl <;> first | rfl | exact rv_cat _ _) (Nat.le_of_ble_eq_true rfl) ?_
  unfold m_X0_property
  refine G.sub (lv' := [(0, rv κ this), (1, .int p1)]) [0, 1] rfl ?_
  refine G_iload_n dX0_property_0 1 rfl rfl ?_
  refine G.cond (fun hx1_0 => ?_) (fun hn1_0 => ?_)
  · refine G_lks (off := 27) (tgt := 28) dX0_property_1 (by decide) (by rw [hx1_0]; rfl) (by decide) ?_
    refine G_aload_n dX0_property_28 0 rfl rfl ?_
    refine G_getI cf_X0 (j := 1) rfl w_57 dX0_property_29 (fun x1 => ?_)
    exact G_ret (v := x1) dX0_property_32 (fun h => by cases h) rfl
  refine G.cond (fun hx1_1 => ?_) (fun hn1_1 => ?_)
  · refine G_lks (off := 32) (tgt := 33) dX0_property_1 (by decide) (by rw [hx1_1]; rfl) (by decide) ?_
    refine G_aload_n dX0_property_33 0 rfl rfl ?_
    refine G_getI cf_X0 (j := 2) rfl w_60 dX0_property_34 (fun x2 => ?_)
    exact G_ret (v := x2) dX0_property_37 (fun h => by cases h) rfl
  refine G_lks (off := 37) (tgt := 38) dX0_property_1 (by decide) ((lv_osw hn1_0 rfl).trans ((lv_osw hn1_1 rfl).trans (rfl))) (by decide) ?_
  refine G_aload_n dX0_property_38 0 rfl rfl ?_
  refine G_getI cf_X0 (j := 3) rfl w_62 dX0_property_39 (fun x3 => ?_)
  exact G_ret (v := x3) dX0_property_42 (fun h => by cases h) rfl
def m_X9_init (M : Mem) (this : Option Nat) : Option (Unit × Mem) :=
  oi this (rt () M)
abbrev md_X9_init : MD := (RX9, yX9_init, cX9_init, 1, Option.none, 1, 20)
theorem ok_X9_init : MOk md_X9_init 0 := ⟨by decide +kernel, w_111, w_5, ⟨by decide +kernel, by decide +kernel⟩, by decide +kernel, rfl⟩
set_option maxRecDepth 100000 in
set_option maxHeartbeats 4000000 in
theorem con_X9_init (κ : Cfg) (M : Mem) (this : Option Nat) : Con κ md_X9_init [rv κ this] M cvV (m_X9_init M this) := by
  refine Con.of ok_X9_init (ret_V rfl) (by
    intro v hv
    simp only [List.mem_cons, List.not_mem_nil, or_false] at hv
    subst hv; first | rfl | exact rv_cat _ _) (Nat.le_of_ble_eq_true rfl) ?_
  unfold m_X9_init
  refine G.sub (lv' := [(0, rv κ this)]) [0] rfl ?_
  refine G_aload_n dX9_init_0 0 rfl rfl ?_
  refine G_objInit w_112 w_25 w_26 (Nat.le_of_ble_eq_true rfl) (Nat.le_of_ble_eq_true rfl) (by simp) dX9_init_1 ?_
  exact G_ret (v := ()) dX9_init_4 (fun h => by cases h) rfl
def m_X2_init (M : Mem) (this : Option Nat) : Option (Unit × Mem) :=
  oi this (nA M 100 5 (fun (q1 : Option Nat) (M2 : Mem) => pP M2 2 0 this q1 (fun (M3 : Mem) => rt () M3)))
abbrev md_X2_init : MD := (RX2, yX2_init, cX2_init, 1, Option.none, 1, 20)
theorem ok_X2_init : MOk md_X2_init 0 := ⟨by decide +kernel, w_130, w_6, ⟨by decide +kernel, by decide +kernel⟩, by decide +kernel, rfl⟩
set_option maxRecDepth 100000 in
set_option maxHeartbeats 4000000 in
theorem con_X2_init (κ : Cfg) (M : Mem) (this : Option Nat) : Con κ md_X2_init [rv κ this] M cvV (m_X2_init M this) := by
  refine Con.of ok_X2_init (ret_V rfl) (by
    intro v hv
    simp only [List.mem_cons, List.not_mem_nil, or_false] at hv
    subst hv; first | rfl | exact rv_cat _ _) (Nat.le_of_ble_eq_true rfl) ?_
  unfold m_X2_init
  refine G.sub (lv' := [(0, rv κ this)]) [0] rfl ?_
  refine G_aload_n dX2_init_0 0 rfl rfl ?_
  refine G_objInit w_131 w_25 w_26 (Nat.le_of_ble_eq_true rfl) (Nat.le_of_ble_eq_true rfl) (by simp) dX2_init_1 ?_
  refine G_aload_n dX2_init_4 0 rfl rfl ?_
  refine G_iconst (v := 5) dX2_init_5 (by decide) ?_
  refine G_newa (at9 := .int) (fun _ => rfl) w_142 (by simp) dX2_init_6 (fun q1 M2 => ?_)
  refine G_putP cf_X2 (j := 0) rfl (Or.inr ⟨_, rfl⟩) w_132 (Or.inr ⟨rfl, rfl, rfl⟩) dX2_init_8 (fun M3 => ?_)
  exact G_ret (v := ()) dX2_init_11 (fun h => by cases h) rfl
def m_X3_init (M : Mem) (this : Option Nat) : Option (Unit × Mem) :=
  oi this (pI M 3 0 this 10 (fun (M1 : Mem) => rt () M1))
abbrev md_X3_init : MD := (RX3, yX3_init, cX3_init, 1, Option.none, 1, 20)
theorem ok_X3_init : MOk md_X3_init 0 := ⟨by decide +kernel, w_146, w_7, ⟨by decide +kernel, by decide +kernel⟩, by decide +kernel, rfl⟩
set_option maxRecDepth 100000 in
set_option maxHeartbeats 4000000 in
theorem con_X3_init (κ : Cfg) (M : Mem) (this : Option Nat) : Con κ md_X3_init [rv κ this] M cvV (m_X3_init M this) := by
  refine Con.of ok_X3_init (ret_V rfl) (by
    intro v hv
    simp only [List.mem_cons, List.not_mem_nil, or_false] at hv
    subst hv; first | rfl | exact rv_cat _ _) (Nat.le_of_ble_eq_true rfl) ?_
  unfold m_X3_init
  refine G.sub (lv' := [(0, rv κ this)]) [0] rfl ?_
  refine G_aload_n dX3_init_0 0 rfl rfl ?_
  refine G_objInit w_147 w_25 w_26 (Nat.le_of_ble_eq_true rfl) (Nat.le_of_ble_eq_true rfl) (by simp) dX3_init_1 ?_
  refine G_aload_n dX3_init_4 0 rfl rfl ?_
  refine G_bipush (v := 10) dX3_init_5 (by decide) ?_
  refine G_putI cf_X3 (j := 0) rfl rfl w_148 (Or.inl rfl) dX3_init_7 (fun M1 => ?_)
  exact G_ret (v := ()) dX3_init_10 (fun h => by cases h) rfl
def m_X9_copyFrom (M : Mem) (this : Option Nat) (p1 : Option Nat) : Option (Unit × Mem) :=
  dI M 9 0 p1 (fun (x1 : Int32) => pI M 9 0 this x1 (fun (M2 : Mem) => dI M2 9 1 p1 (fun (x3 : Int32) => pI M2 9 1 this x3 (fun (M4 : Mem) => dI M4 9 2 p1 (fun (x5 : Int32) => pI M4 9 2 this x5 (fun (M6 : Mem) => rt () M6))))))
abbrev md_X9_copyFrom : MD := (RX9, yX9_copyFrom, cX9_copyFrom, 2, Option.none, 0, 0)
theorem ok_X9_copyFrom : MOk md_X9_copyFrom 1 := ⟨by decide +kernel, w_889, w_5, ⟨by decide +kernel, by decide +kernel⟩, by decide +kernel, rfl⟩
set_option maxRecDepth 100000 in
set_option maxHeartbeats 4000000 in
theorem con_X9_copyFrom (κ : Cfg) (M : Mem) (this : Option Nat) (p1 : Option Nat) : Con κ md_X9_copyFrom [rv κ this, rv κ p1] M cvV (m_X9_copyFrom M this p1) := by
  refine Con.of ok_X9_copyFrom (ret_V rfl) (by
    intro v hv
    simp only [List.mem_cons, List.not_mem_nil, or_false] at hv
    rcases hv with rfl | rfl <;> first | rfl | exact rv_cat _ _) (Nat.le_of_ble_eq_true rfl) ?_
  unfold m_X9_copyFrom
  refine G.sub (lv' := [(0, rv κ this), (1, rv κ p1)]) [0, 1] rfl ?_
  refine G_aload_n dX9_copyFrom_0 0 rfl rfl ?_
  refine G_aload_n dX9_copyFrom_1 1 rfl rfl ?_
  refine G_getI cf_X9 (j := 0) rfl w_113 dX9_copyFrom_2 (fun x1 => ?_)
  refine G_putI cf_X9 (j := 0) rfl rfl w_113 (Or.inl rfl) dX9_copyFrom_5 (fun M2 => ?_)
  refine G_aload_n dX9_copyFrom_8 0 rfl rfl ?_
  refine G_aload_n dX9_copyFrom_9 1 rfl rfl ?_
  refine G_getI cf_X9 (j := 1) rfl w_116 dX9_copyFrom_10 (fun x3 => ?_)
  refine G_putI cf_X9 (j := 1) rfl rfl w_116 (Or.inl rfl) dX9_copyFrom_13 (fun M4 => ?_)
  refine G_aload_n dX9_copyFrom_16 0 rfl rfl ?_
  refine G_aload_n dX9_copyFrom_17 1 rfl rfl ?_
  refine G_getI cf_X9 (j := 2) rfl w_118 dX9_copyFrom_18 (fun x5 => ?_)
  refine G_putI cf_X9 (j := 2) rfl rfl w_118 (Or.inl rfl) dX9_copyFrom_21 (fun M6 => ?_)
  exact G_ret (v := ()) dX9_copyFrom_24 (fun h => by cases h) rfl
def b_X2_copyFrom_18 (this : Option Nat) (p1 : Option Nat) (L18_4 : (Int32 × Mem) → Option (Unit × Mem)) (a5 : Int32 × Mem) : Option (Unit × Mem) :=
  (if 5 ≤ a5.1 then rt () a5.2 else dP a5.2 2 0 this (fun (q7 : Option Nat) => dP a5.2 2 0 p1 (fun (q8 : Option Nat) => aI a5.2 100 q8 a5.1 (fun (x9 : Int32) => sI a5.2 100 q7 a5.1 x9 (fun (M10 : Mem) => L18_4 ((a5.1 + 1), M10))))))
def m_X2_copyFrom (M : Mem) (this : Option Nat) (p1 : Option Nat) : Option (Unit × Mem) :=
  dI M 2 2 p1 (fun (x1 : Int32) => pI M 2 2 this x1 (fun (M2 : Mem) => dI M2 2 1 p1 (fun (x3 : Int32) => pI M2 2 1 this x3 (fun (M4 : Mem) => lp (b_X2_copyFrom_18 this p1) FU (0, M4)))))
abbrev md_X2_copyFrom : MD := (RX2, yX2_copyFrom, cX2_copyFrom, 3, Option.none, 0, 0)
theorem ok_X2_copyFrom : MOk md_X2_copyFrom 1 := ⟨by decide +kernel, w_893, w_6, ⟨by decide +kernel, by decide +kernel⟩, by decide +kernel, rfl⟩
set_option maxRecDepth 100000 in
set_option maxHeartbeats 4000000 in
theorem con_X2_copyFrom (κ : Cfg) (M : Mem) (this : Option Nat) (p1 : Option Nat) : Con κ md_X2_copyFrom [rv κ this, rv κ p1] M cvV (m_X2_copyFrom M this p1) := by
  refine Con.of ok_X2_copyFrom (ret_V rfl) (by
    intro v hv
    simp only [List.mem_cons, List.not_mem_nil, or_false] at hv
    rcases hv with rfl | rfl <;> first | rfl | exact rv_cat _ _) (Nat.le_of_ble_eq_true rfl) ?_
  unfold m_X2_copyFrom
  refine G.sub (lv' := [(0, rv κ this), (1, rv κ p1)]) [0, 1] rfl ?_
  refine G_aload_n dX2_copyFrom_0 0 rfl rfl ?_
  refine G_aload_n dX2_copyFrom_1 1 rfl rfl ?_
  refine G_getI cf_X2 (j := 2) rfl w_134 dX2_copyFrom_2 (fun x1 => ?_)
  refine G_putI cf_X2 (j := 2) rfl rfl w_134 (Or.inl rfl) dX2_copyFrom_5 (fun M2 => ?_)
  refine G_aload_n dX2_copyFrom_8 0 rfl rfl ?_
  refine G_aload_n dX2_copyFrom_9 1 rfl rfl ?_
  refine G_getI cf_X2 (j := 1) rfl w_133 dX2_copyFrom_10 (fun x3 => ?_)
  refine G_putI cf_X2 (j := 1) rfl rfl w_133 (Or.inl rfl) dX2_copyFrom_13 (fun M4 => ?_)
  refine G_iconst (v := 0) dX2_copyFrom_16 (by decide) ?_
  refine G_istore_n (lv' := [(2, .int 0), (0, rv κ this), (1, rv κ p1)]) dX2_copyFrom_17 rfl (Nat.le_of_ble_eq_true rfl) rfl ?_
  refine G.sub (lv' := [(0, rv κ this), (1, rv κ p1), (2, .int 0)]) [1, 2, 0] rfl ?_
  refine G.loop (lvf := fun (a5 : Int32 × Mem) => [(0, rv κ this), (1, rv κ p1), (2, .int a5.1)]) (mf := fun (a5 : Int32 × Mem) => a5.2) (fun L18_4 hL18_4 a5 => ?_) FU (0, M4)
  unfold b_X2_copyFrom_18
  refine G_iload_n dX2_copyFrom_18 2 rfl rfl ?_
  refine G_iconst (v := 5) dX2_copyFrom_19 (by decide) ?_
  refine G_icmp_ge (tgt := 41) dX2_copyFrom_20 (by decide) ?_ ?_
  · exact G_ret (v := ()) dX2_copyFrom_41 (fun h => by cases h) rfl
  · refine G_aload_n dX2_copyFrom_23 0 rfl rfl ?_
    refine G_getP cf_X2 (j := 0) rfl w_132 dX2_copyFrom_24 (fun q7 => ?_)
    refine G_iload_n dX2_copyFrom_27 2 rfl rfl ?_
    refine G_aload_n dX2_copyFrom_28 1 rfl rfl ?_
    refine G_getP cf_X2 (j := 0) rfl w_132 dX2_copyFrom_29 (fun q8 => ?_)
    refine G_iload_n dX2_copyFrom_32 2 rfl rfl ?_
    refine G_iald dX2_copyFrom_33 (fun x9 => ?_)
    refine G_iast dX2_copyFrom_34 (fun M10 => ?_)
    refine G_iinc (v := (a5.1 + 1)) (lv' := [(2, .int (a5.1 + 1)), (0, rv κ this), (1, rv κ p1)]) dX2_copyFrom_35 2 rfl (congrArg (fun z9 : Int32 => a5.1 + z9) (by decide : Int32.ofInt 1 = 1)) (Nat.le_of_ble_eq_true rfl) rfl ?_
    refine G_goto (tgt := 18) dX2_copyFrom_38 (by decide) ?_
    exact G.sub [1, 2, 0] rfl (hL18_4 _)
def m_X3_copyFrom (M : Mem) (this : Option Nat) (p1 : Option Nat) : Option (Unit × Mem) :=
  dI M 3 0 p1 (fun (x1 : Int32) => pI M 3 0 this x1 (fun (M2 : Mem) => dI M2 3 1 p1 (fun (x3 : Int32) => pI M2 3 1 this x3 (fun (M4 : Mem) => dI M4 3 2 p1 (fun (x5 : Int32) => pI M4 3 2 this x5 (fun (M6 : Mem) => dI M6 3 3 p1 (fun (x7 : Int32) => pI M6 3 3 this x7 (fun (M8 : Mem) => dF M8 3 4 p1 (fun (r9 : UInt32) => pF M8 3 4 this r9 (fun (M10 : Mem) => rt () M10))))))))))
abbrev md_X3_copyFrom : MD := (RX3, yX3_copyFrom, cX3_copyFrom, 2, Option.none, 0, 0)
theorem ok_X3_copyFrom : MOk md_X3_copyFrom 1 := ⟨by decide +kernel, w_897, w_7, ⟨by decide +kernel, by decide +kernel⟩, by decide +kernel, rfl⟩
set_option maxRecDepth 100000 in
set_option maxHeartbeats 4000000 in
theorem con_X3_copyFrom (κ : Cfg) (M : Mem) (this : Option Nat) (p1 : Option Nat) : Con κ md_X3_copyFrom [rv κ this, rv κ p1] M cvV (m_X3_copyFrom M this p1) := by
  refine Con.of ok_X3_copyFrom (ret_V rfl) (by
    intro v hv
    simp only [List.mem_cons, List.not_mem_nil, or_false] at hv
    rcases hv with rfl | rfl <;> first | rfl | exact rv_cat _ _) (Nat.le_of_ble_eq_true rfl) ?_
  unfold m_X3_copyFrom
  refine G.sub (lv' := [(0, rv κ this), (1, rv κ p1)]) [0, 1] rfl ?_
  refine G_aload_n dX3_copyFrom_0 0 rfl rfl ?_
  refine G_aload_n dX3_copyFrom_1 1 rfl rfl ?_
  refine G_getI cf_X3 (j := 0) rfl w_148 dX3_copyFrom_2 (fun x1 => ?_)
  refine G_putI cf_X3 (j := 0) rfl rfl w_148 (Or.inl rfl) dX3_copyFrom_5 (fun M2 => ?_)
  refine G_aload_n dX3_copyFrom_8 0 rfl rfl ?_
  refine G_aload_n dX3_copyFrom_9 1 rfl rfl ?_
  refine G_getI cf_X3 (j := 1) rfl w_150 dX3_copyFrom_10 (fun x3 => ?_)
  refine G_putI cf_X3 (j := 1) rfl rfl w_150 (Or.inl rfl) dX3_copyFrom_13 (fun M4 => ?_)
  refine G_aload_n dX3_copyFrom_16 0 rfl rfl ?_
  refine G_aload_n dX3_copyFrom_17 1 rfl rfl ?_
  refine G_getI cf_X3 (j := 2) rfl w_152 dX3_copyFrom_18 (fun x5 => ?_)
  refine G_putI cf_X3 (j := 2) rfl rfl w_152 (Or.inl rfl) dX3_copyFrom_21 (fun M6 => ?_)
  refine G_aload_n dX3_copyFrom_24 0 rfl rfl ?_
  refine G_aload_n dX3_copyFrom_25 1 rfl rfl ?_
  refine G_getI cf_X3 (j := 3) rfl w_153 dX3_copyFrom_26 (fun x7 => ?_)
  refine G_putI cf_X3 (j := 3) rfl rfl w_153 (Or.inl rfl) dX3_copyFrom_29 (fun M8 => ?_)
  refine G_aload_n dX3_copyFrom_32 0 rfl rfl ?_
  refine G_aload_n dX3_copyFrom_33 1 rfl rfl ?_
  refine G_getF cf_X3 (j := 4) rfl w_154 dX3_copyFrom_34 (fun r9 => ?_)
  refine G_putF cf_X3 (j := 4) rfl rfl w_154 (Or.inl rfl) dX3_copyFrom_37 (fun M10 => ?_)
  exact G_ret (v := ()) dX3_copyFrom_40 (fun h => by cases h) rfl
def m_X10_within (M : Mem) (p1 : Int32) (p2 : Int32) (p3 : Int32) : Option (Int32 × Mem) :=
  (if p1 < p2 then rtZ 0 M else (if p3 < p1 then rtZ 0 M else rtZ 1 M))
abbrev md_X10_within : MD := (RX10, yX10_within, cX10_within, 3, Option.some Jvm.ClassFile.FieldType.boolean, 0, 0)
theorem ok_X10_within : MOk md_X10_within 3 := ⟨by decide +kernel, w_321, w_1, ⟨by decide +kernel, by decide +kernel⟩, by decide +kernel, rfl⟩
set_option maxRecDepth 100000 in
set_option maxHeartbeats 4000000 in
theorem con_X10_within (κ : Cfg) (M : Mem) (p1 : Int32) (p2 : Int32) (p3 : Int32) : Con κ md_X10_within [.int p1, .int p2, .int p3] M cvI (m_X10_within M p1 p2 p3) := by
  refine Con.of ok_X10_within (ret_Z rfl) (by
    intro v hv
    simp only [List.mem_cons, List.not_mem_nil, or_false] at hv
    rcases hv with rfl | rfl | rfl <;> first | rfl | exact rv_cat _ _) (Nat.le_of_ble_eq_true rfl) ?_
  unfold m_X10_within
  refine G.sub (lv' := [(0, .int p1), (1, .int p2), (2, .int p3)]) [0, 1, 2] rfl ?_
  refine G_iload_n dX10_within_0 0 rfl rfl ?_
  refine G_iload_n dX10_within_1 1 rfl rfl ?_
  refine G_icmp_lt (tgt := 14) dX10_within_2 (by decide) ?_ ?_
  · refine G_iconst (v := 0) dX10_within_14 (by decide) ?_
    exact G_retZ dX10_within_15
  · refine G_iload_n dX10_within_5 0 rfl rfl ?_
    refine G_iload_n dX10_within_6 2 rfl rfl ?_
    refine G_icmp_gt (tgt := 14) dX10_within_7 (by decide) ?_ ?_
    · refine G_iconst (v := 0) dX10_within_14 (by decide) ?_
      exact G_retZ dX10_within_15
    · refine G_iconst (v := 1) dX10_within_10 (by decide) ?_
      refine G_goto (tgt := 15) dX10_within_11 (by decide) ?_
      exact G_retZ dX10_within_15
def m_X2_isMade (M : Mem) (this : Option Nat) : Option (Int32 × Mem) :=
  dI M 2 1 this (fun (x1 : Int32) => (if x1 ≤ 0 then rtZ 0 M else rtZ 1 M))
abbrev md_X2_isMade : MD := (RX2, yX2_isMade, cX2_isMade, 1, Option.some Jvm.ClassFile.FieldType.boolean, 0, 0)
theorem ok_X2_isMade : MOk md_X2_isMade 0 := ⟨by decide +kernel, w_618, w_6, ⟨by decide +kernel, by decide +kernel⟩, by decide +kernel, rfl⟩
set_option maxRecDepth 100000 in
set_option maxHeartbeats 4000000 in
theorem con_X2_isMade (κ : Cfg) (M : Mem) (this : Option Nat) : Con κ md_X2_isMade [rv κ this] M cvI (m_X2_isMade M this) := by
  refine Con.of ok_X2_isMade (ret_Z rfl) (by
    intro v hv
    simp only [List.mem_cons, List.not_mem_nil, or_false] at hv
    subst hv; first | rfl | exact rv_cat _ _) (Nat.le_of_ble_eq_true rfl) ?_
  unfold m_X2_isMade
  refine G.sub (lv' := [(0, rv κ this)]) [0] rfl ?_
  refine G_aload_n dX2_isMade_0 0 rfl rfl ?_
  refine G_getI cf_X2 (j := 1) rfl w_133 dX2_isMade_1 (fun x1 => ?_)
  refine G_if_le (tgt := 11) dX2_isMade_4 (by decide) ?_ ?_
  · refine G_iconst (v := 0) dX2_isMade_11 (by decide) ?_
    exact G_retZ dX2_isMade_12
  · refine G_iconst (v := 1) dX2_isMade_7 (by decide) ?_
    refine G_goto (tgt := 12) dX2_isMade_8 (by decide) ?_
    exact G_retZ dX2_isMade_12
def m_X9_begin (M : Mem) (this : Option Nat) (p1 : Int32) (p2 : Int32) : Option (Unit × Mem) :=
  pI M 9 0 this p1 (fun (M1 : Mem) => pI M1 9 1 this p2 (fun (M2 : Mem) => pI M2 9 2 this 0 (fun (M3 : Mem) => rt () M3)))
abbrev md_X9_begin : MD := (RX9, yX9_begin, cX9_begin, 3, Option.none, 0, 0)
theorem ok_X9_begin : MOk md_X9_begin 2 := ⟨by decide +kernel, w_586, w_5, ⟨by decide +kernel, by decide +kernel⟩, by decide +kernel, rfl⟩
set_option maxRecDepth 100000 in
set_option maxHeartbeats 4000000 in
theorem con_X9_begin (κ : Cfg) (M : Mem) (this : Option Nat) (p1 : Int32) (p2 : Int32) : Con κ md_X9_begin [rv κ this, .int p1, .int p2] M cvV (m_X9_begin M this p1 p2) := by
  refine Con.of ok_X9_begin (ret_V rfl) (by
    intro v hv
    simp only [List.mem_cons, List.not_mem_nil, or_false] at hv
    rcases hv with rfl | rfl | rfl <;> first | rfl | exact rv_cat _ _) (Nat.le_of_ble_eq_true rfl) ?_
  unfold m_X9_begin
  refine G.sub (lv' := [(0, rv κ this), (1, .int p1), (2, .int p2)]) [0, 1, 2] rfl ?_
  refine G_aload_n dX9_begin_0 0 rfl rfl ?_
  refine G_iload_n dX9_begin_1 1 rfl rfl ?_
  refine G_putI cf_X9 (j := 0) rfl rfl w_113 (Or.inl rfl) dX9_begin_2 (fun M1 => ?_)
  refine G_aload_n dX9_begin_5 0 rfl rfl ?_
  refine G_iload_n dX9_begin_6 2 rfl rfl ?_
  refine G_putI cf_X9 (j := 1) rfl rfl w_116 (Or.inl rfl) dX9_begin_7 (fun M2 => ?_)
  refine G_aload_n dX9_begin_10 0 rfl rfl ?_
  refine G_iconst (v := 0) dX9_begin_11 (by decide) ?_
  refine G_putI cf_X9 (j := 2) rfl rfl w_118 (Or.inl rfl) dX9_begin_12 (fun M3 => ?_)
  exact G_ret (v := ()) dX9_begin_15 (fun h => by cases h) rfl
def m_X2_hasPlace (M : Mem) (this : Option Nat) (p1 : Int32) : Option (Int32 × Mem) :=
  cl (m_X10_within M p1 0 4) (fun (x2 : Int32) (M1 : Mem) => (if x2 = 0 then rtZ 0 M1 else dI M1 2 1 this (fun (x3 : Int32) => (if x3 ≤ p1 then rtZ 0 M1 else rtZ 1 M1))))
abbrev md_X2_hasPlace : MD := (RX2, yX2_hasPlace, cX2_hasPlace, 2, Option.some Jvm.ClassFile.FieldType.boolean, 1, 22)
theorem ok_X2_hasPlace : MOk md_X2_hasPlace 1 := ⟨by decide +kernel, w_622, w_6, ⟨by decide +kernel, by decide +kernel⟩, by decide +kernel, rfl⟩
set_option maxRecDepth 100000 in
set_option maxHeartbeats 4000000 in
theorem con_X2_hasPlace (κ : Cfg) (M : Mem) (this : Option Nat) (p1 : Int32) : Con κ md_X2_hasPlace [rv κ this, .int p1] M cvI (m_X2_hasPlace M this p1) := by
  refine Con.of ok_X2_hasPlace (ret_Z rfl) (by
    intro v hv
    simp only [List.mem_cons, List.not_mem_nil, or_false] at hv
    rcases hv with rfl | rfl <;> first | rfl | exact rv_cat _ _) (Nat.le_of_ble_eq_true rfl) ?_
  unfold m_X2_hasPlace
  refine G.sub (lv' := [(0, rv κ this), (1, .int p1)]) [0, 1] rfl ?_
  refine G_iload_n dX2_hasPlace_0 1 rfl rfl ?_
  refine G_iconst (v := 0) dX2_hasPlace_1 (by decide) ?_
  refine G_iconst (v := 4) dX2_hasPlace_2 (by decide) ?_
  refine G_callSN ok_X10_within [.int p1, .int 0, .int 4] [] (con_X10_within κ M p1 0 4) rfl (by simp [nestL, mdO, mdY]) w_320 (Nat.le_of_ble_eq_true rfl) (Nat.le_of_ble_eq_true rfl) dX2_hasPlace_3 rfl (by simp) (fun x2 M1 => (show G _ _ _ _ _ _ [.int x2] _ from ?_))
  refine G_if_eq (tgt := 21) dX2_hasPlace_6 (by decide) ?_ ?_
  · refine G_iconst (v := 0) dX2_hasPlace_21 (by decide) ?_
    exact G_retZ dX2_hasPlace_22
  · refine G_iload_n dX2_hasPlace_9 1 rfl rfl ?_
    refine G_aload_n dX2_hasPlace_10 0 rfl rfl ?_
    refine G_getI cf_X2 (j := 1) rfl w_133 dX2_hasPlace_11 (fun x3 => ?_)
    refine G_icmp_ge (tgt := 21) dX2_hasPlace_14 (by decide) ?_ ?_
    · refine G_iconst (v := 0) dX2_hasPlace_21 (by decide) ?_
      exact G_retZ dX2_hasPlace_22
    · refine G_iconst (v := 1) dX2_hasPlace_17 (by decide) ?_
      refine G_goto (tgt := 22) dX2_hasPlace_18 (by decide) ?_
      exact G_retZ dX2_hasPlace_22
def m_X2_content (M : Mem) (this : Option Nat) (p1 : Int32) : Option (Int32 × Mem) :=
  rc M 2 this (cl (m_X2_hasPlace M this p1) (fun (x2 : Int32) (M1 : Mem) => (if x2 = 0 then rt ((-1)) M1 else dP M1 2 0 this (fun (q3 : Option Nat) => aI M1 100 q3 p1 (fun (x4 : Int32) => (if x4 = (-1) then rt ((-1)) M1 else dP M1 2 0 this (fun (q5 : Option Nat) => aI M1 100 q5 p1 (fun (x6 : Int32) => rt x6 M1))))))))
abbrev md_X2_content : MD := (RX2, yX2_content, cX2_content, 2, Option.some Jvm.ClassFile.FieldType.int, 2, 43)
theorem ok_X2_content : MOk md_X2_content 1 := ⟨by decide +kernel, w_649, w_6, ⟨by decide +kernel, by decide +kernel⟩, by decide +kernel, rfl⟩
set_option maxRecDepth 100000 in
set_option maxHeartbeats 4000000 in
theorem con_X2_content (κ : Cfg) (M : Mem) (this : Option Nat) (p1 : Int32) : Con κ md_X2_content [rv κ this, .int p1] M cvI (m_X2_content M this p1) := by
  refine Con.of ok_X2_content (ret_I rfl) (by
    intro v hv
    simp only [List.mem_cons, List.not_mem_nil, or_false] at hv
    rcases hv with rfl | rfl <;> first | rfl | exact rv_cat _ _) (Nat.le_of_ble_eq_true rfl) ?_
  unfold m_X2_content
  refine G.sub (lv' := [(0, rv κ this), (1, .int p1)]) [0, 1] rfl ?_
  refine G_aload_n dX2_content_0 0 rfl rfl ?_
  refine G_iload_n dX2_content_1 1 rfl rfl ?_
  refine G_callV cf_X2 ok_X2_hasPlace [.int p1] [] (con_X2_hasPlace κ M this p1) rfl w_632 w_620 w_621 (Nat.le_of_ble_eq_true rfl) (Nat.le_of_ble_eq_true rfl) dX2_content_2 rfl (by simp) (fun x2 M1 => (show G _ _ _ _ _ _ [.int x2] _ from ?_))
  refine G_if_eq (tgt := 27) dX2_content_5 (by decide) ?_ ?_
  · refine G_iconst (v := (-1)) dX2_content_27 (by decide) ?_
    exact G_ret (v := ((-1))) dX2_content_28 (fun h => by cases h) rfl
  · refine G_aload_n dX2_content_8 0 rfl rfl ?_
    refine G_getP cf_X2 (j := 0) rfl w_132 dX2_content_9 (fun q3 => ?_)
    refine G_iload_n dX2_content_12 1 rfl rfl ?_
    refine G_iald dX2_content_13 (fun x4 => ?_)
    refine G_iconst (v := (-1)) dX2_content_14 (by decide) ?_
    refine G_icmp_eq (tgt := 27) dX2_content_15 (by decide) ?_ ?_
    · refine G_iconst (v := (-1)) dX2_content_27 (by decide) ?_
      exact G_ret (v := ((-1))) dX2_content_28 (fun h => by cases h) rfl
    · refine G_aload_n dX2_content_18 0 rfl rfl ?_
      refine G_getP cf_X2 (j := 0) rfl w_132 dX2_content_19 (fun q5 => ?_)
      refine G_iload_n dX2_content_22 1 rfl rfl ?_
      refine G_iald dX2_content_23 (fun x6 => ?_)
      refine G_goto (tgt := 28) dX2_content_24 (by decide) ?_
      exact G_ret (v := x6) dX2_content_28 (fun h => by cases h) rfl
def m_X3_freePlaces (M : Mem) (this : Option Nat) : Option (Int32 × Mem) :=
  dI M 3 0 this (fun (x1 : Int32) => dI M 3 1 this (fun (x2 : Int32) => rt ((x1 - x2)) M))
abbrev md_X3_freePlaces : MD := (RX3, yX3_freePlaces, cX3_freePlaces, 1, Option.some Jvm.ClassFile.FieldType.int, 0, 0)
theorem ok_X3_freePlaces : MOk md_X3_freePlaces 0 := ⟨by decide +kernel, w_669, w_7, ⟨by decide +kernel, by decide +kernel⟩, by decide +kernel, rfl⟩
set_option maxRecDepth 100000 in
set_option maxHeartbeats 4000000 in
theorem con_X3_freePlaces (κ : Cfg) (M : Mem) (this : Option Nat) : Con κ md_X3_freePlaces [rv κ this] M cvI (m_X3_freePlaces M this) := by
  refine Con.of ok_X3_freePlaces (ret_I rfl) (by
    intro v hv
    simp only [List.mem_cons, List.not_mem_nil, or_false] at hv
    subst hv; first | rfl | exact rv_cat _ _) (Nat.le_of_ble_eq_true rfl) ?_
  unfold m_X3_freePlaces
  refine G.sub (lv' := [(0, rv κ this)]) [0] rfl ?_
  refine G_aload_n dX3_freePlaces_0 0 rfl rfl ?_
  refine G_getI cf_X3 (j := 0) rfl w_148 dX3_freePlaces_1 (fun x1 => ?_)
  refine G_aload_n dX3_freePlaces_4 0 rfl rfl ?_
  refine G_getI cf_X3 (j := 1) rfl w_150 dX3_freePlaces_5 (fun x2 => ?_)
  refine G_isub dX3_freePlaces_8 ?_
  exact G_ret (v := ((x1 - x2))) dX3_freePlaces_9 (fun h => by cases h) rfl
def m_X3_score (M : Mem) (this : Option Nat) : Option (UInt32 × Mem) :=
  dI M 3 0 this (fun (x1 : Int32) => (if x1 ≤ 0 then rt FP.fconst0 M else rc M 3 this (cl (m_X3_freePlaces M this) (fun (x3 : Int32) (M2 : Mem) => dF M2 3 4 this (fun (r4 : UInt32) => o_fmul r4 1056964608 (fun (r5 : UInt32) => o_fadd ((FP.i2f x3)) r5 (fun (r6 : UInt32) => dI M2 3 0 this (fun (x7 : Int32) => o_fdiv r6 ((FP.i2f x7)) (fun (r8 : UInt32) => rt r8 M2)))))))))
abbrev md_X3_score : MD := (RX3, yX3_score, cX3_score, 1, Option.some Jvm.ClassFile.FieldType.float, 1, 20)
theorem ok_X3_score : MOk md_X3_score 0 := ⟨by decide +kernel, w_665, w_7, ⟨by decide +kernel, by decide +kernel⟩, by decide +kernel, rfl⟩
set_option maxRecDepth 100000 in
set_option maxHeartbeats 4000000 in
theorem con_X3_score (κ : Cfg) (M : Mem) (this : Option Nat) : Con κ md_X3_score [rv κ this] M cvF (m_X3_score M this) := by
  refine Con.of ok_X3_score (ret_F rfl) (by
    intro v hv
    simp only [List.mem_cons, List.not_mem_nil, or_false] at hv
    subst hv; first | rfl | exact rv_cat _ _) (Nat.le_of_ble_eq_true rfl) ?_
  unfold m_X3_score
  refine G.sub (lv' := [(0, rv κ this)]) [0] rfl ?_
  refine G_aload_n dX3_score_0 0 rfl rfl ?_
  refine G_getI cf_X3 (j := 0) rfl w_148 dX3_score_1 (fun x1 => ?_)
  refine G_if_le (tgt := 29) dX3_score_4 (by decide) ?_ ?_
  · refine G_fconst0 dX3_score_29 ?_
    exact G_ret (v := FP.fconst0) dX3_score_30 (fun h => by cases h) rfl
  · refine G_aload_n dX3_score_7 0 rfl rfl ?_
    refine G_callV cf_X3 ok_X3_freePlaces [] [] (con_X3_freePlaces κ M this) rfl w_666 w_667 w_668 (Nat.le_of_ble_eq_true rfl) (Nat.le_of_ble_eq_true rfl) dX3_score_8 rfl (by simp) (fun x3 M2 => (show G _ _ _ _ _ _ [.int x3] _ from ?_))
    refine G_i2f dX3_score_11 ?_
    refine G_aload_n dX3_score_12 0 rfl rfl ?_
    refine G_getF cf_X3 (j := 4) rfl w_154 dX3_score_13 (fun r4 => ?_)
    refine G_ldcf (v := 1056964608) dX3_score_16 w_670 ?_
    refine G_fmul dX3_score_18 (fun r5 => ?_)
    refine G_fadd dX3_score_19 (fun r6 => ?_)
    refine G_aload_n dX3_score_20 0 rfl rfl ?_
    refine G_getI cf_X3 (j := 0) rfl w_148 dX3_score_21 (fun x7 => ?_)
    refine G_i2f dX3_score_24 ?_
    refine G_fdiv dX3_score_25 (fun r8 => ?_)
    refine G_goto (tgt := 30) dX3_score_26 (by decide) ?_
    exact G_ret (v := r8) dX3_score_30 (fun h => by cases h) rfl
def m_X3_admitCar (M : Mem) (this : Option Nat) : Option (Unit × Mem) :=
  dI M 3 1 this (fun (x1 : Int32) => pI M 3 1 this ((x1 + 1)) (fun (M2 : Mem) => dI M2 3 3 this (fun (x3 : Int32) => pI M2 3 3 this ((x3 + 1)) (fun (M4 : Mem) => rt () M4))))
abbrev md_X3_admitCar : MD := (RX3, yX3_admitCar, cX3_admitCar, 1, Option.none, 0, 0)
theorem ok_X3_admitCar : MOk md_X3_admitCar 0 := ⟨by decide +kernel, w_687, w_7, ⟨by decide +kernel, by decide +kernel⟩, by decide +kernel, rfl⟩
set_option maxRecDepth 100000 in
set_option maxHeartbeats 4000000 in
theorem con_X3_admitCar (κ : Cfg) (M : Mem) (this : Option Nat) : Con κ md_X3_admitCar [rv κ this] M cvV (m_X3_admitCar M this) := by
  refine Con.of ok_X3_admitCar (ret_V rfl) (by
    intro v hv
    simp only [List.mem_cons, List.not_mem_nil, or_false] at hv
    subst hv; first | rfl | exact rv_cat _ _) (Nat.le_of_ble_eq_true rfl) ?_
  unfold m_X3_admitCar
  refine G.sub (lv' := [(0, rv κ this)]) [0] rfl ?_
  refine G_aload_n dX3_admitCar_0 0 rfl rfl ?_
  refine G_dup dX3_admitCar_1 (rv_cat _ _) ?_
  refine G_getI cf_X3 (j := 1) rfl w_150 dX3_admitCar_2 (fun x1 => ?_)
  refine G_iconst (v := 1) dX3_admitCar_5 (by decide) ?_
  refine G_iadd dX3_admitCar_6 ?_
  refine G_putI cf_X3 (j := 1) rfl rfl w_150 (Or.inl rfl) dX3_admitCar_7 (fun M2 => ?_)
  refine G_aload_n dX3_admitCar_10 0 rfl rfl ?_
  refine G_dup dX3_admitCar_11 (rv_cat _ _) ?_
  refine G_getI cf_X3 (j := 3) rfl w_153 dX3_admitCar_12 (fun x3 => ?_)
  refine G_iconst (v := 1) dX3_admitCar_15 (by decide) ?_
  refine G_iadd dX3_admitCar_16 ?_
  refine G_putI cf_X3 (j := 3) rfl rfl w_153 (Or.inl rfl) dX3_admitCar_17 (fun M4 => ?_)
  exact G_ret (v := ()) dX3_admitCar_20 (fun h => by cases h) rfl
def m_X3_releaseCar (M : Mem) (this : Option Nat) : Option (Unit × Mem) :=
  dI M 3 1 this (fun (x1 : Int32) => pI M 3 1 this ((x1 - 1)) (fun (M2 : Mem) => dI M2 3 2 this (fun (x3 : Int32) => pI M2 3 2 this ((x3 + 1)) (fun (M4 : Mem) => rt () M4))))
abbrev md_X3_releaseCar : MD := (RX3, yX3_releaseCar, cX3_releaseCar, 1, Option.none, 0, 0)
theorem ok_X3_releaseCar : MOk md_X3_releaseCar 0 := ⟨by decide +kernel, w_779, w_7, ⟨by decide +kernel, by decide +kernel⟩, by decide +kernel, rfl⟩
set_option maxRecDepth 100000 in
set_option maxHeartbeats 4000000 in
theorem con_X3_releaseCar (κ : Cfg) (M : Mem) (this : Option Nat) : Con κ md_X3_releaseCar [rv κ this] M cvV (m_X3_releaseCar M this) := by
  refine Con.of ok_X3_releaseCar (ret_V rfl) (by
    intro v hv
    simp only [List.mem_cons, List.not_mem_nil, or_false] at hv
    subst hv; first | rfl | exact rv_cat _ _) (Nat.le_of_ble_eq_true rfl) ?_
  unfold m_X3_releaseCar
  refine G.sub (lv' := [(0, rv κ this)]) [0] rfl ?_
  refine G_aload_n dX3_releaseCar_0 0 rfl rfl ?_
  refine G_dup dX3_releaseCar_1 (rv_cat _ _) ?_
  refine G_getI cf_X3 (j := 1) rfl w_150 dX3_releaseCar_2 (fun x1 => ?_)
  refine G_iconst (v := 1) dX3_releaseCar_5 (by decide) ?_
  refine G_isub dX3_releaseCar_6 ?_
  refine G_putI cf_X3 (j := 1) rfl rfl w_150 (Or.inl rfl) dX3_releaseCar_7 (fun M2 => ?_)
  refine G_aload_n dX3_releaseCar_10 0 rfl rfl ?_
  refine G_dup dX3_releaseCar_11 (rv_cat _ _) ?_
  refine G_getI cf_X3 (j := 2) rfl w_152 dX3_releaseCar_12 (fun x3 => ?_)
  refine G_iconst (v := 1) dX3_releaseCar_15 (by decide) ?_
  refine G_iadd dX3_releaseCar_16 ?_
  refine G_putI cf_X3 (j := 2) rfl rfl w_152 (Or.inl rfl) dX3_releaseCar_17 (fun M4 => ?_)
  exact G_ret (v := ()) dX3_releaseCar_20 (fun h => by cases h) rfl
def m_X9_reduce (M : Mem) (this : Option Nat) (p1 : Int32) : Option (Int32 × Mem) :=
  dI M 9 0 this (fun (x1 : Int32) => (if x1 = 1 then dI M 9 1 this (fun (x2 : Int32) => rt ((p1 - ((p1 * x2) / 100))) M) else (if x1 = 2 then dI M 9 1 this (fun (x3 : Int32) => rt ((imax 0 ((p1 - x3)))) M) else (if x1 = 3 then dI M 9 1 this (fun (x4 : Int32) => rt ((imin p1 x4)) M) else rt p1 M))))
abbrev md_X9_reduce : MD := (RX9, yX9_reduce, cX9_reduce, 2, Option.some Jvm.ClassFile.FieldType.int, 1, 21)
theorem ok_X9_reduce : MOk md_X9_reduce 1 := ⟨by decide +kernel, w_749, w_5, ⟨by decide +kernel, by decide +kernel⟩, by decide +kernel, rfl⟩
set_option maxRecDepth 100000 in
set_option maxHeartbeats 4000000 in
theorem con_X9_reduce (κ : Cfg) (M : Mem) (this : Option Nat) (p1 : Int32) : Con κ md_X9_reduce [rv κ this, .int p1] M cvI (m_X9_reduce M this p1) := by
  refine Con.of ok_X9_reduce (ret_I rfl) (by
    intro v hv
    simp only [List.mem_cons, List.not_mem_nil, or_false] at hv
    rcases hv with rfl | rfl <;> first | rfl | exact rv_cat _ _) (Nat.le_of_ble_eq_true rfl) ?_
  unfold m_X9_reduce
  refine G.sub (lv' := [(0, rv κ this), (1, .int p1)]) [0, 1] rfl ?_
  refine G_aload_n dX9_reduce_0 0 rfl rfl ?_
  refine G_getI cf_X9 (j := 0) rfl w_113 dX9_reduce_1 (fun x1 => ?_)
  refine G.cond (fun hx4_0 => ?_) (fun hn4_0 => ?_)
  · refine G_tin (n := 1) (tgt := 32) dX9_reduce_4 (by rw [hx4_0]; rfl) (by decide) (by decide) rfl (by decide) ?_
    refine G_iload_n dX9_reduce_32 1 rfl rfl ?_
    refine G_iload_n dX9_reduce_33 1 rfl rfl ?_
    refine G_aload_n dX9_reduce_34 0 rfl rfl ?_
    refine G_getI cf_X9 (j := 1) rfl w_116 dX9_reduce_35 (fun x2 => ?_)
    refine G_imul dX9_reduce_38 ?_
    refine G_bipush (v := 100) dX9_reduce_39 (by decide) ?_
    refine G_idiv dX9_reduce_41 (by decide) ?_
    refine G_isub dX9_reduce_42 ?_
    exact G_ret (v := ((p1 - ((p1 * x2) / 100)))) dX9_reduce_43 (fun h => by cases h) rfl
  refine G.cond (fun hx4_1 => ?_) (fun hn4_1 => ?_)
  · refine G_tin (n := 2) (tgt := 44) dX9_reduce_4 (by rw [hx4_1]; rfl) (by decide) (by decide) rfl (by decide) ?_
    refine G_iconst (v := 0) dX9_reduce_44 (by decide) ?_
    refine G_iload_n dX9_reduce_45 1 rfl rfl ?_
    refine G_aload_n dX9_reduce_46 0 rfl rfl ?_
    refine G_getI cf_X9 (j := 1) rfl w_116 dX9_reduce_47 (fun x3 => ?_)
    refine G_isub dX9_reduce_50 ?_
    refine G_max w_750 w_573 w_17 w_574 (Nat.le_of_ble_eq_true rfl) (Nat.le_of_ble_eq_true rfl) (by simp) dX9_reduce_51 ?_
    exact G_ret (v := ((imax 0 ((p1 - x3))))) dX9_reduce_54 (fun h => by cases h) rfl
  refine G.cond (fun hx4_2 => ?_) (fun hn4_2 => ?_)
  · refine G_tin (n := 3) (tgt := 55) dX9_reduce_4 (by rw [hx4_2]; rfl) (by decide) (by decide) rfl (by decide) ?_
    refine G_iload_n dX9_reduce_55 1 rfl rfl ?_
    refine G_aload_n dX9_reduce_56 0 rfl rfl ?_
    refine G_getI cf_X9 (j := 1) rfl w_116 dX9_reduce_57 (fun x4 => ?_)
    refine G_min w_751 w_542 w_17 w_543 (Nat.le_of_ble_eq_true rfl) (Nat.le_of_ble_eq_true rfl) (by simp) dX9_reduce_60 ?_
    exact G_ret (v := ((imin p1 x4))) dX9_reduce_63 (fun h => by cases h) rfl
  refine G_tout (tgt := 64) dX9_reduce_4 (by
      have hz0 : (x1).toInt ≠ 1 := fun h => hn4_0 (Int32.toInt_inj.mp (h.trans rfl))
      have hz1 : (x1).toInt ≠ 2 := fun h => hn4_1 (Int32.toInt_inj.mp (h.trans rfl))
      have hz2 : (x1).toInt ≠ 3 := fun h => hn4_2 (Int32.toInt_inj.mp (h.trans rfl))
      omega) (by decide) ?_
  refine G_iload_n dX9_reduce_64 1 rfl rfl ?_
  exact G_ret (v := p1) dX9_reduce_65 (fun h => by cases h) rfl
def m_X3_passHour (M : Mem) (this : Option Nat) : Option (Unit × Mem) :=
  dF M 3 4 this (fun (r1 : UInt32) => o_fmul r1 1061158912 (fun (r2 : UInt32) => dI M 3 2 this (fun (x3 : Int32) => o_fmul ((FP.i2f x3)) 1048576000 (fun (r4 : UInt32) => o_fadd r2 r4 (fun (r5 : UInt32) => pF M 3 4 this r5 (fun (M6 : Mem) => pI M6 3 2 this 0 (fun (M7 : Mem) => rt () M7)))))))
abbrev md_X3_passHour : MD := (RX3, yX3_passHour, cX3_passHour, 1, Option.none, 0, 0)
theorem ok_X3_passHour : MOk md_X3_passHour 0 := ⟨by decide +kernel, w_809, w_7, ⟨by decide +kernel, by decide +kernel⟩, by decide +kernel, rfl⟩
set_option maxRecDepth 100000 in
set_option maxHeartbeats 4000000 in
theorem con_X3_passHour (κ : Cfg) (M : Mem) (this : Option Nat) : Con κ md_X3_passHour [rv κ this] M cvV (m_X3_passHour M this) := by
  refine Con.of ok_X3_passHour (ret_V rfl) (by
    intro v hv
    simp only [List.mem_cons, List.not_mem_nil, or_false] at hv
    subst hv; first | rfl | exact rv_cat _ _) (Nat.le_of_ble_eq_true rfl) ?_
  unfold m_X3_passHour
  refine G.sub (lv' := [(0, rv κ this)]) [0] rfl ?_
  refine G_aload_n dX3_passHour_0 0 rfl rfl ?_
  refine G_aload_n dX3_passHour_1 0 rfl rfl ?_
  refine G_getF cf_X3 (j := 4) rfl w_154 dX3_passHour_2 (fun r1 => ?_)
  refine G_ldcf (v := 1061158912) dX3_passHour_5 w_810 ?_
  refine G_fmul dX3_passHour_7 (fun r2 => ?_)
  refine G_aload_n dX3_passHour_8 0 rfl rfl ?_
  refine G_getI cf_X3 (j := 2) rfl w_152 dX3_passHour_9 (fun x3 => ?_)
  refine G_i2f dX3_passHour_12 ?_
  refine G_ldcf (v := 1048576000) dX3_passHour_13 w_811 ?_
  refine G_fmul dX3_passHour_15 (fun r4 => ?_)
  refine G_fadd dX3_passHour_16 (fun r5 => ?_)
  refine G_putF cf_X3 (j := 4) rfl rfl w_154 (Or.inl rfl) dX3_passHour_17 (fun M6 => ?_)
  refine G_aload_n dX3_passHour_20 0 rfl rfl ?_
  refine G_iconst (v := 0) dX3_passHour_21 (by decide) ?_
  refine G_putI cf_X3 (j := 2) rfl rfl w_152 (Or.inl rfl) dX3_passHour_22 (fun M7 => ?_)
  exact G_ret (v := ()) dX3_passHour_25 (fun h => by cases h) rfl
def b_X2_make_12 (this : Option Nat) (L12_2 : (Int32 × Mem) → Option (Unit × Mem)) (a3 : Int32 × Mem) : Option (Unit × Mem) :=
  (if 5 ≤ a3.1 then rt () a3.2 else dP a3.2 2 0 this (fun (q5 : Option Nat) => sI a3.2 100 q5 a3.1 ((-1)) (fun (M6 : Mem) => L12_2 ((a3.1 + 1), M6))))
def m_X2_make (M : Mem) (this : Option Nat) (p1 : Int32) (p2 : Int32) : Option (Unit × Mem) :=
  pI M 2 2 this p1 (fun (M1 : Mem) => pI M1 2 1 this p2 (fun (M2 : Mem) => lp (b_X2_make_12 this) FU (0, M2)))
abbrev md_X2_make : MD := (RX2, yX2_make, cX2_make, 4, Option.none, 0, 0)
theorem ok_X2_make : MOk md_X2_make 2 := ⟨by decide +kernel, w_606, w_6, ⟨by decide +kernel, by decide +kernel⟩, by decide +kernel, rfl⟩
set_option maxRecDepth 100000 in
set_option maxHeartbeats 4000000 in
theorem con_X2_make (κ : Cfg) (M : Mem) (this : Option Nat) (p1 : Int32) (p2 : Int32) : Con κ md_X2_make [rv κ this, .int p1, .int p2] M cvV (m_X2_make M this p1 p2) := by
  refine Con.of ok_X2_make (ret_V rfl) (by
    intro v hv
    simp only [List.mem_cons, List.not_mem_nil, or_false] at hv
    rcases hv with rfl | rfl | rfl <;> first | rfl | exact rv_cat _ _) (Nat.le_of_ble_eq_true rfl) ?_
  unfold m_X2_make
  refine G.sub (lv' := [(0, rv κ this), (1, .int p1), (2, .int p2)]) [0, 1, 2] rfl ?_
  refine G_aload_n dX2_make_0 0 rfl rfl ?_
  refine G_iload_n dX2_make_1 1 rfl rfl ?_
  refine G_putI cf_X2 (j := 2) rfl rfl w_134 (Or.inl rfl) dX2_make_2 (fun M1 => ?_)
  refine G_aload_n dX2_make_5 0 rfl rfl ?_
  refine G_iload_n dX2_make_6 2 rfl rfl ?_
  refine G_putI cf_X2 (j := 1) rfl rfl w_133 (Or.inl rfl) dX2_make_7 (fun M2 => ?_)
  refine G_iconst (v := 0) dX2_make_10 (by decide) ?_
  refine G_istore_n (lv' := [(3, .int 0), (0, rv κ this), (1, .int p1), (2, .int p2)]) dX2_make_11 rfl (Nat.le_of_ble_eq_true rfl) rfl ?_
  refine G.sub (lv' := [(0, rv κ this), (3, .int 0)]) [1, 0] rfl ?_
  refine G.loop (lvf := fun (a3 : Int32 × Mem) => [(0, rv κ this), (3, .int a3.1)]) (mf := fun (a3 : Int32 × Mem) => a3.2) (fun L12_2 hL12_2 a3 => ?_) FU (0, M2)
  unfold b_X2_make_12
  refine G_iload_n dX2_make_12 1 rfl rfl ?_
  refine G_iconst (v := 5) dX2_make_13 (by decide) ?_
  refine G_icmp_ge (tgt := 30) dX2_make_14 (by decide) ?_ ?_
  · exact G_ret (v := ()) dX2_make_30 (fun h => by cases h) rfl
  · refine G_aload_n dX2_make_17 0 rfl rfl ?_
    refine G_getP cf_X2 (j := 0) rfl w_132 dX2_make_18 (fun q5 => ?_)
    refine G_iload_n dX2_make_21 1 rfl rfl ?_
    refine G_iconst (v := (-1)) dX2_make_22 (by decide) ?_
    refine G_iast dX2_make_23 (fun M6 => ?_)
    refine G_iinc (v := (a3.1 + 1)) (lv' := [(3, .int (a3.1 + 1)), (0, rv κ this)]) dX2_make_24 1 rfl (congrArg (fun z9 : Int32 => a3.1 + z9) (by decide : Int32.ofInt 1 = 1)) (Nat.le_of_ble_eq_true rfl) rfl ?_
    refine G_goto (tgt := 12) dX2_make_27 (by decide) ?_
    exact G.sub [1, 0] rfl (hL12_2 _)
def m_X2_takes (M : Mem) (this : Option Nat) (p1 : Int32) : Option (Int32 × Mem) :=
  dI M 2 2 this (fun (x1 : Int32) => (if x1 = (-1) then rtZ 1 M else dI M 2 2 this (fun (x2 : Int32) => (if x2 ≠ p1 then rtZ 0 M else rtZ 1 M))))
abbrev md_X2_takes : MD := (RX2, yX2_takes, cX2_takes, 2, Option.some Jvm.ClassFile.FieldType.boolean, 0, 0)
theorem ok_X2_takes : MOk md_X2_takes 1 := ⟨by decide +kernel, w_627, w_6, ⟨by decide +kernel, by decide +kernel⟩, by decide +kernel, rfl⟩
set_option maxRecDepth 100000 in
set_option maxHeartbeats 4000000 in
theorem con_X2_takes (κ : Cfg) (M : Mem) (this : Option Nat) (p1 : Int32) : Con κ md_X2_takes [rv κ this, .int p1] M cvI (m_X2_takes M this p1) := by
  refine Con.of ok_X2_takes (ret_Z rfl) (by
    intro v hv
    simp only [List.mem_cons, List.not_mem_nil, or_false] at hv
    rcases hv with rfl | rfl <;> first | rfl | exact rv_cat _ _) (Nat.le_of_ble_eq_true rfl) ?_
  unfold m_X2_takes
  refine G.sub (lv' := [(0, rv κ this), (1, .int p1)]) [0, 1] rfl ?_
  refine G_aload_n dX2_takes_0 0 rfl rfl ?_
  refine G_getI cf_X2 (j := 2) rfl w_134 dX2_takes_1 (fun x1 => ?_)
  refine G_iconst (v := (-1)) dX2_takes_4 (by decide) ?_
  refine G_icmp_eq (tgt := 16) dX2_takes_5 (by decide) ?_ ?_
  · refine G_iconst (v := 1) dX2_takes_16 (by decide) ?_
    refine G_goto (tgt := 21) dX2_takes_17 (by decide) ?_
    exact G_retZ dX2_takes_21
  · refine G_aload_n dX2_takes_8 0 rfl rfl ?_
    refine G_getI cf_X2 (j := 2) rfl w_134 dX2_takes_9 (fun x2 => ?_)
    refine G_iload_n dX2_takes_12 1 rfl rfl ?_
    refine G_icmp_ne (tgt := 20) dX2_takes_13 (by decide) ?_ ?_
    · refine G_iconst (v := 0) dX2_takes_20 (by decide) ?_
      exact G_retZ dX2_takes_21
    · refine G_iconst (v := 1) dX2_takes_16 (by decide) ?_
      refine G_goto (tgt := 21) dX2_takes_17 (by decide) ?_
      exact G_retZ dX2_takes_21
def m_X2_fill (M : Mem) (this : Option Nat) (p1 : Int32) (p2 : Int32) : Option (Unit × Mem) :=
  rc M 2 this (cl (m_X2_hasPlace M this p1) (fun (x2 : Int32) (M1 : Mem) => (if x2 = 0 then rt () M1 else dP M1 2 0 this (fun (q3 : Option Nat) => sI M1 100 q3 p1 p2 (fun (M4 : Mem) => rt () M4)))))
abbrev md_X2_fill : MD := (RX2, yX2_fill, cX2_fill, 3, Option.none, 2, 43)
theorem ok_X2_fill : MOk md_X2_fill 2 := ⟨by decide +kernel, w_631, w_6, ⟨by decide +kernel, by decide +kernel⟩, by decide +kernel, rfl⟩
set_option maxRecDepth 100000 in
set_option maxHeartbeats 4000000 in
theorem con_X2_fill (κ : Cfg) (M : Mem) (this : Option Nat) (p1 : Int32) (p2 : Int32) : Con κ md_X2_fill [rv κ this, .int p1, .int p2] M cvV (m_X2_fill M this p1 p2) := by
  refine Con.of ok_X2_fill (ret_V rfl) (by
    intro v hv
    simp only [List.mem_cons, List.not_mem_nil, or_false] at hv
    rcases hv with rfl | rfl | rfl <;> first | rfl | exact rv_cat _ _) (Nat.le_of_ble_eq_true rfl) ?_
  unfold m_X2_fill
  refine G.sub (lv' := [(0, rv κ this), (1, .int p1), (2, .int p2)]) [0, 1, 2] rfl ?_
  refine G_aload_n dX2_fill_0 0 rfl rfl ?_
  refine G_iload_n dX2_fill_1 1 rfl rfl ?_
  refine G_callV cf_X2 ok_X2_hasPlace [.int p1] [] (con_X2_hasPlace κ M this p1) rfl w_632 w_620 w_621 (Nat.le_of_ble_eq_true rfl) (Nat.le_of_ble_eq_true rfl) dX2_fill_2 rfl (by simp) (fun x2 M1 => (show G _ _ _ _ _ _ [.int x2] _ from ?_))
  refine G_if_eq (tgt := 15) dX2_fill_5 (by decide) ?_ ?_
  · exact G_ret (v := ()) dX2_fill_15 (fun h => by cases h) rfl
  · refine G_aload_n dX2_fill_8 0 rfl rfl ?_
    refine G_getP cf_X2 (j := 0) rfl w_132 dX2_fill_9 (fun q3 => ?_)
    refine G_iload_n dX2_fill_12 1 rfl rfl ?_
    refine G_iload_n dX2_fill_13 2 rfl rfl ?_
    refine G_iast dX2_fill_14 (fun M4 => ?_)
    exact G_ret (v := ()) dX2_fill_15 (fun h => by cases h) rfl
def b_X2_filledPlaces_4 (this : Option Nat) (L4_0 : (Int32 × Int32 × Mem) → Option (Int32 × Mem)) (a1 : Int32 × Int32 × Mem) : Option (Int32 × Mem) :=
  (if 5 ≤ a1.2.1 then rt a1.1 a1.2.2 else dI a1.2.2 2 1 this (fun (x3 : Int32) => (if x3 ≤ a1.2.1 then rt a1.1 a1.2.2 else dP a1.2.2 2 0 this (fun (q4 : Option Nat) => aI a1.2.2 100 q4 a1.2.1 (fun (x5 : Int32) => jn (fun (x7 : Int32) (M8 : Mem) => L4_0 ((a1.1 + x7), (a1.2.1 + 1), M8)) (fun (J33_5 : Int32 → Mem → Option (Int32 × Mem)) => (if x5 = (-1) then J33_5 0 a1.2.2 else J33_5 1 a1.2.2)))))))
def m_X2_filledPlaces (M : Mem) (this : Option Nat) : Option (Int32 × Mem) :=
  lp (b_X2_filledPlaces_4 this) FU (0, 0, M)
abbrev md_X2_filledPlaces : MD := (RX2, yX2_filledPlaces, cX2_filledPlaces, 3, Option.some Jvm.ClassFile.FieldType.int, 0, 0)
theorem ok_X2_filledPlaces : MOk md_X2_filledPlaces 0 := ⟨by decide +kernel, w_636, w_6, ⟨by decide +kernel, by decide +kernel⟩, by decide +kernel, rfl⟩
set_option maxRecDepth 100000 in
set_option maxHeartbeats 4000000 in
theorem con_X2_filledPlaces (κ : Cfg) (M : Mem) (this : Option Nat) : Con κ md_X2_filledPlaces [rv κ this] M cvI (m_X2_filledPlaces M this) := by
  refine Con.of ok_X2_filledPlaces (ret_I rfl) (by
    intro v hv
    simp only [List.mem_cons, List.not_mem_nil, or_false] at hv
    subst hv; first | rfl | exact rv_cat _ _) (Nat.le_of_ble_eq_true rfl) ?_
  unfold m_X2_filledPlaces
  refine G.sub (lv' := [(0, rv κ this)]) [0] rfl ?_
  refine G_iconst (v := 0) dX2_filledPlaces_0 (by decide) ?_
  refine G_istore_n (lv' := [(1, .int 0), (0, rv κ this)]) dX2_filledPlaces_1 rfl (Nat.le_of_ble_eq_true rfl) rfl ?_
  refine G_iconst (v := 0) dX2_filledPlaces_2 (by decide) ?_
  refine G_istore_n (lv' := [(2, .int 0), (1, .int 0), (0, rv κ this)]) dX2_filledPlaces_3 rfl (Nat.le_of_ble_eq_true rfl) rfl ?_
  refine G.sub (lv' := [(0, rv κ this), (1, .int 0), (2, .int 0)]) [2, 1, 0] rfl ?_
  refine G.loop (lvf := fun (a1 : Int32 × Int32 × Mem) => [(0, rv κ this), (1, .int a1.1), (2, .int a1.2.1)]) (mf := fun (a1 : Int32 × Int32 × Mem) => a1.2.2) (fun L4_0 hL4_0 a1 => ?_) FU (0, 0, M)
  unfold b_X2_filledPlaces_4
  refine G_iload_n dX2_filledPlaces_4 2 rfl rfl ?_
  refine G_iconst (v := 5) dX2_filledPlaces_5 (by decide) ?_
  refine G_icmp_ge (tgt := 41) dX2_filledPlaces_6 (by decide) ?_ ?_
  · refine G_iload_n dX2_filledPlaces_41 1 rfl rfl ?_
    exact G_ret (v := a1.1) dX2_filledPlaces_42 (fun h => by cases h) rfl
  · refine G_iload_n dX2_filledPlaces_9 2 rfl rfl ?_
    refine G_aload_n dX2_filledPlaces_10 0 rfl rfl ?_
    refine G_getI cf_X2 (j := 1) rfl w_133 dX2_filledPlaces_11 (fun x3 => ?_)
    refine G_icmp_ge (tgt := 41) dX2_filledPlaces_14 (by decide) ?_ ?_
    · refine G_iload_n dX2_filledPlaces_41 1 rfl rfl ?_
      exact G_ret (v := a1.1) dX2_filledPlaces_42 (fun h => by cases h) rfl
    · refine G_iload_n dX2_filledPlaces_17 1 rfl rfl ?_
      refine G_aload_n dX2_filledPlaces_18 0 rfl rfl ?_
      refine G_getP cf_X2 (j := 0) rfl w_132 dX2_filledPlaces_19 (fun q4 => ?_)
      refine G_iload_n dX2_filledPlaces_22 2 rfl rfl ?_
      refine G_iald dX2_filledPlaces_23 (fun x5 => ?_)
      refine G_iconst (v := (-1)) dX2_filledPlaces_24 (by decide) ?_
      refine G.jn (P := (fun (J : Int32 → Mem → Option (Int32 × Mem)) => ∀ (x7 : Int32) (M8 : Mem), G κ md_X2_filledPlaces cvI (J x7 M8) 33 [(0, rv κ this), (2, .int a1.2.1)] [.int x7, .int a1.1] M8)) ?_ ?_
      · intro x7 M8
        refine G_iadd dX2_filledPlaces_33 ?_
        refine G_istore_n (lv' := [(1, .int (a1.1 + x7)), (0, rv κ this), (2, .int a1.2.1)]) dX2_filledPlaces_34 rfl (Nat.le_of_ble_eq_true rfl) rfl ?_
        refine G_iinc (v := (a1.2.1 + 1)) (lv' := [(2, .int (a1.2.1 + 1)), (1, .int (a1.1 + x7)), (0, rv κ this)]) dX2_filledPlaces_35 2 rfl (congrArg (fun z9 : Int32 => a1.2.1 + z9) (by decide : Int32.ofInt 1 = 1)) (Nat.le_of_ble_eq_true rfl) rfl ?_
        refine G_goto (tgt := 4) dX2_filledPlaces_38 (by decide) ?_
        exact G.sub [2, 1, 0] rfl (hL4_0 _)
      · intro J33_5 hJ33_5
        refine G_icmp_eq (tgt := 32) dX2_filledPlaces_25 (by decide) ?_ ?_
        · refine G_iconst (v := 0) dX2_filledPlaces_32 (by decide) ?_
          exact G.sub [0, 2] rfl (hJ33_5 _ _)
        · refine G_iconst (v := 1) dX2_filledPlaces_28 (by decide) ?_
          refine G_goto (tgt := 33) dX2_filledPlaces_29 (by decide) ?_
          exact G.sub [0, 2] rfl (hJ33_5 _ _)
def b_X10_bitsOf_30 (J51_4 : UInt32 → Int32 → Mem → Option (Int32 × Mem)) (L30_9 : (UInt32 × Int32 × Mem) → Option (Int32 × Mem)) (a10 : UInt32 × Int32 × Mem) : Option (Int32 × Mem) :=
  (if 0 ≤ (Op.cmpValue (FP.fcmp a10.1 FP.fconst1) .g) then J51_4 a10.1 a10.2.1 a10.2.2 else (if a10.2.1 ≤ 1 then J51_4 a10.1 a10.2.1 a10.2.2 else o_fmul a10.1 FP.fconst2 (fun (r12 : UInt32) => L30_9 (r12, (a10.2.1 - 1), a10.2.2))))
def b_X10_bitsOf_5 (J30_0 : UInt32 → Int32 → Mem → Option (Int32 × Mem)) (L5_12 : (UInt32 × Int32 × Mem) → Option (Int32 × Mem)) (a13 : UInt32 × Int32 × Mem) : Option (Int32 × Mem) :=
  (if (Op.cmpValue (FP.fcmp a13.1 FP.fconst2) .l) < 0 then J30_0 a13.1 a13.2.1 a13.2.2 else (if 254 ≤ a13.2.1 then J30_0 a13.1 a13.2.1 a13.2.2 else o_fmul a13.1 1056964608 (fun (r15 : UInt32) => L5_12 (r15, (a13.2.1 + 1), a13.2.2))))
def m_X10_bitsOf (M : Mem) (p1 : UInt32) : Option (Int32 × Mem) :=
  jn (fun (r2 : UInt32) (x3 : Int32) (M4 : Mem) => jn (fun (r6 : UInt32) (x7 : Int32) (M8 : Mem) => o_fmul r6 1258291200 (fun (r9 : UInt32) => rt ((((x7 - 1) <<< (23 &&& 31)) + (FP.f2i r9))) M8)) (fun (J51_4 : UInt32 → Int32 → Mem → Option (Int32 × Mem)) => lp (b_X10_bitsOf_30 J51_4) FU (r2, x3, M4))) (fun (J30_0 : UInt32 → Int32 → Mem → Option (Int32 × Mem)) => lp (b_X10_bitsOf_5 J30_0) FU (p1, 127, M))
abbrev md_X10_bitsOf : MD := (RX10, yX10_bitsOf, cX10_bitsOf, 3, Option.some Jvm.ClassFile.FieldType.int, 0, 0)
theorem ok_X10_bitsOf : MOk md_X10_bitsOf 1 := ⟨by decide +kernel, w_827, w_1, ⟨by decide +kernel, by decide +kernel⟩, by decide +kernel, rfl⟩
set_option maxRecDepth 100000 in
set_option maxHeartbeats 4000000 in
theorem con_X10_bitsOf (κ : Cfg) (M : Mem) (p1 : UInt32) : Con κ md_X10_bitsOf [.float p1] M cvI (m_X10_bitsOf M p1) := by
  refine Con.of ok_X10_bitsOf (ret_I rfl) (by
    intro v hv
    simp only [List.mem_cons, List.not_mem_nil, or_false] at hv
    subst hv; first | rfl | exact rv_cat _ _) (Nat.le_of_ble_eq_true rfl) ?_
  unfold m_X10_bitsOf
  refine G.sub (lv' := [(0, .float p1)]) [0] rfl ?_
  refine G_fload_n dX10_bitsOf_0 0 rfl rfl ?_
  refine G_fstore_n (lv' := [(1, .float p1), (0, .float p1)]) dX10_bitsOf_1 rfl (Nat.le_of_ble_eq_true rfl) rfl ?_
  refine G_bipush (v := 127) dX10_bitsOf_2 (by decide) ?_
  refine G_istore_n (lv' := [(2, .int 127), (1, .float p1), (0, .float p1)]) dX10_bitsOf_4 rfl (Nat.le_of_ble_eq_true rfl) rfl ?_
  refine G.jn (P := (fun (J : UInt32 → Int32 → Mem → Option (Int32 × Mem)) => ∀ (r2 : UInt32) (x3 : Int32) (M4 : Mem), G κ md_X10_bitsOf cvI (J r2 x3 M4) 30 [(1, .float r2), (2, .int x3)] [] M4)) ?_ ?_
  · intro r2 x3 M4
    refine G.jn (P := (fun (J : UInt32 → Int32 → Mem → Option (Int32 × Mem)) => ∀ (r6 : UInt32) (x7 : Int32) (M8 : Mem), G κ md_X10_bitsOf cvI (J r6 x7 M8) 51 [(1, .float r6), (2, .int x7)] [] M8)) ?_ ?_
    · intro r6 x7 M8
      refine G_iload_n dX10_bitsOf_51 1 rfl rfl ?_
      refine G_iconst (v := 1) dX10_bitsOf_52 (by decide) ?_
      refine G_isub dX10_bitsOf_53 ?_
      refine G_bipush (v := 23) dX10_bitsOf_54 (by decide) ?_
      refine G_ishl dX10_bitsOf_56 ?_
      refine G_fload_n dX10_bitsOf_57 0 rfl rfl ?_
      refine G_ldcwf (v := 1258291200) dX10_bitsOf_58 w_829 ?_
      refine G_fmul dX10_bitsOf_61 (fun r9 => ?_)
      refine G_f2i dX10_bitsOf_62 ?_
      refine G_iadd dX10_bitsOf_63 ?_
      exact G_ret (v := ((((x7 - 1) <<< (23 &&& 31)) + (FP.f2i r9)))) dX10_bitsOf_64 (fun h => by cases h) rfl
    · intro J51_4 hJ51_4
      refine G.sub (lv' := [(1, .float r2), (2, .int x3)]) [0, 1] rfl ?_
      refine G.loop (lvf := fun (a10 : UInt32 × Int32 × Mem) => [(1, .float a10.1), (2, .int a10.2.1)]) (mf := fun (a10 : UInt32 × Int32 × Mem) => a10.2.2) (fun L30_9 hL30_9 a10 => ?_) FU (r2, x3, M4)
      unfold b_X10_bitsOf_30
      refine G_fload_n dX10_bitsOf_30 0 rfl rfl ?_
      refine G_fconst1 dX10_bitsOf_31 ?_
      refine G_fcmp dX10_bitsOf_32 ?_
      refine G_if_ge (tgt := 51) dX10_bitsOf_33 (by decide) ?_ ?_
      · exact G.sub [0, 1] rfl (hJ51_4 _ _ _)
      · refine G_iload_n dX10_bitsOf_36 1 rfl rfl ?_
        refine G_iconst (v := 1) dX10_bitsOf_37 (by decide) ?_
        refine G_icmp_le (tgt := 51) dX10_bitsOf_38 (by decide) ?_ ?_
        · exact G.sub [0, 1] rfl (hJ51_4 _ _ _)
        · refine G_fload_n dX10_bitsOf_41 0 rfl rfl ?_
          refine G_fconst2 dX10_bitsOf_42 ?_
          refine G_fmul dX10_bitsOf_43 (fun r12 => ?_)
          refine G_fstore_n (lv' := [(1, .float r12), (2, .int a10.2.1)]) dX10_bitsOf_44 rfl (Nat.le_of_ble_eq_true rfl) rfl ?_
          refine G_iinc (v := (a10.2.1 - 1)) (lv' := [(2, .int (a10.2.1 - 1)), (1, .float r12)]) dX10_bitsOf_45 1 rfl (iinc_m1 _) (Nat.le_of_ble_eq_true rfl) rfl ?_
          refine G_goto (tgt := 30) dX10_bitsOf_48 (by decide) ?_
          exact G.sub [1, 0] rfl (hL30_9 _)
  · intro J30_0 hJ30_0
    refine G.sub (lv' := [(1, .float p1), (2, .int 127)]) [1, 0] rfl ?_
    refine G.loop (lvf := fun (a13 : UInt32 × Int32 × Mem) => [(1, .float a13.1), (2, .int a13.2.1)]) (mf := fun (a13 : UInt32 × Int32 × Mem) => a13.2.2) (fun L5_12 hL5_12 a13 => ?_) FU (p1, 127, M)
    unfold b_X10_bitsOf_5
    refine G_fload_n dX10_bitsOf_5 0 rfl rfl ?_
    refine G_fconst2 dX10_bitsOf_6 ?_
    refine G_fcmp dX10_bitsOf_7 ?_
    refine G_if_lt (tgt := 30) dX10_bitsOf_8 (by decide) ?_ ?_
    · exact G.sub [0, 1] rfl (hJ30_0 _ _ _)
    · refine G_iload_n dX10_bitsOf_11 1 rfl rfl ?_
      refine G_sipush (v := 254) dX10_bitsOf_12 (by decide) ?_
      refine G_icmp_ge (tgt := 30) dX10_bitsOf_15 (by decide) ?_ ?_
      · exact G.sub [0, 1] rfl (hJ30_0 _ _ _)
      · refine G_fload_n dX10_bitsOf_18 0 rfl rfl ?_
        refine G_ldcwf (v := 1056964608) dX10_bitsOf_19 w_828 ?_
        refine G_fmul dX10_bitsOf_22 (fun r15 => ?_)
        refine G_fstore_n (lv' := [(1, .float r15), (2, .int a13.2.1)]) dX10_bitsOf_23 rfl (Nat.le_of_ble_eq_true rfl) rfl ?_
        refine G_iinc (v := (a13.2.1 + 1)) (lv' := [(2, .int (a13.2.1 + 1)), (1, .float r15)]) dX10_bitsOf_24 1 rfl (congrArg (fun z9 : Int32 => a13.2.1 + z9) (by decide : Int32.ofInt 1 = 1)) (Nat.le_of_ble_eq_true rfl) rfl ?_
        refine G_goto (tgt := 5) dX10_bitsOf_27 (by decide) ?_
        exact G.sub [1, 0] rfl (hL5_12 _)
def m_X3_property (M : Mem) (this : Option Nat) (p1 : Int32) : Option (Int32 × Mem) :=
  (if p1 = 0 then dI M 3 0 this (fun (x1 : Int32) => rt x1 M) else (if p1 = 1 then dI M 3 1 this (fun (x2 : Int32) => rt x2 M) else (if p1 = 2 then dF M 3 4 this (fun (r3 : UInt32) => cl (m_X10_bitsOf M r3) (fun (x5 : Int32) (M4 : Mem) => rt x5 M4)) else (if p1 = 3 then rc M 3 this (cl (m_X3_score M this) (fun (r7 : UInt32) (M6 : Mem) => cl (m_X10_bitsOf M6 r7) (fun (x9 : Int32) (M8 : Mem) => rt x9 M8))) else (if p1 = 4 then dI M 3 2 this (fun (x10 : Int32) => rt x10 M) else dI M 3 3 this (fun (x11 : Int32) => rt x11 M))))))
abbrev md_X3_property : MD := (RX3, yX3_property, cX3_property, 2, Option.some Jvm.ClassFile.FieldType.int, 2, 40)
theorem ok_X3_property : MOk md_X3_property 1 := ⟨by decide +kernel, w_824, w_7, ⟨by decide +kernel, by decide +kernel⟩, by decide +kernel, rfl⟩
set_option maxRecDepth 100000 in
set_option maxHeartbeats 4000000 in
theorem con_X3_property (κ : Cfg) (M : Mem) (this : Option Nat) (p1 : Int32) : Con κ md_X3_property [rv κ this, .int p1] M cvI (m_X3_property M this p1) := by
  refine Con.of ok_X3_property (ret_I rfl) (by
    intro v hv
    simp only [List.mem_cons, List.not_mem_nil, or_false] at hv
    rcases hv with rfl | rfl <;> first | rfl | exact rv_cat _ _) (Nat.le_of_ble_eq_true rfl) ?_
  unfold m_X3_property
  refine G.sub (lv' := [(0, rv κ this), (1, .int p1)]) [0, 1] rfl ?_
  refine G_iload_n dX3_property_0 1 rfl rfl ?_
  refine G.cond (fun hx1_0 => ?_) (fun hn1_0 => ?_)
  · refine G_tin (n := 0) (tgt := 36) dX3_property_1 (by rw [hx1_0]; rfl) (by decide) (by decide) rfl (by decide) ?_
    refine G_aload_n dX3_property_36 0 rfl rfl ?_
    refine G_getI cf_X3 (j := 0) rfl w_148 dX3_property_37 (fun x1 => ?_)
    exact G_ret (v := x1) dX3_property_40 (fun h => by cases h) rfl
  refine G.cond (fun hx1_1 => ?_) (fun hn1_1 => ?_)
  · refine G_tin (n := 1) (tgt := 41) dX3_property_1 (by rw [hx1_1]; rfl) (by decide) (by decide) rfl (by decide) ?_
    refine G_aload_n dX3_property_41 0 rfl rfl ?_
    refine G_getI cf_X3 (j := 1) rfl w_150 dX3_property_42 (fun x2 => ?_)
    exact G_ret (v := x2) dX3_property_45 (fun h => by cases h) rfl
  refine G.cond (fun hx1_2 => ?_) (fun hn1_2 => ?_)
  · refine G_tin (n := 2) (tgt := 46) dX3_property_1 (by rw [hx1_2]; rfl) (by decide) (by decide) rfl (by decide) ?_
    refine G_aload_n dX3_property_46 0 rfl rfl ?_
    refine G_getF cf_X3 (j := 4) rfl w_154 dX3_property_47 (fun r3 => ?_)
    refine G_callSN ok_X10_bitsOf [.float r3] [] (con_X10_bitsOf κ M r3) rfl (by simp [nestL, mdO, mdY]) w_826 (Nat.le_of_ble_eq_true rfl) (Nat.le_of_ble_eq_true rfl) dX3_property_50 rfl (by simp) (fun x5 M4 => (show G _ _ _ _ _ _ [.int x5] _ from ?_))
    exact G_ret (v := x5) dX3_property_53 (fun h => by cases h) rfl
  refine G.cond (fun hx1_3 => ?_) (fun hn1_3 => ?_)
  · refine G_tin (n := 3) (tgt := 54) dX3_property_1 (by rw [hx1_3]; rfl) (by decide) (by decide) rfl (by decide) ?_
    refine G_aload_n dX3_property_54 0 rfl rfl ?_
    refine G_callV cf_X3 ok_X3_score [] [] (con_X3_score κ M this) rfl w_830 w_663 w_664 (Nat.le_of_ble_eq_true rfl) (Nat.le_of_ble_eq_true rfl) dX3_property_55 rfl (by simp) (fun r7 M6 => (show G _ _ _ _ _ _ [.float r7] _ from ?_))
    refine G_callSN ok_X10_bitsOf [.float r7] [] (con_X10_bitsOf κ M6 r7) rfl (by simp [nestL, mdO, mdY]) w_826 (Nat.le_of_ble_eq_true rfl) (Nat.le_of_ble_eq_true rfl) dX3_property_58 rfl (by simp) (fun x9 M8 => (show G _ _ _ _ _ _ [.int x9] _ from ?_))
    exact G_ret (v := x9) dX3_property_61 (fun h => by cases h) rfl
  refine G.cond (fun hx1_4 => ?_) (fun hn1_4 => ?_)
  · refine G_tin (n := 4) (tgt := 62) dX3_property_1 (by rw [hx1_4]; rfl) (by decide) (by decide) rfl (by decide) ?_
    refine G_aload_n dX3_property_62 0 rfl rfl ?_
    refine G_getI cf_X3 (j := 2) rfl w_152 dX3_property_63 (fun x10 => ?_)
    exact G_ret (v := x10) dX3_property_66 (fun h => by cases h) rfl
  refine G_tout (tgt := 67) dX3_property_1 (by
      have hz0 : (p1).toInt ≠ 0 := fun h => hn1_0 (Int32.toInt_inj.mp (h.trans rfl))
      have hz1 : (p1).toInt ≠ 1 := fun h => hn1_1 (Int32.toInt_inj.mp (h.trans rfl))
      have hz2 : (p1).toInt ≠ 2 := fun h => hn1_2 (Int32.toInt_inj.mp (h.trans rfl))
      have hz3 : (p1).toInt ≠ 3 := fun h => hn1_3 (Int32.toInt_inj.mp (h.trans rfl))
      have hz4 : (p1).toInt ≠ 4 := fun h => hn1_4 (Int32.toInt_inj.mp (h.trans rfl))
      omega) (by decide) ?_
  refine G_aload_n dX3_property_67 0 rfl rfl ?_
  refine G_getI cf_X3 (j := 3) rfl w_153 dX3_property_68 (fun x11 => ?_)
  exact G_ret (v := x11) dX3_property_71 (fun h => by cases h) rfl
def m_X3_carsAfter (M : Mem) (this : Option Nat) (p1 : Int32) : Option (Int32 × Mem) :=
  dI M 3 1 this (fun (x1 : Int32) => dF M 3 4 this (fun (r2 : UInt32) => o_fmul r2 ((FP.i2f p1)) (fun (r3 : UInt32) => o_fdiv r3 1114636288 (fun (r4 : UInt32) => o_fsub ((FP.i2f x1)) r4 (fun (r5 : UInt32) => rt ((imax 0 ((FP.f2i r5)))) M)))))
abbrev md_X3_carsAfter : MD := (RX3, yX3_carsAfter, cX3_carsAfter, 2, Option.some Jvm.ClassFile.FieldType.int, 1, 21)
theorem ok_X3_carsAfter : MOk md_X3_carsAfter 1 := ⟨by decide +kernel, w_838, w_7, ⟨by decide +kernel, by decide +kernel⟩, by decide +kernel, rfl⟩
set_option maxRecDepth 100000 in
set_option maxHeartbeats 4000000 in
theorem con_X3_carsAfter (κ : Cfg) (M : Mem) (this : Option Nat) (p1 : Int32) : Con κ md_X3_carsAfter [rv κ this, .int p1] M cvI (m_X3_carsAfter M this p1) := by
  refine Con.of ok_X3_carsAfter (ret_I rfl) (by
    intro v hv
    simp only [List.mem_cons, List.not_mem_nil, or_false] at hv
    rcases hv with rfl | rfl <;> first | rfl | exact rv_cat _ _) (Nat.le_of_ble_eq_true rfl) ?_
  unfold m_X3_carsAfter
  refine G.sub (lv' := [(0, rv κ this), (1, .int p1)]) [0, 1] rfl ?_
  refine G_iconst (v := 0) dX3_carsAfter_0 (by decide) ?_
  refine G_aload_n dX3_carsAfter_1 0 rfl rfl ?_
  refine G_getI cf_X3 (j := 1) rfl w_150 dX3_carsAfter_2 (fun x1 => ?_)
  refine G_i2f dX3_carsAfter_5 ?_
  refine G_aload_n dX3_carsAfter_6 0 rfl rfl ?_
  refine G_getF cf_X3 (j := 4) rfl w_154 dX3_carsAfter_7 (fun r2 => ?_)
  refine G_iload_n dX3_carsAfter_10 1 rfl rfl ?_
  refine G_i2f dX3_carsAfter_11 ?_
  refine G_fmul dX3_carsAfter_12 (fun r3 => ?_)
  refine G_ldcf (v := 1114636288) dX3_carsAfter_13 w_839 ?_
  refine G_fdiv dX3_carsAfter_15 (fun r4 => ?_)
  refine G_fsub dX3_carsAfter_16 (fun r5 => ?_)
  refine G_f2i dX3_carsAfter_17 ?_
  refine G_max w_840 w_573 w_17 w_574 (Nat.le_of_ble_eq_true rfl) (Nat.le_of_ble_eq_true rfl) (by simp) dX3_carsAfter_18 ?_
  exact G_ret (v := ((imax 0 ((FP.f2i r5))))) dX3_carsAfter_21 (fun h => by cases h) rfl
def m_X9_property (M : Mem) (this : Option Nat) (p1 : Int32) : Option (Int32 × Mem) :=
  (if p1 = 0 then dI M 9 0 this (fun (x1 : Int32) => rt x1 M) else (if p1 = 1 then dI M 9 1 this (fun (x2 : Int32) => rt x2 M) else dI M 9 2 this (fun (x3 : Int32) => rt x3 M)))
abbrev md_X9_property : MD := (RX9, yX9_property, cX9_property, 2, Option.some Jvm.ClassFile.FieldType.int, 0, 0)
theorem ok_X9_property : MOk md_X9_property 1 := ⟨by decide +kernel, w_598, w_5, ⟨by decide +kernel, by decide +kernel⟩, by decide +kernel, rfl⟩
set_option maxRecDepth 100000 in
set_option maxHeartbeats 4000000 in
theorem con_X9_property (κ : Cfg) (M : Mem) (this : Option Nat) (p1 : Int32) : Con κ md_X9_property [rv κ this, .int p1] M cvI (m_X9_property M this p1) := by
  refine Con.of ok_X9_property (ret_I rfl) (by
    intro v hv
    simp only [List.mem_cons, List.not_mem_nil, or_false] at hv
    rcases hv with rfl | rfl <;> first | rfl | exact rv_cat _ _) (Nat.le_of_ble_eq_true rfl) ?_
  unfold m_X9_property
  refine G.sub (lv' := [(0, rv κ this), (1, .int p1)]) [0, 1] rfl ?_
  refine G_iload_n dX9_property_0 1 rfl rfl ?_
  refine G.cond (fun hx1_0 => ?_) (fun hn1_0 => ?_)
  · refine G_lks (off := 27) (tgt := 28) dX9_property_1 (by decide) (by rw [hx1_0]; rfl) (by decide) ?_
    refine G_aload_n dX9_property_28 0 rfl rfl ?_
    refine G_getI cf_X9 (j := 0) rfl w_113 dX9_property_29 (fun x1 => ?_)
    exact G_ret (v := x1) dX9_property_32 (fun h => by cases h) rfl
  refine G.cond (fun hx1_1 => ?_) (fun hn1_1 => ?_)
  · refine G_lks (off := 32) (tgt := 33) dX9_property_1 (by decide) (by rw [hx1_1]; rfl) (by decide) ?_
    refine G_aload_n dX9_property_33 0 rfl rfl ?_
    refine G_getI cf_X9 (j := 1) rfl w_116 dX9_property_34 (fun x2 => ?_)
    exact G_ret (v := x2) dX9_property_37 (fun h => by cases h) rfl
  refine G_lks (off := 37) (tgt := 38) dX9_property_1 (by decide) ((lv_osw hn1_0 rfl).trans ((lv_osw hn1_1 rfl).trans (rfl))) (by decide) ?_
  refine G_aload_n dX9_property_38 0 rfl rfl ?_
  refine G_getI cf_X9 (j := 2) rfl w_118 dX9_property_39 (fun x3 => ?_)
  exact G_ret (v := x3) dX9_property_42 (fun h => by cases h) rfl
