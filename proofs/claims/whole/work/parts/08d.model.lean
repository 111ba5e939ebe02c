def b_X11_clears_2 (this : Option Nat) (p1 : Int32) (J23_0 : Mem → Option (Unit × Mem)) (L2_10 : (Int32 × Mem) → Option (Unit × Mem)) (a11 : Int32 × Mem) : Option (Unit × Mem) :=
  (if 23 ≤ a11.1 then J23_0 a11.2 else dP a11.2 11 0 this (fun (q13 : Option Nat) => sI a11.2 100 q13 ((p1 + a11.1)) 0 (fun (M14 : Mem) => L2_10 ((a11.1 + 1), M14))))
def m_X11_clears (M : Mem) (this : Option Nat) (p1 : Int32) : Option (Unit × Mem) :=
  jn (fun (M2 : Mem) => dP M2 11 0 this (fun (q3 : Option Nat) => sI M2 100 q3 ((p1 + 3)) 2000 (fun (M4 : Mem) => dP M4 11 0 this (fun (q5 : Option Nat) => sI M4 100 q5 ((p1 + 4)) 1 (fun (M6 : Mem) => dP M6 11 0 this (fun (q7 : Option Nat) => sI M6 100 q7 (((p1 + 5) + 1)) 100 (fun (M8 : Mem) => dP M8 11 0 this (fun (q9 : Option Nat) => sI M8 100 q9 (((p1 + 5) + 2)) 60 (fun (M10 : Mem) => rt () M10))))))))) (fun (J23_0 : Mem → Option (Unit × Mem)) => lp (b_X11_clears_2 this p1 J23_0) FU (0, M))
abbrev md_X11_clears : MD := (RX11, yX11_clears, cX11_clears, 3, Option.none, 0, 0)
theorem ok_X11_clears : MOk md_X11_clears 1 := ⟨by decide +kernel, w_916, w_11, ⟨by decide +kernel, by decide +kernel⟩, by decide +kernel, rfl⟩
set_option maxRecDepth 100000 in
set_option maxHeartbeats 4000000 in
theorem con_X11_clears (κ : Cfg) (M : Mem) (this : Option Nat) (p1 : Int32) : Con κ md_X11_clears [rv κ this, .int p1] M cvV (m_X11_clears M this p1) := by
  refine Con.of ok_X11_clears (ret_V rfl) (by
    intro v hv
    simp only [List.mem_cons, List.not_mem_nil, or_false] at hv
    rcases hv with rfl | rfl <;> first | rfl | exact rv_cat _ _) (Nat.le_of_ble_eq_true rfl) ?_
  unfold m_X11_clears
  refine G.sub (lv' := [(0, rv κ this), (1, .int p1)]) [0, 1] rfl ?_
  refine G_iconst (v := 0) dX11_clears_0 (by decide) ?_
  refine G_istore_n (lv' := [(2, .int 0), (0, rv κ this), (1, .int p1)]) dX11_clears_1 rfl (Nat.le_of_ble_eq_true rfl) rfl ?_
  refine G.jn (P := (fun (J : Mem → Option (Unit × Mem)) => ∀ (M2 : Mem), G κ md_X11_clears cvV (J M2) 23 [(0, rv κ this), (1, .int p1)] [] M2)) ?_ ?_
  · intro M2
    refine G_aload_n dX11_clears_23 0 rfl rfl ?_
    refine G_getP cf_X11 (j := 0) rfl w_917 dX11_clears_24 (fun q3 => ?_)
    refine G_iload_n dX11_clears_27 1 rfl rfl ?_
    refine G_iconst (v := 3) dX11_clears_28 (by decide) ?_
    refine G_iadd dX11_clears_29 ?_
    refine G_sipush (v := 2000) dX11_clears_30 (by decide) ?_
    refine G_iast dX11_clears_33 (fun M4 => ?_)
    refine G_aload_n dX11_clears_34 0 rfl rfl ?_
    refine G_getP cf_X11 (j := 0) rfl w_917 dX11_clears_35 (fun q5 => ?_)
    refine G_iload_n dX11_clears_38 1 rfl rfl ?_
    refine G_iconst (v := 4) dX11_clears_39 (by decide) ?_
    refine G_iadd dX11_clears_40 ?_
    refine G_iconst (v := 1) dX11_clears_41 (by decide) ?_
    refine G_iast dX11_clears_42 (fun M6 => ?_)
    refine G_aload_n dX11_clears_43 0 rfl rfl ?_
    refine G_getP cf_X11 (j := 0) rfl w_917 dX11_clears_44 (fun q7 => ?_)
    refine G_iload_n dX11_clears_47 1 rfl rfl ?_
    refine G_iconst (v := 5) dX11_clears_48 (by decide) ?_
    refine G_iadd dX11_clears_49 ?_
    refine G_iconst (v := 1) dX11_clears_50 (by decide) ?_
    refine G_iadd dX11_clears_51 ?_
    refine G_bipush (v := 100) dX11_clears_52 (by decide) ?_
    refine G_iast dX11_clears_54 (fun M8 => ?_)
    refine G_aload_n dX11_clears_55 0 rfl rfl ?_
    refine G_getP cf_X11 (j := 0) rfl w_917 dX11_clears_56 (fun q9 => ?_)
    refine G_iload_n dX11_clears_59 1 rfl rfl ?_
    refine G_iconst (v := 5) dX11_clears_60 (by decide) ?_
    refine G_iadd dX11_clears_61 ?_
    refine G_iconst (v := 2) dX11_clears_62 (by decide) ?_
    refine G_iadd dX11_clears_63 ?_
    refine G_bipush (v := 60) dX11_clears_64 (by decide) ?_
    refine G_iast dX11_clears_66 (fun M10 => ?_)
    exact G_ret (v := ()) dX11_clears_67 (fun h => by cases h) rfl
  · intro J23_0 hJ23_0
    refine G.sub (lv' := [(0, rv κ this), (1, .int p1), (2, .int 0)]) [1, 2, 0] rfl ?_
    refine G.loop (lvf := fun (a11 : Int32 × Mem) => [(0, rv κ this), (1, .int p1), (2, .int a11.1)]) (mf := fun (a11 : Int32 × Mem) => a11.2) (fun L2_10 hL2_10 a11 => ?_) FU (0, M)
    unfold b_X11_clears_2
    refine G_iload_n dX11_clears_2 2 rfl rfl ?_
    refine G_bipush (v := 23) dX11_clears_3 (by decide) ?_
    refine G_icmp_ge (tgt := 23) dX11_clears_5 (by decide) ?_ ?_
    · exact G.sub [0, 1] rfl (hJ23_0 _)
    · refine G_aload_n dX11_clears_8 0 rfl rfl ?_
      refine G_getP cf_X11 (j := 0) rfl w_917 dX11_clears_9 (fun q13 => ?_)
      refine G_iload_n dX11_clears_12 1 rfl rfl ?_
      refine G_iload_n dX11_clears_13 2 rfl rfl ?_
      refine G_iadd dX11_clears_14 ?_
      refine G_iconst (v := 0) dX11_clears_15 (by decide) ?_
      refine G_iast dX11_clears_16 (fun M14 => ?_)
      refine G_iinc (v := (a11.1 + 1)) (lv' := [(2, .int (a11.1 + 1)), (0, rv κ this), (1, .int p1)]) dX11_clears_17 2 rfl (congrArg (fun z9 : Int32 => a11.1 + z9) (by decide : Int32.ofInt 1 = 1)) (Nat.le_of_ble_eq_true rfl) rfl ?_
      refine G_goto (tgt := 2) dX11_clears_20 (by decide) ?_
      exact G.sub [1, 2, 0] rfl (hL2_10 _)
def b_X11_init_93 (this : Option Nat) (L93_26 : (Int32 × Mem) → Option (Unit × Mem)) (a27 : Int32 × Mem) : Option (Unit × Mem) :=
  (if 4 ≤ a27.1 then rt () a27.2 else dP a27.2 11 0 this (fun (q29 : Option Nat) => sI a27.2 100 q29 ((153 + (4 * a27.1))) 10 (fun (M30 : Mem) => L93_26 ((a27.1 + 1), M30))))
def b_X11_init_69 (this : Option Nat) (J91_24 : Mem → Option (Unit × Mem)) (L69_30 : (Int32 × Mem) → Option (Unit × Mem)) (a31 : Int32 × Mem) : Option (Unit × Mem) :=
  (if 4 ≤ a31.1 then J91_24 a31.2 else rc a31.2 11 this (cl (m_X11_clears a31.2 this ((10 + (23 * a31.1)))) (fun (_u : Unit) (M33 : Mem) => L69_30 ((a31.1 + 1), M33))))
def m_X11_init (M : Mem) (this : Option Nat) : Option (Unit × Mem) :=
  oi this (nA M 100 6889 (fun (q1 : Option Nat) (M2 : Mem) => pP M2 11 0 this q1 (fun (M3 : Mem) => nA M3 100 6889 (fun (q4 : Option Nat) (M5 : Mem) => pP M5 11 1 this q4 (fun (M6 : Mem) => nA M6 102 4 (fun (q7 : Option Nat) (M8 : Mem) => pP M8 11 2 this q7 (fun (M9 : Mem) => nA M9 102 4 (fun (q10 : Option Nat) (M11 : Mem) => pP M11 11 3 this q10 (fun (M12 : Mem) => nA M12 100 90 (fun (q13 : Option Nat) (M14 : Mem) => pP M14 11 5 this q13 (fun (M15 : Mem) => nA M15 100 6 (fun (q16 : Option Nat) (M17 : Mem) => pP M17 11 7 this q16 (fun (M18 : Mem) => nA M18 100 23 (fun (q19 : Option Nat) (M20 : Mem) => pP M20 11 18 this q19 (fun (M21 : Mem) => nA M21 100 3 (fun (q22 : Option Nat) (M23 : Mem) => pP M23 11 19 this q22 (fun (M24 : Mem) => jn (fun (M26 : Mem) => lp (b_X11_init_93 this) FU (0, M26)) (fun (J91_24 : Mem → Option (Unit × Mem)) => lp (b_X11_init_69 this J91_24) FU (0, M24)))))))))))))))))))
abbrev md_X11_init : MD := (RX11, yX11_init, cX11_init, 2, Option.none, 1, 22)
theorem ok_X11_init : MOk md_X11_init 0 := ⟨by decide +kernel, w_911, w_11, ⟨by decide +kernel, by decide +kernel⟩, by decide +kernel, rfl⟩
set_option maxRecDepth 100000 in
set_option maxHeartbeats 4000000 in
theorem con_X11_init (κ : Cfg) (M : Mem) (this : Option Nat) : Con κ md_X11_init [rv κ this] M cvV (m_X11_init M this) := by
  refine Con.of ok_X11_init (ret_V rfl) (by
    intro v hv
    simp only [List.mem_cons, List.not_mem_nil, or_false] at hv
    subst hv; first | rfl | exact rv_cat _ _) (Nat.le_of_ble_eq_true rfl) ?_
  unfold m_X11_init
  refine G.sub (lv' := [(0, rv κ this)]) [0] rfl ?_
  refine G_aload_n dX11_init_0 0 rfl rfl ?_
  refine G_objInit w_912 w_25 w_26 (Nat.le_of_ble_eq_true rfl) (Nat.le_of_ble_eq_true rfl) (by simp) dX11_init_1 ?_
  refine G_aload_n dX11_init_4 0 rfl rfl ?_
  refine G_sipush (v := 6889) dX11_init_5 (by decide) ?_
  refine G_newa (at9 := .int) (fun _ => rfl) w_142 (by simp) dX11_init_8 (fun q1 M2 => ?_)
  refine G_putP cf_X11 (j := 0) rfl (Or.inr ⟨_, rfl⟩) w_917 (Or.inr ⟨rfl, rfl, rfl⟩) dX11_init_10 (fun M3 => ?_)
  refine G_aload_n dX11_init_13 0 rfl rfl ?_
  refine G_sipush (v := 6889) dX11_init_14 (by decide) ?_
  refine G_newa (at9 := .int) (fun _ => rfl) w_142 (by simp) dX11_init_17 (fun q4 M5 => ?_)
  refine G_putP cf_X11 (j := 1) rfl (Or.inr ⟨_, rfl⟩) w_918 (Or.inr ⟨rfl, rfl, rfl⟩) dX11_init_19 (fun M6 => ?_)
  refine G_aload_n dX11_init_22 0 rfl rfl ?_
  refine G_iconst (v := 4) dX11_init_23 (by decide) ?_
  refine G_newa (at9 := .float) (fun _ => rfl) w_981 (by simp) dX11_init_24 (fun q7 M8 => ?_)
  refine G_putP cf_X11 (j := 2) rfl (Or.inr ⟨_, rfl⟩) w_919 (Or.inr ⟨rfl, rfl, rfl⟩) dX11_init_26 (fun M9 => ?_)
  refine G_aload_n dX11_init_29 0 rfl rfl ?_
  refine G_iconst (v := 4) dX11_init_30 (by decide) ?_
  refine G_newa (at9 := .float) (fun _ => rfl) w_981 (by simp) dX11_init_31 (fun q10 M11 => ?_)
  refine G_putP cf_X11 (j := 3) rfl (Or.inr ⟨_, rfl⟩) w_920 (Or.inr ⟨rfl, rfl, rfl⟩) dX11_init_33 (fun M12 => ?_)
  refine G_aload_n dX11_init_36 0 rfl rfl ?_
  refine G_bipush (v := 90) dX11_init_37 (by decide) ?_
  refine G_newa (at9 := .int) (fun _ => rfl) w_142 (by simp) dX11_init_39 (fun q13 M14 => ?_)
  refine G_putP cf_X11 (j := 5) rfl (Or.inr ⟨_, rfl⟩) w_922 (Or.inr ⟨rfl, rfl, rfl⟩) dX11_init_41 (fun M15 => ?_)
  refine G_aload_n dX11_init_44 0 rfl rfl ?_
  refine G_bipush (v := 6) dX11_init_45 (by decide) ?_
  refine G_newa (at9 := .int) (fun _ => rfl) w_142 (by simp) dX11_init_47 (fun q16 M17 => ?_)
  refine G_putP cf_X11 (j := 7) rfl (Or.inr ⟨_, rfl⟩) w_924 (Or.inr ⟨rfl, rfl, rfl⟩) dX11_init_49 (fun M18 => ?_)
  refine G_aload_n dX11_init_52 0 rfl rfl ?_
  refine G_bipush (v := 23) dX11_init_53 (by decide) ?_
  refine G_newa (at9 := .int) (fun _ => rfl) w_142 (by simp) dX11_init_55 (fun q19 M20 => ?_)
  refine G_putP cf_X11 (j := 18) rfl (Or.inr ⟨_, rfl⟩) w_935 (Or.inr ⟨rfl, rfl, rfl⟩) dX11_init_57 (fun M21 => ?_)
  refine G_aload_n dX11_init_60 0 rfl rfl ?_
  refine G_iconst (v := 3) dX11_init_61 (by decide) ?_
  refine G_newa (at9 := .int) (fun _ => rfl) w_142 (by simp) dX11_init_62 (fun q22 M23 => ?_)
  refine G_putP cf_X11 (j := 19) rfl (Or.inr ⟨_, rfl⟩) w_936 (Or.inr ⟨rfl, rfl, rfl⟩) dX11_init_64 (fun M24 => ?_)
  refine G_iconst (v := 0) dX11_init_67 (by decide) ?_
  refine G_istore_n (lv' := [(1, .int 0), (0, rv κ this)]) dX11_init_68 rfl (Nat.le_of_ble_eq_true rfl) rfl ?_
  refine G.jn (P := (fun (J : Mem → Option (Unit × Mem)) => ∀ (M26 : Mem), G κ md_X11_init cvV (J M26) 91 [(0, rv κ this)] [] M26)) ?_ ?_
  · intro M26
    refine G_iconst (v := 0) dX11_init_91 (by decide) ?_
    refine G_istore_n (lv' := [(1, .int 0), (0, rv κ this)]) dX11_init_92 rfl (Nat.le_of_ble_eq_true rfl) rfl ?_
    refine G.sub (lv' := [(0, rv κ this), (1, .int 0)]) [1, 0] rfl ?_
    refine G.loop (lvf := fun (a27 : Int32 × Mem) => [(0, rv κ this), (1, .int a27.1)]) (mf := fun (a27 : Int32 × Mem) => a27.2) (fun L93_26 hL93_26 a27 => ?_) FU (0, M26)
    unfold b_X11_init_93
    refine G_iload_n dX11_init_93 1 rfl rfl ?_
    refine G_iconst (v := 4) dX11_init_94 (by decide) ?_
    refine G_icmp_ge (tgt := 118) dX11_init_95 (by decide) ?_ ?_
    · exact G_ret (v := ()) dX11_init_118 (fun h => by cases h) rfl
    · refine G_aload_n dX11_init_98 0 rfl rfl ?_
      refine G_getP cf_X11 (j := 0) rfl w_917 dX11_init_99 (fun q29 => ?_)
      refine G_sipush (v := 153) dX11_init_102 (by decide) ?_
      refine G_iconst (v := 4) dX11_init_105 (by decide) ?_
      refine G_iload_n dX11_init_106 1 rfl rfl ?_
      refine G_imul dX11_init_107 ?_
      refine G_iadd dX11_init_108 ?_
      refine G_bipush (v := 10) dX11_init_109 (by decide) ?_
      refine G_iast dX11_init_111 (fun M30 => ?_)
      refine G_iinc (v := (a27.1 + 1)) (lv' := [(1, .int (a27.1 + 1)), (0, rv κ this)]) dX11_init_112 1 rfl (congrArg (fun z9 : Int32 => a27.1 + z9) (by decide : Int32.ofInt 1 = 1)) (Nat.le_of_ble_eq_true rfl) rfl ?_
      refine G_goto (tgt := 93) dX11_init_115 (by decide) ?_
      exact G.sub [1, 0] rfl (hL93_26 _)
  · intro J91_24 hJ91_24
    refine G.sub (lv' := [(0, rv κ this), (1, .int 0)]) [1, 0] rfl ?_
    refine G.loop (lvf := fun (a31 : Int32 × Mem) => [(0, rv κ this), (1, .int a31.1)]) (mf := fun (a31 : Int32 × Mem) => a31.2) (fun L69_30 hL69_30 a31 => ?_) FU (0, M24)
    unfold b_X11_init_69
    refine G_iload_n dX11_init_69 1 rfl rfl ?_
    refine G_iconst (v := 4) dX11_init_70 (by decide) ?_
    refine G_icmp_ge (tgt := 91) dX11_init_71 (by decide) ?_ ?_
    · exact G.sub [0] rfl (hJ91_24 _)
    · refine G_aload_n dX11_init_74 0 rfl rfl ?_
      refine G_bipush (v := 10) dX11_init_75 (by decide) ?_
      refine G_bipush (v := 23) dX11_init_77 (by decide) ?_
      refine G_iload_n dX11_init_79 1 rfl rfl ?_
      refine G_imul dX11_init_80 ?_
      refine G_iadd dX11_init_81 ?_
      refine G_callV cf_X11 ok_X11_clears [.int (10 + (23 * a31.1))] [] (con_X11_clears κ a31.2 this ((10 + (23 * a31.1)))) rfl w_913 w_915 wp_0 (Nat.le_of_ble_eq_true rfl) (Nat.le_of_ble_eq_true rfl) dX11_init_82 rfl (by simp) (fun _u M33 => (show G _ _ _ _ _ _ [] _ from ?_))
      refine G_iinc (v := (a31.1 + 1)) (lv' := [(1, .int (a31.1 + 1)), (0, rv κ this)]) dX11_init_85 1 rfl (congrArg (fun z9 : Int32 => a31.1 + z9) (by decide : Int32.ofInt 1 = 1)) (Nat.le_of_ble_eq_true rfl) rfl ?_
      refine G_goto (tgt := 69) dX11_init_88 (by decide) ?_
      exact G.sub [1, 0] rfl (hL69_30 _)
def m_X11_in (M : Mem) (p1 : Int32) (p2 : Int32) (p3 : Int32) : Option (Int32 × Mem) :=
  (if p1 < p2 then rtZ 0 M else (if p3 < p1 then rtZ 0 M else rtZ 1 M))
abbrev md_X11_in : MD := (RX11, yX11_in, cX11_in, 3, Option.some Jvm.ClassFile.FieldType.boolean, 0, 0)
theorem ok_X11_in : MOk md_X11_in 3 := ⟨by decide +kernel, w_995, w_11, ⟨by decide +kernel, by decide +kernel⟩, by decide +kernel, rfl⟩
set_option maxRecDepth 100000 in
set_option maxHeartbeats 4000000 in
theorem con_X11_in (κ : Cfg) (M : Mem) (p1 : Int32) (p2 : Int32) (p3 : Int32) : Con κ md_X11_in [.int p1, .int p2, .int p3] M cvI (m_X11_in M p1 p2 p3) := by
  refine Con.of ok_X11_in (ret_Z rfl) (by
    intro v hv
    simp only [List.mem_cons, List.not_mem_nil, or_false] at hv
    rcases hv with rfl | rfl | rfl <;> first | rfl | exact rv_cat _ _) (Nat.le_of_ble_eq_true rfl) ?_
  unfold m_X11_in
  refine G.sub (lv' := [(0, .int p1), (1, .int p2), (2, .int p3)]) [0, 1, 2] rfl ?_
  refine G_iload_n dX11_in_0 0 rfl rfl ?_
  refine G_iload_n dX11_in_1 1 rfl rfl ?_
  refine G_icmp_lt (tgt := 14) dX11_in_2 (by decide) ?_ ?_
  · refine G_iconst (v := 0) dX11_in_14 (by decide) ?_
    exact G_retZ dX11_in_15
  · refine G_iload_n dX11_in_5 0 rfl rfl ?_
    refine G_iload_n dX11_in_6 2 rfl rfl ?_
    refine G_icmp_gt (tgt := 14) dX11_in_7 (by decide) ?_ ?_
    · refine G_iconst (v := 0) dX11_in_14 (by decide) ?_
      exact G_retZ dX11_in_15
    · refine G_iconst (v := 1) dX11_in_10 (by decide) ?_
      refine G_goto (tgt := 15) dX11_in_11 (by decide) ?_
      exact G_retZ dX11_in_15
def m_X11_isPlan (M : Mem) (p1 : Int32) : Option (Int32 × Mem) :=
  cl (m_X11_in M p1 0 3) (fun (x2 : Int32) (M1 : Mem) => rtZ x2 M1)
abbrev md_X11_isPlan : MD := (RX11, yX11_isPlan, cX11_isPlan, 1, Option.some Jvm.ClassFile.FieldType.boolean, 1, 22)
theorem ok_X11_isPlan : MOk md_X11_isPlan 1 := ⟨by decide +kernel, w_992, w_11, ⟨by decide +kernel, by decide +kernel⟩, by decide +kernel, rfl⟩
set_option maxRecDepth 100000 in
set_option maxHeartbeats 4000000 in
theorem con_X11_isPlan (κ : Cfg) (M : Mem) (p1 : Int32) : Con κ md_X11_isPlan [.int p1] M cvI (m_X11_isPlan M p1) := by
  refine Con.of ok_X11_isPlan (ret_Z rfl) (by
    intro v hv
    simp only [List.mem_cons, List.not_mem_nil, or_false] at hv
    subst hv; first | rfl | exact rv_cat _ _) (Nat.le_of_ble_eq_true rfl) ?_
  unfold m_X11_isPlan
  refine G.sub (lv' := [(0, .int p1)]) [0] rfl ?_
  refine G_iload_n dX11_isPlan_0 0 rfl rfl ?_
  refine G_iconst (v := 0) dX11_isPlan_1 (by decide) ?_
  refine G_iconst (v := 3) dX11_isPlan_2 (by decide) ?_
  refine G_callS ok_X11_in [.int p1, .int 0, .int 3] [] (con_X11_in κ M p1 0 3) rfl w_993 w_994 (Nat.le_of_ble_eq_true rfl) (Nat.le_of_ble_eq_true rfl) dX11_isPlan_3 rfl (by simp) (fun x2 M1 => (show G _ _ _ _ _ _ [.int x2] _ from ?_))
  exact G_retZ dX11_isPlan_6
def m_X11_isMinute (M : Mem) (p1 : Int32) : Option (Int32 × Mem) :=
  cl (m_X11_in M p1 0 99999) (fun (x2 : Int32) (M1 : Mem) => rtZ x2 M1)
abbrev md_X11_isMinute : MD := (RX11, yX11_isMinute, cX11_isMinute, 1, Option.some Jvm.ClassFile.FieldType.boolean, 1, 22)
theorem ok_X11_isMinute : MOk md_X11_isMinute 1 := ⟨by decide +kernel, w_998, w_11, ⟨by decide +kernel, by decide +kernel⟩, by decide +kernel, rfl⟩
set_option maxRecDepth 100000 in
set_option maxHeartbeats 4000000 in
theorem con_X11_isMinute (κ : Cfg) (M : Mem) (p1 : Int32) : Con κ md_X11_isMinute [.int p1] M cvI (m_X11_isMinute M p1) := by
  refine Con.of ok_X11_isMinute (ret_Z rfl) (by
    intro v hv
    simp only [List.mem_cons, List.not_mem_nil, or_false] at hv
    subst hv; first | rfl | exact rv_cat _ _) (Nat.le_of_ble_eq_true rfl) ?_
  unfold m_X11_isMinute
  refine G.sub (lv' := [(0, .int p1)]) [0] rfl ?_
  refine G_iload_n dX11_isMinute_0 0 rfl rfl ?_
  refine G_iconst (v := 0) dX11_isMinute_1 (by decide) ?_
  refine G_ldc (v := 99999) dX11_isMinute_2 w_999 ?_
  refine G_callS ok_X11_in [.int p1, .int 0, .int 99999] [] (con_X11_in κ M p1 0 99999) rfl w_993 w_994 (Nat.le_of_ble_eq_true rfl) (Nat.le_of_ble_eq_true rfl) dX11_isMinute_4 rfl (by simp) (fun x2 M1 => (show G _ _ _ _ _ _ [.int x2] _ from ?_))
  exact G_retZ dX11_isMinute_7
def m_X11_of (M : Mem) (this : Option Nat) (p1 : Int32) (p2 : Int32) : Option (Int32 × Mem) :=
  dP M 11 0 this (fun (q1 : Option Nat) => aI M 100 q1 (((10 + (23 * p1)) + p2)) (fun (x2 : Int32) => rt x2 M))
abbrev md_X11_of : MD := (RX11, yX11_of, cX11_of, 3, Option.some Jvm.ClassFile.FieldType.int, 0, 0)
theorem ok_X11_of : MOk md_X11_of 2 := ⟨by decide +kernel, w_1007, w_11, ⟨by decide +kernel, by decide +kernel⟩, by decide +kernel, rfl⟩
set_option maxRecDepth 100000 in
set_option maxHeartbeats 4000000 in
theorem con_X11_of (κ : Cfg) (M : Mem) (this : Option Nat) (p1 : Int32) (p2 : Int32) : Con κ md_X11_of [rv κ this, .int p1, .int p2] M cvI (m_X11_of M this p1 p2) := by
  refine Con.of ok_X11_of (ret_I rfl) (by
    intro v hv
    simp only [List.mem_cons, List.not_mem_nil, or_false] at hv
    rcases hv with rfl | rfl | rfl <;> first | rfl | exact rv_cat _ _) (Nat.le_of_ble_eq_true rfl) ?_
  unfold m_X11_of
  refine G.sub (lv' := [(0, rv κ this), (1, .int p1), (2, .int p2)]) [0, 1, 2] rfl ?_
  refine G_aload_n dX11_of_0 0 rfl rfl ?_
  refine G_getP cf_X11 (j := 0) rfl w_917 dX11_of_1 (fun q1 => ?_)
  refine G_bipush (v := 10) dX11_of_4 (by decide) ?_
  refine G_bipush (v := 23) dX11_of_6 (by decide) ?_
  refine G_iload_n dX11_of_8 1 rfl rfl ?_
  refine G_imul dX11_of_9 ?_
  refine G_iadd dX11_of_10 ?_
  refine G_iload_n dX11_of_11 2 rfl rfl ?_
  refine G_iadd dX11_of_12 ?_
  refine G_iald dX11_of_13 (fun x2 => ?_)
  exact G_ret (v := x2) dX11_of_14 (fun h => by cases h) rfl
def m_X11_bandPart (M : Mem) (this : Option Nat) (p1 : Int32) (p2 : Int32) (p3 : Int32) : Option (Int32 × Mem) :=
  rc M 11 this (cl (m_X11_of M this p1 (((5 + (3 * p2)) + p3))) (fun (x2 : Int32) (M1 : Mem) => rt x2 M1))
abbrev md_X11_bandPart : MD := (RX11, yX11_bandPart, cX11_bandPart, 4, Option.some Jvm.ClassFile.FieldType.int, 1, 22)
theorem ok_X11_bandPart : MOk md_X11_bandPart 3 := ⟨by decide +kernel, w_1031, w_11, ⟨by decide +kernel, by decide +kernel⟩, by decide +kernel, rfl⟩
set_option maxRecDepth 100000 in
set_option maxHeartbeats 4000000 in
theorem con_X11_bandPart (κ : Cfg) (M : Mem) (this : Option Nat) (p1 : Int32) (p2 : Int32) (p3 : Int32) : Con κ md_X11_bandPart [rv κ this, .int p1, .int p2, .int p3] M cvI (m_X11_bandPart M this p1 p2 p3) := by
  refine Con.of ok_X11_bandPart (ret_I rfl) (by
    intro v hv
    simp only [List.mem_cons, List.not_mem_nil, or_false] at hv
    rcases hv with rfl | rfl | rfl | rfl <;> first | rfl | exact rv_cat _ _) (Nat.le_of_ble_eq_true rfl) ?_
  unfold m_X11_bandPart
  refine G.sub (lv' := [(0, rv κ this), (1, .int p1), (2, .int p2), (3, .int p3)]) [0, 1, 2, 3] rfl ?_
  refine G_aload_n dX11_bandPart_0 0 rfl rfl ?_
  refine G_iload_n dX11_bandPart_1 1 rfl rfl ?_
  refine G_iconst (v := 5) dX11_bandPart_2 (by decide) ?_
  refine G_iconst (v := 3) dX11_bandPart_3 (by decide) ?_
  refine G_iload_n dX11_bandPart_4 2 rfl rfl ?_
  refine G_imul dX11_bandPart_5 ?_
  refine G_iadd dX11_bandPart_6 ?_
  refine G_iload_n dX11_bandPart_7 3 rfl rfl ?_
  refine G_iadd dX11_bandPart_8 ?_
  refine G_callV cf_X11 ok_X11_of [.int p1, .int ((5 + (3 * p2)) + p3)] [] (con_X11_of κ M this p1 (((5 + (3 * p2)) + p3))) rfl w_1004 w_1006 wp_3 (Nat.le_of_ble_eq_true rfl) (Nat.le_of_ble_eq_true rfl) dX11_bandPart_9 rfl (by simp) (fun x2 M1 => (show G _ _ _ _ _ _ [.int x2] _ from ?_))
  exact G_ret (v := x2) dX11_bandPart_12 (fun h => by cases h) rfl
def b_X11_bandAt_9 (this : Option Nat) (p1 : Int32) (p2 : Int32) (L9_2 : (Int32 × Mem) → Option (Int32 × Mem)) (a3 : Int32 × Mem) : Option (Int32 × Mem) :=
  rc a3.2 11 this (cl (m_X11_bandPart a3.2 this p1 a3.1 0) (fun (x6 : Int32) (M5 : Mem) => (if x6 ≤ (p2 - p2 / 1440 * 1440) then rt a3.1 M5 else L9_2 ((a3.1 - 1), M5))))
def m_X11_bandAt (M : Mem) (this : Option Nat) (p1 : Int32) (p2 : Int32) : Option (Int32 × Mem) :=
  rc M 11 this (cl (m_X11_of M this p1 4) (fun (x2 : Int32) (M1 : Mem) => lp (b_X11_bandAt_9 this p1 p2) FU ((x2 - 1), M1)))
abbrev md_X11_bandAt : MD := (RX11, yX11_bandAt, cX11_bandAt, 4, Option.some Jvm.ClassFile.FieldType.int, 2, 45)
theorem ok_X11_bandAt : MOk md_X11_bandAt 2 := ⟨by decide +kernel, w_1027, w_11, ⟨by decide +kernel, by decide +kernel⟩, by decide +kernel, rfl⟩
set_option maxRecDepth 100000 in
set_option maxHeartbeats 4000000 in
theorem con_X11_bandAt (κ : Cfg) (M : Mem) (this : Option Nat) (p1 : Int32) (p2 : Int32) : Con κ md_X11_bandAt [rv κ this, .int p1, .int p2] M cvI (m_X11_bandAt M this p1 p2) := by
  refine Con.of ok_X11_bandAt (ret_I rfl) (by
    intro v hv
    simp only [List.mem_cons, List.not_mem_nil, or_false] at hv
    rcases hv with rfl | rfl | rfl <;> first | rfl | exact rv_cat _ _) (Nat.le_of_ble_eq_true rfl) ?_
  unfold m_X11_bandAt
  refine G.sub (lv' := [(0, rv κ this), (1, .int p1), (2, .int p2)]) [0, 1, 2] rfl ?_
  refine G_aload_n dX11_bandAt_0 0 rfl rfl ?_
  refine G_iload_n dX11_bandAt_1 1 rfl rfl ?_
  refine G_iconst (v := 4) dX11_bandAt_2 (by decide) ?_
  refine G_callV cf_X11 ok_X11_of [.int p1, .int 4] [] (con_X11_of κ M this p1 4) rfl w_1004 w_1006 wp_3 (Nat.le_of_ble_eq_true rfl) (Nat.le_of_ble_eq_true rfl) dX11_bandAt_3 rfl (by simp) (fun x2 M1 => (show G _ _ _ _ _ _ [.int x2] _ from ?_))
  refine G_iconst (v := 1) dX11_bandAt_6 (by decide) ?_
  refine G_isub dX11_bandAt_7 ?_
  refine G_istore_n (lv' := [(3, .int (x2 - 1)), (0, rv κ this), (1, .int p1), (2, .int p2)]) dX11_bandAt_8 rfl (Nat.le_of_ble_eq_true rfl) rfl ?_
  refine G.sub (lv' := [(0, rv κ this), (1, .int p1), (2, .int p2), (3, .int (x2 - 1))]) [1, 2, 3, 0] rfl ?_
  refine G.loop (lvf := fun (a3 : Int32 × Mem) => [(0, rv κ this), (1, .int p1), (2, .int p2), (3, .int a3.1)]) (mf := fun (a3 : Int32 × Mem) => a3.2) (fun L9_2 hL9_2 a3 => ?_) FU ((x2 - 1), M1)
  unfold b_X11_bandAt_9
  refine G_aload_n dX11_bandAt_9 0 rfl rfl ?_
  refine G_iload_n dX11_bandAt_10 1 rfl rfl ?_
  refine G_iload_n dX11_bandAt_11 3 rfl rfl ?_
  refine G_iconst (v := 0) dX11_bandAt_12 (by decide) ?_
  refine G_callV cf_X11 ok_X11_bandPart [.int p1, .int a3.1, .int 0] [] (con_X11_bandPart κ a3.2 this p1 a3.1 0) rfl w_1028 w_1030 wp_9 (Nat.le_of_ble_eq_true rfl) (Nat.le_of_ble_eq_true rfl) dX11_bandAt_13 rfl (by simp) (fun x6 M5 => (show G _ _ _ _ _ _ [.int x6] _ from ?_))
  refine G_iload_n dX11_bandAt_16 2 rfl rfl ?_
  refine G_sipush (v := 1440) dX11_bandAt_17 (by decide) ?_
  refine G_irem dX11_bandAt_20 (by decide) ?_
  refine G_icmp_le (tgt := 30) dX11_bandAt_21 (by decide) ?_ ?_
  · refine G_iload_n dX11_bandAt_30 3 rfl rfl ?_
    exact G_ret (v := a3.1) dX11_bandAt_31 (fun h => by cases h) rfl
  · refine G_iinc (v := (a3.1 - 1)) (lv' := [(3, .int (a3.1 - 1)), (0, rv κ this), (1, .int p1), (2, .int p2)]) dX11_bandAt_24 3 rfl (iinc_m1 _) (Nat.le_of_ble_eq_true rfl) rfl ?_
    refine G_goto (tgt := 9) dX11_bandAt_27 (by decide) ?_
    exact G.sub [1, 2, 3, 0] rfl (hL9_2 _)
def m_X11_begins (M : Mem) (this : Option Nat) (p1 : Int32) : Option (Unit × Mem) :=
  pI M 11 9 this p1 (fun (M1 : Mem) => pI M1 11 10 this ((-1)) (fun (M2 : Mem) => pI M2 11 11 this 0 (fun (M3 : Mem) => pI M3 11 12 this 0 (fun (M4 : Mem) => pI M4 11 13 this 0 (fun (M5 : Mem) => rt () M5)))))
abbrev md_X11_begins : MD := (RX11, yX11_begins, cX11_begins, 2, Option.none, 0, 0)
theorem ok_X11_begins : MOk md_X11_begins 1 := ⟨by decide +kernel, w_1011, w_11, ⟨by decide +kernel, by decide +kernel⟩, by decide +kernel, rfl⟩
set_option maxRecDepth 100000 in
set_option maxHeartbeats 4000000 in
theorem con_X11_begins (κ : Cfg) (M : Mem) (this : Option Nat) (p1 : Int32) : Con κ md_X11_begins [rv κ this, .int p1] M cvV (m_X11_begins M this p1) := by
  refine Con.of ok_X11_begins (ret_V rfl) (by
    intro v hv
    simp only [List.mem_cons, List.not_mem_nil, or_false] at hv
    rcases hv with rfl | rfl <;> first | rfl | exact rv_cat _ _) (Nat.le_of_ble_eq_true rfl) ?_
  unfold m_X11_begins
  refine G.sub (lv' := [(0, rv κ this), (1, .int p1)]) [0, 1] rfl ?_
  refine G_aload_n dX11_begins_0 0 rfl rfl ?_
  refine G_iload_n dX11_begins_1 1 rfl rfl ?_
  refine G_putI cf_X11 (j := 9) rfl rfl w_926 (Or.inl rfl) dX11_begins_2 (fun M1 => ?_)
  refine G_aload_n dX11_begins_5 0 rfl rfl ?_
  refine G_iconst (v := (-1)) dX11_begins_6 (by decide) ?_
  refine G_putI cf_X11 (j := 10) rfl rfl w_927 (Or.inl rfl) dX11_begins_7 (fun M2 => ?_)
  refine G_aload_n dX11_begins_10 0 rfl rfl ?_
  refine G_iconst (v := 0) dX11_begins_11 (by decide) ?_
  refine G_putI cf_X11 (j := 11) rfl rfl w_928 (Or.inl rfl) dX11_begins_12 (fun M3 => ?_)
  refine G_aload_n dX11_begins_15 0 rfl rfl ?_
  refine G_iconst (v := 0) dX11_begins_16 (by decide) ?_
  refine G_putI cf_X11 (j := 12) rfl rfl w_929 (Or.inl rfl) dX11_begins_17 (fun M4 => ?_)
  refine G_aload_n dX11_begins_20 0 rfl rfl ?_
  refine G_iconst (v := 0) dX11_begins_21 (by decide) ?_
  refine G_putI cf_X11 (j := 13) rfl rfl w_930 (Or.inl rfl) dX11_begins_22 (fun M5 => ?_)
  exact G_ret (v := ()) dX11_begins_25 (fun h => by cases h) rfl
def m_X11_capped (M : Mem) (this : Option Nat) (p1 : Int32) (p2 : Int32) : Option (Int32 × Mem) :=
  rc M 11 this (cl (m_X11_of M this p1 1) (fun (x2 : Int32) (M1 : Mem) => (if x2 ≤ 0 then rt p2 M1 else rc M1 11 this (cl (m_X11_of M1 this p1 1) (fun (x4 : Int32) (M3 : Mem) => (if p2 ≤ x4 then rt p2 M3 else rc M3 11 this (cl (m_X11_of M3 this p1 1) (fun (x6 : Int32) (M5 : Mem) => rt x6 M5))))))))
abbrev md_X11_capped : MD := (RX11, yX11_capped, cX11_capped, 3, Option.some Jvm.ClassFile.FieldType.int, 1, 22)
theorem ok_X11_capped : MOk md_X11_capped 2 := ⟨by decide +kernel, w_1023, w_11, ⟨by decide +kernel, by decide +kernel⟩, by decide +kernel, rfl⟩
set_option maxRecDepth 100000 in
set_option maxHeartbeats 4000000 in
theorem con_X11_capped (κ : Cfg) (M : Mem) (this : Option Nat) (p1 : Int32) (p2 : Int32) : Con κ md_X11_capped [rv κ this, .int p1, .int p2] M cvI (m_X11_capped M this p1 p2) := by
  refine Con.of ok_X11_capped (ret_I rfl) (by
    intro v hv
    simp only [List.mem_cons, List.not_mem_nil, or_false] at hv
    rcases hv with rfl | rfl | rfl <;> first | rfl | exact rv_cat _ _) (Nat.le_of_ble_eq_true rfl) ?_
  unfold m_X11_capped
  refine G.sub (lv' := [(0, rv κ this), (1, .int p1), (2, .int p2)]) [0, 1, 2] rfl ?_
  refine G_aload_n dX11_capped_0 0 rfl rfl ?_
  refine G_iload_n dX11_capped_1 1 rfl rfl ?_
  refine G_iconst (v := 1) dX11_capped_2 (by decide) ?_
  refine G_callV cf_X11 ok_X11_of [.int p1, .int 1] [] (con_X11_of κ M this p1 1) rfl w_1004 w_1006 wp_3 (Nat.le_of_ble_eq_true rfl) (Nat.le_of_ble_eq_true rfl) dX11_capped_3 rfl (by simp) (fun x2 M1 => (show G _ _ _ _ _ _ [.int x2] _ from ?_))
  refine G_if_le (tgt := 28) dX11_capped_6 (by decide) ?_ ?_
  · refine G_iload_n dX11_capped_28 2 rfl rfl ?_
    exact G_ret (v := p2) dX11_capped_29 (fun h => by cases h) rfl
  · refine G_iload_n dX11_capped_9 2 rfl rfl ?_
    refine G_aload_n dX11_capped_10 0 rfl rfl ?_
    refine G_iload_n dX11_capped_11 1 rfl rfl ?_
    refine G_iconst (v := 1) dX11_capped_12 (by decide) ?_
    refine G_callV cf_X11 ok_X11_of [.int p1, .int 1] [.int p2] (con_X11_of κ M1 this p1 1) rfl w_1004 w_1006 wp_3 (Nat.le_of_ble_eq_true rfl) (Nat.le_of_ble_eq_true rfl) dX11_capped_13 rfl (by simp) (fun x4 M3 => (show G _ _ _ _ _ _ [.int x4, .int p2] _ from ?_))
    refine G_icmp_le (tgt := 28) dX11_capped_16 (by decide) ?_ ?_
    · refine G_iload_n dX11_capped_28 2 rfl rfl ?_
      exact G_ret (v := p2) dX11_capped_29 (fun h => by cases h) rfl
    · refine G_aload_n dX11_capped_19 0 rfl rfl ?_
      refine G_iload_n dX11_capped_20 1 rfl rfl ?_
      refine G_iconst (v := 1) dX11_capped_21 (by decide) ?_
      refine G_callV cf_X11 ok_X11_of [.int p1, .int 1] [] (con_X11_of κ M3 this p1 1) rfl w_1004 w_1006 wp_3 (Nat.le_of_ble_eq_true rfl) (Nat.le_of_ble_eq_true rfl) dX11_capped_22 rfl (by simp) (fun x6 M5 => (show G _ _ _ _ _ _ [.int x6] _ from ?_))
      refine G_goto (tgt := 29) dX11_capped_25 (by decide) ?_
      exact G_ret (v := x6) dX11_capped_29 (fun h => by cases h) rfl
def m_X11_groupOf (M : Mem) (this : Option Nat) (p1 : Int32) (p2 : Int32) : Option (Int32 × Mem) :=
  rc M 11 this (cl (m_X11_of M this p1 2) (fun (x2 : Int32) (M1 : Mem) => (if x2 ≠ 0 then dI M1 11 9 this (fun (x3 : Int32) => rt ((x3 / 1440)) M1) else dI M1 11 9 this (fun (x4 : Int32) => rt (((x4 - p2) / 1440)) M1))))
abbrev md_X11_groupOf : MD := (RX11, yX11_groupOf, cX11_groupOf, 3, Option.some Jvm.ClassFile.FieldType.int, 1, 22)
theorem ok_X11_groupOf : MOk md_X11_groupOf 2 := ⟨by decide +kernel, w_1019, w_11, ⟨by decide +kernel, by decide +kernel⟩, by decide +kernel, rfl⟩
set_option maxRecDepth 100000 in
set_option maxHeartbeats 4000000 in
theorem con_X11_groupOf (κ : Cfg) (M : Mem) (this : Option Nat) (p1 : Int32) (p2 : Int32) : Con κ md_X11_groupOf [rv κ this, .int p1, .int p2] M cvI (m_X11_groupOf M this p1 p2) := by
  refine Con.of ok_X11_groupOf (ret_I rfl) (by
    intro v hv
    simp only [List.mem_cons, List.not_mem_nil, or_false] at hv
    rcases hv with rfl | rfl | rfl <;> first | rfl | exact rv_cat _ _) (Nat.le_of_ble_eq_true rfl) ?_
  unfold m_X11_groupOf
  refine G.sub (lv' := [(0, rv κ this), (1, .int p1), (2, .int p2)]) [0, 1, 2] rfl ?_
  refine G_aload_n dX11_groupOf_0 0 rfl rfl ?_
  refine G_iload_n dX11_groupOf_1 1 rfl rfl ?_
  refine G_iconst (v := 2) dX11_groupOf_2 (by decide) ?_
  refine G_callV cf_X11 ok_X11_of [.int p1, .int 2] [] (con_X11_of κ M this p1 2) rfl w_1004 w_1006 wp_3 (Nat.le_of_ble_eq_true rfl) (Nat.le_of_ble_eq_true rfl) dX11_groupOf_3 rfl (by simp) (fun x2 M1 => (show G _ _ _ _ _ _ [.int x2] _ from ?_))
  refine G_if_ne (tgt := 22) dX11_groupOf_6 (by decide) ?_ ?_
  · refine G_aload_n dX11_groupOf_22 0 rfl rfl ?_
    refine G_getI cf_X11 (j := 9) rfl w_926 dX11_groupOf_23 (fun x3 => ?_)
    refine G_sipush (v := 1440) dX11_groupOf_26 (by decide) ?_
    refine G_idiv dX11_groupOf_29 (by decide) ?_
    exact G_ret (v := ((x3 / 1440))) dX11_groupOf_30 (fun h => by cases h) rfl
  · refine G_aload_n dX11_groupOf_9 0 rfl rfl ?_
    refine G_getI cf_X11 (j := 9) rfl w_926 dX11_groupOf_10 (fun x4 => ?_)
    refine G_iload_n dX11_groupOf_13 2 rfl rfl ?_
    refine G_isub dX11_groupOf_14 ?_
    refine G_sipush (v := 1440) dX11_groupOf_15 (by decide) ?_
    refine G_idiv dX11_groupOf_18 (by decide) ?_
    refine G_goto (tgt := 30) dX11_groupOf_19 (by decide) ?_
    exact G_ret (v := (((x4 - p2) / 1440))) dX11_groupOf_30 (fun h => by cases h) rfl
def m_X11_adds (M : Mem) (this : Option Nat) (p1 : Int32) (p2 : Int32) : Option (Unit × Mem) :=
  rc M 11 this (cl (m_X11_groupOf M this p1 p2) (fun (x2 : Int32) (M1 : Mem) => dI M1 11 10 this (fun (x3 : Int32) => jn (fun (M5 : Mem) => dI M5 11 9 this (fun (x6 : Int32) => rc M5 11 this (cl (m_X11_bandAt M5 this p1 x6) (fun (x8 : Int32) (M7 : Mem) => dI M7 11 11 this (fun (x9 : Int32) => rc M7 11 this (cl (m_X11_bandPart M7 this p1 x8 1) (fun (x11 : Int32) (M10 : Mem) => pI M10 11 11 this ((x9 + x11)) (fun (M12 : Mem) => dI M12 11 12 this (fun (x13 : Int32) => dI M12 11 11 this (fun (x14 : Int32) => rc M12 11 this (cl (m_X11_capped M12 this p1 x14) (fun (x16 : Int32) (M15 : Mem) => pI M15 11 13 this ((x13 + x16)) (fun (M17 : Mem) => dI M17 11 9 this (fun (x18 : Int32) => rc M17 11 this (cl (m_X11_bandPart M17 this p1 x8 2) (fun (x20 : Int32) (M19 : Mem) => pI M19 11 9 this ((x18 + x20)) (fun (M21 : Mem) => rt () M21))))))))))))))))) (fun (J43_3 : Mem → Option (Unit × Mem)) => (if x2 = x3 then J43_3 M1 else dI M1 11 12 this (fun (x22 : Int32) => dI M1 11 11 this (fun (x23 : Int32) => rc M1 11 this (cl (m_X11_capped M1 this p1 x23) (fun (x25 : Int32) (M24 : Mem) => pI M24 11 12 this ((x22 + x25)) (fun (M26 : Mem) => pI M26 11 11 this 0 (fun (M27 : Mem) => pI M27 11 10 this x2 (fun (M28 : Mem) => J43_3 M28))))))))))))
abbrev md_X11_adds : MD := (RX11, yX11_adds, cX11_adds, 5, Option.none, 3, 68)
theorem ok_X11_adds : MOk md_X11_adds 2 := ⟨by decide +kernel, w_1015, w_11, ⟨by decide +kernel, by decide +kernel⟩, by decide +kernel, rfl⟩
set_option maxRecDepth 100000 in
set_option maxHeartbeats 4000000 in
theorem con_X11_adds (κ : Cfg) (M : Mem) (this : Option Nat) (p1 : Int32) (p2 : Int32) : Con κ md_X11_adds [rv κ this, .int p1, .int p2] M cvV (m_X11_adds M this p1 p2) := by
  refine Con.of ok_X11_adds (ret_V rfl) (by
    intro v hv
    simp only [List.mem_cons, List.not_mem_nil, or_false] at hv
    rcases hv with rfl | rfl | rfl <;> first | rfl | exact rv_cat _ _) (Nat.le_of_ble_eq_true rfl) ?_
  unfold m_X11_adds
  refine G.sub (lv' := [(0, rv κ this), (1, .int p1), (2, .int p2)]) [0, 1, 2] rfl ?_
  refine G_aload_n dX11_adds_0 0 rfl rfl ?_
  refine G_iload_n dX11_adds_1 1 rfl rfl ?_
  refine G_iload_n dX11_adds_2 2 rfl rfl ?_
  refine G_callV cf_X11 ok_X11_groupOf [.int p1, .int p2] [] (con_X11_groupOf κ M this p1 p2) rfl w_1016 w_1018 wp_6 (Nat.le_of_ble_eq_true rfl) (Nat.le_of_ble_eq_true rfl) dX11_adds_3 rfl (by simp) (fun x2 M1 => (show G _ _ _ _ _ _ [.int x2] _ from ?_))
  refine G_istore_n (lv' := [(3, .int x2), (0, rv κ this), (1, .int p1), (2, .int p2)]) dX11_adds_6 rfl (Nat.le_of_ble_eq_true rfl) rfl ?_
  refine G_iload_n dX11_adds_7 0 rfl rfl ?_
  refine G_aload_n dX11_adds_8 1 rfl rfl ?_
  refine G_getI cf_X11 (j := 10) rfl w_927 dX11_adds_9 (fun x3 => ?_)
  refine G.jn (P := (fun (J : Mem → Option (Unit × Mem)) => ∀ (M5 : Mem), G κ md_X11_adds cvV (J M5) 43 [(0, rv κ this), (1, .int p1)] [] M5)) ?_ ?_
  · intro M5
    refine G_aload_n dX11_adds_43 0 rfl rfl ?_
    refine G_iload_n dX11_adds_44 1 rfl rfl ?_
    refine G_aload_n dX11_adds_45 0 rfl rfl ?_
    refine G_getI cf_X11 (j := 9) rfl w_926 dX11_adds_46 (fun x6 => ?_)
    refine G_callV cf_X11 ok_X11_bandAt [.int p1, .int x6] [] (con_X11_bandAt κ M5 this p1 x6) rfl w_1024 w_1026 wp_8 (Nat.le_of_ble_eq_true rfl) (Nat.le_of_ble_eq_true rfl) dX11_adds_49 rfl (by simp) (fun x8 M7 => (show G _ _ _ _ _ _ [.int x8] _ from ?_))
    refine G_istore (lv' := [(4, .int x8), (0, rv κ this), (1, .int p1)]) dX11_adds_52 (Nat.le_of_ble_eq_true rfl) rfl ?_
    refine G_aload_n dX11_adds_54 1 rfl rfl ?_
    refine G_dup dX11_adds_55 (rv_cat _ _) ?_
    refine G_getI cf_X11 (j := 11) rfl w_928 dX11_adds_56 (fun x9 => ?_)
    refine G_aload_n dX11_adds_59 1 rfl rfl ?_
    refine G_iload_n dX11_adds_60 2 rfl rfl ?_
    refine G_iload dX11_adds_61 0 rfl ?_
    refine G_iconst (v := 1) dX11_adds_63 (by decide) ?_
    refine G_callV cf_X11 ok_X11_bandPart [.int p1, .int x8, .int 1] [.int x9, rv κ this] (con_X11_bandPart κ M7 this p1 x8 1) rfl w_1028 w_1030 wp_9 (Nat.le_of_ble_eq_true rfl) (Nat.le_of_ble_eq_true rfl) dX11_adds_64 rfl (by simp) (fun x11 M10 => (show G _ _ _ _ _ _ [.int x11, .int x9, rv κ this] _ from ?_))
    refine G_iadd dX11_adds_67 ?_
    refine G_putI cf_X11 (j := 11) rfl rfl w_928 (Or.inl rfl) dX11_adds_68 (fun M12 => ?_)
    refine G_aload_n dX11_adds_71 1 rfl rfl ?_
    refine G_aload_n dX11_adds_72 1 rfl rfl ?_
    refine G_getI cf_X11 (j := 12) rfl w_929 dX11_adds_73 (fun x13 => ?_)
    refine G_aload_n dX11_adds_76 1 rfl rfl ?_
    refine G_iload_n dX11_adds_77 2 rfl rfl ?_
    refine G_aload_n dX11_adds_78 1 rfl rfl ?_
    refine G_getI cf_X11 (j := 11) rfl w_928 dX11_adds_79 (fun x14 => ?_)
    refine G_callV cf_X11 ok_X11_capped [.int p1, .int x14] [.int x13, rv κ this] (con_X11_capped κ M12 this p1 x14) rfl w_1020 w_1022 wp_7 (Nat.le_of_ble_eq_true rfl) (Nat.le_of_ble_eq_true rfl) dX11_adds_82 rfl (by simp) (fun x16 M15 => (show G _ _ _ _ _ _ [.int x16, .int x13, rv κ this] _ from ?_))
    refine G_iadd dX11_adds_85 ?_
    refine G_putI cf_X11 (j := 13) rfl rfl w_930 (Or.inl rfl) dX11_adds_86 (fun M17 => ?_)
    refine G_aload_n dX11_adds_89 1 rfl rfl ?_
    refine G_dup dX11_adds_90 (rv_cat _ _) ?_
    refine G_getI cf_X11 (j := 9) rfl w_926 dX11_adds_91 (fun x18 => ?_)
    refine G_aload_n dX11_adds_94 1 rfl rfl ?_
    refine G_iload_n dX11_adds_95 2 rfl rfl ?_
    refine G_iload dX11_adds_96 0 rfl ?_
    refine G_iconst (v := 2) dX11_adds_98 (by decide) ?_
    refine G_callV cf_X11 ok_X11_bandPart [.int p1, .int x8, .int 2] [.int x18, rv κ this] (con_X11_bandPart κ M17 this p1 x8 2) rfl w_1028 w_1030 wp_9 (Nat.le_of_ble_eq_true rfl) (Nat.le_of_ble_eq_true rfl) dX11_adds_99 rfl (by simp) (fun x20 M19 => (show G _ _ _ _ _ _ [.int x20, .int x18, rv κ this] _ from ?_))
    refine G_iadd dX11_adds_102 ?_
    refine G_putI cf_X11 (j := 9) rfl rfl w_926 (Or.inl rfl) dX11_adds_103 (fun M21 => ?_)
    exact G_ret (v := ()) dX11_adds_106 (fun h => by cases h) rfl
  · intro J43_3 hJ43_3
    refine G_icmp_eq (tgt := 43) dX11_adds_12 (by decide) ?_ ?_
    · exact G.sub [1, 2] rfl (hJ43_3 _)
    · refine G_aload_n dX11_adds_15 1 rfl rfl ?_
      refine G_dup dX11_adds_16 (rv_cat _ _) ?_
      refine G_getI cf_X11 (j := 12) rfl w_929 dX11_adds_17 (fun x22 => ?_)
      refine G_aload_n dX11_adds_20 1 rfl rfl ?_
      refine G_iload_n dX11_adds_21 2 rfl rfl ?_
      refine G_aload_n dX11_adds_22 1 rfl rfl ?_
      refine G_getI cf_X11 (j := 11) rfl w_928 dX11_adds_23 (fun x23 => ?_)
      refine G_callV cf_X11 ok_X11_capped [.int p1, .int x23] [.int x22, rv κ this] (con_X11_capped κ M1 this p1 x23) rfl w_1020 w_1022 wp_7 (Nat.le_of_ble_eq_true rfl) (Nat.le_of_ble_eq_true rfl) dX11_adds_26 rfl (by simp) (fun x25 M24 => (show G _ _ _ _ _ _ [.int x25, .int x22, rv κ this] _ from ?_))
      refine G_iadd dX11_adds_29 ?_
      refine G_putI cf_X11 (j := 12) rfl rfl w_929 (Or.inl rfl) dX11_adds_30 (fun M26 => ?_)
      refine G_aload_n dX11_adds_33 1 rfl rfl ?_
      refine G_iconst (v := 0) dX11_adds_34 (by decide) ?_
      refine G_putI cf_X11 (j := 11) rfl rfl w_928 (Or.inl rfl) dX11_adds_35 (fun M27 => ?_)
      refine G_aload_n dX11_adds_38 1 rfl rfl ?_
      refine G_iload_n dX11_adds_39 0 rfl rfl ?_
      refine G_putI cf_X11 (j := 10) rfl rfl w_927 (Or.inl rfl) dX11_adds_40 (fun M28 => ?_)
      exact G.sub [1, 2] rfl (hJ43_3 _)
def b_X11_feeOf_19 (this : Option Nat) (p1 : Int32) (p2 : Int32) (p3 : Int32) (L19_3 : (Mem) → Option (Int32 × Mem)) (a4 : Mem) : Option (Int32 × Mem) :=
  dI a4 11 9 this (fun (x6 : Int32) => (if p3 ≤ x6 then dI a4 11 13 this (fun (x7 : Int32) => rt x7 a4) else rc a4 11 this (cl (m_X11_adds a4 this p1 p2) (fun (_u : Unit) (M8 : Mem) => L19_3 M8))))
def m_X11_feeOf (M : Mem) (this : Option Nat) (p1 : Int32) (p2 : Int32) (p3 : Int32) : Option (Int32 × Mem) :=
  rc M 11 this (cl (m_X11_of M this p1 0) (fun (x2 : Int32) (M1 : Mem) => (if x2 < (p3 - p2) then rc M1 11 this (cl (m_X11_begins M1 this p2) (fun (_u : Unit) (M3 : Mem) => lp (b_X11_feeOf_19 this p1 p2 p3) FU M3)) else rt 0 M1)))
abbrev md_X11_feeOf : MD := (RX11, yX11_feeOf, cX11_feeOf, 4, Option.some Jvm.ClassFile.FieldType.int, 4, 92)
theorem ok_X11_feeOf : MOk md_X11_feeOf 3 := ⟨by decide +kernel, w_1003, w_11, ⟨by decide +kernel, by decide +kernel⟩, by decide +kernel, rfl⟩
set_option maxRecDepth 100000 in
set_option maxHeartbeats 4000000 in
theorem con_X11_feeOf (κ : Cfg) (M : Mem) (this : Option Nat) (p1 : Int32) (p2 : Int32) (p3 : Int32) : Con κ md_X11_feeOf [rv κ this, .int p1, .int p2, .int p3] M cvI (m_X11_feeOf M this p1 p2 p3) := by
  refine Con.of ok_X11_feeOf (ret_I rfl) (by
    intro v hv
    simp only [List.mem_cons, List.not_mem_nil, or_false] at hv
    rcases hv with rfl | rfl | rfl | rfl <;> first | rfl | exact rv_cat _ _) (Nat.le_of_ble_eq_true rfl) ?_
  unfold m_X11_feeOf
  refine G.sub (lv' := [(0, rv κ this), (1, .int p1), (2, .int p2), (3, .int p3)]) [0, 1, 2, 3] rfl ?_
  refine G_iload_n dX11_feeOf_0 3 rfl rfl ?_
  refine G_iload_n dX11_feeOf_1 2 rfl rfl ?_
  refine G_isub dX11_feeOf_2 ?_
  refine G_aload_n dX11_feeOf_3 0 rfl rfl ?_
  refine G_iload_n dX11_feeOf_4 1 rfl rfl ?_
  refine G_iconst (v := 0) dX11_feeOf_5 (by decide) ?_
  refine G_callV cf_X11 ok_X11_of [.int p1, .int 0] [.int (p3 - p2)] (con_X11_of κ M this p1 0) rfl w_1004 w_1006 wp_3 (Nat.le_of_ble_eq_true rfl) (Nat.le_of_ble_eq_true rfl) dX11_feeOf_6 rfl (by simp) (fun x2 M1 => (show G _ _ _ _ _ _ [.int x2, .int (p3 - p2)] _ from ?_))
  refine G_icmp_gt (tgt := 14) dX11_feeOf_9 (by decide) ?_ ?_
  · refine G_aload_n dX11_feeOf_14 0 rfl rfl ?_
    refine G_iload_n dX11_feeOf_15 2 rfl rfl ?_
    refine G_callV cf_X11 ok_X11_begins [.int p2] [] (con_X11_begins κ M1 this p2) rfl w_1008 w_1010 wp_4 (Nat.le_of_ble_eq_true rfl) (Nat.le_of_ble_eq_true rfl) dX11_feeOf_16 rfl (by simp) (fun _u M3 => (show G _ _ _ _ _ _ [] _ from ?_))
    refine G.sub (lv' := [(0, rv κ this), (1, .int p1), (2, .int p2), (3, .int p3)]) [0, 1, 2, 3] rfl ?_
    refine G.loop (lvf := fun (a4 : Mem) => [(0, rv κ this), (1, .int p1), (2, .int p2), (3, .int p3)]) (mf := fun (a4 : Mem) => a4) (fun L19_3 hL19_3 a4 => ?_) FU M3
    unfold b_X11_feeOf_19
    refine G_aload_n dX11_feeOf_19 0 rfl rfl ?_
    refine G_getI cf_X11 (j := 9) rfl w_926 dX11_feeOf_20 (fun x6 => ?_)
    refine G_iload_n dX11_feeOf_23 3 rfl rfl ?_
    refine G_icmp_ge (tgt := 36) dX11_feeOf_24 (by decide) ?_ ?_
    · refine G_aload_n dX11_feeOf_36 0 rfl rfl ?_
      refine G_getI cf_X11 (j := 13) rfl w_930 dX11_feeOf_37 (fun x7 => ?_)
      exact G_ret (v := x7) dX11_feeOf_40 (fun h => by cases h) rfl
    · refine G_aload_n dX11_feeOf_27 0 rfl rfl ?_
      refine G_iload_n dX11_feeOf_28 1 rfl rfl ?_
      refine G_iload_n dX11_feeOf_29 2 rfl rfl ?_
      refine G_callV cf_X11 ok_X11_adds [.int p1, .int p2] [] (con_X11_adds κ a4 this p1 p2) rfl w_1012 w_1014 wp_5 (Nat.le_of_ble_eq_true rfl) (Nat.le_of_ble_eq_true rfl) dX11_feeOf_30 rfl (by simp) (fun _u M8 => (show G _ _ _ _ _ _ [] _ from ?_))
      refine G_goto (tgt := 19) dX11_feeOf_33 (by decide) ?_
      exact G.sub [0, 1, 2, 3] rfl (hL19_3 _)
  · refine G_iconst (v := 0) dX11_feeOf_12 (by decide) ?_
    exact G_ret (v := 0) dX11_feeOf_13 (fun h => by cases h) rfl
def m_X11_isStay (M : Mem) (this : Option Nat) (p1 : Int32) (p2 : Int32) (p3 : Int32) : Option (Int32 × Mem) :=
  cl (m_X11_isPlan M p1) (fun (x2 : Int32) (M1 : Mem) => (if x2 = 0 then rtZ 0 M1 else cl (m_X11_isMinute M1 p2) (fun (x4 : Int32) (M3 : Mem) => (if x4 = 0 then rtZ 0 M3 else cl (m_X11_in M3 p3 p2 99999) (fun (x6 : Int32) (M5 : Mem) => (if x6 = 0 then rtZ 0 M5 else rtZ 1 M5))))))
abbrev md_X11_isStay : MD := (RX11, yX11_isStay, cX11_isStay, 4, Option.some Jvm.ClassFile.FieldType.boolean, 2, 42)
theorem ok_X11_isStay : MOk md_X11_isStay 3 := ⟨by decide +kernel, w_989, w_11, ⟨by decide +kernel, by decide +kernel⟩, by decide +kernel, rfl⟩
set_option maxRecDepth 100000 in
set_option maxHeartbeats 4000000 in
theorem con_X11_isStay (κ : Cfg) (M : Mem) (this : Option Nat) (p1 : Int32) (p2 : Int32) (p3 : Int32) : Con κ md_X11_isStay [rv κ this, .int p1, .int p2, .int p3] M cvI (m_X11_isStay M this p1 p2 p3) := by
  refine Con.of ok_X11_isStay (ret_Z rfl) (by
    intro v hv
    simp only [List.mem_cons, List.not_mem_nil, or_false] at hv
    rcases hv with rfl | rfl | rfl | rfl <;> first | rfl | exact rv_cat _ _) (Nat.le_of_ble_eq_true rfl) ?_
  unfold m_X11_isStay
  refine G.sub (lv' := [(0, rv κ this), (1, .int p1), (2, .int p2), (3, .int p3)]) [0, 1, 2, 3] rfl ?_
  refine G_iload_n dX11_isStay_0 1 rfl rfl ?_
  refine G_callS ok_X11_isPlan [.int p1] [] (con_X11_isPlan κ M p1) rfl w_990 w_991 (Nat.le_of_ble_eq_true rfl) (Nat.le_of_ble_eq_true rfl) dX11_isStay_1 rfl (by simp) (fun x2 M1 => (show G _ _ _ _ _ _ [.int x2] _ from ?_))
  refine G_if_eq (tgt := 28) dX11_isStay_4 (by decide) ?_ ?_
  · refine G_iconst (v := 0) dX11_isStay_28 (by decide) ?_
    exact G_retZ dX11_isStay_29
  · refine G_iload_n dX11_isStay_7 2 rfl rfl ?_
    refine G_callS ok_X11_isMinute [.int p2] [] (con_X11_isMinute κ M1 p2) rfl w_996 w_997 (Nat.le_of_ble_eq_true rfl) (Nat.le_of_ble_eq_true rfl) dX11_isStay_8 rfl (by simp) (fun x4 M3 => (show G _ _ _ _ _ _ [.int x4] _ from ?_))
    refine G_if_eq (tgt := 28) dX11_isStay_11 (by decide) ?_ ?_
    · refine G_iconst (v := 0) dX11_isStay_28 (by decide) ?_
      exact G_retZ dX11_isStay_29
    · refine G_iload_n dX11_isStay_14 3 rfl rfl ?_
      refine G_iload_n dX11_isStay_15 2 rfl rfl ?_
      refine G_ldc (v := 99999) dX11_isStay_16 w_999 ?_
      refine G_callS ok_X11_in [.int p3, .int p2, .int 99999] [] (con_X11_in κ M3 p3 p2 99999) rfl w_993 w_994 (Nat.le_of_ble_eq_true rfl) (Nat.le_of_ble_eq_true rfl) dX11_isStay_18 rfl (by simp) (fun x6 M5 => (show G _ _ _ _ _ _ [.int x6] _ from ?_))
      refine G_if_eq (tgt := 28) dX11_isStay_21 (by decide) ?_ ?_
      · refine G_iconst (v := 0) dX11_isStay_28 (by decide) ?_
        exact G_retZ dX11_isStay_29
      · refine G_iconst (v := 1) dX11_isStay_24 (by decide) ?_
        refine G_goto (tgt := 29) dX11_isStay_25 (by decide) ?_
        exact G_retZ dX11_isStay_29
def m_X11_fee (M : Mem) (this : Option Nat) (p1 : Int32) (p2 : Int32) (p3 : Int32) : Option (Int32 × Mem) :=
  rc M 11 this (cl (m_X11_isStay M this p1 p2 p3) (fun (x2 : Int32) (M1 : Mem) => (if x2 = 0 then rt ((-2)) M1 else rc M1 11 this (cl (m_X11_feeOf M1 this p1 p2 p3) (fun (x4 : Int32) (M3 : Mem) => rt x4 M3)))))
abbrev md_X11_fee : MD := (RX11, yX11_fee, cX11_fee, 4, Option.some Jvm.ClassFile.FieldType.int, 5, 115)
theorem ok_X11_fee : MOk md_X11_fee 3 := ⟨by decide +kernel, w_985, w_11, ⟨by decide +kernel, by decide +kernel⟩, by decide +kernel, rfl⟩
set_option maxRecDepth 100000 in
set_option maxHeartbeats 4000000 in
theorem con_X11_fee (κ : Cfg) (M : Mem) (this : Option Nat) (p1 : Int32) (p2 : Int32) (p3 : Int32) : Con κ md_X11_fee [rv κ this, .int p1, .int p2, .int p3] M cvI (m_X11_fee M this p1 p2 p3) := by
  refine Con.of ok_X11_fee (ret_I rfl) (by
    intro v hv
    simp only [List.mem_cons, List.not_mem_nil, or_false] at hv
    rcases hv with rfl | rfl | rfl | rfl <;> first | rfl | exact rv_cat _ _) (Nat.le_of_ble_eq_true rfl) ?_
  unfold m_X11_fee
  refine G.sub (lv' := [(0, rv κ this), (1, .int p1), (2, .int p2), (3, .int p3)]) [0, 1, 2, 3] rfl ?_
  refine G_aload_n dX11_fee_0 0 rfl rfl ?_
  refine G_iload_n dX11_fee_1 1 rfl rfl ?_
  refine G_iload_n dX11_fee_2 2 rfl rfl ?_
  refine G_iload_n dX11_fee_3 3 rfl rfl ?_
  refine G_callV cf_X11 ok_X11_isStay [.int p1, .int p2, .int p3] [] (con_X11_isStay κ M this p1 p2 p3) rfl w_986 w_988 wp_1 (Nat.le_of_ble_eq_true rfl) (Nat.le_of_ble_eq_true rfl) dX11_fee_4 rfl (by simp) (fun x2 M1 => (show G _ _ _ _ _ _ [.int x2] _ from ?_))
  refine G_if_eq (tgt := 20) dX11_fee_7 (by decide) ?_ ?_
  · refine G_bipush (v := (-2)) dX11_fee_20 (by decide) ?_
    exact G_ret (v := ((-2))) dX11_fee_22 (fun h => by cases h) rfl
  · refine G_aload_n dX11_fee_10 0 rfl rfl ?_
    refine G_iload_n dX11_fee_11 1 rfl rfl ?_
    refine G_iload_n dX11_fee_12 2 rfl rfl ?_
    refine G_iload_n dX11_fee_13 3 rfl rfl ?_
    refine G_callV cf_X11 ok_X11_feeOf [.int p1, .int p2, .int p3] [] (con_X11_feeOf κ M1 this p1 p2 p3) rfl w_1000 w_1002 wp_2 (Nat.le_of_ble_eq_true rfl) (Nat.le_of_ble_eq_true rfl) dX11_fee_14 rfl (by simp) (fun x4 M3 => (show G _ _ _ _ _ _ [.int x4] _ from ?_))
    refine G_goto (tgt := 22) dX11_fee_17 (by decide) ?_
    exact G_ret (v := x4) dX11_fee_22 (fun h => by cases h) rfl
def b_X11_unit_45 (this : Option Nat) (p1 : Int32) (p2 : Int32) (p3 : Int32) (J63_9 : Mem → Option (Int32 × Mem)) (L45_17 : (Int32 × Mem) → Option (Int32 × Mem)) (a18 : Int32 × Mem) : Option (Int32 × Mem) :=
  (if p3 ≤ a18.1 then J63_9 a18.2 else rc a18.2 11 this (cl (m_X11_adds a18.2 this p1 p2) (fun (_u : Unit) (M20 : Mem) => L45_17 ((a18.1 + 1), M20))))
def m_X11_unit (M : Mem) (this : Option Nat) (p1 : Int32) (p2 : Int32) (p3 : Int32) (p4 : Int32) : Option (Int32 × Mem) :=
  cl (m_X11_isPlan M p1) (fun (x2 : Int32) (M1 : Mem) => (if x2 = 0 then rt ((-2)) M1 else cl (m_X11_isMinute M1 p2) (fun (x4 : Int32) (M3 : Mem) => (if x4 = 0 then rt ((-2)) M3 else cl (m_X11_in M3 p3 0 99) (fun (x6 : Int32) (M5 : Mem) => (if x6 = 0 then rt ((-2)) M5 else cl (m_X11_in M5 p4 0 2) (fun (x8 : Int32) (M7 : Mem) => (if x8 ≠ 0 then rc M7 11 this (cl (m_X11_begins M7 this p2) (fun (_u : Unit) (M9 : Mem) => jn (fun (M11 : Mem) => (if p4 ≠ 0 then (if p4 ≠ 1 then rc M11 11 this (cl (m_X11_groupOf M11 this p1 p2) (fun (x13 : Int32) (M12 : Mem) => rt x13 M12)) else dI M11 11 9 this (fun (x14 : Int32) => rc M11 11 this (cl (m_X11_bandAt M11 this p1 x14) (fun (x16 : Int32) (M15 : Mem) => rt x16 M15)))) else dI M11 11 9 this (fun (x17 : Int32) => rt x17 M11))) (fun (J63_9 : Mem → Option (Int32 × Mem)) => lp (b_X11_unit_45 this p1 p2 p3 J63_9) FU (0, M9)))) else rt ((-2)) M7))))))))
abbrev md_X11_unit : MD := (RX11, yX11_unit, cX11_unit, 6, Option.some Jvm.ClassFile.FieldType.int, 4, 92)
theorem ok_X11_unit : MOk md_X11_unit 4 := ⟨by decide +kernel, w_1035, w_11, ⟨by decide +kernel, by decide +kernel⟩, by decide +kernel, rfl⟩
set_option maxRecDepth 100000 in
set_option maxHeartbeats 4000000 in
theorem con_X11_unit (κ : Cfg) (M : Mem) (this : Option Nat) (p1 : Int32) (p2 : Int32) (p3 : Int32) (p4 : Int32) : Con κ md_X11_unit [rv κ this, .int p1, .int p2, .int p3, .int p4] M cvI (m_X11_unit M this p1 p2 p3 p4) := by
  refine Con.of ok_X11_unit (ret_I rfl) (by
    intro v hv
    simp only [List.mem_cons, List.not_mem_nil, or_false] at hv
    rcases hv with rfl | rfl | rfl | rfl | rfl <;> first | rfl | exact rv_cat _ _) (Nat.le_of_ble_eq_true rfl) ?_
  unfold m_X11_unit
  refine G.sub (lv' := [(0, rv κ this), (1, .int p1), (2, .int p2), (3, .int p3), (4, .int p4)]) [0, 1, 2, 3, 4] rfl ?_
  refine G_iload_n dX11_unit_0 1 rfl rfl ?_
  refine G_callS ok_X11_isPlan [.int p1] [] (con_X11_isPlan κ M p1) rfl w_990 w_991 (Nat.le_of_ble_eq_true rfl) (Nat.le_of_ble_eq_true rfl) dX11_unit_1 rfl (by simp) (fun x2 M1 => (show G _ _ _ _ _ _ [.int x2] _ from ?_))
  refine G_if_eq (tgt := 34) dX11_unit_4 (by decide) ?_ ?_
  · refine G_bipush (v := (-2)) dX11_unit_34 (by decide) ?_
    exact G_ret (v := ((-2))) dX11_unit_36 (fun h => by cases h) rfl
  · refine G_iload_n dX11_unit_7 2 rfl rfl ?_
    refine G_callS ok_X11_isMinute [.int p2] [] (con_X11_isMinute κ M1 p2) rfl w_996 w_997 (Nat.le_of_ble_eq_true rfl) (Nat.le_of_ble_eq_true rfl) dX11_unit_8 rfl (by simp) (fun x4 M3 => (show G _ _ _ _ _ _ [.int x4] _ from ?_))
    refine G_if_eq (tgt := 34) dX11_unit_11 (by decide) ?_ ?_
    · refine G_bipush (v := (-2)) dX11_unit_34 (by decide) ?_
      exact G_ret (v := ((-2))) dX11_unit_36 (fun h => by cases h) rfl
    · refine G_iload_n dX11_unit_14 3 rfl rfl ?_
      refine G_iconst (v := 0) dX11_unit_15 (by decide) ?_
      refine G_bipush (v := 99) dX11_unit_16 (by decide) ?_
      refine G_callS ok_X11_in [.int p3, .int 0, .int 99] [] (con_X11_in κ M3 p3 0 99) rfl w_993 w_994 (Nat.le_of_ble_eq_true rfl) (Nat.le_of_ble_eq_true rfl) dX11_unit_18 rfl (by simp) (fun x6 M5 => (show G _ _ _ _ _ _ [.int x6] _ from ?_))
      refine G_if_eq (tgt := 34) dX11_unit_21 (by decide) ?_ ?_
      · refine G_bipush (v := (-2)) dX11_unit_34 (by decide) ?_
        exact G_ret (v := ((-2))) dX11_unit_36 (fun h => by cases h) rfl
      · refine G_iload dX11_unit_24 4 rfl ?_
        refine G_iconst (v := 0) dX11_unit_26 (by decide) ?_
        refine G_iconst (v := 2) dX11_unit_27 (by decide) ?_
        refine G_callS ok_X11_in [.int p4, .int 0, .int 2] [] (con_X11_in κ M5 p4 0 2) rfl w_993 w_994 (Nat.le_of_ble_eq_true rfl) (Nat.le_of_ble_eq_true rfl) dX11_unit_28 rfl (by simp) (fun x8 M7 => (show G _ _ _ _ _ _ [.int x8] _ from ?_))
        refine G_if_ne (tgt := 37) dX11_unit_31 (by decide) ?_ ?_
        · refine G_aload_n dX11_unit_37 0 rfl rfl ?_
          refine G_iload_n dX11_unit_38 2 rfl rfl ?_
          refine G_callV cf_X11 ok_X11_begins [.int p2] [] (con_X11_begins κ M7 this p2) rfl w_1008 w_1010 wp_4 (Nat.le_of_ble_eq_true rfl) (Nat.le_of_ble_eq_true rfl) dX11_unit_39 rfl (by simp) (fun _u M9 => (show G _ _ _ _ _ _ [] _ from ?_))
          refine G_iconst (v := 0) dX11_unit_42 (by decide) ?_
          refine G_istore (lv' := [(5, .int 0), (0, rv κ this), (1, .int p1), (2, .int p2), (3, .int p3), (4, .int p4)]) dX11_unit_43 (Nat.le_of_ble_eq_true rfl) rfl ?_
          refine G.jn (P := (fun (J : Mem → Option (Int32 × Mem)) => ∀ (M11 : Mem), G κ md_X11_unit cvI (J M11) 63 [(0, rv κ this), (1, .int p1), (2, .int p2), (4, .int p4)] [] M11)) ?_ ?_
          · intro M11
            refine G_iload dX11_unit_63 3 rfl ?_
            refine G_if_ne (tgt := 75) dX11_unit_65 (by decide) ?_ ?_
            · refine G_iload dX11_unit_75 3 rfl ?_
              refine G_iconst (v := 1) dX11_unit_77 (by decide) ?_
              refine G_icmp_ne (tgt := 93) dX11_unit_78 (by decide) ?_ ?_
              · refine G_aload_n dX11_unit_93 0 rfl rfl ?_
                refine G_iload_n dX11_unit_94 1 rfl rfl ?_
                refine G_iload_n dX11_unit_95 2 rfl rfl ?_
                refine G_callV cf_X11 ok_X11_groupOf [.int p1, .int p2] [] (con_X11_groupOf κ M11 this p1 p2) rfl w_1016 w_1018 wp_6 (Nat.le_of_ble_eq_true rfl) (Nat.le_of_ble_eq_true rfl) dX11_unit_96 rfl (by simp) (fun x13 M12 => (show G _ _ _ _ _ _ [.int x13] _ from ?_))
                exact G_ret (v := x13) dX11_unit_99 (fun h => by cases h) rfl
              · refine G_aload_n dX11_unit_81 0 rfl rfl ?_
                refine G_iload_n dX11_unit_82 1 rfl rfl ?_
                refine G_aload_n dX11_unit_83 0 rfl rfl ?_
                refine G_getI cf_X11 (j := 9) rfl w_926 dX11_unit_84 (fun x14 => ?_)
                refine G_callV cf_X11 ok_X11_bandAt [.int p1, .int x14] [] (con_X11_bandAt κ M11 this p1 x14) rfl w_1024 w_1026 wp_8 (Nat.le_of_ble_eq_true rfl) (Nat.le_of_ble_eq_true rfl) dX11_unit_87 rfl (by simp) (fun x16 M15 => (show G _ _ _ _ _ _ [.int x16] _ from ?_))
                refine G_goto (tgt := 99) dX11_unit_90 (by decide) ?_
                exact G_ret (v := x16) dX11_unit_99 (fun h => by cases h) rfl
            · refine G_aload_n dX11_unit_68 0 rfl rfl ?_
              refine G_getI cf_X11 (j := 9) rfl w_926 dX11_unit_69 (fun x17 => ?_)
              refine G_goto (tgt := 99) dX11_unit_72 (by decide) ?_
              exact G_ret (v := x17) dX11_unit_99 (fun h => by cases h) rfl
          · intro J63_9 hJ63_9
            refine G.sub (lv' := [(0, rv κ this), (1, .int p1), (2, .int p2), (3, .int p3), (4, .int p4), (5, .int 0)]) [1, 2, 3, 4, 5, 0] rfl ?_
            refine G.loop (lvf := fun (a18 : Int32 × Mem) => [(0, rv κ this), (1, .int p1), (2, .int p2), (3, .int p3), (4, .int p4), (5, .int a18.1)]) (mf := fun (a18 : Int32 × Mem) => a18.2) (fun L45_17 hL45_17 a18 => ?_) FU (0, M9)
            unfold b_X11_unit_45
            refine G_iload dX11_unit_45 5 rfl ?_
            refine G_iload_n dX11_unit_47 3 rfl rfl ?_
            refine G_icmp_ge (tgt := 63) dX11_unit_48 (by decide) ?_ ?_
            · exact G.sub [0, 1, 2, 4] rfl (hJ63_9 _)
            · refine G_aload_n dX11_unit_51 0 rfl rfl ?_
              refine G_iload_n dX11_unit_52 1 rfl rfl ?_
              refine G_iload_n dX11_unit_53 2 rfl rfl ?_
              refine G_callV cf_X11 ok_X11_adds [.int p1, .int p2] [] (con_X11_adds κ a18.2 this p1 p2) rfl w_1012 w_1014 wp_5 (Nat.le_of_ble_eq_true rfl) (Nat.le_of_ble_eq_true rfl) dX11_unit_54 rfl (by simp) (fun _u M20 => (show G _ _ _ _ _ _ [] _ from ?_))
              refine G_iinc (v := (a18.1 + 1)) (lv' := [(5, .int (a18.1 + 1)), (0, rv κ this), (1, .int p1), (2, .int p2), (3, .int p3), (4, .int p4)]) dX11_unit_57 5 rfl (congrArg (fun z9 : Int32 => a18.1 + z9) (by decide : Int32.ofInt 1 = 1)) (Nat.le_of_ble_eq_true rfl) rfl ?_
              refine G_goto (tgt := 45) dX11_unit_60 (by decide) ?_
              exact G.sub [1, 2, 3, 4, 5, 0] rfl (hL45_17 _)
        · refine G_bipush (v := (-2)) dX11_unit_34 (by decide) ?_
          exact G_ret (v := ((-2))) dX11_unit_36 (fun h => by cases h) rfl
def b_X11_extend_30 (this : Option Nat) (p1 : Int32) (p2 : Int32) (x4 : Int32) (J63_5 : Int32 → Mem → Option (Int32 × Mem)) (L30_11 : (Int32 × Mem) → Option (Int32 × Mem)) (a12 : Int32 × Mem) : Option (Int32 × Mem) :=
  dI a12.2 11 9 this (fun (x14 : Int32) => (if 99999 < x14 then J63_5 a12.1 a12.2 else dI a12.2 11 13 this (fun (x15 : Int32) => (if x4 < x15 then J63_5 a12.1 a12.2 else dI a12.2 11 9 this (fun (x16 : Int32) => rc a12.2 11 this (cl (m_X11_adds a12.2 this p1 p2) (fun (_u : Unit) (M17 : Mem) => L30_11 (x16, M17))))))))
def m_X11_extend (M : Mem) (this : Option Nat) (p1 : Int32) (p2 : Int32) (p3 : Int32) : Option (Int32 × Mem) :=
  rc M 11 this (cl (m_X11_isStay M this p1 p2 p3) (fun (x2 : Int32) (M1 : Mem) => (if x2 ≠ 0 then rc M1 11 this (cl (m_X11_feeOf M1 this p1 p2 p3) (fun (x4 : Int32) (M3 : Mem) => rc M3 11 this (cl (m_X11_begins M3 this p2) (fun (_u : Unit) (M5 : Mem) => jn (fun (x7 : Int32) (M8 : Mem) => dI M8 11 13 this (fun (x9 : Int32) => (if x4 < x9 then rc M8 11 this (cl (m_X11_of M8 this p1 0) (fun (x11 : Int32) (M10 : Mem) => (if (p2 + x11) ≤ x7 then rt x7 M10 else (if (p2 + x11) ≤ 99999 then rt ((p2 + x11)) M10 else rt 99999 M10)))) else rt 99999 M8))) (fun (J63_5 : Int32 → Mem → Option (Int32 × Mem)) => lp (b_X11_extend_30 this p1 p2 x4 J63_5) FU (p2, M5)))))) else rt ((-2)) M1)))
abbrev md_X11_extend : MD := (RX11, yX11_extend, cX11_extend, 7, Option.some Jvm.ClassFile.FieldType.int, 5, 115)
theorem ok_X11_extend : MOk md_X11_extend 3 := ⟨by decide +kernel, w_1039, w_11, ⟨by decide +kernel, by decide +kernel⟩, by decide +kernel, rfl⟩
set_option maxRecDepth 100000 in
set_option maxHeartbeats 4000000 in
theorem con_X11_extend (κ : Cfg) (M : Mem) (this : Option Nat) (p1 : Int32) (p2 : Int32) (p3 : Int32) : Con κ md_X11_extend [rv κ this, .int p1, .int p2, .int p3] M cvI (m_X11_extend M this p1 p2 p3) := by
  refine Con.of ok_X11_extend (ret_I rfl) (by
    intro v hv
    simp only [List.mem_cons, List.not_mem_nil, or_false] at hv
    rcases hv with rfl | rfl | rfl | rfl <;> first | rfl | exact rv_cat _ _) (Nat.le_of_ble_eq_true rfl) ?_
  unfold m_X11_extend
  refine G.sub (lv' := [(0, rv κ this), (1, .int p1), (2, .int p2), (3, .int p3)]) [0, 1, 2, 3] rfl ?_
  refine G_aload_n dX11_extend_0 0 rfl rfl ?_
  refine G_iload_n dX11_extend_1 1 rfl rfl ?_
  refine G_iload_n dX11_extend_2 2 rfl rfl ?_
  refine G_iload_n dX11_extend_3 3 rfl rfl ?_
  refine G_callV cf_X11 ok_X11_isStay [.int p1, .int p2, .int p3] [] (con_X11_isStay κ M this p1 p2 p3) rfl w_986 w_988 wp_1 (Nat.le_of_ble_eq_true rfl) (Nat.le_of_ble_eq_true rfl) dX11_extend_4 rfl (by simp) (fun x2 M1 => (show G _ _ _ _ _ _ [.int x2] _ from ?_))
  refine G_if_ne (tgt := 13) dX11_extend_7 (by decide) ?_ ?_
  · refine G_aload_n dX11_extend_13 0 rfl rfl ?_
    refine G_iload_n dX11_extend_14 1 rfl rfl ?_
    refine G_iload_n dX11_extend_15 2 rfl rfl ?_
    refine G_iload_n dX11_extend_16 3 rfl rfl ?_
    refine G_callV cf_X11 ok_X11_feeOf [.int p1, .int p2, .int p3] [] (con_X11_feeOf κ M1 this p1 p2 p3) rfl w_1000 w_1002 wp_2 (Nat.le_of_ble_eq_true rfl) (Nat.le_of_ble_eq_true rfl) dX11_extend_17 rfl (by simp) (fun x4 M3 => (show G _ _ _ _ _ _ [.int x4] _ from ?_))
    refine G_istore (lv' := [(4, .int x4), (0, rv κ this), (1, .int p1), (2, .int p2), (3, .int p3)]) dX11_extend_20 (Nat.le_of_ble_eq_true rfl) rfl ?_
    refine G_aload_n dX11_extend_22 1 rfl rfl ?_
    refine G_iload_n dX11_extend_23 3 rfl rfl ?_
    refine G_callV cf_X11 ok_X11_begins [.int p2] [] (con_X11_begins κ M3 this p2) rfl w_1008 w_1010 wp_4 (Nat.le_of_ble_eq_true rfl) (Nat.le_of_ble_eq_true rfl) dX11_extend_24 rfl (by simp) (fun _u M5 => (show G _ _ _ _ _ _ [] _ from ?_))
    refine G_iload_n dX11_extend_27 3 rfl rfl ?_
    refine G_istore (lv' := [(5, .int p2), (4, .int x4), (0, rv κ this), (1, .int p1), (2, .int p2), (3, .int p3)]) dX11_extend_28 (Nat.le_of_ble_eq_true rfl) rfl ?_
    refine G.jn (P := (fun (J : Int32 → Mem → Option (Int32 × Mem)) => ∀ (x7 : Int32) (M8 : Mem), G κ md_X11_extend cvI (J x7 M8) 63 [(0, rv κ this), (1, .int p1), (2, .int p2), (4, .int x4), (5, .int x7)] [] M8)) ?_ ?_
    · intro x7 M8
      refine G_aload_n dX11_extend_63 0 rfl rfl ?_
      refine G_getI cf_X11 (j := 13) rfl w_930 dX11_extend_64 (fun x9 => ?_)
      refine G_iload dX11_extend_67 3 rfl ?_
      refine G_icmp_gt (tgt := 75) dX11_extend_69 (by decide) ?_ ?_
      · refine G_iload_n dX11_extend_75 2 rfl rfl ?_
        refine G_aload_n dX11_extend_76 0 rfl rfl ?_
        refine G_iload_n dX11_extend_77 1 rfl rfl ?_
        refine G_iconst (v := 0) dX11_extend_78 (by decide) ?_
        refine G_callV cf_X11 ok_X11_of [.int p1, .int 0] [.int p2] (con_X11_of κ M8 this p1 0) rfl w_1004 w_1006 wp_3 (Nat.le_of_ble_eq_true rfl) (Nat.le_of_ble_eq_true rfl) dX11_extend_79 rfl (by simp) (fun x11 M10 => (show G _ _ _ _ _ _ [.int x11, .int p2] _ from ?_))
        refine G_iadd dX11_extend_82 ?_
        refine G_istore (lv' := [(6, .int (p2 + x11)), (0, rv κ this), (1, .int p1), (2, .int p2), (4, .int x4), (5, .int x7)]) dX11_extend_83 (Nat.le_of_ble_eq_true rfl) rfl ?_
        refine G_iload dX11_extend_85 0 rfl ?_
        refine G_iload dX11_extend_87 5 rfl ?_
        refine G_icmp_le (tgt := 109) dX11_extend_89 (by decide) ?_ ?_
        · refine G_iload dX11_extend_109 5 rfl ?_
          exact G_ret (v := x7) dX11_extend_111 (fun h => by cases h) rfl
        · refine G_iload dX11_extend_92 0 rfl ?_
          refine G_ldc (v := 99999) dX11_extend_94 w_999 ?_
          refine G_icmp_le (tgt := 104) dX11_extend_96 (by decide) ?_ ?_
          · refine G_iload dX11_extend_104 0 rfl ?_
            refine G_goto (tgt := 111) dX11_extend_106 (by decide) ?_
            exact G_ret (v := ((p2 + x11))) dX11_extend_111 (fun h => by cases h) rfl
          · refine G_ldc (v := 99999) dX11_extend_99 w_999 ?_
            refine G_goto (tgt := 111) dX11_extend_101 (by decide) ?_
            exact G_ret (v := 99999) dX11_extend_111 (fun h => by cases h) rfl
      · refine G_ldc (v := 99999) dX11_extend_72 w_999 ?_
        exact G_ret (v := 99999) dX11_extend_74 (fun h => by cases h) rfl
    · intro J63_5 hJ63_5
      refine G.sub (lv' := [(0, rv κ this), (1, .int p1), (2, .int p2), (4, .int x4), (5, .int p2)]) [2, 3, 4, 1, 0] rfl ?_
      refine G.loop (lvf := fun (a12 : Int32 × Mem) => [(0, rv κ this), (1, .int p1), (2, .int p2), (4, .int x4), (5, .int a12.1)]) (mf := fun (a12 : Int32 × Mem) => a12.2) (fun L30_11 hL30_11 a12 => ?_) FU (p2, M5)
      unfold b_X11_extend_30
      refine G_aload_n dX11_extend_30 0 rfl rfl ?_
      refine G_getI cf_X11 (j := 9) rfl w_926 dX11_extend_31 (fun x14 => ?_)
      refine G_ldc (v := 99999) dX11_extend_34 w_999 ?_
      refine G_icmp_gt (tgt := 63) dX11_extend_36 (by decide) ?_ ?_
      · exact G.sub [0, 1, 2, 3, 4] rfl (hJ63_5 _ _)
      · refine G_aload_n dX11_extend_39 0 rfl rfl ?_
        refine G_getI cf_X11 (j := 13) rfl w_930 dX11_extend_40 (fun x15 => ?_)
        refine G_iload dX11_extend_43 3 rfl ?_
        refine G_icmp_gt (tgt := 63) dX11_extend_45 (by decide) ?_ ?_
        · exact G.sub [0, 1, 2, 3, 4] rfl (hJ63_5 _ _)
        · refine G_aload_n dX11_extend_48 0 rfl rfl ?_
          refine G_getI cf_X11 (j := 9) rfl w_926 dX11_extend_49 (fun x16 => ?_)
          refine G_istore (lv' := [(5, .int x16), (0, rv κ this), (1, .int p1), (2, .int p2), (4, .int x4)]) dX11_extend_52 (Nat.le_of_ble_eq_true rfl) rfl ?_
          refine G_aload_n dX11_extend_54 1 rfl rfl ?_
          refine G_iload_n dX11_extend_55 2 rfl rfl ?_
          refine G_iload_n dX11_extend_56 3 rfl rfl ?_
          refine G_callV cf_X11 ok_X11_adds [.int p1, .int p2] [] (con_X11_adds κ a12.2 this p1 p2) rfl w_1012 w_1014 wp_5 (Nat.le_of_ble_eq_true rfl) (Nat.le_of_ble_eq_true rfl) dX11_extend_57 rfl (by simp) (fun _u M17 => (show G _ _ _ _ _ _ [] _ from ?_))
          refine G_goto (tgt := 30) dX11_extend_60 (by decide) ?_
          exact G.sub [1, 2, 3, 4, 0] rfl (hL30_11 _)
  · refine G_bipush (v := (-2)) dX11_extend_10 (by decide) ?_
    exact G_ret (v := ((-2))) dX11_extend_12 (fun h => by cases h) rfl
def b_X11_append_39 (this : Option Nat) (p1 : Int32) (p2 : Int32) (L39_5 : (Int32 × Mem) → Option (Int32 × Mem)) (a6 : Int32 × Mem) : Option (Int32 × Mem) :=
  (if p2 ≤ a6.1 then dI a6.2 11 6 this (fun (x8 : Int32) => pI a6.2 11 6 this ((x8 + p2)) (fun (M9 : Mem) => dI M9 11 6 this (fun (x10 : Int32) => rt x10 M9))) else dP a6.2 11 5 this (fun (q11 : Option Nat) => dI a6.2 11 6 this (fun (x12 : Int32) => sI a6.2 100 q11 ((x12 + a6.1)) p1 (fun (M13 : Mem) => L39_5 ((a6.1 + 1), M13)))))
def m_X11_append (M : Mem) (this : Option Nat) (p1 : Int32) (p2 : Int32) : Option (Int32 × Mem) :=
  cl (m_X11_in M p1 0 127) (fun (x2 : Int32) (M1 : Mem) => (if x2 = 0 then rt ((-2)) M1 else cl (m_X11_in M1 p2 1 90) (fun (x4 : Int32) (M3 : Mem) => (if x4 ≠ 0 then dI M3 11 6 this (fun (x5 : Int32) => (if (x5 + p2) ≤ 90 then lp (b_X11_append_39 this p1 p2) FU (0, M3) else rt ((-3)) M3)) else rt ((-2)) M3))))
abbrev md_X11_append : MD := (RX11, yX11_append, cX11_append, 4, Option.some Jvm.ClassFile.FieldType.int, 1, 22)
theorem ok_X11_append : MOk md_X11_append 2 := ⟨by decide +kernel, w_1043, w_11, ⟨by decide +kernel, by decide +kernel⟩, by decide +kernel, rfl⟩
set_option maxRecDepth 100000 in
set_option maxHeartbeats 4000000 in
theorem con_X11_append (κ : Cfg) (M : Mem) (this : Option Nat) (p1 : Int32) (p2 : Int32) : Con κ md_X11_append [rv κ this, .int p1, .int p2] M cvI (m_X11_append M this p1 p2) := by
  refine Con.of ok_X11_append (ret_I rfl) (by
    intro v hv
    simp only [List.mem_cons, List.not_mem_nil, or_false] at hv
    rcases hv with rfl | rfl | rfl <;> first | rfl | exact rv_cat _ _) (Nat.le_of_ble_eq_true rfl) ?_
  unfold m_X11_append
  refine G.sub (lv' := [(0, rv κ this), (1, .int p1), (2, .int p2)]) [0, 1, 2] rfl ?_
  refine G_iload_n dX11_append_0 1 rfl rfl ?_
  refine G_iconst (v := 0) dX11_append_1 (by decide) ?_
  refine G_bipush (v := 127) dX11_append_2 (by decide) ?_
  refine G_callS ok_X11_in [.int p1, .int 0, .int 127] [] (con_X11_in κ M p1 0 127) rfl w_993 w_994 (Nat.le_of_ble_eq_true rfl) (Nat.le_of_ble_eq_true rfl) dX11_append_4 rfl (by simp) (fun x2 M1 => (show G _ _ _ _ _ _ [.int x2] _ from ?_))
  refine G_if_eq (tgt := 20) dX11_append_7 (by decide) ?_ ?_
  · refine G_bipush (v := (-2)) dX11_append_20 (by decide) ?_
    exact G_ret (v := ((-2))) dX11_append_22 (fun h => by cases h) rfl
  · refine G_iload_n dX11_append_10 2 rfl rfl ?_
    refine G_iconst (v := 1) dX11_append_11 (by decide) ?_
    refine G_bipush (v := 90) dX11_append_12 (by decide) ?_
    refine G_callS ok_X11_in [.int p2, .int 1, .int 90] [] (con_X11_in κ M1 p2 1 90) rfl w_993 w_994 (Nat.le_of_ble_eq_true rfl) (Nat.le_of_ble_eq_true rfl) dX11_append_14 rfl (by simp) (fun x4 M3 => (show G _ _ _ _ _ _ [.int x4] _ from ?_))
    refine G_if_ne (tgt := 23) dX11_append_17 (by decide) ?_ ?_
    · refine G_aload_n dX11_append_23 0 rfl rfl ?_
      refine G_getI cf_X11 (j := 6) rfl w_923 dX11_append_24 (fun x5 => ?_)
      refine G_iload_n dX11_append_27 2 rfl rfl ?_
      refine G_iadd dX11_append_28 ?_
      refine G_bipush (v := 90) dX11_append_29 (by decide) ?_
      refine G_icmp_le (tgt := 37) dX11_append_31 (by decide) ?_ ?_
      · refine G_iconst (v := 0) dX11_append_37 (by decide) ?_
        refine G_istore_n (lv' := [(3, .int 0), (0, rv κ this), (1, .int p1), (2, .int p2)]) dX11_append_38 rfl (Nat.le_of_ble_eq_true rfl) rfl ?_
        refine G.sub (lv' := [(0, rv κ this), (1, .int p1), (2, .int p2), (3, .int 0)]) [1, 2, 3, 0] rfl ?_
        refine G.loop (lvf := fun (a6 : Int32 × Mem) => [(0, rv κ this), (1, .int p1), (2, .int p2), (3, .int a6.1)]) (mf := fun (a6 : Int32 × Mem) => a6.2) (fun L39_5 hL39_5 a6 => ?_) FU (0, M3)
        unfold b_X11_append_39
        refine G_iload_n dX11_append_39 3 rfl rfl ?_
        refine G_iload_n dX11_append_40 2 rfl rfl ?_
        refine G_icmp_ge (tgt := 62) dX11_append_41 (by decide) ?_ ?_
        · refine G_aload_n dX11_append_62 0 rfl rfl ?_
          refine G_dup dX11_append_63 (rv_cat _ _) ?_
          refine G_getI cf_X11 (j := 6) rfl w_923 dX11_append_64 (fun x8 => ?_)
          refine G_iload_n dX11_append_67 2 rfl rfl ?_
          refine G_iadd dX11_append_68 ?_
          refine G_putI cf_X11 (j := 6) rfl rfl w_923 (Or.inl rfl) dX11_append_69 (fun M9 => ?_)
          refine G_aload_n dX11_append_72 0 rfl rfl ?_
          refine G_getI cf_X11 (j := 6) rfl w_923 dX11_append_73 (fun x10 => ?_)
          exact G_ret (v := x10) dX11_append_76 (fun h => by cases h) rfl
        · refine G_aload_n dX11_append_44 0 rfl rfl ?_
          refine G_getP cf_X11 (j := 5) rfl w_922 dX11_append_45 (fun q11 => ?_)
          refine G_aload_n dX11_append_48 0 rfl rfl ?_
          refine G_getI cf_X11 (j := 6) rfl w_923 dX11_append_49 (fun x12 => ?_)
          refine G_iload_n dX11_append_52 3 rfl rfl ?_
          refine G_iadd dX11_append_53 ?_
          refine G_iload_n dX11_append_54 1 rfl rfl ?_
          refine G_iast dX11_append_55 (fun M13 => ?_)
          refine G_iinc (v := (a6.1 + 1)) (lv' := [(3, .int (a6.1 + 1)), (0, rv κ this), (1, .int p1), (2, .int p2)]) dX11_append_56 3 rfl (congrArg (fun z9 : Int32 => a6.1 + z9) (by decide : Int32.ofInt 1 = 1)) (Nat.le_of_ble_eq_true rfl) rfl ?_
          refine G_goto (tgt := 39) dX11_append_59 (by decide) ?_
          exact G.sub [1, 2, 3, 0] rfl (hL39_5 _)
      · refine G_bipush (v := (-3)) dX11_append_34 (by decide) ?_
        exact G_ret (v := ((-3))) dX11_append_36 (fun h => by cases h) rfl
    · refine G_bipush (v := (-2)) dX11_append_20 (by decide) ?_
      exact G_ret (v := ((-2))) dX11_append_22 (fun h => by cases h) rfl
def m_X11_here (M : Mem) (this : Option Nat) : Option (Int32 × Mem) :=
  dI M 11 14 this (fun (x1 : Int32) => dI M 11 6 this (fun (x2 : Int32) => (if x2 ≤ x1 then rt ((-1)) M else dP M 11 5 this (fun (q3 : Option Nat) => dI M 11 14 this (fun (x4 : Int32) => aI M 100 q3 x4 (fun (x5 : Int32) => rt x5 M))))))
abbrev md_X11_here : MD := (RX11, yX11_here, cX11_here, 1, Option.some Jvm.ClassFile.FieldType.int, 0, 0)
theorem ok_X11_here : MOk md_X11_here 0 := ⟨by decide +kernel, w_1059, w_11, ⟨by decide +kernel, by decide +kernel⟩, by decide +kernel, rfl⟩
set_option maxRecDepth 100000 in
set_option maxHeartbeats 4000000 in
theorem con_X11_here (κ : Cfg) (M : Mem) (this : Option Nat) : Con κ md_X11_here [rv κ this] M cvI (m_X11_here M this) := by
  refine Con.of ok_X11_here (ret_I rfl) (by
    intro v hv
    simp only [List.mem_cons, List.not_mem_nil, or_false] at hv
    subst hv; first | rfl | exact rv_cat _ _) (Nat.le_of_ble_eq_true rfl) ?_
  unfold m_X11_here
  refine G.sub (lv' := [(0, rv κ this)]) [0] rfl ?_
  refine G_aload_n dX11_here_0 0 rfl rfl ?_
  refine G_getI cf_X11 (j := 14) rfl w_931 dX11_here_1 (fun x1 => ?_)
  refine G_aload_n dX11_here_4 0 rfl rfl ?_
  refine G_getI cf_X11 (j := 6) rfl w_923 dX11_here_5 (fun x2 => ?_)
  refine G_icmp_ge (tgt := 23) dX11_here_8 (by decide) ?_ ?_
  · refine G_iconst (v := (-1)) dX11_here_23 (by decide) ?_
    exact G_ret (v := ((-1))) dX11_here_24 (fun h => by cases h) rfl
  · refine G_aload_n dX11_here_11 0 rfl rfl ?_
    refine G_getP cf_X11 (j := 5) rfl w_922 dX11_here_12 (fun q3 => ?_)
    refine G_aload_n dX11_here_15 0 rfl rfl ?_
    refine G_getI cf_X11 (j := 14) rfl w_931 dX11_here_16 (fun x4 => ?_)
    refine G_iald dX11_here_19 (fun x5 => ?_)
    refine G_goto (tgt := 24) dX11_here_20 (by decide) ?_
    exact G_ret (v := x5) dX11_here_24 (fun h => by cases h) rfl
def m_X11_fails (M : Mem) (this : Option Nat) (p1 : Int32) (p2 : Int32) : Option (Unit × Mem) :=
  dI M 11 16 this (fun (x1 : Int32) => (if x1 ≤ 0 then pI M 11 16 this p1 (fun (M2 : Mem) => pI M2 11 17 this p2 (fun (M3 : Mem) => rt () M3)) else rt () M))
abbrev md_X11_fails : MD := (RX11, yX11_fails, cX11_fails, 3, Option.none, 0, 0)
theorem ok_X11_fails : MOk md_X11_fails 2 := ⟨by decide +kernel, w_1075, w_11, ⟨by decide +kernel, by decide +kernel⟩, by decide +kernel, rfl⟩
set_option maxRecDepth 100000 in
set_option maxHeartbeats 4000000 in
theorem con_X11_fails (κ : Cfg) (M : Mem) (this : Option Nat) (p1 : Int32) (p2 : Int32) : Con κ md_X11_fails [rv κ this, .int p1, .int p2] M cvV (m_X11_fails M this p1 p2) := by
  refine Con.of ok_X11_fails (ret_V rfl) (by
    intro v hv
    simp only [List.mem_cons, List.not_mem_nil, or_false] at hv
    rcases hv with rfl | rfl | rfl <;> first | rfl | exact rv_cat _ _) (Nat.le_of_ble_eq_true rfl) ?_
  unfold m_X11_fails
  refine G.sub (lv' := [(0, rv κ this), (1, .int p1), (2, .int p2)]) [0, 1, 2] rfl ?_
  refine G_aload_n dX11_fails_0 0 rfl rfl ?_
  refine G_getI cf_X11 (j := 16) rfl w_933 dX11_fails_1 (fun x1 => ?_)
  refine G_if_le (tgt := 8) dX11_fails_4 (by decide) ?_ ?_
  · refine G_aload_n dX11_fails_8 0 rfl rfl ?_
    refine G_iload_n dX11_fails_9 1 rfl rfl ?_
    refine G_putI cf_X11 (j := 16) rfl rfl w_933 (Or.inl rfl) dX11_fails_10 (fun M2 => ?_)
    refine G_aload_n dX11_fails_13 0 rfl rfl ?_
    refine G_iload_n dX11_fails_14 2 rfl rfl ?_
    refine G_putI cf_X11 (j := 17) rfl rfl w_934 (Or.inl rfl) dX11_fails_15 (fun M3 => ?_)
    exact G_ret (v := ()) dX11_fails_18 (fun h => by cases h) rfl
  · exact G_ret (v := ()) dX11_fails_7 (fun h => by cases h) rfl
def m_X11_must (M : Mem) (this : Option Nat) (p1 : Int32) : Option (Unit × Mem) :=
  rc M 11 this (cl (m_X11_here M this) (fun (x2 : Int32) (M1 : Mem) => jn (fun (M4 : Mem) => dI M4 11 14 this (fun (x5 : Int32) => dI M4 11 16 this (fun (x6 : Int32) => jn (fun (x8 : Int32) (M9 : Mem) => pI M9 11 14 this ((x5 + x8)) (fun (M10 : Mem) => rt () M10)) (fun (J34_6 : Int32 → Mem → Option (Unit × Mem)) => (if x6 ≠ 0 then J34_6 0 M4 else J34_6 1 M4))))) (fun (J17_2 : Mem → Option (Unit × Mem)) => (if x2 = p1 then J17_2 M1 else dI M1 11 14 this (fun (x11 : Int32) => rc M1 11 this (cl (m_X11_fails M1 this 3 x11) (fun (_u : Unit) (M12 : Mem) => J17_2 M12)))))))
abbrev md_X11_must : MD := (RX11, yX11_must, cX11_must, 2, Option.none, 1, 22)
theorem ok_X11_must : MOk md_X11_must 1 := ⟨by decide +kernel, w_1071, w_11, ⟨by decide +kernel, by decide +kernel⟩, by decide +kernel, rfl⟩
set_option maxRecDepth 100000 in
set_option maxHeartbeats 4000000 in
theorem con_X11_must (κ : Cfg) (M : Mem) (this : Option Nat) (p1 : Int32) : Con κ md_X11_must [rv κ this, .int p1] M cvV (m_X11_must M this p1) := by
  refine Con.of ok_X11_must (ret_V rfl) (by
    intro v hv
    simp only [List.mem_cons, List.not_mem_nil, or_false] at hv
    rcases hv with rfl | rfl <;> first | rfl | exact rv_cat _ _) (Nat.le_of_ble_eq_true rfl) ?_
  unfold m_X11_must
  refine G.sub (lv' := [(0, rv κ this), (1, .int p1)]) [0, 1] rfl ?_
  refine G_aload_n dX11_must_0 0 rfl rfl ?_
  refine G_callV cf_X11 ok_X11_here [] [] (con_X11_here κ M this) rfl w_1056 w_1058 wp_12 (Nat.le_of_ble_eq_true rfl) (Nat.le_of_ble_eq_true rfl) dX11_must_1 rfl (by simp) (fun x2 M1 => (show G _ _ _ _ _ _ [.int x2] _ from ?_))
  refine G_iload_n dX11_must_4 1 rfl rfl ?_
  refine G.jn (P := (fun (J : Mem → Option (Unit × Mem)) => ∀ (M4 : Mem), G κ md_X11_must cvV (J M4) 17 [(0, rv κ this)] [] M4)) ?_ ?_
  · intro M4
    refine G_aload_n dX11_must_17 0 rfl rfl ?_
    refine G_dup dX11_must_18 (rv_cat _ _) ?_
    refine G_getI cf_X11 (j := 14) rfl w_931 dX11_must_19 (fun x5 => ?_)
    refine G_aload_n dX11_must_22 0 rfl rfl ?_
    refine G_getI cf_X11 (j := 16) rfl w_933 dX11_must_23 (fun x6 => ?_)
    refine G.jn (P := (fun (J : Int32 → Mem → Option (Unit × Mem)) => ∀ (x8 : Int32) (M9 : Mem), G κ md_X11_must cvV (J x8 M9) 34 [] [.int x8, .int x5, rv κ this] M9)) ?_ ?_
    · intro x8 M9
      refine G_iadd dX11_must_34 ?_
      refine G_putI cf_X11 (j := 14) rfl rfl w_931 (Or.inl rfl) dX11_must_35 (fun M10 => ?_)
      exact G_ret (v := ()) dX11_must_38 (fun h => by cases h) rfl
    · intro J34_6 hJ34_6
      refine G_if_ne (tgt := 33) dX11_must_26 (by decide) ?_ ?_
      · refine G_iconst (v := 0) dX11_must_33 (by decide) ?_
        exact G.sub [] rfl (hJ34_6 _ _)
      · refine G_iconst (v := 1) dX11_must_29 (by decide) ?_
        refine G_goto (tgt := 34) dX11_must_30 (by decide) ?_
        exact G.sub [] rfl (hJ34_6 _ _)
  · intro J17_2 hJ17_2
    refine G_icmp_eq (tgt := 17) dX11_must_5 (by decide) ?_ ?_
    · exact G.sub [0] rfl (hJ17_2 _)
    · refine G_aload_n dX11_must_8 0 rfl rfl ?_
      refine G_iconst (v := 3) dX11_must_9 (by decide) ?_
      refine G_aload_n dX11_must_10 0 rfl rfl ?_
      refine G_getI cf_X11 (j := 14) rfl w_931 dX11_must_11 (fun x11 => ?_)
      refine G_callV cf_X11 ok_X11_fails [.int 3, .int x11] [] (con_X11_fails κ M1 this 3 x11) rfl w_1072 w_1074 wp_16 (Nat.le_of_ble_eq_true rfl) (Nat.le_of_ble_eq_true rfl) dX11_must_14 rfl (by simp) (fun _u M12 => (show G _ _ _ _ _ _ [] _ from ?_))
      exact G.sub [0] rfl (hJ17_2 _)
def b_X11_number_32 (this : Option Nat) (p1 : Int32) (L32_8 : (Int32 × Mem) → Option (Unit × Mem)) (a9 : Int32 × Mem) : Option (Unit × Mem) :=
  (if 4 ≤ a9.1 then rt () a9.2 else dI a9.2 11 16 this (fun (x11 : Int32) => (if x11 ≠ 0 then rt () a9.2 else rc a9.2 11 this (cl (m_X11_here a9.2 this) (fun (x13 : Int32) (M12 : Mem) => cl (m_X11_in M12 x13 48 57) (fun (x15 : Int32) (M14 : Mem) => (if x15 = 0 then rt () M14 else dP M14 11 19 this (fun (q16 : Option Nat) => dP M14 11 19 this (fun (q17 : Option Nat) => aI M14 100 q17 p1 (fun (x18 : Int32) => rc M14 11 this (cl (m_X11_here M14 this) (fun (x20 : Int32) (M19 : Mem) => sI M19 100 q16 p1 ((((10 * x18) + x20) - 48)) (fun (M21 : Mem) => dI M21 11 14 this (fun (x22 : Int32) => pI M21 11 14 this ((x22 + 1)) (fun (M23 : Mem) => L32_8 ((a9.1 + 1), M23))))))))))))))))
def m_X11_number (M : Mem) (this : Option Nat) (p1 : Int32) : Option (Unit × Mem) :=
  rc M 11 this (cl (m_X11_here M this) (fun (x2 : Int32) (M1 : Mem) => cl (m_X11_in M1 x2 48 57) (fun (x4 : Int32) (M3 : Mem) => jn (fun (M6 : Mem) => dP M6 11 19 this (fun (q7 : Option Nat) => sI M6 100 q7 p1 0 (fun (M8 : Mem) => lp (b_X11_number_32 this p1) FU (0, M8)))) (fun (J23_4 : Mem → Option (Unit × Mem)) => (if x4 ≠ 0 then J23_4 M3 else dI M3 11 14 this (fun (x24 : Int32) => rc M3 11 this (cl (m_X11_fails M3 this 3 x24) (fun (_u : Unit) (M25 : Mem) => J23_4 M25))))))))
abbrev md_X11_number : MD := (RX11, yX11_number, cX11_number, 3, Option.none, 1, 22)
theorem ok_X11_number : MOk md_X11_number 1 := ⟨by decide +kernel, w_1079, w_11, ⟨by decide +kernel, by decide +kernel⟩, by decide +kernel, rfl⟩
set_option maxRecDepth 100000 in
set_option maxHeartbeats 4000000 in
theorem con_X11_number (κ : Cfg) (M : Mem) (this : Option Nat) (p1 : Int32) : Con κ md_X11_number [rv κ this, .int p1] M cvV (m_X11_number M this p1) := by
  refine Con.of ok_X11_number (ret_V rfl) (by
    intro v hv
    simp only [List.mem_cons, List.not_mem_nil, or_false] at hv
    rcases hv with rfl | rfl <;> first | rfl | exact rv_cat _ _) (Nat.le_of_ble_eq_true rfl) ?_
  unfold m_X11_number
  refine G.sub (lv' := [(0, rv κ this), (1, .int p1)]) [0, 1] rfl ?_
  refine G_aload_n dX11_number_0 0 rfl rfl ?_
  refine G_callV cf_X11 ok_X11_here [] [] (con_X11_here κ M this) rfl w_1056 w_1058 wp_12 (Nat.le_of_ble_eq_true rfl) (Nat.le_of_ble_eq_true rfl) dX11_number_1 rfl (by simp) (fun x2 M1 => (show G _ _ _ _ _ _ [.int x2] _ from ?_))
  refine G_bipush (v := 48) dX11_number_4 (by decide) ?_
  refine G_bipush (v := 57) dX11_number_6 (by decide) ?_
  refine G_callS ok_X11_in [.int x2, .int 48, .int 57] [] (con_X11_in κ M1 x2 48 57) rfl w_993 w_994 (Nat.le_of_ble_eq_true rfl) (Nat.le_of_ble_eq_true rfl) dX11_number_8 rfl (by simp) (fun x4 M3 => (show G _ _ _ _ _ _ [.int x4] _ from ?_))
  refine G.jn (P := (fun (J : Mem → Option (Unit × Mem)) => ∀ (M6 : Mem), G κ md_X11_number cvV (J M6) 23 [(0, rv κ this), (1, .int p1)] [] M6)) ?_ ?_
  · intro M6
    refine G_aload_n dX11_number_23 0 rfl rfl ?_
    refine G_getP cf_X11 (j := 19) rfl w_936 dX11_number_24 (fun q7 => ?_)
    refine G_iload_n dX11_number_27 1 rfl rfl ?_
    refine G_iconst (v := 0) dX11_number_28 (by decide) ?_
    refine G_iast dX11_number_29 (fun M8 => ?_)
    refine G_iconst (v := 0) dX11_number_30 (by decide) ?_
    refine G_istore_n (lv' := [(2, .int 0), (0, rv κ this), (1, .int p1)]) dX11_number_31 rfl (Nat.le_of_ble_eq_true rfl) rfl ?_
    refine G.sub (lv' := [(0, rv κ this), (1, .int p1), (2, .int 0)]) [1, 2, 0] rfl ?_
    refine G.loop (lvf := fun (a9 : Int32 × Mem) => [(0, rv κ this), (1, .int p1), (2, .int a9.1)]) (mf := fun (a9 : Int32 × Mem) => a9.2) (fun L32_8 hL32_8 a9 => ?_) FU (0, M8)
    unfold b_X11_number_32
    refine G_iload_n dX11_number_32 2 rfl rfl ?_
    refine G_iconst (v := 4) dX11_number_33 (by decide) ?_
    refine G_icmp_ge (tgt := 97) dX11_number_34 (by decide) ?_ ?_
    · exact G_ret (v := ()) dX11_number_97 (fun h => by cases h) rfl
    · refine G_aload_n dX11_number_37 0 rfl rfl ?_
      refine G_getI cf_X11 (j := 16) rfl w_933 dX11_number_38 (fun x11 => ?_)
      refine G_if_ne (tgt := 97) dX11_number_41 (by decide) ?_ ?_
      · exact G_ret (v := ()) dX11_number_97 (fun h => by cases h) rfl
      · refine G_aload_n dX11_number_44 0 rfl rfl ?_
        refine G_callV cf_X11 ok_X11_here [] [] (con_X11_here κ a9.2 this) rfl w_1056 w_1058 wp_12 (Nat.le_of_ble_eq_true rfl) (Nat.le_of_ble_eq_true rfl) dX11_number_45 rfl (by simp) (fun x13 M12 => (show G _ _ _ _ _ _ [.int x13] _ from ?_))
        refine G_bipush (v := 48) dX11_number_48 (by decide) ?_
        refine G_bipush (v := 57) dX11_number_50 (by decide) ?_
        refine G_callS ok_X11_in [.int x13, .int 48, .int 57] [] (con_X11_in κ M12 x13 48 57) rfl w_993 w_994 (Nat.le_of_ble_eq_true rfl) (Nat.le_of_ble_eq_true rfl) dX11_number_52 rfl (by simp) (fun x15 M14 => (show G _ _ _ _ _ _ [.int x15] _ from ?_))
        refine G_if_eq (tgt := 97) dX11_number_55 (by decide) ?_ ?_
        · exact G_ret (v := ()) dX11_number_97 (fun h => by cases h) rfl
        · refine G_aload_n dX11_number_58 0 rfl rfl ?_
          refine G_getP cf_X11 (j := 19) rfl w_936 dX11_number_59 (fun q16 => ?_)
          refine G_iload_n dX11_number_62 1 rfl rfl ?_
          refine G_bipush (v := 10) dX11_number_63 (by decide) ?_
          refine G_aload_n dX11_number_65 0 rfl rfl ?_
          refine G_getP cf_X11 (j := 19) rfl w_936 dX11_number_66 (fun q17 => ?_)
          refine G_iload_n dX11_number_69 1 rfl rfl ?_
          refine G_iald dX11_number_70 (fun x18 => ?_)
          refine G_imul dX11_number_71 ?_
          refine G_aload_n dX11_number_72 0 rfl rfl ?_
          refine G_callV cf_X11 ok_X11_here [] [.int (10 * x18), .int p1, rv κ q16] (con_X11_here κ M14 this) rfl w_1056 w_1058 wp_12 (Nat.le_of_ble_eq_true rfl) (Nat.le_of_ble_eq_true rfl) dX11_number_73 rfl (by simp) (fun x20 M19 => (show G _ _ _ _ _ _ [.int x20, .int (10 * x18), .int p1, rv κ q16] _ from ?_))
          refine G_iadd dX11_number_76 ?_
          refine G_bipush (v := 48) dX11_number_77 (by decide) ?_
          refine G_isub dX11_number_79 ?_
          refine G_iast dX11_number_80 (fun M21 => ?_)
          refine G_aload_n dX11_number_81 0 rfl rfl ?_
          refine G_dup dX11_number_82 (rv_cat _ _) ?_
          refine G_getI cf_X11 (j := 14) rfl w_931 dX11_number_83 (fun x22 => ?_)
          refine G_iconst (v := 1) dX11_number_86 (by decide) ?_
          refine G_iadd dX11_number_87 ?_
          refine G_putI cf_X11 (j := 14) rfl rfl w_931 (Or.inl rfl) dX11_number_88 (fun M23 => ?_)
          refine G_iinc (v := (a9.1 + 1)) (lv' := [(2, .int (a9.1 + 1)), (0, rv κ this), (1, .int p1)]) dX11_number_91 2 rfl (congrArg (fun z9 : Int32 => a9.1 + z9) (by decide : Int32.ofInt 1 = 1)) (Nat.le_of_ble_eq_true rfl) rfl ?_
          refine G_goto (tgt := 32) dX11_number_94 (by decide) ?_
          exact G.sub [1, 2, 0] rfl (hL32_8 _)
  · intro J23_4 hJ23_4
    refine G_if_ne (tgt := 23) dX11_number_11 (by decide) ?_ ?_
    · exact G.sub [0, 1] rfl (hJ23_4 _)
    · refine G_aload_n dX11_number_14 0 rfl rfl ?_
      refine G_iconst (v := 3) dX11_number_15 (by decide) ?_
      refine G_aload_n dX11_number_16 0 rfl rfl ?_
      refine G_getI cf_X11 (j := 14) rfl w_931 dX11_number_17 (fun x24 => ?_)
      refine G_callV cf_X11 ok_X11_fails [.int 3, .int x24] [] (con_X11_fails κ M3 this 3 x24) rfl w_1072 w_1074 wp_16 (Nat.le_of_ble_eq_true rfl) (Nat.le_of_ble_eq_true rfl) dX11_number_20 rfl (by simp) (fun _u M25 => (show G _ _ _ _ _ _ [] _ from ?_))
      exact G.sub [0, 1] rfl (hJ23_4 _)
def m_X11_isWord (M : Mem) (this : Option Nat) (p1 : Int32) (p2 : Int32) (p3 : Int32) (p4 : Int32) (p5 : Int32) (p6 : Int32) : Option (Int32 × Mem) :=
  jn (fun (x2 : Int32) (M3 : Mem) => (if p2 ≠ x2 then rtZ 0 M3 else dP M3 11 5 this (fun (q4 : Option Nat) => aI M3 100 q4 p1 (fun (x5 : Int32) => (if x5 ≠ p3 then rtZ 0 M3 else dP M3 11 5 this (fun (q6 : Option Nat) => aI M3 100 q6 ((p1 + 1)) (fun (x7 : Int32) => (if x7 ≠ p4 then rtZ 0 M3 else dP M3 11 5 this (fun (q8 : Option Nat) => aI M3 100 q8 ((p1 + 2)) (fun (x9 : Int32) => (if x9 ≠ p5 then rtZ 0 M3 else (if p6 = 0 then rtZ 1 M3 else dP M3 11 5 this (fun (q10 : Option Nat) => aI M3 100 q10 ((p1 + 3)) (fun (x11 : Int32) => (if x11 ≠ p6 then rtZ 0 M3 else rtZ 1 M3))))))))))))))) (fun (J11_0 : Int32 → Mem → Option (Int32 × Mem)) => (if p6 ≠ 0 then J11_0 4 M else J11_0 3 M))
abbrev md_X11_isWord : MD := (RX11, yX11_isWord, cX11_isWord, 7, Option.some Jvm.ClassFile.FieldType.boolean, 0, 0)
theorem ok_X11_isWord : MOk md_X11_isWord 6 := ⟨by decide +kernel, w_1063, w_11, ⟨by decide +kernel, by decide +kernel⟩, by decide +kernel, rfl⟩
set_option maxRecDepth 100000 in
set_option maxHeartbeats 4000000 in
theorem con_X11_isWord (κ : Cfg) (M : Mem) (this : Option Nat) (p1 : Int32) (p2 : Int32) (p3 : Int32) (p4 : Int32) (p5 : Int32) (p6 : Int32) : Con κ md_X11_isWord [rv κ this, .int p1, .int p2, .int p3, .int p4, .int p5, .int p6] M cvI (m_X11_isWord M this p1 p2 p3 p4 p5 p6) := by
  refine Con.of ok_X11_isWord (ret_Z rfl) (by
    intro v hv
    simp only [List.mem_cons, List.not_mem_nil, or_false] at hv
    rcases hv with rfl | rfl | rfl | rfl | rfl | rfl | rfl <;> first | rfl | exact rv_cat _ _) (Nat.le_of_ble_eq_true rfl) ?_
  unfold m_X11_isWord
  refine G.sub (lv' := [(0, rv κ this), (1, .int p1), (2, .int p2), (3, .int p3), (4, .int p4), (5, .int p5), (6, .int p6)]) [0, 1, 2, 3, 4, 5, 6] rfl ?_
  refine G_iload_n dX11_isWord_0 2 rfl rfl ?_
  refine G_iload dX11_isWord_1 6 rfl ?_
  refine G.jn (P := (fun (J : Int32 → Mem → Option (Int32 × Mem)) => ∀ (x2 : Int32) (M3 : Mem), G κ md_X11_isWord cvI (J x2 M3) 11 [(0, rv κ this), (1, .int p1), (3, .int p3), (4, .int p4), (5, .int p5), (6, .int p6)] [.int x2, .int p2] M3)) ?_ ?_
  · intro x2 M3
    refine G_icmp_ne (tgt := 72) dX11_isWord_11 (by decide) ?_ ?_
    · refine G_iconst (v := 0) dX11_isWord_72 (by decide) ?_
      exact G_retZ dX11_isWord_73
    · refine G_aload_n dX11_isWord_14 0 rfl rfl ?_
      refine G_getP cf_X11 (j := 5) rfl w_922 dX11_isWord_15 (fun q4 => ?_)
      refine G_iload_n dX11_isWord_18 1 rfl rfl ?_
      refine G_iald dX11_isWord_19 (fun x5 => ?_)
      refine G_iload_n dX11_isWord_20 2 rfl rfl ?_
      refine G_icmp_ne (tgt := 72) dX11_isWord_21 (by decide) ?_ ?_
      · refine G_iconst (v := 0) dX11_isWord_72 (by decide) ?_
        exact G_retZ dX11_isWord_73
      · refine G_aload_n dX11_isWord_24 0 rfl rfl ?_
        refine G_getP cf_X11 (j := 5) rfl w_922 dX11_isWord_25 (fun q6 => ?_)
        refine G_iload_n dX11_isWord_28 1 rfl rfl ?_
        refine G_iconst (v := 1) dX11_isWord_29 (by decide) ?_
        refine G_iadd dX11_isWord_30 ?_
        refine G_iald dX11_isWord_31 (fun x7 => ?_)
        refine G_iload dX11_isWord_32 3 rfl ?_
        refine G_icmp_ne (tgt := 72) dX11_isWord_34 (by decide) ?_ ?_
        · refine G_iconst (v := 0) dX11_isWord_72 (by decide) ?_
          exact G_retZ dX11_isWord_73
        · refine G_aload_n dX11_isWord_37 0 rfl rfl ?_
          refine G_getP cf_X11 (j := 5) rfl w_922 dX11_isWord_38 (fun q8 => ?_)
          refine G_iload_n dX11_isWord_41 1 rfl rfl ?_
          refine G_iconst (v := 2) dX11_isWord_42 (by decide) ?_
          refine G_iadd dX11_isWord_43 ?_
          refine G_iald dX11_isWord_44 (fun x9 => ?_)
          refine G_iload dX11_isWord_45 4 rfl ?_
          refine G_icmp_ne (tgt := 72) dX11_isWord_47 (by decide) ?_ ?_
          · refine G_iconst (v := 0) dX11_isWord_72 (by decide) ?_
            exact G_retZ dX11_isWord_73
          · refine G_iload dX11_isWord_50 5 rfl ?_
            refine G_if_eq (tgt := 68) dX11_isWord_52 (by decide) ?_ ?_
            · refine G_iconst (v := 1) dX11_isWord_68 (by decide) ?_
              refine G_goto (tgt := 73) dX11_isWord_69 (by decide) ?_
              exact G_retZ dX11_isWord_73
            · refine G_aload_n dX11_isWord_55 0 rfl rfl ?_
              refine G_getP cf_X11 (j := 5) rfl w_922 dX11_isWord_56 (fun q10 => ?_)
              refine G_iload_n dX11_isWord_59 1 rfl rfl ?_
              refine G_iconst (v := 3) dX11_isWord_60 (by decide) ?_
              refine G_iadd dX11_isWord_61 ?_
              refine G_iald dX11_isWord_62 (fun x11 => ?_)
              refine G_iload dX11_isWord_63 5 rfl ?_
              refine G_icmp_ne (tgt := 72) dX11_isWord_65 (by decide) ?_ ?_
              · refine G_iconst (v := 0) dX11_isWord_72 (by decide) ?_
                exact G_retZ dX11_isWord_73
              · refine G_iconst (v := 1) dX11_isWord_68 (by decide) ?_
                refine G_goto (tgt := 73) dX11_isWord_69 (by decide) ?_
                exact G_retZ dX11_isWord_73
  · intro J11_0 hJ11_0
    refine G_if_ne (tgt := 10) dX11_isWord_3 (by decide) ?_ ?_
    · refine G_iconst (v := 4) dX11_isWord_10 (by decide) ?_
      exact G.sub [0, 1, 3, 4, 5, 6] rfl (hJ11_0 _ _)
    · refine G_iconst (v := 3) dX11_isWord_6 (by decide) ?_
      refine G_goto (tgt := 11) dX11_isWord_7 (by decide) ?_
      exact G.sub [0, 1, 3, 4, 5, 6] rfl (hJ11_0 _ _)
def m_X11_ranges (M : Mem) (this : Option Nat) (p1 : Int32) (p2 : Int32) (p3 : Int32) : Option (Unit × Mem) :=
  dP M 11 19 this (fun (q1 : Option Nat) => aI M 100 q1 p1 (fun (x2 : Int32) => cl (m_X11_in M x2 p2 p3) (fun (x4 : Int32) (M3 : Mem) => (if x4 ≠ 0 then rt () M3 else dP M3 11 19 this (fun (q5 : Option Nat) => aI M3 100 q5 p1 (fun (x6 : Int32) => rc M3 11 this (cl (m_X11_fails M3 this 4 x6) (fun (_u : Unit) (M7 : Mem) => rt () M7))))))))
abbrev md_X11_ranges : MD := (RX11, yX11_ranges, cX11_ranges, 4, Option.none, 1, 22)
theorem ok_X11_ranges : MOk md_X11_ranges 3 := ⟨by decide +kernel, w_1083, w_11, ⟨by decide +kernel, by decide +kernel⟩, by decide +kernel, rfl⟩
set_option maxRecDepth 100000 in
set_option maxHeartbeats 4000000 in
theorem con_X11_ranges (κ : Cfg) (M : Mem) (this : Option Nat) (p1 : Int32) (p2 : Int32) (p3 : Int32) : Con κ md_X11_ranges [rv κ this, .int p1, .int p2, .int p3] M cvV (m_X11_ranges M this p1 p2 p3) := by
  refine Con.of ok_X11_ranges (ret_V rfl) (by
    intro v hv
    simp only [List.mem_cons, List.not_mem_nil, or_false] at hv
    rcases hv with rfl | rfl | rfl | rfl <;> first | rfl | exact rv_cat _ _) (Nat.le_of_ble_eq_true rfl) ?_
  unfold m_X11_ranges
  refine G.sub (lv' := [(0, rv κ this), (1, .int p1), (2, .int p2), (3, .int p3)]) [0, 1, 2, 3] rfl ?_
  refine G_aload_n dX11_ranges_0 0 rfl rfl ?_
  refine G_getP cf_X11 (j := 19) rfl w_936 dX11_ranges_1 (fun q1 => ?_)
  refine G_iload_n dX11_ranges_4 1 rfl rfl ?_
  refine G_iald dX11_ranges_5 (fun x2 => ?_)
  refine G_iload_n dX11_ranges_6 2 rfl rfl ?_
  refine G_iload_n dX11_ranges_7 3 rfl rfl ?_
  refine G_callS ok_X11_in [.int x2, .int p2, .int p3] [] (con_X11_in κ M x2 p2 p3) rfl w_993 w_994 (Nat.le_of_ble_eq_true rfl) (Nat.le_of_ble_eq_true rfl) dX11_ranges_8 rfl (by simp) (fun x4 M3 => (show G _ _ _ _ _ _ [.int x4] _ from ?_))
  refine G_if_ne (tgt := 25) dX11_ranges_11 (by decide) ?_ ?_
  · exact G_ret (v := ()) dX11_ranges_25 (fun h => by cases h) rfl
  · refine G_aload_n dX11_ranges_14 0 rfl rfl ?_
    refine G_iconst (v := 4) dX11_ranges_15 (by decide) ?_
    refine G_aload_n dX11_ranges_16 0 rfl rfl ?_
    refine G_getP cf_X11 (j := 19) rfl w_936 dX11_ranges_17 (fun q5 => ?_)
    refine G_iload_n dX11_ranges_20 1 rfl rfl ?_
    refine G_iald dX11_ranges_21 (fun x6 => ?_)
    refine G_callV cf_X11 ok_X11_fails [.int 4, .int x6] [] (con_X11_fails κ M3 this 4 x6) rfl w_1072 w_1074 wp_16 (Nat.le_of_ble_eq_true rfl) (Nat.le_of_ble_eq_true rfl) dX11_ranges_22 rfl (by simp) (fun _u M7 => (show G _ _ _ _ _ _ [] _ from ?_))
    exact G_ret (v := ()) dX11_ranges_25 (fun h => by cases h) rfl
def b_X11_band_158 (this : Option Nat) (L158_20 : (Int32 × Mem) → Option (Unit × Mem)) (a21 : Int32 × Mem) : Option (Unit × Mem) :=
  (if 3 ≤ a21.1 then dI a21.2 11 20 this (fun (x23 : Int32) => pI a21.2 11 20 this ((x23 + 1)) (fun (M24 : Mem) => rt () M24)) else dP a21.2 11 18 this (fun (q25 : Option Nat) => dI a21.2 11 20 this (fun (x26 : Int32) => dP a21.2 11 19 this (fun (q27 : Option Nat) => aI a21.2 100 q27 a21.1 (fun (x28 : Int32) => sI a21.2 100 q25 (((5 + (3 * x26)) + a21.1)) x28 (fun (M29 : Mem) => L158_20 ((a21.1 + 1), M29)))))))
def m_X11_band (M : Mem) (this : Option Nat) : Option (Unit × Mem) :=
  rc M 11 this (cl (m_X11_must M this 32) (fun (_u : Unit) (M1 : Mem) => rc M1 11 this (cl (m_X11_number M1 this 0) (fun (_u : Unit) (M2 : Mem) => rc M2 11 this (cl (m_X11_must M2 this 44) (fun (_u : Unit) (M3 : Mem) => rc M3 11 this (cl (m_X11_number M3 this 1) (fun (_u : Unit) (M4 : Mem) => rc M4 11 this (cl (m_X11_must M4 this 44) (fun (_u : Unit) (M5 : Mem) => rc M5 11 this (cl (m_X11_number M5 this 2) (fun (_u : Unit) (M6 : Mem) => rc M6 11 this (cl (m_X11_ranges M6 this 0 0 1439) (fun (_u : Unit) (M7 : Mem) => rc M7 11 this (cl (m_X11_ranges M7 this 1 0 999) (fun (_u : Unit) (M8 : Mem) => rc M8 11 this (cl (m_X11_ranges M8 this 2 5 240) (fun (_u : Unit) (M9 : Mem) => dI M9 11 20 this (fun (x10 : Int32) => jn (fun (x12 : Int32) (M13 : Mem) => jn (fun (x15 : Int32) (M16 : Mem) => dI M16 11 20 this (fun (x17 : Int32) => jn (fun (M19 : Mem) => dI M19 11 16 this (fun (x20 : Int32) => (if x20 ≤ 0 then lp (b_X11_band_158 this) FU (0, M19) else rt () M19))) (fun (J148_17 : Mem → Option (Unit × Mem)) => jn (fun (M31 : Mem) => dP M31 11 19 this (fun (q32 : Option Nat) => aI M31 100 q32 0 (fun (x33 : Int32) => rc M31 11 this (cl (m_X11_fails M31 this 4 x33) (fun (_u : Unit) (M34 : Mem) => J148_17 M34))))) (fun (J137_29 : Mem → Option (Unit × Mem)) => (if x17 = 6 then J137_29 M16 else (if x15 ≠ 0 then J148_17 M16 else J137_29 M16)))))) (fun (J123_13 : Int32 → Mem → Option (Unit × Mem)) => (if x12 = 0 then dP M13 11 19 this (fun (q35 : Option Nat) => aI M13 100 q35 0 (fun (x36 : Int32) => dP M13 11 18 this (fun (q37 : Option Nat) => dI M13 11 20 this (fun (x38 : Int32) => aI M13 100 q37 (((5 + (3 * x38)) - 3)) (fun (x39 : Int32) => (if x36 ≤ x39 then J123_13 0 M13 else J123_13 1 M13)))))) else dP M13 11 19 this (fun (q40 : Option Nat) => aI M13 100 q40 0 (fun (x41 : Int32) => (if x41 ≠ 0 then J123_13 0 M13 else J123_13 1 M13)))))) (fun (J72_10 : Int32 → Mem → Option (Unit × Mem)) => (if x10 ≠ 0 then J72_10 0 M9 else J72_10 1 M9)))))))))))))))))))))
abbrev md_X11_band : MD := (RX11, yX11_band, cX11_band, 4, Option.none, 2, 45)
theorem ok_X11_band : MOk md_X11_band 0 := ⟨by decide +kernel, w_1087, w_11, ⟨by decide +kernel, by decide +kernel⟩, by decide +kernel, rfl⟩
set_option maxRecDepth 100000 in
set_option maxHeartbeats 4000000 in
theorem con_X11_band (κ : Cfg) (M : Mem) (this : Option Nat) : Con κ md_X11_band [rv κ this] M cvV (m_X11_band M this) := by
  refine Con.of ok_X11_band (ret_V rfl) (by
    intro v hv
    simp only [List.mem_cons, List.not_mem_nil, or_false] at hv
    subst hv; first | rfl | exact rv_cat _ _) (Nat.le_of_ble_eq_true rfl) ?_
  unfold m_X11_band
  refine G.sub (lv' := [(0, rv κ this)]) [0] rfl ?_
  refine G_aload_n dX11_band_0 0 rfl rfl ?_
  refine G_bipush (v := 32) dX11_band_1 (by decide) ?_
  refine G_callV cf_X11 ok_X11_must [.int 32] [] (con_X11_must κ M this 32) rfl w_1068 w_1070 wp_15 (Nat.le_of_ble_eq_true rfl) (Nat.le_of_ble_eq_true rfl) dX11_band_3 rfl (by simp) (fun _u M1 => (show G _ _ _ _ _ _ [] _ from ?_))
  refine G_aload_n dX11_band_6 0 rfl rfl ?_
  refine G_iconst (v := 0) dX11_band_7 (by decide) ?_
  refine G_callV cf_X11 ok_X11_number [.int 0] [] (con_X11_number κ M1 this 0) rfl w_1076 w_1078 wp_17 (Nat.le_of_ble_eq_true rfl) (Nat.le_of_ble_eq_true rfl) dX11_band_8 rfl (by simp) (fun _u M2 => (show G _ _ _ _ _ _ [] _ from ?_))
  refine G_aload_n dX11_band_11 0 rfl rfl ?_
  refine G_bipush (v := 44) dX11_band_12 (by decide) ?_
  refine G_callV cf_X11 ok_X11_must [.int 44] [] (con_X11_must κ M2 this 44) rfl w_1068 w_1070 wp_15 (Nat.le_of_ble_eq_true rfl) (Nat.le_of_ble_eq_true rfl) dX11_band_14 rfl (by simp) (fun _u M3 => (show G _ _ _ _ _ _ [] _ from ?_))
  refine G_aload_n dX11_band_17 0 rfl rfl ?_
  refine G_iconst (v := 1) dX11_band_18 (by decide) ?_
  refine G_callV cf_X11 ok_X11_number [.int 1] [] (con_X11_number κ M3 this 1) rfl w_1076 w_1078 wp_17 (Nat.le_of_ble_eq_true rfl) (Nat.le_of_ble_eq_true rfl) dX11_band_19 rfl (by simp) (fun _u M4 => (show G _ _ _ _ _ _ [] _ from ?_))
  refine G_aload_n dX11_band_22 0 rfl rfl ?_
  refine G_bipush (v := 44) dX11_band_23 (by decide) ?_
  refine G_callV cf_X11 ok_X11_must [.int 44] [] (con_X11_must κ M4 this 44) rfl w_1068 w_1070 wp_15 (Nat.le_of_ble_eq_true rfl) (Nat.le_of_ble_eq_true rfl) dX11_band_25 rfl (by simp) (fun _u M5 => (show G _ _ _ _ _ _ [] _ from ?_))
  refine G_aload_n dX11_band_28 0 rfl rfl ?_
  refine G_iconst (v := 2) dX11_band_29 (by decide) ?_
  refine G_callV cf_X11 ok_X11_number [.int 2] [] (con_X11_number κ M5 this 2) rfl w_1076 w_1078 wp_17 (Nat.le_of_ble_eq_true rfl) (Nat.le_of_ble_eq_true rfl) dX11_band_30 rfl (by simp) (fun _u M6 => (show G _ _ _ _ _ _ [] _ from ?_))
  refine G_aload_n dX11_band_33 0 rfl rfl ?_
  refine G_iconst (v := 0) dX11_band_34 (by decide) ?_
  refine G_iconst (v := 0) dX11_band_35 (by decide) ?_
  refine G_sipush (v := 1439) dX11_band_36 (by decide) ?_
  refine G_callV cf_X11 ok_X11_ranges [.int 0, .int 0, .int 1439] [] (con_X11_ranges κ M6 this 0 0 1439) rfl w_1080 w_1082 wp_18 (Nat.le_of_ble_eq_true rfl) (Nat.le_of_ble_eq_true rfl) dX11_band_39 rfl (by simp) (fun _u M7 => (show G _ _ _ _ _ _ [] _ from ?_))
  refine G_aload_n dX11_band_42 0 rfl rfl ?_
  refine G_iconst (v := 1) dX11_band_43 (by decide) ?_
  refine G_iconst (v := 0) dX11_band_44 (by decide) ?_
  refine G_sipush (v := 999) dX11_band_45 (by decide) ?_
  refine G_callV cf_X11 ok_X11_ranges [.int 1, .int 0, .int 999] [] (con_X11_ranges κ M7 this 1 0 999) rfl w_1080 w_1082 wp_18 (Nat.le_of_ble_eq_true rfl) (Nat.le_of_ble_eq_true rfl) dX11_band_48 rfl (by simp) (fun _u M8 => (show G _ _ _ _ _ _ [] _ from ?_))
  refine G_aload_n dX11_band_51 0 rfl rfl ?_
  refine G_iconst (v := 2) dX11_band_52 (by decide) ?_
  refine G_iconst (v := 5) dX11_band_53 (by decide) ?_
  refine G_sipush (v := 240) dX11_band_54 (by decide) ?_
  refine G_callV cf_X11 ok_X11_ranges [.int 2, .int 5, .int 240] [] (con_X11_ranges κ M8 this 2 5 240) rfl w_1080 w_1082 wp_18 (Nat.le_of_ble_eq_true rfl) (Nat.le_of_ble_eq_true rfl) dX11_band_57 rfl (by simp) (fun _u M9 => (show G _ _ _ _ _ _ [] _ from ?_))
  refine G_aload_n dX11_band_60 0 rfl rfl ?_
  refine G_getI cf_X11 (j := 20) rfl w_937 dX11_band_61 (fun x10 => ?_)
  refine G.jn (P := (fun (J : Int32 → Mem → Option (Unit × Mem)) => ∀ (x12 : Int32) (M13 : Mem), G κ md_X11_band cvV (J x12 M13) 72 [(0, rv κ this)] [.int x12] M13)) ?_ ?_
  · intro x12 M13
    refine G_istore_n (lv' := [(1, .int x12), (0, rv κ this)]) dX11_band_72 rfl (Nat.le_of_ble_eq_true rfl) rfl ?_
    refine G_iload_n dX11_band_73 0 rfl rfl ?_
    refine G.jn (P := (fun (J : Int32 → Mem → Option (Unit × Mem)) => ∀ (x15 : Int32) (M16 : Mem), G κ md_X11_band cvV (J x15 M16) 123 [(0, rv κ this)] [.int x15] M16)) ?_ ?_
    · intro x15 M16
      refine G_istore_n (lv' := [(2, .int x15), (0, rv κ this)]) dX11_band_123 rfl (Nat.le_of_ble_eq_true rfl) rfl ?_
      refine G_aload_n dX11_band_124 1 rfl rfl ?_
      refine G_getI cf_X11 (j := 20) rfl w_937 dX11_band_125 (fun x17 => ?_)
      refine G_bipush (v := 6) dX11_band_128 (by decide) ?_
      refine G.jn (P := (fun (J : Mem → Option (Unit × Mem)) => ∀ (M19 : Mem), G κ md_X11_band cvV (J M19) 148 [(0, rv κ this)] [] M19)) ?_ ?_
      · intro M19
        refine G_aload_n dX11_band_148 0 rfl rfl ?_
        refine G_getI cf_X11 (j := 16) rfl w_933 dX11_band_149 (fun x20 => ?_)
        refine G_if_le (tgt := 156) dX11_band_152 (by decide) ?_ ?_
        · refine G_iconst (v := 0) dX11_band_156 (by decide) ?_
          refine G_istore_n (lv' := [(3, .int 0), (0, rv κ this)]) dX11_band_157 rfl (Nat.le_of_ble_eq_true rfl) rfl ?_
          refine G.sub (lv' := [(0, rv κ this), (3, .int 0)]) [1, 0] rfl ?_
          refine G.loop (lvf := fun (a21 : Int32 × Mem) => [(0, rv κ this), (3, .int a21.1)]) (mf := fun (a21 : Int32 × Mem) => a21.2) (fun L158_20 hL158_20 a21 => ?_) FU (0, M19)
          unfold b_X11_band_158
          refine G_iload_n dX11_band_158 1 rfl rfl ?_
          refine G_iconst (v := 3) dX11_band_159 (by decide) ?_
          refine G_icmp_ge (tgt := 190) dX11_band_160 (by decide) ?_ ?_
          · refine G_aload_n dX11_band_190 0 rfl rfl ?_
            refine G_dup dX11_band_191 (rv_cat _ _) ?_
            refine G_getI cf_X11 (j := 20) rfl w_937 dX11_band_192 (fun x23 => ?_)
            refine G_iconst (v := 1) dX11_band_195 (by decide) ?_
            refine G_iadd dX11_band_196 ?_
            refine G_putI cf_X11 (j := 20) rfl rfl w_937 (Or.inl rfl) dX11_band_197 (fun M24 => ?_)
            exact G_ret (v := ()) dX11_band_200 (fun h => by cases h) rfl
          · refine G_aload_n dX11_band_163 0 rfl rfl ?_
            refine G_getP cf_X11 (j := 18) rfl w_935 dX11_band_164 (fun q25 => ?_)
            refine G_iconst (v := 5) dX11_band_167 (by decide) ?_
            refine G_iconst (v := 3) dX11_band_168 (by decide) ?_
            refine G_aload_n dX11_band_169 0 rfl rfl ?_
            refine G_getI cf_X11 (j := 20) rfl w_937 dX11_band_170 (fun x26 => ?_)
            refine G_imul dX11_band_173 ?_
            refine G_iadd dX11_band_174 ?_
            refine G_iload_n dX11_band_175 1 rfl rfl ?_
            refine G_iadd dX11_band_176 ?_
            refine G_aload_n dX11_band_177 0 rfl rfl ?_
            refine G_getP cf_X11 (j := 19) rfl w_936 dX11_band_178 (fun q27 => ?_)
            refine G_iload_n dX11_band_181 1 rfl rfl ?_
            refine G_iald dX11_band_182 (fun x28 => ?_)
            refine G_iast dX11_band_183 (fun M29 => ?_)
            refine G_iinc (v := (a21.1 + 1)) (lv' := [(3, .int (a21.1 + 1)), (0, rv κ this)]) dX11_band_184 1 rfl (congrArg (fun z9 : Int32 => a21.1 + z9) (by decide : Int32.ofInt 1 = 1)) (Nat.le_of_ble_eq_true rfl) rfl ?_
            refine G_goto (tgt := 158) dX11_band_187 (by decide) ?_
            exact G.sub [1, 0] rfl (hL158_20 _)
        · exact G_ret (v := ()) dX11_band_155 (fun h => by cases h) rfl
      · intro J148_17 hJ148_17
        refine G.jn (P := (fun (J : Mem → Option (Unit × Mem)) => ∀ (M31 : Mem), G κ md_X11_band cvV (J M31) 137 [(0, rv κ this)] [] M31)) ?_ ?_
        · intro M31
          refine G_aload_n dX11_band_137 0 rfl rfl ?_
          refine G_iconst (v := 4) dX11_band_138 (by decide) ?_
          refine G_aload_n dX11_band_139 0 rfl rfl ?_
          refine G_getP cf_X11 (j := 19) rfl w_936 dX11_band_140 (fun q32 => ?_)
          refine G_iconst (v := 0) dX11_band_143 (by decide) ?_
          refine G_iald dX11_band_144 (fun x33 => ?_)
          refine G_callV cf_X11 ok_X11_fails [.int 4, .int x33] [] (con_X11_fails κ M31 this 4 x33) rfl w_1072 w_1074 wp_16 (Nat.le_of_ble_eq_true rfl) (Nat.le_of_ble_eq_true rfl) dX11_band_145 rfl (by simp) (fun _u M34 => (show G _ _ _ _ _ _ [] _ from ?_))
          exact G.sub [0] rfl (hJ148_17 _)
        · intro J137_29 hJ137_29
          refine G_icmp_eq (tgt := 137) dX11_band_130 (by decide) ?_ ?_
          · exact G.sub [1] rfl (hJ137_29 _)
          · refine G_iload_n dX11_band_133 0 rfl rfl ?_
            refine G_if_ne (tgt := 148) dX11_band_134 (by decide) ?_ ?_
            · exact G.sub [1] rfl (hJ148_17 _)
            · exact G.sub [1] rfl (hJ137_29 _)
    · intro J123_13 hJ123_13
      refine G_if_eq (tgt := 94) dX11_band_74 (by decide) ?_ ?_
      · refine G_aload_n dX11_band_94 1 rfl rfl ?_
        refine G_getP cf_X11 (j := 19) rfl w_936 dX11_band_95 (fun q35 => ?_)
        refine G_iconst (v := 0) dX11_band_98 (by decide) ?_
        refine G_iald dX11_band_99 (fun x36 => ?_)
        refine G_aload_n dX11_band_100 1 rfl rfl ?_
        refine G_getP cf_X11 (j := 18) rfl w_935 dX11_band_101 (fun q37 => ?_)
        refine G_iconst (v := 5) dX11_band_104 (by decide) ?_
        refine G_iconst (v := 3) dX11_band_105 (by decide) ?_
        refine G_aload_n dX11_band_106 1 rfl rfl ?_
        refine G_getI cf_X11 (j := 20) rfl w_937 dX11_band_107 (fun x38 => ?_)
        refine G_imul dX11_band_110 ?_
        refine G_iadd dX11_band_111 ?_
        refine G_iconst (v := 3) dX11_band_112 (by decide) ?_
        refine G_isub dX11_band_113 ?_
        refine G_iald dX11_band_114 (fun x39 => ?_)
        refine G_icmp_le (tgt := 122) dX11_band_115 (by decide) ?_ ?_
        · refine G_iconst (v := 0) dX11_band_122 (by decide) ?_
          exact G.sub [1] rfl (hJ123_13 _ _)
        · refine G_iconst (v := 1) dX11_band_118 (by decide) ?_
          refine G_goto (tgt := 123) dX11_band_119 (by decide) ?_
          exact G.sub [1] rfl (hJ123_13 _ _)
      · refine G_aload_n dX11_band_77 1 rfl rfl ?_
        refine G_getP cf_X11 (j := 19) rfl w_936 dX11_band_78 (fun q40 => ?_)
        refine G_iconst (v := 0) dX11_band_81 (by decide) ?_
        refine G_iald dX11_band_82 (fun x41 => ?_)
        refine G_if_ne (tgt := 90) dX11_band_83 (by decide) ?_ ?_
        · refine G_iconst (v := 0) dX11_band_90 (by decide) ?_
          refine G_goto (tgt := 123) dX11_band_91 (by decide) ?_
          exact G.sub [1] rfl (hJ123_13 _ _)
        · refine G_iconst (v := 1) dX11_band_86 (by decide) ?_
          refine G_goto (tgt := 123) dX11_band_87 (by decide) ?_
          exact G.sub [1] rfl (hJ123_13 _ _)
  · intro J72_10 hJ72_10
    refine G_if_ne (tgt := 71) dX11_band_64 (by decide) ?_ ?_
    · refine G_iconst (v := 0) dX11_band_71 (by decide) ?_
      exact G.sub [0] rfl (hJ72_10 _ _)
    · refine G_iconst (v := 1) dX11_band_67 (by decide) ?_
      refine G_goto (tgt := 72) dX11_band_68 (by decide) ?_
      exact G.sub [0] rfl (hJ72_10 _ _)
def m_X11_amount (M : Mem) (this : Option Nat) (p1 : Int32) (p2 : Int32) : Option (Unit × Mem) :=
  rc M 11 this (cl (m_X11_must M this 32) (fun (_u : Unit) (M1 : Mem) => rc M1 11 this (cl (m_X11_number M1 this 0) (fun (_u : Unit) (M2 : Mem) => rc M2 11 this (cl (m_X11_ranges M2 this 0 0 p2) (fun (_u : Unit) (M3 : Mem) => dI M3 11 16 this (fun (x4 : Int32) => (if x4 ≠ 0 then rt () M3 else dP M3 11 18 this (fun (q5 : Option Nat) => dP M3 11 19 this (fun (q6 : Option Nat) => aI M3 100 q6 0 (fun (x7 : Int32) => sI M3 100 q5 p1 x7 (fun (M8 : Mem) => rt () M8))))))))))))
abbrev md_X11_amount : MD := (RX11, yX11_amount, cX11_amount, 3, Option.none, 2, 45)
theorem ok_X11_amount : MOk md_X11_amount 2 := ⟨by decide +kernel, w_1067, w_11, ⟨by decide +kernel, by decide +kernel⟩, by decide +kernel, rfl⟩
set_option maxRecDepth 100000 in
set_option maxHeartbeats 4000000 in
theorem con_X11_amount (κ : Cfg) (M : Mem) (this : Option Nat) (p1 : Int32) (p2 : Int32) : Con κ md_X11_amount [rv κ this, .int p1, .int p2] M cvV (m_X11_amount M this p1 p2) := by
  refine Con.of ok_X11_amount (ret_V rfl) (by
    intro v hv
    simp only [List.mem_cons, List.not_mem_nil, or_false] at hv
    rcases hv with rfl | rfl | rfl <;> first | rfl | exact rv_cat _ _) (Nat.le_of_ble_eq_true rfl) ?_
  unfold m_X11_amount
  refine G.sub (lv' := [(0, rv κ this), (1, .int p1), (2, .int p2)]) [0, 1, 2] rfl ?_
  refine G_aload_n dX11_amount_0 0 rfl rfl ?_
  refine G_bipush (v := 32) dX11_amount_1 (by decide) ?_
  refine G_callV cf_X11 ok_X11_must [.int 32] [] (con_X11_must κ M this 32) rfl w_1068 w_1070 wp_15 (Nat.le_of_ble_eq_true rfl) (Nat.le_of_ble_eq_true rfl) dX11_amount_3 rfl (by simp) (fun _u M1 => (show G _ _ _ _ _ _ [] _ from ?_))
  refine G_aload_n dX11_amount_6 0 rfl rfl ?_
  refine G_iconst (v := 0) dX11_amount_7 (by decide) ?_
  refine G_callV cf_X11 ok_X11_number [.int 0] [] (con_X11_number κ M1 this 0) rfl w_1076 w_1078 wp_17 (Nat.le_of_ble_eq_true rfl) (Nat.le_of_ble_eq_true rfl) dX11_amount_8 rfl (by simp) (fun _u M2 => (show G _ _ _ _ _ _ [] _ from ?_))
  refine G_aload_n dX11_amount_11 0 rfl rfl ?_
  refine G_iconst (v := 0) dX11_amount_12 (by decide) ?_
  refine G_iconst (v := 0) dX11_amount_13 (by decide) ?_
  refine G_iload_n dX11_amount_14 2 rfl rfl ?_
  refine G_callV cf_X11 ok_X11_ranges [.int 0, .int 0, .int p2] [] (con_X11_ranges κ M2 this 0 0 p2) rfl w_1080 w_1082 wp_18 (Nat.le_of_ble_eq_true rfl) (Nat.le_of_ble_eq_true rfl) dX11_amount_15 rfl (by simp) (fun _u M3 => (show G _ _ _ _ _ _ [] _ from ?_))
  refine G_aload_n dX11_amount_18 0 rfl rfl ?_
  refine G_getI cf_X11 (j := 16) rfl w_933 dX11_amount_19 (fun x4 => ?_)
  refine G_if_ne (tgt := 37) dX11_amount_22 (by decide) ?_ ?_
  · exact G_ret (v := ()) dX11_amount_37 (fun h => by cases h) rfl
  · refine G_aload_n dX11_amount_25 0 rfl rfl ?_
    refine G_getP cf_X11 (j := 18) rfl w_935 dX11_amount_26 (fun q5 => ?_)
    refine G_iload_n dX11_amount_29 1 rfl rfl ?_
    refine G_aload_n dX11_amount_30 0 rfl rfl ?_
    refine G_getP cf_X11 (j := 19) rfl w_936 dX11_amount_31 (fun q6 => ?_)
    refine G_iconst (v := 0) dX11_amount_34 (by decide) ?_
    refine G_iald dX11_amount_35 (fun x7 => ?_)
    refine G_iast dX11_amount_36 (fun M8 => ?_)
    exact G_ret (v := ()) dX11_amount_37 (fun h => by cases h) rfl
def b_X11_clause_5 (this : Option Nat) (J32_1 : Mem → Option (Unit × Mem)) (L5_21 : (Mem) → Option (Unit × Mem)) (a22 : Mem) : Option (Unit × Mem) :=
  rc a22 11 this (cl (m_X11_here a22 this) (fun (x25 : Int32) (M24 : Mem) => cl (m_X11_in M24 x25 97 122) (fun (x27 : Int32) (M26 : Mem) => (if x27 = 0 then J32_1 M26 else dI M26 11 14 this (fun (x28 : Int32) => pI M26 11 14 this ((x28 + 1)) (fun (M29 : Mem) => L5_21 M29))))))
def m_X11_clause (M : Mem) (this : Option Nat) : Option (Unit × Mem) :=
  dI M 11 14 this (fun (x1 : Int32) => jn (fun (M3 : Mem) => dI M3 11 14 this (fun (x4 : Int32) => rc M3 11 this (cl (m_X11_isWord M3 this x1 ((x4 - x1)) 102 114 101 101) (fun (x6 : Int32) (M5 : Mem) => (if x6 = 0 then rc M5 11 this (cl (m_X11_isWord M5 this x1 ((x4 - x1)) 99 97 112 0) (fun (x8 : Int32) (M7 : Mem) => (if x8 = 0 then rc M7 11 this (cl (m_X11_isWord M7 this x1 ((x4 - x1)) 108 111 115 116) (fun (x10 : Int32) (M9 : Mem) => (if x10 = 0 then rc M9 11 this (cl (m_X11_isWord M9 this x1 ((x4 - x1)) 100 97 121 115) (fun (x12 : Int32) (M11 : Mem) => (if x12 = 0 then rc M11 11 this (cl (m_X11_isWord M11 this x1 ((x4 - x1)) 98 97 110 100) (fun (x14 : Int32) (M13 : Mem) => (if x14 = 0 then rc M13 11 this (cl (m_X11_fails M13 this 3 x1) (fun (_u : Unit) (M15 : Mem) => rt () M15)) else rc M13 11 this (cl (m_X11_band M13 this) (fun (_u : Unit) (M16 : Mem) => rt () M16))))) else dP M11 11 18 this (fun (q17 : Option Nat) => sI M11 100 q17 2 1 (fun (M18 : Mem) => rt () M18))))) else rc M9 11 this (cl (m_X11_amount M9 this 3 9999) (fun (_u : Unit) (M19 : Mem) => rt () M19))))) else rc M7 11 this (cl (m_X11_amount M7 this 1 9999) (fun (_u : Unit) (M20 : Mem) => rt () M20))))) else rc M5 11 this (cl (m_X11_amount M5 this 0 60) (fun (_u : Unit) (M21 : Mem) => rt () M21))))))) (fun (J32_1 : Mem → Option (Unit × Mem)) => lp (b_X11_clause_5 this J32_1) FU M))
abbrev md_X11_clause : MD := (RX11, yX11_clause, cX11_clause, 3, Option.none, 3, 68)
theorem ok_X11_clause : MOk md_X11_clause 0 := ⟨by decide +kernel, w_1055, w_11, ⟨by decide +kernel, by decide +kernel⟩, by decide +kernel, rfl⟩
set_option maxRecDepth 100000 in
set_option maxHeartbeats 4000000 in
theorem con_X11_clause (κ : Cfg) (M : Mem) (this : Option Nat) : Con κ md_X11_clause [rv κ this] M cvV (m_X11_clause M this) := by
  refine Con.of ok_X11_clause (ret_V rfl) (by
    intro v hv
    simp only [List.mem_cons, List.not_mem_nil, or_false] at hv
    subst hv; first | rfl | exact rv_cat _ _) (Nat.le_of_ble_eq_true rfl) ?_
  unfold m_X11_clause
  refine G.sub (lv' := [(0, rv κ this)]) [0] rfl ?_
  refine G_aload_n dX11_clause_0 0 rfl rfl ?_
  refine G_getI cf_X11 (j := 14) rfl w_931 dX11_clause_1 (fun x1 => ?_)
  refine G_istore_n (lv' := [(1, .int x1), (0, rv κ this)]) dX11_clause_4 rfl (Nat.le_of_ble_eq_true rfl) rfl ?_
  refine G.jn (P := (fun (J : Mem → Option (Unit × Mem)) => ∀ (M3 : Mem), G κ md_X11_clause cvV (J M3) 32 [(0, rv κ this), (1, .int x1)] [] M3)) ?_ ?_
  · intro M3
    refine G_aload_n dX11_clause_32 0 rfl rfl ?_
    refine G_getI cf_X11 (j := 14) rfl w_931 dX11_clause_33 (fun x4 => ?_)
    refine G_iload_n dX11_clause_36 1 rfl rfl ?_
    refine G_isub dX11_clause_37 ?_
    refine G_istore_n (lv' := [(2, .int (x4 - x1)), (0, rv κ this), (1, .int x1)]) dX11_clause_38 rfl (Nat.le_of_ble_eq_true rfl) rfl ?_
    refine G_aload_n dX11_clause_39 1 rfl rfl ?_
    refine G_iload_n dX11_clause_40 2 rfl rfl ?_
    refine G_iload_n dX11_clause_41 0 rfl rfl ?_
    refine G_bipush (v := 102) dX11_clause_42 (by decide) ?_
    refine G_bipush (v := 114) dX11_clause_44 (by decide) ?_
    refine G_bipush (v := 101) dX11_clause_46 (by decide) ?_
    refine G_bipush (v := 101) dX11_clause_48 (by decide) ?_
    refine G_callV cf_X11 ok_X11_isWord [.int x1, .int (x4 - x1), .int 102, .int 114, .int 101, .int 101] [] (con_X11_isWord κ M3 this x1 ((x4 - x1)) 102 114 101 101) rfl w_1060 w_1062 wp_13 (Nat.le_of_ble_eq_true rfl) (Nat.le_of_ble_eq_true rfl) dX11_clause_50 rfl (by simp) (fun x6 M5 => (show G _ _ _ _ _ _ [.int x6] _ from ?_))
    refine G_if_eq (tgt := 66) dX11_clause_53 (by decide) ?_ ?_
    · refine G_aload_n dX11_clause_66 1 rfl rfl ?_
      refine G_iload_n dX11_clause_67 2 rfl rfl ?_
      refine G_iload_n dX11_clause_68 0 rfl rfl ?_
      refine G_bipush (v := 99) dX11_clause_69 (by decide) ?_
      refine G_bipush (v := 97) dX11_clause_71 (by decide) ?_
      refine G_bipush (v := 112) dX11_clause_73 (by decide) ?_
      refine G_iconst (v := 0) dX11_clause_75 (by decide) ?_
      refine G_callV cf_X11 ok_X11_isWord [.int x1, .int (x4 - x1), .int 99, .int 97, .int 112, .int 0] [] (con_X11_isWord κ M5 this x1 ((x4 - x1)) 99 97 112 0) rfl w_1060 w_1062 wp_13 (Nat.le_of_ble_eq_true rfl) (Nat.le_of_ble_eq_true rfl) dX11_clause_76 rfl (by simp) (fun x8 M7 => (show G _ _ _ _ _ _ [.int x8] _ from ?_))
      refine G_if_eq (tgt := 93) dX11_clause_79 (by decide) ?_ ?_
      · refine G_aload_n dX11_clause_93 1 rfl rfl ?_
        refine G_iload_n dX11_clause_94 2 rfl rfl ?_
        refine G_iload_n dX11_clause_95 0 rfl rfl ?_
        refine G_bipush (v := 108) dX11_clause_96 (by decide) ?_
        refine G_bipush (v := 111) dX11_clause_98 (by decide) ?_
        refine G_bipush (v := 115) dX11_clause_100 (by decide) ?_
        refine G_bipush (v := 116) dX11_clause_102 (by decide) ?_
        refine G_callV cf_X11 ok_X11_isWord [.int x1, .int (x4 - x1), .int 108, .int 111, .int 115, .int 116] [] (con_X11_isWord κ M7 this x1 ((x4 - x1)) 108 111 115 116) rfl w_1060 w_1062 wp_13 (Nat.le_of_ble_eq_true rfl) (Nat.le_of_ble_eq_true rfl) dX11_clause_104 rfl (by simp) (fun x10 M9 => (show G _ _ _ _ _ _ [.int x10] _ from ?_))
        refine G_if_eq (tgt := 121) dX11_clause_107 (by decide) ?_ ?_
        · refine G_aload_n dX11_clause_121 1 rfl rfl ?_
          refine G_iload_n dX11_clause_122 2 rfl rfl ?_
          refine G_iload_n dX11_clause_123 0 rfl rfl ?_
          refine G_bipush (v := 100) dX11_clause_124 (by decide) ?_
          refine G_bipush (v := 97) dX11_clause_126 (by decide) ?_
          refine G_bipush (v := 121) dX11_clause_128 (by decide) ?_
          refine G_bipush (v := 115) dX11_clause_130 (by decide) ?_
          refine G_callV cf_X11 ok_X11_isWord [.int x1, .int (x4 - x1), .int 100, .int 97, .int 121, .int 115] [] (con_X11_isWord κ M9 this x1 ((x4 - x1)) 100 97 121 115) rfl w_1060 w_1062 wp_13 (Nat.le_of_ble_eq_true rfl) (Nat.le_of_ble_eq_true rfl) dX11_clause_132 rfl (by simp) (fun x12 M11 => (show G _ _ _ _ _ _ [.int x12] _ from ?_))
          refine G_if_eq (tgt := 148) dX11_clause_135 (by decide) ?_ ?_
          · refine G_aload_n dX11_clause_148 1 rfl rfl ?_
            refine G_iload_n dX11_clause_149 2 rfl rfl ?_
            refine G_iload_n dX11_clause_150 0 rfl rfl ?_
            refine G_bipush (v := 98) dX11_clause_151 (by decide) ?_
            refine G_bipush (v := 97) dX11_clause_153 (by decide) ?_
            refine G_bipush (v := 110) dX11_clause_155 (by decide) ?_
            refine G_bipush (v := 100) dX11_clause_157 (by decide) ?_
            refine G_callV cf_X11 ok_X11_isWord [.int x1, .int (x4 - x1), .int 98, .int 97, .int 110, .int 100] [] (con_X11_isWord κ M11 this x1 ((x4 - x1)) 98 97 110 100) rfl w_1060 w_1062 wp_13 (Nat.le_of_ble_eq_true rfl) (Nat.le_of_ble_eq_true rfl) dX11_clause_159 rfl (by simp) (fun x14 M13 => (show G _ _ _ _ _ _ [.int x14] _ from ?_))
            refine G_if_eq (tgt := 172) dX11_clause_162 (by decide) ?_ ?_
            · refine G_aload_n dX11_clause_172 1 rfl rfl ?_
              refine G_iconst (v := 3) dX11_clause_173 (by decide) ?_
              refine G_iload_n dX11_clause_174 2 rfl rfl ?_
              refine G_callV cf_X11 ok_X11_fails [.int 3, .int x1] [] (con_X11_fails κ M13 this 3 x1) rfl w_1072 w_1074 wp_16 (Nat.le_of_ble_eq_true rfl) (Nat.le_of_ble_eq_true rfl) dX11_clause_175 rfl (by simp) (fun _u M15 => (show G _ _ _ _ _ _ [] _ from ?_))
              exact G_ret (v := ()) dX11_clause_178 (fun h => by cases h) rfl
            · refine G_aload_n dX11_clause_165 1 rfl rfl ?_
              refine G_callV cf_X11 ok_X11_band [] [] (con_X11_band κ M13 this) rfl w_1084 w_1086 wp_19 (Nat.le_of_ble_eq_true rfl) (Nat.le_of_ble_eq_true rfl) dX11_clause_166 rfl (by simp) (fun _u M16 => (show G _ _ _ _ _ _ [] _ from ?_))
              refine G_goto (tgt := 178) dX11_clause_169 (by decide) ?_
              exact G_ret (v := ()) dX11_clause_178 (fun h => by cases h) rfl
          · refine G_aload_n dX11_clause_138 1 rfl rfl ?_
            refine G_getP cf_X11 (j := 18) rfl w_935 dX11_clause_139 (fun q17 => ?_)
            refine G_iconst (v := 2) dX11_clause_142 (by decide) ?_
            refine G_iconst (v := 1) dX11_clause_143 (by decide) ?_
            refine G_iast dX11_clause_144 (fun M18 => ?_)
            refine G_goto (tgt := 178) dX11_clause_145 (by decide) ?_
            exact G_ret (v := ()) dX11_clause_178 (fun h => by cases h) rfl
        · refine G_aload_n dX11_clause_110 1 rfl rfl ?_
          refine G_iconst (v := 3) dX11_clause_111 (by decide) ?_
          refine G_sipush (v := 9999) dX11_clause_112 (by decide) ?_
          refine G_callV cf_X11 ok_X11_amount [.int 3, .int 9999] [] (con_X11_amount κ M9 this 3 9999) rfl w_1064 w_1066 wp_14 (Nat.le_of_ble_eq_true rfl) (Nat.le_of_ble_eq_true rfl) dX11_clause_115 rfl (by simp) (fun _u M19 => (show G _ _ _ _ _ _ [] _ from ?_))
          refine G_goto (tgt := 178) dX11_clause_118 (by decide) ?_
          exact G_ret (v := ()) dX11_clause_178 (fun h => by cases h) rfl
      · refine G_aload_n dX11_clause_82 1 rfl rfl ?_
        refine G_iconst (v := 1) dX11_clause_83 (by decide) ?_
        refine G_sipush (v := 9999) dX11_clause_84 (by decide) ?_
        refine G_callV cf_X11 ok_X11_amount [.int 1, .int 9999] [] (con_X11_amount κ M7 this 1 9999) rfl w_1064 w_1066 wp_14 (Nat.le_of_ble_eq_true rfl) (Nat.le_of_ble_eq_true rfl) dX11_clause_87 rfl (by simp) (fun _u M20 => (show G _ _ _ _ _ _ [] _ from ?_))
        refine G_goto (tgt := 178) dX11_clause_90 (by decide) ?_
        exact G_ret (v := ()) dX11_clause_178 (fun h => by cases h) rfl
    · refine G_aload_n dX11_clause_56 1 rfl rfl ?_
      refine G_iconst (v := 0) dX11_clause_57 (by decide) ?_
      refine G_bipush (v := 60) dX11_clause_58 (by decide) ?_
      refine G_callV cf_X11 ok_X11_amount [.int 0, .int 60] [] (con_X11_amount κ M5 this 0 60) rfl w_1064 w_1066 wp_14 (Nat.le_of_ble_eq_true rfl) (Nat.le_of_ble_eq_true rfl) dX11_clause_60 rfl (by simp) (fun _u M21 => (show G _ _ _ _ _ _ [] _ from ?_))
      refine G_goto (tgt := 178) dX11_clause_63 (by decide) ?_
      exact G_ret (v := ()) dX11_clause_178 (fun h => by cases h) rfl
  · intro J32_1 hJ32_1
    refine G.sub (lv' := [(0, rv κ this), (1, .int x1)]) [1, 0] rfl ?_
    refine G.loop (lvf := fun (a22 : Mem) => [(0, rv κ this), (1, .int x1)]) (mf := fun (a22 : Mem) => a22) (fun L5_21 hL5_21 a22 => ?_) FU M
    unfold b_X11_clause_5
    refine G_aload_n dX11_clause_5 0 rfl rfl ?_
    refine G_callV cf_X11 ok_X11_here [] [] (con_X11_here κ a22 this) rfl w_1056 w_1058 wp_12 (Nat.le_of_ble_eq_true rfl) (Nat.le_of_ble_eq_true rfl) dX11_clause_6 rfl (by simp) (fun x25 M24 => (show G _ _ _ _ _ _ [.int x25] _ from ?_))
    refine G_bipush (v := 97) dX11_clause_9 (by decide) ?_
    refine G_bipush (v := 122) dX11_clause_11 (by decide) ?_
    refine G_callS ok_X11_in [.int x25, .int 97, .int 122] [] (con_X11_in κ M24 x25 97 122) rfl w_993 w_994 (Nat.le_of_ble_eq_true rfl) (Nat.le_of_ble_eq_true rfl) dX11_clause_13 rfl (by simp) (fun x27 M26 => (show G _ _ _ _ _ _ [.int x27] _ from ?_))
    refine G_if_eq (tgt := 32) dX11_clause_16 (by decide) ?_ ?_
    · exact G.sub [0, 1] rfl (hJ32_1 _)
    · refine G_aload_n dX11_clause_19 0 rfl rfl ?_
      refine G_dup dX11_clause_20 (rv_cat _ _) ?_
      refine G_getI cf_X11 (j := 14) rfl w_931 dX11_clause_21 (fun x28 => ?_)
      refine G_iconst (v := 1) dX11_clause_24 (by decide) ?_
      refine G_iadd dX11_clause_25 ?_
      refine G_putI cf_X11 (j := 14) rfl rfl w_931 (Or.inl rfl) dX11_clause_26 (fun M29 => ?_)
      refine G_goto (tgt := 5) dX11_clause_29 (by decide) ?_
      exact G.sub [0, 1] rfl (hL5_21 _)
def b_X11_reads_24 (this : Option Nat) (J67_5 : Mem → Option (Unit × Mem)) (L24_11 : (Mem) → Option (Unit × Mem)) (a12 : Mem) : Option (Unit × Mem) :=
  dI a12 11 16 this (fun (x14 : Int32) => (if x14 ≠ 0 then J67_5 a12 else rc a12 11 this (cl (m_X11_here a12 this) (fun (x16 : Int32) (M15 : Mem) => (if x16 ≠ 59 then J67_5 M15 else dI M15 11 14 this (fun (x17 : Int32) => pI M15 11 14 this ((x17 + 1)) (fun (M18 : Mem) => dI M18 11 15 this (fun (x19 : Int32) => pI M18 11 15 this ((x19 + 1)) (fun (M20 : Mem) => rc M20 11 this (cl (m_X11_clause M20 this) (fun (_u : Unit) (M21 : Mem) => L24_11 M21)))))))))))
def m_X11_reads (M : Mem) (this : Option Nat) : Option (Unit × Mem) :=
  pI M 11 14 this 0 (fun (M1 : Mem) => pI M1 11 15 this 0 (fun (M2 : Mem) => pI M2 11 16 this 0 (fun (M3 : Mem) => pI M3 11 20 this 0 (fun (M4 : Mem) => rc M4 11 this (cl (m_X11_clause M4 this) (fun (_u : Unit) (M5 : Mem) => jn (fun (M7 : Mem) => dI M7 11 14 this (fun (x8 : Int32) => dI M7 11 6 this (fun (x9 : Int32) => (if x9 ≤ x8 then rt () M7 else dI M7 11 14 this (fun (x10 : Int32) => rc M7 11 this (cl (m_X11_fails M7 this 3 x10) (fun (_u : Unit) (M11 : Mem) => rt () M11))))))) (fun (J67_5 : Mem → Option (Unit × Mem)) => lp (b_X11_reads_24 this J67_5) FU M5)))))))
abbrev md_X11_reads : MD := (RX11, yX11_reads, cX11_reads, 1, Option.none, 4, 90)
theorem ok_X11_reads : MOk md_X11_reads 0 := ⟨by decide +kernel, w_1051, w_11, ⟨by decide +kernel, by decide +kernel⟩, by decide +kernel, rfl⟩
set_option maxRecDepth 100000 in
set_option maxHeartbeats 4000000 in
theorem con_X11_reads (κ : Cfg) (M : Mem) (this : Option Nat) : Con κ md_X11_reads [rv κ this] M cvV (m_X11_reads M this) := by
  refine Con.of ok_X11_reads (ret_V rfl) (by
    intro v hv
    simp only [List.mem_cons, List.not_mem_nil, or_false] at hv
    subst hv; first | rfl | exact rv_cat _ _) (Nat.le_of_ble_eq_true rfl) ?_
  unfold m_X11_reads
  refine G.sub (lv' := [(0, rv κ this)]) [0] rfl ?_
  refine G_aload_n dX11_reads_0 0 rfl rfl ?_
  refine G_iconst (v := 0) dX11_reads_1 (by decide) ?_
  refine G_putI cf_X11 (j := 14) rfl rfl w_931 (Or.inl rfl) dX11_reads_2 (fun M1 => ?_)
  refine G_aload_n dX11_reads_5 0 rfl rfl ?_
  refine G_iconst (v := 0) dX11_reads_6 (by decide) ?_
  refine G_putI cf_X11 (j := 15) rfl rfl w_932 (Or.inl rfl) dX11_reads_7 (fun M2 => ?_)
  refine G_aload_n dX11_reads_10 0 rfl rfl ?_
  refine G_iconst (v := 0) dX11_reads_11 (by decide) ?_
  refine G_putI cf_X11 (j := 16) rfl rfl w_933 (Or.inl rfl) dX11_reads_12 (fun M3 => ?_)
  refine G_aload_n dX11_reads_15 0 rfl rfl ?_
  refine G_iconst (v := 0) dX11_reads_16 (by decide) ?_
  refine G_putI cf_X11 (j := 20) rfl rfl w_937 (Or.inl rfl) dX11_reads_17 (fun M4 => ?_)
  refine G_aload_n dX11_reads_20 0 rfl rfl ?_
  refine G_callV cf_X11 ok_X11_clause [] [] (con_X11_clause κ M4 this) rfl w_1052 w_1054 wp_11 (Nat.le_of_ble_eq_true rfl) (Nat.le_of_ble_eq_true rfl) dX11_reads_21 rfl (by simp) (fun _u M5 => (show G _ _ _ _ _ _ [] _ from ?_))
  refine G.jn (P := (fun (J : Mem → Option (Unit × Mem)) => ∀ (M7 : Mem), G κ md_X11_reads cvV (J M7) 67 [(0, rv κ this)] [] M7)) ?_ ?_
  · intro M7
    refine G_aload_n dX11_reads_67 0 rfl rfl ?_
    refine G_getI cf_X11 (j := 14) rfl w_931 dX11_reads_68 (fun x8 => ?_)
    refine G_aload_n dX11_reads_71 0 rfl rfl ?_
    refine G_getI cf_X11 (j := 6) rfl w_923 dX11_reads_72 (fun x9 => ?_)
    refine G_icmp_ge (tgt := 87) dX11_reads_75 (by decide) ?_ ?_
    · exact G_ret (v := ()) dX11_reads_87 (fun h => by cases h) rfl
    · refine G_aload_n dX11_reads_78 0 rfl rfl ?_
      refine G_iconst (v := 3) dX11_reads_79 (by decide) ?_
      refine G_aload_n dX11_reads_80 0 rfl rfl ?_
      refine G_getI cf_X11 (j := 14) rfl w_931 dX11_reads_81 (fun x10 => ?_)
      refine G_callV cf_X11 ok_X11_fails [.int 3, .int x10] [] (con_X11_fails κ M7 this 3 x10) rfl w_1072 w_1074 wp_16 (Nat.le_of_ble_eq_true rfl) (Nat.le_of_ble_eq_true rfl) dX11_reads_84 rfl (by simp) (fun _u M11 => (show G _ _ _ _ _ _ [] _ from ?_))
      exact G_ret (v := ()) dX11_reads_87 (fun h => by cases h) rfl
  · intro J67_5 hJ67_5
    refine G.sub (lv' := [(0, rv κ this)]) [0] rfl ?_
    refine G.loop (lvf := fun (a12 : Mem) => [(0, rv κ this)]) (mf := fun (a12 : Mem) => a12) (fun L24_11 hL24_11 a12 => ?_) FU M5
    unfold b_X11_reads_24
    refine G_aload_n dX11_reads_24 0 rfl rfl ?_
    refine G_getI cf_X11 (j := 16) rfl w_933 dX11_reads_25 (fun x14 => ?_)
    refine G_if_ne (tgt := 67) dX11_reads_28 (by decide) ?_ ?_
    · exact G.sub [0] rfl (hJ67_5 _)
    · refine G_aload_n dX11_reads_31 0 rfl rfl ?_
      refine G_callV cf_X11 ok_X11_here [] [] (con_X11_here κ a12 this) rfl w_1056 w_1058 wp_12 (Nat.le_of_ble_eq_true rfl) (Nat.le_of_ble_eq_true rfl) dX11_reads_32 rfl (by simp) (fun x16 M15 => (show G _ _ _ _ _ _ [.int x16] _ from ?_))
      refine G_bipush (v := 59) dX11_reads_35 (by decide) ?_
      refine G_icmp_ne (tgt := 67) dX11_reads_37 (by decide) ?_ ?_
      · exact G.sub [0] rfl (hJ67_5 _)
      · refine G_aload_n dX11_reads_40 0 rfl rfl ?_
        refine G_dup dX11_reads_41 (rv_cat _ _) ?_
        refine G_getI cf_X11 (j := 14) rfl w_931 dX11_reads_42 (fun x17 => ?_)
        refine G_iconst (v := 1) dX11_reads_45 (by decide) ?_
        refine G_iadd dX11_reads_46 ?_
        refine G_putI cf_X11 (j := 14) rfl rfl w_931 (Or.inl rfl) dX11_reads_47 (fun M18 => ?_)
        refine G_aload_n dX11_reads_50 0 rfl rfl ?_
        refine G_dup dX11_reads_51 (rv_cat _ _) ?_
        refine G_getI cf_X11 (j := 15) rfl w_932 dX11_reads_52 (fun x19 => ?_)
        refine G_iconst (v := 1) dX11_reads_55 (by decide) ?_
        refine G_iadd dX11_reads_56 ?_
        refine G_putI cf_X11 (j := 15) rfl rfl w_932 (Or.inl rfl) dX11_reads_57 (fun M20 => ?_)
        refine G_aload_n dX11_reads_60 0 rfl rfl ?_
        refine G_callV cf_X11 ok_X11_clause [] [] (con_X11_clause κ M20 this) rfl w_1052 w_1054 wp_11 (Nat.le_of_ble_eq_true rfl) (Nat.le_of_ble_eq_true rfl) dX11_reads_61 rfl (by simp) (fun _u M21 => (show G _ _ _ _ _ _ [] _ from ?_))
        refine G_goto (tgt := 24) dX11_reads_64 (by decide) ?_
        exact G.sub [0] rfl (hL24_11 _)
def m_X11_reports (M : Mem) (this : Option Nat) (p1 : Int32) : Option (Unit × Mem) :=
  pI M 11 8 this 3 (fun (M1 : Mem) => dP M1 11 7 this (fun (q2 : Option Nat) => sI M1 100 q2 0 1 (fun (M3 : Mem) => dP M3 11 7 this (fun (q4 : Option Nat) => sI M3 100 q4 1 p1 (fun (M5 : Mem) => dP M5 11 7 this (fun (q6 : Option Nat) => sI M5 100 q6 2 2 (fun (M7 : Mem) => dP M7 11 7 this (fun (q8 : Option Nat) => dI M7 11 15 this (fun (x9 : Int32) => sI M7 100 q8 3 x9 (fun (M10 : Mem) => dP M10 11 7 this (fun (q11 : Option Nat) => dI M10 11 16 this (fun (x12 : Int32) => sI M10 100 q11 4 x12 (fun (M13 : Mem) => dP M13 11 7 this (fun (q14 : Option Nat) => dI M13 11 17 this (fun (x15 : Int32) => sI M13 100 q14 5 x15 (fun (M16 : Mem) => rt () M16))))))))))))))))
abbrev md_X11_reports : MD := (RX11, yX11_reports, cX11_reports, 2, Option.none, 0, 0)
theorem ok_X11_reports : MOk md_X11_reports 1 := ⟨by decide +kernel, w_1091, w_11, ⟨by decide +kernel, by decide +kernel⟩, by decide +kernel, rfl⟩
set_option maxRecDepth 100000 in
set_option maxHeartbeats 4000000 in
theorem con_X11_reports (κ : Cfg) (M : Mem) (this : Option Nat) (p1 : Int32) : Con κ md_X11_reports [rv κ this, .int p1] M cvV (m_X11_reports M this p1) := by
  refine Con.of ok_X11_reports (ret_V rfl) (by
    intro v hv
    simp only [List.mem_cons, List.not_mem_nil, or_false] at hv
    rcases hv with rfl | rfl <;> first | rfl | exact rv_cat _ _) (Nat.le_of_ble_eq_true rfl) ?_
  unfold m_X11_reports
  refine G.sub (lv' := [(0, rv κ this), (1, .int p1)]) [0, 1] rfl ?_
  refine G_aload_n dX11_reports_0 0 rfl rfl ?_
  refine G_iconst (v := 3) dX11_reports_1 (by decide) ?_
  refine G_putI cf_X11 (j := 8) rfl rfl w_925 (Or.inl rfl) dX11_reports_2 (fun M1 => ?_)
  refine G_aload_n dX11_reports_5 0 rfl rfl ?_
  refine G_getP cf_X11 (j := 7) rfl w_924 dX11_reports_6 (fun q2 => ?_)
  refine G_iconst (v := 0) dX11_reports_9 (by decide) ?_
  refine G_iconst (v := 1) dX11_reports_10 (by decide) ?_
  refine G_iast dX11_reports_11 (fun M3 => ?_)
  refine G_aload_n dX11_reports_12 0 rfl rfl ?_
  refine G_getP cf_X11 (j := 7) rfl w_924 dX11_reports_13 (fun q4 => ?_)
  refine G_iconst (v := 1) dX11_reports_16 (by decide) ?_
  refine G_iload_n dX11_reports_17 1 rfl rfl ?_
  refine G_iast dX11_reports_18 (fun M5 => ?_)
  refine G_aload_n dX11_reports_19 0 rfl rfl ?_
  refine G_getP cf_X11 (j := 7) rfl w_924 dX11_reports_20 (fun q6 => ?_)
  refine G_iconst (v := 2) dX11_reports_23 (by decide) ?_
  refine G_iconst (v := 2) dX11_reports_24 (by decide) ?_
  refine G_iast dX11_reports_25 (fun M7 => ?_)
  refine G_aload_n dX11_reports_26 0 rfl rfl ?_
  refine G_getP cf_X11 (j := 7) rfl w_924 dX11_reports_27 (fun q8 => ?_)
  refine G_iconst (v := 3) dX11_reports_30 (by decide) ?_
  refine G_aload_n dX11_reports_31 0 rfl rfl ?_
  refine G_getI cf_X11 (j := 15) rfl w_932 dX11_reports_32 (fun x9 => ?_)
  refine G_iast dX11_reports_35 (fun M10 => ?_)
  refine G_aload_n dX11_reports_36 0 rfl rfl ?_
  refine G_getP cf_X11 (j := 7) rfl w_924 dX11_reports_37 (fun q11 => ?_)
  refine G_iconst (v := 4) dX11_reports_40 (by decide) ?_
  refine G_aload_n dX11_reports_41 0 rfl rfl ?_
  refine G_getI cf_X11 (j := 16) rfl w_933 dX11_reports_42 (fun x12 => ?_)
  refine G_iast dX11_reports_45 (fun M13 => ?_)
  refine G_aload_n dX11_reports_46 0 rfl rfl ?_
  refine G_getP cf_X11 (j := 7) rfl w_924 dX11_reports_47 (fun q14 => ?_)
  refine G_iconst (v := 5) dX11_reports_50 (by decide) ?_
  refine G_aload_n dX11_reports_51 0 rfl rfl ?_
  refine G_getI cf_X11 (j := 17) rfl w_934 dX11_reports_52 (fun x15 => ?_)
  refine G_iast dX11_reports_55 (fun M16 => ?_)
  exact G_ret (v := ()) dX11_reports_56 (fun h => by cases h) rfl
def b_X11_readPlan_131 (this : Option Nat) (p1 : Int32) (L131_20 : (Int32 × Mem) → Option (Int32 × Mem)) (a21 : Int32 × Mem) : Option (Int32 × Mem) :=
  (if 23 ≤ a21.1 then dP a21.2 11 18 this (fun (q23 : Option Nat) => aI a21.2 100 q23 4 (fun (x24 : Int32) => rt x24 a21.2)) else dP a21.2 11 0 this (fun (q25 : Option Nat) => dP a21.2 11 18 this (fun (q26 : Option Nat) => aI a21.2 100 q26 a21.1 (fun (x27 : Int32) => sI a21.2 100 q25 (((10 + (23 * p1)) + a21.1)) x27 (fun (M28 : Mem) => L131_20 ((a21.1 + 1), M28))))))
def b_X11_readPlan_17 (this : Option Nat) (J36_2 : Mem → Option (Int32 × Mem)) (L17_36 : (Int32 × Mem) → Option (Int32 × Mem)) (a37 : Int32 × Mem) : Option (Int32 × Mem) :=
  (if 23 ≤ a37.1 then J36_2 a37.2 else dP a37.2 11 18 this (fun (q39 : Option Nat) => sI a37.2 100 q39 a37.1 0 (fun (M40 : Mem) => L17_36 ((a37.1 + 1), M40))))
def m_X11_readPlan (M : Mem) (this : Option Nat) (p1 : Int32) : Option (Int32 × Mem) :=
  cl (m_X11_isPlan M p1) (fun (x2 : Int32) (M1 : Mem) => (if x2 ≠ 0 then jn (fun (M4 : Mem) => dP M4 11 18 this (fun (q5 : Option Nat) => sI M4 100 q5 3 2000 (fun (M6 : Mem) => dP M6 11 18 this (fun (q7 : Option Nat) => sI M6 100 q7 4 1 (fun (M8 : Mem) => rc M8 11 this (cl (m_X11_reads M8 this) (fun (_u : Unit) (M9 : Mem) => pI M9 11 6 this 0 (fun (M10 : Mem) => dI M10 11 16 this (fun (x11 : Int32) => (if x11 ≤ 0 then dI M10 11 20 this (fun (x12 : Int32) => jn (fun (M14 : Mem) => dP M14 11 18 this (fun (q15 : Option Nat) => dI M14 11 20 this (fun (x16 : Int32) => jn (fun (x18 : Int32) (M19 : Mem) => sI M19 100 q15 4 x18 (fun (M20 : Mem) => lp (b_X11_readPlan_131 this p1) FU (0, M20))) (fun (J128_16 : Int32 → Mem → Option (Int32 × Mem)) => (if x16 ≠ 0 then dI M14 11 20 this (fun (x29 : Int32) => J128_16 x29 M14) else J128_16 1 M14))))) (fun (J108_12 : Mem → Option (Int32 × Mem)) => (if x12 ≠ 0 then J108_12 M10 else dP M10 11 18 this (fun (q30 : Option Nat) => sI M10 100 q30 5 0 (fun (M31 : Mem) => dP M31 11 18 this (fun (q32 : Option Nat) => sI M31 100 q32 6 100 (fun (M33 : Mem) => dP M33 11 18 this (fun (q34 : Option Nat) => sI M33 100 q34 7 60 (fun (M35 : Mem) => J108_12 M35))))))))) else rc M10 11 this (cl (m_X11_reports M10 this p1) (fun (_u : Unit) (M36 : Mem) => rt ((-5)) M36)))))))))))) (fun (J36_2 : Mem → Option (Int32 × Mem)) => lp (b_X11_readPlan_17 this J36_2) FU (0, M1)) else pI M1 11 6 this 0 (fun (M41 : Mem) => rt ((-2)) M41)))
abbrev md_X11_readPlan : MD := (RX11, yX11_readPlan, cX11_readPlan, 3, Option.some Jvm.ClassFile.FieldType.int, 5, 110)
theorem ok_X11_readPlan : MOk md_X11_readPlan 1 := ⟨by decide +kernel, w_1047, w_11, ⟨by decide +kernel, by decide +kernel⟩, by decide +kernel, rfl⟩
set_option maxRecDepth 100000 in
set_option maxHeartbeats 4000000 in
theorem con_X11_readPlan (κ : Cfg) (M : Mem) (this : Option Nat) (p1 : Int32) : Con κ md_X11_readPlan [rv κ this, .int p1] M cvI (m_X11_readPlan M this p1) := by
  refine Con.of ok_X11_readPlan (ret_I rfl) (by
    intro v hv
    simp only [List.mem_cons, List.not_mem_nil, or_false] at hv
    rcases hv with rfl | rfl <;> first | rfl | exact rv_cat _ _) (Nat.le_of_ble_eq_true rfl) ?_
  unfold m_X11_readPlan
  refine G.sub (lv' := [(0, rv κ this), (1, .int p1)]) [0, 1] rfl ?_
  refine G_iload_n dX11_readPlan_0 1 rfl rfl ?_
  refine G_callS ok_X11_isPlan [.int p1] [] (con_X11_isPlan κ M p1) rfl w_990 w_991 (Nat.le_of_ble_eq_true rfl) (Nat.le_of_ble_eq_true rfl) dX11_readPlan_1 rfl (by simp) (fun x2 M1 => (show G _ _ _ _ _ _ [.int x2] _ from ?_))
  refine G_if_ne (tgt := 15) dX11_readPlan_4 (by decide) ?_ ?_
  · refine G_iconst (v := 0) dX11_readPlan_15 (by decide) ?_
    refine G_istore_n (lv' := [(2, .int 0), (0, rv κ this), (1, .int p1)]) dX11_readPlan_16 rfl (Nat.le_of_ble_eq_true rfl) rfl ?_
    refine G.jn (P := (fun (J : Mem → Option (Int32 × Mem)) => ∀ (M4 : Mem), G κ md_X11_readPlan cvI (J M4) 36 [(0, rv κ this), (1, .int p1)] [] M4)) ?_ ?_
    · intro M4
      refine G_aload_n dX11_readPlan_36 0 rfl rfl ?_
      refine G_getP cf_X11 (j := 18) rfl w_935 dX11_readPlan_37 (fun q5 => ?_)
      refine G_iconst (v := 3) dX11_readPlan_40 (by decide) ?_
      refine G_sipush (v := 2000) dX11_readPlan_41 (by decide) ?_
      refine G_iast dX11_readPlan_44 (fun M6 => ?_)
      refine G_aload_n dX11_readPlan_45 0 rfl rfl ?_
      refine G_getP cf_X11 (j := 18) rfl w_935 dX11_readPlan_46 (fun q7 => ?_)
      refine G_iconst (v := 4) dX11_readPlan_49 (by decide) ?_
      refine G_iconst (v := 1) dX11_readPlan_50 (by decide) ?_
      refine G_iast dX11_readPlan_51 (fun M8 => ?_)
      refine G_aload_n dX11_readPlan_52 0 rfl rfl ?_
      refine G_callV cf_X11 ok_X11_reads [] [] (con_X11_reads κ M8 this) rfl w_1048 w_1050 wp_10 (Nat.le_of_ble_eq_true rfl) (Nat.le_of_ble_eq_true rfl) dX11_readPlan_53 rfl (by simp) (fun _u M9 => (show G _ _ _ _ _ _ [] _ from ?_))
      refine G_aload_n dX11_readPlan_56 0 rfl rfl ?_
      refine G_iconst (v := 0) dX11_readPlan_57 (by decide) ?_
      refine G_putI cf_X11 (j := 6) rfl rfl w_923 (Or.inl rfl) dX11_readPlan_58 (fun M10 => ?_)
      refine G_aload_n dX11_readPlan_61 0 rfl rfl ?_
      refine G_getI cf_X11 (j := 16) rfl w_933 dX11_readPlan_62 (fun x11 => ?_)
      refine G_if_le (tgt := 76) dX11_readPlan_65 (by decide) ?_ ?_
      · refine G_aload_n dX11_readPlan_76 0 rfl rfl ?_
        refine G_getI cf_X11 (j := 20) rfl w_937 dX11_readPlan_77 (fun x12 => ?_)
        refine G.jn (P := (fun (J : Mem → Option (Int32 × Mem)) => ∀ (M14 : Mem), G κ md_X11_readPlan cvI (J M14) 108 [(0, rv κ this), (1, .int p1)] [] M14)) ?_ ?_
        · intro M14
          refine G_aload_n dX11_readPlan_108 0 rfl rfl ?_
          refine G_getP cf_X11 (j := 18) rfl w_935 dX11_readPlan_109 (fun q15 => ?_)
          refine G_iconst (v := 4) dX11_readPlan_112 (by decide) ?_
          refine G_aload_n dX11_readPlan_113 0 rfl rfl ?_
          refine G_getI cf_X11 (j := 20) rfl w_937 dX11_readPlan_114 (fun x16 => ?_)
          refine G.jn (P := (fun (J : Int32 → Mem → Option (Int32 × Mem)) => ∀ (x18 : Int32) (M19 : Mem), G κ md_X11_readPlan cvI (J x18 M19) 128 [(0, rv κ this), (1, .int p1)] [.int x18, .int 4, rv κ q15] M19)) ?_ ?_
          · intro x18 M19
            refine G_iast dX11_readPlan_128 (fun M20 => ?_)
            refine G_iconst (v := 0) dX11_readPlan_129 (by decide) ?_
            refine G_istore_n (lv' := [(2, .int 0), (0, rv κ this), (1, .int p1)]) dX11_readPlan_130 rfl (Nat.le_of_ble_eq_true rfl) rfl ?_
            refine G.sub (lv' := [(0, rv κ this), (1, .int p1), (2, .int 0)]) [1, 2, 0] rfl ?_
            refine G.loop (lvf := fun (a21 : Int32 × Mem) => [(0, rv κ this), (1, .int p1), (2, .int a21.1)]) (mf := fun (a21 : Int32 × Mem) => a21.2) (fun L131_20 hL131_20 a21 => ?_) FU (0, M20)
            unfold b_X11_readPlan_131
            refine G_iload_n dX11_readPlan_131 2 rfl rfl ?_
            refine G_bipush (v := 23) dX11_readPlan_132 (by decide) ?_
            refine G_icmp_ge (tgt := 163) dX11_readPlan_134 (by decide) ?_ ?_
            · refine G_aload_n dX11_readPlan_163 0 rfl rfl ?_
              refine G_getP cf_X11 (j := 18) rfl w_935 dX11_readPlan_164 (fun q23 => ?_)
              refine G_iconst (v := 4) dX11_readPlan_167 (by decide) ?_
              refine G_iald dX11_readPlan_168 (fun x24 => ?_)
              exact G_ret (v := x24) dX11_readPlan_169 (fun h => by cases h) rfl
            · refine G_aload_n dX11_readPlan_137 0 rfl rfl ?_
              refine G_getP cf_X11 (j := 0) rfl w_917 dX11_readPlan_138 (fun q25 => ?_)
              refine G_bipush (v := 10) dX11_readPlan_141 (by decide) ?_
              refine G_bipush (v := 23) dX11_readPlan_143 (by decide) ?_
              refine G_iload_n dX11_readPlan_145 1 rfl rfl ?_
              refine G_imul dX11_readPlan_146 ?_
              refine G_iadd dX11_readPlan_147 ?_
              refine G_iload_n dX11_readPlan_148 2 rfl rfl ?_
              refine G_iadd dX11_readPlan_149 ?_
              refine G_aload_n dX11_readPlan_150 0 rfl rfl ?_
              refine G_getP cf_X11 (j := 18) rfl w_935 dX11_readPlan_151 (fun q26 => ?_)
              refine G_iload_n dX11_readPlan_154 2 rfl rfl ?_
              refine G_iald dX11_readPlan_155 (fun x27 => ?_)
              refine G_iast dX11_readPlan_156 (fun M28 => ?_)
              refine G_iinc (v := (a21.1 + 1)) (lv' := [(2, .int (a21.1 + 1)), (0, rv κ this), (1, .int p1)]) dX11_readPlan_157 2 rfl (congrArg (fun z9 : Int32 => a21.1 + z9) (by decide : Int32.ofInt 1 = 1)) (Nat.le_of_ble_eq_true rfl) rfl ?_
              refine G_goto (tgt := 131) dX11_readPlan_160 (by decide) ?_
              exact G.sub [1, 2, 0] rfl (hL131_20 _)
          · intro J128_16 hJ128_16
            refine G_if_ne (tgt := 124) dX11_readPlan_117 (by decide) ?_ ?_
            · refine G_aload_n dX11_readPlan_124 0 rfl rfl ?_
              refine G_getI cf_X11 (j := 20) rfl w_937 dX11_readPlan_125 (fun x29 => ?_)
              exact G.sub [0, 1] rfl (hJ128_16 _ _)
            · refine G_iconst (v := 1) dX11_readPlan_120 (by decide) ?_
              refine G_goto (tgt := 128) dX11_readPlan_121 (by decide) ?_
              exact G.sub [0, 1] rfl (hJ128_16 _ _)
        · intro J108_12 hJ108_12
          refine G_if_ne (tgt := 108) dX11_readPlan_80 (by decide) ?_ ?_
          · exact G.sub [0, 1] rfl (hJ108_12 _)
          · refine G_aload_n dX11_readPlan_83 0 rfl rfl ?_
            refine G_getP cf_X11 (j := 18) rfl w_935 dX11_readPlan_84 (fun q30 => ?_)
            refine G_iconst (v := 5) dX11_readPlan_87 (by decide) ?_
            refine G_iconst (v := 0) dX11_readPlan_88 (by decide) ?_
            refine G_iast dX11_readPlan_89 (fun M31 => ?_)
            refine G_aload_n dX11_readPlan_90 0 rfl rfl ?_
            refine G_getP cf_X11 (j := 18) rfl w_935 dX11_readPlan_91 (fun q32 => ?_)
            refine G_bipush (v := 6) dX11_readPlan_94 (by decide) ?_
            refine G_bipush (v := 100) dX11_readPlan_96 (by decide) ?_
            refine G_iast dX11_readPlan_98 (fun M33 => ?_)
            refine G_aload_n dX11_readPlan_99 0 rfl rfl ?_
            refine G_getP cf_X11 (j := 18) rfl w_935 dX11_readPlan_100 (fun q34 => ?_)
            refine G_bipush (v := 7) dX11_readPlan_103 (by decide) ?_
            refine G_bipush (v := 60) dX11_readPlan_105 (by decide) ?_
            refine G_iast dX11_readPlan_107 (fun M35 => ?_)
            exact G.sub [0, 1] rfl (hJ108_12 _)
      · refine G_aload_n dX11_readPlan_68 0 rfl rfl ?_
        refine G_iload_n dX11_readPlan_69 1 rfl rfl ?_
        refine G_callV cf_X11 ok_X11_reports [.int p1] [] (con_X11_reports κ M10 this p1) rfl w_1088 w_1090 wp_20 (Nat.le_of_ble_eq_true rfl) (Nat.le_of_ble_eq_true rfl) dX11_readPlan_70 rfl (by simp) (fun _u M36 => (show G _ _ _ _ _ _ [] _ from ?_))
        refine G_bipush (v := (-5)) dX11_readPlan_73 (by decide) ?_
        exact G_ret (v := ((-5))) dX11_readPlan_75 (fun h => by cases h) rfl
    · intro J36_2 hJ36_2
      refine G.sub (lv' := [(0, rv κ this), (1, .int p1), (2, .int 0)]) [1, 2, 0] rfl ?_
      refine G.loop (lvf := fun (a37 : Int32 × Mem) => [(0, rv κ this), (1, .int p1), (2, .int a37.1)]) (mf := fun (a37 : Int32 × Mem) => a37.2) (fun L17_36 hL17_36 a37 => ?_) FU (0, M1)
      unfold b_X11_readPlan_17
      refine G_iload_n dX11_readPlan_17 2 rfl rfl ?_
      refine G_bipush (v := 23) dX11_readPlan_18 (by decide) ?_
      refine G_icmp_ge (tgt := 36) dX11_readPlan_20 (by decide) ?_ ?_
      · exact G.sub [0, 1] rfl (hJ36_2 _)
      · refine G_aload_n dX11_readPlan_23 0 rfl rfl ?_
        refine G_getP cf_X11 (j := 18) rfl w_935 dX11_readPlan_24 (fun q39 => ?_)
        refine G_iload_n dX11_readPlan_27 2 rfl rfl ?_
        refine G_iconst (v := 0) dX11_readPlan_28 (by decide) ?_
        refine G_iast dX11_readPlan_29 (fun M40 => ?_)
        refine G_iinc (v := (a37.1 + 1)) (lv' := [(2, .int (a37.1 + 1)), (0, rv κ this), (1, .int p1)]) dX11_readPlan_30 2 rfl (congrArg (fun z9 : Int32 => a37.1 + z9) (by decide : Int32.ofInt 1 = 1)) (Nat.le_of_ble_eq_true rfl) rfl ?_
        refine G_goto (tgt := 17) dX11_readPlan_33 (by decide) ?_
        exact G.sub [1, 2, 0] rfl (hL17_36 _)
  · refine G_aload_n dX11_readPlan_7 0 rfl rfl ?_
    refine G_iconst (v := 0) dX11_readPlan_8 (by decide) ?_
    refine G_putI cf_X11 (j := 6) rfl rfl w_923 (Or.inl rfl) dX11_readPlan_9 (fun M41 => ?_)
    refine G_bipush (v := (-2)) dX11_readPlan_12 (by decide) ?_
    exact G_ret (v := ((-2))) dX11_readPlan_14 (fun h => by cases h) rfl
def m_X11_plan (M : Mem) (this : Option Nat) (p1 : Int32) (p2 : Int32) : Option (Int32 × Mem) :=
  cl (m_X11_isPlan M p1) (fun (x2 : Int32) (M1 : Mem) => (if x2 = 0 then rt ((-2)) M1 else cl (m_X11_in M1 p2 0 4) (fun (x4 : Int32) (M3 : Mem) => (if x4 = 0 then rt ((-2)) M3 else rc M3 11 this (cl (m_X11_of M3 this p1 p2) (fun (x6 : Int32) (M5 : Mem) => rt x6 M5))))))
abbrev md_X11_plan : MD := (RX11, yX11_plan, cX11_plan, 3, Option.some Jvm.ClassFile.FieldType.int, 2, 42)
theorem ok_X11_plan : MOk md_X11_plan 2 := ⟨by decide +kernel, w_1095, w_11, ⟨by decide +kernel, by decide +kernel⟩, by decide +kernel, rfl⟩
set_option maxRecDepth 100000 in
set_option maxHeartbeats 4000000 in
theorem con_X11_plan (κ : Cfg) (M : Mem) (this : Option Nat) (p1 : Int32) (p2 : Int32) : Con κ md_X11_plan [rv κ this, .int p1, .int p2] M cvI (m_X11_plan M this p1 p2) := by
  refine Con.of ok_X11_plan (ret_I rfl) (by
    intro v hv
    simp only [List.mem_cons, List.not_mem_nil, or_false] at hv
    rcases hv with rfl | rfl | rfl <;> first | rfl | exact rv_cat _ _) (Nat.le_of_ble_eq_true rfl) ?_
  unfold m_X11_plan
  refine G.sub (lv' := [(0, rv κ this), (1, .int p1), (2, .int p2)]) [0, 1, 2] rfl ?_
  refine G_iload_n dX11_plan_0 1 rfl rfl ?_
  refine G_callS ok_X11_isPlan [.int p1] [] (con_X11_isPlan κ M p1) rfl w_990 w_991 (Nat.le_of_ble_eq_true rfl) (Nat.le_of_ble_eq_true rfl) dX11_plan_1 rfl (by simp) (fun x2 M1 => (show G _ _ _ _ _ _ [.int x2] _ from ?_))
  refine G_if_eq (tgt := 25) dX11_plan_4 (by decide) ?_ ?_
  · refine G_bipush (v := (-2)) dX11_plan_25 (by decide) ?_
    exact G_ret (v := ((-2))) dX11_plan_27 (fun h => by cases h) rfl
  · refine G_iload_n dX11_plan_7 2 rfl rfl ?_
    refine G_iconst (v := 0) dX11_plan_8 (by decide) ?_
    refine G_iconst (v := 4) dX11_plan_9 (by decide) ?_
    refine G_callS ok_X11_in [.int p2, .int 0, .int 4] [] (con_X11_in κ M1 p2 0 4) rfl w_993 w_994 (Nat.le_of_ble_eq_true rfl) (Nat.le_of_ble_eq_true rfl) dX11_plan_10 rfl (by simp) (fun x4 M3 => (show G _ _ _ _ _ _ [.int x4] _ from ?_))
    refine G_if_eq (tgt := 25) dX11_plan_13 (by decide) ?_ ?_
    · refine G_bipush (v := (-2)) dX11_plan_25 (by decide) ?_
      exact G_ret (v := ((-2))) dX11_plan_27 (fun h => by cases h) rfl
    · refine G_aload_n dX11_plan_16 0 rfl rfl ?_
      refine G_iload_n dX11_plan_17 1 rfl rfl ?_
      refine G_iload_n dX11_plan_18 2 rfl rfl ?_
      refine G_callV cf_X11 ok_X11_of [.int p1, .int p2] [] (con_X11_of κ M3 this p1 p2) rfl w_1004 w_1006 wp_3 (Nat.le_of_ble_eq_true rfl) (Nat.le_of_ble_eq_true rfl) dX11_plan_19 rfl (by simp) (fun x6 M5 => (show G _ _ _ _ _ _ [.int x6] _ from ?_))
      refine G_goto (tgt := 27) dX11_plan_22 (by decide) ?_
      exact G_ret (v := x6) dX11_plan_27 (fun h => by cases h) rfl
def m_X11_band_ (M : Mem) (this : Option Nat) (p1 : Int32) (p2 : Int32) (p3 : Int32) : Option (Int32 × Mem) :=
  cl (m_X11_isPlan M p1) (fun (x2 : Int32) (M1 : Mem) => (if x2 = 0 then rt ((-2)) M1 else cl (m_X11_in M1 p3 0 2) (fun (x4 : Int32) (M3 : Mem) => (if x4 ≠ 0 then rc M3 11 this (cl (m_X11_of M3 this p1 4) (fun (x6 : Int32) (M5 : Mem) => cl (m_X11_in M5 p2 0 ((x6 - 1))) (fun (x8 : Int32) (M7 : Mem) => (if x8 = 0 then rt ((-1)) M7 else rc M7 11 this (cl (m_X11_bandPart M7 this p1 p2 p3) (fun (x10 : Int32) (M9 : Mem) => rt x10 M9)))))) else rt ((-2)) M3))))
abbrev md_X11_band_ : MD := (RX11, yX11_band_, cX11_band_, 4, Option.some Jvm.ClassFile.FieldType.int, 2, 45)
theorem ok_X11_band_ : MOk md_X11_band_ 3 := ⟨by decide +kernel, w_1099, w_11, ⟨by decide +kernel, by decide +kernel⟩, by decide +kernel, rfl⟩
set_option maxRecDepth 100000 in
set_option maxHeartbeats 4000000 in
theorem con_X11_band_ (κ : Cfg) (M : Mem) (this : Option Nat) (p1 : Int32) (p2 : Int32) (p3 : Int32) : Con κ md_X11_band_ [rv κ this, .int p1, .int p2, .int p3] M cvI (m_X11_band_ M this p1 p2 p3) := by
  refine Con.of ok_X11_band_ (ret_I rfl) (by
    intro v hv
    simp only [List.mem_cons, List.not_mem_nil, or_false] at hv
    rcases hv with rfl | rfl | rfl | rfl <;> first | rfl | exact rv_cat _ _) (Nat.le_of_ble_eq_true rfl) ?_
  unfold m_X11_band_
  refine G.sub (lv' := [(0, rv κ this), (1, .int p1), (2, .int p2), (3, .int p3)]) [0, 1, 2, 3] rfl ?_
  refine G_iload_n dX11_band__0 1 rfl rfl ?_
  refine G_callS ok_X11_isPlan [.int p1] [] (con_X11_isPlan κ M p1) rfl w_990 w_991 (Nat.le_of_ble_eq_true rfl) (Nat.le_of_ble_eq_true rfl) dX11_band__1 rfl (by simp) (fun x2 M1 => (show G _ _ _ _ _ _ [.int x2] _ from ?_))
  refine G_if_eq (tgt := 16) dX11_band__4 (by decide) ?_ ?_
  · refine G_bipush (v := (-2)) dX11_band__16 (by decide) ?_
    exact G_ret (v := ((-2))) dX11_band__18 (fun h => by cases h) rfl
  · refine G_iload_n dX11_band__7 3 rfl rfl ?_
    refine G_iconst (v := 0) dX11_band__8 (by decide) ?_
    refine G_iconst (v := 2) dX11_band__9 (by decide) ?_
    refine G_callS ok_X11_in [.int p3, .int 0, .int 2] [] (con_X11_in κ M1 p3 0 2) rfl w_993 w_994 (Nat.le_of_ble_eq_true rfl) (Nat.le_of_ble_eq_true rfl) dX11_band__10 rfl (by simp) (fun x4 M3 => (show G _ _ _ _ _ _ [.int x4] _ from ?_))
    refine G_if_ne (tgt := 19) dX11_band__13 (by decide) ?_ ?_
    · refine G_iload_n dX11_band__19 2 rfl rfl ?_
      refine G_iconst (v := 0) dX11_band__20 (by decide) ?_
      refine G_aload_n dX11_band__21 0 rfl rfl ?_
      refine G_iload_n dX11_band__22 1 rfl rfl ?_
      refine G_iconst (v := 4) dX11_band__23 (by decide) ?_
      refine G_callV cf_X11 ok_X11_of [.int p1, .int 4] [.int 0, .int p2] (con_X11_of κ M3 this p1 4) rfl w_1004 w_1006 wp_3 (Nat.le_of_ble_eq_true rfl) (Nat.le_of_ble_eq_true rfl) dX11_band__24 rfl (by simp) (fun x6 M5 => (show G _ _ _ _ _ _ [.int x6, .int 0, .int p2] _ from ?_))
      refine G_iconst (v := 1) dX11_band__27 (by decide) ?_
      refine G_isub dX11_band__28 ?_
      refine G_callS ok_X11_in [.int p2, .int 0, .int (x6 - 1)] [] (con_X11_in κ M5 p2 0 ((x6 - 1))) rfl w_993 w_994 (Nat.le_of_ble_eq_true rfl) (Nat.le_of_ble_eq_true rfl) dX11_band__29 rfl (by simp) (fun x8 M7 => (show G _ _ _ _ _ _ [.int x8] _ from ?_))
      refine G_if_eq (tgt := 45) dX11_band__32 (by decide) ?_ ?_
      · refine G_iconst (v := (-1)) dX11_band__45 (by decide) ?_
        exact G_ret (v := ((-1))) dX11_band__46 (fun h => by cases h) rfl
      · refine G_aload_n dX11_band__35 0 rfl rfl ?_
        refine G_iload_n dX11_band__36 1 rfl rfl ?_
        refine G_iload_n dX11_band__37 2 rfl rfl ?_
        refine G_iload_n dX11_band__38 3 rfl rfl ?_
        refine G_callV cf_X11 ok_X11_bandPart [.int p1, .int p2, .int p3] [] (con_X11_bandPart κ M7 this p1 p2 p3) rfl w_1028 w_1030 wp_9 (Nat.le_of_ble_eq_true rfl) (Nat.le_of_ble_eq_true rfl) dX11_band__39 rfl (by simp) (fun x10 M9 => (show G _ _ _ _ _ _ [.int x10] _ from ?_))
        refine G_goto (tgt := 46) dX11_band__42 (by decide) ?_
        exact G_ret (v := x10) dX11_band__46 (fun h => by cases h) rfl
    · refine G_bipush (v := (-2)) dX11_band__16 (by decide) ?_
      exact G_ret (v := ((-2))) dX11_band__18 (fun h => by cases h) rfl
def m_X11_isVoucher (M : Mem) (this : Option Nat) (p1 : Int32) : Option (Int32 × Mem) :=
  dP M 11 0 this (fun (q1 : Option Nat) => aI M 100 q1 9 (fun (x2 : Int32) => cl (m_X11_in M p1 0 ((x2 - 1))) (fun (x4 : Int32) (M3 : Mem) => rtZ x4 M3)))
abbrev md_X11_isVoucher : MD := (RX11, yX11_isVoucher, cX11_isVoucher, 2, Option.some Jvm.ClassFile.FieldType.boolean, 1, 22)
theorem ok_X11_isVoucher : MOk md_X11_isVoucher 1 := ⟨by decide +kernel, w_1111, w_11, ⟨by decide +kernel, by decide +kernel⟩, by decide +kernel, rfl⟩
set_option maxRecDepth 100000 in
set_option maxHeartbeats 4000000 in
theorem con_X11_isVoucher (κ : Cfg) (M : Mem) (this : Option Nat) (p1 : Int32) : Con κ md_X11_isVoucher [rv κ this, .int p1] M cvI (m_X11_isVoucher M this p1) := by
  refine Con.of ok_X11_isVoucher (ret_Z rfl) (by
    intro v hv
    simp only [List.mem_cons, List.not_mem_nil, or_false] at hv
    rcases hv with rfl | rfl <;> first | rfl | exact rv_cat _ _) (Nat.le_of_ble_eq_true rfl) ?_
  unfold m_X11_isVoucher
  refine G.sub (lv' := [(0, rv κ this), (1, .int p1)]) [0, 1] rfl ?_
  refine G_iload_n dX11_isVoucher_0 1 rfl rfl ?_
  refine G_iconst (v := 0) dX11_isVoucher_1 (by decide) ?_
  refine G_aload_n dX11_isVoucher_2 0 rfl rfl ?_
  refine G_getP cf_X11 (j := 0) rfl w_917 dX11_isVoucher_3 (fun q1 => ?_)
  refine G_bipush (v := 9) dX11_isVoucher_6 (by decide) ?_
  refine G_iald dX11_isVoucher_8 (fun x2 => ?_)
  refine G_iconst (v := 1) dX11_isVoucher_9 (by decide) ?_
  refine G_isub dX11_isVoucher_10 ?_
  refine G_callS ok_X11_in [.int p1, .int 0, .int (x2 - 1)] [] (con_X11_in κ M p1 0 ((x2 - 1))) rfl w_993 w_994 (Nat.le_of_ble_eq_true rfl) (Nat.le_of_ble_eq_true rfl) dX11_isVoucher_11 rfl (by simp) (fun x4 M3 => (show G _ _ _ _ _ _ [.int x4] _ from ?_))
  exact G_retZ dX11_isVoucher_14
def m_X11_kindOf (M : Mem) (this : Option Nat) (p1 : Int32) : Option (Int32 × Mem) :=
  dP M 11 0 this (fun (q1 : Option Nat) => aI M 100 q1 ((102 + (3 * p1))) (fun (x2 : Int32) => rt x2 M))
abbrev md_X11_kindOf : MD := (RX11, yX11_kindOf, cX11_kindOf, 2, Option.some Jvm.ClassFile.FieldType.int, 0, 0)
theorem ok_X11_kindOf : MOk md_X11_kindOf 1 := ⟨by decide +kernel, w_1127, w_11, ⟨by decide +kernel, by decide +kernel⟩, by decide +kernel, rfl⟩
set_option maxRecDepth 100000 in
set_option maxHeartbeats 4000000 in
theorem con_X11_kindOf (κ : Cfg) (M : Mem) (this : Option Nat) (p1 : Int32) : Con κ md_X11_kindOf [rv κ this, .int p1] M cvI (m_X11_kindOf M this p1) := by
  refine Con.of ok_X11_kindOf (ret_I rfl) (by
    intro v hv
    simp only [List.mem_cons, List.not_mem_nil, or_false] at hv
    rcases hv with rfl | rfl <;> first | rfl | exact rv_cat _ _) (Nat.le_of_ble_eq_true rfl) ?_
  unfold m_X11_kindOf
  refine G.sub (lv' := [(0, rv κ this), (1, .int p1)]) [0, 1] rfl ?_
  refine G_aload_n dX11_kindOf_0 0 rfl rfl ?_
  refine G_getP cf_X11 (j := 0) rfl w_917 dX11_kindOf_1 (fun q1 => ?_)
  refine G_bipush (v := 102) dX11_kindOf_4 (by decide) ?_
  refine G_iconst (v := 3) dX11_kindOf_6 (by decide) ?_
  refine G_iload_n dX11_kindOf_7 1 rfl rfl ?_
  refine G_imul dX11_kindOf_8 ?_
  refine G_iadd dX11_kindOf_9 ?_
  refine G_iald dX11_kindOf_10 (fun x2 => ?_)
  exact G_ret (v := x2) dX11_kindOf_11 (fun h => by cases h) rfl
def m_X11_amountOf (M : Mem) (this : Option Nat) (p1 : Int32) : Option (Int32 × Mem) :=
  dP M 11 0 this (fun (q1 : Option Nat) => aI M 100 q1 (((102 + (3 * p1)) + 1)) (fun (x2 : Int32) => rt x2 M))
abbrev md_X11_amountOf : MD := (RX11, yX11_amountOf, cX11_amountOf, 2, Option.some Jvm.ClassFile.FieldType.int, 0, 0)
theorem ok_X11_amountOf : MOk md_X11_amountOf 1 := ⟨by decide +kernel, w_1216, w_11, ⟨by decide +kernel, by decide +kernel⟩, by decide +kernel, rfl⟩
set_option maxRecDepth 100000 in
set_option maxHeartbeats 4000000 in
theorem con_X11_amountOf (κ : Cfg) (M : Mem) (this : Option Nat) (p1 : Int32) : Con κ md_X11_amountOf [rv κ this, .int p1] M cvI (m_X11_amountOf M this p1) := by
  refine Con.of ok_X11_amountOf (ret_I rfl) (by
    intro v hv
    simp only [List.mem_cons, List.not_mem_nil, or_false] at hv
    rcases hv with rfl | rfl <;> first | rfl | exact rv_cat _ _) (Nat.le_of_ble_eq_true rfl) ?_
  unfold m_X11_amountOf
  refine G.sub (lv' := [(0, rv κ this), (1, .int p1)]) [0, 1] rfl ?_
  refine G_aload_n dX11_amountOf_0 0 rfl rfl ?_
  refine G_getP cf_X11 (j := 0) rfl w_917 dX11_amountOf_1 (fun q1 => ?_)
  refine G_bipush (v := 102) dX11_amountOf_4 (by decide) ?_
  refine G_iconst (v := 3) dX11_amountOf_6 (by decide) ?_
  refine G_iload_n dX11_amountOf_7 1 rfl rfl ?_
  refine G_imul dX11_amountOf_8 ?_
  refine G_iadd dX11_amountOf_9 ?_
  refine G_iconst (v := 1) dX11_amountOf_10 (by decide) ?_
  refine G_iadd dX11_amountOf_11 ?_
  refine G_iald dX11_amountOf_12 (fun x2 => ?_)
  exact G_ret (v := x2) dX11_amountOf_13 (fun h => by cases h) rfl
def m_X11_addVoucher (M : Mem) (this : Option Nat) (p1 : Int32) (p2 : Int32) : Option (Int32 × Mem) :=
  cl (m_X11_in M p1 0 3) (fun (x2 : Int32) (M1 : Mem) => (if x2 = 0 then rt ((-2)) M1 else jn (fun (x4 : Int32) (M5 : Mem) => cl (m_X11_in M5 p2 0 x4) (fun (x7 : Int32) (M6 : Mem) => (if x7 ≠ 0 then dP M6 11 0 this (fun (q8 : Option Nat) => aI M6 100 q8 9 (fun (x9 : Int32) => (if x9 ≠ 10 then dP M6 11 0 this (fun (q10 : Option Nat) => aI M6 100 q10 9 (fun (x11 : Int32) => dP M6 11 0 this (fun (q12 : Option Nat) => sI M6 100 q12 ((102 + (3 * x11))) p1 (fun (M13 : Mem) => dP M13 11 0 this (fun (q14 : Option Nat) => sI M13 100 q14 (((102 + (3 * x11)) + 1)) p2 (fun (M15 : Mem) => dP M15 11 0 this (fun (q16 : Option Nat) => sI M15 100 q16 (((102 + (3 * x11)) + 2)) 0 (fun (M17 : Mem) => dP M17 11 0 this (fun (q18 : Option Nat) => aI M17 100 q18 9 (fun (x19 : Int32) => sI M17 100 q18 9 ((x19 + 1)) (fun (M20 : Mem) => rt x11 M20))))))))))) else rt ((-3)) M6))) else rt ((-2)) M6))) (fun (J24_2 : Int32 → Mem → Option (Int32 × Mem)) => (if p1 ≠ 1 then J24_2 999 M1 else J24_2 100 M1))))
abbrev md_X11_addVoucher : MD := (RX11, yX11_addVoucher, cX11_addVoucher, 4, Option.some Jvm.ClassFile.FieldType.int, 1, 22)
theorem ok_X11_addVoucher : MOk md_X11_addVoucher 2 := ⟨by decide +kernel, w_1103, w_11, ⟨by decide +kernel, by decide +kernel⟩, by decide +kernel, rfl⟩
set_option maxRecDepth 100000 in
set_option maxHeartbeats 4000000 in
theorem con_X11_addVoucher (κ : Cfg) (M : Mem) (this : Option Nat) (p1 : Int32) (p2 : Int32) : Con κ md_X11_addVoucher [rv κ this, .int p1, .int p2] M cvI (m_X11_addVoucher M this p1 p2) := by
  refine Con.of ok_X11_addVoucher (ret_I rfl) (by
    intro v hv
    simp only [List.mem_cons, List.not_mem_nil, or_false] at hv
    rcases hv with rfl | rfl | rfl <;> first | rfl | exact rv_cat _ _) (Nat.le_of_ble_eq_true rfl) ?_
  unfold m_X11_addVoucher
  refine G.sub (lv' := [(0, rv κ this), (1, .int p1), (2, .int p2)]) [0, 1, 2] rfl ?_
  refine G_iload_n dX11_addVoucher_0 1 rfl rfl ?_
  refine G_iconst (v := 0) dX11_addVoucher_1 (by decide) ?_
  refine G_iconst (v := 3) dX11_addVoucher_2 (by decide) ?_
  refine G_callS ok_X11_in [.int p1, .int 0, .int 3] [] (con_X11_in κ M p1 0 3) rfl w_993 w_994 (Nat.le_of_ble_eq_true rfl) (Nat.le_of_ble_eq_true rfl) dX11_addVoucher_3 rfl (by simp) (fun x2 M1 => (show G _ _ _ _ _ _ [.int x2] _ from ?_))
  refine G_if_eq (tgt := 30) dX11_addVoucher_6 (by decide) ?_ ?_
  · refine G_bipush (v := (-2)) dX11_addVoucher_30 (by decide) ?_
    exact G_ret (v := ((-2))) dX11_addVoucher_32 (fun h => by cases h) rfl
  · refine G_iload_n dX11_addVoucher_9 2 rfl rfl ?_
    refine G_iconst (v := 0) dX11_addVoucher_10 (by decide) ?_
    refine G_iload_n dX11_addVoucher_11 1 rfl rfl ?_
    refine G_iconst (v := 1) dX11_addVoucher_12 (by decide) ?_
    refine G.jn (P := (fun (J : Int32 → Mem → Option (Int32 × Mem)) => ∀ (x4 : Int32) (M5 : Mem), G κ md_X11_addVoucher cvI (J x4 M5) 24 [(0, rv κ this), (1, .int p1), (2, .int p2)] [.int x4, .int 0, .int p2] M5)) ?_ ?_
    · intro x4 M5
      refine G_callS ok_X11_in [.int p2, .int 0, .int x4] [] (con_X11_in κ M5 p2 0 x4) rfl w_993 w_994 (Nat.le_of_ble_eq_true rfl) (Nat.le_of_ble_eq_true rfl) dX11_addVoucher_24 rfl (by simp) (fun x7 M6 => (show G _ _ _ _ _ _ [.int x7] _ from ?_))
      refine G_if_ne (tgt := 33) dX11_addVoucher_27 (by decide) ?_ ?_
      · refine G_aload_n dX11_addVoucher_33 0 rfl rfl ?_
        refine G_getP cf_X11 (j := 0) rfl w_917 dX11_addVoucher_34 (fun q8 => ?_)
        refine G_bipush (v := 9) dX11_addVoucher_37 (by decide) ?_
        refine G_iald dX11_addVoucher_39 (fun x9 => ?_)
        refine G_bipush (v := 10) dX11_addVoucher_40 (by decide) ?_
        refine G_icmp_ne (tgt := 48) dX11_addVoucher_42 (by decide) ?_ ?_
        · refine G_aload_n dX11_addVoucher_48 0 rfl rfl ?_
          refine G_getP cf_X11 (j := 0) rfl w_917 dX11_addVoucher_49 (fun q10 => ?_)
          refine G_bipush (v := 9) dX11_addVoucher_52 (by decide) ?_
          refine G_iald dX11_addVoucher_54 (fun x11 => ?_)
          refine G_istore_n (lv' := [(3, .int x11), (0, rv κ this), (1, .int p1), (2, .int p2)]) dX11_addVoucher_55 rfl (Nat.le_of_ble_eq_true rfl) rfl ?_
          refine G_aload_n dX11_addVoucher_56 1 rfl rfl ?_
          refine G_getP cf_X11 (j := 0) rfl w_917 dX11_addVoucher_57 (fun q12 => ?_)
          refine G_bipush (v := 102) dX11_addVoucher_60 (by decide) ?_
          refine G_iconst (v := 3) dX11_addVoucher_62 (by decide) ?_
          refine G_iload_n dX11_addVoucher_63 0 rfl rfl ?_
          refine G_imul dX11_addVoucher_64 ?_
          refine G_iadd dX11_addVoucher_65 ?_
          refine G_iload_n dX11_addVoucher_66 2 rfl rfl ?_
          refine G_iast dX11_addVoucher_67 (fun M13 => ?_)
          refine G_aload_n dX11_addVoucher_68 1 rfl rfl ?_
          refine G_getP cf_X11 (j := 0) rfl w_917 dX11_addVoucher_69 (fun q14 => ?_)
          refine G_bipush (v := 102) dX11_addVoucher_72 (by decide) ?_
          refine G_iconst (v := 3) dX11_addVoucher_74 (by decide) ?_
          refine G_iload_n dX11_addVoucher_75 0 rfl rfl ?_
          refine G_imul dX11_addVoucher_76 ?_
          refine G_iadd dX11_addVoucher_77 ?_
          refine G_iconst (v := 1) dX11_addVoucher_78 (by decide) ?_
          refine G_iadd dX11_addVoucher_79 ?_
          refine G_iload_n dX11_addVoucher_80 3 rfl rfl ?_
          refine G_iast dX11_addVoucher_81 (fun M15 => ?_)
          refine G_aload_n dX11_addVoucher_82 1 rfl rfl ?_
          refine G_getP cf_X11 (j := 0) rfl w_917 dX11_addVoucher_83 (fun q16 => ?_)
          refine G_bipush (v := 102) dX11_addVoucher_86 (by decide) ?_
          refine G_iconst (v := 3) dX11_addVoucher_88 (by decide) ?_
          refine G_iload_n dX11_addVoucher_89 0 rfl rfl ?_
          refine G_imul dX11_addVoucher_90 ?_
          refine G_iadd dX11_addVoucher_91 ?_
          refine G_iconst (v := 2) dX11_addVoucher_92 (by decide) ?_
          refine G_iadd dX11_addVoucher_93 ?_
          refine G_iconst (v := 0) dX11_addVoucher_94 (by decide) ?_
          refine G_iast dX11_addVoucher_95 (fun M17 => ?_)
          refine G_aload_n dX11_addVoucher_96 1 rfl rfl ?_
          refine G_getP cf_X11 (j := 0) rfl w_917 dX11_addVoucher_97 (fun q18 => ?_)
          refine G_bipush (v := 9) dX11_addVoucher_100 (by decide) ?_
          refine G_dup2 dX11_addVoucher_102 rfl (rv_cat _ _) ?_
          refine G_iald dX11_addVoucher_103 (fun x19 => ?_)
          refine G_iconst (v := 1) dX11_addVoucher_104 (by decide) ?_
          refine G_iadd dX11_addVoucher_105 ?_
          refine G_iast dX11_addVoucher_106 (fun M20 => ?_)
          refine G_iload_n dX11_addVoucher_107 0 rfl rfl ?_
          exact G_ret (v := x11) dX11_addVoucher_108 (fun h => by cases h) rfl
        · refine G_bipush (v := (-3)) dX11_addVoucher_45 (by decide) ?_
          exact G_ret (v := ((-3))) dX11_addVoucher_47 (fun h => by cases h) rfl
      · refine G_bipush (v := (-2)) dX11_addVoucher_30 (by decide) ?_
        exact G_ret (v := ((-2))) dX11_addVoucher_32 (fun h => by cases h) rfl
    · intro J24_2 hJ24_2
      refine G_icmp_ne (tgt := 21) dX11_addVoucher_13 (by decide) ?_ ?_
      · refine G_sipush (v := 999) dX11_addVoucher_21 (by decide) ?_
        exact G.sub [0, 1, 2] rfl (hJ24_2 _ _)
      · refine G_bipush (v := 100) dX11_addVoucher_16 (by decide) ?_
        refine G_goto (tgt := 24) dX11_addVoucher_18 (by decide) ?_
        exact G.sub [0, 1, 2] rfl (hJ24_2 _ _)
def m_X11_voucher (M : Mem) (this : Option Nat) (p1 : Int32) (p2 : Int32) : Option (Int32 × Mem) :=
  rc M 11 this (cl (m_X11_isVoucher M this p1) (fun (x2 : Int32) (M1 : Mem) => (if x2 ≠ 0 then cl (m_X11_in M1 p2 0 2) (fun (x4 : Int32) (M3 : Mem) => (if x4 = 0 then rt ((-2)) M3 else dP M3 11 0 this (fun (q5 : Option Nat) => aI M3 100 q5 (((102 + (3 * p1)) + p2)) (fun (x6 : Int32) => rt x6 M3)))) else rt ((-1)) M1)))
abbrev md_X11_voucher : MD := (RX11, yX11_voucher, cX11_voucher, 3, Option.some Jvm.ClassFile.FieldType.int, 2, 43)
theorem ok_X11_voucher : MOk md_X11_voucher 2 := ⟨by decide +kernel, w_1107, w_11, ⟨by decide +kernel, by decide +kernel⟩, by decide +kernel, rfl⟩
set_option maxRecDepth 100000 in
set_option maxHeartbeats 4000000 in
theorem con_X11_voucher (κ : Cfg) (M : Mem) (this : Option Nat) (p1 : Int32) (p2 : Int32) : Con κ md_X11_voucher [rv κ this, .int p1, .int p2] M cvI (m_X11_voucher M this p1 p2) := by
  refine Con.of ok_X11_voucher (ret_I rfl) (by
    intro v hv
    simp only [List.mem_cons, List.not_mem_nil, or_false] at hv
    rcases hv with rfl | rfl | rfl <;> first | rfl | exact rv_cat _ _) (Nat.le_of_ble_eq_true rfl) ?_
  unfold m_X11_voucher
  refine G.sub (lv' := [(0, rv κ this), (1, .int p1), (2, .int p2)]) [0, 1, 2] rfl ?_
  refine G_aload_n dX11_voucher_0 0 rfl rfl ?_
  refine G_iload_n dX11_voucher_1 1 rfl rfl ?_
  refine G_callV cf_X11 ok_X11_isVoucher [.int p1] [] (con_X11_isVoucher κ M this p1) rfl w_1108 w_1110 wp_21 (Nat.le_of_ble_eq_true rfl) (Nat.le_of_ble_eq_true rfl) dX11_voucher_2 rfl (by simp) (fun x2 M1 => (show G _ _ _ _ _ _ [.int x2] _ from ?_))
  refine G_if_ne (tgt := 12) dX11_voucher_5 (by decide) ?_ ?_
  · refine G_iload_n dX11_voucher_12 2 rfl rfl ?_
    refine G_iconst (v := 0) dX11_voucher_13 (by decide) ?_
    refine G_iconst (v := 2) dX11_voucher_14 (by decide) ?_
    refine G_callS ok_X11_in [.int p2, .int 0, .int 2] [] (con_X11_in κ M1 p2 0 2) rfl w_993 w_994 (Nat.le_of_ble_eq_true rfl) (Nat.le_of_ble_eq_true rfl) dX11_voucher_15 rfl (by simp) (fun x4 M3 => (show G _ _ _ _ _ _ [.int x4] _ from ?_))
    refine G_if_eq (tgt := 37) dX11_voucher_18 (by decide) ?_ ?_
    · refine G_bipush (v := (-2)) dX11_voucher_37 (by decide) ?_
      exact G_ret (v := ((-2))) dX11_voucher_39 (fun h => by cases h) rfl
    · refine G_aload_n dX11_voucher_21 0 rfl rfl ?_
      refine G_getP cf_X11 (j := 0) rfl w_917 dX11_voucher_22 (fun q5 => ?_)
      refine G_bipush (v := 102) dX11_voucher_25 (by decide) ?_
      refine G_iconst (v := 3) dX11_voucher_27 (by decide) ?_
      refine G_iload_n dX11_voucher_28 1 rfl rfl ?_
      refine G_imul dX11_voucher_29 ?_
      refine G_iadd dX11_voucher_30 ?_
      refine G_iload_n dX11_voucher_31 2 rfl rfl ?_
      refine G_iadd dX11_voucher_32 ?_
      refine G_iald dX11_voucher_33 (fun x6 => ?_)
      refine G_goto (tgt := 39) dX11_voucher_34 (by decide) ?_
      exact G_ret (v := x6) dX11_voucher_39 (fun h => by cases h) rfl
  · refine G_iconst (v := (-1)) dX11_voucher_8 (by decide) ?_
    refine G_goto (tgt := 39) dX11_voucher_9 (by decide) ?_
    exact G_ret (v := ((-1))) dX11_voucher_39 (fun h => by cases h) rfl
def b_X11_makeFolder_61 (this : Option Nat) (p1 : Int32) (p3 : Int32) (L61_10 : (Int32 × Mem) → Option (Int32 × Mem)) (a11 : Int32 × Mem) : Option (Int32 × Mem) :=
  (if 5 ≤ a11.1 then rt p3 a11.2 else dP a11.2 11 0 this (fun (q13 : Option Nat) => sI a11.2 100 q13 ((((132 + (7 * p1)) + 2) + a11.1)) 0 (fun (M14 : Mem) => L61_10 ((a11.1 + 1), M14))))
def m_X11_makeFolder (M : Mem) (this : Option Nat) (p1 : Int32) (p2 : Int32) (p3 : Int32) : Option (Int32 × Mem) :=
  cl (m_X11_in M p1 0 2) (fun (x2 : Int32) (M1 : Mem) => (if x2 = 0 then rt ((-2)) M1 else cl (m_X11_in M1 p2 ((-1)) 3) (fun (x4 : Int32) (M3 : Mem) => (if x4 = 0 then rt ((-2)) M3 else cl (m_X11_in M3 p3 1 5) (fun (x6 : Int32) (M5 : Mem) => (if x6 ≠ 0 then dP M5 11 0 this (fun (q7 : Option Nat) => sI M5 100 q7 ((132 + (7 * p1))) p3 (fun (M8 : Mem) => dP M8 11 0 this (fun (q9 : Option Nat) => sI M8 100 q9 (((132 + (7 * p1)) + 1)) p2 (fun (M10 : Mem) => lp (b_X11_makeFolder_61 this p1 p3) FU (0, M10))))) else rt ((-2)) M5))))))
abbrev md_X11_makeFolder : MD := (RX11, yX11_makeFolder, cX11_makeFolder, 6, Option.some Jvm.ClassFile.FieldType.int, 1, 22)
theorem ok_X11_makeFolder : MOk md_X11_makeFolder 3 := ⟨by decide +kernel, w_1115, w_11, ⟨by decide +kernel, by decide +kernel⟩, by decide +kernel, rfl⟩
set_option maxRecDepth 100000 in
set_option maxHeartbeats 4000000 in
theorem con_X11_makeFolder (κ : Cfg) (M : Mem) (this : Option Nat) (p1 : Int32) (p2 : Int32) (p3 : Int32) : Con κ md_X11_makeFolder [rv κ this, .int p1, .int p2, .int p3] M cvI (m_X11_makeFolder M this p1 p2 p3) := by
  refine Con.of ok_X11_makeFolder (ret_I rfl) (by
    intro v hv
    simp only [List.mem_cons, List.not_mem_nil, or_false] at hv
    rcases hv with rfl | rfl | rfl | rfl <;> first | rfl | exact rv_cat _ _) (Nat.le_of_ble_eq_true rfl) ?_
  unfold m_X11_makeFolder
  refine G.sub (lv' := [(0, rv κ this), (1, .int p1), (2, .int p2), (3, .int p3)]) [0, 1, 2, 3] rfl ?_
  refine G_iload_n dX11_makeFolder_0 1 rfl rfl ?_
  refine G_iconst (v := 0) dX11_makeFolder_1 (by decide) ?_
  refine G_iconst (v := 2) dX11_makeFolder_2 (by decide) ?_
  refine G_callS ok_X11_in [.int p1, .int 0, .int 2] [] (con_X11_in κ M p1 0 2) rfl w_993 w_994 (Nat.le_of_ble_eq_true rfl) (Nat.le_of_ble_eq_true rfl) dX11_makeFolder_3 rfl (by simp) (fun x2 M1 => (show G _ _ _ _ _ _ [.int x2] _ from ?_))
  refine G_if_eq (tgt := 27) dX11_makeFolder_6 (by decide) ?_ ?_
  · refine G_bipush (v := (-2)) dX11_makeFolder_27 (by decide) ?_
    exact G_ret (v := ((-2))) dX11_makeFolder_29 (fun h => by cases h) rfl
  · refine G_iload_n dX11_makeFolder_9 2 rfl rfl ?_
    refine G_iconst (v := (-1)) dX11_makeFolder_10 (by decide) ?_
    refine G_iconst (v := 3) dX11_makeFolder_11 (by decide) ?_
    refine G_callS ok_X11_in [.int p2, .int (-1), .int 3] [] (con_X11_in κ M1 p2 ((-1)) 3) rfl w_993 w_994 (Nat.le_of_ble_eq_true rfl) (Nat.le_of_ble_eq_true rfl) dX11_makeFolder_12 rfl (by simp) (fun x4 M3 => (show G _ _ _ _ _ _ [.int x4] _ from ?_))
    refine G_if_eq (tgt := 27) dX11_makeFolder_15 (by decide) ?_ ?_
    · refine G_bipush (v := (-2)) dX11_makeFolder_27 (by decide) ?_
      exact G_ret (v := ((-2))) dX11_makeFolder_29 (fun h => by cases h) rfl
    · refine G_iload_n dX11_makeFolder_18 3 rfl rfl ?_
      refine G_iconst (v := 1) dX11_makeFolder_19 (by decide) ?_
      refine G_iconst (v := 5) dX11_makeFolder_20 (by decide) ?_
      refine G_callS ok_X11_in [.int p3, .int 1, .int 5] [] (con_X11_in κ M3 p3 1 5) rfl w_993 w_994 (Nat.le_of_ble_eq_true rfl) (Nat.le_of_ble_eq_true rfl) dX11_makeFolder_21 rfl (by simp) (fun x6 M5 => (show G _ _ _ _ _ _ [.int x6] _ from ?_))
      refine G_if_ne (tgt := 30) dX11_makeFolder_24 (by decide) ?_ ?_
      · refine G_sipush (v := 132) dX11_makeFolder_30 (by decide) ?_
        refine G_bipush (v := 7) dX11_makeFolder_33 (by decide) ?_
        refine G_iload_n dX11_makeFolder_35 1 rfl rfl ?_
        refine G_imul dX11_makeFolder_36 ?_
        refine G_iadd dX11_makeFolder_37 ?_
        refine G_istore (lv' := [(4, .int (132 + (7 * p1))), (0, rv κ this), (1, .int p1), (2, .int p2), (3, .int p3)]) dX11_makeFolder_38 (Nat.le_of_ble_eq_true rfl) rfl ?_
        refine G_aload_n dX11_makeFolder_40 1 rfl rfl ?_
        refine G_getP cf_X11 (j := 0) rfl w_917 dX11_makeFolder_41 (fun q7 => ?_)
        refine G_iload dX11_makeFolder_44 0 rfl ?_
        refine G_iload_n dX11_makeFolder_46 4 rfl rfl ?_
        refine G_iast dX11_makeFolder_47 (fun M8 => ?_)
        refine G_aload_n dX11_makeFolder_48 1 rfl rfl ?_
        refine G_getP cf_X11 (j := 0) rfl w_917 dX11_makeFolder_49 (fun q9 => ?_)
        refine G_iload dX11_makeFolder_52 0 rfl ?_
        refine G_iconst (v := 1) dX11_makeFolder_54 (by decide) ?_
        refine G_iadd dX11_makeFolder_55 ?_
        refine G_iload_n dX11_makeFolder_56 3 rfl rfl ?_
        refine G_iast dX11_makeFolder_57 (fun M10 => ?_)
        refine G_iconst (v := 0) dX11_makeFolder_58 (by decide) ?_
        refine G_istore (lv' := [(5, .int 0), (4, .int (132 + (7 * p1))), (0, rv κ this), (1, .int p1), (2, .int p2), (3, .int p3)]) dX11_makeFolder_59 (Nat.le_of_ble_eq_true rfl) rfl ?_
        refine G.sub (lv' := [(0, rv κ this), (3, .int p3), (4, .int (132 + (7 * p1))), (5, .int 0)]) [2, 5, 1, 0] rfl ?_
        refine G.loop (lvf := fun (a11 : Int32 × Mem) => [(0, rv κ this), (3, .int p3), (4, .int (132 + (7 * p1))), (5, .int a11.1)]) (mf := fun (a11 : Int32 × Mem) => a11.2) (fun L61_10 hL61_10 a11 => ?_) FU (0, M10)
        unfold b_X11_makeFolder_61
        refine G_iload dX11_makeFolder_61 3 rfl ?_
        refine G_iconst (v := 5) dX11_makeFolder_63 (by decide) ?_
        refine G_icmp_ge (tgt := 86) dX11_makeFolder_64 (by decide) ?_ ?_
        · refine G_iload_n dX11_makeFolder_86 1 rfl rfl ?_
          exact G_ret (v := p3) dX11_makeFolder_87 (fun h => by cases h) rfl
        · refine G_aload_n dX11_makeFolder_67 0 rfl rfl ?_
          refine G_getP cf_X11 (j := 0) rfl w_917 dX11_makeFolder_68 (fun q13 => ?_)
          refine G_iload dX11_makeFolder_71 2 rfl ?_
          refine G_iconst (v := 2) dX11_makeFolder_73 (by decide) ?_
          refine G_iadd dX11_makeFolder_74 ?_
          refine G_iload dX11_makeFolder_75 3 rfl ?_
          refine G_iadd dX11_makeFolder_77 ?_
          refine G_iconst (v := 0) dX11_makeFolder_78 (by decide) ?_
          refine G_iast dX11_makeFolder_79 (fun M14 => ?_)
          refine G_iinc (v := (a11.1 + 1)) (lv' := [(5, .int (a11.1 + 1)), (0, rv κ this), (3, .int p3), (4, .int (132 + (7 * p1)))]) dX11_makeFolder_80 3 rfl (congrArg (fun z9 : Int32 => a11.1 + z9) (by decide : Int32.ofInt 1 = 1)) (Nat.le_of_ble_eq_true rfl) rfl ?_
          refine G_goto (tgt := 61) dX11_makeFolder_83 (by decide) ?_
          exact G.sub [1, 2, 3, 0] rfl (hL61_10 _)
      · refine G_bipush (v := (-2)) dX11_makeFolder_27 (by decide) ?_
        exact G_ret (v := ((-2))) dX11_makeFolder_29 (fun h => by cases h) rfl
def m_X11_isPlace (M : Mem) (this : Option Nat) (p1 : Int32) (p2 : Int32) : Option (Int32 × Mem) :=
  cl (m_X11_in M p1 0 2) (fun (x2 : Int32) (M1 : Mem) => (if x2 = 0 then rtZ 0 M1 else dP M1 11 0 this (fun (q3 : Option Nat) => aI M1 100 q3 ((132 + (7 * p1))) (fun (x4 : Int32) => cl (m_X11_in M1 p2 0 ((x4 - 1))) (fun (x6 : Int32) (M5 : Mem) => (if x6 = 0 then rtZ 0 M5 else rtZ 1 M5))))))
abbrev md_X11_isPlace : MD := (RX11, yX11_isPlace, cX11_isPlace, 3, Option.some Jvm.ClassFile.FieldType.boolean, 1, 22)
theorem ok_X11_isPlace : MOk md_X11_isPlace 2 := ⟨by decide +kernel, w_1123, w_11, ⟨by decide +kernel, by decide +kernel⟩, by decide +kernel, rfl⟩
set_option maxRecDepth 100000 in
set_option maxHeartbeats 4000000 in
theorem con_X11_isPlace (κ : Cfg) (M : Mem) (this : Option Nat) (p1 : Int32) (p2 : Int32) : Con κ md_X11_isPlace [rv κ this, .int p1, .int p2] M cvI (m_X11_isPlace M this p1 p2) := by
  refine Con.of ok_X11_isPlace (ret_Z rfl) (by
    intro v hv
    simp only [List.mem_cons, List.not_mem_nil, or_false] at hv
    rcases hv with rfl | rfl | rfl <;> first | rfl | exact rv_cat _ _) (Nat.le_of_ble_eq_true rfl) ?_
  unfold m_X11_isPlace
  refine G.sub (lv' := [(0, rv κ this), (1, .int p1), (2, .int p2)]) [0, 1, 2] rfl ?_
  refine G_iload_n dX11_isPlace_0 1 rfl rfl ?_
  refine G_iconst (v := 0) dX11_isPlace_1 (by decide) ?_
  refine G_iconst (v := 2) dX11_isPlace_2 (by decide) ?_
  refine G_callS ok_X11_in [.int p1, .int 0, .int 2] [] (con_X11_in κ M p1 0 2) rfl w_993 w_994 (Nat.le_of_ble_eq_true rfl) (Nat.le_of_ble_eq_true rfl) dX11_isPlace_3 rfl (by simp) (fun x2 M1 => (show G _ _ _ _ _ _ [.int x2] _ from ?_))
  refine G_if_eq (tgt := 36) dX11_isPlace_6 (by decide) ?_ ?_
  · refine G_iconst (v := 0) dX11_isPlace_36 (by decide) ?_
    exact G_retZ dX11_isPlace_37
  · refine G_iload_n dX11_isPlace_9 2 rfl rfl ?_
    refine G_iconst (v := 0) dX11_isPlace_10 (by decide) ?_
    refine G_aload_n dX11_isPlace_11 0 rfl rfl ?_
    refine G_getP cf_X11 (j := 0) rfl w_917 dX11_isPlace_12 (fun q3 => ?_)
    refine G_sipush (v := 132) dX11_isPlace_15 (by decide) ?_
    refine G_bipush (v := 7) dX11_isPlace_18 (by decide) ?_
    refine G_iload_n dX11_isPlace_20 1 rfl rfl ?_
    refine G_imul dX11_isPlace_21 ?_
    refine G_iadd dX11_isPlace_22 ?_
    refine G_iald dX11_isPlace_23 (fun x4 => ?_)
    refine G_iconst (v := 1) dX11_isPlace_24 (by decide) ?_
    refine G_isub dX11_isPlace_25 ?_
    refine G_callS ok_X11_in [.int p2, .int 0, .int (x4 - 1)] [] (con_X11_in κ M1 p2 0 ((x4 - 1))) rfl w_993 w_994 (Nat.le_of_ble_eq_true rfl) (Nat.le_of_ble_eq_true rfl) dX11_isPlace_26 rfl (by simp) (fun x6 M5 => (show G _ _ _ _ _ _ [.int x6] _ from ?_))
    refine G_if_eq (tgt := 36) dX11_isPlace_29 (by decide) ?_ ?_
    · refine G_iconst (v := 0) dX11_isPlace_36 (by decide) ?_
      exact G_retZ dX11_isPlace_37
    · refine G_iconst (v := 1) dX11_isPlace_32 (by decide) ?_
      refine G_goto (tgt := 37) dX11_isPlace_33 (by decide) ?_
      exact G_retZ dX11_isPlace_37
def b_X11_put_82 (this : Option Nat) (p1 : Int32) (L82_10 : (Int32 × Int32 × Mem) → Option (Int32 × Mem)) (a11 : Int32 × Int32 × Mem) : Option (Int32 × Mem) :=
  (if 5 ≤ a11.2.1 then rt a11.1 a11.2.2 else dP a11.2.2 11 0 this (fun (q13 : Option Nat) => aI a11.2.2 100 q13 ((((132 + (7 * p1)) + 2) + a11.2.1)) (fun (x14 : Int32) => jn (fun (x16 : Int32) (M17 : Mem) => L82_10 ((a11.1 + x16), (a11.2.1 + 1), M17)) (fun (J110_14 : Int32 → Mem → Option (Int32 × Mem)) => (if x14 ≤ 0 then J110_14 0 a11.2.2 else J110_14 1 a11.2.2)))))
def m_X11_put (M : Mem) (this : Option Nat) (p1 : Int32) (p2 : Int32) (p3 : Int32) : Option (Int32 × Mem) :=
  rc M 11 this (cl (m_X11_isPlace M this p1 p2) (fun (x2 : Int32) (M1 : Mem) => (if x2 = 0 then rt ((-1)) M1 else rc M1 11 this (cl (m_X11_isVoucher M1 this p3) (fun (x4 : Int32) (M3 : Mem) => (if x4 ≠ 0 then dP M3 11 0 this (fun (q5 : Option Nat) => aI M3 100 q5 (((132 + (7 * p1)) + 1)) (fun (x6 : Int32) => jn (fun (M8 : Mem) => dP M8 11 0 this (fun (q9 : Option Nat) => sI M8 100 q9 ((((132 + (7 * p1)) + 2) + p2)) ((p3 + 1)) (fun (M10 : Mem) => lp (b_X11_put_82 this p1) FU (0, 0, M10)))) (fun (J62_6 : Mem → Option (Int32 × Mem)) => (if x6 = (-1) then J62_6 M3 else dP M3 11 0 this (fun (q18 : Option Nat) => aI M3 100 q18 (((132 + (7 * p1)) + 1)) (fun (x19 : Int32) => rc M3 11 this (cl (m_X11_kindOf M3 this p3) (fun (x21 : Int32) (M20 : Mem) => (if x19 = x21 then J62_6 M20 else rt ((-6)) M20))))))))) else rt ((-1)) M3))))))
abbrev md_X11_put : MD := (RX11, yX11_put, cX11_put, 7, Option.some Jvm.ClassFile.FieldType.int, 2, 44)
theorem ok_X11_put : MOk md_X11_put 3 := ⟨by decide +kernel, w_1119, w_11, ⟨by decide +kernel, by decide +kernel⟩, by decide +kernel, rfl⟩
set_option maxRecDepth 100000 in
set_option maxHeartbeats 4000000 in
theorem con_X11_put (κ : Cfg) (M : Mem) (this : Option Nat) (p1 : Int32) (p2 : Int32) (p3 : Int32) : Con κ md_X11_put [rv κ this, .int p1, .int p2, .int p3] M cvI (m_X11_put M this p1 p2 p3) := by
  refine Con.of ok_X11_put (ret_I rfl) (by
    intro v hv
    simp only [List.mem_cons, List.not_mem_nil, or_false] at hv
    rcases hv with rfl | rfl | rfl | rfl <;> first | rfl | exact rv_cat _ _) (Nat.le_of_ble_eq_true rfl) ?_
  unfold m_X11_put
  refine G.sub (lv' := [(0, rv κ this), (1, .int p1), (2, .int p2), (3, .int p3)]) [0, 1, 2, 3] rfl ?_
  refine G_aload_n dX11_put_0 0 rfl rfl ?_
  refine G_iload_n dX11_put_1 1 rfl rfl ?_
  refine G_iload_n dX11_put_2 2 rfl rfl ?_
  refine G_callV cf_X11 ok_X11_isPlace [.int p1, .int p2] [] (con_X11_isPlace κ M this p1 p2) rfl w_1120 w_1122 wp_22 (Nat.le_of_ble_eq_true rfl) (Nat.le_of_ble_eq_true rfl) dX11_put_3 rfl (by simp) (fun x2 M1 => (show G _ _ _ _ _ _ [.int x2] _ from ?_))
  refine G_if_eq (tgt := 17) dX11_put_6 (by decide) ?_ ?_
  · refine G_iconst (v := (-1)) dX11_put_17 (by decide) ?_
    exact G_ret (v := ((-1))) dX11_put_18 (fun h => by cases h) rfl
  · refine G_aload_n dX11_put_9 0 rfl rfl ?_
    refine G_iload_n dX11_put_10 3 rfl rfl ?_
    refine G_callV cf_X11 ok_X11_isVoucher [.int p3] [] (con_X11_isVoucher κ M1 this p3) rfl w_1108 w_1110 wp_21 (Nat.le_of_ble_eq_true rfl) (Nat.le_of_ble_eq_true rfl) dX11_put_11 rfl (by simp) (fun x4 M3 => (show G _ _ _ _ _ _ [.int x4] _ from ?_))
    refine G_if_ne (tgt := 19) dX11_put_14 (by decide) ?_ ?_
    · refine G_sipush (v := 132) dX11_put_19 (by decide) ?_
      refine G_bipush (v := 7) dX11_put_22 (by decide) ?_
      refine G_iload_n dX11_put_24 1 rfl rfl ?_
      refine G_imul dX11_put_25 ?_
      refine G_iadd dX11_put_26 ?_
      refine G_istore (lv' := [(4, .int (132 + (7 * p1))), (0, rv κ this), (1, .int p1), (2, .int p2), (3, .int p3)]) dX11_put_27 (Nat.le_of_ble_eq_true rfl) rfl ?_
      refine G_aload_n dX11_put_29 1 rfl rfl ?_
      refine G_getP cf_X11 (j := 0) rfl w_917 dX11_put_30 (fun q5 => ?_)
      refine G_iload dX11_put_33 0 rfl ?_
      refine G_iconst (v := 1) dX11_put_35 (by decide) ?_
      refine G_iadd dX11_put_36 ?_
      refine G_iald dX11_put_37 (fun x6 => ?_)
      refine G_iconst (v := (-1)) dX11_put_38 (by decide) ?_
      refine G.jn (P := (fun (J : Mem → Option (Int32 × Mem)) => ∀ (M8 : Mem), G κ md_X11_put cvI (J M8) 62 [(0, rv κ this), (2, .int p2), (3, .int p3), (4, .int (132 + (7 * p1)))] [] M8)) ?_ ?_
      · intro M8
        refine G_aload_n dX11_put_62 0 rfl rfl ?_
        refine G_getP cf_X11 (j := 0) rfl w_917 dX11_put_63 (fun q9 => ?_)
        refine G_iload dX11_put_66 3 rfl ?_
        refine G_iconst (v := 2) dX11_put_68 (by decide) ?_
        refine G_iadd dX11_put_69 ?_
        refine G_iload_n dX11_put_70 1 rfl rfl ?_
        refine G_iadd dX11_put_71 ?_
        refine G_iload_n dX11_put_72 2 rfl rfl ?_
        refine G_iconst (v := 1) dX11_put_73 (by decide) ?_
        refine G_iadd dX11_put_74 ?_
        refine G_iast dX11_put_75 (fun M10 => ?_)
        refine G_iconst (v := 0) dX11_put_76 (by decide) ?_
        refine G_istore (lv' := [(5, .int 0), (0, rv κ this), (2, .int p2), (3, .int p3), (4, .int (132 + (7 * p1)))]) dX11_put_77 (Nat.le_of_ble_eq_true rfl) rfl ?_
        refine G_iconst (v := 0) dX11_put_79 (by decide) ?_
        refine G_istore (lv' := [(6, .int 0), (5, .int 0), (0, rv κ this), (2, .int p2), (3, .int p3), (4, .int (132 + (7 * p1)))]) dX11_put_80 (Nat.le_of_ble_eq_true rfl) rfl ?_
        refine G.sub (lv' := [(0, rv κ this), (4, .int (132 + (7 * p1))), (5, .int 0), (6, .int 0)]) [2, 5, 1, 0] rfl ?_
        refine G.loop (lvf := fun (a11 : Int32 × Int32 × Mem) => [(0, rv κ this), (4, .int (132 + (7 * p1))), (5, .int a11.1), (6, .int a11.2.1)]) (mf := fun (a11 : Int32 × Int32 × Mem) => a11.2.2) (fun L82_10 hL82_10 a11 => ?_) FU (0, 0, M10)
        unfold b_X11_put_82
        refine G_iload dX11_put_82 3 rfl ?_
        refine G_iconst (v := 5) dX11_put_84 (by decide) ?_
        refine G_icmp_ge (tgt := 119) dX11_put_85 (by decide) ?_ ?_
        · refine G_iload dX11_put_119 2 rfl ?_
          exact G_ret (v := a11.1) dX11_put_121 (fun h => by cases h) rfl
        · refine G_iload dX11_put_88 2 rfl ?_
          refine G_aload_n dX11_put_90 0 rfl rfl ?_
          refine G_getP cf_X11 (j := 0) rfl w_917 dX11_put_91 (fun q13 => ?_)
          refine G_iload dX11_put_94 1 rfl ?_
          refine G_iconst (v := 2) dX11_put_96 (by decide) ?_
          refine G_iadd dX11_put_97 ?_
          refine G_iload dX11_put_98 3 rfl ?_
          refine G_iadd dX11_put_100 ?_
          refine G_iald dX11_put_101 (fun x14 => ?_)
          refine G.jn (P := (fun (J : Int32 → Mem → Option (Int32 × Mem)) => ∀ (x16 : Int32) (M17 : Mem), G κ md_X11_put cvI (J x16 M17) 110 [(0, rv κ this), (4, .int (132 + (7 * p1))), (6, .int a11.2.1)] [.int x16, .int a11.1] M17)) ?_ ?_
          · intro x16 M17
            refine G_iadd dX11_put_110 ?_
            refine G_istore (lv' := [(5, .int (a11.1 + x16)), (0, rv κ this), (4, .int (132 + (7 * p1))), (6, .int a11.2.1)]) dX11_put_111 (Nat.le_of_ble_eq_true rfl) rfl ?_
            refine G_iinc (v := (a11.2.1 + 1)) (lv' := [(6, .int (a11.2.1 + 1)), (5, .int (a11.1 + x16)), (0, rv κ this), (4, .int (132 + (7 * p1)))]) dX11_put_113 3 rfl (congrArg (fun z9 : Int32 => a11.2.1 + z9) (by decide : Int32.ofInt 1 = 1)) (Nat.le_of_ble_eq_true rfl) rfl ?_
            refine G_goto (tgt := 82) dX11_put_116 (by decide) ?_
            exact G.sub [2, 3, 1, 0] rfl (hL82_10 _)
          · intro J110_14 hJ110_14
            refine G_if_le (tgt := 109) dX11_put_102 (by decide) ?_ ?_
            · refine G_iconst (v := 0) dX11_put_109 (by decide) ?_
              exact G.sub [0, 1, 3] rfl (hJ110_14 _ _)
            · refine G_iconst (v := 1) dX11_put_105 (by decide) ?_
              refine G_goto (tgt := 110) dX11_put_106 (by decide) ?_
              exact G.sub [0, 1, 3] rfl (hJ110_14 _ _)
      · intro J62_6 hJ62_6
        refine G_icmp_eq (tgt := 62) dX11_put_39 (by decide) ?_ ?_
        · exact G.sub [1, 3, 4, 0] rfl (hJ62_6 _)
        · refine G_aload_n dX11_put_42 1 rfl rfl ?_
          refine G_getP cf_X11 (j := 0) rfl w_917 dX11_put_43 (fun q18 => ?_)
          refine G_iload dX11_put_46 0 rfl ?_
          refine G_iconst (v := 1) dX11_put_48 (by decide) ?_
          refine G_iadd dX11_put_49 ?_
          refine G_iald dX11_put_50 (fun x19 => ?_)
          refine G_aload_n dX11_put_51 1 rfl rfl ?_
          refine G_iload_n dX11_put_52 4 rfl rfl ?_
          refine G_callV cf_X11 ok_X11_kindOf [.int p3] [.int x19] (con_X11_kindOf κ M3 this p3) rfl w_1124 w_1126 wp_23 (Nat.le_of_ble_eq_true rfl) (Nat.le_of_ble_eq_true rfl) dX11_put_53 rfl (by simp) (fun x21 M20 => (show G _ _ _ _ _ _ [.int x21, .int x19] _ from ?_))
          refine G_icmp_eq (tgt := 62) dX11_put_56 (by decide) ?_ ?_
          · exact G.sub [1, 3, 4, 0] rfl (hJ62_6 _)
          · refine G_bipush (v := (-6)) dX11_put_59 (by decide) ?_
            exact G_ret (v := ((-6))) dX11_put_61 (fun h => by cases h) rfl
    · refine G_iconst (v := (-1)) dX11_put_17 (by decide) ?_
      exact G_ret (v := ((-1))) dX11_put_18 (fun h => by cases h) rfl
def m_X11_inFolder (M : Mem) (this : Option Nat) (p1 : Int32) (p2 : Int32) : Option (Int32 × Mem) :=
  rc M 11 this (cl (m_X11_isPlace M this p1 p2) (fun (x2 : Int32) (M1 : Mem) => (if x2 = 0 then rt ((-1)) M1 else dP M1 11 0 this (fun (q3 : Option Nat) => aI M1 100 q3 ((((132 + (7 * p1)) + 2) + p2)) (fun (x4 : Int32) => rt ((x4 - 1)) M1)))))
abbrev md_X11_inFolder : MD := (RX11, yX11_inFolder, cX11_inFolder, 3, Option.some Jvm.ClassFile.FieldType.int, 2, 44)
theorem ok_X11_inFolder : MOk md_X11_inFolder 2 := ⟨by decide +kernel, w_1131, w_11, ⟨by decide +kernel, by decide +kernel⟩, by decide +kernel, rfl⟩
set_option maxRecDepth 100000 in
set_option maxHeartbeats 4000000 in
theorem con_X11_inFolder (κ : Cfg) (M : Mem) (this : Option Nat) (p1 : Int32) (p2 : Int32) : Con κ md_X11_inFolder [rv κ this, .int p1, .int p2] M cvI (m_X11_inFolder M this p1 p2) := by
  refine Con.of ok_X11_inFolder (ret_I rfl) (by
    intro v hv
    simp only [List.mem_cons, List.not_mem_nil, or_false] at hv
    rcases hv with rfl | rfl | rfl <;> first | rfl | exact rv_cat _ _) (Nat.le_of_ble_eq_true rfl) ?_
  unfold m_X11_inFolder
  refine G.sub (lv' := [(0, rv κ this), (1, .int p1), (2, .int p2)]) [0, 1, 2] rfl ?_
  refine G_aload_n dX11_inFolder_0 0 rfl rfl ?_
  refine G_iload_n dX11_inFolder_1 1 rfl rfl ?_
  refine G_iload_n dX11_inFolder_2 2 rfl rfl ?_
  refine G_callV cf_X11 ok_X11_isPlace [.int p1, .int p2] [] (con_X11_isPlace κ M this p1 p2) rfl w_1120 w_1122 wp_22 (Nat.le_of_ble_eq_true rfl) (Nat.le_of_ble_eq_true rfl) dX11_inFolder_3 rfl (by simp) (fun x2 M1 => (show G _ _ _ _ _ _ [.int x2] _ from ?_))
  refine G_if_eq (tgt := 31) dX11_inFolder_6 (by decide) ?_ ?_
  · refine G_iconst (v := (-1)) dX11_inFolder_31 (by decide) ?_
    exact G_ret (v := ((-1))) dX11_inFolder_32 (fun h => by cases h) rfl
  · refine G_aload_n dX11_inFolder_9 0 rfl rfl ?_
    refine G_getP cf_X11 (j := 0) rfl w_917 dX11_inFolder_10 (fun q3 => ?_)
    refine G_sipush (v := 132) dX11_inFolder_13 (by decide) ?_
    refine G_bipush (v := 7) dX11_inFolder_16 (by decide) ?_
    refine G_iload_n dX11_inFolder_18 1 rfl rfl ?_
    refine G_imul dX11_inFolder_19 ?_
    refine G_iadd dX11_inFolder_20 ?_
    refine G_iconst (v := 2) dX11_inFolder_21 (by decide) ?_
    refine G_iadd dX11_inFolder_22 ?_
    refine G_iload_n dX11_inFolder_23 2 rfl rfl ?_
    refine G_iadd dX11_inFolder_24 ?_
    refine G_iald dX11_inFolder_25 (fun x4 => ?_)
    refine G_iconst (v := 1) dX11_inFolder_26 (by decide) ?_
    refine G_isub dX11_inFolder_27 ?_
    refine G_goto (tgt := 32) dX11_inFolder_28 (by decide) ?_
    exact G_ret (v := ((x4 - 1))) dX11_inFolder_32 (fun h => by cases h) rfl
def m_X11_levelPart (M : Mem) (this : Option Nat) (p1 : Int32) (p2 : Int32) : Option (Int32 × Mem) :=
  dP M 11 0 this (fun (q1 : Option Nat) => aI M 100 q1 (((153 + (4 * p1)) + p2)) (fun (x2 : Int32) => rt x2 M))
abbrev md_X11_levelPart : MD := (RX11, yX11_levelPart, cX11_levelPart, 3, Option.some Jvm.ClassFile.FieldType.int, 0, 0)
theorem ok_X11_levelPart : MOk md_X11_levelPart 2 := ⟨by decide +kernel, w_1139, w_11, ⟨by decide +kernel, by decide +kernel⟩, by decide +kernel, rfl⟩
set_option maxRecDepth 100000 in
set_option maxHeartbeats 4000000 in
theorem con_X11_levelPart (κ : Cfg) (M : Mem) (this : Option Nat) (p1 : Int32) (p2 : Int32) : Con κ md_X11_levelPart [rv κ this, .int p1, .int p2] M cvI (m_X11_levelPart M this p1 p2) := by
  refine Con.of ok_X11_levelPart (ret_I rfl) (by
    intro v hv
    simp only [List.mem_cons, List.not_mem_nil, or_false] at hv
    rcases hv with rfl | rfl | rfl <;> first | rfl | exact rv_cat _ _) (Nat.le_of_ble_eq_true rfl) ?_
  unfold m_X11_levelPart
  refine G.sub (lv' := [(0, rv κ this), (1, .int p1), (2, .int p2)]) [0, 1, 2] rfl ?_
  refine G_aload_n dX11_levelPart_0 0 rfl rfl ?_
  refine G_getP cf_X11 (j := 0) rfl w_917 dX11_levelPart_1 (fun q1 => ?_)
  refine G_sipush (v := 153) dX11_levelPart_4 (by decide) ?_
  refine G_iconst (v := 4) dX11_levelPart_7 (by decide) ?_
  refine G_iload_n dX11_levelPart_8 1 rfl rfl ?_
  refine G_imul dX11_levelPart_9 ?_
  refine G_iadd dX11_levelPart_10 ?_
  refine G_iload_n dX11_levelPart_11 2 rfl rfl ?_
  refine G_iadd dX11_levelPart_12 ?_
  refine G_iald dX11_levelPart_13 (fun x2 => ?_)
  exact G_ret (v := x2) dX11_levelPart_14 (fun h => by cases h) rfl
def m_X11_score (M : Mem) (this : Option Nat) (p1 : Int32) : Option (UInt32 × Mem) :=
  rc M 11 this (cl (m_X11_levelPart M this p1 0) (fun (x2 : Int32) (M1 : Mem) => rc M1 11 this (cl (m_X11_levelPart M1 this p1 1) (fun (x4 : Int32) (M3 : Mem) => dP M3 11 2 this (fun (q5 : Option Nat) => aF M3 102 q5 p1 (fun (r6 : UInt32) => o_fmul r6 1056964608 (fun (r7 : UInt32) => o_fadd ((FP.i2f ((x2 - x4)))) r7 (fun (r8 : UInt32) => rc M3 11 this (cl (m_X11_levelPart M3 this p1 0) (fun (x10 : Int32) (M9 : Mem) => o_fdiv r8 ((FP.i2f x10)) (fun (r11 : UInt32) => rt r11 M9)))))))))))
abbrev md_X11_score : MD := (RX11, yX11_score, cX11_score, 2, Option.some Jvm.ClassFile.FieldType.float, 1, 22)
theorem ok_X11_score : MOk md_X11_score 1 := ⟨by decide +kernel, w_1157, w_11, ⟨by decide +kernel, by decide +kernel⟩, by decide +kernel, rfl⟩
set_option maxRecDepth 100000 in
set_option maxHeartbeats 4000000 in
theorem con_X11_score (κ : Cfg) (M : Mem) (this : Option Nat) (p1 : Int32) : Con κ md_X11_score [rv κ this, .int p1] M cvF (m_X11_score M this p1) := by
  refine Con.of ok_X11_score (ret_F rfl) (by
    intro v hv
    simp only [List.mem_cons, List.not_mem_nil, or_false] at hv
    rcases hv with rfl | rfl <;> first | rfl | exact rv_cat _ _) (Nat.le_of_ble_eq_true rfl) ?_
  unfold m_X11_score
  refine G.sub (lv' := [(0, rv κ this), (1, .int p1)]) [0, 1] rfl ?_
  refine G_aload_n dX11_score_0 0 rfl rfl ?_
  refine G_iload_n dX11_score_1 1 rfl rfl ?_
  refine G_iconst (v := 0) dX11_score_2 (by decide) ?_
  refine G_callV cf_X11 ok_X11_levelPart [.int p1, .int 0] [] (con_X11_levelPart κ M this p1 0) rfl w_1136 w_1138 wp_24 (Nat.le_of_ble_eq_true rfl) (Nat.le_of_ble_eq_true rfl) dX11_score_3 rfl (by simp) (fun x2 M1 => (show G _ _ _ _ _ _ [.int x2] _ from ?_))
  refine G_aload_n dX11_score_6 0 rfl rfl ?_
  refine G_iload_n dX11_score_7 1 rfl rfl ?_
  refine G_iconst (v := 1) dX11_score_8 (by decide) ?_
  refine G_callV cf_X11 ok_X11_levelPart [.int p1, .int 1] [.int x2] (con_X11_levelPart κ M1 this p1 1) rfl w_1136 w_1138 wp_24 (Nat.le_of_ble_eq_true rfl) (Nat.le_of_ble_eq_true rfl) dX11_score_9 rfl (by simp) (fun x4 M3 => (show G _ _ _ _ _ _ [.int x4, .int x2] _ from ?_))
  refine G_isub dX11_score_12 ?_
  refine G_i2f dX11_score_13 ?_
  refine G_aload_n dX11_score_14 0 rfl rfl ?_
  refine G_getP cf_X11 (j := 2) rfl w_919 dX11_score_15 (fun q5 => ?_)
  refine G_iload_n dX11_score_18 1 rfl rfl ?_
  refine G_fald dX11_score_19 (fun r6 => ?_)
  refine G_ldcf (v := 1056964608) dX11_score_20 w_1158 ?_
  refine G_fmul dX11_score_22 (fun r7 => ?_)
  refine G_fadd dX11_score_23 (fun r8 => ?_)
  refine G_aload_n dX11_score_24 0 rfl rfl ?_
  refine G_iload_n dX11_score_25 1 rfl rfl ?_
  refine G_iconst (v := 0) dX11_score_26 (by decide) ?_
  refine G_callV cf_X11 ok_X11_levelPart [.int p1, .int 0] [.float r8] (con_X11_levelPart κ M3 this p1 0) rfl w_1136 w_1138 wp_24 (Nat.le_of_ble_eq_true rfl) (Nat.le_of_ble_eq_true rfl) dX11_score_27 rfl (by simp) (fun x10 M9 => (show G _ _ _ _ _ _ [.int x10, .float r8] _ from ?_))
  refine G_i2f dX11_score_30 ?_
  refine G_fdiv dX11_score_31 (fun r11 => ?_)
  exact G_ret (v := r11) dX11_score_32 (fun h => by cases h) rfl
def b_X11_bestLevel_4 (this : Option Nat) (L4_0 : (Int32 × Int32 × Mem) → Option (Int32 × Mem)) (a1 : Int32 × Int32 × Mem) : Option (Int32 × Mem) :=
  (if 4 ≤ a1.2.1 then rt a1.1 a1.2.2 else rc a1.2.2 11 this (cl (m_X11_levelPart a1.2.2 this a1.2.1 1) (fun (x4 : Int32) (M3 : Mem) => rc M3 11 this (cl (m_X11_levelPart M3 this a1.2.1 0) (fun (x6 : Int32) (M5 : Mem) => jn (fun (x8 : Int32) (M9 : Mem) => L4_0 (x8, (a1.2.1 + 1), M9)) (fun (J45_6 : Int32 → Mem → Option (Int32 × Mem)) => (if x6 ≤ x4 then J45_6 a1.1 M5 else jn (fun (M11 : Mem) => J45_6 a1.2.1 M11) (fun (J43_9 : Mem → Option (Int32 × Mem)) => (if a1.1 = (-1) then J43_9 M5 else rc M5 11 this (cl (m_X11_score M5 this a1.2.1) (fun (r13 : UInt32) (M12 : Mem) => rc M12 11 this (cl (m_X11_score M12 this a1.1) (fun (r15 : UInt32) (M14 : Mem) => (if (Op.cmpValue (FP.fcmp r13 r15) .l) ≤ 0 then J45_6 a1.1 M14 else J43_9 M14))))))))))))))
def m_X11_bestLevel (M : Mem) (this : Option Nat) : Option (Int32 × Mem) :=
  lp (b_X11_bestLevel_4 this) FU ((-1), 0, M)
abbrev md_X11_bestLevel : MD := (RX11, yX11_bestLevel, cX11_bestLevel, 3, Option.some Jvm.ClassFile.FieldType.int, 2, 43)
theorem ok_X11_bestLevel : MOk md_X11_bestLevel 0 := ⟨by decide +kernel, w_1171, w_11, ⟨by decide +kernel, by decide +kernel⟩, by decide +kernel, rfl⟩
set_option maxRecDepth 100000 in
set_option maxHeartbeats 4000000 in
theorem con_X11_bestLevel (κ : Cfg) (M : Mem) (this : Option Nat) : Con κ md_X11_bestLevel [rv κ this] M cvI (m_X11_bestLevel M this) := by
  refine Con.of ok_X11_bestLevel (ret_I rfl) (by
    intro v hv
    simp only [List.mem_cons, List.not_mem_nil, or_false] at hv
    subst hv; first | rfl | exact rv_cat _ _) (Nat.le_of_ble_eq_true rfl) ?_
  unfold m_X11_bestLevel
  refine G.sub (lv' := [(0, rv κ this)]) [0] rfl ?_
  refine G_iconst (v := (-1)) dX11_bestLevel_0 (by decide) ?_
  refine G_istore_n (lv' := [(1, .int (-1)), (0, rv κ this)]) dX11_bestLevel_1 rfl (Nat.le_of_ble_eq_true rfl) rfl ?_
  refine G_iconst (v := 0) dX11_bestLevel_2 (by decide) ?_
  refine G_istore_n (lv' := [(2, .int 0), (1, .int (-1)), (0, rv κ this)]) dX11_bestLevel_3 rfl (Nat.le_of_ble_eq_true rfl) rfl ?_
  refine G.sub (lv' := [(0, rv κ this), (1, .int (-1)), (2, .int 0)]) [2, 1, 0] rfl ?_
  refine G.loop (lvf := fun (a1 : Int32 × Int32 × Mem) => [(0, rv κ this), (1, .int a1.1), (2, .int a1.2.1)]) (mf := fun (a1 : Int32 × Int32 × Mem) => a1.2.2) (fun L4_0 hL4_0 a1 => ?_) FU ((-1), 0, M)
  unfold b_X11_bestLevel_4
  refine G_iload_n dX11_bestLevel_4 2 rfl rfl ?_
  refine G_iconst (v := 4) dX11_bestLevel_5 (by decide) ?_
  refine G_icmp_ge (tgt := 51) dX11_bestLevel_6 (by decide) ?_ ?_
  · refine G_iload_n dX11_bestLevel_51 1 rfl rfl ?_
    exact G_ret (v := a1.1) dX11_bestLevel_52 (fun h => by cases h) rfl
  · refine G_aload_n dX11_bestLevel_9 0 rfl rfl ?_
    refine G_iload_n dX11_bestLevel_10 2 rfl rfl ?_
    refine G_iconst (v := 1) dX11_bestLevel_11 (by decide) ?_
    refine G_callV cf_X11 ok_X11_levelPart [.int a1.2.1, .int 1] [] (con_X11_levelPart κ a1.2.2 this a1.2.1 1) rfl w_1136 w_1138 wp_24 (Nat.le_of_ble_eq_true rfl) (Nat.le_of_ble_eq_true rfl) dX11_bestLevel_12 rfl (by simp) (fun x4 M3 => (show G _ _ _ _ _ _ [.int x4] _ from ?_))
    refine G_aload_n dX11_bestLevel_15 0 rfl rfl ?_
    refine G_iload_n dX11_bestLevel_16 2 rfl rfl ?_
    refine G_iconst (v := 0) dX11_bestLevel_17 (by decide) ?_
    refine G_callV cf_X11 ok_X11_levelPart [.int a1.2.1, .int 0] [.int x4] (con_X11_levelPart κ M3 this a1.2.1 0) rfl w_1136 w_1138 wp_24 (Nat.le_of_ble_eq_true rfl) (Nat.le_of_ble_eq_true rfl) dX11_bestLevel_18 rfl (by simp) (fun x6 M5 => (show G _ _ _ _ _ _ [.int x6, .int x4] _ from ?_))
    refine G.jn (P := (fun (J : Int32 → Mem → Option (Int32 × Mem)) => ∀ (x8 : Int32) (M9 : Mem), G κ md_X11_bestLevel cvI (J x8 M9) 45 [(0, rv κ this), (1, .int x8), (2, .int a1.2.1)] [] M9)) ?_ ?_
    · intro x8 M9
      refine G_iinc (v := (a1.2.1 + 1)) (lv' := [(2, .int (a1.2.1 + 1)), (0, rv κ this), (1, .int x8)]) dX11_bestLevel_45 2 rfl (congrArg (fun z9 : Int32 => a1.2.1 + z9) (by decide : Int32.ofInt 1 = 1)) (Nat.le_of_ble_eq_true rfl) rfl ?_
      refine G_goto (tgt := 4) dX11_bestLevel_48 (by decide) ?_
      exact G.sub [1, 2, 0] rfl (hL4_0 _)
    · intro J45_6 hJ45_6
      refine G_icmp_ge (tgt := 45) dX11_bestLevel_21 (by decide) ?_ ?_
      · exact G.sub [0, 1, 2] rfl (hJ45_6 _ _)
      · refine G_iload_n dX11_bestLevel_24 1 rfl rfl ?_
        refine G_iconst (v := (-1)) dX11_bestLevel_25 (by decide) ?_
        refine G.jn (P := (fun (J : Mem → Option (Int32 × Mem)) => ∀ (M11 : Mem), G κ md_X11_bestLevel cvI (J M11) 43 [(0, rv κ this), (2, .int a1.2.1)] [] M11)) ?_ ?_
        · intro M11
          refine G_iload_n dX11_bestLevel_43 1 rfl rfl ?_
          refine G_istore_n (lv' := [(1, .int a1.2.1), (0, rv κ this), (2, .int a1.2.1)]) dX11_bestLevel_44 rfl (Nat.le_of_ble_eq_true rfl) rfl ?_
          exact G.sub [1, 0, 2] rfl (hJ45_6 _ _)
        · intro J43_9 hJ43_9
          refine G_icmp_eq (tgt := 43) dX11_bestLevel_26 (by decide) ?_ ?_
          · exact G.sub [0, 2] rfl (hJ43_9 _)
          · refine G_aload_n dX11_bestLevel_29 0 rfl rfl ?_
            refine G_iload_n dX11_bestLevel_30 2 rfl rfl ?_
            refine G_callV cf_X11 ok_X11_score [.int a1.2.1] [] (con_X11_score κ M5 this a1.2.1) rfl w_1154 w_1156 wp_25 (Nat.le_of_ble_eq_true rfl) (Nat.le_of_ble_eq_true rfl) dX11_bestLevel_31 rfl (by simp) (fun r13 M12 => (show G _ _ _ _ _ _ [.float r13] _ from ?_))
            refine G_aload_n dX11_bestLevel_34 0 rfl rfl ?_
            refine G_iload_n dX11_bestLevel_35 1 rfl rfl ?_
            refine G_callV cf_X11 ok_X11_score [.int a1.1] [.float r13] (con_X11_score κ M12 this a1.1) rfl w_1154 w_1156 wp_25 (Nat.le_of_ble_eq_true rfl) (Nat.le_of_ble_eq_true rfl) dX11_bestLevel_36 rfl (by simp) (fun r15 M14 => (show G _ _ _ _ _ _ [.float r15, .float r13] _ from ?_))
            refine G_fcmp dX11_bestLevel_39 ?_
            refine G_if_le (tgt := 45) dX11_bestLevel_40 (by decide) ?_ ?_
            · exact G.sub [0, 1, 2] rfl (hJ45_6 _ _)
            · exact G.sub [0, 2] rfl (hJ43_9 _)
def m_X11_setCapacity (M : Mem) (this : Option Nat) (p1 : Int32) (p2 : Int32) : Option (Int32 × Mem) :=
  cl (m_X11_in M p1 0 3) (fun (x2 : Int32) (M1 : Mem) => (if x2 = 0 then rt ((-2)) M1 else cl (m_X11_in M1 p2 0 40) (fun (x4 : Int32) (M3 : Mem) => (if x4 ≠ 0 then rc M3 11 this (cl (m_X11_levelPart M3 this p1 1) (fun (x6 : Int32) (M5 : Mem) => (if x6 ≤ p2 then rc M5 11 this (cl (m_X11_levelPart M5 this p1 0) (fun (x8 : Int32) (M7 : Mem) => dP M7 11 0 this (fun (q9 : Option Nat) => sI M7 100 q9 (((153 + (4 * p1)) + 0)) p2 (fun (M10 : Mem) => rt x8 M10)))) else rt ((-3)) M5))) else rt ((-2)) M3))))
abbrev md_X11_setCapacity : MD := (RX11, yX11_setCapacity, cX11_setCapacity, 4, Option.some Jvm.ClassFile.FieldType.int, 1, 22)
theorem ok_X11_setCapacity : MOk md_X11_setCapacity 2 := ⟨by decide +kernel, w_1135, w_11, ⟨by decide +kernel, by decide +kernel⟩, by decide +kernel, rfl⟩
set_option maxRecDepth 100000 in
set_option maxHeartbeats 4000000 in
theorem con_X11_setCapacity (κ : Cfg) (M : Mem) (this : Option Nat) (p1 : Int32) (p2 : Int32) : Con κ md_X11_setCapacity [rv κ this, .int p1, .int p2] M cvI (m_X11_setCapacity M this p1 p2) := by
  refine Con.of ok_X11_setCapacity (ret_I rfl) (by
    intro v hv
    simp only [List.mem_cons, List.not_mem_nil, or_false] at hv
    rcases hv with rfl | rfl | rfl <;> first | rfl | exact rv_cat _ _) (Nat.le_of_ble_eq_true rfl) ?_
  unfold m_X11_setCapacity
  refine G.sub (lv' := [(0, rv κ this), (1, .int p1), (2, .int p2)]) [0, 1, 2] rfl ?_
  refine G_iload_n dX11_setCapacity_0 1 rfl rfl ?_
  refine G_iconst (v := 0) dX11_setCapacity_1 (by decide) ?_
  refine G_iconst (v := 3) dX11_setCapacity_2 (by decide) ?_
  refine G_callS ok_X11_in [.int p1, .int 0, .int 3] [] (con_X11_in κ M p1 0 3) rfl w_993 w_994 (Nat.le_of_ble_eq_true rfl) (Nat.le_of_ble_eq_true rfl) dX11_setCapacity_3 rfl (by simp) (fun x2 M1 => (show G _ _ _ _ _ _ [.int x2] _ from ?_))
  refine G_if_eq (tgt := 19) dX11_setCapacity_6 (by decide) ?_ ?_
  · refine G_bipush (v := (-2)) dX11_setCapacity_19 (by decide) ?_
    exact G_ret (v := ((-2))) dX11_setCapacity_21 (fun h => by cases h) rfl
  · refine G_iload_n dX11_setCapacity_9 2 rfl rfl ?_
    refine G_iconst (v := 0) dX11_setCapacity_10 (by decide) ?_
    refine G_bipush (v := 40) dX11_setCapacity_11 (by decide) ?_
    refine G_callS ok_X11_in [.int p2, .int 0, .int 40] [] (con_X11_in κ M1 p2 0 40) rfl w_993 w_994 (Nat.le_of_ble_eq_true rfl) (Nat.le_of_ble_eq_true rfl) dX11_setCapacity_13 rfl (by simp) (fun x4 M3 => (show G _ _ _ _ _ _ [.int x4] _ from ?_))
    refine G_if_ne (tgt := 22) dX11_setCapacity_16 (by decide) ?_ ?_
    · refine G_aload_n dX11_setCapacity_22 0 rfl rfl ?_
      refine G_iload_n dX11_setCapacity_23 1 rfl rfl ?_
      refine G_iconst (v := 1) dX11_setCapacity_24 (by decide) ?_
      refine G_callV cf_X11 ok_X11_levelPart [.int p1, .int 1] [] (con_X11_levelPart κ M3 this p1 1) rfl w_1136 w_1138 wp_24 (Nat.le_of_ble_eq_true rfl) (Nat.le_of_ble_eq_true rfl) dX11_setCapacity_25 rfl (by simp) (fun x6 M5 => (show G _ _ _ _ _ _ [.int x6] _ from ?_))
      refine G_iload_n dX11_setCapacity_28 2 rfl rfl ?_
      refine G_icmp_le (tgt := 35) dX11_setCapacity_29 (by decide) ?_ ?_
      · refine G_aload_n dX11_setCapacity_35 0 rfl rfl ?_
        refine G_iload_n dX11_setCapacity_36 1 rfl rfl ?_
        refine G_iconst (v := 0) dX11_setCapacity_37 (by decide) ?_
        refine G_callV cf_X11 ok_X11_levelPart [.int p1, .int 0] [] (con_X11_levelPart κ M5 this p1 0) rfl w_1136 w_1138 wp_24 (Nat.le_of_ble_eq_true rfl) (Nat.le_of_ble_eq_true rfl) dX11_setCapacity_38 rfl (by simp) (fun x8 M7 => (show G _ _ _ _ _ _ [.int x8] _ from ?_))
        refine G_istore_n (lv' := [(3, .int x8), (0, rv κ this), (1, .int p1), (2, .int p2)]) dX11_setCapacity_41 rfl (Nat.le_of_ble_eq_true rfl) rfl ?_
        refine G_aload_n dX11_setCapacity_42 1 rfl rfl ?_
        refine G_getP cf_X11 (j := 0) rfl w_917 dX11_setCapacity_43 (fun q9 => ?_)
        refine G_sipush (v := 153) dX11_setCapacity_46 (by decide) ?_
        refine G_iconst (v := 4) dX11_setCapacity_49 (by decide) ?_
        refine G_iload_n dX11_setCapacity_50 2 rfl rfl ?_
        refine G_imul dX11_setCapacity_51 ?_
        refine G_iadd dX11_setCapacity_52 ?_
        refine G_iconst (v := 0) dX11_setCapacity_53 (by decide) ?_
        refine G_iadd dX11_setCapacity_54 ?_
        refine G_iload_n dX11_setCapacity_55 3 rfl rfl ?_
        refine G_iast dX11_setCapacity_56 (fun M10 => ?_)
        refine G_iload_n dX11_setCapacity_57 0 rfl rfl ?_
        exact G_ret (v := x8) dX11_setCapacity_58 (fun h => by cases h) rfl
      · refine G_bipush (v := (-3)) dX11_setCapacity_32 (by decide) ?_
        exact G_ret (v := ((-3))) dX11_setCapacity_34 (fun h => by cases h) rfl
    · refine G_bipush (v := (-2)) dX11_setCapacity_19 (by decide) ?_
      exact G_ret (v := ((-2))) dX11_setCapacity_21 (fun h => by cases h) rfl
def m_X11_forecast (M : Mem) (this : Option Nat) (p1 : Int32) (p2 : Int32) : Option (Int32 × Mem) :=
  cl (m_X11_in M p1 0 3) (fun (x2 : Int32) (M1 : Mem) => (if x2 = 0 then rt ((-2)) M1 else cl (m_X11_in M1 p2 0 600) (fun (x4 : Int32) (M3 : Mem) => (if x4 ≠ 0 then rc M3 11 this (cl (m_X11_levelPart M3 this p1 1) (fun (x6 : Int32) (M5 : Mem) => dP M5 11 2 this (fun (q7 : Option Nat) => aF M5 102 q7 p1 (fun (r8 : UInt32) => o_fmul r8 ((FP.i2f p2)) (fun (r9 : UInt32) => o_fdiv r9 1114636288 (fun (r10 : UInt32) => o_fsub ((FP.i2f x6)) r10 (fun (r11 : UInt32) => (if 0 ≤ (FP.f2i r11) then rt ((FP.f2i r11)) M5 else rt 0 M5)))))))) else rt ((-2)) M3))))
abbrev md_X11_forecast : MD := (RX11, yX11_forecast, cX11_forecast, 4, Option.some Jvm.ClassFile.FieldType.int, 1, 22)
theorem ok_X11_forecast : MOk md_X11_forecast 2 := ⟨by decide +kernel, w_1162, w_11, ⟨by decide +kernel, by decide +kernel⟩, by decide +kernel, rfl⟩
set_option maxRecDepth 100000 in
set_option maxHeartbeats 4000000 in
theorem con_X11_forecast (κ : Cfg) (M : Mem) (this : Option Nat) (p1 : Int32) (p2 : Int32) : Con κ md_X11_forecast [rv κ this, .int p1, .int p2] M cvI (m_X11_forecast M this p1 p2) := by
  refine Con.of ok_X11_forecast (ret_I rfl) (by
    intro v hv
    simp only [List.mem_cons, List.not_mem_nil, or_false] at hv
    rcases hv with rfl | rfl | rfl <;> first | rfl | exact rv_cat _ _) (Nat.le_of_ble_eq_true rfl) ?_
  unfold m_X11_forecast
  refine G.sub (lv' := [(0, rv κ this), (1, .int p1), (2, .int p2)]) [0, 1, 2] rfl ?_
  refine G_iload_n dX11_forecast_0 1 rfl rfl ?_
  refine G_iconst (v := 0) dX11_forecast_1 (by decide) ?_
  refine G_iconst (v := 3) dX11_forecast_2 (by decide) ?_
  refine G_callS ok_X11_in [.int p1, .int 0, .int 3] [] (con_X11_in κ M p1 0 3) rfl w_993 w_994 (Nat.le_of_ble_eq_true rfl) (Nat.le_of_ble_eq_true rfl) dX11_forecast_3 rfl (by simp) (fun x2 M1 => (show G _ _ _ _ _ _ [.int x2] _ from ?_))
  refine G_if_eq (tgt := 20) dX11_forecast_6 (by decide) ?_ ?_
  · refine G_bipush (v := (-2)) dX11_forecast_20 (by decide) ?_
    exact G_ret (v := ((-2))) dX11_forecast_22 (fun h => by cases h) rfl
  · refine G_iload_n dX11_forecast_9 2 rfl rfl ?_
    refine G_iconst (v := 0) dX11_forecast_10 (by decide) ?_
    refine G_sipush (v := 600) dX11_forecast_11 (by decide) ?_
    refine G_callS ok_X11_in [.int p2, .int 0, .int 600] [] (con_X11_in κ M1 p2 0 600) rfl w_993 w_994 (Nat.le_of_ble_eq_true rfl) (Nat.le_of_ble_eq_true rfl) dX11_forecast_14 rfl (by simp) (fun x4 M3 => (show G _ _ _ _ _ _ [.int x4] _ from ?_))
    refine G_if_ne (tgt := 23) dX11_forecast_17 (by decide) ?_ ?_
    · refine G_aload_n dX11_forecast_23 0 rfl rfl ?_
      refine G_iload_n dX11_forecast_24 1 rfl rfl ?_
      refine G_iconst (v := 1) dX11_forecast_25 (by decide) ?_
      refine G_callV cf_X11 ok_X11_levelPart [.int p1, .int 1] [] (con_X11_levelPart κ M3 this p1 1) rfl w_1136 w_1138 wp_24 (Nat.le_of_ble_eq_true rfl) (Nat.le_of_ble_eq_true rfl) dX11_forecast_26 rfl (by simp) (fun x6 M5 => (show G _ _ _ _ _ _ [.int x6] _ from ?_))
      refine G_i2f dX11_forecast_29 ?_
      refine G_aload_n dX11_forecast_30 0 rfl rfl ?_
      refine G_getP cf_X11 (j := 2) rfl w_919 dX11_forecast_31 (fun q7 => ?_)
      refine G_iload_n dX11_forecast_34 1 rfl rfl ?_
      refine G_fald dX11_forecast_35 (fun r8 => ?_)
      refine G_iload_n dX11_forecast_36 2 rfl rfl ?_
      refine G_i2f dX11_forecast_37 ?_
      refine G_fmul dX11_forecast_38 (fun r9 => ?_)
      refine G_ldcf (v := 1114636288) dX11_forecast_39 w_1163 ?_
      refine G_fdiv dX11_forecast_41 (fun r10 => ?_)
      refine G_fsub dX11_forecast_42 (fun r11 => ?_)
      refine G_f2i dX11_forecast_43 ?_
      refine G_istore_n (lv' := [(3, .int (FP.f2i r11)), (0, rv κ this), (1, .int p1), (2, .int p2)]) dX11_forecast_44 rfl (Nat.le_of_ble_eq_true rfl) rfl ?_
      refine G_iload_n dX11_forecast_45 0 rfl rfl ?_
      refine G_if_ge (tgt := 53) dX11_forecast_46 (by decide) ?_ ?_
      · refine G_iload_n dX11_forecast_53 0 rfl rfl ?_
        exact G_ret (v := ((FP.f2i r11))) dX11_forecast_54 (fun h => by cases h) rfl
      · refine G_iconst (v := 0) dX11_forecast_49 (by decide) ?_
        refine G_goto (tgt := 54) dX11_forecast_50 (by decide) ?_
        exact G_ret (v := 0) dX11_forecast_54 (fun h => by cases h) rfl
    · refine G_bipush (v := (-2)) dX11_forecast_20 (by decide) ?_
      exact G_ret (v := ((-2))) dX11_forecast_22 (fun h => by cases h) rfl
def m_X11_item (M : Mem) (this : Option Nat) (p1 : Int32) (p2 : Int32) : Option (Int32 × Mem) :=
  dP M 11 0 this (fun (q1 : Option Nat) => aI M 100 q1 (((169 + (12 * p1)) + p2)) (fun (x2 : Int32) => rt x2 M))
abbrev md_X11_item : MD := (RX11, yX11_item, cX11_item, 3, Option.some Jvm.ClassFile.FieldType.int, 0, 0)
theorem ok_X11_item : MOk md_X11_item 2 := ⟨by decide +kernel, w_1191, w_11, ⟨by decide +kernel, by decide +kernel⟩, by decide +kernel, rfl⟩
set_option maxRecDepth 100000 in
set_option maxHeartbeats 4000000 in
theorem con_X11_item (κ : Cfg) (M : Mem) (this : Option Nat) (p1 : Int32) (p2 : Int32) : Con κ md_X11_item [rv κ this, .int p1, .int p2] M cvI (m_X11_item M this p1 p2) := by
  refine Con.of ok_X11_item (ret_I rfl) (by
    intro v hv
    simp only [List.mem_cons, List.not_mem_nil, or_false] at hv
    rcases hv with rfl | rfl | rfl <;> first | rfl | exact rv_cat _ _) (Nat.le_of_ble_eq_true rfl) ?_
  unfold m_X11_item
  refine G.sub (lv' := [(0, rv κ this), (1, .int p1), (2, .int p2)]) [0, 1, 2] rfl ?_
  refine G_aload_n dX11_item_0 0 rfl rfl ?_
  refine G_getP cf_X11 (j := 0) rfl w_917 dX11_item_1 (fun q1 => ?_)
  refine G_sipush (v := 169) dX11_item_4 (by decide) ?_
  refine G_bipush (v := 12) dX11_item_7 (by decide) ?_
  refine G_iload_n dX11_item_9 1 rfl rfl ?_
  refine G_imul dX11_item_10 ?_
  refine G_iadd dX11_item_11 ?_
  refine G_iload_n dX11_item_12 2 rfl rfl ?_
  refine G_iadd dX11_item_13 ?_
  refine G_iald dX11_item_14 (fun x2 => ?_)
  exact G_ret (v := x2) dX11_item_15 (fun h => by cases h) rfl
def m_X11_set (M : Mem) (this : Option Nat) (p1 : Int32) (p2 : Int32) (p3 : Int32) : Option (Unit × Mem) :=
  dP M 11 0 this (fun (q1 : Option Nat) => sI M 100 q1 (((169 + (12 * p1)) + p2)) p3 (fun (M2 : Mem) => rt () M2))
abbrev md_X11_set : MD := (RX11, yX11_set, cX11_set, 4, Option.none, 0, 0)
theorem ok_X11_set : MOk md_X11_set 3 := ⟨by decide +kernel, w_1179, w_11, ⟨by decide +kernel, by decide +kernel⟩, by decide +kernel, rfl⟩
set_option maxRecDepth 100000 in
set_option maxHeartbeats 4000000 in
theorem con_X11_set (κ : Cfg) (M : Mem) (this : Option Nat) (p1 : Int32) (p2 : Int32) (p3 : Int32) : Con κ md_X11_set [rv κ this, .int p1, .int p2, .int p3] M cvV (m_X11_set M this p1 p2 p3) := by
  refine Con.of ok_X11_set (ret_V rfl) (by
    intro v hv
    simp only [List.mem_cons, List.not_mem_nil, or_false] at hv
    rcases hv with rfl | rfl | rfl | rfl <;> first | rfl | exact rv_cat _ _) (Nat.le_of_ble_eq_true rfl) ?_
  unfold m_X11_set
  refine G.sub (lv' := [(0, rv κ this), (1, .int p1), (2, .int p2), (3, .int p3)]) [0, 1, 2, 3] rfl ?_
  refine G_aload_n dX11_set_0 0 rfl rfl ?_
  refine G_getP cf_X11 (j := 0) rfl w_917 dX11_set_1 (fun q1 => ?_)
  refine G_sipush (v := 169) dX11_set_4 (by decide) ?_
  refine G_bipush (v := 12) dX11_set_7 (by decide) ?_
  refine G_iload_n dX11_set_9 1 rfl rfl ?_
  refine G_imul dX11_set_10 ?_
  refine G_iadd dX11_set_11 ?_
  refine G_iload_n dX11_set_12 2 rfl rfl ?_
  refine G_iadd dX11_set_13 ?_
  refine G_iload_n dX11_set_14 3 rfl rfl ?_
  refine G_iast dX11_set_15 (fun M2 => ?_)
  exact G_ret (v := ()) dX11_set_16 (fun h => by cases h) rfl
def m_X11_isInside (M : Mem) (this : Option Nat) (p1 : Int32) : Option (Int32 × Mem) :=
  dP M 11 0 this (fun (q1 : Option Nat) => aI M 100 q1 1 (fun (x2 : Int32) => cl (m_X11_in M p1 0 ((x2 - 1))) (fun (x4 : Int32) (M3 : Mem) => (if x4 = 0 then rtZ 0 M3 else rc M3 11 this (cl (m_X11_item M3 this p1 5) (fun (x6 : Int32) (M5 : Mem) => (if x6 ≠ 0 then rtZ 0 M5 else rtZ 1 M5)))))))
abbrev md_X11_isInside : MD := (RX11, yX11_isInside, cX11_isInside, 2, Option.some Jvm.ClassFile.FieldType.boolean, 1, 22)
theorem ok_X11_isInside : MOk md_X11_isInside 1 := ⟨by decide +kernel, w_1187, w_11, ⟨by decide +kernel, by decide +kernel⟩, by decide +kernel, rfl⟩
set_option maxRecDepth 100000 in
set_option maxHeartbeats 4000000 in
theorem con_X11_isInside (κ : Cfg) (M : Mem) (this : Option Nat) (p1 : Int32) : Con κ md_X11_isInside [rv κ this, .int p1] M cvI (m_X11_isInside M this p1) := by
  refine Con.of ok_X11_isInside (ret_Z rfl) (by
    intro v hv
    simp only [List.mem_cons, List.not_mem_nil, or_false] at hv
    rcases hv with rfl | rfl <;> first | rfl | exact rv_cat _ _) (Nat.le_of_ble_eq_true rfl) ?_
  unfold m_X11_isInside
  refine G.sub (lv' := [(0, rv κ this), (1, .int p1)]) [0, 1] rfl ?_
  refine G_iload_n dX11_isInside_0 1 rfl rfl ?_
  refine G_iconst (v := 0) dX11_isInside_1 (by decide) ?_
  refine G_aload_n dX11_isInside_2 0 rfl rfl ?_
  refine G_getP cf_X11 (j := 0) rfl w_917 dX11_isInside_3 (fun q1 => ?_)
  refine G_iconst (v := 1) dX11_isInside_6 (by decide) ?_
  refine G_iald dX11_isInside_7 (fun x2 => ?_)
  refine G_iconst (v := 1) dX11_isInside_8 (by decide) ?_
  refine G_isub dX11_isInside_9 ?_
  refine G_callS ok_X11_in [.int p1, .int 0, .int (x2 - 1)] [] (con_X11_in κ M p1 0 ((x2 - 1))) rfl w_993 w_994 (Nat.le_of_ble_eq_true rfl) (Nat.le_of_ble_eq_true rfl) dX11_isInside_10 rfl (by simp) (fun x4 M3 => (show G _ _ _ _ _ _ [.int x4] _ from ?_))
  refine G_if_eq (tgt := 29) dX11_isInside_13 (by decide) ?_ ?_
  · refine G_iconst (v := 0) dX11_isInside_29 (by decide) ?_
    exact G_retZ dX11_isInside_30
  · refine G_aload_n dX11_isInside_16 0 rfl rfl ?_
    refine G_iload_n dX11_isInside_17 1 rfl rfl ?_
    refine G_iconst (v := 5) dX11_isInside_18 (by decide) ?_
    refine G_callV cf_X11 ok_X11_item [.int p1, .int 5] [] (con_X11_item κ M3 this p1 5) rfl w_1188 w_1190 wp_30 (Nat.le_of_ble_eq_true rfl) (Nat.le_of_ble_eq_true rfl) dX11_isInside_19 rfl (by simp) (fun x6 M5 => (show G _ _ _ _ _ _ [.int x6] _ from ?_))
    refine G_if_ne (tgt := 29) dX11_isInside_22 (by decide) ?_ ?_
    · refine G_iconst (v := 0) dX11_isInside_29 (by decide) ?_
      exact G_retZ dX11_isInside_30
    · refine G_iconst (v := 1) dX11_isInside_25 (by decide) ?_
      refine G_goto (tgt := 30) dX11_isInside_26 (by decide) ?_
      exact G_retZ dX11_isInside_30
def m_X11_inside (M : Mem) (this : Option Nat) : Option (Int32 × Mem) :=
  dP M 11 0 this (fun (q1 : Option Nat) => aI M 100 q1 1 (fun (x2 : Int32) => dP M 11 0 this (fun (q3 : Option Nat) => aI M 100 q3 2 (fun (x4 : Int32) => rt ((x2 - x4)) M))))
abbrev md_X11_inside : MD := (RX11, yX11_inside, cX11_inside, 1, Option.some Jvm.ClassFile.FieldType.int, 0, 0)
theorem ok_X11_inside : MOk md_X11_inside 0 := ⟨by decide +kernel, w_1175, w_11, ⟨by decide +kernel, by decide +kernel⟩, by decide +kernel, rfl⟩
set_option maxRecDepth 100000 in
set_option maxHeartbeats 4000000 in
theorem con_X11_inside (κ : Cfg) (M : Mem) (this : Option Nat) : Con κ md_X11_inside [rv κ this] M cvI (m_X11_inside M this) := by
  refine Con.of ok_X11_inside (ret_I rfl) (by
    intro v hv
    simp only [List.mem_cons, List.not_mem_nil, or_false] at hv
    subst hv; first | rfl | exact rv_cat _ _) (Nat.le_of_ble_eq_true rfl) ?_
  unfold m_X11_inside
  refine G.sub (lv' := [(0, rv κ this)]) [0] rfl ?_
  refine G_aload_n dX11_inside_0 0 rfl rfl ?_
  refine G_getP cf_X11 (j := 0) rfl w_917 dX11_inside_1 (fun q1 => ?_)
  refine G_iconst (v := 1) dX11_inside_4 (by decide) ?_
  refine G_iald dX11_inside_5 (fun x2 => ?_)
  refine G_aload_n dX11_inside_6 0 rfl rfl ?_
  refine G_getP cf_X11 (j := 0) rfl w_917 dX11_inside_7 (fun q3 => ?_)
  refine G_iconst (v := 2) dX11_inside_10 (by decide) ?_
  refine G_iald dX11_inside_11 (fun x4 => ?_)
  refine G_isub dX11_inside_12 ?_
  exact G_ret (v := ((x2 - x4))) dX11_inside_13 (fun h => by cases h) rfl
def b_X11_enter_42 (this : Option Nat) (x8 : Int32) (J63_8 : Mem → Option (Int32 × Mem)) (L42_25 : (Int32 × Mem) → Option (Int32 × Mem)) (a26 : Int32 × Mem) : Option (Int32 × Mem) :=
  (if 12 ≤ a26.1 then J63_8 a26.2 else rc a26.2 11 this (cl (m_X11_set a26.2 this x8 a26.1 0) (fun (_u : Unit) (M28 : Mem) => L42_25 ((a26.1 + 1), M28))))
def m_X11_enter (M : Mem) (this : Option Nat) (p1 : Int32) : Option (Int32 × Mem) :=
  cl (m_X11_isPlan M p1) (fun (x2 : Int32) (M1 : Mem) => (if x2 ≠ 0 then rc M1 11 this (cl (m_X11_bestLevel M1 this) (fun (x4 : Int32) (M3 : Mem) => rc M3 11 this (cl (m_X11_inside M3 this) (fun (x6 : Int32) (M5 : Mem) => (if x6 = 40 then rt ((-3)) M5 else (if x4 ≠ (-1) then dP M5 11 0 this (fun (q7 : Option Nat) => aI M5 100 q7 1 (fun (x8 : Int32) => jn (fun (M10 : Mem) => rc M10 11 this (cl (m_X11_set M10 this x8 0 p1) (fun (_u : Unit) (M11 : Mem) => dP M11 11 0 this (fun (q12 : Option Nat) => aI M11 100 q12 0 (fun (x13 : Int32) => rc M11 11 this (cl (m_X11_set M11 this x8 1 x13) (fun (_u : Unit) (M14 : Mem) => rc M14 11 this (cl (m_X11_set M14 this x8 2 x4) (fun (_u : Unit) (M15 : Mem) => rc M15 11 this (cl (m_X11_set M15 this x8 7 ((-1))) (fun (_u : Unit) (M16 : Mem) => dP M16 11 0 this (fun (q17 : Option Nat) => aI M16 100 q17 1 (fun (x18 : Int32) => sI M16 100 q17 1 ((x18 + 1)) (fun (M19 : Mem) => dP M19 11 0 this (fun (q20 : Option Nat) => aI M19 100 q20 (((153 + (4 * x4)) + 1)) (fun (x21 : Int32) => sI M19 100 q20 (((153 + (4 * x4)) + 1)) ((x21 + 1)) (fun (M22 : Mem) => dP M22 11 0 this (fun (q23 : Option Nat) => aI M22 100 q23 (((153 + (4 * x4)) + 3)) (fun (x24 : Int32) => sI M22 100 q23 (((153 + (4 * x4)) + 3)) ((x24 + 1)) (fun (M25 : Mem) => rt x8 M25)))))))))))))))))))) (fun (J63_8 : Mem → Option (Int32 × Mem)) => lp (b_X11_enter_42 this x8 J63_8) FU (0, M5)))) else rt ((-3)) M5)))))) else rt ((-2)) M1))
abbrev md_X11_enter : MD := (RX11, yX11_enter, cX11_enter, 5, Option.some Jvm.ClassFile.FieldType.int, 3, 65)
theorem ok_X11_enter : MOk md_X11_enter 1 := ⟨by decide +kernel, w_1167, w_11, ⟨by decide +kernel, by decide +kernel⟩, by decide +kernel, rfl⟩
set_option maxRecDepth 100000 in
set_option maxHeartbeats 4000000 in
theorem con_X11_enter (κ : Cfg) (M : Mem) (this : Option Nat) (p1 : Int32) : Con κ md_X11_enter [rv κ this, .int p1] M cvI (m_X11_enter M this p1) := by
  refine Con.of ok_X11_enter (ret_I rfl) (by
    intro v hv
    simp only [List.mem_cons, List.not_mem_nil, or_false] at hv
    rcases hv with rfl | rfl <;> first | rfl | exact rv_cat _ _) (Nat.le_of_ble_eq_true rfl) ?_
  unfold m_X11_enter
  refine G.sub (lv' := [(0, rv κ this), (1, .int p1)]) [0, 1] rfl ?_
  refine G_iload_n dX11_enter_0 1 rfl rfl ?_
  refine G_callS ok_X11_isPlan [.int p1] [] (con_X11_isPlan κ M p1) rfl w_990 w_991 (Nat.le_of_ble_eq_true rfl) (Nat.le_of_ble_eq_true rfl) dX11_enter_1 rfl (by simp) (fun x2 M1 => (show G _ _ _ _ _ _ [.int x2] _ from ?_))
  refine G_if_ne (tgt := 10) dX11_enter_4 (by decide) ?_ ?_
  · refine G_aload_n dX11_enter_10 0 rfl rfl ?_
    refine G_callV cf_X11 ok_X11_bestLevel [] [] (con_X11_bestLevel κ M1 this) rfl w_1168 w_1170 wp_26 (Nat.le_of_ble_eq_true rfl) (Nat.le_of_ble_eq_true rfl) dX11_enter_11 rfl (by simp) (fun x4 M3 => (show G _ _ _ _ _ _ [.int x4] _ from ?_))
    refine G_istore_n (lv' := [(2, .int x4), (0, rv κ this), (1, .int p1)]) dX11_enter_14 rfl (Nat.le_of_ble_eq_true rfl) rfl ?_
    refine G_aload_n dX11_enter_15 1 rfl rfl ?_
    refine G_callV cf_X11 ok_X11_inside [] [] (con_X11_inside κ M3 this) rfl w_1172 w_1174 wp_27 (Nat.le_of_ble_eq_true rfl) (Nat.le_of_ble_eq_true rfl) dX11_enter_16 rfl (by simp) (fun x6 M5 => (show G _ _ _ _ _ _ [.int x6] _ from ?_))
    refine G_bipush (v := 40) dX11_enter_19 (by decide) ?_
    refine G_icmp_eq (tgt := 29) dX11_enter_21 (by decide) ?_ ?_
    · refine G_bipush (v := (-3)) dX11_enter_29 (by decide) ?_
      exact G_ret (v := ((-3))) dX11_enter_31 (fun h => by cases h) rfl
    · refine G_iload_n dX11_enter_24 0 rfl rfl ?_
      refine G_iconst (v := (-1)) dX11_enter_25 (by decide) ?_
      refine G_icmp_ne (tgt := 32) dX11_enter_26 (by decide) ?_ ?_
      · refine G_aload_n dX11_enter_32 1 rfl rfl ?_
        refine G_getP cf_X11 (j := 0) rfl w_917 dX11_enter_33 (fun q7 => ?_)
        refine G_iconst (v := 1) dX11_enter_36 (by decide) ?_
        refine G_iald dX11_enter_37 (fun x8 => ?_)
        refine G_istore_n (lv' := [(3, .int x8), (2, .int x4), (0, rv κ this), (1, .int p1)]) dX11_enter_38 rfl (Nat.le_of_ble_eq_true rfl) rfl ?_
        refine G_iconst (v := 0) dX11_enter_39 (by decide) ?_
        refine G_istore (lv' := [(4, .int 0), (3, .int x8), (2, .int x4), (0, rv κ this), (1, .int p1)]) dX11_enter_40 (Nat.le_of_ble_eq_true rfl) rfl ?_
        refine G.jn (P := (fun (J : Mem → Option (Int32 × Mem)) => ∀ (M10 : Mem), G κ md_X11_enter cvI (J M10) 63 [(0, rv κ this), (1, .int p1), (2, .int x4), (3, .int x8)] [] M10)) ?_ ?_
        · intro M10
          refine G_aload_n dX11_enter_63 0 rfl rfl ?_
          refine G_iload_n dX11_enter_64 3 rfl rfl ?_
          refine G_iconst (v := 0) dX11_enter_65 (by decide) ?_
          refine G_iload_n dX11_enter_66 1 rfl rfl ?_
          refine G_callV cf_X11 ok_X11_set [.int x8, .int 0, .int p1] [] (con_X11_set κ M10 this x8 0 p1) rfl w_1176 w_1178 wp_28 (Nat.le_of_ble_eq_true rfl) (Nat.le_of_ble_eq_true rfl) dX11_enter_67 rfl (by simp) (fun _u M11 => (show G _ _ _ _ _ _ [] _ from ?_))
          refine G_aload_n dX11_enter_70 0 rfl rfl ?_
          refine G_iload_n dX11_enter_71 3 rfl rfl ?_
          refine G_iconst (v := 1) dX11_enter_72 (by decide) ?_
          refine G_aload_n dX11_enter_73 0 rfl rfl ?_
          refine G_getP cf_X11 (j := 0) rfl w_917 dX11_enter_74 (fun q12 => ?_)
          refine G_iconst (v := 0) dX11_enter_77 (by decide) ?_
          refine G_iald dX11_enter_78 (fun x13 => ?_)
          refine G_callV cf_X11 ok_X11_set [.int x8, .int 1, .int x13] [] (con_X11_set κ M11 this x8 1 x13) rfl w_1176 w_1178 wp_28 (Nat.le_of_ble_eq_true rfl) (Nat.le_of_ble_eq_true rfl) dX11_enter_79 rfl (by simp) (fun _u M14 => (show G _ _ _ _ _ _ [] _ from ?_))
          refine G_aload_n dX11_enter_82 0 rfl rfl ?_
          refine G_iload_n dX11_enter_83 3 rfl rfl ?_
          refine G_iconst (v := 2) dX11_enter_84 (by decide) ?_
          refine G_iload_n dX11_enter_85 2 rfl rfl ?_
          refine G_callV cf_X11 ok_X11_set [.int x8, .int 2, .int x4] [] (con_X11_set κ M14 this x8 2 x4) rfl w_1176 w_1178 wp_28 (Nat.le_of_ble_eq_true rfl) (Nat.le_of_ble_eq_true rfl) dX11_enter_86 rfl (by simp) (fun _u M15 => (show G _ _ _ _ _ _ [] _ from ?_))
          refine G_aload_n dX11_enter_89 0 rfl rfl ?_
          refine G_iload_n dX11_enter_90 3 rfl rfl ?_
          refine G_bipush (v := 7) dX11_enter_91 (by decide) ?_
          refine G_iconst (v := (-1)) dX11_enter_93 (by decide) ?_
          refine G_callV cf_X11 ok_X11_set [.int x8, .int 7, .int (-1)] [] (con_X11_set κ M15 this x8 7 ((-1))) rfl w_1176 w_1178 wp_28 (Nat.le_of_ble_eq_true rfl) (Nat.le_of_ble_eq_true rfl) dX11_enter_94 rfl (by simp) (fun _u M16 => (show G _ _ _ _ _ _ [] _ from ?_))
          refine G_aload_n dX11_enter_97 0 rfl rfl ?_
          refine G_getP cf_X11 (j := 0) rfl w_917 dX11_enter_98 (fun q17 => ?_)
          refine G_iconst (v := 1) dX11_enter_101 (by decide) ?_
          refine G_dup2 dX11_enter_102 rfl (rv_cat _ _) ?_
          refine G_iald dX11_enter_103 (fun x18 => ?_)
          refine G_iconst (v := 1) dX11_enter_104 (by decide) ?_
          refine G_iadd dX11_enter_105 ?_
          refine G_iast dX11_enter_106 (fun M19 => ?_)
          refine G_aload_n dX11_enter_107 0 rfl rfl ?_
          refine G_getP cf_X11 (j := 0) rfl w_917 dX11_enter_108 (fun q20 => ?_)
          refine G_sipush (v := 153) dX11_enter_111 (by decide) ?_
          refine G_iconst (v := 4) dX11_enter_114 (by decide) ?_
          refine G_iload_n dX11_enter_115 2 rfl rfl ?_
          refine G_imul dX11_enter_116 ?_
          refine G_iadd dX11_enter_117 ?_
          refine G_iconst (v := 1) dX11_enter_118 (by decide) ?_
          refine G_iadd dX11_enter_119 ?_
          refine G_dup2 dX11_enter_120 rfl (rv_cat _ _) ?_
          refine G_iald dX11_enter_121 (fun x21 => ?_)
          refine G_iconst (v := 1) dX11_enter_122 (by decide) ?_
          refine G_iadd dX11_enter_123 ?_
          refine G_iast dX11_enter_124 (fun M22 => ?_)
          refine G_aload_n dX11_enter_125 0 rfl rfl ?_
          refine G_getP cf_X11 (j := 0) rfl w_917 dX11_enter_126 (fun q23 => ?_)
          refine G_sipush (v := 153) dX11_enter_129 (by decide) ?_
          refine G_iconst (v := 4) dX11_enter_132 (by decide) ?_
          refine G_iload_n dX11_enter_133 2 rfl rfl ?_
          refine G_imul dX11_enter_134 ?_
          refine G_iadd dX11_enter_135 ?_
          refine G_iconst (v := 3) dX11_enter_136 (by decide) ?_
          refine G_iadd dX11_enter_137 ?_
          refine G_dup2 dX11_enter_138 rfl (rv_cat _ _) ?_
          refine G_iald dX11_enter_139 (fun x24 => ?_)
          refine G_iconst (v := 1) dX11_enter_140 (by decide) ?_
          refine G_iadd dX11_enter_141 ?_
          refine G_iast dX11_enter_142 (fun M25 => ?_)
          refine G_iload_n dX11_enter_143 3 rfl rfl ?_
          exact G_ret (v := x8) dX11_enter_144 (fun h => by cases h) rfl
        · intro J63_8 hJ63_8
          refine G.sub (lv' := [(0, rv κ this), (1, .int p1), (2, .int x4), (3, .int x8), (4, .int 0)]) [3, 4, 2, 1, 0] rfl ?_
          refine G.loop (lvf := fun (a26 : Int32 × Mem) => [(0, rv κ this), (1, .int p1), (2, .int x4), (3, .int x8), (4, .int a26.1)]) (mf := fun (a26 : Int32 × Mem) => a26.2) (fun L42_25 hL42_25 a26 => ?_) FU (0, M5)
          unfold b_X11_enter_42
          refine G_iload dX11_enter_42 4 rfl ?_
          refine G_bipush (v := 12) dX11_enter_44 (by decide) ?_
          refine G_icmp_ge (tgt := 63) dX11_enter_46 (by decide) ?_ ?_
          · exact G.sub [0, 1, 2, 3] rfl (hJ63_8 _)
          · refine G_aload_n dX11_enter_49 0 rfl rfl ?_
            refine G_iload_n dX11_enter_50 3 rfl rfl ?_
            refine G_iload dX11_enter_51 4 rfl ?_
            refine G_iconst (v := 0) dX11_enter_53 (by decide) ?_
            refine G_callV cf_X11 ok_X11_set [.int x8, .int a26.1, .int 0] [] (con_X11_set κ a26.2 this x8 a26.1 0) rfl w_1176 w_1178 wp_28 (Nat.le_of_ble_eq_true rfl) (Nat.le_of_ble_eq_true rfl) dX11_enter_54 rfl (by simp) (fun _u M28 => (show G _ _ _ _ _ _ [] _ from ?_))
            refine G_iinc (v := (a26.1 + 1)) (lv' := [(4, .int (a26.1 + 1)), (0, rv κ this), (1, .int p1), (2, .int x4), (3, .int x8)]) dX11_enter_57 4 rfl (congrArg (fun z9 : Int32 => a26.1 + z9) (by decide : Int32.ofInt 1 = 1)) (Nat.le_of_ble_eq_true rfl) rfl ?_
            refine G_goto (tgt := 42) dX11_enter_60 (by decide) ?_
            exact G.sub [1, 2, 3, 4, 0] rfl (hL42_25 _)
      · refine G_bipush (v := (-3)) dX11_enter_29 (by decide) ?_
        exact G_ret (v := ((-3))) dX11_enter_31 (fun h => by cases h) rfl
  · refine G_bipush (v := (-2)) dX11_enter_7 (by decide) ?_
    exact G_ret (v := ((-2))) dX11_enter_9 (fun h => by cases h) rfl
def m_X11_give (M : Mem) (this : Option Nat) (p1 : Int32) (p2 : Int32) (p3 : Int32) : Option (Int32 × Mem) :=
  rc M 11 this (cl (m_X11_isInside M this p1) (fun (x2 : Int32) (M1 : Mem) => (if x2 = 0 then rt ((-1)) M1 else rc M1 11 this (cl (m_X11_inFolder M1 this p2 p3) (fun (x4 : Int32) (M3 : Mem) => (if x4 ≠ (-1) then rc M3 11 this (cl (m_X11_item M3 this p1 6) (fun (x6 : Int32) (M5 : Mem) => (if x6 ≠ 1 then rc M5 11 this (cl (m_X11_item M5 this p1 4) (fun (x8 : Int32) (M7 : Mem) => (if x8 ≠ 4 then rc M7 11 this (cl (m_X11_inFolder M7 this p2 p3) (fun (x10 : Int32) (M9 : Mem) => rc M9 11 this (cl (m_X11_set M9 this p1 ((8 + x8)) x10) (fun (_u : Unit) (M11 : Mem) => rc M11 11 this (cl (m_X11_set M11 this p1 4 ((x8 + 1))) (fun (_u : Unit) (M12 : Mem) => dP M12 11 0 this (fun (q13 : Option Nat) => aI M12 100 q13 (((102 + (3 * x10)) + 2)) (fun (x14 : Int32) => sI M12 100 q13 (((102 + (3 * x10)) + 2)) ((x14 + 1)) (fun (M15 : Mem) => rt ((x8 + 1)) M15))))))))) else rt ((-3)) M7))) else rt ((-4)) M5))) else rt ((-1)) M3))))))
abbrev md_X11_give : MD := (RX11, yX11_give, cX11_give, 6, Option.some Jvm.ClassFile.FieldType.int, 3, 66)
theorem ok_X11_give : MOk md_X11_give 3 := ⟨by decide +kernel, w_1183, w_11, ⟨by decide +kernel, by decide +kernel⟩, by decide +kernel, rfl⟩
set_option maxRecDepth 100000 in
set_option maxHeartbeats 4000000 in
theorem con_X11_give (κ : Cfg) (M : Mem) (this : Option Nat) (p1 : Int32) (p2 : Int32) (p3 : Int32) : Con κ md_X11_give [rv κ this, .int p1, .int p2, .int p3] M cvI (m_X11_give M this p1 p2 p3) := by
  refine Con.of ok_X11_give (ret_I rfl) (by
    intro v hv
    simp only [List.mem_cons, List.not_mem_nil, or_false] at hv
    rcases hv with rfl | rfl | rfl | rfl <;> first | rfl | exact rv_cat _ _) (Nat.le_of_ble_eq_true rfl) ?_
  unfold m_X11_give
  refine G.sub (lv' := [(0, rv κ this), (1, .int p1), (2, .int p2), (3, .int p3)]) [0, 1, 2, 3] rfl ?_
  refine G_aload_n dX11_give_0 0 rfl rfl ?_
  refine G_iload_n dX11_give_1 1 rfl rfl ?_
  refine G_callV cf_X11 ok_X11_isInside [.int p1] [] (con_X11_isInside κ M this p1) rfl w_1184 w_1186 wp_29 (Nat.le_of_ble_eq_true rfl) (Nat.le_of_ble_eq_true rfl) dX11_give_2 rfl (by simp) (fun x2 M1 => (show G _ _ _ _ _ _ [.int x2] _ from ?_))
  refine G_if_eq (tgt := 18) dX11_give_5 (by decide) ?_ ?_
  · refine G_iconst (v := (-1)) dX11_give_18 (by decide) ?_
    exact G_ret (v := ((-1))) dX11_give_19 (fun h => by cases h) rfl
  · refine G_aload_n dX11_give_8 0 rfl rfl ?_
    refine G_iload_n dX11_give_9 2 rfl rfl ?_
    refine G_iload_n dX11_give_10 3 rfl rfl ?_
    refine G_callV cf_X11 ok_X11_inFolder [.int p2, .int p3] [] (con_X11_inFolder κ M1 this p2 p3) rfl w_1192 w_1129 w_1130 (Nat.le_of_ble_eq_true rfl) (Nat.le_of_ble_eq_true rfl) dX11_give_11 rfl (by simp) (fun x4 M3 => (show G _ _ _ _ _ _ [.int x4] _ from ?_))
    refine G_iconst (v := (-1)) dX11_give_14 (by decide) ?_
    refine G_icmp_ne (tgt := 20) dX11_give_15 (by decide) ?_ ?_
    · refine G_aload_n dX11_give_20 0 rfl rfl ?_
      refine G_iload_n dX11_give_21 1 rfl rfl ?_
      refine G_bipush (v := 6) dX11_give_22 (by decide) ?_
      refine G_callV cf_X11 ok_X11_item [.int p1, .int 6] [] (con_X11_item κ M3 this p1 6) rfl w_1188 w_1190 wp_30 (Nat.le_of_ble_eq_true rfl) (Nat.le_of_ble_eq_true rfl) dX11_give_24 rfl (by simp) (fun x6 M5 => (show G _ _ _ _ _ _ [.int x6] _ from ?_))
      refine G_iconst (v := 1) dX11_give_27 (by decide) ?_
      refine G_icmp_ne (tgt := 34) dX11_give_28 (by decide) ?_ ?_
      · refine G_aload_n dX11_give_34 0 rfl rfl ?_
        refine G_iload_n dX11_give_35 1 rfl rfl ?_
        refine G_iconst (v := 4) dX11_give_36 (by decide) ?_
        refine G_callV cf_X11 ok_X11_item [.int p1, .int 4] [] (con_X11_item κ M5 this p1 4) rfl w_1188 w_1190 wp_30 (Nat.le_of_ble_eq_true rfl) (Nat.le_of_ble_eq_true rfl) dX11_give_37 rfl (by simp) (fun x8 M7 => (show G _ _ _ _ _ _ [.int x8] _ from ?_))
        refine G_istore (lv' := [(4, .int x8), (0, rv κ this), (1, .int p1), (2, .int p2), (3, .int p3)]) dX11_give_40 (Nat.le_of_ble_eq_true rfl) rfl ?_
        refine G_iload dX11_give_42 0 rfl ?_
        refine G_iconst (v := 4) dX11_give_44 (by decide) ?_
        refine G_icmp_ne (tgt := 51) dX11_give_45 (by decide) ?_ ?_
        · refine G_aload_n dX11_give_51 1 rfl rfl ?_
          refine G_iload_n dX11_give_52 3 rfl rfl ?_
          refine G_iload_n dX11_give_53 4 rfl rfl ?_
          refine G_callV cf_X11 ok_X11_inFolder [.int p2, .int p3] [] (con_X11_inFolder κ M7 this p2 p3) rfl w_1192 w_1129 w_1130 (Nat.le_of_ble_eq_true rfl) (Nat.le_of_ble_eq_true rfl) dX11_give_54 rfl (by simp) (fun x10 M9 => (show G _ _ _ _ _ _ [.int x10] _ from ?_))
          refine G_istore (lv' := [(5, .int x10), (4, .int x8), (0, rv κ this), (1, .int p1), (2, .int p2), (3, .int p3)]) dX11_give_57 (Nat.le_of_ble_eq_true rfl) rfl ?_
          refine G_aload_n dX11_give_59 2 rfl rfl ?_
          refine G_iload_n dX11_give_60 3 rfl rfl ?_
          refine G_bipush (v := 8) dX11_give_61 (by decide) ?_
          refine G_iload dX11_give_63 1 rfl ?_
          refine G_iadd dX11_give_65 ?_
          refine G_iload dX11_give_66 0 rfl ?_
          refine G_callV cf_X11 ok_X11_set [.int p1, .int (8 + x8), .int x10] [] (con_X11_set κ M9 this p1 ((8 + x8)) x10) rfl w_1176 w_1178 wp_28 (Nat.le_of_ble_eq_true rfl) (Nat.le_of_ble_eq_true rfl) dX11_give_68 rfl (by simp) (fun _u M11 => (show G _ _ _ _ _ _ [] _ from ?_))
          refine G_aload_n dX11_give_71 2 rfl rfl ?_
          refine G_iload_n dX11_give_72 3 rfl rfl ?_
          refine G_iconst (v := 4) dX11_give_73 (by decide) ?_
          refine G_iload dX11_give_74 1 rfl ?_
          refine G_iconst (v := 1) dX11_give_76 (by decide) ?_
          refine G_iadd dX11_give_77 ?_
          refine G_callV cf_X11 ok_X11_set [.int p1, .int 4, .int (x8 + 1)] [] (con_X11_set κ M11 this p1 4 ((x8 + 1))) rfl w_1176 w_1178 wp_28 (Nat.le_of_ble_eq_true rfl) (Nat.le_of_ble_eq_true rfl) dX11_give_78 rfl (by simp) (fun _u M12 => (show G _ _ _ _ _ _ [] _ from ?_))
          refine G_aload_n dX11_give_81 2 rfl rfl ?_
          refine G_getP cf_X11 (j := 0) rfl w_917 dX11_give_82 (fun q13 => ?_)
          refine G_bipush (v := 102) dX11_give_85 (by decide) ?_
          refine G_iconst (v := 3) dX11_give_87 (by decide) ?_
          refine G_iload dX11_give_88 0 rfl ?_
          refine G_imul dX11_give_90 ?_
          refine G_iadd dX11_give_91 ?_
          refine G_iconst (v := 2) dX11_give_92 (by decide) ?_
          refine G_iadd dX11_give_93 ?_
          refine G_dup2 dX11_give_94 rfl (rv_cat _ _) ?_
          refine G_iald dX11_give_95 (fun x14 => ?_)
          refine G_iconst (v := 1) dX11_give_96 (by decide) ?_
          refine G_iadd dX11_give_97 ?_
          refine G_iast dX11_give_98 (fun M15 => ?_)
          refine G_iload dX11_give_99 1 rfl ?_
          refine G_iconst (v := 1) dX11_give_101 (by decide) ?_
          refine G_iadd dX11_give_102 ?_
          exact G_ret (v := ((x8 + 1))) dX11_give_103 (fun h => by cases h) rfl
        · refine G_bipush (v := (-3)) dX11_give_48 (by decide) ?_
          exact G_ret (v := ((-3))) dX11_give_50 (fun h => by cases h) rfl
      · refine G_bipush (v := (-4)) dX11_give_31 (by decide) ?_
        exact G_ret (v := ((-4))) dX11_give_33 (fun h => by cases h) rfl
    · refine G_iconst (v := (-1)) dX11_give_18 (by decide) ?_
      exact G_ret (v := ((-1))) dX11_give_19 (fun h => by cases h) rfl
def b_X11_base_10 (this : Option Nat) (p1 : Int32) (J65_2 : Int32 → Mem → Option (Int32 × Mem)) (L10_9 : (Int32 × Int32 × Mem) → Option (Int32 × Mem)) (a10 : Int32 × Int32 × Mem) : Option (Int32 × Mem) :=
  rc a10.2.2 11 this (cl (m_X11_item a10.2.2 this p1 4) (fun (x13 : Int32) (M12 : Mem) => (if x13 ≤ a10.2.1 then J65_2 a10.1 M12 else rc M12 11 this (cl (m_X11_item M12 this p1 ((8 + a10.2.1))) (fun (x15 : Int32) (M14 : Mem) => rc M14 11 this (cl (m_X11_kindOf M14 this x15) (fun (x17 : Int32) (M16 : Mem) => jn (fun (x19 : Int32) (M20 : Mem) => L10_9 ((a10.1 + x19), (a10.2.1 + 1), M20)) (fun (J57_17 : Int32 → Mem → Option (Int32 × Mem)) => (if x17 ≠ 0 then J57_17 0 M16 else rc M16 11 this (cl (m_X11_item M16 this p1 ((8 + a10.2.1))) (fun (x22 : Int32) (M21 : Mem) => rc M21 11 this (cl (m_X11_amountOf M21 this x22) (fun (x24 : Int32) (M23 : Mem) => J57_17 x24 M23)))))))))))))
def m_X11_base (M : Mem) (this : Option Nat) (p1 : Int32) (p2 : Int32) : Option (Int32 × Mem) :=
  rc M 11 this (cl (m_X11_item M this p1 1) (fun (x2 : Int32) (M1 : Mem) => jn (fun (x4 : Int32) (M5 : Mem) => (if p2 ≤ x4 then rt 0 M5 else rc M5 11 this (cl (m_X11_item M5 this p1 0) (fun (x7 : Int32) (M6 : Mem) => rc M6 11 this (cl (m_X11_feeOf M6 this x7 x4 p2) (fun (x9 : Int32) (M8 : Mem) => rt x9 M8)))))) (fun (J65_2 : Int32 → Mem → Option (Int32 × Mem)) => lp (b_X11_base_10 this p1 J65_2) FU (x2, 0, M1))))
abbrev md_X11_base : MD := (RX11, yX11_base, cX11_base, 5, Option.some Jvm.ClassFile.FieldType.int, 5, 115)
theorem ok_X11_base : MOk md_X11_base 2 := ⟨by decide +kernel, w_1212, w_11, ⟨by decide +kernel, by decide +kernel⟩, by decide +kernel, rfl⟩
set_option maxRecDepth 100000 in
set_option maxHeartbeats 4000000 in
theorem con_X11_base (κ : Cfg) (M : Mem) (this : Option Nat) (p1 : Int32) (p2 : Int32) : Con κ md_X11_base [rv κ this, .int p1, .int p2] M cvI (m_X11_base M this p1 p2) := by
  refine Con.of ok_X11_base (ret_I rfl) (by
    intro v hv
    simp only [List.mem_cons, List.not_mem_nil, or_false] at hv
    rcases hv with rfl | rfl | rfl <;> first | rfl | exact rv_cat _ _) (Nat.le_of_ble_eq_true rfl) ?_
  unfold m_X11_base
  refine G.sub (lv' := [(0, rv κ this), (1, .int p1), (2, .int p2)]) [0, 1, 2] rfl ?_
  refine G_aload_n dX11_base_0 0 rfl rfl ?_
  refine G_iload_n dX11_base_1 1 rfl rfl ?_
  refine G_iconst (v := 1) dX11_base_2 (by decide) ?_
  refine G_callV cf_X11 ok_X11_item [.int p1, .int 1] [] (con_X11_item κ M this p1 1) rfl w_1188 w_1190 wp_30 (Nat.le_of_ble_eq_true rfl) (Nat.le_of_ble_eq_true rfl) dX11_base_3 rfl (by simp) (fun x2 M1 => (show G _ _ _ _ _ _ [.int x2] _ from ?_))
  refine G_istore_n (lv' := [(3, .int x2), (0, rv κ this), (1, .int p1), (2, .int p2)]) dX11_base_6 rfl (Nat.le_of_ble_eq_true rfl) rfl ?_
  refine G_iconst (v := 0) dX11_base_7 (by decide) ?_
  refine G_istore (lv' := [(4, .int 0), (3, .int x2), (0, rv κ this), (1, .int p1), (2, .int p2)]) dX11_base_8 (Nat.le_of_ble_eq_true rfl) rfl ?_
  refine G.jn (P := (fun (J : Int32 → Mem → Option (Int32 × Mem)) => ∀ (x4 : Int32) (M5 : Mem), G κ md_X11_base cvI (J x4 M5) 65 [(0, rv κ this), (1, .int p1), (2, .int p2), (3, .int x4)] [] M5)) ?_ ?_
  · intro x4 M5
    refine G_iload_n dX11_base_65 3 rfl rfl ?_
    refine G_iload_n dX11_base_66 2 rfl rfl ?_
    refine G_icmp_ge (tgt := 85) dX11_base_67 (by decide) ?_ ?_
    · refine G_iconst (v := 0) dX11_base_85 (by decide) ?_
      exact G_ret (v := 0) dX11_base_86 (fun h => by cases h) rfl
    · refine G_aload_n dX11_base_70 0 rfl rfl ?_
      refine G_aload_n dX11_base_71 0 rfl rfl ?_
      refine G_iload_n dX11_base_72 1 rfl rfl ?_
      refine G_iconst (v := 0) dX11_base_73 (by decide) ?_
      refine G_callV cf_X11 ok_X11_item [.int p1, .int 0] [rv κ this] (con_X11_item κ M5 this p1 0) rfl w_1188 w_1190 wp_30 (Nat.le_of_ble_eq_true rfl) (Nat.le_of_ble_eq_true rfl) dX11_base_74 rfl (by simp) (fun x7 M6 => (show G _ _ _ _ _ _ [.int x7, rv κ this] _ from ?_))
      refine G_iload_n dX11_base_77 3 rfl rfl ?_
      refine G_iload_n dX11_base_78 2 rfl rfl ?_
      refine G_callV cf_X11 ok_X11_feeOf [.int x7, .int x4, .int p2] [] (con_X11_feeOf κ M6 this x7 x4 p2) rfl w_1000 w_1002 wp_2 (Nat.le_of_ble_eq_true rfl) (Nat.le_of_ble_eq_true rfl) dX11_base_79 rfl (by simp) (fun x9 M8 => (show G _ _ _ _ _ _ [.int x9] _ from ?_))
      refine G_goto (tgt := 86) dX11_base_82 (by decide) ?_
      exact G_ret (v := x9) dX11_base_86 (fun h => by cases h) rfl
  · intro J65_2 hJ65_2
    refine G.sub (lv' := [(0, rv κ this), (1, .int p1), (2, .int p2), (3, .int x2), (4, .int 0)]) [2, 3, 4, 1, 0] rfl ?_
    refine G.loop (lvf := fun (a10 : Int32 × Int32 × Mem) => [(0, rv κ this), (1, .int p1), (2, .int p2), (3, .int a10.1), (4, .int a10.2.1)]) (mf := fun (a10 : Int32 × Int32 × Mem) => a10.2.2) (fun L10_9 hL10_9 a10 => ?_) FU (x2, 0, M1)
    unfold b_X11_base_10
    refine G_iload dX11_base_10 4 rfl ?_
    refine G_aload_n dX11_base_12 0 rfl rfl ?_
    refine G_iload_n dX11_base_13 1 rfl rfl ?_
    refine G_iconst (v := 4) dX11_base_14 (by decide) ?_
    refine G_callV cf_X11 ok_X11_item [.int p1, .int 4] [.int a10.2.1] (con_X11_item κ a10.2.2 this p1 4) rfl w_1188 w_1190 wp_30 (Nat.le_of_ble_eq_true rfl) (Nat.le_of_ble_eq_true rfl) dX11_base_15 rfl (by simp) (fun x13 M12 => (show G _ _ _ _ _ _ [.int x13, .int a10.2.1] _ from ?_))
    refine G_icmp_ge (tgt := 65) dX11_base_18 (by decide) ?_ ?_
    · exact G.sub [0, 1, 2, 3] rfl (hJ65_2 _ _)
    · refine G_iload_n dX11_base_21 3 rfl rfl ?_
      refine G_aload_n dX11_base_22 0 rfl rfl ?_
      refine G_aload_n dX11_base_23 0 rfl rfl ?_
      refine G_iload_n dX11_base_24 1 rfl rfl ?_
      refine G_bipush (v := 8) dX11_base_25 (by decide) ?_
      refine G_iload dX11_base_27 4 rfl ?_
      refine G_iadd dX11_base_29 ?_
      refine G_callV cf_X11 ok_X11_item [.int p1, .int (8 + a10.2.1)] [rv κ this, .int a10.1] (con_X11_item κ M12 this p1 ((8 + a10.2.1))) rfl w_1188 w_1190 wp_30 (Nat.le_of_ble_eq_true rfl) (Nat.le_of_ble_eq_true rfl) dX11_base_30 rfl (by simp) (fun x15 M14 => (show G _ _ _ _ _ _ [.int x15, rv κ this, .int a10.1] _ from ?_))
      refine G_callV cf_X11 ok_X11_kindOf [.int x15] [.int a10.1] (con_X11_kindOf κ M14 this x15) rfl w_1124 w_1126 wp_23 (Nat.le_of_ble_eq_true rfl) (Nat.le_of_ble_eq_true rfl) dX11_base_33 rfl (by simp) (fun x17 M16 => (show G _ _ _ _ _ _ [.int x17, .int a10.1] _ from ?_))
      refine G.jn (P := (fun (J : Int32 → Mem → Option (Int32 × Mem)) => ∀ (x19 : Int32) (M20 : Mem), G κ md_X11_base cvI (J x19 M20) 57 [(0, rv κ this), (1, .int p1), (2, .int p2), (4, .int a10.2.1)] [.int x19, .int a10.1] M20)) ?_ ?_
      · intro x19 M20
        refine G_iadd dX11_base_57 ?_
        refine G_istore_n (lv' := [(3, .int (a10.1 + x19)), (0, rv κ this), (1, .int p1), (2, .int p2), (4, .int a10.2.1)]) dX11_base_58 rfl (Nat.le_of_ble_eq_true rfl) rfl ?_
        refine G_iinc (v := (a10.2.1 + 1)) (lv' := [(4, .int (a10.2.1 + 1)), (3, .int (a10.1 + x19)), (0, rv κ this), (1, .int p1), (2, .int p2)]) dX11_base_59 4 rfl (congrArg (fun z9 : Int32 => a10.2.1 + z9) (by decide : Int32.ofInt 1 = 1)) (Nat.le_of_ble_eq_true rfl) rfl ?_
        refine G_goto (tgt := 10) dX11_base_62 (by decide) ?_
        exact G.sub [2, 3, 4, 1, 0] rfl (hL10_9 _)
      · intro J57_17 hJ57_17
        refine G_if_ne (tgt := 56) dX11_base_36 (by decide) ?_ ?_
        · refine G_iconst (v := 0) dX11_base_56 (by decide) ?_
          exact G.sub [0, 1, 2, 4] rfl (hJ57_17 _ _)
        · refine G_aload_n dX11_base_39 0 rfl rfl ?_
          refine G_aload_n dX11_base_40 0 rfl rfl ?_
          refine G_iload_n dX11_base_41 1 rfl rfl ?_
          refine G_bipush (v := 8) dX11_base_42 (by decide) ?_
          refine G_iload dX11_base_44 4 rfl ?_
          refine G_iadd dX11_base_46 ?_
          refine G_callV cf_X11 ok_X11_item [.int p1, .int (8 + a10.2.1)] [rv κ this, .int a10.1] (con_X11_item κ M16 this p1 ((8 + a10.2.1))) rfl w_1188 w_1190 wp_30 (Nat.le_of_ble_eq_true rfl) (Nat.le_of_ble_eq_true rfl) dX11_base_47 rfl (by simp) (fun x22 M21 => (show G _ _ _ _ _ _ [.int x22, rv κ this, .int a10.1] _ from ?_))
          refine G_callV cf_X11 ok_X11_amountOf [.int x22] [.int a10.1] (con_X11_amountOf κ M21 this x22) rfl w_1213 w_1215 wp_35 (Nat.le_of_ble_eq_true rfl) (Nat.le_of_ble_eq_true rfl) dX11_base_50 rfl (by simp) (fun x24 M23 => (show G _ _ _ _ _ _ [.int x24, .int a10.1] _ from ?_))
          refine G_goto (tgt := 57) dX11_base_53 (by decide) ?_
          exact G.sub [0, 1, 2, 4] rfl (hJ57_17 _ _)
def m_X11_lowered (M : Mem) (p1 : Int32) (p2 : Int32) (p3 : Int32) : Option (Int32 × Mem) :=
  (if p2 = 1 then rt ((p1 - ((p1 * p3) / 100))) M else (if p2 = 2 then (if p1 ≤ p3 then rt 0 M else rt ((p1 - p3)) M) else (if p2 = 3 then (if p3 ≤ p1 then rt p3 M else rt p1 M) else rt p1 M)))
abbrev md_X11_lowered : MD := (RX11, yX11_lowered, cX11_lowered, 3, Option.some Jvm.ClassFile.FieldType.int, 0, 0)
theorem ok_X11_lowered : MOk md_X11_lowered 3 := ⟨by decide +kernel, w_1219, w_11, ⟨by decide +kernel, by decide +kernel⟩, by decide +kernel, rfl⟩
set_option maxRecDepth 100000 in
set_option maxHeartbeats 4000000 in
theorem con_X11_lowered (κ : Cfg) (M : Mem) (p1 : Int32) (p2 : Int32) (p3 : Int32) : Con κ md_X11_lowered [.int p1, .int p2, .int p3] M cvI (m_X11_lowered M p1 p2 p3) := by
  refine Con.of ok_X11_lowered (ret_I rfl) (by
    intro v hv
    simp only [List.mem_cons, List.not_mem_nil, or_false] at hv
    rcases hv with rfl | rfl | rfl <;> first | rfl | exact rv_cat _ _) (Nat.le_of_ble_eq_true rfl) ?_
  unfold m_X11_lowered
  refine G.sub (lv' := [(0, .int p1), (1, .int p2), (2, .int p3)]) [0, 1, 2] rfl ?_
  refine G_iload_n dX11_lowered_0 1 rfl rfl ?_
  refine G.cond (fun hx1_0 => ?_) (fun hn1_0 => ?_)
  · refine G_tin (n := 1) (tgt := 28) dX11_lowered_1 (by rw [hx1_0]; rfl) (by decide) (by decide) rfl (by decide) ?_
    refine G_iload_n dX11_lowered_28 0 rfl rfl ?_
    refine G_iload_n dX11_lowered_29 0 rfl rfl ?_
    refine G_iload_n dX11_lowered_30 2 rfl rfl ?_
    refine G_imul dX11_lowered_31 ?_
    refine G_bipush (v := 100) dX11_lowered_32 (by decide) ?_
    refine G_idiv dX11_lowered_34 (by decide) ?_
    refine G_isub dX11_lowered_35 ?_
    exact G_ret (v := ((p1 - ((p1 * p3) / 100)))) dX11_lowered_36 (fun h => by cases h) rfl
  refine G.cond (fun hx1_1 => ?_) (fun hn1_1 => ?_)
  · refine G_tin (n := 2) (tgt := 37) dX11_lowered_1 (by rw [hx1_1]; rfl) (by decide) (by decide) rfl (by decide) ?_
    refine G_iload_n dX11_lowered_37 0 rfl rfl ?_
    refine G_iload_n dX11_lowered_38 2 rfl rfl ?_
    refine G_icmp_le (tgt := 48) dX11_lowered_39 (by decide) ?_ ?_
    · refine G_iconst (v := 0) dX11_lowered_48 (by decide) ?_
      exact G_ret (v := 0) dX11_lowered_49 (fun h => by cases h) rfl
    · refine G_iload_n dX11_lowered_42 0 rfl rfl ?_
      refine G_iload_n dX11_lowered_43 2 rfl rfl ?_
      refine G_isub dX11_lowered_44 ?_
      refine G_goto (tgt := 49) dX11_lowered_45 (by decide) ?_
      exact G_ret (v := ((p1 - p3))) dX11_lowered_49 (fun h => by cases h) rfl
  refine G.cond (fun hx1_2 => ?_) (fun hn1_2 => ?_)
  · refine G_tin (n := 3) (tgt := 50) dX11_lowered_1 (by rw [hx1_2]; rfl) (by decide) (by decide) rfl (by decide) ?_
    refine G_iload_n dX11_lowered_50 0 rfl rfl ?_
    refine G_iload_n dX11_lowered_51 2 rfl rfl ?_
    refine G_icmp_ge (tgt := 59) dX11_lowered_52 (by decide) ?_ ?_
    · refine G_iload_n dX11_lowered_59 2 rfl rfl ?_
      exact G_ret (v := p3) dX11_lowered_60 (fun h => by cases h) rfl
    · refine G_iload_n dX11_lowered_55 0 rfl rfl ?_
      refine G_goto (tgt := 60) dX11_lowered_56 (by decide) ?_
      exact G_ret (v := p1) dX11_lowered_60 (fun h => by cases h) rfl
  refine G_tout (tgt := 61) dX11_lowered_1 (by
      have hz0 : (p2).toInt ≠ 1 := fun h => hn1_0 (Int32.toInt_inj.mp (h.trans rfl))
      have hz1 : (p2).toInt ≠ 2 := fun h => hn1_1 (Int32.toInt_inj.mp (h.trans rfl))
      have hz2 : (p2).toInt ≠ 3 := fun h => hn1_2 (Int32.toInt_inj.mp (h.trans rfl))
      omega) (by decide) ?_
  refine G_iload_n dX11_lowered_61 0 rfl rfl ?_
  exact G_ret (v := p1) dX11_lowered_62 (fun h => by cases h) rfl
def b_X11_vouchered_14 (this : Option Nat) (p1 : Int32) (J86_2 : Int32 → Mem → Option (Int32 × Mem)) (L14_5 : (Int32 × Int32 × Int32 × Mem) → Option (Int32 × Mem)) (a6 : Int32 × Int32 × Int32 × Mem) : Option (Int32 × Mem) :=
  rc a6.2.2.2 11 this (cl (m_X11_item a6.2.2.2 this p1 4) (fun (x9 : Int32) (M8 : Mem) => (if x9 ≤ a6.2.2.1 then J86_2 a6.1 M8 else (if a6.2.1 ≤ 0 then J86_2 a6.1 M8 else rc M8 11 this (cl (m_X11_item M8 this p1 ((8 + a6.2.2.1))) (fun (x11 : Int32) (M10 : Mem) => rc M10 11 this (cl (m_X11_kindOf M10 this x11) (fun (x13 : Int32) (M12 : Mem) => rc M12 11 this (cl (m_X11_amountOf M12 this x11) (fun (x15 : Int32) (M14 : Mem) => cl (m_X11_lowered M14 a6.1 x13 x15) (fun (x17 : Int32) (M16 : Mem) => rc M16 11 this (cl (m_X11_kindOf M16 this x11) (fun (x19 : Int32) (M18 : Mem) => jn (fun (x21 : Int32) (M22 : Mem) => L14_5 (x17, (a6.2.1 - x21), (a6.2.2.1 + 1), M22)) (fun (J77_19 : Int32 → Mem → Option (Int32 × Mem)) => (if x19 ≤ 0 then J77_19 0 M18 else J77_19 1 M18)))))))))))))))
def m_X11_vouchered (M : Mem) (this : Option Nat) (p1 : Int32) (p2 : Int32) (p3 : Int32) : Option (Int32 × Mem) :=
  rc M 11 this (cl (m_X11_base M this p1 p2) (fun (x2 : Int32) (M1 : Mem) => jn (fun (x4 : Int32) (M5 : Mem) => rt x4 M5) (fun (J86_2 : Int32 → Mem → Option (Int32 × Mem)) => lp (b_X11_vouchered_14 this p1 J86_2) FU (x2, p3, 0, M1))))
abbrev md_X11_vouchered : MD := (RX11, yX11_vouchered, cX11_vouchered, 8, Option.some Jvm.ClassFile.FieldType.int, 6, 139)
theorem ok_X11_vouchered : MOk md_X11_vouchered 3 := ⟨by decide +kernel, w_1208, w_11, ⟨by decide +kernel, by decide +kernel⟩, by decide +kernel, rfl⟩
set_option maxRecDepth 100000 in
set_option maxHeartbeats 4000000 in
theorem con_X11_vouchered (κ : Cfg) (M : Mem) (this : Option Nat) (p1 : Int32) (p2 : Int32) (p3 : Int32) : Con κ md_X11_vouchered [rv κ this, .int p1, .int p2, .int p3] M cvI (m_X11_vouchered M this p1 p2 p3) := by
  refine Con.of ok_X11_vouchered (ret_I rfl) (by
    intro v hv
    simp only [List.mem_cons, List.not_mem_nil, or_false] at hv
    rcases hv with rfl | rfl | rfl | rfl <;> first | rfl | exact rv_cat _ _) (Nat.le_of_ble_eq_true rfl) ?_
  unfold m_X11_vouchered
  refine G.sub (lv' := [(0, rv κ this), (1, .int p1), (2, .int p2), (3, .int p3)]) [0, 1, 2, 3] rfl ?_
  refine G_aload_n dX11_vouchered_0 0 rfl rfl ?_
  refine G_iload_n dX11_vouchered_1 1 rfl rfl ?_
  refine G_iload_n dX11_vouchered_2 2 rfl rfl ?_
  refine G_callV cf_X11 ok_X11_base [.int p1, .int p2] [] (con_X11_base κ M this p1 p2) rfl w_1209 w_1211 wp_34 (Nat.le_of_ble_eq_true rfl) (Nat.le_of_ble_eq_true rfl) dX11_vouchered_3 rfl (by simp) (fun x2 M1 => (show G _ _ _ _ _ _ [.int x2] _ from ?_))
  refine G_istore (lv' := [(4, .int x2), (0, rv κ this), (1, .int p1), (2, .int p2), (3, .int p3)]) dX11_vouchered_6 (Nat.le_of_ble_eq_true rfl) rfl ?_
  refine G_iload_n dX11_vouchered_8 4 rfl rfl ?_
  refine G_istore (lv' := [(5, .int p3), (4, .int x2), (0, rv κ this), (1, .int p1), (2, .int p2), (3, .int p3)]) dX11_vouchered_9 (Nat.le_of_ble_eq_true rfl) rfl ?_
  refine G_iconst (v := 0) dX11_vouchered_11 (by decide) ?_
  refine G_istore (lv' := [(6, .int 0), (5, .int p3), (4, .int x2), (0, rv κ this), (1, .int p1), (2, .int p2), (3, .int p3)]) dX11_vouchered_12 (Nat.le_of_ble_eq_true rfl) rfl ?_
  refine G.jn (P := (fun (J : Int32 → Mem → Option (Int32 × Mem)) => ∀ (x4 : Int32) (M5 : Mem), G κ md_X11_vouchered cvI (J x4 M5) 86 [(4, .int x4)] [] M5)) ?_ ?_
  · intro x4 M5
    refine G_iload dX11_vouchered_86 0 rfl ?_
    exact G_ret (v := x4) dX11_vouchered_88 (fun h => by cases h) rfl
  · intro J86_2 hJ86_2
    refine G.sub (lv' := [(0, rv κ this), (1, .int p1), (4, .int x2), (5, .int p3), (6, .int 0)]) [3, 4, 2, 1, 0] rfl ?_
    refine G.loop (lvf := fun (a6 : Int32 × Int32 × Int32 × Mem) => [(0, rv κ this), (1, .int p1), (4, .int a6.1), (5, .int a6.2.1), (6, .int a6.2.2.1)]) (mf := fun (a6 : Int32 × Int32 × Int32 × Mem) => a6.2.2.2) (fun L14_5 hL14_5 a6 => ?_) FU (x2, p3, 0, M1)
    unfold b_X11_vouchered_14
    refine G_iload dX11_vouchered_14 4 rfl ?_
    refine G_aload_n dX11_vouchered_16 0 rfl rfl ?_
    refine G_iload_n dX11_vouchered_17 1 rfl rfl ?_
    refine G_iconst (v := 4) dX11_vouchered_18 (by decide) ?_
    refine G_callV cf_X11 ok_X11_item [.int p1, .int 4] [.int a6.2.2.1] (con_X11_item κ a6.2.2.2 this p1 4) rfl w_1188 w_1190 wp_30 (Nat.le_of_ble_eq_true rfl) (Nat.le_of_ble_eq_true rfl) dX11_vouchered_19 rfl (by simp) (fun x9 M8 => (show G _ _ _ _ _ _ [.int x9, .int a6.2.2.1] _ from ?_))
    refine G_icmp_ge (tgt := 86) dX11_vouchered_22 (by decide) ?_ ?_
    · exact G.sub [2] rfl (hJ86_2 _ _)
    · refine G_iload dX11_vouchered_25 3 rfl ?_
      refine G_if_le (tgt := 86) dX11_vouchered_27 (by decide) ?_ ?_
      · exact G.sub [2] rfl (hJ86_2 _ _)
      · refine G_aload_n dX11_vouchered_30 0 rfl rfl ?_
        refine G_iload_n dX11_vouchered_31 1 rfl rfl ?_
        refine G_bipush (v := 8) dX11_vouchered_32 (by decide) ?_
        refine G_iload dX11_vouchered_34 4 rfl ?_
        refine G_iadd dX11_vouchered_36 ?_
        refine G_callV cf_X11 ok_X11_item [.int p1, .int (8 + a6.2.2.1)] [] (con_X11_item κ M8 this p1 ((8 + a6.2.2.1))) rfl w_1188 w_1190 wp_30 (Nat.le_of_ble_eq_true rfl) (Nat.le_of_ble_eq_true rfl) dX11_vouchered_37 rfl (by simp) (fun x11 M10 => (show G _ _ _ _ _ _ [.int x11] _ from ?_))
        refine G_istore (lv' := [(7, .int x11), (0, rv κ this), (1, .int p1), (4, .int a6.1), (5, .int a6.2.1), (6, .int a6.2.2.1)]) dX11_vouchered_40 (Nat.le_of_ble_eq_true rfl) rfl ?_
        refine G_iload dX11_vouchered_42 3 rfl ?_
        refine G_aload_n dX11_vouchered_44 1 rfl rfl ?_
        refine G_iload dX11_vouchered_45 0 rfl ?_
        refine G_callV cf_X11 ok_X11_kindOf [.int x11] [.int a6.1] (con_X11_kindOf κ M10 this x11) rfl w_1124 w_1126 wp_23 (Nat.le_of_ble_eq_true rfl) (Nat.le_of_ble_eq_true rfl) dX11_vouchered_47 rfl (by simp) (fun x13 M12 => (show G _ _ _ _ _ _ [.int x13, .int a6.1] _ from ?_))
        refine G_aload_n dX11_vouchered_50 1 rfl rfl ?_
        refine G_iload dX11_vouchered_51 0 rfl ?_
        refine G_callV cf_X11 ok_X11_amountOf [.int x11] [.int x13, .int a6.1] (con_X11_amountOf κ M12 this x11) rfl w_1213 w_1215 wp_35 (Nat.le_of_ble_eq_true rfl) (Nat.le_of_ble_eq_true rfl) dX11_vouchered_53 rfl (by simp) (fun x15 M14 => (show G _ _ _ _ _ _ [.int x15, .int x13, .int a6.1] _ from ?_))
        refine G_callS ok_X11_lowered [.int a6.1, .int x13, .int x15] [] (con_X11_lowered κ M14 a6.1 x13 x15) rfl w_1217 w_1218 (Nat.le_of_ble_eq_true rfl) (Nat.le_of_ble_eq_true rfl) dX11_vouchered_56 rfl (by simp) (fun x17 M16 => (show G _ _ _ _ _ _ [.int x17] _ from ?_))
        refine G_istore (lv' := [(4, .int x17), (7, .int x11), (0, rv κ this), (1, .int p1), (5, .int a6.2.1), (6, .int a6.2.2.1)]) dX11_vouchered_59 (Nat.le_of_ble_eq_true rfl) rfl ?_
        refine G_iload dX11_vouchered_61 4 rfl ?_
        refine G_aload_n dX11_vouchered_63 2 rfl rfl ?_
        refine G_iload dX11_vouchered_64 1 rfl ?_
        refine G_callV cf_X11 ok_X11_kindOf [.int x11] [.int a6.2.1] (con_X11_kindOf κ M16 this x11) rfl w_1124 w_1126 wp_23 (Nat.le_of_ble_eq_true rfl) (Nat.le_of_ble_eq_true rfl) dX11_vouchered_66 rfl (by simp) (fun x19 M18 => (show G _ _ _ _ _ _ [.int x19, .int a6.2.1] _ from ?_))
        refine G.jn (P := (fun (J : Int32 → Mem → Option (Int32 × Mem)) => ∀ (x21 : Int32) (M22 : Mem), G κ md_X11_vouchered cvI (J x21 M22) 77 [(0, rv κ this), (1, .int p1), (4, .int x17), (6, .int a6.2.2.1)] [.int x21, .int a6.2.1] M22)) ?_ ?_
        · intro x21 M22
          refine G_isub dX11_vouchered_77 ?_
          refine G_istore (lv' := [(5, .int (a6.2.1 - x21)), (0, rv κ this), (1, .int p1), (4, .int x17), (6, .int a6.2.2.1)]) dX11_vouchered_78 (Nat.le_of_ble_eq_true rfl) rfl ?_
          refine G_iinc (v := (a6.2.2.1 + 1)) (lv' := [(6, .int (a6.2.2.1 + 1)), (5, .int (a6.2.1 - x21)), (0, rv κ this), (1, .int p1), (4, .int x17)]) dX11_vouchered_80 4 rfl (congrArg (fun z9 : Int32 => a6.2.2.1 + z9) (by decide : Int32.ofInt 1 = 1)) (Nat.le_of_ble_eq_true rfl) rfl ?_
          refine G_goto (tgt := 14) dX11_vouchered_83 (by decide) ?_
          exact G.sub [2, 3, 4, 1, 0] rfl (hL14_5 _)
        · intro J77_19 hJ77_19
          refine G_if_le (tgt := 76) dX11_vouchered_69 (by decide) ?_ ?_
          · refine G_iconst (v := 0) dX11_vouchered_76 (by decide) ?_
            exact G.sub [2, 3, 0, 5] rfl (hJ77_19 _ _)
          · refine G_iconst (v := 1) dX11_vouchered_72 (by decide) ?_
            refine G_goto (tgt := 77) dX11_vouchered_73 (by decide) ?_
            exact G.sub [2, 3, 0, 5] rfl (hJ77_19 _ _)
def m_X11_lostFee (M : Mem) (this : Option Nat) (p1 : Int32) (p2 : Int32) : Option (Int32 × Mem) :=
  rc M 11 this (cl (m_X11_item M this p1 0) (fun (x2 : Int32) (M1 : Mem) => rc M1 11 this (cl (m_X11_item M1 this p1 1) (fun (x4 : Int32) (M3 : Mem) => rc M3 11 this (cl (m_X11_feeOf M3 this x2 x4 p2) (fun (x6 : Int32) (M5 : Mem) => rc M5 11 this (cl (m_X11_item M5 this p1 0) (fun (x8 : Int32) (M7 : Mem) => rc M7 11 this (cl (m_X11_of M7 this x8 3) (fun (x10 : Int32) (M9 : Mem) => (if x6 ≤ x10 then rc M9 11 this (cl (m_X11_item M9 this p1 0) (fun (x12 : Int32) (M11 : Mem) => rc M11 11 this (cl (m_X11_of M11 this x12 3) (fun (x14 : Int32) (M13 : Mem) => rt x14 M13)))) else rt x6 M9)))))))))))
abbrev md_X11_lostFee : MD := (RX11, yX11_lostFee, cX11_lostFee, 4, Option.some Jvm.ClassFile.FieldType.int, 5, 115)
theorem ok_X11_lostFee : MOk md_X11_lostFee 2 := ⟨by decide +kernel, w_1204, w_11, ⟨by decide +kernel, by decide +kernel⟩, by decide +kernel, rfl⟩
set_option maxRecDepth 100000 in
set_option maxHeartbeats 4000000 in
theorem con_X11_lostFee (κ : Cfg) (M : Mem) (this : Option Nat) (p1 : Int32) (p2 : Int32) : Con κ md_X11_lostFee [rv κ this, .int p1, .int p2] M cvI (m_X11_lostFee M this p1 p2) := by
  refine Con.of ok_X11_lostFee (ret_I rfl) (by
    intro v hv
    simp only [List.mem_cons, List.not_mem_nil, or_false] at hv
    rcases hv with rfl | rfl | rfl <;> first | rfl | exact rv_cat _ _) (Nat.le_of_ble_eq_true rfl) ?_
  unfold m_X11_lostFee
  refine G.sub (lv' := [(0, rv κ this), (1, .int p1), (2, .int p2)]) [0, 1, 2] rfl ?_
  refine G_aload_n dX11_lostFee_0 0 rfl rfl ?_
  refine G_aload_n dX11_lostFee_1 0 rfl rfl ?_
  refine G_iload_n dX11_lostFee_2 1 rfl rfl ?_
  refine G_iconst (v := 0) dX11_lostFee_3 (by decide) ?_
  refine G_callV cf_X11 ok_X11_item [.int p1, .int 0] [rv κ this] (con_X11_item κ M this p1 0) rfl w_1188 w_1190 wp_30 (Nat.le_of_ble_eq_true rfl) (Nat.le_of_ble_eq_true rfl) dX11_lostFee_4 rfl (by simp) (fun x2 M1 => (show G _ _ _ _ _ _ [.int x2, rv κ this] _ from ?_))
  refine G_aload_n dX11_lostFee_7 0 rfl rfl ?_
  refine G_iload_n dX11_lostFee_8 1 rfl rfl ?_
  refine G_iconst (v := 1) dX11_lostFee_9 (by decide) ?_
  refine G_callV cf_X11 ok_X11_item [.int p1, .int 1] [.int x2, rv κ this] (con_X11_item κ M1 this p1 1) rfl w_1188 w_1190 wp_30 (Nat.le_of_ble_eq_true rfl) (Nat.le_of_ble_eq_true rfl) dX11_lostFee_10 rfl (by simp) (fun x4 M3 => (show G _ _ _ _ _ _ [.int x4, .int x2, rv κ this] _ from ?_))
  refine G_iload_n dX11_lostFee_13 2 rfl rfl ?_
  refine G_callV cf_X11 ok_X11_feeOf [.int x2, .int x4, .int p2] [] (con_X11_feeOf κ M3 this x2 x4 p2) rfl w_1000 w_1002 wp_2 (Nat.le_of_ble_eq_true rfl) (Nat.le_of_ble_eq_true rfl) dX11_lostFee_14 rfl (by simp) (fun x6 M5 => (show G _ _ _ _ _ _ [.int x6] _ from ?_))
  refine G_istore_n (lv' := [(3, .int x6), (0, rv κ this), (1, .int p1), (2, .int p2)]) dX11_lostFee_17 rfl (Nat.le_of_ble_eq_true rfl) rfl ?_
  refine G_iload_n dX11_lostFee_18 0 rfl rfl ?_
  refine G_aload_n dX11_lostFee_19 1 rfl rfl ?_
  refine G_aload_n dX11_lostFee_20 1 rfl rfl ?_
  refine G_iload_n dX11_lostFee_21 2 rfl rfl ?_
  refine G_iconst (v := 0) dX11_lostFee_22 (by decide) ?_
  refine G_callV cf_X11 ok_X11_item [.int p1, .int 0] [rv κ this, .int x6] (con_X11_item κ M5 this p1 0) rfl w_1188 w_1190 wp_30 (Nat.le_of_ble_eq_true rfl) (Nat.le_of_ble_eq_true rfl) dX11_lostFee_23 rfl (by simp) (fun x8 M7 => (show G _ _ _ _ _ _ [.int x8, rv κ this, .int x6] _ from ?_))
  refine G_iconst (v := 3) dX11_lostFee_26 (by decide) ?_
  refine G_callV cf_X11 ok_X11_of [.int x8, .int 3] [.int x6] (con_X11_of κ M7 this x8 3) rfl w_1004 w_1006 wp_3 (Nat.le_of_ble_eq_true rfl) (Nat.le_of_ble_eq_true rfl) dX11_lostFee_27 rfl (by simp) (fun x10 M9 => (show G _ _ _ _ _ _ [.int x10, .int x6] _ from ?_))
  refine G_icmp_le (tgt := 37) dX11_lostFee_30 (by decide) ?_ ?_
  · refine G_aload_n dX11_lostFee_37 1 rfl rfl ?_
    refine G_aload_n dX11_lostFee_38 1 rfl rfl ?_
    refine G_iload_n dX11_lostFee_39 2 rfl rfl ?_
    refine G_iconst (v := 0) dX11_lostFee_40 (by decide) ?_
    refine G_callV cf_X11 ok_X11_item [.int p1, .int 0] [rv κ this] (con_X11_item κ M9 this p1 0) rfl w_1188 w_1190 wp_30 (Nat.le_of_ble_eq_true rfl) (Nat.le_of_ble_eq_true rfl) dX11_lostFee_41 rfl (by simp) (fun x12 M11 => (show G _ _ _ _ _ _ [.int x12, rv κ this] _ from ?_))
    refine G_iconst (v := 3) dX11_lostFee_44 (by decide) ?_
    refine G_callV cf_X11 ok_X11_of [.int x12, .int 3] [] (con_X11_of κ M11 this x12 3) rfl w_1004 w_1006 wp_3 (Nat.le_of_ble_eq_true rfl) (Nat.le_of_ble_eq_true rfl) dX11_lostFee_45 rfl (by simp) (fun x14 M13 => (show G _ _ _ _ _ _ [.int x14] _ from ?_))
    exact G_ret (v := x14) dX11_lostFee_48 (fun h => by cases h) rfl
  · refine G_iload_n dX11_lostFee_33 0 rfl rfl ?_
    refine G_goto (tgt := 48) dX11_lostFee_34 (by decide) ?_
    exact G_ret (v := x6) dX11_lostFee_48 (fun h => by cases h) rfl
def m_X11_dueAt (M : Mem) (this : Option Nat) (p1 : Int32) (p2 : Int32) : Option (Int32 × Mem) :=
  rc M 11 this (cl (m_X11_item M this p1 6) (fun (x2 : Int32) (M1 : Mem) => jn (fun (x4 : Int32) (M5 : Mem) => rc M5 11 this (cl (m_X11_item M5 this p1 3) (fun (x7 : Int32) (M6 : Mem) => (if x4 ≤ x7 then rt 0 M6 else rc M6 11 this (cl (m_X11_item M6 this p1 3) (fun (x9 : Int32) (M8 : Mem) => rt ((x4 - x9)) M8)))))) (fun (J27_2 : Int32 → Mem → Option (Int32 × Mem)) => (if x2 ≠ 1 then rc M1 11 this (cl (m_X11_vouchered M1 this p1 p2 5) (fun (x11 : Int32) (M10 : Mem) => J27_2 x11 M10)) else rc M1 11 this (cl (m_X11_lostFee M1 this p1 p2) (fun (x13 : Int32) (M12 : Mem) => J27_2 x13 M12))))))
abbrev md_X11_dueAt : MD := (RX11, yX11_dueAt, cX11_dueAt, 4, Option.some Jvm.ClassFile.FieldType.int, 7, 166)
theorem ok_X11_dueAt : MOk md_X11_dueAt 2 := ⟨by decide +kernel, w_1200, w_11, ⟨by decide +kernel, by decide +kernel⟩, by decide +kernel, rfl⟩
set_option maxRecDepth 100000 in
set_option maxHeartbeats 4000000 in
theorem con_X11_dueAt (κ : Cfg) (M : Mem) (this : Option Nat) (p1 : Int32) (p2 : Int32) : Con κ md_X11_dueAt [rv κ this, .int p1, .int p2] M cvI (m_X11_dueAt M this p1 p2) := by
  refine Con.of ok_X11_dueAt (ret_I rfl) (by
    intro v hv
    simp only [List.mem_cons, List.not_mem_nil, or_false] at hv
    rcases hv with rfl | rfl | rfl <;> first | rfl | exact rv_cat _ _) (Nat.le_of_ble_eq_true rfl) ?_
  unfold m_X11_dueAt
  refine G.sub (lv' := [(0, rv κ this), (1, .int p1), (2, .int p2)]) [0, 1, 2] rfl ?_
  refine G_aload_n dX11_dueAt_0 0 rfl rfl ?_
  refine G_iload_n dX11_dueAt_1 1 rfl rfl ?_
  refine G_bipush (v := 6) dX11_dueAt_2 (by decide) ?_
  refine G_callV cf_X11 ok_X11_item [.int p1, .int 6] [] (con_X11_item κ M this p1 6) rfl w_1188 w_1190 wp_30 (Nat.le_of_ble_eq_true rfl) (Nat.le_of_ble_eq_true rfl) dX11_dueAt_4 rfl (by simp) (fun x2 M1 => (show G _ _ _ _ _ _ [.int x2] _ from ?_))
  refine G_iconst (v := 1) dX11_dueAt_7 (by decide) ?_
  refine G.jn (P := (fun (J : Int32 → Mem → Option (Int32 × Mem)) => ∀ (x4 : Int32) (M5 : Mem), G κ md_X11_dueAt cvI (J x4 M5) 27 [(0, rv κ this), (1, .int p1)] [.int x4] M5)) ?_ ?_
  · intro x4 M5
    refine G_istore_n (lv' := [(3, .int x4), (0, rv κ this), (1, .int p1)]) dX11_dueAt_27 rfl (Nat.le_of_ble_eq_true rfl) rfl ?_
    refine G_iload_n dX11_dueAt_28 0 rfl rfl ?_
    refine G_aload_n dX11_dueAt_29 1 rfl rfl ?_
    refine G_iload_n dX11_dueAt_30 2 rfl rfl ?_
    refine G_iconst (v := 3) dX11_dueAt_31 (by decide) ?_
    refine G_callV cf_X11 ok_X11_item [.int p1, .int 3] [.int x4] (con_X11_item κ M5 this p1 3) rfl w_1188 w_1190 wp_30 (Nat.le_of_ble_eq_true rfl) (Nat.le_of_ble_eq_true rfl) dX11_dueAt_32 rfl (by simp) (fun x7 M6 => (show G _ _ _ _ _ _ [.int x7, .int x4] _ from ?_))
    refine G_icmp_le (tgt := 49) dX11_dueAt_35 (by decide) ?_ ?_
    · refine G_iconst (v := 0) dX11_dueAt_49 (by decide) ?_
      exact G_ret (v := 0) dX11_dueAt_50 (fun h => by cases h) rfl
    · refine G_iload_n dX11_dueAt_38 0 rfl rfl ?_
      refine G_aload_n dX11_dueAt_39 1 rfl rfl ?_
      refine G_iload_n dX11_dueAt_40 2 rfl rfl ?_
      refine G_iconst (v := 3) dX11_dueAt_41 (by decide) ?_
      refine G_callV cf_X11 ok_X11_item [.int p1, .int 3] [.int x4] (con_X11_item κ M6 this p1 3) rfl w_1188 w_1190 wp_30 (Nat.le_of_ble_eq_true rfl) (Nat.le_of_ble_eq_true rfl) dX11_dueAt_42 rfl (by simp) (fun x9 M8 => (show G _ _ _ _ _ _ [.int x9, .int x4] _ from ?_))
      refine G_isub dX11_dueAt_45 ?_
      refine G_goto (tgt := 50) dX11_dueAt_46 (by decide) ?_
      exact G_ret (v := ((x4 - x9))) dX11_dueAt_50 (fun h => by cases h) rfl
  · intro J27_2 hJ27_2
    refine G_icmp_ne (tgt := 20) dX11_dueAt_8 (by decide) ?_ ?_
    · refine G_aload_n dX11_dueAt_20 0 rfl rfl ?_
      refine G_iload_n dX11_dueAt_21 1 rfl rfl ?_
      refine G_iload_n dX11_dueAt_22 2 rfl rfl ?_
      refine G_iconst (v := 5) dX11_dueAt_23 (by decide) ?_
      refine G_callV cf_X11 ok_X11_vouchered [.int p1, .int p2, .int 5] [] (con_X11_vouchered κ M1 this p1 p2 5) rfl w_1205 w_1207 wp_33 (Nat.le_of_ble_eq_true rfl) (Nat.le_of_ble_eq_true rfl) dX11_dueAt_24 rfl (by simp) (fun x11 M10 => (show G _ _ _ _ _ _ [.int x11] _ from ?_))
      exact G.sub [0, 1] rfl (hJ27_2 _ _)
    · refine G_aload_n dX11_dueAt_11 0 rfl rfl ?_
      refine G_iload_n dX11_dueAt_12 1 rfl rfl ?_
      refine G_iload_n dX11_dueAt_13 2 rfl rfl ?_
      refine G_callV cf_X11 ok_X11_lostFee [.int p1, .int p2] [] (con_X11_lostFee κ M1 this p1 p2) rfl w_1201 w_1203 wp_32 (Nat.le_of_ble_eq_true rfl) (Nat.le_of_ble_eq_true rfl) dX11_dueAt_14 rfl (by simp) (fun x13 M12 => (show G _ _ _ _ _ _ [.int x13] _ from ?_))
      refine G_goto (tgt := 27) dX11_dueAt_17 (by decide) ?_
      exact G.sub [0, 1] rfl (hJ27_2 _ _)
def m_X11_lose (M : Mem) (this : Option Nat) (p1 : Int32) : Option (Int32 × Mem) :=
  rc M 11 this (cl (m_X11_isInside M this p1) (fun (x2 : Int32) (M1 : Mem) => (if x2 ≠ 0 then rc M1 11 this (cl (m_X11_item M1 this p1 6) (fun (x4 : Int32) (M3 : Mem) => (if x4 ≠ 1 then rc M3 11 this (cl (m_X11_set M3 this p1 6 1) (fun (_u : Unit) (M5 : Mem) => dP M5 11 0 this (fun (q6 : Option Nat) => aI M5 100 q6 8 (fun (x7 : Int32) => sI M5 100 q6 8 ((x7 + 1)) (fun (M8 : Mem) => dP M8 11 0 this (fun (q9 : Option Nat) => aI M8 100 q9 0 (fun (x10 : Int32) => rc M8 11 this (cl (m_X11_dueAt M8 this p1 x10) (fun (x12 : Int32) (M11 : Mem) => rt x12 M11))))))))) else rt ((-4)) M3))) else rt ((-1)) M1)))
abbrev md_X11_lose : MD := (RX11, yX11_lose, cX11_lose, 2, Option.some Jvm.ClassFile.FieldType.int, 8, 189)
theorem ok_X11_lose : MOk md_X11_lose 1 := ⟨by decide +kernel, w_1196, w_11, ⟨by decide +kernel, by decide +kernel⟩, by decide +kernel, rfl⟩
set_option maxRecDepth 100000 in
set_option maxHeartbeats 4000000 in
theorem con_X11_lose (κ : Cfg) (M : Mem) (this : Option Nat) (p1 : Int32) : Con κ md_X11_lose [rv κ this, .int p1] M cvI (m_X11_lose M this p1) := by
  refine Con.of ok_X11_lose (ret_I rfl) (by
    intro v hv
    simp only [List.mem_cons, List.not_mem_nil, or_false] at hv
    rcases hv with rfl | rfl <;> first | rfl | exact rv_cat _ _) (Nat.le_of_ble_eq_true rfl) ?_
  unfold m_X11_lose
  refine G.sub (lv' := [(0, rv κ this), (1, .int p1)]) [0, 1] rfl ?_
  refine G_aload_n dX11_lose_0 0 rfl rfl ?_
  refine G_iload_n dX11_lose_1 1 rfl rfl ?_
  refine G_callV cf_X11 ok_X11_isInside [.int p1] [] (con_X11_isInside κ M this p1) rfl w_1184 w_1186 wp_29 (Nat.le_of_ble_eq_true rfl) (Nat.le_of_ble_eq_true rfl) dX11_lose_2 rfl (by simp) (fun x2 M1 => (show G _ _ _ _ _ _ [.int x2] _ from ?_))
  refine G_if_ne (tgt := 10) dX11_lose_5 (by decide) ?_ ?_
  · refine G_aload_n dX11_lose_10 0 rfl rfl ?_
    refine G_iload_n dX11_lose_11 1 rfl rfl ?_
    refine G_bipush (v := 6) dX11_lose_12 (by decide) ?_
    refine G_callV cf_X11 ok_X11_item [.int p1, .int 6] [] (con_X11_item κ M1 this p1 6) rfl w_1188 w_1190 wp_30 (Nat.le_of_ble_eq_true rfl) (Nat.le_of_ble_eq_true rfl) dX11_lose_14 rfl (by simp) (fun x4 M3 => (show G _ _ _ _ _ _ [.int x4] _ from ?_))
    refine G_iconst (v := 1) dX11_lose_17 (by decide) ?_
    refine G_icmp_ne (tgt := 24) dX11_lose_18 (by decide) ?_ ?_
    · refine G_aload_n dX11_lose_24 0 rfl rfl ?_
      refine G_iload_n dX11_lose_25 1 rfl rfl ?_
      refine G_bipush (v := 6) dX11_lose_26 (by decide) ?_
      refine G_iconst (v := 1) dX11_lose_28 (by decide) ?_
      refine G_callV cf_X11 ok_X11_set [.int p1, .int 6, .int 1] [] (con_X11_set κ M3 this p1 6 1) rfl w_1176 w_1178 wp_28 (Nat.le_of_ble_eq_true rfl) (Nat.le_of_ble_eq_true rfl) dX11_lose_29 rfl (by simp) (fun _u M5 => (show G _ _ _ _ _ _ [] _ from ?_))
      refine G_aload_n dX11_lose_32 0 rfl rfl ?_
      refine G_getP cf_X11 (j := 0) rfl w_917 dX11_lose_33 (fun q6 => ?_)
      refine G_bipush (v := 8) dX11_lose_36 (by decide) ?_
      refine G_dup2 dX11_lose_38 rfl (rv_cat _ _) ?_
      refine G_iald dX11_lose_39 (fun x7 => ?_)
      refine G_iconst (v := 1) dX11_lose_40 (by decide) ?_
      refine G_iadd dX11_lose_41 ?_
      refine G_iast dX11_lose_42 (fun M8 => ?_)
      refine G_aload_n dX11_lose_43 0 rfl rfl ?_
      refine G_iload_n dX11_lose_44 1 rfl rfl ?_
      refine G_aload_n dX11_lose_45 0 rfl rfl ?_
      refine G_getP cf_X11 (j := 0) rfl w_917 dX11_lose_46 (fun q9 => ?_)
      refine G_iconst (v := 0) dX11_lose_49 (by decide) ?_
      refine G_iald dX11_lose_50 (fun x10 => ?_)
      refine G_callV cf_X11 ok_X11_dueAt [.int p1, .int x10] [] (con_X11_dueAt κ M8 this p1 x10) rfl w_1197 w_1199 wp_31 (Nat.le_of_ble_eq_true rfl) (Nat.le_of_ble_eq_true rfl) dX11_lose_51 rfl (by simp) (fun x12 M11 => (show G _ _ _ _ _ _ [.int x12] _ from ?_))
      exact G_ret (v := x12) dX11_lose_54 (fun h => by cases h) rfl
    · refine G_bipush (v := (-4)) dX11_lose_21 (by decide) ?_
      exact G_ret (v := ((-4))) dX11_lose_23 (fun h => by cases h) rfl
  · refine G_iconst (v := (-1)) dX11_lose_8 (by decide) ?_
    exact G_ret (v := ((-1))) dX11_lose_9 (fun h => by cases h) rfl
def m_X11_due (M : Mem) (this : Option Nat) (p1 : Int32) (p2 : Int32) : Option (Int32 × Mem) :=
  rc M 11 this (cl (m_X11_isInside M this p1) (fun (x2 : Int32) (M1 : Mem) => (if x2 ≠ 0 then dP M1 11 0 this (fun (q3 : Option Nat) => aI M1 100 q3 0 (fun (x4 : Int32) => cl (m_X11_in M1 p2 x4 99999) (fun (x6 : Int32) (M5 : Mem) => (if x6 = 0 then rt ((-2)) M5 else rc M5 11 this (cl (m_X11_dueAt M5 this p1 p2) (fun (x8 : Int32) (M7 : Mem) => rt x8 M7)))))) else rt ((-1)) M1)))
abbrev md_X11_due : MD := (RX11, yX11_due, cX11_due, 3, Option.some Jvm.ClassFile.FieldType.int, 8, 189)
theorem ok_X11_due : MOk md_X11_due 2 := ⟨by decide +kernel, w_1223, w_11, ⟨by decide +kernel, by decide +kernel⟩, by decide +kernel, rfl⟩
set_option maxRecDepth 100000 in
set_option maxHeartbeats 4000000 in
theorem con_X11_due (κ : Cfg) (M : Mem) (this : Option Nat) (p1 : Int32) (p2 : Int32) : Con κ md_X11_due [rv κ this, .int p1, .int p2] M cvI (m_X11_due M this p1 p2) := by
  refine Con.of ok_X11_due (ret_I rfl) (by
    intro v hv
    simp only [List.mem_cons, List.not_mem_nil, or_false] at hv
    rcases hv with rfl | rfl | rfl <;> first | rfl | exact rv_cat _ _) (Nat.le_of_ble_eq_true rfl) ?_
  unfold m_X11_due
  refine G.sub (lv' := [(0, rv κ this), (1, .int p1), (2, .int p2)]) [0, 1, 2] rfl ?_
  refine G_aload_n dX11_due_0 0 rfl rfl ?_
  refine G_iload_n dX11_due_1 1 rfl rfl ?_
  refine G_callV cf_X11 ok_X11_isInside [.int p1] [] (con_X11_isInside κ M this p1) rfl w_1184 w_1186 wp_29 (Nat.le_of_ble_eq_true rfl) (Nat.le_of_ble_eq_true rfl) dX11_due_2 rfl (by simp) (fun x2 M1 => (show G _ _ _ _ _ _ [.int x2] _ from ?_))
  refine G_if_ne (tgt := 10) dX11_due_5 (by decide) ?_ ?_
  · refine G_iload_n dX11_due_10 2 rfl rfl ?_
    refine G_aload_n dX11_due_11 0 rfl rfl ?_
    refine G_getP cf_X11 (j := 0) rfl w_917 dX11_due_12 (fun q3 => ?_)
    refine G_iconst (v := 0) dX11_due_15 (by decide) ?_
    refine G_iald dX11_due_16 (fun x4 => ?_)
    refine G_ldc (v := 99999) dX11_due_17 w_999 ?_
    refine G_callS ok_X11_in [.int p2, .int x4, .int 99999] [] (con_X11_in κ M1 p2 x4 99999) rfl w_993 w_994 (Nat.le_of_ble_eq_true rfl) (Nat.le_of_ble_eq_true rfl) dX11_due_19 rfl (by simp) (fun x6 M5 => (show G _ _ _ _ _ _ [.int x6] _ from ?_))
    refine G_if_eq (tgt := 34) dX11_due_22 (by decide) ?_ ?_
    · refine G_bipush (v := (-2)) dX11_due_34 (by decide) ?_
      exact G_ret (v := ((-2))) dX11_due_36 (fun h => by cases h) rfl
    · refine G_aload_n dX11_due_25 0 rfl rfl ?_
      refine G_iload_n dX11_due_26 1 rfl rfl ?_
      refine G_iload_n dX11_due_27 2 rfl rfl ?_
      refine G_callV cf_X11 ok_X11_dueAt [.int p1, .int p2] [] (con_X11_dueAt κ M5 this p1 p2) rfl w_1197 w_1199 wp_31 (Nat.le_of_ble_eq_true rfl) (Nat.le_of_ble_eq_true rfl) dX11_due_28 rfl (by simp) (fun x8 M7 => (show G _ _ _ _ _ _ [.int x8] _ from ?_))
      refine G_goto (tgt := 36) dX11_due_31 (by decide) ?_
      exact G_ret (v := x8) dX11_due_36 (fun h => by cases h) rfl
  · refine G_iconst (v := (-1)) dX11_due_8 (by decide) ?_
    exact G_ret (v := ((-1))) dX11_due_9 (fun h => by cases h) rfl
def m_X11_pay (M : Mem) (this : Option Nat) (p1 : Int32) : Option (Int32 × Mem) :=
  rc M 11 this (cl (m_X11_isInside M this p1) (fun (x2 : Int32) (M1 : Mem) => (if x2 ≠ 0 then dP M1 11 0 this (fun (q3 : Option Nat) => aI M1 100 q3 0 (fun (x4 : Int32) => rc M1 11 this (cl (m_X11_dueAt M1 this p1 x4) (fun (x6 : Int32) (M5 : Mem) => rc M5 11 this (cl (m_X11_item M5 this p1 3) (fun (x8 : Int32) (M7 : Mem) => rc M7 11 this (cl (m_X11_set M7 this p1 3 ((x8 + x6))) (fun (_u : Unit) (M9 : Mem) => jn (fun (M11 : Mem) => dP M11 11 0 this (fun (q12 : Option Nat) => aI M11 100 q12 3 (fun (x13 : Int32) => sI M11 100 q12 3 ((x13 + x6)) (fun (M14 : Mem) => dP M14 11 0 this (fun (q15 : Option Nat) => rc M14 11 this (cl (m_X11_item M14 this p1 0) (fun (x17 : Int32) (M16 : Mem) => aI M16 100 q15 ((4 + x17)) (fun (x18 : Int32) => sI M16 100 q15 ((4 + x17)) ((x18 + x6)) (fun (M19 : Mem) => rt x6 M19))))))))) (fun (J53_9 : Mem → Option (Int32 × Mem)) => (if x6 ≤ 0 then J53_9 M9 else dP M9 11 0 this (fun (q20 : Option Nat) => aI M9 100 q20 0 (fun (x21 : Int32) => rc M9 11 this (cl (m_X11_set M9 this p1 7 x21) (fun (_u : Unit) (M22 : Mem) => J53_9 M22)))))))))))))) else rt ((-1)) M1)))
abbrev md_X11_pay : MD := (RX11, yX11_pay, cX11_pay, 3, Option.some Jvm.ClassFile.FieldType.int, 8, 189)
theorem ok_X11_pay : MOk md_X11_pay 1 := ⟨by decide +kernel, w_1227, w_11, ⟨by decide +kernel, by decide +kernel⟩, by decide +kernel, rfl⟩
set_option maxRecDepth 100000 in
set_option maxHeartbeats 4000000 in
theorem con_X11_pay (κ : Cfg) (M : Mem) (this : Option Nat) (p1 : Int32) : Con κ md_X11_pay [rv κ this, .int p1] M cvI (m_X11_pay M this p1) := by
  refine Con.of ok_X11_pay (ret_I rfl) (by
    intro v hv
    simp only [List.mem_cons, List.not_mem_nil, or_false] at hv
    rcases hv with rfl | rfl <;> first | rfl | exact rv_cat _ _) (Nat.le_of_ble_eq_true rfl) ?_
  unfold m_X11_pay
  refine G.sub (lv' := [(0, rv κ this), (1, .int p1)]) [0, 1] rfl ?_
  refine G_aload_n dX11_pay_0 0 rfl rfl ?_
  refine G_iload_n dX11_pay_1 1 rfl rfl ?_
  refine G_callV cf_X11 ok_X11_isInside [.int p1] [] (con_X11_isInside κ M this p1) rfl w_1184 w_1186 wp_29 (Nat.le_of_ble_eq_true rfl) (Nat.le_of_ble_eq_true rfl) dX11_pay_2 rfl (by simp) (fun x2 M1 => (show G _ _ _ _ _ _ [.int x2] _ from ?_))
  refine G_if_ne (tgt := 10) dX11_pay_5 (by decide) ?_ ?_
  · refine G_aload_n dX11_pay_10 0 rfl rfl ?_
    refine G_iload_n dX11_pay_11 1 rfl rfl ?_
    refine G_aload_n dX11_pay_12 0 rfl rfl ?_
    refine G_getP cf_X11 (j := 0) rfl w_917 dX11_pay_13 (fun q3 => ?_)
    refine G_iconst (v := 0) dX11_pay_16 (by decide) ?_
    refine G_iald dX11_pay_17 (fun x4 => ?_)
    refine G_callV cf_X11 ok_X11_dueAt [.int p1, .int x4] [] (con_X11_dueAt κ M1 this p1 x4) rfl w_1197 w_1199 wp_31 (Nat.le_of_ble_eq_true rfl) (Nat.le_of_ble_eq_true rfl) dX11_pay_18 rfl (by simp) (fun x6 M5 => (show G _ _ _ _ _ _ [.int x6] _ from ?_))
    refine G_istore_n (lv' := [(2, .int x6), (0, rv κ this), (1, .int p1)]) dX11_pay_21 rfl (Nat.le_of_ble_eq_true rfl) rfl ?_
    refine G_aload_n dX11_pay_22 1 rfl rfl ?_
    refine G_iload_n dX11_pay_23 2 rfl rfl ?_
    refine G_iconst (v := 3) dX11_pay_24 (by decide) ?_
    refine G_aload_n dX11_pay_25 1 rfl rfl ?_
    refine G_iload_n dX11_pay_26 2 rfl rfl ?_
    refine G_iconst (v := 3) dX11_pay_27 (by decide) ?_
    refine G_callV cf_X11 ok_X11_item [.int p1, .int 3] [.int 3, .int p1, rv κ this] (con_X11_item κ M5 this p1 3) rfl w_1188 w_1190 wp_30 (Nat.le_of_ble_eq_true rfl) (Nat.le_of_ble_eq_true rfl) dX11_pay_28 rfl (by simp) (fun x8 M7 => (show G _ _ _ _ _ _ [.int x8, .int 3, .int p1, rv κ this] _ from ?_))
    refine G_iload_n dX11_pay_31 0 rfl rfl ?_
    refine G_iadd dX11_pay_32 ?_
    refine G_callV cf_X11 ok_X11_set [.int p1, .int 3, .int (x8 + x6)] [] (con_X11_set κ M7 this p1 3 ((x8 + x6))) rfl w_1176 w_1178 wp_28 (Nat.le_of_ble_eq_true rfl) (Nat.le_of_ble_eq_true rfl) dX11_pay_33 rfl (by simp) (fun _u M9 => (show G _ _ _ _ _ _ [] _ from ?_))
    refine G_iload_n dX11_pay_36 0 rfl rfl ?_
    refine G.jn (P := (fun (J : Mem → Option (Int32 × Mem)) => ∀ (M11 : Mem), G κ md_X11_pay cvI (J M11) 53 [(0, rv κ this), (1, .int p1), (2, .int x6)] [] M11)) ?_ ?_
    · intro M11
      refine G_aload_n dX11_pay_53 0 rfl rfl ?_
      refine G_getP cf_X11 (j := 0) rfl w_917 dX11_pay_54 (fun q12 => ?_)
      refine G_iconst (v := 3) dX11_pay_57 (by decide) ?_
      refine G_dup2 dX11_pay_58 rfl (rv_cat _ _) ?_
      refine G_iald dX11_pay_59 (fun x13 => ?_)
      refine G_iload_n dX11_pay_60 2 rfl rfl ?_
      refine G_iadd dX11_pay_61 ?_
      refine G_iast dX11_pay_62 (fun M14 => ?_)
      refine G_aload_n dX11_pay_63 0 rfl rfl ?_
      refine G_getP cf_X11 (j := 0) rfl w_917 dX11_pay_64 (fun q15 => ?_)
      refine G_iconst (v := 4) dX11_pay_67 (by decide) ?_
      refine G_aload_n dX11_pay_68 0 rfl rfl ?_
      refine G_iload_n dX11_pay_69 1 rfl rfl ?_
      refine G_iconst (v := 0) dX11_pay_70 (by decide) ?_
      refine G_callV cf_X11 ok_X11_item [.int p1, .int 0] [.int 4, rv κ q15] (con_X11_item κ M14 this p1 0) rfl w_1188 w_1190 wp_30 (Nat.le_of_ble_eq_true rfl) (Nat.le_of_ble_eq_true rfl) dX11_pay_71 rfl (by simp) (fun x17 M16 => (show G _ _ _ _ _ _ [.int x17, .int 4, rv κ q15] _ from ?_))
      refine G_iadd dX11_pay_74 ?_
      refine G_dup2 dX11_pay_75 rfl (rv_cat _ _) ?_
      refine G_iald dX11_pay_76 (fun x18 => ?_)
      refine G_iload_n dX11_pay_77 2 rfl rfl ?_
      refine G_iadd dX11_pay_78 ?_
      refine G_iast dX11_pay_79 (fun M19 => ?_)
      refine G_iload_n dX11_pay_80 2 rfl rfl ?_
      exact G_ret (v := x6) dX11_pay_81 (fun h => by cases h) rfl
    · intro J53_9 hJ53_9
      refine G_if_le (tgt := 53) dX11_pay_37 (by decide) ?_ ?_
      · exact G.sub [1, 2, 0] rfl (hJ53_9 _)
      · refine G_aload_n dX11_pay_40 1 rfl rfl ?_
        refine G_iload_n dX11_pay_41 2 rfl rfl ?_
        refine G_bipush (v := 7) dX11_pay_42 (by decide) ?_
        refine G_aload_n dX11_pay_44 1 rfl rfl ?_
        refine G_getP cf_X11 (j := 0) rfl w_917 dX11_pay_45 (fun q20 => ?_)
        refine G_iconst (v := 0) dX11_pay_48 (by decide) ?_
        refine G_iald dX11_pay_49 (fun x21 => ?_)
        refine G_callV cf_X11 ok_X11_set [.int p1, .int 7, .int x21] [] (con_X11_set κ M9 this p1 7 x21) rfl w_1176 w_1178 wp_28 (Nat.le_of_ble_eq_true rfl) (Nat.le_of_ble_eq_true rfl) dX11_pay_50 rfl (by simp) (fun _u M22 => (show G _ _ _ _ _ _ [] _ from ?_))
        exact G.sub [1, 2, 0] rfl (hJ53_9 _)
  · refine G_iconst (v := (-1)) dX11_pay_8 (by decide) ?_
    exact G_ret (v := ((-1))) dX11_pay_9 (fun h => by cases h) rfl
def m_X11_leave (M : Mem) (this : Option Nat) (p1 : Int32) : Option (Int32 × Mem) :=
  rc M 11 this (cl (m_X11_isInside M this p1) (fun (x2 : Int32) (M1 : Mem) => (if x2 ≠ 0 then rc M1 11 this (cl (m_X11_item M1 this p1 7) (fun (x4 : Int32) (M3 : Mem) => jn (fun (x6 : Int32) (M7 : Mem) => jn (fun (M9 : Mem) => rc M9 11 this (cl (m_X11_set M9 this p1 5 1) (fun (_u : Unit) (M10 : Mem) => dP M10 11 0 this (fun (q11 : Option Nat) => aI M10 100 q11 2 (fun (x12 : Int32) => sI M10 100 q11 2 ((x12 + 1)) (fun (M13 : Mem) => dP M13 11 0 this (fun (q14 : Option Nat) => rc M13 11 this (cl (m_X11_item M13 this p1 2) (fun (x16 : Int32) (M15 : Mem) => aI M15 100 q14 (((153 + (4 * x16)) + 1)) (fun (x17 : Int32) => sI M15 100 q14 (((153 + (4 * x16)) + 1)) ((x17 - 1)) (fun (M18 : Mem) => dP M18 11 0 this (fun (q19 : Option Nat) => rc M18 11 this (cl (m_X11_item M18 this p1 2) (fun (x21 : Int32) (M20 : Mem) => aI M20 100 q19 (((153 + (4 * x21)) + 2)) (fun (x22 : Int32) => sI M20 100 q19 (((153 + (4 * x21)) + 2)) ((x22 + 1)) (fun (M23 : Mem) => rc M23 11 this (cl (m_X11_item M23 this p1 3) (fun (x25 : Int32) (M24 : Mem) => rt x25 M24)))))))))))))))))) (fun (J66_7 : Mem → Option (Int32 × Mem)) => (if x6 ≠ 0 then J66_7 M7 else dP M7 11 0 this (fun (q26 : Option Nat) => aI M7 100 q26 0 (fun (x27 : Int32) => rc M7 11 this (cl (m_X11_dueAt M7 this p1 x27) (fun (x29 : Int32) (M28 : Mem) => (if x29 ≤ 0 then J66_7 M28 else rt ((-7)) M28)))))))) (fun (J44_4 : Int32 → Mem → Option (Int32 × Mem)) => jn (fun (M31 : Mem) => J44_4 0 M31) (fun (J43_29 : Mem → Option (Int32 × Mem)) => (if x4 < 0 then J43_29 M3 else dP M3 11 0 this (fun (q32 : Option Nat) => aI M3 100 q32 0 (fun (x33 : Int32) => rc M3 11 this (cl (m_X11_item M3 this p1 7) (fun (x35 : Int32) (M34 : Mem) => (if 15 < (x33 - x35) then J43_29 M34 else J44_4 1 M34)))))))))) else rt ((-1)) M1)))
abbrev md_X11_leave : MD := (RX11, yX11_leave, cX11_leave, 3, Option.some Jvm.ClassFile.FieldType.int, 8, 189)
theorem ok_X11_leave : MOk md_X11_leave 1 := ⟨by decide +kernel, w_1231, w_11, ⟨by decide +kernel, by decide +kernel⟩, by decide +kernel, rfl⟩
set_option maxRecDepth 100000 in
set_option maxHeartbeats 4000000 in
theorem con_X11_leave (κ : Cfg) (M : Mem) (this : Option Nat) (p1 : Int32) : Con κ md_X11_leave [rv κ this, .int p1] M cvI (m_X11_leave M this p1) := by
  refine Con.of ok_X11_leave (ret_I rfl) (by
    intro v hv
    simp only [List.mem_cons, List.not_mem_nil, or_false] at hv
    rcases hv with rfl | rfl <;> first | rfl | exact rv_cat _ _) (Nat.le_of_ble_eq_true rfl) ?_
  unfold m_X11_leave
  refine G.sub (lv' := [(0, rv κ this), (1, .int p1)]) [0, 1] rfl ?_
  refine G_aload_n dX11_leave_0 0 rfl rfl ?_
  refine G_iload_n dX11_leave_1 1 rfl rfl ?_
  refine G_callV cf_X11 ok_X11_isInside [.int p1] [] (con_X11_isInside κ M this p1) rfl w_1184 w_1186 wp_29 (Nat.le_of_ble_eq_true rfl) (Nat.le_of_ble_eq_true rfl) dX11_leave_2 rfl (by simp) (fun x2 M1 => (show G _ _ _ _ _ _ [.int x2] _ from ?_))
  refine G_if_ne (tgt := 10) dX11_leave_5 (by decide) ?_ ?_
  · refine G_aload_n dX11_leave_10 0 rfl rfl ?_
    refine G_iload_n dX11_leave_11 1 rfl rfl ?_
    refine G_bipush (v := 7) dX11_leave_12 (by decide) ?_
    refine G_callV cf_X11 ok_X11_item [.int p1, .int 7] [] (con_X11_item κ M1 this p1 7) rfl w_1188 w_1190 wp_30 (Nat.le_of_ble_eq_true rfl) (Nat.le_of_ble_eq_true rfl) dX11_leave_14 rfl (by simp) (fun x4 M3 => (show G _ _ _ _ _ _ [.int x4] _ from ?_))
    refine G.jn (P := (fun (J : Int32 → Mem → Option (Int32 × Mem)) => ∀ (x6 : Int32) (M7 : Mem), G κ md_X11_leave cvI (J x6 M7) 44 [(0, rv κ this), (1, .int p1)] [.int x6] M7)) ?_ ?_
    · intro x6 M7
      refine G_istore_n (lv' := [(2, .int x6), (0, rv κ this), (1, .int p1)]) dX11_leave_44 rfl (Nat.le_of_ble_eq_true rfl) rfl ?_
      refine G_iload_n dX11_leave_45 0 rfl rfl ?_
      refine G.jn (P := (fun (J : Mem → Option (Int32 × Mem)) => ∀ (M9 : Mem), G κ md_X11_leave cvI (J M9) 66 [(0, rv κ this), (1, .int p1)] [] M9)) ?_ ?_
      · intro M9
        refine G_aload_n dX11_leave_66 0 rfl rfl ?_
        refine G_iload_n dX11_leave_67 1 rfl rfl ?_
        refine G_iconst (v := 5) dX11_leave_68 (by decide) ?_
        refine G_iconst (v := 1) dX11_leave_69 (by decide) ?_
        refine G_callV cf_X11 ok_X11_set [.int p1, .int 5, .int 1] [] (con_X11_set κ M9 this p1 5 1) rfl w_1176 w_1178 wp_28 (Nat.le_of_ble_eq_true rfl) (Nat.le_of_ble_eq_true rfl) dX11_leave_70 rfl (by simp) (fun _u M10 => (show G _ _ _ _ _ _ [] _ from ?_))
        refine G_aload_n dX11_leave_73 0 rfl rfl ?_
        refine G_getP cf_X11 (j := 0) rfl w_917 dX11_leave_74 (fun q11 => ?_)
        refine G_iconst (v := 2) dX11_leave_77 (by decide) ?_
        refine G_dup2 dX11_leave_78 rfl (rv_cat _ _) ?_
        refine G_iald dX11_leave_79 (fun x12 => ?_)
        refine G_iconst (v := 1) dX11_leave_80 (by decide) ?_
        refine G_iadd dX11_leave_81 ?_
        refine G_iast dX11_leave_82 (fun M13 => ?_)
        refine G_aload_n dX11_leave_83 0 rfl rfl ?_
        refine G_getP cf_X11 (j := 0) rfl w_917 dX11_leave_84 (fun q14 => ?_)
        refine G_sipush (v := 153) dX11_leave_87 (by decide) ?_
        refine G_iconst (v := 4) dX11_leave_90 (by decide) ?_
        refine G_aload_n dX11_leave_91 0 rfl rfl ?_
        refine G_iload_n dX11_leave_92 1 rfl rfl ?_
        refine G_iconst (v := 2) dX11_leave_93 (by decide) ?_
        refine G_callV cf_X11 ok_X11_item [.int p1, .int 2] [.int 4, .int 153, rv κ q14] (con_X11_item κ M13 this p1 2) rfl w_1188 w_1190 wp_30 (Nat.le_of_ble_eq_true rfl) (Nat.le_of_ble_eq_true rfl) dX11_leave_94 rfl (by simp) (fun x16 M15 => (show G _ _ _ _ _ _ [.int x16, .int 4, .int 153, rv κ q14] _ from ?_))
        refine G_imul dX11_leave_97 ?_
        refine G_iadd dX11_leave_98 ?_
        refine G_iconst (v := 1) dX11_leave_99 (by decide) ?_
        refine G_iadd dX11_leave_100 ?_
        refine G_dup2 dX11_leave_101 rfl (rv_cat _ _) ?_
        refine G_iald dX11_leave_102 (fun x17 => ?_)
        refine G_iconst (v := 1) dX11_leave_103 (by decide) ?_
        refine G_isub dX11_leave_104 ?_
        refine G_iast dX11_leave_105 (fun M18 => ?_)
        refine G_aload_n dX11_leave_106 0 rfl rfl ?_
        refine G_getP cf_X11 (j := 0) rfl w_917 dX11_leave_107 (fun q19 => ?_)
        refine G_sipush (v := 153) dX11_leave_110 (by decide) ?_
        refine G_iconst (v := 4) dX11_leave_113 (by decide) ?_
        refine G_aload_n dX11_leave_114 0 rfl rfl ?_
        refine G_iload_n dX11_leave_115 1 rfl rfl ?_
        refine G_iconst (v := 2) dX11_leave_116 (by decide) ?_
        refine G_callV cf_X11 ok_X11_item [.int p1, .int 2] [.int 4, .int 153, rv κ q19] (con_X11_item κ M18 this p1 2) rfl w_1188 w_1190 wp_30 (Nat.le_of_ble_eq_true rfl) (Nat.le_of_ble_eq_true rfl) dX11_leave_117 rfl (by simp) (fun x21 M20 => (show G _ _ _ _ _ _ [.int x21, .int 4, .int 153, rv κ q19] _ from ?_))
        refine G_imul dX11_leave_120 ?_
        refine G_iadd dX11_leave_121 ?_
        refine G_iconst (v := 2) dX11_leave_122 (by decide) ?_
        refine G_iadd dX11_leave_123 ?_
        refine G_dup2 dX11_leave_124 rfl (rv_cat _ _) ?_
        refine G_iald dX11_leave_125 (fun x22 => ?_)
        refine G_iconst (v := 1) dX11_leave_126 (by decide) ?_
        refine G_iadd dX11_leave_127 ?_
        refine G_iast dX11_leave_128 (fun M23 => ?_)
        refine G_aload_n dX11_leave_129 0 rfl rfl ?_
        refine G_iload_n dX11_leave_130 1 rfl rfl ?_
        refine G_iconst (v := 3) dX11_leave_131 (by decide) ?_
        refine G_callV cf_X11 ok_X11_item [.int p1, .int 3] [] (con_X11_item κ M23 this p1 3) rfl w_1188 w_1190 wp_30 (Nat.le_of_ble_eq_true rfl) (Nat.le_of_ble_eq_true rfl) dX11_leave_132 rfl (by simp) (fun x25 M24 => (show G _ _ _ _ _ _ [.int x25] _ from ?_))
        exact G_ret (v := x25) dX11_leave_135 (fun h => by cases h) rfl
      · intro J66_7 hJ66_7
        refine G_if_ne (tgt := 66) dX11_leave_46 (by decide) ?_ ?_
        · exact G.sub [1, 2] rfl (hJ66_7 _)
        · refine G_aload_n dX11_leave_49 1 rfl rfl ?_
          refine G_iload_n dX11_leave_50 2 rfl rfl ?_
          refine G_aload_n dX11_leave_51 1 rfl rfl ?_
          refine G_getP cf_X11 (j := 0) rfl w_917 dX11_leave_52 (fun q26 => ?_)
          refine G_iconst (v := 0) dX11_leave_55 (by decide) ?_
          refine G_iald dX11_leave_56 (fun x27 => ?_)
          refine G_callV cf_X11 ok_X11_dueAt [.int p1, .int x27] [] (con_X11_dueAt κ M7 this p1 x27) rfl w_1197 w_1199 wp_31 (Nat.le_of_ble_eq_true rfl) (Nat.le_of_ble_eq_true rfl) dX11_leave_57 rfl (by simp) (fun x29 M28 => (show G _ _ _ _ _ _ [.int x29] _ from ?_))
          refine G_if_le (tgt := 66) dX11_leave_60 (by decide) ?_ ?_
          · exact G.sub [1, 2] rfl (hJ66_7 _)
          · refine G_bipush (v := (-7)) dX11_leave_63 (by decide) ?_
            exact G_ret (v := ((-7))) dX11_leave_65 (fun h => by cases h) rfl
    · intro J44_4 hJ44_4
      refine G.jn (P := (fun (J : Mem → Option (Int32 × Mem)) => ∀ (M31 : Mem), G κ md_X11_leave cvI (J M31) 43 [(0, rv κ this), (1, .int p1)] [] M31)) ?_ ?_
      · intro M31
        refine G_iconst (v := 0) dX11_leave_43 (by decide) ?_
        exact G.sub [0, 1] rfl (hJ44_4 _ _)
      · intro J43_29 hJ43_29
        refine G_if_lt (tgt := 43) dX11_leave_17 (by decide) ?_ ?_
        · exact G.sub [0, 1] rfl (hJ43_29 _)
        · refine G_aload_n dX11_leave_20 0 rfl rfl ?_
          refine G_getP cf_X11 (j := 0) rfl w_917 dX11_leave_21 (fun q32 => ?_)
          refine G_iconst (v := 0) dX11_leave_24 (by decide) ?_
          refine G_iald dX11_leave_25 (fun x33 => ?_)
          refine G_aload_n dX11_leave_26 0 rfl rfl ?_
          refine G_iload_n dX11_leave_27 1 rfl rfl ?_
          refine G_bipush (v := 7) dX11_leave_28 (by decide) ?_
          refine G_callV cf_X11 ok_X11_item [.int p1, .int 7] [.int x33] (con_X11_item κ M3 this p1 7) rfl w_1188 w_1190 wp_30 (Nat.le_of_ble_eq_true rfl) (Nat.le_of_ble_eq_true rfl) dX11_leave_30 rfl (by simp) (fun x35 M34 => (show G _ _ _ _ _ _ [.int x35, .int x33] _ from ?_))
          refine G_isub dX11_leave_33 ?_
          refine G_bipush (v := 15) dX11_leave_34 (by decide) ?_
          refine G_icmp_gt (tgt := 43) dX11_leave_36 (by decide) ?_ ?_
          · exact G.sub [0, 1] rfl (hJ43_29 _)
          · refine G_iconst (v := 1) dX11_leave_39 (by decide) ?_
            refine G_goto (tgt := 44) dX11_leave_40 (by decide) ?_
            exact G.sub [0, 1] rfl (hJ44_4 _ _)
  · refine G_iconst (v := (-1)) dX11_leave_8 (by decide) ?_
    exact G_ret (v := ((-1))) dX11_leave_9 (fun h => by cases h) rfl
def m_X11_ticket (M : Mem) (this : Option Nat) (p1 : Int32) (p2 : Int32) : Option (Int32 × Mem) :=
  dP M 11 0 this (fun (q1 : Option Nat) => aI M 100 q1 1 (fun (x2 : Int32) => cl (m_X11_in M p1 0 ((x2 - 1))) (fun (x4 : Int32) (M3 : Mem) => (if x4 ≠ 0 then cl (m_X11_in M3 p2 0 7) (fun (x6 : Int32) (M5 : Mem) => (if x6 = 0 then rt ((-2)) M5 else rc M5 11 this (cl (m_X11_item M5 this p1 p2) (fun (x8 : Int32) (M7 : Mem) => rt x8 M7)))) else rt ((-1)) M3))))
abbrev md_X11_ticket : MD := (RX11, yX11_ticket, cX11_ticket, 3, Option.some Jvm.ClassFile.FieldType.int, 1, 22)
theorem ok_X11_ticket : MOk md_X11_ticket 2 := ⟨by decide +kernel, w_1235, w_11, ⟨by decide +kernel, by decide +kernel⟩, by decide +kernel, rfl⟩
set_option maxRecDepth 100000 in
set_option maxHeartbeats 4000000 in
theorem con_X11_ticket (κ : Cfg) (M : Mem) (this : Option Nat) (p1 : Int32) (p2 : Int32) : Con κ md_X11_ticket [rv κ this, .int p1, .int p2] M cvI (m_X11_ticket M this p1 p2) := by
  refine Con.of ok_X11_ticket (ret_I rfl) (by
    intro v hv
    simp only [List.mem_cons, List.not_mem_nil, or_false] at hv
    rcases hv with rfl | rfl | rfl <;> first | rfl | exact rv_cat _ _) (Nat.le_of_ble_eq_true rfl) ?_
  unfold m_X11_ticket
  refine G.sub (lv' := [(0, rv κ this), (1, .int p1), (2, .int p2)]) [0, 1, 2] rfl ?_
  refine G_iload_n dX11_ticket_0 1 rfl rfl ?_
  refine G_iconst (v := 0) dX11_ticket_1 (by decide) ?_
  refine G_aload_n dX11_ticket_2 0 rfl rfl ?_
  refine G_getP cf_X11 (j := 0) rfl w_917 dX11_ticket_3 (fun q1 => ?_)
  refine G_iconst (v := 1) dX11_ticket_6 (by decide) ?_
  refine G_iald dX11_ticket_7 (fun x2 => ?_)
  refine G_iconst (v := 1) dX11_ticket_8 (by decide) ?_
  refine G_isub dX11_ticket_9 ?_
  refine G_callS ok_X11_in [.int p1, .int 0, .int (x2 - 1)] [] (con_X11_in κ M p1 0 ((x2 - 1))) rfl w_993 w_994 (Nat.le_of_ble_eq_true rfl) (Nat.le_of_ble_eq_true rfl) dX11_ticket_10 rfl (by simp) (fun x4 M3 => (show G _ _ _ _ _ _ [.int x4] _ from ?_))
  refine G_if_ne (tgt := 18) dX11_ticket_13 (by decide) ?_ ?_
  · refine G_iload_n dX11_ticket_18 2 rfl rfl ?_
    refine G_iconst (v := 0) dX11_ticket_19 (by decide) ?_
    refine G_bipush (v := 7) dX11_ticket_20 (by decide) ?_
    refine G_callS ok_X11_in [.int p2, .int 0, .int 7] [] (con_X11_in κ M3 p2 0 7) rfl w_993 w_994 (Nat.le_of_ble_eq_true rfl) (Nat.le_of_ble_eq_true rfl) dX11_ticket_22 rfl (by simp) (fun x6 M5 => (show G _ _ _ _ _ _ [.int x6] _ from ?_))
    refine G_if_eq (tgt := 37) dX11_ticket_25 (by decide) ?_ ?_
    · refine G_bipush (v := (-2)) dX11_ticket_37 (by decide) ?_
      exact G_ret (v := ((-2))) dX11_ticket_39 (fun h => by cases h) rfl
    · refine G_aload_n dX11_ticket_28 0 rfl rfl ?_
      refine G_iload_n dX11_ticket_29 1 rfl rfl ?_
      refine G_iload_n dX11_ticket_30 2 rfl rfl ?_
      refine G_callV cf_X11 ok_X11_item [.int p1, .int p2] [] (con_X11_item κ M5 this p1 p2) rfl w_1188 w_1190 wp_30 (Nat.le_of_ble_eq_true rfl) (Nat.le_of_ble_eq_true rfl) dX11_ticket_31 rfl (by simp) (fun x8 M7 => (show G _ _ _ _ _ _ [.int x8] _ from ?_))
      refine G_goto (tgt := 39) dX11_ticket_34 (by decide) ?_
      exact G_ret (v := x8) dX11_ticket_39 (fun h => by cases h) rfl
  · refine G_iconst (v := (-1)) dX11_ticket_16 (by decide) ?_
    exact G_ret (v := ((-1))) dX11_ticket_17 (fun h => by cases h) rfl
def b_X11_stepsOf_4 (this : Option Nat) (p1 : Int32) (L4_0 : (Int32 × Int32 × Mem) → Option (Int32 × Mem)) (a1 : Int32 × Int32 × Mem) : Option (Int32 × Mem) :=
  rc a1.2.2 11 this (cl (m_X11_item a1.2.2 this p1 4) (fun (x4 : Int32) (M3 : Mem) => (if x4 ≤ a1.2.1 then rt a1.1 M3 else rc M3 11 this (cl (m_X11_item M3 this p1 ((8 + a1.2.1))) (fun (x6 : Int32) (M5 : Mem) => rc M5 11 this (cl (m_X11_kindOf M5 this x6) (fun (x8 : Int32) (M7 : Mem) => jn (fun (x10 : Int32) (M11 : Mem) => L4_0 ((a1.1 + x10), (a1.2.1 + 1), M11)) (fun (J36_8 : Int32 → Mem → Option (Int32 × Mem)) => (if x8 ≤ 0 then J36_8 0 M7 else J36_8 1 M7)))))))))
def m_X11_stepsOf (M : Mem) (this : Option Nat) (p1 : Int32) : Option (Int32 × Mem) :=
  lp (b_X11_stepsOf_4 this p1) FU (0, 0, M)
abbrev md_X11_stepsOf : MD := (RX11, yX11_stepsOf, cX11_stepsOf, 4, Option.some Jvm.ClassFile.FieldType.int, 1, 22)
theorem ok_X11_stepsOf : MOk md_X11_stepsOf 1 := ⟨by decide +kernel, w_1243, w_11, ⟨by decide +kernel, by decide +kernel⟩, by decide +kernel, rfl⟩
set_option maxRecDepth 100000 in
set_option maxHeartbeats 4000000 in
theorem con_X11_stepsOf (κ : Cfg) (M : Mem) (this : Option Nat) (p1 : Int32) : Con κ md_X11_stepsOf [rv κ this, .int p1] M cvI (m_X11_stepsOf M this p1) := by
  refine Con.of ok_X11_stepsOf (ret_I rfl) (by
    intro v hv
    simp only [List.mem_cons, List.not_mem_nil, or_false] at hv
    rcases hv with rfl | rfl <;> first | rfl | exact rv_cat _ _) (Nat.le_of_ble_eq_true rfl) ?_
  unfold m_X11_stepsOf
  refine G.sub (lv' := [(0, rv κ this), (1, .int p1)]) [0, 1] rfl ?_
  refine G_iconst (v := 0) dX11_stepsOf_0 (by decide) ?_
  refine G_istore_n (lv' := [(2, .int 0), (0, rv κ this), (1, .int p1)]) dX11_stepsOf_1 rfl (Nat.le_of_ble_eq_true rfl) rfl ?_
  refine G_iconst (v := 0) dX11_stepsOf_2 (by decide) ?_
  refine G_istore_n (lv' := [(3, .int 0), (2, .int 0), (0, rv κ this), (1, .int p1)]) dX11_stepsOf_3 rfl (Nat.le_of_ble_eq_true rfl) rfl ?_
  refine G.sub (lv' := [(0, rv κ this), (1, .int p1), (2, .int 0), (3, .int 0)]) [2, 3, 1, 0] rfl ?_
  refine G.loop (lvf := fun (a1 : Int32 × Int32 × Mem) => [(0, rv κ this), (1, .int p1), (2, .int a1.1), (3, .int a1.2.1)]) (mf := fun (a1 : Int32 × Int32 × Mem) => a1.2.2) (fun L4_0 hL4_0 a1 => ?_) FU (0, 0, M)
  unfold b_X11_stepsOf_4
  refine G_iload_n dX11_stepsOf_4 3 rfl rfl ?_
  refine G_aload_n dX11_stepsOf_5 0 rfl rfl ?_
  refine G_iload_n dX11_stepsOf_6 1 rfl rfl ?_
  refine G_iconst (v := 4) dX11_stepsOf_7 (by decide) ?_
  refine G_callV cf_X11 ok_X11_item [.int p1, .int 4] [.int a1.2.1] (con_X11_item κ a1.2.2 this p1 4) rfl w_1188 w_1190 wp_30 (Nat.le_of_ble_eq_true rfl) (Nat.le_of_ble_eq_true rfl) dX11_stepsOf_8 rfl (by simp) (fun x4 M3 => (show G _ _ _ _ _ _ [.int x4, .int a1.2.1] _ from ?_))
  refine G_icmp_ge (tgt := 44) dX11_stepsOf_11 (by decide) ?_ ?_
  · refine G_iload_n dX11_stepsOf_44 2 rfl rfl ?_
    exact G_ret (v := a1.1) dX11_stepsOf_45 (fun h => by cases h) rfl
  · refine G_iload_n dX11_stepsOf_14 2 rfl rfl ?_
    refine G_aload_n dX11_stepsOf_15 0 rfl rfl ?_
    refine G_aload_n dX11_stepsOf_16 0 rfl rfl ?_
    refine G_iload_n dX11_stepsOf_17 1 rfl rfl ?_
    refine G_bipush (v := 8) dX11_stepsOf_18 (by decide) ?_
    refine G_iload_n dX11_stepsOf_20 3 rfl rfl ?_
    refine G_iadd dX11_stepsOf_21 ?_
    refine G_callV cf_X11 ok_X11_item [.int p1, .int (8 + a1.2.1)] [rv κ this, .int a1.1] (con_X11_item κ M3 this p1 ((8 + a1.2.1))) rfl w_1188 w_1190 wp_30 (Nat.le_of_ble_eq_true rfl) (Nat.le_of_ble_eq_true rfl) dX11_stepsOf_22 rfl (by simp) (fun x6 M5 => (show G _ _ _ _ _ _ [.int x6, rv κ this, .int a1.1] _ from ?_))
    refine G_callV cf_X11 ok_X11_kindOf [.int x6] [.int a1.1] (con_X11_kindOf κ M5 this x6) rfl w_1124 w_1126 wp_23 (Nat.le_of_ble_eq_true rfl) (Nat.le_of_ble_eq_true rfl) dX11_stepsOf_25 rfl (by simp) (fun x8 M7 => (show G _ _ _ _ _ _ [.int x8, .int a1.1] _ from ?_))
    refine G.jn (P := (fun (J : Int32 → Mem → Option (Int32 × Mem)) => ∀ (x10 : Int32) (M11 : Mem), G κ md_X11_stepsOf cvI (J x10 M11) 36 [(0, rv κ this), (1, .int p1), (3, .int a1.2.1)] [.int x10, .int a1.1] M11)) ?_ ?_
    · intro x10 M11
      refine G_iadd dX11_stepsOf_36 ?_
      refine G_istore_n (lv' := [(2, .int (a1.1 + x10)), (0, rv κ this), (1, .int p1), (3, .int a1.2.1)]) dX11_stepsOf_37 rfl (Nat.le_of_ble_eq_true rfl) rfl ?_
      refine G_iinc (v := (a1.2.1 + 1)) (lv' := [(3, .int (a1.2.1 + 1)), (2, .int (a1.1 + x10)), (0, rv κ this), (1, .int p1)]) dX11_stepsOf_38 3 rfl (congrArg (fun z9 : Int32 => a1.2.1 + z9) (by decide : Int32.ofInt 1 = 1)) (Nat.le_of_ble_eq_true rfl) rfl ?_
      refine G_goto (tgt := 4) dX11_stepsOf_41 (by decide) ?_
      exact G.sub [2, 3, 1, 0] rfl (hL4_0 _)
    · intro J36_8 hJ36_8
      refine G_if_le (tgt := 35) dX11_stepsOf_28 (by decide) ?_ ?_
      · refine G_iconst (v := 0) dX11_stepsOf_35 (by decide) ?_
        exact G.sub [0, 1, 3] rfl (hJ36_8 _ _)
      · refine G_iconst (v := 1) dX11_stepsOf_31 (by decide) ?_
        refine G_goto (tgt := 36) dX11_stepsOf_32 (by decide) ?_
        exact G.sub [0, 1, 3] rfl (hJ36_8 _ _)
def m_X11_step (M : Mem) (this : Option Nat) (p1 : Int32) (p2 : Int32) : Option (Int32 × Mem) :=
  rc M 11 this (cl (m_X11_isInside M this p1) (fun (x2 : Int32) (M1 : Mem) => (if x2 = 0 then rt ((-1)) M1 else rc M1 11 this (cl (m_X11_stepsOf M1 this p1) (fun (x4 : Int32) (M3 : Mem) => cl (m_X11_in M3 p2 0 x4) (fun (x6 : Int32) (M5 : Mem) => (if x6 ≠ 0 then rc M5 11 this (cl (m_X11_item M5 this p1 6) (fun (x8 : Int32) (M7 : Mem) => (if x8 ≠ 1 then dP M7 11 0 this (fun (q9 : Option Nat) => aI M7 100 q9 0 (fun (x10 : Int32) => rc M7 11 this (cl (m_X11_vouchered M7 this p1 x10 p2) (fun (x12 : Int32) (M11 : Mem) => rt x12 M11)))) else rt ((-4)) M7))) else rt ((-1)) M5)))))))
abbrev md_X11_step : MD := (RX11, yX11_step, cX11_step, 3, Option.some Jvm.ClassFile.FieldType.int, 7, 166)
theorem ok_X11_step : MOk md_X11_step 2 := ⟨by decide +kernel, w_1239, w_11, ⟨by decide +kernel, by decide +kernel⟩, by decide +kernel, rfl⟩
set_option maxRecDepth 100000 in
set_option maxHeartbeats 4000000 in
theorem con_X11_step (κ : Cfg) (M : Mem) (this : Option Nat) (p1 : Int32) (p2 : Int32) : Con κ md_X11_step [rv κ this, .int p1, .int p2] M cvI (m_X11_step M this p1 p2) := by
  refine Con.of ok_X11_step (ret_I rfl) (by
    intro v hv
    simp only [List.mem_cons, List.not_mem_nil, or_false] at hv
    rcases hv with rfl | rfl | rfl <;> first | rfl | exact rv_cat _ _) (Nat.le_of_ble_eq_true rfl) ?_
  unfold m_X11_step
  refine G.sub (lv' := [(0, rv κ this), (1, .int p1), (2, .int p2)]) [0, 1, 2] rfl ?_
  refine G_aload_n dX11_step_0 0 rfl rfl ?_
  refine G_iload_n dX11_step_1 1 rfl rfl ?_
  refine G_callV cf_X11 ok_X11_isInside [.int p1] [] (con_X11_isInside κ M this p1) rfl w_1184 w_1186 wp_29 (Nat.le_of_ble_eq_true rfl) (Nat.le_of_ble_eq_true rfl) dX11_step_2 rfl (by simp) (fun x2 M1 => (show G _ _ _ _ _ _ [.int x2] _ from ?_))
  refine G_if_eq (tgt := 21) dX11_step_5 (by decide) ?_ ?_
  · refine G_iconst (v := (-1)) dX11_step_21 (by decide) ?_
    exact G_ret (v := ((-1))) dX11_step_22 (fun h => by cases h) rfl
  · refine G_iload_n dX11_step_8 2 rfl rfl ?_
    refine G_iconst (v := 0) dX11_step_9 (by decide) ?_
    refine G_aload_n dX11_step_10 0 rfl rfl ?_
    refine G_iload_n dX11_step_11 1 rfl rfl ?_
    refine G_callV cf_X11 ok_X11_stepsOf [.int p1] [.int 0, .int p2] (con_X11_stepsOf κ M1 this p1) rfl w_1240 w_1242 wp_36 (Nat.le_of_ble_eq_true rfl) (Nat.le_of_ble_eq_true rfl) dX11_step_12 rfl (by simp) (fun x4 M3 => (show G _ _ _ _ _ _ [.int x4, .int 0, .int p2] _ from ?_))
    refine G_callS ok_X11_in [.int p2, .int 0, .int x4] [] (con_X11_in κ M3 p2 0 x4) rfl w_993 w_994 (Nat.le_of_ble_eq_true rfl) (Nat.le_of_ble_eq_true rfl) dX11_step_15 rfl (by simp) (fun x6 M5 => (show G _ _ _ _ _ _ [.int x6] _ from ?_))
    refine G_if_ne (tgt := 23) dX11_step_18 (by decide) ?_ ?_
    · refine G_aload_n dX11_step_23 0 rfl rfl ?_
      refine G_iload_n dX11_step_24 1 rfl rfl ?_
      refine G_bipush (v := 6) dX11_step_25 (by decide) ?_
      refine G_callV cf_X11 ok_X11_item [.int p1, .int 6] [] (con_X11_item κ M5 this p1 6) rfl w_1188 w_1190 wp_30 (Nat.le_of_ble_eq_true rfl) (Nat.le_of_ble_eq_true rfl) dX11_step_27 rfl (by simp) (fun x8 M7 => (show G _ _ _ _ _ _ [.int x8] _ from ?_))
      refine G_iconst (v := 1) dX11_step_30 (by decide) ?_
      refine G_icmp_ne (tgt := 39) dX11_step_31 (by decide) ?_ ?_
      · refine G_aload_n dX11_step_39 0 rfl rfl ?_
        refine G_iload_n dX11_step_40 1 rfl rfl ?_
        refine G_aload_n dX11_step_41 0 rfl rfl ?_
        refine G_getP cf_X11 (j := 0) rfl w_917 dX11_step_42 (fun q9 => ?_)
        refine G_iconst (v := 0) dX11_step_45 (by decide) ?_
        refine G_iald dX11_step_46 (fun x10 => ?_)
        refine G_iload_n dX11_step_47 2 rfl rfl ?_
        refine G_callV cf_X11 ok_X11_vouchered [.int p1, .int x10, .int p2] [] (con_X11_vouchered κ M7 this p1 x10 p2) rfl w_1205 w_1207 wp_33 (Nat.le_of_ble_eq_true rfl) (Nat.le_of_ble_eq_true rfl) dX11_step_48 rfl (by simp) (fun x12 M11 => (show G _ _ _ _ _ _ [.int x12] _ from ?_))
        exact G_ret (v := x12) dX11_step_51 (fun h => by cases h) rfl
      · refine G_bipush (v := (-4)) dX11_step_34 (by decide) ?_
        refine G_goto (tgt := 51) dX11_step_36 (by decide) ?_
        exact G_ret (v := ((-4))) dX11_step_51 (fun h => by cases h) rfl
    · refine G_iconst (v := (-1)) dX11_step_21 (by decide) ?_
      exact G_ret (v := ((-1))) dX11_step_22 (fun h => by cases h) rfl
def b_X11_advance_62 (this : Option Nat) (J119_15 : Mem → Option (Int32 × Mem)) (L62_17 : (Int32 × Mem) → Option (Int32 × Mem)) (a18 : Int32 × Mem) : Option (Int32 × Mem) :=
  (if 4 ≤ a18.1 then J119_15 a18.2 else dP a18.2 11 2 this (fun (q20 : Option Nat) => dP a18.2 11 2 this (fun (q21 : Option Nat) => aF a18.2 102 q21 a18.1 (fun (r22 : UInt32) => o_fmul r22 1061158912 (fun (r23 : UInt32) => rc a18.2 11 this (cl (m_X11_levelPart a18.2 this a18.1 2) (fun (x25 : Int32) (M24 : Mem) => o_fmul ((FP.i2f x25)) 1048576000 (fun (r26 : UInt32) => o_fadd r23 r26 (fun (r27 : UInt32) => sF M24 102 q20 a18.1 r27 (fun (M28 : Mem) => dP M28 11 0 this (fun (q29 : Option Nat) => sI M28 100 q29 (((153 + (4 * a18.1)) + 2)) 0 (fun (M30 : Mem) => L62_17 ((a18.1 + 1), M30)))))))))))))
def b_X11_advance_54 (this : Option Nat) (p1 : Int32) (x6 : Int32) (x8 : Int32) (L54_8 : (Int32 × Mem) → Option (Int32 × Mem)) (a9 : Int32 × Mem) : Option (Int32 × Mem) :=
  (if (((x6 + p1) / 60) - (x8 / 60)) ≤ a9.1 then dP a9.2 11 0 this (fun (q11 : Option Nat) => aI a9.2 100 q11 0 (fun (x12 : Int32) => sI a9.2 100 q11 0 ((x12 + p1)) (fun (M13 : Mem) => dP M13 11 0 this (fun (q14 : Option Nat) => aI M13 100 q14 0 (fun (x15 : Int32) => rt x15 M13))))) else jn (fun (M17 : Mem) => L54_8 ((a9.1 + 1), M17)) (fun (J119_15 : Mem → Option (Int32 × Mem)) => lp (b_X11_advance_62 this J119_15) FU (0, a9.2)))
def m_X11_advance (M : Mem) (this : Option Nat) (p1 : Int32) : Option (Int32 × Mem) :=
  cl (m_X11_in M p1 1 3000) (fun (x2 : Int32) (M1 : Mem) => (if x2 ≠ 0 then dP M1 11 0 this (fun (q3 : Option Nat) => aI M1 100 q3 0 (fun (x4 : Int32) => (if (x4 + p1) ≤ 99999 then dP M1 11 0 this (fun (q5 : Option Nat) => aI M1 100 q5 0 (fun (x6 : Int32) => dP M1 11 0 this (fun (q7 : Option Nat) => aI M1 100 q7 0 (fun (x8 : Int32) => lp (b_X11_advance_54 this p1 x6 x8) FU (0, M1))))) else rt ((-3)) M1))) else rt ((-2)) M1))
abbrev md_X11_advance : MD := (RX11, yX11_advance, cX11_advance, 5, Option.some Jvm.ClassFile.FieldType.int, 1, 22)
theorem ok_X11_advance : MOk md_X11_advance 1 := ⟨by decide +kernel, w_1247, w_11, ⟨by decide +kernel, by decide +kernel⟩, by decide +kernel, rfl⟩
set_option maxRecDepth 100000 in
set_option maxHeartbeats 4000000 in
theorem con_X11_advance (κ : Cfg) (M : Mem) (this : Option Nat) (p1 : Int32) : Con κ md_X11_advance [rv κ this, .int p1] M cvI (m_X11_advance M this p1) := by
  refine Con.of ok_X11_advance (ret_I rfl) (by
    intro v hv
    simp only [List.mem_cons, List.not_mem_nil, or_false] at hv
    rcases hv with rfl | rfl <;> first | rfl | exact rv_cat _ _) (Nat.le_of_ble_eq_true rfl) ?_
  unfold m_X11_advance
  refine G.sub (lv' := [(0, rv κ this), (1, .int p1)]) [0, 1] rfl ?_
  refine G_iload_n dX11_advance_0 1 rfl rfl ?_
  refine G_iconst (v := 1) dX11_advance_1 (by decide) ?_
  refine G_sipush (v := 3000) dX11_advance_2 (by decide) ?_
  refine G_callS ok_X11_in [.int p1, .int 1, .int 3000] [] (con_X11_in κ M p1 1 3000) rfl w_993 w_994 (Nat.le_of_ble_eq_true rfl) (Nat.le_of_ble_eq_true rfl) dX11_advance_5 rfl (by simp) (fun x2 M1 => (show G _ _ _ _ _ _ [.int x2] _ from ?_))
  refine G_if_ne (tgt := 14) dX11_advance_8 (by decide) ?_ ?_
  · refine G_aload_n dX11_advance_14 0 rfl rfl ?_
    refine G_getP cf_X11 (j := 0) rfl w_917 dX11_advance_15 (fun q3 => ?_)
    refine G_iconst (v := 0) dX11_advance_18 (by decide) ?_
    refine G_iald dX11_advance_19 (fun x4 => ?_)
    refine G_iload_n dX11_advance_20 1 rfl rfl ?_
    refine G_iadd dX11_advance_21 ?_
    refine G_ldc (v := 99999) dX11_advance_22 w_999 ?_
    refine G_icmp_le (tgt := 30) dX11_advance_24 (by decide) ?_ ?_
    · refine G_aload_n dX11_advance_30 0 rfl rfl ?_
      refine G_getP cf_X11 (j := 0) rfl w_917 dX11_advance_31 (fun q5 => ?_)
      refine G_iconst (v := 0) dX11_advance_34 (by decide) ?_
      refine G_iald dX11_advance_35 (fun x6 => ?_)
      refine G_iload_n dX11_advance_36 1 rfl rfl ?_
      refine G_iadd dX11_advance_37 ?_
      refine G_bipush (v := 60) dX11_advance_38 (by decide) ?_
      refine G_idiv dX11_advance_40 (by decide) ?_
      refine G_aload_n dX11_advance_41 0 rfl rfl ?_
      refine G_getP cf_X11 (j := 0) rfl w_917 dX11_advance_42 (fun q7 => ?_)
      refine G_iconst (v := 0) dX11_advance_45 (by decide) ?_
      refine G_iald dX11_advance_46 (fun x8 => ?_)
      refine G_bipush (v := 60) dX11_advance_47 (by decide) ?_
      refine G_idiv dX11_advance_49 (by decide) ?_
      refine G_isub dX11_advance_50 ?_
      refine G_istore_n (lv' := [(2, .int (((x6 + p1) / 60) - (x8 / 60))), (0, rv κ this), (1, .int p1)]) dX11_advance_51 rfl (Nat.le_of_ble_eq_true rfl) rfl ?_
      refine G_iconst (v := 0) dX11_advance_52 (by decide) ?_
      refine G_istore_n (lv' := [(3, .int 0), (2, .int (((x6 + p1) / 60) - (x8 / 60))), (0, rv κ this), (1, .int p1)]) dX11_advance_53 rfl (Nat.le_of_ble_eq_true rfl) rfl ?_
      refine G.sub (lv' := [(0, rv κ this), (1, .int p1), (2, .int (((x6 + p1) / 60) - (x8 / 60))), (3, .int 0)]) [2, 3, 1, 0] rfl ?_
      refine G.loop (lvf := fun (a9 : Int32 × Mem) => [(0, rv κ this), (1, .int p1), (2, .int (((x6 + p1) / 60) - (x8 / 60))), (3, .int a9.1)]) (mf := fun (a9 : Int32 × Mem) => a9.2) (fun L54_8 hL54_8 a9 => ?_) FU (0, M1)
      unfold b_X11_advance_54
      refine G_iload_n dX11_advance_54 3 rfl rfl ?_
      refine G_iload_n dX11_advance_55 2 rfl rfl ?_
      refine G_icmp_ge (tgt := 125) dX11_advance_56 (by decide) ?_ ?_
      · refine G_aload_n dX11_advance_125 0 rfl rfl ?_
        refine G_getP cf_X11 (j := 0) rfl w_917 dX11_advance_126 (fun q11 => ?_)
        refine G_iconst (v := 0) dX11_advance_129 (by decide) ?_
        refine G_dup2 dX11_advance_130 rfl (rv_cat _ _) ?_
        refine G_iald dX11_advance_131 (fun x12 => ?_)
        refine G_iload_n dX11_advance_132 1 rfl rfl ?_
        refine G_iadd dX11_advance_133 ?_
        refine G_iast dX11_advance_134 (fun M13 => ?_)
        refine G_aload_n dX11_advance_135 0 rfl rfl ?_
        refine G_getP cf_X11 (j := 0) rfl w_917 dX11_advance_136 (fun q14 => ?_)
        refine G_iconst (v := 0) dX11_advance_139 (by decide) ?_
        refine G_iald dX11_advance_140 (fun x15 => ?_)
        exact G_ret (v := x15) dX11_advance_141 (fun h => by cases h) rfl
      · refine G_iconst (v := 0) dX11_advance_59 (by decide) ?_
        refine G_istore (lv' := [(4, .int 0), (0, rv κ this), (1, .int p1), (2, .int (((x6 + p1) / 60) - (x8 / 60))), (3, .int a9.1)]) dX11_advance_60 (Nat.le_of_ble_eq_true rfl) rfl ?_
        refine G.jn (P := (fun (J : Mem → Option (Int32 × Mem)) => ∀ (M17 : Mem), G κ md_X11_advance cvI (J M17) 119 [(0, rv κ this), (1, .int p1), (2, .int (((x6 + p1) / 60) - (x8 / 60))), (3, .int a9.1)] [] M17)) ?_ ?_
        · intro M17
          refine G_iinc (v := (a9.1 + 1)) (lv' := [(3, .int (a9.1 + 1)), (0, rv κ this), (1, .int p1), (2, .int (((x6 + p1) / 60) - (x8 / 60)))]) dX11_advance_119 3 rfl (congrArg (fun z9 : Int32 => a9.1 + z9) (by decide : Int32.ofInt 1 = 1)) (Nat.le_of_ble_eq_true rfl) rfl ?_
          refine G_goto (tgt := 54) dX11_advance_122 (by decide) ?_
          exact G.sub [1, 2, 3, 0] rfl (hL54_8 _)
        · intro J119_15 hJ119_15
          refine G.sub (lv' := [(0, rv κ this), (1, .int p1), (2, .int (((x6 + p1) / 60) - (x8 / 60))), (3, .int a9.1), (4, .int 0)]) [1, 2, 3, 4, 0] rfl ?_
          refine G.loop (lvf := fun (a18 : Int32 × Mem) => [(0, rv κ this), (1, .int p1), (2, .int (((x6 + p1) / 60) - (x8 / 60))), (3, .int a9.1), (4, .int a18.1)]) (mf := fun (a18 : Int32 × Mem) => a18.2) (fun L62_17 hL62_17 a18 => ?_) FU (0, a9.2)
          unfold b_X11_advance_62
          refine G_iload dX11_advance_62 4 rfl ?_
          refine G_iconst (v := 4) dX11_advance_64 (by decide) ?_
          refine G_icmp_ge (tgt := 119) dX11_advance_65 (by decide) ?_ ?_
          · exact G.sub [0, 1, 2, 3] rfl (hJ119_15 _)
          · refine G_aload_n dX11_advance_68 0 rfl rfl ?_
            refine G_getP cf_X11 (j := 2) rfl w_919 dX11_advance_69 (fun q20 => ?_)
            refine G_iload dX11_advance_72 4 rfl ?_
            refine G_aload_n dX11_advance_74 0 rfl rfl ?_
            refine G_getP cf_X11 (j := 2) rfl w_919 dX11_advance_75 (fun q21 => ?_)
            refine G_iload dX11_advance_78 4 rfl ?_
            refine G_fald dX11_advance_80 (fun r22 => ?_)
            refine G_ldcf (v := 1061158912) dX11_advance_81 w_1248 ?_
            refine G_fmul dX11_advance_83 (fun r23 => ?_)
            refine G_aload_n dX11_advance_84 0 rfl rfl ?_
            refine G_iload dX11_advance_85 4 rfl ?_
            refine G_iconst (v := 2) dX11_advance_87 (by decide) ?_
            refine G_callV cf_X11 ok_X11_levelPart [.int a18.1, .int 2] [.float r23, .int a18.1, rv κ q20] (con_X11_levelPart κ a18.2 this a18.1 2) rfl w_1136 w_1138 wp_24 (Nat.le_of_ble_eq_true rfl) (Nat.le_of_ble_eq_true rfl) dX11_advance_88 rfl (by simp) (fun x25 M24 => (show G _ _ _ _ _ _ [.int x25, .float r23, .int a18.1, rv κ q20] _ from ?_))
            refine G_i2f dX11_advance_91 ?_
            refine G_ldcf (v := 1048576000) dX11_advance_92 w_1249 ?_
            refine G_fmul dX11_advance_94 (fun r26 => ?_)
            refine G_fadd dX11_advance_95 (fun r27 => ?_)
            refine G_fast dX11_advance_96 (fun M28 => ?_)
            refine G_aload_n dX11_advance_97 0 rfl rfl ?_
            refine G_getP cf_X11 (j := 0) rfl w_917 dX11_advance_98 (fun q29 => ?_)
            refine G_sipush (v := 153) dX11_advance_101 (by decide) ?_
            refine G_iconst (v := 4) dX11_advance_104 (by decide) ?_
            refine G_iload dX11_advance_105 4 rfl ?_
            refine G_imul dX11_advance_107 ?_
            refine G_iadd dX11_advance_108 ?_
            refine G_iconst (v := 2) dX11_advance_109 (by decide) ?_
            refine G_iadd dX11_advance_110 ?_
            refine G_iconst (v := 0) dX11_advance_111 (by decide) ?_
            refine G_iast dX11_advance_112 (fun M30 => ?_)
            refine G_iinc (v := (a18.1 + 1)) (lv' := [(4, .int (a18.1 + 1)), (0, rv κ this), (1, .int p1), (2, .int (((x6 + p1) / 60) - (x8 / 60))), (3, .int a9.1)]) dX11_advance_113 4 rfl (congrArg (fun z9 : Int32 => a18.1 + z9) (by decide : Int32.ofInt 1 = 1)) (Nat.le_of_ble_eq_true rfl) rfl ?_
            refine G_goto (tgt := 62) dX11_advance_116 (by decide) ?_
            exact G.sub [1, 2, 3, 4, 0] rfl (hL62_17 _)
    · refine G_bipush (v := (-3)) dX11_advance_27 (by decide) ?_
      exact G_ret (v := ((-3))) dX11_advance_29 (fun h => by cases h) rfl
  · refine G_bipush (v := (-2)) dX11_advance_11 (by decide) ?_
    exact G_ret (v := ((-2))) dX11_advance_13 (fun h => by cases h) rfl
def m_X11_count (M : Mem) (this : Option Nat) (p1 : Int32) : Option (Int32 × Mem) :=
  cl (m_X11_in M p1 0 11) (fun (x2 : Int32) (M1 : Mem) => (if x2 ≠ 0 then jn (fun (M4 : Mem) => dP M4 11 0 this (fun (q5 : Option Nat) => aI M4 100 q5 (((3 + p1) - 4)) (fun (x6 : Int32) => rt x6 M4))) (fun (J123_2 : Mem → Option (Int32 × Mem)) => (if p1 = 0 then dP M1 11 0 this (fun (q7 : Option Nat) => aI M1 100 q7 0 (fun (x8 : Int32) => rt x8 M1)) else (if p1 = 1 then dP M1 11 0 this (fun (q9 : Option Nat) => aI M1 100 q9 1 (fun (x10 : Int32) => rt x10 M1)) else (if p1 = 2 then dP M1 11 0 this (fun (q11 : Option Nat) => aI M1 100 q11 2 (fun (x12 : Int32) => rt x12 M1)) else (if p1 = 3 then rc M1 11 this (cl (m_X11_inside M1 this) (fun (x14 : Int32) (M13 : Mem) => rt x14 M13)) else (if p1 = 4 then J123_2 M1 else (if p1 = 5 then J123_2 M1 else (if p1 = 6 then J123_2 M1 else (if p1 = 7 then J123_2 M1 else (if p1 = 8 then J123_2 M1 else (if p1 = 9 then dP M1 11 0 this (fun (q15 : Option Nat) => aI M1 100 q15 8 (fun (x16 : Int32) => rt x16 M1)) else (if p1 = 10 then dP M1 11 0 this (fun (q17 : Option Nat) => aI M1 100 q17 9 (fun (x18 : Int32) => rt x18 M1)) else (if p1 = 11 then dI M1 11 6 this (fun (x19 : Int32) => rt x19 M1) else J123_2 M1))))))))))))) else rt ((-2)) M1))
abbrev md_X11_count : MD := (RX11, yX11_count, cX11_count, 2, Option.some Jvm.ClassFile.FieldType.int, 1, 22)
theorem ok_X11_count : MOk md_X11_count 1 := ⟨by decide +kernel, w_1253, w_11, ⟨by decide +kernel, by decide +kernel⟩, by decide +kernel, rfl⟩
set_option maxRecDepth 100000 in
set_option maxHeartbeats 4000000 in
theorem con_X11_count (κ : Cfg) (M : Mem) (this : Option Nat) (p1 : Int32) : Con κ md_X11_count [rv κ this, .int p1] M cvI (m_X11_count M this p1) := by
  refine Con.of ok_X11_count (ret_I rfl) (by
    intro v hv
    simp only [List.mem_cons, List.not_mem_nil, or_false] at hv
    rcases hv with rfl | rfl <;> first | rfl | exact rv_cat _ _) (Nat.le_of_ble_eq_true rfl) ?_
  unfold m_X11_count
  refine G.sub (lv' := [(0, rv κ this), (1, .int p1)]) [0, 1] rfl ?_
  refine G_iload_n dX11_count_0 1 rfl rfl ?_
  refine G_iconst (v := 0) dX11_count_1 (by decide) ?_
  refine G_bipush (v := 11) dX11_count_2 (by decide) ?_
  refine G_callS ok_X11_in [.int p1, .int 0, .int 11] [] (con_X11_in κ M p1 0 11) rfl w_993 w_994 (Nat.le_of_ble_eq_true rfl) (Nat.le_of_ble_eq_true rfl) dX11_count_4 rfl (by simp) (fun x2 M1 => (show G _ _ _ _ _ _ [.int x2] _ from ?_))
  refine G_if_ne (tgt := 13) dX11_count_7 (by decide) ?_ ?_
  · refine G_iload_n dX11_count_13 1 rfl rfl ?_
    refine G.jn (P := (fun (J : Mem → Option (Int32 × Mem)) => ∀ (M4 : Mem), G κ md_X11_count cvI (J M4) 123 [(0, rv κ this), (1, .int p1)] [] M4)) ?_ ?_
    · intro M4
      refine G_aload_n dX11_count_123 0 rfl rfl ?_
      refine G_getP cf_X11 (j := 0) rfl w_917 dX11_count_124 (fun q5 => ?_)
      refine G_iconst (v := 3) dX11_count_127 (by decide) ?_
      refine G_iload_n dX11_count_128 1 rfl rfl ?_
      refine G_iadd dX11_count_129 ?_
      refine G_iconst (v := 4) dX11_count_130 (by decide) ?_
      refine G_isub dX11_count_131 ?_
      refine G_iald dX11_count_132 (fun x6 => ?_)
      exact G_ret (v := x6) dX11_count_133 (fun h => by cases h) rfl
    · intro J123_2 hJ123_2
      refine G.cond (fun hx14_0 => ?_) (fun hn14_0 => ?_)
      · refine G_tin (n := 0) (tgt := 76) dX11_count_14 (by rw [hx14_0]; rfl) (by decide) (by decide) rfl (by decide) ?_
        refine G_aload_n dX11_count_76 0 rfl rfl ?_
        refine G_getP cf_X11 (j := 0) rfl w_917 dX11_count_77 (fun q7 => ?_)
        refine G_iconst (v := 0) dX11_count_80 (by decide) ?_
        refine G_iald dX11_count_81 (fun x8 => ?_)
        exact G_ret (v := x8) dX11_count_82 (fun h => by cases h) rfl
      refine G.cond (fun hx14_1 => ?_) (fun hn14_1 => ?_)
      · refine G_tin (n := 1) (tgt := 83) dX11_count_14 (by rw [hx14_1]; rfl) (by decide) (by decide) rfl (by decide) ?_
        refine G_aload_n dX11_count_83 0 rfl rfl ?_
        refine G_getP cf_X11 (j := 0) rfl w_917 dX11_count_84 (fun q9 => ?_)
        refine G_iconst (v := 1) dX11_count_87 (by decide) ?_
        refine G_iald dX11_count_88 (fun x10 => ?_)
        exact G_ret (v := x10) dX11_count_89 (fun h => by cases h) rfl
      refine G.cond (fun hx14_2 => ?_) (fun hn14_2 => ?_)
      · refine G_tin (n := 2) (tgt := 90) dX11_count_14 (by rw [hx14_2]; rfl) (by decide) (by decide) rfl (by decide) ?_
        refine G_aload_n dX11_count_90 0 rfl rfl ?_
        refine G_getP cf_X11 (j := 0) rfl w_917 dX11_count_91 (fun q11 => ?_)
        refine G_iconst (v := 2) dX11_count_94 (by decide) ?_
        refine G_iald dX11_count_95 (fun x12 => ?_)
        exact G_ret (v := x12) dX11_count_96 (fun h => by cases h) rfl
      refine G.cond (fun hx14_3 => ?_) (fun hn14_3 => ?_)
      · refine G_tin (n := 3) (tgt := 97) dX11_count_14 (by rw [hx14_3]; rfl) (by decide) (by decide) rfl (by decide) ?_
        refine G_aload_n dX11_count_97 0 rfl rfl ?_
        refine G_callV cf_X11 ok_X11_inside [] [] (con_X11_inside κ M1 this) rfl w_1172 w_1174 wp_27 (Nat.le_of_ble_eq_true rfl) (Nat.le_of_ble_eq_true rfl) dX11_count_98 rfl (by simp) (fun x14 M13 => (show G _ _ _ _ _ _ [.int x14] _ from ?_))
        exact G_ret (v := x14) dX11_count_101 (fun h => by cases h) rfl
      refine G.cond (fun hx14_4 => ?_) (fun hn14_4 => ?_)
      · refine G_tin (n := 4) (tgt := 123) dX11_count_14 (by rw [hx14_4]; rfl) (by decide) (by decide) rfl (by decide) ?_
        exact G.sub [0, 1] rfl (hJ123_2 _)
      refine G.cond (fun hx14_5 => ?_) (fun hn14_5 => ?_)
      · refine G_tin (n := 5) (tgt := 123) dX11_count_14 (by rw [hx14_5]; rfl) (by decide) (by decide) rfl (by decide) ?_
        exact G.sub [0, 1] rfl (hJ123_2 _)
      refine G.cond (fun hx14_6 => ?_) (fun hn14_6 => ?_)
      · refine G_tin (n := 6) (tgt := 123) dX11_count_14 (by rw [hx14_6]; rfl) (by decide) (by decide) rfl (by decide) ?_
        exact G.sub [0, 1] rfl (hJ123_2 _)
      refine G.cond (fun hx14_7 => ?_) (fun hn14_7 => ?_)
      · refine G_tin (n := 7) (tgt := 123) dX11_count_14 (by rw [hx14_7]; rfl) (by decide) (by decide) rfl (by decide) ?_
        exact G.sub [0, 1] rfl (hJ123_2 _)
      refine G.cond (fun hx14_8 => ?_) (fun hn14_8 => ?_)
      · refine G_tin (n := 8) (tgt := 123) dX11_count_14 (by rw [hx14_8]; rfl) (by decide) (by decide) rfl (by decide) ?_
        exact G.sub [0, 1] rfl (hJ123_2 _)
      refine G.cond (fun hx14_9 => ?_) (fun hn14_9 => ?_)
      · refine G_tin (n := 9) (tgt := 102) dX11_count_14 (by rw [hx14_9]; rfl) (by decide) (by decide) rfl (by decide) ?_
        refine G_aload_n dX11_count_102 0 rfl rfl ?_
        refine G_getP cf_X11 (j := 0) rfl w_917 dX11_count_103 (fun q15 => ?_)
        refine G_bipush (v := 8) dX11_count_106 (by decide) ?_
        refine G_iald dX11_count_108 (fun x16 => ?_)
        exact G_ret (v := x16) dX11_count_109 (fun h => by cases h) rfl
      refine G.cond (fun hx14_10 => ?_) (fun hn14_10 => ?_)
      · refine G_tin (n := 10) (tgt := 110) dX11_count_14 (by rw [hx14_10]; rfl) (by decide) (by decide) rfl (by decide) ?_
        refine G_aload_n dX11_count_110 0 rfl rfl ?_
        refine G_getP cf_X11 (j := 0) rfl w_917 dX11_count_111 (fun q17 => ?_)
        refine G_bipush (v := 9) dX11_count_114 (by decide) ?_
        refine G_iald dX11_count_116 (fun x18 => ?_)
        exact G_ret (v := x18) dX11_count_117 (fun h => by cases h) rfl
      refine G.cond (fun hx14_11 => ?_) (fun hn14_11 => ?_)
      · refine G_tin (n := 11) (tgt := 118) dX11_count_14 (by rw [hx14_11]; rfl) (by decide) (by decide) rfl (by decide) ?_
        refine G_aload_n dX11_count_118 0 rfl rfl ?_
        refine G_getI cf_X11 (j := 6) rfl w_923 dX11_count_119 (fun x19 => ?_)
        exact G_ret (v := x19) dX11_count_122 (fun h => by cases h) rfl
      refine G_tout (tgt := 123) dX11_count_14 (by
          have hz0 : (p1).toInt ≠ 0 := fun h => hn14_0 (Int32.toInt_inj.mp (h.trans rfl))
          have hz1 : (p1).toInt ≠ 1 := fun h => hn14_1 (Int32.toInt_inj.mp (h.trans rfl))
          have hz2 : (p1).toInt ≠ 2 := fun h => hn14_2 (Int32.toInt_inj.mp (h.trans rfl))
          have hz3 : (p1).toInt ≠ 3 := fun h => hn14_3 (Int32.toInt_inj.mp (h.trans rfl))
          have hz4 : (p1).toInt ≠ 4 := fun h => hn14_4 (Int32.toInt_inj.mp (h.trans rfl))
          have hz5 : (p1).toInt ≠ 5 := fun h => hn14_5 (Int32.toInt_inj.mp (h.trans rfl))
          have hz6 : (p1).toInt ≠ 6 := fun h => hn14_6 (Int32.toInt_inj.mp (h.trans rfl))
          have hz7 : (p1).toInt ≠ 7 := fun h => hn14_7 (Int32.toInt_inj.mp (h.trans rfl))
          have hz8 : (p1).toInt ≠ 8 := fun h => hn14_8 (Int32.toInt_inj.mp (h.trans rfl))
          have hz9 : (p1).toInt ≠ 9 := fun h => hn14_9 (Int32.toInt_inj.mp (h.trans rfl))
          have hz10 : (p1).toInt ≠ 10 := fun h => hn14_10 (Int32.toInt_inj.mp (h.trans rfl))
          have hz11 : (p1).toInt ≠ 11 := fun h => hn14_11 (Int32.toInt_inj.mp (h.trans rfl))
          omega) (by decide) ?_
      exact G.sub [0, 1] rfl (hJ123_2 _)
  · refine G_bipush (v := (-2)) dX11_count_10 (by decide) ?_
    exact G_ret (v := ((-2))) dX11_count_12 (fun h => by cases h) rfl
def m_X11_reportLevels (M : Mem) (this : Option Nat) : Option (Int32 × Mem) :=
  dI M 11 8 this (fun (x1 : Int32) => rt x1 M)
abbrev md_X11_reportLevels : MD := (RX11, yX11_reportLevels, cX11_reportLevels, 1, Option.some Jvm.ClassFile.FieldType.int, 0, 0)
theorem ok_X11_reportLevels : MOk md_X11_reportLevels 0 := ⟨by decide +kernel, w_1257, w_11, ⟨by decide +kernel, by decide +kernel⟩, by decide +kernel, rfl⟩
set_option maxRecDepth 100000 in
set_option maxHeartbeats 4000000 in
theorem con_X11_reportLevels (κ : Cfg) (M : Mem) (this : Option Nat) : Con κ md_X11_reportLevels [rv κ this] M cvI (m_X11_reportLevels M this) := by
  refine Con.of ok_X11_reportLevels (ret_I rfl) (by
    intro v hv
    simp only [List.mem_cons, List.not_mem_nil, or_false] at hv
    subst hv; first | rfl | exact rv_cat _ _) (Nat.le_of_ble_eq_true rfl) ?_
  unfold m_X11_reportLevels
  refine G.sub (lv' := [(0, rv κ this)]) [0] rfl ?_
  refine G_aload_n dX11_reportLevels_0 0 rfl rfl ?_
  refine G_getI cf_X11 (j := 8) rfl w_925 dX11_reportLevels_1 (fun x1 => ?_)
  exact G_ret (v := x1) dX11_reportLevels_4 (fun h => by cases h) rfl
def m_X11_reportCode (M : Mem) (this : Option Nat) (p1 : Int32) : Option (Int32 × Mem) :=
  dI M 11 8 this (fun (x1 : Int32) => cl (m_X11_in M p1 0 ((x1 - 1))) (fun (x3 : Int32) (M2 : Mem) => (if x3 = 0 then rt ((-1)) M2 else dP M2 11 7 this (fun (q4 : Option Nat) => aI M2 100 q4 ((2 * p1)) (fun (x5 : Int32) => rt x5 M2)))))
abbrev md_X11_reportCode : MD := (RX11, yX11_reportCode, cX11_reportCode, 2, Option.some Jvm.ClassFile.FieldType.int, 1, 22)
theorem ok_X11_reportCode : MOk md_X11_reportCode 1 := ⟨by decide +kernel, w_1261, w_11, ⟨by decide +kernel, by decide +kernel⟩, by decide +kernel, rfl⟩
set_option maxRecDepth 100000 in
set_option maxHeartbeats 4000000 in
theorem con_X11_reportCode (κ : Cfg) (M : Mem) (this : Option Nat) (p1 : Int32) : Con κ md_X11_reportCode [rv κ this, .int p1] M cvI (m_X11_reportCode M this p1) := by
  refine Con.of ok_X11_reportCode (ret_I rfl) (by
    intro v hv
    simp only [List.mem_cons, List.not_mem_nil, or_false] at hv
    rcases hv with rfl | rfl <;> first | rfl | exact rv_cat _ _) (Nat.le_of_ble_eq_true rfl) ?_
  unfold m_X11_reportCode
  refine G.sub (lv' := [(0, rv κ this), (1, .int p1)]) [0, 1] rfl ?_
  refine G_iload_n dX11_reportCode_0 1 rfl rfl ?_
  refine G_iconst (v := 0) dX11_reportCode_1 (by decide) ?_
  refine G_aload_n dX11_reportCode_2 0 rfl rfl ?_
  refine G_getI cf_X11 (j := 8) rfl w_925 dX11_reportCode_3 (fun x1 => ?_)
  refine G_iconst (v := 1) dX11_reportCode_6 (by decide) ?_
  refine G_isub dX11_reportCode_7 ?_
  refine G_callS ok_X11_in [.int p1, .int 0, .int (x1 - 1)] [] (con_X11_in κ M p1 0 ((x1 - 1))) rfl w_993 w_994 (Nat.le_of_ble_eq_true rfl) (Nat.le_of_ble_eq_true rfl) dX11_reportCode_8 rfl (by simp) (fun x3 M2 => (show G _ _ _ _ _ _ [.int x3] _ from ?_))
  refine G_if_eq (tgt := 25) dX11_reportCode_11 (by decide) ?_ ?_
  · refine G_iconst (v := (-1)) dX11_reportCode_25 (by decide) ?_
    exact G_ret (v := ((-1))) dX11_reportCode_26 (fun h => by cases h) rfl
  · refine G_aload_n dX11_reportCode_14 0 rfl rfl ?_
    refine G_getP cf_X11 (j := 7) rfl w_924 dX11_reportCode_15 (fun q4 => ?_)
    refine G_iconst (v := 2) dX11_reportCode_18 (by decide) ?_
    refine G_iload_n dX11_reportCode_19 1 rfl rfl ?_
    refine G_imul dX11_reportCode_20 ?_
    refine G_iald dX11_reportCode_21 (fun x5 => ?_)
    refine G_goto (tgt := 26) dX11_reportCode_22 (by decide) ?_
    exact G_ret (v := x5) dX11_reportCode_26 (fun h => by cases h) rfl
def m_X11_reportNumber (M : Mem) (this : Option Nat) (p1 : Int32) : Option (Int32 × Mem) :=
  dI M 11 8 this (fun (x1 : Int32) => cl (m_X11_in M p1 0 ((x1 - 1))) (fun (x3 : Int32) (M2 : Mem) => (if x3 = 0 then rt ((-1)) M2 else dP M2 11 7 this (fun (q4 : Option Nat) => aI M2 100 q4 (((2 * p1) + 1)) (fun (x5 : Int32) => rt x5 M2)))))
abbrev md_X11_reportNumber : MD := (RX11, yX11_reportNumber, cX11_reportNumber, 2, Option.some Jvm.ClassFile.FieldType.int, 1, 22)
theorem ok_X11_reportNumber : MOk md_X11_reportNumber 1 := ⟨by decide +kernel, w_1265, w_11, ⟨by decide +kernel, by decide +kernel⟩, by decide +kernel, rfl⟩
set_option maxRecDepth 100000 in
set_option maxHeartbeats 4000000 in
theorem con_X11_reportNumber (κ : Cfg) (M : Mem) (this : Option Nat) (p1 : Int32) : Con κ md_X11_reportNumber [rv κ this, .int p1] M cvI (m_X11_reportNumber M this p1) := by
  refine Con.of ok_X11_reportNumber (ret_I rfl) (by
    intro v hv
    simp only [List.mem_cons, List.not_mem_nil, or_false] at hv
    rcases hv with rfl | rfl <;> first | rfl | exact rv_cat _ _) (Nat.le_of_ble_eq_true rfl) ?_
  unfold m_X11_reportNumber
  refine G.sub (lv' := [(0, rv κ this), (1, .int p1)]) [0, 1] rfl ?_
  refine G_iload_n dX11_reportNumber_0 1 rfl rfl ?_
  refine G_iconst (v := 0) dX11_reportNumber_1 (by decide) ?_
  refine G_aload_n dX11_reportNumber_2 0 rfl rfl ?_
  refine G_getI cf_X11 (j := 8) rfl w_925 dX11_reportNumber_3 (fun x1 => ?_)
  refine G_iconst (v := 1) dX11_reportNumber_6 (by decide) ?_
  refine G_isub dX11_reportNumber_7 ?_
  refine G_callS ok_X11_in [.int p1, .int 0, .int (x1 - 1)] [] (con_X11_in κ M p1 0 ((x1 - 1))) rfl w_993 w_994 (Nat.le_of_ble_eq_true rfl) (Nat.le_of_ble_eq_true rfl) dX11_reportNumber_8 rfl (by simp) (fun x3 M2 => (show G _ _ _ _ _ _ [.int x3] _ from ?_))
  refine G_if_eq (tgt := 27) dX11_reportNumber_11 (by decide) ?_ ?_
  · refine G_iconst (v := (-1)) dX11_reportNumber_27 (by decide) ?_
    exact G_ret (v := ((-1))) dX11_reportNumber_28 (fun h => by cases h) rfl
  · refine G_aload_n dX11_reportNumber_14 0 rfl rfl ?_
    refine G_getP cf_X11 (j := 7) rfl w_924 dX11_reportNumber_15 (fun q4 => ?_)
    refine G_iconst (v := 2) dX11_reportNumber_18 (by decide) ?_
    refine G_iload_n dX11_reportNumber_19 1 rfl rfl ?_
    refine G_imul dX11_reportNumber_20 ?_
    refine G_iconst (v := 1) dX11_reportNumber_21 (by decide) ?_
    refine G_iadd dX11_reportNumber_22 ?_
    refine G_iald dX11_reportNumber_23 (fun x5 => ?_)
    refine G_goto (tgt := 28) dX11_reportNumber_24 (by decide) ?_
    exact G_ret (v := x5) dX11_reportNumber_28 (fun h => by cases h) rfl
def b_X11_save_29 (this : Option Nat) (L29_2 : (Int32 × Mem) → Option (Int32 × Mem)) (a3 : Int32 × Mem) : Option (Int32 × Mem) :=
  (if 4 ≤ a3.1 then pZ a3.2 11 4 this 1 (fun (M5 : Mem) => dP M5 11 0 this (fun (q6 : Option Nat) => aI M5 100 q6 0 (fun (x7 : Int32) => rt x7 M5))) else dP a3.2 11 3 this (fun (q8 : Option Nat) => dP a3.2 11 2 this (fun (q9 : Option Nat) => aF a3.2 102 q9 a3.1 (fun (r10 : UInt32) => sF a3.2 102 q8 a3.1 r10 (fun (M11 : Mem) => L29_2 ((a3.1 + 1), M11))))))
def b_X11_save_2 (this : Option Nat) (J27_0 : Mem → Option (Int32 × Mem)) (L2_11 : (Int32 × Mem) → Option (Int32 × Mem)) (a12 : Int32 × Mem) : Option (Int32 × Mem) :=
  (if 6889 ≤ a12.1 then J27_0 a12.2 else dP a12.2 11 1 this (fun (q14 : Option Nat) => dP a12.2 11 0 this (fun (q15 : Option Nat) => aI a12.2 100 q15 a12.1 (fun (x16 : Int32) => sI a12.2 100 q14 a12.1 x16 (fun (M17 : Mem) => L2_11 ((a12.1 + 1), M17))))))
def m_X11_save (M : Mem) (this : Option Nat) : Option (Int32 × Mem) :=
  jn (fun (M2 : Mem) => lp (b_X11_save_29 this) FU (0, M2)) (fun (J27_0 : Mem → Option (Int32 × Mem)) => lp (b_X11_save_2 this J27_0) FU (0, M))
abbrev md_X11_save : MD := (RX11, yX11_save, cX11_save, 2, Option.some Jvm.ClassFile.FieldType.int, 0, 0)
theorem ok_X11_save : MOk md_X11_save 0 := ⟨by decide +kernel, w_1269, w_11, ⟨by decide +kernel, by decide +kernel⟩, by decide +kernel, rfl⟩
set_option maxRecDepth 100000 in
set_option maxHeartbeats 4000000 in
theorem con_X11_save (κ : Cfg) (M : Mem) (this : Option Nat) : Con κ md_X11_save [rv κ this] M cvI (m_X11_save M this) := by
  refine Con.of ok_X11_save (ret_I rfl) (by
    intro v hv
    simp only [List.mem_cons, List.not_mem_nil, or_false] at hv
    subst hv; first | rfl | exact rv_cat _ _) (Nat.le_of_ble_eq_true rfl) ?_
  unfold m_X11_save
  refine G.sub (lv' := [(0, rv κ this)]) [0] rfl ?_
  refine G_iconst (v := 0) dX11_save_0 (by decide) ?_
  refine G_istore_n (lv' := [(1, .int 0), (0, rv κ this)]) dX11_save_1 rfl (Nat.le_of_ble_eq_true rfl) rfl ?_
  refine G.jn (P := (fun (J : Mem → Option (Int32 × Mem)) => ∀ (M2 : Mem), G κ md_X11_save cvI (J M2) 27 [(0, rv κ this)] [] M2)) ?_ ?_
  · intro M2
    refine G_iconst (v := 0) dX11_save_27 (by decide) ?_
    refine G_istore_n (lv' := [(1, .int 0), (0, rv κ this)]) dX11_save_28 rfl (Nat.le_of_ble_eq_true rfl) rfl ?_
    refine G.sub (lv' := [(0, rv κ this), (1, .int 0)]) [1, 0] rfl ?_
    refine G.loop (lvf := fun (a3 : Int32 × Mem) => [(0, rv κ this), (1, .int a3.1)]) (mf := fun (a3 : Int32 × Mem) => a3.2) (fun L29_2 hL29_2 a3 => ?_) FU (0, M2)
    unfold b_X11_save_29
    refine G_iload_n dX11_save_29 1 rfl rfl ?_
    refine G_iconst (v := 4) dX11_save_30 (by decide) ?_
    refine G_icmp_ge (tgt := 52) dX11_save_31 (by decide) ?_ ?_
    · refine G_aload_n dX11_save_52 0 rfl rfl ?_
      refine G_iconst (v := 1) dX11_save_53 (by decide) ?_
      refine G_putZ cf_X11 (j := 4) rfl rfl w_921 (Or.inl rfl) dX11_save_54 (fun M5 => ?_)
      refine G_aload_n dX11_save_57 0 rfl rfl ?_
      refine G_getP cf_X11 (j := 0) rfl w_917 dX11_save_58 (fun q6 => ?_)
      refine G_iconst (v := 0) dX11_save_61 (by decide) ?_
      refine G_iald dX11_save_62 (fun x7 => ?_)
      exact G_ret (v := x7) dX11_save_63 (fun h => by cases h) rfl
    · refine G_aload_n dX11_save_34 0 rfl rfl ?_
      refine G_getP cf_X11 (j := 3) rfl w_920 dX11_save_35 (fun q8 => ?_)
      refine G_iload_n dX11_save_38 1 rfl rfl ?_
      refine G_aload_n dX11_save_39 0 rfl rfl ?_
      refine G_getP cf_X11 (j := 2) rfl w_919 dX11_save_40 (fun q9 => ?_)
      refine G_iload_n dX11_save_43 1 rfl rfl ?_
      refine G_fald dX11_save_44 (fun r10 => ?_)
      refine G_fast dX11_save_45 (fun M11 => ?_)
      refine G_iinc (v := (a3.1 + 1)) (lv' := [(1, .int (a3.1 + 1)), (0, rv κ this)]) dX11_save_46 1 rfl (congrArg (fun z9 : Int32 => a3.1 + z9) (by decide : Int32.ofInt 1 = 1)) (Nat.le_of_ble_eq_true rfl) rfl ?_
      refine G_goto (tgt := 29) dX11_save_49 (by decide) ?_
      exact G.sub [1, 0] rfl (hL29_2 _)
  · intro J27_0 hJ27_0
    refine G.sub (lv' := [(0, rv κ this), (1, .int 0)]) [1, 0] rfl ?_
    refine G.loop (lvf := fun (a12 : Int32 × Mem) => [(0, rv κ this), (1, .int a12.1)]) (mf := fun (a12 : Int32 × Mem) => a12.2) (fun L2_11 hL2_11 a12 => ?_) FU (0, M)
    unfold b_X11_save_2
    refine G_iload_n dX11_save_2 1 rfl rfl ?_
    refine G_sipush (v := 6889) dX11_save_3 (by decide) ?_
    refine G_icmp_ge (tgt := 27) dX11_save_6 (by decide) ?_ ?_
    · exact G.sub [0] rfl (hJ27_0 _)
    · refine G_aload_n dX11_save_9 0 rfl rfl ?_
      refine G_getP cf_X11 (j := 1) rfl w_918 dX11_save_10 (fun q14 => ?_)
      refine G_iload_n dX11_save_13 1 rfl rfl ?_
      refine G_aload_n dX11_save_14 0 rfl rfl ?_
      refine G_getP cf_X11 (j := 0) rfl w_917 dX11_save_15 (fun q15 => ?_)
      refine G_iload_n dX11_save_18 1 rfl rfl ?_
      refine G_iald dX11_save_19 (fun x16 => ?_)
      refine G_iast dX11_save_20 (fun M17 => ?_)
      refine G_iinc (v := (a12.1 + 1)) (lv' := [(1, .int (a12.1 + 1)), (0, rv κ this)]) dX11_save_21 1 rfl (congrArg (fun z9 : Int32 => a12.1 + z9) (by decide : Int32.ofInt 1 = 1)) (Nat.le_of_ble_eq_true rfl) rfl ?_
      refine G_goto (tgt := 2) dX11_save_24 (by decide) ?_
      exact G.sub [1, 0] rfl (hL2_11 _)
def b_X11_restore_38 (this : Option Nat) (L38_3 : (Int32 × Mem) → Option (Int32 × Mem)) (a4 : Int32 × Mem) : Option (Int32 × Mem) :=
  (if 4 ≤ a4.1 then dP a4.2 11 0 this (fun (q6 : Option Nat) => aI a4.2 100 q6 0 (fun (x7 : Int32) => rt x7 a4.2)) else dP a4.2 11 2 this (fun (q8 : Option Nat) => dP a4.2 11 3 this (fun (q9 : Option Nat) => aF a4.2 102 q9 a4.1 (fun (r10 : UInt32) => sF a4.2 102 q8 a4.1 r10 (fun (M11 : Mem) => L38_3 ((a4.1 + 1), M11))))))
def b_X11_restore_11 (this : Option Nat) (J36_1 : Mem → Option (Int32 × Mem)) (L11_11 : (Int32 × Mem) → Option (Int32 × Mem)) (a12 : Int32 × Mem) : Option (Int32 × Mem) :=
  (if 6889 ≤ a12.1 then J36_1 a12.2 else dP a12.2 11 0 this (fun (q14 : Option Nat) => dP a12.2 11 1 this (fun (q15 : Option Nat) => aI a12.2 100 q15 a12.1 (fun (x16 : Int32) => sI a12.2 100 q14 a12.1 x16 (fun (M17 : Mem) => L11_11 ((a12.1 + 1), M17))))))
def m_X11_restore (M : Mem) (this : Option Nat) : Option (Int32 × Mem) :=
  dI M 11 4 this (fun (x1 : Int32) => (if x1 ≠ 0 then jn (fun (M3 : Mem) => lp (b_X11_restore_38 this) FU (0, M3)) (fun (J36_1 : Mem → Option (Int32 × Mem)) => lp (b_X11_restore_11 this J36_1) FU (0, M)) else rt ((-1)) M))
abbrev md_X11_restore : MD := (RX11, yX11_restore, cX11_restore, 2, Option.some Jvm.ClassFile.FieldType.int, 0, 0)
theorem ok_X11_restore : MOk md_X11_restore 0 := ⟨by decide +kernel, w_1273, w_11, ⟨by decide +kernel, by decide +kernel⟩, by decide +kernel, rfl⟩
set_option maxRecDepth 100000 in
set_option maxHeartbeats 4000000 in
theorem con_X11_restore (κ : Cfg) (M : Mem) (this : Option Nat) : Con κ md_X11_restore [rv κ this] M cvI (m_X11_restore M this) := by
  refine Con.of ok_X11_restore (ret_I rfl) (by
    intro v hv
    simp only [List.mem_cons, List.not_mem_nil, or_false] at hv
    subst hv; first | rfl | exact rv_cat _ _) (Nat.le_of_ble_eq_true rfl) ?_
  unfold m_X11_restore
  refine G.sub (lv' := [(0, rv κ this)]) [0] rfl ?_
  refine G_aload_n dX11_restore_0 0 rfl rfl ?_
  refine G_getI cf_X11 (j := 4) rfl w_921 dX11_restore_1 (fun x1 => ?_)
  refine G_if_ne (tgt := 9) dX11_restore_4 (by decide) ?_ ?_
  · refine G_iconst (v := 0) dX11_restore_9 (by decide) ?_
    refine G_istore_n (lv' := [(1, .int 0), (0, rv κ this)]) dX11_restore_10 rfl (Nat.le_of_ble_eq_true rfl) rfl ?_
    refine G.jn (P := (fun (J : Mem → Option (Int32 × Mem)) => ∀ (M3 : Mem), G κ md_X11_restore cvI (J M3) 36 [(0, rv κ this)] [] M3)) ?_ ?_
    · intro M3
      refine G_iconst (v := 0) dX11_restore_36 (by decide) ?_
      refine G_istore_n (lv' := [(1, .int 0), (0, rv κ this)]) dX11_restore_37 rfl (Nat.le_of_ble_eq_true rfl) rfl ?_
      refine G.sub (lv' := [(0, rv κ this), (1, .int 0)]) [1, 0] rfl ?_
      refine G.loop (lvf := fun (a4 : Int32 × Mem) => [(0, rv κ this), (1, .int a4.1)]) (mf := fun (a4 : Int32 × Mem) => a4.2) (fun L38_3 hL38_3 a4 => ?_) FU (0, M3)
      unfold b_X11_restore_38
      refine G_iload_n dX11_restore_38 1 rfl rfl ?_
      refine G_iconst (v := 4) dX11_restore_39 (by decide) ?_
      refine G_icmp_ge (tgt := 61) dX11_restore_40 (by decide) ?_ ?_
      · refine G_aload_n dX11_restore_61 0 rfl rfl ?_
        refine G_getP cf_X11 (j := 0) rfl w_917 dX11_restore_62 (fun q6 => ?_)
        refine G_iconst (v := 0) dX11_restore_65 (by decide) ?_
        refine G_iald dX11_restore_66 (fun x7 => ?_)
        exact G_ret (v := x7) dX11_restore_67 (fun h => by cases h) rfl
      · refine G_aload_n dX11_restore_43 0 rfl rfl ?_
        refine G_getP cf_X11 (j := 2) rfl w_919 dX11_restore_44 (fun q8 => ?_)
        refine G_iload_n dX11_restore_47 1 rfl rfl ?_
        refine G_aload_n dX11_restore_48 0 rfl rfl ?_
        refine G_getP cf_X11 (j := 3) rfl w_920 dX11_restore_49 (fun q9 => ?_)
        refine G_iload_n dX11_restore_52 1 rfl rfl ?_
        refine G_fald dX11_restore_53 (fun r10 => ?_)
        refine G_fast dX11_restore_54 (fun M11 => ?_)
        refine G_iinc (v := (a4.1 + 1)) (lv' := [(1, .int (a4.1 + 1)), (0, rv κ this)]) dX11_restore_55 1 rfl (congrArg (fun z9 : Int32 => a4.1 + z9) (by decide : Int32.ofInt 1 = 1)) (Nat.le_of_ble_eq_true rfl) rfl ?_
        refine G_goto (tgt := 38) dX11_restore_58 (by decide) ?_
        exact G.sub [1, 0] rfl (hL38_3 _)
    · intro J36_1 hJ36_1
      refine G.sub (lv' := [(0, rv κ this), (1, .int 0)]) [1, 0] rfl ?_
      refine G.loop (lvf := fun (a12 : Int32 × Mem) => [(0, rv κ this), (1, .int a12.1)]) (mf := fun (a12 : Int32 × Mem) => a12.2) (fun L11_11 hL11_11 a12 => ?_) FU (0, M)
      unfold b_X11_restore_11
      refine G_iload_n dX11_restore_11 1 rfl rfl ?_
      refine G_sipush (v := 6889) dX11_restore_12 (by decide) ?_
      refine G_icmp_ge (tgt := 36) dX11_restore_15 (by decide) ?_ ?_
      · exact G.sub [0] rfl (hJ36_1 _)
      · refine G_aload_n dX11_restore_18 0 rfl rfl ?_
        refine G_getP cf_X11 (j := 0) rfl w_917 dX11_restore_19 (fun q14 => ?_)
        refine G_iload_n dX11_restore_22 1 rfl rfl ?_
        refine G_aload_n dX11_restore_23 0 rfl rfl ?_
        refine G_getP cf_X11 (j := 1) rfl w_918 dX11_restore_24 (fun q15 => ?_)
        refine G_iload_n dX11_restore_27 1 rfl rfl ?_
        refine G_iald dX11_restore_28 (fun x16 => ?_)
        refine G_iast dX11_restore_29 (fun M17 => ?_)
        refine G_iinc (v := (a12.1 + 1)) (lv' := [(1, .int (a12.1 + 1)), (0, rv κ this)]) dX11_restore_30 1 rfl (congrArg (fun z9 : Int32 => a12.1 + z9) (by decide : Int32.ofInt 1 = 1)) (Nat.le_of_ble_eq_true rfl) rfl ?_
        refine G_goto (tgt := 11) dX11_restore_33 (by decide) ?_
        exact G.sub [1, 0] rfl (hL11_11 _)
  · refine G_iconst (v := (-1)) dX11_restore_7 (by decide) ?_
    exact G_ret (v := ((-1))) dX11_restore_8 (fun h => by cases h) rfl
