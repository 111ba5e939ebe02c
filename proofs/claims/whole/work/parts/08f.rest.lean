def b_X6_isWord_17 (this : Option Nat) (p1 : Int32) (p2 : Option Nat) (L17_3 : (Int32 × Mem) → Option (Int32 × Mem)) (a4 : Int32 × Mem) : Option (Int32 × Mem) :=
  rcS p2 (cl (m_J0_length_8abf5 a4.2 p2) (fun (x7 : Int32) (M6 : Mem) => (if x7 ≤ a4.1 then rtZ 1 M6 else dP M6 6 0 this (fun (q8 : Option Nat) => aI M6 101 q8 ((p1 + a4.1)) (fun (x9 : Int32) => rcS p2 (cl (m_J0_charAt_5068e M6 p2 a4.1) (fun (x11 : Int32) (M10 : Mem) => (if x9 = x11 then L17_3 ((a4.1 + 1), M10) else rtZ 0 M10))))))))
def m_X6_isWord (M : Mem) (this : Option Nat) (p1 : Int32) (p2 : Option Nat) : Option (Int32 × Mem) :=
  dI M 6 4 this (fun (x1 : Int32) => rcS p2 (cl (m_J0_length_8abf5 M p2) (fun (x3 : Int32) (M2 : Mem) => (if (x1 - p1) = x3 then lp (b_X6_isWord_17 this p1 p2) FU (0, M2) else rtZ 0 M2))))
abbrev md_X6_isWord : MD := (RX6, yX6_isWord, cX6_isWord, 4, Option.some Jvm.ClassFile.FieldType.boolean, 5, 131)
theorem ok_X6_isWord : MOk md_X6_isWord 2 := ⟨by decide +kernel, w_360, w_9, ⟨by decide +kernel, by decide +kernel⟩, by decide +kernel, rfl⟩
set_option maxRecDepth 100000 in
set_option maxHeartbeats 4000000 in
theorem con_X6_isWord (κ : Cfg) (M : Mem) (this : Option Nat) (p1 : Int32) (p2 : Option Nat) : Con κ md_X6_isWord [rv κ this, .int p1, rv κ p2] M cvI (m_X6_isWord M this p1 p2) := by
  refine Con.of ok_X6_isWord (ret_Z rfl) (by
    intro v hv
    simp only [List.mem_cons, List.not_mem_nil, or_false] at hv
    rcases hv with rfl | rfl | rfl <;> first | rfl | exact rv_cat _ _) (Nat.le_of_ble_eq_true rfl) ?_
  unfold m_X6_isWord
  refine G.sub (lv' := [(0, rv κ this), (1, .int p1), (2, rv κ p2)]) [0, 1, 2] rfl ?_
  refine G_aload_n dX6_isWord_0 0 rfl rfl ?_
  refine G_getI cf_X6 (j := 4) rfl w_252 dX6_isWord_1 (fun x1 => ?_)
  refine G_iload_n dX6_isWord_4 1 rfl rfl ?_
  refine G_isub dX6_isWord_5 ?_
  refine G_aload_n dX6_isWord_6 2 rfl rfl ?_
  refine G_callStr ok_J0_length_8abf5 [] [.int (x1 - p1)] (con_J0_length_8abf5 κ M p2) rfl w_361 w_362 w_363 (Nat.le_of_ble_eq_true rfl) (Nat.le_of_ble_eq_true rfl) dX6_isWord_7 rfl (by simp) (fun x3 M2 => (show G _ _ _ _ _ _ [.int x3, .int (x1 - p1)] _ from ?_))
  refine G_icmp_eq (tgt := 15) dX6_isWord_10 (by decide) ?_ ?_
  · refine G_iconst (v := 0) dX6_isWord_15 (by decide) ?_
    refine G_istore_n (lv' := [(3, .int 0), (0, rv κ this), (1, .int p1), (2, rv κ p2)]) dX6_isWord_16 rfl (Nat.le_of_ble_eq_true rfl) rfl ?_
    refine G.sub (lv' := [(0, rv κ this), (1, .int p1), (2, rv κ p2), (3, .int 0)]) [1, 2, 3, 0] rfl ?_
    refine G.loop (lvf := fun (a4 : Int32 × Mem) => [(0, rv κ this), (1, .int p1), (2, rv κ p2), (3, .int a4.1)]) (mf := fun (a4 : Int32 × Mem) => a4.2) (fun L17_3 hL17_3 a4 => ?_) FU (0, M2)
    unfold b_X6_isWord_17
    refine G_iload_n dX6_isWord_17 3 rfl rfl ?_
    refine G_aload_n dX6_isWord_18 2 rfl rfl ?_
    refine G_callStr ok_J0_length_8abf5 [] [.int a4.1] (con_J0_length_8abf5 κ a4.2 p2) rfl w_361 w_362 w_363 (Nat.le_of_ble_eq_true rfl) (Nat.le_of_ble_eq_true rfl) dX6_isWord_19 rfl (by simp) (fun x7 M6 => (show G _ _ _ _ _ _ [.int x7, .int a4.1] _ from ?_))
    refine G_icmp_ge (tgt := 49) dX6_isWord_22 (by decide) ?_ ?_
    · refine G_iconst (v := 1) dX6_isWord_49 (by decide) ?_
      exact G_retZ dX6_isWord_50
    · refine G_aload_n dX6_isWord_25 0 rfl rfl ?_
      refine G_getP cf_X6 (j := 0) rfl w_246 dX6_isWord_26 (fun q8 => ?_)
      refine G_iload_n dX6_isWord_29 1 rfl rfl ?_
      refine G_iload_n dX6_isWord_30 3 rfl rfl ?_
      refine G_iadd dX6_isWord_31 ?_
      refine G_cald dX6_isWord_32 (fun x9 => ?_)
      refine G_aload_n dX6_isWord_33 2 rfl rfl ?_
      refine G_iload_n dX6_isWord_34 3 rfl rfl ?_
      refine G_callStr ok_J0_charAt_5068e [.int a4.1] [.int x9] (con_J0_charAt_5068e κ M6 p2 a4.1) rfl w_371 w_372 w_373 (Nat.le_of_ble_eq_true rfl) (Nat.le_of_ble_eq_true rfl) dX6_isWord_35 rfl (by simp) (fun x11 M10 => (show G _ _ _ _ _ _ [.int x11, .int x9] _ from ?_))
      refine G_icmp_eq (tgt := 43) dX6_isWord_38 (by decide) ?_ ?_
      · refine G_iinc (v := (a4.1 + 1)) (lv' := [(3, .int (a4.1 + 1)), (0, rv κ this), (1, .int p1), (2, rv κ p2)]) dX6_isWord_43 3 rfl (congrArg (fun z9 : Int32 => a4.1 + z9) (by decide : Int32.ofInt 1 = 1)) (Nat.le_of_ble_eq_true rfl) rfl ?_
        refine G_goto (tgt := 17) dX6_isWord_46 (by decide) ?_
        exact G.sub [1, 2, 3, 0] rfl (hL17_3 _)
      · refine G_iconst (v := 0) dX6_isWord_41 (by decide) ?_
        exact G_retZ dX6_isWord_42
  · refine G_iconst (v := 0) dX6_isWord_13 (by decide) ?_
    exact G_retZ dX6_isWord_14
def m_X6_readClause (M : Mem) (this : Option Nat) : Option (Int32 × Mem) :=
  dI M 6 4 this (fun (x1 : Int32) => rc M 6 this (cl (m_X6_skipWord M this) (fun (_u : Unit) (M2 : Mem) => rc M2 6 this (cl (m_X6_isWord M2 this x1 ((some (1000000 + 0)))) (fun (x4 : Int32) (M3 : Mem) => (if x4 = 0 then rc M3 6 this (cl (m_X6_isWord M3 this x1 ((some (1000000 + 1)))) (fun (x6 : Int32) (M5 : Mem) => (if x6 = 0 then rc M5 6 this (cl (m_X6_isWord M5 this x1 ((some (1000000 + 2)))) (fun (x8 : Int32) (M7 : Mem) => (if x8 = 0 then rc M7 6 this (cl (m_X6_isWord M7 this x1 ((some (1000000 + 3)))) (fun (x10 : Int32) (M9 : Mem) => (if x10 = 0 then rc M9 6 this (cl (m_X6_isWord M9 this x1 ((some (1000000 + 4)))) (fun (x12 : Int32) (M11 : Mem) => (if x12 = 0 then rc M11 6 this (cl (m_X6_fault M11 this 3 x1) (fun (x14 : Int32) (M13 : Mem) => rtZ x14 M13)) else rc M11 6 this (cl (m_X6_readBand M11 this) (fun (x16 : Int32) (M15 : Mem) => rtZ x16 M15))))) else dP M9 6 2 this (fun (q17 : Option Nat) => pI M9 5 4 q17 1 (fun (M18 : Mem) => rtZ 1 M18))))) else rc M7 6 this (cl (m_X6_readSetting M7 this 9999) (fun (x20 : Int32) (M19 : Mem) => dP M19 6 2 this (fun (q21 : Option Nat) => dP M19 6 1 this (fun (q22 : Option Nat) => aI M19 100 q22 0 (fun (x23 : Int32) => pI M19 5 5 q21 x23 (fun (M24 : Mem) => rtZ x20 M24))))))))) else rc M5 6 this (cl (m_X6_readSetting M5 this 9999) (fun (x26 : Int32) (M25 : Mem) => dP M25 6 2 this (fun (q27 : Option Nat) => dP M25 6 1 this (fun (q28 : Option Nat) => aI M25 100 q28 0 (fun (x29 : Int32) => pI M25 5 3 q27 x29 (fun (M30 : Mem) => rtZ x26 M30))))))))) else rc M3 6 this (cl (m_X6_readSetting M3 this 60) (fun (x32 : Int32) (M31 : Mem) => dP M31 6 2 this (fun (q33 : Option Nat) => dP M31 6 1 this (fun (q34 : Option Nat) => aI M31 100 q34 0 (fun (x35 : Int32) => pI M31 5 2 q33 x35 (fun (M36 : Mem) => rtZ x32 M36))))))))))))
abbrev md_X6_readClause : MD := (RX6, yX6_readClause, cX6_readClause, 3, Option.some Jvm.ClassFile.FieldType.boolean, 6, 154)
theorem ok_X6_readClause : MOk md_X6_readClause 0 := ⟨by decide +kernel, w_347, w_9, ⟨by decide +kernel, by decide +kernel⟩, by decide +kernel, rfl⟩
set_option maxRecDepth 100000 in
set_option maxHeartbeats 4000000 in
theorem con_X6_readClause (κ : Cfg) (M : Mem) (this : Option Nat) : Con κ md_X6_readClause [rv κ this] M cvI (m_X6_readClause M this) := by
  refine Con.of ok_X6_readClause (ret_Z rfl) (by
    intro v hv
    simp only [List.mem_cons, List.not_mem_nil, or_false] at hv
    subst hv; first | rfl | exact rv_cat _ _) (Nat.le_of_ble_eq_true rfl) ?_
  unfold m_X6_readClause
  refine G.sub (lv' := [(0, rv κ this)]) [0] rfl ?_
  refine G_aload_n dX6_readClause_0 0 rfl rfl ?_
  refine G_getI cf_X6 (j := 4) rfl w_252 dX6_readClause_1 (fun x1 => ?_)
  refine G_istore_n (lv' := [(1, .int x1), (0, rv κ this)]) dX6_readClause_4 rfl (Nat.le_of_ble_eq_true rfl) rfl ?_
  refine G_aload_n dX6_readClause_5 1 rfl rfl ?_
  refine G_callV cf_X6 ok_X6_skipWord [] [] (con_X6_skipWord κ M this) rfl w_348 w_349 w_350 (Nat.le_of_ble_eq_true rfl) (Nat.le_of_ble_eq_true rfl) dX6_readClause_6 rfl (by simp) (fun _u M2 => (show G _ _ _ _ _ _ [] _ from ?_))
  refine G_aload_n dX6_readClause_9 1 rfl rfl ?_
  refine G_iload_n dX6_readClause_10 0 rfl rfl ?_
  refine G_ldcS (i := 0) (fun s h => h.2.2.2.2.2.2.1) dX6_readClause_11 ?_
  refine G_callV cf_X6 ok_X6_isWord [.int x1, rv κ (some (1000000 + 0))] [] (con_X6_isWord κ M2 this x1 ((some (1000000 + 0)))) rfl w_357 w_358 w_359 (Nat.le_of_ble_eq_true rfl) (Nat.le_of_ble_eq_true rfl) dX6_readClause_13 rfl (by simp) (fun x4 M3 => (show G _ _ _ _ _ _ [.int x4] _ from ?_))
  refine G_if_eq (tgt := 41) dX6_readClause_16 (by decide) ?_ ?_
  · refine G_aload_n dX6_readClause_41 1 rfl rfl ?_
    refine G_iload_n dX6_readClause_42 0 rfl rfl ?_
    refine G_ldcS (i := 1) (fun s h => h.2.2.2.2.2.2.2.1) dX6_readClause_43 ?_
    refine G_callV cf_X6 ok_X6_isWord [.int x1, rv κ (some (1000000 + 1))] [] (con_X6_isWord κ M3 this x1 ((some (1000000 + 1)))) rfl w_357 w_358 w_359 (Nat.le_of_ble_eq_true rfl) (Nat.le_of_ble_eq_true rfl) dX6_readClause_45 rfl (by simp) (fun x6 M5 => (show G _ _ _ _ _ _ [.int x6] _ from ?_))
    refine G_if_eq (tgt := 74) dX6_readClause_48 (by decide) ?_ ?_
    · refine G_aload_n dX6_readClause_74 1 rfl rfl ?_
      refine G_iload_n dX6_readClause_75 0 rfl rfl ?_
      refine G_ldcS (i := 2) (fun s h => h.2.2.2.2.2.2.2.2.1) dX6_readClause_76 ?_
      refine G_callV cf_X6 ok_X6_isWord [.int x1, rv κ (some (1000000 + 2))] [] (con_X6_isWord κ M5 this x1 ((some (1000000 + 2)))) rfl w_357 w_358 w_359 (Nat.le_of_ble_eq_true rfl) (Nat.le_of_ble_eq_true rfl) dX6_readClause_78 rfl (by simp) (fun x8 M7 => (show G _ _ _ _ _ _ [.int x8] _ from ?_))
      refine G_if_eq (tgt := 107) dX6_readClause_81 (by decide) ?_ ?_
      · refine G_aload_n dX6_readClause_107 1 rfl rfl ?_
        refine G_iload_n dX6_readClause_108 0 rfl rfl ?_
        refine G_ldcS (i := 3) (fun s h => h.2.2.2.2.2.2.2.2.2.1) dX6_readClause_109 ?_
        refine G_callV cf_X6 ok_X6_isWord [.int x1, rv κ (some (1000000 + 3))] [] (con_X6_isWord κ M7 this x1 ((some (1000000 + 3)))) rfl w_357 w_358 w_359 (Nat.le_of_ble_eq_true rfl) (Nat.le_of_ble_eq_true rfl) dX6_readClause_111 rfl (by simp) (fun x10 M9 => (show G _ _ _ _ _ _ [.int x10] _ from ?_))
        refine G_if_eq (tgt := 127) dX6_readClause_114 (by decide) ?_ ?_
        · refine G_aload_n dX6_readClause_127 1 rfl rfl ?_
          refine G_iload_n dX6_readClause_128 0 rfl rfl ?_
          refine G_ldcS (i := 4) (fun s h => h.2.2.2.2.2.2.2.2.2.2.1) dX6_readClause_129 ?_
          refine G_callV cf_X6 ok_X6_isWord [.int x1, rv κ (some (1000000 + 4))] [] (con_X6_isWord κ M9 this x1 ((some (1000000 + 4)))) rfl w_357 w_358 w_359 (Nat.le_of_ble_eq_true rfl) (Nat.le_of_ble_eq_true rfl) dX6_readClause_131 rfl (by simp) (fun x12 M11 => (show G _ _ _ _ _ _ [.int x12] _ from ?_))
          refine G_if_eq (tgt := 142) dX6_readClause_134 (by decide) ?_ ?_
          · refine G_aload_n dX6_readClause_142 1 rfl rfl ?_
            refine G_iconst (v := 3) dX6_readClause_143 (by decide) ?_
            refine G_iload_n dX6_readClause_144 0 rfl rfl ?_
            refine G_callV cf_X6 ok_X6_fault [.int 3, .int x1] [] (con_X6_fault κ M11 this 3 x1) rfl w_421 w_422 w_423 (Nat.le_of_ble_eq_true rfl) (Nat.le_of_ble_eq_true rfl) dX6_readClause_145 rfl (by simp) (fun x14 M13 => (show G _ _ _ _ _ _ [.int x14] _ from ?_))
            exact G_retZ dX6_readClause_148
          · refine G_aload_n dX6_readClause_137 1 rfl rfl ?_
            refine G_callV cf_X6 ok_X6_readBand [] [] (con_X6_readBand κ M11 this) rfl w_442 w_443 w_444 (Nat.le_of_ble_eq_true rfl) (Nat.le_of_ble_eq_true rfl) dX6_readClause_138 rfl (by simp) (fun x16 M15 => (show G _ _ _ _ _ _ [.int x16] _ from ?_))
            exact G_retZ dX6_readClause_141
        · refine G_aload_n dX6_readClause_117 1 rfl rfl ?_
          refine G_getP cf_X6 (j := 2) rfl w_248 dX6_readClause_118 (fun q17 => ?_)
          refine G_iconst (v := 1) dX6_readClause_121 (by decide) ?_
          refine G_putI cf_X5 (j := 4) rfl rfl w_91 (Or.inl rfl) dX6_readClause_122 (fun M18 => ?_)
          refine G_iconst (v := 1) dX6_readClause_125 (by decide) ?_
          exact G_retZ dX6_readClause_126
      · refine G_aload_n dX6_readClause_84 1 rfl rfl ?_
        refine G_sipush (v := 9999) dX6_readClause_85 (by decide) ?_
        refine G_callV cf_X6 ok_X6_readSetting [.int 9999] [] (con_X6_readSetting κ M7 this 9999) rfl w_409 w_410 w_411 (Nat.le_of_ble_eq_true rfl) (Nat.le_of_ble_eq_true rfl) dX6_readClause_88 rfl (by simp) (fun x20 M19 => (show G _ _ _ _ _ _ [.int x20] _ from ?_))
        refine G_istore_n (lv' := [(2, .int x20), (1, .int x1), (0, rv κ this)]) dX6_readClause_91 rfl (Nat.le_of_ble_eq_true rfl) rfl ?_
        refine G_aload_n dX6_readClause_92 2 rfl rfl ?_
        refine G_getP cf_X6 (j := 2) rfl w_248 dX6_readClause_93 (fun q21 => ?_)
        refine G_aload_n dX6_readClause_96 2 rfl rfl ?_
        refine G_getP cf_X6 (j := 1) rfl w_247 dX6_readClause_97 (fun q22 => ?_)
        refine G_iconst (v := 0) dX6_readClause_100 (by decide) ?_
        refine G_iald dX6_readClause_101 (fun x23 => ?_)
        refine G_putI cf_X5 (j := 5) rfl rfl w_93 (Or.inl rfl) dX6_readClause_102 (fun M24 => ?_)
        refine G_iload_n dX6_readClause_105 0 rfl rfl ?_
        exact G_retZ dX6_readClause_106
    · refine G_aload_n dX6_readClause_51 1 rfl rfl ?_
      refine G_sipush (v := 9999) dX6_readClause_52 (by decide) ?_
      refine G_callV cf_X6 ok_X6_readSetting [.int 9999] [] (con_X6_readSetting κ M5 this 9999) rfl w_409 w_410 w_411 (Nat.le_of_ble_eq_true rfl) (Nat.le_of_ble_eq_true rfl) dX6_readClause_55 rfl (by simp) (fun x26 M25 => (show G _ _ _ _ _ _ [.int x26] _ from ?_))
      refine G_istore_n (lv' := [(2, .int x26), (1, .int x1), (0, rv κ this)]) dX6_readClause_58 rfl (Nat.le_of_ble_eq_true rfl) rfl ?_
      refine G_aload_n dX6_readClause_59 2 rfl rfl ?_
      refine G_getP cf_X6 (j := 2) rfl w_248 dX6_readClause_60 (fun q27 => ?_)
      refine G_aload_n dX6_readClause_63 2 rfl rfl ?_
      refine G_getP cf_X6 (j := 1) rfl w_247 dX6_readClause_64 (fun q28 => ?_)
      refine G_iconst (v := 0) dX6_readClause_67 (by decide) ?_
      refine G_iald dX6_readClause_68 (fun x29 => ?_)
      refine G_putI cf_X5 (j := 3) rfl rfl w_89 (Or.inl rfl) dX6_readClause_69 (fun M30 => ?_)
      refine G_iload_n dX6_readClause_72 0 rfl rfl ?_
      exact G_retZ dX6_readClause_73
  · refine G_aload_n dX6_readClause_19 1 rfl rfl ?_
    refine G_bipush (v := 60) dX6_readClause_20 (by decide) ?_
    refine G_callV cf_X6 ok_X6_readSetting [.int 60] [] (con_X6_readSetting κ M3 this 60) rfl w_409 w_410 w_411 (Nat.le_of_ble_eq_true rfl) (Nat.le_of_ble_eq_true rfl) dX6_readClause_22 rfl (by simp) (fun x32 M31 => (show G _ _ _ _ _ _ [.int x32] _ from ?_))
    refine G_istore_n (lv' := [(2, .int x32), (1, .int x1), (0, rv κ this)]) dX6_readClause_25 rfl (Nat.le_of_ble_eq_true rfl) rfl ?_
    refine G_aload_n dX6_readClause_26 2 rfl rfl ?_
    refine G_getP cf_X6 (j := 2) rfl w_248 dX6_readClause_27 (fun q33 => ?_)
    refine G_aload_n dX6_readClause_30 2 rfl rfl ?_
    refine G_getP cf_X6 (j := 1) rfl w_247 dX6_readClause_31 (fun q34 => ?_)
    refine G_iconst (v := 0) dX6_readClause_34 (by decide) ?_
    refine G_iald dX6_readClause_35 (fun x35 => ?_)
    refine G_putI cf_X5 (j := 2) rfl rfl w_87 (Or.inl rfl) dX6_readClause_36 (fun M36 => ?_)
    refine G_iload_n dX6_readClause_39 0 rfl rfl ?_
    exact G_retZ dX6_readClause_40
def b_X6_describesPlan_22 (this : Option Nat) (L22_5 : (Mem) → Option (Int32 × Mem)) (a6 : Mem) : Option (Int32 × Mem) :=
  dI a6 6 5 this (fun (x8 : Int32) => (if 90 ≤ x8 then dI a6 6 4 this (fun (x9 : Int32) => rc a6 6 this (cl (m_X6_fault a6 this 3 x9) (fun (x11 : Int32) (M10 : Mem) => rtZ x11 M10))) else rc a6 6 this (cl (m_X6_readClause a6 this) (fun (x13 : Int32) (M12 : Mem) => (if x13 ≠ 0 then dI M12 6 4 this (fun (x14 : Int32) => dI M12 6 3 this (fun (x15 : Int32) => (if x14 < x15 then rc M12 6 this (cl (m_X6_readSign M12 this 59) (fun (x17 : Int32) (M16 : Mem) => (if x17 ≠ 0 then dI M16 6 5 this (fun (x18 : Int32) => pI M16 6 5 this ((x18 + 1)) (fun (M19 : Mem) => L22_5 M19)) else rtZ 0 M16))) else rtZ 1 M12))) else rtZ 0 M12)))))
def m_X6_describesPlan (M : Mem) (this : Option Nat) : Option (Int32 × Mem) :=
  dP M 6 2 this (fun (q1 : Option Nat) => rc M 5 q1 (cl (m_X5_reset M q1) (fun (_u : Unit) (M2 : Mem) => pI M2 6 6 this 0 (fun (M3 : Mem) => pI M3 6 4 this 0 (fun (M4 : Mem) => pI M4 6 5 this 0 (fun (M5 : Mem) => lp (b_X6_describesPlan_22 this) FU M5))))))
abbrev md_X6_describesPlan : MD := (RX6, yX6_describesPlan, cX6_describesPlan, 1, Option.some Jvm.ClassFile.FieldType.boolean, 7, 176)
theorem ok_X6_describesPlan : MOk md_X6_describesPlan 0 := ⟨by decide +kernel, w_342, w_9, ⟨by decide +kernel, by decide +kernel⟩, by decide +kernel, rfl⟩
set_option maxRecDepth 100000 in
set_option maxHeartbeats 4000000 in
theorem con_X6_describesPlan (κ : Cfg) (M : Mem) (this : Option Nat) : Con κ md_X6_describesPlan [rv κ this] M cvI (m_X6_describesPlan M this) := by
  refine Con.of ok_X6_describesPlan (ret_Z rfl) (by
    intro v hv
    simp only [List.mem_cons, List.not_mem_nil, or_false] at hv
    subst hv; first | rfl | exact rv_cat _ _) (Nat.le_of_ble_eq_true rfl) ?_
  unfold m_X6_describesPlan
  refine G.sub (lv' := [(0, rv κ this)]) [0] rfl ?_
  refine G_aload_n dX6_describesPlan_0 0 rfl rfl ?_
  refine G_getP cf_X6 (j := 2) rfl w_248 dX6_describesPlan_1 (fun q1 => ?_)
  refine G_callV cf_X5 ok_X5_reset [] [] (con_X5_reset κ M q1) rfl w_343 w_74 w_75 (Nat.le_of_ble_eq_true rfl) (Nat.le_of_ble_eq_true rfl) dX6_describesPlan_4 rfl (by simp) (fun _u M2 => (show G _ _ _ _ _ _ [] _ from ?_))
  refine G_aload_n dX6_describesPlan_7 0 rfl rfl ?_
  refine G_iconst (v := 0) dX6_describesPlan_8 (by decide) ?_
  refine G_putI cf_X6 (j := 6) rfl rfl w_255 (Or.inl rfl) dX6_describesPlan_9 (fun M3 => ?_)
  refine G_aload_n dX6_describesPlan_12 0 rfl rfl ?_
  refine G_iconst (v := 0) dX6_describesPlan_13 (by decide) ?_
  refine G_putI cf_X6 (j := 4) rfl rfl w_252 (Or.inl rfl) dX6_describesPlan_14 (fun M4 => ?_)
  refine G_aload_n dX6_describesPlan_17 0 rfl rfl ?_
  refine G_iconst (v := 0) dX6_describesPlan_18 (by decide) ?_
  refine G_putI cf_X6 (j := 5) rfl rfl w_254 (Or.inl rfl) dX6_describesPlan_19 (fun M5 => ?_)
  refine G.sub (lv' := [(0, rv κ this)]) [0] rfl ?_
  refine G.loop (lvf := fun (a6 : Mem) => [(0, rv κ this)]) (mf := fun (a6 : Mem) => a6) (fun L22_5 hL22_5 a6 => ?_) FU M5
  unfold b_X6_describesPlan_22
  refine G_aload_n dX6_describesPlan_22 0 rfl rfl ?_
  refine G_getI cf_X6 (j := 5) rfl w_254 dX6_describesPlan_23 (fun x8 => ?_)
  refine G_bipush (v := 90) dX6_describesPlan_26 (by decide) ?_
  refine G_icmp_ge (tgt := 77) dX6_describesPlan_28 (by decide) ?_ ?_
  · refine G_aload_n dX6_describesPlan_77 0 rfl rfl ?_
    refine G_iconst (v := 3) dX6_describesPlan_78 (by decide) ?_
    refine G_aload_n dX6_describesPlan_79 0 rfl rfl ?_
    refine G_getI cf_X6 (j := 4) rfl w_252 dX6_describesPlan_80 (fun x9 => ?_)
    refine G_callV cf_X6 ok_X6_fault [.int 3, .int x9] [] (con_X6_fault κ a6 this 3 x9) rfl w_421 w_422 w_423 (Nat.le_of_ble_eq_true rfl) (Nat.le_of_ble_eq_true rfl) dX6_describesPlan_83 rfl (by simp) (fun x11 M10 => (show G _ _ _ _ _ _ [.int x11] _ from ?_))
    exact G_retZ dX6_describesPlan_86
  · refine G_aload_n dX6_describesPlan_31 0 rfl rfl ?_
    refine G_callV cf_X6 ok_X6_readClause [] [] (con_X6_readClause κ a6 this) rfl w_344 w_345 w_346 (Nat.le_of_ble_eq_true rfl) (Nat.le_of_ble_eq_true rfl) dX6_describesPlan_32 rfl (by simp) (fun x13 M12 => (show G _ _ _ _ _ _ [.int x13] _ from ?_))
    refine G_if_ne (tgt := 40) dX6_describesPlan_35 (by decide) ?_ ?_
    · refine G_aload_n dX6_describesPlan_40 0 rfl rfl ?_
      refine G_getI cf_X6 (j := 4) rfl w_252 dX6_describesPlan_41 (fun x14 => ?_)
      refine G_aload_n dX6_describesPlan_44 0 rfl rfl ?_
      refine G_getI cf_X6 (j := 3) rfl w_250 dX6_describesPlan_45 (fun x15 => ?_)
      refine G_icmp_lt (tgt := 53) dX6_describesPlan_48 (by decide) ?_ ?_
      · refine G_aload_n dX6_describesPlan_53 0 rfl rfl ?_
        refine G_bipush (v := 59) dX6_describesPlan_54 (by decide) ?_
        refine G_callV cf_X6 ok_X6_readSign [.int 59] [] (con_X6_readSign κ M12 this 59) rfl w_417 w_418 w_419 (Nat.le_of_ble_eq_true rfl) (Nat.le_of_ble_eq_true rfl) dX6_describesPlan_56 rfl (by simp) (fun x17 M16 => (show G _ _ _ _ _ _ [.int x17] _ from ?_))
        refine G_if_ne (tgt := 64) dX6_describesPlan_59 (by decide) ?_ ?_
        · refine G_aload_n dX6_describesPlan_64 0 rfl rfl ?_
          refine G_dup dX6_describesPlan_65 (rv_cat _ _) ?_
          refine G_getI cf_X6 (j := 5) rfl w_254 dX6_describesPlan_66 (fun x18 => ?_)
          refine G_iconst (v := 1) dX6_describesPlan_69 (by decide) ?_
          refine G_iadd dX6_describesPlan_70 ?_
          refine G_putI cf_X6 (j := 5) rfl rfl w_254 (Or.inl rfl) dX6_describesPlan_71 (fun M19 => ?_)
          refine G_goto (tgt := 22) dX6_describesPlan_74 (by decide) ?_
          exact G.sub [0] rfl (hL22_5 _)
        · refine G_iconst (v := 0) dX6_describesPlan_62 (by decide) ?_
          exact G_retZ dX6_describesPlan_63
      · refine G_iconst (v := 1) dX6_describesPlan_51 (by decide) ?_
        exact G_retZ dX6_describesPlan_52
    · refine G_iconst (v := 0) dX6_describesPlan_38 (by decide) ?_
      exact G_retZ dX6_describesPlan_39
def m_X10_readPlan (M : Mem) (this : Option Nat) (p1 : Int32) : Option (Int32 × Mem) :=
  dP M 10 0 this (fun (q1 : Option Nat) => rc M 1 q1 (cl (m_X1_planAt M q1 p1) (fun (q3 : Option Nat) (M2 : Mem) => jn (fun (x5 : Int32) (M6 : Mem) => dP M6 10 3 this (fun (q7 : Option Nat) => rc M6 6 q7 (cl (m_X6_clear M6 q7) (fun (_u : Unit) (M8 : Mem) => (if q3 ≠ none then (if x5 ≠ 0 then dP M8 10 3 this (fun (q9 : Option Nat) => dP M8 6 2 q9 (fun (q10 : Option Nat) => rc M8 5 q3 (cl (m_X5_copyFrom M8 q3 q10) (fun (_u : Unit) (M11 : Mem) => dI M11 5 1 q3 (fun (x12 : Int32) => rt x12 M11))))) else dP M8 10 4 this (fun (q13 : Option Nat) => dP M8 10 3 this (fun (q14 : Option Nat) => dI M8 6 5 q14 (fun (x15 : Int32) => dP M8 10 3 this (fun (q16 : Option Nat) => dI M8 6 7 q16 (fun (x17 : Int32) => dP M8 10 3 this (fun (q18 : Option Nat) => dI M8 6 8 q18 (fun (x19 : Int32) => rc M8 7 q13 (cl (m_X7_tell M8 q13 p1 x15 x17 x19) (fun (_u : Unit) (M20 : Mem) => rt ((-5)) M20)))))))))) else rt ((-2)) M8))))) (fun (J28_3 : Int32 → Mem → Option (Int32 × Mem)) => jn (fun (M22 : Mem) => J28_3 0 M22) (fun (J27_20 : Mem → Option (Int32 × Mem)) => (if q3 = none then J27_20 M2 else dP M2 10 3 this (fun (q23 : Option Nat) => rc M2 6 q23 (cl (m_X6_describesPlan M2 q23) (fun (x25 : Int32) (M24 : Mem) => (if x25 = 0 then J27_20 M24 else J28_3 1 M24))))))))))
abbrev md_X10_readPlan : MD := (RX10, yX10_readPlan, cX10_readPlan, 4, Option.some Jvm.ClassFile.FieldType.int, 8, 196)
theorem ok_X10_readPlan : MOk md_X10_readPlan 1 := ⟨by decide +kernel, w_333, w_1, ⟨by decide +kernel, by decide +kernel⟩, by decide +kernel, rfl⟩
set_option maxRecDepth 100000 in
set_option maxHeartbeats 4000000 in
theorem con_X10_readPlan (κ : Cfg) (M : Mem) (this : Option Nat) (p1 : Int32) : Con κ md_X10_readPlan [rv κ this, .int p1] M cvI (m_X10_readPlan M this p1) := by
  refine Con.of ok_X10_readPlan (ret_I rfl) (by
    intro v hv
    simp only [List.mem_cons, List.not_mem_nil, or_false] at hv
    rcases hv with rfl | rfl <;> first | rfl | exact rv_cat _ _) (Nat.le_of_ble_eq_true rfl) ?_
  unfold m_X10_readPlan
  refine G.sub (lv' := [(0, rv κ this), (1, .int p1)]) [0, 1] rfl ?_
  refine G_aload_n dX10_readPlan_0 0 rfl rfl ?_
  refine G_getP cf_X10 (j := 0) rfl w_299 dX10_readPlan_1 (fun q1 => ?_)
  refine G_iload_n dX10_readPlan_4 1 rfl rfl ?_
  refine G_callV cf_X1 ok_X1_planAt [.int p1] [] (con_X1_planAt κ M q1 p1) rfl w_334 w_335 w_336 (Nat.le_of_ble_eq_true rfl) (Nat.le_of_ble_eq_true rfl) dX10_readPlan_5 rfl (by simp) (fun q3 M2 => (show G _ _ _ _ _ _ [rv κ q3] _ from ?_))
  refine G_astore_n (lv' := [(2, rv κ q3), (0, rv κ this), (1, .int p1)]) dX10_readPlan_8 rfl (Nat.le_of_ble_eq_true rfl) rfl ?_
  refine G_aload_n dX10_readPlan_9 0 rfl rfl ?_
  refine G.jn (P := (fun (J : Int32 → Mem → Option (Int32 × Mem)) => ∀ (x5 : Int32) (M6 : Mem), G κ md_X10_readPlan cvI (J x5 M6) 28 [(0, rv κ this), (1, .int p1), (2, rv κ q3)] [.int x5] M6)) ?_ ?_
  · intro x5 M6
    refine G_istore_n (lv' := [(3, .int x5), (0, rv κ this), (1, .int p1), (2, rv κ q3)]) dX10_readPlan_28 rfl (Nat.le_of_ble_eq_true rfl) rfl ?_
    refine G_aload_n dX10_readPlan_29 1 rfl rfl ?_
    refine G_getP cf_X10 (j := 3) rfl w_302 dX10_readPlan_30 (fun q7 => ?_)
    refine G_callV cf_X6 ok_X6_clear [] [] (con_X6_clear κ M6 q7) rfl w_456 w_457 w_458 (Nat.le_of_ble_eq_true rfl) (Nat.le_of_ble_eq_true rfl) dX10_readPlan_33 rfl (by simp) (fun _u M8 => (show G _ _ _ _ _ _ [] _ from ?_))
    refine G_aload_n dX10_readPlan_36 3 rfl rfl ?_
    refine G_ifnonnull (tgt := 43) dX10_readPlan_37 (by decide) ?_ ?_
    · refine G_iload_n dX10_readPlan_43 0 rfl rfl ?_
      refine G_if_ne (tgt := 79) dX10_readPlan_44 (by decide) ?_ ?_
      · refine G_aload_n dX10_readPlan_79 3 rfl rfl ?_
        refine G_aload_n dX10_readPlan_80 1 rfl rfl ?_
        refine G_getP cf_X10 (j := 3) rfl w_302 dX10_readPlan_81 (fun q9 => ?_)
        refine G_getP cf_X6 (j := 2) rfl w_249 dX10_readPlan_84 (fun q10 => ?_)
        refine G_callV cf_X5 ok_X5_copyFrom [rv κ q10] [] (con_X5_copyFrom κ M8 q3 q10) rfl w_464 w_465 w_466 (Nat.le_of_ble_eq_true rfl) (Nat.le_of_ble_eq_true rfl) dX10_readPlan_87 rfl (by simp) (fun _u M11 => (show G _ _ _ _ _ _ [] _ from ?_))
        refine G_aload_n dX10_readPlan_90 3 rfl rfl ?_
        refine G_getI cf_X5 (j := 1) rfl w_84 dX10_readPlan_91 (fun x12 => ?_)
        exact G_ret (v := x12) dX10_readPlan_94 (fun h => by cases h) rfl
      · refine G_aload_n dX10_readPlan_47 1 rfl rfl ?_
        refine G_getP cf_X10 (j := 4) rfl w_303 dX10_readPlan_48 (fun q13 => ?_)
        refine G_iload_n dX10_readPlan_51 2 rfl rfl ?_
        refine G_aload_n dX10_readPlan_52 1 rfl rfl ?_
        refine G_getP cf_X10 (j := 3) rfl w_302 dX10_readPlan_53 (fun q14 => ?_)
        refine G_getI cf_X6 (j := 5) rfl w_253 dX10_readPlan_56 (fun x15 => ?_)
        refine G_aload_n dX10_readPlan_59 1 rfl rfl ?_
        refine G_getP cf_X10 (j := 3) rfl w_302 dX10_readPlan_60 (fun q16 => ?_)
        refine G_getI cf_X6 (j := 7) rfl w_256 dX10_readPlan_63 (fun x17 => ?_)
        refine G_aload_n dX10_readPlan_66 1 rfl rfl ?_
        refine G_getP cf_X10 (j := 3) rfl w_302 dX10_readPlan_67 (fun q18 => ?_)
        refine G_getI cf_X6 (j := 8) rfl w_258 dX10_readPlan_70 (fun x19 => ?_)
        refine G_callV cf_X7 ok_X7_tell [.int p1, .int x15, .int x17, .int x19] [] (con_X7_tell κ M8 q13 p1 x15 x17 x19) rfl w_460 w_461 w_462 (Nat.le_of_ble_eq_true rfl) (Nat.le_of_ble_eq_true rfl) dX10_readPlan_73 rfl (by simp) (fun _u M20 => (show G _ _ _ _ _ _ [] _ from ?_))
        refine G_bipush (v := (-5)) dX10_readPlan_76 (by decide) ?_
        exact G_ret (v := ((-5))) dX10_readPlan_78 (fun h => by cases h) rfl
    · refine G_bipush (v := (-2)) dX10_readPlan_40 (by decide) ?_
      exact G_ret (v := ((-2))) dX10_readPlan_42 (fun h => by cases h) rfl
  · intro J28_3 hJ28_3
    refine G.jn (P := (fun (J : Mem → Option (Int32 × Mem)) => ∀ (M22 : Mem), G κ md_X10_readPlan cvI (J M22) 27 [(0, rv κ this), (1, .int p1), (2, rv κ q3)] [] M22)) ?_ ?_
    · intro M22
      refine G_iconst (v := 0) dX10_readPlan_27 (by decide) ?_
      exact G.sub [0, 1, 2] rfl (hJ28_3 _ _)
    · intro J27_20 hJ27_20
      refine G_ifnull (tgt := 27) dX10_readPlan_10 (by decide) ?_ ?_
      · exact G.sub [1, 2, 0] rfl (hJ27_20 _)
      · refine G_aload_n dX10_readPlan_13 1 rfl rfl ?_
        refine G_getP cf_X10 (j := 3) rfl w_302 dX10_readPlan_14 (fun q23 => ?_)
        refine G_callV cf_X6 ok_X6_describesPlan [] [] (con_X6_describesPlan κ M2 q23) rfl w_339 w_340 w_341 (Nat.le_of_ble_eq_true rfl) (Nat.le_of_ble_eq_true rfl) dX10_readPlan_17 rfl (by simp) (fun x25 M24 => (show G _ _ _ _ _ _ [.int x25] _ from ?_))
        refine G_if_eq (tgt := 27) dX10_readPlan_20 (by decide) ?_ ?_
        · exact G.sub [1, 2, 0] rfl (hJ27_20 _)
        · refine G_iconst (v := 1) dX10_readPlan_23 (by decide) ?_
          refine G_goto (tgt := 28) dX10_readPlan_24 (by decide) ?_
          exact G.sub [1, 2, 0] rfl (hJ28_3 _ _)
def m_X11_level (M : Mem) (this : Option Nat) (p1 : Int32) (p2 : Int32) : Option (Int32 × Mem) :=
  cl (m_X11_in M p1 0 3) (fun (x2 : Int32) (M1 : Mem) => (if x2 ≠ 0 then (if p2 = 0 then rc M1 11 this (cl (m_X11_levelPart M1 this p1 0) (fun (x4 : Int32) (M3 : Mem) => rt x4 M3)) else (if p2 = 1 then rc M1 11 this (cl (m_X11_levelPart M1 this p1 1) (fun (x6 : Int32) (M5 : Mem) => rt x6 M5)) else (if p2 = 2 then dP M1 11 2 this (fun (q7 : Option Nat) => aF M1 102 q7 p1 (fun (r8 : UInt32) => cl (m_Jxf58ca_floatToIntBits_5c35a M1 r8) (fun (x10 : Int32) (M9 : Mem) => rt x10 M9))) else (if p2 = 3 then rc M1 11 this (cl (m_X11_levelPart M1 this p1 0) (fun (x12 : Int32) (M11 : Mem) => (if x12 ≠ 0 then rc M11 11 this (cl (m_X11_score M11 this p1) (fun (r14 : UInt32) (M13 : Mem) => cl (m_Jxf58ca_floatToIntBits_5c35a M13 r14) (fun (x16 : Int32) (M15 : Mem) => rt x16 M15))) else rt 0 M11))) else (if p2 = 4 then rc M1 11 this (cl (m_X11_levelPart M1 this p1 2) (fun (x18 : Int32) (M17 : Mem) => rt x18 M17)) else (if p2 = 5 then rc M1 11 this (cl (m_X11_levelPart M1 this p1 3) (fun (x20 : Int32) (M19 : Mem) => rt x20 M19)) else rt ((-2)) M1)))))) else rt ((-2)) M1))
abbrev md_X11_level : MD := (RX11, yX11_level, cX11_level, 3, Option.some Jvm.ClassFile.FieldType.int, 2, 50)
theorem ok_X11_level : MOk md_X11_level 2 := ⟨by decide +kernel, w_1143, w_11, ⟨by decide +kernel, by decide +kernel⟩, by decide +kernel, rfl⟩
set_option maxRecDepth 100000 in
set_option maxHeartbeats 4000000 in
theorem con_X11_level (κ : Cfg) (M : Mem) (this : Option Nat) (p1 : Int32) (p2 : Int32) : Con κ md_X11_level [rv κ this, .int p1, .int p2] M cvI (m_X11_level M this p1 p2) := by
  refine Con.of ok_X11_level (ret_I rfl) (by
    intro v hv
    simp only [List.mem_cons, List.not_mem_nil, or_false] at hv
    rcases hv with rfl | rfl | rfl <;> first | rfl | exact rv_cat _ _) (Nat.le_of_ble_eq_true rfl) ?_
  unfold m_X11_level
  refine G.sub (lv' := [(0, rv κ this), (1, .int p1), (2, .int p2)]) [0, 1, 2] rfl ?_
  refine G_iload_n dX11_level_0 1 rfl rfl ?_
  refine G_iconst (v := 0) dX11_level_1 (by decide) ?_
  refine G_iconst (v := 3) dX11_level_2 (by decide) ?_
  refine G_callS ok_X11_in [.int p1, .int 0, .int 3] [] (con_X11_in κ M p1 0 3) rfl w_993 w_994 (Nat.le_of_ble_eq_true rfl) (Nat.le_of_ble_eq_true rfl) dX11_level_3 rfl (by simp) (fun x2 M1 => (show G _ _ _ _ _ _ [.int x2] _ from ?_))
  refine G_if_ne (tgt := 12) dX11_level_6 (by decide) ?_ ?_
  · refine G_iload_n dX11_level_12 2 rfl rfl ?_
    refine G.cond (fun hx13_0 => ?_) (fun hn13_0 => ?_)
    · refine G_tin (n := 0) (tgt := 52) dX11_level_13 (by rw [hx13_0]; rfl) (by decide) (by decide) rfl (by decide) ?_
      refine G_aload_n dX11_level_52 0 rfl rfl ?_
      refine G_iload_n dX11_level_53 1 rfl rfl ?_
      refine G_iconst (v := 0) dX11_level_54 (by decide) ?_
      refine G_callV cf_X11 ok_X11_levelPart [.int p1, .int 0] [] (con_X11_levelPart κ M1 this p1 0) rfl w_1136 w_1138 wp_24 (Nat.le_of_ble_eq_true rfl) (Nat.le_of_ble_eq_true rfl) dX11_level_55 rfl (by simp) (fun x4 M3 => (show G _ _ _ _ _ _ [.int x4] _ from ?_))
      exact G_ret (v := x4) dX11_level_58 (fun h => by cases h) rfl
    refine G.cond (fun hx13_1 => ?_) (fun hn13_1 => ?_)
    · refine G_tin (n := 1) (tgt := 59) dX11_level_13 (by rw [hx13_1]; rfl) (by decide) (by decide) rfl (by decide) ?_
      refine G_aload_n dX11_level_59 0 rfl rfl ?_
      refine G_iload_n dX11_level_60 1 rfl rfl ?_
      refine G_iconst (v := 1) dX11_level_61 (by decide) ?_
      refine G_callV cf_X11 ok_X11_levelPart [.int p1, .int 1] [] (con_X11_levelPart κ M1 this p1 1) rfl w_1136 w_1138 wp_24 (Nat.le_of_ble_eq_true rfl) (Nat.le_of_ble_eq_true rfl) dX11_level_62 rfl (by simp) (fun x6 M5 => (show G _ _ _ _ _ _ [.int x6] _ from ?_))
      exact G_ret (v := x6) dX11_level_65 (fun h => by cases h) rfl
    refine G.cond (fun hx13_2 => ?_) (fun hn13_2 => ?_)
    · refine G_tin (n := 2) (tgt := 66) dX11_level_13 (by rw [hx13_2]; rfl) (by decide) (by decide) rfl (by decide) ?_
      refine G_aload_n dX11_level_66 0 rfl rfl ?_
      refine G_getP cf_X11 (j := 2) rfl w_919 dX11_level_67 (fun q7 => ?_)
      refine G_iload_n dX11_level_70 1 rfl rfl ?_
      refine G_fald dX11_level_71 (fun r8 => ?_)
      refine G_callS ok_Jxf58ca_floatToIntBits_5c35a [.float r8] [] (con_Jxf58ca_floatToIntBits_5c35a κ M1 r8) rfl w_1144 w_1145 (Nat.le_of_ble_eq_true rfl) (Nat.le_of_ble_eq_true rfl) dX11_level_72 rfl (by simp) (fun x10 M9 => (show G _ _ _ _ _ _ [.int x10] _ from ?_))
      exact G_ret (v := x10) dX11_level_75 (fun h => by cases h) rfl
    refine G.cond (fun hx13_3 => ?_) (fun hn13_3 => ?_)
    · refine G_tin (n := 3) (tgt := 76) dX11_level_13 (by rw [hx13_3]; rfl) (by decide) (by decide) rfl (by decide) ?_
      refine G_aload_n dX11_level_76 0 rfl rfl ?_
      refine G_iload_n dX11_level_77 1 rfl rfl ?_
      refine G_iconst (v := 0) dX11_level_78 (by decide) ?_
      refine G_callV cf_X11 ok_X11_levelPart [.int p1, .int 0] [] (con_X11_levelPart κ M1 this p1 0) rfl w_1136 w_1138 wp_24 (Nat.le_of_ble_eq_true rfl) (Nat.le_of_ble_eq_true rfl) dX11_level_79 rfl (by simp) (fun x12 M11 => (show G _ _ _ _ _ _ [.int x12] _ from ?_))
      refine G_if_ne (tgt := 89) dX11_level_82 (by decide) ?_ ?_
      · refine G_aload_n dX11_level_89 0 rfl rfl ?_
        refine G_iload_n dX11_level_90 1 rfl rfl ?_
        refine G_callV cf_X11 ok_X11_score [.int p1] [] (con_X11_score κ M11 this p1) rfl w_1154 w_1156 wp_25 (Nat.le_of_ble_eq_true rfl) (Nat.le_of_ble_eq_true rfl) dX11_level_91 rfl (by simp) (fun r14 M13 => (show G _ _ _ _ _ _ [.float r14] _ from ?_))
        refine G_callS ok_Jxf58ca_floatToIntBits_5c35a [.float r14] [] (con_Jxf58ca_floatToIntBits_5c35a κ M13 r14) rfl w_1144 w_1145 (Nat.le_of_ble_eq_true rfl) (Nat.le_of_ble_eq_true rfl) dX11_level_94 rfl (by simp) (fun x16 M15 => (show G _ _ _ _ _ _ [.int x16] _ from ?_))
        exact G_ret (v := x16) dX11_level_97 (fun h => by cases h) rfl
      · refine G_iconst (v := 0) dX11_level_85 (by decide) ?_
        refine G_goto (tgt := 97) dX11_level_86 (by decide) ?_
        exact G_ret (v := 0) dX11_level_97 (fun h => by cases h) rfl
    refine G.cond (fun hx13_4 => ?_) (fun hn13_4 => ?_)
    · refine G_tin (n := 4) (tgt := 98) dX11_level_13 (by rw [hx13_4]; rfl) (by decide) (by decide) rfl (by decide) ?_
      refine G_aload_n dX11_level_98 0 rfl rfl ?_
      refine G_iload_n dX11_level_99 1 rfl rfl ?_
      refine G_iconst (v := 2) dX11_level_100 (by decide) ?_
      refine G_callV cf_X11 ok_X11_levelPart [.int p1, .int 2] [] (con_X11_levelPart κ M1 this p1 2) rfl w_1136 w_1138 wp_24 (Nat.le_of_ble_eq_true rfl) (Nat.le_of_ble_eq_true rfl) dX11_level_101 rfl (by simp) (fun x18 M17 => (show G _ _ _ _ _ _ [.int x18] _ from ?_))
      exact G_ret (v := x18) dX11_level_104 (fun h => by cases h) rfl
    refine G.cond (fun hx13_5 => ?_) (fun hn13_5 => ?_)
    · refine G_tin (n := 5) (tgt := 105) dX11_level_13 (by rw [hx13_5]; rfl) (by decide) (by decide) rfl (by decide) ?_
      refine G_aload_n dX11_level_105 0 rfl rfl ?_
      refine G_iload_n dX11_level_106 1 rfl rfl ?_
      refine G_iconst (v := 3) dX11_level_107 (by decide) ?_
      refine G_callV cf_X11 ok_X11_levelPart [.int p1, .int 3] [] (con_X11_levelPart κ M1 this p1 3) rfl w_1136 w_1138 wp_24 (Nat.le_of_ble_eq_true rfl) (Nat.le_of_ble_eq_true rfl) dX11_level_108 rfl (by simp) (fun x20 M19 => (show G _ _ _ _ _ _ [.int x20] _ from ?_))
      exact G_ret (v := x20) dX11_level_111 (fun h => by cases h) rfl
    refine G_tout (tgt := 112) dX11_level_13 (by
        have hz0 : (p2).toInt ≠ 0 := fun h => hn13_0 (Int32.toInt_inj.mp (h.trans rfl))
        have hz1 : (p2).toInt ≠ 1 := fun h => hn13_1 (Int32.toInt_inj.mp (h.trans rfl))
        have hz2 : (p2).toInt ≠ 2 := fun h => hn13_2 (Int32.toInt_inj.mp (h.trans rfl))
        have hz3 : (p2).toInt ≠ 3 := fun h => hn13_3 (Int32.toInt_inj.mp (h.trans rfl))
        have hz4 : (p2).toInt ≠ 4 := fun h => hn13_4 (Int32.toInt_inj.mp (h.trans rfl))
        have hz5 : (p2).toInt ≠ 5 := fun h => hn13_5 (Int32.toInt_inj.mp (h.trans rfl))
        omega) (by decide) ?_
    refine G_bipush (v := (-2)) dX11_level_112 (by decide) ?_
    exact G_ret (v := ((-2))) dX11_level_114 (fun h => by cases h) rfl
  · refine G_bipush (v := (-2)) dX11_level_9 (by decide) ?_
    exact G_ret (v := ((-2))) dX11_level_11 (fun h => by cases h) rfl
