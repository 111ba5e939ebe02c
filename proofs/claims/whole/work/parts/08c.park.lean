def b_X1_init_154 (this : Option Nat) (L154_23 : (Int32 × Mem) → Option (Unit × Mem)) (a24 : Int32 × Mem) : Option (Unit × Mem) :=
  (if 512 ≤ a24.1 then rt () a24.2 else dP a24.2 1 4 this (fun (q26 : Option Nat) => nO a24.2 8 9 (fun (q27 : Option Nat) (M28 : Mem) => rc M28 8 q27 (cl (m_X8_init M28 q27) (fun (_u : Unit) (M29 : Mem) => sP M29 8 q26 a24.1 q27 (fun (M30 : Mem) => L154_23 ((a24.1 + 1), M30)))))))
def b_X1_init_128 (this : Option Nat) (J152_21 : Mem → Option (Unit × Mem)) (L128_30 : (Int32 × Mem) → Option (Unit × Mem)) (a31 : Int32 × Mem) : Option (Unit × Mem) :=
  (if 4 ≤ a31.1 then J152_21 a31.2 else dP a31.2 1 3 this (fun (q33 : Option Nat) => nO a31.2 3 5 (fun (q34 : Option Nat) (M35 : Mem) => rc M35 3 q34 (cl (m_X3_init M35 q34) (fun (_u : Unit) (M36 : Mem) => sP M36 3 q33 a31.1 q34 (fun (M37 : Mem) => L128_30 ((a31.1 + 1), M37)))))))
def b_X1_init_102 (this : Option Nat) (J126_19 : Mem → Option (Unit × Mem)) (L102_37 : (Int32 × Mem) → Option (Unit × Mem)) (a38 : Int32 × Mem) : Option (Unit × Mem) :=
  (if 3 ≤ a38.1 then J126_19 a38.2 else dP a38.2 1 2 this (fun (q40 : Option Nat) => nO a38.2 2 3 (fun (q41 : Option Nat) (M42 : Mem) => rc M42 2 q41 (cl (m_X2_init M42 q41) (fun (_u : Unit) (M43 : Mem) => sP M43 2 q40 a38.1 q41 (fun (M44 : Mem) => L102_37 ((a38.1 + 1), M44)))))))
def b_X1_init_75 (this : Option Nat) (J100_17 : Mem → Option (Unit × Mem)) (L75_44 : (Int32 × Mem) → Option (Unit × Mem)) (a45 : Int32 × Mem) : Option (Unit × Mem) :=
  (if 10 ≤ a45.1 then J100_17 a45.2 else dP a45.2 1 1 this (fun (q47 : Option Nat) => nO a45.2 9 3 (fun (q48 : Option Nat) (M49 : Mem) => rc M49 9 q48 (cl (m_X9_init M49 q48) (fun (_u : Unit) (M50 : Mem) => sP M50 9 q47 a45.1 q48 (fun (M51 : Mem) => L75_44 ((a45.1 + 1), M51)))))))
def b_X1_init_49 (this : Option Nat) (J73_15 : Mem → Option (Unit × Mem)) (L49_51 : (Int32 × Mem) → Option (Unit × Mem)) (a52 : Int32 × Mem) : Option (Unit × Mem) :=
  (if 4 ≤ a52.1 then J73_15 a52.2 else dP a52.2 1 0 this (fun (q54 : Option Nat) => nO a52.2 5 6 (fun (q55 : Option Nat) (M56 : Mem) => rc M56 5 q55 (cl (m_X5_init M56 q55) (fun (_u : Unit) (M57 : Mem) => sP M57 5 q54 a52.1 q55 (fun (M58 : Mem) => L49_51 ((a52.1 + 1), M58)))))))
def m_X1_init (M : Mem) (this : Option Nat) : Option (Unit × Mem) :=
  oi this (nA M (110 + 5) 4 (fun (q1 : Option Nat) (M2 : Mem) => pP M2 1 0 this q1 (fun (M3 : Mem) => nA M3 (110 + 9) 10 (fun (q4 : Option Nat) (M5 : Mem) => pP M5 1 1 this q4 (fun (M6 : Mem) => nA M6 (110 + 2) 3 (fun (q7 : Option Nat) (M8 : Mem) => pP M8 1 2 this q7 (fun (M9 : Mem) => nA M9 (110 + 3) 4 (fun (q10 : Option Nat) (M11 : Mem) => pP M11 1 3 this q10 (fun (M12 : Mem) => nA M12 (110 + 8) 512 (fun (q13 : Option Nat) (M14 : Mem) => pP M14 1 4 this q13 (fun (M15 : Mem) => jn (fun (M17 : Mem) => jn (fun (M19 : Mem) => jn (fun (M21 : Mem) => jn (fun (M23 : Mem) => lp (b_X1_init_154 this) FU (0, M23)) (fun (J152_21 : Mem → Option (Unit × Mem)) => lp (b_X1_init_128 this J152_21) FU (0, M21))) (fun (J126_19 : Mem → Option (Unit × Mem)) => lp (b_X1_init_102 this J126_19) FU (0, M19))) (fun (J100_17 : Mem → Option (Unit × Mem)) => lp (b_X1_init_75 this J100_17) FU (0, M17))) (fun (J73_15 : Mem → Option (Unit × Mem)) => lp (b_X1_init_49 this J73_15) FU (0, M15)))))))))))))
abbrev md_X1_init : MD := (RX1, yX1_init, cX1_init, 2, Option.none, 3, 64)
theorem ok_X1_init : MOk md_X1_init 0 := ⟨by decide +kernel, w_31, w_2, ⟨by decide +kernel, by decide +kernel⟩, by decide +kernel, rfl⟩
set_option maxRecDepth 100000 in
set_option maxHeartbeats 4000000 in
theorem con_X1_init (κ : Cfg) (M : Mem) (this : Option Nat) : Con κ md_X1_init [rv κ this] M cvV (m_X1_init M this) := by
  refine Con.of ok_X1_init (ret_V rfl) (by
    intro v hv
    simp only [List.mem_cons, List.not_mem_nil, or_false] at hv
    subst hv; first | rfl | exact rv_cat _ _) (Nat.le_of_ble_eq_true rfl) ?_
  unfold m_X1_init
  refine G.sub (lv' := [(0, rv κ this)]) [0] rfl ?_
  refine G_aload_n dX1_init_0 0 rfl rfl ?_
  refine G_objInit w_32 w_25 w_26 (Nat.le_of_ble_eq_true rfl) (Nat.le_of_ble_eq_true rfl) (by simp) dX1_init_1 ?_
  refine G_aload_n dX1_init_4 0 rfl rfl ?_
  refine G_iconst (v := 4) dX1_init_5 (by decide) ?_
  refine G_newq (tn := 6) cf_X5 (fun _ => rfl) (by simp) w_33 dX1_init_6 (fun q1 M2 => ?_)
  refine G_putP cf_X1 (j := 0) rfl (Or.inr ⟨_, rfl⟩) w_209 (Or.inr ⟨rfl, rfl, rfl⟩) dX1_init_9 (fun M3 => ?_)
  refine G_aload_n dX1_init_12 0 rfl rfl ?_
  refine G_bipush (v := 10) dX1_init_13 (by decide) ?_
  refine G_newq (tn := 8) cf_X9 (fun _ => rfl) (by simp) w_35 dX1_init_15 (fun q4 M5 => ?_)
  refine G_putP cf_X1 (j := 1) rfl (Or.inr ⟨_, rfl⟩) w_210 (Or.inr ⟨rfl, rfl, rfl⟩) dX1_init_18 (fun M6 => ?_)
  refine G_aload_n dX1_init_21 0 rfl rfl ?_
  refine G_iconst (v := 3) dX1_init_22 (by decide) ?_
  refine G_newq (tn := 4) cf_X2 (fun _ => rfl) (by simp) w_37 dX1_init_23 (fun q7 M8 => ?_)
  refine G_putP cf_X1 (j := 2) rfl (Or.inr ⟨_, rfl⟩) w_211 (Or.inr ⟨rfl, rfl, rfl⟩) dX1_init_26 (fun M9 => ?_)
  refine G_aload_n dX1_init_29 0 rfl rfl ?_
  refine G_iconst (v := 4) dX1_init_30 (by decide) ?_
  refine G_newq (tn := 5) cf_X3 (fun _ => rfl) (by simp) w_39 dX1_init_31 (fun q10 M11 => ?_)
  refine G_putP cf_X1 (j := 3) rfl (Or.inr ⟨_, rfl⟩) w_213 (Or.inr ⟨rfl, rfl, rfl⟩) dX1_init_34 (fun M12 => ?_)
  refine G_aload_n dX1_init_37 0 rfl rfl ?_
  refine G_sipush (v := 512) dX1_init_38 (by decide) ?_
  refine G_newq (tn := 7) cf_X8 (fun _ => rfl) (by simp) w_41 dX1_init_41 (fun q13 M14 => ?_)
  refine G_putP cf_X1 (j := 4) rfl (Or.inr ⟨_, rfl⟩) w_214 (Or.inr ⟨rfl, rfl, rfl⟩) dX1_init_44 (fun M15 => ?_)
  refine G_iconst (v := 0) dX1_init_47 (by decide) ?_
  refine G_istore_n (lv' := [(1, .int 0), (0, rv κ this)]) dX1_init_48 rfl (Nat.le_of_ble_eq_true rfl) rfl ?_
  refine G.jn (P := (fun (J : Mem → Option (Unit × Mem)) => ∀ (M17 : Mem), G κ md_X1_init cvV (J M17) 73 [(0, rv κ this)] [] M17)) ?_ ?_
  · intro M17
    refine G_iconst (v := 0) dX1_init_73 (by decide) ?_
    refine G_istore_n (lv' := [(1, .int 0), (0, rv κ this)]) dX1_init_74 rfl (Nat.le_of_ble_eq_true rfl) rfl ?_
    refine G.jn (P := (fun (J : Mem → Option (Unit × Mem)) => ∀ (M19 : Mem), G κ md_X1_init cvV (J M19) 100 [(0, rv κ this)] [] M19)) ?_ ?_
    · intro M19
      refine G_iconst (v := 0) dX1_init_100 (by decide) ?_
      refine G_istore_n (lv' := [(1, .int 0), (0, rv κ this)]) dX1_init_101 rfl (Nat.le_of_ble_eq_true rfl) rfl ?_
      refine G.jn (P := (fun (J : Mem → Option (Unit × Mem)) => ∀ (M21 : Mem), G κ md_X1_init cvV (J M21) 126 [(0, rv κ this)] [] M21)) ?_ ?_
      · intro M21
        refine G_iconst (v := 0) dX1_init_126 (by decide) ?_
        refine G_istore_n (lv' := [(1, .int 0), (0, rv κ this)]) dX1_init_127 rfl (Nat.le_of_ble_eq_true rfl) rfl ?_
        refine G.jn (P := (fun (J : Mem → Option (Unit × Mem)) => ∀ (M23 : Mem), G κ md_X1_init cvV (J M23) 152 [(0, rv κ this)] [] M23)) ?_ ?_
        · intro M23
          refine G_iconst (v := 0) dX1_init_152 (by decide) ?_
          refine G_istore_n (lv' := [(1, .int 0), (0, rv κ this)]) dX1_init_153 rfl (Nat.le_of_ble_eq_true rfl) rfl ?_
          refine G.sub (lv' := [(0, rv κ this), (1, .int 0)]) [1, 0] rfl ?_
          refine G.loop (lvf := fun (a24 : Int32 × Mem) => [(0, rv κ this), (1, .int a24.1)]) (mf := fun (a24 : Int32 × Mem) => a24.2) (fun L154_23 hL154_23 a24 => ?_) FU (0, M23)
          unfold b_X1_init_154
          refine G_iload_n dX1_init_154 1 rfl rfl ?_
          refine G_sipush (v := 512) dX1_init_155 (by decide) ?_
          refine G_icmp_ge (tgt := 180) dX1_init_158 (by decide) ?_ ?_
          · exact G_ret (v := ()) dX1_init_180 (fun h => by cases h) rfl
          · refine G_aload_n dX1_init_161 0 rfl rfl ?_
            refine G_getP cf_X1 (j := 4) rfl w_214 dX1_init_162 (fun q26 => ?_)
            refine G_iload_n dX1_init_165 1 rfl rfl ?_
            refine G_new cf_X8 cd_X8 w_41 w_166 w_8 dX1_init_166 (fun q27 M28 => ?_)
            refine G_dup dX1_init_169 (rv_cat _ _) ?_
            refine G_callIN ok_X8_init [] [rv κ q27, .int a24.1, rv κ q26] (con_X8_init κ M28 q27) rfl (by simp [nestL, mdO, mdY]) w_168 rfl rfl (Nat.le_of_ble_eq_true rfl) (Nat.le_of_ble_eq_true rfl) dX1_init_170 rfl (by simp) (fun _u M29 => (show G _ _ _ _ _ _ [rv κ q27, .int a24.1, rv κ q26] _ from ?_))
            refine G_aast (tn := 7) cf_X8 (fun _ => rfl) dX1_init_173 (fun M30 => ?_)
            refine G_iinc (v := (a24.1 + 1)) (lv' := [(1, .int (a24.1 + 1)), (0, rv κ this)]) dX1_init_174 1 rfl (congrArg (fun z9 : Int32 => a24.1 + z9) (by decide : Int32.ofInt 1 = 1)) (Nat.le_of_ble_eq_true rfl) rfl ?_
            refine G_goto (tgt := 154) dX1_init_177 (by decide) ?_
            exact G.sub [1, 0] rfl (hL154_23 _)
        · intro J152_21 hJ152_21
          refine G.sub (lv' := [(0, rv κ this), (1, .int 0)]) [1, 0] rfl ?_
          refine G.loop (lvf := fun (a31 : Int32 × Mem) => [(0, rv κ this), (1, .int a31.1)]) (mf := fun (a31 : Int32 × Mem) => a31.2) (fun L128_30 hL128_30 a31 => ?_) FU (0, M21)
          unfold b_X1_init_128
          refine G_iload_n dX1_init_128 1 rfl rfl ?_
          refine G_iconst (v := 4) dX1_init_129 (by decide) ?_
          refine G_icmp_ge (tgt := 152) dX1_init_130 (by decide) ?_ ?_
          · exact G.sub [0] rfl (hJ152_21 _)
          · refine G_aload_n dX1_init_133 0 rfl rfl ?_
            refine G_getP cf_X1 (j := 3) rfl w_213 dX1_init_134 (fun q33 => ?_)
            refine G_iload_n dX1_init_137 1 rfl rfl ?_
            refine G_new cf_X3 cd_X3 w_39 w_143 w_7 dX1_init_138 (fun q34 M35 => ?_)
            refine G_dup dX1_init_141 (rv_cat _ _) ?_
            refine G_callIN ok_X3_init [] [rv κ q34, .int a31.1, rv κ q33] (con_X3_init κ M35 q34) rfl (by simp [nestL, mdO, mdY]) w_145 rfl rfl (Nat.le_of_ble_eq_true rfl) (Nat.le_of_ble_eq_true rfl) dX1_init_142 rfl (by simp) (fun _u M36 => (show G _ _ _ _ _ _ [rv κ q34, .int a31.1, rv κ q33] _ from ?_))
            refine G_aast (tn := 5) cf_X3 (fun _ => rfl) dX1_init_145 (fun M37 => ?_)
            refine G_iinc (v := (a31.1 + 1)) (lv' := [(1, .int (a31.1 + 1)), (0, rv κ this)]) dX1_init_146 1 rfl (congrArg (fun z9 : Int32 => a31.1 + z9) (by decide : Int32.ofInt 1 = 1)) (Nat.le_of_ble_eq_true rfl) rfl ?_
            refine G_goto (tgt := 128) dX1_init_149 (by decide) ?_
            exact G.sub [1, 0] rfl (hL128_30 _)
      · intro J126_19 hJ126_19
        refine G.sub (lv' := [(0, rv κ this), (1, .int 0)]) [1, 0] rfl ?_
        refine G.loop (lvf := fun (a38 : Int32 × Mem) => [(0, rv κ this), (1, .int a38.1)]) (mf := fun (a38 : Int32 × Mem) => a38.2) (fun L102_37 hL102_37 a38 => ?_) FU (0, M19)
        unfold b_X1_init_102
        refine G_iload_n dX1_init_102 1 rfl rfl ?_
        refine G_iconst (v := 3) dX1_init_103 (by decide) ?_
        refine G_icmp_ge (tgt := 126) dX1_init_104 (by decide) ?_ ?_
        · exact G.sub [0] rfl (hJ126_19 _)
        · refine G_aload_n dX1_init_107 0 rfl rfl ?_
          refine G_getP cf_X1 (j := 2) rfl w_211 dX1_init_108 (fun q40 => ?_)
          refine G_iload_n dX1_init_111 1 rfl rfl ?_
          refine G_new cf_X2 cd_X2 w_37 w_127 w_6 dX1_init_112 (fun q41 M42 => ?_)
          refine G_dup dX1_init_115 (rv_cat _ _) ?_
          refine G_callIN ok_X2_init [] [rv κ q41, .int a38.1, rv κ q40] (con_X2_init κ M42 q41) rfl (by simp [nestL, mdO, mdY]) w_129 rfl rfl (Nat.le_of_ble_eq_true rfl) (Nat.le_of_ble_eq_true rfl) dX1_init_116 rfl (by simp) (fun _u M43 => (show G _ _ _ _ _ _ [rv κ q41, .int a38.1, rv κ q40] _ from ?_))
          refine G_aast (tn := 4) cf_X2 (fun _ => rfl) dX1_init_119 (fun M44 => ?_)
          refine G_iinc (v := (a38.1 + 1)) (lv' := [(1, .int (a38.1 + 1)), (0, rv κ this)]) dX1_init_120 1 rfl (congrArg (fun z9 : Int32 => a38.1 + z9) (by decide : Int32.ofInt 1 = 1)) (Nat.le_of_ble_eq_true rfl) rfl ?_
          refine G_goto (tgt := 102) dX1_init_123 (by decide) ?_
          exact G.sub [1, 0] rfl (hL102_37 _)
    · intro J100_17 hJ100_17
      refine G.sub (lv' := [(0, rv κ this), (1, .int 0)]) [1, 0] rfl ?_
      refine G.loop (lvf := fun (a45 : Int32 × Mem) => [(0, rv κ this), (1, .int a45.1)]) (mf := fun (a45 : Int32 × Mem) => a45.2) (fun L75_44 hL75_44 a45 => ?_) FU (0, M17)
      unfold b_X1_init_75
      refine G_iload_n dX1_init_75 1 rfl rfl ?_
      refine G_bipush (v := 10) dX1_init_76 (by decide) ?_
      refine G_icmp_ge (tgt := 100) dX1_init_78 (by decide) ?_ ?_
      · exact G.sub [0] rfl (hJ100_17 _)
      · refine G_aload_n dX1_init_81 0 rfl rfl ?_
        refine G_getP cf_X1 (j := 1) rfl w_210 dX1_init_82 (fun q47 => ?_)
        refine G_iload_n dX1_init_85 1 rfl rfl ?_
        refine G_new cf_X9 cd_X9 w_35 w_108 w_5 dX1_init_86 (fun q48 M49 => ?_)
        refine G_dup dX1_init_89 (rv_cat _ _) ?_
        refine G_callIN ok_X9_init [] [rv κ q48, .int a45.1, rv κ q47] (con_X9_init κ M49 q48) rfl (by simp [nestL, mdO, mdY]) w_110 rfl rfl (Nat.le_of_ble_eq_true rfl) (Nat.le_of_ble_eq_true rfl) dX1_init_90 rfl (by simp) (fun _u M50 => (show G _ _ _ _ _ _ [rv κ q48, .int a45.1, rv κ q47] _ from ?_))
        refine G_aast (tn := 8) cf_X9 (fun _ => rfl) dX1_init_93 (fun M51 => ?_)
        refine G_iinc (v := (a45.1 + 1)) (lv' := [(1, .int (a45.1 + 1)), (0, rv κ this)]) dX1_init_94 1 rfl (congrArg (fun z9 : Int32 => a45.1 + z9) (by decide : Int32.ofInt 1 = 1)) (Nat.le_of_ble_eq_true rfl) rfl ?_
        refine G_goto (tgt := 75) dX1_init_97 (by decide) ?_
        exact G.sub [1, 0] rfl (hL75_44 _)
  · intro J73_15 hJ73_15
    refine G.sub (lv' := [(0, rv κ this), (1, .int 0)]) [1, 0] rfl ?_
    refine G.loop (lvf := fun (a52 : Int32 × Mem) => [(0, rv κ this), (1, .int a52.1)]) (mf := fun (a52 : Int32 × Mem) => a52.2) (fun L49_51 hL49_51 a52 => ?_) FU (0, M15)
    unfold b_X1_init_49
    refine G_iload_n dX1_init_49 1 rfl rfl ?_
    refine G_iconst (v := 4) dX1_init_50 (by decide) ?_
    refine G_icmp_ge (tgt := 73) dX1_init_51 (by decide) ?_ ?_
    · exact G.sub [0] rfl (hJ73_15 _)
    · refine G_aload_n dX1_init_54 0 rfl rfl ?_
      refine G_getP cf_X1 (j := 0) rfl w_209 dX1_init_55 (fun q54 => ?_)
      refine G_iload_n dX1_init_58 1 rfl rfl ?_
      refine G_new cf_X5 cd_X5 w_33 w_43 w_3 dX1_init_59 (fun q55 M56 => ?_)
      refine G_dup dX1_init_62 (rv_cat _ _) ?_
      refine G_callI ok_X5_init [] [rv κ q55, .int a52.1, rv κ q54] (con_X5_init κ M56 q55) rfl w_44 w_45 rfl rfl (Nat.le_of_ble_eq_true rfl) (Nat.le_of_ble_eq_true rfl) dX1_init_63 rfl (by simp) (fun _u M57 => (show G _ _ _ _ _ _ [rv κ q55, .int a52.1, rv κ q54] _ from ?_))
      refine G_aast (tn := 6) cf_X5 (fun _ => rfl) dX1_init_66 (fun M58 => ?_)
      refine G_iinc (v := (a52.1 + 1)) (lv' := [(1, .int (a52.1 + 1)), (0, rv κ this)]) dX1_init_67 1 rfl (congrArg (fun z9 : Int32 => a52.1 + z9) (by decide : Int32.ofInt 1 = 1)) (Nat.le_of_ble_eq_true rfl) rfl ?_
      refine G_goto (tgt := 49) dX1_init_70 (by decide) ?_
      exact G.sub [1, 0] rfl (hL49_51 _)
def b_X1_copyFrom_115 (this : Option Nat) (p1 : Option Nat) (J151_8 : Mem → Option (Unit × Mem)) (L115_16 : (Int32 × Mem) → Option (Unit × Mem)) (a17 : Int32 × Mem) : Option (Unit × Mem) :=
  (if 512 ≤ a17.1 then J151_8 a17.2 else dI a17.2 1 6 p1 (fun (x19 : Int32) => (if x19 ≤ a17.1 then J151_8 a17.2 else dP a17.2 1 4 this (fun (q20 : Option Nat) => aP a17.2 118 q20 a17.1 (fun (q21 : Option Nat) => dP a17.2 1 4 p1 (fun (q22 : Option Nat) => aP a17.2 118 q22 a17.1 (fun (q23 : Option Nat) => rc a17.2 8 q21 (cl (m_X8_copyFrom a17.2 q21 q23) (fun (_u : Unit) (M24 : Mem) => L115_16 ((a17.1 + 1), M24))))))))))
def b_X1_copyFrom_87 (this : Option Nat) (p1 : Option Nat) (J113_6 : Mem → Option (Unit × Mem)) (L87_24 : (Int32 × Mem) → Option (Unit × Mem)) (a25 : Int32 × Mem) : Option (Unit × Mem) :=
  (if 4 ≤ a25.1 then J113_6 a25.2 else dP a25.2 1 3 this (fun (q27 : Option Nat) => aP a25.2 113 q27 a25.1 (fun (q28 : Option Nat) => dP a25.2 1 3 p1 (fun (q29 : Option Nat) => aP a25.2 113 q29 a25.1 (fun (q30 : Option Nat) => rc a25.2 3 q28 (cl (m_X3_copyFrom a25.2 q28 q30) (fun (_u : Unit) (M31 : Mem) => L87_24 ((a25.1 + 1), M31))))))))
def b_X1_copyFrom_59 (this : Option Nat) (p1 : Option Nat) (J85_4 : Mem → Option (Unit × Mem)) (L59_31 : (Int32 × Mem) → Option (Unit × Mem)) (a32 : Int32 × Mem) : Option (Unit × Mem) :=
  (if 3 ≤ a32.1 then J85_4 a32.2 else dP a32.2 1 2 this (fun (q34 : Option Nat) => aP a32.2 112 q34 a32.1 (fun (q35 : Option Nat) => dP a32.2 1 2 p1 (fun (q36 : Option Nat) => aP a32.2 112 q36 a32.1 (fun (q37 : Option Nat) => rc a32.2 2 q35 (cl (m_X2_copyFrom a32.2 q35 q37) (fun (_u : Unit) (M38 : Mem) => L59_31 ((a32.1 + 1), M38))))))))
def b_X1_copyFrom_30 (this : Option Nat) (p1 : Option Nat) (J57_2 : Mem → Option (Unit × Mem)) (L30_38 : (Int32 × Mem) → Option (Unit × Mem)) (a39 : Int32 × Mem) : Option (Unit × Mem) :=
  (if 10 ≤ a39.1 then J57_2 a39.2 else dP a39.2 1 1 this (fun (q41 : Option Nat) => aP a39.2 119 q41 a39.1 (fun (q42 : Option Nat) => dP a39.2 1 1 p1 (fun (q43 : Option Nat) => aP a39.2 119 q43 a39.1 (fun (q44 : Option Nat) => rc a39.2 9 q42 (cl (m_X9_copyFrom a39.2 q42 q44) (fun (_u : Unit) (M45 : Mem) => L30_38 ((a39.1 + 1), M45))))))))
def b_X1_copyFrom_2 (this : Option Nat) (p1 : Option Nat) (J28_0 : Mem → Option (Unit × Mem)) (L2_45 : (Int32 × Mem) → Option (Unit × Mem)) (a46 : Int32 × Mem) : Option (Unit × Mem) :=
  (if 4 ≤ a46.1 then J28_0 a46.2 else dP a46.2 1 0 this (fun (q48 : Option Nat) => aP a46.2 115 q48 a46.1 (fun (q49 : Option Nat) => dP a46.2 1 0 p1 (fun (q50 : Option Nat) => aP a46.2 115 q50 a46.1 (fun (q51 : Option Nat) => rc a46.2 5 q49 (cl (m_X5_copyFrom a46.2 q49 q51) (fun (_u : Unit) (M52 : Mem) => L2_45 ((a46.1 + 1), M52))))))))
def m_X1_copyFrom (M : Mem) (this : Option Nat) (p1 : Option Nat) : Option (Unit × Mem) :=
  jn (fun (M2 : Mem) => jn (fun (M4 : Mem) => jn (fun (M6 : Mem) => jn (fun (M8 : Mem) => jn (fun (M10 : Mem) => dI M10 1 5 p1 (fun (x11 : Int32) => pI M10 1 5 this x11 (fun (M12 : Mem) => dI M12 1 6 p1 (fun (x13 : Int32) => pI M12 1 6 this x13 (fun (M14 : Mem) => dI M14 1 7 p1 (fun (x15 : Int32) => pI M14 1 7 this x15 (fun (M16 : Mem) => rt () M16))))))) (fun (J151_8 : Mem → Option (Unit × Mem)) => lp (b_X1_copyFrom_115 this p1 J151_8) FU (0, M8))) (fun (J113_6 : Mem → Option (Unit × Mem)) => lp (b_X1_copyFrom_87 this p1 J113_6) FU (0, M6))) (fun (J85_4 : Mem → Option (Unit × Mem)) => lp (b_X1_copyFrom_59 this p1 J85_4) FU (0, M4))) (fun (J57_2 : Mem → Option (Unit × Mem)) => lp (b_X1_copyFrom_30 this p1 J57_2) FU (0, M2))) (fun (J28_0 : Mem → Option (Unit × Mem)) => lp (b_X1_copyFrom_2 this p1 J28_0) FU (0, M))
abbrev md_X1_copyFrom : MD := (RX1, yX1_copyFrom, cX1_copyFrom, 3, Option.none, 3, 66)
theorem ok_X1_copyFrom : MOk md_X1_copyFrom 1 := ⟨by decide +kernel, w_884, w_2, ⟨by decide +kernel, by decide +kernel⟩, by decide +kernel, rfl⟩
set_option maxRecDepth 100000 in
set_option maxHeartbeats 4000000 in
theorem con_X1_copyFrom (κ : Cfg) (M : Mem) (this : Option Nat) (p1 : Option Nat) : Con κ md_X1_copyFrom [rv κ this, rv κ p1] M cvV (m_X1_copyFrom M this p1) := by
  refine Con.of ok_X1_copyFrom (ret_V rfl) (by
    intro v hv
    simp only [List.mem_cons, List.not_mem_nil, or_false] at hv
    rcases hv with rfl | rfl <;> first | rfl | exact rv_cat _ _) (Nat.le_of_ble_eq_true rfl) ?_
  unfold m_X1_copyFrom
  refine G.sub (lv' := [(0, rv κ this), (1, rv κ p1)]) [0, 1] rfl ?_
  refine G_iconst (v := 0) dX1_copyFrom_0 (by decide) ?_
  refine G_istore_n (lv' := [(2, .int 0), (0, rv κ this), (1, rv κ p1)]) dX1_copyFrom_1 rfl (Nat.le_of_ble_eq_true rfl) rfl ?_
  refine G.jn (P := (fun (J : Mem → Option (Unit × Mem)) => ∀ (M2 : Mem), G κ md_X1_copyFrom cvV (J M2) 28 [(0, rv κ this), (1, rv κ p1)] [] M2)) ?_ ?_
  · intro M2
    refine G_iconst (v := 0) dX1_copyFrom_28 (by decide) ?_
    refine G_istore_n (lv' := [(2, .int 0), (0, rv κ this), (1, rv κ p1)]) dX1_copyFrom_29 rfl (Nat.le_of_ble_eq_true rfl) rfl ?_
    refine G.jn (P := (fun (J : Mem → Option (Unit × Mem)) => ∀ (M4 : Mem), G κ md_X1_copyFrom cvV (J M4) 57 [(0, rv κ this), (1, rv κ p1)] [] M4)) ?_ ?_
    · intro M4
      refine G_iconst (v := 0) dX1_copyFrom_57 (by decide) ?_
      refine G_istore_n (lv' := [(2, .int 0), (0, rv κ this), (1, rv κ p1)]) dX1_copyFrom_58 rfl (Nat.le_of_ble_eq_true rfl) rfl ?_
      refine G.jn (P := (fun (J : Mem → Option (Unit × Mem)) => ∀ (M6 : Mem), G κ md_X1_copyFrom cvV (J M6) 85 [(0, rv κ this), (1, rv κ p1)] [] M6)) ?_ ?_
      · intro M6
        refine G_iconst (v := 0) dX1_copyFrom_85 (by decide) ?_
        refine G_istore_n (lv' := [(2, .int 0), (0, rv κ this), (1, rv κ p1)]) dX1_copyFrom_86 rfl (Nat.le_of_ble_eq_true rfl) rfl ?_
        refine G.jn (P := (fun (J : Mem → Option (Unit × Mem)) => ∀ (M8 : Mem), G κ md_X1_copyFrom cvV (J M8) 113 [(0, rv κ this), (1, rv κ p1)] [] M8)) ?_ ?_
        · intro M8
          refine G_iconst (v := 0) dX1_copyFrom_113 (by decide) ?_
          refine G_istore_n (lv' := [(2, .int 0), (0, rv κ this), (1, rv κ p1)]) dX1_copyFrom_114 rfl (Nat.le_of_ble_eq_true rfl) rfl ?_
          refine G.jn (P := (fun (J : Mem → Option (Unit × Mem)) => ∀ (M10 : Mem), G κ md_X1_copyFrom cvV (J M10) 151 [(0, rv κ this), (1, rv κ p1)] [] M10)) ?_ ?_
          · intro M10
            refine G_aload_n dX1_copyFrom_151 0 rfl rfl ?_
            refine G_aload_n dX1_copyFrom_152 1 rfl rfl ?_
            refine G_getI cf_X1 (j := 5) rfl w_215 dX1_copyFrom_153 (fun x11 => ?_)
            refine G_putI cf_X1 (j := 5) rfl rfl w_215 (Or.inl rfl) dX1_copyFrom_156 (fun M12 => ?_)
            refine G_aload_n dX1_copyFrom_159 0 rfl rfl ?_
            refine G_aload_n dX1_copyFrom_160 1 rfl rfl ?_
            refine G_getI cf_X1 (j := 6) rfl w_217 dX1_copyFrom_161 (fun x13 => ?_)
            refine G_putI cf_X1 (j := 6) rfl rfl w_217 (Or.inl rfl) dX1_copyFrom_164 (fun M14 => ?_)
            refine G_aload_n dX1_copyFrom_167 0 rfl rfl ?_
            refine G_aload_n dX1_copyFrom_168 1 rfl rfl ?_
            refine G_getI cf_X1 (j := 7) rfl w_219 dX1_copyFrom_169 (fun x15 => ?_)
            refine G_putI cf_X1 (j := 7) rfl rfl w_219 (Or.inl rfl) dX1_copyFrom_172 (fun M16 => ?_)
            exact G_ret (v := ()) dX1_copyFrom_175 (fun h => by cases h) rfl
          · intro J151_8 hJ151_8
            refine G.sub (lv' := [(0, rv κ this), (1, rv κ p1), (2, .int 0)]) [1, 2, 0] rfl ?_
            refine G.loop (lvf := fun (a17 : Int32 × Mem) => [(0, rv κ this), (1, rv κ p1), (2, .int a17.1)]) (mf := fun (a17 : Int32 × Mem) => a17.2) (fun L115_16 hL115_16 a17 => ?_) FU (0, M8)
            unfold b_X1_copyFrom_115
            refine G_iload_n dX1_copyFrom_115 2 rfl rfl ?_
            refine G_sipush (v := 512) dX1_copyFrom_116 (by decide) ?_
            refine G_icmp_ge (tgt := 151) dX1_copyFrom_119 (by decide) ?_ ?_
            · exact G.sub [0, 1] rfl (hJ151_8 _)
            · refine G_iload_n dX1_copyFrom_122 2 rfl rfl ?_
              refine G_aload_n dX1_copyFrom_123 1 rfl rfl ?_
              refine G_getI cf_X1 (j := 6) rfl w_217 dX1_copyFrom_124 (fun x19 => ?_)
              refine G_icmp_ge (tgt := 151) dX1_copyFrom_127 (by decide) ?_ ?_
              · exact G.sub [0, 1] rfl (hJ151_8 _)
              · refine G_aload_n dX1_copyFrom_130 0 rfl rfl ?_
                refine G_getP cf_X1 (j := 4) rfl w_214 dX1_copyFrom_131 (fun q20 => ?_)
                refine G_iload_n dX1_copyFrom_134 2 rfl rfl ?_
                refine G_aald (tn := 7) (fun _ => rfl) (by decide) dX1_copyFrom_135 (fun q21 => ?_)
                refine G_aload_n dX1_copyFrom_136 1 rfl rfl ?_
                refine G_getP cf_X1 (j := 4) rfl w_214 dX1_copyFrom_137 (fun q22 => ?_)
                refine G_iload_n dX1_copyFrom_140 2 rfl rfl ?_
                refine G_aald (tn := 7) (fun _ => rfl) (by decide) dX1_copyFrom_141 (fun q23 => ?_)
                refine G_callV cf_X8 ok_X8_copyFrom [rv κ q23] [] (con_X8_copyFrom κ a17.2 q21 q23) rfl w_898 w_899 w_900 (Nat.le_of_ble_eq_true rfl) (Nat.le_of_ble_eq_true rfl) dX1_copyFrom_142 rfl (by simp) (fun _u M24 => (show G _ _ _ _ _ _ [] _ from ?_))
                refine G_iinc (v := (a17.1 + 1)) (lv' := [(2, .int (a17.1 + 1)), (0, rv κ this), (1, rv κ p1)]) dX1_copyFrom_145 2 rfl (congrArg (fun z9 : Int32 => a17.1 + z9) (by decide : Int32.ofInt 1 = 1)) (Nat.le_of_ble_eq_true rfl) rfl ?_
                refine G_goto (tgt := 115) dX1_copyFrom_148 (by decide) ?_
                exact G.sub [1, 2, 0] rfl (hL115_16 _)
        · intro J113_6 hJ113_6
          refine G.sub (lv' := [(0, rv κ this), (1, rv κ p1), (2, .int 0)]) [1, 2, 0] rfl ?_
          refine G.loop (lvf := fun (a25 : Int32 × Mem) => [(0, rv κ this), (1, rv κ p1), (2, .int a25.1)]) (mf := fun (a25 : Int32 × Mem) => a25.2) (fun L87_24 hL87_24 a25 => ?_) FU (0, M6)
          unfold b_X1_copyFrom_87
          refine G_iload_n dX1_copyFrom_87 2 rfl rfl ?_
          refine G_iconst (v := 4) dX1_copyFrom_88 (by decide) ?_
          refine G_icmp_ge (tgt := 113) dX1_copyFrom_89 (by decide) ?_ ?_
          · exact G.sub [0, 1] rfl (hJ113_6 _)
          · refine G_aload_n dX1_copyFrom_92 0 rfl rfl ?_
            refine G_getP cf_X1 (j := 3) rfl w_213 dX1_copyFrom_93 (fun q27 => ?_)
            refine G_iload_n dX1_copyFrom_96 2 rfl rfl ?_
            refine G_aald (tn := 5) (fun _ => rfl) (by decide) dX1_copyFrom_97 (fun q28 => ?_)
            refine G_aload_n dX1_copyFrom_98 1 rfl rfl ?_
            refine G_getP cf_X1 (j := 3) rfl w_213 dX1_copyFrom_99 (fun q29 => ?_)
            refine G_iload_n dX1_copyFrom_102 2 rfl rfl ?_
            refine G_aald (tn := 5) (fun _ => rfl) (by decide) dX1_copyFrom_103 (fun q30 => ?_)
            refine G_callV cf_X3 ok_X3_copyFrom [rv κ q30] [] (con_X3_copyFrom κ a25.2 q28 q30) rfl w_894 w_895 w_896 (Nat.le_of_ble_eq_true rfl) (Nat.le_of_ble_eq_true rfl) dX1_copyFrom_104 rfl (by simp) (fun _u M31 => (show G _ _ _ _ _ _ [] _ from ?_))
            refine G_iinc (v := (a25.1 + 1)) (lv' := [(2, .int (a25.1 + 1)), (0, rv κ this), (1, rv κ p1)]) dX1_copyFrom_107 2 rfl (congrArg (fun z9 : Int32 => a25.1 + z9) (by decide : Int32.ofInt 1 = 1)) (Nat.le_of_ble_eq_true rfl) rfl ?_
            refine G_goto (tgt := 87) dX1_copyFrom_110 (by decide) ?_
            exact G.sub [1, 2, 0] rfl (hL87_24 _)
      · intro J85_4 hJ85_4
        refine G.sub (lv' := [(0, rv κ this), (1, rv κ p1), (2, .int 0)]) [1, 2, 0] rfl ?_
        refine G.loop (lvf := fun (a32 : Int32 × Mem) => [(0, rv κ this), (1, rv κ p1), (2, .int a32.1)]) (mf := fun (a32 : Int32 × Mem) => a32.2) (fun L59_31 hL59_31 a32 => ?_) FU (0, M4)
        unfold b_X1_copyFrom_59
        refine G_iload_n dX1_copyFrom_59 2 rfl rfl ?_
        refine G_iconst (v := 3) dX1_copyFrom_60 (by decide) ?_
        refine G_icmp_ge (tgt := 85) dX1_copyFrom_61 (by decide) ?_ ?_
        · exact G.sub [0, 1] rfl (hJ85_4 _)
        · refine G_aload_n dX1_copyFrom_64 0 rfl rfl ?_
          refine G_getP cf_X1 (j := 2) rfl w_211 dX1_copyFrom_65 (fun q34 => ?_)
          refine G_iload_n dX1_copyFrom_68 2 rfl rfl ?_
          refine G_aald (tn := 4) (fun _ => rfl) (by decide) dX1_copyFrom_69 (fun q35 => ?_)
          refine G_aload_n dX1_copyFrom_70 1 rfl rfl ?_
          refine G_getP cf_X1 (j := 2) rfl w_211 dX1_copyFrom_71 (fun q36 => ?_)
          refine G_iload_n dX1_copyFrom_74 2 rfl rfl ?_
          refine G_aald (tn := 4) (fun _ => rfl) (by decide) dX1_copyFrom_75 (fun q37 => ?_)
          refine G_callV cf_X2 ok_X2_copyFrom [rv κ q37] [] (con_X2_copyFrom κ a32.2 q35 q37) rfl w_890 w_891 w_892 (Nat.le_of_ble_eq_true rfl) (Nat.le_of_ble_eq_true rfl) dX1_copyFrom_76 rfl (by simp) (fun _u M38 => (show G _ _ _ _ _ _ [] _ from ?_))
          refine G_iinc (v := (a32.1 + 1)) (lv' := [(2, .int (a32.1 + 1)), (0, rv κ this), (1, rv κ p1)]) dX1_copyFrom_79 2 rfl (congrArg (fun z9 : Int32 => a32.1 + z9) (by decide : Int32.ofInt 1 = 1)) (Nat.le_of_ble_eq_true rfl) rfl ?_
          refine G_goto (tgt := 59) dX1_copyFrom_82 (by decide) ?_
          exact G.sub [1, 2, 0] rfl (hL59_31 _)
    · intro J57_2 hJ57_2
      refine G.sub (lv' := [(0, rv κ this), (1, rv κ p1), (2, .int 0)]) [1, 2, 0] rfl ?_
      refine G.loop (lvf := fun (a39 : Int32 × Mem) => [(0, rv κ this), (1, rv κ p1), (2, .int a39.1)]) (mf := fun (a39 : Int32 × Mem) => a39.2) (fun L30_38 hL30_38 a39 => ?_) FU (0, M2)
      unfold b_X1_copyFrom_30
      refine G_iload_n dX1_copyFrom_30 2 rfl rfl ?_
      refine G_bipush (v := 10) dX1_copyFrom_31 (by decide) ?_
      refine G_icmp_ge (tgt := 57) dX1_copyFrom_33 (by decide) ?_ ?_
      · exact G.sub [0, 1] rfl (hJ57_2 _)
      · refine G_aload_n dX1_copyFrom_36 0 rfl rfl ?_
        refine G_getP cf_X1 (j := 1) rfl w_210 dX1_copyFrom_37 (fun q41 => ?_)
        refine G_iload_n dX1_copyFrom_40 2 rfl rfl ?_
        refine G_aald (tn := 8) (fun _ => rfl) (by decide) dX1_copyFrom_41 (fun q42 => ?_)
        refine G_aload_n dX1_copyFrom_42 1 rfl rfl ?_
        refine G_getP cf_X1 (j := 1) rfl w_210 dX1_copyFrom_43 (fun q43 => ?_)
        refine G_iload_n dX1_copyFrom_46 2 rfl rfl ?_
        refine G_aald (tn := 8) (fun _ => rfl) (by decide) dX1_copyFrom_47 (fun q44 => ?_)
        refine G_callV cf_X9 ok_X9_copyFrom [rv κ q44] [] (con_X9_copyFrom κ a39.2 q42 q44) rfl w_886 w_887 w_888 (Nat.le_of_ble_eq_true rfl) (Nat.le_of_ble_eq_true rfl) dX1_copyFrom_48 rfl (by simp) (fun _u M45 => (show G _ _ _ _ _ _ [] _ from ?_))
        refine G_iinc (v := (a39.1 + 1)) (lv' := [(2, .int (a39.1 + 1)), (0, rv κ this), (1, rv κ p1)]) dX1_copyFrom_51 2 rfl (congrArg (fun z9 : Int32 => a39.1 + z9) (by decide : Int32.ofInt 1 = 1)) (Nat.le_of_ble_eq_true rfl) rfl ?_
        refine G_goto (tgt := 30) dX1_copyFrom_54 (by decide) ?_
        exact G.sub [1, 2, 0] rfl (hL30_38 _)
  · intro J28_0 hJ28_0
    refine G.sub (lv' := [(0, rv κ this), (1, rv κ p1), (2, .int 0)]) [1, 2, 0] rfl ?_
    refine G.loop (lvf := fun (a46 : Int32 × Mem) => [(0, rv κ this), (1, rv κ p1), (2, .int a46.1)]) (mf := fun (a46 : Int32 × Mem) => a46.2) (fun L2_45 hL2_45 a46 => ?_) FU (0, M)
    unfold b_X1_copyFrom_2
    refine G_iload_n dX1_copyFrom_2 2 rfl rfl ?_
    refine G_iconst (v := 4) dX1_copyFrom_3 (by decide) ?_
    refine G_icmp_ge (tgt := 28) dX1_copyFrom_4 (by decide) ?_ ?_
    · exact G.sub [0, 1] rfl (hJ28_0 _)
    · refine G_aload_n dX1_copyFrom_7 0 rfl rfl ?_
      refine G_getP cf_X1 (j := 0) rfl w_209 dX1_copyFrom_8 (fun q48 => ?_)
      refine G_iload_n dX1_copyFrom_11 2 rfl rfl ?_
      refine G_aald (tn := 6) (fun _ => rfl) (by decide) dX1_copyFrom_12 (fun q49 => ?_)
      refine G_aload_n dX1_copyFrom_13 1 rfl rfl ?_
      refine G_getP cf_X1 (j := 0) rfl w_209 dX1_copyFrom_14 (fun q50 => ?_)
      refine G_iload_n dX1_copyFrom_17 2 rfl rfl ?_
      refine G_aald (tn := 6) (fun _ => rfl) (by decide) dX1_copyFrom_18 (fun q51 => ?_)
      refine G_callV cf_X5 ok_X5_copyFrom [rv κ q51] [] (con_X5_copyFrom κ a46.2 q49 q51) rfl w_885 w_465 w_466 (Nat.le_of_ble_eq_true rfl) (Nat.le_of_ble_eq_true rfl) dX1_copyFrom_19 rfl (by simp) (fun _u M52 => (show G _ _ _ _ _ _ [] _ from ?_))
      refine G_iinc (v := (a46.1 + 1)) (lv' := [(2, .int (a46.1 + 1)), (0, rv κ this), (1, rv κ p1)]) dX1_copyFrom_22 2 rfl (congrArg (fun z9 : Int32 => a46.1 + z9) (by decide : Int32.ofInt 1 = 1)) (Nat.le_of_ble_eq_true rfl) rfl ?_
      refine G_goto (tgt := 2) dX1_copyFrom_25 (by decide) ?_
      exact G.sub [1, 2, 0] rfl (hL2_45 _)
def m_X1_planAt (M : Mem) (this : Option Nat) (p1 : Int32) : Option (Option Nat × Mem) :=
  cl (m_X10_within M p1 0 3) (fun (x2 : Int32) (M1 : Mem) => (if x2 = 0 then rt none M1 else dP M1 1 0 this (fun (q3 : Option Nat) => aP M1 115 q3 p1 (fun (q4 : Option Nat) => rt q4 M1))))
abbrev md_X1_planAt : MD := (RX1, yX1_planAt, cX1_planAt, 2, Option.some (Jvm.ClassFile.FieldType.object "ParkingTariff$Plan"), 1, 22)
theorem ok_X1_planAt : MOk md_X1_planAt 1 := ⟨by decide +kernel, w_337, w_2, ⟨by decide +kernel, by decide +kernel⟩, by decide +kernel, rfl⟩
set_option maxRecDepth 100000 in
set_option maxHeartbeats 4000000 in
theorem con_X1_planAt (κ : Cfg) (M : Mem) (this : Option Nat) (p1 : Int32) : Con κ md_X1_planAt [rv κ this, .int p1] M (cvQ κ) (m_X1_planAt M this p1) := by
  refine Con.of ok_X1_planAt (ret_Q rfl) (by
    intro v hv
    simp only [List.mem_cons, List.not_mem_nil, or_false] at hv
    rcases hv with rfl | rfl <;> first | rfl | exact rv_cat _ _) (Nat.le_of_ble_eq_true rfl) ?_
  unfold m_X1_planAt
  refine G.sub (lv' := [(0, rv κ this), (1, .int p1)]) [0, 1] rfl ?_
  refine G_iload_n dX1_planAt_0 1 rfl rfl ?_
  refine G_iconst (v := 0) dX1_planAt_1 (by decide) ?_
  refine G_iconst (v := 3) dX1_planAt_2 (by decide) ?_
  refine G_callSN ok_X10_within [.int p1, .int 0, .int 3] [] (con_X10_within κ M p1 0 3) rfl (by simp [nestL, mdO, mdY]) w_320 (Nat.le_of_ble_eq_true rfl) (Nat.le_of_ble_eq_true rfl) dX1_planAt_3 rfl (by simp) (fun x2 M1 => (show G _ _ _ _ _ _ [.int x2] _ from ?_))
  refine G_if_eq (tgt := 18) dX1_planAt_6 (by decide) ?_ ?_
  · refine G_null dX1_planAt_18 ?_
    exact G_ret (v := none) dX1_planAt_19 (fun h => by cases h) rfl
  · refine G_aload_n dX1_planAt_9 0 rfl rfl ?_
    refine G_getP cf_X1 (j := 0) rfl w_209 dX1_planAt_10 (fun q3 => ?_)
    refine G_iload_n dX1_planAt_13 1 rfl rfl ?_
    refine G_aald (tn := 6) (fun _ => rfl) (by decide) dX1_planAt_14 (fun q4 => ?_)
    refine G_goto (tgt := 19) dX1_planAt_15 (by decide) ?_
    exact G_ret (v := q4) dX1_planAt_19 (fun h => by cases h) rfl
def m_X1_voucherAt (M : Mem) (this : Option Nat) (p1 : Int32) : Option (Option Nat × Mem) :=
  cl (m_X10_within M p1 0 9) (fun (x2 : Int32) (M1 : Mem) => jn (fun (x4 : Int32) (M5 : Mem) => (if x4 = 0 then rt none M5 else dP M5 1 1 this (fun (q6 : Option Nat) => aP M5 119 q6 p1 (fun (q7 : Option Nat) => rt q7 M5)))) (fun (J23_2 : Int32 → Mem → Option (Option Nat × Mem)) => jn (fun (M9 : Mem) => J23_2 0 M9) (fun (J22_7 : Mem → Option (Option Nat × Mem)) => (if x2 = 0 then J22_7 M1 else dI M1 1 5 this (fun (x10 : Int32) => (if x10 ≤ p1 then J22_7 M1 else J23_2 1 M1))))))
abbrev md_X1_voucherAt : MD := (RX1, yX1_voucherAt, cX1_voucherAt, 3, Option.some (Jvm.ClassFile.FieldType.object "ParkingTariff$Voucher"), 1, 22)
theorem ok_X1_voucherAt : MOk md_X1_voucherAt 1 := ⟨by decide +kernel, w_594, w_2, ⟨by decide +kernel, by decide +kernel⟩, by decide +kernel, rfl⟩
set_option maxRecDepth 100000 in
set_option maxHeartbeats 4000000 in
theorem con_X1_voucherAt (κ : Cfg) (M : Mem) (this : Option Nat) (p1 : Int32) : Con κ md_X1_voucherAt [rv κ this, .int p1] M (cvQ κ) (m_X1_voucherAt M this p1) := by
  refine Con.of ok_X1_voucherAt (ret_Q rfl) (by
    intro v hv
    simp only [List.mem_cons, List.not_mem_nil, or_false] at hv
    rcases hv with rfl | rfl <;> first | rfl | exact rv_cat _ _) (Nat.le_of_ble_eq_true rfl) ?_
  unfold m_X1_voucherAt
  refine G.sub (lv' := [(0, rv κ this), (1, .int p1)]) [0, 1] rfl ?_
  refine G_iload_n dX1_voucherAt_0 1 rfl rfl ?_
  refine G_iconst (v := 0) dX1_voucherAt_1 (by decide) ?_
  refine G_bipush (v := 9) dX1_voucherAt_2 (by decide) ?_
  refine G_callSN ok_X10_within [.int p1, .int 0, .int 9] [] (con_X10_within κ M p1 0 9) rfl (by simp [nestL, mdO, mdY]) w_320 (Nat.le_of_ble_eq_true rfl) (Nat.le_of_ble_eq_true rfl) dX1_voucherAt_4 rfl (by simp) (fun x2 M1 => (show G _ _ _ _ _ _ [.int x2] _ from ?_))
  refine G.jn (P := (fun (J : Int32 → Mem → Option (Option Nat × Mem)) => ∀ (x4 : Int32) (M5 : Mem), G κ md_X1_voucherAt (cvQ κ) (J x4 M5) 23 [(0, rv κ this), (1, .int p1)] [.int x4] M5)) ?_ ?_
  · intro x4 M5
    refine G_istore_n (lv' := [(2, .int x4), (0, rv κ this), (1, .int p1)]) dX1_voucherAt_23 rfl (Nat.le_of_ble_eq_true rfl) rfl ?_
    refine G_iload_n dX1_voucherAt_24 0 rfl rfl ?_
    refine G_if_eq (tgt := 37) dX1_voucherAt_25 (by decide) ?_ ?_
    · refine G_null dX1_voucherAt_37 ?_
      exact G_ret (v := none) dX1_voucherAt_38 (fun h => by cases h) rfl
    · refine G_aload_n dX1_voucherAt_28 1 rfl rfl ?_
      refine G_getP cf_X1 (j := 1) rfl w_210 dX1_voucherAt_29 (fun q6 => ?_)
      refine G_iload_n dX1_voucherAt_32 2 rfl rfl ?_
      refine G_aald (tn := 8) (fun _ => rfl) (by decide) dX1_voucherAt_33 (fun q7 => ?_)
      refine G_goto (tgt := 38) dX1_voucherAt_34 (by decide) ?_
      exact G_ret (v := q7) dX1_voucherAt_38 (fun h => by cases h) rfl
  · intro J23_2 hJ23_2
    refine G.jn (P := (fun (J : Mem → Option (Option Nat × Mem)) => ∀ (M9 : Mem), G κ md_X1_voucherAt (cvQ κ) (J M9) 22 [(0, rv κ this), (1, .int p1)] [] M9)) ?_ ?_
    · intro M9
      refine G_iconst (v := 0) dX1_voucherAt_22 (by decide) ?_
      exact G.sub [0, 1] rfl (hJ23_2 _ _)
    · intro J22_7 hJ22_7
      refine G_if_eq (tgt := 22) dX1_voucherAt_7 (by decide) ?_ ?_
      · exact G.sub [0, 1] rfl (hJ22_7 _)
      · refine G_iload_n dX1_voucherAt_10 1 rfl rfl ?_
        refine G_aload_n dX1_voucherAt_11 0 rfl rfl ?_
        refine G_getI cf_X1 (j := 5) rfl w_215 dX1_voucherAt_12 (fun x10 => ?_)
        refine G_icmp_ge (tgt := 22) dX1_voucherAt_15 (by decide) ?_ ?_
        · exact G.sub [0, 1] rfl (hJ22_7 _)
        · refine G_iconst (v := 1) dX1_voucherAt_18 (by decide) ?_
          refine G_goto (tgt := 23) dX1_voucherAt_19 (by decide) ?_
          exact G.sub [0, 1] rfl (hJ23_2 _ _)
def m_X1_folderAt (M : Mem) (this : Option Nat) (p1 : Int32) : Option (Option Nat × Mem) :=
  cl (m_X10_within M p1 0 2) (fun (x2 : Int32) (M1 : Mem) => jn (fun (x4 : Int32) (M5 : Mem) => (if x4 = 0 then rt none M5 else dP M5 1 2 this (fun (q6 : Option Nat) => aP M5 112 q6 p1 (fun (q7 : Option Nat) => rt q7 M5)))) (fun (J26_2 : Int32 → Mem → Option (Option Nat × Mem)) => jn (fun (M9 : Mem) => J26_2 0 M9) (fun (J25_7 : Mem → Option (Option Nat × Mem)) => (if x2 = 0 then J25_7 M1 else dP M1 1 2 this (fun (q10 : Option Nat) => aP M1 112 q10 p1 (fun (q11 : Option Nat) => rc M1 2 q11 (cl (m_X2_isMade M1 q11) (fun (x13 : Int32) (M12 : Mem) => (if x13 = 0 then J25_7 M12 else J26_2 1 M12)))))))))
abbrev md_X1_folderAt : MD := (RX1, yX1_folderAt, cX1_folderAt, 3, Option.some (Jvm.ClassFile.FieldType.object "ParkingTariff$Folder"), 1, 22)
theorem ok_X1_folderAt : MOk md_X1_folderAt 1 := ⟨by decide +kernel, w_614, w_2, ⟨by decide +kernel, by decide +kernel⟩, by decide +kernel, rfl⟩
set_option maxRecDepth 100000 in
set_option maxHeartbeats 4000000 in
theorem con_X1_folderAt (κ : Cfg) (M : Mem) (this : Option Nat) (p1 : Int32) : Con κ md_X1_folderAt [rv κ this, .int p1] M (cvQ κ) (m_X1_folderAt M this p1) := by
  refine Con.of ok_X1_folderAt (ret_Q rfl) (by
    intro v hv
    simp only [List.mem_cons, List.not_mem_nil, or_false] at hv
    rcases hv with rfl | rfl <;> first | rfl | exact rv_cat _ _) (Nat.le_of_ble_eq_true rfl) ?_
  unfold m_X1_folderAt
  refine G.sub (lv' := [(0, rv κ this), (1, .int p1)]) [0, 1] rfl ?_
  refine G_iload_n dX1_folderAt_0 1 rfl rfl ?_
  refine G_iconst (v := 0) dX1_folderAt_1 (by decide) ?_
  refine G_iconst (v := 2) dX1_folderAt_2 (by decide) ?_
  refine G_callSN ok_X10_within [.int p1, .int 0, .int 2] [] (con_X10_within κ M p1 0 2) rfl (by simp [nestL, mdO, mdY]) w_320 (Nat.le_of_ble_eq_true rfl) (Nat.le_of_ble_eq_true rfl) dX1_folderAt_3 rfl (by simp) (fun x2 M1 => (show G _ _ _ _ _ _ [.int x2] _ from ?_))
  refine G.jn (P := (fun (J : Int32 → Mem → Option (Option Nat × Mem)) => ∀ (x4 : Int32) (M5 : Mem), G κ md_X1_folderAt (cvQ κ) (J x4 M5) 26 [(0, rv κ this), (1, .int p1)] [.int x4] M5)) ?_ ?_
  · intro x4 M5
    refine G_istore_n (lv' := [(2, .int x4), (0, rv κ this), (1, .int p1)]) dX1_folderAt_26 rfl (Nat.le_of_ble_eq_true rfl) rfl ?_
    refine G_iload_n dX1_folderAt_27 0 rfl rfl ?_
    refine G_if_eq (tgt := 40) dX1_folderAt_28 (by decide) ?_ ?_
    · refine G_null dX1_folderAt_40 ?_
      exact G_ret (v := none) dX1_folderAt_41 (fun h => by cases h) rfl
    · refine G_aload_n dX1_folderAt_31 1 rfl rfl ?_
      refine G_getP cf_X1 (j := 2) rfl w_211 dX1_folderAt_32 (fun q6 => ?_)
      refine G_iload_n dX1_folderAt_35 2 rfl rfl ?_
      refine G_aald (tn := 4) (fun _ => rfl) (by decide) dX1_folderAt_36 (fun q7 => ?_)
      refine G_goto (tgt := 41) dX1_folderAt_37 (by decide) ?_
      exact G_ret (v := q7) dX1_folderAt_41 (fun h => by cases h) rfl
  · intro J26_2 hJ26_2
    refine G.jn (P := (fun (J : Mem → Option (Option Nat × Mem)) => ∀ (M9 : Mem), G κ md_X1_folderAt (cvQ κ) (J M9) 25 [(0, rv κ this), (1, .int p1)] [] M9)) ?_ ?_
    · intro M9
      refine G_iconst (v := 0) dX1_folderAt_25 (by decide) ?_
      exact G.sub [0, 1] rfl (hJ26_2 _ _)
    · intro J25_7 hJ25_7
      refine G_if_eq (tgt := 25) dX1_folderAt_6 (by decide) ?_ ?_
      · exact G.sub [0, 1] rfl (hJ25_7 _)
      · refine G_aload_n dX1_folderAt_9 0 rfl rfl ?_
        refine G_getP cf_X1 (j := 2) rfl w_211 dX1_folderAt_10 (fun q10 => ?_)
        refine G_iload_n dX1_folderAt_13 1 rfl rfl ?_
        refine G_aald (tn := 4) (fun _ => rfl) (by decide) dX1_folderAt_14 (fun q11 => ?_)
        refine G_callV cf_X2 ok_X2_isMade [] [] (con_X2_isMade κ M1 q11) rfl w_615 w_616 w_617 (Nat.le_of_ble_eq_true rfl) (Nat.le_of_ble_eq_true rfl) dX1_folderAt_15 rfl (by simp) (fun x13 M12 => (show G _ _ _ _ _ _ [.int x13] _ from ?_))
        refine G_if_eq (tgt := 25) dX1_folderAt_18 (by decide) ?_ ?_
        · exact G.sub [0, 1] rfl (hJ25_7 _)
        · refine G_iconst (v := 1) dX1_folderAt_21 (by decide) ?_
          refine G_goto (tgt := 26) dX1_folderAt_22 (by decide) ?_
          exact G.sub [0, 1] rfl (hJ26_2 _ _)
def m_X1_levelAt (M : Mem) (this : Option Nat) (p1 : Int32) : Option (Option Nat × Mem) :=
  cl (m_X10_within M p1 0 3) (fun (x2 : Int32) (M1 : Mem) => (if x2 = 0 then rt none M1 else dP M1 1 3 this (fun (q3 : Option Nat) => aP M1 113 q3 p1 (fun (q4 : Option Nat) => rt q4 M1))))
abbrev md_X1_levelAt : MD := (RX1, yX1_levelAt, cX1_levelAt, 2, Option.some (Jvm.ClassFile.FieldType.object "ParkingTariff$Level"), 1, 22)
theorem ok_X1_levelAt : MOk md_X1_levelAt 1 := ⟨by decide +kernel, w_675, w_2, ⟨by decide +kernel, by decide +kernel⟩, by decide +kernel, rfl⟩
set_option maxRecDepth 100000 in
set_option maxHeartbeats 4000000 in
theorem con_X1_levelAt (κ : Cfg) (M : Mem) (this : Option Nat) (p1 : Int32) : Con κ md_X1_levelAt [rv κ this, .int p1] M (cvQ κ) (m_X1_levelAt M this p1) := by
  refine Con.of ok_X1_levelAt (ret_Q rfl) (by
    intro v hv
    simp only [List.mem_cons, List.not_mem_nil, or_false] at hv
    rcases hv with rfl | rfl <;> first | rfl | exact rv_cat _ _) (Nat.le_of_ble_eq_true rfl) ?_
  unfold m_X1_levelAt
  refine G.sub (lv' := [(0, rv κ this), (1, .int p1)]) [0, 1] rfl ?_
  refine G_iload_n dX1_levelAt_0 1 rfl rfl ?_
  refine G_iconst (v := 0) dX1_levelAt_1 (by decide) ?_
  refine G_iconst (v := 3) dX1_levelAt_2 (by decide) ?_
  refine G_callSN ok_X10_within [.int p1, .int 0, .int 3] [] (con_X10_within κ M p1 0 3) rfl (by simp [nestL, mdO, mdY]) w_320 (Nat.le_of_ble_eq_true rfl) (Nat.le_of_ble_eq_true rfl) dX1_levelAt_3 rfl (by simp) (fun x2 M1 => (show G _ _ _ _ _ _ [.int x2] _ from ?_))
  refine G_if_eq (tgt := 18) dX1_levelAt_6 (by decide) ?_ ?_
  · refine G_null dX1_levelAt_18 ?_
    exact G_ret (v := none) dX1_levelAt_19 (fun h => by cases h) rfl
  · refine G_aload_n dX1_levelAt_9 0 rfl rfl ?_
    refine G_getP cf_X1 (j := 3) rfl w_213 dX1_levelAt_10 (fun q3 => ?_)
    refine G_iload_n dX1_levelAt_13 1 rfl rfl ?_
    refine G_aald (tn := 5) (fun _ => rfl) (by decide) dX1_levelAt_14 (fun q4 => ?_)
    refine G_goto (tgt := 19) dX1_levelAt_15 (by decide) ?_
    exact G_ret (v := q4) dX1_levelAt_19 (fun h => by cases h) rfl
def m_X1_ticketAt (M : Mem) (this : Option Nat) (p1 : Int32) : Option (Option Nat × Mem) :=
  cl (m_X10_within M p1 0 511) (fun (x2 : Int32) (M1 : Mem) => jn (fun (x4 : Int32) (M5 : Mem) => (if x4 = 0 then rt none M5 else dP M5 1 4 this (fun (q6 : Option Nat) => aP M5 118 q6 p1 (fun (q7 : Option Nat) => rt q7 M5)))) (fun (J24_2 : Int32 → Mem → Option (Option Nat × Mem)) => jn (fun (M9 : Mem) => J24_2 0 M9) (fun (J23_7 : Mem → Option (Option Nat × Mem)) => (if x2 = 0 then J23_7 M1 else dI M1 1 6 this (fun (x10 : Int32) => (if x10 ≤ p1 then J23_7 M1 else J24_2 1 M1))))))
abbrev md_X1_ticketAt : MD := (RX1, yX1_ticketAt, cX1_ticketAt, 3, Option.some (Jvm.ClassFile.FieldType.object "ParkingTariff$Ticket"), 1, 22)
theorem ok_X1_ticketAt : MOk md_X1_ticketAt 1 := ⟨by decide +kernel, w_703, w_2, ⟨by decide +kernel, by decide +kernel⟩, by decide +kernel, rfl⟩
set_option maxRecDepth 100000 in
set_option maxHeartbeats 4000000 in
theorem con_X1_ticketAt (κ : Cfg) (M : Mem) (this : Option Nat) (p1 : Int32) : Con κ md_X1_ticketAt [rv κ this, .int p1] M (cvQ κ) (m_X1_ticketAt M this p1) := by
  refine Con.of ok_X1_ticketAt (ret_Q rfl) (by
    intro v hv
    simp only [List.mem_cons, List.not_mem_nil, or_false] at hv
    rcases hv with rfl | rfl <;> first | rfl | exact rv_cat _ _) (Nat.le_of_ble_eq_true rfl) ?_
  unfold m_X1_ticketAt
  refine G.sub (lv' := [(0, rv κ this), (1, .int p1)]) [0, 1] rfl ?_
  refine G_iload_n dX1_ticketAt_0 1 rfl rfl ?_
  refine G_iconst (v := 0) dX1_ticketAt_1 (by decide) ?_
  refine G_sipush (v := 511) dX1_ticketAt_2 (by decide) ?_
  refine G_callSN ok_X10_within [.int p1, .int 0, .int 511] [] (con_X10_within κ M p1 0 511) rfl (by simp [nestL, mdO, mdY]) w_320 (Nat.le_of_ble_eq_true rfl) (Nat.le_of_ble_eq_true rfl) dX1_ticketAt_5 rfl (by simp) (fun x2 M1 => (show G _ _ _ _ _ _ [.int x2] _ from ?_))
  refine G.jn (P := (fun (J : Int32 → Mem → Option (Option Nat × Mem)) => ∀ (x4 : Int32) (M5 : Mem), G κ md_X1_ticketAt (cvQ κ) (J x4 M5) 24 [(0, rv κ this), (1, .int p1)] [.int x4] M5)) ?_ ?_
  · intro x4 M5
    refine G_istore_n (lv' := [(2, .int x4), (0, rv κ this), (1, .int p1)]) dX1_ticketAt_24 rfl (Nat.le_of_ble_eq_true rfl) rfl ?_
    refine G_iload_n dX1_ticketAt_25 0 rfl rfl ?_
    refine G_if_eq (tgt := 38) dX1_ticketAt_26 (by decide) ?_ ?_
    · refine G_null dX1_ticketAt_38 ?_
      exact G_ret (v := none) dX1_ticketAt_39 (fun h => by cases h) rfl
    · refine G_aload_n dX1_ticketAt_29 1 rfl rfl ?_
      refine G_getP cf_X1 (j := 4) rfl w_214 dX1_ticketAt_30 (fun q6 => ?_)
      refine G_iload_n dX1_ticketAt_33 2 rfl rfl ?_
      refine G_aald (tn := 7) (fun _ => rfl) (by decide) dX1_ticketAt_34 (fun q7 => ?_)
      refine G_goto (tgt := 39) dX1_ticketAt_35 (by decide) ?_
      exact G_ret (v := q7) dX1_ticketAt_39 (fun h => by cases h) rfl
  · intro J24_2 hJ24_2
    refine G.jn (P := (fun (J : Mem → Option (Option Nat × Mem)) => ∀ (M9 : Mem), G κ md_X1_ticketAt (cvQ κ) (J M9) 23 [(0, rv κ this), (1, .int p1)] [] M9)) ?_ ?_
    · intro M9
      refine G_iconst (v := 0) dX1_ticketAt_23 (by decide) ?_
      exact G.sub [0, 1] rfl (hJ24_2 _ _)
    · intro J23_7 hJ23_7
      refine G_if_eq (tgt := 23) dX1_ticketAt_8 (by decide) ?_ ?_
      · exact G.sub [0, 1] rfl (hJ23_7 _)
      · refine G_iload_n dX1_ticketAt_11 1 rfl rfl ?_
        refine G_aload_n dX1_ticketAt_12 0 rfl rfl ?_
        refine G_getI cf_X1 (j := 6) rfl w_217 dX1_ticketAt_13 (fun x10 => ?_)
        refine G_icmp_ge (tgt := 23) dX1_ticketAt_16 (by decide) ?_ ?_
        · exact G.sub [0, 1] rfl (hJ23_7 _)
        · refine G_iconst (v := 1) dX1_ticketAt_19 (by decide) ?_
          refine G_goto (tgt := 24) dX1_ticketAt_20 (by decide) ?_
          exact G.sub [0, 1] rfl (hJ24_2 _ _)
def m_X1_ticketInside (M : Mem) (this : Option Nat) (p1 : Int32) : Option (Option Nat × Mem) :=
  rc M 1 this (cl (m_X1_ticketAt M this p1) (fun (q2 : Option Nat) (M1 : Mem) => (if q2 = none then rt none M1 else dI M1 8 7 q2 (fun (x3 : Int32) => (if x3 = 0 then rt q2 M1 else rt none M1)))))
abbrev md_X1_ticketInside : MD := (RX1, yX1_ticketInside, cX1_ticketInside, 3, Option.some (Jvm.ClassFile.FieldType.object "ParkingTariff$Ticket"), 2, 44)
theorem ok_X1_ticketInside : MOk md_X1_ticketInside 1 := ⟨by decide +kernel, w_699, w_2, ⟨by decide +kernel, by decide +kernel⟩, by decide +kernel, rfl⟩
set_option maxRecDepth 100000 in
set_option maxHeartbeats 4000000 in
theorem con_X1_ticketInside (κ : Cfg) (M : Mem) (this : Option Nat) (p1 : Int32) : Con κ md_X1_ticketInside [rv κ this, .int p1] M (cvQ κ) (m_X1_ticketInside M this p1) := by
  refine Con.of ok_X1_ticketInside (ret_Q rfl) (by
    intro v hv
    simp only [List.mem_cons, List.not_mem_nil, or_false] at hv
    rcases hv with rfl | rfl <;> first | rfl | exact rv_cat _ _) (Nat.le_of_ble_eq_true rfl) ?_
  unfold m_X1_ticketInside
  refine G.sub (lv' := [(0, rv κ this), (1, .int p1)]) [0, 1] rfl ?_
  refine G_aload_n dX1_ticketInside_0 0 rfl rfl ?_
  refine G_iload_n dX1_ticketInside_1 1 rfl rfl ?_
  refine G_callV cf_X1 ok_X1_ticketAt [.int p1] [] (con_X1_ticketAt κ M this p1) rfl w_700 w_701 w_702 (Nat.le_of_ble_eq_true rfl) (Nat.le_of_ble_eq_true rfl) dX1_ticketInside_2 rfl (by simp) (fun q2 M1 => (show G _ _ _ _ _ _ [rv κ q2] _ from ?_))
  refine G_astore_n (lv' := [(2, rv κ q2), (0, rv κ this), (1, .int p1)]) dX1_ticketInside_5 rfl (Nat.le_of_ble_eq_true rfl) rfl ?_
  refine G_aload_n dX1_ticketInside_6 0 rfl rfl ?_
  refine G_ifnull (tgt := 17) dX1_ticketInside_7 (by decide) ?_ ?_
  · refine G_null dX1_ticketInside_17 ?_
    refine G_goto (tgt := 22) dX1_ticketInside_18 (by decide) ?_
    exact G_ret (v := none) dX1_ticketInside_22 (fun h => by cases h) rfl
  · refine G_aload_n dX1_ticketInside_10 0 rfl rfl ?_
    refine G_getI cf_X8 (j := 7) rfl w_186 dX1_ticketInside_11 (fun x3 => ?_)
    refine G_if_eq (tgt := 21) dX1_ticketInside_14 (by decide) ?_ ?_
    · refine G_aload_n dX1_ticketInside_21 0 rfl rfl ?_
      exact G_ret (v := q2) dX1_ticketInside_22 (fun h => by cases h) rfl
    · refine G_null dX1_ticketInside_17 ?_
      refine G_goto (tgt := 22) dX1_ticketInside_18 (by decide) ?_
      exact G_ret (v := none) dX1_ticketInside_22 (fun h => by cases h) rfl
def m_X1_makeVoucher (M : Mem) (this : Option Nat) (p1 : Int32) (p2 : Int32) : Option (Int32 × Mem) :=
  dI M 1 5 this (fun (x1 : Int32) => (if x1 < 10 then dP M 1 1 this (fun (q2 : Option Nat) => dI M 1 5 this (fun (x3 : Int32) => aP M 119 q2 x3 (fun (q4 : Option Nat) => rc M 9 q4 (cl (m_X9_begin M q4 p1 p2) (fun (_u : Unit) (M5 : Mem) => dI M5 1 5 this (fun (x6 : Int32) => pI M5 1 5 this ((x6 + 1)) (fun (M7 : Mem) => dI M7 1 5 this (fun (x8 : Int32) => rt ((x8 - 1)) M7)))))))) else rt ((-3)) M))
abbrev md_X1_makeVoucher : MD := (RX1, yX1_makeVoucher, cX1_makeVoucher, 3, Option.some Jvm.ClassFile.FieldType.int, 1, 22)
theorem ok_X1_makeVoucher : MOk md_X1_makeVoucher 2 := ⟨by decide +kernel, w_582, w_2, ⟨by decide +kernel, by decide +kernel⟩, by decide +kernel, rfl⟩
set_option maxRecDepth 100000 in
set_option maxHeartbeats 4000000 in
theorem con_X1_makeVoucher (κ : Cfg) (M : Mem) (this : Option Nat) (p1 : Int32) (p2 : Int32) : Con κ md_X1_makeVoucher [rv κ this, .int p1, .int p2] M cvI (m_X1_makeVoucher M this p1 p2) := by
  refine Con.of ok_X1_makeVoucher (ret_I rfl) (by
    intro v hv
    simp only [List.mem_cons, List.not_mem_nil, or_false] at hv
    rcases hv with rfl | rfl | rfl <;> first | rfl | exact rv_cat _ _) (Nat.le_of_ble_eq_true rfl) ?_
  unfold m_X1_makeVoucher
  refine G.sub (lv' := [(0, rv κ this), (1, .int p1), (2, .int p2)]) [0, 1, 2] rfl ?_
  refine G_aload_n dX1_makeVoucher_0 0 rfl rfl ?_
  refine G_getI cf_X1 (j := 5) rfl w_215 dX1_makeVoucher_1 (fun x1 => ?_)
  refine G_bipush (v := 10) dX1_makeVoucher_4 (by decide) ?_
  refine G_icmp_lt (tgt := 12) dX1_makeVoucher_6 (by decide) ?_ ?_
  · refine G_aload_n dX1_makeVoucher_12 0 rfl rfl ?_
    refine G_getP cf_X1 (j := 1) rfl w_210 dX1_makeVoucher_13 (fun q2 => ?_)
    refine G_aload_n dX1_makeVoucher_16 0 rfl rfl ?_
    refine G_getI cf_X1 (j := 5) rfl w_215 dX1_makeVoucher_17 (fun x3 => ?_)
    refine G_aald (tn := 8) (fun _ => rfl) (by decide) dX1_makeVoucher_20 (fun q4 => ?_)
    refine G_iload_n dX1_makeVoucher_21 1 rfl rfl ?_
    refine G_iload_n dX1_makeVoucher_22 2 rfl rfl ?_
    refine G_callV cf_X9 ok_X9_begin [.int p1, .int p2] [] (con_X9_begin κ M q4 p1 p2) rfl w_583 w_584 w_585 (Nat.le_of_ble_eq_true rfl) (Nat.le_of_ble_eq_true rfl) dX1_makeVoucher_23 rfl (by simp) (fun _u M5 => (show G _ _ _ _ _ _ [] _ from ?_))
    refine G_aload_n dX1_makeVoucher_26 0 rfl rfl ?_
    refine G_dup dX1_makeVoucher_27 (rv_cat _ _) ?_
    refine G_getI cf_X1 (j := 5) rfl w_215 dX1_makeVoucher_28 (fun x6 => ?_)
    refine G_iconst (v := 1) dX1_makeVoucher_31 (by decide) ?_
    refine G_iadd dX1_makeVoucher_32 ?_
    refine G_putI cf_X1 (j := 5) rfl rfl w_215 (Or.inl rfl) dX1_makeVoucher_33 (fun M7 => ?_)
    refine G_aload_n dX1_makeVoucher_36 0 rfl rfl ?_
    refine G_getI cf_X1 (j := 5) rfl w_215 dX1_makeVoucher_37 (fun x8 => ?_)
    refine G_iconst (v := 1) dX1_makeVoucher_40 (by decide) ?_
    refine G_isub dX1_makeVoucher_41 ?_
    exact G_ret (v := ((x8 - 1))) dX1_makeVoucher_42 (fun h => by cases h) rfl
  · refine G_bipush (v := (-3)) dX1_makeVoucher_9 (by decide) ?_
    exact G_ret (v := ((-3))) dX1_makeVoucher_11 (fun h => by cases h) rfl
def m_X1_voucherInFolder (M : Mem) (this : Option Nat) (p1 : Int32) (p2 : Int32) : Option (Int32 × Mem) :=
  rc M 1 this (cl (m_X1_folderAt M this p1) (fun (q2 : Option Nat) (M1 : Mem) => (if q2 ≠ none then rc M1 2 q2 (cl (m_X2_content M1 q2 p2) (fun (x4 : Int32) (M3 : Mem) => rt x4 M3)) else rt ((-1)) M1)))
abbrev md_X1_voucherInFolder : MD := (RX1, yX1_voucherInFolder, cX1_voucherInFolder, 4, Option.some Jvm.ClassFile.FieldType.int, 3, 64)
theorem ok_X1_voucherInFolder : MOk md_X1_voucherInFolder 2 := ⟨by decide +kernel, w_644, w_2, ⟨by decide +kernel, by decide +kernel⟩, by decide +kernel, rfl⟩
set_option maxRecDepth 100000 in
set_option maxHeartbeats 4000000 in
theorem con_X1_voucherInFolder (κ : Cfg) (M : Mem) (this : Option Nat) (p1 : Int32) (p2 : Int32) : Con κ md_X1_voucherInFolder [rv κ this, .int p1, .int p2] M cvI (m_X1_voucherInFolder M this p1 p2) := by
  refine Con.of ok_X1_voucherInFolder (ret_I rfl) (by
    intro v hv
    simp only [List.mem_cons, List.not_mem_nil, or_false] at hv
    rcases hv with rfl | rfl | rfl <;> first | rfl | exact rv_cat _ _) (Nat.le_of_ble_eq_true rfl) ?_
  unfold m_X1_voucherInFolder
  refine G.sub (lv' := [(0, rv κ this), (1, .int p1), (2, .int p2)]) [0, 1, 2] rfl ?_
  refine G_aload_n dX1_voucherInFolder_0 0 rfl rfl ?_
  refine G_iload_n dX1_voucherInFolder_1 1 rfl rfl ?_
  refine G_callV cf_X1 ok_X1_folderAt [.int p1] [] (con_X1_folderAt κ M this p1) rfl w_645 w_612 w_613 (Nat.le_of_ble_eq_true rfl) (Nat.le_of_ble_eq_true rfl) dX1_voucherInFolder_2 rfl (by simp) (fun q2 M1 => (show G _ _ _ _ _ _ [rv κ q2] _ from ?_))
  refine G_astore_n (lv' := [(3, rv κ q2), (0, rv κ this), (1, .int p1), (2, .int p2)]) dX1_voucherInFolder_5 rfl (Nat.le_of_ble_eq_true rfl) rfl ?_
  refine G_aload_n dX1_voucherInFolder_6 0 rfl rfl ?_
  refine G_ifnonnull (tgt := 14) dX1_voucherInFolder_7 (by decide) ?_ ?_
  · refine G_aload_n dX1_voucherInFolder_14 0 rfl rfl ?_
    refine G_iload_n dX1_voucherInFolder_15 3 rfl rfl ?_
    refine G_callV cf_X2 ok_X2_content [.int p2] [] (con_X2_content κ M1 q2 p2) rfl w_646 w_647 w_648 (Nat.le_of_ble_eq_true rfl) (Nat.le_of_ble_eq_true rfl) dX1_voucherInFolder_16 rfl (by simp) (fun x4 M3 => (show G _ _ _ _ _ _ [.int x4] _ from ?_))
    exact G_ret (v := x4) dX1_voucherInFolder_19 (fun h => by cases h) rfl
  · refine G_iconst (v := (-1)) dX1_voucherInFolder_10 (by decide) ?_
    refine G_goto (tgt := 19) dX1_voucherInFolder_11 (by decide) ?_
    exact G_ret (v := ((-1))) dX1_voucherInFolder_19 (fun h => by cases h) rfl
def b_X1_bestLevel_6 (this : Option Nat) (L6_0 : (Int32 × UInt32 × Int32 × Mem) → Option (Int32 × Mem)) (a1 : Int32 × UInt32 × Int32 × Mem) : Option (Int32 × Mem) :=
  (if 4 ≤ a1.2.2.1 then rt a1.1 a1.2.2.2 else dP a1.2.2.2 1 3 this (fun (q3 : Option Nat) => aP a1.2.2.2 113 q3 a1.2.2.1 (fun (q4 : Option Nat) => rc a1.2.2.2 3 q4 (cl (m_X3_score a1.2.2.2 q4) (fun (r6 : UInt32) (M5 : Mem) => dP M5 1 3 this (fun (q7 : Option Nat) => aP M5 113 q7 a1.2.2.1 (fun (q8 : Option Nat) => rc M5 3 q8 (cl (m_X3_freePlaces M5 q8) (fun (x10 : Int32) (M9 : Mem) => jn (fun (x12 : Int32) (r13 : UInt32) (M14 : Mem) => L6_0 (x12, r13, (a1.2.2.1 + 1), M14)) (fun (J51_10 : Int32 → UInt32 → Mem → Option (Int32 × Mem)) => (if x10 ≤ 0 then J51_10 a1.1 a1.2.1 M9 else jn (fun (M16 : Mem) => J51_10 a1.2.2.1 r6 M16) (fun (J46_14 : Mem → Option (Int32 × Mem)) => (if a1.1 = (-1) then J46_14 M9 else (if (Op.cmpValue (FP.fcmp r6 a1.2.1) .l) ≤ 0 then J51_10 a1.1 a1.2.1 M9 else J46_14 M9))))))))))))))
def m_X1_bestLevel (M : Mem) (this : Option Nat) : Option (Int32 × Mem) :=
  lp (b_X1_bestLevel_6 this) FU ((-1), FP.fconst0, 0, M)
abbrev md_X1_bestLevel : MD := (RX1, yX1_bestLevel, cX1_bestLevel, 5, Option.some Jvm.ClassFile.FieldType.int, 2, 40)
theorem ok_X1_bestLevel : MOk md_X1_bestLevel 0 := ⟨by decide +kernel, w_661, w_2, ⟨by decide +kernel, by decide +kernel⟩, by decide +kernel, rfl⟩
set_option maxRecDepth 100000 in
set_option maxHeartbeats 4000000 in
theorem con_X1_bestLevel (κ : Cfg) (M : Mem) (this : Option Nat) : Con κ md_X1_bestLevel [rv κ this] M cvI (m_X1_bestLevel M this) := by
  refine Con.of ok_X1_bestLevel (ret_I rfl) (by
    intro v hv
    simp only [List.mem_cons, List.not_mem_nil, or_false] at hv
    subst hv; first | rfl | exact rv_cat _ _) (Nat.le_of_ble_eq_true rfl) ?_
  unfold m_X1_bestLevel
  refine G.sub (lv' := [(0, rv κ this)]) [0] rfl ?_
  refine G_iconst (v := (-1)) dX1_bestLevel_0 (by decide) ?_
  refine G_istore_n (lv' := [(1, .int (-1)), (0, rv κ this)]) dX1_bestLevel_1 rfl (Nat.le_of_ble_eq_true rfl) rfl ?_
  refine G_fconst0 dX1_bestLevel_2 ?_
  refine G_fstore_n (lv' := [(2, .float FP.fconst0), (1, .int (-1)), (0, rv κ this)]) dX1_bestLevel_3 rfl (Nat.le_of_ble_eq_true rfl) rfl ?_
  refine G_iconst (v := 0) dX1_bestLevel_4 (by decide) ?_
  refine G_istore_n (lv' := [(3, .int 0), (2, .float FP.fconst0), (1, .int (-1)), (0, rv κ this)]) dX1_bestLevel_5 rfl (Nat.le_of_ble_eq_true rfl) rfl ?_
  refine G.sub (lv' := [(0, rv κ this), (1, .int (-1)), (2, .float FP.fconst0), (3, .int 0)]) [3, 2, 1, 0] rfl ?_
  refine G.loop (lvf := fun (a1 : Int32 × UInt32 × Int32 × Mem) => [(0, rv κ this), (1, .int a1.1), (2, .float a1.2.1), (3, .int a1.2.2.1)]) (mf := fun (a1 : Int32 × UInt32 × Int32 × Mem) => a1.2.2.2) (fun L6_0 hL6_0 a1 => ?_) FU ((-1), FP.fconst0, 0, M)
  unfold b_X1_bestLevel_6
  refine G_iload_n dX1_bestLevel_6 3 rfl rfl ?_
  refine G_iconst (v := 4) dX1_bestLevel_7 (by decide) ?_
  refine G_icmp_ge (tgt := 57) dX1_bestLevel_8 (by decide) ?_ ?_
  · refine G_iload_n dX1_bestLevel_57 1 rfl rfl ?_
    exact G_ret (v := a1.1) dX1_bestLevel_58 (fun h => by cases h) rfl
  · refine G_aload_n dX1_bestLevel_11 0 rfl rfl ?_
    refine G_getP cf_X1 (j := 3) rfl w_213 dX1_bestLevel_12 (fun q3 => ?_)
    refine G_iload_n dX1_bestLevel_15 3 rfl rfl ?_
    refine G_aald (tn := 5) (fun _ => rfl) (by decide) dX1_bestLevel_16 (fun q4 => ?_)
    refine G_callV cf_X3 ok_X3_score [] [] (con_X3_score κ a1.2.2.2 q4) rfl w_662 w_663 w_664 (Nat.le_of_ble_eq_true rfl) (Nat.le_of_ble_eq_true rfl) dX1_bestLevel_17 rfl (by simp) (fun r6 M5 => (show G _ _ _ _ _ _ [.float r6] _ from ?_))
    refine G_fstore (lv' := [(4, .float r6), (0, rv κ this), (1, .int a1.1), (2, .float a1.2.1), (3, .int a1.2.2.1)]) dX1_bestLevel_20 (Nat.le_of_ble_eq_true rfl) rfl ?_
    refine G_aload_n dX1_bestLevel_22 1 rfl rfl ?_
    refine G_getP cf_X1 (j := 3) rfl w_213 dX1_bestLevel_23 (fun q7 => ?_)
    refine G_iload_n dX1_bestLevel_26 4 rfl rfl ?_
    refine G_aald (tn := 5) (fun _ => rfl) (by decide) dX1_bestLevel_27 (fun q8 => ?_)
    refine G_callV cf_X3 ok_X3_freePlaces [] [] (con_X3_freePlaces κ M5 q8) rfl w_671 w_667 w_668 (Nat.le_of_ble_eq_true rfl) (Nat.le_of_ble_eq_true rfl) dX1_bestLevel_28 rfl (by simp) (fun x10 M9 => (show G _ _ _ _ _ _ [.int x10] _ from ?_))
    refine G.jn (P := (fun (J : Int32 → UInt32 → Mem → Option (Int32 × Mem)) => ∀ (x12 : Int32) (r13 : UInt32) (M14 : Mem), G κ md_X1_bestLevel cvI (J x12 r13 M14) 51 [(0, rv κ this), (1, .int x12), (2, .float r13), (3, .int a1.2.2.1)] [] M14)) ?_ ?_
    · intro x12 r13 M14
      refine G_iinc (v := (a1.2.2.1 + 1)) (lv' := [(3, .int (a1.2.2.1 + 1)), (0, rv κ this), (1, .int x12), (2, .float r13)]) dX1_bestLevel_51 3 rfl (congrArg (fun z9 : Int32 => a1.2.2.1 + z9) (by decide : Int32.ofInt 1 = 1)) (Nat.le_of_ble_eq_true rfl) rfl ?_
      refine G_goto (tgt := 6) dX1_bestLevel_54 (by decide) ?_
      exact G.sub [1, 2, 3, 0] rfl (hL6_0 _)
    · intro J51_10 hJ51_10
      refine G_if_le (tgt := 51) dX1_bestLevel_31 (by decide) ?_ ?_
      · exact G.sub [1, 2, 3, 4] rfl (hJ51_10 _ _ _)
      · refine G_iload_n dX1_bestLevel_34 2 rfl rfl ?_
        refine G_iconst (v := (-1)) dX1_bestLevel_35 (by decide) ?_
        refine G.jn (P := (fun (J : Mem → Option (Int32 × Mem)) => ∀ (M16 : Mem), G κ md_X1_bestLevel cvI (J M16) 46 [(0, rv κ this), (3, .int a1.2.2.1), (4, .float r6)] [] M16)) ?_ ?_
        · intro M16
          refine G_iload_n dX1_bestLevel_46 1 rfl rfl ?_
          refine G_istore_n (lv' := [(1, .int a1.2.2.1), (0, rv κ this), (3, .int a1.2.2.1), (4, .float r6)]) dX1_bestLevel_47 rfl (Nat.le_of_ble_eq_true rfl) rfl ?_
          refine G_fload dX1_bestLevel_48 3 rfl ?_
          refine G_fstore_n (lv' := [(2, .float r6), (1, .int a1.2.2.1), (0, rv κ this), (3, .int a1.2.2.1), (4, .float r6)]) dX1_bestLevel_50 rfl (Nat.le_of_ble_eq_true rfl) rfl ?_
          exact G.sub [2, 1, 0, 3] rfl (hJ51_10 _ _ _)
        · intro J46_14 hJ46_14
          refine G_icmp_eq (tgt := 46) dX1_bestLevel_36 (by decide) ?_ ?_
          · exact G.sub [1, 4, 0] rfl (hJ46_14 _)
          · refine G_fload dX1_bestLevel_39 0 rfl ?_
            refine G_fload_n dX1_bestLevel_41 3 rfl rfl ?_
            refine G_fcmp dX1_bestLevel_42 ?_
            refine G_if_le (tgt := 51) dX1_bestLevel_43 (by decide) ?_ ?_
            · exact G.sub [1, 2, 3, 4] rfl (hJ51_10 _ _ _)
            · exact G.sub [1, 4, 0] rfl (hJ46_14 _)
def b_X1_carsLeft_4 (this : Option Nat) (L4_0 : (Int32 × Int32 × Mem) → Option (Int32 × Mem)) (a1 : Int32 × Int32 × Mem) : Option (Int32 × Mem) :=
  (if 512 ≤ a1.2.1 then rt a1.1 a1.2.2 else dI a1.2.2 1 6 this (fun (x3 : Int32) => (if x3 ≤ a1.2.1 then rt a1.1 a1.2.2 else dP a1.2.2 1 4 this (fun (q4 : Option Nat) => aP a1.2.2 118 q4 a1.2.1 (fun (q5 : Option Nat) => dI a1.2.2 8 7 q5 (fun (x6 : Int32) => jn (fun (x8 : Int32) (M9 : Mem) => L4_0 ((a1.1 + x8), (a1.2.1 + 1), M9)) (fun (J37_6 : Int32 → Mem → Option (Int32 × Mem)) => (if x6 = 0 then J37_6 0 a1.2.2 else J37_6 1 a1.2.2))))))))
def m_X1_carsLeft (M : Mem) (this : Option Nat) : Option (Int32 × Mem) :=
  lp (b_X1_carsLeft_4 this) FU (0, 0, M)
abbrev md_X1_carsLeft : MD := (RX1, yX1_carsLeft, cX1_carsLeft, 3, Option.some Jvm.ClassFile.FieldType.int, 0, 0)
theorem ok_X1_carsLeft : MOk md_X1_carsLeft 0 := ⟨by decide +kernel, w_683, w_2, ⟨by decide +kernel, by decide +kernel⟩, by decide +kernel, rfl⟩
set_option maxRecDepth 100000 in
set_option maxHeartbeats 4000000 in
theorem con_X1_carsLeft (κ : Cfg) (M : Mem) (this : Option Nat) : Con κ md_X1_carsLeft [rv κ this] M cvI (m_X1_carsLeft M this) := by
  refine Con.of ok_X1_carsLeft (ret_I rfl) (by
    intro v hv
    simp only [List.mem_cons, List.not_mem_nil, or_false] at hv
    subst hv; first | rfl | exact rv_cat _ _) (Nat.le_of_ble_eq_true rfl) ?_
  unfold m_X1_carsLeft
  refine G.sub (lv' := [(0, rv κ this)]) [0] rfl ?_
  refine G_iconst (v := 0) dX1_carsLeft_0 (by decide) ?_
  refine G_istore_n (lv' := [(1, .int 0), (0, rv κ this)]) dX1_carsLeft_1 rfl (Nat.le_of_ble_eq_true rfl) rfl ?_
  refine G_iconst (v := 0) dX1_carsLeft_2 (by decide) ?_
  refine G_istore_n (lv' := [(2, .int 0), (1, .int 0), (0, rv κ this)]) dX1_carsLeft_3 rfl (Nat.le_of_ble_eq_true rfl) rfl ?_
  refine G.sub (lv' := [(0, rv κ this), (1, .int 0), (2, .int 0)]) [2, 1, 0] rfl ?_
  refine G.loop (lvf := fun (a1 : Int32 × Int32 × Mem) => [(0, rv κ this), (1, .int a1.1), (2, .int a1.2.1)]) (mf := fun (a1 : Int32 × Int32 × Mem) => a1.2.2) (fun L4_0 hL4_0 a1 => ?_) FU (0, 0, M)
  unfold b_X1_carsLeft_4
  refine G_iload_n dX1_carsLeft_4 2 rfl rfl ?_
  refine G_sipush (v := 512) dX1_carsLeft_5 (by decide) ?_
  refine G_icmp_ge (tgt := 45) dX1_carsLeft_8 (by decide) ?_ ?_
  · refine G_iload_n dX1_carsLeft_45 1 rfl rfl ?_
    exact G_ret (v := a1.1) dX1_carsLeft_46 (fun h => by cases h) rfl
  · refine G_iload_n dX1_carsLeft_11 2 rfl rfl ?_
    refine G_aload_n dX1_carsLeft_12 0 rfl rfl ?_
    refine G_getI cf_X1 (j := 6) rfl w_217 dX1_carsLeft_13 (fun x3 => ?_)
    refine G_icmp_ge (tgt := 45) dX1_carsLeft_16 (by decide) ?_ ?_
    · refine G_iload_n dX1_carsLeft_45 1 rfl rfl ?_
      exact G_ret (v := a1.1) dX1_carsLeft_46 (fun h => by cases h) rfl
    · refine G_iload_n dX1_carsLeft_19 1 rfl rfl ?_
      refine G_aload_n dX1_carsLeft_20 0 rfl rfl ?_
      refine G_getP cf_X1 (j := 4) rfl w_214 dX1_carsLeft_21 (fun q4 => ?_)
      refine G_iload_n dX1_carsLeft_24 2 rfl rfl ?_
      refine G_aald (tn := 7) (fun _ => rfl) (by decide) dX1_carsLeft_25 (fun q5 => ?_)
      refine G_getI cf_X8 (j := 7) rfl w_186 dX1_carsLeft_26 (fun x6 => ?_)
      refine G.jn (P := (fun (J : Int32 → Mem → Option (Int32 × Mem)) => ∀ (x8 : Int32) (M9 : Mem), G κ md_X1_carsLeft cvI (J x8 M9) 37 [(0, rv κ this), (2, .int a1.2.1)] [.int x8, .int a1.1] M9)) ?_ ?_
      · intro x8 M9
        refine G_iadd dX1_carsLeft_37 ?_
        refine G_istore_n (lv' := [(1, .int (a1.1 + x8)), (0, rv κ this), (2, .int a1.2.1)]) dX1_carsLeft_38 rfl (Nat.le_of_ble_eq_true rfl) rfl ?_
        refine G_iinc (v := (a1.2.1 + 1)) (lv' := [(2, .int (a1.2.1 + 1)), (1, .int (a1.1 + x8)), (0, rv κ this)]) dX1_carsLeft_39 2 rfl (congrArg (fun z9 : Int32 => a1.2.1 + z9) (by decide : Int32.ofInt 1 = 1)) (Nat.le_of_ble_eq_true rfl) rfl ?_
        refine G_goto (tgt := 4) dX1_carsLeft_42 (by decide) ?_
        exact G.sub [2, 1, 0] rfl (hL4_0 _)
      · intro J37_6 hJ37_6
        refine G_if_eq (tgt := 36) dX1_carsLeft_29 (by decide) ?_ ?_
        · refine G_iconst (v := 0) dX1_carsLeft_36 (by decide) ?_
          exact G.sub [0, 2] rfl (hJ37_6 _ _)
        · refine G_iconst (v := 1) dX1_carsLeft_32 (by decide) ?_
          refine G_goto (tgt := 37) dX1_carsLeft_33 (by decide) ?_
          exact G.sub [0, 2] rfl (hJ37_6 _ _)
def m_X1_carsInside (M : Mem) (this : Option Nat) : Option (Int32 × Mem) :=
  dI M 1 6 this (fun (x1 : Int32) => rc M 1 this (cl (m_X1_carsLeft M this) (fun (x3 : Int32) (M2 : Mem) => rt ((x1 - x3)) M2)))
abbrev md_X1_carsInside : MD := (RX1, yX1_carsInside, cX1_carsInside, 1, Option.some Jvm.ClassFile.FieldType.int, 1, 22)
theorem ok_X1_carsInside : MOk md_X1_carsInside 0 := ⟨by decide +kernel, w_679, w_2, ⟨by decide +kernel, by decide +kernel⟩, by decide +kernel, rfl⟩
set_option maxRecDepth 100000 in
set_option maxHeartbeats 4000000 in
theorem con_X1_carsInside (κ : Cfg) (M : Mem) (this : Option Nat) : Con κ md_X1_carsInside [rv κ this] M cvI (m_X1_carsInside M this) := by
  refine Con.of ok_X1_carsInside (ret_I rfl) (by
    intro v hv
    simp only [List.mem_cons, List.not_mem_nil, or_false] at hv
    subst hv; first | rfl | exact rv_cat _ _) (Nat.le_of_ble_eq_true rfl) ?_
  unfold m_X1_carsInside
  refine G.sub (lv' := [(0, rv κ this)]) [0] rfl ?_
  refine G_aload_n dX1_carsInside_0 0 rfl rfl ?_
  refine G_getI cf_X1 (j := 6) rfl w_217 dX1_carsInside_1 (fun x1 => ?_)
  refine G_aload_n dX1_carsInside_4 0 rfl rfl ?_
  refine G_callV cf_X1 ok_X1_carsLeft [] [.int x1] (con_X1_carsLeft κ M this) rfl w_680 w_681 w_682 (Nat.le_of_ble_eq_true rfl) (Nat.le_of_ble_eq_true rfl) dX1_carsInside_5 rfl (by simp) (fun x3 M2 => (show G _ _ _ _ _ _ [.int x3, .int x1] _ from ?_))
  refine G_isub dX1_carsInside_8 ?_
  exact G_ret (v := ((x1 - x3))) dX1_carsInside_9 (fun h => by cases h) rfl
def m_X1_admitCar (M : Mem) (this : Option Nat) (p1 : Int32) : Option (Int32 × Mem) :=
  rc M 1 this (cl (m_X1_bestLevel M this) (fun (x2 : Int32) (M1 : Mem) => rc M1 1 this (cl (m_X1_levelAt M1 this x2) (fun (q4 : Option Nat) (M3 : Mem) => (if q4 = none then rt ((-3)) M3 else rc M3 1 this (cl (m_X1_carsInside M3 this) (fun (x6 : Int32) (M5 : Mem) => (if 40 ≤ x6 then rt ((-3)) M5 else dI M5 1 6 this (fun (x7 : Int32) => (if x7 < 512 then rc M5 3 q4 (cl (m_X3_admitCar M5 q4) (fun (_u : Unit) (M8 : Mem) => dP M8 1 4 this (fun (q9 : Option Nat) => dI M8 1 6 this (fun (x10 : Int32) => aP M8 118 q9 x10 (fun (q11 : Option Nat) => dI M8 1 7 this (fun (x12 : Int32) => rc M8 8 q11 (cl (m_X8_begin M8 q11 p1 x12 x2) (fun (_u : Unit) (M13 : Mem) => dI M13 1 6 this (fun (x14 : Int32) => pI M13 1 6 this ((x14 + 1)) (fun (M15 : Mem) => dI M15 1 6 this (fun (x16 : Int32) => rt ((x16 - 1)) M15))))))))))) else rt ((-3)) M5))))))))))
abbrev md_X1_admitCar : MD := (RX1, yX1_admitCar, cX1_admitCar, 4, Option.some Jvm.ClassFile.FieldType.int, 3, 64)
theorem ok_X1_admitCar : MOk md_X1_admitCar 1 := ⟨by decide +kernel, w_657, w_2, ⟨by decide +kernel, by decide +kernel⟩, by decide +kernel, rfl⟩
set_option maxRecDepth 100000 in
set_option maxHeartbeats 4000000 in
theorem con_X1_admitCar (κ : Cfg) (M : Mem) (this : Option Nat) (p1 : Int32) : Con κ md_X1_admitCar [rv κ this, .int p1] M cvI (m_X1_admitCar M this p1) := by
  refine Con.of ok_X1_admitCar (ret_I rfl) (by
    intro v hv
    simp only [List.mem_cons, List.not_mem_nil, or_false] at hv
    rcases hv with rfl | rfl <;> first | rfl | exact rv_cat _ _) (Nat.le_of_ble_eq_true rfl) ?_
  unfold m_X1_admitCar
  refine G.sub (lv' := [(0, rv κ this), (1, .int p1)]) [0, 1] rfl ?_
  refine G_aload_n dX1_admitCar_0 0 rfl rfl ?_
  refine G_callV cf_X1 ok_X1_bestLevel [] [] (con_X1_bestLevel κ M this) rfl w_658 w_659 w_660 (Nat.le_of_ble_eq_true rfl) (Nat.le_of_ble_eq_true rfl) dX1_admitCar_1 rfl (by simp) (fun x2 M1 => (show G _ _ _ _ _ _ [.int x2] _ from ?_))
  refine G_istore_n (lv' := [(2, .int x2), (0, rv κ this), (1, .int p1)]) dX1_admitCar_4 rfl (Nat.le_of_ble_eq_true rfl) rfl ?_
  refine G_aload_n dX1_admitCar_5 1 rfl rfl ?_
  refine G_iload_n dX1_admitCar_6 0 rfl rfl ?_
  refine G_callV cf_X1 ok_X1_levelAt [.int x2] [] (con_X1_levelAt κ M1 this x2) rfl w_672 w_673 w_674 (Nat.le_of_ble_eq_true rfl) (Nat.le_of_ble_eq_true rfl) dX1_admitCar_7 rfl (by simp) (fun q4 M3 => (show G _ _ _ _ _ _ [rv κ q4] _ from ?_))
  refine G_astore_n (lv' := [(3, rv κ q4), (2, .int x2), (0, rv κ this), (1, .int p1)]) dX1_admitCar_10 rfl (Nat.le_of_ble_eq_true rfl) rfl ?_
  refine G_aload_n dX1_admitCar_11 0 rfl rfl ?_
  refine G_ifnull (tgt := 34) dX1_admitCar_12 (by decide) ?_ ?_
  · refine G_bipush (v := (-3)) dX1_admitCar_34 (by decide) ?_
    exact G_ret (v := ((-3))) dX1_admitCar_36 (fun h => by cases h) rfl
  · refine G_aload_n dX1_admitCar_15 2 rfl rfl ?_
    refine G_callV cf_X1 ok_X1_carsInside [] [] (con_X1_carsInside κ M3 this) rfl w_676 w_677 w_678 (Nat.le_of_ble_eq_true rfl) (Nat.le_of_ble_eq_true rfl) dX1_admitCar_16 rfl (by simp) (fun x6 M5 => (show G _ _ _ _ _ _ [.int x6] _ from ?_))
    refine G_bipush (v := 40) dX1_admitCar_19 (by decide) ?_
    refine G_icmp_ge (tgt := 34) dX1_admitCar_21 (by decide) ?_ ?_
    · refine G_bipush (v := (-3)) dX1_admitCar_34 (by decide) ?_
      exact G_ret (v := ((-3))) dX1_admitCar_36 (fun h => by cases h) rfl
    · refine G_aload_n dX1_admitCar_24 2 rfl rfl ?_
      refine G_getI cf_X1 (j := 6) rfl w_217 dX1_admitCar_25 (fun x7 => ?_)
      refine G_sipush (v := 512) dX1_admitCar_28 (by decide) ?_
      refine G_icmp_lt (tgt := 37) dX1_admitCar_31 (by decide) ?_ ?_
      · refine G_aload_n dX1_admitCar_37 0 rfl rfl ?_
        refine G_callV cf_X3 ok_X3_admitCar [] [] (con_X3_admitCar κ M5 q4) rfl w_684 w_685 w_686 (Nat.le_of_ble_eq_true rfl) (Nat.le_of_ble_eq_true rfl) dX1_admitCar_38 rfl (by simp) (fun _u M8 => (show G _ _ _ _ _ _ [] _ from ?_))
        refine G_aload_n dX1_admitCar_41 2 rfl rfl ?_
        refine G_getP cf_X1 (j := 4) rfl w_214 dX1_admitCar_42 (fun q9 => ?_)
        refine G_aload_n dX1_admitCar_45 2 rfl rfl ?_
        refine G_getI cf_X1 (j := 6) rfl w_217 dX1_admitCar_46 (fun x10 => ?_)
        refine G_aald (tn := 7) (fun _ => rfl) (by decide) dX1_admitCar_49 (fun q11 => ?_)
        refine G_iload_n dX1_admitCar_50 3 rfl rfl ?_
        refine G_aload_n dX1_admitCar_51 2 rfl rfl ?_
        refine G_getI cf_X1 (j := 7) rfl w_219 dX1_admitCar_52 (fun x12 => ?_)
        refine G_iload_n dX1_admitCar_55 1 rfl rfl ?_
        refine G_callV cf_X8 ok_X8_begin [.int p1, .int x12, .int x2] [] (con_X8_begin κ M8 q11 p1 x12 x2) rfl w_688 w_689 w_690 (Nat.le_of_ble_eq_true rfl) (Nat.le_of_ble_eq_true rfl) dX1_admitCar_56 rfl (by simp) (fun _u M13 => (show G _ _ _ _ _ _ [] _ from ?_))
        refine G_aload_n dX1_admitCar_59 2 rfl rfl ?_
        refine G_dup dX1_admitCar_60 (rv_cat _ _) ?_
        refine G_getI cf_X1 (j := 6) rfl w_217 dX1_admitCar_61 (fun x14 => ?_)
        refine G_iconst (v := 1) dX1_admitCar_64 (by decide) ?_
        refine G_iadd dX1_admitCar_65 ?_
        refine G_putI cf_X1 (j := 6) rfl rfl w_217 (Or.inl rfl) dX1_admitCar_66 (fun M15 => ?_)
        refine G_aload_n dX1_admitCar_69 2 rfl rfl ?_
        refine G_getI cf_X1 (j := 6) rfl w_217 dX1_admitCar_70 (fun x16 => ?_)
        refine G_iconst (v := 1) dX1_admitCar_73 (by decide) ?_
        refine G_isub dX1_admitCar_74 ?_
        exact G_ret (v := ((x16 - 1))) dX1_admitCar_75 (fun h => by cases h) rfl
      · refine G_bipush (v := (-3)) dX1_admitCar_34 (by decide) ?_
        exact G_ret (v := ((-3))) dX1_admitCar_36 (fun h => by cases h) rfl
def m_X1_releaseCar (M : Mem) (this : Option Nat) (p1 : Option Nat) : Option (Unit × Mem) :=
  pZ M 8 7 p1 1 (fun (M1 : Mem) => dI M1 8 4 p1 (fun (x2 : Int32) => rc M1 1 this (cl (m_X1_levelAt M1 this x2) (fun (q4 : Option Nat) (M3 : Mem) => (if q4 = none then rt () M3 else rc M3 3 q4 (cl (m_X3_releaseCar M3 q4) (fun (_u : Unit) (M5 : Mem) => rt () M5)))))))
abbrev md_X1_releaseCar : MD := (RX1, yX1_releaseCar, cX1_releaseCar, 3, Option.none, 2, 43)
theorem ok_X1_releaseCar : MOk md_X1_releaseCar 1 := ⟨by decide +kernel, w_775, w_2, ⟨by decide +kernel, by decide +kernel⟩, by decide +kernel, rfl⟩
set_option maxRecDepth 100000 in
set_option maxHeartbeats 4000000 in
theorem con_X1_releaseCar (κ : Cfg) (M : Mem) (this : Option Nat) (p1 : Option Nat) : Con κ md_X1_releaseCar [rv κ this, rv κ p1] M cvV (m_X1_releaseCar M this p1) := by
  refine Con.of ok_X1_releaseCar (ret_V rfl) (by
    intro v hv
    simp only [List.mem_cons, List.not_mem_nil, or_false] at hv
    rcases hv with rfl | rfl <;> first | rfl | exact rv_cat _ _) (Nat.le_of_ble_eq_true rfl) ?_
  unfold m_X1_releaseCar
  refine G.sub (lv' := [(0, rv κ this), (1, rv κ p1)]) [0, 1] rfl ?_
  refine G_aload_n dX1_releaseCar_0 1 rfl rfl ?_
  refine G_iconst (v := 1) dX1_releaseCar_1 (by decide) ?_
  refine G_putZ cf_X8 (j := 7) rfl rfl w_186 (Or.inl rfl) dX1_releaseCar_2 (fun M1 => ?_)
  refine G_aload_n dX1_releaseCar_5 0 rfl rfl ?_
  refine G_aload_n dX1_releaseCar_6 1 rfl rfl ?_
  refine G_getI cf_X8 (j := 4) rfl w_180 dX1_releaseCar_7 (fun x2 => ?_)
  refine G_callV cf_X1 ok_X1_levelAt [.int x2] [] (con_X1_levelAt κ M1 this x2) rfl w_672 w_673 w_674 (Nat.le_of_ble_eq_true rfl) (Nat.le_of_ble_eq_true rfl) dX1_releaseCar_10 rfl (by simp) (fun q4 M3 => (show G _ _ _ _ _ _ [rv κ q4] _ from ?_))
  refine G_astore_n (lv' := [(2, rv κ q4), (0, rv κ this), (1, rv κ p1)]) dX1_releaseCar_13 rfl (Nat.le_of_ble_eq_true rfl) rfl ?_
  refine G_aload_n dX1_releaseCar_14 0 rfl rfl ?_
  refine G_ifnull (tgt := 22) dX1_releaseCar_15 (by decide) ?_ ?_
  · exact G_ret (v := ()) dX1_releaseCar_22 (fun h => by cases h) rfl
  · refine G_aload_n dX1_releaseCar_18 0 rfl rfl ?_
    refine G_callV cf_X3 ok_X3_releaseCar [] [] (con_X3_releaseCar κ M3 q4) rfl w_776 w_777 w_778 (Nat.le_of_ble_eq_true rfl) (Nat.le_of_ble_eq_true rfl) dX1_releaseCar_19 rfl (by simp) (fun _u M5 => (show G _ _ _ _ _ _ [] _ from ?_))
    exact G_ret (v := ()) dX1_releaseCar_22 (fun h => by cases h) rfl
def m_X1_amountOfLost (M : Mem) (this : Option Nat) (p1 : Option Nat) (p2 : Int32) : Option (Int32 × Mem) :=
  dI M 8 2 p1 (fun (x1 : Int32) => rc M 1 this (cl (m_X1_planAt M this x1) (fun (q3 : Option Nat) (M2 : Mem) => (if q3 ≠ none then dI M2 5 5 q3 (fun (x4 : Int32) => dI M2 8 3 p1 (fun (x5 : Int32) => rc M2 5 q3 (cl (m_X5_feeOfStay M2 q3 x5 p2) (fun (x7 : Int32) (M6 : Mem) => rt ((imax x4 x7)) M6)))) else rt 0 M2))))
abbrev md_X1_amountOfLost : MD := (RX1, yX1_amountOfLost, cX1_amountOfLost, 4, Option.some Jvm.ClassFile.FieldType.int, 4, 88)
theorem ok_X1_amountOfLost : MOk md_X1_amountOfLost 2 := ⟨by decide +kernel, w_724, w_2, ⟨by decide +kernel, by decide +kernel⟩, by decide +kernel, rfl⟩
set_option maxRecDepth 100000 in
set_option maxHeartbeats 4000000 in
theorem con_X1_amountOfLost (κ : Cfg) (M : Mem) (this : Option Nat) (p1 : Option Nat) (p2 : Int32) : Con κ md_X1_amountOfLost [rv κ this, rv κ p1, .int p2] M cvI (m_X1_amountOfLost M this p1 p2) := by
  refine Con.of ok_X1_amountOfLost (ret_I rfl) (by
    intro v hv
    simp only [List.mem_cons, List.not_mem_nil, or_false] at hv
    rcases hv with rfl | rfl | rfl <;> first | rfl | exact rv_cat _ _) (Nat.le_of_ble_eq_true rfl) ?_
  unfold m_X1_amountOfLost
  refine G.sub (lv' := [(0, rv κ this), (1, rv κ p1), (2, .int p2)]) [0, 1, 2] rfl ?_
  refine G_aload_n dX1_amountOfLost_0 0 rfl rfl ?_
  refine G_aload_n dX1_amountOfLost_1 1 rfl rfl ?_
  refine G_getI cf_X8 (j := 2) rfl w_176 dX1_amountOfLost_2 (fun x1 => ?_)
  refine G_callV cf_X1 ok_X1_planAt [.int x1] [] (con_X1_planAt κ M this x1) rfl w_725 w_335 w_336 (Nat.le_of_ble_eq_true rfl) (Nat.le_of_ble_eq_true rfl) dX1_amountOfLost_5 rfl (by simp) (fun q3 M2 => (show G _ _ _ _ _ _ [rv κ q3] _ from ?_))
  refine G_astore_n (lv' := [(3, rv κ q3), (0, rv κ this), (1, rv κ p1), (2, .int p2)]) dX1_amountOfLost_8 rfl (Nat.le_of_ble_eq_true rfl) rfl ?_
  refine G_aload_n dX1_amountOfLost_9 0 rfl rfl ?_
  refine G_ifnonnull (tgt := 15) dX1_amountOfLost_10 (by decide) ?_ ?_
  · refine G_aload_n dX1_amountOfLost_15 0 rfl rfl ?_
    refine G_getI cf_X5 (j := 5) rfl w_94 dX1_amountOfLost_16 (fun x4 => ?_)
    refine G_aload_n dX1_amountOfLost_19 0 rfl rfl ?_
    refine G_aload_n dX1_amountOfLost_20 2 rfl rfl ?_
    refine G_getI cf_X8 (j := 3) rfl w_178 dX1_amountOfLost_21 (fun x5 => ?_)
    refine G_iload_n dX1_amountOfLost_24 3 rfl rfl ?_
    refine G_callV cf_X5 ok_X5_feeOfStay [.int x5, .int p2] [.int x4] (con_X5_feeOfStay κ M2 q3 x5 p2) rfl w_726 w_500 w_501 (Nat.le_of_ble_eq_true rfl) (Nat.le_of_ble_eq_true rfl) dX1_amountOfLost_25 rfl (by simp) (fun x7 M6 => (show G _ _ _ _ _ _ [.int x7, .int x4] _ from ?_))
    refine G_max w_727 w_573 w_17 w_574 (Nat.le_of_ble_eq_true rfl) (Nat.le_of_ble_eq_true rfl) (by simp) dX1_amountOfLost_28 ?_
    exact G_ret (v := ((imax x4 x7))) dX1_amountOfLost_31 (fun h => by cases h) rfl
  · refine G_iconst (v := 0) dX1_amountOfLost_13 (by decide) ?_
    exact G_ret (v := 0) dX1_amountOfLost_14 (fun h => by cases h) rfl
def b_X1_minutesGiven_4 (this : Option Nat) (p1 : Option Nat) (L4_0 : (Int32 × Int32 × Mem) → Option (Int32 × Mem)) (a1 : Int32 × Int32 × Mem) : Option (Int32 × Mem) :=
  dI a1.2.2 8 1 p1 (fun (x3 : Int32) => (if x3 ≤ a1.2.1 then rt a1.1 a1.2.2 else rc a1.2.2 8 p1 (cl (m_X8_voucherNumber a1.2.2 p1 a1.2.1) (fun (x5 : Int32) (M4 : Mem) => rc M4 1 this (cl (m_X1_voucherAt M4 this x5) (fun (q7 : Option Nat) (M6 : Mem) => jn (fun (x9 : Int32) (M10 : Mem) => L4_0 (x9, (a1.2.1 + 1), M10)) (fun (J44_7 : Int32 → Mem → Option (Int32 × Mem)) => (if q7 = none then J44_7 a1.1 M6 else dI M6 9 0 q7 (fun (x11 : Int32) => (if x11 ≠ 0 then J44_7 a1.1 M6 else dI M6 9 1 q7 (fun (x12 : Int32) => J44_7 ((a1.1 + x12)) M6)))))))))))
def m_X1_minutesGiven (M : Mem) (this : Option Nat) (p1 : Option Nat) : Option (Int32 × Mem) :=
  lp (b_X1_minutesGiven_4 this p1) FU (0, 0, M)
abbrev md_X1_minutesGiven : MD := (RX1, yX1_minutesGiven, cX1_minutesGiven, 5, Option.some Jvm.ClassFile.FieldType.int, 2, 44)
theorem ok_X1_minutesGiven : MOk md_X1_minutesGiven 1 := ⟨by decide +kernel, w_739, w_2, ⟨by decide +kernel, by decide +kernel⟩, by decide +kernel, rfl⟩
set_option maxRecDepth 100000 in
set_option maxHeartbeats 4000000 in
theorem con_X1_minutesGiven (κ : Cfg) (M : Mem) (this : Option Nat) (p1 : Option Nat) : Con κ md_X1_minutesGiven [rv κ this, rv κ p1] M cvI (m_X1_minutesGiven M this p1) := by
  refine Con.of ok_X1_minutesGiven (ret_I rfl) (by
    intro v hv
    simp only [List.mem_cons, List.not_mem_nil, or_false] at hv
    rcases hv with rfl | rfl <;> first | rfl | exact rv_cat _ _) (Nat.le_of_ble_eq_true rfl) ?_
  unfold m_X1_minutesGiven
  refine G.sub (lv' := [(0, rv κ this), (1, rv κ p1)]) [0, 1] rfl ?_
  refine G_iconst (v := 0) dX1_minutesGiven_0 (by decide) ?_
  refine G_istore_n (lv' := [(2, .int 0), (0, rv κ this), (1, rv κ p1)]) dX1_minutesGiven_1 rfl (Nat.le_of_ble_eq_true rfl) rfl ?_
  refine G_iconst (v := 0) dX1_minutesGiven_2 (by decide) ?_
  refine G_istore_n (lv' := [(3, .int 0), (2, .int 0), (0, rv κ this), (1, rv κ p1)]) dX1_minutesGiven_3 rfl (Nat.le_of_ble_eq_true rfl) rfl ?_
  refine G.sub (lv' := [(0, rv κ this), (1, rv κ p1), (2, .int 0), (3, .int 0)]) [2, 3, 1, 0] rfl ?_
  refine G.loop (lvf := fun (a1 : Int32 × Int32 × Mem) => [(0, rv κ this), (1, rv κ p1), (2, .int a1.1), (3, .int a1.2.1)]) (mf := fun (a1 : Int32 × Int32 × Mem) => a1.2.2) (fun L4_0 hL4_0 a1 => ?_) FU (0, 0, M)
  unfold b_X1_minutesGiven_4
  refine G_iload_n dX1_minutesGiven_4 3 rfl rfl ?_
  refine G_aload_n dX1_minutesGiven_5 1 rfl rfl ?_
  refine G_getI cf_X8 (j := 1) rfl w_174 dX1_minutesGiven_6 (fun x3 => ?_)
  refine G_icmp_ge (tgt := 50) dX1_minutesGiven_9 (by decide) ?_ ?_
  · refine G_iload_n dX1_minutesGiven_50 2 rfl rfl ?_
    exact G_ret (v := a1.1) dX1_minutesGiven_51 (fun h => by cases h) rfl
  · refine G_aload_n dX1_minutesGiven_12 0 rfl rfl ?_
    refine G_aload_n dX1_minutesGiven_13 1 rfl rfl ?_
    refine G_iload_n dX1_minutesGiven_14 3 rfl rfl ?_
    refine G_callV cf_X8 ok_X8_voucherNumber [.int a1.2.1] [rv κ this] (con_X8_voucherNumber κ a1.2.2 p1 a1.2.1) rfl w_740 w_741 w_742 (Nat.le_of_ble_eq_true rfl) (Nat.le_of_ble_eq_true rfl) dX1_minutesGiven_15 rfl (by simp) (fun x5 M4 => (show G _ _ _ _ _ _ [.int x5, rv κ this] _ from ?_))
    refine G_callV cf_X1 ok_X1_voucherAt [.int x5] [] (con_X1_voucherAt κ M4 this x5) rfl w_745 w_592 w_593 (Nat.le_of_ble_eq_true rfl) (Nat.le_of_ble_eq_true rfl) dX1_minutesGiven_18 rfl (by simp) (fun q7 M6 => (show G _ _ _ _ _ _ [rv κ q7] _ from ?_))
    refine G_astore (lv' := [(4, rv κ q7), (0, rv κ this), (1, rv κ p1), (2, .int a1.1), (3, .int a1.2.1)]) dX1_minutesGiven_21 (Nat.le_of_ble_eq_true rfl) rfl ?_
    refine G_aload dX1_minutesGiven_23 0 rfl ?_
    refine G.jn (P := (fun (J : Int32 → Mem → Option (Int32 × Mem)) => ∀ (x9 : Int32) (M10 : Mem), G κ md_X1_minutesGiven cvI (J x9 M10) 44 [(0, rv κ this), (1, rv κ p1), (2, .int x9), (3, .int a1.2.1)] [] M10)) ?_ ?_
    · intro x9 M10
      refine G_iinc (v := (a1.2.1 + 1)) (lv' := [(3, .int (a1.2.1 + 1)), (0, rv κ this), (1, rv κ p1), (2, .int x9)]) dX1_minutesGiven_44 3 rfl (congrArg (fun z9 : Int32 => a1.2.1 + z9) (by decide : Int32.ofInt 1 = 1)) (Nat.le_of_ble_eq_true rfl) rfl ?_
      refine G_goto (tgt := 4) dX1_minutesGiven_47 (by decide) ?_
      exact G.sub [1, 2, 3, 0] rfl (hL4_0 _)
    · intro J44_7 hJ44_7
      refine G_ifnull (tgt := 44) dX1_minutesGiven_25 (by decide) ?_ ?_
      · exact G.sub [1, 2, 3, 4] rfl (hJ44_7 _ _)
      · refine G_aload dX1_minutesGiven_28 0 rfl ?_
        refine G_getI cf_X9 (j := 0) rfl w_115 dX1_minutesGiven_30 (fun x11 => ?_)
        refine G_if_ne (tgt := 44) dX1_minutesGiven_33 (by decide) ?_ ?_
        · exact G.sub [1, 2, 3, 4] rfl (hJ44_7 _ _)
        · refine G_iload_n dX1_minutesGiven_36 3 rfl rfl ?_
          refine G_aload dX1_minutesGiven_37 0 rfl ?_
          refine G_getI cf_X9 (j := 1) rfl w_117 dX1_minutesGiven_39 (fun x12 => ?_)
          refine G_iadd dX1_minutesGiven_42 ?_
          refine G_istore_n (lv' := [(2, .int (a1.1 + x12)), (4, rv κ q7), (0, rv κ this), (1, rv κ p1), (3, .int a1.2.1)]) dX1_minutesGiven_43 rfl (Nat.le_of_ble_eq_true rfl) rfl ?_
          exact G.sub [2, 3, 0, 4] rfl (hJ44_7 _ _)
def m_X1_feeOfShortenedStay (M : Mem) (this : Option Nat) (p1 : Option Nat) (p2 : Int32) : Option (Int32 × Mem) :=
  dI M 8 2 p1 (fun (x1 : Int32) => rc M 1 this (cl (m_X1_planAt M this x1) (fun (q3 : Option Nat) (M2 : Mem) => dI M2 8 3 p1 (fun (x4 : Int32) => rc M2 1 this (cl (m_X1_minutesGiven M2 this p1) (fun (x6 : Int32) (M5 : Mem) => (if q3 = none then rt 0 M5 else (if (x4 + x6) < p2 then rc M5 5 q3 (cl (m_X5_feeOfStay M5 q3 ((x4 + x6)) p2) (fun (x8 : Int32) (M7 : Mem) => rt x8 M7)) else rt 0 M5))))))))
abbrev md_X1_feeOfShortenedStay : MD := (RX1, yX1_feeOfShortenedStay, cX1_feeOfShortenedStay, 5, Option.some Jvm.ClassFile.FieldType.int, 4, 88)
theorem ok_X1_feeOfShortenedStay : MOk md_X1_feeOfShortenedStay 2 := ⟨by decide +kernel, w_735, w_2, ⟨by decide +kernel, by decide +kernel⟩, by decide +kernel, rfl⟩
set_option maxRecDepth 100000 in
set_option maxHeartbeats 4000000 in
theorem con_X1_feeOfShortenedStay (κ : Cfg) (M : Mem) (this : Option Nat) (p1 : Option Nat) (p2 : Int32) : Con κ md_X1_feeOfShortenedStay [rv κ this, rv κ p1, .int p2] M cvI (m_X1_feeOfShortenedStay M this p1 p2) := by
  refine Con.of ok_X1_feeOfShortenedStay (ret_I rfl) (by
    intro v hv
    simp only [List.mem_cons, List.not_mem_nil, or_false] at hv
    rcases hv with rfl | rfl | rfl <;> first | rfl | exact rv_cat _ _) (Nat.le_of_ble_eq_true rfl) ?_
  unfold m_X1_feeOfShortenedStay
  refine G.sub (lv' := [(0, rv κ this), (1, rv κ p1), (2, .int p2)]) [0, 1, 2] rfl ?_
  refine G_aload_n dX1_feeOfShortenedStay_0 0 rfl rfl ?_
  refine G_aload_n dX1_feeOfShortenedStay_1 1 rfl rfl ?_
  refine G_getI cf_X8 (j := 2) rfl w_176 dX1_feeOfShortenedStay_2 (fun x1 => ?_)
  refine G_callV cf_X1 ok_X1_planAt [.int x1] [] (con_X1_planAt κ M this x1) rfl w_725 w_335 w_336 (Nat.le_of_ble_eq_true rfl) (Nat.le_of_ble_eq_true rfl) dX1_feeOfShortenedStay_5 rfl (by simp) (fun q3 M2 => (show G _ _ _ _ _ _ [rv κ q3] _ from ?_))
  refine G_astore_n (lv' := [(3, rv κ q3), (0, rv κ this), (1, rv κ p1), (2, .int p2)]) dX1_feeOfShortenedStay_8 rfl (Nat.le_of_ble_eq_true rfl) rfl ?_
  refine G_aload_n dX1_feeOfShortenedStay_9 2 rfl rfl ?_
  refine G_getI cf_X8 (j := 3) rfl w_178 dX1_feeOfShortenedStay_10 (fun x4 => ?_)
  refine G_aload_n dX1_feeOfShortenedStay_13 1 rfl rfl ?_
  refine G_aload_n dX1_feeOfShortenedStay_14 2 rfl rfl ?_
  refine G_callV cf_X1 ok_X1_minutesGiven [rv κ p1] [.int x4] (con_X1_minutesGiven κ M2 this p1) rfl w_736 w_737 w_738 (Nat.le_of_ble_eq_true rfl) (Nat.le_of_ble_eq_true rfl) dX1_feeOfShortenedStay_15 rfl (by simp) (fun x6 M5 => (show G _ _ _ _ _ _ [.int x6, .int x4] _ from ?_))
  refine G_iadd dX1_feeOfShortenedStay_18 ?_
  refine G_istore (lv' := [(4, .int (x4 + x6)), (3, rv κ q3), (0, rv κ this), (1, rv κ p1), (2, .int p2)]) dX1_feeOfShortenedStay_19 (Nat.le_of_ble_eq_true rfl) rfl ?_
  refine G_aload_n dX1_feeOfShortenedStay_21 1 rfl rfl ?_
  refine G_ifnull (tgt := 31) dX1_feeOfShortenedStay_22 (by decide) ?_ ?_
  · refine G_iconst (v := 0) dX1_feeOfShortenedStay_31 (by decide) ?_
    refine G_goto (tgt := 42) dX1_feeOfShortenedStay_32 (by decide) ?_
    exact G_ret (v := 0) dX1_feeOfShortenedStay_42 (fun h => by cases h) rfl
  · refine G_iload dX1_feeOfShortenedStay_25 0 rfl ?_
    refine G_iload_n dX1_feeOfShortenedStay_27 4 rfl rfl ?_
    refine G_icmp_lt (tgt := 35) dX1_feeOfShortenedStay_28 (by decide) ?_ ?_
    · refine G_aload_n dX1_feeOfShortenedStay_35 1 rfl rfl ?_
      refine G_iload dX1_feeOfShortenedStay_36 0 rfl ?_
      refine G_iload_n dX1_feeOfShortenedStay_38 4 rfl rfl ?_
      refine G_callV cf_X5 ok_X5_feeOfStay [.int (x4 + x6), .int p2] [] (con_X5_feeOfStay κ M5 q3 ((x4 + x6)) p2) rfl w_726 w_500 w_501 (Nat.le_of_ble_eq_true rfl) (Nat.le_of_ble_eq_true rfl) dX1_feeOfShortenedStay_39 rfl (by simp) (fun x8 M7 => (show G _ _ _ _ _ _ [.int x8] _ from ?_))
      exact G_ret (v := x8) dX1_feeOfShortenedStay_42 (fun h => by cases h) rfl
    · refine G_iconst (v := 0) dX1_feeOfShortenedStay_31 (by decide) ?_
      refine G_goto (tgt := 42) dX1_feeOfShortenedStay_32 (by decide) ?_
      exact G_ret (v := 0) dX1_feeOfShortenedStay_42 (fun h => by cases h) rfl
def b_X1_amountAfter_14 (this : Option Nat) (p1 : Option Nat) (p3 : Int32) (J72_2 : Int32 → Mem → Option (Int32 × Mem)) (L14_5 : (Int32 × Int32 × Int32 × Mem) → Option (Int32 × Mem)) (a6 : Int32 × Int32 × Int32 × Mem) : Option (Int32 × Mem) :=
  dI a6.2.2.2 8 1 p1 (fun (x8 : Int32) => (if x8 ≤ a6.2.2.1 then J72_2 a6.1 a6.2.2.2 else (if p3 ≤ a6.2.1 then J72_2 a6.1 a6.2.2.2 else rc a6.2.2.2 8 p1 (cl (m_X8_voucherNumber a6.2.2.2 p1 a6.2.2.1) (fun (x10 : Int32) (M9 : Mem) => rc M9 1 this (cl (m_X1_voucherAt M9 this x10) (fun (q12 : Option Nat) (M11 : Mem) => jn (fun (x14 : Int32) (x15 : Int32) (M16 : Mem) => L14_5 (x14, x15, (a6.2.2.1 + 1), M16)) (fun (J66_12 : Int32 → Int32 → Mem → Option (Int32 × Mem)) => (if q12 = none then J66_12 a6.1 a6.2.1 M11 else dI M11 9 0 q12 (fun (x17 : Int32) => (if x17 = 0 then J66_12 a6.1 a6.2.1 M11 else rc M11 9 q12 (cl (m_X9_reduce M11 q12 a6.1) (fun (x19 : Int32) (M18 : Mem) => J66_12 x19 ((a6.2.1 + 1)) M18)))))))))))))
def m_X1_amountAfter (M : Mem) (this : Option Nat) (p1 : Option Nat) (p2 : Int32) (p3 : Int32) : Option (Int32 × Mem) :=
  rc M 1 this (cl (m_X1_feeOfShortenedStay M this p1 p2) (fun (x2 : Int32) (M1 : Mem) => jn (fun (x4 : Int32) (M5 : Mem) => rt x4 M5) (fun (J72_2 : Int32 → Mem → Option (Int32 × Mem)) => lp (b_X1_amountAfter_14 this p1 p3 J72_2) FU (x2, 0, 0, M1))))
abbrev md_X1_amountAfter : MD := (RX1, yX1_amountAfter, cX1_amountAfter, 8, Option.some Jvm.ClassFile.FieldType.int, 5, 112)
theorem ok_X1_amountAfter : MOk md_X1_amountAfter 3 := ⟨by decide +kernel, w_731, w_2, ⟨by decide +kernel, by decide +kernel⟩, by decide +kernel, rfl⟩
set_option maxRecDepth 100000 in
set_option maxHeartbeats 4000000 in
theorem con_X1_amountAfter (κ : Cfg) (M : Mem) (this : Option Nat) (p1 : Option Nat) (p2 : Int32) (p3 : Int32) : Con κ md_X1_amountAfter [rv κ this, rv κ p1, .int p2, .int p3] M cvI (m_X1_amountAfter M this p1 p2 p3) := by
  refine Con.of ok_X1_amountAfter (ret_I rfl) (by
    intro v hv
    simp only [List.mem_cons, List.not_mem_nil, or_false] at hv
    rcases hv with rfl | rfl | rfl | rfl <;> first | rfl | exact rv_cat _ _) (Nat.le_of_ble_eq_true rfl) ?_
  unfold m_X1_amountAfter
  refine G.sub (lv' := [(0, rv κ this), (1, rv κ p1), (2, .int p2), (3, .int p3)]) [0, 1, 2, 3] rfl ?_
  refine G_aload_n dX1_amountAfter_0 0 rfl rfl ?_
  refine G_aload_n dX1_amountAfter_1 1 rfl rfl ?_
  refine G_iload_n dX1_amountAfter_2 2 rfl rfl ?_
  refine G_callV cf_X1 ok_X1_feeOfShortenedStay [rv κ p1, .int p2] [] (con_X1_feeOfShortenedStay κ M this p1 p2) rfl w_732 w_733 w_734 (Nat.le_of_ble_eq_true rfl) (Nat.le_of_ble_eq_true rfl) dX1_amountAfter_3 rfl (by simp) (fun x2 M1 => (show G _ _ _ _ _ _ [.int x2] _ from ?_))
  refine G_istore (lv' := [(4, .int x2), (0, rv κ this), (1, rv κ p1), (2, .int p2), (3, .int p3)]) dX1_amountAfter_6 (Nat.le_of_ble_eq_true rfl) rfl ?_
  refine G_iconst (v := 0) dX1_amountAfter_8 (by decide) ?_
  refine G_istore (lv' := [(5, .int 0), (4, .int x2), (0, rv κ this), (1, rv κ p1), (2, .int p2), (3, .int p3)]) dX1_amountAfter_9 (Nat.le_of_ble_eq_true rfl) rfl ?_
  refine G_iconst (v := 0) dX1_amountAfter_11 (by decide) ?_
  refine G_istore (lv' := [(6, .int 0), (5, .int 0), (4, .int x2), (0, rv κ this), (1, rv κ p1), (2, .int p2), (3, .int p3)]) dX1_amountAfter_12 (Nat.le_of_ble_eq_true rfl) rfl ?_
  refine G.jn (P := (fun (J : Int32 → Mem → Option (Int32 × Mem)) => ∀ (x4 : Int32) (M5 : Mem), G κ md_X1_amountAfter cvI (J x4 M5) 72 [(4, .int x4)] [] M5)) ?_ ?_
  · intro x4 M5
    refine G_iload dX1_amountAfter_72 0 rfl ?_
    exact G_ret (v := x4) dX1_amountAfter_74 (fun h => by cases h) rfl
  · intro J72_2 hJ72_2
    refine G.sub (lv' := [(0, rv κ this), (1, rv κ p1), (3, .int p3), (4, .int x2), (5, .int 0), (6, .int 0)]) [3, 4, 6, 2, 1, 0] rfl ?_
    refine G.loop (lvf := fun (a6 : Int32 × Int32 × Int32 × Mem) => [(0, rv κ this), (1, rv κ p1), (3, .int p3), (4, .int a6.1), (5, .int a6.2.1), (6, .int a6.2.2.1)]) (mf := fun (a6 : Int32 × Int32 × Int32 × Mem) => a6.2.2.2) (fun L14_5 hL14_5 a6 => ?_) FU (x2, 0, 0, M1)
    unfold b_X1_amountAfter_14
    refine G_iload dX1_amountAfter_14 5 rfl ?_
    refine G_aload_n dX1_amountAfter_16 1 rfl rfl ?_
    refine G_getI cf_X8 (j := 1) rfl w_174 dX1_amountAfter_17 (fun x8 => ?_)
    refine G_icmp_ge (tgt := 72) dX1_amountAfter_20 (by decide) ?_ ?_
    · exact G.sub [3] rfl (hJ72_2 _ _)
    · refine G_iload dX1_amountAfter_23 4 rfl ?_
      refine G_iload_n dX1_amountAfter_25 2 rfl rfl ?_
      refine G_icmp_ge (tgt := 72) dX1_amountAfter_26 (by decide) ?_ ?_
      · exact G.sub [3] rfl (hJ72_2 _ _)
      · refine G_aload_n dX1_amountAfter_29 0 rfl rfl ?_
        refine G_aload_n dX1_amountAfter_30 1 rfl rfl ?_
        refine G_iload dX1_amountAfter_31 5 rfl ?_
        refine G_callV cf_X8 ok_X8_voucherNumber [.int a6.2.2.1] [rv κ this] (con_X8_voucherNumber κ a6.2.2.2 p1 a6.2.2.1) rfl w_740 w_741 w_742 (Nat.le_of_ble_eq_true rfl) (Nat.le_of_ble_eq_true rfl) dX1_amountAfter_33 rfl (by simp) (fun x10 M9 => (show G _ _ _ _ _ _ [.int x10, rv κ this] _ from ?_))
        refine G_callV cf_X1 ok_X1_voucherAt [.int x10] [] (con_X1_voucherAt κ M9 this x10) rfl w_745 w_592 w_593 (Nat.le_of_ble_eq_true rfl) (Nat.le_of_ble_eq_true rfl) dX1_amountAfter_36 rfl (by simp) (fun q12 M11 => (show G _ _ _ _ _ _ [rv κ q12] _ from ?_))
        refine G_astore (lv' := [(7, rv κ q12), (0, rv κ this), (1, rv κ p1), (3, .int p3), (4, .int a6.1), (5, .int a6.2.1), (6, .int a6.2.2.1)]) dX1_amountAfter_39 (Nat.le_of_ble_eq_true rfl) rfl ?_
        refine G_aload dX1_amountAfter_41 0 rfl ?_
        refine G.jn (P := (fun (J : Int32 → Int32 → Mem → Option (Int32 × Mem)) => ∀ (x14 : Int32) (x15 : Int32) (M16 : Mem), G κ md_X1_amountAfter cvI (J x14 x15 M16) 66 [(0, rv κ this), (1, rv κ p1), (3, .int p3), (4, .int x14), (5, .int x15), (6, .int a6.2.2.1)] [] M16)) ?_ ?_
        · intro x14 x15 M16
          refine G_iinc (v := (a6.2.2.1 + 1)) (lv' := [(6, .int (a6.2.2.1 + 1)), (0, rv κ this), (1, rv κ p1), (3, .int p3), (4, .int x14), (5, .int x15)]) dX1_amountAfter_66 5 rfl (congrArg (fun z9 : Int32 => a6.2.2.1 + z9) (by decide : Int32.ofInt 1 = 1)) (Nat.le_of_ble_eq_true rfl) rfl ?_
          refine G_goto (tgt := 14) dX1_amountAfter_69 (by decide) ?_
          exact G.sub [1, 2, 3, 4, 5, 0] rfl (hL14_5 _)
        · intro J66_12 hJ66_12
          refine G_ifnull (tgt := 66) dX1_amountAfter_43 (by decide) ?_ ?_
          · exact G.sub [1, 2, 3, 4, 5, 6] rfl (hJ66_12 _ _ _)
          · refine G_aload dX1_amountAfter_46 0 rfl ?_
            refine G_getI cf_X9 (j := 0) rfl w_115 dX1_amountAfter_48 (fun x17 => ?_)
            refine G_if_eq (tgt := 66) dX1_amountAfter_51 (by decide) ?_ ?_
            · exact G.sub [1, 2, 3, 4, 5, 6] rfl (hJ66_12 _ _ _)
            · refine G_aload dX1_amountAfter_54 0 rfl ?_
              refine G_iload dX1_amountAfter_56 4 rfl ?_
              refine G_callV cf_X9 ok_X9_reduce [.int a6.1] [] (con_X9_reduce κ M11 q12 a6.1) rfl w_746 w_747 w_748 (Nat.le_of_ble_eq_true rfl) (Nat.le_of_ble_eq_true rfl) dX1_amountAfter_58 rfl (by simp) (fun x19 M18 => (show G _ _ _ _ _ _ [.int x19] _ from ?_))
              refine G_istore (lv' := [(4, .int x19), (7, rv κ q12), (0, rv κ this), (1, rv κ p1), (3, .int p3), (5, .int a6.2.1), (6, .int a6.2.2.1)]) dX1_amountAfter_61 (Nat.le_of_ble_eq_true rfl) rfl ?_
              refine G_iinc (v := (a6.2.1 + 1)) (lv' := [(5, .int (a6.2.1 + 1)), (4, .int x19), (7, rv κ q12), (0, rv κ this), (1, rv κ p1), (3, .int p3), (6, .int a6.2.2.1)]) dX1_amountAfter_63 5 rfl (congrArg (fun z9 : Int32 => a6.2.1 + z9) (by decide : Int32.ofInt 1 = 1)) (Nat.le_of_ble_eq_true rfl) rfl ?_
              exact G.sub [3, 4, 5, 1, 0, 6] rfl (hJ66_12 _ _ _)
def m_X1_dueAmount (M : Mem) (this : Option Nat) (p1 : Option Nat) (p2 : Int32) : Option (Int32 × Mem) :=
  dI M 8 8 p1 (fun (x1 : Int32) => jn (fun (x3 : Int32) (M4 : Mem) => dI M4 8 5 p1 (fun (x5 : Int32) => rt ((imax 0 ((x3 - x5)))) M4)) (fun (J23_1 : Int32 → Mem → Option (Int32 × Mem)) => (if x1 = 0 then rc M 1 this (cl (m_X1_amountAfter M this p1 p2 4) (fun (x7 : Int32) (M6 : Mem) => J23_1 x7 M6)) else rc M 1 this (cl (m_X1_amountOfLost M this p1 p2) (fun (x9 : Int32) (M8 : Mem) => J23_1 x9 M8)))))
abbrev md_X1_dueAmount : MD := (RX1, yX1_dueAmount, cX1_dueAmount, 4, Option.some Jvm.ClassFile.FieldType.int, 6, 139)
theorem ok_X1_dueAmount : MOk md_X1_dueAmount 2 := ⟨by decide +kernel, w_720, w_2, ⟨by decide +kernel, by decide +kernel⟩, by decide +kernel, rfl⟩
set_option maxRecDepth 100000 in
set_option maxHeartbeats 4000000 in
theorem con_X1_dueAmount (κ : Cfg) (M : Mem) (this : Option Nat) (p1 : Option Nat) (p2 : Int32) : Con κ md_X1_dueAmount [rv κ this, rv κ p1, .int p2] M cvI (m_X1_dueAmount M this p1 p2) := by
  refine Con.of ok_X1_dueAmount (ret_I rfl) (by
    intro v hv
    simp only [List.mem_cons, List.not_mem_nil, or_false] at hv
    rcases hv with rfl | rfl | rfl <;> first | rfl | exact rv_cat _ _) (Nat.le_of_ble_eq_true rfl) ?_
  unfold m_X1_dueAmount
  refine G.sub (lv' := [(0, rv κ this), (1, rv κ p1), (2, .int p2)]) [0, 1, 2] rfl ?_
  refine G_aload_n dX1_dueAmount_0 1 rfl rfl ?_
  refine G_getI cf_X8 (j := 8) rfl w_188 dX1_dueAmount_1 (fun x1 => ?_)
  refine G.jn (P := (fun (J : Int32 → Mem → Option (Int32 × Mem)) => ∀ (x3 : Int32) (M4 : Mem), G κ md_X1_dueAmount cvI (J x3 M4) 23 [(1, rv κ p1)] [.int x3] M4)) ?_ ?_
  · intro x3 M4
    refine G_istore_n (lv' := [(3, .int x3), (1, rv κ p1)]) dX1_dueAmount_23 rfl (Nat.le_of_ble_eq_true rfl) rfl ?_
    refine G_iconst (v := 0) dX1_dueAmount_24 (by decide) ?_
    refine G_iload_n dX1_dueAmount_25 0 rfl rfl ?_
    refine G_aload_n dX1_dueAmount_26 1 rfl rfl ?_
    refine G_getI cf_X8 (j := 5) rfl w_182 dX1_dueAmount_27 (fun x5 => ?_)
    refine G_isub dX1_dueAmount_30 ?_
    refine G_max w_727 w_573 w_17 w_574 (Nat.le_of_ble_eq_true rfl) (Nat.le_of_ble_eq_true rfl) (by simp) dX1_dueAmount_31 ?_
    exact G_ret (v := ((imax 0 ((x3 - x5))))) dX1_dueAmount_34 (fun h => by cases h) rfl
  · intro J23_1 hJ23_1
    refine G_if_eq (tgt := 16) dX1_dueAmount_4 (by decide) ?_ ?_
    · refine G_aload_n dX1_dueAmount_16 0 rfl rfl ?_
      refine G_aload_n dX1_dueAmount_17 1 rfl rfl ?_
      refine G_iload_n dX1_dueAmount_18 2 rfl rfl ?_
      refine G_iconst (v := 4) dX1_dueAmount_19 (by decide) ?_
      refine G_callV cf_X1 ok_X1_amountAfter [rv κ p1, .int p2, .int 4] [] (con_X1_amountAfter κ M this p1 p2 4) rfl w_728 w_729 w_730 (Nat.le_of_ble_eq_true rfl) (Nat.le_of_ble_eq_true rfl) dX1_dueAmount_20 rfl (by simp) (fun x7 M6 => (show G _ _ _ _ _ _ [.int x7] _ from ?_))
      exact G.sub [1] rfl (hJ23_1 _ _)
    · refine G_aload_n dX1_dueAmount_7 0 rfl rfl ?_
      refine G_aload_n dX1_dueAmount_8 1 rfl rfl ?_
      refine G_iload_n dX1_dueAmount_9 2 rfl rfl ?_
      refine G_callV cf_X1 ok_X1_amountOfLost [rv κ p1, .int p2] [] (con_X1_amountOfLost κ M this p1 p2) rfl w_721 w_722 w_723 (Nat.le_of_ble_eq_true rfl) (Nat.le_of_ble_eq_true rfl) dX1_dueAmount_10 rfl (by simp) (fun x9 M8 => (show G _ _ _ _ _ _ [.int x9] _ from ?_))
      refine G_goto (tgt := 23) dX1_dueAmount_13 (by decide) ?_
      exact G.sub [1] rfl (hJ23_1 _ _)
def b_X1_lastStep_4 (this : Option Nat) (p1 : Option Nat) (L4_0 : (Int32 × Int32 × Mem) → Option (Int32 × Mem)) (a1 : Int32 × Int32 × Mem) : Option (Int32 × Mem) :=
  dI a1.2.2 8 1 p1 (fun (x3 : Int32) => (if x3 ≤ a1.2.1 then rt a1.1 a1.2.2 else rc a1.2.2 8 p1 (cl (m_X8_voucherNumber a1.2.2 p1 a1.2.1) (fun (x5 : Int32) (M4 : Mem) => rc M4 1 this (cl (m_X1_voucherAt M4 this x5) (fun (q7 : Option Nat) (M6 : Mem) => jn (fun (x9 : Int32) (M10 : Mem) => L4_0 (x9, (a1.2.1 + 1), M10)) (fun (J39_7 : Int32 → Mem → Option (Int32 × Mem)) => (if q7 = none then J39_7 a1.1 M6 else dI M6 9 0 q7 (fun (x11 : Int32) => (if x11 = 0 then J39_7 a1.1 M6 else J39_7 ((a1.1 + 1)) M6))))))))))
def m_X1_lastStep (M : Mem) (this : Option Nat) (p1 : Option Nat) : Option (Int32 × Mem) :=
  lp (b_X1_lastStep_4 this p1) FU (0, 0, M)
abbrev md_X1_lastStep : MD := (RX1, yX1_lastStep, cX1_lastStep, 5, Option.some Jvm.ClassFile.FieldType.int, 2, 44)
theorem ok_X1_lastStep : MOk md_X1_lastStep 1 := ⟨by decide +kernel, w_796, w_2, ⟨by decide +kernel, by decide +kernel⟩, by decide +kernel, rfl⟩
set_option maxRecDepth 100000 in
set_option maxHeartbeats 4000000 in
theorem con_X1_lastStep (κ : Cfg) (M : Mem) (this : Option Nat) (p1 : Option Nat) : Con κ md_X1_lastStep [rv κ this, rv κ p1] M cvI (m_X1_lastStep M this p1) := by
  refine Con.of ok_X1_lastStep (ret_I rfl) (by
    intro v hv
    simp only [List.mem_cons, List.not_mem_nil, or_false] at hv
    rcases hv with rfl | rfl <;> first | rfl | exact rv_cat _ _) (Nat.le_of_ble_eq_true rfl) ?_
  unfold m_X1_lastStep
  refine G.sub (lv' := [(0, rv κ this), (1, rv κ p1)]) [0, 1] rfl ?_
  refine G_iconst (v := 0) dX1_lastStep_0 (by decide) ?_
  refine G_istore_n (lv' := [(2, .int 0), (0, rv κ this), (1, rv κ p1)]) dX1_lastStep_1 rfl (Nat.le_of_ble_eq_true rfl) rfl ?_
  refine G_iconst (v := 0) dX1_lastStep_2 (by decide) ?_
  refine G_istore_n (lv' := [(3, .int 0), (2, .int 0), (0, rv κ this), (1, rv κ p1)]) dX1_lastStep_3 rfl (Nat.le_of_ble_eq_true rfl) rfl ?_
  refine G.sub (lv' := [(0, rv κ this), (1, rv κ p1), (2, .int 0), (3, .int 0)]) [2, 3, 1, 0] rfl ?_
  refine G.loop (lvf := fun (a1 : Int32 × Int32 × Mem) => [(0, rv κ this), (1, rv κ p1), (2, .int a1.1), (3, .int a1.2.1)]) (mf := fun (a1 : Int32 × Int32 × Mem) => a1.2.2) (fun L4_0 hL4_0 a1 => ?_) FU (0, 0, M)
  unfold b_X1_lastStep_4
  refine G_iload_n dX1_lastStep_4 3 rfl rfl ?_
  refine G_aload_n dX1_lastStep_5 1 rfl rfl ?_
  refine G_getI cf_X8 (j := 1) rfl w_174 dX1_lastStep_6 (fun x3 => ?_)
  refine G_icmp_ge (tgt := 45) dX1_lastStep_9 (by decide) ?_ ?_
  · refine G_iload_n dX1_lastStep_45 2 rfl rfl ?_
    exact G_ret (v := a1.1) dX1_lastStep_46 (fun h => by cases h) rfl
  · refine G_aload_n dX1_lastStep_12 0 rfl rfl ?_
    refine G_aload_n dX1_lastStep_13 1 rfl rfl ?_
    refine G_iload_n dX1_lastStep_14 3 rfl rfl ?_
    refine G_callV cf_X8 ok_X8_voucherNumber [.int a1.2.1] [rv κ this] (con_X8_voucherNumber κ a1.2.2 p1 a1.2.1) rfl w_740 w_741 w_742 (Nat.le_of_ble_eq_true rfl) (Nat.le_of_ble_eq_true rfl) dX1_lastStep_15 rfl (by simp) (fun x5 M4 => (show G _ _ _ _ _ _ [.int x5, rv κ this] _ from ?_))
    refine G_callV cf_X1 ok_X1_voucherAt [.int x5] [] (con_X1_voucherAt κ M4 this x5) rfl w_745 w_592 w_593 (Nat.le_of_ble_eq_true rfl) (Nat.le_of_ble_eq_true rfl) dX1_lastStep_18 rfl (by simp) (fun q7 M6 => (show G _ _ _ _ _ _ [rv κ q7] _ from ?_))
    refine G_astore (lv' := [(4, rv κ q7), (0, rv κ this), (1, rv κ p1), (2, .int a1.1), (3, .int a1.2.1)]) dX1_lastStep_21 (Nat.le_of_ble_eq_true rfl) rfl ?_
    refine G_aload dX1_lastStep_23 0 rfl ?_
    refine G.jn (P := (fun (J : Int32 → Mem → Option (Int32 × Mem)) => ∀ (x9 : Int32) (M10 : Mem), G κ md_X1_lastStep cvI (J x9 M10) 39 [(0, rv κ this), (1, rv κ p1), (2, .int x9), (3, .int a1.2.1)] [] M10)) ?_ ?_
    · intro x9 M10
      refine G_iinc (v := (a1.2.1 + 1)) (lv' := [(3, .int (a1.2.1 + 1)), (0, rv κ this), (1, rv κ p1), (2, .int x9)]) dX1_lastStep_39 3 rfl (congrArg (fun z9 : Int32 => a1.2.1 + z9) (by decide : Int32.ofInt 1 = 1)) (Nat.le_of_ble_eq_true rfl) rfl ?_
      refine G_goto (tgt := 4) dX1_lastStep_42 (by decide) ?_
      exact G.sub [1, 2, 3, 0] rfl (hL4_0 _)
    · intro J39_7 hJ39_7
      refine G_ifnull (tgt := 39) dX1_lastStep_25 (by decide) ?_ ?_
      · exact G.sub [1, 2, 3, 4] rfl (hJ39_7 _ _)
      · refine G_aload dX1_lastStep_28 0 rfl ?_
        refine G_getI cf_X9 (j := 0) rfl w_115 dX1_lastStep_30 (fun x11 => ?_)
        refine G_if_eq (tgt := 39) dX1_lastStep_33 (by decide) ?_ ?_
        · exact G.sub [1, 2, 3, 4] rfl (hJ39_7 _ _)
        · refine G_iinc (v := (a1.1 + 1)) (lv' := [(2, .int (a1.1 + 1)), (4, rv κ q7), (0, rv κ this), (1, rv κ p1), (3, .int a1.2.1)]) dX1_lastStep_36 3 rfl (congrArg (fun z9 : Int32 => a1.1 + z9) (by decide : Int32.ofInt 1 = 1)) (Nat.le_of_ble_eq_true rfl) rfl ?_
          exact G.sub [2, 3, 0, 4] rfl (hJ39_7 _ _)
def b_X1_moveClock_37 (q7 : Option Nat) (x8 : Int32) (J62_8 : Mem → Option (Unit × Mem)) (L37_10 : (Int32 × Mem) → Option (Unit × Mem)) (a11 : Int32 × Mem) : Option (Unit × Mem) :=
  (if x8 ≤ a11.1 then J62_8 a11.2 else aP a11.2 113 q7 a11.1 (fun (q13 : Option Nat) => rc a11.2 3 q13 (cl (m_X3_passHour a11.2 q13) (fun (_u : Unit) (M14 : Mem) => L37_10 ((a11.1 + 1), M14)))))
def b_X1_moveClock_18 (this : Option Nat) (p1 : Int32) (x1 : Int32) (L18_2 : (Int32 × Mem) → Option (Unit × Mem)) (a3 : Int32 × Mem) : Option (Unit × Mem) :=
  (if ((x1 + p1) / 60) ≤ a3.1 then dI a3.2 1 7 this (fun (x5 : Int32) => pI a3.2 1 7 this ((x5 + p1)) (fun (M6 : Mem) => rt () M6)) else dP a3.2 1 3 this (fun (q7 : Option Nat) => aL a3.2 113 q7 (fun (x8 : Int32) => jn (fun (M10 : Mem) => L18_2 ((a3.1 + 1), M10)) (fun (J62_8 : Mem → Option (Unit × Mem)) => lp (b_X1_moveClock_37 q7 x8 J62_8) FU (0, a3.2)))))
def m_X1_moveClock (M : Mem) (this : Option Nat) (p1 : Int32) : Option (Unit × Mem) :=
  dI M 1 7 this (fun (x1 : Int32) => dI M 1 7 this (fun (x2 : Int32) => lp (b_X1_moveClock_18 this p1 x1) FU ((x2 / 60), M)))
abbrev md_X1_moveClock : MD := (RX1, yX1_moveClock, cX1_moveClock, 8, Option.none, 1, 20)
theorem ok_X1_moveClock : MOk md_X1_moveClock 1 := ⟨by decide +kernel, w_805, w_2, ⟨by decide +kernel, by decide +kernel⟩, by decide +kernel, rfl⟩
set_option maxRecDepth 100000 in
set_option maxHeartbeats 4000000 in
theorem con_X1_moveClock (κ : Cfg) (M : Mem) (this : Option Nat) (p1 : Int32) : Con κ md_X1_moveClock [rv κ this, .int p1] M cvV (m_X1_moveClock M this p1) := by
  refine Con.of ok_X1_moveClock (ret_V rfl) (by
    intro v hv
    simp only [List.mem_cons, List.not_mem_nil, or_false] at hv
    rcases hv with rfl | rfl <;> first | rfl | exact rv_cat _ _) (Nat.le_of_ble_eq_true rfl) ?_
  unfold m_X1_moveClock
  refine G.sub (lv' := [(0, rv κ this), (1, .int p1)]) [0, 1] rfl ?_
  refine G_aload_n dX1_moveClock_0 0 rfl rfl ?_
  refine G_getI cf_X1 (j := 7) rfl w_219 dX1_moveClock_1 (fun x1 => ?_)
  refine G_iload_n dX1_moveClock_4 1 rfl rfl ?_
  refine G_iadd dX1_moveClock_5 ?_
  refine G_bipush (v := 60) dX1_moveClock_6 (by decide) ?_
  refine G_idiv dX1_moveClock_8 (by decide) ?_
  refine G_istore_n (lv' := [(2, .int ((x1 + p1) / 60)), (0, rv κ this), (1, .int p1)]) dX1_moveClock_9 rfl (Nat.le_of_ble_eq_true rfl) rfl ?_
  refine G_aload_n dX1_moveClock_10 1 rfl rfl ?_
  refine G_getI cf_X1 (j := 7) rfl w_219 dX1_moveClock_11 (fun x2 => ?_)
  refine G_bipush (v := 60) dX1_moveClock_14 (by decide) ?_
  refine G_idiv dX1_moveClock_16 (by decide) ?_
  refine G_istore_n (lv' := [(3, .int (x2 / 60)), (2, .int ((x1 + p1) / 60)), (0, rv κ this), (1, .int p1)]) dX1_moveClock_17 rfl (Nat.le_of_ble_eq_true rfl) rfl ?_
  refine G.sub (lv' := [(0, rv κ this), (1, .int p1), (2, .int ((x1 + p1) / 60)), (3, .int (x2 / 60))]) [2, 3, 1, 0] rfl ?_
  refine G.loop (lvf := fun (a3 : Int32 × Mem) => [(0, rv κ this), (1, .int p1), (2, .int ((x1 + p1) / 60)), (3, .int a3.1)]) (mf := fun (a3 : Int32 × Mem) => a3.2) (fun L18_2 hL18_2 a3 => ?_) FU ((x2 / 60), M)
  unfold b_X1_moveClock_18
  refine G_iload_n dX1_moveClock_18 3 rfl rfl ?_
  refine G_iload_n dX1_moveClock_19 2 rfl rfl ?_
  refine G_icmp_ge (tgt := 68) dX1_moveClock_20 (by decide) ?_ ?_
  · refine G_aload_n dX1_moveClock_68 0 rfl rfl ?_
    refine G_dup dX1_moveClock_69 (rv_cat _ _) ?_
    refine G_getI cf_X1 (j := 7) rfl w_219 dX1_moveClock_70 (fun x5 => ?_)
    refine G_iload_n dX1_moveClock_73 1 rfl rfl ?_
    refine G_iadd dX1_moveClock_74 ?_
    refine G_putI cf_X1 (j := 7) rfl rfl w_219 (Or.inl rfl) dX1_moveClock_75 (fun M6 => ?_)
    exact G_ret (v := ()) dX1_moveClock_78 (fun h => by cases h) rfl
  · refine G_aload_n dX1_moveClock_23 0 rfl rfl ?_
    refine G_getP cf_X1 (j := 3) rfl w_213 dX1_moveClock_24 (fun q7 => ?_)
    refine G_astore (lv' := [(4, rv κ q7), (0, rv κ this), (1, .int p1), (2, .int ((x1 + p1) / 60)), (3, .int a3.1)]) dX1_moveClock_27 (Nat.le_of_ble_eq_true rfl) rfl ?_
    refine G_aload dX1_moveClock_29 0 rfl ?_
    refine G_alen (tn := 5) (fun _ => rfl) (by decide) dX1_moveClock_31 (fun x8 => ?_)
    refine G_istore (lv' := [(5, .int x8), (4, rv κ q7), (0, rv κ this), (1, .int p1), (2, .int ((x1 + p1) / 60)), (3, .int a3.1)]) dX1_moveClock_32 (Nat.le_of_ble_eq_true rfl) rfl ?_
    refine G_iconst (v := 0) dX1_moveClock_34 (by decide) ?_
    refine G_istore (lv' := [(6, .int 0), (5, .int x8), (4, rv κ q7), (0, rv κ this), (1, .int p1), (2, .int ((x1 + p1) / 60)), (3, .int a3.1)]) dX1_moveClock_35 (Nat.le_of_ble_eq_true rfl) rfl ?_
    refine G.jn (P := (fun (J : Mem → Option (Unit × Mem)) => ∀ (M10 : Mem), G κ md_X1_moveClock cvV (J M10) 62 [(0, rv κ this), (1, .int p1), (2, .int ((x1 + p1) / 60)), (3, .int a3.1)] [] M10)) ?_ ?_
    · intro M10
      refine G_iinc (v := (a3.1 + 1)) (lv' := [(3, .int (a3.1 + 1)), (0, rv κ this), (1, .int p1), (2, .int ((x1 + p1) / 60))]) dX1_moveClock_62 3 rfl (congrArg (fun z9 : Int32 => a3.1 + z9) (by decide : Int32.ofInt 1 = 1)) (Nat.le_of_ble_eq_true rfl) rfl ?_
      refine G_goto (tgt := 18) dX1_moveClock_65 (by decide) ?_
      exact G.sub [1, 2, 3, 0] rfl (hL18_2 _)
    · intro J62_8 hJ62_8
      refine G.sub (lv' := [(0, rv κ this), (1, .int p1), (2, .int ((x1 + p1) / 60)), (3, .int a3.1), (4, rv κ q7), (5, .int x8), (6, .int 0)]) [3, 4, 5, 6, 2, 1, 0] rfl ?_
      refine G.loop (lvf := fun (a11 : Int32 × Mem) => [(0, rv κ this), (1, .int p1), (2, .int ((x1 + p1) / 60)), (3, .int a3.1), (4, rv κ q7), (5, .int x8), (6, .int a11.1)]) (mf := fun (a11 : Int32 × Mem) => a11.2) (fun L37_10 hL37_10 a11 => ?_) FU (0, a3.2)
      unfold b_X1_moveClock_37
      refine G_iload dX1_moveClock_37 6 rfl ?_
      refine G_iload dX1_moveClock_39 5 rfl ?_
      refine G_icmp_ge (tgt := 62) dX1_moveClock_41 (by decide) ?_ ?_
      · exact G.sub [0, 1, 2, 3] rfl (hJ62_8 _)
      · refine G_aload dX1_moveClock_44 4 rfl ?_
        refine G_iload dX1_moveClock_46 6 rfl ?_
        refine G_aald (tn := 5) (fun _ => rfl) (by decide) dX1_moveClock_48 (fun q13 => ?_)
        refine G_astore (lv' := [(7, rv κ q13), (0, rv κ this), (1, .int p1), (2, .int ((x1 + p1) / 60)), (3, .int a3.1), (4, rv κ q7), (5, .int x8), (6, .int a11.1)]) dX1_moveClock_49 (Nat.le_of_ble_eq_true rfl) rfl ?_
        refine G_aload dX1_moveClock_51 0 rfl ?_
        refine G_callV cf_X3 ok_X3_passHour [] [] (con_X3_passHour κ a11.2 q13) rfl w_806 w_807 w_808 (Nat.le_of_ble_eq_true rfl) (Nat.le_of_ble_eq_true rfl) dX1_moveClock_53 rfl (by simp) (fun _u M14 => (show G _ _ _ _ _ _ [] _ from ?_))
        refine G_iinc (v := (a11.1 + 1)) (lv' := [(6, .int (a11.1 + 1)), (7, rv κ q13), (0, rv κ this), (1, .int p1), (2, .int ((x1 + p1) / 60)), (3, .int a3.1), (4, rv κ q7), (5, .int x8)]) dX1_moveClock_56 7 rfl (congrArg (fun z9 : Int32 => a11.1 + z9) (by decide : Int32.ofInt 1 = 1)) (Nat.le_of_ble_eq_true rfl) rfl ?_
        refine G_goto (tgt := 37) dX1_moveClock_59 (by decide) ?_
        exact G.sub [2, 3, 4, 5, 6, 7, 0] rfl (hL37_10 _)
def b_X1_lostTickets_4 (this : Option Nat) (L4_0 : (Int32 × Int32 × Mem) → Option (Int32 × Mem)) (a1 : Int32 × Int32 × Mem) : Option (Int32 × Mem) :=
  (if 512 ≤ a1.2.1 then rt a1.1 a1.2.2 else dI a1.2.2 1 6 this (fun (x3 : Int32) => (if x3 ≤ a1.2.1 then rt a1.1 a1.2.2 else dP a1.2.2 1 4 this (fun (q4 : Option Nat) => aP a1.2.2 118 q4 a1.2.1 (fun (q5 : Option Nat) => dI a1.2.2 8 8 q5 (fun (x6 : Int32) => jn (fun (x8 : Int32) (M9 : Mem) => L4_0 ((a1.1 + x8), (a1.2.1 + 1), M9)) (fun (J37_6 : Int32 → Mem → Option (Int32 × Mem)) => (if x6 = 0 then J37_6 0 a1.2.2 else J37_6 1 a1.2.2))))))))
def m_X1_lostTickets (M : Mem) (this : Option Nat) : Option (Int32 × Mem) :=
  lp (b_X1_lostTickets_4 this) FU (0, 0, M)
abbrev md_X1_lostTickets : MD := (RX1, yX1_lostTickets, cX1_lostTickets, 3, Option.some Jvm.ClassFile.FieldType.int, 0, 0)
theorem ok_X1_lostTickets : MOk md_X1_lostTickets 0 := ⟨by decide +kernel, w_859, w_2, ⟨by decide +kernel, by decide +kernel⟩, by decide +kernel, rfl⟩
set_option maxRecDepth 100000 in
set_option maxHeartbeats 4000000 in
theorem con_X1_lostTickets (κ : Cfg) (M : Mem) (this : Option Nat) : Con κ md_X1_lostTickets [rv κ this] M cvI (m_X1_lostTickets M this) := by
  refine Con.of ok_X1_lostTickets (ret_I rfl) (by
    intro v hv
    simp only [List.mem_cons, List.not_mem_nil, or_false] at hv
    subst hv; first | rfl | exact rv_cat _ _) (Nat.le_of_ble_eq_true rfl) ?_
  unfold m_X1_lostTickets
  refine G.sub (lv' := [(0, rv κ this)]) [0] rfl ?_
  refine G_iconst (v := 0) dX1_lostTickets_0 (by decide) ?_
  refine G_istore_n (lv' := [(1, .int 0), (0, rv κ this)]) dX1_lostTickets_1 rfl (Nat.le_of_ble_eq_true rfl) rfl ?_
  refine G_iconst (v := 0) dX1_lostTickets_2 (by decide) ?_
  refine G_istore_n (lv' := [(2, .int 0), (1, .int 0), (0, rv κ this)]) dX1_lostTickets_3 rfl (Nat.le_of_ble_eq_true rfl) rfl ?_
  refine G.sub (lv' := [(0, rv κ this), (1, .int 0), (2, .int 0)]) [2, 1, 0] rfl ?_
  refine G.loop (lvf := fun (a1 : Int32 × Int32 × Mem) => [(0, rv κ this), (1, .int a1.1), (2, .int a1.2.1)]) (mf := fun (a1 : Int32 × Int32 × Mem) => a1.2.2) (fun L4_0 hL4_0 a1 => ?_) FU (0, 0, M)
  unfold b_X1_lostTickets_4
  refine G_iload_n dX1_lostTickets_4 2 rfl rfl ?_
  refine G_sipush (v := 512) dX1_lostTickets_5 (by decide) ?_
  refine G_icmp_ge (tgt := 45) dX1_lostTickets_8 (by decide) ?_ ?_
  · refine G_iload_n dX1_lostTickets_45 1 rfl rfl ?_
    exact G_ret (v := a1.1) dX1_lostTickets_46 (fun h => by cases h) rfl
  · refine G_iload_n dX1_lostTickets_11 2 rfl rfl ?_
    refine G_aload_n dX1_lostTickets_12 0 rfl rfl ?_
    refine G_getI cf_X1 (j := 6) rfl w_217 dX1_lostTickets_13 (fun x3 => ?_)
    refine G_icmp_ge (tgt := 45) dX1_lostTickets_16 (by decide) ?_ ?_
    · refine G_iload_n dX1_lostTickets_45 1 rfl rfl ?_
      exact G_ret (v := a1.1) dX1_lostTickets_46 (fun h => by cases h) rfl
    · refine G_iload_n dX1_lostTickets_19 1 rfl rfl ?_
      refine G_aload_n dX1_lostTickets_20 0 rfl rfl ?_
      refine G_getP cf_X1 (j := 4) rfl w_214 dX1_lostTickets_21 (fun q4 => ?_)
      refine G_iload_n dX1_lostTickets_24 2 rfl rfl ?_
      refine G_aald (tn := 7) (fun _ => rfl) (by decide) dX1_lostTickets_25 (fun q5 => ?_)
      refine G_getI cf_X8 (j := 8) rfl w_188 dX1_lostTickets_26 (fun x6 => ?_)
      refine G.jn (P := (fun (J : Int32 → Mem → Option (Int32 × Mem)) => ∀ (x8 : Int32) (M9 : Mem), G κ md_X1_lostTickets cvI (J x8 M9) 37 [(0, rv κ this), (2, .int a1.2.1)] [.int x8, .int a1.1] M9)) ?_ ?_
      · intro x8 M9
        refine G_iadd dX1_lostTickets_37 ?_
        refine G_istore_n (lv' := [(1, .int (a1.1 + x8)), (0, rv κ this), (2, .int a1.2.1)]) dX1_lostTickets_38 rfl (Nat.le_of_ble_eq_true rfl) rfl ?_
        refine G_iinc (v := (a1.2.1 + 1)) (lv' := [(2, .int (a1.2.1 + 1)), (1, .int (a1.1 + x8)), (0, rv κ this)]) dX1_lostTickets_39 2 rfl (congrArg (fun z9 : Int32 => a1.2.1 + z9) (by decide : Int32.ofInt 1 = 1)) (Nat.le_of_ble_eq_true rfl) rfl ?_
        refine G_goto (tgt := 4) dX1_lostTickets_42 (by decide) ?_
        exact G.sub [2, 1, 0] rfl (hL4_0 _)
      · intro J37_6 hJ37_6
        refine G_if_eq (tgt := 36) dX1_lostTickets_29 (by decide) ?_ ?_
        · refine G_iconst (v := 0) dX1_lostTickets_36 (by decide) ?_
          exact G.sub [0, 2] rfl (hJ37_6 _ _)
        · refine G_iconst (v := 1) dX1_lostTickets_32 (by decide) ?_
          refine G_goto (tgt := 37) dX1_lostTickets_33 (by decide) ?_
          exact G.sub [0, 2] rfl (hJ37_6 _ _)
def b_X1_paidByPlan_4 (this : Option Nat) (p1 : Int32) (L4_0 : (Int32 × Int32 × Mem) → Option (Int32 × Mem)) (a1 : Int32 × Int32 × Mem) : Option (Int32 × Mem) :=
  (if 512 ≤ a1.2.1 then rt a1.1 a1.2.2 else dI a1.2.2 1 6 this (fun (x3 : Int32) => (if x3 ≤ a1.2.1 then rt a1.1 a1.2.2 else dP a1.2.2 1 4 this (fun (q4 : Option Nat) => aP a1.2.2 118 q4 a1.2.1 (fun (q5 : Option Nat) => dI a1.2.2 8 2 q5 (fun (x6 : Int32) => jn (fun (x8 : Int32) (M9 : Mem) => L4_0 ((a1.1 + x8), (a1.2.1 + 1), M9)) (fun (J46_6 : Int32 → Mem → Option (Int32 × Mem)) => (if x6 ≠ p1 then J46_6 0 a1.2.2 else dP a1.2.2 1 4 this (fun (q10 : Option Nat) => aP a1.2.2 118 q10 a1.2.1 (fun (q11 : Option Nat) => dI a1.2.2 8 5 q11 (fun (x12 : Int32) => J46_6 x12 a1.2.2)))))))))))
def m_X1_paidByPlan (M : Mem) (this : Option Nat) (p1 : Int32) : Option (Int32 × Mem) :=
  lp (b_X1_paidByPlan_4 this p1) FU (0, 0, M)
abbrev md_X1_paidByPlan : MD := (RX1, yX1_paidByPlan, cX1_paidByPlan, 4, Option.some Jvm.ClassFile.FieldType.int, 0, 0)
theorem ok_X1_paidByPlan : MOk md_X1_paidByPlan 1 := ⟨by decide +kernel, w_854, w_2, ⟨by decide +kernel, by decide +kernel⟩, by decide +kernel, rfl⟩
set_option maxRecDepth 100000 in
set_option maxHeartbeats 4000000 in
theorem con_X1_paidByPlan (κ : Cfg) (M : Mem) (this : Option Nat) (p1 : Int32) : Con κ md_X1_paidByPlan [rv κ this, .int p1] M cvI (m_X1_paidByPlan M this p1) := by
  refine Con.of ok_X1_paidByPlan (ret_I rfl) (by
    intro v hv
    simp only [List.mem_cons, List.not_mem_nil, or_false] at hv
    rcases hv with rfl | rfl <;> first | rfl | exact rv_cat _ _) (Nat.le_of_ble_eq_true rfl) ?_
  unfold m_X1_paidByPlan
  refine G.sub (lv' := [(0, rv κ this), (1, .int p1)]) [0, 1] rfl ?_
  refine G_iconst (v := 0) dX1_paidByPlan_0 (by decide) ?_
  refine G_istore_n (lv' := [(2, .int 0), (0, rv κ this), (1, .int p1)]) dX1_paidByPlan_1 rfl (Nat.le_of_ble_eq_true rfl) rfl ?_
  refine G_iconst (v := 0) dX1_paidByPlan_2 (by decide) ?_
  refine G_istore_n (lv' := [(3, .int 0), (2, .int 0), (0, rv κ this), (1, .int p1)]) dX1_paidByPlan_3 rfl (Nat.le_of_ble_eq_true rfl) rfl ?_
  refine G.sub (lv' := [(0, rv κ this), (1, .int p1), (2, .int 0), (3, .int 0)]) [2, 3, 1, 0] rfl ?_
  refine G.loop (lvf := fun (a1 : Int32 × Int32 × Mem) => [(0, rv κ this), (1, .int p1), (2, .int a1.1), (3, .int a1.2.1)]) (mf := fun (a1 : Int32 × Int32 × Mem) => a1.2.2) (fun L4_0 hL4_0 a1 => ?_) FU (0, 0, M)
  unfold b_X1_paidByPlan_4
  refine G_iload_n dX1_paidByPlan_4 3 rfl rfl ?_
  refine G_sipush (v := 512) dX1_paidByPlan_5 (by decide) ?_
  refine G_icmp_ge (tgt := 54) dX1_paidByPlan_8 (by decide) ?_ ?_
  · refine G_iload_n dX1_paidByPlan_54 2 rfl rfl ?_
    exact G_ret (v := a1.1) dX1_paidByPlan_55 (fun h => by cases h) rfl
  · refine G_iload_n dX1_paidByPlan_11 3 rfl rfl ?_
    refine G_aload_n dX1_paidByPlan_12 0 rfl rfl ?_
    refine G_getI cf_X1 (j := 6) rfl w_217 dX1_paidByPlan_13 (fun x3 => ?_)
    refine G_icmp_ge (tgt := 54) dX1_paidByPlan_16 (by decide) ?_ ?_
    · refine G_iload_n dX1_paidByPlan_54 2 rfl rfl ?_
      exact G_ret (v := a1.1) dX1_paidByPlan_55 (fun h => by cases h) rfl
    · refine G_iload_n dX1_paidByPlan_19 2 rfl rfl ?_
      refine G_aload_n dX1_paidByPlan_20 0 rfl rfl ?_
      refine G_getP cf_X1 (j := 4) rfl w_214 dX1_paidByPlan_21 (fun q4 => ?_)
      refine G_iload_n dX1_paidByPlan_24 3 rfl rfl ?_
      refine G_aald (tn := 7) (fun _ => rfl) (by decide) dX1_paidByPlan_25 (fun q5 => ?_)
      refine G_getI cf_X8 (j := 2) rfl w_176 dX1_paidByPlan_26 (fun x6 => ?_)
      refine G_iload_n dX1_paidByPlan_29 1 rfl rfl ?_
      refine G.jn (P := (fun (J : Int32 → Mem → Option (Int32 × Mem)) => ∀ (x8 : Int32) (M9 : Mem), G κ md_X1_paidByPlan cvI (J x8 M9) 46 [(0, rv κ this), (1, .int p1), (3, .int a1.2.1)] [.int x8, .int a1.1] M9)) ?_ ?_
      · intro x8 M9
        refine G_iadd dX1_paidByPlan_46 ?_
        refine G_istore_n (lv' := [(2, .int (a1.1 + x8)), (0, rv κ this), (1, .int p1), (3, .int a1.2.1)]) dX1_paidByPlan_47 rfl (Nat.le_of_ble_eq_true rfl) rfl ?_
        refine G_iinc (v := (a1.2.1 + 1)) (lv' := [(3, .int (a1.2.1 + 1)), (2, .int (a1.1 + x8)), (0, rv κ this), (1, .int p1)]) dX1_paidByPlan_48 3 rfl (congrArg (fun z9 : Int32 => a1.2.1 + z9) (by decide : Int32.ofInt 1 = 1)) (Nat.le_of_ble_eq_true rfl) rfl ?_
        refine G_goto (tgt := 4) dX1_paidByPlan_51 (by decide) ?_
        exact G.sub [2, 3, 1, 0] rfl (hL4_0 _)
      · intro J46_6 hJ46_6
        refine G_icmp_ne (tgt := 45) dX1_paidByPlan_30 (by decide) ?_ ?_
        · refine G_iconst (v := 0) dX1_paidByPlan_45 (by decide) ?_
          exact G.sub [0, 1, 3] rfl (hJ46_6 _ _)
        · refine G_aload_n dX1_paidByPlan_33 0 rfl rfl ?_
          refine G_getP cf_X1 (j := 4) rfl w_214 dX1_paidByPlan_34 (fun q10 => ?_)
          refine G_iload_n dX1_paidByPlan_37 3 rfl rfl ?_
          refine G_aald (tn := 7) (fun _ => rfl) (by decide) dX1_paidByPlan_38 (fun q11 => ?_)
          refine G_getI cf_X8 (j := 5) rfl w_182 dX1_paidByPlan_39 (fun x12 => ?_)
          refine G_goto (tgt := 46) dX1_paidByPlan_42 (by decide) ?_
          exact G.sub [0, 1, 3] rfl (hJ46_6 _ _)
def b_X1_paidAltogether_4 (this : Option Nat) (L4_0 : (Int32 × Int32 × Mem) → Option (Int32 × Mem)) (a1 : Int32 × Int32 × Mem) : Option (Int32 × Mem) :=
  (if 4 ≤ a1.2.1 then rt a1.1 a1.2.2 else rc a1.2.2 1 this (cl (m_X1_paidByPlan a1.2.2 this a1.2.1) (fun (x4 : Int32) (M3 : Mem) => L4_0 ((a1.1 + x4), (a1.2.1 + 1), M3))))
def m_X1_paidAltogether (M : Mem) (this : Option Nat) : Option (Int32 × Mem) :=
  lp (b_X1_paidAltogether_4 this) FU (0, 0, M)
abbrev md_X1_paidAltogether : MD := (RX1, yX1_paidAltogether, cX1_paidAltogether, 3, Option.some Jvm.ClassFile.FieldType.int, 1, 23)
theorem ok_X1_paidAltogether : MOk md_X1_paidAltogether 0 := ⟨by decide +kernel, w_850, w_2, ⟨by decide +kernel, by decide +kernel⟩, by decide +kernel, rfl⟩
set_option maxRecDepth 100000 in
set_option maxHeartbeats 4000000 in
theorem con_X1_paidAltogether (κ : Cfg) (M : Mem) (this : Option Nat) : Con κ md_X1_paidAltogether [rv κ this] M cvI (m_X1_paidAltogether M this) := by
  refine Con.of ok_X1_paidAltogether (ret_I rfl) (by
    intro v hv
    simp only [List.mem_cons, List.not_mem_nil, or_false] at hv
    subst hv; first | rfl | exact rv_cat _ _) (Nat.le_of_ble_eq_true rfl) ?_
  unfold m_X1_paidAltogether
  refine G.sub (lv' := [(0, rv κ this)]) [0] rfl ?_
  refine G_iconst (v := 0) dX1_paidAltogether_0 (by decide) ?_
  refine G_istore_n (lv' := [(1, .int 0), (0, rv κ this)]) dX1_paidAltogether_1 rfl (Nat.le_of_ble_eq_true rfl) rfl ?_
  refine G_iconst (v := 0) dX1_paidAltogether_2 (by decide) ?_
  refine G_istore_n (lv' := [(2, .int 0), (1, .int 0), (0, rv κ this)]) dX1_paidAltogether_3 rfl (Nat.le_of_ble_eq_true rfl) rfl ?_
  refine G.sub (lv' := [(0, rv κ this), (1, .int 0), (2, .int 0)]) [2, 1, 0] rfl ?_
  refine G.loop (lvf := fun (a1 : Int32 × Int32 × Mem) => [(0, rv κ this), (1, .int a1.1), (2, .int a1.2.1)]) (mf := fun (a1 : Int32 × Int32 × Mem) => a1.2.2) (fun L4_0 hL4_0 a1 => ?_) FU (0, 0, M)
  unfold b_X1_paidAltogether_4
  refine G_iload_n dX1_paidAltogether_4 2 rfl rfl ?_
  refine G_iconst (v := 4) dX1_paidAltogether_5 (by decide) ?_
  refine G_icmp_ge (tgt := 23) dX1_paidAltogether_6 (by decide) ?_ ?_
  · refine G_iload_n dX1_paidAltogether_23 1 rfl rfl ?_
    exact G_ret (v := a1.1) dX1_paidAltogether_24 (fun h => by cases h) rfl
  · refine G_iload_n dX1_paidAltogether_9 1 rfl rfl ?_
    refine G_aload_n dX1_paidAltogether_10 0 rfl rfl ?_
    refine G_iload_n dX1_paidAltogether_11 2 rfl rfl ?_
    refine G_callV cf_X1 ok_X1_paidByPlan [.int a1.2.1] [.int a1.1] (con_X1_paidByPlan κ a1.2.2 this a1.2.1) rfl w_851 w_852 w_853 (Nat.le_of_ble_eq_true rfl) (Nat.le_of_ble_eq_true rfl) dX1_paidAltogether_12 rfl (by simp) (fun x4 M3 => (show G _ _ _ _ _ _ [.int x4, .int a1.1] _ from ?_))
    refine G_iadd dX1_paidAltogether_15 ?_
    refine G_istore_n (lv' := [(1, .int (a1.1 + x4)), (0, rv κ this), (2, .int a1.2.1)]) dX1_paidAltogether_16 rfl (Nat.le_of_ble_eq_true rfl) rfl ?_
    refine G_iinc (v := (a1.2.1 + 1)) (lv' := [(2, .int (a1.2.1 + 1)), (1, .int (a1.1 + x4)), (0, rv κ this)]) dX1_paidAltogether_17 2 rfl (congrArg (fun z9 : Int32 => a1.2.1 + z9) (by decide : Int32.ofInt 1 = 1)) (Nat.le_of_ble_eq_true rfl) rfl ?_
    refine G_goto (tgt := 4) dX1_paidAltogether_20 (by decide) ?_
    exact G.sub [2, 1, 0] rfl (hL4_0 _)
