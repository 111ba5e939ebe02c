section
-- ===== PART A: goes FIRST, ahead of the names: the tables' words, and 'selects' of the private methods out of them =====
/-- a private method of a class that the tables say can be made, by its rows of tables_1 -/
def lw_okq (q : MethodName × Nat) : Prop := (q.1.cls ≠ "java/lang/invoke/MethodHandle" ∧ q.1.cls ≠ "java/lang/invoke/VarHandle") ∧ Cond.instantiable q.1.cls q.2 ∈ tables_1 ∧ Cond.privateMethod q.1 ∈ tables_1 ∧ Cond.instanceMethod q.1 ∈ tables_1
theorem lw_p0 : lw_okq (⟨"ParkingTariffModel", "clears", "(I)V"⟩, 21) := ⟨⟨by decide +kernel, by decide +kernel⟩, List.mem_of_getElem? (i := 908) (by decide +kernel), List.mem_of_getElem? (i := 914) (by decide +kernel), List.mem_of_getElem? (i := 915) (by decide +kernel)⟩
theorem lw_p1 : lw_okq (⟨"ParkingTariffModel", "isStay", "(III)Z"⟩, 21) := ⟨⟨by decide +kernel, by decide +kernel⟩, List.mem_of_getElem? (i := 908) (by decide +kernel), List.mem_of_getElem? (i := 987) (by decide +kernel), List.mem_of_getElem? (i := 988) (by decide +kernel)⟩
theorem lw_p2 : lw_okq (⟨"ParkingTariffModel", "feeOf", "(III)I"⟩, 21) := ⟨⟨by decide +kernel, by decide +kernel⟩, List.mem_of_getElem? (i := 908) (by decide +kernel), List.mem_of_getElem? (i := 1001) (by decide +kernel), List.mem_of_getElem? (i := 1002) (by decide +kernel)⟩
theorem lw_p3 : lw_okq (⟨"ParkingTariffModel", "of", "(II)I"⟩, 21) := ⟨⟨by decide +kernel, by decide +kernel⟩, List.mem_of_getElem? (i := 908) (by decide +kernel), List.mem_of_getElem? (i := 1005) (by decide +kernel), List.mem_of_getElem? (i := 1006) (by decide +kernel)⟩
theorem lw_p4 : lw_okq (⟨"ParkingTariffModel", "begins", "(I)V"⟩, 21) := ⟨⟨by decide +kernel, by decide +kernel⟩, List.mem_of_getElem? (i := 908) (by decide +kernel), List.mem_of_getElem? (i := 1009) (by decide +kernel), List.mem_of_getElem? (i := 1010) (by decide +kernel)⟩
theorem lw_p5 : lw_okq (⟨"ParkingTariffModel", "adds", "(II)V"⟩, 21) := ⟨⟨by decide +kernel, by decide +kernel⟩, List.mem_of_getElem? (i := 908) (by decide +kernel), List.mem_of_getElem? (i := 1013) (by decide +kernel), List.mem_of_getElem? (i := 1014) (by decide +kernel)⟩
theorem lw_p6 : lw_okq (⟨"ParkingTariffModel", "groupOf", "(II)I"⟩, 21) := ⟨⟨by decide +kernel, by decide +kernel⟩, List.mem_of_getElem? (i := 908) (by decide +kernel), List.mem_of_getElem? (i := 1017) (by decide +kernel), List.mem_of_getElem? (i := 1018) (by decide +kernel)⟩
theorem lw_p7 : lw_okq (⟨"ParkingTariffModel", "capped", "(II)I"⟩, 21) := ⟨⟨by decide +kernel, by decide +kernel⟩, List.mem_of_getElem? (i := 908) (by decide +kernel), List.mem_of_getElem? (i := 1021) (by decide +kernel), List.mem_of_getElem? (i := 1022) (by decide +kernel)⟩
theorem lw_p8 : lw_okq (⟨"ParkingTariffModel", "bandAt", "(II)I"⟩, 21) := ⟨⟨by decide +kernel, by decide +kernel⟩, List.mem_of_getElem? (i := 908) (by decide +kernel), List.mem_of_getElem? (i := 1025) (by decide +kernel), List.mem_of_getElem? (i := 1026) (by decide +kernel)⟩
theorem lw_p9 : lw_okq (⟨"ParkingTariffModel", "bandPart", "(III)I"⟩, 21) := ⟨⟨by decide +kernel, by decide +kernel⟩, List.mem_of_getElem? (i := 908) (by decide +kernel), List.mem_of_getElem? (i := 1029) (by decide +kernel), List.mem_of_getElem? (i := 1030) (by decide +kernel)⟩
theorem lw_p10 : lw_okq (⟨"ParkingTariffModel", "reads", "()V"⟩, 21) := ⟨⟨by decide +kernel, by decide +kernel⟩, List.mem_of_getElem? (i := 908) (by decide +kernel), List.mem_of_getElem? (i := 1049) (by decide +kernel), List.mem_of_getElem? (i := 1050) (by decide +kernel)⟩
theorem lw_p11 : lw_okq (⟨"ParkingTariffModel", "clause", "()V"⟩, 21) := ⟨⟨by decide +kernel, by decide +kernel⟩, List.mem_of_getElem? (i := 908) (by decide +kernel), List.mem_of_getElem? (i := 1053) (by decide +kernel), List.mem_of_getElem? (i := 1054) (by decide +kernel)⟩
theorem lw_p12 : lw_okq (⟨"ParkingTariffModel", "here", "()I"⟩, 21) := ⟨⟨by decide +kernel, by decide +kernel⟩, List.mem_of_getElem? (i := 908) (by decide +kernel), List.mem_of_getElem? (i := 1057) (by decide +kernel), List.mem_of_getElem? (i := 1058) (by decide +kernel)⟩
theorem lw_p13 : lw_okq (⟨"ParkingTariffModel", "isWord", "(IICCCC)Z"⟩, 21) := ⟨⟨by decide +kernel, by decide +kernel⟩, List.mem_of_getElem? (i := 908) (by decide +kernel), List.mem_of_getElem? (i := 1061) (by decide +kernel), List.mem_of_getElem? (i := 1062) (by decide +kernel)⟩
theorem lw_p14 : lw_okq (⟨"ParkingTariffModel", "amount", "(II)V"⟩, 21) := ⟨⟨by decide +kernel, by decide +kernel⟩, List.mem_of_getElem? (i := 908) (by decide +kernel), List.mem_of_getElem? (i := 1065) (by decide +kernel), List.mem_of_getElem? (i := 1066) (by decide +kernel)⟩
theorem lw_p15 : lw_okq (⟨"ParkingTariffModel", "must", "(I)V"⟩, 21) := ⟨⟨by decide +kernel, by decide +kernel⟩, List.mem_of_getElem? (i := 908) (by decide +kernel), List.mem_of_getElem? (i := 1069) (by decide +kernel), List.mem_of_getElem? (i := 1070) (by decide +kernel)⟩
def lw_privs_1 : List (MethodName × Nat) := [(⟨"ParkingTariffModel", "clears", "(I)V"⟩, 21), (⟨"ParkingTariffModel", "isStay", "(III)Z"⟩, 21), (⟨"ParkingTariffModel", "feeOf", "(III)I"⟩, 21), (⟨"ParkingTariffModel", "of", "(II)I"⟩, 21), (⟨"ParkingTariffModel", "begins", "(I)V"⟩, 21), (⟨"ParkingTariffModel", "adds", "(II)V"⟩, 21), (⟨"ParkingTariffModel", "groupOf", "(II)I"⟩, 21), (⟨"ParkingTariffModel", "capped", "(II)I"⟩, 21), (⟨"ParkingTariffModel", "bandAt", "(II)I"⟩, 21), (⟨"ParkingTariffModel", "bandPart", "(III)I"⟩, 21), (⟨"ParkingTariffModel", "reads", "()V"⟩, 21), (⟨"ParkingTariffModel", "clause", "()V"⟩, 21), (⟨"ParkingTariffModel", "here", "()I"⟩, 21), (⟨"ParkingTariffModel", "isWord", "(IICCCC)Z"⟩, 21), (⟨"ParkingTariffModel", "amount", "(II)V"⟩, 21), (⟨"ParkingTariffModel", "must", "(I)V"⟩, 21)]
theorem lw_r1 : ∀ q ∈ lw_privs_1, lw_okq q := List.forall_mem_cons.mpr ⟨lw_p0, List.forall_mem_cons.mpr ⟨lw_p1, List.forall_mem_cons.mpr ⟨lw_p2, List.forall_mem_cons.mpr ⟨lw_p3, List.forall_mem_cons.mpr ⟨lw_p4, List.forall_mem_cons.mpr ⟨lw_p5, List.forall_mem_cons.mpr ⟨lw_p6, List.forall_mem_cons.mpr ⟨lw_p7, List.forall_mem_cons.mpr ⟨lw_p8, List.forall_mem_cons.mpr ⟨lw_p9, List.forall_mem_cons.mpr ⟨lw_p10, List.forall_mem_cons.mpr ⟨lw_p11, List.forall_mem_cons.mpr ⟨lw_p12, List.forall_mem_cons.mpr ⟨lw_p13, List.forall_mem_cons.mpr ⟨lw_p14, List.forall_mem_cons.mpr ⟨lw_p15, fun _ h => absurd h List.not_mem_nil⟩⟩⟩⟩⟩⟩⟩⟩⟩⟩⟩⟩⟩⟩⟩⟩
theorem lw_p16 : lw_okq (⟨"ParkingTariffModel", "fails", "(II)V"⟩, 21) := ⟨⟨by decide +kernel, by decide +kernel⟩, List.mem_of_getElem? (i := 908) (by decide +kernel), List.mem_of_getElem? (i := 1073) (by decide +kernel), List.mem_of_getElem? (i := 1074) (by decide +kernel)⟩
theorem lw_p17 : lw_okq (⟨"ParkingTariffModel", "number", "(I)V"⟩, 21) := ⟨⟨by decide +kernel, by decide +kernel⟩, List.mem_of_getElem? (i := 908) (by decide +kernel), List.mem_of_getElem? (i := 1077) (by decide +kernel), List.mem_of_getElem? (i := 1078) (by decide +kernel)⟩
theorem lw_p18 : lw_okq (⟨"ParkingTariffModel", "ranges", "(III)V"⟩, 21) := ⟨⟨by decide +kernel, by decide +kernel⟩, List.mem_of_getElem? (i := 908) (by decide +kernel), List.mem_of_getElem? (i := 1081) (by decide +kernel), List.mem_of_getElem? (i := 1082) (by decide +kernel)⟩
theorem lw_p19 : lw_okq (⟨"ParkingTariffModel", "band", "()V"⟩, 21) := ⟨⟨by decide +kernel, by decide +kernel⟩, List.mem_of_getElem? (i := 908) (by decide +kernel), List.mem_of_getElem? (i := 1085) (by decide +kernel), List.mem_of_getElem? (i := 1086) (by decide +kernel)⟩
theorem lw_p20 : lw_okq (⟨"ParkingTariffModel", "reports", "(I)V"⟩, 21) := ⟨⟨by decide +kernel, by decide +kernel⟩, List.mem_of_getElem? (i := 908) (by decide +kernel), List.mem_of_getElem? (i := 1089) (by decide +kernel), List.mem_of_getElem? (i := 1090) (by decide +kernel)⟩
theorem lw_p21 : lw_okq (⟨"ParkingTariffModel", "isVoucher", "(I)Z"⟩, 21) := ⟨⟨by decide +kernel, by decide +kernel⟩, List.mem_of_getElem? (i := 908) (by decide +kernel), List.mem_of_getElem? (i := 1109) (by decide +kernel), List.mem_of_getElem? (i := 1110) (by decide +kernel)⟩
theorem lw_p22 : lw_okq (⟨"ParkingTariffModel", "isPlace", "(II)Z"⟩, 21) := ⟨⟨by decide +kernel, by decide +kernel⟩, List.mem_of_getElem? (i := 908) (by decide +kernel), List.mem_of_getElem? (i := 1121) (by decide +kernel), List.mem_of_getElem? (i := 1122) (by decide +kernel)⟩
theorem lw_p23 : lw_okq (⟨"ParkingTariffModel", "kindOf", "(I)I"⟩, 21) := ⟨⟨by decide +kernel, by decide +kernel⟩, List.mem_of_getElem? (i := 908) (by decide +kernel), List.mem_of_getElem? (i := 1125) (by decide +kernel), List.mem_of_getElem? (i := 1126) (by decide +kernel)⟩
theorem lw_p24 : lw_okq (⟨"ParkingTariffModel", "levelPart", "(II)I"⟩, 21) := ⟨⟨by decide +kernel, by decide +kernel⟩, List.mem_of_getElem? (i := 908) (by decide +kernel), List.mem_of_getElem? (i := 1137) (by decide +kernel), List.mem_of_getElem? (i := 1138) (by decide +kernel)⟩
theorem lw_p25 : lw_okq (⟨"ParkingTariffModel", "score", "(I)F"⟩, 21) := ⟨⟨by decide +kernel, by decide +kernel⟩, List.mem_of_getElem? (i := 908) (by decide +kernel), List.mem_of_getElem? (i := 1155) (by decide +kernel), List.mem_of_getElem? (i := 1156) (by decide +kernel)⟩
theorem lw_p26 : lw_okq (⟨"ParkingTariffModel", "bestLevel", "()I"⟩, 21) := ⟨⟨by decide +kernel, by decide +kernel⟩, List.mem_of_getElem? (i := 908) (by decide +kernel), List.mem_of_getElem? (i := 1169) (by decide +kernel), List.mem_of_getElem? (i := 1170) (by decide +kernel)⟩
theorem lw_p27 : lw_okq (⟨"ParkingTariffModel", "inside", "()I"⟩, 21) := ⟨⟨by decide +kernel, by decide +kernel⟩, List.mem_of_getElem? (i := 908) (by decide +kernel), List.mem_of_getElem? (i := 1173) (by decide +kernel), List.mem_of_getElem? (i := 1174) (by decide +kernel)⟩
theorem lw_p28 : lw_okq (⟨"ParkingTariffModel", "set", "(III)V"⟩, 21) := ⟨⟨by decide +kernel, by decide +kernel⟩, List.mem_of_getElem? (i := 908) (by decide +kernel), List.mem_of_getElem? (i := 1177) (by decide +kernel), List.mem_of_getElem? (i := 1178) (by decide +kernel)⟩
theorem lw_p29 : lw_okq (⟨"ParkingTariffModel", "isInside", "(I)Z"⟩, 21) := ⟨⟨by decide +kernel, by decide +kernel⟩, List.mem_of_getElem? (i := 908) (by decide +kernel), List.mem_of_getElem? (i := 1185) (by decide +kernel), List.mem_of_getElem? (i := 1186) (by decide +kernel)⟩
theorem lw_p30 : lw_okq (⟨"ParkingTariffModel", "item", "(II)I"⟩, 21) := ⟨⟨by decide +kernel, by decide +kernel⟩, List.mem_of_getElem? (i := 908) (by decide +kernel), List.mem_of_getElem? (i := 1189) (by decide +kernel), List.mem_of_getElem? (i := 1190) (by decide +kernel)⟩
theorem lw_p31 : lw_okq (⟨"ParkingTariffModel", "dueAt", "(II)I"⟩, 21) := ⟨⟨by decide +kernel, by decide +kernel⟩, List.mem_of_getElem? (i := 908) (by decide +kernel), List.mem_of_getElem? (i := 1198) (by decide +kernel), List.mem_of_getElem? (i := 1199) (by decide +kernel)⟩
def lw_privs_2 : List (MethodName × Nat) := [(⟨"ParkingTariffModel", "fails", "(II)V"⟩, 21), (⟨"ParkingTariffModel", "number", "(I)V"⟩, 21), (⟨"ParkingTariffModel", "ranges", "(III)V"⟩, 21), (⟨"ParkingTariffModel", "band", "()V"⟩, 21), (⟨"ParkingTariffModel", "reports", "(I)V"⟩, 21), (⟨"ParkingTariffModel", "isVoucher", "(I)Z"⟩, 21), (⟨"ParkingTariffModel", "isPlace", "(II)Z"⟩, 21), (⟨"ParkingTariffModel", "kindOf", "(I)I"⟩, 21), (⟨"ParkingTariffModel", "levelPart", "(II)I"⟩, 21), (⟨"ParkingTariffModel", "score", "(I)F"⟩, 21), (⟨"ParkingTariffModel", "bestLevel", "()I"⟩, 21), (⟨"ParkingTariffModel", "inside", "()I"⟩, 21), (⟨"ParkingTariffModel", "set", "(III)V"⟩, 21), (⟨"ParkingTariffModel", "isInside", "(I)Z"⟩, 21), (⟨"ParkingTariffModel", "item", "(II)I"⟩, 21), (⟨"ParkingTariffModel", "dueAt", "(II)I"⟩, 21)]
theorem lw_r2 : ∀ q ∈ lw_privs_2, lw_okq q := List.forall_mem_cons.mpr ⟨lw_p16, List.forall_mem_cons.mpr ⟨lw_p17, List.forall_mem_cons.mpr ⟨lw_p18, List.forall_mem_cons.mpr ⟨lw_p19, List.forall_mem_cons.mpr ⟨lw_p20, List.forall_mem_cons.mpr ⟨lw_p21, List.forall_mem_cons.mpr ⟨lw_p22, List.forall_mem_cons.mpr ⟨lw_p23, List.forall_mem_cons.mpr ⟨lw_p24, List.forall_mem_cons.mpr ⟨lw_p25, List.forall_mem_cons.mpr ⟨lw_p26, List.forall_mem_cons.mpr ⟨lw_p27, List.forall_mem_cons.mpr ⟨lw_p28, List.forall_mem_cons.mpr ⟨lw_p29, List.forall_mem_cons.mpr ⟨lw_p30, List.forall_mem_cons.mpr ⟨lw_p31, fun _ h => absurd h List.not_mem_nil⟩⟩⟩⟩⟩⟩⟩⟩⟩⟩⟩⟩⟩⟩⟩⟩
theorem lw_p32 : lw_okq (⟨"ParkingTariffModel", "lostFee", "(II)I"⟩, 21) := ⟨⟨by decide +kernel, by decide +kernel⟩, List.mem_of_getElem? (i := 908) (by decide +kernel), List.mem_of_getElem? (i := 1202) (by decide +kernel), List.mem_of_getElem? (i := 1203) (by decide +kernel)⟩
theorem lw_p33 : lw_okq (⟨"ParkingTariffModel", "vouchered", "(III)I"⟩, 21) := ⟨⟨by decide +kernel, by decide +kernel⟩, List.mem_of_getElem? (i := 908) (by decide +kernel), List.mem_of_getElem? (i := 1206) (by decide +kernel), List.mem_of_getElem? (i := 1207) (by decide +kernel)⟩
theorem lw_p34 : lw_okq (⟨"ParkingTariffModel", "base", "(II)I"⟩, 21) := ⟨⟨by decide +kernel, by decide +kernel⟩, List.mem_of_getElem? (i := 908) (by decide +kernel), List.mem_of_getElem? (i := 1210) (by decide +kernel), List.mem_of_getElem? (i := 1211) (by decide +kernel)⟩
theorem lw_p35 : lw_okq (⟨"ParkingTariffModel", "amountOf", "(I)I"⟩, 21) := ⟨⟨by decide +kernel, by decide +kernel⟩, List.mem_of_getElem? (i := 908) (by decide +kernel), List.mem_of_getElem? (i := 1214) (by decide +kernel), List.mem_of_getElem? (i := 1215) (by decide +kernel)⟩
theorem lw_p36 : lw_okq (⟨"ParkingTariffModel", "stepsOf", "(I)I"⟩, 21) := ⟨⟨by decide +kernel, by decide +kernel⟩, List.mem_of_getElem? (i := 908) (by decide +kernel), List.mem_of_getElem? (i := 1241) (by decide +kernel), List.mem_of_getElem? (i := 1242) (by decide +kernel)⟩
def lw_privs_3 : List (MethodName × Nat) := [(⟨"ParkingTariffModel", "lostFee", "(II)I"⟩, 21), (⟨"ParkingTariffModel", "vouchered", "(III)I"⟩, 21), (⟨"ParkingTariffModel", "base", "(II)I"⟩, 21), (⟨"ParkingTariffModel", "amountOf", "(I)I"⟩, 21), (⟨"ParkingTariffModel", "stepsOf", "(I)I"⟩, 21)]
theorem lw_r3 : ∀ q ∈ lw_privs_3, lw_okq q := List.forall_mem_cons.mpr ⟨lw_p32, List.forall_mem_cons.mpr ⟨lw_p33, List.forall_mem_cons.mpr ⟨lw_p34, List.forall_mem_cons.mpr ⟨lw_p35, List.forall_mem_cons.mpr ⟨lw_p36, fun _ h => absurd h List.not_mem_nil⟩⟩⟩⟩⟩
def lw_privs : List (MethodName × Nat) := lw_privs_1 ++ (lw_privs_2 ++ (lw_privs_3))
def lw_tbl : List Cond := k2_sels lw_privs ++ tables_1
theorem lw_privs_ok : ∀ q ∈ lw_privs, lw_okq q := by
  show ∀ q ∈ lw_privs_1 ++ (lw_privs_2 ++ (lw_privs_3)), lw_okq q
  exact List.forall_mem_append.mpr ⟨lw_r1, List.forall_mem_append.mpr ⟨lw_r2, lw_r3⟩⟩
/-- the streams that the claim lets the run draw from -/
abbrev lw_cs : List Choice := [Jvm.Choice.named "NaN.bits"]
theorem lw_bits : nanBits ∈ lw_cs := by first | decide | exact List.mem_cons_self | simp [lw_cs, nanBits]
-- NAMES (printed by program, pasted)

/-! ===== BEGIN printed: names, fields, word lists, decode rows ===== -/
def RX0 : String := "ParkingTariff$Band"
def TX0 : u_T := fun k => match k with
  | 0 => ("ParkingTariff$Band", "number", "I", true)
  | 1 => ("ParkingTariff$Band", "beginning", "I", false)
  | 2 => ("ParkingTariff$Band", "price", "I", false)
  | _ => ("ParkingTariff$Band", "length", "I", false)
def tyX0 : Nat → FieldType := fun k => match k with
  | 0 => .int
  | 1 => .int
  | 2 => .int
  | _ => .int
abbrev wsX00 : List Cond := u_ws RX0 TX0 4
theorem nmX0 : ∀ a, a < 4 → ∀ b, b < 4 → a ≠ b → (TX0 a).2.1 ≠ (TX0 b).2.1 := by decide +kernel
theorem tyX0_ok : ∀ k, k < 4 → parseFieldDescriptor (TX0 k).2.2.1 = some (tyX0 k) := by decide +kernel
abbrev cX0_init : ByteArray := prog_2_method_1_code
def yX0_init : MethodName := ⟨RX0, "<init>", "(I)V"⟩
abbrev cX0_tell : ByteArray := prog_2_method_2_code
def yX0_tell : MethodName := ⟨RX0, "tell", "(III)V"⟩
abbrev cX0_copyFrom : ByteArray := prog_2_method_3_code
def yX0_copyFrom : MethodName := ⟨RX0, "copyFrom", "(LParkingTariff$Band;)V"⟩
abbrev cX0_property : ByteArray := prog_2_method_4_code
def yX0_property : MethodName := ⟨RX0, "property", "(I)I"⟩
def RX1 : String := "ParkingTariff$CarPark"
def TX1 : u_T := fun k => match k with
  | 0 => ("ParkingTariff$CarPark", "plans", "[LParkingTariff$Plan;", true)
  | 1 => ("ParkingTariff$CarPark", "vouchers", "[LParkingTariff$Voucher;", true)
  | 2 => ("ParkingTariff$CarPark", "folders", "[LParkingTariff$Folder;", true)
  | 3 => ("ParkingTariff$CarPark", "levels", "[LParkingTariff$Level;", true)
  | 4 => ("ParkingTariff$CarPark", "tickets", "[LParkingTariff$Ticket;", true)
  | 5 => ("ParkingTariff$CarPark", "voucherCount", "I", false)
  | 6 => ("ParkingTariff$CarPark", "ticketCount", "I", false)
  | _ => ("ParkingTariff$CarPark", "minute", "I", false)
def tyX1 : Nat → FieldType := fun k => match k with
  | 0 => .array (.object "ParkingTariff$Plan")
  | 1 => .array (.object "ParkingTariff$Voucher")
  | 2 => .array (.object "ParkingTariff$Folder")
  | 3 => .array (.object "ParkingTariff$Level")
  | 4 => .array (.object "ParkingTariff$Ticket")
  | 5 => .int
  | 6 => .int
  | _ => .int
abbrev wsX10 : List Cond := u_ws RX1 TX1 8
theorem nmX1 : ∀ a, a < 8 → ∀ b, b < 8 → a ≠ b → (TX1 a).2.1 ≠ (TX1 b).2.1 := by decide +kernel
theorem tyX1_ok : ∀ k, k < 8 → parseFieldDescriptor (TX1 k).2.2.1 = some (tyX1 k) := by decide +kernel
abbrev cX1_init : ByteArray := prog_3_method_1_code
def yX1_init : MethodName := ⟨RX1, "<init>", "()V"⟩
abbrev cX1_copyFrom : ByteArray := prog_3_method_2_code
def yX1_copyFrom : MethodName := ⟨RX1, "copyFrom", "(LParkingTariff$CarPark;)V"⟩
abbrev cX1_planAt : ByteArray := prog_3_method_3_code
def yX1_planAt : MethodName := ⟨RX1, "planAt", "(I)LParkingTariff$Plan;"⟩
abbrev cX1_voucherAt : ByteArray := prog_3_method_4_code
def yX1_voucherAt : MethodName := ⟨RX1, "voucherAt", "(I)LParkingTariff$Voucher;"⟩
abbrev cX1_folderAt : ByteArray := prog_3_method_5_code
def yX1_folderAt : MethodName := ⟨RX1, "folderAt", "(I)LParkingTariff$Folder;"⟩
abbrev cX1_levelAt : ByteArray := prog_3_method_6_code
def yX1_levelAt : MethodName := ⟨RX1, "levelAt", "(I)LParkingTariff$Level;"⟩
abbrev cX1_ticketAt : ByteArray := prog_3_method_7_code
def yX1_ticketAt : MethodName := ⟨RX1, "ticketAt", "(I)LParkingTariff$Ticket;"⟩
abbrev cX1_ticketInside : ByteArray := prog_3_method_8_code
def yX1_ticketInside : MethodName := ⟨RX1, "ticketInside", "(I)LParkingTariff$Ticket;"⟩
abbrev cX1_makeVoucher : ByteArray := prog_3_method_9_code
def yX1_makeVoucher : MethodName := ⟨RX1, "makeVoucher", "(II)I"⟩
abbrev cX1_voucherInFolder : ByteArray := prog_3_method_10_code
def yX1_voucherInFolder : MethodName := ⟨RX1, "voucherInFolder", "(II)I"⟩
abbrev cX1_admitCar : ByteArray := prog_3_method_11_code
def yX1_admitCar : MethodName := ⟨RX1, "admitCar", "(I)I"⟩
abbrev cX1_bestLevel : ByteArray := prog_3_method_12_code
def yX1_bestLevel : MethodName := ⟨RX1, "bestLevel", "()I"⟩
abbrev cX1_releaseCar : ByteArray := prog_3_method_13_code
def yX1_releaseCar : MethodName := ⟨RX1, "releaseCar", "(LParkingTariff$Ticket;)V"⟩
abbrev cX1_dueAmount : ByteArray := prog_3_method_14_code
def yX1_dueAmount : MethodName := ⟨RX1, "dueAmount", "(LParkingTariff$Ticket;I)I"⟩
abbrev cX1_amountOfLost : ByteArray := prog_3_method_15_code
def yX1_amountOfLost : MethodName := ⟨RX1, "amountOfLost", "(LParkingTariff$Ticket;I)I"⟩
abbrev cX1_amountAfter : ByteArray := prog_3_method_16_code
def yX1_amountAfter : MethodName := ⟨RX1, "amountAfter", "(LParkingTariff$Ticket;II)I"⟩
abbrev cX1_feeOfShortenedStay : ByteArray := prog_3_method_17_code
def yX1_feeOfShortenedStay : MethodName := ⟨RX1, "feeOfShortenedStay", "(LParkingTariff$Ticket;I)I"⟩
abbrev cX1_minutesGiven : ByteArray := prog_3_method_18_code
def yX1_minutesGiven : MethodName := ⟨RX1, "minutesGiven", "(LParkingTariff$Ticket;)I"⟩
abbrev cX1_lastStep : ByteArray := prog_3_method_19_code
def yX1_lastStep : MethodName := ⟨RX1, "lastStep", "(LParkingTariff$Ticket;)I"⟩
abbrev cX1_moveClock : ByteArray := prog_3_method_20_code
def yX1_moveClock : MethodName := ⟨RX1, "moveClock", "(I)V"⟩
abbrev cX1_carsInside : ByteArray := prog_3_method_21_code
def yX1_carsInside : MethodName := ⟨RX1, "carsInside", "()I"⟩
abbrev cX1_carsLeft : ByteArray := prog_3_method_22_code
def yX1_carsLeft : MethodName := ⟨RX1, "carsLeft", "()I"⟩
abbrev cX1_lostTickets : ByteArray := prog_3_method_23_code
def yX1_lostTickets : MethodName := ⟨RX1, "lostTickets", "()I"⟩
abbrev cX1_paidByPlan : ByteArray := prog_3_method_24_code
def yX1_paidByPlan : MethodName := ⟨RX1, "paidByPlan", "(I)I"⟩
abbrev cX1_paidAltogether : ByteArray := prog_3_method_25_code
def yX1_paidAltogether : MethodName := ⟨RX1, "paidAltogether", "()I"⟩
def RX2 : String := "ParkingTariff$Folder"
def TX2 : u_T := fun k => match k with
  | 0 => ("ParkingTariff$Folder", "contents", "[I", true)
  | 1 => ("ParkingTariff$Folder", "places", "I", false)
  | _ => ("ParkingTariff$Folder", "kind", "I", false)
def tyX2 : Nat → FieldType := fun k => match k with
  | 0 => .array .int
  | 1 => .int
  | _ => .int
abbrev wsX20 : List Cond := u_ws RX2 TX2 3
theorem nmX2 : ∀ a, a < 3 → ∀ b, b < 3 → a ≠ b → (TX2 a).2.1 ≠ (TX2 b).2.1 := by decide +kernel
theorem tyX2_ok : ∀ k, k < 3 → parseFieldDescriptor (TX2 k).2.2.1 = some (tyX2 k) := by decide +kernel
abbrev cX2_init : ByteArray := prog_4_method_1_code
def yX2_init : MethodName := ⟨RX2, "<init>", "()V"⟩
abbrev cX2_isMade : ByteArray := prog_4_method_2_code
def yX2_isMade : MethodName := ⟨RX2, "isMade", "()Z"⟩
abbrev cX2_make : ByteArray := prog_4_method_3_code
def yX2_make : MethodName := ⟨RX2, "make", "(II)V"⟩
abbrev cX2_copyFrom : ByteArray := prog_4_method_4_code
def yX2_copyFrom : MethodName := ⟨RX2, "copyFrom", "(LParkingTariff$Folder;)V"⟩
abbrev cX2_hasPlace : ByteArray := prog_4_method_5_code
def yX2_hasPlace : MethodName := ⟨RX2, "hasPlace", "(I)Z"⟩
abbrev cX2_takes : ByteArray := prog_4_method_6_code
def yX2_takes : MethodName := ⟨RX2, "takes", "(I)Z"⟩
abbrev cX2_fill : ByteArray := prog_4_method_7_code
def yX2_fill : MethodName := ⟨RX2, "fill", "(II)V"⟩
abbrev cX2_content : ByteArray := prog_4_method_8_code
def yX2_content : MethodName := ⟨RX2, "content", "(I)I"⟩
abbrev cX2_filledPlaces : ByteArray := prog_4_method_9_code
def yX2_filledPlaces : MethodName := ⟨RX2, "filledPlaces", "()I"⟩
def RX3 : String := "ParkingTariff$Level"
def TX3 : u_T := fun k => match k with
  | 0 => ("ParkingTariff$Level", "capacity", "I", false)
  | 1 => ("ParkingTariff$Level", "cars", "I", false)
  | 2 => ("ParkingTariff$Level", "exits", "I", false)
  | 3 => ("ParkingTariff$Level", "entered", "I", false)
  | _ => ("ParkingTariff$Level", "rate", "F", false)
def tyX3 : Nat → FieldType := fun k => match k with
  | 0 => .int
  | 1 => .int
  | 2 => .int
  | 3 => .int
  | _ => .float
abbrev wsX30 : List Cond := u_ws RX3 TX3 5
theorem nmX3 : ∀ a, a < 5 → ∀ b, b < 5 → a ≠ b → (TX3 a).2.1 ≠ (TX3 b).2.1 := by decide +kernel
theorem tyX3_ok : ∀ k, k < 5 → parseFieldDescriptor (TX3 k).2.2.1 = some (tyX3 k) := by decide +kernel
abbrev cX3_init : ByteArray := prog_5_method_1_code
def yX3_init : MethodName := ⟨RX3, "<init>", "()V"⟩
abbrev cX3_copyFrom : ByteArray := prog_5_method_2_code
def yX3_copyFrom : MethodName := ⟨RX3, "copyFrom", "(LParkingTariff$Level;)V"⟩
abbrev cX3_property : ByteArray := prog_5_method_3_code
def yX3_property : MethodName := ⟨RX3, "property", "(I)I"⟩
abbrev cX3_freePlaces : ByteArray := prog_5_method_4_code
def yX3_freePlaces : MethodName := ⟨RX3, "freePlaces", "()I"⟩
abbrev cX3_score : ByteArray := prog_5_method_5_code
def yX3_score : MethodName := ⟨RX3, "score", "()F"⟩
abbrev cX3_admitCar : ByteArray := prog_5_method_6_code
def yX3_admitCar : MethodName := ⟨RX3, "admitCar", "()V"⟩
abbrev cX3_releaseCar : ByteArray := prog_5_method_7_code
def yX3_releaseCar : MethodName := ⟨RX3, "releaseCar", "()V"⟩
abbrev cX3_passHour : ByteArray := prog_5_method_8_code
def yX3_passHour : MethodName := ⟨RX3, "passHour", "()V"⟩
abbrev cX3_carsAfter : ByteArray := prog_5_method_9_code
def yX3_carsAfter : MethodName := ⟨RX3, "carsAfter", "(I)I"⟩
def RX4 : String := "ParkingTariff$Meter"
def TX4 : u_T := fun k => match k with
  | 0 => ("ParkingTariff$Meter", "plan", "LParkingTariff$Plan;", true)
  | 1 => ("ParkingTariff$Meter", "from", "I", true)
  | 2 => ("ParkingTariff$Meter", "next", "I", false)
  | 3 => ("ParkingTariff$Meter", "group", "I", false)
  | 4 => ("ParkingTariff$Meter", "closedSum", "I", false)
  | _ => ("ParkingTariff$Meter", "openSum", "I", false)
def tyX4 : Nat → FieldType := fun k => match k with
  | 0 => .object "ParkingTariff$Plan"
  | 1 => .int
  | 2 => .int
  | 3 => .int
  | 4 => .int
  | _ => .int
abbrev wsX40 : List Cond := u_ws RX4 TX4 6
theorem nmX4 : ∀ a, a < 6 → ∀ b, b < 6 → a ≠ b → (TX4 a).2.1 ≠ (TX4 b).2.1 := by decide +kernel
theorem tyX4_ok : ∀ k, k < 6 → parseFieldDescriptor (TX4 k).2.2.1 = some (tyX4 k) := by decide +kernel
abbrev cX4_init : ByteArray := prog_6_method_1_code
def yX4_init : MethodName := ⟨RX4, "<init>", "(LParkingTariff$Plan;I)V"⟩
abbrev cX4_addUnit : ByteArray := prog_6_method_2_code
def yX4_addUnit : MethodName := ⟨RX4, "addUnit", "()V"⟩
abbrev cX4_amount : ByteArray := prog_6_method_3_code
def yX4_amount : MethodName := ⟨RX4, "amount", "()I"⟩
def RX5 : String := "ParkingTariff$Plan"
def TX5 : u_T := fun k => match k with
  | 0 => ("ParkingTariff$Plan", "bands", "[LParkingTariff$Band;", true)
  | 1 => ("ParkingTariff$Plan", "bandCount", "I", false)
  | 2 => ("ParkingTariff$Plan", "freeMinutes", "I", false)
  | 3 => ("ParkingTariff$Plan", "cap", "I", false)
  | 4 => ("ParkingTariff$Plan", "way", "I", false)
  | _ => ("ParkingTariff$Plan", "lostFee", "I", false)
def tyX5 : Nat → FieldType := fun k => match k with
  | 0 => .array (.object "ParkingTariff$Band")
  | 1 => .int
  | 2 => .int
  | 3 => .int
  | 4 => .int
  | _ => .int
abbrev wsX50 : List Cond := u_ws RX5 TX5 6
theorem nmX5 : ∀ a, a < 6 → ∀ b, b < 6 → a ≠ b → (TX5 a).2.1 ≠ (TX5 b).2.1 := by decide +kernel
theorem tyX5_ok : ∀ k, k < 6 → parseFieldDescriptor (TX5 k).2.2.1 = some (tyX5 k) := by decide +kernel
abbrev cX5_init : ByteArray := prog_7_method_1_code
def yX5_init : MethodName := ⟨RX5, "<init>", "()V"⟩
abbrev cX5_reset : ByteArray := prog_7_method_2_code
def yX5_reset : MethodName := ⟨RX5, "reset", "()V"⟩
abbrev cX5_copyFrom : ByteArray := prog_7_method_3_code
def yX5_copyFrom : MethodName := ⟨RX5, "copyFrom", "(LParkingTariff$Plan;)V"⟩
abbrev cX5_property : ByteArray := prog_7_method_4_code
def yX5_property : MethodName := ⟨RX5, "property", "(I)I"⟩
abbrev cX5_bandAt : ByteArray := prog_7_method_5_code
def yX5_bandAt : MethodName := ⟨RX5, "bandAt", "(I)LParkingTariff$Band;"⟩
abbrev cX5_bandOfMinute : ByteArray := prog_7_method_6_code
def yX5_bandOfMinute : MethodName := ⟨RX5, "bandOfMinute", "(I)LParkingTariff$Band;"⟩
abbrev cX5_groupOf : ByteArray := prog_7_method_7_code
def yX5_groupOf : MethodName := ⟨RX5, "groupOf", "(II)I"⟩
abbrev cX5_capped : ByteArray := prog_7_method_8_code
def yX5_capped : MethodName := ⟨RX5, "capped", "(I)I"⟩
abbrev cX5_feeOfStay : ByteArray := prog_7_method_9_code
def yX5_feeOfStay : MethodName := ⟨RX5, "feeOfStay", "(II)I"⟩
abbrev cX5_latestEnd : ByteArray := prog_7_method_10_code
def yX5_latestEnd : MethodName := ⟨RX5, "latestEnd", "(II)I"⟩
abbrev cX5_partOfUnit : ByteArray := prog_7_method_11_code
def yX5_partOfUnit : MethodName := ⟨RX5, "partOfUnit", "(III)I"⟩
def RX6 : String := "ParkingTariff$PlanText"
def TX6 : u_T := fun k => match k with
  | 0 => ("ParkingTariff$PlanText", "signs", "[C", true)
  | 1 => ("ParkingTariff$PlanText", "numbers", "[I", true)
  | 2 => ("ParkingTariff$PlanText", "draft", "LParkingTariff$Plan;", true)
  | 3 => ("ParkingTariff$PlanText", "length", "I", false)
  | 4 => ("ParkingTariff$PlanText", "position", "I", false)
  | 5 => ("ParkingTariff$PlanText", "clause", "I", false)
  | 6 => ("ParkingTariff$PlanText", "toldBands", "I", false)
  | 7 => ("ParkingTariff$PlanText", "faultCode", "I", false)
  | _ => ("ParkingTariff$PlanText", "faultNumber", "I", false)
def tyX6 : Nat → FieldType := fun k => match k with
  | 0 => .array .char
  | 1 => .array .int
  | 2 => .object "ParkingTariff$Plan"
  | 3 => .int
  | 4 => .int
  | 5 => .int
  | 6 => .int
  | 7 => .int
  | _ => .int
abbrev wsX60 : List Cond := u_ws RX6 TX6 9
theorem nmX6 : ∀ a, a < 9 → ∀ b, b < 9 → a ≠ b → (TX6 a).2.1 ≠ (TX6 b).2.1 := by decide +kernel
theorem tyX6_ok : ∀ k, k < 9 → parseFieldDescriptor (TX6 k).2.2.1 = some (tyX6 k) := by decide +kernel
abbrev cX6_init : ByteArray := prog_8_method_1_code
def yX6_init : MethodName := ⟨RX6, "<init>", "()V"⟩
abbrev cX6_hasRoomFor : ByteArray := prog_8_method_2_code
def yX6_hasRoomFor : MethodName := ⟨RX6, "hasRoomFor", "(I)Z"⟩
abbrev cX6_add : ByteArray := prog_8_method_3_code
def yX6_add : MethodName := ⟨RX6, "add", "(CI)V"⟩
abbrev cX6_clear : ByteArray := prog_8_method_4_code
def yX6_clear : MethodName := ⟨RX6, "clear", "()V"⟩
abbrev cX6_describesPlan : ByteArray := prog_8_method_5_code
def yX6_describesPlan : MethodName := ⟨RX6, "describesPlan", "()Z"⟩
abbrev cX6_readClause : ByteArray := prog_8_method_6_code
def yX6_readClause : MethodName := ⟨RX6, "readClause", "()Z"⟩
abbrev cX6_readSetting : ByteArray := prog_8_method_7_code
def yX6_readSetting : MethodName := ⟨RX6, "readSetting", "(I)Z"⟩
abbrev cX6_readBand : ByteArray := prog_8_method_8_code
def yX6_readBand : MethodName := ⟨RX6, "readBand", "()Z"⟩
abbrev cX6_isInOrder : ByteArray := prog_8_method_9_code
def yX6_isInOrder : MethodName := ⟨RX6, "isInOrder", "(I)Z"⟩
abbrev cX6_skipWord : ByteArray := prog_8_method_10_code
def yX6_skipWord : MethodName := ⟨RX6, "skipWord", "()V"⟩
abbrev cX6_isSmallLetter : ByteArray := prog_8_method_11_code
def yX6_isSmallLetter : MethodName := ⟨RX6, "isSmallLetter", "(C)Z"⟩
abbrev cX6_isWord : ByteArray := prog_8_method_12_code
def yX6_isWord : MethodName := ⟨RX6, "isWord", "(ILjava/lang/String;)Z"⟩
abbrev cX6_readNumbers : ByteArray := prog_8_method_13_code
def yX6_readNumbers : MethodName := ⟨RX6, "readNumbers", "(I)Z"⟩
abbrev cX6_readSign : ByteArray := prog_8_method_14_code
def yX6_readSign : MethodName := ⟨RX6, "readSign", "(C)Z"⟩
abbrev cX6_readNumber : ByteArray := prog_8_method_15_code
def yX6_readNumber : MethodName := ⟨RX6, "readNumber", "(I)Z"⟩
abbrev cX6_isDigit : ByteArray := prog_8_method_16_code
def yX6_isDigit : MethodName := ⟨RX6, "isDigit", "(C)Z"⟩
abbrev cX6_inRange : ByteArray := prog_8_method_17_code
def yX6_inRange : MethodName := ⟨RX6, "inRange", "(III)Z"⟩
abbrev cX6_fault : ByteArray := prog_8_method_18_code
def yX6_fault : MethodName := ⟨RX6, "fault", "(II)Z"⟩
def RX7 : String := "ParkingTariff$Report"
def TX7 : u_T := fun k => match k with
  | 0 => ("ParkingTariff$Report", "codes", "[I", true)
  | 1 => ("ParkingTariff$Report", "numbers", "[I", true)
  | _ => ("ParkingTariff$Report", "levels", "I", false)
def tyX7 : Nat → FieldType := fun k => match k with
  | 0 => .array .int
  | 1 => .array .int
  | _ => .int
abbrev wsX70 : List Cond := u_ws RX7 TX7 3
theorem nmX7 : ∀ a, a < 3 → ∀ b, b < 3 → a ≠ b → (TX7 a).2.1 ≠ (TX7 b).2.1 := by decide +kernel
theorem tyX7_ok : ∀ k, k < 3 → parseFieldDescriptor (TX7 k).2.2.1 = some (tyX7 k) := by decide +kernel
abbrev cX7_init : ByteArray := prog_9_method_1_code
def yX7_init : MethodName := ⟨RX7, "<init>", "()V"⟩
abbrev cX7_hasLevel : ByteArray := prog_9_method_2_code
def yX7_hasLevel : MethodName := ⟨RX7, "hasLevel", "(I)Z"⟩
abbrev cX7_tell : ByteArray := prog_9_method_3_code
def yX7_tell : MethodName := ⟨RX7, "tell", "(IIII)V"⟩
def RX8 : String := "ParkingTariff$Ticket"
def TX8 : u_T := fun k => match k with
  | 0 => ("ParkingTariff$Ticket", "vouchers", "[I", true)
  | 1 => ("ParkingTariff$Ticket", "voucherCount", "I", false)
  | 2 => ("ParkingTariff$Ticket", "plan", "I", false)
  | 3 => ("ParkingTariff$Ticket", "entry", "I", false)
  | 4 => ("ParkingTariff$Ticket", "level", "I", false)
  | 5 => ("ParkingTariff$Ticket", "paid", "I", false)
  | 6 => ("ParkingTariff$Ticket", "latestPayment", "I", false)
  | 7 => ("ParkingTariff$Ticket", "left", "Z", false)
  | _ => ("ParkingTariff$Ticket", "lost", "Z", false)
def tyX8 : Nat → FieldType := fun k => match k with
  | 0 => .array .int
  | 1 => .int
  | 2 => .int
  | 3 => .int
  | 4 => .int
  | 5 => .int
  | 6 => .int
  | 7 => .boolean
  | _ => .boolean
abbrev wsX80 : List Cond := u_ws RX8 TX8 9
theorem nmX8 : ∀ a, a < 9 → ∀ b, b < 9 → a ≠ b → (TX8 a).2.1 ≠ (TX8 b).2.1 := by decide +kernel
theorem tyX8_ok : ∀ k, k < 9 → parseFieldDescriptor (TX8 k).2.2.1 = some (tyX8 k) := by decide +kernel
abbrev cX8_init : ByteArray := prog_10_method_1_code
def yX8_init : MethodName := ⟨RX8, "<init>", "()V"⟩
abbrev cX8_begin : ByteArray := prog_10_method_2_code
def yX8_begin : MethodName := ⟨RX8, "begin", "(III)V"⟩
abbrev cX8_copyFrom : ByteArray := prog_10_method_3_code
def yX8_copyFrom : MethodName := ⟨RX8, "copyFrom", "(LParkingTariff$Ticket;)V"⟩
abbrev cX8_property : ByteArray := prog_10_method_4_code
def yX8_property : MethodName := ⟨RX8, "property", "(I)I"⟩
abbrev cX8_hasRoomForVoucher : ByteArray := prog_10_method_5_code
def yX8_hasRoomForVoucher : MethodName := ⟨RX8, "hasRoomForVoucher", "()Z"⟩
abbrev cX8_addVoucherNumber : ByteArray := prog_10_method_6_code
def yX8_addVoucherNumber : MethodName := ⟨RX8, "addVoucherNumber", "(I)V"⟩
abbrev cX8_voucherNumber : ByteArray := prog_10_method_7_code
def yX8_voucherNumber : MethodName := ⟨RX8, "voucherNumber", "(I)I"⟩
abbrev cX8_takePayment : ByteArray := prog_10_method_8_code
def yX8_takePayment : MethodName := ⟨RX8, "takePayment", "(II)V"⟩
abbrev cX8_paidWithin : ByteArray := prog_10_method_9_code
def yX8_paidWithin : MethodName := ⟨RX8, "paidWithin", "(II)Z"⟩
def RX9 : String := "ParkingTariff$Voucher"
def TX9 : u_T := fun k => match k with
  | 0 => ("ParkingTariff$Voucher", "kind", "I", false)
  | 1 => ("ParkingTariff$Voucher", "amount", "I", false)
  | _ => ("ParkingTariff$Voucher", "given", "I", false)
def tyX9 : Nat → FieldType := fun k => match k with
  | 0 => .int
  | 1 => .int
  | _ => .int
abbrev wsX90 : List Cond := u_ws RX9 TX9 3
theorem nmX9 : ∀ a, a < 3 → ∀ b, b < 3 → a ≠ b → (TX9 a).2.1 ≠ (TX9 b).2.1 := by decide +kernel
theorem tyX9_ok : ∀ k, k < 3 → parseFieldDescriptor (TX9 k).2.2.1 = some (tyX9 k) := by decide +kernel
abbrev cX9_init : ByteArray := prog_11_method_1_code
def yX9_init : MethodName := ⟨RX9, "<init>", "()V"⟩
abbrev cX9_begin : ByteArray := prog_11_method_2_code
def yX9_begin : MethodName := ⟨RX9, "begin", "(II)V"⟩
abbrev cX9_copyFrom : ByteArray := prog_11_method_3_code
def yX9_copyFrom : MethodName := ⟨RX9, "copyFrom", "(LParkingTariff$Voucher;)V"⟩
abbrev cX9_property : ByteArray := prog_11_method_4_code
def yX9_property : MethodName := ⟨RX9, "property", "(I)I"⟩
abbrev cX9_reduce : ByteArray := prog_11_method_5_code
def yX9_reduce : MethodName := ⟨RX9, "reduce", "(I)I"⟩
def RX10 : String := "ParkingTariff"
def TX10 : u_T := fun k => match k with
  | 0 => ("ParkingTariff", "park", "LParkingTariff$CarPark;", true)
  | 1 => ("ParkingTariff", "snapshot", "LParkingTariff$CarPark;", true)
  | 2 => ("ParkingTariff", "hasSnapshot", "Z", false)
  | 3 => ("ParkingTariff", "text", "LParkingTariff$PlanText;", true)
  | _ => ("ParkingTariff", "report", "LParkingTariff$Report;", true)
def tyX10 : Nat → FieldType := fun k => match k with
  | 0 => .object "ParkingTariff$CarPark"
  | 1 => .object "ParkingTariff$CarPark"
  | 2 => .boolean
  | 3 => .object "ParkingTariff$PlanText"
  | _ => .object "ParkingTariff$Report"
abbrev wsX100 : List Cond := u_ws RX10 TX10 5
theorem nmX10 : ∀ a, a < 5 → ∀ b, b < 5 → a ≠ b → (TX10 a).2.1 ≠ (TX10 b).2.1 := by decide +kernel
theorem tyX10_ok : ∀ k, k < 5 → parseFieldDescriptor (TX10 k).2.2.1 = some (tyX10 k) := by decide +kernel
abbrev cX10_init : ByteArray := prog_1_method_1_code
def yX10_init : MethodName := ⟨RX10, "<init>", "()V"⟩
abbrev cX10_append : ByteArray := prog_1_method_2_code
def yX10_append : MethodName := ⟨RX10, "append", "(II)I"⟩
abbrev cX10_readPlan : ByteArray := prog_1_method_3_code
def yX10_readPlan : MethodName := ⟨RX10, "readPlan", "(I)I"⟩
abbrev cX10_plan : ByteArray := prog_1_method_4_code
def yX10_plan : MethodName := ⟨RX10, "plan", "(II)I"⟩
abbrev cX10_band : ByteArray := prog_1_method_5_code
def yX10_band : MethodName := ⟨RX10, "band", "(III)I"⟩
abbrev cX10_fee : ByteArray := prog_1_method_6_code
def yX10_fee : MethodName := ⟨RX10, "fee", "(III)I"⟩
abbrev cX10_unit : ByteArray := prog_1_method_7_code
def yX10_unit : MethodName := ⟨RX10, "unit", "(IIII)I"⟩
abbrev cX10_extend : ByteArray := prog_1_method_8_code
def yX10_extend : MethodName := ⟨RX10, "extend", "(III)I"⟩
abbrev cX10_addVoucher : ByteArray := prog_1_method_9_code
def yX10_addVoucher : MethodName := ⟨RX10, "addVoucher", "(II)I"⟩
abbrev cX10_voucher : ByteArray := prog_1_method_10_code
def yX10_voucher : MethodName := ⟨RX10, "voucher", "(II)I"⟩
abbrev cX10_makeFolder : ByteArray := prog_1_method_11_code
def yX10_makeFolder : MethodName := ⟨RX10, "makeFolder", "(III)I"⟩
abbrev cX10_put : ByteArray := prog_1_method_12_code
def yX10_put : MethodName := ⟨RX10, "put", "(III)I"⟩
abbrev cX10_inFolder : ByteArray := prog_1_method_13_code
def yX10_inFolder : MethodName := ⟨RX10, "inFolder", "(II)I"⟩
abbrev cX10_enter : ByteArray := prog_1_method_14_code
def yX10_enter : MethodName := ⟨RX10, "enter", "(I)I"⟩
abbrev cX10_give : ByteArray := prog_1_method_15_code
def yX10_give : MethodName := ⟨RX10, "give", "(III)I"⟩
abbrev cX10_lose : ByteArray := prog_1_method_16_code
def yX10_lose : MethodName := ⟨RX10, "lose", "(I)I"⟩
abbrev cX10_due : ByteArray := prog_1_method_17_code
def yX10_due : MethodName := ⟨RX10, "due", "(II)I"⟩
abbrev cX10_pay : ByteArray := prog_1_method_18_code
def yX10_pay : MethodName := ⟨RX10, "pay", "(I)I"⟩
abbrev cX10_leave : ByteArray := prog_1_method_19_code
def yX10_leave : MethodName := ⟨RX10, "leave", "(I)I"⟩
abbrev cX10_ticket : ByteArray := prog_1_method_20_code
def yX10_ticket : MethodName := ⟨RX10, "ticket", "(II)I"⟩
abbrev cX10_step : ByteArray := prog_1_method_21_code
def yX10_step : MethodName := ⟨RX10, "step", "(II)I"⟩
abbrev cX10_advance : ByteArray := prog_1_method_22_code
def yX10_advance : MethodName := ⟨RX10, "advance", "(I)I"⟩
abbrev cX10_setCapacity : ByteArray := prog_1_method_23_code
def yX10_setCapacity : MethodName := ⟨RX10, "setCapacity", "(II)I"⟩
abbrev cX10_level : ByteArray := prog_1_method_24_code
def yX10_level : MethodName := ⟨RX10, "level", "(II)I"⟩
abbrev cX10_forecast : ByteArray := prog_1_method_25_code
def yX10_forecast : MethodName := ⟨RX10, "forecast", "(II)I"⟩
abbrev cX10_count : ByteArray := prog_1_method_26_code
def yX10_count : MethodName := ⟨RX10, "count", "(I)I"⟩
abbrev cX10_reportLevels : ByteArray := prog_1_method_27_code
def yX10_reportLevels : MethodName := ⟨RX10, "reportLevels", "()I"⟩
abbrev cX10_reportCode : ByteArray := prog_1_method_28_code
def yX10_reportCode : MethodName := ⟨RX10, "reportCode", "(I)I"⟩
abbrev cX10_reportNumber : ByteArray := prog_1_method_29_code
def yX10_reportNumber : MethodName := ⟨RX10, "reportNumber", "(I)I"⟩
abbrev cX10_save : ByteArray := prog_1_method_30_code
def yX10_save : MethodName := ⟨RX10, "save", "()I"⟩
abbrev cX10_restore : ByteArray := prog_1_method_31_code
def yX10_restore : MethodName := ⟨RX10, "restore", "()I"⟩
abbrev cX10_isStay : ByteArray := prog_1_method_32_code
def yX10_isStay : MethodName := ⟨RX10, "isStay", "(II)Z"⟩
abbrev cX10_within : ByteArray := prog_1_method_33_code
def yX10_within : MethodName := ⟨RX10, "within", "(III)Z"⟩
abbrev cX10_bitsOf : ByteArray := prog_1_method_34_code
def yX10_bitsOf : MethodName := ⟨RX10, "bitsOf", "(F)I"⟩
def RX11 : String := "ParkingTariffModel"
def TX11 : u_T := fun k => match k with
  | 0 => ("ParkingTariffModel", "s", "[I", true)
  | 1 => ("ParkingTariffModel", "saved", "[I", true)
  | 2 => ("ParkingTariffModel", "rates", "[F", true)
  | 3 => ("ParkingTariffModel", "savedRates", "[F", true)
  | 4 => ("ParkingTariffModel", "hasSaved", "Z", false)
  | 5 => ("ParkingTariffModel", "text", "[I", true)
  | 6 => ("ParkingTariffModel", "length", "I", false)
  | 7 => ("ParkingTariffModel", "report", "[I", true)
  | 8 => ("ParkingTariffModel", "reported", "I", false)
  | 9 => ("ParkingTariffModel", "at", "I", false)
  | 10 => ("ParkingTariffModel", "group", "I", false)
  | 11 => ("ParkingTariffModel", "sum", "I", false)
  | 12 => ("ParkingTariffModel", "closed", "I", false)
  | 13 => ("ParkingTariffModel", "total", "I", false)
  | 14 => ("ParkingTariffModel", "spot", "I", false)
  | 15 => ("ParkingTariffModel", "clause", "I", false)
  | 16 => ("ParkingTariffModel", "fault", "I", false)
  | 17 => ("ParkingTariffModel", "faulty", "I", false)
  | 18 => ("ParkingTariffModel", "draft", "[I", true)
  | 19 => ("ParkingTariffModel", "numbers", "[I", true)
  | _ => ("ParkingTariffModel", "drafted", "I", false)
def tyX11 : Nat → FieldType := fun k => match k with
  | 0 => .array .int
  | 1 => .array .int
  | 2 => .array .float
  | 3 => .array .float
  | 4 => .boolean
  | 5 => .array .int
  | 6 => .int
  | 7 => .array .int
  | 8 => .int
  | 9 => .int
  | 10 => .int
  | 11 => .int
  | 12 => .int
  | 13 => .int
  | 14 => .int
  | 15 => .int
  | 16 => .int
  | 17 => .int
  | 18 => .array .int
  | 19 => .array .int
  | _ => .int
abbrev wsX110 : List Cond := u_ws RX11 TX11 21
theorem nmX11 : ∀ a, a < 21 → ∀ b, b < 21 → a ≠ b → (TX11 a).2.1 ≠ (TX11 b).2.1 := by decide +kernel
theorem tyX11_ok : ∀ k, k < 21 → parseFieldDescriptor (TX11 k).2.2.1 = some (tyX11 k) := by decide +kernel
abbrev cX11_init : ByteArray := prog_13_method_1_code
def yX11_init : MethodName := ⟨RX11, "<init>", "()V"⟩
abbrev cX11_in : ByteArray := prog_13_method_2_code
def yX11_in : MethodName := ⟨RX11, "in", "(III)Z"⟩
abbrev cX11_isPlan : ByteArray := prog_13_method_3_code
def yX11_isPlan : MethodName := ⟨RX11, "isPlan", "(I)Z"⟩
abbrev cX11_isMinute : ByteArray := prog_13_method_4_code
def yX11_isMinute : MethodName := ⟨RX11, "isMinute", "(I)Z"⟩
abbrev cX11_clears : ByteArray := prog_13_method_5_code
def yX11_clears : MethodName := ⟨RX11, "clears", "(I)V"⟩
abbrev cX11_of : ByteArray := prog_13_method_6_code
def yX11_of : MethodName := ⟨RX11, "of", "(II)I"⟩
abbrev cX11_bandPart : ByteArray := prog_13_method_7_code
def yX11_bandPart : MethodName := ⟨RX11, "bandPart", "(III)I"⟩
abbrev cX11_bandAt : ByteArray := prog_13_method_8_code
def yX11_bandAt : MethodName := ⟨RX11, "bandAt", "(II)I"⟩
abbrev cX11_begins : ByteArray := prog_13_method_9_code
def yX11_begins : MethodName := ⟨RX11, "begins", "(I)V"⟩
abbrev cX11_capped : ByteArray := prog_13_method_10_code
def yX11_capped : MethodName := ⟨RX11, "capped", "(II)I"⟩
abbrev cX11_groupOf : ByteArray := prog_13_method_11_code
def yX11_groupOf : MethodName := ⟨RX11, "groupOf", "(II)I"⟩
abbrev cX11_adds : ByteArray := prog_13_method_12_code
def yX11_adds : MethodName := ⟨RX11, "adds", "(II)V"⟩
abbrev cX11_feeOf : ByteArray := prog_13_method_13_code
def yX11_feeOf : MethodName := ⟨RX11, "feeOf", "(III)I"⟩
abbrev cX11_isStay : ByteArray := prog_13_method_14_code
def yX11_isStay : MethodName := ⟨RX11, "isStay", "(III)Z"⟩
abbrev cX11_fee : ByteArray := prog_13_method_15_code
def yX11_fee : MethodName := ⟨RX11, "fee", "(III)I"⟩
abbrev cX11_unit : ByteArray := prog_13_method_16_code
def yX11_unit : MethodName := ⟨RX11, "unit", "(IIII)I"⟩
abbrev cX11_extend : ByteArray := prog_13_method_17_code
def yX11_extend : MethodName := ⟨RX11, "extend", "(III)I"⟩
abbrev cX11_append : ByteArray := prog_13_method_18_code
def yX11_append : MethodName := ⟨RX11, "append", "(II)I"⟩
abbrev cX11_here : ByteArray := prog_13_method_19_code
def yX11_here : MethodName := ⟨RX11, "here", "()I"⟩
abbrev cX11_fails : ByteArray := prog_13_method_20_code
def yX11_fails : MethodName := ⟨RX11, "fails", "(II)V"⟩
abbrev cX11_must : ByteArray := prog_13_method_21_code
def yX11_must : MethodName := ⟨RX11, "must", "(I)V"⟩
abbrev cX11_number : ByteArray := prog_13_method_22_code
def yX11_number : MethodName := ⟨RX11, "number", "(I)V"⟩
abbrev cX11_isWord : ByteArray := prog_13_method_23_code
def yX11_isWord : MethodName := ⟨RX11, "isWord", "(IICCCC)Z"⟩
abbrev cX11_ranges : ByteArray := prog_13_method_24_code
def yX11_ranges : MethodName := ⟨RX11, "ranges", "(III)V"⟩
abbrev cX11_band : ByteArray := prog_13_method_25_code
def yX11_band : MethodName := ⟨RX11, "band", "()V"⟩
abbrev cX11_amount : ByteArray := prog_13_method_26_code
def yX11_amount : MethodName := ⟨RX11, "amount", "(II)V"⟩
abbrev cX11_clause : ByteArray := prog_13_method_27_code
def yX11_clause : MethodName := ⟨RX11, "clause", "()V"⟩
abbrev cX11_reads : ByteArray := prog_13_method_28_code
def yX11_reads : MethodName := ⟨RX11, "reads", "()V"⟩
abbrev cX11_reports : ByteArray := prog_13_method_29_code
def yX11_reports : MethodName := ⟨RX11, "reports", "(I)V"⟩
abbrev cX11_readPlan : ByteArray := prog_13_method_30_code
def yX11_readPlan : MethodName := ⟨RX11, "readPlan", "(I)I"⟩
abbrev cX11_plan : ByteArray := prog_13_method_31_code
def yX11_plan : MethodName := ⟨RX11, "plan", "(II)I"⟩
abbrev cX11_band_ : ByteArray := prog_13_method_32_code
def yX11_band_ : MethodName := ⟨RX11, "band", "(III)I"⟩
abbrev cX11_isVoucher : ByteArray := prog_13_method_33_code
def yX11_isVoucher : MethodName := ⟨RX11, "isVoucher", "(I)Z"⟩
abbrev cX11_kindOf : ByteArray := prog_13_method_34_code
def yX11_kindOf : MethodName := ⟨RX11, "kindOf", "(I)I"⟩
abbrev cX11_amountOf : ByteArray := prog_13_method_35_code
def yX11_amountOf : MethodName := ⟨RX11, "amountOf", "(I)I"⟩
abbrev cX11_addVoucher : ByteArray := prog_13_method_36_code
def yX11_addVoucher : MethodName := ⟨RX11, "addVoucher", "(II)I"⟩
abbrev cX11_voucher : ByteArray := prog_13_method_37_code
def yX11_voucher : MethodName := ⟨RX11, "voucher", "(II)I"⟩
abbrev cX11_makeFolder : ByteArray := prog_13_method_38_code
def yX11_makeFolder : MethodName := ⟨RX11, "makeFolder", "(III)I"⟩
abbrev cX11_isPlace : ByteArray := prog_13_method_39_code
def yX11_isPlace : MethodName := ⟨RX11, "isPlace", "(II)Z"⟩
abbrev cX11_put : ByteArray := prog_13_method_40_code
def yX11_put : MethodName := ⟨RX11, "put", "(III)I"⟩
abbrev cX11_inFolder : ByteArray := prog_13_method_41_code
def yX11_inFolder : MethodName := ⟨RX11, "inFolder", "(II)I"⟩
abbrev cX11_levelPart : ByteArray := prog_13_method_42_code
def yX11_levelPart : MethodName := ⟨RX11, "levelPart", "(II)I"⟩
abbrev cX11_score : ByteArray := prog_13_method_43_code
def yX11_score : MethodName := ⟨RX11, "score", "(I)F"⟩
abbrev cX11_bestLevel : ByteArray := prog_13_method_44_code
def yX11_bestLevel : MethodName := ⟨RX11, "bestLevel", "()I"⟩
abbrev cX11_setCapacity : ByteArray := prog_13_method_45_code
def yX11_setCapacity : MethodName := ⟨RX11, "setCapacity", "(II)I"⟩
abbrev cX11_level : ByteArray := prog_13_method_46_code
def yX11_level : MethodName := ⟨RX11, "level", "(II)I"⟩
abbrev cX11_forecast : ByteArray := prog_13_method_47_code
def yX11_forecast : MethodName := ⟨RX11, "forecast", "(II)I"⟩
abbrev cX11_item : ByteArray := prog_13_method_48_code
def yX11_item : MethodName := ⟨RX11, "item", "(II)I"⟩
abbrev cX11_set : ByteArray := prog_13_method_49_code
def yX11_set : MethodName := ⟨RX11, "set", "(III)V"⟩
abbrev cX11_isInside : ByteArray := prog_13_method_50_code
def yX11_isInside : MethodName := ⟨RX11, "isInside", "(I)Z"⟩
abbrev cX11_inside : ByteArray := prog_13_method_51_code
def yX11_inside : MethodName := ⟨RX11, "inside", "()I"⟩
abbrev cX11_enter : ByteArray := prog_13_method_52_code
def yX11_enter : MethodName := ⟨RX11, "enter", "(I)I"⟩
abbrev cX11_give : ByteArray := prog_13_method_53_code
def yX11_give : MethodName := ⟨RX11, "give", "(III)I"⟩
abbrev cX11_base : ByteArray := prog_13_method_54_code
def yX11_base : MethodName := ⟨RX11, "base", "(II)I"⟩
abbrev cX11_lowered : ByteArray := prog_13_method_55_code
def yX11_lowered : MethodName := ⟨RX11, "lowered", "(III)I"⟩
abbrev cX11_vouchered : ByteArray := prog_13_method_56_code
def yX11_vouchered : MethodName := ⟨RX11, "vouchered", "(III)I"⟩
abbrev cX11_lostFee : ByteArray := prog_13_method_57_code
def yX11_lostFee : MethodName := ⟨RX11, "lostFee", "(II)I"⟩
abbrev cX11_dueAt : ByteArray := prog_13_method_58_code
def yX11_dueAt : MethodName := ⟨RX11, "dueAt", "(II)I"⟩
abbrev cX11_lose : ByteArray := prog_13_method_59_code
def yX11_lose : MethodName := ⟨RX11, "lose", "(I)I"⟩
abbrev cX11_due : ByteArray := prog_13_method_60_code
def yX11_due : MethodName := ⟨RX11, "due", "(II)I"⟩
abbrev cX11_pay : ByteArray := prog_13_method_61_code
def yX11_pay : MethodName := ⟨RX11, "pay", "(I)I"⟩
abbrev cX11_leave : ByteArray := prog_13_method_62_code
def yX11_leave : MethodName := ⟨RX11, "leave", "(I)I"⟩
abbrev cX11_ticket : ByteArray := prog_13_method_63_code
def yX11_ticket : MethodName := ⟨RX11, "ticket", "(II)I"⟩
abbrev cX11_stepsOf : ByteArray := prog_13_method_64_code
def yX11_stepsOf : MethodName := ⟨RX11, "stepsOf", "(I)I"⟩
abbrev cX11_step : ByteArray := prog_13_method_65_code
def yX11_step : MethodName := ⟨RX11, "step", "(II)I"⟩
abbrev cX11_advance : ByteArray := prog_13_method_66_code
def yX11_advance : MethodName := ⟨RX11, "advance", "(I)I"⟩
abbrev cX11_count : ByteArray := prog_13_method_67_code
def yX11_count : MethodName := ⟨RX11, "count", "(I)I"⟩
abbrev cX11_reportLevels : ByteArray := prog_13_method_68_code
def yX11_reportLevels : MethodName := ⟨RX11, "reportLevels", "()I"⟩
abbrev cX11_reportCode : ByteArray := prog_13_method_69_code
def yX11_reportCode : MethodName := ⟨RX11, "reportCode", "(I)I"⟩
abbrev cX11_reportNumber : ByteArray := prog_13_method_70_code
def yX11_reportNumber : MethodName := ⟨RX11, "reportNumber", "(I)I"⟩
abbrev cX11_save : ByteArray := prog_13_method_71_code
def yX11_save : MethodName := ⟨RX11, "save", "()I"⟩
abbrev cX11_restore : ByteArray := prog_13_method_72_code
def yX11_restore : MethodName := ⟨RX11, "restore", "()I"⟩
def RJxf58ca : String := "java/lang/Float"
def TJxf58ca : u_T := fun k => match k with
  | _ => ("", "", "", false)
def tyJxf58ca : Nat → FieldType := fun k => match k with
  | _ => .int
abbrev wsJxf58ca0 : List Cond := u_ws RJxf58ca TJxf58ca 0
theorem nmJxf58ca : ∀ a, a < 0 → ∀ b, b < 0 → a ≠ b → (TJxf58ca a).2.1 ≠ (TJxf58ca b).2.1 := by decide +kernel
theorem tyJxf58ca_ok : ∀ k, k < 0 → parseFieldDescriptor (TJxf58ca k).2.2.1 = some (tyJxf58ca k) := by decide +kernel
abbrev cJxf58ca_isNaN_12338 : ByteArray := prog_14_method_6_code
def yJxf58ca_isNaN_12338 : MethodName := ⟨RJxf58ca, "isNaN", "(F)Z"⟩
abbrev cJxf58ca_floatToIntBits_5c35a : ByteArray := prog_14_method_24_code
def yJxf58ca_floatToIntBits_5c35a : MethodName := ⟨RJxf58ca, "floatToIntBits", "(F)I"⟩
def RJ9 : String := "java/lang/Math"
def TJ9 : u_T := fun k => match k with
  | _ => ("", "", "", false)
def tyJ9 : Nat → FieldType := fun k => match k with
  | _ => .int
abbrev wsJ90 : List Cond := u_ws RJ9 TJ9 0
theorem nmJ9 : ∀ a, a < 0 → ∀ b, b < 0 → a ≠ b → (TJ9 a).2.1 ≠ (TJ9 b).2.1 := by decide +kernel
theorem tyJ9_ok : ∀ k, k < 0 → parseFieldDescriptor (TJ9 k).2.2.1 = some (tyJ9 k) := by decide +kernel
abbrev cJ9_max_7cf53 : ByteArray := prog_15_method_65_code
def yJ9_max_7cf53 : MethodName := ⟨RJ9, "max", "(II)I"⟩
abbrev cJ9_min_7cf53 : ByteArray := prog_15_method_69_code
def yJ9_min_7cf53 : MethodName := ⟨RJ9, "min", "(II)I"⟩
def RJ0 : String := "java/lang/String"
def TJ0 : u_T := fun k => match k with
  | _ => ("", "", "", false)
def tyJ0 : Nat → FieldType := fun k => match k with
  | _ => .int
abbrev wsJ00 : List Cond := u_ws RJ0 TJ0 0
theorem nmJ0 : ∀ a, a < 0 → ∀ b, b < 0 → a ≠ b → (TJ0 a).2.1 ≠ (TJ0 b).2.1 := by decide +kernel
theorem tyJ0_ok : ∀ k, k < 0 → parseFieldDescriptor (TJ0 k).2.2.1 = some (tyJ0 k) := by decide +kernel
abbrev cJ0_length_8abf5 : ByteArray := prog_16_method_54_code
def yJ0_length_8abf5 : MethodName := ⟨RJ0, "length", "()I"⟩
abbrev cJ0_charAt_5068e : ByteArray := prog_16_method_56_code
def yJ0_charAt_5068e : MethodName := ⟨RJ0, "charAt", "(I)C"⟩
abbrev cJ0_coder_7d493 : ByteArray := prog_16_method_152_code
def yJ0_coder_7d493 : MethodName := ⟨RJ0, "coder", "()B"⟩
abbrev cJ0_isLatin1_aae02 : ByteArray := prog_16_method_154_code
def yJ0_isLatin1_aae02 : MethodName := ⟨RJ0, "isLatin1", "()Z"⟩
abbrev cJ0_checkIndex_df160 : ByteArray := prog_16_method_155_code
def yJ0_checkIndex_df160 : MethodName := ⟨RJ0, "checkIndex", "(II)V"⟩
def RJ1 : String := "java/lang/StringLatin1"
def TJ1 : u_T := fun k => match k with
  | _ => ("", "", "", false)
def tyJ1 : Nat → FieldType := fun k => match k with
  | _ => .int
abbrev wsJ10 : List Cond := u_ws RJ1 TJ1 0
theorem nmJ1 : ∀ a, a < 0 → ∀ b, b < 0 → a ≠ b → (TJ1 a).2.1 ≠ (TJ1 b).2.1 := by decide +kernel
theorem tyJ1_ok : ∀ k, k < 0 → parseFieldDescriptor (TJ1 k).2.2.1 = some (tyJ1 k) := by decide +kernel
abbrev cJ1_charAt_3b067 : ByteArray := prog_17_method_2_code
def yJ1_charAt_3b067 : MethodName := ⟨RJ1, "charAt", "([BI)C"⟩
def RJ2 : String := "java/lang/StringUTF16"
def TJ2 : u_T := fun k => match k with
  | _ => ("", "", "", false)
def tyJ2 : Nat → FieldType := fun k => match k with
  | _ => .int
abbrev wsJ20 : List Cond := u_ws RJ2 TJ2 0
theorem nmJ2 : ∀ a, a < 0 → ∀ b, b < 0 → a ≠ b → (TJ2 a).2.1 ≠ (TJ2 b).2.1 := by decide +kernel
theorem tyJ2_ok : ∀ k, k < 0 → parseFieldDescriptor (TJ2 k).2.2.1 = some (tyJ2 k) := by decide +kernel
abbrev cJ2_getChar_3b067 : ByteArray := prog_18_method_5_code
def yJ2_getChar_3b067 : MethodName := ⟨RJ2, "getChar", "([BI)C"⟩
abbrev cJ2_length_9d52b : ByteArray := prog_18_method_6_code
def yJ2_length_9d52b : MethodName := ⟨RJ2, "length", "([B)I"⟩
abbrev cJ2_charAt_3b067 : ByteArray := prog_18_method_83_code
def yJ2_charAt_3b067 : MethodName := ⟨RJ2, "charAt", "([BI)C"⟩
abbrev cJ2_checkIndex_2214a : ByteArray := prog_18_method_91_code
def yJ2_checkIndex_2214a : MethodName := ⟨RJ2, "checkIndex", "(I[B)V"⟩
def RJ3 : String := "jdk/internal/util/Preconditions"
def TJ3 : u_T := fun k => match k with
  | _ => ("", "", "", false)
def tyJ3 : Nat → FieldType := fun k => match k with
  | _ => .int
abbrev wsJ30 : List Cond := u_ws RJ3 TJ3 0
theorem nmJ3 : ∀ a, a < 0 → ∀ b, b < 0 → a ≠ b → (TJ3 a).2.1 ≠ (TJ3 b).2.1 := by decide +kernel
theorem tyJ3_ok : ∀ k, k < 0 → parseFieldDescriptor (TJ3 k).2.2.1 = some (tyJ3 k) := by decide +kernel
abbrev cJ3_checkIndex_8e157 : ByteArray := prog_19_method_11_code
def yJ3_checkIndex_8e157 : MethodName := ⟨RJ3, "checkIndex", "(IILjava/util/function/BiFunction;)I"⟩
def RL : String := "ParkingTariffLaw"
abbrev cL_law : ByteArray := code
def yL_law : MethodName := ⟨RL, "law", "([I)Z"⟩
abbrev vwCl : List vw_C := [(RX0, TX0, 4), (RX1, TX1, 8), (RX2, TX2, 3), (RX3, TX3, 5), (RX4, TX4, 6), (RX5, TX5, 6), (RX6, TX6, 9), (RX7, TX7, 3), (RX8, TX8, 9), (RX9, TX9, 3), (RX10, TX10, 5), (RX11, TX11, 21)]
/-! ===== the words that go from a method to its callees: all of the tables that keep ===== -/
def WS : List Cond := lw_tbl.filter goodWord
theorem ws_at {w : Cond} (i : Nat) (h : tables_1[i]? = some w) (hg : goodWord w = true) : w ∈ WS := List.mem_filter.mpr ⟨List.mem_append_right _ (List.mem_of_getElem? h), hg⟩
theorem ws_pr {w : Cond} (i : Nat) (h : (k2_sels lw_privs)[i]? = some w) (hg : goodWord w = true) : w ∈ WS := List.mem_filter.mpr ⟨List.mem_append_left _ (List.mem_of_getElem? h), hg⟩
theorem ws_of {ws : List Cond} (ps : List Nat) (hp : ws = ps.filterMap (fun i => tables_1[i]?)) (hg : ws.all goodWord = true) : ∀ w ∈ ws, w ∈ WS := by
  intro w hw
  have h1 := List.all_eq_true.mp hg w hw
  rw [hp] at hw
  obtain ⟨i, -, hi⟩ := List.mem_filterMap.mp hw
  exact List.mem_filter.mpr ⟨List.mem_append_right _ (List.mem_of_getElem? hi), h1⟩
theorem ws_good : ∀ w ∈ WS, goodWord w = true := fun _ h => (List.mem_filter.mp h).2
theorem uwX0 : ∀ w ∈ wsX00, w ∈ WS := ws_of [64, 66, 68, 70] (by decide +kernel) (by decide +kernel)
theorem uwX1 : ∀ w ∈ wsX10, w ∈ WS := ws_of [221, 223, 225, 227, 229, 231, 233, 235] (by decide +kernel) (by decide +kernel)
theorem uwX2 : ∀ w ∈ wsX20, w ∈ WS := ws_of [135, 137, 139] (by decide +kernel) (by decide +kernel)
theorem uwX3 : ∀ w ∈ wsX30, w ∈ WS := ws_of [155, 157, 159, 161, 163] (by decide +kernel) (by decide +kernel)
theorem uwX4 : ∀ w ∈ wsX40, w ∈ WS := ws_of [520, 522, 524, 526, 528, 530] (by decide +kernel) (by decide +kernel)
theorem uwX5 : ∀ w ∈ wsX50, w ∈ WS := ws_of [95, 97, 99, 101, 103, 105] (by decide +kernel) (by decide +kernel)
theorem uwX6 : ∀ w ∈ wsX60, w ∈ WS := ws_of [260, 262, 264, 266, 268, 270, 272, 274, 276] (by decide +kernel) (by decide +kernel)
theorem uwX7 : ∀ w ∈ wsX70, w ∈ WS := ws_of [292, 294, 296] (by decide +kernel) (by decide +kernel)
theorem uwX8 : ∀ w ∈ wsX80, w ∈ WS := ws_of [190, 192, 194, 196, 198, 200, 202, 204, 206] (by decide +kernel) (by decide +kernel)
theorem uwX9 : ∀ w ∈ wsX90, w ∈ WS := ws_of [120, 122, 124] (by decide +kernel) (by decide +kernel)
theorem uwX10 : ∀ w ∈ wsX100, w ∈ WS := ws_of [304, 306, 308, 310, 312] (by decide +kernel) (by decide +kernel)
theorem uwX11 : ∀ w ∈ wsX110, w ∈ WS := ws_of [938, 940, 942, 944, 946, 948, 950, 952, 954, 956, 958, 960, 962, 964, 966, 968, 970, 972, 974, 976, 978] (by decide +kernel) (by decide +kernel)
end
section
theorem w_0 : Jvm.Cond.initialized "ParkingTariffLaw" ∈ WS := ws_at 0 (by decide +kernel) rfl
theorem w_1 : Jvm.Cond.initialized "ParkingTariff" ∈ WS := ws_at 1 (by decide +kernel) rfl
theorem w_2 : Jvm.Cond.initialized "ParkingTariff$CarPark" ∈ WS := ws_at 2 (by decide +kernel) rfl
theorem w_3 : Jvm.Cond.initialized "ParkingTariff$Plan" ∈ WS := ws_at 3 (by decide +kernel) rfl
theorem w_4 : Jvm.Cond.initialized "ParkingTariff$Band" ∈ WS := ws_at 4 (by decide +kernel) rfl
theorem w_5 : Jvm.Cond.initialized "ParkingTariff$Voucher" ∈ WS := ws_at 5 (by decide +kernel) rfl
theorem w_6 : Jvm.Cond.initialized "ParkingTariff$Folder" ∈ WS := ws_at 6 (by decide +kernel) rfl
theorem w_7 : Jvm.Cond.initialized "ParkingTariff$Level" ∈ WS := ws_at 7 (by decide +kernel) rfl
theorem w_8 : Jvm.Cond.initialized "ParkingTariff$Ticket" ∈ WS := ws_at 8 (by decide +kernel) rfl
theorem w_9 : Jvm.Cond.initialized "ParkingTariff$PlanText" ∈ WS := ws_at 9 (by decide +kernel) rfl
theorem w_10 : Jvm.Cond.initialized "ParkingTariff$Report" ∈ WS := ws_at 10 (by decide +kernel) rfl
theorem w_11 : Jvm.Cond.initialized "ParkingTariffModel" ∈ WS := ws_at 11 (by decide +kernel) rfl
theorem w_12 : Jvm.Cond.initialized "java/lang/String" ∈ WS := ws_at 12 (by decide +kernel) rfl
theorem w_13 : Jvm.Cond.initialized "java/lang/StringLatin1" ∈ WS := ws_at 13 (by decide +kernel) rfl
theorem w_14 : Jvm.Cond.initialized "jdk/internal/util/Preconditions" ∈ WS := ws_at 14 (by decide +kernel) rfl
theorem w_15 : Jvm.Cond.initialized "java/lang/StringUTF16" ∈ WS := ws_at 15 (by decide +kernel) rfl
theorem w_16 : Jvm.Cond.initialized "ParkingTariff$Meter" ∈ WS := ws_at 16 (by decide +kernel) rfl
theorem w_17 : Jvm.Cond.initialized "java/lang/Math" ∈ WS := ws_at 17 (by decide +kernel) rfl
theorem w_18 : Jvm.Cond.initialized "java/lang/Float" ∈ WS := ws_at 18 (by decide +kernel) rfl
theorem w_19 : Jvm.Cond.classLink "ParkingTariffLaw" 7 "ParkingTariff" ∈ WS := ws_at 19 (by decide +kernel) rfl
theorem w_20 : Jvm.Cond.instantiable "ParkingTariff" 5 ∈ WS := ws_at 20 (by decide +kernel) rfl
theorem w_21 : Jvm.Cond.methodLink "ParkingTariffLaw" 9 yX10_init ∈ WS := ws_at 21 (by decide +kernel) rfl
theorem w_22 : Jvm.Cond.instanceMethod yX10_init ∈ WS := ws_at 22 (by decide +kernel) rfl
theorem w_23 : Jvm.Cond.code yX10_init prog_1_method_1_code 1 (Option.none : Option Jvm.ClassFile.FieldType) ∈ WS := ws_at 23 (by decide +kernel) rfl
theorem w_24 : Jvm.Cond.methodLink "ParkingTariff" 3 ⟨"java/lang/Object", "<init>", "()V"⟩ ∈ WS := ws_at 24 (by decide +kernel) rfl
theorem w_25 : Jvm.Cond.instanceMethod ⟨"java/lang/Object", "<init>", "()V"⟩ ∈ WS := ws_at 25 (by decide +kernel) rfl
theorem w_26 : Jvm.Cond.code ⟨"java/lang/Object", "<init>", "()V"⟩ object_method_1_code 1 (Option.none : Option Jvm.ClassFile.FieldType) ∈ WS := ws_at 26 (by decide +kernel) rfl
theorem w_27 : Jvm.Cond.classLink "ParkingTariff" 9 "ParkingTariff$CarPark" ∈ WS := ws_at 27 (by decide +kernel) rfl
theorem w_28 : Jvm.Cond.instantiable "ParkingTariff$CarPark" 8 ∈ WS := ws_at 28 (by decide +kernel) rfl
theorem w_29 : Jvm.Cond.methodLink "ParkingTariff" 11 yX1_init ∈ WS := ws_at 29 (by decide +kernel) rfl
theorem w_30 : Jvm.Cond.instanceMethod yX1_init ∈ WS := ws_at 30 (by decide +kernel) rfl
theorem w_31 : Jvm.Cond.code yX1_init prog_3_method_1_code 2 (Option.none : Option Jvm.ClassFile.FieldType) ∈ WS := ws_at 31 (by decide +kernel) rfl
theorem w_32 : Jvm.Cond.methodLink "ParkingTariff$CarPark" 3 ⟨"java/lang/Object", "<init>", "()V"⟩ ∈ WS := ws_at 32 (by decide +kernel) rfl
theorem w_33 : Jvm.Cond.classLink "ParkingTariff$CarPark" 9 "ParkingTariff$Plan" ∈ WS := ws_at 33 (by decide +kernel) rfl
theorem w_35 : Jvm.Cond.classLink "ParkingTariff$CarPark" 17 "ParkingTariff$Voucher" ∈ WS := ws_at 35 (by decide +kernel) rfl
theorem w_37 : Jvm.Cond.classLink "ParkingTariff$CarPark" 23 "ParkingTariff$Folder" ∈ WS := ws_at 37 (by decide +kernel) rfl
theorem w_39 : Jvm.Cond.classLink "ParkingTariff$CarPark" 29 "ParkingTariff$Level" ∈ WS := ws_at 39 (by decide +kernel) rfl
theorem w_41 : Jvm.Cond.classLink "ParkingTariff$CarPark" 35 "ParkingTariff$Ticket" ∈ WS := ws_at 41 (by decide +kernel) rfl
theorem w_43 : Jvm.Cond.instantiable "ParkingTariff$Plan" 6 ∈ WS := ws_at 43 (by decide +kernel) rfl
theorem w_44 : Jvm.Cond.methodLink "ParkingTariff$CarPark" 41 yX5_init ∈ WS := ws_at 44 (by decide +kernel) rfl
theorem w_45 : Jvm.Cond.instanceMethod yX5_init ∈ WS := ws_at 45 (by decide +kernel) rfl
theorem w_46 : Jvm.Cond.code yX5_init prog_7_method_1_code 2 (Option.none : Option Jvm.ClassFile.FieldType) ∈ WS := ws_at 46 (by decide +kernel) rfl
theorem w_47 : Jvm.Cond.methodLink "ParkingTariff$Plan" 3 ⟨"java/lang/Object", "<init>", "()V"⟩ ∈ WS := ws_at 47 (by decide +kernel) rfl
theorem w_48 : Jvm.Cond.classLink "ParkingTariff$Plan" 9 "ParkingTariff$Band" ∈ WS := ws_at 48 (by decide +kernel) rfl
theorem w_50 : Jvm.Cond.instantiable "ParkingTariff$Band" 4 ∈ WS := ws_at 50 (by decide +kernel) rfl
theorem w_51 : Jvm.Cond.methodLink "ParkingTariff$Plan" 17 yX0_init ∈ WS := ws_at 51 (by decide +kernel) rfl
theorem w_52 : Jvm.Cond.instanceMethod yX0_init ∈ WS := ws_at 52 (by decide +kernel) rfl
theorem w_53 : Jvm.Cond.code yX0_init prog_2_method_1_code 2 (Option.none : Option Jvm.ClassFile.FieldType) ∈ WS := ws_at 53 (by decide +kernel) rfl
theorem w_54 : Jvm.Cond.methodLink "ParkingTariff$Band" 1 ⟨"java/lang/Object", "<init>", "()V"⟩ ∈ WS := ws_at 54 (by decide +kernel) rfl
theorem w_55 : Jvm.Cond.fieldLink "ParkingTariff$Band" 7 "ParkingTariff$Band" "number" "I" ∈ WS := ws_at 55 (by decide +kernel) rfl
theorem w_56 : Jvm.Cond.fieldLink "ParkingTariff$Plan" 86 "ParkingTariff$Band" "number" "I" ∈ WS := ws_at 56 (by decide +kernel) rfl
theorem w_57 : Jvm.Cond.fieldLink "ParkingTariff$Band" 13 "ParkingTariff$Band" "beginning" "I" ∈ WS := ws_at 57 (by decide +kernel) rfl
theorem w_58 : Jvm.Cond.fieldLink "ParkingTariff$Plan" 51 "ParkingTariff$Band" "beginning" "I" ∈ WS := ws_at 58 (by decide +kernel) rfl
theorem w_59 : Jvm.Cond.fieldLink "ParkingTariff$PlanText" 116 "ParkingTariff$Band" "beginning" "I" ∈ WS := ws_at 59 (by decide +kernel) rfl
theorem w_60 : Jvm.Cond.fieldLink "ParkingTariff$Band" 16 "ParkingTariff$Band" "price" "I" ∈ WS := ws_at 60 (by decide +kernel) rfl
theorem w_61 : Jvm.Cond.fieldLink "ParkingTariff$Meter" 43 "ParkingTariff$Band" "price" "I" ∈ WS := ws_at 61 (by decide +kernel) rfl
theorem w_62 : Jvm.Cond.fieldLink "ParkingTariff$Band" 19 "ParkingTariff$Band" "length" "I" ∈ WS := ws_at 62 (by decide +kernel) rfl
theorem w_63 : Jvm.Cond.fieldLink "ParkingTariff$Meter" 48 "ParkingTariff$Band" "length" "I" ∈ WS := ws_at 63 (by decide +kernel) rfl
theorem w_73 : Jvm.Cond.methodLink "ParkingTariff$Plan" 20 yX5_reset ∈ WS := ws_at 73 (by decide +kernel) rfl
theorem w_74 : Jvm.Cond.instanceMethod yX5_reset ∈ WS := ws_at 74 (by decide +kernel) rfl
theorem w_75 : Jvm.Cond.selects "ParkingTariff$Plan" yX5_reset yX5_reset ∈ WS := ws_at 75 (by decide +kernel) rfl
theorem w_76 : Jvm.Cond.code yX5_reset prog_7_method_2_code 1 (Option.none : Option Jvm.ClassFile.FieldType) ∈ WS := ws_at 76 (by decide +kernel) rfl
theorem w_77 : Jvm.Cond.methodLink "ParkingTariff$Plan" 36 yX0_tell ∈ WS := ws_at 77 (by decide +kernel) rfl
theorem w_78 : Jvm.Cond.instanceMethod yX0_tell ∈ WS := ws_at 78 (by decide +kernel) rfl
theorem w_79 : Jvm.Cond.selects "ParkingTariff$Band" yX0_tell yX0_tell ∈ WS := ws_at 79 (by decide +kernel) rfl
theorem w_80 : Jvm.Cond.code yX0_tell prog_2_method_2_code 4 (Option.none : Option Jvm.ClassFile.FieldType) ∈ WS := ws_at 80 (by decide +kernel) rfl
theorem w_81 : Jvm.Cond.fieldLink "ParkingTariff$Plan" 11 "ParkingTariff$Plan" "bands" "[LParkingTariff$Band;" ∈ WS := ws_at 81 (by decide +kernel) rfl
theorem w_82 : Jvm.Cond.fieldLink "ParkingTariff$PlanText" 99 "ParkingTariff$Plan" "bands" "[LParkingTariff$Band;" ∈ WS := ws_at 82 (by decide +kernel) rfl
theorem w_83 : Jvm.Cond.fieldLink "ParkingTariff$Plan" 40 "ParkingTariff$Plan" "bandCount" "I" ∈ WS := ws_at 83 (by decide +kernel) rfl
theorem w_84 : Jvm.Cond.fieldLink "ParkingTariff" 83 "ParkingTariff$Plan" "bandCount" "I" ∈ WS := ws_at 84 (by decide +kernel) rfl
theorem w_85 : Jvm.Cond.fieldLink "ParkingTariff$PlanText" 109 "ParkingTariff$Plan" "bandCount" "I" ∈ WS := ws_at 85 (by decide +kernel) rfl
theorem w_86 : Jvm.Cond.fieldLink "ParkingTariff$Plan" 23 "ParkingTariff$Plan" "freeMinutes" "I" ∈ WS := ws_at 86 (by decide +kernel) rfl
theorem w_87 : Jvm.Cond.fieldLink "ParkingTariff$PlanText" 67 "ParkingTariff$Plan" "freeMinutes" "I" ∈ WS := ws_at 87 (by decide +kernel) rfl
theorem w_88 : Jvm.Cond.fieldLink "ParkingTariff$Plan" 27 "ParkingTariff$Plan" "cap" "I" ∈ WS := ws_at 88 (by decide +kernel) rfl
theorem w_89 : Jvm.Cond.fieldLink "ParkingTariff$PlanText" 72 "ParkingTariff$Plan" "cap" "I" ∈ WS := ws_at 89 (by decide +kernel) rfl
theorem w_90 : Jvm.Cond.fieldLink "ParkingTariff$Plan" 30 "ParkingTariff$Plan" "way" "I" ∈ WS := ws_at 90 (by decide +kernel) rfl
theorem w_91 : Jvm.Cond.fieldLink "ParkingTariff$PlanText" 81 "ParkingTariff$Plan" "way" "I" ∈ WS := ws_at 91 (by decide +kernel) rfl
theorem w_92 : Jvm.Cond.fieldLink "ParkingTariff$Plan" 33 "ParkingTariff$Plan" "lostFee" "I" ∈ WS := ws_at 92 (by decide +kernel) rfl
theorem w_93 : Jvm.Cond.fieldLink "ParkingTariff$PlanText" 76 "ParkingTariff$Plan" "lostFee" "I" ∈ WS := ws_at 93 (by decide +kernel) rfl
theorem w_94 : Jvm.Cond.fieldLink "ParkingTariff$CarPark" 157 "ParkingTariff$Plan" "lostFee" "I" ∈ WS := ws_at 94 (by decide +kernel) rfl
theorem w_108 : Jvm.Cond.instantiable "ParkingTariff$Voucher" 3 ∈ WS := ws_at 108 (by decide +kernel) rfl
theorem w_110 : Jvm.Cond.instanceMethod yX9_init ∈ WS := ws_at 110 (by decide +kernel) rfl
theorem w_111 : Jvm.Cond.code yX9_init prog_11_method_1_code 1 (Option.none : Option Jvm.ClassFile.FieldType) ∈ WS := ws_at 111 (by decide +kernel) rfl
theorem w_112 : Jvm.Cond.methodLink "ParkingTariff$Voucher" 3 ⟨"java/lang/Object", "<init>", "()V"⟩ ∈ WS := ws_at 112 (by decide +kernel) rfl
theorem w_113 : Jvm.Cond.fieldLink "ParkingTariff$Voucher" 9 "ParkingTariff$Voucher" "kind" "I" ∈ WS := ws_at 113 (by decide +kernel) rfl
theorem w_114 : Jvm.Cond.fieldLink "ParkingTariff" 140 "ParkingTariff$Voucher" "kind" "I" ∈ WS := ws_at 114 (by decide +kernel) rfl
theorem w_115 : Jvm.Cond.fieldLink "ParkingTariff$CarPark" 177 "ParkingTariff$Voucher" "kind" "I" ∈ WS := ws_at 115 (by decide +kernel) rfl
theorem w_116 : Jvm.Cond.fieldLink "ParkingTariff$Voucher" 15 "ParkingTariff$Voucher" "amount" "I" ∈ WS := ws_at 116 (by decide +kernel) rfl
theorem w_117 : Jvm.Cond.fieldLink "ParkingTariff$CarPark" 187 "ParkingTariff$Voucher" "amount" "I" ∈ WS := ws_at 117 (by decide +kernel) rfl
theorem w_118 : Jvm.Cond.fieldLink "ParkingTariff$Voucher" 18 "ParkingTariff$Voucher" "given" "I" ∈ WS := ws_at 118 (by decide +kernel) rfl
theorem w_119 : Jvm.Cond.fieldLink "ParkingTariff" 176 "ParkingTariff$Voucher" "given" "I" ∈ WS := ws_at 119 (by decide +kernel) rfl
theorem w_127 : Jvm.Cond.instantiable "ParkingTariff$Folder" 3 ∈ WS := ws_at 127 (by decide +kernel) rfl
theorem w_129 : Jvm.Cond.instanceMethod yX2_init ∈ WS := ws_at 129 (by decide +kernel) rfl
theorem w_130 : Jvm.Cond.code yX2_init prog_4_method_1_code 1 (Option.none : Option Jvm.ClassFile.FieldType) ∈ WS := ws_at 130 (by decide +kernel) rfl
theorem w_131 : Jvm.Cond.methodLink "ParkingTariff$Folder" 3 ⟨"java/lang/Object", "<init>", "()V"⟩ ∈ WS := ws_at 131 (by decide +kernel) rfl
theorem w_132 : Jvm.Cond.fieldLink "ParkingTariff$Folder" 9 "ParkingTariff$Folder" "contents" "[I" ∈ WS := ws_at 132 (by decide +kernel) rfl
theorem w_133 : Jvm.Cond.fieldLink "ParkingTariff$Folder" 15 "ParkingTariff$Folder" "places" "I" ∈ WS := ws_at 133 (by decide +kernel) rfl
theorem w_134 : Jvm.Cond.fieldLink "ParkingTariff$Folder" 19 "ParkingTariff$Folder" "kind" "I" ∈ WS := ws_at 134 (by decide +kernel) rfl
theorem w_142 : Jvm.Cond.arrayClass Jvm.ClassFile.FieldType.int ∈ WS := ws_at 142 (by decide +kernel) rfl
theorem w_143 : Jvm.Cond.instantiable "ParkingTariff$Level" 5 ∈ WS := ws_at 143 (by decide +kernel) rfl
theorem w_145 : Jvm.Cond.instanceMethod yX3_init ∈ WS := ws_at 145 (by decide +kernel) rfl
theorem w_146 : Jvm.Cond.code yX3_init prog_5_method_1_code 1 (Option.none : Option Jvm.ClassFile.FieldType) ∈ WS := ws_at 146 (by decide +kernel) rfl
theorem w_147 : Jvm.Cond.methodLink "ParkingTariff$Level" 3 ⟨"java/lang/Object", "<init>", "()V"⟩ ∈ WS := ws_at 147 (by decide +kernel) rfl
theorem w_148 : Jvm.Cond.fieldLink "ParkingTariff$Level" 9 "ParkingTariff$Level" "capacity" "I" ∈ WS := ws_at 148 (by decide +kernel) rfl
theorem w_149 : Jvm.Cond.fieldLink "ParkingTariff" 226 "ParkingTariff$Level" "capacity" "I" ∈ WS := ws_at 149 (by decide +kernel) rfl
theorem w_150 : Jvm.Cond.fieldLink "ParkingTariff$Level" 15 "ParkingTariff$Level" "cars" "I" ∈ WS := ws_at 150 (by decide +kernel) rfl
theorem w_151 : Jvm.Cond.fieldLink "ParkingTariff" 221 "ParkingTariff$Level" "cars" "I" ∈ WS := ws_at 151 (by decide +kernel) rfl
theorem w_152 : Jvm.Cond.fieldLink "ParkingTariff$Level" 18 "ParkingTariff$Level" "exits" "I" ∈ WS := ws_at 152 (by decide +kernel) rfl
theorem w_153 : Jvm.Cond.fieldLink "ParkingTariff$Level" 21 "ParkingTariff$Level" "entered" "I" ∈ WS := ws_at 153 (by decide +kernel) rfl
theorem w_154 : Jvm.Cond.fieldLink "ParkingTariff$Level" 24 "ParkingTariff$Level" "rate" "F" ∈ WS := ws_at 154 (by decide +kernel) rfl
theorem w_166 : Jvm.Cond.instantiable "ParkingTariff$Ticket" 9 ∈ WS := ws_at 166 (by decide +kernel) rfl
theorem w_168 : Jvm.Cond.instanceMethod yX8_init ∈ WS := ws_at 168 (by decide +kernel) rfl
theorem w_169 : Jvm.Cond.code yX8_init prog_10_method_1_code 1 (Option.none : Option Jvm.ClassFile.FieldType) ∈ WS := ws_at 169 (by decide +kernel) rfl
theorem w_170 : Jvm.Cond.methodLink "ParkingTariff$Ticket" 3 ⟨"java/lang/Object", "<init>", "()V"⟩ ∈ WS := ws_at 170 (by decide +kernel) rfl
theorem w_171 : Jvm.Cond.fieldLink "ParkingTariff$Ticket" 9 "ParkingTariff$Ticket" "vouchers" "[I" ∈ WS := ws_at 171 (by decide +kernel) rfl
theorem w_172 : Jvm.Cond.fieldLink "ParkingTariff$Ticket" 25 "ParkingTariff$Ticket" "voucherCount" "I" ∈ WS := ws_at 172 (by decide +kernel) rfl
theorem w_173 : Jvm.Cond.fieldLink "ParkingTariff" 179 "ParkingTariff$Ticket" "voucherCount" "I" ∈ WS := ws_at 173 (by decide +kernel) rfl
theorem w_174 : Jvm.Cond.fieldLink "ParkingTariff$CarPark" 169 "ParkingTariff$Ticket" "voucherCount" "I" ∈ WS := ws_at 174 (by decide +kernel) rfl
theorem w_175 : Jvm.Cond.fieldLink "ParkingTariff$Ticket" 15 "ParkingTariff$Ticket" "plan" "I" ∈ WS := ws_at 175 (by decide +kernel) rfl
theorem w_176 : Jvm.Cond.fieldLink "ParkingTariff$CarPark" 150 "ParkingTariff$Ticket" "plan" "I" ∈ WS := ws_at 176 (by decide +kernel) rfl
theorem w_177 : Jvm.Cond.fieldLink "ParkingTariff$Ticket" 19 "ParkingTariff$Ticket" "entry" "I" ∈ WS := ws_at 177 (by decide +kernel) rfl
theorem w_178 : Jvm.Cond.fieldLink "ParkingTariff$CarPark" 160 "ParkingTariff$Ticket" "entry" "I" ∈ WS := ws_at 178 (by decide +kernel) rfl
theorem w_179 : Jvm.Cond.fieldLink "ParkingTariff$Ticket" 22 "ParkingTariff$Ticket" "level" "I" ∈ WS := ws_at 179 (by decide +kernel) rfl
theorem w_180 : Jvm.Cond.fieldLink "ParkingTariff$CarPark" 124 "ParkingTariff$Ticket" "level" "I" ∈ WS := ws_at 180 (by decide +kernel) rfl
theorem w_181 : Jvm.Cond.fieldLink "ParkingTariff$Ticket" 28 "ParkingTariff$Ticket" "paid" "I" ∈ WS := ws_at 181 (by decide +kernel) rfl
theorem w_182 : Jvm.Cond.fieldLink "ParkingTariff$CarPark" 141 "ParkingTariff$Ticket" "paid" "I" ∈ WS := ws_at 182 (by decide +kernel) rfl
theorem w_183 : Jvm.Cond.fieldLink "ParkingTariff" 199 "ParkingTariff$Ticket" "paid" "I" ∈ WS := ws_at 183 (by decide +kernel) rfl
theorem w_184 : Jvm.Cond.fieldLink "ParkingTariff$Ticket" 31 "ParkingTariff$Ticket" "latestPayment" "I" ∈ WS := ws_at 184 (by decide +kernel) rfl
theorem w_185 : Jvm.Cond.fieldLink "ParkingTariff$Ticket" 34 "ParkingTariff$Ticket" "left" "Z" ∈ WS := ws_at 185 (by decide +kernel) rfl
theorem w_186 : Jvm.Cond.fieldLink "ParkingTariff$CarPark" 84 "ParkingTariff$Ticket" "left" "Z" ∈ WS := ws_at 186 (by decide +kernel) rfl
theorem w_187 : Jvm.Cond.fieldLink "ParkingTariff$Ticket" 38 "ParkingTariff$Ticket" "lost" "Z" ∈ WS := ws_at 187 (by decide +kernel) rfl
theorem w_188 : Jvm.Cond.fieldLink "ParkingTariff$CarPark" 130 "ParkingTariff$Ticket" "lost" "Z" ∈ WS := ws_at 188 (by decide +kernel) rfl
theorem w_189 : Jvm.Cond.fieldLink "ParkingTariff" 163 "ParkingTariff$Ticket" "lost" "Z" ∈ WS := ws_at 189 (by decide +kernel) rfl
theorem w_209 : Jvm.Cond.fieldLink "ParkingTariff$CarPark" 11 "ParkingTariff$CarPark" "plans" "[LParkingTariff$Plan;" ∈ WS := ws_at 209 (by decide +kernel) rfl
theorem w_210 : Jvm.Cond.fieldLink "ParkingTariff$CarPark" 19 "ParkingTariff$CarPark" "vouchers" "[LParkingTariff$Voucher;" ∈ WS := ws_at 210 (by decide +kernel) rfl
theorem w_211 : Jvm.Cond.fieldLink "ParkingTariff$CarPark" 25 "ParkingTariff$CarPark" "folders" "[LParkingTariff$Folder;" ∈ WS := ws_at 211 (by decide +kernel) rfl
theorem w_212 : Jvm.Cond.fieldLink "ParkingTariff" 123 "ParkingTariff$CarPark" "folders" "[LParkingTariff$Folder;" ∈ WS := ws_at 212 (by decide +kernel) rfl
theorem w_213 : Jvm.Cond.fieldLink "ParkingTariff$CarPark" 31 "ParkingTariff$CarPark" "levels" "[LParkingTariff$Level;" ∈ WS := ws_at 213 (by decide +kernel) rfl
theorem w_214 : Jvm.Cond.fieldLink "ParkingTariff$CarPark" 37 "ParkingTariff$CarPark" "tickets" "[LParkingTariff$Ticket;" ∈ WS := ws_at 214 (by decide +kernel) rfl
theorem w_215 : Jvm.Cond.fieldLink "ParkingTariff$CarPark" 66 "ParkingTariff$CarPark" "voucherCount" "I" ∈ WS := ws_at 215 (by decide +kernel) rfl
theorem w_216 : Jvm.Cond.fieldLink "ParkingTariff" 251 "ParkingTariff$CarPark" "voucherCount" "I" ∈ WS := ws_at 216 (by decide +kernel) rfl
theorem w_217 : Jvm.Cond.fieldLink "ParkingTariff$CarPark" 59 "ParkingTariff$CarPark" "ticketCount" "I" ∈ WS := ws_at 217 (by decide +kernel) rfl
theorem w_218 : Jvm.Cond.fieldLink "ParkingTariff" 233 "ParkingTariff$CarPark" "ticketCount" "I" ∈ WS := ws_at 218 (by decide +kernel) rfl
theorem w_219 : Jvm.Cond.fieldLink "ParkingTariff$CarPark" 69 "ParkingTariff$CarPark" "minute" "I" ∈ WS := ws_at 219 (by decide +kernel) rfl
theorem w_220 : Jvm.Cond.fieldLink "ParkingTariff" 182 "ParkingTariff$CarPark" "minute" "I" ∈ WS := ws_at 220 (by decide +kernel) rfl
theorem w_238 : Jvm.Cond.classLink "ParkingTariff" 19 "ParkingTariff$PlanText" ∈ WS := ws_at 238 (by decide +kernel) rfl
theorem w_239 : Jvm.Cond.instantiable "ParkingTariff$PlanText" 9 ∈ WS := ws_at 239 (by decide +kernel) rfl
theorem w_241 : Jvm.Cond.instanceMethod yX6_init ∈ WS := ws_at 241 (by decide +kernel) rfl
theorem w_242 : Jvm.Cond.code yX6_init prog_8_method_1_code 1 (Option.none : Option Jvm.ClassFile.FieldType) ∈ WS := ws_at 242 (by decide +kernel) rfl
theorem w_243 : Jvm.Cond.methodLink "ParkingTariff$PlanText" 3 ⟨"java/lang/Object", "<init>", "()V"⟩ ∈ WS := ws_at 243 (by decide +kernel) rfl
theorem w_244 : Jvm.Cond.classLink "ParkingTariff$PlanText" 19 "ParkingTariff$Plan" ∈ WS := ws_at 244 (by decide +kernel) rfl
theorem w_245 : Jvm.Cond.methodLink "ParkingTariff$PlanText" 21 yX5_init ∈ WS := ws_at 245 (by decide +kernel) rfl
theorem w_246 : Jvm.Cond.fieldLink "ParkingTariff$PlanText" 9 "ParkingTariff$PlanText" "signs" "[C" ∈ WS := ws_at 246 (by decide +kernel) rfl
theorem w_247 : Jvm.Cond.fieldLink "ParkingTariff$PlanText" 15 "ParkingTariff$PlanText" "numbers" "[I" ∈ WS := ws_at 247 (by decide +kernel) rfl
theorem w_248 : Jvm.Cond.fieldLink "ParkingTariff$PlanText" 22 "ParkingTariff$PlanText" "draft" "LParkingTariff$Plan;" ∈ WS := ws_at 248 (by decide +kernel) rfl
theorem w_249 : Jvm.Cond.fieldLink "ParkingTariff" 73 "ParkingTariff$PlanText" "draft" "LParkingTariff$Plan;" ∈ WS := ws_at 249 (by decide +kernel) rfl
theorem w_250 : Jvm.Cond.fieldLink "ParkingTariff$PlanText" 26 "ParkingTariff$PlanText" "length" "I" ∈ WS := ws_at 250 (by decide +kernel) rfl
theorem w_251 : Jvm.Cond.fieldLink "ParkingTariff" 45 "ParkingTariff$PlanText" "length" "I" ∈ WS := ws_at 251 (by decide +kernel) rfl
theorem w_252 : Jvm.Cond.fieldLink "ParkingTariff$PlanText" 36 "ParkingTariff$PlanText" "position" "I" ∈ WS := ws_at 252 (by decide +kernel) rfl
theorem w_253 : Jvm.Cond.fieldLink "ParkingTariff" 60 "ParkingTariff$PlanText" "clause" "I" ∈ WS := ws_at 253 (by decide +kernel) rfl
theorem w_254 : Jvm.Cond.fieldLink "ParkingTariff$PlanText" 39 "ParkingTariff$PlanText" "clause" "I" ∈ WS := ws_at 254 (by decide +kernel) rfl
theorem w_255 : Jvm.Cond.fieldLink "ParkingTariff$PlanText" 33 "ParkingTariff$PlanText" "toldBands" "I" ∈ WS := ws_at 255 (by decide +kernel) rfl
theorem w_256 : Jvm.Cond.fieldLink "ParkingTariff" 63 "ParkingTariff$PlanText" "faultCode" "I" ∈ WS := ws_at 256 (by decide +kernel) rfl
theorem w_257 : Jvm.Cond.fieldLink "ParkingTariff$PlanText" 140 "ParkingTariff$PlanText" "faultCode" "I" ∈ WS := ws_at 257 (by decide +kernel) rfl
theorem w_258 : Jvm.Cond.fieldLink "ParkingTariff" 66 "ParkingTariff$PlanText" "faultNumber" "I" ∈ WS := ws_at 258 (by decide +kernel) rfl
theorem w_259 : Jvm.Cond.fieldLink "ParkingTariff$PlanText" 143 "ParkingTariff$PlanText" "faultNumber" "I" ∈ WS := ws_at 259 (by decide +kernel) rfl
theorem w_279 : Jvm.Cond.arrayClass Jvm.ClassFile.FieldType.char ∈ WS := ws_at 279 (by decide +kernel) rfl
theorem w_280 : Jvm.Cond.classLink "ParkingTariff" 26 "ParkingTariff$Report" ∈ WS := ws_at 280 (by decide +kernel) rfl
theorem w_281 : Jvm.Cond.instantiable "ParkingTariff$Report" 3 ∈ WS := ws_at 281 (by decide +kernel) rfl
theorem w_283 : Jvm.Cond.instanceMethod yX7_init ∈ WS := ws_at 283 (by decide +kernel) rfl
theorem w_284 : Jvm.Cond.code yX7_init prog_9_method_1_code 1 (Option.none : Option Jvm.ClassFile.FieldType) ∈ WS := ws_at 284 (by decide +kernel) rfl
theorem w_285 : Jvm.Cond.methodLink "ParkingTariff$Report" 3 ⟨"java/lang/Object", "<init>", "()V"⟩ ∈ WS := ws_at 285 (by decide +kernel) rfl
theorem w_286 : Jvm.Cond.fieldLink "ParkingTariff$Report" 9 "ParkingTariff$Report" "codes" "[I" ∈ WS := ws_at 286 (by decide +kernel) rfl
theorem w_287 : Jvm.Cond.fieldLink "ParkingTariff" 258 "ParkingTariff$Report" "codes" "[I" ∈ WS := ws_at 287 (by decide +kernel) rfl
theorem w_288 : Jvm.Cond.fieldLink "ParkingTariff$Report" 15 "ParkingTariff$Report" "numbers" "[I" ∈ WS := ws_at 288 (by decide +kernel) rfl
theorem w_289 : Jvm.Cond.fieldLink "ParkingTariff" 262 "ParkingTariff$Report" "numbers" "[I" ∈ WS := ws_at 289 (by decide +kernel) rfl
theorem w_290 : Jvm.Cond.fieldLink "ParkingTariff$Report" 22 "ParkingTariff$Report" "levels" "I" ∈ WS := ws_at 290 (by decide +kernel) rfl
theorem w_291 : Jvm.Cond.fieldLink "ParkingTariff" 252 "ParkingTariff$Report" "levels" "I" ∈ WS := ws_at 291 (by decide +kernel) rfl
theorem w_299 : Jvm.Cond.fieldLink "ParkingTariff" 12 "ParkingTariff" "park" "LParkingTariff$CarPark;" ∈ WS := ws_at 299 (by decide +kernel) rfl
theorem w_300 : Jvm.Cond.fieldLink "ParkingTariff" 16 "ParkingTariff" "snapshot" "LParkingTariff$CarPark;" ∈ WS := ws_at 300 (by decide +kernel) rfl
theorem w_301 : Jvm.Cond.fieldLink "ParkingTariff" 268 "ParkingTariff" "hasSnapshot" "Z" ∈ WS := ws_at 301 (by decide +kernel) rfl
theorem w_302 : Jvm.Cond.fieldLink "ParkingTariff" 22 "ParkingTariff" "text" "LParkingTariff$PlanText;" ∈ WS := ws_at 302 (by decide +kernel) rfl
theorem w_303 : Jvm.Cond.fieldLink "ParkingTariff" 29 "ParkingTariff" "report" "LParkingTariff$Report;" ∈ WS := ws_at 303 (by decide +kernel) rfl
theorem w_315 : Jvm.Cond.methodLink "ParkingTariffLaw" 13 yX10_append ∈ WS := ws_at 315 (by decide +kernel) rfl
theorem w_316 : Jvm.Cond.instanceMethod yX10_append ∈ WS := ws_at 316 (by decide +kernel) rfl
theorem w_317 : Jvm.Cond.selects "ParkingTariff" yX10_append yX10_append ∈ WS := ws_at 317 (by decide +kernel) rfl
theorem w_318 : Jvm.Cond.code yX10_append prog_1_method_2_code 3 (Option.some Jvm.ClassFile.FieldType.int) ∈ WS := ws_at 318 (by decide +kernel) rfl
theorem w_319 : Jvm.Cond.methodLink "ParkingTariff" 33 yX10_within ∈ WS := ws_at 319 (by decide +kernel) rfl
theorem w_320 : Jvm.Cond.static yX10_within ∈ WS := ws_at 320 (by decide +kernel) rfl
theorem w_321 : Jvm.Cond.code yX10_within prog_1_method_33_code 3 (Option.some Jvm.ClassFile.FieldType.boolean) ∈ WS := ws_at 321 (by decide +kernel) rfl
theorem w_322 : Jvm.Cond.methodLink "ParkingTariff" 37 yX6_hasRoomFor ∈ WS := ws_at 322 (by decide +kernel) rfl
theorem w_323 : Jvm.Cond.instanceMethod yX6_hasRoomFor ∈ WS := ws_at 323 (by decide +kernel) rfl
theorem w_324 : Jvm.Cond.selects "ParkingTariff$PlanText" yX6_hasRoomFor yX6_hasRoomFor ∈ WS := ws_at 324 (by decide +kernel) rfl
theorem w_325 : Jvm.Cond.code yX6_hasRoomFor prog_8_method_2_code 2 (Option.some Jvm.ClassFile.FieldType.boolean) ∈ WS := ws_at 325 (by decide +kernel) rfl
theorem w_326 : Jvm.Cond.methodLink "ParkingTariff" 41 yX6_add ∈ WS := ws_at 326 (by decide +kernel) rfl
theorem w_327 : Jvm.Cond.instanceMethod yX6_add ∈ WS := ws_at 327 (by decide +kernel) rfl
theorem w_328 : Jvm.Cond.selects "ParkingTariff$PlanText" yX6_add yX6_add ∈ WS := ws_at 328 (by decide +kernel) rfl
theorem w_329 : Jvm.Cond.code yX6_add prog_8_method_3_code 4 (Option.none : Option Jvm.ClassFile.FieldType) ∈ WS := ws_at 329 (by decide +kernel) rfl
theorem w_330 : Jvm.Cond.methodLink "ParkingTariffLaw" 18 yX10_readPlan ∈ WS := ws_at 330 (by decide +kernel) rfl
theorem w_331 : Jvm.Cond.instanceMethod yX10_readPlan ∈ WS := ws_at 331 (by decide +kernel) rfl
theorem w_332 : Jvm.Cond.selects "ParkingTariff" yX10_readPlan yX10_readPlan ∈ WS := ws_at 332 (by decide +kernel) rfl
theorem w_333 : Jvm.Cond.code yX10_readPlan prog_1_method_3_code 4 (Option.some Jvm.ClassFile.FieldType.int) ∈ WS := ws_at 333 (by decide +kernel) rfl
theorem w_334 : Jvm.Cond.methodLink "ParkingTariff" 49 yX1_planAt ∈ WS := ws_at 334 (by decide +kernel) rfl
theorem w_335 : Jvm.Cond.instanceMethod yX1_planAt ∈ WS := ws_at 335 (by decide +kernel) rfl
theorem w_336 : Jvm.Cond.selects "ParkingTariff$CarPark" yX1_planAt yX1_planAt ∈ WS := ws_at 336 (by decide +kernel) rfl
theorem w_337 : Jvm.Cond.code yX1_planAt prog_3_method_3_code 2 (Option.some (Jvm.ClassFile.FieldType.object "ParkingTariff$Plan")) ∈ WS := ws_at 337 (by decide +kernel) rfl
theorem w_339 : Jvm.Cond.methodLink "ParkingTariff" 53 yX6_describesPlan ∈ WS := ws_at 339 (by decide +kernel) rfl
theorem w_340 : Jvm.Cond.instanceMethod yX6_describesPlan ∈ WS := ws_at 340 (by decide +kernel) rfl
theorem w_341 : Jvm.Cond.selects "ParkingTariff$PlanText" yX6_describesPlan yX6_describesPlan ∈ WS := ws_at 341 (by decide +kernel) rfl
theorem w_342 : Jvm.Cond.code yX6_describesPlan prog_8_method_5_code 1 (Option.some Jvm.ClassFile.FieldType.boolean) ∈ WS := ws_at 342 (by decide +kernel) rfl
theorem w_343 : Jvm.Cond.methodLink "ParkingTariff$PlanText" 30 yX5_reset ∈ WS := ws_at 343 (by decide +kernel) rfl
theorem w_344 : Jvm.Cond.methodLink "ParkingTariff$PlanText" 42 yX6_readClause ∈ WS := ws_at 344 (by decide +kernel) rfl
theorem w_345 : Jvm.Cond.instanceMethod yX6_readClause ∈ WS := ws_at 345 (by decide +kernel) rfl
theorem w_346 : Jvm.Cond.selects "ParkingTariff$PlanText" yX6_readClause yX6_readClause ∈ WS := ws_at 346 (by decide +kernel) rfl
theorem w_347 : Jvm.Cond.code yX6_readClause prog_8_method_6_code 3 (Option.some Jvm.ClassFile.FieldType.boolean) ∈ WS := ws_at 347 (by decide +kernel) rfl
theorem w_348 : Jvm.Cond.methodLink "ParkingTariff$PlanText" 54 yX6_skipWord ∈ WS := ws_at 348 (by decide +kernel) rfl
theorem w_349 : Jvm.Cond.instanceMethod yX6_skipWord ∈ WS := ws_at 349 (by decide +kernel) rfl
theorem w_350 : Jvm.Cond.selects "ParkingTariff$PlanText" yX6_skipWord yX6_skipWord ∈ WS := ws_at 350 (by decide +kernel) rfl
theorem w_351 : Jvm.Cond.code yX6_skipWord prog_8_method_10_code 1 (Option.none : Option Jvm.ClassFile.FieldType) ∈ WS := ws_at 351 (by decide +kernel) rfl
theorem w_352 : Jvm.Cond.methodLink "ParkingTariff$PlanText" 119 yX6_isSmallLetter ∈ WS := ws_at 352 (by decide +kernel) rfl
theorem w_353 : Jvm.Cond.instanceMethod yX6_isSmallLetter ∈ WS := ws_at 353 (by decide +kernel) rfl
theorem w_354 : Jvm.Cond.selects "ParkingTariff$PlanText" yX6_isSmallLetter yX6_isSmallLetter ∈ WS := ws_at 354 (by decide +kernel) rfl
theorem w_355 : Jvm.Cond.code yX6_isSmallLetter prog_8_method_11_code 2 (Option.some Jvm.ClassFile.FieldType.boolean) ∈ WS := ws_at 355 (by decide +kernel) rfl
theorem w_357 : Jvm.Cond.methodLink "ParkingTariff$PlanText" 59 yX6_isWord ∈ WS := ws_at 357 (by decide +kernel) rfl
theorem w_358 : Jvm.Cond.instanceMethod yX6_isWord ∈ WS := ws_at 358 (by decide +kernel) rfl
theorem w_359 : Jvm.Cond.selects "ParkingTariff$PlanText" yX6_isWord yX6_isWord ∈ WS := ws_at 359 (by decide +kernel) rfl
theorem w_360 : Jvm.Cond.code yX6_isWord prog_8_method_12_code 4 (Option.some Jvm.ClassFile.FieldType.boolean) ∈ WS := ws_at 360 (by decide +kernel) rfl
theorem w_361 : Jvm.Cond.methodLink "ParkingTariff$PlanText" 122 yJ0_length_8abf5 ∈ WS := ws_at 361 (by decide +kernel) rfl
theorem w_362 : Jvm.Cond.instanceMethod yJ0_length_8abf5 ∈ WS := ws_at 362 (by decide +kernel) rfl
theorem w_363 : Jvm.Cond.selects "java/lang/String" yJ0_length_8abf5 yJ0_length_8abf5 ∈ WS := ws_at 363 (by decide +kernel) rfl
theorem w_364 : Jvm.Cond.code yJ0_length_8abf5 prog_16_method_54_code 1 (Option.some Jvm.ClassFile.FieldType.int) ∈ WS := ws_at 364 (by decide +kernel) rfl
theorem w_365 : Jvm.Cond.methodLink "java/lang/String" 335 yJ0_coder_7d493 ∈ WS := ws_at 365 (by decide +kernel) rfl
theorem w_366 : Jvm.Cond.instanceMethod yJ0_coder_7d493 ∈ WS := ws_at 366 (by decide +kernel) rfl
theorem w_367 : Jvm.Cond.selects "java/lang/String" yJ0_coder_7d493 yJ0_coder_7d493 ∈ WS := ws_at 367 (by decide +kernel) rfl
theorem w_368 : Jvm.Cond.code yJ0_coder_7d493 prog_16_method_152_code 1 (Option.some Jvm.ClassFile.FieldType.byte) ∈ WS := ws_at 368 (by decide +kernel) rfl
theorem w_369 : Jvm.Cond.fieldLink "java/lang/String" 38 "java/lang/String" "COMPACT_STRINGS" "Z" ∈ WS := ws_at 369 (by decide +kernel) rfl
theorem w_371 : Jvm.Cond.methodLink "ParkingTariff$PlanText" 127 yJ0_charAt_5068e ∈ WS := ws_at 371 (by decide +kernel) rfl
theorem w_372 : Jvm.Cond.instanceMethod yJ0_charAt_5068e ∈ WS := ws_at 372 (by decide +kernel) rfl
theorem w_373 : Jvm.Cond.selects "java/lang/String" yJ0_charAt_5068e yJ0_charAt_5068e ∈ WS := ws_at 373 (by decide +kernel) rfl
theorem w_374 : Jvm.Cond.code yJ0_charAt_5068e prog_16_method_56_code 2 (Option.some Jvm.ClassFile.FieldType.char) ∈ WS := ws_at 374 (by decide +kernel) rfl
theorem w_375 : Jvm.Cond.methodLink "java/lang/String" 492 yJ0_isLatin1_aae02 ∈ WS := ws_at 375 (by decide +kernel) rfl
theorem w_376 : Jvm.Cond.instanceMethod yJ0_isLatin1_aae02 ∈ WS := ws_at 376 (by decide +kernel) rfl
theorem w_377 : Jvm.Cond.selects "java/lang/String" yJ0_isLatin1_aae02 yJ0_isLatin1_aae02 ∈ WS := ws_at 377 (by decide +kernel) rfl
theorem w_378 : Jvm.Cond.code yJ0_isLatin1_aae02 prog_16_method_154_code 1 (Option.some Jvm.ClassFile.FieldType.boolean) ∈ WS := ws_at 378 (by decide +kernel) rfl
theorem w_379 : Jvm.Cond.methodLink "java/lang/String" 495 yJ1_charAt_3b067 ∈ WS := ws_at 379 (by decide +kernel) rfl
theorem w_380 : Jvm.Cond.static yJ1_charAt_3b067 ∈ WS := ws_at 380 (by decide +kernel) rfl
theorem w_381 : Jvm.Cond.code yJ1_charAt_3b067 prog_17_method_2_code 2 (Option.some Jvm.ClassFile.FieldType.char) ∈ WS := ws_at 381 (by decide +kernel) rfl
theorem w_382 : Jvm.Cond.methodLink "java/lang/StringLatin1" 9 yJ0_checkIndex_df160 ∈ WS := ws_at 382 (by decide +kernel) rfl
theorem w_383 : Jvm.Cond.static yJ0_checkIndex_df160 ∈ WS := ws_at 383 (by decide +kernel) rfl
theorem w_384 : Jvm.Cond.code yJ0_checkIndex_df160 prog_16_method_155_code 2 (Option.none : Option Jvm.ClassFile.FieldType) ∈ WS := ws_at 384 (by decide +kernel) rfl
theorem w_385 : Jvm.Cond.fieldLink "java/lang/String" 1053 "jdk/internal/util/Preconditions" "SIOOBE_FORMATTER" "Ljava/util/function/BiFunction;" ∈ WS := ws_at 385 (by decide +kernel) rfl
theorem w_387 : Jvm.Cond.methodLink "java/lang/String" 1059 yJ3_checkIndex_8e157 ∈ WS := ws_at 387 (by decide +kernel) rfl
theorem w_388 : Jvm.Cond.static yJ3_checkIndex_8e157 ∈ WS := ws_at 388 (by decide +kernel) rfl
theorem w_389 : Jvm.Cond.code yJ3_checkIndex_8e157 prog_19_method_11_code 3 (Option.some Jvm.ClassFile.FieldType.int) ∈ WS := ws_at 389 (by decide +kernel) rfl
theorem w_390 : Jvm.Cond.methodLink "java/lang/String" 498 yJ2_charAt_3b067 ∈ WS := ws_at 390 (by decide +kernel) rfl
theorem w_391 : Jvm.Cond.static yJ2_charAt_3b067 ∈ WS := ws_at 391 (by decide +kernel) rfl
theorem w_392 : Jvm.Cond.code yJ2_charAt_3b067 prog_18_method_83_code 2 (Option.some Jvm.ClassFile.FieldType.char) ∈ WS := ws_at 392 (by decide +kernel) rfl
theorem w_393 : Jvm.Cond.methodLink "java/lang/StringUTF16" 67 yJ2_checkIndex_2214a ∈ WS := ws_at 393 (by decide +kernel) rfl
theorem w_394 : Jvm.Cond.static yJ2_checkIndex_2214a ∈ WS := ws_at 394 (by decide +kernel) rfl
theorem w_395 : Jvm.Cond.code yJ2_checkIndex_2214a prog_18_method_91_code 2 (Option.none : Option Jvm.ClassFile.FieldType) ∈ WS := ws_at 395 (by decide +kernel) rfl
theorem w_396 : Jvm.Cond.methodLink "java/lang/StringUTF16" 48 yJ2_length_9d52b ∈ WS := ws_at 396 (by decide +kernel) rfl
theorem w_397 : Jvm.Cond.static yJ2_length_9d52b ∈ WS := ws_at 397 (by decide +kernel) rfl
theorem w_398 : Jvm.Cond.code yJ2_length_9d52b prog_18_method_6_code 1 (Option.some Jvm.ClassFile.FieldType.int) ∈ WS := ws_at 398 (by decide +kernel) rfl
theorem w_399 : Jvm.Cond.methodLink "java/lang/StringUTF16" 414 yJ0_checkIndex_df160 ∈ WS := ws_at 399 (by decide +kernel) rfl
theorem w_400 : Jvm.Cond.methodLink "java/lang/StringUTF16" 71 yJ2_getChar_3b067 ∈ WS := ws_at 400 (by decide +kernel) rfl
theorem w_401 : Jvm.Cond.static yJ2_getChar_3b067 ∈ WS := ws_at 401 (by decide +kernel) rfl
theorem w_402 : Jvm.Cond.code yJ2_getChar_3b067 prog_18_method_5_code 2 (Option.some Jvm.ClassFile.FieldType.char) ∈ WS := ws_at 402 (by decide +kernel) rfl
theorem w_403 : Jvm.Cond.fieldLink "java/lang/StringUTF16" 44 "java/lang/StringUTF16" "$assertionsDisabled" "Z" ∈ WS := ws_at 403 (by decide +kernel) rfl
theorem w_405 : Jvm.Cond.fieldLink "java/lang/StringUTF16" 59 "java/lang/StringUTF16" "HI_BYTE_SHIFT" "I" ∈ WS := ws_at 405 (by decide +kernel) rfl
theorem w_407 : Jvm.Cond.fieldLink "java/lang/StringUTF16" 63 "java/lang/StringUTF16" "LO_BYTE_SHIFT" "I" ∈ WS := ws_at 407 (by decide +kernel) rfl
theorem w_409 : Jvm.Cond.methodLink "ParkingTariff$PlanText" 63 yX6_readSetting ∈ WS := ws_at 409 (by decide +kernel) rfl
theorem w_410 : Jvm.Cond.instanceMethod yX6_readSetting ∈ WS := ws_at 410 (by decide +kernel) rfl
theorem w_411 : Jvm.Cond.selects "ParkingTariff$PlanText" yX6_readSetting yX6_readSetting ∈ WS := ws_at 411 (by decide +kernel) rfl
theorem w_412 : Jvm.Cond.code yX6_readSetting prog_8_method_7_code 2 (Option.some Jvm.ClassFile.FieldType.boolean) ∈ WS := ws_at 412 (by decide +kernel) rfl
theorem w_413 : Jvm.Cond.methodLink "ParkingTariff$PlanText" 89 yX6_readNumbers ∈ WS := ws_at 413 (by decide +kernel) rfl
theorem w_414 : Jvm.Cond.instanceMethod yX6_readNumbers ∈ WS := ws_at 414 (by decide +kernel) rfl
theorem w_415 : Jvm.Cond.selects "ParkingTariff$PlanText" yX6_readNumbers yX6_readNumbers ∈ WS := ws_at 415 (by decide +kernel) rfl
theorem w_416 : Jvm.Cond.code yX6_readNumbers prog_8_method_13_code 3 (Option.some Jvm.ClassFile.FieldType.boolean) ∈ WS := ws_at 416 (by decide +kernel) rfl
theorem w_417 : Jvm.Cond.methodLink "ParkingTariff$PlanText" 46 yX6_readSign ∈ WS := ws_at 417 (by decide +kernel) rfl
theorem w_418 : Jvm.Cond.instanceMethod yX6_readSign ∈ WS := ws_at 418 (by decide +kernel) rfl
theorem w_419 : Jvm.Cond.selects "ParkingTariff$PlanText" yX6_readSign yX6_readSign ∈ WS := ws_at 419 (by decide +kernel) rfl
theorem w_420 : Jvm.Cond.code yX6_readSign prog_8_method_14_code 2 (Option.some Jvm.ClassFile.FieldType.boolean) ∈ WS := ws_at 420 (by decide +kernel) rfl
theorem w_421 : Jvm.Cond.methodLink "ParkingTariff$PlanText" 50 yX6_fault ∈ WS := ws_at 421 (by decide +kernel) rfl
theorem w_422 : Jvm.Cond.instanceMethod yX6_fault ∈ WS := ws_at 422 (by decide +kernel) rfl
theorem w_423 : Jvm.Cond.selects "ParkingTariff$PlanText" yX6_fault yX6_fault ∈ WS := ws_at 423 (by decide +kernel) rfl
theorem w_424 : Jvm.Cond.code yX6_fault prog_8_method_18_code 3 (Option.some Jvm.ClassFile.FieldType.boolean) ∈ WS := ws_at 424 (by decide +kernel) rfl
theorem w_425 : Jvm.Cond.methodLink "ParkingTariff$PlanText" 131 yX6_readNumber ∈ WS := ws_at 425 (by decide +kernel) rfl
theorem w_426 : Jvm.Cond.instanceMethod yX6_readNumber ∈ WS := ws_at 426 (by decide +kernel) rfl
theorem w_427 : Jvm.Cond.selects "ParkingTariff$PlanText" yX6_readNumber yX6_readNumber ∈ WS := ws_at 427 (by decide +kernel) rfl
theorem w_428 : Jvm.Cond.code yX6_readNumber prog_8_method_15_code 4 (Option.some Jvm.ClassFile.FieldType.boolean) ∈ WS := ws_at 428 (by decide +kernel) rfl
theorem w_429 : Jvm.Cond.methodLink "ParkingTariff$PlanText" 134 yX6_isDigit ∈ WS := ws_at 429 (by decide +kernel) rfl
theorem w_430 : Jvm.Cond.instanceMethod yX6_isDigit ∈ WS := ws_at 430 (by decide +kernel) rfl
theorem w_431 : Jvm.Cond.selects "ParkingTariff$PlanText" yX6_isDigit yX6_isDigit ∈ WS := ws_at 431 (by decide +kernel) rfl
theorem w_432 : Jvm.Cond.code yX6_isDigit prog_8_method_16_code 2 (Option.some Jvm.ClassFile.FieldType.boolean) ∈ WS := ws_at 432 (by decide +kernel) rfl
theorem w_433 : Jvm.Cond.methodLink "ParkingTariff$PlanText" 92 yX6_inRange ∈ WS := ws_at 433 (by decide +kernel) rfl
theorem w_434 : Jvm.Cond.instanceMethod yX6_inRange ∈ WS := ws_at 434 (by decide +kernel) rfl
theorem w_435 : Jvm.Cond.selects "ParkingTariff$PlanText" yX6_inRange yX6_inRange ∈ WS := ws_at 435 (by decide +kernel) rfl
theorem w_436 : Jvm.Cond.code yX6_inRange prog_8_method_17_code 4 (Option.some Jvm.ClassFile.FieldType.boolean) ∈ WS := ws_at 436 (by decide +kernel) rfl
theorem w_442 : Jvm.Cond.methodLink "ParkingTariff$PlanText" 86 yX6_readBand ∈ WS := ws_at 442 (by decide +kernel) rfl
theorem w_443 : Jvm.Cond.instanceMethod yX6_readBand ∈ WS := ws_at 443 (by decide +kernel) rfl
theorem w_444 : Jvm.Cond.selects "ParkingTariff$PlanText" yX6_readBand yX6_readBand ∈ WS := ws_at 444 (by decide +kernel) rfl
theorem w_445 : Jvm.Cond.code yX6_readBand prog_8_method_8_code 2 (Option.some Jvm.ClassFile.FieldType.boolean) ∈ WS := ws_at 445 (by decide +kernel) rfl
theorem w_446 : Jvm.Cond.methodLink "ParkingTariff$PlanText" 96 yX6_isInOrder ∈ WS := ws_at 446 (by decide +kernel) rfl
theorem w_447 : Jvm.Cond.instanceMethod yX6_isInOrder ∈ WS := ws_at 447 (by decide +kernel) rfl
theorem w_448 : Jvm.Cond.selects "ParkingTariff$PlanText" yX6_isInOrder yX6_isInOrder ∈ WS := ws_at 448 (by decide +kernel) rfl
theorem w_449 : Jvm.Cond.code yX6_isInOrder prog_8_method_9_code 3 (Option.some Jvm.ClassFile.FieldType.boolean) ∈ WS := ws_at 449 (by decide +kernel) rfl
theorem w_450 : Jvm.Cond.methodLink "ParkingTariff$PlanText" 112 yX5_bandAt ∈ WS := ws_at 450 (by decide +kernel) rfl
theorem w_451 : Jvm.Cond.instanceMethod yX5_bandAt ∈ WS := ws_at 451 (by decide +kernel) rfl
theorem w_452 : Jvm.Cond.selects "ParkingTariff$Plan" yX5_bandAt yX5_bandAt ∈ WS := ws_at 452 (by decide +kernel) rfl
theorem w_453 : Jvm.Cond.code yX5_bandAt prog_7_method_5_code 3 (Option.some (Jvm.ClassFile.FieldType.object "ParkingTariff$Band")) ∈ WS := ws_at 453 (by decide +kernel) rfl
theorem w_455 : Jvm.Cond.methodLink "ParkingTariff$PlanText" 103 yX0_tell ∈ WS := ws_at 455 (by decide +kernel) rfl
theorem w_456 : Jvm.Cond.methodLink "ParkingTariff" 57 yX6_clear ∈ WS := ws_at 456 (by decide +kernel) rfl
theorem w_457 : Jvm.Cond.instanceMethod yX6_clear ∈ WS := ws_at 457 (by decide +kernel) rfl
theorem w_458 : Jvm.Cond.selects "ParkingTariff$PlanText" yX6_clear yX6_clear ∈ WS := ws_at 458 (by decide +kernel) rfl
theorem w_459 : Jvm.Cond.code yX6_clear prog_8_method_4_code 1 (Option.none : Option Jvm.ClassFile.FieldType) ∈ WS := ws_at 459 (by decide +kernel) rfl
theorem w_460 : Jvm.Cond.methodLink "ParkingTariff" 69 yX7_tell ∈ WS := ws_at 460 (by decide +kernel) rfl
theorem w_461 : Jvm.Cond.instanceMethod yX7_tell ∈ WS := ws_at 461 (by decide +kernel) rfl
theorem w_462 : Jvm.Cond.selects "ParkingTariff$Report" yX7_tell yX7_tell ∈ WS := ws_at 462 (by decide +kernel) rfl
theorem w_463 : Jvm.Cond.code yX7_tell prog_9_method_3_code 5 (Option.none : Option Jvm.ClassFile.FieldType) ∈ WS := ws_at 463 (by decide +kernel) rfl
theorem w_464 : Jvm.Cond.methodLink "ParkingTariff" 77 yX5_copyFrom ∈ WS := ws_at 464 (by decide +kernel) rfl
theorem w_465 : Jvm.Cond.instanceMethod yX5_copyFrom ∈ WS := ws_at 465 (by decide +kernel) rfl
theorem w_466 : Jvm.Cond.selects "ParkingTariff$Plan" yX5_copyFrom yX5_copyFrom ∈ WS := ws_at 466 (by decide +kernel) rfl
theorem w_467 : Jvm.Cond.code yX5_copyFrom prog_7_method_3_code 3 (Option.none : Option Jvm.ClassFile.FieldType) ∈ WS := ws_at 467 (by decide +kernel) rfl
theorem w_468 : Jvm.Cond.methodLink "ParkingTariff$Plan" 43 yX0_copyFrom ∈ WS := ws_at 468 (by decide +kernel) rfl
theorem w_469 : Jvm.Cond.instanceMethod yX0_copyFrom ∈ WS := ws_at 469 (by decide +kernel) rfl
theorem w_470 : Jvm.Cond.selects "ParkingTariff$Band" yX0_copyFrom yX0_copyFrom ∈ WS := ws_at 470 (by decide +kernel) rfl
theorem w_471 : Jvm.Cond.code yX0_copyFrom prog_2_method_3_code 2 (Option.none : Option Jvm.ClassFile.FieldType) ∈ WS := ws_at 471 (by decide +kernel) rfl
theorem w_472 : Jvm.Cond.methodLink "ParkingTariff$Band" 22 yX0_tell ∈ WS := ws_at 472 (by decide +kernel) rfl
theorem w_473 : Jvm.Cond.arrayClass Jvm.ClassFile.FieldType.byte ∈ WS := ws_at 473 (by decide +kernel) rfl
theorem w_474 : Jvm.Cond.methodLink "ParkingTariffLaw" 23 yX10_plan ∈ WS := ws_at 474 (by decide +kernel) rfl
theorem w_475 : Jvm.Cond.instanceMethod yX10_plan ∈ WS := ws_at 475 (by decide +kernel) rfl
theorem w_476 : Jvm.Cond.selects "ParkingTariff" yX10_plan yX10_plan ∈ WS := ws_at 476 (by decide +kernel) rfl
theorem w_477 : Jvm.Cond.code yX10_plan prog_1_method_4_code 4 (Option.some Jvm.ClassFile.FieldType.int) ∈ WS := ws_at 477 (by decide +kernel) rfl
theorem w_478 : Jvm.Cond.methodLink "ParkingTariff" 86 yX5_property ∈ WS := ws_at 478 (by decide +kernel) rfl
theorem w_479 : Jvm.Cond.instanceMethod yX5_property ∈ WS := ws_at 479 (by decide +kernel) rfl
theorem w_480 : Jvm.Cond.selects "ParkingTariff$Plan" yX5_property yX5_property ∈ WS := ws_at 480 (by decide +kernel) rfl
theorem w_481 : Jvm.Cond.code yX5_property prog_7_method_4_code 2 (Option.some Jvm.ClassFile.FieldType.int) ∈ WS := ws_at 481 (by decide +kernel) rfl
theorem w_482 : Jvm.Cond.methodLink "ParkingTariffLaw" 27 yX10_band ∈ WS := ws_at 482 (by decide +kernel) rfl
theorem w_483 : Jvm.Cond.instanceMethod yX10_band ∈ WS := ws_at 483 (by decide +kernel) rfl
theorem w_484 : Jvm.Cond.selects "ParkingTariff" yX10_band yX10_band ∈ WS := ws_at 484 (by decide +kernel) rfl
theorem w_485 : Jvm.Cond.code yX10_band prog_1_method_5_code 6 (Option.some Jvm.ClassFile.FieldType.int) ∈ WS := ws_at 485 (by decide +kernel) rfl
theorem w_486 : Jvm.Cond.methodLink "ParkingTariff" 90 yX5_bandAt ∈ WS := ws_at 486 (by decide +kernel) rfl
theorem w_487 : Jvm.Cond.methodLink "ParkingTariff" 94 yX0_property ∈ WS := ws_at 487 (by decide +kernel) rfl
theorem w_488 : Jvm.Cond.instanceMethod yX0_property ∈ WS := ws_at 488 (by decide +kernel) rfl
theorem w_489 : Jvm.Cond.selects "ParkingTariff$Band" yX0_property yX0_property ∈ WS := ws_at 489 (by decide +kernel) rfl
theorem w_490 : Jvm.Cond.code yX0_property prog_2_method_4_code 2 (Option.some Jvm.ClassFile.FieldType.int) ∈ WS := ws_at 490 (by decide +kernel) rfl
theorem w_491 : Jvm.Cond.methodLink "ParkingTariffLaw" 32 yX10_fee ∈ WS := ws_at 491 (by decide +kernel) rfl
theorem w_492 : Jvm.Cond.instanceMethod yX10_fee ∈ WS := ws_at 492 (by decide +kernel) rfl
theorem w_493 : Jvm.Cond.selects "ParkingTariff" yX10_fee yX10_fee ∈ WS := ws_at 493 (by decide +kernel) rfl
theorem w_494 : Jvm.Cond.code yX10_fee prog_1_method_6_code 5 (Option.some Jvm.ClassFile.FieldType.int) ∈ WS := ws_at 494 (by decide +kernel) rfl
theorem w_495 : Jvm.Cond.methodLink "ParkingTariff" 97 yX10_isStay ∈ WS := ws_at 495 (by decide +kernel) rfl
theorem w_496 : Jvm.Cond.static yX10_isStay ∈ WS := ws_at 496 (by decide +kernel) rfl
theorem w_497 : Jvm.Cond.code yX10_isStay prog_1_method_32_code 2 (Option.some Jvm.ClassFile.FieldType.boolean) ∈ WS := ws_at 497 (by decide +kernel) rfl
theorem w_498 : Jvm.Cond.constant "ParkingTariff" 105 (99999 : Int32) ∈ WS := ws_at 498 (by decide +kernel) rfl
theorem w_499 : Jvm.Cond.methodLink "ParkingTariff" 101 yX5_feeOfStay ∈ WS := ws_at 499 (by decide +kernel) rfl
theorem w_500 : Jvm.Cond.instanceMethod yX5_feeOfStay ∈ WS := ws_at 500 (by decide +kernel) rfl
theorem w_501 : Jvm.Cond.selects "ParkingTariff$Plan" yX5_feeOfStay yX5_feeOfStay ∈ WS := ws_at 501 (by decide +kernel) rfl
theorem w_502 : Jvm.Cond.code yX5_feeOfStay prog_7_method_9_code 5 (Option.some Jvm.ClassFile.FieldType.int) ∈ WS := ws_at 502 (by decide +kernel) rfl
theorem w_503 : Jvm.Cond.classLink "ParkingTariff$Plan" 60 "ParkingTariff$Meter" ∈ WS := ws_at 503 (by decide +kernel) rfl
theorem w_504 : Jvm.Cond.instantiable "ParkingTariff$Meter" 6 ∈ WS := ws_at 504 (by decide +kernel) rfl
theorem w_505 : Jvm.Cond.methodLink "ParkingTariff$Plan" 62 yX4_init ∈ WS := ws_at 505 (by decide +kernel) rfl
theorem w_506 : Jvm.Cond.instanceMethod yX4_init ∈ WS := ws_at 506 (by decide +kernel) rfl
theorem w_507 : Jvm.Cond.code yX4_init prog_6_method_1_code 3 (Option.none : Option Jvm.ClassFile.FieldType) ∈ WS := ws_at 507 (by decide +kernel) rfl
theorem w_508 : Jvm.Cond.methodLink "ParkingTariff$Meter" 1 ⟨"java/lang/Object", "<init>", "()V"⟩ ∈ WS := ws_at 508 (by decide +kernel) rfl
theorem w_509 : Jvm.Cond.methodLink "ParkingTariff$Meter" 20 yX5_groupOf ∈ WS := ws_at 509 (by decide +kernel) rfl
theorem w_510 : Jvm.Cond.instanceMethod yX5_groupOf ∈ WS := ws_at 510 (by decide +kernel) rfl
theorem w_511 : Jvm.Cond.selects "ParkingTariff$Plan" yX5_groupOf yX5_groupOf ∈ WS := ws_at 511 (by decide +kernel) rfl
theorem w_512 : Jvm.Cond.code yX5_groupOf prog_7_method_7_code 3 (Option.some Jvm.ClassFile.FieldType.int) ∈ WS := ws_at 512 (by decide +kernel) rfl
theorem w_513 : Jvm.Cond.fieldLink "ParkingTariff$Meter" 7 "ParkingTariff$Meter" "plan" "LParkingTariff$Plan;" ∈ WS := ws_at 513 (by decide +kernel) rfl
theorem w_514 : Jvm.Cond.fieldLink "ParkingTariff$Meter" 13 "ParkingTariff$Meter" "from" "I" ∈ WS := ws_at 514 (by decide +kernel) rfl
theorem w_515 : Jvm.Cond.fieldLink "ParkingTariff$Meter" 17 "ParkingTariff$Meter" "next" "I" ∈ WS := ws_at 515 (by decide +kernel) rfl
theorem w_516 : Jvm.Cond.fieldLink "ParkingTariff$Plan" 65 "ParkingTariff$Meter" "next" "I" ∈ WS := ws_at 516 (by decide +kernel) rfl
theorem w_517 : Jvm.Cond.fieldLink "ParkingTariff$Meter" 26 "ParkingTariff$Meter" "group" "I" ∈ WS := ws_at 517 (by decide +kernel) rfl
theorem w_518 : Jvm.Cond.fieldLink "ParkingTariff$Meter" 29 "ParkingTariff$Meter" "closedSum" "I" ∈ WS := ws_at 518 (by decide +kernel) rfl
theorem w_519 : Jvm.Cond.fieldLink "ParkingTariff$Meter" 32 "ParkingTariff$Meter" "openSum" "I" ∈ WS := ws_at 519 (by decide +kernel) rfl
theorem w_533 : Jvm.Cond.methodLink "ParkingTariff$Plan" 68 yX4_addUnit ∈ WS := ws_at 533 (by decide +kernel) rfl
theorem w_534 : Jvm.Cond.instanceMethod yX4_addUnit ∈ WS := ws_at 534 (by decide +kernel) rfl
theorem w_535 : Jvm.Cond.selects "ParkingTariff$Meter" yX4_addUnit yX4_addUnit ∈ WS := ws_at 535 (by decide +kernel) rfl
theorem w_536 : Jvm.Cond.code yX4_addUnit prog_6_method_2_code 3 (Option.none : Option Jvm.ClassFile.FieldType) ∈ WS := ws_at 536 (by decide +kernel) rfl
theorem w_537 : Jvm.Cond.methodLink "ParkingTariff$Meter" 35 yX5_capped ∈ WS := ws_at 537 (by decide +kernel) rfl
theorem w_538 : Jvm.Cond.instanceMethod yX5_capped ∈ WS := ws_at 538 (by decide +kernel) rfl
theorem w_539 : Jvm.Cond.selects "ParkingTariff$Plan" yX5_capped yX5_capped ∈ WS := ws_at 539 (by decide +kernel) rfl
theorem w_540 : Jvm.Cond.code yX5_capped prog_7_method_8_code 2 (Option.some Jvm.ClassFile.FieldType.int) ∈ WS := ws_at 540 (by decide +kernel) rfl
theorem w_541 : Jvm.Cond.methodLink "ParkingTariff$Plan" 54 yJ9_min_7cf53 ∈ WS := ws_at 541 (by decide +kernel) rfl
theorem w_542 : Jvm.Cond.static yJ9_min_7cf53 ∈ WS := ws_at 542 (by decide +kernel) rfl
theorem w_543 : Jvm.Cond.code yJ9_min_7cf53 prog_15_method_69_code 2 (Option.some Jvm.ClassFile.FieldType.int) ∈ WS := ws_at 543 (by decide +kernel) rfl
theorem w_544 : Jvm.Cond.methodLink "ParkingTariff$Meter" 39 yX5_bandOfMinute ∈ WS := ws_at 544 (by decide +kernel) rfl
theorem w_545 : Jvm.Cond.instanceMethod yX5_bandOfMinute ∈ WS := ws_at 545 (by decide +kernel) rfl
theorem w_546 : Jvm.Cond.selects "ParkingTariff$Plan" yX5_bandOfMinute yX5_bandOfMinute ∈ WS := ws_at 546 (by decide +kernel) rfl
theorem w_547 : Jvm.Cond.code yX5_bandOfMinute prog_7_method_6_code 5 (Option.some (Jvm.ClassFile.FieldType.object "ParkingTariff$Band")) ∈ WS := ws_at 547 (by decide +kernel) rfl
theorem w_548 : Jvm.Cond.methodLink "ParkingTariff$Plan" 71 yX4_amount ∈ WS := ws_at 548 (by decide +kernel) rfl
theorem w_549 : Jvm.Cond.instanceMethod yX4_amount ∈ WS := ws_at 549 (by decide +kernel) rfl
theorem w_550 : Jvm.Cond.selects "ParkingTariff$Meter" yX4_amount yX4_amount ∈ WS := ws_at 550 (by decide +kernel) rfl
theorem w_551 : Jvm.Cond.code yX4_amount prog_6_method_3_code 1 (Option.some Jvm.ClassFile.FieldType.int) ∈ WS := ws_at 551 (by decide +kernel) rfl
theorem w_552 : Jvm.Cond.methodLink "ParkingTariffLaw" 36 yX10_unit ∈ WS := ws_at 552 (by decide +kernel) rfl
theorem w_553 : Jvm.Cond.instanceMethod yX10_unit ∈ WS := ws_at 553 (by decide +kernel) rfl
theorem w_554 : Jvm.Cond.selects "ParkingTariff" yX10_unit yX10_unit ∈ WS := ws_at 554 (by decide +kernel) rfl
theorem w_555 : Jvm.Cond.code yX10_unit prog_1_method_7_code 6 (Option.some Jvm.ClassFile.FieldType.int) ∈ WS := ws_at 555 (by decide +kernel) rfl
theorem w_556 : Jvm.Cond.methodLink "ParkingTariff" 106 yX5_partOfUnit ∈ WS := ws_at 556 (by decide +kernel) rfl
theorem w_557 : Jvm.Cond.instanceMethod yX5_partOfUnit ∈ WS := ws_at 557 (by decide +kernel) rfl
theorem w_558 : Jvm.Cond.selects "ParkingTariff$Plan" yX5_partOfUnit yX5_partOfUnit ∈ WS := ws_at 558 (by decide +kernel) rfl
theorem w_559 : Jvm.Cond.code yX5_partOfUnit prog_7_method_11_code 6 (Option.some Jvm.ClassFile.FieldType.int) ∈ WS := ws_at 559 (by decide +kernel) rfl
theorem w_560 : Jvm.Cond.methodLink "ParkingTariff$Plan" 82 yX5_bandOfMinute ∈ WS := ws_at 560 (by decide +kernel) rfl
theorem w_561 : Jvm.Cond.methodLink "ParkingTariff$Plan" 89 yX5_groupOf ∈ WS := ws_at 561 (by decide +kernel) rfl
theorem w_562 : Jvm.Cond.methodLink "ParkingTariffLaw" 41 yX10_extend ∈ WS := ws_at 562 (by decide +kernel) rfl
theorem w_563 : Jvm.Cond.instanceMethod yX10_extend ∈ WS := ws_at 563 (by decide +kernel) rfl
theorem w_564 : Jvm.Cond.selects "ParkingTariff" yX10_extend yX10_extend ∈ WS := ws_at 564 (by decide +kernel) rfl
theorem w_565 : Jvm.Cond.code yX10_extend prog_1_method_8_code 5 (Option.some Jvm.ClassFile.FieldType.int) ∈ WS := ws_at 565 (by decide +kernel) rfl
theorem w_566 : Jvm.Cond.methodLink "ParkingTariff" 110 yX5_latestEnd ∈ WS := ws_at 566 (by decide +kernel) rfl
theorem w_567 : Jvm.Cond.instanceMethod yX5_latestEnd ∈ WS := ws_at 567 (by decide +kernel) rfl
theorem w_568 : Jvm.Cond.selects "ParkingTariff$Plan" yX5_latestEnd yX5_latestEnd ∈ WS := ws_at 568 (by decide +kernel) rfl
theorem w_569 : Jvm.Cond.code yX5_latestEnd prog_7_method_10_code 8 (Option.some Jvm.ClassFile.FieldType.int) ∈ WS := ws_at 569 (by decide +kernel) rfl
theorem w_570 : Jvm.Cond.methodLink "ParkingTariff$Plan" 75 yX5_feeOfStay ∈ WS := ws_at 570 (by decide +kernel) rfl
theorem w_571 : Jvm.Cond.constant "ParkingTariff$Plan" 78 (99999 : Int32) ∈ WS := ws_at 571 (by decide +kernel) rfl
theorem w_572 : Jvm.Cond.methodLink "ParkingTariff$Plan" 79 yJ9_max_7cf53 ∈ WS := ws_at 572 (by decide +kernel) rfl
theorem w_573 : Jvm.Cond.static yJ9_max_7cf53 ∈ WS := ws_at 573 (by decide +kernel) rfl
theorem w_574 : Jvm.Cond.code yJ9_max_7cf53 prog_15_method_65_code 2 (Option.some Jvm.ClassFile.FieldType.int) ∈ WS := ws_at 574 (by decide +kernel) rfl
theorem w_575 : Jvm.Cond.methodLink "ParkingTariffLaw" 45 yX10_addVoucher ∈ WS := ws_at 575 (by decide +kernel) rfl
theorem w_576 : Jvm.Cond.instanceMethod yX10_addVoucher ∈ WS := ws_at 576 (by decide +kernel) rfl
theorem w_577 : Jvm.Cond.selects "ParkingTariff" yX10_addVoucher yX10_addVoucher ∈ WS := ws_at 577 (by decide +kernel) rfl
theorem w_578 : Jvm.Cond.code yX10_addVoucher prog_1_method_9_code 3 (Option.some Jvm.ClassFile.FieldType.int) ∈ WS := ws_at 578 (by decide +kernel) rfl
theorem w_579 : Jvm.Cond.methodLink "ParkingTariff" 113 yX1_makeVoucher ∈ WS := ws_at 579 (by decide +kernel) rfl
theorem w_580 : Jvm.Cond.instanceMethod yX1_makeVoucher ∈ WS := ws_at 580 (by decide +kernel) rfl
theorem w_581 : Jvm.Cond.selects "ParkingTariff$CarPark" yX1_makeVoucher yX1_makeVoucher ∈ WS := ws_at 581 (by decide +kernel) rfl
theorem w_582 : Jvm.Cond.code yX1_makeVoucher prog_3_method_9_code 3 (Option.some Jvm.ClassFile.FieldType.int) ∈ WS := ws_at 582 (by decide +kernel) rfl
theorem w_583 : Jvm.Cond.methodLink "ParkingTariff$CarPark" 88 yX9_begin ∈ WS := ws_at 583 (by decide +kernel) rfl
theorem w_584 : Jvm.Cond.instanceMethod yX9_begin ∈ WS := ws_at 584 (by decide +kernel) rfl
theorem w_585 : Jvm.Cond.selects "ParkingTariff$Voucher" yX9_begin yX9_begin ∈ WS := ws_at 585 (by decide +kernel) rfl
theorem w_586 : Jvm.Cond.code yX9_begin prog_11_method_2_code 3 (Option.none : Option Jvm.ClassFile.FieldType) ∈ WS := ws_at 586 (by decide +kernel) rfl
theorem w_587 : Jvm.Cond.methodLink "ParkingTariffLaw" 49 yX10_voucher ∈ WS := ws_at 587 (by decide +kernel) rfl
theorem w_588 : Jvm.Cond.instanceMethod yX10_voucher ∈ WS := ws_at 588 (by decide +kernel) rfl
theorem w_589 : Jvm.Cond.selects "ParkingTariff" yX10_voucher yX10_voucher ∈ WS := ws_at 589 (by decide +kernel) rfl
theorem w_590 : Jvm.Cond.code yX10_voucher prog_1_method_10_code 4 (Option.some Jvm.ClassFile.FieldType.int) ∈ WS := ws_at 590 (by decide +kernel) rfl
theorem w_591 : Jvm.Cond.methodLink "ParkingTariff" 116 yX1_voucherAt ∈ WS := ws_at 591 (by decide +kernel) rfl
theorem w_592 : Jvm.Cond.instanceMethod yX1_voucherAt ∈ WS := ws_at 592 (by decide +kernel) rfl
theorem w_593 : Jvm.Cond.selects "ParkingTariff$CarPark" yX1_voucherAt yX1_voucherAt ∈ WS := ws_at 593 (by decide +kernel) rfl
theorem w_594 : Jvm.Cond.code yX1_voucherAt prog_3_method_4_code 3 (Option.some (Jvm.ClassFile.FieldType.object "ParkingTariff$Voucher")) ∈ WS := ws_at 594 (by decide +kernel) rfl
theorem w_595 : Jvm.Cond.methodLink "ParkingTariff" 120 yX9_property ∈ WS := ws_at 595 (by decide +kernel) rfl
theorem w_596 : Jvm.Cond.instanceMethod yX9_property ∈ WS := ws_at 596 (by decide +kernel) rfl
theorem w_597 : Jvm.Cond.selects "ParkingTariff$Voucher" yX9_property yX9_property ∈ WS := ws_at 597 (by decide +kernel) rfl
theorem w_598 : Jvm.Cond.code yX9_property prog_11_method_4_code 2 (Option.some Jvm.ClassFile.FieldType.int) ∈ WS := ws_at 598 (by decide +kernel) rfl
theorem w_599 : Jvm.Cond.methodLink "ParkingTariffLaw" 53 yX10_makeFolder ∈ WS := ws_at 599 (by decide +kernel) rfl
theorem w_600 : Jvm.Cond.instanceMethod yX10_makeFolder ∈ WS := ws_at 600 (by decide +kernel) rfl
theorem w_601 : Jvm.Cond.selects "ParkingTariff" yX10_makeFolder yX10_makeFolder ∈ WS := ws_at 601 (by decide +kernel) rfl
theorem w_602 : Jvm.Cond.code yX10_makeFolder prog_1_method_11_code 4 (Option.some Jvm.ClassFile.FieldType.int) ∈ WS := ws_at 602 (by decide +kernel) rfl
theorem w_603 : Jvm.Cond.methodLink "ParkingTariff" 127 yX2_make ∈ WS := ws_at 603 (by decide +kernel) rfl
theorem w_604 : Jvm.Cond.instanceMethod yX2_make ∈ WS := ws_at 604 (by decide +kernel) rfl
theorem w_605 : Jvm.Cond.selects "ParkingTariff$Folder" yX2_make yX2_make ∈ WS := ws_at 605 (by decide +kernel) rfl
theorem w_606 : Jvm.Cond.code yX2_make prog_4_method_3_code 4 (Option.none : Option Jvm.ClassFile.FieldType) ∈ WS := ws_at 606 (by decide +kernel) rfl
theorem w_607 : Jvm.Cond.methodLink "ParkingTariffLaw" 57 yX10_put ∈ WS := ws_at 607 (by decide +kernel) rfl
theorem w_608 : Jvm.Cond.instanceMethod yX10_put ∈ WS := ws_at 608 (by decide +kernel) rfl
theorem w_609 : Jvm.Cond.selects "ParkingTariff" yX10_put yX10_put ∈ WS := ws_at 609 (by decide +kernel) rfl
theorem w_610 : Jvm.Cond.code yX10_put prog_1_method_12_code 6 (Option.some Jvm.ClassFile.FieldType.int) ∈ WS := ws_at 610 (by decide +kernel) rfl
theorem w_611 : Jvm.Cond.methodLink "ParkingTariff" 133 yX1_folderAt ∈ WS := ws_at 611 (by decide +kernel) rfl
theorem w_612 : Jvm.Cond.instanceMethod yX1_folderAt ∈ WS := ws_at 612 (by decide +kernel) rfl
theorem w_613 : Jvm.Cond.selects "ParkingTariff$CarPark" yX1_folderAt yX1_folderAt ∈ WS := ws_at 613 (by decide +kernel) rfl
theorem w_614 : Jvm.Cond.code yX1_folderAt prog_3_method_5_code 3 (Option.some (Jvm.ClassFile.FieldType.object "ParkingTariff$Folder")) ∈ WS := ws_at 614 (by decide +kernel) rfl
theorem w_615 : Jvm.Cond.methodLink "ParkingTariff$CarPark" 76 yX2_isMade ∈ WS := ws_at 615 (by decide +kernel) rfl
theorem w_616 : Jvm.Cond.instanceMethod yX2_isMade ∈ WS := ws_at 616 (by decide +kernel) rfl
theorem w_617 : Jvm.Cond.selects "ParkingTariff$Folder" yX2_isMade yX2_isMade ∈ WS := ws_at 617 (by decide +kernel) rfl
theorem w_618 : Jvm.Cond.code yX2_isMade prog_4_method_2_code 1 (Option.some Jvm.ClassFile.FieldType.boolean) ∈ WS := ws_at 618 (by decide +kernel) rfl
theorem w_619 : Jvm.Cond.methodLink "ParkingTariff" 137 yX2_hasPlace ∈ WS := ws_at 619 (by decide +kernel) rfl
theorem w_620 : Jvm.Cond.instanceMethod yX2_hasPlace ∈ WS := ws_at 620 (by decide +kernel) rfl
theorem w_621 : Jvm.Cond.selects "ParkingTariff$Folder" yX2_hasPlace yX2_hasPlace ∈ WS := ws_at 621 (by decide +kernel) rfl
theorem w_622 : Jvm.Cond.code yX2_hasPlace prog_4_method_5_code 2 (Option.some Jvm.ClassFile.FieldType.boolean) ∈ WS := ws_at 622 (by decide +kernel) rfl
theorem w_624 : Jvm.Cond.methodLink "ParkingTariff" 143 yX2_takes ∈ WS := ws_at 624 (by decide +kernel) rfl
theorem w_625 : Jvm.Cond.instanceMethod yX2_takes ∈ WS := ws_at 625 (by decide +kernel) rfl
theorem w_626 : Jvm.Cond.selects "ParkingTariff$Folder" yX2_takes yX2_takes ∈ WS := ws_at 626 (by decide +kernel) rfl
theorem w_627 : Jvm.Cond.code yX2_takes prog_4_method_6_code 2 (Option.some Jvm.ClassFile.FieldType.boolean) ∈ WS := ws_at 627 (by decide +kernel) rfl
theorem w_628 : Jvm.Cond.methodLink "ParkingTariff" 146 yX2_fill ∈ WS := ws_at 628 (by decide +kernel) rfl
theorem w_629 : Jvm.Cond.instanceMethod yX2_fill ∈ WS := ws_at 629 (by decide +kernel) rfl
theorem w_630 : Jvm.Cond.selects "ParkingTariff$Folder" yX2_fill yX2_fill ∈ WS := ws_at 630 (by decide +kernel) rfl
theorem w_631 : Jvm.Cond.code yX2_fill prog_4_method_7_code 3 (Option.none : Option Jvm.ClassFile.FieldType) ∈ WS := ws_at 631 (by decide +kernel) rfl
theorem w_632 : Jvm.Cond.methodLink "ParkingTariff$Folder" 26 yX2_hasPlace ∈ WS := ws_at 632 (by decide +kernel) rfl
theorem w_633 : Jvm.Cond.methodLink "ParkingTariff" 149 yX2_filledPlaces ∈ WS := ws_at 633 (by decide +kernel) rfl
theorem w_634 : Jvm.Cond.instanceMethod yX2_filledPlaces ∈ WS := ws_at 634 (by decide +kernel) rfl
theorem w_635 : Jvm.Cond.selects "ParkingTariff$Folder" yX2_filledPlaces yX2_filledPlaces ∈ WS := ws_at 635 (by decide +kernel) rfl
theorem w_636 : Jvm.Cond.code yX2_filledPlaces prog_4_method_9_code 3 (Option.some Jvm.ClassFile.FieldType.int) ∈ WS := ws_at 636 (by decide +kernel) rfl
theorem w_637 : Jvm.Cond.methodLink "ParkingTariffLaw" 61 yX10_inFolder ∈ WS := ws_at 637 (by decide +kernel) rfl
theorem w_638 : Jvm.Cond.instanceMethod yX10_inFolder ∈ WS := ws_at 638 (by decide +kernel) rfl
theorem w_639 : Jvm.Cond.selects "ParkingTariff" yX10_inFolder yX10_inFolder ∈ WS := ws_at 639 (by decide +kernel) rfl
theorem w_640 : Jvm.Cond.code yX10_inFolder prog_1_method_13_code 3 (Option.some Jvm.ClassFile.FieldType.int) ∈ WS := ws_at 640 (by decide +kernel) rfl
theorem w_641 : Jvm.Cond.methodLink "ParkingTariff" 153 yX1_voucherInFolder ∈ WS := ws_at 641 (by decide +kernel) rfl
theorem w_642 : Jvm.Cond.instanceMethod yX1_voucherInFolder ∈ WS := ws_at 642 (by decide +kernel) rfl
theorem w_643 : Jvm.Cond.selects "ParkingTariff$CarPark" yX1_voucherInFolder yX1_voucherInFolder ∈ WS := ws_at 643 (by decide +kernel) rfl
theorem w_644 : Jvm.Cond.code yX1_voucherInFolder prog_3_method_10_code 4 (Option.some Jvm.ClassFile.FieldType.int) ∈ WS := ws_at 644 (by decide +kernel) rfl
theorem w_645 : Jvm.Cond.methodLink "ParkingTariff$CarPark" 92 yX1_folderAt ∈ WS := ws_at 645 (by decide +kernel) rfl
theorem w_646 : Jvm.Cond.methodLink "ParkingTariff$CarPark" 96 yX2_content ∈ WS := ws_at 646 (by decide +kernel) rfl
theorem w_647 : Jvm.Cond.instanceMethod yX2_content ∈ WS := ws_at 647 (by decide +kernel) rfl
theorem w_648 : Jvm.Cond.selects "ParkingTariff$Folder" yX2_content yX2_content ∈ WS := ws_at 648 (by decide +kernel) rfl
theorem w_649 : Jvm.Cond.code yX2_content prog_4_method_8_code 2 (Option.some Jvm.ClassFile.FieldType.int) ∈ WS := ws_at 649 (by decide +kernel) rfl
theorem w_650 : Jvm.Cond.methodLink "ParkingTariffLaw" 65 yX10_enter ∈ WS := ws_at 650 (by decide +kernel) rfl
theorem w_651 : Jvm.Cond.instanceMethod yX10_enter ∈ WS := ws_at 651 (by decide +kernel) rfl
theorem w_652 : Jvm.Cond.selects "ParkingTariff" yX10_enter yX10_enter ∈ WS := ws_at 652 (by decide +kernel) rfl
theorem w_653 : Jvm.Cond.code yX10_enter prog_1_method_14_code 2 (Option.some Jvm.ClassFile.FieldType.int) ∈ WS := ws_at 653 (by decide +kernel) rfl
theorem w_654 : Jvm.Cond.methodLink "ParkingTariff" 156 yX1_admitCar ∈ WS := ws_at 654 (by decide +kernel) rfl
theorem w_655 : Jvm.Cond.instanceMethod yX1_admitCar ∈ WS := ws_at 655 (by decide +kernel) rfl
theorem w_656 : Jvm.Cond.selects "ParkingTariff$CarPark" yX1_admitCar yX1_admitCar ∈ WS := ws_at 656 (by decide +kernel) rfl
theorem w_657 : Jvm.Cond.code yX1_admitCar prog_3_method_11_code 4 (Option.some Jvm.ClassFile.FieldType.int) ∈ WS := ws_at 657 (by decide +kernel) rfl
theorem w_658 : Jvm.Cond.methodLink "ParkingTariff$CarPark" 100 yX1_bestLevel ∈ WS := ws_at 658 (by decide +kernel) rfl
theorem w_659 : Jvm.Cond.instanceMethod yX1_bestLevel ∈ WS := ws_at 659 (by decide +kernel) rfl
theorem w_660 : Jvm.Cond.selects "ParkingTariff$CarPark" yX1_bestLevel yX1_bestLevel ∈ WS := ws_at 660 (by decide +kernel) rfl
theorem w_661 : Jvm.Cond.code yX1_bestLevel prog_3_method_12_code 5 (Option.some Jvm.ClassFile.FieldType.int) ∈ WS := ws_at 661 (by decide +kernel) rfl
theorem w_662 : Jvm.Cond.methodLink "ParkingTariff$CarPark" 117 yX3_score ∈ WS := ws_at 662 (by decide +kernel) rfl
theorem w_663 : Jvm.Cond.instanceMethod yX3_score ∈ WS := ws_at 663 (by decide +kernel) rfl
theorem w_664 : Jvm.Cond.selects "ParkingTariff$Level" yX3_score yX3_score ∈ WS := ws_at 664 (by decide +kernel) rfl
theorem w_665 : Jvm.Cond.code yX3_score prog_5_method_5_code 1 (Option.some Jvm.ClassFile.FieldType.float) ∈ WS := ws_at 665 (by decide +kernel) rfl
theorem w_666 : Jvm.Cond.methodLink "ParkingTariff$Level" 36 yX3_freePlaces ∈ WS := ws_at 666 (by decide +kernel) rfl
theorem w_667 : Jvm.Cond.instanceMethod yX3_freePlaces ∈ WS := ws_at 667 (by decide +kernel) rfl
theorem w_668 : Jvm.Cond.selects "ParkingTariff$Level" yX3_freePlaces yX3_freePlaces ∈ WS := ws_at 668 (by decide +kernel) rfl
theorem w_669 : Jvm.Cond.code yX3_freePlaces prog_5_method_4_code 1 (Option.some Jvm.ClassFile.FieldType.int) ∈ WS := ws_at 669 (by decide +kernel) rfl
theorem w_670 : Jvm.Cond.constantFloat "ParkingTariff$Level" 40 (1056964608 : UInt32) ∈ WS := ws_at 670 (by decide +kernel) rfl
theorem w_671 : Jvm.Cond.methodLink "ParkingTariff$CarPark" 121 yX3_freePlaces ∈ WS := ws_at 671 (by decide +kernel) rfl
theorem w_672 : Jvm.Cond.methodLink "ParkingTariff$CarPark" 104 yX1_levelAt ∈ WS := ws_at 672 (by decide +kernel) rfl
theorem w_673 : Jvm.Cond.instanceMethod yX1_levelAt ∈ WS := ws_at 673 (by decide +kernel) rfl
theorem w_674 : Jvm.Cond.selects "ParkingTariff$CarPark" yX1_levelAt yX1_levelAt ∈ WS := ws_at 674 (by decide +kernel) rfl
theorem w_675 : Jvm.Cond.code yX1_levelAt prog_3_method_6_code 2 (Option.some (Jvm.ClassFile.FieldType.object "ParkingTariff$Level")) ∈ WS := ws_at 675 (by decide +kernel) rfl
theorem w_676 : Jvm.Cond.methodLink "ParkingTariff$CarPark" 108 yX1_carsInside ∈ WS := ws_at 676 (by decide +kernel) rfl
theorem w_677 : Jvm.Cond.instanceMethod yX1_carsInside ∈ WS := ws_at 677 (by decide +kernel) rfl
theorem w_678 : Jvm.Cond.selects "ParkingTariff$CarPark" yX1_carsInside yX1_carsInside ∈ WS := ws_at 678 (by decide +kernel) rfl
theorem w_679 : Jvm.Cond.code yX1_carsInside prog_3_method_21_code 1 (Option.some Jvm.ClassFile.FieldType.int) ∈ WS := ws_at 679 (by decide +kernel) rfl
theorem w_680 : Jvm.Cond.methodLink "ParkingTariff$CarPark" 193 yX1_carsLeft ∈ WS := ws_at 680 (by decide +kernel) rfl
theorem w_681 : Jvm.Cond.instanceMethod yX1_carsLeft ∈ WS := ws_at 681 (by decide +kernel) rfl
theorem w_682 : Jvm.Cond.selects "ParkingTariff$CarPark" yX1_carsLeft yX1_carsLeft ∈ WS := ws_at 682 (by decide +kernel) rfl
theorem w_683 : Jvm.Cond.code yX1_carsLeft prog_3_method_22_code 3 (Option.some Jvm.ClassFile.FieldType.int) ∈ WS := ws_at 683 (by decide +kernel) rfl
theorem w_684 : Jvm.Cond.methodLink "ParkingTariff$CarPark" 111 yX3_admitCar ∈ WS := ws_at 684 (by decide +kernel) rfl
theorem w_685 : Jvm.Cond.instanceMethod yX3_admitCar ∈ WS := ws_at 685 (by decide +kernel) rfl
theorem w_686 : Jvm.Cond.selects "ParkingTariff$Level" yX3_admitCar yX3_admitCar ∈ WS := ws_at 686 (by decide +kernel) rfl
theorem w_687 : Jvm.Cond.code yX3_admitCar prog_5_method_6_code 1 (Option.none : Option Jvm.ClassFile.FieldType) ∈ WS := ws_at 687 (by decide +kernel) rfl
theorem w_688 : Jvm.Cond.methodLink "ParkingTariff$CarPark" 114 yX8_begin ∈ WS := ws_at 688 (by decide +kernel) rfl
theorem w_689 : Jvm.Cond.instanceMethod yX8_begin ∈ WS := ws_at 689 (by decide +kernel) rfl
theorem w_690 : Jvm.Cond.selects "ParkingTariff$Ticket" yX8_begin yX8_begin ∈ WS := ws_at 690 (by decide +kernel) rfl
theorem w_691 : Jvm.Cond.code yX8_begin prog_10_method_2_code 4 (Option.none : Option Jvm.ClassFile.FieldType) ∈ WS := ws_at 691 (by decide +kernel) rfl
theorem w_692 : Jvm.Cond.methodLink "ParkingTariffLaw" 69 yX10_give ∈ WS := ws_at 692 (by decide +kernel) rfl
theorem w_693 : Jvm.Cond.instanceMethod yX10_give ∈ WS := ws_at 693 (by decide +kernel) rfl
theorem w_694 : Jvm.Cond.selects "ParkingTariff" yX10_give yX10_give ∈ WS := ws_at 694 (by decide +kernel) rfl
theorem w_695 : Jvm.Cond.code yX10_give prog_1_method_15_code 7 (Option.some Jvm.ClassFile.FieldType.int) ∈ WS := ws_at 695 (by decide +kernel) rfl
theorem w_696 : Jvm.Cond.methodLink "ParkingTariff" 159 yX1_ticketInside ∈ WS := ws_at 696 (by decide +kernel) rfl
theorem w_697 : Jvm.Cond.instanceMethod yX1_ticketInside ∈ WS := ws_at 697 (by decide +kernel) rfl
theorem w_698 : Jvm.Cond.selects "ParkingTariff$CarPark" yX1_ticketInside yX1_ticketInside ∈ WS := ws_at 698 (by decide +kernel) rfl
theorem w_699 : Jvm.Cond.code yX1_ticketInside prog_3_method_8_code 3 (Option.some (Jvm.ClassFile.FieldType.object "ParkingTariff$Ticket")) ∈ WS := ws_at 699 (by decide +kernel) rfl
theorem w_700 : Jvm.Cond.methodLink "ParkingTariff$CarPark" 80 yX1_ticketAt ∈ WS := ws_at 700 (by decide +kernel) rfl
theorem w_701 : Jvm.Cond.instanceMethod yX1_ticketAt ∈ WS := ws_at 701 (by decide +kernel) rfl
theorem w_702 : Jvm.Cond.selects "ParkingTariff$CarPark" yX1_ticketAt yX1_ticketAt ∈ WS := ws_at 702 (by decide +kernel) rfl
theorem w_703 : Jvm.Cond.code yX1_ticketAt prog_3_method_7_code 3 (Option.some (Jvm.ClassFile.FieldType.object "ParkingTariff$Ticket")) ∈ WS := ws_at 703 (by decide +kernel) rfl
theorem w_704 : Jvm.Cond.methodLink "ParkingTariff" 169 yX8_hasRoomForVoucher ∈ WS := ws_at 704 (by decide +kernel) rfl
theorem w_705 : Jvm.Cond.instanceMethod yX8_hasRoomForVoucher ∈ WS := ws_at 705 (by decide +kernel) rfl
theorem w_706 : Jvm.Cond.selects "ParkingTariff$Ticket" yX8_hasRoomForVoucher yX8_hasRoomForVoucher ∈ WS := ws_at 706 (by decide +kernel) rfl
theorem w_707 : Jvm.Cond.code yX8_hasRoomForVoucher prog_10_method_5_code 1 (Option.some Jvm.ClassFile.FieldType.boolean) ∈ WS := ws_at 707 (by decide +kernel) rfl
theorem w_708 : Jvm.Cond.methodLink "ParkingTariff" 172 yX8_addVoucherNumber ∈ WS := ws_at 708 (by decide +kernel) rfl
theorem w_709 : Jvm.Cond.instanceMethod yX8_addVoucherNumber ∈ WS := ws_at 709 (by decide +kernel) rfl
theorem w_710 : Jvm.Cond.selects "ParkingTariff$Ticket" yX8_addVoucherNumber yX8_addVoucherNumber ∈ WS := ws_at 710 (by decide +kernel) rfl
theorem w_711 : Jvm.Cond.code yX8_addVoucherNumber prog_10_method_6_code 2 (Option.none : Option Jvm.ClassFile.FieldType) ∈ WS := ws_at 711 (by decide +kernel) rfl
theorem w_712 : Jvm.Cond.methodLink "ParkingTariff$Ticket" 45 yX8_hasRoomForVoucher ∈ WS := ws_at 712 (by decide +kernel) rfl
theorem w_713 : Jvm.Cond.methodLink "ParkingTariffLaw" 73 yX10_lose ∈ WS := ws_at 713 (by decide +kernel) rfl
theorem w_714 : Jvm.Cond.instanceMethod yX10_lose ∈ WS := ws_at 714 (by decide +kernel) rfl
theorem w_715 : Jvm.Cond.selects "ParkingTariff" yX10_lose yX10_lose ∈ WS := ws_at 715 (by decide +kernel) rfl
theorem w_716 : Jvm.Cond.code yX10_lose prog_1_method_16_code 3 (Option.some Jvm.ClassFile.FieldType.int) ∈ WS := ws_at 716 (by decide +kernel) rfl
theorem w_717 : Jvm.Cond.methodLink "ParkingTariff" 185 yX1_dueAmount ∈ WS := ws_at 717 (by decide +kernel) rfl
theorem w_718 : Jvm.Cond.instanceMethod yX1_dueAmount ∈ WS := ws_at 718 (by decide +kernel) rfl
theorem w_719 : Jvm.Cond.selects "ParkingTariff$CarPark" yX1_dueAmount yX1_dueAmount ∈ WS := ws_at 719 (by decide +kernel) rfl
theorem w_720 : Jvm.Cond.code yX1_dueAmount prog_3_method_14_code 4 (Option.some Jvm.ClassFile.FieldType.int) ∈ WS := ws_at 720 (by decide +kernel) rfl
theorem w_721 : Jvm.Cond.methodLink "ParkingTariff$CarPark" 133 yX1_amountOfLost ∈ WS := ws_at 721 (by decide +kernel) rfl
theorem w_722 : Jvm.Cond.instanceMethod yX1_amountOfLost ∈ WS := ws_at 722 (by decide +kernel) rfl
theorem w_723 : Jvm.Cond.selects "ParkingTariff$CarPark" yX1_amountOfLost yX1_amountOfLost ∈ WS := ws_at 723 (by decide +kernel) rfl
theorem w_724 : Jvm.Cond.code yX1_amountOfLost prog_3_method_15_code 4 (Option.some Jvm.ClassFile.FieldType.int) ∈ WS := ws_at 724 (by decide +kernel) rfl
theorem w_725 : Jvm.Cond.methodLink "ParkingTariff$CarPark" 153 yX1_planAt ∈ WS := ws_at 725 (by decide +kernel) rfl
theorem w_726 : Jvm.Cond.methodLink "ParkingTariff$CarPark" 163 yX5_feeOfStay ∈ WS := ws_at 726 (by decide +kernel) rfl
theorem w_727 : Jvm.Cond.methodLink "ParkingTariff$CarPark" 144 yJ9_max_7cf53 ∈ WS := ws_at 727 (by decide +kernel) rfl
theorem w_728 : Jvm.Cond.methodLink "ParkingTariff$CarPark" 137 yX1_amountAfter ∈ WS := ws_at 728 (by decide +kernel) rfl
theorem w_729 : Jvm.Cond.instanceMethod yX1_amountAfter ∈ WS := ws_at 729 (by decide +kernel) rfl
theorem w_730 : Jvm.Cond.selects "ParkingTariff$CarPark" yX1_amountAfter yX1_amountAfter ∈ WS := ws_at 730 (by decide +kernel) rfl
theorem w_731 : Jvm.Cond.code yX1_amountAfter prog_3_method_16_code 8 (Option.some Jvm.ClassFile.FieldType.int) ∈ WS := ws_at 731 (by decide +kernel) rfl
theorem w_732 : Jvm.Cond.methodLink "ParkingTariff$CarPark" 166 yX1_feeOfShortenedStay ∈ WS := ws_at 732 (by decide +kernel) rfl
theorem w_733 : Jvm.Cond.instanceMethod yX1_feeOfShortenedStay ∈ WS := ws_at 733 (by decide +kernel) rfl
theorem w_734 : Jvm.Cond.selects "ParkingTariff$CarPark" yX1_feeOfShortenedStay yX1_feeOfShortenedStay ∈ WS := ws_at 734 (by decide +kernel) rfl
theorem w_735 : Jvm.Cond.code yX1_feeOfShortenedStay prog_3_method_17_code 5 (Option.some Jvm.ClassFile.FieldType.int) ∈ WS := ws_at 735 (by decide +kernel) rfl
theorem w_736 : Jvm.Cond.methodLink "ParkingTariff$CarPark" 183 yX1_minutesGiven ∈ WS := ws_at 736 (by decide +kernel) rfl
theorem w_737 : Jvm.Cond.instanceMethod yX1_minutesGiven ∈ WS := ws_at 737 (by decide +kernel) rfl
theorem w_738 : Jvm.Cond.selects "ParkingTariff$CarPark" yX1_minutesGiven yX1_minutesGiven ∈ WS := ws_at 738 (by decide +kernel) rfl
theorem w_739 : Jvm.Cond.code yX1_minutesGiven prog_3_method_18_code 5 (Option.some Jvm.ClassFile.FieldType.int) ∈ WS := ws_at 739 (by decide +kernel) rfl
theorem w_740 : Jvm.Cond.methodLink "ParkingTariff$CarPark" 170 yX8_voucherNumber ∈ WS := ws_at 740 (by decide +kernel) rfl
theorem w_741 : Jvm.Cond.instanceMethod yX8_voucherNumber ∈ WS := ws_at 741 (by decide +kernel) rfl
theorem w_742 : Jvm.Cond.selects "ParkingTariff$Ticket" yX8_voucherNumber yX8_voucherNumber ∈ WS := ws_at 742 (by decide +kernel) rfl
theorem w_743 : Jvm.Cond.code yX8_voucherNumber prog_10_method_7_code 2 (Option.some Jvm.ClassFile.FieldType.int) ∈ WS := ws_at 743 (by decide +kernel) rfl
theorem w_745 : Jvm.Cond.methodLink "ParkingTariff$CarPark" 173 yX1_voucherAt ∈ WS := ws_at 745 (by decide +kernel) rfl
theorem w_746 : Jvm.Cond.methodLink "ParkingTariff$CarPark" 180 yX9_reduce ∈ WS := ws_at 746 (by decide +kernel) rfl
theorem w_747 : Jvm.Cond.instanceMethod yX9_reduce ∈ WS := ws_at 747 (by decide +kernel) rfl
theorem w_748 : Jvm.Cond.selects "ParkingTariff$Voucher" yX9_reduce yX9_reduce ∈ WS := ws_at 748 (by decide +kernel) rfl
theorem w_749 : Jvm.Cond.code yX9_reduce prog_11_method_5_code 2 (Option.some Jvm.ClassFile.FieldType.int) ∈ WS := ws_at 749 (by decide +kernel) rfl
theorem w_750 : Jvm.Cond.methodLink "ParkingTariff$Voucher" 21 yJ9_max_7cf53 ∈ WS := ws_at 750 (by decide +kernel) rfl
theorem w_751 : Jvm.Cond.methodLink "ParkingTariff$Voucher" 27 yJ9_min_7cf53 ∈ WS := ws_at 751 (by decide +kernel) rfl
theorem w_752 : Jvm.Cond.methodLink "ParkingTariffLaw" 77 yX10_due ∈ WS := ws_at 752 (by decide +kernel) rfl
theorem w_753 : Jvm.Cond.instanceMethod yX10_due ∈ WS := ws_at 753 (by decide +kernel) rfl
theorem w_754 : Jvm.Cond.selects "ParkingTariff" yX10_due yX10_due ∈ WS := ws_at 754 (by decide +kernel) rfl
theorem w_755 : Jvm.Cond.code yX10_due prog_1_method_17_code 4 (Option.some Jvm.ClassFile.FieldType.int) ∈ WS := ws_at 755 (by decide +kernel) rfl
theorem w_756 : Jvm.Cond.methodLink "ParkingTariffLaw" 81 yX10_pay ∈ WS := ws_at 756 (by decide +kernel) rfl
theorem w_757 : Jvm.Cond.instanceMethod yX10_pay ∈ WS := ws_at 757 (by decide +kernel) rfl
theorem w_758 : Jvm.Cond.selects "ParkingTariff" yX10_pay yX10_pay ∈ WS := ws_at 758 (by decide +kernel) rfl
theorem w_759 : Jvm.Cond.code yX10_pay prog_1_method_18_code 4 (Option.some Jvm.ClassFile.FieldType.int) ∈ WS := ws_at 759 (by decide +kernel) rfl
theorem w_760 : Jvm.Cond.methodLink "ParkingTariff" 189 yX8_takePayment ∈ WS := ws_at 760 (by decide +kernel) rfl
theorem w_761 : Jvm.Cond.instanceMethod yX8_takePayment ∈ WS := ws_at 761 (by decide +kernel) rfl
theorem w_762 : Jvm.Cond.selects "ParkingTariff$Ticket" yX8_takePayment yX8_takePayment ∈ WS := ws_at 762 (by decide +kernel) rfl
theorem w_763 : Jvm.Cond.code yX8_takePayment prog_10_method_8_code 3 (Option.none : Option Jvm.ClassFile.FieldType) ∈ WS := ws_at 763 (by decide +kernel) rfl
theorem w_764 : Jvm.Cond.methodLink "ParkingTariffLaw" 85 yX10_leave ∈ WS := ws_at 764 (by decide +kernel) rfl
theorem w_765 : Jvm.Cond.instanceMethod yX10_leave ∈ WS := ws_at 765 (by decide +kernel) rfl
theorem w_766 : Jvm.Cond.selects "ParkingTariff" yX10_leave yX10_leave ∈ WS := ws_at 766 (by decide +kernel) rfl
theorem w_767 : Jvm.Cond.code yX10_leave prog_1_method_19_code 4 (Option.some Jvm.ClassFile.FieldType.int) ∈ WS := ws_at 767 (by decide +kernel) rfl
theorem w_768 : Jvm.Cond.methodLink "ParkingTariff" 192 yX8_paidWithin ∈ WS := ws_at 768 (by decide +kernel) rfl
theorem w_769 : Jvm.Cond.instanceMethod yX8_paidWithin ∈ WS := ws_at 769 (by decide +kernel) rfl
theorem w_770 : Jvm.Cond.selects "ParkingTariff$Ticket" yX8_paidWithin yX8_paidWithin ∈ WS := ws_at 770 (by decide +kernel) rfl
theorem w_771 : Jvm.Cond.code yX8_paidWithin prog_10_method_9_code 3 (Option.some Jvm.ClassFile.FieldType.boolean) ∈ WS := ws_at 771 (by decide +kernel) rfl
theorem w_772 : Jvm.Cond.methodLink "ParkingTariff" 195 yX1_releaseCar ∈ WS := ws_at 772 (by decide +kernel) rfl
theorem w_773 : Jvm.Cond.instanceMethod yX1_releaseCar ∈ WS := ws_at 773 (by decide +kernel) rfl
theorem w_774 : Jvm.Cond.selects "ParkingTariff$CarPark" yX1_releaseCar yX1_releaseCar ∈ WS := ws_at 774 (by decide +kernel) rfl
theorem w_775 : Jvm.Cond.code yX1_releaseCar prog_3_method_13_code 3 (Option.none : Option Jvm.ClassFile.FieldType) ∈ WS := ws_at 775 (by decide +kernel) rfl
theorem w_776 : Jvm.Cond.methodLink "ParkingTariff$CarPark" 127 yX3_releaseCar ∈ WS := ws_at 776 (by decide +kernel) rfl
theorem w_777 : Jvm.Cond.instanceMethod yX3_releaseCar ∈ WS := ws_at 777 (by decide +kernel) rfl
theorem w_778 : Jvm.Cond.selects "ParkingTariff$Level" yX3_releaseCar yX3_releaseCar ∈ WS := ws_at 778 (by decide +kernel) rfl
theorem w_779 : Jvm.Cond.code yX3_releaseCar prog_5_method_7_code 1 (Option.none : Option Jvm.ClassFile.FieldType) ∈ WS := ws_at 779 (by decide +kernel) rfl
theorem w_780 : Jvm.Cond.methodLink "ParkingTariffLaw" 89 yX10_ticket ∈ WS := ws_at 780 (by decide +kernel) rfl
theorem w_781 : Jvm.Cond.instanceMethod yX10_ticket ∈ WS := ws_at 781 (by decide +kernel) rfl
theorem w_782 : Jvm.Cond.selects "ParkingTariff" yX10_ticket yX10_ticket ∈ WS := ws_at 782 (by decide +kernel) rfl
theorem w_783 : Jvm.Cond.code yX10_ticket prog_1_method_20_code 4 (Option.some Jvm.ClassFile.FieldType.int) ∈ WS := ws_at 783 (by decide +kernel) rfl
theorem w_784 : Jvm.Cond.methodLink "ParkingTariff" 202 yX1_ticketAt ∈ WS := ws_at 784 (by decide +kernel) rfl
theorem w_785 : Jvm.Cond.methodLink "ParkingTariff" 205 yX8_property ∈ WS := ws_at 785 (by decide +kernel) rfl
theorem w_786 : Jvm.Cond.instanceMethod yX8_property ∈ WS := ws_at 786 (by decide +kernel) rfl
theorem w_787 : Jvm.Cond.selects "ParkingTariff$Ticket" yX8_property yX8_property ∈ WS := ws_at 787 (by decide +kernel) rfl
theorem w_788 : Jvm.Cond.code yX8_property prog_10_method_4_code 2 (Option.some Jvm.ClassFile.FieldType.int) ∈ WS := ws_at 788 (by decide +kernel) rfl
theorem w_789 : Jvm.Cond.methodLink "ParkingTariffLaw" 93 yX10_step ∈ WS := ws_at 789 (by decide +kernel) rfl
theorem w_790 : Jvm.Cond.instanceMethod yX10_step ∈ WS := ws_at 790 (by decide +kernel) rfl
theorem w_791 : Jvm.Cond.selects "ParkingTariff" yX10_step yX10_step ∈ WS := ws_at 791 (by decide +kernel) rfl
theorem w_792 : Jvm.Cond.code yX10_step prog_1_method_21_code 4 (Option.some Jvm.ClassFile.FieldType.int) ∈ WS := ws_at 792 (by decide +kernel) rfl
theorem w_793 : Jvm.Cond.methodLink "ParkingTariff" 206 yX1_lastStep ∈ WS := ws_at 793 (by decide +kernel) rfl
theorem w_794 : Jvm.Cond.instanceMethod yX1_lastStep ∈ WS := ws_at 794 (by decide +kernel) rfl
theorem w_795 : Jvm.Cond.selects "ParkingTariff$CarPark" yX1_lastStep yX1_lastStep ∈ WS := ws_at 795 (by decide +kernel) rfl
theorem w_796 : Jvm.Cond.code yX1_lastStep prog_3_method_19_code 5 (Option.some Jvm.ClassFile.FieldType.int) ∈ WS := ws_at 796 (by decide +kernel) rfl
theorem w_797 : Jvm.Cond.methodLink "ParkingTariff" 210 yX1_amountAfter ∈ WS := ws_at 797 (by decide +kernel) rfl
theorem w_798 : Jvm.Cond.methodLink "ParkingTariffLaw" 97 yX10_advance ∈ WS := ws_at 798 (by decide +kernel) rfl
theorem w_799 : Jvm.Cond.instanceMethod yX10_advance ∈ WS := ws_at 799 (by decide +kernel) rfl
theorem w_800 : Jvm.Cond.selects "ParkingTariff" yX10_advance yX10_advance ∈ WS := ws_at 800 (by decide +kernel) rfl
theorem w_801 : Jvm.Cond.code yX10_advance prog_1_method_22_code 2 (Option.some Jvm.ClassFile.FieldType.int) ∈ WS := ws_at 801 (by decide +kernel) rfl
theorem w_802 : Jvm.Cond.methodLink "ParkingTariff" 214 yX1_moveClock ∈ WS := ws_at 802 (by decide +kernel) rfl
theorem w_803 : Jvm.Cond.instanceMethod yX1_moveClock ∈ WS := ws_at 803 (by decide +kernel) rfl
theorem w_804 : Jvm.Cond.selects "ParkingTariff$CarPark" yX1_moveClock yX1_moveClock ∈ WS := ws_at 804 (by decide +kernel) rfl
theorem w_805 : Jvm.Cond.code yX1_moveClock prog_3_method_20_code 8 (Option.none : Option Jvm.ClassFile.FieldType) ∈ WS := ws_at 805 (by decide +kernel) rfl
theorem w_806 : Jvm.Cond.methodLink "ParkingTariff$CarPark" 190 yX3_passHour ∈ WS := ws_at 806 (by decide +kernel) rfl
theorem w_807 : Jvm.Cond.instanceMethod yX3_passHour ∈ WS := ws_at 807 (by decide +kernel) rfl
theorem w_808 : Jvm.Cond.selects "ParkingTariff$Level" yX3_passHour yX3_passHour ∈ WS := ws_at 808 (by decide +kernel) rfl
theorem w_809 : Jvm.Cond.code yX3_passHour prog_5_method_8_code 1 (Option.none : Option Jvm.ClassFile.FieldType) ∈ WS := ws_at 809 (by decide +kernel) rfl
theorem w_810 : Jvm.Cond.constantFloat "ParkingTariff$Level" 41 (1061158912 : UInt32) ∈ WS := ws_at 810 (by decide +kernel) rfl
theorem w_811 : Jvm.Cond.constantFloat "ParkingTariff$Level" 42 (1048576000 : UInt32) ∈ WS := ws_at 811 (by decide +kernel) rfl
theorem w_812 : Jvm.Cond.methodLink "ParkingTariffLaw" 101 yX10_setCapacity ∈ WS := ws_at 812 (by decide +kernel) rfl
theorem w_813 : Jvm.Cond.instanceMethod yX10_setCapacity ∈ WS := ws_at 813 (by decide +kernel) rfl
theorem w_814 : Jvm.Cond.selects "ParkingTariff" yX10_setCapacity yX10_setCapacity ∈ WS := ws_at 814 (by decide +kernel) rfl
theorem w_815 : Jvm.Cond.code yX10_setCapacity prog_1_method_23_code 5 (Option.some Jvm.ClassFile.FieldType.int) ∈ WS := ws_at 815 (by decide +kernel) rfl
theorem w_816 : Jvm.Cond.methodLink "ParkingTariff" 217 yX1_levelAt ∈ WS := ws_at 816 (by decide +kernel) rfl
theorem w_817 : Jvm.Cond.methodLink "ParkingTariffLaw" 105 yX10_level ∈ WS := ws_at 817 (by decide +kernel) rfl
theorem w_818 : Jvm.Cond.instanceMethod yX10_level ∈ WS := ws_at 818 (by decide +kernel) rfl
theorem w_819 : Jvm.Cond.selects "ParkingTariff" yX10_level yX10_level ∈ WS := ws_at 819 (by decide +kernel) rfl
theorem w_820 : Jvm.Cond.code yX10_level prog_1_method_24_code 4 (Option.some Jvm.ClassFile.FieldType.int) ∈ WS := ws_at 820 (by decide +kernel) rfl
theorem w_821 : Jvm.Cond.methodLink "ParkingTariff" 229 yX3_property ∈ WS := ws_at 821 (by decide +kernel) rfl
theorem w_822 : Jvm.Cond.instanceMethod yX3_property ∈ WS := ws_at 822 (by decide +kernel) rfl
theorem w_823 : Jvm.Cond.selects "ParkingTariff$Level" yX3_property yX3_property ∈ WS := ws_at 823 (by decide +kernel) rfl
theorem w_824 : Jvm.Cond.code yX3_property prog_5_method_3_code 2 (Option.some Jvm.ClassFile.FieldType.int) ∈ WS := ws_at 824 (by decide +kernel) rfl
theorem w_826 : Jvm.Cond.static yX10_bitsOf ∈ WS := ws_at 826 (by decide +kernel) rfl
theorem w_827 : Jvm.Cond.code yX10_bitsOf prog_1_method_34_code 3 (Option.some Jvm.ClassFile.FieldType.int) ∈ WS := ws_at 827 (by decide +kernel) rfl
theorem w_828 : Jvm.Cond.constantFloat "ParkingTariff" 271 (1056964608 : UInt32) ∈ WS := ws_at 828 (by decide +kernel) rfl
theorem w_829 : Jvm.Cond.constantFloat "ParkingTariff" 272 (1258291200 : UInt32) ∈ WS := ws_at 829 (by decide +kernel) rfl
theorem w_830 : Jvm.Cond.methodLink "ParkingTariff$Level" 32 yX3_score ∈ WS := ws_at 830 (by decide +kernel) rfl
theorem w_831 : Jvm.Cond.methodLink "ParkingTariffLaw" 109 yX10_forecast ∈ WS := ws_at 831 (by decide +kernel) rfl
theorem w_832 : Jvm.Cond.instanceMethod yX10_forecast ∈ WS := ws_at 832 (by decide +kernel) rfl
theorem w_833 : Jvm.Cond.selects "ParkingTariff" yX10_forecast yX10_forecast ∈ WS := ws_at 833 (by decide +kernel) rfl
theorem w_834 : Jvm.Cond.code yX10_forecast prog_1_method_25_code 4 (Option.some Jvm.ClassFile.FieldType.int) ∈ WS := ws_at 834 (by decide +kernel) rfl
theorem w_835 : Jvm.Cond.methodLink "ParkingTariff" 230 yX3_carsAfter ∈ WS := ws_at 835 (by decide +kernel) rfl
theorem w_836 : Jvm.Cond.instanceMethod yX3_carsAfter ∈ WS := ws_at 836 (by decide +kernel) rfl
theorem w_837 : Jvm.Cond.selects "ParkingTariff$Level" yX3_carsAfter yX3_carsAfter ∈ WS := ws_at 837 (by decide +kernel) rfl
theorem w_838 : Jvm.Cond.code yX3_carsAfter prog_5_method_9_code 2 (Option.some Jvm.ClassFile.FieldType.int) ∈ WS := ws_at 838 (by decide +kernel) rfl
theorem w_839 : Jvm.Cond.constantFloat "ParkingTariff$Level" 43 (1114636288 : UInt32) ∈ WS := ws_at 839 (by decide +kernel) rfl
theorem w_840 : Jvm.Cond.methodLink "ParkingTariff$Level" 44 yJ9_max_7cf53 ∈ WS := ws_at 840 (by decide +kernel) rfl
theorem w_841 : Jvm.Cond.methodLink "ParkingTariffLaw" 113 yX10_count ∈ WS := ws_at 841 (by decide +kernel) rfl
theorem w_842 : Jvm.Cond.instanceMethod yX10_count ∈ WS := ws_at 842 (by decide +kernel) rfl
theorem w_843 : Jvm.Cond.selects "ParkingTariff" yX10_count yX10_count ∈ WS := ws_at 843 (by decide +kernel) rfl
theorem w_844 : Jvm.Cond.code yX10_count prog_1_method_26_code 2 (Option.some Jvm.ClassFile.FieldType.int) ∈ WS := ws_at 844 (by decide +kernel) rfl
theorem w_845 : Jvm.Cond.methodLink "ParkingTariff" 236 yX1_carsLeft ∈ WS := ws_at 845 (by decide +kernel) rfl
theorem w_846 : Jvm.Cond.methodLink "ParkingTariff" 239 yX1_carsInside ∈ WS := ws_at 846 (by decide +kernel) rfl
theorem w_847 : Jvm.Cond.methodLink "ParkingTariff" 242 yX1_paidAltogether ∈ WS := ws_at 847 (by decide +kernel) rfl
theorem w_848 : Jvm.Cond.instanceMethod yX1_paidAltogether ∈ WS := ws_at 848 (by decide +kernel) rfl
theorem w_849 : Jvm.Cond.selects "ParkingTariff$CarPark" yX1_paidAltogether yX1_paidAltogether ∈ WS := ws_at 849 (by decide +kernel) rfl
theorem w_850 : Jvm.Cond.code yX1_paidAltogether prog_3_method_25_code 3 (Option.some Jvm.ClassFile.FieldType.int) ∈ WS := ws_at 850 (by decide +kernel) rfl
theorem w_851 : Jvm.Cond.methodLink "ParkingTariff$CarPark" 196 yX1_paidByPlan ∈ WS := ws_at 851 (by decide +kernel) rfl
theorem w_852 : Jvm.Cond.instanceMethod yX1_paidByPlan ∈ WS := ws_at 852 (by decide +kernel) rfl
theorem w_853 : Jvm.Cond.selects "ParkingTariff$CarPark" yX1_paidByPlan yX1_paidByPlan ∈ WS := ws_at 853 (by decide +kernel) rfl
theorem w_854 : Jvm.Cond.code yX1_paidByPlan prog_3_method_24_code 4 (Option.some Jvm.ClassFile.FieldType.int) ∈ WS := ws_at 854 (by decide +kernel) rfl
theorem w_855 : Jvm.Cond.methodLink "ParkingTariff" 245 yX1_paidByPlan ∈ WS := ws_at 855 (by decide +kernel) rfl
theorem w_856 : Jvm.Cond.methodLink "ParkingTariff" 248 yX1_lostTickets ∈ WS := ws_at 856 (by decide +kernel) rfl
theorem w_857 : Jvm.Cond.instanceMethod yX1_lostTickets ∈ WS := ws_at 857 (by decide +kernel) rfl
theorem w_858 : Jvm.Cond.selects "ParkingTariff$CarPark" yX1_lostTickets yX1_lostTickets ∈ WS := ws_at 858 (by decide +kernel) rfl
theorem w_859 : Jvm.Cond.code yX1_lostTickets prog_3_method_23_code 3 (Option.some Jvm.ClassFile.FieldType.int) ∈ WS := ws_at 859 (by decide +kernel) rfl
theorem w_860 : Jvm.Cond.methodLink "ParkingTariffLaw" 117 yX10_reportLevels ∈ WS := ws_at 860 (by decide +kernel) rfl
theorem w_861 : Jvm.Cond.instanceMethod yX10_reportLevels ∈ WS := ws_at 861 (by decide +kernel) rfl
theorem w_862 : Jvm.Cond.selects "ParkingTariff" yX10_reportLevels yX10_reportLevels ∈ WS := ws_at 862 (by decide +kernel) rfl
theorem w_863 : Jvm.Cond.code yX10_reportLevels prog_1_method_27_code 1 (Option.some Jvm.ClassFile.FieldType.int) ∈ WS := ws_at 863 (by decide +kernel) rfl
theorem w_864 : Jvm.Cond.methodLink "ParkingTariffLaw" 122 yX10_reportCode ∈ WS := ws_at 864 (by decide +kernel) rfl
theorem w_865 : Jvm.Cond.instanceMethod yX10_reportCode ∈ WS := ws_at 865 (by decide +kernel) rfl
theorem w_866 : Jvm.Cond.selects "ParkingTariff" yX10_reportCode yX10_reportCode ∈ WS := ws_at 866 (by decide +kernel) rfl
theorem w_867 : Jvm.Cond.code yX10_reportCode prog_1_method_28_code 2 (Option.some Jvm.ClassFile.FieldType.int) ∈ WS := ws_at 867 (by decide +kernel) rfl
theorem w_868 : Jvm.Cond.methodLink "ParkingTariff" 255 yX7_hasLevel ∈ WS := ws_at 868 (by decide +kernel) rfl
theorem w_869 : Jvm.Cond.instanceMethod yX7_hasLevel ∈ WS := ws_at 869 (by decide +kernel) rfl
theorem w_870 : Jvm.Cond.selects "ParkingTariff$Report" yX7_hasLevel yX7_hasLevel ∈ WS := ws_at 870 (by decide +kernel) rfl
theorem w_871 : Jvm.Cond.code yX7_hasLevel prog_9_method_2_code 2 (Option.some Jvm.ClassFile.FieldType.boolean) ∈ WS := ws_at 871 (by decide +kernel) rfl
theorem w_873 : Jvm.Cond.methodLink "ParkingTariffLaw" 126 yX10_reportNumber ∈ WS := ws_at 873 (by decide +kernel) rfl
theorem w_874 : Jvm.Cond.instanceMethod yX10_reportNumber ∈ WS := ws_at 874 (by decide +kernel) rfl
theorem w_875 : Jvm.Cond.selects "ParkingTariff" yX10_reportNumber yX10_reportNumber ∈ WS := ws_at 875 (by decide +kernel) rfl
theorem w_876 : Jvm.Cond.code yX10_reportNumber prog_1_method_29_code 2 (Option.some Jvm.ClassFile.FieldType.int) ∈ WS := ws_at 876 (by decide +kernel) rfl
theorem w_877 : Jvm.Cond.methodLink "ParkingTariffLaw" 130 yX10_save ∈ WS := ws_at 877 (by decide +kernel) rfl
theorem w_878 : Jvm.Cond.instanceMethod yX10_save ∈ WS := ws_at 878 (by decide +kernel) rfl
theorem w_879 : Jvm.Cond.selects "ParkingTariff" yX10_save yX10_save ∈ WS := ws_at 879 (by decide +kernel) rfl
theorem w_880 : Jvm.Cond.code yX10_save prog_1_method_30_code 1 (Option.some Jvm.ClassFile.FieldType.int) ∈ WS := ws_at 880 (by decide +kernel) rfl
theorem w_881 : Jvm.Cond.methodLink "ParkingTariff" 265 yX1_copyFrom ∈ WS := ws_at 881 (by decide +kernel) rfl
theorem w_882 : Jvm.Cond.instanceMethod yX1_copyFrom ∈ WS := ws_at 882 (by decide +kernel) rfl
theorem w_883 : Jvm.Cond.selects "ParkingTariff$CarPark" yX1_copyFrom yX1_copyFrom ∈ WS := ws_at 883 (by decide +kernel) rfl
theorem w_884 : Jvm.Cond.code yX1_copyFrom prog_3_method_2_code 3 (Option.none : Option Jvm.ClassFile.FieldType) ∈ WS := ws_at 884 (by decide +kernel) rfl
theorem w_885 : Jvm.Cond.methodLink "ParkingTariff$CarPark" 46 yX5_copyFrom ∈ WS := ws_at 885 (by decide +kernel) rfl
theorem w_886 : Jvm.Cond.methodLink "ParkingTariff$CarPark" 50 yX9_copyFrom ∈ WS := ws_at 886 (by decide +kernel) rfl
theorem w_887 : Jvm.Cond.instanceMethod yX9_copyFrom ∈ WS := ws_at 887 (by decide +kernel) rfl
theorem w_888 : Jvm.Cond.selects "ParkingTariff$Voucher" yX9_copyFrom yX9_copyFrom ∈ WS := ws_at 888 (by decide +kernel) rfl
theorem w_889 : Jvm.Cond.code yX9_copyFrom prog_11_method_3_code 2 (Option.none : Option Jvm.ClassFile.FieldType) ∈ WS := ws_at 889 (by decide +kernel) rfl
theorem w_890 : Jvm.Cond.methodLink "ParkingTariff$CarPark" 53 yX2_copyFrom ∈ WS := ws_at 890 (by decide +kernel) rfl
theorem w_891 : Jvm.Cond.instanceMethod yX2_copyFrom ∈ WS := ws_at 891 (by decide +kernel) rfl
theorem w_892 : Jvm.Cond.selects "ParkingTariff$Folder" yX2_copyFrom yX2_copyFrom ∈ WS := ws_at 892 (by decide +kernel) rfl
theorem w_893 : Jvm.Cond.code yX2_copyFrom prog_4_method_4_code 3 (Option.none : Option Jvm.ClassFile.FieldType) ∈ WS := ws_at 893 (by decide +kernel) rfl
theorem w_894 : Jvm.Cond.methodLink "ParkingTariff$CarPark" 56 yX3_copyFrom ∈ WS := ws_at 894 (by decide +kernel) rfl
theorem w_895 : Jvm.Cond.instanceMethod yX3_copyFrom ∈ WS := ws_at 895 (by decide +kernel) rfl
theorem w_896 : Jvm.Cond.selects "ParkingTariff$Level" yX3_copyFrom yX3_copyFrom ∈ WS := ws_at 896 (by decide +kernel) rfl
theorem w_897 : Jvm.Cond.code yX3_copyFrom prog_5_method_2_code 2 (Option.none : Option Jvm.ClassFile.FieldType) ∈ WS := ws_at 897 (by decide +kernel) rfl
theorem w_898 : Jvm.Cond.methodLink "ParkingTariff$CarPark" 63 yX8_copyFrom ∈ WS := ws_at 898 (by decide +kernel) rfl
theorem w_899 : Jvm.Cond.instanceMethod yX8_copyFrom ∈ WS := ws_at 899 (by decide +kernel) rfl
theorem w_900 : Jvm.Cond.selects "ParkingTariff$Ticket" yX8_copyFrom yX8_copyFrom ∈ WS := ws_at 900 (by decide +kernel) rfl
theorem w_901 : Jvm.Cond.code yX8_copyFrom prog_10_method_3_code 3 (Option.none : Option Jvm.ClassFile.FieldType) ∈ WS := ws_at 901 (by decide +kernel) rfl
theorem w_902 : Jvm.Cond.methodLink "ParkingTariff$Ticket" 41 yX8_begin ∈ WS := ws_at 902 (by decide +kernel) rfl
theorem w_903 : Jvm.Cond.methodLink "ParkingTariffLaw" 134 yX10_restore ∈ WS := ws_at 903 (by decide +kernel) rfl
theorem w_904 : Jvm.Cond.instanceMethod yX10_restore ∈ WS := ws_at 904 (by decide +kernel) rfl
theorem w_905 : Jvm.Cond.selects "ParkingTariff" yX10_restore yX10_restore ∈ WS := ws_at 905 (by decide +kernel) rfl
theorem w_906 : Jvm.Cond.code yX10_restore prog_1_method_31_code 1 (Option.some Jvm.ClassFile.FieldType.int) ∈ WS := ws_at 906 (by decide +kernel) rfl
theorem w_907 : Jvm.Cond.classLink "ParkingTariffLaw" 10 "ParkingTariffModel" ∈ WS := ws_at 907 (by decide +kernel) rfl
theorem w_908 : Jvm.Cond.instantiable "ParkingTariffModel" 21 ∈ WS := ws_at 908 (by decide +kernel) rfl
theorem w_909 : Jvm.Cond.methodLink "ParkingTariffLaw" 12 yX11_init ∈ WS := ws_at 909 (by decide +kernel) rfl
theorem w_910 : Jvm.Cond.instanceMethod yX11_init ∈ WS := ws_at 910 (by decide +kernel) rfl
theorem w_911 : Jvm.Cond.code yX11_init prog_13_method_1_code 2 (Option.none : Option Jvm.ClassFile.FieldType) ∈ WS := ws_at 911 (by decide +kernel) rfl
theorem w_912 : Jvm.Cond.methodLink "ParkingTariffModel" 1 ⟨"java/lang/Object", "<init>", "()V"⟩ ∈ WS := ws_at 912 (by decide +kernel) rfl
theorem w_913 : Jvm.Cond.methodLink "ParkingTariffModel" 35 yX11_clears ∈ WS := ws_at 913 (by decide +kernel) rfl
theorem w_915 : Jvm.Cond.instanceMethod yX11_clears ∈ WS := ws_at 915 (by decide +kernel) rfl
theorem w_916 : Jvm.Cond.code yX11_clears prog_13_method_5_code 3 (Option.none : Option Jvm.ClassFile.FieldType) ∈ WS := ws_at 916 (by decide +kernel) rfl
theorem w_917 : Jvm.Cond.fieldLink "ParkingTariffModel" 7 "ParkingTariffModel" "s" "[I" ∈ WS := ws_at 917 (by decide +kernel) rfl
theorem w_918 : Jvm.Cond.fieldLink "ParkingTariffModel" 13 "ParkingTariffModel" "saved" "[I" ∈ WS := ws_at 918 (by decide +kernel) rfl
theorem w_919 : Jvm.Cond.fieldLink "ParkingTariffModel" 16 "ParkingTariffModel" "rates" "[F" ∈ WS := ws_at 919 (by decide +kernel) rfl
theorem w_920 : Jvm.Cond.fieldLink "ParkingTariffModel" 20 "ParkingTariffModel" "savedRates" "[F" ∈ WS := ws_at 920 (by decide +kernel) rfl
theorem w_921 : Jvm.Cond.fieldLink "ParkingTariffModel" 220 "ParkingTariffModel" "hasSaved" "Z" ∈ WS := ws_at 921 (by decide +kernel) rfl
theorem w_922 : Jvm.Cond.fieldLink "ParkingTariffModel" 23 "ParkingTariffModel" "text" "[I" ∈ WS := ws_at 922 (by decide +kernel) rfl
theorem w_923 : Jvm.Cond.fieldLink "ParkingTariffModel" 97 "ParkingTariffModel" "length" "I" ∈ WS := ws_at 923 (by decide +kernel) rfl
theorem w_924 : Jvm.Cond.fieldLink "ParkingTariffModel" 26 "ParkingTariffModel" "report" "[I" ∈ WS := ws_at 924 (by decide +kernel) rfl
theorem w_925 : Jvm.Cond.fieldLink "ParkingTariffModel" 144 "ParkingTariffModel" "reported" "I" ∈ WS := ws_at 925 (by decide +kernel) rfl
theorem w_926 : Jvm.Cond.fieldLink "ParkingTariffModel" 52 "ParkingTariffModel" "at" "I" ∈ WS := ws_at 926 (by decide +kernel) rfl
theorem w_927 : Jvm.Cond.fieldLink "ParkingTariffModel" 56 "ParkingTariffModel" "group" "I" ∈ WS := ws_at 927 (by decide +kernel) rfl
theorem w_928 : Jvm.Cond.fieldLink "ParkingTariffModel" 59 "ParkingTariffModel" "sum" "I" ∈ WS := ws_at 928 (by decide +kernel) rfl
theorem w_929 : Jvm.Cond.fieldLink "ParkingTariffModel" 62 "ParkingTariffModel" "closed" "I" ∈ WS := ws_at 929 (by decide +kernel) rfl
theorem w_930 : Jvm.Cond.fieldLink "ParkingTariffModel" 65 "ParkingTariffModel" "total" "I" ∈ WS := ws_at 930 (by decide +kernel) rfl
theorem w_931 : Jvm.Cond.fieldLink "ParkingTariffModel" 100 "ParkingTariffModel" "spot" "I" ∈ WS := ws_at 931 (by decide +kernel) rfl
theorem w_932 : Jvm.Cond.fieldLink "ParkingTariffModel" 139 "ParkingTariffModel" "clause" "I" ∈ WS := ws_at 932 (by decide +kernel) rfl
theorem w_933 : Jvm.Cond.fieldLink "ParkingTariffModel" 103 "ParkingTariffModel" "fault" "I" ∈ WS := ws_at 933 (by decide +kernel) rfl
theorem w_934 : Jvm.Cond.fieldLink "ParkingTariffModel" 106 "ParkingTariffModel" "faulty" "I" ∈ WS := ws_at 934 (by decide +kernel) rfl
theorem w_935 : Jvm.Cond.fieldLink "ParkingTariffModel" 29 "ParkingTariffModel" "draft" "[I" ∈ WS := ws_at 935 (by decide +kernel) rfl
theorem w_936 : Jvm.Cond.fieldLink "ParkingTariffModel" 32 "ParkingTariffModel" "numbers" "[I" ∈ WS := ws_at 936 (by decide +kernel) rfl
theorem w_937 : Jvm.Cond.fieldLink "ParkingTariffModel" 126 "ParkingTariffModel" "drafted" "I" ∈ WS := ws_at 937 (by decide +kernel) rfl
theorem w_981 : Jvm.Cond.arrayClass Jvm.ClassFile.FieldType.float ∈ WS := ws_at 981 (by decide +kernel) rfl
theorem w_982 : Jvm.Cond.methodLink "ParkingTariffLaw" 35 yX11_fee ∈ WS := ws_at 982 (by decide +kernel) rfl
theorem w_983 : Jvm.Cond.instanceMethod yX11_fee ∈ WS := ws_at 983 (by decide +kernel) rfl
theorem w_984 : Jvm.Cond.selects "ParkingTariffModel" yX11_fee yX11_fee ∈ WS := ws_at 984 (by decide +kernel) rfl
theorem w_985 : Jvm.Cond.code yX11_fee prog_13_method_15_code 4 (Option.some Jvm.ClassFile.FieldType.int) ∈ WS := ws_at 985 (by decide +kernel) rfl
theorem w_986 : Jvm.Cond.methodLink "ParkingTariffModel" 91 yX11_isStay ∈ WS := ws_at 986 (by decide +kernel) rfl
theorem w_988 : Jvm.Cond.instanceMethod yX11_isStay ∈ WS := ws_at 988 (by decide +kernel) rfl
theorem w_989 : Jvm.Cond.code yX11_isStay prog_13_method_14_code 4 (Option.some Jvm.ClassFile.FieldType.boolean) ∈ WS := ws_at 989 (by decide +kernel) rfl
theorem w_990 : Jvm.Cond.methodLink "ParkingTariffModel" 84 yX11_isPlan ∈ WS := ws_at 990 (by decide +kernel) rfl
theorem w_991 : Jvm.Cond.static yX11_isPlan ∈ WS := ws_at 991 (by decide +kernel) rfl
theorem w_992 : Jvm.Cond.code yX11_isPlan prog_13_method_3_code 1 (Option.some Jvm.ClassFile.FieldType.boolean) ∈ WS := ws_at 992 (by decide +kernel) rfl
theorem w_993 : Jvm.Cond.methodLink "ParkingTariffModel" 39 yX11_in ∈ WS := ws_at 993 (by decide +kernel) rfl
theorem w_994 : Jvm.Cond.static yX11_in ∈ WS := ws_at 994 (by decide +kernel) rfl
theorem w_995 : Jvm.Cond.code yX11_in prog_13_method_2_code 3 (Option.some Jvm.ClassFile.FieldType.boolean) ∈ WS := ws_at 995 (by decide +kernel) rfl
theorem w_996 : Jvm.Cond.methodLink "ParkingTariffModel" 88 yX11_isMinute ∈ WS := ws_at 996 (by decide +kernel) rfl
theorem w_997 : Jvm.Cond.static yX11_isMinute ∈ WS := ws_at 997 (by decide +kernel) rfl
theorem w_998 : Jvm.Cond.code yX11_isMinute prog_13_method_4_code 1 (Option.some Jvm.ClassFile.FieldType.boolean) ∈ WS := ws_at 998 (by decide +kernel) rfl
theorem w_999 : Jvm.Cond.constant "ParkingTariffModel" 43 (99999 : Int32) ∈ WS := ws_at 999 (by decide +kernel) rfl
theorem w_1000 : Jvm.Cond.methodLink "ParkingTariffModel" 94 yX11_feeOf ∈ WS := ws_at 1000 (by decide +kernel) rfl
theorem w_1002 : Jvm.Cond.instanceMethod yX11_feeOf ∈ WS := ws_at 1002 (by decide +kernel) rfl
theorem w_1003 : Jvm.Cond.code yX11_feeOf prog_13_method_13_code 4 (Option.some Jvm.ClassFile.FieldType.int) ∈ WS := ws_at 1003 (by decide +kernel) rfl
theorem w_1004 : Jvm.Cond.methodLink "ParkingTariffModel" 44 yX11_of ∈ WS := ws_at 1004 (by decide +kernel) rfl
theorem w_1006 : Jvm.Cond.instanceMethod yX11_of ∈ WS := ws_at 1006 (by decide +kernel) rfl
theorem w_1007 : Jvm.Cond.code yX11_of prog_13_method_6_code 3 (Option.some Jvm.ClassFile.FieldType.int) ∈ WS := ws_at 1007 (by decide +kernel) rfl
theorem w_1008 : Jvm.Cond.methodLink "ParkingTariffModel" 77 yX11_begins ∈ WS := ws_at 1008 (by decide +kernel) rfl
theorem w_1010 : Jvm.Cond.instanceMethod yX11_begins ∈ WS := ws_at 1010 (by decide +kernel) rfl
theorem w_1011 : Jvm.Cond.code yX11_begins prog_13_method_9_code 2 (Option.none : Option Jvm.ClassFile.FieldType) ∈ WS := ws_at 1011 (by decide +kernel) rfl
theorem w_1012 : Jvm.Cond.methodLink "ParkingTariffModel" 80 yX11_adds ∈ WS := ws_at 1012 (by decide +kernel) rfl
theorem w_1014 : Jvm.Cond.instanceMethod yX11_adds ∈ WS := ws_at 1014 (by decide +kernel) rfl
theorem w_1015 : Jvm.Cond.code yX11_adds prog_13_method_12_code 5 (Option.none : Option Jvm.ClassFile.FieldType) ∈ WS := ws_at 1015 (by decide +kernel) rfl
theorem w_1016 : Jvm.Cond.methodLink "ParkingTariffModel" 68 yX11_groupOf ∈ WS := ws_at 1016 (by decide +kernel) rfl
theorem w_1018 : Jvm.Cond.instanceMethod yX11_groupOf ∈ WS := ws_at 1018 (by decide +kernel) rfl
theorem w_1019 : Jvm.Cond.code yX11_groupOf prog_13_method_11_code 3 (Option.some Jvm.ClassFile.FieldType.int) ∈ WS := ws_at 1019 (by decide +kernel) rfl
theorem w_1020 : Jvm.Cond.methodLink "ParkingTariffModel" 71 yX11_capped ∈ WS := ws_at 1020 (by decide +kernel) rfl
theorem w_1022 : Jvm.Cond.instanceMethod yX11_capped ∈ WS := ws_at 1022 (by decide +kernel) rfl
theorem w_1023 : Jvm.Cond.code yX11_capped prog_13_method_10_code 3 (Option.some Jvm.ClassFile.FieldType.int) ∈ WS := ws_at 1023 (by decide +kernel) rfl
theorem w_1024 : Jvm.Cond.methodLink "ParkingTariffModel" 74 yX11_bandAt ∈ WS := ws_at 1024 (by decide +kernel) rfl
theorem w_1026 : Jvm.Cond.instanceMethod yX11_bandAt ∈ WS := ws_at 1026 (by decide +kernel) rfl
theorem w_1027 : Jvm.Cond.code yX11_bandAt prog_13_method_8_code 4 (Option.some Jvm.ClassFile.FieldType.int) ∈ WS := ws_at 1027 (by decide +kernel) rfl
theorem w_1028 : Jvm.Cond.methodLink "ParkingTariffModel" 48 yX11_bandPart ∈ WS := ws_at 1028 (by decide +kernel) rfl
theorem w_1030 : Jvm.Cond.instanceMethod yX11_bandPart ∈ WS := ws_at 1030 (by decide +kernel) rfl
theorem w_1031 : Jvm.Cond.code yX11_bandPart prog_13_method_7_code 4 (Option.some Jvm.ClassFile.FieldType.int) ∈ WS := ws_at 1031 (by decide +kernel) rfl
theorem w_1032 : Jvm.Cond.methodLink "ParkingTariffLaw" 40 yX11_unit ∈ WS := ws_at 1032 (by decide +kernel) rfl
theorem w_1033 : Jvm.Cond.instanceMethod yX11_unit ∈ WS := ws_at 1033 (by decide +kernel) rfl
theorem w_1034 : Jvm.Cond.selects "ParkingTariffModel" yX11_unit yX11_unit ∈ WS := ws_at 1034 (by decide +kernel) rfl
theorem w_1035 : Jvm.Cond.code yX11_unit prog_13_method_16_code 6 (Option.some Jvm.ClassFile.FieldType.int) ∈ WS := ws_at 1035 (by decide +kernel) rfl
theorem w_1036 : Jvm.Cond.methodLink "ParkingTariffLaw" 44 yX11_extend ∈ WS := ws_at 1036 (by decide +kernel) rfl
theorem w_1037 : Jvm.Cond.instanceMethod yX11_extend ∈ WS := ws_at 1037 (by decide +kernel) rfl
theorem w_1038 : Jvm.Cond.selects "ParkingTariffModel" yX11_extend yX11_extend ∈ WS := ws_at 1038 (by decide +kernel) rfl
theorem w_1039 : Jvm.Cond.code yX11_extend prog_13_method_17_code 7 (Option.some Jvm.ClassFile.FieldType.int) ∈ WS := ws_at 1039 (by decide +kernel) rfl
theorem w_1040 : Jvm.Cond.methodLink "ParkingTariffLaw" 17 yX11_append ∈ WS := ws_at 1040 (by decide +kernel) rfl
theorem w_1041 : Jvm.Cond.instanceMethod yX11_append ∈ WS := ws_at 1041 (by decide +kernel) rfl
theorem w_1042 : Jvm.Cond.selects "ParkingTariffModel" yX11_append yX11_append ∈ WS := ws_at 1042 (by decide +kernel) rfl
theorem w_1043 : Jvm.Cond.code yX11_append prog_13_method_18_code 4 (Option.some Jvm.ClassFile.FieldType.int) ∈ WS := ws_at 1043 (by decide +kernel) rfl
theorem w_1044 : Jvm.Cond.methodLink "ParkingTariffLaw" 22 yX11_readPlan ∈ WS := ws_at 1044 (by decide +kernel) rfl
theorem w_1045 : Jvm.Cond.instanceMethod yX11_readPlan ∈ WS := ws_at 1045 (by decide +kernel) rfl
theorem w_1046 : Jvm.Cond.selects "ParkingTariffModel" yX11_readPlan yX11_readPlan ∈ WS := ws_at 1046 (by decide +kernel) rfl
theorem w_1047 : Jvm.Cond.code yX11_readPlan prog_13_method_30_code 3 (Option.some Jvm.ClassFile.FieldType.int) ∈ WS := ws_at 1047 (by decide +kernel) rfl
theorem w_1048 : Jvm.Cond.methodLink "ParkingTariffModel" 147 yX11_reads ∈ WS := ws_at 1048 (by decide +kernel) rfl
theorem w_1050 : Jvm.Cond.instanceMethod yX11_reads ∈ WS := ws_at 1050 (by decide +kernel) rfl
theorem w_1051 : Jvm.Cond.code yX11_reads prog_13_method_28_code 1 (Option.none : Option Jvm.ClassFile.FieldType) ∈ WS := ws_at 1051 (by decide +kernel) rfl
theorem w_1052 : Jvm.Cond.methodLink "ParkingTariffModel" 142 yX11_clause ∈ WS := ws_at 1052 (by decide +kernel) rfl
theorem w_1054 : Jvm.Cond.instanceMethod yX11_clause ∈ WS := ws_at 1054 (by decide +kernel) rfl
theorem w_1055 : Jvm.Cond.code yX11_clause prog_13_method_27_code 3 (Option.none : Option Jvm.ClassFile.FieldType) ∈ WS := ws_at 1055 (by decide +kernel) rfl
theorem w_1056 : Jvm.Cond.methodLink "ParkingTariffModel" 109 yX11_here ∈ WS := ws_at 1056 (by decide +kernel) rfl
theorem w_1058 : Jvm.Cond.instanceMethod yX11_here ∈ WS := ws_at 1058 (by decide +kernel) rfl
theorem w_1059 : Jvm.Cond.code yX11_here prog_13_method_19_code 1 (Option.some Jvm.ClassFile.FieldType.int) ∈ WS := ws_at 1059 (by decide +kernel) rfl
theorem w_1060 : Jvm.Cond.methodLink "ParkingTariffModel" 129 yX11_isWord ∈ WS := ws_at 1060 (by decide +kernel) rfl
theorem w_1062 : Jvm.Cond.instanceMethod yX11_isWord ∈ WS := ws_at 1062 (by decide +kernel) rfl
theorem w_1063 : Jvm.Cond.code yX11_isWord prog_13_method_23_code 7 (Option.some Jvm.ClassFile.FieldType.boolean) ∈ WS := ws_at 1063 (by decide +kernel) rfl
theorem w_1064 : Jvm.Cond.methodLink "ParkingTariffModel" 133 yX11_amount ∈ WS := ws_at 1064 (by decide +kernel) rfl
theorem w_1066 : Jvm.Cond.instanceMethod yX11_amount ∈ WS := ws_at 1066 (by decide +kernel) rfl
theorem w_1067 : Jvm.Cond.code yX11_amount prog_13_method_26_code 3 (Option.none : Option Jvm.ClassFile.FieldType) ∈ WS := ws_at 1067 (by decide +kernel) rfl
theorem w_1068 : Jvm.Cond.methodLink "ParkingTariffModel" 116 yX11_must ∈ WS := ws_at 1068 (by decide +kernel) rfl
theorem w_1070 : Jvm.Cond.instanceMethod yX11_must ∈ WS := ws_at 1070 (by decide +kernel) rfl
theorem w_1071 : Jvm.Cond.code yX11_must prog_13_method_21_code 2 (Option.none : Option Jvm.ClassFile.FieldType) ∈ WS := ws_at 1071 (by decide +kernel) rfl
theorem w_1072 : Jvm.Cond.methodLink "ParkingTariffModel" 113 yX11_fails ∈ WS := ws_at 1072 (by decide +kernel) rfl
theorem w_1074 : Jvm.Cond.instanceMethod yX11_fails ∈ WS := ws_at 1074 (by decide +kernel) rfl
theorem w_1075 : Jvm.Cond.code yX11_fails prog_13_method_20_code 3 (Option.none : Option Jvm.ClassFile.FieldType) ∈ WS := ws_at 1075 (by decide +kernel) rfl
theorem w_1076 : Jvm.Cond.methodLink "ParkingTariffModel" 119 yX11_number ∈ WS := ws_at 1076 (by decide +kernel) rfl
theorem w_1078 : Jvm.Cond.instanceMethod yX11_number ∈ WS := ws_at 1078 (by decide +kernel) rfl
theorem w_1079 : Jvm.Cond.code yX11_number prog_13_method_22_code 3 (Option.none : Option Jvm.ClassFile.FieldType) ∈ WS := ws_at 1079 (by decide +kernel) rfl
theorem w_1080 : Jvm.Cond.methodLink "ParkingTariffModel" 122 yX11_ranges ∈ WS := ws_at 1080 (by decide +kernel) rfl
theorem w_1082 : Jvm.Cond.instanceMethod yX11_ranges ∈ WS := ws_at 1082 (by decide +kernel) rfl
theorem w_1083 : Jvm.Cond.code yX11_ranges prog_13_method_24_code 4 (Option.none : Option Jvm.ClassFile.FieldType) ∈ WS := ws_at 1083 (by decide +kernel) rfl
theorem w_1084 : Jvm.Cond.methodLink "ParkingTariffModel" 136 yX11_band ∈ WS := ws_at 1084 (by decide +kernel) rfl
theorem w_1086 : Jvm.Cond.instanceMethod yX11_band ∈ WS := ws_at 1086 (by decide +kernel) rfl
theorem w_1087 : Jvm.Cond.code yX11_band prog_13_method_25_code 4 (Option.none : Option Jvm.ClassFile.FieldType) ∈ WS := ws_at 1087 (by decide +kernel) rfl
theorem w_1088 : Jvm.Cond.methodLink "ParkingTariffModel" 150 yX11_reports ∈ WS := ws_at 1088 (by decide +kernel) rfl
theorem w_1090 : Jvm.Cond.instanceMethod yX11_reports ∈ WS := ws_at 1090 (by decide +kernel) rfl
theorem w_1091 : Jvm.Cond.code yX11_reports prog_13_method_29_code 2 (Option.none : Option Jvm.ClassFile.FieldType) ∈ WS := ws_at 1091 (by decide +kernel) rfl
theorem w_1092 : Jvm.Cond.methodLink "ParkingTariffLaw" 26 yX11_plan ∈ WS := ws_at 1092 (by decide +kernel) rfl
theorem w_1093 : Jvm.Cond.instanceMethod yX11_plan ∈ WS := ws_at 1093 (by decide +kernel) rfl
theorem w_1094 : Jvm.Cond.selects "ParkingTariffModel" yX11_plan yX11_plan ∈ WS := ws_at 1094 (by decide +kernel) rfl
theorem w_1095 : Jvm.Cond.code yX11_plan prog_13_method_31_code 3 (Option.some Jvm.ClassFile.FieldType.int) ∈ WS := ws_at 1095 (by decide +kernel) rfl
theorem w_1096 : Jvm.Cond.methodLink "ParkingTariffLaw" 31 yX11_band_ ∈ WS := ws_at 1096 (by decide +kernel) rfl
theorem w_1097 : Jvm.Cond.instanceMethod yX11_band_ ∈ WS := ws_at 1097 (by decide +kernel) rfl
theorem w_1098 : Jvm.Cond.selects "ParkingTariffModel" yX11_band_ yX11_band_ ∈ WS := ws_at 1098 (by decide +kernel) rfl
theorem w_1099 : Jvm.Cond.code yX11_band_ prog_13_method_32_code 4 (Option.some Jvm.ClassFile.FieldType.int) ∈ WS := ws_at 1099 (by decide +kernel) rfl
theorem w_1100 : Jvm.Cond.methodLink "ParkingTariffLaw" 48 yX11_addVoucher ∈ WS := ws_at 1100 (by decide +kernel) rfl
theorem w_1101 : Jvm.Cond.instanceMethod yX11_addVoucher ∈ WS := ws_at 1101 (by decide +kernel) rfl
theorem w_1102 : Jvm.Cond.selects "ParkingTariffModel" yX11_addVoucher yX11_addVoucher ∈ WS := ws_at 1102 (by decide +kernel) rfl
theorem w_1103 : Jvm.Cond.code yX11_addVoucher prog_13_method_36_code 4 (Option.some Jvm.ClassFile.FieldType.int) ∈ WS := ws_at 1103 (by decide +kernel) rfl
theorem w_1104 : Jvm.Cond.methodLink "ParkingTariffLaw" 52 yX11_voucher ∈ WS := ws_at 1104 (by decide +kernel) rfl
theorem w_1105 : Jvm.Cond.instanceMethod yX11_voucher ∈ WS := ws_at 1105 (by decide +kernel) rfl
theorem w_1106 : Jvm.Cond.selects "ParkingTariffModel" yX11_voucher yX11_voucher ∈ WS := ws_at 1106 (by decide +kernel) rfl
theorem w_1107 : Jvm.Cond.code yX11_voucher prog_13_method_37_code 3 (Option.some Jvm.ClassFile.FieldType.int) ∈ WS := ws_at 1107 (by decide +kernel) rfl
theorem w_1108 : Jvm.Cond.methodLink "ParkingTariffModel" 153 yX11_isVoucher ∈ WS := ws_at 1108 (by decide +kernel) rfl
theorem w_1110 : Jvm.Cond.instanceMethod yX11_isVoucher ∈ WS := ws_at 1110 (by decide +kernel) rfl
theorem w_1111 : Jvm.Cond.code yX11_isVoucher prog_13_method_33_code 2 (Option.some Jvm.ClassFile.FieldType.boolean) ∈ WS := ws_at 1111 (by decide +kernel) rfl
theorem w_1112 : Jvm.Cond.methodLink "ParkingTariffLaw" 56 yX11_makeFolder ∈ WS := ws_at 1112 (by decide +kernel) rfl
theorem w_1113 : Jvm.Cond.instanceMethod yX11_makeFolder ∈ WS := ws_at 1113 (by decide +kernel) rfl
theorem w_1114 : Jvm.Cond.selects "ParkingTariffModel" yX11_makeFolder yX11_makeFolder ∈ WS := ws_at 1114 (by decide +kernel) rfl
theorem w_1115 : Jvm.Cond.code yX11_makeFolder prog_13_method_38_code 6 (Option.some Jvm.ClassFile.FieldType.int) ∈ WS := ws_at 1115 (by decide +kernel) rfl
theorem w_1116 : Jvm.Cond.methodLink "ParkingTariffLaw" 60 yX11_put ∈ WS := ws_at 1116 (by decide +kernel) rfl
theorem w_1117 : Jvm.Cond.instanceMethod yX11_put ∈ WS := ws_at 1117 (by decide +kernel) rfl
theorem w_1118 : Jvm.Cond.selects "ParkingTariffModel" yX11_put yX11_put ∈ WS := ws_at 1118 (by decide +kernel) rfl
theorem w_1119 : Jvm.Cond.code yX11_put prog_13_method_40_code 7 (Option.some Jvm.ClassFile.FieldType.int) ∈ WS := ws_at 1119 (by decide +kernel) rfl
theorem w_1120 : Jvm.Cond.methodLink "ParkingTariffModel" 156 yX11_isPlace ∈ WS := ws_at 1120 (by decide +kernel) rfl
theorem w_1122 : Jvm.Cond.instanceMethod yX11_isPlace ∈ WS := ws_at 1122 (by decide +kernel) rfl
theorem w_1123 : Jvm.Cond.code yX11_isPlace prog_13_method_39_code 3 (Option.some Jvm.ClassFile.FieldType.boolean) ∈ WS := ws_at 1123 (by decide +kernel) rfl
theorem w_1124 : Jvm.Cond.methodLink "ParkingTariffModel" 160 yX11_kindOf ∈ WS := ws_at 1124 (by decide +kernel) rfl
theorem w_1126 : Jvm.Cond.instanceMethod yX11_kindOf ∈ WS := ws_at 1126 (by decide +kernel) rfl
theorem w_1127 : Jvm.Cond.code yX11_kindOf prog_13_method_34_code 2 (Option.some Jvm.ClassFile.FieldType.int) ∈ WS := ws_at 1127 (by decide +kernel) rfl
theorem w_1128 : Jvm.Cond.methodLink "ParkingTariffLaw" 64 yX11_inFolder ∈ WS := ws_at 1128 (by decide +kernel) rfl
theorem w_1129 : Jvm.Cond.instanceMethod yX11_inFolder ∈ WS := ws_at 1129 (by decide +kernel) rfl
theorem w_1130 : Jvm.Cond.selects "ParkingTariffModel" yX11_inFolder yX11_inFolder ∈ WS := ws_at 1130 (by decide +kernel) rfl
theorem w_1131 : Jvm.Cond.code yX11_inFolder prog_13_method_41_code 3 (Option.some Jvm.ClassFile.FieldType.int) ∈ WS := ws_at 1131 (by decide +kernel) rfl
theorem w_1132 : Jvm.Cond.methodLink "ParkingTariffLaw" 104 yX11_setCapacity ∈ WS := ws_at 1132 (by decide +kernel) rfl
theorem w_1133 : Jvm.Cond.instanceMethod yX11_setCapacity ∈ WS := ws_at 1133 (by decide +kernel) rfl
theorem w_1134 : Jvm.Cond.selects "ParkingTariffModel" yX11_setCapacity yX11_setCapacity ∈ WS := ws_at 1134 (by decide +kernel) rfl
theorem w_1135 : Jvm.Cond.code yX11_setCapacity prog_13_method_45_code 4 (Option.some Jvm.ClassFile.FieldType.int) ∈ WS := ws_at 1135 (by decide +kernel) rfl
theorem w_1136 : Jvm.Cond.methodLink "ParkingTariffModel" 164 yX11_levelPart ∈ WS := ws_at 1136 (by decide +kernel) rfl
theorem w_1138 : Jvm.Cond.instanceMethod yX11_levelPart ∈ WS := ws_at 1138 (by decide +kernel) rfl
theorem w_1139 : Jvm.Cond.code yX11_levelPart prog_13_method_42_code 3 (Option.some Jvm.ClassFile.FieldType.int) ∈ WS := ws_at 1139 (by decide +kernel) rfl
theorem w_1140 : Jvm.Cond.methodLink "ParkingTariffLaw" 108 yX11_level ∈ WS := ws_at 1140 (by decide +kernel) rfl
theorem w_1141 : Jvm.Cond.instanceMethod yX11_level ∈ WS := ws_at 1141 (by decide +kernel) rfl
theorem w_1142 : Jvm.Cond.selects "ParkingTariffModel" yX11_level yX11_level ∈ WS := ws_at 1142 (by decide +kernel) rfl
theorem w_1143 : Jvm.Cond.code yX11_level prog_13_method_46_code 3 (Option.some Jvm.ClassFile.FieldType.int) ∈ WS := ws_at 1143 (by decide +kernel) rfl
theorem w_1144 : Jvm.Cond.methodLink "ParkingTariffModel" 172 yJxf58ca_floatToIntBits_5c35a ∈ WS := ws_at 1144 (by decide +kernel) rfl
theorem w_1145 : Jvm.Cond.static yJxf58ca_floatToIntBits_5c35a ∈ WS := ws_at 1145 (by decide +kernel) rfl
theorem w_1146 : Jvm.Cond.code yJxf58ca_floatToIntBits_5c35a prog_14_method_24_code 1 (Option.some Jvm.ClassFile.FieldType.int) ∈ WS := ws_at 1146 (by decide +kernel) rfl
theorem w_1147 : Jvm.Cond.methodLink "java/lang/Float" 59 yJxf58ca_isNaN_12338 ∈ WS := ws_at 1147 (by decide +kernel) rfl
theorem w_1148 : Jvm.Cond.static yJxf58ca_isNaN_12338 ∈ WS := ws_at 1148 (by decide +kernel) rfl
theorem w_1149 : Jvm.Cond.code yJxf58ca_isNaN_12338 prog_14_method_6_code 1 (Option.some Jvm.ClassFile.FieldType.boolean) ∈ WS := ws_at 1149 (by decide +kernel) rfl
theorem w_1150 : Jvm.Cond.methodLink "java/lang/Float" 74 ⟨"java/lang/Float", "floatToRawIntBits", "(F)I"⟩ ∈ WS := ws_at 1150 (by decide +kernel) rfl
theorem w_1151 : Jvm.Cond.static ⟨"java/lang/Float", "floatToRawIntBits", "(F)I"⟩ ∈ WS := ws_at 1151 (by decide +kernel) rfl
theorem w_1152 : Jvm.Cond.native ⟨"java/lang/Float", "floatToRawIntBits", "(F)I"⟩ ∈ WS := ws_at 1152 (by decide +kernel) rfl
theorem w_1153 : Jvm.Cond.constant "java/lang/Float" 77 (2143289344 : Int32) ∈ WS := ws_at 1153 (by decide +kernel) rfl
theorem w_1154 : Jvm.Cond.methodLink "ParkingTariffModel" 168 yX11_score ∈ WS := ws_at 1154 (by decide +kernel) rfl
theorem w_1156 : Jvm.Cond.instanceMethod yX11_score ∈ WS := ws_at 1156 (by decide +kernel) rfl
theorem w_1157 : Jvm.Cond.code yX11_score prog_13_method_43_code 2 (Option.some Jvm.ClassFile.FieldType.float) ∈ WS := ws_at 1157 (by decide +kernel) rfl
theorem w_1158 : Jvm.Cond.constantFloat "ParkingTariffModel" 167 (1056964608 : UInt32) ∈ WS := ws_at 1158 (by decide +kernel) rfl
theorem w_1159 : Jvm.Cond.methodLink "ParkingTariffLaw" 112 yX11_forecast ∈ WS := ws_at 1159 (by decide +kernel) rfl
theorem w_1160 : Jvm.Cond.instanceMethod yX11_forecast ∈ WS := ws_at 1160 (by decide +kernel) rfl
theorem w_1161 : Jvm.Cond.selects "ParkingTariffModel" yX11_forecast yX11_forecast ∈ WS := ws_at 1161 (by decide +kernel) rfl
theorem w_1162 : Jvm.Cond.code yX11_forecast prog_13_method_47_code 4 (Option.some Jvm.ClassFile.FieldType.int) ∈ WS := ws_at 1162 (by decide +kernel) rfl
theorem w_1163 : Jvm.Cond.constantFloat "ParkingTariffModel" 178 (1114636288 : UInt32) ∈ WS := ws_at 1163 (by decide +kernel) rfl
theorem w_1164 : Jvm.Cond.methodLink "ParkingTariffLaw" 68 yX11_enter ∈ WS := ws_at 1164 (by decide +kernel) rfl
theorem w_1165 : Jvm.Cond.instanceMethod yX11_enter ∈ WS := ws_at 1165 (by decide +kernel) rfl
theorem w_1166 : Jvm.Cond.selects "ParkingTariffModel" yX11_enter yX11_enter ∈ WS := ws_at 1166 (by decide +kernel) rfl
theorem w_1167 : Jvm.Cond.code yX11_enter prog_13_method_52_code 5 (Option.some Jvm.ClassFile.FieldType.int) ∈ WS := ws_at 1167 (by decide +kernel) rfl
theorem w_1168 : Jvm.Cond.methodLink "ParkingTariffModel" 182 yX11_bestLevel ∈ WS := ws_at 1168 (by decide +kernel) rfl
theorem w_1170 : Jvm.Cond.instanceMethod yX11_bestLevel ∈ WS := ws_at 1170 (by decide +kernel) rfl
theorem w_1171 : Jvm.Cond.code yX11_bestLevel prog_13_method_44_code 3 (Option.some Jvm.ClassFile.FieldType.int) ∈ WS := ws_at 1171 (by decide +kernel) rfl
theorem w_1172 : Jvm.Cond.methodLink "ParkingTariffModel" 185 yX11_inside ∈ WS := ws_at 1172 (by decide +kernel) rfl
theorem w_1174 : Jvm.Cond.instanceMethod yX11_inside ∈ WS := ws_at 1174 (by decide +kernel) rfl
theorem w_1175 : Jvm.Cond.code yX11_inside prog_13_method_51_code 1 (Option.some Jvm.ClassFile.FieldType.int) ∈ WS := ws_at 1175 (by decide +kernel) rfl
theorem w_1176 : Jvm.Cond.methodLink "ParkingTariffModel" 188 yX11_set ∈ WS := ws_at 1176 (by decide +kernel) rfl
theorem w_1178 : Jvm.Cond.instanceMethod yX11_set ∈ WS := ws_at 1178 (by decide +kernel) rfl
theorem w_1179 : Jvm.Cond.code yX11_set prog_13_method_49_code 4 (Option.none : Option Jvm.ClassFile.FieldType) ∈ WS := ws_at 1179 (by decide +kernel) rfl
theorem w_1180 : Jvm.Cond.methodLink "ParkingTariffLaw" 72 yX11_give ∈ WS := ws_at 1180 (by decide +kernel) rfl
theorem w_1181 : Jvm.Cond.instanceMethod yX11_give ∈ WS := ws_at 1181 (by decide +kernel) rfl
theorem w_1182 : Jvm.Cond.selects "ParkingTariffModel" yX11_give yX11_give ∈ WS := ws_at 1182 (by decide +kernel) rfl
theorem w_1183 : Jvm.Cond.code yX11_give prog_13_method_53_code 6 (Option.some Jvm.ClassFile.FieldType.int) ∈ WS := ws_at 1183 (by decide +kernel) rfl
theorem w_1184 : Jvm.Cond.methodLink "ParkingTariffModel" 191 yX11_isInside ∈ WS := ws_at 1184 (by decide +kernel) rfl
theorem w_1186 : Jvm.Cond.instanceMethod yX11_isInside ∈ WS := ws_at 1186 (by decide +kernel) rfl
theorem w_1187 : Jvm.Cond.code yX11_isInside prog_13_method_50_code 2 (Option.some Jvm.ClassFile.FieldType.boolean) ∈ WS := ws_at 1187 (by decide +kernel) rfl
theorem w_1188 : Jvm.Cond.methodLink "ParkingTariffModel" 179 yX11_item ∈ WS := ws_at 1188 (by decide +kernel) rfl
theorem w_1190 : Jvm.Cond.instanceMethod yX11_item ∈ WS := ws_at 1190 (by decide +kernel) rfl
theorem w_1191 : Jvm.Cond.code yX11_item prog_13_method_48_code 3 (Option.some Jvm.ClassFile.FieldType.int) ∈ WS := ws_at 1191 (by decide +kernel) rfl
theorem w_1192 : Jvm.Cond.methodLink "ParkingTariffModel" 194 yX11_inFolder ∈ WS := ws_at 1192 (by decide +kernel) rfl
theorem w_1193 : Jvm.Cond.methodLink "ParkingTariffLaw" 76 yX11_lose ∈ WS := ws_at 1193 (by decide +kernel) rfl
theorem w_1194 : Jvm.Cond.instanceMethod yX11_lose ∈ WS := ws_at 1194 (by decide +kernel) rfl
theorem w_1195 : Jvm.Cond.selects "ParkingTariffModel" yX11_lose yX11_lose ∈ WS := ws_at 1195 (by decide +kernel) rfl
theorem w_1196 : Jvm.Cond.code yX11_lose prog_13_method_59_code 2 (Option.some Jvm.ClassFile.FieldType.int) ∈ WS := ws_at 1196 (by decide +kernel) rfl
theorem w_1197 : Jvm.Cond.methodLink "ParkingTariffModel" 212 yX11_dueAt ∈ WS := ws_at 1197 (by decide +kernel) rfl
theorem w_1199 : Jvm.Cond.instanceMethod yX11_dueAt ∈ WS := ws_at 1199 (by decide +kernel) rfl
theorem w_1200 : Jvm.Cond.code yX11_dueAt prog_13_method_58_code 4 (Option.some Jvm.ClassFile.FieldType.int) ∈ WS := ws_at 1200 (by decide +kernel) rfl
theorem w_1201 : Jvm.Cond.methodLink "ParkingTariffModel" 206 yX11_lostFee ∈ WS := ws_at 1201 (by decide +kernel) rfl
theorem w_1203 : Jvm.Cond.instanceMethod yX11_lostFee ∈ WS := ws_at 1203 (by decide +kernel) rfl
theorem w_1204 : Jvm.Cond.code yX11_lostFee prog_13_method_57_code 4 (Option.some Jvm.ClassFile.FieldType.int) ∈ WS := ws_at 1204 (by decide +kernel) rfl
theorem w_1205 : Jvm.Cond.methodLink "ParkingTariffModel" 209 yX11_vouchered ∈ WS := ws_at 1205 (by decide +kernel) rfl
theorem w_1207 : Jvm.Cond.instanceMethod yX11_vouchered ∈ WS := ws_at 1207 (by decide +kernel) rfl
theorem w_1208 : Jvm.Cond.code yX11_vouchered prog_13_method_56_code 8 (Option.some Jvm.ClassFile.FieldType.int) ∈ WS := ws_at 1208 (by decide +kernel) rfl
theorem w_1209 : Jvm.Cond.methodLink "ParkingTariffModel" 200 yX11_base ∈ WS := ws_at 1209 (by decide +kernel) rfl
theorem w_1211 : Jvm.Cond.instanceMethod yX11_base ∈ WS := ws_at 1211 (by decide +kernel) rfl
theorem w_1212 : Jvm.Cond.code yX11_base prog_13_method_54_code 5 (Option.some Jvm.ClassFile.FieldType.int) ∈ WS := ws_at 1212 (by decide +kernel) rfl
theorem w_1213 : Jvm.Cond.methodLink "ParkingTariffModel" 197 yX11_amountOf ∈ WS := ws_at 1213 (by decide +kernel) rfl
theorem w_1215 : Jvm.Cond.instanceMethod yX11_amountOf ∈ WS := ws_at 1215 (by decide +kernel) rfl
theorem w_1216 : Jvm.Cond.code yX11_amountOf prog_13_method_35_code 2 (Option.some Jvm.ClassFile.FieldType.int) ∈ WS := ws_at 1216 (by decide +kernel) rfl
theorem w_1217 : Jvm.Cond.methodLink "ParkingTariffModel" 203 yX11_lowered ∈ WS := ws_at 1217 (by decide +kernel) rfl
theorem w_1218 : Jvm.Cond.static yX11_lowered ∈ WS := ws_at 1218 (by decide +kernel) rfl
theorem w_1219 : Jvm.Cond.code yX11_lowered prog_13_method_55_code 3 (Option.some Jvm.ClassFile.FieldType.int) ∈ WS := ws_at 1219 (by decide +kernel) rfl
theorem w_1220 : Jvm.Cond.methodLink "ParkingTariffLaw" 80 yX11_due ∈ WS := ws_at 1220 (by decide +kernel) rfl
theorem w_1221 : Jvm.Cond.instanceMethod yX11_due ∈ WS := ws_at 1221 (by decide +kernel) rfl
theorem w_1222 : Jvm.Cond.selects "ParkingTariffModel" yX11_due yX11_due ∈ WS := ws_at 1222 (by decide +kernel) rfl
theorem w_1223 : Jvm.Cond.code yX11_due prog_13_method_60_code 3 (Option.some Jvm.ClassFile.FieldType.int) ∈ WS := ws_at 1223 (by decide +kernel) rfl
theorem w_1224 : Jvm.Cond.methodLink "ParkingTariffLaw" 84 yX11_pay ∈ WS := ws_at 1224 (by decide +kernel) rfl
theorem w_1225 : Jvm.Cond.instanceMethod yX11_pay ∈ WS := ws_at 1225 (by decide +kernel) rfl
theorem w_1226 : Jvm.Cond.selects "ParkingTariffModel" yX11_pay yX11_pay ∈ WS := ws_at 1226 (by decide +kernel) rfl
theorem w_1227 : Jvm.Cond.code yX11_pay prog_13_method_61_code 3 (Option.some Jvm.ClassFile.FieldType.int) ∈ WS := ws_at 1227 (by decide +kernel) rfl
theorem w_1228 : Jvm.Cond.methodLink "ParkingTariffLaw" 88 yX11_leave ∈ WS := ws_at 1228 (by decide +kernel) rfl
theorem w_1229 : Jvm.Cond.instanceMethod yX11_leave ∈ WS := ws_at 1229 (by decide +kernel) rfl
theorem w_1230 : Jvm.Cond.selects "ParkingTariffModel" yX11_leave yX11_leave ∈ WS := ws_at 1230 (by decide +kernel) rfl
theorem w_1231 : Jvm.Cond.code yX11_leave prog_13_method_62_code 3 (Option.some Jvm.ClassFile.FieldType.int) ∈ WS := ws_at 1231 (by decide +kernel) rfl
theorem w_1232 : Jvm.Cond.methodLink "ParkingTariffLaw" 92 yX11_ticket ∈ WS := ws_at 1232 (by decide +kernel) rfl
theorem w_1233 : Jvm.Cond.instanceMethod yX11_ticket ∈ WS := ws_at 1233 (by decide +kernel) rfl
theorem w_1234 : Jvm.Cond.selects "ParkingTariffModel" yX11_ticket yX11_ticket ∈ WS := ws_at 1234 (by decide +kernel) rfl
theorem w_1235 : Jvm.Cond.code yX11_ticket prog_13_method_63_code 3 (Option.some Jvm.ClassFile.FieldType.int) ∈ WS := ws_at 1235 (by decide +kernel) rfl
theorem w_1236 : Jvm.Cond.methodLink "ParkingTariffLaw" 96 yX11_step ∈ WS := ws_at 1236 (by decide +kernel) rfl
theorem w_1237 : Jvm.Cond.instanceMethod yX11_step ∈ WS := ws_at 1237 (by decide +kernel) rfl
theorem w_1238 : Jvm.Cond.selects "ParkingTariffModel" yX11_step yX11_step ∈ WS := ws_at 1238 (by decide +kernel) rfl
theorem w_1239 : Jvm.Cond.code yX11_step prog_13_method_65_code 3 (Option.some Jvm.ClassFile.FieldType.int) ∈ WS := ws_at 1239 (by decide +kernel) rfl
theorem w_1240 : Jvm.Cond.methodLink "ParkingTariffModel" 215 yX11_stepsOf ∈ WS := ws_at 1240 (by decide +kernel) rfl
theorem w_1242 : Jvm.Cond.instanceMethod yX11_stepsOf ∈ WS := ws_at 1242 (by decide +kernel) rfl
theorem w_1243 : Jvm.Cond.code yX11_stepsOf prog_13_method_64_code 4 (Option.some Jvm.ClassFile.FieldType.int) ∈ WS := ws_at 1243 (by decide +kernel) rfl
theorem w_1244 : Jvm.Cond.methodLink "ParkingTariffLaw" 100 yX11_advance ∈ WS := ws_at 1244 (by decide +kernel) rfl
theorem w_1245 : Jvm.Cond.instanceMethod yX11_advance ∈ WS := ws_at 1245 (by decide +kernel) rfl
theorem w_1246 : Jvm.Cond.selects "ParkingTariffModel" yX11_advance yX11_advance ∈ WS := ws_at 1246 (by decide +kernel) rfl
theorem w_1247 : Jvm.Cond.code yX11_advance prog_13_method_66_code 5 (Option.some Jvm.ClassFile.FieldType.int) ∈ WS := ws_at 1247 (by decide +kernel) rfl
theorem w_1248 : Jvm.Cond.constantFloat "ParkingTariffModel" 218 (1061158912 : UInt32) ∈ WS := ws_at 1248 (by decide +kernel) rfl
theorem w_1249 : Jvm.Cond.constantFloat "ParkingTariffModel" 219 (1048576000 : UInt32) ∈ WS := ws_at 1249 (by decide +kernel) rfl
theorem w_1250 : Jvm.Cond.methodLink "ParkingTariffLaw" 116 yX11_count ∈ WS := ws_at 1250 (by decide +kernel) rfl
theorem w_1251 : Jvm.Cond.instanceMethod yX11_count ∈ WS := ws_at 1251 (by decide +kernel) rfl
theorem w_1252 : Jvm.Cond.selects "ParkingTariffModel" yX11_count yX11_count ∈ WS := ws_at 1252 (by decide +kernel) rfl
theorem w_1253 : Jvm.Cond.code yX11_count prog_13_method_67_code 2 (Option.some Jvm.ClassFile.FieldType.int) ∈ WS := ws_at 1253 (by decide +kernel) rfl
theorem w_1254 : Jvm.Cond.methodLink "ParkingTariffLaw" 121 yX11_reportLevels ∈ WS := ws_at 1254 (by decide +kernel) rfl
theorem w_1255 : Jvm.Cond.instanceMethod yX11_reportLevels ∈ WS := ws_at 1255 (by decide +kernel) rfl
theorem w_1256 : Jvm.Cond.selects "ParkingTariffModel" yX11_reportLevels yX11_reportLevels ∈ WS := ws_at 1256 (by decide +kernel) rfl
theorem w_1257 : Jvm.Cond.code yX11_reportLevels prog_13_method_68_code 1 (Option.some Jvm.ClassFile.FieldType.int) ∈ WS := ws_at 1257 (by decide +kernel) rfl
theorem w_1258 : Jvm.Cond.methodLink "ParkingTariffLaw" 125 yX11_reportCode ∈ WS := ws_at 1258 (by decide +kernel) rfl
theorem w_1259 : Jvm.Cond.instanceMethod yX11_reportCode ∈ WS := ws_at 1259 (by decide +kernel) rfl
theorem w_1260 : Jvm.Cond.selects "ParkingTariffModel" yX11_reportCode yX11_reportCode ∈ WS := ws_at 1260 (by decide +kernel) rfl
theorem w_1261 : Jvm.Cond.code yX11_reportCode prog_13_method_69_code 2 (Option.some Jvm.ClassFile.FieldType.int) ∈ WS := ws_at 1261 (by decide +kernel) rfl
theorem w_1262 : Jvm.Cond.methodLink "ParkingTariffLaw" 129 yX11_reportNumber ∈ WS := ws_at 1262 (by decide +kernel) rfl
theorem w_1263 : Jvm.Cond.instanceMethod yX11_reportNumber ∈ WS := ws_at 1263 (by decide +kernel) rfl
theorem w_1264 : Jvm.Cond.selects "ParkingTariffModel" yX11_reportNumber yX11_reportNumber ∈ WS := ws_at 1264 (by decide +kernel) rfl
theorem w_1265 : Jvm.Cond.code yX11_reportNumber prog_13_method_70_code 2 (Option.some Jvm.ClassFile.FieldType.int) ∈ WS := ws_at 1265 (by decide +kernel) rfl
theorem w_1266 : Jvm.Cond.methodLink "ParkingTariffLaw" 133 yX11_save ∈ WS := ws_at 1266 (by decide +kernel) rfl
theorem w_1267 : Jvm.Cond.instanceMethod yX11_save ∈ WS := ws_at 1267 (by decide +kernel) rfl
theorem w_1268 : Jvm.Cond.selects "ParkingTariffModel" yX11_save yX11_save ∈ WS := ws_at 1268 (by decide +kernel) rfl
theorem w_1269 : Jvm.Cond.code yX11_save prog_13_method_71_code 2 (Option.some Jvm.ClassFile.FieldType.int) ∈ WS := ws_at 1269 (by decide +kernel) rfl
theorem w_1270 : Jvm.Cond.methodLink "ParkingTariffLaw" 137 yX11_restore ∈ WS := ws_at 1270 (by decide +kernel) rfl
theorem w_1271 : Jvm.Cond.instanceMethod yX11_restore ∈ WS := ws_at 1271 (by decide +kernel) rfl
theorem w_1272 : Jvm.Cond.selects "ParkingTariffModel" yX11_restore yX11_restore ∈ WS := ws_at 1272 (by decide +kernel) rfl
theorem w_1273 : Jvm.Cond.code yX11_restore prog_13_method_72_code 2 (Option.some Jvm.ClassFile.FieldType.int) ∈ WS := ws_at 1273 (by decide +kernel) rfl
theorem w_1274 : Jvm.Cond.fieldLink "java/lang/String" 9 "java/lang/String" "value" "[B" ∈ WS := ws_at 1274 (by decide +kernel) rfl
theorem w_1275 : Jvm.Cond.fieldLink "java/lang/String" 15 "java/lang/String" "coder" "B" ∈ WS := ws_at 1275 (by decide +kernel) rfl
theorem wp_0 : Jvm.Cond.selects "ParkingTariffModel" yX11_clears yX11_clears ∈ WS := ws_pr 0 (by decide +kernel) rfl
theorem wp_1 : Jvm.Cond.selects "ParkingTariffModel" yX11_isStay yX11_isStay ∈ WS := ws_pr 1 (by decide +kernel) rfl
theorem wp_2 : Jvm.Cond.selects "ParkingTariffModel" yX11_feeOf yX11_feeOf ∈ WS := ws_pr 2 (by decide +kernel) rfl
theorem wp_3 : Jvm.Cond.selects "ParkingTariffModel" yX11_of yX11_of ∈ WS := ws_pr 3 (by decide +kernel) rfl
theorem wp_4 : Jvm.Cond.selects "ParkingTariffModel" yX11_begins yX11_begins ∈ WS := ws_pr 4 (by decide +kernel) rfl
theorem wp_5 : Jvm.Cond.selects "ParkingTariffModel" yX11_adds yX11_adds ∈ WS := ws_pr 5 (by decide +kernel) rfl
theorem wp_6 : Jvm.Cond.selects "ParkingTariffModel" yX11_groupOf yX11_groupOf ∈ WS := ws_pr 6 (by decide +kernel) rfl
theorem wp_7 : Jvm.Cond.selects "ParkingTariffModel" yX11_capped yX11_capped ∈ WS := ws_pr 7 (by decide +kernel) rfl
theorem wp_8 : Jvm.Cond.selects "ParkingTariffModel" yX11_bandAt yX11_bandAt ∈ WS := ws_pr 8 (by decide +kernel) rfl
theorem wp_9 : Jvm.Cond.selects "ParkingTariffModel" yX11_bandPart yX11_bandPart ∈ WS := ws_pr 9 (by decide +kernel) rfl
theorem wp_10 : Jvm.Cond.selects "ParkingTariffModel" yX11_reads yX11_reads ∈ WS := ws_pr 10 (by decide +kernel) rfl
theorem wp_11 : Jvm.Cond.selects "ParkingTariffModel" yX11_clause yX11_clause ∈ WS := ws_pr 11 (by decide +kernel) rfl
theorem wp_12 : Jvm.Cond.selects "ParkingTariffModel" yX11_here yX11_here ∈ WS := ws_pr 12 (by decide +kernel) rfl
theorem wp_13 : Jvm.Cond.selects "ParkingTariffModel" yX11_isWord yX11_isWord ∈ WS := ws_pr 13 (by decide +kernel) rfl
theorem wp_14 : Jvm.Cond.selects "ParkingTariffModel" yX11_amount yX11_amount ∈ WS := ws_pr 14 (by decide +kernel) rfl
theorem wp_15 : Jvm.Cond.selects "ParkingTariffModel" yX11_must yX11_must ∈ WS := ws_pr 15 (by decide +kernel) rfl
theorem wp_16 : Jvm.Cond.selects "ParkingTariffModel" yX11_fails yX11_fails ∈ WS := ws_pr 16 (by decide +kernel) rfl
theorem wp_17 : Jvm.Cond.selects "ParkingTariffModel" yX11_number yX11_number ∈ WS := ws_pr 17 (by decide +kernel) rfl
theorem wp_18 : Jvm.Cond.selects "ParkingTariffModel" yX11_ranges yX11_ranges ∈ WS := ws_pr 18 (by decide +kernel) rfl
theorem wp_19 : Jvm.Cond.selects "ParkingTariffModel" yX11_band yX11_band ∈ WS := ws_pr 19 (by decide +kernel) rfl
theorem wp_20 : Jvm.Cond.selects "ParkingTariffModel" yX11_reports yX11_reports ∈ WS := ws_pr 20 (by decide +kernel) rfl
theorem wp_21 : Jvm.Cond.selects "ParkingTariffModel" yX11_isVoucher yX11_isVoucher ∈ WS := ws_pr 21 (by decide +kernel) rfl
theorem wp_22 : Jvm.Cond.selects "ParkingTariffModel" yX11_isPlace yX11_isPlace ∈ WS := ws_pr 22 (by decide +kernel) rfl
theorem wp_23 : Jvm.Cond.selects "ParkingTariffModel" yX11_kindOf yX11_kindOf ∈ WS := ws_pr 23 (by decide +kernel) rfl
theorem wp_24 : Jvm.Cond.selects "ParkingTariffModel" yX11_levelPart yX11_levelPart ∈ WS := ws_pr 24 (by decide +kernel) rfl
theorem wp_25 : Jvm.Cond.selects "ParkingTariffModel" yX11_score yX11_score ∈ WS := ws_pr 25 (by decide +kernel) rfl
theorem wp_26 : Jvm.Cond.selects "ParkingTariffModel" yX11_bestLevel yX11_bestLevel ∈ WS := ws_pr 26 (by decide +kernel) rfl
theorem wp_27 : Jvm.Cond.selects "ParkingTariffModel" yX11_inside yX11_inside ∈ WS := ws_pr 27 (by decide +kernel) rfl
theorem wp_28 : Jvm.Cond.selects "ParkingTariffModel" yX11_set yX11_set ∈ WS := ws_pr 28 (by decide +kernel) rfl
theorem wp_29 : Jvm.Cond.selects "ParkingTariffModel" yX11_isInside yX11_isInside ∈ WS := ws_pr 29 (by decide +kernel) rfl
theorem wp_30 : Jvm.Cond.selects "ParkingTariffModel" yX11_item yX11_item ∈ WS := ws_pr 30 (by decide +kernel) rfl
theorem wp_31 : Jvm.Cond.selects "ParkingTariffModel" yX11_dueAt yX11_dueAt ∈ WS := ws_pr 31 (by decide +kernel) rfl
theorem wp_32 : Jvm.Cond.selects "ParkingTariffModel" yX11_lostFee yX11_lostFee ∈ WS := ws_pr 32 (by decide +kernel) rfl
theorem wp_33 : Jvm.Cond.selects "ParkingTariffModel" yX11_vouchered yX11_vouchered ∈ WS := ws_pr 33 (by decide +kernel) rfl
theorem wp_34 : Jvm.Cond.selects "ParkingTariffModel" yX11_base yX11_base ∈ WS := ws_pr 34 (by decide +kernel) rfl
theorem wp_35 : Jvm.Cond.selects "ParkingTariffModel" yX11_amountOf yX11_amountOf ∈ WS := ws_pr 35 (by decide +kernel) rfl
theorem wp_36 : Jvm.Cond.selects "ParkingTariffModel" yX11_stepsOf yX11_stepsOf ∈ WS := ws_pr 36 (by decide +kernel) rfl
end
section
theorem dX0_init_0 : decode cX0_init 0 = .ok (.aload_n 0, 1) := by decide +kernel
theorem dX0_init_1 : decode cX0_init 1 = .ok (.invokespecial 1, 3) := by decide +kernel
theorem dX0_init_4 : decode cX0_init 4 = .ok (.aload_n 0, 1) := by decide +kernel
theorem dX0_init_5 : decode cX0_init 5 = .ok (.iload_n 1, 1) := by decide +kernel
theorem dX0_init_6 : decode cX0_init 6 = .ok (.putfield 7, 3) := by decide +kernel
theorem dX0_init_9 : decode cX0_init 9 = .ok (.return_, 1) := by decide +kernel
theorem dX0_tell_0 : decode cX0_tell 0 = .ok (.aload_n 0, 1) := by decide +kernel
theorem dX0_tell_1 : decode cX0_tell 1 = .ok (.iload_n 1, 1) := by decide +kernel
theorem dX0_tell_2 : decode cX0_tell 2 = .ok (.putfield 13, 3) := by decide +kernel
theorem dX0_tell_5 : decode cX0_tell 5 = .ok (.aload_n 0, 1) := by decide +kernel
theorem dX0_tell_6 : decode cX0_tell 6 = .ok (.iload_n 2, 1) := by decide +kernel
theorem dX0_tell_7 : decode cX0_tell 7 = .ok (.putfield 16, 3) := by decide +kernel
theorem dX0_tell_10 : decode cX0_tell 10 = .ok (.aload_n 0, 1) := by decide +kernel
theorem dX0_tell_11 : decode cX0_tell 11 = .ok (.iload_n 3, 1) := by decide +kernel
theorem dX0_tell_12 : decode cX0_tell 12 = .ok (.putfield 19, 3) := by decide +kernel
theorem dX0_tell_15 : decode cX0_tell 15 = .ok (.return_, 1) := by decide +kernel
theorem dX0_copyFrom_0 : decode cX0_copyFrom 0 = .ok (.aload_n 0, 1) := by decide +kernel
theorem dX0_copyFrom_1 : decode cX0_copyFrom 1 = .ok (.aload_n 1, 1) := by decide +kernel
theorem dX0_copyFrom_2 : decode cX0_copyFrom 2 = .ok (.getfield 13, 3) := by decide +kernel
theorem dX0_copyFrom_5 : decode cX0_copyFrom 5 = .ok (.aload_n 1, 1) := by decide +kernel
theorem dX0_copyFrom_6 : decode cX0_copyFrom 6 = .ok (.getfield 16, 3) := by decide +kernel
theorem dX0_copyFrom_9 : decode cX0_copyFrom 9 = .ok (.aload_n 1, 1) := by decide +kernel
theorem dX0_copyFrom_10 : decode cX0_copyFrom 10 = .ok (.getfield 19, 3) := by decide +kernel
theorem dX0_copyFrom_13 : decode cX0_copyFrom 13 = .ok (.invokevirtual 22, 3) := by decide +kernel
theorem dX0_copyFrom_16 : decode cX0_copyFrom 16 = .ok (.return_, 1) := by decide +kernel
theorem dX0_property_0 : decode cX0_property 0 = .ok (.iload_n 1, 1) := by decide +kernel
theorem dX0_property_1 : decode cX0_property 1 = .ok (.lookupswitch 37 #[(0, 27), (1, 32)], 27) := by decide +kernel
theorem dX0_property_28 : decode cX0_property 28 = .ok (.aload_n 0, 1) := by decide +kernel
theorem dX0_property_29 : decode cX0_property 29 = .ok (.getfield 13, 3) := by decide +kernel
theorem dX0_property_32 : decode cX0_property 32 = .ok (.ireturn, 1) := by decide +kernel
theorem dX0_property_33 : decode cX0_property 33 = .ok (.aload_n 0, 1) := by decide +kernel
theorem dX0_property_34 : decode cX0_property 34 = .ok (.getfield 16, 3) := by decide +kernel
theorem dX0_property_37 : decode cX0_property 37 = .ok (.ireturn, 1) := by decide +kernel
theorem dX0_property_38 : decode cX0_property 38 = .ok (.aload_n 0, 1) := by decide +kernel
theorem dX0_property_39 : decode cX0_property 39 = .ok (.getfield 19, 3) := by decide +kernel
theorem dX0_property_42 : decode cX0_property 42 = .ok (.ireturn, 1) := by decide +kernel
theorem dX1_init_0 : decode cX1_init 0 = .ok (.aload_n 0, 1) := by decide +kernel
theorem dX1_init_1 : decode cX1_init 1 = .ok (.invokespecial 3, 3) := by decide +kernel
theorem dX1_init_4 : decode cX1_init 4 = .ok (.aload_n 0, 1) := by decide +kernel
theorem dX1_init_5 : decode cX1_init 5 = .ok (.iconst 4, 1) := by decide +kernel
theorem dX1_init_6 : decode cX1_init 6 = .ok (.anewarray 9, 3) := by decide +kernel
theorem dX1_init_9 : decode cX1_init 9 = .ok (.putfield 11, 3) := by decide +kernel
theorem dX1_init_12 : decode cX1_init 12 = .ok (.aload_n 0, 1) := by decide +kernel
theorem dX1_init_13 : decode cX1_init 13 = .ok (.bipush 10, 2) := by decide +kernel
theorem dX1_init_15 : decode cX1_init 15 = .ok (.anewarray 17, 3) := by decide +kernel
theorem dX1_init_18 : decode cX1_init 18 = .ok (.putfield 19, 3) := by decide +kernel
theorem dX1_init_21 : decode cX1_init 21 = .ok (.aload_n 0, 1) := by decide +kernel
theorem dX1_init_22 : decode cX1_init 22 = .ok (.iconst 3, 1) := by decide +kernel
theorem dX1_init_23 : decode cX1_init 23 = .ok (.anewarray 23, 3) := by decide +kernel
theorem dX1_init_26 : decode cX1_init 26 = .ok (.putfield 25, 3) := by decide +kernel
theorem dX1_init_29 : decode cX1_init 29 = .ok (.aload_n 0, 1) := by decide +kernel
theorem dX1_init_30 : decode cX1_init 30 = .ok (.iconst 4, 1) := by decide +kernel
theorem dX1_init_31 : decode cX1_init 31 = .ok (.anewarray 29, 3) := by decide +kernel
theorem dX1_init_34 : decode cX1_init 34 = .ok (.putfield 31, 3) := by decide +kernel
theorem dX1_init_37 : decode cX1_init 37 = .ok (.aload_n 0, 1) := by decide +kernel
theorem dX1_init_38 : decode cX1_init 38 = .ok (.sipush 512, 3) := by decide +kernel
theorem dX1_init_41 : decode cX1_init 41 = .ok (.anewarray 35, 3) := by decide +kernel
theorem dX1_init_44 : decode cX1_init 44 = .ok (.putfield 37, 3) := by decide +kernel
theorem dX1_init_47 : decode cX1_init 47 = .ok (.iconst 0, 1) := by decide +kernel
theorem dX1_init_48 : decode cX1_init 48 = .ok (.istore_n 1, 1) := by decide +kernel
theorem dX1_init_49 : decode cX1_init 49 = .ok (.iload_n 1, 1) := by decide +kernel
theorem dX1_init_50 : decode cX1_init 50 = .ok (.iconst 4, 1) := by decide +kernel
theorem dX1_init_51 : decode cX1_init 51 = .ok (.if_icmp .ge 22, 3) := by decide +kernel
theorem dX1_init_54 : decode cX1_init 54 = .ok (.aload_n 0, 1) := by decide +kernel
theorem dX1_init_55 : decode cX1_init 55 = .ok (.getfield 11, 3) := by decide +kernel
theorem dX1_init_58 : decode cX1_init 58 = .ok (.iload_n 1, 1) := by decide +kernel
theorem dX1_init_59 : decode cX1_init 59 = .ok (.new 9, 3) := by decide +kernel
theorem dX1_init_62 : decode cX1_init 62 = .ok (.dup, 1) := by decide +kernel
theorem dX1_init_63 : decode cX1_init 63 = .ok (.invokespecial 41, 3) := by decide +kernel
theorem dX1_init_66 : decode cX1_init 66 = .ok (.aastore, 1) := by decide +kernel
theorem dX1_init_67 : decode cX1_init 67 = .ok (.iinc 1 1, 3) := by decide +kernel
theorem dX1_init_70 : decode cX1_init 70 = .ok (.goto (-21), 3) := by decide +kernel
theorem dX1_init_73 : decode cX1_init 73 = .ok (.iconst 0, 1) := by decide +kernel
theorem dX1_init_74 : decode cX1_init 74 = .ok (.istore_n 1, 1) := by decide +kernel
theorem dX1_init_75 : decode cX1_init 75 = .ok (.iload_n 1, 1) := by decide +kernel
theorem dX1_init_76 : decode cX1_init 76 = .ok (.bipush 10, 2) := by decide +kernel
theorem dX1_init_78 : decode cX1_init 78 = .ok (.if_icmp .ge 22, 3) := by decide +kernel
theorem dX1_init_81 : decode cX1_init 81 = .ok (.aload_n 0, 1) := by decide +kernel
theorem dX1_init_82 : decode cX1_init 82 = .ok (.getfield 19, 3) := by decide +kernel
theorem dX1_init_85 : decode cX1_init 85 = .ok (.iload_n 1, 1) := by decide +kernel
theorem dX1_init_86 : decode cX1_init 86 = .ok (.new 17, 3) := by decide +kernel
theorem dX1_init_89 : decode cX1_init 89 = .ok (.dup, 1) := by decide +kernel
theorem dX1_init_90 : decode cX1_init 90 = .ok (.invokespecial 42, 3) := by decide +kernel
theorem dX1_init_93 : decode cX1_init 93 = .ok (.aastore, 1) := by decide +kernel
theorem dX1_init_94 : decode cX1_init 94 = .ok (.iinc 1 1, 3) := by decide +kernel
theorem dX1_init_97 : decode cX1_init 97 = .ok (.goto (-22), 3) := by decide +kernel
theorem dX1_init_100 : decode cX1_init 100 = .ok (.iconst 0, 1) := by decide +kernel
theorem dX1_init_101 : decode cX1_init 101 = .ok (.istore_n 1, 1) := by decide +kernel
theorem dX1_init_102 : decode cX1_init 102 = .ok (.iload_n 1, 1) := by decide +kernel
theorem dX1_init_103 : decode cX1_init 103 = .ok (.iconst 3, 1) := by decide +kernel
theorem dX1_init_104 : decode cX1_init 104 = .ok (.if_icmp .ge 22, 3) := by decide +kernel
theorem dX1_init_107 : decode cX1_init 107 = .ok (.aload_n 0, 1) := by decide +kernel
theorem dX1_init_108 : decode cX1_init 108 = .ok (.getfield 25, 3) := by decide +kernel
theorem dX1_init_111 : decode cX1_init 111 = .ok (.iload_n 1, 1) := by decide +kernel
theorem dX1_init_112 : decode cX1_init 112 = .ok (.new 23, 3) := by decide +kernel
theorem dX1_init_115 : decode cX1_init 115 = .ok (.dup, 1) := by decide +kernel
theorem dX1_init_116 : decode cX1_init 116 = .ok (.invokespecial 43, 3) := by decide +kernel
theorem dX1_init_119 : decode cX1_init 119 = .ok (.aastore, 1) := by decide +kernel
theorem dX1_init_120 : decode cX1_init 120 = .ok (.iinc 1 1, 3) := by decide +kernel
theorem dX1_init_123 : decode cX1_init 123 = .ok (.goto (-21), 3) := by decide +kernel
theorem dX1_init_126 : decode cX1_init 126 = .ok (.iconst 0, 1) := by decide +kernel
theorem dX1_init_127 : decode cX1_init 127 = .ok (.istore_n 1, 1) := by decide +kernel
theorem dX1_init_128 : decode cX1_init 128 = .ok (.iload_n 1, 1) := by decide +kernel
theorem dX1_init_129 : decode cX1_init 129 = .ok (.iconst 4, 1) := by decide +kernel
theorem dX1_init_130 : decode cX1_init 130 = .ok (.if_icmp .ge 22, 3) := by decide +kernel
theorem dX1_init_133 : decode cX1_init 133 = .ok (.aload_n 0, 1) := by decide +kernel
theorem dX1_init_134 : decode cX1_init 134 = .ok (.getfield 31, 3) := by decide +kernel
theorem dX1_init_137 : decode cX1_init 137 = .ok (.iload_n 1, 1) := by decide +kernel
theorem dX1_init_138 : decode cX1_init 138 = .ok (.new 29, 3) := by decide +kernel
theorem dX1_init_141 : decode cX1_init 141 = .ok (.dup, 1) := by decide +kernel
theorem dX1_init_142 : decode cX1_init 142 = .ok (.invokespecial 44, 3) := by decide +kernel
theorem dX1_init_145 : decode cX1_init 145 = .ok (.aastore, 1) := by decide +kernel
theorem dX1_init_146 : decode cX1_init 146 = .ok (.iinc 1 1, 3) := by decide +kernel
theorem dX1_init_149 : decode cX1_init 149 = .ok (.goto (-21), 3) := by decide +kernel
theorem dX1_init_152 : decode cX1_init 152 = .ok (.iconst 0, 1) := by decide +kernel
theorem dX1_init_153 : decode cX1_init 153 = .ok (.istore_n 1, 1) := by decide +kernel
theorem dX1_init_154 : decode cX1_init 154 = .ok (.iload_n 1, 1) := by decide +kernel
theorem dX1_init_155 : decode cX1_init 155 = .ok (.sipush 512, 3) := by decide +kernel
theorem dX1_init_158 : decode cX1_init 158 = .ok (.if_icmp .ge 22, 3) := by decide +kernel
theorem dX1_init_161 : decode cX1_init 161 = .ok (.aload_n 0, 1) := by decide +kernel
theorem dX1_init_162 : decode cX1_init 162 = .ok (.getfield 37, 3) := by decide +kernel
theorem dX1_init_165 : decode cX1_init 165 = .ok (.iload_n 1, 1) := by decide +kernel
theorem dX1_init_166 : decode cX1_init 166 = .ok (.new 35, 3) := by decide +kernel
theorem dX1_init_169 : decode cX1_init 169 = .ok (.dup, 1) := by decide +kernel
theorem dX1_init_170 : decode cX1_init 170 = .ok (.invokespecial 45, 3) := by decide +kernel
theorem dX1_init_173 : decode cX1_init 173 = .ok (.aastore, 1) := by decide +kernel
theorem dX1_init_174 : decode cX1_init 174 = .ok (.iinc 1 1, 3) := by decide +kernel
theorem dX1_init_177 : decode cX1_init 177 = .ok (.goto (-23), 3) := by decide +kernel
theorem dX1_init_180 : decode cX1_init 180 = .ok (.return_, 1) := by decide +kernel
theorem dX1_copyFrom_0 : decode cX1_copyFrom 0 = .ok (.iconst 0, 1) := by decide +kernel
theorem dX1_copyFrom_1 : decode cX1_copyFrom 1 = .ok (.istore_n 2, 1) := by decide +kernel
theorem dX1_copyFrom_2 : decode cX1_copyFrom 2 = .ok (.iload_n 2, 1) := by decide +kernel
theorem dX1_copyFrom_3 : decode cX1_copyFrom 3 = .ok (.iconst 4, 1) := by decide +kernel
theorem dX1_copyFrom_4 : decode cX1_copyFrom 4 = .ok (.if_icmp .ge 24, 3) := by decide +kernel
theorem dX1_copyFrom_7 : decode cX1_copyFrom 7 = .ok (.aload_n 0, 1) := by decide +kernel
theorem dX1_copyFrom_8 : decode cX1_copyFrom 8 = .ok (.getfield 11, 3) := by decide +kernel
theorem dX1_copyFrom_11 : decode cX1_copyFrom 11 = .ok (.iload_n 2, 1) := by decide +kernel
theorem dX1_copyFrom_12 : decode cX1_copyFrom 12 = .ok (.aaload, 1) := by decide +kernel
theorem dX1_copyFrom_13 : decode cX1_copyFrom 13 = .ok (.aload_n 1, 1) := by decide +kernel
theorem dX1_copyFrom_14 : decode cX1_copyFrom 14 = .ok (.getfield 11, 3) := by decide +kernel
theorem dX1_copyFrom_17 : decode cX1_copyFrom 17 = .ok (.iload_n 2, 1) := by decide +kernel
theorem dX1_copyFrom_18 : decode cX1_copyFrom 18 = .ok (.aaload, 1) := by decide +kernel
theorem dX1_copyFrom_19 : decode cX1_copyFrom 19 = .ok (.invokevirtual 46, 3) := by decide +kernel
theorem dX1_copyFrom_22 : decode cX1_copyFrom 22 = .ok (.iinc 2 1, 3) := by decide +kernel
theorem dX1_copyFrom_25 : decode cX1_copyFrom 25 = .ok (.goto (-23), 3) := by decide +kernel
theorem dX1_copyFrom_28 : decode cX1_copyFrom 28 = .ok (.iconst 0, 1) := by decide +kernel
theorem dX1_copyFrom_29 : decode cX1_copyFrom 29 = .ok (.istore_n 2, 1) := by decide +kernel
theorem dX1_copyFrom_30 : decode cX1_copyFrom 30 = .ok (.iload_n 2, 1) := by decide +kernel
theorem dX1_copyFrom_31 : decode cX1_copyFrom 31 = .ok (.bipush 10, 2) := by decide +kernel
theorem dX1_copyFrom_33 : decode cX1_copyFrom 33 = .ok (.if_icmp .ge 24, 3) := by decide +kernel
theorem dX1_copyFrom_36 : decode cX1_copyFrom 36 = .ok (.aload_n 0, 1) := by decide +kernel
theorem dX1_copyFrom_37 : decode cX1_copyFrom 37 = .ok (.getfield 19, 3) := by decide +kernel
theorem dX1_copyFrom_40 : decode cX1_copyFrom 40 = .ok (.iload_n 2, 1) := by decide +kernel
theorem dX1_copyFrom_41 : decode cX1_copyFrom 41 = .ok (.aaload, 1) := by decide +kernel
theorem dX1_copyFrom_42 : decode cX1_copyFrom 42 = .ok (.aload_n 1, 1) := by decide +kernel
theorem dX1_copyFrom_43 : decode cX1_copyFrom 43 = .ok (.getfield 19, 3) := by decide +kernel
theorem dX1_copyFrom_46 : decode cX1_copyFrom 46 = .ok (.iload_n 2, 1) := by decide +kernel
theorem dX1_copyFrom_47 : decode cX1_copyFrom 47 = .ok (.aaload, 1) := by decide +kernel
theorem dX1_copyFrom_48 : decode cX1_copyFrom 48 = .ok (.invokevirtual 50, 3) := by decide +kernel
theorem dX1_copyFrom_51 : decode cX1_copyFrom 51 = .ok (.iinc 2 1, 3) := by decide +kernel
theorem dX1_copyFrom_54 : decode cX1_copyFrom 54 = .ok (.goto (-24), 3) := by decide +kernel
theorem dX1_copyFrom_57 : decode cX1_copyFrom 57 = .ok (.iconst 0, 1) := by decide +kernel
theorem dX1_copyFrom_58 : decode cX1_copyFrom 58 = .ok (.istore_n 2, 1) := by decide +kernel
theorem dX1_copyFrom_59 : decode cX1_copyFrom 59 = .ok (.iload_n 2, 1) := by decide +kernel
theorem dX1_copyFrom_60 : decode cX1_copyFrom 60 = .ok (.iconst 3, 1) := by decide +kernel
theorem dX1_copyFrom_61 : decode cX1_copyFrom 61 = .ok (.if_icmp .ge 24, 3) := by decide +kernel
theorem dX1_copyFrom_64 : decode cX1_copyFrom 64 = .ok (.aload_n 0, 1) := by decide +kernel
theorem dX1_copyFrom_65 : decode cX1_copyFrom 65 = .ok (.getfield 25, 3) := by decide +kernel
theorem dX1_copyFrom_68 : decode cX1_copyFrom 68 = .ok (.iload_n 2, 1) := by decide +kernel
theorem dX1_copyFrom_69 : decode cX1_copyFrom 69 = .ok (.aaload, 1) := by decide +kernel
theorem dX1_copyFrom_70 : decode cX1_copyFrom 70 = .ok (.aload_n 1, 1) := by decide +kernel
theorem dX1_copyFrom_71 : decode cX1_copyFrom 71 = .ok (.getfield 25, 3) := by decide +kernel
theorem dX1_copyFrom_74 : decode cX1_copyFrom 74 = .ok (.iload_n 2, 1) := by decide +kernel
theorem dX1_copyFrom_75 : decode cX1_copyFrom 75 = .ok (.aaload, 1) := by decide +kernel
theorem dX1_copyFrom_76 : decode cX1_copyFrom 76 = .ok (.invokevirtual 53, 3) := by decide +kernel
theorem dX1_copyFrom_79 : decode cX1_copyFrom 79 = .ok (.iinc 2 1, 3) := by decide +kernel
theorem dX1_copyFrom_82 : decode cX1_copyFrom 82 = .ok (.goto (-23), 3) := by decide +kernel
theorem dX1_copyFrom_85 : decode cX1_copyFrom 85 = .ok (.iconst 0, 1) := by decide +kernel
theorem dX1_copyFrom_86 : decode cX1_copyFrom 86 = .ok (.istore_n 2, 1) := by decide +kernel
theorem dX1_copyFrom_87 : decode cX1_copyFrom 87 = .ok (.iload_n 2, 1) := by decide +kernel
theorem dX1_copyFrom_88 : decode cX1_copyFrom 88 = .ok (.iconst 4, 1) := by decide +kernel
theorem dX1_copyFrom_89 : decode cX1_copyFrom 89 = .ok (.if_icmp .ge 24, 3) := by decide +kernel
theorem dX1_copyFrom_92 : decode cX1_copyFrom 92 = .ok (.aload_n 0, 1) := by decide +kernel
theorem dX1_copyFrom_93 : decode cX1_copyFrom 93 = .ok (.getfield 31, 3) := by decide +kernel
theorem dX1_copyFrom_96 : decode cX1_copyFrom 96 = .ok (.iload_n 2, 1) := by decide +kernel
theorem dX1_copyFrom_97 : decode cX1_copyFrom 97 = .ok (.aaload, 1) := by decide +kernel
theorem dX1_copyFrom_98 : decode cX1_copyFrom 98 = .ok (.aload_n 1, 1) := by decide +kernel
theorem dX1_copyFrom_99 : decode cX1_copyFrom 99 = .ok (.getfield 31, 3) := by decide +kernel
theorem dX1_copyFrom_102 : decode cX1_copyFrom 102 = .ok (.iload_n 2, 1) := by decide +kernel
theorem dX1_copyFrom_103 : decode cX1_copyFrom 103 = .ok (.aaload, 1) := by decide +kernel
theorem dX1_copyFrom_104 : decode cX1_copyFrom 104 = .ok (.invokevirtual 56, 3) := by decide +kernel
theorem dX1_copyFrom_107 : decode cX1_copyFrom 107 = .ok (.iinc 2 1, 3) := by decide +kernel
theorem dX1_copyFrom_110 : decode cX1_copyFrom 110 = .ok (.goto (-23), 3) := by decide +kernel
theorem dX1_copyFrom_113 : decode cX1_copyFrom 113 = .ok (.iconst 0, 1) := by decide +kernel
theorem dX1_copyFrom_114 : decode cX1_copyFrom 114 = .ok (.istore_n 2, 1) := by decide +kernel
theorem dX1_copyFrom_115 : decode cX1_copyFrom 115 = .ok (.iload_n 2, 1) := by decide +kernel
theorem dX1_copyFrom_116 : decode cX1_copyFrom 116 = .ok (.sipush 512, 3) := by decide +kernel
theorem dX1_copyFrom_119 : decode cX1_copyFrom 119 = .ok (.if_icmp .ge 32, 3) := by decide +kernel
theorem dX1_copyFrom_122 : decode cX1_copyFrom 122 = .ok (.iload_n 2, 1) := by decide +kernel
theorem dX1_copyFrom_123 : decode cX1_copyFrom 123 = .ok (.aload_n 1, 1) := by decide +kernel
theorem dX1_copyFrom_124 : decode cX1_copyFrom 124 = .ok (.getfield 59, 3) := by decide +kernel
theorem dX1_copyFrom_127 : decode cX1_copyFrom 127 = .ok (.if_icmp .ge 24, 3) := by decide +kernel
theorem dX1_copyFrom_130 : decode cX1_copyFrom 130 = .ok (.aload_n 0, 1) := by decide +kernel
theorem dX1_copyFrom_131 : decode cX1_copyFrom 131 = .ok (.getfield 37, 3) := by decide +kernel
theorem dX1_copyFrom_134 : decode cX1_copyFrom 134 = .ok (.iload_n 2, 1) := by decide +kernel
theorem dX1_copyFrom_135 : decode cX1_copyFrom 135 = .ok (.aaload, 1) := by decide +kernel
theorem dX1_copyFrom_136 : decode cX1_copyFrom 136 = .ok (.aload_n 1, 1) := by decide +kernel
theorem dX1_copyFrom_137 : decode cX1_copyFrom 137 = .ok (.getfield 37, 3) := by decide +kernel
theorem dX1_copyFrom_140 : decode cX1_copyFrom 140 = .ok (.iload_n 2, 1) := by decide +kernel
theorem dX1_copyFrom_141 : decode cX1_copyFrom 141 = .ok (.aaload, 1) := by decide +kernel
theorem dX1_copyFrom_142 : decode cX1_copyFrom 142 = .ok (.invokevirtual 63, 3) := by decide +kernel
theorem dX1_copyFrom_145 : decode cX1_copyFrom 145 = .ok (.iinc 2 1, 3) := by decide +kernel
theorem dX1_copyFrom_148 : decode cX1_copyFrom 148 = .ok (.goto (-33), 3) := by decide +kernel
theorem dX1_copyFrom_151 : decode cX1_copyFrom 151 = .ok (.aload_n 0, 1) := by decide +kernel
theorem dX1_copyFrom_152 : decode cX1_copyFrom 152 = .ok (.aload_n 1, 1) := by decide +kernel
theorem dX1_copyFrom_153 : decode cX1_copyFrom 153 = .ok (.getfield 66, 3) := by decide +kernel
theorem dX1_copyFrom_156 : decode cX1_copyFrom 156 = .ok (.putfield 66, 3) := by decide +kernel
theorem dX1_copyFrom_159 : decode cX1_copyFrom 159 = .ok (.aload_n 0, 1) := by decide +kernel
theorem dX1_copyFrom_160 : decode cX1_copyFrom 160 = .ok (.aload_n 1, 1) := by decide +kernel
theorem dX1_copyFrom_161 : decode cX1_copyFrom 161 = .ok (.getfield 59, 3) := by decide +kernel
theorem dX1_copyFrom_164 : decode cX1_copyFrom 164 = .ok (.putfield 59, 3) := by decide +kernel
theorem dX1_copyFrom_167 : decode cX1_copyFrom 167 = .ok (.aload_n 0, 1) := by decide +kernel
theorem dX1_copyFrom_168 : decode cX1_copyFrom 168 = .ok (.aload_n 1, 1) := by decide +kernel
theorem dX1_copyFrom_169 : decode cX1_copyFrom 169 = .ok (.getfield 69, 3) := by decide +kernel
theorem dX1_copyFrom_172 : decode cX1_copyFrom 172 = .ok (.putfield 69, 3) := by decide +kernel
theorem dX1_copyFrom_175 : decode cX1_copyFrom 175 = .ok (.return_, 1) := by decide +kernel
theorem dX1_planAt_0 : decode cX1_planAt 0 = .ok (.iload_n 1, 1) := by decide +kernel
theorem dX1_planAt_1 : decode cX1_planAt 1 = .ok (.iconst 0, 1) := by decide +kernel
theorem dX1_planAt_2 : decode cX1_planAt 2 = .ok (.iconst 3, 1) := by decide +kernel
theorem dX1_planAt_3 : decode cX1_planAt 3 = .ok (.invokestatic 72, 3) := by decide +kernel
theorem dX1_planAt_6 : decode cX1_planAt 6 = .ok (.ifCond .eq 12, 3) := by decide +kernel
theorem dX1_planAt_9 : decode cX1_planAt 9 = .ok (.aload_n 0, 1) := by decide +kernel
theorem dX1_planAt_10 : decode cX1_planAt 10 = .ok (.getfield 11, 3) := by decide +kernel
theorem dX1_planAt_13 : decode cX1_planAt 13 = .ok (.iload_n 1, 1) := by decide +kernel
theorem dX1_planAt_14 : decode cX1_planAt 14 = .ok (.aaload, 1) := by decide +kernel
theorem dX1_planAt_15 : decode cX1_planAt 15 = .ok (.goto 4, 3) := by decide +kernel
theorem dX1_planAt_18 : decode cX1_planAt 18 = .ok (.aconst_null, 1) := by decide +kernel
theorem dX1_planAt_19 : decode cX1_planAt 19 = .ok (.areturn, 1) := by decide +kernel
theorem dX1_voucherAt_0 : decode cX1_voucherAt 0 = .ok (.iload_n 1, 1) := by decide +kernel
theorem dX1_voucherAt_1 : decode cX1_voucherAt 1 = .ok (.iconst 0, 1) := by decide +kernel
theorem dX1_voucherAt_2 : decode cX1_voucherAt 2 = .ok (.bipush 9, 2) := by decide +kernel
theorem dX1_voucherAt_4 : decode cX1_voucherAt 4 = .ok (.invokestatic 72, 3) := by decide +kernel
theorem dX1_voucherAt_7 : decode cX1_voucherAt 7 = .ok (.ifCond .eq 15, 3) := by decide +kernel
theorem dX1_voucherAt_10 : decode cX1_voucherAt 10 = .ok (.iload_n 1, 1) := by decide +kernel
theorem dX1_voucherAt_11 : decode cX1_voucherAt 11 = .ok (.aload_n 0, 1) := by decide +kernel
theorem dX1_voucherAt_12 : decode cX1_voucherAt 12 = .ok (.getfield 66, 3) := by decide +kernel
theorem dX1_voucherAt_15 : decode cX1_voucherAt 15 = .ok (.if_icmp .ge 7, 3) := by decide +kernel
theorem dX1_voucherAt_18 : decode cX1_voucherAt 18 = .ok (.iconst 1, 1) := by decide +kernel
theorem dX1_voucherAt_19 : decode cX1_voucherAt 19 = .ok (.goto 4, 3) := by decide +kernel
theorem dX1_voucherAt_22 : decode cX1_voucherAt 22 = .ok (.iconst 0, 1) := by decide +kernel
theorem dX1_voucherAt_23 : decode cX1_voucherAt 23 = .ok (.istore_n 2, 1) := by decide +kernel
theorem dX1_voucherAt_24 : decode cX1_voucherAt 24 = .ok (.iload_n 2, 1) := by decide +kernel
theorem dX1_voucherAt_25 : decode cX1_voucherAt 25 = .ok (.ifCond .eq 12, 3) := by decide +kernel
theorem dX1_voucherAt_28 : decode cX1_voucherAt 28 = .ok (.aload_n 0, 1) := by decide +kernel
theorem dX1_voucherAt_29 : decode cX1_voucherAt 29 = .ok (.getfield 19, 3) := by decide +kernel
theorem dX1_voucherAt_32 : decode cX1_voucherAt 32 = .ok (.iload_n 1, 1) := by decide +kernel
theorem dX1_voucherAt_33 : decode cX1_voucherAt 33 = .ok (.aaload, 1) := by decide +kernel
theorem dX1_voucherAt_34 : decode cX1_voucherAt 34 = .ok (.goto 4, 3) := by decide +kernel
theorem dX1_voucherAt_37 : decode cX1_voucherAt 37 = .ok (.aconst_null, 1) := by decide +kernel
theorem dX1_voucherAt_38 : decode cX1_voucherAt 38 = .ok (.areturn, 1) := by decide +kernel
theorem dX1_folderAt_0 : decode cX1_folderAt 0 = .ok (.iload_n 1, 1) := by decide +kernel
theorem dX1_folderAt_1 : decode cX1_folderAt 1 = .ok (.iconst 0, 1) := by decide +kernel
theorem dX1_folderAt_2 : decode cX1_folderAt 2 = .ok (.iconst 2, 1) := by decide +kernel
theorem dX1_folderAt_3 : decode cX1_folderAt 3 = .ok (.invokestatic 72, 3) := by decide +kernel
theorem dX1_folderAt_6 : decode cX1_folderAt 6 = .ok (.ifCond .eq 19, 3) := by decide +kernel
theorem dX1_folderAt_9 : decode cX1_folderAt 9 = .ok (.aload_n 0, 1) := by decide +kernel
theorem dX1_folderAt_10 : decode cX1_folderAt 10 = .ok (.getfield 25, 3) := by decide +kernel
theorem dX1_folderAt_13 : decode cX1_folderAt 13 = .ok (.iload_n 1, 1) := by decide +kernel
theorem dX1_folderAt_14 : decode cX1_folderAt 14 = .ok (.aaload, 1) := by decide +kernel
theorem dX1_folderAt_15 : decode cX1_folderAt 15 = .ok (.invokevirtual 76, 3) := by decide +kernel
theorem dX1_folderAt_18 : decode cX1_folderAt 18 = .ok (.ifCond .eq 7, 3) := by decide +kernel
theorem dX1_folderAt_21 : decode cX1_folderAt 21 = .ok (.iconst 1, 1) := by decide +kernel
theorem dX1_folderAt_22 : decode cX1_folderAt 22 = .ok (.goto 4, 3) := by decide +kernel
theorem dX1_folderAt_25 : decode cX1_folderAt 25 = .ok (.iconst 0, 1) := by decide +kernel
theorem dX1_folderAt_26 : decode cX1_folderAt 26 = .ok (.istore_n 2, 1) := by decide +kernel
theorem dX1_folderAt_27 : decode cX1_folderAt 27 = .ok (.iload_n 2, 1) := by decide +kernel
theorem dX1_folderAt_28 : decode cX1_folderAt 28 = .ok (.ifCond .eq 12, 3) := by decide +kernel
theorem dX1_folderAt_31 : decode cX1_folderAt 31 = .ok (.aload_n 0, 1) := by decide +kernel
theorem dX1_folderAt_32 : decode cX1_folderAt 32 = .ok (.getfield 25, 3) := by decide +kernel
theorem dX1_folderAt_35 : decode cX1_folderAt 35 = .ok (.iload_n 1, 1) := by decide +kernel
theorem dX1_folderAt_36 : decode cX1_folderAt 36 = .ok (.aaload, 1) := by decide +kernel
theorem dX1_folderAt_37 : decode cX1_folderAt 37 = .ok (.goto 4, 3) := by decide +kernel
theorem dX1_folderAt_40 : decode cX1_folderAt 40 = .ok (.aconst_null, 1) := by decide +kernel
theorem dX1_folderAt_41 : decode cX1_folderAt 41 = .ok (.areturn, 1) := by decide +kernel
theorem dX1_levelAt_0 : decode cX1_levelAt 0 = .ok (.iload_n 1, 1) := by decide +kernel
theorem dX1_levelAt_1 : decode cX1_levelAt 1 = .ok (.iconst 0, 1) := by decide +kernel
theorem dX1_levelAt_2 : decode cX1_levelAt 2 = .ok (.iconst 3, 1) := by decide +kernel
theorem dX1_levelAt_3 : decode cX1_levelAt 3 = .ok (.invokestatic 72, 3) := by decide +kernel
theorem dX1_levelAt_6 : decode cX1_levelAt 6 = .ok (.ifCond .eq 12, 3) := by decide +kernel
theorem dX1_levelAt_9 : decode cX1_levelAt 9 = .ok (.aload_n 0, 1) := by decide +kernel
theorem dX1_levelAt_10 : decode cX1_levelAt 10 = .ok (.getfield 31, 3) := by decide +kernel
theorem dX1_levelAt_13 : decode cX1_levelAt 13 = .ok (.iload_n 1, 1) := by decide +kernel
theorem dX1_levelAt_14 : decode cX1_levelAt 14 = .ok (.aaload, 1) := by decide +kernel
theorem dX1_levelAt_15 : decode cX1_levelAt 15 = .ok (.goto 4, 3) := by decide +kernel
theorem dX1_levelAt_18 : decode cX1_levelAt 18 = .ok (.aconst_null, 1) := by decide +kernel
theorem dX1_levelAt_19 : decode cX1_levelAt 19 = .ok (.areturn, 1) := by decide +kernel
theorem dX1_ticketAt_0 : decode cX1_ticketAt 0 = .ok (.iload_n 1, 1) := by decide +kernel
theorem dX1_ticketAt_1 : decode cX1_ticketAt 1 = .ok (.iconst 0, 1) := by decide +kernel
theorem dX1_ticketAt_2 : decode cX1_ticketAt 2 = .ok (.sipush 511, 3) := by decide +kernel
theorem dX1_ticketAt_5 : decode cX1_ticketAt 5 = .ok (.invokestatic 72, 3) := by decide +kernel
theorem dX1_ticketAt_8 : decode cX1_ticketAt 8 = .ok (.ifCond .eq 15, 3) := by decide +kernel
theorem dX1_ticketAt_11 : decode cX1_ticketAt 11 = .ok (.iload_n 1, 1) := by decide +kernel
theorem dX1_ticketAt_12 : decode cX1_ticketAt 12 = .ok (.aload_n 0, 1) := by decide +kernel
theorem dX1_ticketAt_13 : decode cX1_ticketAt 13 = .ok (.getfield 59, 3) := by decide +kernel
theorem dX1_ticketAt_16 : decode cX1_ticketAt 16 = .ok (.if_icmp .ge 7, 3) := by decide +kernel
theorem dX1_ticketAt_19 : decode cX1_ticketAt 19 = .ok (.iconst 1, 1) := by decide +kernel
theorem dX1_ticketAt_20 : decode cX1_ticketAt 20 = .ok (.goto 4, 3) := by decide +kernel
theorem dX1_ticketAt_23 : decode cX1_ticketAt 23 = .ok (.iconst 0, 1) := by decide +kernel
theorem dX1_ticketAt_24 : decode cX1_ticketAt 24 = .ok (.istore_n 2, 1) := by decide +kernel
theorem dX1_ticketAt_25 : decode cX1_ticketAt 25 = .ok (.iload_n 2, 1) := by decide +kernel
theorem dX1_ticketAt_26 : decode cX1_ticketAt 26 = .ok (.ifCond .eq 12, 3) := by decide +kernel
theorem dX1_ticketAt_29 : decode cX1_ticketAt 29 = .ok (.aload_n 0, 1) := by decide +kernel
theorem dX1_ticketAt_30 : decode cX1_ticketAt 30 = .ok (.getfield 37, 3) := by decide +kernel
theorem dX1_ticketAt_33 : decode cX1_ticketAt 33 = .ok (.iload_n 1, 1) := by decide +kernel
theorem dX1_ticketAt_34 : decode cX1_ticketAt 34 = .ok (.aaload, 1) := by decide +kernel
theorem dX1_ticketAt_35 : decode cX1_ticketAt 35 = .ok (.goto 4, 3) := by decide +kernel
theorem dX1_ticketAt_38 : decode cX1_ticketAt 38 = .ok (.aconst_null, 1) := by decide +kernel
theorem dX1_ticketAt_39 : decode cX1_ticketAt 39 = .ok (.areturn, 1) := by decide +kernel
theorem dX1_ticketInside_0 : decode cX1_ticketInside 0 = .ok (.aload_n 0, 1) := by decide +kernel
theorem dX1_ticketInside_1 : decode cX1_ticketInside 1 = .ok (.iload_n 1, 1) := by decide +kernel
theorem dX1_ticketInside_2 : decode cX1_ticketInside 2 = .ok (.invokevirtual 80, 3) := by decide +kernel
theorem dX1_ticketInside_5 : decode cX1_ticketInside 5 = .ok (.astore_n 2, 1) := by decide +kernel
theorem dX1_ticketInside_6 : decode cX1_ticketInside 6 = .ok (.aload_n 2, 1) := by decide +kernel
theorem dX1_ticketInside_7 : decode cX1_ticketInside 7 = .ok (.ifnull 10, 3) := by decide +kernel
theorem dX1_ticketInside_10 : decode cX1_ticketInside 10 = .ok (.aload_n 2, 1) := by decide +kernel
theorem dX1_ticketInside_11 : decode cX1_ticketInside 11 = .ok (.getfield 84, 3) := by decide +kernel
theorem dX1_ticketInside_14 : decode cX1_ticketInside 14 = .ok (.ifCond .eq 7, 3) := by decide +kernel
theorem dX1_ticketInside_17 : decode cX1_ticketInside 17 = .ok (.aconst_null, 1) := by decide +kernel
theorem dX1_ticketInside_18 : decode cX1_ticketInside 18 = .ok (.goto 4, 3) := by decide +kernel
theorem dX1_ticketInside_21 : decode cX1_ticketInside 21 = .ok (.aload_n 2, 1) := by decide +kernel
theorem dX1_ticketInside_22 : decode cX1_ticketInside 22 = .ok (.areturn, 1) := by decide +kernel
theorem dX1_makeVoucher_0 : decode cX1_makeVoucher 0 = .ok (.aload_n 0, 1) := by decide +kernel
theorem dX1_makeVoucher_1 : decode cX1_makeVoucher 1 = .ok (.getfield 66, 3) := by decide +kernel
theorem dX1_makeVoucher_4 : decode cX1_makeVoucher 4 = .ok (.bipush 10, 2) := by decide +kernel
theorem dX1_makeVoucher_6 : decode cX1_makeVoucher 6 = .ok (.if_icmp .lt 6, 3) := by decide +kernel
theorem dX1_makeVoucher_9 : decode cX1_makeVoucher 9 = .ok (.bipush (-3), 2) := by decide +kernel
theorem dX1_makeVoucher_11 : decode cX1_makeVoucher 11 = .ok (.ireturn, 1) := by decide +kernel
theorem dX1_makeVoucher_12 : decode cX1_makeVoucher 12 = .ok (.aload_n 0, 1) := by decide +kernel
theorem dX1_makeVoucher_13 : decode cX1_makeVoucher 13 = .ok (.getfield 19, 3) := by decide +kernel
theorem dX1_makeVoucher_16 : decode cX1_makeVoucher 16 = .ok (.aload_n 0, 1) := by decide +kernel
theorem dX1_makeVoucher_17 : decode cX1_makeVoucher 17 = .ok (.getfield 66, 3) := by decide +kernel
theorem dX1_makeVoucher_20 : decode cX1_makeVoucher 20 = .ok (.aaload, 1) := by decide +kernel
theorem dX1_makeVoucher_21 : decode cX1_makeVoucher 21 = .ok (.iload_n 1, 1) := by decide +kernel
theorem dX1_makeVoucher_22 : decode cX1_makeVoucher 22 = .ok (.iload_n 2, 1) := by decide +kernel
theorem dX1_makeVoucher_23 : decode cX1_makeVoucher 23 = .ok (.invokevirtual 88, 3) := by decide +kernel
theorem dX1_makeVoucher_26 : decode cX1_makeVoucher 26 = .ok (.aload_n 0, 1) := by decide +kernel
theorem dX1_makeVoucher_27 : decode cX1_makeVoucher 27 = .ok (.dup, 1) := by decide +kernel
theorem dX1_makeVoucher_28 : decode cX1_makeVoucher 28 = .ok (.getfield 66, 3) := by decide +kernel
theorem dX1_makeVoucher_31 : decode cX1_makeVoucher 31 = .ok (.iconst 1, 1) := by decide +kernel
theorem dX1_makeVoucher_32 : decode cX1_makeVoucher 32 = .ok (.iadd, 1) := by decide +kernel
theorem dX1_makeVoucher_33 : decode cX1_makeVoucher 33 = .ok (.putfield 66, 3) := by decide +kernel
theorem dX1_makeVoucher_36 : decode cX1_makeVoucher 36 = .ok (.aload_n 0, 1) := by decide +kernel
theorem dX1_makeVoucher_37 : decode cX1_makeVoucher 37 = .ok (.getfield 66, 3) := by decide +kernel
theorem dX1_makeVoucher_40 : decode cX1_makeVoucher 40 = .ok (.iconst 1, 1) := by decide +kernel
theorem dX1_makeVoucher_41 : decode cX1_makeVoucher 41 = .ok (.isub, 1) := by decide +kernel
theorem dX1_makeVoucher_42 : decode cX1_makeVoucher 42 = .ok (.ireturn, 1) := by decide +kernel
theorem dX1_voucherInFolder_0 : decode cX1_voucherInFolder 0 = .ok (.aload_n 0, 1) := by decide +kernel
theorem dX1_voucherInFolder_1 : decode cX1_voucherInFolder 1 = .ok (.iload_n 1, 1) := by decide +kernel
theorem dX1_voucherInFolder_2 : decode cX1_voucherInFolder 2 = .ok (.invokevirtual 92, 3) := by decide +kernel
theorem dX1_voucherInFolder_5 : decode cX1_voucherInFolder 5 = .ok (.astore_n 3, 1) := by decide +kernel
theorem dX1_voucherInFolder_6 : decode cX1_voucherInFolder 6 = .ok (.aload_n 3, 1) := by decide +kernel
theorem dX1_voucherInFolder_7 : decode cX1_voucherInFolder 7 = .ok (.ifnonnull 7, 3) := by decide +kernel
theorem dX1_voucherInFolder_10 : decode cX1_voucherInFolder 10 = .ok (.iconst (-1), 1) := by decide +kernel
theorem dX1_voucherInFolder_11 : decode cX1_voucherInFolder 11 = .ok (.goto 8, 3) := by decide +kernel
theorem dX1_voucherInFolder_14 : decode cX1_voucherInFolder 14 = .ok (.aload_n 3, 1) := by decide +kernel
theorem dX1_voucherInFolder_15 : decode cX1_voucherInFolder 15 = .ok (.iload_n 2, 1) := by decide +kernel
theorem dX1_voucherInFolder_16 : decode cX1_voucherInFolder 16 = .ok (.invokevirtual 96, 3) := by decide +kernel
theorem dX1_voucherInFolder_19 : decode cX1_voucherInFolder 19 = .ok (.ireturn, 1) := by decide +kernel
theorem dX1_admitCar_0 : decode cX1_admitCar 0 = .ok (.aload_n 0, 1) := by decide +kernel
theorem dX1_admitCar_1 : decode cX1_admitCar 1 = .ok (.invokevirtual 100, 3) := by decide +kernel
theorem dX1_admitCar_4 : decode cX1_admitCar 4 = .ok (.istore_n 2, 1) := by decide +kernel
theorem dX1_admitCar_5 : decode cX1_admitCar 5 = .ok (.aload_n 0, 1) := by decide +kernel
theorem dX1_admitCar_6 : decode cX1_admitCar 6 = .ok (.iload_n 2, 1) := by decide +kernel
theorem dX1_admitCar_7 : decode cX1_admitCar 7 = .ok (.invokevirtual 104, 3) := by decide +kernel
theorem dX1_admitCar_10 : decode cX1_admitCar 10 = .ok (.astore_n 3, 1) := by decide +kernel
theorem dX1_admitCar_11 : decode cX1_admitCar 11 = .ok (.aload_n 3, 1) := by decide +kernel
theorem dX1_admitCar_12 : decode cX1_admitCar 12 = .ok (.ifnull 22, 3) := by decide +kernel
theorem dX1_admitCar_15 : decode cX1_admitCar 15 = .ok (.aload_n 0, 1) := by decide +kernel
theorem dX1_admitCar_16 : decode cX1_admitCar 16 = .ok (.invokevirtual 108, 3) := by decide +kernel
theorem dX1_admitCar_19 : decode cX1_admitCar 19 = .ok (.bipush 40, 2) := by decide +kernel
theorem dX1_admitCar_21 : decode cX1_admitCar 21 = .ok (.if_icmp .ge 13, 3) := by decide +kernel
theorem dX1_admitCar_24 : decode cX1_admitCar 24 = .ok (.aload_n 0, 1) := by decide +kernel
theorem dX1_admitCar_25 : decode cX1_admitCar 25 = .ok (.getfield 59, 3) := by decide +kernel
theorem dX1_admitCar_28 : decode cX1_admitCar 28 = .ok (.sipush 512, 3) := by decide +kernel
theorem dX1_admitCar_31 : decode cX1_admitCar 31 = .ok (.if_icmp .lt 6, 3) := by decide +kernel
theorem dX1_admitCar_34 : decode cX1_admitCar 34 = .ok (.bipush (-3), 2) := by decide +kernel
theorem dX1_admitCar_36 : decode cX1_admitCar 36 = .ok (.ireturn, 1) := by decide +kernel
theorem dX1_admitCar_37 : decode cX1_admitCar 37 = .ok (.aload_n 3, 1) := by decide +kernel
theorem dX1_admitCar_38 : decode cX1_admitCar 38 = .ok (.invokevirtual 111, 3) := by decide +kernel
theorem dX1_admitCar_41 : decode cX1_admitCar 41 = .ok (.aload_n 0, 1) := by decide +kernel
theorem dX1_admitCar_42 : decode cX1_admitCar 42 = .ok (.getfield 37, 3) := by decide +kernel
theorem dX1_admitCar_45 : decode cX1_admitCar 45 = .ok (.aload_n 0, 1) := by decide +kernel
theorem dX1_admitCar_46 : decode cX1_admitCar 46 = .ok (.getfield 59, 3) := by decide +kernel
theorem dX1_admitCar_49 : decode cX1_admitCar 49 = .ok (.aaload, 1) := by decide +kernel
theorem dX1_admitCar_50 : decode cX1_admitCar 50 = .ok (.iload_n 1, 1) := by decide +kernel
theorem dX1_admitCar_51 : decode cX1_admitCar 51 = .ok (.aload_n 0, 1) := by decide +kernel
theorem dX1_admitCar_52 : decode cX1_admitCar 52 = .ok (.getfield 69, 3) := by decide +kernel
theorem dX1_admitCar_55 : decode cX1_admitCar 55 = .ok (.iload_n 2, 1) := by decide +kernel
theorem dX1_admitCar_56 : decode cX1_admitCar 56 = .ok (.invokevirtual 114, 3) := by decide +kernel
theorem dX1_admitCar_59 : decode cX1_admitCar 59 = .ok (.aload_n 0, 1) := by decide +kernel
theorem dX1_admitCar_60 : decode cX1_admitCar 60 = .ok (.dup, 1) := by decide +kernel
theorem dX1_admitCar_61 : decode cX1_admitCar 61 = .ok (.getfield 59, 3) := by decide +kernel
theorem dX1_admitCar_64 : decode cX1_admitCar 64 = .ok (.iconst 1, 1) := by decide +kernel
theorem dX1_admitCar_65 : decode cX1_admitCar 65 = .ok (.iadd, 1) := by decide +kernel
theorem dX1_admitCar_66 : decode cX1_admitCar 66 = .ok (.putfield 59, 3) := by decide +kernel
theorem dX1_admitCar_69 : decode cX1_admitCar 69 = .ok (.aload_n 0, 1) := by decide +kernel
theorem dX1_admitCar_70 : decode cX1_admitCar 70 = .ok (.getfield 59, 3) := by decide +kernel
theorem dX1_admitCar_73 : decode cX1_admitCar 73 = .ok (.iconst 1, 1) := by decide +kernel
theorem dX1_admitCar_74 : decode cX1_admitCar 74 = .ok (.isub, 1) := by decide +kernel
theorem dX1_admitCar_75 : decode cX1_admitCar 75 = .ok (.ireturn, 1) := by decide +kernel
theorem dX1_bestLevel_0 : decode cX1_bestLevel 0 = .ok (.iconst (-1), 1) := by decide +kernel
theorem dX1_bestLevel_1 : decode cX1_bestLevel 1 = .ok (.istore_n 1, 1) := by decide +kernel
theorem dX1_bestLevel_2 : decode cX1_bestLevel 2 = .ok (.fconst 0, 1) := by decide +kernel
theorem dX1_bestLevel_3 : decode cX1_bestLevel 3 = .ok (.fstore_n 2, 1) := by decide +kernel
theorem dX1_bestLevel_4 : decode cX1_bestLevel 4 = .ok (.iconst 0, 1) := by decide +kernel
theorem dX1_bestLevel_5 : decode cX1_bestLevel 5 = .ok (.istore_n 3, 1) := by decide +kernel
theorem dX1_bestLevel_6 : decode cX1_bestLevel 6 = .ok (.iload_n 3, 1) := by decide +kernel
theorem dX1_bestLevel_7 : decode cX1_bestLevel 7 = .ok (.iconst 4, 1) := by decide +kernel
theorem dX1_bestLevel_8 : decode cX1_bestLevel 8 = .ok (.if_icmp .ge 49, 3) := by decide +kernel
theorem dX1_bestLevel_11 : decode cX1_bestLevel 11 = .ok (.aload_n 0, 1) := by decide +kernel
theorem dX1_bestLevel_12 : decode cX1_bestLevel 12 = .ok (.getfield 31, 3) := by decide +kernel
theorem dX1_bestLevel_15 : decode cX1_bestLevel 15 = .ok (.iload_n 3, 1) := by decide +kernel
theorem dX1_bestLevel_16 : decode cX1_bestLevel 16 = .ok (.aaload, 1) := by decide +kernel
theorem dX1_bestLevel_17 : decode cX1_bestLevel 17 = .ok (.invokevirtual 117, 3) := by decide +kernel
theorem dX1_bestLevel_20 : decode cX1_bestLevel 20 = .ok (.fstore 4, 2) := by decide +kernel
theorem dX1_bestLevel_22 : decode cX1_bestLevel 22 = .ok (.aload_n 0, 1) := by decide +kernel
theorem dX1_bestLevel_23 : decode cX1_bestLevel 23 = .ok (.getfield 31, 3) := by decide +kernel
theorem dX1_bestLevel_26 : decode cX1_bestLevel 26 = .ok (.iload_n 3, 1) := by decide +kernel
theorem dX1_bestLevel_27 : decode cX1_bestLevel 27 = .ok (.aaload, 1) := by decide +kernel
theorem dX1_bestLevel_28 : decode cX1_bestLevel 28 = .ok (.invokevirtual 121, 3) := by decide +kernel
theorem dX1_bestLevel_31 : decode cX1_bestLevel 31 = .ok (.ifCond .le 20, 3) := by decide +kernel
theorem dX1_bestLevel_34 : decode cX1_bestLevel 34 = .ok (.iload_n 1, 1) := by decide +kernel
theorem dX1_bestLevel_35 : decode cX1_bestLevel 35 = .ok (.iconst (-1), 1) := by decide +kernel
theorem dX1_bestLevel_36 : decode cX1_bestLevel 36 = .ok (.if_icmp .eq 10, 3) := by decide +kernel
theorem dX1_bestLevel_39 : decode cX1_bestLevel 39 = .ok (.fload 4, 2) := by decide +kernel
theorem dX1_bestLevel_41 : decode cX1_bestLevel 41 = .ok (.fload_n 2, 1) := by decide +kernel
theorem dX1_bestLevel_42 : decode cX1_bestLevel 42 = .ok (.fcmp .l, 1) := by decide +kernel
theorem dX1_bestLevel_43 : decode cX1_bestLevel 43 = .ok (.ifCond .le 8, 3) := by decide +kernel
theorem dX1_bestLevel_46 : decode cX1_bestLevel 46 = .ok (.iload_n 3, 1) := by decide +kernel
theorem dX1_bestLevel_47 : decode cX1_bestLevel 47 = .ok (.istore_n 1, 1) := by decide +kernel
theorem dX1_bestLevel_48 : decode cX1_bestLevel 48 = .ok (.fload 4, 2) := by decide +kernel
theorem dX1_bestLevel_50 : decode cX1_bestLevel 50 = .ok (.fstore_n 2, 1) := by decide +kernel
theorem dX1_bestLevel_51 : decode cX1_bestLevel 51 = .ok (.iinc 3 1, 3) := by decide +kernel
theorem dX1_bestLevel_54 : decode cX1_bestLevel 54 = .ok (.goto (-48), 3) := by decide +kernel
theorem dX1_bestLevel_57 : decode cX1_bestLevel 57 = .ok (.iload_n 1, 1) := by decide +kernel
theorem dX1_bestLevel_58 : decode cX1_bestLevel 58 = .ok (.ireturn, 1) := by decide +kernel
theorem dX1_releaseCar_0 : decode cX1_releaseCar 0 = .ok (.aload_n 1, 1) := by decide +kernel
theorem dX1_releaseCar_1 : decode cX1_releaseCar 1 = .ok (.iconst 1, 1) := by decide +kernel
theorem dX1_releaseCar_2 : decode cX1_releaseCar 2 = .ok (.putfield 84, 3) := by decide +kernel
theorem dX1_releaseCar_5 : decode cX1_releaseCar 5 = .ok (.aload_n 0, 1) := by decide +kernel
theorem dX1_releaseCar_6 : decode cX1_releaseCar 6 = .ok (.aload_n 1, 1) := by decide +kernel
theorem dX1_releaseCar_7 : decode cX1_releaseCar 7 = .ok (.getfield 124, 3) := by decide +kernel
theorem dX1_releaseCar_10 : decode cX1_releaseCar 10 = .ok (.invokevirtual 104, 3) := by decide +kernel
theorem dX1_releaseCar_13 : decode cX1_releaseCar 13 = .ok (.astore_n 2, 1) := by decide +kernel
theorem dX1_releaseCar_14 : decode cX1_releaseCar 14 = .ok (.aload_n 2, 1) := by decide +kernel
theorem dX1_releaseCar_15 : decode cX1_releaseCar 15 = .ok (.ifnull 7, 3) := by decide +kernel
theorem dX1_releaseCar_18 : decode cX1_releaseCar 18 = .ok (.aload_n 2, 1) := by decide +kernel
theorem dX1_releaseCar_19 : decode cX1_releaseCar 19 = .ok (.invokevirtual 127, 3) := by decide +kernel
theorem dX1_releaseCar_22 : decode cX1_releaseCar 22 = .ok (.return_, 1) := by decide +kernel
theorem dX1_dueAmount_0 : decode cX1_dueAmount 0 = .ok (.aload_n 1, 1) := by decide +kernel
theorem dX1_dueAmount_1 : decode cX1_dueAmount 1 = .ok (.getfield 130, 3) := by decide +kernel
theorem dX1_dueAmount_4 : decode cX1_dueAmount 4 = .ok (.ifCond .eq 12, 3) := by decide +kernel
theorem dX1_dueAmount_7 : decode cX1_dueAmount 7 = .ok (.aload_n 0, 1) := by decide +kernel
theorem dX1_dueAmount_8 : decode cX1_dueAmount 8 = .ok (.aload_n 1, 1) := by decide +kernel
theorem dX1_dueAmount_9 : decode cX1_dueAmount 9 = .ok (.iload_n 2, 1) := by decide +kernel
theorem dX1_dueAmount_10 : decode cX1_dueAmount 10 = .ok (.invokevirtual 133, 3) := by decide +kernel
theorem dX1_dueAmount_13 : decode cX1_dueAmount 13 = .ok (.goto 10, 3) := by decide +kernel
theorem dX1_dueAmount_16 : decode cX1_dueAmount 16 = .ok (.aload_n 0, 1) := by decide +kernel
theorem dX1_dueAmount_17 : decode cX1_dueAmount 17 = .ok (.aload_n 1, 1) := by decide +kernel
theorem dX1_dueAmount_18 : decode cX1_dueAmount 18 = .ok (.iload_n 2, 1) := by decide +kernel
theorem dX1_dueAmount_19 : decode cX1_dueAmount 19 = .ok (.iconst 4, 1) := by decide +kernel
theorem dX1_dueAmount_20 : decode cX1_dueAmount 20 = .ok (.invokevirtual 137, 3) := by decide +kernel
theorem dX1_dueAmount_23 : decode cX1_dueAmount 23 = .ok (.istore_n 3, 1) := by decide +kernel
theorem dX1_dueAmount_24 : decode cX1_dueAmount 24 = .ok (.iconst 0, 1) := by decide +kernel
theorem dX1_dueAmount_25 : decode cX1_dueAmount 25 = .ok (.iload_n 3, 1) := by decide +kernel
theorem dX1_dueAmount_26 : decode cX1_dueAmount 26 = .ok (.aload_n 1, 1) := by decide +kernel
theorem dX1_dueAmount_27 : decode cX1_dueAmount 27 = .ok (.getfield 141, 3) := by decide +kernel
theorem dX1_dueAmount_30 : decode cX1_dueAmount 30 = .ok (.isub, 1) := by decide +kernel
theorem dX1_dueAmount_31 : decode cX1_dueAmount 31 = .ok (.invokestatic 144, 3) := by decide +kernel
theorem dX1_dueAmount_34 : decode cX1_dueAmount 34 = .ok (.ireturn, 1) := by decide +kernel
theorem dX1_amountOfLost_0 : decode cX1_amountOfLost 0 = .ok (.aload_n 0, 1) := by decide +kernel
theorem dX1_amountOfLost_1 : decode cX1_amountOfLost 1 = .ok (.aload_n 1, 1) := by decide +kernel
theorem dX1_amountOfLost_2 : decode cX1_amountOfLost 2 = .ok (.getfield 150, 3) := by decide +kernel
theorem dX1_amountOfLost_5 : decode cX1_amountOfLost 5 = .ok (.invokevirtual 153, 3) := by decide +kernel
theorem dX1_amountOfLost_8 : decode cX1_amountOfLost 8 = .ok (.astore_n 3, 1) := by decide +kernel
theorem dX1_amountOfLost_9 : decode cX1_amountOfLost 9 = .ok (.aload_n 3, 1) := by decide +kernel
theorem dX1_amountOfLost_10 : decode cX1_amountOfLost 10 = .ok (.ifnonnull 5, 3) := by decide +kernel
theorem dX1_amountOfLost_13 : decode cX1_amountOfLost 13 = .ok (.iconst 0, 1) := by decide +kernel
theorem dX1_amountOfLost_14 : decode cX1_amountOfLost 14 = .ok (.ireturn, 1) := by decide +kernel
theorem dX1_amountOfLost_15 : decode cX1_amountOfLost 15 = .ok (.aload_n 3, 1) := by decide +kernel
theorem dX1_amountOfLost_16 : decode cX1_amountOfLost 16 = .ok (.getfield 157, 3) := by decide +kernel
theorem dX1_amountOfLost_19 : decode cX1_amountOfLost 19 = .ok (.aload_n 3, 1) := by decide +kernel
theorem dX1_amountOfLost_20 : decode cX1_amountOfLost 20 = .ok (.aload_n 1, 1) := by decide +kernel
theorem dX1_amountOfLost_21 : decode cX1_amountOfLost 21 = .ok (.getfield 160, 3) := by decide +kernel
theorem dX1_amountOfLost_24 : decode cX1_amountOfLost 24 = .ok (.iload_n 2, 1) := by decide +kernel
theorem dX1_amountOfLost_25 : decode cX1_amountOfLost 25 = .ok (.invokevirtual 163, 3) := by decide +kernel
theorem dX1_amountOfLost_28 : decode cX1_amountOfLost 28 = .ok (.invokestatic 144, 3) := by decide +kernel
theorem dX1_amountOfLost_31 : decode cX1_amountOfLost 31 = .ok (.ireturn, 1) := by decide +kernel
theorem dX1_amountAfter_0 : decode cX1_amountAfter 0 = .ok (.aload_n 0, 1) := by decide +kernel
theorem dX1_amountAfter_1 : decode cX1_amountAfter 1 = .ok (.aload_n 1, 1) := by decide +kernel
theorem dX1_amountAfter_2 : decode cX1_amountAfter 2 = .ok (.iload_n 2, 1) := by decide +kernel
theorem dX1_amountAfter_3 : decode cX1_amountAfter 3 = .ok (.invokevirtual 166, 3) := by decide +kernel
theorem dX1_amountAfter_6 : decode cX1_amountAfter 6 = .ok (.istore 4, 2) := by decide +kernel
theorem dX1_amountAfter_8 : decode cX1_amountAfter 8 = .ok (.iconst 0, 1) := by decide +kernel
theorem dX1_amountAfter_9 : decode cX1_amountAfter 9 = .ok (.istore 5, 2) := by decide +kernel
theorem dX1_amountAfter_11 : decode cX1_amountAfter 11 = .ok (.iconst 0, 1) := by decide +kernel
theorem dX1_amountAfter_12 : decode cX1_amountAfter 12 = .ok (.istore 6, 2) := by decide +kernel
theorem dX1_amountAfter_14 : decode cX1_amountAfter 14 = .ok (.iload 6, 2) := by decide +kernel
theorem dX1_amountAfter_16 : decode cX1_amountAfter 16 = .ok (.aload_n 1, 1) := by decide +kernel
theorem dX1_amountAfter_17 : decode cX1_amountAfter 17 = .ok (.getfield 169, 3) := by decide +kernel
theorem dX1_amountAfter_20 : decode cX1_amountAfter 20 = .ok (.if_icmp .ge 52, 3) := by decide +kernel
theorem dX1_amountAfter_23 : decode cX1_amountAfter 23 = .ok (.iload 5, 2) := by decide +kernel
theorem dX1_amountAfter_25 : decode cX1_amountAfter 25 = .ok (.iload_n 3, 1) := by decide +kernel
theorem dX1_amountAfter_26 : decode cX1_amountAfter 26 = .ok (.if_icmp .ge 46, 3) := by decide +kernel
theorem dX1_amountAfter_29 : decode cX1_amountAfter 29 = .ok (.aload_n 0, 1) := by decide +kernel
theorem dX1_amountAfter_30 : decode cX1_amountAfter 30 = .ok (.aload_n 1, 1) := by decide +kernel
theorem dX1_amountAfter_31 : decode cX1_amountAfter 31 = .ok (.iload 6, 2) := by decide +kernel
theorem dX1_amountAfter_33 : decode cX1_amountAfter 33 = .ok (.invokevirtual 170, 3) := by decide +kernel
theorem dX1_amountAfter_36 : decode cX1_amountAfter 36 = .ok (.invokevirtual 173, 3) := by decide +kernel
theorem dX1_amountAfter_39 : decode cX1_amountAfter 39 = .ok (.astore 7, 2) := by decide +kernel
theorem dX1_amountAfter_41 : decode cX1_amountAfter 41 = .ok (.aload 7, 2) := by decide +kernel
theorem dX1_amountAfter_43 : decode cX1_amountAfter 43 = .ok (.ifnull 23, 3) := by decide +kernel
theorem dX1_amountAfter_46 : decode cX1_amountAfter 46 = .ok (.aload 7, 2) := by decide +kernel
theorem dX1_amountAfter_48 : decode cX1_amountAfter 48 = .ok (.getfield 177, 3) := by decide +kernel
theorem dX1_amountAfter_51 : decode cX1_amountAfter 51 = .ok (.ifCond .eq 15, 3) := by decide +kernel
theorem dX1_amountAfter_54 : decode cX1_amountAfter 54 = .ok (.aload 7, 2) := by decide +kernel
theorem dX1_amountAfter_56 : decode cX1_amountAfter 56 = .ok (.iload 4, 2) := by decide +kernel
theorem dX1_amountAfter_58 : decode cX1_amountAfter 58 = .ok (.invokevirtual 180, 3) := by decide +kernel
theorem dX1_amountAfter_61 : decode cX1_amountAfter 61 = .ok (.istore 4, 2) := by decide +kernel
theorem dX1_amountAfter_63 : decode cX1_amountAfter 63 = .ok (.iinc 5 1, 3) := by decide +kernel
theorem dX1_amountAfter_66 : decode cX1_amountAfter 66 = .ok (.iinc 6 1, 3) := by decide +kernel
theorem dX1_amountAfter_69 : decode cX1_amountAfter 69 = .ok (.goto (-55), 3) := by decide +kernel
theorem dX1_amountAfter_72 : decode cX1_amountAfter 72 = .ok (.iload 4, 2) := by decide +kernel
theorem dX1_amountAfter_74 : decode cX1_amountAfter 74 = .ok (.ireturn, 1) := by decide +kernel
theorem dX1_feeOfShortenedStay_0 : decode cX1_feeOfShortenedStay 0 = .ok (.aload_n 0, 1) := by decide +kernel
theorem dX1_feeOfShortenedStay_1 : decode cX1_feeOfShortenedStay 1 = .ok (.aload_n 1, 1) := by decide +kernel
theorem dX1_feeOfShortenedStay_2 : decode cX1_feeOfShortenedStay 2 = .ok (.getfield 150, 3) := by decide +kernel
theorem dX1_feeOfShortenedStay_5 : decode cX1_feeOfShortenedStay 5 = .ok (.invokevirtual 153, 3) := by decide +kernel
theorem dX1_feeOfShortenedStay_8 : decode cX1_feeOfShortenedStay 8 = .ok (.astore_n 3, 1) := by decide +kernel
theorem dX1_feeOfShortenedStay_9 : decode cX1_feeOfShortenedStay 9 = .ok (.aload_n 1, 1) := by decide +kernel
theorem dX1_feeOfShortenedStay_10 : decode cX1_feeOfShortenedStay 10 = .ok (.getfield 160, 3) := by decide +kernel
theorem dX1_feeOfShortenedStay_13 : decode cX1_feeOfShortenedStay 13 = .ok (.aload_n 0, 1) := by decide +kernel
theorem dX1_feeOfShortenedStay_14 : decode cX1_feeOfShortenedStay 14 = .ok (.aload_n 1, 1) := by decide +kernel
theorem dX1_feeOfShortenedStay_15 : decode cX1_feeOfShortenedStay 15 = .ok (.invokevirtual 183, 3) := by decide +kernel
theorem dX1_feeOfShortenedStay_18 : decode cX1_feeOfShortenedStay 18 = .ok (.iadd, 1) := by decide +kernel
theorem dX1_feeOfShortenedStay_19 : decode cX1_feeOfShortenedStay 19 = .ok (.istore 4, 2) := by decide +kernel
theorem dX1_feeOfShortenedStay_21 : decode cX1_feeOfShortenedStay 21 = .ok (.aload_n 3, 1) := by decide +kernel
theorem dX1_feeOfShortenedStay_22 : decode cX1_feeOfShortenedStay 22 = .ok (.ifnull 9, 3) := by decide +kernel
theorem dX1_feeOfShortenedStay_25 : decode cX1_feeOfShortenedStay 25 = .ok (.iload 4, 2) := by decide +kernel
theorem dX1_feeOfShortenedStay_27 : decode cX1_feeOfShortenedStay 27 = .ok (.iload_n 2, 1) := by decide +kernel
theorem dX1_feeOfShortenedStay_28 : decode cX1_feeOfShortenedStay 28 = .ok (.if_icmp .lt 7, 3) := by decide +kernel
theorem dX1_feeOfShortenedStay_31 : decode cX1_feeOfShortenedStay 31 = .ok (.iconst 0, 1) := by decide +kernel
theorem dX1_feeOfShortenedStay_32 : decode cX1_feeOfShortenedStay 32 = .ok (.goto 10, 3) := by decide +kernel
theorem dX1_feeOfShortenedStay_35 : decode cX1_feeOfShortenedStay 35 = .ok (.aload_n 3, 1) := by decide +kernel
theorem dX1_feeOfShortenedStay_36 : decode cX1_feeOfShortenedStay 36 = .ok (.iload 4, 2) := by decide +kernel
theorem dX1_feeOfShortenedStay_38 : decode cX1_feeOfShortenedStay 38 = .ok (.iload_n 2, 1) := by decide +kernel
theorem dX1_feeOfShortenedStay_39 : decode cX1_feeOfShortenedStay 39 = .ok (.invokevirtual 163, 3) := by decide +kernel
theorem dX1_feeOfShortenedStay_42 : decode cX1_feeOfShortenedStay 42 = .ok (.ireturn, 1) := by decide +kernel
theorem dX1_minutesGiven_0 : decode cX1_minutesGiven 0 = .ok (.iconst 0, 1) := by decide +kernel
theorem dX1_minutesGiven_1 : decode cX1_minutesGiven 1 = .ok (.istore_n 2, 1) := by decide +kernel
theorem dX1_minutesGiven_2 : decode cX1_minutesGiven 2 = .ok (.iconst 0, 1) := by decide +kernel
theorem dX1_minutesGiven_3 : decode cX1_minutesGiven 3 = .ok (.istore_n 3, 1) := by decide +kernel
theorem dX1_minutesGiven_4 : decode cX1_minutesGiven 4 = .ok (.iload_n 3, 1) := by decide +kernel
theorem dX1_minutesGiven_5 : decode cX1_minutesGiven 5 = .ok (.aload_n 1, 1) := by decide +kernel
theorem dX1_minutesGiven_6 : decode cX1_minutesGiven 6 = .ok (.getfield 169, 3) := by decide +kernel
theorem dX1_minutesGiven_9 : decode cX1_minutesGiven 9 = .ok (.if_icmp .ge 41, 3) := by decide +kernel
theorem dX1_minutesGiven_12 : decode cX1_minutesGiven 12 = .ok (.aload_n 0, 1) := by decide +kernel
theorem dX1_minutesGiven_13 : decode cX1_minutesGiven 13 = .ok (.aload_n 1, 1) := by decide +kernel
theorem dX1_minutesGiven_14 : decode cX1_minutesGiven 14 = .ok (.iload_n 3, 1) := by decide +kernel
theorem dX1_minutesGiven_15 : decode cX1_minutesGiven 15 = .ok (.invokevirtual 170, 3) := by decide +kernel
theorem dX1_minutesGiven_18 : decode cX1_minutesGiven 18 = .ok (.invokevirtual 173, 3) := by decide +kernel
theorem dX1_minutesGiven_21 : decode cX1_minutesGiven 21 = .ok (.astore 4, 2) := by decide +kernel
theorem dX1_minutesGiven_23 : decode cX1_minutesGiven 23 = .ok (.aload 4, 2) := by decide +kernel
theorem dX1_minutesGiven_25 : decode cX1_minutesGiven 25 = .ok (.ifnull 19, 3) := by decide +kernel
theorem dX1_minutesGiven_28 : decode cX1_minutesGiven 28 = .ok (.aload 4, 2) := by decide +kernel
theorem dX1_minutesGiven_30 : decode cX1_minutesGiven 30 = .ok (.getfield 177, 3) := by decide +kernel
theorem dX1_minutesGiven_33 : decode cX1_minutesGiven 33 = .ok (.ifCond .ne 11, 3) := by decide +kernel
theorem dX1_minutesGiven_36 : decode cX1_minutesGiven 36 = .ok (.iload_n 2, 1) := by decide +kernel
theorem dX1_minutesGiven_37 : decode cX1_minutesGiven 37 = .ok (.aload 4, 2) := by decide +kernel
theorem dX1_minutesGiven_39 : decode cX1_minutesGiven 39 = .ok (.getfield 187, 3) := by decide +kernel
theorem dX1_minutesGiven_42 : decode cX1_minutesGiven 42 = .ok (.iadd, 1) := by decide +kernel
theorem dX1_minutesGiven_43 : decode cX1_minutesGiven 43 = .ok (.istore_n 2, 1) := by decide +kernel
theorem dX1_minutesGiven_44 : decode cX1_minutesGiven 44 = .ok (.iinc 3 1, 3) := by decide +kernel
theorem dX1_minutesGiven_47 : decode cX1_minutesGiven 47 = .ok (.goto (-43), 3) := by decide +kernel
theorem dX1_minutesGiven_50 : decode cX1_minutesGiven 50 = .ok (.iload_n 2, 1) := by decide +kernel
theorem dX1_minutesGiven_51 : decode cX1_minutesGiven 51 = .ok (.ireturn, 1) := by decide +kernel
theorem dX1_lastStep_0 : decode cX1_lastStep 0 = .ok (.iconst 0, 1) := by decide +kernel
theorem dX1_lastStep_1 : decode cX1_lastStep 1 = .ok (.istore_n 2, 1) := by decide +kernel
theorem dX1_lastStep_2 : decode cX1_lastStep 2 = .ok (.iconst 0, 1) := by decide +kernel
theorem dX1_lastStep_3 : decode cX1_lastStep 3 = .ok (.istore_n 3, 1) := by decide +kernel
theorem dX1_lastStep_4 : decode cX1_lastStep 4 = .ok (.iload_n 3, 1) := by decide +kernel
theorem dX1_lastStep_5 : decode cX1_lastStep 5 = .ok (.aload_n 1, 1) := by decide +kernel
theorem dX1_lastStep_6 : decode cX1_lastStep 6 = .ok (.getfield 169, 3) := by decide +kernel
theorem dX1_lastStep_9 : decode cX1_lastStep 9 = .ok (.if_icmp .ge 36, 3) := by decide +kernel
theorem dX1_lastStep_12 : decode cX1_lastStep 12 = .ok (.aload_n 0, 1) := by decide +kernel
theorem dX1_lastStep_13 : decode cX1_lastStep 13 = .ok (.aload_n 1, 1) := by decide +kernel
theorem dX1_lastStep_14 : decode cX1_lastStep 14 = .ok (.iload_n 3, 1) := by decide +kernel
theorem dX1_lastStep_15 : decode cX1_lastStep 15 = .ok (.invokevirtual 170, 3) := by decide +kernel
theorem dX1_lastStep_18 : decode cX1_lastStep 18 = .ok (.invokevirtual 173, 3) := by decide +kernel
theorem dX1_lastStep_21 : decode cX1_lastStep 21 = .ok (.astore 4, 2) := by decide +kernel
theorem dX1_lastStep_23 : decode cX1_lastStep 23 = .ok (.aload 4, 2) := by decide +kernel
theorem dX1_lastStep_25 : decode cX1_lastStep 25 = .ok (.ifnull 14, 3) := by decide +kernel
theorem dX1_lastStep_28 : decode cX1_lastStep 28 = .ok (.aload 4, 2) := by decide +kernel
theorem dX1_lastStep_30 : decode cX1_lastStep 30 = .ok (.getfield 177, 3) := by decide +kernel
theorem dX1_lastStep_33 : decode cX1_lastStep 33 = .ok (.ifCond .eq 6, 3) := by decide +kernel
theorem dX1_lastStep_36 : decode cX1_lastStep 36 = .ok (.iinc 2 1, 3) := by decide +kernel
theorem dX1_lastStep_39 : decode cX1_lastStep 39 = .ok (.iinc 3 1, 3) := by decide +kernel
theorem dX1_lastStep_42 : decode cX1_lastStep 42 = .ok (.goto (-38), 3) := by decide +kernel
theorem dX1_lastStep_45 : decode cX1_lastStep 45 = .ok (.iload_n 2, 1) := by decide +kernel
theorem dX1_lastStep_46 : decode cX1_lastStep 46 = .ok (.ireturn, 1) := by decide +kernel
theorem dX1_moveClock_0 : decode cX1_moveClock 0 = .ok (.aload_n 0, 1) := by decide +kernel
theorem dX1_moveClock_1 : decode cX1_moveClock 1 = .ok (.getfield 69, 3) := by decide +kernel
theorem dX1_moveClock_4 : decode cX1_moveClock 4 = .ok (.iload_n 1, 1) := by decide +kernel
theorem dX1_moveClock_5 : decode cX1_moveClock 5 = .ok (.iadd, 1) := by decide +kernel
theorem dX1_moveClock_6 : decode cX1_moveClock 6 = .ok (.bipush 60, 2) := by decide +kernel
theorem dX1_moveClock_8 : decode cX1_moveClock 8 = .ok (.idiv, 1) := by decide +kernel
theorem dX1_moveClock_9 : decode cX1_moveClock 9 = .ok (.istore_n 2, 1) := by decide +kernel
theorem dX1_moveClock_10 : decode cX1_moveClock 10 = .ok (.aload_n 0, 1) := by decide +kernel
theorem dX1_moveClock_11 : decode cX1_moveClock 11 = .ok (.getfield 69, 3) := by decide +kernel
theorem dX1_moveClock_14 : decode cX1_moveClock 14 = .ok (.bipush 60, 2) := by decide +kernel
theorem dX1_moveClock_16 : decode cX1_moveClock 16 = .ok (.idiv, 1) := by decide +kernel
theorem dX1_moveClock_17 : decode cX1_moveClock 17 = .ok (.istore_n 3, 1) := by decide +kernel
theorem dX1_moveClock_18 : decode cX1_moveClock 18 = .ok (.iload_n 3, 1) := by decide +kernel
theorem dX1_moveClock_19 : decode cX1_moveClock 19 = .ok (.iload_n 2, 1) := by decide +kernel
theorem dX1_moveClock_20 : decode cX1_moveClock 20 = .ok (.if_icmp .ge 48, 3) := by decide +kernel
theorem dX1_moveClock_23 : decode cX1_moveClock 23 = .ok (.aload_n 0, 1) := by decide +kernel
theorem dX1_moveClock_24 : decode cX1_moveClock 24 = .ok (.getfield 31, 3) := by decide +kernel
theorem dX1_moveClock_27 : decode cX1_moveClock 27 = .ok (.astore 4, 2) := by decide +kernel
theorem dX1_moveClock_29 : decode cX1_moveClock 29 = .ok (.aload 4, 2) := by decide +kernel
theorem dX1_moveClock_31 : decode cX1_moveClock 31 = .ok (.arraylength, 1) := by decide +kernel
theorem dX1_moveClock_32 : decode cX1_moveClock 32 = .ok (.istore 5, 2) := by decide +kernel
theorem dX1_moveClock_34 : decode cX1_moveClock 34 = .ok (.iconst 0, 1) := by decide +kernel
theorem dX1_moveClock_35 : decode cX1_moveClock 35 = .ok (.istore 6, 2) := by decide +kernel
theorem dX1_moveClock_37 : decode cX1_moveClock 37 = .ok (.iload 6, 2) := by decide +kernel
theorem dX1_moveClock_39 : decode cX1_moveClock 39 = .ok (.iload 5, 2) := by decide +kernel
theorem dX1_moveClock_41 : decode cX1_moveClock 41 = .ok (.if_icmp .ge 21, 3) := by decide +kernel
theorem dX1_moveClock_44 : decode cX1_moveClock 44 = .ok (.aload 4, 2) := by decide +kernel
theorem dX1_moveClock_46 : decode cX1_moveClock 46 = .ok (.iload 6, 2) := by decide +kernel
theorem dX1_moveClock_48 : decode cX1_moveClock 48 = .ok (.aaload, 1) := by decide +kernel
theorem dX1_moveClock_49 : decode cX1_moveClock 49 = .ok (.astore 7, 2) := by decide +kernel
theorem dX1_moveClock_51 : decode cX1_moveClock 51 = .ok (.aload 7, 2) := by decide +kernel
theorem dX1_moveClock_53 : decode cX1_moveClock 53 = .ok (.invokevirtual 190, 3) := by decide +kernel
theorem dX1_moveClock_56 : decode cX1_moveClock 56 = .ok (.iinc 6 1, 3) := by decide +kernel
theorem dX1_moveClock_59 : decode cX1_moveClock 59 = .ok (.goto (-22), 3) := by decide +kernel
theorem dX1_moveClock_62 : decode cX1_moveClock 62 = .ok (.iinc 3 1, 3) := by decide +kernel
theorem dX1_moveClock_65 : decode cX1_moveClock 65 = .ok (.goto (-47), 3) := by decide +kernel
theorem dX1_moveClock_68 : decode cX1_moveClock 68 = .ok (.aload_n 0, 1) := by decide +kernel
theorem dX1_moveClock_69 : decode cX1_moveClock 69 = .ok (.dup, 1) := by decide +kernel
theorem dX1_moveClock_70 : decode cX1_moveClock 70 = .ok (.getfield 69, 3) := by decide +kernel
theorem dX1_moveClock_73 : decode cX1_moveClock 73 = .ok (.iload_n 1, 1) := by decide +kernel
theorem dX1_moveClock_74 : decode cX1_moveClock 74 = .ok (.iadd, 1) := by decide +kernel
theorem dX1_moveClock_75 : decode cX1_moveClock 75 = .ok (.putfield 69, 3) := by decide +kernel
theorem dX1_moveClock_78 : decode cX1_moveClock 78 = .ok (.return_, 1) := by decide +kernel
theorem dX1_carsInside_0 : decode cX1_carsInside 0 = .ok (.aload_n 0, 1) := by decide +kernel
theorem dX1_carsInside_1 : decode cX1_carsInside 1 = .ok (.getfield 59, 3) := by decide +kernel
theorem dX1_carsInside_4 : decode cX1_carsInside 4 = .ok (.aload_n 0, 1) := by decide +kernel
theorem dX1_carsInside_5 : decode cX1_carsInside 5 = .ok (.invokevirtual 193, 3) := by decide +kernel
theorem dX1_carsInside_8 : decode cX1_carsInside 8 = .ok (.isub, 1) := by decide +kernel
theorem dX1_carsInside_9 : decode cX1_carsInside 9 = .ok (.ireturn, 1) := by decide +kernel
theorem dX1_carsLeft_0 : decode cX1_carsLeft 0 = .ok (.iconst 0, 1) := by decide +kernel
theorem dX1_carsLeft_1 : decode cX1_carsLeft 1 = .ok (.istore_n 1, 1) := by decide +kernel
theorem dX1_carsLeft_2 : decode cX1_carsLeft 2 = .ok (.iconst 0, 1) := by decide +kernel
theorem dX1_carsLeft_3 : decode cX1_carsLeft 3 = .ok (.istore_n 2, 1) := by decide +kernel
theorem dX1_carsLeft_4 : decode cX1_carsLeft 4 = .ok (.iload_n 2, 1) := by decide +kernel
theorem dX1_carsLeft_5 : decode cX1_carsLeft 5 = .ok (.sipush 512, 3) := by decide +kernel
theorem dX1_carsLeft_8 : decode cX1_carsLeft 8 = .ok (.if_icmp .ge 37, 3) := by decide +kernel
theorem dX1_carsLeft_11 : decode cX1_carsLeft 11 = .ok (.iload_n 2, 1) := by decide +kernel
theorem dX1_carsLeft_12 : decode cX1_carsLeft 12 = .ok (.aload_n 0, 1) := by decide +kernel
theorem dX1_carsLeft_13 : decode cX1_carsLeft 13 = .ok (.getfield 59, 3) := by decide +kernel
theorem dX1_carsLeft_16 : decode cX1_carsLeft 16 = .ok (.if_icmp .ge 29, 3) := by decide +kernel
theorem dX1_carsLeft_19 : decode cX1_carsLeft 19 = .ok (.iload_n 1, 1) := by decide +kernel
theorem dX1_carsLeft_20 : decode cX1_carsLeft 20 = .ok (.aload_n 0, 1) := by decide +kernel
theorem dX1_carsLeft_21 : decode cX1_carsLeft 21 = .ok (.getfield 37, 3) := by decide +kernel
theorem dX1_carsLeft_24 : decode cX1_carsLeft 24 = .ok (.iload_n 2, 1) := by decide +kernel
theorem dX1_carsLeft_25 : decode cX1_carsLeft 25 = .ok (.aaload, 1) := by decide +kernel
theorem dX1_carsLeft_26 : decode cX1_carsLeft 26 = .ok (.getfield 84, 3) := by decide +kernel
theorem dX1_carsLeft_29 : decode cX1_carsLeft 29 = .ok (.ifCond .eq 7, 3) := by decide +kernel
theorem dX1_carsLeft_32 : decode cX1_carsLeft 32 = .ok (.iconst 1, 1) := by decide +kernel
theorem dX1_carsLeft_33 : decode cX1_carsLeft 33 = .ok (.goto 4, 3) := by decide +kernel
theorem dX1_carsLeft_36 : decode cX1_carsLeft 36 = .ok (.iconst 0, 1) := by decide +kernel
theorem dX1_carsLeft_37 : decode cX1_carsLeft 37 = .ok (.iadd, 1) := by decide +kernel
theorem dX1_carsLeft_38 : decode cX1_carsLeft 38 = .ok (.istore_n 1, 1) := by decide +kernel
theorem dX1_carsLeft_39 : decode cX1_carsLeft 39 = .ok (.iinc 2 1, 3) := by decide +kernel
theorem dX1_carsLeft_42 : decode cX1_carsLeft 42 = .ok (.goto (-38), 3) := by decide +kernel
theorem dX1_carsLeft_45 : decode cX1_carsLeft 45 = .ok (.iload_n 1, 1) := by decide +kernel
theorem dX1_carsLeft_46 : decode cX1_carsLeft 46 = .ok (.ireturn, 1) := by decide +kernel
theorem dX1_lostTickets_0 : decode cX1_lostTickets 0 = .ok (.iconst 0, 1) := by decide +kernel
theorem dX1_lostTickets_1 : decode cX1_lostTickets 1 = .ok (.istore_n 1, 1) := by decide +kernel
theorem dX1_lostTickets_2 : decode cX1_lostTickets 2 = .ok (.iconst 0, 1) := by decide +kernel
theorem dX1_lostTickets_3 : decode cX1_lostTickets 3 = .ok (.istore_n 2, 1) := by decide +kernel
theorem dX1_lostTickets_4 : decode cX1_lostTickets 4 = .ok (.iload_n 2, 1) := by decide +kernel
theorem dX1_lostTickets_5 : decode cX1_lostTickets 5 = .ok (.sipush 512, 3) := by decide +kernel
theorem dX1_lostTickets_8 : decode cX1_lostTickets 8 = .ok (.if_icmp .ge 37, 3) := by decide +kernel
theorem dX1_lostTickets_11 : decode cX1_lostTickets 11 = .ok (.iload_n 2, 1) := by decide +kernel
theorem dX1_lostTickets_12 : decode cX1_lostTickets 12 = .ok (.aload_n 0, 1) := by decide +kernel
theorem dX1_lostTickets_13 : decode cX1_lostTickets 13 = .ok (.getfield 59, 3) := by decide +kernel
theorem dX1_lostTickets_16 : decode cX1_lostTickets 16 = .ok (.if_icmp .ge 29, 3) := by decide +kernel
theorem dX1_lostTickets_19 : decode cX1_lostTickets 19 = .ok (.iload_n 1, 1) := by decide +kernel
theorem dX1_lostTickets_20 : decode cX1_lostTickets 20 = .ok (.aload_n 0, 1) := by decide +kernel
theorem dX1_lostTickets_21 : decode cX1_lostTickets 21 = .ok (.getfield 37, 3) := by decide +kernel
theorem dX1_lostTickets_24 : decode cX1_lostTickets 24 = .ok (.iload_n 2, 1) := by decide +kernel
theorem dX1_lostTickets_25 : decode cX1_lostTickets 25 = .ok (.aaload, 1) := by decide +kernel
theorem dX1_lostTickets_26 : decode cX1_lostTickets 26 = .ok (.getfield 130, 3) := by decide +kernel
theorem dX1_lostTickets_29 : decode cX1_lostTickets 29 = .ok (.ifCond .eq 7, 3) := by decide +kernel
theorem dX1_lostTickets_32 : decode cX1_lostTickets 32 = .ok (.iconst 1, 1) := by decide +kernel
theorem dX1_lostTickets_33 : decode cX1_lostTickets 33 = .ok (.goto 4, 3) := by decide +kernel
theorem dX1_lostTickets_36 : decode cX1_lostTickets 36 = .ok (.iconst 0, 1) := by decide +kernel
theorem dX1_lostTickets_37 : decode cX1_lostTickets 37 = .ok (.iadd, 1) := by decide +kernel
theorem dX1_lostTickets_38 : decode cX1_lostTickets 38 = .ok (.istore_n 1, 1) := by decide +kernel
theorem dX1_lostTickets_39 : decode cX1_lostTickets 39 = .ok (.iinc 2 1, 3) := by decide +kernel
theorem dX1_lostTickets_42 : decode cX1_lostTickets 42 = .ok (.goto (-38), 3) := by decide +kernel
theorem dX1_lostTickets_45 : decode cX1_lostTickets 45 = .ok (.iload_n 1, 1) := by decide +kernel
theorem dX1_lostTickets_46 : decode cX1_lostTickets 46 = .ok (.ireturn, 1) := by decide +kernel
theorem dX1_paidByPlan_0 : decode cX1_paidByPlan 0 = .ok (.iconst 0, 1) := by decide +kernel
theorem dX1_paidByPlan_1 : decode cX1_paidByPlan 1 = .ok (.istore_n 2, 1) := by decide +kernel
theorem dX1_paidByPlan_2 : decode cX1_paidByPlan 2 = .ok (.iconst 0, 1) := by decide +kernel
theorem dX1_paidByPlan_3 : decode cX1_paidByPlan 3 = .ok (.istore_n 3, 1) := by decide +kernel
theorem dX1_paidByPlan_4 : decode cX1_paidByPlan 4 = .ok (.iload_n 3, 1) := by decide +kernel
theorem dX1_paidByPlan_5 : decode cX1_paidByPlan 5 = .ok (.sipush 512, 3) := by decide +kernel
theorem dX1_paidByPlan_8 : decode cX1_paidByPlan 8 = .ok (.if_icmp .ge 46, 3) := by decide +kernel
theorem dX1_paidByPlan_11 : decode cX1_paidByPlan 11 = .ok (.iload_n 3, 1) := by decide +kernel
theorem dX1_paidByPlan_12 : decode cX1_paidByPlan 12 = .ok (.aload_n 0, 1) := by decide +kernel
theorem dX1_paidByPlan_13 : decode cX1_paidByPlan 13 = .ok (.getfield 59, 3) := by decide +kernel
theorem dX1_paidByPlan_16 : decode cX1_paidByPlan 16 = .ok (.if_icmp .ge 38, 3) := by decide +kernel
theorem dX1_paidByPlan_19 : decode cX1_paidByPlan 19 = .ok (.iload_n 2, 1) := by decide +kernel
theorem dX1_paidByPlan_20 : decode cX1_paidByPlan 20 = .ok (.aload_n 0, 1) := by decide +kernel
theorem dX1_paidByPlan_21 : decode cX1_paidByPlan 21 = .ok (.getfield 37, 3) := by decide +kernel
theorem dX1_paidByPlan_24 : decode cX1_paidByPlan 24 = .ok (.iload_n 3, 1) := by decide +kernel
theorem dX1_paidByPlan_25 : decode cX1_paidByPlan 25 = .ok (.aaload, 1) := by decide +kernel
theorem dX1_paidByPlan_26 : decode cX1_paidByPlan 26 = .ok (.getfield 150, 3) := by decide +kernel
theorem dX1_paidByPlan_29 : decode cX1_paidByPlan 29 = .ok (.iload_n 1, 1) := by decide +kernel
theorem dX1_paidByPlan_30 : decode cX1_paidByPlan 30 = .ok (.if_icmp .ne 15, 3) := by decide +kernel
theorem dX1_paidByPlan_33 : decode cX1_paidByPlan 33 = .ok (.aload_n 0, 1) := by decide +kernel
theorem dX1_paidByPlan_34 : decode cX1_paidByPlan 34 = .ok (.getfield 37, 3) := by decide +kernel
theorem dX1_paidByPlan_37 : decode cX1_paidByPlan 37 = .ok (.iload_n 3, 1) := by decide +kernel
theorem dX1_paidByPlan_38 : decode cX1_paidByPlan 38 = .ok (.aaload, 1) := by decide +kernel
theorem dX1_paidByPlan_39 : decode cX1_paidByPlan 39 = .ok (.getfield 141, 3) := by decide +kernel
theorem dX1_paidByPlan_42 : decode cX1_paidByPlan 42 = .ok (.goto 4, 3) := by decide +kernel
theorem dX1_paidByPlan_45 : decode cX1_paidByPlan 45 = .ok (.iconst 0, 1) := by decide +kernel
theorem dX1_paidByPlan_46 : decode cX1_paidByPlan 46 = .ok (.iadd, 1) := by decide +kernel
theorem dX1_paidByPlan_47 : decode cX1_paidByPlan 47 = .ok (.istore_n 2, 1) := by decide +kernel
theorem dX1_paidByPlan_48 : decode cX1_paidByPlan 48 = .ok (.iinc 3 1, 3) := by decide +kernel
theorem dX1_paidByPlan_51 : decode cX1_paidByPlan 51 = .ok (.goto (-47), 3) := by decide +kernel
theorem dX1_paidByPlan_54 : decode cX1_paidByPlan 54 = .ok (.iload_n 2, 1) := by decide +kernel
theorem dX1_paidByPlan_55 : decode cX1_paidByPlan 55 = .ok (.ireturn, 1) := by decide +kernel
theorem dX1_paidAltogether_0 : decode cX1_paidAltogether 0 = .ok (.iconst 0, 1) := by decide +kernel
theorem dX1_paidAltogether_1 : decode cX1_paidAltogether 1 = .ok (.istore_n 1, 1) := by decide +kernel
theorem dX1_paidAltogether_2 : decode cX1_paidAltogether 2 = .ok (.iconst 0, 1) := by decide +kernel
theorem dX1_paidAltogether_3 : decode cX1_paidAltogether 3 = .ok (.istore_n 2, 1) := by decide +kernel
theorem dX1_paidAltogether_4 : decode cX1_paidAltogether 4 = .ok (.iload_n 2, 1) := by decide +kernel
theorem dX1_paidAltogether_5 : decode cX1_paidAltogether 5 = .ok (.iconst 4, 1) := by decide +kernel
theorem dX1_paidAltogether_6 : decode cX1_paidAltogether 6 = .ok (.if_icmp .ge 17, 3) := by decide +kernel
theorem dX1_paidAltogether_9 : decode cX1_paidAltogether 9 = .ok (.iload_n 1, 1) := by decide +kernel
theorem dX1_paidAltogether_10 : decode cX1_paidAltogether 10 = .ok (.aload_n 0, 1) := by decide +kernel
theorem dX1_paidAltogether_11 : decode cX1_paidAltogether 11 = .ok (.iload_n 2, 1) := by decide +kernel
theorem dX1_paidAltogether_12 : decode cX1_paidAltogether 12 = .ok (.invokevirtual 196, 3) := by decide +kernel
theorem dX1_paidAltogether_15 : decode cX1_paidAltogether 15 = .ok (.iadd, 1) := by decide +kernel
theorem dX1_paidAltogether_16 : decode cX1_paidAltogether 16 = .ok (.istore_n 1, 1) := by decide +kernel
theorem dX1_paidAltogether_17 : decode cX1_paidAltogether 17 = .ok (.iinc 2 1, 3) := by decide +kernel
theorem dX1_paidAltogether_20 : decode cX1_paidAltogether 20 = .ok (.goto (-16), 3) := by decide +kernel
theorem dX1_paidAltogether_23 : decode cX1_paidAltogether 23 = .ok (.iload_n 1, 1) := by decide +kernel
theorem dX1_paidAltogether_24 : decode cX1_paidAltogether 24 = .ok (.ireturn, 1) := by decide +kernel
theorem dX2_init_0 : decode cX2_init 0 = .ok (.aload_n 0, 1) := by decide +kernel
theorem dX2_init_1 : decode cX2_init 1 = .ok (.invokespecial 3, 3) := by decide +kernel
theorem dX2_init_4 : decode cX2_init 4 = .ok (.aload_n 0, 1) := by decide +kernel
theorem dX2_init_5 : decode cX2_init 5 = .ok (.iconst 5, 1) := by decide +kernel
theorem dX2_init_6 : decode cX2_init 6 = .ok (.newarray .int, 2) := by decide +kernel
theorem dX2_init_8 : decode cX2_init 8 = .ok (.putfield 9, 3) := by decide +kernel
theorem dX2_init_11 : decode cX2_init 11 = .ok (.return_, 1) := by decide +kernel
theorem dX2_isMade_0 : decode cX2_isMade 0 = .ok (.aload_n 0, 1) := by decide +kernel
theorem dX2_isMade_1 : decode cX2_isMade 1 = .ok (.getfield 15, 3) := by decide +kernel
theorem dX2_isMade_4 : decode cX2_isMade 4 = .ok (.ifCond .le 7, 3) := by decide +kernel
theorem dX2_isMade_7 : decode cX2_isMade 7 = .ok (.iconst 1, 1) := by decide +kernel
theorem dX2_isMade_8 : decode cX2_isMade 8 = .ok (.goto 4, 3) := by decide +kernel
theorem dX2_isMade_11 : decode cX2_isMade 11 = .ok (.iconst 0, 1) := by decide +kernel
theorem dX2_isMade_12 : decode cX2_isMade 12 = .ok (.ireturn, 1) := by decide +kernel
theorem dX2_make_0 : decode cX2_make 0 = .ok (.aload_n 0, 1) := by decide +kernel
theorem dX2_make_1 : decode cX2_make 1 = .ok (.iload_n 1, 1) := by decide +kernel
theorem dX2_make_2 : decode cX2_make 2 = .ok (.putfield 19, 3) := by decide +kernel
theorem dX2_make_5 : decode cX2_make 5 = .ok (.aload_n 0, 1) := by decide +kernel
theorem dX2_make_6 : decode cX2_make 6 = .ok (.iload_n 2, 1) := by decide +kernel
theorem dX2_make_7 : decode cX2_make 7 = .ok (.putfield 15, 3) := by decide +kernel
theorem dX2_make_10 : decode cX2_make 10 = .ok (.iconst 0, 1) := by decide +kernel
theorem dX2_make_11 : decode cX2_make 11 = .ok (.istore_n 3, 1) := by decide +kernel
theorem dX2_make_12 : decode cX2_make 12 = .ok (.iload_n 3, 1) := by decide +kernel
theorem dX2_make_13 : decode cX2_make 13 = .ok (.iconst 5, 1) := by decide +kernel
theorem dX2_make_14 : decode cX2_make 14 = .ok (.if_icmp .ge 16, 3) := by decide +kernel
theorem dX2_make_17 : decode cX2_make 17 = .ok (.aload_n 0, 1) := by decide +kernel
theorem dX2_make_18 : decode cX2_make 18 = .ok (.getfield 9, 3) := by decide +kernel
theorem dX2_make_21 : decode cX2_make 21 = .ok (.iload_n 3, 1) := by decide +kernel
theorem dX2_make_22 : decode cX2_make 22 = .ok (.iconst (-1), 1) := by decide +kernel
theorem dX2_make_23 : decode cX2_make 23 = .ok (.iastore, 1) := by decide +kernel
theorem dX2_make_24 : decode cX2_make 24 = .ok (.iinc 3 1, 3) := by decide +kernel
theorem dX2_make_27 : decode cX2_make 27 = .ok (.goto (-15), 3) := by decide +kernel
theorem dX2_make_30 : decode cX2_make 30 = .ok (.return_, 1) := by decide +kernel
theorem dX2_copyFrom_0 : decode cX2_copyFrom 0 = .ok (.aload_n 0, 1) := by decide +kernel
theorem dX2_copyFrom_1 : decode cX2_copyFrom 1 = .ok (.aload_n 1, 1) := by decide +kernel
theorem dX2_copyFrom_2 : decode cX2_copyFrom 2 = .ok (.getfield 19, 3) := by decide +kernel
theorem dX2_copyFrom_5 : decode cX2_copyFrom 5 = .ok (.putfield 19, 3) := by decide +kernel
theorem dX2_copyFrom_8 : decode cX2_copyFrom 8 = .ok (.aload_n 0, 1) := by decide +kernel
theorem dX2_copyFrom_9 : decode cX2_copyFrom 9 = .ok (.aload_n 1, 1) := by decide +kernel
theorem dX2_copyFrom_10 : decode cX2_copyFrom 10 = .ok (.getfield 15, 3) := by decide +kernel
theorem dX2_copyFrom_13 : decode cX2_copyFrom 13 = .ok (.putfield 15, 3) := by decide +kernel
theorem dX2_copyFrom_16 : decode cX2_copyFrom 16 = .ok (.iconst 0, 1) := by decide +kernel
theorem dX2_copyFrom_17 : decode cX2_copyFrom 17 = .ok (.istore_n 2, 1) := by decide +kernel
theorem dX2_copyFrom_18 : decode cX2_copyFrom 18 = .ok (.iload_n 2, 1) := by decide +kernel
theorem dX2_copyFrom_19 : decode cX2_copyFrom 19 = .ok (.iconst 5, 1) := by decide +kernel
theorem dX2_copyFrom_20 : decode cX2_copyFrom 20 = .ok (.if_icmp .ge 21, 3) := by decide +kernel
theorem dX2_copyFrom_23 : decode cX2_copyFrom 23 = .ok (.aload_n 0, 1) := by decide +kernel
theorem dX2_copyFrom_24 : decode cX2_copyFrom 24 = .ok (.getfield 9, 3) := by decide +kernel
theorem dX2_copyFrom_27 : decode cX2_copyFrom 27 = .ok (.iload_n 2, 1) := by decide +kernel
theorem dX2_copyFrom_28 : decode cX2_copyFrom 28 = .ok (.aload_n 1, 1) := by decide +kernel
theorem dX2_copyFrom_29 : decode cX2_copyFrom 29 = .ok (.getfield 9, 3) := by decide +kernel
theorem dX2_copyFrom_32 : decode cX2_copyFrom 32 = .ok (.iload_n 2, 1) := by decide +kernel
theorem dX2_copyFrom_33 : decode cX2_copyFrom 33 = .ok (.iaload, 1) := by decide +kernel
theorem dX2_copyFrom_34 : decode cX2_copyFrom 34 = .ok (.iastore, 1) := by decide +kernel
theorem dX2_copyFrom_35 : decode cX2_copyFrom 35 = .ok (.iinc 2 1, 3) := by decide +kernel
theorem dX2_copyFrom_38 : decode cX2_copyFrom 38 = .ok (.goto (-20), 3) := by decide +kernel
theorem dX2_copyFrom_41 : decode cX2_copyFrom 41 = .ok (.return_, 1) := by decide +kernel
theorem dX2_hasPlace_0 : decode cX2_hasPlace 0 = .ok (.iload_n 1, 1) := by decide +kernel
theorem dX2_hasPlace_1 : decode cX2_hasPlace 1 = .ok (.iconst 0, 1) := by decide +kernel
theorem dX2_hasPlace_2 : decode cX2_hasPlace 2 = .ok (.iconst 4, 1) := by decide +kernel
theorem dX2_hasPlace_3 : decode cX2_hasPlace 3 = .ok (.invokestatic 22, 3) := by decide +kernel
theorem dX2_hasPlace_6 : decode cX2_hasPlace 6 = .ok (.ifCond .eq 15, 3) := by decide +kernel
theorem dX2_hasPlace_9 : decode cX2_hasPlace 9 = .ok (.iload_n 1, 1) := by decide +kernel
theorem dX2_hasPlace_10 : decode cX2_hasPlace 10 = .ok (.aload_n 0, 1) := by decide +kernel
theorem dX2_hasPlace_11 : decode cX2_hasPlace 11 = .ok (.getfield 15, 3) := by decide +kernel
theorem dX2_hasPlace_14 : decode cX2_hasPlace 14 = .ok (.if_icmp .ge 7, 3) := by decide +kernel
theorem dX2_hasPlace_17 : decode cX2_hasPlace 17 = .ok (.iconst 1, 1) := by decide +kernel
theorem dX2_hasPlace_18 : decode cX2_hasPlace 18 = .ok (.goto 4, 3) := by decide +kernel
theorem dX2_hasPlace_21 : decode cX2_hasPlace 21 = .ok (.iconst 0, 1) := by decide +kernel
theorem dX2_hasPlace_22 : decode cX2_hasPlace 22 = .ok (.ireturn, 1) := by decide +kernel
theorem dX2_takes_0 : decode cX2_takes 0 = .ok (.aload_n 0, 1) := by decide +kernel
theorem dX2_takes_1 : decode cX2_takes 1 = .ok (.getfield 19, 3) := by decide +kernel
theorem dX2_takes_4 : decode cX2_takes 4 = .ok (.iconst (-1), 1) := by decide +kernel
theorem dX2_takes_5 : decode cX2_takes 5 = .ok (.if_icmp .eq 11, 3) := by decide +kernel
theorem dX2_takes_8 : decode cX2_takes 8 = .ok (.aload_n 0, 1) := by decide +kernel
theorem dX2_takes_9 : decode cX2_takes 9 = .ok (.getfield 19, 3) := by decide +kernel
theorem dX2_takes_12 : decode cX2_takes 12 = .ok (.iload_n 1, 1) := by decide +kernel
theorem dX2_takes_13 : decode cX2_takes 13 = .ok (.if_icmp .ne 7, 3) := by decide +kernel
theorem dX2_takes_16 : decode cX2_takes 16 = .ok (.iconst 1, 1) := by decide +kernel
theorem dX2_takes_17 : decode cX2_takes 17 = .ok (.goto 4, 3) := by decide +kernel
theorem dX2_takes_20 : decode cX2_takes 20 = .ok (.iconst 0, 1) := by decide +kernel
theorem dX2_takes_21 : decode cX2_takes 21 = .ok (.ireturn, 1) := by decide +kernel
theorem dX2_fill_0 : decode cX2_fill 0 = .ok (.aload_n 0, 1) := by decide +kernel
theorem dX2_fill_1 : decode cX2_fill 1 = .ok (.iload_n 1, 1) := by decide +kernel
theorem dX2_fill_2 : decode cX2_fill 2 = .ok (.invokevirtual 26, 3) := by decide +kernel
theorem dX2_fill_5 : decode cX2_fill 5 = .ok (.ifCond .eq 10, 3) := by decide +kernel
theorem dX2_fill_8 : decode cX2_fill 8 = .ok (.aload_n 0, 1) := by decide +kernel
theorem dX2_fill_9 : decode cX2_fill 9 = .ok (.getfield 9, 3) := by decide +kernel
theorem dX2_fill_12 : decode cX2_fill 12 = .ok (.iload_n 1, 1) := by decide +kernel
theorem dX2_fill_13 : decode cX2_fill 13 = .ok (.iload_n 2, 1) := by decide +kernel
theorem dX2_fill_14 : decode cX2_fill 14 = .ok (.iastore, 1) := by decide +kernel
theorem dX2_fill_15 : decode cX2_fill 15 = .ok (.return_, 1) := by decide +kernel
theorem dX2_content_0 : decode cX2_content 0 = .ok (.aload_n 0, 1) := by decide +kernel
theorem dX2_content_1 : decode cX2_content 1 = .ok (.iload_n 1, 1) := by decide +kernel
theorem dX2_content_2 : decode cX2_content 2 = .ok (.invokevirtual 26, 3) := by decide +kernel
theorem dX2_content_5 : decode cX2_content 5 = .ok (.ifCond .eq 22, 3) := by decide +kernel
theorem dX2_content_8 : decode cX2_content 8 = .ok (.aload_n 0, 1) := by decide +kernel
theorem dX2_content_9 : decode cX2_content 9 = .ok (.getfield 9, 3) := by decide +kernel
theorem dX2_content_12 : decode cX2_content 12 = .ok (.iload_n 1, 1) := by decide +kernel
theorem dX2_content_13 : decode cX2_content 13 = .ok (.iaload, 1) := by decide +kernel
theorem dX2_content_14 : decode cX2_content 14 = .ok (.iconst (-1), 1) := by decide +kernel
theorem dX2_content_15 : decode cX2_content 15 = .ok (.if_icmp .eq 12, 3) := by decide +kernel
theorem dX2_content_18 : decode cX2_content 18 = .ok (.aload_n 0, 1) := by decide +kernel
theorem dX2_content_19 : decode cX2_content 19 = .ok (.getfield 9, 3) := by decide +kernel
theorem dX2_content_22 : decode cX2_content 22 = .ok (.iload_n 1, 1) := by decide +kernel
theorem dX2_content_23 : decode cX2_content 23 = .ok (.iaload, 1) := by decide +kernel
theorem dX2_content_24 : decode cX2_content 24 = .ok (.goto 4, 3) := by decide +kernel
theorem dX2_content_27 : decode cX2_content 27 = .ok (.iconst (-1), 1) := by decide +kernel
theorem dX2_content_28 : decode cX2_content 28 = .ok (.ireturn, 1) := by decide +kernel
theorem dX2_filledPlaces_0 : decode cX2_filledPlaces 0 = .ok (.iconst 0, 1) := by decide +kernel
theorem dX2_filledPlaces_1 : decode cX2_filledPlaces 1 = .ok (.istore_n 1, 1) := by decide +kernel
theorem dX2_filledPlaces_2 : decode cX2_filledPlaces 2 = .ok (.iconst 0, 1) := by decide +kernel
theorem dX2_filledPlaces_3 : decode cX2_filledPlaces 3 = .ok (.istore_n 2, 1) := by decide +kernel
theorem dX2_filledPlaces_4 : decode cX2_filledPlaces 4 = .ok (.iload_n 2, 1) := by decide +kernel
theorem dX2_filledPlaces_5 : decode cX2_filledPlaces 5 = .ok (.iconst 5, 1) := by decide +kernel
theorem dX2_filledPlaces_6 : decode cX2_filledPlaces 6 = .ok (.if_icmp .ge 35, 3) := by decide +kernel
theorem dX2_filledPlaces_9 : decode cX2_filledPlaces 9 = .ok (.iload_n 2, 1) := by decide +kernel
theorem dX2_filledPlaces_10 : decode cX2_filledPlaces 10 = .ok (.aload_n 0, 1) := by decide +kernel
theorem dX2_filledPlaces_11 : decode cX2_filledPlaces 11 = .ok (.getfield 15, 3) := by decide +kernel
theorem dX2_filledPlaces_14 : decode cX2_filledPlaces 14 = .ok (.if_icmp .ge 27, 3) := by decide +kernel
theorem dX2_filledPlaces_17 : decode cX2_filledPlaces 17 = .ok (.iload_n 1, 1) := by decide +kernel
theorem dX2_filledPlaces_18 : decode cX2_filledPlaces 18 = .ok (.aload_n 0, 1) := by decide +kernel
theorem dX2_filledPlaces_19 : decode cX2_filledPlaces 19 = .ok (.getfield 9, 3) := by decide +kernel
theorem dX2_filledPlaces_22 : decode cX2_filledPlaces 22 = .ok (.iload_n 2, 1) := by decide +kernel
theorem dX2_filledPlaces_23 : decode cX2_filledPlaces 23 = .ok (.iaload, 1) := by decide +kernel
theorem dX2_filledPlaces_24 : decode cX2_filledPlaces 24 = .ok (.iconst (-1), 1) := by decide +kernel
theorem dX2_filledPlaces_25 : decode cX2_filledPlaces 25 = .ok (.if_icmp .eq 7, 3) := by decide +kernel
theorem dX2_filledPlaces_28 : decode cX2_filledPlaces 28 = .ok (.iconst 1, 1) := by decide +kernel
theorem dX2_filledPlaces_29 : decode cX2_filledPlaces 29 = .ok (.goto 4, 3) := by decide +kernel
theorem dX2_filledPlaces_32 : decode cX2_filledPlaces 32 = .ok (.iconst 0, 1) := by decide +kernel
theorem dX2_filledPlaces_33 : decode cX2_filledPlaces 33 = .ok (.iadd, 1) := by decide +kernel
theorem dX2_filledPlaces_34 : decode cX2_filledPlaces 34 = .ok (.istore_n 1, 1) := by decide +kernel
theorem dX2_filledPlaces_35 : decode cX2_filledPlaces 35 = .ok (.iinc 2 1, 3) := by decide +kernel
theorem dX2_filledPlaces_38 : decode cX2_filledPlaces 38 = .ok (.goto (-34), 3) := by decide +kernel
theorem dX2_filledPlaces_41 : decode cX2_filledPlaces 41 = .ok (.iload_n 1, 1) := by decide +kernel
theorem dX2_filledPlaces_42 : decode cX2_filledPlaces 42 = .ok (.ireturn, 1) := by decide +kernel
theorem dX3_init_0 : decode cX3_init 0 = .ok (.aload_n 0, 1) := by decide +kernel
theorem dX3_init_1 : decode cX3_init 1 = .ok (.invokespecial 3, 3) := by decide +kernel
theorem dX3_init_4 : decode cX3_init 4 = .ok (.aload_n 0, 1) := by decide +kernel
theorem dX3_init_5 : decode cX3_init 5 = .ok (.bipush 10, 2) := by decide +kernel
theorem dX3_init_7 : decode cX3_init 7 = .ok (.putfield 9, 3) := by decide +kernel
theorem dX3_init_10 : decode cX3_init 10 = .ok (.return_, 1) := by decide +kernel
theorem dX3_copyFrom_0 : decode cX3_copyFrom 0 = .ok (.aload_n 0, 1) := by decide +kernel
theorem dX3_copyFrom_1 : decode cX3_copyFrom 1 = .ok (.aload_n 1, 1) := by decide +kernel
theorem dX3_copyFrom_2 : decode cX3_copyFrom 2 = .ok (.getfield 9, 3) := by decide +kernel
theorem dX3_copyFrom_5 : decode cX3_copyFrom 5 = .ok (.putfield 9, 3) := by decide +kernel
theorem dX3_copyFrom_8 : decode cX3_copyFrom 8 = .ok (.aload_n 0, 1) := by decide +kernel
theorem dX3_copyFrom_9 : decode cX3_copyFrom 9 = .ok (.aload_n 1, 1) := by decide +kernel
theorem dX3_copyFrom_10 : decode cX3_copyFrom 10 = .ok (.getfield 15, 3) := by decide +kernel
theorem dX3_copyFrom_13 : decode cX3_copyFrom 13 = .ok (.putfield 15, 3) := by decide +kernel
theorem dX3_copyFrom_16 : decode cX3_copyFrom 16 = .ok (.aload_n 0, 1) := by decide +kernel
theorem dX3_copyFrom_17 : decode cX3_copyFrom 17 = .ok (.aload_n 1, 1) := by decide +kernel
theorem dX3_copyFrom_18 : decode cX3_copyFrom 18 = .ok (.getfield 18, 3) := by decide +kernel
theorem dX3_copyFrom_21 : decode cX3_copyFrom 21 = .ok (.putfield 18, 3) := by decide +kernel
theorem dX3_copyFrom_24 : decode cX3_copyFrom 24 = .ok (.aload_n 0, 1) := by decide +kernel
theorem dX3_copyFrom_25 : decode cX3_copyFrom 25 = .ok (.aload_n 1, 1) := by decide +kernel
theorem dX3_copyFrom_26 : decode cX3_copyFrom 26 = .ok (.getfield 21, 3) := by decide +kernel
theorem dX3_copyFrom_29 : decode cX3_copyFrom 29 = .ok (.putfield 21, 3) := by decide +kernel
theorem dX3_copyFrom_32 : decode cX3_copyFrom 32 = .ok (.aload_n 0, 1) := by decide +kernel
theorem dX3_copyFrom_33 : decode cX3_copyFrom 33 = .ok (.aload_n 1, 1) := by decide +kernel
theorem dX3_copyFrom_34 : decode cX3_copyFrom 34 = .ok (.getfield 24, 3) := by decide +kernel
theorem dX3_copyFrom_37 : decode cX3_copyFrom 37 = .ok (.putfield 24, 3) := by decide +kernel
theorem dX3_copyFrom_40 : decode cX3_copyFrom 40 = .ok (.return_, 1) := by decide +kernel
theorem dX3_property_0 : decode cX3_property 0 = .ok (.iload_n 1, 1) := by decide +kernel
theorem dX3_property_1 : decode cX3_property 1 = .ok (.tableswitch 66 0 4 #[35, 40, 45, 53, 61], 35) := by decide +kernel
theorem dX3_property_36 : decode cX3_property 36 = .ok (.aload_n 0, 1) := by decide +kernel
theorem dX3_property_37 : decode cX3_property 37 = .ok (.getfield 9, 3) := by decide +kernel
theorem dX3_property_40 : decode cX3_property 40 = .ok (.ireturn, 1) := by decide +kernel
theorem dX3_property_41 : decode cX3_property 41 = .ok (.aload_n 0, 1) := by decide +kernel
theorem dX3_property_42 : decode cX3_property 42 = .ok (.getfield 15, 3) := by decide +kernel
theorem dX3_property_45 : decode cX3_property 45 = .ok (.ireturn, 1) := by decide +kernel
theorem dX3_property_46 : decode cX3_property 46 = .ok (.aload_n 0, 1) := by decide +kernel
theorem dX3_property_47 : decode cX3_property 47 = .ok (.getfield 24, 3) := by decide +kernel
theorem dX3_property_50 : decode cX3_property 50 = .ok (.invokestatic 28, 3) := by decide +kernel
theorem dX3_property_53 : decode cX3_property 53 = .ok (.ireturn, 1) := by decide +kernel
theorem dX3_property_54 : decode cX3_property 54 = .ok (.aload_n 0, 1) := by decide +kernel
theorem dX3_property_55 : decode cX3_property 55 = .ok (.invokevirtual 32, 3) := by decide +kernel
theorem dX3_property_58 : decode cX3_property 58 = .ok (.invokestatic 28, 3) := by decide +kernel
theorem dX3_property_61 : decode cX3_property 61 = .ok (.ireturn, 1) := by decide +kernel
theorem dX3_property_62 : decode cX3_property 62 = .ok (.aload_n 0, 1) := by decide +kernel
theorem dX3_property_63 : decode cX3_property 63 = .ok (.getfield 18, 3) := by decide +kernel
theorem dX3_property_66 : decode cX3_property 66 = .ok (.ireturn, 1) := by decide +kernel
theorem dX3_property_67 : decode cX3_property 67 = .ok (.aload_n 0, 1) := by decide +kernel
theorem dX3_property_68 : decode cX3_property 68 = .ok (.getfield 21, 3) := by decide +kernel
theorem dX3_property_71 : decode cX3_property 71 = .ok (.ireturn, 1) := by decide +kernel
theorem dX3_freePlaces_0 : decode cX3_freePlaces 0 = .ok (.aload_n 0, 1) := by decide +kernel
theorem dX3_freePlaces_1 : decode cX3_freePlaces 1 = .ok (.getfield 9, 3) := by decide +kernel
theorem dX3_freePlaces_4 : decode cX3_freePlaces 4 = .ok (.aload_n 0, 1) := by decide +kernel
theorem dX3_freePlaces_5 : decode cX3_freePlaces 5 = .ok (.getfield 15, 3) := by decide +kernel
theorem dX3_freePlaces_8 : decode cX3_freePlaces 8 = .ok (.isub, 1) := by decide +kernel
theorem dX3_freePlaces_9 : decode cX3_freePlaces 9 = .ok (.ireturn, 1) := by decide +kernel
theorem dX3_score_0 : decode cX3_score 0 = .ok (.aload_n 0, 1) := by decide +kernel
theorem dX3_score_1 : decode cX3_score 1 = .ok (.getfield 9, 3) := by decide +kernel
theorem dX3_score_4 : decode cX3_score 4 = .ok (.ifCond .le 25, 3) := by decide +kernel
theorem dX3_score_7 : decode cX3_score 7 = .ok (.aload_n 0, 1) := by decide +kernel
theorem dX3_score_8 : decode cX3_score 8 = .ok (.invokevirtual 36, 3) := by decide +kernel
theorem dX3_score_11 : decode cX3_score 11 = .ok (.i2f, 1) := by decide +kernel
theorem dX3_score_12 : decode cX3_score 12 = .ok (.aload_n 0, 1) := by decide +kernel
theorem dX3_score_13 : decode cX3_score 13 = .ok (.getfield 24, 3) := by decide +kernel
theorem dX3_score_16 : decode cX3_score 16 = .ok (.ldc 40, 2) := by decide +kernel
theorem dX3_score_18 : decode cX3_score 18 = .ok (.fmul, 1) := by decide +kernel
theorem dX3_score_19 : decode cX3_score 19 = .ok (.fadd, 1) := by decide +kernel
theorem dX3_score_20 : decode cX3_score 20 = .ok (.aload_n 0, 1) := by decide +kernel
theorem dX3_score_21 : decode cX3_score 21 = .ok (.getfield 9, 3) := by decide +kernel
theorem dX3_score_24 : decode cX3_score 24 = .ok (.i2f, 1) := by decide +kernel
theorem dX3_score_25 : decode cX3_score 25 = .ok (.fdiv, 1) := by decide +kernel
theorem dX3_score_26 : decode cX3_score 26 = .ok (.goto 4, 3) := by decide +kernel
theorem dX3_score_29 : decode cX3_score 29 = .ok (.fconst 0, 1) := by decide +kernel
theorem dX3_score_30 : decode cX3_score 30 = .ok (.freturn, 1) := by decide +kernel
theorem dX3_admitCar_0 : decode cX3_admitCar 0 = .ok (.aload_n 0, 1) := by decide +kernel
theorem dX3_admitCar_1 : decode cX3_admitCar 1 = .ok (.dup, 1) := by decide +kernel
theorem dX3_admitCar_2 : decode cX3_admitCar 2 = .ok (.getfield 15, 3) := by decide +kernel
theorem dX3_admitCar_5 : decode cX3_admitCar 5 = .ok (.iconst 1, 1) := by decide +kernel
theorem dX3_admitCar_6 : decode cX3_admitCar 6 = .ok (.iadd, 1) := by decide +kernel
theorem dX3_admitCar_7 : decode cX3_admitCar 7 = .ok (.putfield 15, 3) := by decide +kernel
theorem dX3_admitCar_10 : decode cX3_admitCar 10 = .ok (.aload_n 0, 1) := by decide +kernel
theorem dX3_admitCar_11 : decode cX3_admitCar 11 = .ok (.dup, 1) := by decide +kernel
theorem dX3_admitCar_12 : decode cX3_admitCar 12 = .ok (.getfield 21, 3) := by decide +kernel
theorem dX3_admitCar_15 : decode cX3_admitCar 15 = .ok (.iconst 1, 1) := by decide +kernel
theorem dX3_admitCar_16 : decode cX3_admitCar 16 = .ok (.iadd, 1) := by decide +kernel
theorem dX3_admitCar_17 : decode cX3_admitCar 17 = .ok (.putfield 21, 3) := by decide +kernel
theorem dX3_admitCar_20 : decode cX3_admitCar 20 = .ok (.return_, 1) := by decide +kernel
theorem dX3_releaseCar_0 : decode cX3_releaseCar 0 = .ok (.aload_n 0, 1) := by decide +kernel
theorem dX3_releaseCar_1 : decode cX3_releaseCar 1 = .ok (.dup, 1) := by decide +kernel
theorem dX3_releaseCar_2 : decode cX3_releaseCar 2 = .ok (.getfield 15, 3) := by decide +kernel
theorem dX3_releaseCar_5 : decode cX3_releaseCar 5 = .ok (.iconst 1, 1) := by decide +kernel
theorem dX3_releaseCar_6 : decode cX3_releaseCar 6 = .ok (.isub, 1) := by decide +kernel
theorem dX3_releaseCar_7 : decode cX3_releaseCar 7 = .ok (.putfield 15, 3) := by decide +kernel
theorem dX3_releaseCar_10 : decode cX3_releaseCar 10 = .ok (.aload_n 0, 1) := by decide +kernel
theorem dX3_releaseCar_11 : decode cX3_releaseCar 11 = .ok (.dup, 1) := by decide +kernel
theorem dX3_releaseCar_12 : decode cX3_releaseCar 12 = .ok (.getfield 18, 3) := by decide +kernel
theorem dX3_releaseCar_15 : decode cX3_releaseCar 15 = .ok (.iconst 1, 1) := by decide +kernel
theorem dX3_releaseCar_16 : decode cX3_releaseCar 16 = .ok (.iadd, 1) := by decide +kernel
theorem dX3_releaseCar_17 : decode cX3_releaseCar 17 = .ok (.putfield 18, 3) := by decide +kernel
theorem dX3_releaseCar_20 : decode cX3_releaseCar 20 = .ok (.return_, 1) := by decide +kernel
theorem dX3_passHour_0 : decode cX3_passHour 0 = .ok (.aload_n 0, 1) := by decide +kernel
theorem dX3_passHour_1 : decode cX3_passHour 1 = .ok (.aload_n 0, 1) := by decide +kernel
theorem dX3_passHour_2 : decode cX3_passHour 2 = .ok (.getfield 24, 3) := by decide +kernel
theorem dX3_passHour_5 : decode cX3_passHour 5 = .ok (.ldc 41, 2) := by decide +kernel
theorem dX3_passHour_7 : decode cX3_passHour 7 = .ok (.fmul, 1) := by decide +kernel
theorem dX3_passHour_8 : decode cX3_passHour 8 = .ok (.aload_n 0, 1) := by decide +kernel
theorem dX3_passHour_9 : decode cX3_passHour 9 = .ok (.getfield 18, 3) := by decide +kernel
theorem dX3_passHour_12 : decode cX3_passHour 12 = .ok (.i2f, 1) := by decide +kernel
theorem dX3_passHour_13 : decode cX3_passHour 13 = .ok (.ldc 42, 2) := by decide +kernel
theorem dX3_passHour_15 : decode cX3_passHour 15 = .ok (.fmul, 1) := by decide +kernel
theorem dX3_passHour_16 : decode cX3_passHour 16 = .ok (.fadd, 1) := by decide +kernel
theorem dX3_passHour_17 : decode cX3_passHour 17 = .ok (.putfield 24, 3) := by decide +kernel
theorem dX3_passHour_20 : decode cX3_passHour 20 = .ok (.aload_n 0, 1) := by decide +kernel
theorem dX3_passHour_21 : decode cX3_passHour 21 = .ok (.iconst 0, 1) := by decide +kernel
theorem dX3_passHour_22 : decode cX3_passHour 22 = .ok (.putfield 18, 3) := by decide +kernel
theorem dX3_passHour_25 : decode cX3_passHour 25 = .ok (.return_, 1) := by decide +kernel
theorem dX3_carsAfter_0 : decode cX3_carsAfter 0 = .ok (.iconst 0, 1) := by decide +kernel
theorem dX3_carsAfter_1 : decode cX3_carsAfter 1 = .ok (.aload_n 0, 1) := by decide +kernel
theorem dX3_carsAfter_2 : decode cX3_carsAfter 2 = .ok (.getfield 15, 3) := by decide +kernel
theorem dX3_carsAfter_5 : decode cX3_carsAfter 5 = .ok (.i2f, 1) := by decide +kernel
theorem dX3_carsAfter_6 : decode cX3_carsAfter 6 = .ok (.aload_n 0, 1) := by decide +kernel
theorem dX3_carsAfter_7 : decode cX3_carsAfter 7 = .ok (.getfield 24, 3) := by decide +kernel
theorem dX3_carsAfter_10 : decode cX3_carsAfter 10 = .ok (.iload_n 1, 1) := by decide +kernel
theorem dX3_carsAfter_11 : decode cX3_carsAfter 11 = .ok (.i2f, 1) := by decide +kernel
theorem dX3_carsAfter_12 : decode cX3_carsAfter 12 = .ok (.fmul, 1) := by decide +kernel
theorem dX3_carsAfter_13 : decode cX3_carsAfter 13 = .ok (.ldc 43, 2) := by decide +kernel
theorem dX3_carsAfter_15 : decode cX3_carsAfter 15 = .ok (.fdiv, 1) := by decide +kernel
theorem dX3_carsAfter_16 : decode cX3_carsAfter 16 = .ok (.fsub, 1) := by decide +kernel
theorem dX3_carsAfter_17 : decode cX3_carsAfter 17 = .ok (.f2i, 1) := by decide +kernel
theorem dX3_carsAfter_18 : decode cX3_carsAfter 18 = .ok (.invokestatic 44, 3) := by decide +kernel
theorem dX3_carsAfter_21 : decode cX3_carsAfter 21 = .ok (.ireturn, 1) := by decide +kernel
end
section
theorem dX4_init_0 : decode cX4_init 0 = .ok (.aload_n 0, 1) := by decide +kernel
theorem dX4_init_1 : decode cX4_init 1 = .ok (.invokespecial 1, 3) := by decide +kernel
theorem dX4_init_4 : decode cX4_init 4 = .ok (.aload_n 0, 1) := by decide +kernel
theorem dX4_init_5 : decode cX4_init 5 = .ok (.aload_n 1, 1) := by decide +kernel
theorem dX4_init_6 : decode cX4_init 6 = .ok (.putfield 7, 3) := by decide +kernel
theorem dX4_init_9 : decode cX4_init 9 = .ok (.aload_n 0, 1) := by decide +kernel
theorem dX4_init_10 : decode cX4_init 10 = .ok (.iload_n 2, 1) := by decide +kernel
theorem dX4_init_11 : decode cX4_init 11 = .ok (.putfield 13, 3) := by decide +kernel
theorem dX4_init_14 : decode cX4_init 14 = .ok (.aload_n 0, 1) := by decide +kernel
theorem dX4_init_15 : decode cX4_init 15 = .ok (.iload_n 2, 1) := by decide +kernel
theorem dX4_init_16 : decode cX4_init 16 = .ok (.putfield 17, 3) := by decide +kernel
theorem dX4_init_19 : decode cX4_init 19 = .ok (.aload_n 0, 1) := by decide +kernel
theorem dX4_init_20 : decode cX4_init 20 = .ok (.aload_n 1, 1) := by decide +kernel
theorem dX4_init_21 : decode cX4_init 21 = .ok (.iload_n 2, 1) := by decide +kernel
theorem dX4_init_22 : decode cX4_init 22 = .ok (.iload_n 2, 1) := by decide +kernel
theorem dX4_init_23 : decode cX4_init 23 = .ok (.invokevirtual 20, 3) := by decide +kernel
theorem dX4_init_26 : decode cX4_init 26 = .ok (.putfield 26, 3) := by decide +kernel
theorem dX4_init_29 : decode cX4_init 29 = .ok (.return_, 1) := by decide +kernel
theorem dX4_addUnit_0 : decode cX4_addUnit 0 = .ok (.aload_n 0, 1) := by decide +kernel
theorem dX4_addUnit_1 : decode cX4_addUnit 1 = .ok (.getfield 7, 3) := by decide +kernel
theorem dX4_addUnit_4 : decode cX4_addUnit 4 = .ok (.aload_n 0, 1) := by decide +kernel
theorem dX4_addUnit_5 : decode cX4_addUnit 5 = .ok (.getfield 13, 3) := by decide +kernel
theorem dX4_addUnit_8 : decode cX4_addUnit 8 = .ok (.aload_n 0, 1) := by decide +kernel
theorem dX4_addUnit_9 : decode cX4_addUnit 9 = .ok (.getfield 17, 3) := by decide +kernel
theorem dX4_addUnit_12 : decode cX4_addUnit 12 = .ok (.invokevirtual 20, 3) := by decide +kernel
theorem dX4_addUnit_15 : decode cX4_addUnit 15 = .ok (.istore_n 1, 1) := by decide +kernel
theorem dX4_addUnit_16 : decode cX4_addUnit 16 = .ok (.iload_n 1, 1) := by decide +kernel
theorem dX4_addUnit_17 : decode cX4_addUnit 17 = .ok (.aload_n 0, 1) := by decide +kernel
theorem dX4_addUnit_18 : decode cX4_addUnit 18 = .ok (.getfield 26, 3) := by decide +kernel
theorem dX4_addUnit_21 : decode cX4_addUnit 21 = .ok (.if_icmp .eq 33, 3) := by decide +kernel
theorem dX4_addUnit_24 : decode cX4_addUnit 24 = .ok (.aload_n 0, 1) := by decide +kernel
theorem dX4_addUnit_25 : decode cX4_addUnit 25 = .ok (.dup, 1) := by decide +kernel
theorem dX4_addUnit_26 : decode cX4_addUnit 26 = .ok (.getfield 29, 3) := by decide +kernel
theorem dX4_addUnit_29 : decode cX4_addUnit 29 = .ok (.aload_n 0, 1) := by decide +kernel
theorem dX4_addUnit_30 : decode cX4_addUnit 30 = .ok (.getfield 7, 3) := by decide +kernel
theorem dX4_addUnit_33 : decode cX4_addUnit 33 = .ok (.aload_n 0, 1) := by decide +kernel
theorem dX4_addUnit_34 : decode cX4_addUnit 34 = .ok (.getfield 32, 3) := by decide +kernel
theorem dX4_addUnit_37 : decode cX4_addUnit 37 = .ok (.invokevirtual 35, 3) := by decide +kernel
theorem dX4_addUnit_40 : decode cX4_addUnit 40 = .ok (.iadd, 1) := by decide +kernel
theorem dX4_addUnit_41 : decode cX4_addUnit 41 = .ok (.putfield 29, 3) := by decide +kernel
theorem dX4_addUnit_44 : decode cX4_addUnit 44 = .ok (.aload_n 0, 1) := by decide +kernel
theorem dX4_addUnit_45 : decode cX4_addUnit 45 = .ok (.iconst 0, 1) := by decide +kernel
theorem dX4_addUnit_46 : decode cX4_addUnit 46 = .ok (.putfield 32, 3) := by decide +kernel
theorem dX4_addUnit_49 : decode cX4_addUnit 49 = .ok (.aload_n 0, 1) := by decide +kernel
theorem dX4_addUnit_50 : decode cX4_addUnit 50 = .ok (.iload_n 1, 1) := by decide +kernel
theorem dX4_addUnit_51 : decode cX4_addUnit 51 = .ok (.putfield 26, 3) := by decide +kernel
theorem dX4_addUnit_54 : decode cX4_addUnit 54 = .ok (.aload_n 0, 1) := by decide +kernel
theorem dX4_addUnit_55 : decode cX4_addUnit 55 = .ok (.getfield 7, 3) := by decide +kernel
theorem dX4_addUnit_58 : decode cX4_addUnit 58 = .ok (.aload_n 0, 1) := by decide +kernel
theorem dX4_addUnit_59 : decode cX4_addUnit 59 = .ok (.getfield 17, 3) := by decide +kernel
theorem dX4_addUnit_62 : decode cX4_addUnit 62 = .ok (.invokevirtual 39, 3) := by decide +kernel
theorem dX4_addUnit_65 : decode cX4_addUnit 65 = .ok (.astore_n 2, 1) := by decide +kernel
theorem dX4_addUnit_66 : decode cX4_addUnit 66 = .ok (.aload_n 0, 1) := by decide +kernel
theorem dX4_addUnit_67 : decode cX4_addUnit 67 = .ok (.dup, 1) := by decide +kernel
theorem dX4_addUnit_68 : decode cX4_addUnit 68 = .ok (.getfield 32, 3) := by decide +kernel
theorem dX4_addUnit_71 : decode cX4_addUnit 71 = .ok (.aload_n 2, 1) := by decide +kernel
theorem dX4_addUnit_72 : decode cX4_addUnit 72 = .ok (.getfield 43, 3) := by decide +kernel
theorem dX4_addUnit_75 : decode cX4_addUnit 75 = .ok (.iadd, 1) := by decide +kernel
theorem dX4_addUnit_76 : decode cX4_addUnit 76 = .ok (.putfield 32, 3) := by decide +kernel
theorem dX4_addUnit_79 : decode cX4_addUnit 79 = .ok (.aload_n 0, 1) := by decide +kernel
theorem dX4_addUnit_80 : decode cX4_addUnit 80 = .ok (.dup, 1) := by decide +kernel
theorem dX4_addUnit_81 : decode cX4_addUnit 81 = .ok (.getfield 17, 3) := by decide +kernel
theorem dX4_addUnit_84 : decode cX4_addUnit 84 = .ok (.aload_n 2, 1) := by decide +kernel
theorem dX4_addUnit_85 : decode cX4_addUnit 85 = .ok (.getfield 48, 3) := by decide +kernel
theorem dX4_addUnit_88 : decode cX4_addUnit 88 = .ok (.iadd, 1) := by decide +kernel
theorem dX4_addUnit_89 : decode cX4_addUnit 89 = .ok (.putfield 17, 3) := by decide +kernel
theorem dX4_addUnit_92 : decode cX4_addUnit 92 = .ok (.return_, 1) := by decide +kernel
theorem dX4_amount_0 : decode cX4_amount 0 = .ok (.aload_n 0, 1) := by decide +kernel
theorem dX4_amount_1 : decode cX4_amount 1 = .ok (.getfield 29, 3) := by decide +kernel
theorem dX4_amount_4 : decode cX4_amount 4 = .ok (.aload_n 0, 1) := by decide +kernel
theorem dX4_amount_5 : decode cX4_amount 5 = .ok (.getfield 7, 3) := by decide +kernel
theorem dX4_amount_8 : decode cX4_amount 8 = .ok (.aload_n 0, 1) := by decide +kernel
theorem dX4_amount_9 : decode cX4_amount 9 = .ok (.getfield 32, 3) := by decide +kernel
theorem dX4_amount_12 : decode cX4_amount 12 = .ok (.invokevirtual 35, 3) := by decide +kernel
theorem dX4_amount_15 : decode cX4_amount 15 = .ok (.iadd, 1) := by decide +kernel
theorem dX4_amount_16 : decode cX4_amount 16 = .ok (.ireturn, 1) := by decide +kernel
theorem dX5_init_0 : decode cX5_init 0 = .ok (.aload_n 0, 1) := by decide +kernel
theorem dX5_init_1 : decode cX5_init 1 = .ok (.invokespecial 3, 3) := by decide +kernel
theorem dX5_init_4 : decode cX5_init 4 = .ok (.aload_n 0, 1) := by decide +kernel
theorem dX5_init_5 : decode cX5_init 5 = .ok (.bipush 6, 2) := by decide +kernel
theorem dX5_init_7 : decode cX5_init 7 = .ok (.anewarray 9, 3) := by decide +kernel
theorem dX5_init_10 : decode cX5_init 10 = .ok (.putfield 11, 3) := by decide +kernel
theorem dX5_init_13 : decode cX5_init 13 = .ok (.iconst 0, 1) := by decide +kernel
theorem dX5_init_14 : decode cX5_init 14 = .ok (.istore_n 1, 1) := by decide +kernel
theorem dX5_init_15 : decode cX5_init 15 = .ok (.iload_n 1, 1) := by decide +kernel
theorem dX5_init_16 : decode cX5_init 16 = .ok (.bipush 6, 2) := by decide +kernel
theorem dX5_init_18 : decode cX5_init 18 = .ok (.if_icmp .ge 23, 3) := by decide +kernel
theorem dX5_init_21 : decode cX5_init 21 = .ok (.aload_n 0, 1) := by decide +kernel
theorem dX5_init_22 : decode cX5_init 22 = .ok (.getfield 11, 3) := by decide +kernel
theorem dX5_init_25 : decode cX5_init 25 = .ok (.iload_n 1, 1) := by decide +kernel
theorem dX5_init_26 : decode cX5_init 26 = .ok (.new 9, 3) := by decide +kernel
theorem dX5_init_29 : decode cX5_init 29 = .ok (.dup, 1) := by decide +kernel
theorem dX5_init_30 : decode cX5_init 30 = .ok (.iload_n 1, 1) := by decide +kernel
theorem dX5_init_31 : decode cX5_init 31 = .ok (.invokespecial 17, 3) := by decide +kernel
theorem dX5_init_34 : decode cX5_init 34 = .ok (.aastore, 1) := by decide +kernel
theorem dX5_init_35 : decode cX5_init 35 = .ok (.iinc 1 1, 3) := by decide +kernel
theorem dX5_init_38 : decode cX5_init 38 = .ok (.goto (-23), 3) := by decide +kernel
theorem dX5_init_41 : decode cX5_init 41 = .ok (.aload_n 0, 1) := by decide +kernel
theorem dX5_init_42 : decode cX5_init 42 = .ok (.invokevirtual 20, 3) := by decide +kernel
theorem dX5_init_45 : decode cX5_init 45 = .ok (.return_, 1) := by decide +kernel
theorem dX5_reset_0 : decode cX5_reset 0 = .ok (.aload_n 0, 1) := by decide +kernel
theorem dX5_reset_1 : decode cX5_reset 1 = .ok (.iconst 0, 1) := by decide +kernel
theorem dX5_reset_2 : decode cX5_reset 2 = .ok (.putfield 23, 3) := by decide +kernel
theorem dX5_reset_5 : decode cX5_reset 5 = .ok (.aload_n 0, 1) := by decide +kernel
theorem dX5_reset_6 : decode cX5_reset 6 = .ok (.iconst 0, 1) := by decide +kernel
theorem dX5_reset_7 : decode cX5_reset 7 = .ok (.putfield 27, 3) := by decide +kernel
theorem dX5_reset_10 : decode cX5_reset 10 = .ok (.aload_n 0, 1) := by decide +kernel
theorem dX5_reset_11 : decode cX5_reset 11 = .ok (.iconst 0, 1) := by decide +kernel
theorem dX5_reset_12 : decode cX5_reset 12 = .ok (.putfield 30, 3) := by decide +kernel
theorem dX5_reset_15 : decode cX5_reset 15 = .ok (.aload_n 0, 1) := by decide +kernel
theorem dX5_reset_16 : decode cX5_reset 16 = .ok (.sipush 2000, 3) := by decide +kernel
theorem dX5_reset_19 : decode cX5_reset 19 = .ok (.putfield 33, 3) := by decide +kernel
theorem dX5_reset_22 : decode cX5_reset 22 = .ok (.aload_n 0, 1) := by decide +kernel
theorem dX5_reset_23 : decode cX5_reset 23 = .ok (.getfield 11, 3) := by decide +kernel
theorem dX5_reset_26 : decode cX5_reset 26 = .ok (.iconst 0, 1) := by decide +kernel
theorem dX5_reset_27 : decode cX5_reset 27 = .ok (.aaload, 1) := by decide +kernel
theorem dX5_reset_28 : decode cX5_reset 28 = .ok (.iconst 0, 1) := by decide +kernel
theorem dX5_reset_29 : decode cX5_reset 29 = .ok (.bipush 100, 2) := by decide +kernel
theorem dX5_reset_31 : decode cX5_reset 31 = .ok (.bipush 60, 2) := by decide +kernel
theorem dX5_reset_33 : decode cX5_reset 33 = .ok (.invokevirtual 36, 3) := by decide +kernel
theorem dX5_reset_36 : decode cX5_reset 36 = .ok (.aload_n 0, 1) := by decide +kernel
theorem dX5_reset_37 : decode cX5_reset 37 = .ok (.iconst 1, 1) := by decide +kernel
theorem dX5_reset_38 : decode cX5_reset 38 = .ok (.putfield 40, 3) := by decide +kernel
theorem dX5_reset_41 : decode cX5_reset 41 = .ok (.return_, 1) := by decide +kernel
theorem dX5_copyFrom_0 : decode cX5_copyFrom 0 = .ok (.aload_n 0, 1) := by decide +kernel
theorem dX5_copyFrom_1 : decode cX5_copyFrom 1 = .ok (.aload_n 1, 1) := by decide +kernel
theorem dX5_copyFrom_2 : decode cX5_copyFrom 2 = .ok (.getfield 23, 3) := by decide +kernel
theorem dX5_copyFrom_5 : decode cX5_copyFrom 5 = .ok (.putfield 23, 3) := by decide +kernel
theorem dX5_copyFrom_8 : decode cX5_copyFrom 8 = .ok (.aload_n 0, 1) := by decide +kernel
theorem dX5_copyFrom_9 : decode cX5_copyFrom 9 = .ok (.aload_n 1, 1) := by decide +kernel
theorem dX5_copyFrom_10 : decode cX5_copyFrom 10 = .ok (.getfield 27, 3) := by decide +kernel
theorem dX5_copyFrom_13 : decode cX5_copyFrom 13 = .ok (.putfield 27, 3) := by decide +kernel
theorem dX5_copyFrom_16 : decode cX5_copyFrom 16 = .ok (.aload_n 0, 1) := by decide +kernel
theorem dX5_copyFrom_17 : decode cX5_copyFrom 17 = .ok (.aload_n 1, 1) := by decide +kernel
theorem dX5_copyFrom_18 : decode cX5_copyFrom 18 = .ok (.getfield 30, 3) := by decide +kernel
theorem dX5_copyFrom_21 : decode cX5_copyFrom 21 = .ok (.putfield 30, 3) := by decide +kernel
theorem dX5_copyFrom_24 : decode cX5_copyFrom 24 = .ok (.aload_n 0, 1) := by decide +kernel
theorem dX5_copyFrom_25 : decode cX5_copyFrom 25 = .ok (.aload_n 1, 1) := by decide +kernel
theorem dX5_copyFrom_26 : decode cX5_copyFrom 26 = .ok (.getfield 33, 3) := by decide +kernel
theorem dX5_copyFrom_29 : decode cX5_copyFrom 29 = .ok (.putfield 33, 3) := by decide +kernel
theorem dX5_copyFrom_32 : decode cX5_copyFrom 32 = .ok (.iconst 0, 1) := by decide +kernel
theorem dX5_copyFrom_33 : decode cX5_copyFrom 33 = .ok (.istore_n 2, 1) := by decide +kernel
theorem dX5_copyFrom_34 : decode cX5_copyFrom 34 = .ok (.iload_n 2, 1) := by decide +kernel
theorem dX5_copyFrom_35 : decode cX5_copyFrom 35 = .ok (.bipush 6, 2) := by decide +kernel
theorem dX5_copyFrom_37 : decode cX5_copyFrom 37 = .ok (.if_icmp .ge 24, 3) := by decide +kernel
theorem dX5_copyFrom_40 : decode cX5_copyFrom 40 = .ok (.aload_n 0, 1) := by decide +kernel
theorem dX5_copyFrom_41 : decode cX5_copyFrom 41 = .ok (.getfield 11, 3) := by decide +kernel
theorem dX5_copyFrom_44 : decode cX5_copyFrom 44 = .ok (.iload_n 2, 1) := by decide +kernel
theorem dX5_copyFrom_45 : decode cX5_copyFrom 45 = .ok (.aaload, 1) := by decide +kernel
theorem dX5_copyFrom_46 : decode cX5_copyFrom 46 = .ok (.aload_n 1, 1) := by decide +kernel
theorem dX5_copyFrom_47 : decode cX5_copyFrom 47 = .ok (.getfield 11, 3) := by decide +kernel
theorem dX5_copyFrom_50 : decode cX5_copyFrom 50 = .ok (.iload_n 2, 1) := by decide +kernel
theorem dX5_copyFrom_51 : decode cX5_copyFrom 51 = .ok (.aaload, 1) := by decide +kernel
theorem dX5_copyFrom_52 : decode cX5_copyFrom 52 = .ok (.invokevirtual 43, 3) := by decide +kernel
theorem dX5_copyFrom_55 : decode cX5_copyFrom 55 = .ok (.iinc 2 1, 3) := by decide +kernel
theorem dX5_copyFrom_58 : decode cX5_copyFrom 58 = .ok (.goto (-24), 3) := by decide +kernel
theorem dX5_copyFrom_61 : decode cX5_copyFrom 61 = .ok (.aload_n 0, 1) := by decide +kernel
theorem dX5_copyFrom_62 : decode cX5_copyFrom 62 = .ok (.aload_n 1, 1) := by decide +kernel
theorem dX5_copyFrom_63 : decode cX5_copyFrom 63 = .ok (.getfield 40, 3) := by decide +kernel
theorem dX5_copyFrom_66 : decode cX5_copyFrom 66 = .ok (.putfield 40, 3) := by decide +kernel
theorem dX5_copyFrom_69 : decode cX5_copyFrom 69 = .ok (.return_, 1) := by decide +kernel
theorem dX5_property_0 : decode cX5_property 0 = .ok (.iload_n 1, 1) := by decide +kernel
theorem dX5_property_1 : decode cX5_property 1 = .ok (.tableswitch 51 0 3 #[31, 36, 41, 46], 31) := by decide +kernel
theorem dX5_property_32 : decode cX5_property 32 = .ok (.aload_n 0, 1) := by decide +kernel
theorem dX5_property_33 : decode cX5_property 33 = .ok (.getfield 23, 3) := by decide +kernel
theorem dX5_property_36 : decode cX5_property 36 = .ok (.ireturn, 1) := by decide +kernel
theorem dX5_property_37 : decode cX5_property 37 = .ok (.aload_n 0, 1) := by decide +kernel
theorem dX5_property_38 : decode cX5_property 38 = .ok (.getfield 27, 3) := by decide +kernel
theorem dX5_property_41 : decode cX5_property 41 = .ok (.ireturn, 1) := by decide +kernel
theorem dX5_property_42 : decode cX5_property 42 = .ok (.aload_n 0, 1) := by decide +kernel
theorem dX5_property_43 : decode cX5_property 43 = .ok (.getfield 30, 3) := by decide +kernel
theorem dX5_property_46 : decode cX5_property 46 = .ok (.ireturn, 1) := by decide +kernel
theorem dX5_property_47 : decode cX5_property 47 = .ok (.aload_n 0, 1) := by decide +kernel
theorem dX5_property_48 : decode cX5_property 48 = .ok (.getfield 33, 3) := by decide +kernel
theorem dX5_property_51 : decode cX5_property 51 = .ok (.ireturn, 1) := by decide +kernel
theorem dX5_property_52 : decode cX5_property 52 = .ok (.aload_n 0, 1) := by decide +kernel
theorem dX5_property_53 : decode cX5_property 53 = .ok (.getfield 40, 3) := by decide +kernel
theorem dX5_property_56 : decode cX5_property 56 = .ok (.ireturn, 1) := by decide +kernel
theorem dX5_bandAt_0 : decode cX5_bandAt 0 = .ok (.iload_n 1, 1) := by decide +kernel
theorem dX5_bandAt_1 : decode cX5_bandAt 1 = .ok (.iconst 0, 1) := by decide +kernel
theorem dX5_bandAt_2 : decode cX5_bandAt 2 = .ok (.iconst 5, 1) := by decide +kernel
theorem dX5_bandAt_3 : decode cX5_bandAt 3 = .ok (.invokestatic 47, 3) := by decide +kernel
theorem dX5_bandAt_6 : decode cX5_bandAt 6 = .ok (.ifCond .eq 15, 3) := by decide +kernel
theorem dX5_bandAt_9 : decode cX5_bandAt 9 = .ok (.iload_n 1, 1) := by decide +kernel
theorem dX5_bandAt_10 : decode cX5_bandAt 10 = .ok (.aload_n 0, 1) := by decide +kernel
theorem dX5_bandAt_11 : decode cX5_bandAt 11 = .ok (.getfield 40, 3) := by decide +kernel
theorem dX5_bandAt_14 : decode cX5_bandAt 14 = .ok (.if_icmp .ge 7, 3) := by decide +kernel
theorem dX5_bandAt_17 : decode cX5_bandAt 17 = .ok (.iconst 1, 1) := by decide +kernel
theorem dX5_bandAt_18 : decode cX5_bandAt 18 = .ok (.goto 4, 3) := by decide +kernel
theorem dX5_bandAt_21 : decode cX5_bandAt 21 = .ok (.iconst 0, 1) := by decide +kernel
theorem dX5_bandAt_22 : decode cX5_bandAt 22 = .ok (.istore_n 2, 1) := by decide +kernel
theorem dX5_bandAt_23 : decode cX5_bandAt 23 = .ok (.iload_n 2, 1) := by decide +kernel
theorem dX5_bandAt_24 : decode cX5_bandAt 24 = .ok (.ifCond .eq 12, 3) := by decide +kernel
theorem dX5_bandAt_27 : decode cX5_bandAt 27 = .ok (.aload_n 0, 1) := by decide +kernel
theorem dX5_bandAt_28 : decode cX5_bandAt 28 = .ok (.getfield 11, 3) := by decide +kernel
theorem dX5_bandAt_31 : decode cX5_bandAt 31 = .ok (.iload_n 1, 1) := by decide +kernel
theorem dX5_bandAt_32 : decode cX5_bandAt 32 = .ok (.aaload, 1) := by decide +kernel
theorem dX5_bandAt_33 : decode cX5_bandAt 33 = .ok (.goto 4, 3) := by decide +kernel
theorem dX5_bandAt_36 : decode cX5_bandAt 36 = .ok (.aconst_null, 1) := by decide +kernel
theorem dX5_bandAt_37 : decode cX5_bandAt 37 = .ok (.areturn, 1) := by decide +kernel
theorem dX5_bandOfMinute_0 : decode cX5_bandOfMinute 0 = .ok (.iload_n 1, 1) := by decide +kernel
theorem dX5_bandOfMinute_1 : decode cX5_bandOfMinute 1 = .ok (.sipush 1440, 3) := by decide +kernel
theorem dX5_bandOfMinute_4 : decode cX5_bandOfMinute 4 = .ok (.irem, 1) := by decide +kernel
theorem dX5_bandOfMinute_5 : decode cX5_bandOfMinute 5 = .ok (.istore_n 2, 1) := by decide +kernel
theorem dX5_bandOfMinute_6 : decode cX5_bandOfMinute 6 = .ok (.aload_n 0, 1) := by decide +kernel
theorem dX5_bandOfMinute_7 : decode cX5_bandOfMinute 7 = .ok (.getfield 11, 3) := by decide +kernel
theorem dX5_bandOfMinute_10 : decode cX5_bandOfMinute 10 = .ok (.iconst 0, 1) := by decide +kernel
theorem dX5_bandOfMinute_11 : decode cX5_bandOfMinute 11 = .ok (.aaload, 1) := by decide +kernel
theorem dX5_bandOfMinute_12 : decode cX5_bandOfMinute 12 = .ok (.astore_n 3, 1) := by decide +kernel
theorem dX5_bandOfMinute_13 : decode cX5_bandOfMinute 13 = .ok (.iconst 1, 1) := by decide +kernel
theorem dX5_bandOfMinute_14 : decode cX5_bandOfMinute 14 = .ok (.istore 4, 2) := by decide +kernel
theorem dX5_bandOfMinute_16 : decode cX5_bandOfMinute 16 = .ok (.iload 4, 2) := by decide +kernel
theorem dX5_bandOfMinute_18 : decode cX5_bandOfMinute 18 = .ok (.bipush 6, 2) := by decide +kernel
theorem dX5_bandOfMinute_20 : decode cX5_bandOfMinute 20 = .ok (.if_icmp .ge 40, 3) := by decide +kernel
theorem dX5_bandOfMinute_23 : decode cX5_bandOfMinute 23 = .ok (.iload 4, 2) := by decide +kernel
theorem dX5_bandOfMinute_25 : decode cX5_bandOfMinute 25 = .ok (.aload_n 0, 1) := by decide +kernel
theorem dX5_bandOfMinute_26 : decode cX5_bandOfMinute 26 = .ok (.getfield 40, 3) := by decide +kernel
theorem dX5_bandOfMinute_29 : decode cX5_bandOfMinute 29 = .ok (.if_icmp .ge 31, 3) := by decide +kernel
theorem dX5_bandOfMinute_32 : decode cX5_bandOfMinute 32 = .ok (.aload_n 0, 1) := by decide +kernel
theorem dX5_bandOfMinute_33 : decode cX5_bandOfMinute 33 = .ok (.getfield 11, 3) := by decide +kernel
theorem dX5_bandOfMinute_36 : decode cX5_bandOfMinute 36 = .ok (.iload 4, 2) := by decide +kernel
theorem dX5_bandOfMinute_38 : decode cX5_bandOfMinute 38 = .ok (.aaload, 1) := by decide +kernel
theorem dX5_bandOfMinute_39 : decode cX5_bandOfMinute 39 = .ok (.getfield 51, 3) := by decide +kernel
theorem dX5_bandOfMinute_42 : decode cX5_bandOfMinute 42 = .ok (.iload_n 2, 1) := by decide +kernel
theorem dX5_bandOfMinute_43 : decode cX5_bandOfMinute 43 = .ok (.if_icmp .gt 11, 3) := by decide +kernel
theorem dX5_bandOfMinute_46 : decode cX5_bandOfMinute 46 = .ok (.aload_n 0, 1) := by decide +kernel
theorem dX5_bandOfMinute_47 : decode cX5_bandOfMinute 47 = .ok (.getfield 11, 3) := by decide +kernel
theorem dX5_bandOfMinute_50 : decode cX5_bandOfMinute 50 = .ok (.iload 4, 2) := by decide +kernel
theorem dX5_bandOfMinute_52 : decode cX5_bandOfMinute 52 = .ok (.aaload, 1) := by decide +kernel
theorem dX5_bandOfMinute_53 : decode cX5_bandOfMinute 53 = .ok (.astore_n 3, 1) := by decide +kernel
theorem dX5_bandOfMinute_54 : decode cX5_bandOfMinute 54 = .ok (.iinc 4 1, 3) := by decide +kernel
theorem dX5_bandOfMinute_57 : decode cX5_bandOfMinute 57 = .ok (.goto (-41), 3) := by decide +kernel
theorem dX5_bandOfMinute_60 : decode cX5_bandOfMinute 60 = .ok (.aload_n 3, 1) := by decide +kernel
theorem dX5_bandOfMinute_61 : decode cX5_bandOfMinute 61 = .ok (.areturn, 1) := by decide +kernel
theorem dX5_groupOf_0 : decode cX5_groupOf 0 = .ok (.aload_n 0, 1) := by decide +kernel
theorem dX5_groupOf_1 : decode cX5_groupOf 1 = .ok (.getfield 30, 3) := by decide +kernel
theorem dX5_groupOf_4 : decode cX5_groupOf 4 = .ok (.iconst 1, 1) := by decide +kernel
theorem dX5_groupOf_5 : decode cX5_groupOf 5 = .ok (.if_icmp .ne 11, 3) := by decide +kernel
theorem dX5_groupOf_8 : decode cX5_groupOf 8 = .ok (.iload_n 2, 1) := by decide +kernel
theorem dX5_groupOf_9 : decode cX5_groupOf 9 = .ok (.sipush 1440, 3) := by decide +kernel
theorem dX5_groupOf_12 : decode cX5_groupOf 12 = .ok (.idiv, 1) := by decide +kernel
theorem dX5_groupOf_13 : decode cX5_groupOf 13 = .ok (.goto 10, 3) := by decide +kernel
theorem dX5_groupOf_16 : decode cX5_groupOf 16 = .ok (.iload_n 2, 1) := by decide +kernel
theorem dX5_groupOf_17 : decode cX5_groupOf 17 = .ok (.iload_n 1, 1) := by decide +kernel
theorem dX5_groupOf_18 : decode cX5_groupOf 18 = .ok (.isub, 1) := by decide +kernel
theorem dX5_groupOf_19 : decode cX5_groupOf 19 = .ok (.sipush 1440, 3) := by decide +kernel
theorem dX5_groupOf_22 : decode cX5_groupOf 22 = .ok (.idiv, 1) := by decide +kernel
theorem dX5_groupOf_23 : decode cX5_groupOf 23 = .ok (.ireturn, 1) := by decide +kernel
theorem dX5_capped_0 : decode cX5_capped 0 = .ok (.aload_n 0, 1) := by decide +kernel
theorem dX5_capped_1 : decode cX5_capped 1 = .ok (.getfield 27, 3) := by decide +kernel
theorem dX5_capped_4 : decode cX5_capped 4 = .ok (.ifCond .ne 7, 3) := by decide +kernel
theorem dX5_capped_7 : decode cX5_capped 7 = .ok (.iload_n 1, 1) := by decide +kernel
theorem dX5_capped_8 : decode cX5_capped 8 = .ok (.goto 11, 3) := by decide +kernel
theorem dX5_capped_11 : decode cX5_capped 11 = .ok (.iload_n 1, 1) := by decide +kernel
theorem dX5_capped_12 : decode cX5_capped 12 = .ok (.aload_n 0, 1) := by decide +kernel
theorem dX5_capped_13 : decode cX5_capped 13 = .ok (.getfield 27, 3) := by decide +kernel
theorem dX5_capped_16 : decode cX5_capped 16 = .ok (.invokestatic 54, 3) := by decide +kernel
theorem dX5_capped_19 : decode cX5_capped 19 = .ok (.ireturn, 1) := by decide +kernel
theorem dX5_feeOfStay_0 : decode cX5_feeOfStay 0 = .ok (.iload_n 2, 1) := by decide +kernel
theorem dX5_feeOfStay_1 : decode cX5_feeOfStay 1 = .ok (.iload_n 1, 1) := by decide +kernel
theorem dX5_feeOfStay_2 : decode cX5_feeOfStay 2 = .ok (.isub, 1) := by decide +kernel
theorem dX5_feeOfStay_3 : decode cX5_feeOfStay 3 = .ok (.aload_n 0, 1) := by decide +kernel
theorem dX5_feeOfStay_4 : decode cX5_feeOfStay 4 = .ok (.getfield 23, 3) := by decide +kernel
theorem dX5_feeOfStay_7 : decode cX5_feeOfStay 7 = .ok (.if_icmp .gt 5, 3) := by decide +kernel
theorem dX5_feeOfStay_10 : decode cX5_feeOfStay 10 = .ok (.iconst 0, 1) := by decide +kernel
theorem dX5_feeOfStay_11 : decode cX5_feeOfStay 11 = .ok (.ireturn, 1) := by decide +kernel
theorem dX5_feeOfStay_12 : decode cX5_feeOfStay 12 = .ok (.new 60, 3) := by decide +kernel
theorem dX5_feeOfStay_15 : decode cX5_feeOfStay 15 = .ok (.dup, 1) := by decide +kernel
theorem dX5_feeOfStay_16 : decode cX5_feeOfStay 16 = .ok (.aload_n 0, 1) := by decide +kernel
theorem dX5_feeOfStay_17 : decode cX5_feeOfStay 17 = .ok (.iload_n 1, 1) := by decide +kernel
theorem dX5_feeOfStay_18 : decode cX5_feeOfStay 18 = .ok (.invokespecial 62, 3) := by decide +kernel
theorem dX5_feeOfStay_21 : decode cX5_feeOfStay 21 = .ok (.astore_n 3, 1) := by decide +kernel
theorem dX5_feeOfStay_22 : decode cX5_feeOfStay 22 = .ok (.iconst 0, 1) := by decide +kernel
theorem dX5_feeOfStay_23 : decode cX5_feeOfStay 23 = .ok (.istore 4, 2) := by decide +kernel
theorem dX5_feeOfStay_25 : decode cX5_feeOfStay 25 = .ok (.iload 4, 2) := by decide +kernel
theorem dX5_feeOfStay_27 : decode cX5_feeOfStay 27 = .ok (.sipush 20000, 3) := by decide +kernel
theorem dX5_feeOfStay_30 : decode cX5_feeOfStay 30 = .ok (.if_icmp .ge 21, 3) := by decide +kernel
theorem dX5_feeOfStay_33 : decode cX5_feeOfStay 33 = .ok (.aload_n 3, 1) := by decide +kernel
theorem dX5_feeOfStay_34 : decode cX5_feeOfStay 34 = .ok (.getfield 65, 3) := by decide +kernel
theorem dX5_feeOfStay_37 : decode cX5_feeOfStay 37 = .ok (.iload_n 2, 1) := by decide +kernel
theorem dX5_feeOfStay_38 : decode cX5_feeOfStay 38 = .ok (.if_icmp .ge 13, 3) := by decide +kernel
theorem dX5_feeOfStay_41 : decode cX5_feeOfStay 41 = .ok (.aload_n 3, 1) := by decide +kernel
theorem dX5_feeOfStay_42 : decode cX5_feeOfStay 42 = .ok (.invokevirtual 68, 3) := by decide +kernel
theorem dX5_feeOfStay_45 : decode cX5_feeOfStay 45 = .ok (.iinc 4 1, 3) := by decide +kernel
theorem dX5_feeOfStay_48 : decode cX5_feeOfStay 48 = .ok (.goto (-23), 3) := by decide +kernel
theorem dX5_feeOfStay_51 : decode cX5_feeOfStay 51 = .ok (.aload_n 3, 1) := by decide +kernel
theorem dX5_feeOfStay_52 : decode cX5_feeOfStay 52 = .ok (.invokevirtual 71, 3) := by decide +kernel
theorem dX5_feeOfStay_55 : decode cX5_feeOfStay 55 = .ok (.ireturn, 1) := by decide +kernel
theorem dX5_latestEnd_0 : decode cX5_latestEnd 0 = .ok (.aload_n 0, 1) := by decide +kernel
theorem dX5_latestEnd_1 : decode cX5_latestEnd 1 = .ok (.iload_n 1, 1) := by decide +kernel
theorem dX5_latestEnd_2 : decode cX5_latestEnd 2 = .ok (.iload_n 2, 1) := by decide +kernel
theorem dX5_latestEnd_3 : decode cX5_latestEnd 3 = .ok (.invokevirtual 75, 3) := by decide +kernel
theorem dX5_latestEnd_6 : decode cX5_latestEnd 6 = .ok (.istore_n 3, 1) := by decide +kernel
theorem dX5_latestEnd_7 : decode cX5_latestEnd 7 = .ok (.iload_n 1, 1) := by decide +kernel
theorem dX5_latestEnd_8 : decode cX5_latestEnd 8 = .ok (.aload_n 0, 1) := by decide +kernel
theorem dX5_latestEnd_9 : decode cX5_latestEnd 9 = .ok (.getfield 23, 3) := by decide +kernel
theorem dX5_latestEnd_12 : decode cX5_latestEnd 12 = .ok (.iadd, 1) := by decide +kernel
theorem dX5_latestEnd_13 : decode cX5_latestEnd 13 = .ok (.ldc 78, 2) := by decide +kernel
theorem dX5_latestEnd_15 : decode cX5_latestEnd 15 = .ok (.invokestatic 54, 3) := by decide +kernel
theorem dX5_latestEnd_18 : decode cX5_latestEnd 18 = .ok (.istore 4, 2) := by decide +kernel
theorem dX5_latestEnd_20 : decode cX5_latestEnd 20 = .ok (.new 60, 3) := by decide +kernel
theorem dX5_latestEnd_23 : decode cX5_latestEnd 23 = .ok (.dup, 1) := by decide +kernel
theorem dX5_latestEnd_24 : decode cX5_latestEnd 24 = .ok (.aload_n 0, 1) := by decide +kernel
theorem dX5_latestEnd_25 : decode cX5_latestEnd 25 = .ok (.iload_n 1, 1) := by decide +kernel
theorem dX5_latestEnd_26 : decode cX5_latestEnd 26 = .ok (.invokespecial 62, 3) := by decide +kernel
theorem dX5_latestEnd_29 : decode cX5_latestEnd 29 = .ok (.astore 5, 2) := by decide +kernel
theorem dX5_latestEnd_31 : decode cX5_latestEnd 31 = .ok (.iconst 0, 1) := by decide +kernel
theorem dX5_latestEnd_32 : decode cX5_latestEnd 32 = .ok (.istore 6, 2) := by decide +kernel
theorem dX5_latestEnd_34 : decode cX5_latestEnd 34 = .ok (.iload 6, 2) := by decide +kernel
theorem dX5_latestEnd_36 : decode cX5_latestEnd 36 = .ok (.sipush 20000, 3) := by decide +kernel
theorem dX5_latestEnd_39 : decode cX5_latestEnd 39 = .ok (.if_icmp .ge 48, 3) := by decide +kernel
theorem dX5_latestEnd_42 : decode cX5_latestEnd 42 = .ok (.aload 5, 2) := by decide +kernel
theorem dX5_latestEnd_44 : decode cX5_latestEnd 44 = .ok (.getfield 65, 3) := by decide +kernel
theorem dX5_latestEnd_47 : decode cX5_latestEnd 47 = .ok (.ldc 78, 2) := by decide +kernel
theorem dX5_latestEnd_49 : decode cX5_latestEnd 49 = .ok (.if_icmp .ge 38, 3) := by decide +kernel
theorem dX5_latestEnd_52 : decode cX5_latestEnd 52 = .ok (.aload 5, 2) := by decide +kernel
theorem dX5_latestEnd_54 : decode cX5_latestEnd 54 = .ok (.getfield 65, 3) := by decide +kernel
theorem dX5_latestEnd_57 : decode cX5_latestEnd 57 = .ok (.istore 7, 2) := by decide +kernel
theorem dX5_latestEnd_59 : decode cX5_latestEnd 59 = .ok (.aload 5, 2) := by decide +kernel
theorem dX5_latestEnd_61 : decode cX5_latestEnd 61 = .ok (.invokevirtual 68, 3) := by decide +kernel
theorem dX5_latestEnd_64 : decode cX5_latestEnd 64 = .ok (.aload 5, 2) := by decide +kernel
theorem dX5_latestEnd_66 : decode cX5_latestEnd 66 = .ok (.invokevirtual 71, 3) := by decide +kernel
theorem dX5_latestEnd_69 : decode cX5_latestEnd 69 = .ok (.iload_n 3, 1) := by decide +kernel
theorem dX5_latestEnd_70 : decode cX5_latestEnd 70 = .ok (.if_icmp .le 11, 3) := by decide +kernel
theorem dX5_latestEnd_73 : decode cX5_latestEnd 73 = .ok (.iload 7, 2) := by decide +kernel
theorem dX5_latestEnd_75 : decode cX5_latestEnd 75 = .ok (.iload 4, 2) := by decide +kernel
theorem dX5_latestEnd_77 : decode cX5_latestEnd 77 = .ok (.invokestatic 79, 3) := by decide +kernel
theorem dX5_latestEnd_80 : decode cX5_latestEnd 80 = .ok (.ireturn, 1) := by decide +kernel
theorem dX5_latestEnd_81 : decode cX5_latestEnd 81 = .ok (.iinc 6 1, 3) := by decide +kernel
theorem dX5_latestEnd_84 : decode cX5_latestEnd 84 = .ok (.goto (-50), 3) := by decide +kernel
theorem dX5_latestEnd_87 : decode cX5_latestEnd 87 = .ok (.ldc 78, 2) := by decide +kernel
theorem dX5_latestEnd_89 : decode cX5_latestEnd 89 = .ok (.ireturn, 1) := by decide +kernel
theorem dX5_partOfUnit_0 : decode cX5_partOfUnit 0 = .ok (.new 60, 3) := by decide +kernel
theorem dX5_partOfUnit_3 : decode cX5_partOfUnit 3 = .ok (.dup, 1) := by decide +kernel
theorem dX5_partOfUnit_4 : decode cX5_partOfUnit 4 = .ok (.aload_n 0, 1) := by decide +kernel
theorem dX5_partOfUnit_5 : decode cX5_partOfUnit 5 = .ok (.iload_n 1, 1) := by decide +kernel
theorem dX5_partOfUnit_6 : decode cX5_partOfUnit 6 = .ok (.invokespecial 62, 3) := by decide +kernel
theorem dX5_partOfUnit_9 : decode cX5_partOfUnit 9 = .ok (.astore 4, 2) := by decide +kernel
theorem dX5_partOfUnit_11 : decode cX5_partOfUnit 11 = .ok (.iconst 0, 1) := by decide +kernel
theorem dX5_partOfUnit_12 : decode cX5_partOfUnit 12 = .ok (.istore 5, 2) := by decide +kernel
theorem dX5_partOfUnit_14 : decode cX5_partOfUnit 14 = .ok (.iload 5, 2) := by decide +kernel
theorem dX5_partOfUnit_16 : decode cX5_partOfUnit 16 = .ok (.iload_n 2, 1) := by decide +kernel
theorem dX5_partOfUnit_17 : decode cX5_partOfUnit 17 = .ok (.if_icmp .ge 14, 3) := by decide +kernel
theorem dX5_partOfUnit_20 : decode cX5_partOfUnit 20 = .ok (.aload 4, 2) := by decide +kernel
theorem dX5_partOfUnit_22 : decode cX5_partOfUnit 22 = .ok (.invokevirtual 68, 3) := by decide +kernel
theorem dX5_partOfUnit_25 : decode cX5_partOfUnit 25 = .ok (.iinc 5 1, 3) := by decide +kernel
theorem dX5_partOfUnit_28 : decode cX5_partOfUnit 28 = .ok (.goto (-14), 3) := by decide +kernel
theorem dX5_partOfUnit_31 : decode cX5_partOfUnit 31 = .ok (.iload_n 3, 1) := by decide +kernel
theorem dX5_partOfUnit_32 : decode cX5_partOfUnit 32 = .ok (.lookupswitch 47 #[(0, 28), (1, 34)], 28) := by decide +kernel
theorem dX5_partOfUnit_60 : decode cX5_partOfUnit 60 = .ok (.aload 4, 2) := by decide +kernel
theorem dX5_partOfUnit_62 : decode cX5_partOfUnit 62 = .ok (.getfield 65, 3) := by decide +kernel
theorem dX5_partOfUnit_65 : decode cX5_partOfUnit 65 = .ok (.ireturn, 1) := by decide +kernel
theorem dX5_partOfUnit_66 : decode cX5_partOfUnit 66 = .ok (.aload_n 0, 1) := by decide +kernel
theorem dX5_partOfUnit_67 : decode cX5_partOfUnit 67 = .ok (.aload 4, 2) := by decide +kernel
theorem dX5_partOfUnit_69 : decode cX5_partOfUnit 69 = .ok (.getfield 65, 3) := by decide +kernel
theorem dX5_partOfUnit_72 : decode cX5_partOfUnit 72 = .ok (.invokevirtual 82, 3) := by decide +kernel
theorem dX5_partOfUnit_75 : decode cX5_partOfUnit 75 = .ok (.getfield 86, 3) := by decide +kernel
theorem dX5_partOfUnit_78 : decode cX5_partOfUnit 78 = .ok (.ireturn, 1) := by decide +kernel
theorem dX5_partOfUnit_79 : decode cX5_partOfUnit 79 = .ok (.aload_n 0, 1) := by decide +kernel
theorem dX5_partOfUnit_80 : decode cX5_partOfUnit 80 = .ok (.iload_n 1, 1) := by decide +kernel
theorem dX5_partOfUnit_81 : decode cX5_partOfUnit 81 = .ok (.aload 4, 2) := by decide +kernel
theorem dX5_partOfUnit_83 : decode cX5_partOfUnit 83 = .ok (.getfield 65, 3) := by decide +kernel
theorem dX5_partOfUnit_86 : decode cX5_partOfUnit 86 = .ok (.invokevirtual 89, 3) := by decide +kernel
theorem dX5_partOfUnit_89 : decode cX5_partOfUnit 89 = .ok (.ireturn, 1) := by decide +kernel
theorem dX6_init_0 : decode cX6_init 0 = .ok (.aload_n 0, 1) := by decide +kernel
theorem dX6_init_1 : decode cX6_init 1 = .ok (.invokespecial 3, 3) := by decide +kernel
theorem dX6_init_4 : decode cX6_init 4 = .ok (.aload_n 0, 1) := by decide +kernel
theorem dX6_init_5 : decode cX6_init 5 = .ok (.bipush 90, 2) := by decide +kernel
theorem dX6_init_7 : decode cX6_init 7 = .ok (.newarray .char, 2) := by decide +kernel
theorem dX6_init_9 : decode cX6_init 9 = .ok (.putfield 9, 3) := by decide +kernel
theorem dX6_init_12 : decode cX6_init 12 = .ok (.aload_n 0, 1) := by decide +kernel
theorem dX6_init_13 : decode cX6_init 13 = .ok (.iconst 3, 1) := by decide +kernel
theorem dX6_init_14 : decode cX6_init 14 = .ok (.newarray .int, 2) := by decide +kernel
theorem dX6_init_16 : decode cX6_init 16 = .ok (.putfield 15, 3) := by decide +kernel
theorem dX6_init_19 : decode cX6_init 19 = .ok (.aload_n 0, 1) := by decide +kernel
theorem dX6_init_20 : decode cX6_init 20 = .ok (.new 19, 3) := by decide +kernel
theorem dX6_init_23 : decode cX6_init 23 = .ok (.dup, 1) := by decide +kernel
theorem dX6_init_24 : decode cX6_init 24 = .ok (.invokespecial 21, 3) := by decide +kernel
theorem dX6_init_27 : decode cX6_init 27 = .ok (.putfield 22, 3) := by decide +kernel
theorem dX6_init_30 : decode cX6_init 30 = .ok (.return_, 1) := by decide +kernel
theorem dX6_hasRoomFor_0 : decode cX6_hasRoomFor 0 = .ok (.aload_n 0, 1) := by decide +kernel
theorem dX6_hasRoomFor_1 : decode cX6_hasRoomFor 1 = .ok (.getfield 26, 3) := by decide +kernel
theorem dX6_hasRoomFor_4 : decode cX6_hasRoomFor 4 = .ok (.iload_n 1, 1) := by decide +kernel
theorem dX6_hasRoomFor_5 : decode cX6_hasRoomFor 5 = .ok (.iadd, 1) := by decide +kernel
theorem dX6_hasRoomFor_6 : decode cX6_hasRoomFor 6 = .ok (.bipush 90, 2) := by decide +kernel
theorem dX6_hasRoomFor_8 : decode cX6_hasRoomFor 8 = .ok (.if_icmp .gt 7, 3) := by decide +kernel
theorem dX6_hasRoomFor_11 : decode cX6_hasRoomFor 11 = .ok (.iconst 1, 1) := by decide +kernel
theorem dX6_hasRoomFor_12 : decode cX6_hasRoomFor 12 = .ok (.goto 4, 3) := by decide +kernel
theorem dX6_hasRoomFor_15 : decode cX6_hasRoomFor 15 = .ok (.iconst 0, 1) := by decide +kernel
theorem dX6_hasRoomFor_16 : decode cX6_hasRoomFor 16 = .ok (.ireturn, 1) := by decide +kernel
theorem dX6_add_0 : decode cX6_add 0 = .ok (.iconst 0, 1) := by decide +kernel
theorem dX6_add_1 : decode cX6_add 1 = .ok (.istore_n 3, 1) := by decide +kernel
theorem dX6_add_2 : decode cX6_add 2 = .ok (.iload_n 3, 1) := by decide +kernel
theorem dX6_add_3 : decode cX6_add 3 = .ok (.iload_n 2, 1) := by decide +kernel
theorem dX6_add_4 : decode cX6_add 4 = .ok (.if_icmp .ge 38, 3) := by decide +kernel
theorem dX6_add_7 : decode cX6_add 7 = .ok (.aload_n 0, 1) := by decide +kernel
theorem dX6_add_8 : decode cX6_add 8 = .ok (.getfield 26, 3) := by decide +kernel
theorem dX6_add_11 : decode cX6_add 11 = .ok (.bipush 90, 2) := by decide +kernel
theorem dX6_add_13 : decode cX6_add 13 = .ok (.if_icmp .ge 29, 3) := by decide +kernel
theorem dX6_add_16 : decode cX6_add 16 = .ok (.aload_n 0, 1) := by decide +kernel
theorem dX6_add_17 : decode cX6_add 17 = .ok (.getfield 9, 3) := by decide +kernel
theorem dX6_add_20 : decode cX6_add 20 = .ok (.aload_n 0, 1) := by decide +kernel
theorem dX6_add_21 : decode cX6_add 21 = .ok (.getfield 26, 3) := by decide +kernel
theorem dX6_add_24 : decode cX6_add 24 = .ok (.iload_n 1, 1) := by decide +kernel
theorem dX6_add_25 : decode cX6_add 25 = .ok (.castore, 1) := by decide +kernel
theorem dX6_add_26 : decode cX6_add 26 = .ok (.aload_n 0, 1) := by decide +kernel
theorem dX6_add_27 : decode cX6_add 27 = .ok (.dup, 1) := by decide +kernel
theorem dX6_add_28 : decode cX6_add 28 = .ok (.getfield 26, 3) := by decide +kernel
theorem dX6_add_31 : decode cX6_add 31 = .ok (.iconst 1, 1) := by decide +kernel
theorem dX6_add_32 : decode cX6_add 32 = .ok (.iadd, 1) := by decide +kernel
theorem dX6_add_33 : decode cX6_add 33 = .ok (.putfield 26, 3) := by decide +kernel
theorem dX6_add_36 : decode cX6_add 36 = .ok (.iinc 3 1, 3) := by decide +kernel
theorem dX6_add_39 : decode cX6_add 39 = .ok (.goto (-37), 3) := by decide +kernel
theorem dX6_add_42 : decode cX6_add 42 = .ok (.return_, 1) := by decide +kernel
theorem dX6_clear_0 : decode cX6_clear 0 = .ok (.aload_n 0, 1) := by decide +kernel
theorem dX6_clear_1 : decode cX6_clear 1 = .ok (.iconst 0, 1) := by decide +kernel
theorem dX6_clear_2 : decode cX6_clear 2 = .ok (.putfield 26, 3) := by decide +kernel
theorem dX6_clear_5 : decode cX6_clear 5 = .ok (.return_, 1) := by decide +kernel
theorem dX6_describesPlan_0 : decode cX6_describesPlan 0 = .ok (.aload_n 0, 1) := by decide +kernel
theorem dX6_describesPlan_1 : decode cX6_describesPlan 1 = .ok (.getfield 22, 3) := by decide +kernel
theorem dX6_describesPlan_4 : decode cX6_describesPlan 4 = .ok (.invokevirtual 30, 3) := by decide +kernel
theorem dX6_describesPlan_7 : decode cX6_describesPlan 7 = .ok (.aload_n 0, 1) := by decide +kernel
theorem dX6_describesPlan_8 : decode cX6_describesPlan 8 = .ok (.iconst 0, 1) := by decide +kernel
theorem dX6_describesPlan_9 : decode cX6_describesPlan 9 = .ok (.putfield 33, 3) := by decide +kernel
theorem dX6_describesPlan_12 : decode cX6_describesPlan 12 = .ok (.aload_n 0, 1) := by decide +kernel
theorem dX6_describesPlan_13 : decode cX6_describesPlan 13 = .ok (.iconst 0, 1) := by decide +kernel
theorem dX6_describesPlan_14 : decode cX6_describesPlan 14 = .ok (.putfield 36, 3) := by decide +kernel
theorem dX6_describesPlan_17 : decode cX6_describesPlan 17 = .ok (.aload_n 0, 1) := by decide +kernel
theorem dX6_describesPlan_18 : decode cX6_describesPlan 18 = .ok (.iconst 0, 1) := by decide +kernel
theorem dX6_describesPlan_19 : decode cX6_describesPlan 19 = .ok (.putfield 39, 3) := by decide +kernel
theorem dX6_describesPlan_22 : decode cX6_describesPlan 22 = .ok (.aload_n 0, 1) := by decide +kernel
theorem dX6_describesPlan_23 : decode cX6_describesPlan 23 = .ok (.getfield 39, 3) := by decide +kernel
theorem dX6_describesPlan_26 : decode cX6_describesPlan 26 = .ok (.bipush 90, 2) := by decide +kernel
theorem dX6_describesPlan_28 : decode cX6_describesPlan 28 = .ok (.if_icmp .ge 49, 3) := by decide +kernel
theorem dX6_describesPlan_31 : decode cX6_describesPlan 31 = .ok (.aload_n 0, 1) := by decide +kernel
theorem dX6_describesPlan_32 : decode cX6_describesPlan 32 = .ok (.invokevirtual 42, 3) := by decide +kernel
theorem dX6_describesPlan_35 : decode cX6_describesPlan 35 = .ok (.ifCond .ne 5, 3) := by decide +kernel
theorem dX6_describesPlan_38 : decode cX6_describesPlan 38 = .ok (.iconst 0, 1) := by decide +kernel
theorem dX6_describesPlan_39 : decode cX6_describesPlan 39 = .ok (.ireturn, 1) := by decide +kernel
theorem dX6_describesPlan_40 : decode cX6_describesPlan 40 = .ok (.aload_n 0, 1) := by decide +kernel
theorem dX6_describesPlan_41 : decode cX6_describesPlan 41 = .ok (.getfield 36, 3) := by decide +kernel
theorem dX6_describesPlan_44 : decode cX6_describesPlan 44 = .ok (.aload_n 0, 1) := by decide +kernel
theorem dX6_describesPlan_45 : decode cX6_describesPlan 45 = .ok (.getfield 26, 3) := by decide +kernel
theorem dX6_describesPlan_48 : decode cX6_describesPlan 48 = .ok (.if_icmp .lt 5, 3) := by decide +kernel
theorem dX6_describesPlan_51 : decode cX6_describesPlan 51 = .ok (.iconst 1, 1) := by decide +kernel
theorem dX6_describesPlan_52 : decode cX6_describesPlan 52 = .ok (.ireturn, 1) := by decide +kernel
theorem dX6_describesPlan_53 : decode cX6_describesPlan 53 = .ok (.aload_n 0, 1) := by decide +kernel
theorem dX6_describesPlan_54 : decode cX6_describesPlan 54 = .ok (.bipush 59, 2) := by decide +kernel
theorem dX6_describesPlan_56 : decode cX6_describesPlan 56 = .ok (.invokevirtual 46, 3) := by decide +kernel
theorem dX6_describesPlan_59 : decode cX6_describesPlan 59 = .ok (.ifCond .ne 5, 3) := by decide +kernel
theorem dX6_describesPlan_62 : decode cX6_describesPlan 62 = .ok (.iconst 0, 1) := by decide +kernel
theorem dX6_describesPlan_63 : decode cX6_describesPlan 63 = .ok (.ireturn, 1) := by decide +kernel
theorem dX6_describesPlan_64 : decode cX6_describesPlan 64 = .ok (.aload_n 0, 1) := by decide +kernel
theorem dX6_describesPlan_65 : decode cX6_describesPlan 65 = .ok (.dup, 1) := by decide +kernel
theorem dX6_describesPlan_66 : decode cX6_describesPlan 66 = .ok (.getfield 39, 3) := by decide +kernel
theorem dX6_describesPlan_69 : decode cX6_describesPlan 69 = .ok (.iconst 1, 1) := by decide +kernel
theorem dX6_describesPlan_70 : decode cX6_describesPlan 70 = .ok (.iadd, 1) := by decide +kernel
theorem dX6_describesPlan_71 : decode cX6_describesPlan 71 = .ok (.putfield 39, 3) := by decide +kernel
theorem dX6_describesPlan_74 : decode cX6_describesPlan 74 = .ok (.goto (-52), 3) := by decide +kernel
theorem dX6_describesPlan_77 : decode cX6_describesPlan 77 = .ok (.aload_n 0, 1) := by decide +kernel
theorem dX6_describesPlan_78 : decode cX6_describesPlan 78 = .ok (.iconst 3, 1) := by decide +kernel
theorem dX6_describesPlan_79 : decode cX6_describesPlan 79 = .ok (.aload_n 0, 1) := by decide +kernel
theorem dX6_describesPlan_80 : decode cX6_describesPlan 80 = .ok (.getfield 36, 3) := by decide +kernel
theorem dX6_describesPlan_83 : decode cX6_describesPlan 83 = .ok (.invokevirtual 50, 3) := by decide +kernel
theorem dX6_describesPlan_86 : decode cX6_describesPlan 86 = .ok (.ireturn, 1) := by decide +kernel
theorem dX6_readClause_0 : decode cX6_readClause 0 = .ok (.aload_n 0, 1) := by decide +kernel
theorem dX6_readClause_1 : decode cX6_readClause 1 = .ok (.getfield 36, 3) := by decide +kernel
theorem dX6_readClause_4 : decode cX6_readClause 4 = .ok (.istore_n 1, 1) := by decide +kernel
theorem dX6_readClause_5 : decode cX6_readClause 5 = .ok (.aload_n 0, 1) := by decide +kernel
theorem dX6_readClause_6 : decode cX6_readClause 6 = .ok (.invokevirtual 54, 3) := by decide +kernel
theorem dX6_readClause_9 : decode cX6_readClause 9 = .ok (.aload_n 0, 1) := by decide +kernel
theorem dX6_readClause_10 : decode cX6_readClause 10 = .ok (.iload_n 1, 1) := by decide +kernel
theorem dX6_readClause_11 : decode cX6_readClause 11 = .ok (.ldc 57, 2) := by decide +kernel
theorem dX6_readClause_13 : decode cX6_readClause 13 = .ok (.invokevirtual 59, 3) := by decide +kernel
theorem dX6_readClause_16 : decode cX6_readClause 16 = .ok (.ifCond .eq 25, 3) := by decide +kernel
theorem dX6_readClause_19 : decode cX6_readClause 19 = .ok (.aload_n 0, 1) := by decide +kernel
theorem dX6_readClause_20 : decode cX6_readClause 20 = .ok (.bipush 60, 2) := by decide +kernel
theorem dX6_readClause_22 : decode cX6_readClause 22 = .ok (.invokevirtual 63, 3) := by decide +kernel
theorem dX6_readClause_25 : decode cX6_readClause 25 = .ok (.istore_n 2, 1) := by decide +kernel
theorem dX6_readClause_26 : decode cX6_readClause 26 = .ok (.aload_n 0, 1) := by decide +kernel
theorem dX6_readClause_27 : decode cX6_readClause 27 = .ok (.getfield 22, 3) := by decide +kernel
theorem dX6_readClause_30 : decode cX6_readClause 30 = .ok (.aload_n 0, 1) := by decide +kernel
theorem dX6_readClause_31 : decode cX6_readClause 31 = .ok (.getfield 15, 3) := by decide +kernel
theorem dX6_readClause_34 : decode cX6_readClause 34 = .ok (.iconst 0, 1) := by decide +kernel
theorem dX6_readClause_35 : decode cX6_readClause 35 = .ok (.iaload, 1) := by decide +kernel
theorem dX6_readClause_36 : decode cX6_readClause 36 = .ok (.putfield 67, 3) := by decide +kernel
theorem dX6_readClause_39 : decode cX6_readClause 39 = .ok (.iload_n 2, 1) := by decide +kernel
theorem dX6_readClause_40 : decode cX6_readClause 40 = .ok (.ireturn, 1) := by decide +kernel
theorem dX6_readClause_41 : decode cX6_readClause 41 = .ok (.aload_n 0, 1) := by decide +kernel
theorem dX6_readClause_42 : decode cX6_readClause 42 = .ok (.iload_n 1, 1) := by decide +kernel
theorem dX6_readClause_43 : decode cX6_readClause 43 = .ok (.ldc 70, 2) := by decide +kernel
theorem dX6_readClause_45 : decode cX6_readClause 45 = .ok (.invokevirtual 59, 3) := by decide +kernel
theorem dX6_readClause_48 : decode cX6_readClause 48 = .ok (.ifCond .eq 26, 3) := by decide +kernel
theorem dX6_readClause_51 : decode cX6_readClause 51 = .ok (.aload_n 0, 1) := by decide +kernel
theorem dX6_readClause_52 : decode cX6_readClause 52 = .ok (.sipush 9999, 3) := by decide +kernel
theorem dX6_readClause_55 : decode cX6_readClause 55 = .ok (.invokevirtual 63, 3) := by decide +kernel
theorem dX6_readClause_58 : decode cX6_readClause 58 = .ok (.istore_n 2, 1) := by decide +kernel
theorem dX6_readClause_59 : decode cX6_readClause 59 = .ok (.aload_n 0, 1) := by decide +kernel
theorem dX6_readClause_60 : decode cX6_readClause 60 = .ok (.getfield 22, 3) := by decide +kernel
theorem dX6_readClause_63 : decode cX6_readClause 63 = .ok (.aload_n 0, 1) := by decide +kernel
theorem dX6_readClause_64 : decode cX6_readClause 64 = .ok (.getfield 15, 3) := by decide +kernel
theorem dX6_readClause_67 : decode cX6_readClause 67 = .ok (.iconst 0, 1) := by decide +kernel
theorem dX6_readClause_68 : decode cX6_readClause 68 = .ok (.iaload, 1) := by decide +kernel
theorem dX6_readClause_69 : decode cX6_readClause 69 = .ok (.putfield 72, 3) := by decide +kernel
theorem dX6_readClause_72 : decode cX6_readClause 72 = .ok (.iload_n 2, 1) := by decide +kernel
theorem dX6_readClause_73 : decode cX6_readClause 73 = .ok (.ireturn, 1) := by decide +kernel
theorem dX6_readClause_74 : decode cX6_readClause 74 = .ok (.aload_n 0, 1) := by decide +kernel
theorem dX6_readClause_75 : decode cX6_readClause 75 = .ok (.iload_n 1, 1) := by decide +kernel
theorem dX6_readClause_76 : decode cX6_readClause 76 = .ok (.ldc 74, 2) := by decide +kernel
theorem dX6_readClause_78 : decode cX6_readClause 78 = .ok (.invokevirtual 59, 3) := by decide +kernel
theorem dX6_readClause_81 : decode cX6_readClause 81 = .ok (.ifCond .eq 26, 3) := by decide +kernel
theorem dX6_readClause_84 : decode cX6_readClause 84 = .ok (.aload_n 0, 1) := by decide +kernel
theorem dX6_readClause_85 : decode cX6_readClause 85 = .ok (.sipush 9999, 3) := by decide +kernel
theorem dX6_readClause_88 : decode cX6_readClause 88 = .ok (.invokevirtual 63, 3) := by decide +kernel
theorem dX6_readClause_91 : decode cX6_readClause 91 = .ok (.istore_n 2, 1) := by decide +kernel
theorem dX6_readClause_92 : decode cX6_readClause 92 = .ok (.aload_n 0, 1) := by decide +kernel
theorem dX6_readClause_93 : decode cX6_readClause 93 = .ok (.getfield 22, 3) := by decide +kernel
theorem dX6_readClause_96 : decode cX6_readClause 96 = .ok (.aload_n 0, 1) := by decide +kernel
theorem dX6_readClause_97 : decode cX6_readClause 97 = .ok (.getfield 15, 3) := by decide +kernel
theorem dX6_readClause_100 : decode cX6_readClause 100 = .ok (.iconst 0, 1) := by decide +kernel
theorem dX6_readClause_101 : decode cX6_readClause 101 = .ok (.iaload, 1) := by decide +kernel
theorem dX6_readClause_102 : decode cX6_readClause 102 = .ok (.putfield 76, 3) := by decide +kernel
theorem dX6_readClause_105 : decode cX6_readClause 105 = .ok (.iload_n 2, 1) := by decide +kernel
theorem dX6_readClause_106 : decode cX6_readClause 106 = .ok (.ireturn, 1) := by decide +kernel
theorem dX6_readClause_107 : decode cX6_readClause 107 = .ok (.aload_n 0, 1) := by decide +kernel
theorem dX6_readClause_108 : decode cX6_readClause 108 = .ok (.iload_n 1, 1) := by decide +kernel
theorem dX6_readClause_109 : decode cX6_readClause 109 = .ok (.ldc 79, 2) := by decide +kernel
theorem dX6_readClause_111 : decode cX6_readClause 111 = .ok (.invokevirtual 59, 3) := by decide +kernel
theorem dX6_readClause_114 : decode cX6_readClause 114 = .ok (.ifCond .eq 13, 3) := by decide +kernel
theorem dX6_readClause_117 : decode cX6_readClause 117 = .ok (.aload_n 0, 1) := by decide +kernel
theorem dX6_readClause_118 : decode cX6_readClause 118 = .ok (.getfield 22, 3) := by decide +kernel
theorem dX6_readClause_121 : decode cX6_readClause 121 = .ok (.iconst 1, 1) := by decide +kernel
theorem dX6_readClause_122 : decode cX6_readClause 122 = .ok (.putfield 81, 3) := by decide +kernel
theorem dX6_readClause_125 : decode cX6_readClause 125 = .ok (.iconst 1, 1) := by decide +kernel
theorem dX6_readClause_126 : decode cX6_readClause 126 = .ok (.ireturn, 1) := by decide +kernel
theorem dX6_readClause_127 : decode cX6_readClause 127 = .ok (.aload_n 0, 1) := by decide +kernel
theorem dX6_readClause_128 : decode cX6_readClause 128 = .ok (.iload_n 1, 1) := by decide +kernel
theorem dX6_readClause_129 : decode cX6_readClause 129 = .ok (.ldc 84, 2) := by decide +kernel
theorem dX6_readClause_131 : decode cX6_readClause 131 = .ok (.invokevirtual 59, 3) := by decide +kernel
theorem dX6_readClause_134 : decode cX6_readClause 134 = .ok (.ifCond .eq 8, 3) := by decide +kernel
theorem dX6_readClause_137 : decode cX6_readClause 137 = .ok (.aload_n 0, 1) := by decide +kernel
theorem dX6_readClause_138 : decode cX6_readClause 138 = .ok (.invokevirtual 86, 3) := by decide +kernel
theorem dX6_readClause_141 : decode cX6_readClause 141 = .ok (.ireturn, 1) := by decide +kernel
theorem dX6_readClause_142 : decode cX6_readClause 142 = .ok (.aload_n 0, 1) := by decide +kernel
theorem dX6_readClause_143 : decode cX6_readClause 143 = .ok (.iconst 3, 1) := by decide +kernel
theorem dX6_readClause_144 : decode cX6_readClause 144 = .ok (.iload_n 1, 1) := by decide +kernel
theorem dX6_readClause_145 : decode cX6_readClause 145 = .ok (.invokevirtual 50, 3) := by decide +kernel
theorem dX6_readClause_148 : decode cX6_readClause 148 = .ok (.ireturn, 1) := by decide +kernel
theorem dX6_readSetting_0 : decode cX6_readSetting 0 = .ok (.aload_n 0, 1) := by decide +kernel
theorem dX6_readSetting_1 : decode cX6_readSetting 1 = .ok (.iconst 1, 1) := by decide +kernel
theorem dX6_readSetting_2 : decode cX6_readSetting 2 = .ok (.invokevirtual 89, 3) := by decide +kernel
theorem dX6_readSetting_5 : decode cX6_readSetting 5 = .ok (.ifCond .eq 17, 3) := by decide +kernel
theorem dX6_readSetting_8 : decode cX6_readSetting 8 = .ok (.aload_n 0, 1) := by decide +kernel
theorem dX6_readSetting_9 : decode cX6_readSetting 9 = .ok (.iconst 0, 1) := by decide +kernel
theorem dX6_readSetting_10 : decode cX6_readSetting 10 = .ok (.iconst 0, 1) := by decide +kernel
theorem dX6_readSetting_11 : decode cX6_readSetting 11 = .ok (.iload_n 1, 1) := by decide +kernel
theorem dX6_readSetting_12 : decode cX6_readSetting 12 = .ok (.invokevirtual 92, 3) := by decide +kernel
theorem dX6_readSetting_15 : decode cX6_readSetting 15 = .ok (.ifCond .eq 7, 3) := by decide +kernel
theorem dX6_readSetting_18 : decode cX6_readSetting 18 = .ok (.iconst 1, 1) := by decide +kernel
theorem dX6_readSetting_19 : decode cX6_readSetting 19 = .ok (.goto 4, 3) := by decide +kernel
theorem dX6_readSetting_22 : decode cX6_readSetting 22 = .ok (.iconst 0, 1) := by decide +kernel
theorem dX6_readSetting_23 : decode cX6_readSetting 23 = .ok (.ireturn, 1) := by decide +kernel
theorem dX6_readBand_0 : decode cX6_readBand 0 = .ok (.aload_n 0, 1) := by decide +kernel
theorem dX6_readBand_1 : decode cX6_readBand 1 = .ok (.iconst 3, 1) := by decide +kernel
theorem dX6_readBand_2 : decode cX6_readBand 2 = .ok (.invokevirtual 89, 3) := by decide +kernel
theorem dX6_readBand_5 : decode cX6_readBand 5 = .ok (.ifCond .ne 5, 3) := by decide +kernel
theorem dX6_readBand_8 : decode cX6_readBand 8 = .ok (.iconst 0, 1) := by decide +kernel
theorem dX6_readBand_9 : decode cX6_readBand 9 = .ok (.ireturn, 1) := by decide +kernel
theorem dX6_readBand_10 : decode cX6_readBand 10 = .ok (.aload_n 0, 1) := by decide +kernel
theorem dX6_readBand_11 : decode cX6_readBand 11 = .ok (.iconst 0, 1) := by decide +kernel
theorem dX6_readBand_12 : decode cX6_readBand 12 = .ok (.iconst 0, 1) := by decide +kernel
theorem dX6_readBand_13 : decode cX6_readBand 13 = .ok (.sipush 1439, 3) := by decide +kernel
theorem dX6_readBand_16 : decode cX6_readBand 16 = .ok (.invokevirtual 92, 3) := by decide +kernel
theorem dX6_readBand_19 : decode cX6_readBand 19 = .ok (.ifCond .eq 27, 3) := by decide +kernel
theorem dX6_readBand_22 : decode cX6_readBand 22 = .ok (.aload_n 0, 1) := by decide +kernel
theorem dX6_readBand_23 : decode cX6_readBand 23 = .ok (.iconst 1, 1) := by decide +kernel
theorem dX6_readBand_24 : decode cX6_readBand 24 = .ok (.iconst 0, 1) := by decide +kernel
theorem dX6_readBand_25 : decode cX6_readBand 25 = .ok (.sipush 999, 3) := by decide +kernel
theorem dX6_readBand_28 : decode cX6_readBand 28 = .ok (.invokevirtual 92, 3) := by decide +kernel
theorem dX6_readBand_31 : decode cX6_readBand 31 = .ok (.ifCond .eq 15, 3) := by decide +kernel
theorem dX6_readBand_34 : decode cX6_readBand 34 = .ok (.aload_n 0, 1) := by decide +kernel
theorem dX6_readBand_35 : decode cX6_readBand 35 = .ok (.iconst 2, 1) := by decide +kernel
theorem dX6_readBand_36 : decode cX6_readBand 36 = .ok (.iconst 5, 1) := by decide +kernel
theorem dX6_readBand_37 : decode cX6_readBand 37 = .ok (.sipush 240, 3) := by decide +kernel
theorem dX6_readBand_40 : decode cX6_readBand 40 = .ok (.invokevirtual 92, 3) := by decide +kernel
theorem dX6_readBand_43 : decode cX6_readBand 43 = .ok (.ifCond .ne 5, 3) := by decide +kernel
theorem dX6_readBand_46 : decode cX6_readBand 46 = .ok (.iconst 0, 1) := by decide +kernel
theorem dX6_readBand_47 : decode cX6_readBand 47 = .ok (.ireturn, 1) := by decide +kernel
theorem dX6_readBand_48 : decode cX6_readBand 48 = .ok (.aload_n 0, 1) := by decide +kernel
theorem dX6_readBand_49 : decode cX6_readBand 49 = .ok (.getfield 15, 3) := by decide +kernel
theorem dX6_readBand_52 : decode cX6_readBand 52 = .ok (.iconst 0, 1) := by decide +kernel
theorem dX6_readBand_53 : decode cX6_readBand 53 = .ok (.iaload, 1) := by decide +kernel
theorem dX6_readBand_54 : decode cX6_readBand 54 = .ok (.istore_n 1, 1) := by decide +kernel
theorem dX6_readBand_55 : decode cX6_readBand 55 = .ok (.aload_n 0, 1) := by decide +kernel
theorem dX6_readBand_56 : decode cX6_readBand 56 = .ok (.getfield 33, 3) := by decide +kernel
theorem dX6_readBand_59 : decode cX6_readBand 59 = .ok (.bipush 6, 2) := by decide +kernel
theorem dX6_readBand_61 : decode cX6_readBand 61 = .ok (.if_icmp .ge 11, 3) := by decide +kernel
theorem dX6_readBand_64 : decode cX6_readBand 64 = .ok (.aload_n 0, 1) := by decide +kernel
theorem dX6_readBand_65 : decode cX6_readBand 65 = .ok (.iload_n 1, 1) := by decide +kernel
theorem dX6_readBand_66 : decode cX6_readBand 66 = .ok (.invokevirtual 96, 3) := by decide +kernel
theorem dX6_readBand_69 : decode cX6_readBand 69 = .ok (.ifCond .ne 10, 3) := by decide +kernel
theorem dX6_readBand_72 : decode cX6_readBand 72 = .ok (.aload_n 0, 1) := by decide +kernel
theorem dX6_readBand_73 : decode cX6_readBand 73 = .ok (.iconst 4, 1) := by decide +kernel
theorem dX6_readBand_74 : decode cX6_readBand 74 = .ok (.iload_n 1, 1) := by decide +kernel
theorem dX6_readBand_75 : decode cX6_readBand 75 = .ok (.invokevirtual 50, 3) := by decide +kernel
theorem dX6_readBand_78 : decode cX6_readBand 78 = .ok (.ireturn, 1) := by decide +kernel
theorem dX6_readBand_79 : decode cX6_readBand 79 = .ok (.aload_n 0, 1) := by decide +kernel
theorem dX6_readBand_80 : decode cX6_readBand 80 = .ok (.getfield 22, 3) := by decide +kernel
theorem dX6_readBand_83 : decode cX6_readBand 83 = .ok (.getfield 99, 3) := by decide +kernel
theorem dX6_readBand_86 : decode cX6_readBand 86 = .ok (.aload_n 0, 1) := by decide +kernel
theorem dX6_readBand_87 : decode cX6_readBand 87 = .ok (.getfield 33, 3) := by decide +kernel
theorem dX6_readBand_90 : decode cX6_readBand 90 = .ok (.aaload, 1) := by decide +kernel
theorem dX6_readBand_91 : decode cX6_readBand 91 = .ok (.iload_n 1, 1) := by decide +kernel
theorem dX6_readBand_92 : decode cX6_readBand 92 = .ok (.aload_n 0, 1) := by decide +kernel
theorem dX6_readBand_93 : decode cX6_readBand 93 = .ok (.getfield 15, 3) := by decide +kernel
theorem dX6_readBand_96 : decode cX6_readBand 96 = .ok (.iconst 1, 1) := by decide +kernel
theorem dX6_readBand_97 : decode cX6_readBand 97 = .ok (.iaload, 1) := by decide +kernel
theorem dX6_readBand_98 : decode cX6_readBand 98 = .ok (.aload_n 0, 1) := by decide +kernel
theorem dX6_readBand_99 : decode cX6_readBand 99 = .ok (.getfield 15, 3) := by decide +kernel
theorem dX6_readBand_102 : decode cX6_readBand 102 = .ok (.iconst 2, 1) := by decide +kernel
theorem dX6_readBand_103 : decode cX6_readBand 103 = .ok (.iaload, 1) := by decide +kernel
theorem dX6_readBand_104 : decode cX6_readBand 104 = .ok (.invokevirtual 103, 3) := by decide +kernel
theorem dX6_readBand_107 : decode cX6_readBand 107 = .ok (.aload_n 0, 1) := by decide +kernel
theorem dX6_readBand_108 : decode cX6_readBand 108 = .ok (.dup, 1) := by decide +kernel
theorem dX6_readBand_109 : decode cX6_readBand 109 = .ok (.getfield 33, 3) := by decide +kernel
theorem dX6_readBand_112 : decode cX6_readBand 112 = .ok (.iconst 1, 1) := by decide +kernel
theorem dX6_readBand_113 : decode cX6_readBand 113 = .ok (.iadd, 1) := by decide +kernel
theorem dX6_readBand_114 : decode cX6_readBand 114 = .ok (.putfield 33, 3) := by decide +kernel
theorem dX6_readBand_117 : decode cX6_readBand 117 = .ok (.aload_n 0, 1) := by decide +kernel
theorem dX6_readBand_118 : decode cX6_readBand 118 = .ok (.getfield 22, 3) := by decide +kernel
theorem dX6_readBand_121 : decode cX6_readBand 121 = .ok (.aload_n 0, 1) := by decide +kernel
theorem dX6_readBand_122 : decode cX6_readBand 122 = .ok (.getfield 33, 3) := by decide +kernel
theorem dX6_readBand_125 : decode cX6_readBand 125 = .ok (.putfield 109, 3) := by decide +kernel
theorem dX6_readBand_128 : decode cX6_readBand 128 = .ok (.iconst 1, 1) := by decide +kernel
theorem dX6_readBand_129 : decode cX6_readBand 129 = .ok (.ireturn, 1) := by decide +kernel
theorem dX6_isInOrder_0 : decode cX6_isInOrder 0 = .ok (.aload_n 0, 1) := by decide +kernel
theorem dX6_isInOrder_1 : decode cX6_isInOrder 1 = .ok (.getfield 22, 3) := by decide +kernel
theorem dX6_isInOrder_4 : decode cX6_isInOrder 4 = .ok (.aload_n 0, 1) := by decide +kernel
theorem dX6_isInOrder_5 : decode cX6_isInOrder 5 = .ok (.getfield 33, 3) := by decide +kernel
theorem dX6_isInOrder_8 : decode cX6_isInOrder 8 = .ok (.iconst 1, 1) := by decide +kernel
theorem dX6_isInOrder_9 : decode cX6_isInOrder 9 = .ok (.isub, 1) := by decide +kernel
theorem dX6_isInOrder_10 : decode cX6_isInOrder 10 = .ok (.invokevirtual 112, 3) := by decide +kernel
theorem dX6_isInOrder_13 : decode cX6_isInOrder 13 = .ok (.astore_n 2, 1) := by decide +kernel
theorem dX6_isInOrder_14 : decode cX6_isInOrder 14 = .ok (.aload_n 2, 1) := by decide +kernel
theorem dX6_isInOrder_15 : decode cX6_isInOrder 15 = .ok (.ifnonnull 15, 3) := by decide +kernel
theorem dX6_isInOrder_18 : decode cX6_isInOrder 18 = .ok (.iload_n 1, 1) := by decide +kernel
theorem dX6_isInOrder_19 : decode cX6_isInOrder 19 = .ok (.ifCond .ne 7, 3) := by decide +kernel
theorem dX6_isInOrder_22 : decode cX6_isInOrder 22 = .ok (.iconst 1, 1) := by decide +kernel
theorem dX6_isInOrder_23 : decode cX6_isInOrder 23 = .ok (.goto 20, 3) := by decide +kernel
theorem dX6_isInOrder_26 : decode cX6_isInOrder 26 = .ok (.iconst 0, 1) := by decide +kernel
theorem dX6_isInOrder_27 : decode cX6_isInOrder 27 = .ok (.goto 16, 3) := by decide +kernel
theorem dX6_isInOrder_30 : decode cX6_isInOrder 30 = .ok (.iload_n 1, 1) := by decide +kernel
theorem dX6_isInOrder_31 : decode cX6_isInOrder 31 = .ok (.aload_n 2, 1) := by decide +kernel
theorem dX6_isInOrder_32 : decode cX6_isInOrder 32 = .ok (.getfield 116, 3) := by decide +kernel
theorem dX6_isInOrder_35 : decode cX6_isInOrder 35 = .ok (.if_icmp .le 7, 3) := by decide +kernel
theorem dX6_isInOrder_38 : decode cX6_isInOrder 38 = .ok (.iconst 1, 1) := by decide +kernel
theorem dX6_isInOrder_39 : decode cX6_isInOrder 39 = .ok (.goto 4, 3) := by decide +kernel
theorem dX6_isInOrder_42 : decode cX6_isInOrder 42 = .ok (.iconst 0, 1) := by decide +kernel
theorem dX6_isInOrder_43 : decode cX6_isInOrder 43 = .ok (.ireturn, 1) := by decide +kernel
theorem dX6_skipWord_0 : decode cX6_skipWord 0 = .ok (.aload_n 0, 1) := by decide +kernel
theorem dX6_skipWord_1 : decode cX6_skipWord 1 = .ok (.getfield 36, 3) := by decide +kernel
theorem dX6_skipWord_4 : decode cX6_skipWord 4 = .ok (.aload_n 0, 1) := by decide +kernel
theorem dX6_skipWord_5 : decode cX6_skipWord 5 = .ok (.getfield 26, 3) := by decide +kernel
theorem dX6_skipWord_8 : decode cX6_skipWord 8 = .ok (.if_icmp .ge 32, 3) := by decide +kernel
theorem dX6_skipWord_11 : decode cX6_skipWord 11 = .ok (.aload_n 0, 1) := by decide +kernel
theorem dX6_skipWord_12 : decode cX6_skipWord 12 = .ok (.aload_n 0, 1) := by decide +kernel
theorem dX6_skipWord_13 : decode cX6_skipWord 13 = .ok (.getfield 9, 3) := by decide +kernel
theorem dX6_skipWord_16 : decode cX6_skipWord 16 = .ok (.aload_n 0, 1) := by decide +kernel
theorem dX6_skipWord_17 : decode cX6_skipWord 17 = .ok (.getfield 36, 3) := by decide +kernel
theorem dX6_skipWord_20 : decode cX6_skipWord 20 = .ok (.caload, 1) := by decide +kernel
theorem dX6_skipWord_21 : decode cX6_skipWord 21 = .ok (.invokevirtual 119, 3) := by decide +kernel
theorem dX6_skipWord_24 : decode cX6_skipWord 24 = .ok (.ifCond .eq 16, 3) := by decide +kernel
theorem dX6_skipWord_27 : decode cX6_skipWord 27 = .ok (.aload_n 0, 1) := by decide +kernel
theorem dX6_skipWord_28 : decode cX6_skipWord 28 = .ok (.dup, 1) := by decide +kernel
theorem dX6_skipWord_29 : decode cX6_skipWord 29 = .ok (.getfield 36, 3) := by decide +kernel
theorem dX6_skipWord_32 : decode cX6_skipWord 32 = .ok (.iconst 1, 1) := by decide +kernel
theorem dX6_skipWord_33 : decode cX6_skipWord 33 = .ok (.iadd, 1) := by decide +kernel
theorem dX6_skipWord_34 : decode cX6_skipWord 34 = .ok (.putfield 36, 3) := by decide +kernel
theorem dX6_skipWord_37 : decode cX6_skipWord 37 = .ok (.goto (-37), 3) := by decide +kernel
theorem dX6_skipWord_40 : decode cX6_skipWord 40 = .ok (.return_, 1) := by decide +kernel
theorem dX6_isSmallLetter_0 : decode cX6_isSmallLetter 0 = .ok (.iload_n 1, 1) := by decide +kernel
theorem dX6_isSmallLetter_1 : decode cX6_isSmallLetter 1 = .ok (.bipush 97, 2) := by decide +kernel
theorem dX6_isSmallLetter_3 : decode cX6_isSmallLetter 3 = .ok (.if_icmp .lt 13, 3) := by decide +kernel
theorem dX6_isSmallLetter_6 : decode cX6_isSmallLetter 6 = .ok (.iload_n 1, 1) := by decide +kernel
theorem dX6_isSmallLetter_7 : decode cX6_isSmallLetter 7 = .ok (.bipush 122, 2) := by decide +kernel
theorem dX6_isSmallLetter_9 : decode cX6_isSmallLetter 9 = .ok (.if_icmp .gt 7, 3) := by decide +kernel
theorem dX6_isSmallLetter_12 : decode cX6_isSmallLetter 12 = .ok (.iconst 1, 1) := by decide +kernel
theorem dX6_isSmallLetter_13 : decode cX6_isSmallLetter 13 = .ok (.goto 4, 3) := by decide +kernel
theorem dX6_isSmallLetter_16 : decode cX6_isSmallLetter 16 = .ok (.iconst 0, 1) := by decide +kernel
theorem dX6_isSmallLetter_17 : decode cX6_isSmallLetter 17 = .ok (.ireturn, 1) := by decide +kernel
theorem dX6_isWord_0 : decode cX6_isWord 0 = .ok (.aload_n 0, 1) := by decide +kernel
theorem dX6_isWord_1 : decode cX6_isWord 1 = .ok (.getfield 36, 3) := by decide +kernel
theorem dX6_isWord_4 : decode cX6_isWord 4 = .ok (.iload_n 1, 1) := by decide +kernel
theorem dX6_isWord_5 : decode cX6_isWord 5 = .ok (.isub, 1) := by decide +kernel
theorem dX6_isWord_6 : decode cX6_isWord 6 = .ok (.aload_n 2, 1) := by decide +kernel
theorem dX6_isWord_7 : decode cX6_isWord 7 = .ok (.invokevirtual 122, 3) := by decide +kernel
theorem dX6_isWord_10 : decode cX6_isWord 10 = .ok (.if_icmp .eq 5, 3) := by decide +kernel
theorem dX6_isWord_13 : decode cX6_isWord 13 = .ok (.iconst 0, 1) := by decide +kernel
theorem dX6_isWord_14 : decode cX6_isWord 14 = .ok (.ireturn, 1) := by decide +kernel
theorem dX6_isWord_15 : decode cX6_isWord 15 = .ok (.iconst 0, 1) := by decide +kernel
theorem dX6_isWord_16 : decode cX6_isWord 16 = .ok (.istore_n 3, 1) := by decide +kernel
theorem dX6_isWord_17 : decode cX6_isWord 17 = .ok (.iload_n 3, 1) := by decide +kernel
theorem dX6_isWord_18 : decode cX6_isWord 18 = .ok (.aload_n 2, 1) := by decide +kernel
theorem dX6_isWord_19 : decode cX6_isWord 19 = .ok (.invokevirtual 122, 3) := by decide +kernel
theorem dX6_isWord_22 : decode cX6_isWord 22 = .ok (.if_icmp .ge 27, 3) := by decide +kernel
theorem dX6_isWord_25 : decode cX6_isWord 25 = .ok (.aload_n 0, 1) := by decide +kernel
theorem dX6_isWord_26 : decode cX6_isWord 26 = .ok (.getfield 9, 3) := by decide +kernel
theorem dX6_isWord_29 : decode cX6_isWord 29 = .ok (.iload_n 1, 1) := by decide +kernel
theorem dX6_isWord_30 : decode cX6_isWord 30 = .ok (.iload_n 3, 1) := by decide +kernel
theorem dX6_isWord_31 : decode cX6_isWord 31 = .ok (.iadd, 1) := by decide +kernel
theorem dX6_isWord_32 : decode cX6_isWord 32 = .ok (.caload, 1) := by decide +kernel
theorem dX6_isWord_33 : decode cX6_isWord 33 = .ok (.aload_n 2, 1) := by decide +kernel
theorem dX6_isWord_34 : decode cX6_isWord 34 = .ok (.iload_n 3, 1) := by decide +kernel
theorem dX6_isWord_35 : decode cX6_isWord 35 = .ok (.invokevirtual 127, 3) := by decide +kernel
theorem dX6_isWord_38 : decode cX6_isWord 38 = .ok (.if_icmp .eq 5, 3) := by decide +kernel
theorem dX6_isWord_41 : decode cX6_isWord 41 = .ok (.iconst 0, 1) := by decide +kernel
theorem dX6_isWord_42 : decode cX6_isWord 42 = .ok (.ireturn, 1) := by decide +kernel
theorem dX6_isWord_43 : decode cX6_isWord 43 = .ok (.iinc 3 1, 3) := by decide +kernel
theorem dX6_isWord_46 : decode cX6_isWord 46 = .ok (.goto (-29), 3) := by decide +kernel
theorem dX6_isWord_49 : decode cX6_isWord 49 = .ok (.iconst 1, 1) := by decide +kernel
theorem dX6_isWord_50 : decode cX6_isWord 50 = .ok (.ireturn, 1) := by decide +kernel
theorem dX6_readNumbers_0 : decode cX6_readNumbers 0 = .ok (.iconst 0, 1) := by decide +kernel
theorem dX6_readNumbers_1 : decode cX6_readNumbers 1 = .ok (.istore_n 2, 1) := by decide +kernel
theorem dX6_readNumbers_2 : decode cX6_readNumbers 2 = .ok (.iload_n 2, 1) := by decide +kernel
theorem dX6_readNumbers_3 : decode cX6_readNumbers 3 = .ok (.iload_n 1, 1) := by decide +kernel
theorem dX6_readNumbers_4 : decode cX6_readNumbers 4 = .ok (.if_icmp .ge 42, 3) := by decide +kernel
theorem dX6_readNumbers_7 : decode cX6_readNumbers 7 = .ok (.iload_n 2, 1) := by decide +kernel
theorem dX6_readNumbers_8 : decode cX6_readNumbers 8 = .ok (.iconst 3, 1) := by decide +kernel
theorem dX6_readNumbers_9 : decode cX6_readNumbers 9 = .ok (.if_icmp .ge 37, 3) := by decide +kernel
theorem dX6_readNumbers_12 : decode cX6_readNumbers 12 = .ok (.aload_n 0, 1) := by decide +kernel
theorem dX6_readNumbers_13 : decode cX6_readNumbers 13 = .ok (.iload_n 2, 1) := by decide +kernel
theorem dX6_readNumbers_14 : decode cX6_readNumbers 14 = .ok (.ifCond .ne 8, 3) := by decide +kernel
theorem dX6_readNumbers_17 : decode cX6_readNumbers 17 = .ok (.bipush 32, 2) := by decide +kernel
theorem dX6_readNumbers_19 : decode cX6_readNumbers 19 = .ok (.goto 5, 3) := by decide +kernel
theorem dX6_readNumbers_22 : decode cX6_readNumbers 22 = .ok (.bipush 44, 2) := by decide +kernel
theorem dX6_readNumbers_24 : decode cX6_readNumbers 24 = .ok (.invokevirtual 46, 3) := by decide +kernel
theorem dX6_readNumbers_27 : decode cX6_readNumbers 27 = .ok (.ifCond .eq 11, 3) := by decide +kernel
theorem dX6_readNumbers_30 : decode cX6_readNumbers 30 = .ok (.aload_n 0, 1) := by decide +kernel
theorem dX6_readNumbers_31 : decode cX6_readNumbers 31 = .ok (.iload_n 2, 1) := by decide +kernel
theorem dX6_readNumbers_32 : decode cX6_readNumbers 32 = .ok (.invokevirtual 131, 3) := by decide +kernel
theorem dX6_readNumbers_35 : decode cX6_readNumbers 35 = .ok (.ifCond .ne 5, 3) := by decide +kernel
theorem dX6_readNumbers_38 : decode cX6_readNumbers 38 = .ok (.iconst 0, 1) := by decide +kernel
theorem dX6_readNumbers_39 : decode cX6_readNumbers 39 = .ok (.ireturn, 1) := by decide +kernel
theorem dX6_readNumbers_40 : decode cX6_readNumbers 40 = .ok (.iinc 2 1, 3) := by decide +kernel
theorem dX6_readNumbers_43 : decode cX6_readNumbers 43 = .ok (.goto (-41), 3) := by decide +kernel
theorem dX6_readNumbers_46 : decode cX6_readNumbers 46 = .ok (.iconst 1, 1) := by decide +kernel
theorem dX6_readNumbers_47 : decode cX6_readNumbers 47 = .ok (.ireturn, 1) := by decide +kernel
theorem dX6_readSign_0 : decode cX6_readSign 0 = .ok (.aload_n 0, 1) := by decide +kernel
theorem dX6_readSign_1 : decode cX6_readSign 1 = .ok (.getfield 36, 3) := by decide +kernel
theorem dX6_readSign_4 : decode cX6_readSign 4 = .ok (.aload_n 0, 1) := by decide +kernel
theorem dX6_readSign_5 : decode cX6_readSign 5 = .ok (.getfield 26, 3) := by decide +kernel
theorem dX6_readSign_8 : decode cX6_readSign 8 = .ok (.if_icmp .ge 16, 3) := by decide +kernel
theorem dX6_readSign_11 : decode cX6_readSign 11 = .ok (.aload_n 0, 1) := by decide +kernel
theorem dX6_readSign_12 : decode cX6_readSign 12 = .ok (.getfield 9, 3) := by decide +kernel
theorem dX6_readSign_15 : decode cX6_readSign 15 = .ok (.aload_n 0, 1) := by decide +kernel
theorem dX6_readSign_16 : decode cX6_readSign 16 = .ok (.getfield 36, 3) := by decide +kernel
theorem dX6_readSign_19 : decode cX6_readSign 19 = .ok (.caload, 1) := by decide +kernel
theorem dX6_readSign_20 : decode cX6_readSign 20 = .ok (.iload_n 1, 1) := by decide +kernel
theorem dX6_readSign_21 : decode cX6_readSign 21 = .ok (.if_icmp .eq 13, 3) := by decide +kernel
theorem dX6_readSign_24 : decode cX6_readSign 24 = .ok (.aload_n 0, 1) := by decide +kernel
theorem dX6_readSign_25 : decode cX6_readSign 25 = .ok (.iconst 3, 1) := by decide +kernel
theorem dX6_readSign_26 : decode cX6_readSign 26 = .ok (.aload_n 0, 1) := by decide +kernel
theorem dX6_readSign_27 : decode cX6_readSign 27 = .ok (.getfield 36, 3) := by decide +kernel
theorem dX6_readSign_30 : decode cX6_readSign 30 = .ok (.invokevirtual 50, 3) := by decide +kernel
theorem dX6_readSign_33 : decode cX6_readSign 33 = .ok (.ireturn, 1) := by decide +kernel
theorem dX6_readSign_34 : decode cX6_readSign 34 = .ok (.aload_n 0, 1) := by decide +kernel
theorem dX6_readSign_35 : decode cX6_readSign 35 = .ok (.dup, 1) := by decide +kernel
theorem dX6_readSign_36 : decode cX6_readSign 36 = .ok (.getfield 36, 3) := by decide +kernel
theorem dX6_readSign_39 : decode cX6_readSign 39 = .ok (.iconst 1, 1) := by decide +kernel
theorem dX6_readSign_40 : decode cX6_readSign 40 = .ok (.iadd, 1) := by decide +kernel
theorem dX6_readSign_41 : decode cX6_readSign 41 = .ok (.putfield 36, 3) := by decide +kernel
theorem dX6_readSign_44 : decode cX6_readSign 44 = .ok (.iconst 1, 1) := by decide +kernel
theorem dX6_readSign_45 : decode cX6_readSign 45 = .ok (.ireturn, 1) := by decide +kernel
theorem dX6_readNumber_0 : decode cX6_readNumber 0 = .ok (.iconst 0, 1) := by decide +kernel
theorem dX6_readNumber_1 : decode cX6_readNumber 1 = .ok (.istore_n 2, 1) := by decide +kernel
theorem dX6_readNumber_2 : decode cX6_readNumber 2 = .ok (.iconst 0, 1) := by decide +kernel
theorem dX6_readNumber_3 : decode cX6_readNumber 3 = .ok (.istore_n 3, 1) := by decide +kernel
theorem dX6_readNumber_4 : decode cX6_readNumber 4 = .ok (.iload_n 3, 1) := by decide +kernel
theorem dX6_readNumber_5 : decode cX6_readNumber 5 = .ok (.iconst 4, 1) := by decide +kernel
theorem dX6_readNumber_6 : decode cX6_readNumber 6 = .ok (.if_icmp .ge 64, 3) := by decide +kernel
theorem dX6_readNumber_9 : decode cX6_readNumber 9 = .ok (.aload_n 0, 1) := by decide +kernel
theorem dX6_readNumber_10 : decode cX6_readNumber 10 = .ok (.getfield 36, 3) := by decide +kernel
theorem dX6_readNumber_13 : decode cX6_readNumber 13 = .ok (.aload_n 0, 1) := by decide +kernel
theorem dX6_readNumber_14 : decode cX6_readNumber 14 = .ok (.getfield 26, 3) := by decide +kernel
theorem dX6_readNumber_17 : decode cX6_readNumber 17 = .ok (.if_icmp .ge 53, 3) := by decide +kernel
theorem dX6_readNumber_20 : decode cX6_readNumber 20 = .ok (.aload_n 0, 1) := by decide +kernel
theorem dX6_readNumber_21 : decode cX6_readNumber 21 = .ok (.aload_n 0, 1) := by decide +kernel
theorem dX6_readNumber_22 : decode cX6_readNumber 22 = .ok (.getfield 9, 3) := by decide +kernel
theorem dX6_readNumber_25 : decode cX6_readNumber 25 = .ok (.aload_n 0, 1) := by decide +kernel
theorem dX6_readNumber_26 : decode cX6_readNumber 26 = .ok (.getfield 36, 3) := by decide +kernel
theorem dX6_readNumber_29 : decode cX6_readNumber 29 = .ok (.caload, 1) := by decide +kernel
theorem dX6_readNumber_30 : decode cX6_readNumber 30 = .ok (.invokevirtual 134, 3) := by decide +kernel
theorem dX6_readNumber_33 : decode cX6_readNumber 33 = .ok (.ifCond .eq 37, 3) := by decide +kernel
theorem dX6_readNumber_36 : decode cX6_readNumber 36 = .ok (.iload_n 2, 1) := by decide +kernel
theorem dX6_readNumber_37 : decode cX6_readNumber 37 = .ok (.bipush 10, 2) := by decide +kernel
theorem dX6_readNumber_39 : decode cX6_readNumber 39 = .ok (.imul, 1) := by decide +kernel
theorem dX6_readNumber_40 : decode cX6_readNumber 40 = .ok (.aload_n 0, 1) := by decide +kernel
theorem dX6_readNumber_41 : decode cX6_readNumber 41 = .ok (.getfield 9, 3) := by decide +kernel
theorem dX6_readNumber_44 : decode cX6_readNumber 44 = .ok (.aload_n 0, 1) := by decide +kernel
theorem dX6_readNumber_45 : decode cX6_readNumber 45 = .ok (.getfield 36, 3) := by decide +kernel
theorem dX6_readNumber_48 : decode cX6_readNumber 48 = .ok (.caload, 1) := by decide +kernel
theorem dX6_readNumber_49 : decode cX6_readNumber 49 = .ok (.bipush 48, 2) := by decide +kernel
theorem dX6_readNumber_51 : decode cX6_readNumber 51 = .ok (.isub, 1) := by decide +kernel
theorem dX6_readNumber_52 : decode cX6_readNumber 52 = .ok (.iadd, 1) := by decide +kernel
theorem dX6_readNumber_53 : decode cX6_readNumber 53 = .ok (.istore_n 2, 1) := by decide +kernel
theorem dX6_readNumber_54 : decode cX6_readNumber 54 = .ok (.aload_n 0, 1) := by decide +kernel
theorem dX6_readNumber_55 : decode cX6_readNumber 55 = .ok (.dup, 1) := by decide +kernel
theorem dX6_readNumber_56 : decode cX6_readNumber 56 = .ok (.getfield 36, 3) := by decide +kernel
theorem dX6_readNumber_59 : decode cX6_readNumber 59 = .ok (.iconst 1, 1) := by decide +kernel
theorem dX6_readNumber_60 : decode cX6_readNumber 60 = .ok (.iadd, 1) := by decide +kernel
theorem dX6_readNumber_61 : decode cX6_readNumber 61 = .ok (.putfield 36, 3) := by decide +kernel
theorem dX6_readNumber_64 : decode cX6_readNumber 64 = .ok (.iinc 3 1, 3) := by decide +kernel
theorem dX6_readNumber_67 : decode cX6_readNumber 67 = .ok (.goto (-63), 3) := by decide +kernel
theorem dX6_readNumber_70 : decode cX6_readNumber 70 = .ok (.iload_n 3, 1) := by decide +kernel
theorem dX6_readNumber_71 : decode cX6_readNumber 71 = .ok (.ifCond .ne 13, 3) := by decide +kernel
theorem dX6_readNumber_74 : decode cX6_readNumber 74 = .ok (.aload_n 0, 1) := by decide +kernel
theorem dX6_readNumber_75 : decode cX6_readNumber 75 = .ok (.iconst 3, 1) := by decide +kernel
theorem dX6_readNumber_76 : decode cX6_readNumber 76 = .ok (.aload_n 0, 1) := by decide +kernel
theorem dX6_readNumber_77 : decode cX6_readNumber 77 = .ok (.getfield 36, 3) := by decide +kernel
theorem dX6_readNumber_80 : decode cX6_readNumber 80 = .ok (.invokevirtual 50, 3) := by decide +kernel
theorem dX6_readNumber_83 : decode cX6_readNumber 83 = .ok (.ireturn, 1) := by decide +kernel
theorem dX6_readNumber_84 : decode cX6_readNumber 84 = .ok (.aload_n 0, 1) := by decide +kernel
theorem dX6_readNumber_85 : decode cX6_readNumber 85 = .ok (.getfield 15, 3) := by decide +kernel
theorem dX6_readNumber_88 : decode cX6_readNumber 88 = .ok (.iload_n 1, 1) := by decide +kernel
theorem dX6_readNumber_89 : decode cX6_readNumber 89 = .ok (.iload_n 2, 1) := by decide +kernel
theorem dX6_readNumber_90 : decode cX6_readNumber 90 = .ok (.iastore, 1) := by decide +kernel
theorem dX6_readNumber_91 : decode cX6_readNumber 91 = .ok (.iconst 1, 1) := by decide +kernel
theorem dX6_readNumber_92 : decode cX6_readNumber 92 = .ok (.ireturn, 1) := by decide +kernel
theorem dX6_isDigit_0 : decode cX6_isDigit 0 = .ok (.iload_n 1, 1) := by decide +kernel
theorem dX6_isDigit_1 : decode cX6_isDigit 1 = .ok (.bipush 48, 2) := by decide +kernel
theorem dX6_isDigit_3 : decode cX6_isDigit 3 = .ok (.if_icmp .lt 13, 3) := by decide +kernel
theorem dX6_isDigit_6 : decode cX6_isDigit 6 = .ok (.iload_n 1, 1) := by decide +kernel
theorem dX6_isDigit_7 : decode cX6_isDigit 7 = .ok (.bipush 57, 2) := by decide +kernel
theorem dX6_isDigit_9 : decode cX6_isDigit 9 = .ok (.if_icmp .gt 7, 3) := by decide +kernel
theorem dX6_isDigit_12 : decode cX6_isDigit 12 = .ok (.iconst 1, 1) := by decide +kernel
theorem dX6_isDigit_13 : decode cX6_isDigit 13 = .ok (.goto 4, 3) := by decide +kernel
theorem dX6_isDigit_16 : decode cX6_isDigit 16 = .ok (.iconst 0, 1) := by decide +kernel
theorem dX6_isDigit_17 : decode cX6_isDigit 17 = .ok (.ireturn, 1) := by decide +kernel
theorem dX6_inRange_0 : decode cX6_inRange 0 = .ok (.aload_n 0, 1) := by decide +kernel
theorem dX6_inRange_1 : decode cX6_inRange 1 = .ok (.getfield 15, 3) := by decide +kernel
theorem dX6_inRange_4 : decode cX6_inRange 4 = .ok (.iload_n 1, 1) := by decide +kernel
theorem dX6_inRange_5 : decode cX6_inRange 5 = .ok (.iaload, 1) := by decide +kernel
theorem dX6_inRange_6 : decode cX6_inRange 6 = .ok (.iload_n 2, 1) := by decide +kernel
theorem dX6_inRange_7 : decode cX6_inRange 7 = .ok (.iload_n 3, 1) := by decide +kernel
theorem dX6_inRange_8 : decode cX6_inRange 8 = .ok (.invokestatic 137, 3) := by decide +kernel
theorem dX6_inRange_11 : decode cX6_inRange 11 = .ok (.ifCond .ne 17, 3) := by decide +kernel
theorem dX6_inRange_14 : decode cX6_inRange 14 = .ok (.aload_n 0, 1) := by decide +kernel
theorem dX6_inRange_15 : decode cX6_inRange 15 = .ok (.iconst 4, 1) := by decide +kernel
theorem dX6_inRange_16 : decode cX6_inRange 16 = .ok (.aload_n 0, 1) := by decide +kernel
theorem dX6_inRange_17 : decode cX6_inRange 17 = .ok (.getfield 15, 3) := by decide +kernel
theorem dX6_inRange_20 : decode cX6_inRange 20 = .ok (.iload_n 1, 1) := by decide +kernel
theorem dX6_inRange_21 : decode cX6_inRange 21 = .ok (.iaload, 1) := by decide +kernel
theorem dX6_inRange_22 : decode cX6_inRange 22 = .ok (.invokevirtual 50, 3) := by decide +kernel
theorem dX6_inRange_25 : decode cX6_inRange 25 = .ok (.ifCond .eq 7, 3) := by decide +kernel
theorem dX6_inRange_28 : decode cX6_inRange 28 = .ok (.iconst 1, 1) := by decide +kernel
theorem dX6_inRange_29 : decode cX6_inRange 29 = .ok (.goto 4, 3) := by decide +kernel
theorem dX6_inRange_32 : decode cX6_inRange 32 = .ok (.iconst 0, 1) := by decide +kernel
theorem dX6_inRange_33 : decode cX6_inRange 33 = .ok (.ireturn, 1) := by decide +kernel
theorem dX6_fault_0 : decode cX6_fault 0 = .ok (.aload_n 0, 1) := by decide +kernel
theorem dX6_fault_1 : decode cX6_fault 1 = .ok (.iload_n 1, 1) := by decide +kernel
theorem dX6_fault_2 : decode cX6_fault 2 = .ok (.putfield 140, 3) := by decide +kernel
theorem dX6_fault_5 : decode cX6_fault 5 = .ok (.aload_n 0, 1) := by decide +kernel
theorem dX6_fault_6 : decode cX6_fault 6 = .ok (.iload_n 2, 1) := by decide +kernel
theorem dX6_fault_7 : decode cX6_fault 7 = .ok (.putfield 143, 3) := by decide +kernel
theorem dX6_fault_10 : decode cX6_fault 10 = .ok (.iconst 0, 1) := by decide +kernel
theorem dX6_fault_11 : decode cX6_fault 11 = .ok (.ireturn, 1) := by decide +kernel
theorem dX7_init_0 : decode cX7_init 0 = .ok (.aload_n 0, 1) := by decide +kernel
theorem dX7_init_1 : decode cX7_init 1 = .ok (.invokespecial 3, 3) := by decide +kernel
theorem dX7_init_4 : decode cX7_init 4 = .ok (.aload_n 0, 1) := by decide +kernel
theorem dX7_init_5 : decode cX7_init 5 = .ok (.iconst 3, 1) := by decide +kernel
theorem dX7_init_6 : decode cX7_init 6 = .ok (.newarray .int, 2) := by decide +kernel
theorem dX7_init_8 : decode cX7_init 8 = .ok (.putfield 9, 3) := by decide +kernel
theorem dX7_init_11 : decode cX7_init 11 = .ok (.aload_n 0, 1) := by decide +kernel
theorem dX7_init_12 : decode cX7_init 12 = .ok (.iconst 3, 1) := by decide +kernel
theorem dX7_init_13 : decode cX7_init 13 = .ok (.newarray .int, 2) := by decide +kernel
theorem dX7_init_15 : decode cX7_init 15 = .ok (.putfield 15, 3) := by decide +kernel
theorem dX7_init_18 : decode cX7_init 18 = .ok (.return_, 1) := by decide +kernel
theorem dX7_hasLevel_0 : decode cX7_hasLevel 0 = .ok (.iload_n 1, 1) := by decide +kernel
theorem dX7_hasLevel_1 : decode cX7_hasLevel 1 = .ok (.iconst 0, 1) := by decide +kernel
theorem dX7_hasLevel_2 : decode cX7_hasLevel 2 = .ok (.iconst 2, 1) := by decide +kernel
theorem dX7_hasLevel_3 : decode cX7_hasLevel 3 = .ok (.invokestatic 18, 3) := by decide +kernel
theorem dX7_hasLevel_6 : decode cX7_hasLevel 6 = .ok (.ifCond .eq 15, 3) := by decide +kernel
theorem dX7_hasLevel_9 : decode cX7_hasLevel 9 = .ok (.iload_n 1, 1) := by decide +kernel
theorem dX7_hasLevel_10 : decode cX7_hasLevel 10 = .ok (.aload_n 0, 1) := by decide +kernel
theorem dX7_hasLevel_11 : decode cX7_hasLevel 11 = .ok (.getfield 22, 3) := by decide +kernel
theorem dX7_hasLevel_14 : decode cX7_hasLevel 14 = .ok (.if_icmp .ge 7, 3) := by decide +kernel
theorem dX7_hasLevel_17 : decode cX7_hasLevel 17 = .ok (.iconst 1, 1) := by decide +kernel
theorem dX7_hasLevel_18 : decode cX7_hasLevel 18 = .ok (.goto 4, 3) := by decide +kernel
theorem dX7_hasLevel_21 : decode cX7_hasLevel 21 = .ok (.iconst 0, 1) := by decide +kernel
theorem dX7_hasLevel_22 : decode cX7_hasLevel 22 = .ok (.ireturn, 1) := by decide +kernel
theorem dX7_tell_0 : decode cX7_tell 0 = .ok (.aload_n 0, 1) := by decide +kernel
theorem dX7_tell_1 : decode cX7_tell 1 = .ok (.getfield 9, 3) := by decide +kernel
theorem dX7_tell_4 : decode cX7_tell 4 = .ok (.iconst 0, 1) := by decide +kernel
theorem dX7_tell_5 : decode cX7_tell 5 = .ok (.iconst 1, 1) := by decide +kernel
theorem dX7_tell_6 : decode cX7_tell 6 = .ok (.iastore, 1) := by decide +kernel
theorem dX7_tell_7 : decode cX7_tell 7 = .ok (.aload_n 0, 1) := by decide +kernel
theorem dX7_tell_8 : decode cX7_tell 8 = .ok (.getfield 15, 3) := by decide +kernel
theorem dX7_tell_11 : decode cX7_tell 11 = .ok (.iconst 0, 1) := by decide +kernel
theorem dX7_tell_12 : decode cX7_tell 12 = .ok (.iload_n 1, 1) := by decide +kernel
theorem dX7_tell_13 : decode cX7_tell 13 = .ok (.iastore, 1) := by decide +kernel
theorem dX7_tell_14 : decode cX7_tell 14 = .ok (.aload_n 0, 1) := by decide +kernel
theorem dX7_tell_15 : decode cX7_tell 15 = .ok (.getfield 9, 3) := by decide +kernel
theorem dX7_tell_18 : decode cX7_tell 18 = .ok (.iconst 1, 1) := by decide +kernel
theorem dX7_tell_19 : decode cX7_tell 19 = .ok (.iconst 2, 1) := by decide +kernel
theorem dX7_tell_20 : decode cX7_tell 20 = .ok (.iastore, 1) := by decide +kernel
theorem dX7_tell_21 : decode cX7_tell 21 = .ok (.aload_n 0, 1) := by decide +kernel
theorem dX7_tell_22 : decode cX7_tell 22 = .ok (.getfield 15, 3) := by decide +kernel
theorem dX7_tell_25 : decode cX7_tell 25 = .ok (.iconst 1, 1) := by decide +kernel
theorem dX7_tell_26 : decode cX7_tell 26 = .ok (.iload_n 2, 1) := by decide +kernel
theorem dX7_tell_27 : decode cX7_tell 27 = .ok (.iastore, 1) := by decide +kernel
theorem dX7_tell_28 : decode cX7_tell 28 = .ok (.aload_n 0, 1) := by decide +kernel
theorem dX7_tell_29 : decode cX7_tell 29 = .ok (.getfield 9, 3) := by decide +kernel
theorem dX7_tell_32 : decode cX7_tell 32 = .ok (.iconst 2, 1) := by decide +kernel
theorem dX7_tell_33 : decode cX7_tell 33 = .ok (.iload_n 3, 1) := by decide +kernel
theorem dX7_tell_34 : decode cX7_tell 34 = .ok (.iastore, 1) := by decide +kernel
theorem dX7_tell_35 : decode cX7_tell 35 = .ok (.aload_n 0, 1) := by decide +kernel
theorem dX7_tell_36 : decode cX7_tell 36 = .ok (.getfield 15, 3) := by decide +kernel
theorem dX7_tell_39 : decode cX7_tell 39 = .ok (.iconst 2, 1) := by decide +kernel
theorem dX7_tell_40 : decode cX7_tell 40 = .ok (.iload 4, 2) := by decide +kernel
theorem dX7_tell_42 : decode cX7_tell 42 = .ok (.iastore, 1) := by decide +kernel
theorem dX7_tell_43 : decode cX7_tell 43 = .ok (.aload_n 0, 1) := by decide +kernel
theorem dX7_tell_44 : decode cX7_tell 44 = .ok (.iconst 3, 1) := by decide +kernel
theorem dX7_tell_45 : decode cX7_tell 45 = .ok (.putfield 22, 3) := by decide +kernel
theorem dX7_tell_48 : decode cX7_tell 48 = .ok (.return_, 1) := by decide +kernel
theorem dX8_init_0 : decode cX8_init 0 = .ok (.aload_n 0, 1) := by decide +kernel
theorem dX8_init_1 : decode cX8_init 1 = .ok (.invokespecial 3, 3) := by decide +kernel
theorem dX8_init_4 : decode cX8_init 4 = .ok (.aload_n 0, 1) := by decide +kernel
theorem dX8_init_5 : decode cX8_init 5 = .ok (.iconst 4, 1) := by decide +kernel
theorem dX8_init_6 : decode cX8_init 6 = .ok (.newarray .int, 2) := by decide +kernel
theorem dX8_init_8 : decode cX8_init 8 = .ok (.putfield 9, 3) := by decide +kernel
theorem dX8_init_11 : decode cX8_init 11 = .ok (.return_, 1) := by decide +kernel
theorem dX8_begin_0 : decode cX8_begin 0 = .ok (.aload_n 0, 1) := by decide +kernel
theorem dX8_begin_1 : decode cX8_begin 1 = .ok (.iload_n 1, 1) := by decide +kernel
theorem dX8_begin_2 : decode cX8_begin 2 = .ok (.putfield 15, 3) := by decide +kernel
theorem dX8_begin_5 : decode cX8_begin 5 = .ok (.aload_n 0, 1) := by decide +kernel
theorem dX8_begin_6 : decode cX8_begin 6 = .ok (.iload_n 2, 1) := by decide +kernel
theorem dX8_begin_7 : decode cX8_begin 7 = .ok (.putfield 19, 3) := by decide +kernel
theorem dX8_begin_10 : decode cX8_begin 10 = .ok (.aload_n 0, 1) := by decide +kernel
theorem dX8_begin_11 : decode cX8_begin 11 = .ok (.iload_n 3, 1) := by decide +kernel
theorem dX8_begin_12 : decode cX8_begin 12 = .ok (.putfield 22, 3) := by decide +kernel
theorem dX8_begin_15 : decode cX8_begin 15 = .ok (.aload_n 0, 1) := by decide +kernel
theorem dX8_begin_16 : decode cX8_begin 16 = .ok (.iconst 0, 1) := by decide +kernel
theorem dX8_begin_17 : decode cX8_begin 17 = .ok (.putfield 25, 3) := by decide +kernel
theorem dX8_begin_20 : decode cX8_begin 20 = .ok (.aload_n 0, 1) := by decide +kernel
theorem dX8_begin_21 : decode cX8_begin 21 = .ok (.iconst 0, 1) := by decide +kernel
theorem dX8_begin_22 : decode cX8_begin 22 = .ok (.putfield 28, 3) := by decide +kernel
theorem dX8_begin_25 : decode cX8_begin 25 = .ok (.aload_n 0, 1) := by decide +kernel
theorem dX8_begin_26 : decode cX8_begin 26 = .ok (.iconst (-1), 1) := by decide +kernel
theorem dX8_begin_27 : decode cX8_begin 27 = .ok (.putfield 31, 3) := by decide +kernel
theorem dX8_begin_30 : decode cX8_begin 30 = .ok (.aload_n 0, 1) := by decide +kernel
theorem dX8_begin_31 : decode cX8_begin 31 = .ok (.iconst 0, 1) := by decide +kernel
theorem dX8_begin_32 : decode cX8_begin 32 = .ok (.putfield 34, 3) := by decide +kernel
theorem dX8_begin_35 : decode cX8_begin 35 = .ok (.aload_n 0, 1) := by decide +kernel
theorem dX8_begin_36 : decode cX8_begin 36 = .ok (.iconst 0, 1) := by decide +kernel
theorem dX8_begin_37 : decode cX8_begin 37 = .ok (.putfield 38, 3) := by decide +kernel
theorem dX8_begin_40 : decode cX8_begin 40 = .ok (.return_, 1) := by decide +kernel
theorem dX8_copyFrom_0 : decode cX8_copyFrom 0 = .ok (.aload_n 0, 1) := by decide +kernel
theorem dX8_copyFrom_1 : decode cX8_copyFrom 1 = .ok (.aload_n 1, 1) := by decide +kernel
theorem dX8_copyFrom_2 : decode cX8_copyFrom 2 = .ok (.getfield 15, 3) := by decide +kernel
theorem dX8_copyFrom_5 : decode cX8_copyFrom 5 = .ok (.aload_n 1, 1) := by decide +kernel
theorem dX8_copyFrom_6 : decode cX8_copyFrom 6 = .ok (.getfield 19, 3) := by decide +kernel
theorem dX8_copyFrom_9 : decode cX8_copyFrom 9 = .ok (.aload_n 1, 1) := by decide +kernel
theorem dX8_copyFrom_10 : decode cX8_copyFrom 10 = .ok (.getfield 22, 3) := by decide +kernel
theorem dX8_copyFrom_13 : decode cX8_copyFrom 13 = .ok (.invokevirtual 41, 3) := by decide +kernel
theorem dX8_copyFrom_16 : decode cX8_copyFrom 16 = .ok (.iconst 0, 1) := by decide +kernel
theorem dX8_copyFrom_17 : decode cX8_copyFrom 17 = .ok (.istore_n 2, 1) := by decide +kernel
theorem dX8_copyFrom_18 : decode cX8_copyFrom 18 = .ok (.iload_n 2, 1) := by decide +kernel
theorem dX8_copyFrom_19 : decode cX8_copyFrom 19 = .ok (.iconst 4, 1) := by decide +kernel
theorem dX8_copyFrom_20 : decode cX8_copyFrom 20 = .ok (.if_icmp .ge 21, 3) := by decide +kernel
theorem dX8_copyFrom_23 : decode cX8_copyFrom 23 = .ok (.aload_n 0, 1) := by decide +kernel
theorem dX8_copyFrom_24 : decode cX8_copyFrom 24 = .ok (.getfield 9, 3) := by decide +kernel
theorem dX8_copyFrom_27 : decode cX8_copyFrom 27 = .ok (.iload_n 2, 1) := by decide +kernel
theorem dX8_copyFrom_28 : decode cX8_copyFrom 28 = .ok (.aload_n 1, 1) := by decide +kernel
theorem dX8_copyFrom_29 : decode cX8_copyFrom 29 = .ok (.getfield 9, 3) := by decide +kernel
theorem dX8_copyFrom_32 : decode cX8_copyFrom 32 = .ok (.iload_n 2, 1) := by decide +kernel
theorem dX8_copyFrom_33 : decode cX8_copyFrom 33 = .ok (.iaload, 1) := by decide +kernel
theorem dX8_copyFrom_34 : decode cX8_copyFrom 34 = .ok (.iastore, 1) := by decide +kernel
theorem dX8_copyFrom_35 : decode cX8_copyFrom 35 = .ok (.iinc 2 1, 3) := by decide +kernel
theorem dX8_copyFrom_38 : decode cX8_copyFrom 38 = .ok (.goto (-20), 3) := by decide +kernel
theorem dX8_copyFrom_41 : decode cX8_copyFrom 41 = .ok (.aload_n 0, 1) := by decide +kernel
theorem dX8_copyFrom_42 : decode cX8_copyFrom 42 = .ok (.aload_n 1, 1) := by decide +kernel
theorem dX8_copyFrom_43 : decode cX8_copyFrom 43 = .ok (.getfield 25, 3) := by decide +kernel
theorem dX8_copyFrom_46 : decode cX8_copyFrom 46 = .ok (.putfield 25, 3) := by decide +kernel
theorem dX8_copyFrom_49 : decode cX8_copyFrom 49 = .ok (.aload_n 0, 1) := by decide +kernel
theorem dX8_copyFrom_50 : decode cX8_copyFrom 50 = .ok (.aload_n 1, 1) := by decide +kernel
theorem dX8_copyFrom_51 : decode cX8_copyFrom 51 = .ok (.getfield 28, 3) := by decide +kernel
theorem dX8_copyFrom_54 : decode cX8_copyFrom 54 = .ok (.putfield 28, 3) := by decide +kernel
theorem dX8_copyFrom_57 : decode cX8_copyFrom 57 = .ok (.aload_n 0, 1) := by decide +kernel
theorem dX8_copyFrom_58 : decode cX8_copyFrom 58 = .ok (.aload_n 1, 1) := by decide +kernel
theorem dX8_copyFrom_59 : decode cX8_copyFrom 59 = .ok (.getfield 31, 3) := by decide +kernel
theorem dX8_copyFrom_62 : decode cX8_copyFrom 62 = .ok (.putfield 31, 3) := by decide +kernel
theorem dX8_copyFrom_65 : decode cX8_copyFrom 65 = .ok (.aload_n 0, 1) := by decide +kernel
theorem dX8_copyFrom_66 : decode cX8_copyFrom 66 = .ok (.aload_n 1, 1) := by decide +kernel
theorem dX8_copyFrom_67 : decode cX8_copyFrom 67 = .ok (.getfield 34, 3) := by decide +kernel
theorem dX8_copyFrom_70 : decode cX8_copyFrom 70 = .ok (.putfield 34, 3) := by decide +kernel
theorem dX8_copyFrom_73 : decode cX8_copyFrom 73 = .ok (.aload_n 0, 1) := by decide +kernel
theorem dX8_copyFrom_74 : decode cX8_copyFrom 74 = .ok (.aload_n 1, 1) := by decide +kernel
theorem dX8_copyFrom_75 : decode cX8_copyFrom 75 = .ok (.getfield 38, 3) := by decide +kernel
theorem dX8_copyFrom_78 : decode cX8_copyFrom 78 = .ok (.putfield 38, 3) := by decide +kernel
theorem dX8_copyFrom_81 : decode cX8_copyFrom 81 = .ok (.return_, 1) := by decide +kernel
theorem dX8_property_0 : decode cX8_property 0 = .ok (.iload_n 1, 1) := by decide +kernel
theorem dX8_property_1 : decode cX8_property 1 = .ok (.tableswitch 94 0 6 #[43, 48, 53, 58, 63, 68, 81], 43) := by decide +kernel
theorem dX8_property_44 : decode cX8_property 44 = .ok (.aload_n 0, 1) := by decide +kernel
theorem dX8_property_45 : decode cX8_property 45 = .ok (.getfield 15, 3) := by decide +kernel
theorem dX8_property_48 : decode cX8_property 48 = .ok (.ireturn, 1) := by decide +kernel
theorem dX8_property_49 : decode cX8_property 49 = .ok (.aload_n 0, 1) := by decide +kernel
theorem dX8_property_50 : decode cX8_property 50 = .ok (.getfield 19, 3) := by decide +kernel
theorem dX8_property_53 : decode cX8_property 53 = .ok (.ireturn, 1) := by decide +kernel
theorem dX8_property_54 : decode cX8_property 54 = .ok (.aload_n 0, 1) := by decide +kernel
theorem dX8_property_55 : decode cX8_property 55 = .ok (.getfield 22, 3) := by decide +kernel
theorem dX8_property_58 : decode cX8_property 58 = .ok (.ireturn, 1) := by decide +kernel
theorem dX8_property_59 : decode cX8_property 59 = .ok (.aload_n 0, 1) := by decide +kernel
theorem dX8_property_60 : decode cX8_property 60 = .ok (.getfield 28, 3) := by decide +kernel
theorem dX8_property_63 : decode cX8_property 63 = .ok (.ireturn, 1) := by decide +kernel
theorem dX8_property_64 : decode cX8_property 64 = .ok (.aload_n 0, 1) := by decide +kernel
theorem dX8_property_65 : decode cX8_property 65 = .ok (.getfield 25, 3) := by decide +kernel
theorem dX8_property_68 : decode cX8_property 68 = .ok (.ireturn, 1) := by decide +kernel
theorem dX8_property_69 : decode cX8_property 69 = .ok (.aload_n 0, 1) := by decide +kernel
theorem dX8_property_70 : decode cX8_property 70 = .ok (.getfield 34, 3) := by decide +kernel
theorem dX8_property_73 : decode cX8_property 73 = .ok (.ifCond .eq 7, 3) := by decide +kernel
theorem dX8_property_76 : decode cX8_property 76 = .ok (.iconst 1, 1) := by decide +kernel
theorem dX8_property_77 : decode cX8_property 77 = .ok (.goto 4, 3) := by decide +kernel
theorem dX8_property_80 : decode cX8_property 80 = .ok (.iconst 0, 1) := by decide +kernel
theorem dX8_property_81 : decode cX8_property 81 = .ok (.ireturn, 1) := by decide +kernel
theorem dX8_property_82 : decode cX8_property 82 = .ok (.aload_n 0, 1) := by decide +kernel
theorem dX8_property_83 : decode cX8_property 83 = .ok (.getfield 38, 3) := by decide +kernel
theorem dX8_property_86 : decode cX8_property 86 = .ok (.ifCond .eq 7, 3) := by decide +kernel
theorem dX8_property_89 : decode cX8_property 89 = .ok (.iconst 1, 1) := by decide +kernel
theorem dX8_property_90 : decode cX8_property 90 = .ok (.goto 4, 3) := by decide +kernel
theorem dX8_property_93 : decode cX8_property 93 = .ok (.iconst 0, 1) := by decide +kernel
theorem dX8_property_94 : decode cX8_property 94 = .ok (.ireturn, 1) := by decide +kernel
theorem dX8_property_95 : decode cX8_property 95 = .ok (.aload_n 0, 1) := by decide +kernel
theorem dX8_property_96 : decode cX8_property 96 = .ok (.getfield 31, 3) := by decide +kernel
theorem dX8_property_99 : decode cX8_property 99 = .ok (.ireturn, 1) := by decide +kernel
theorem dX8_hasRoomForVoucher_0 : decode cX8_hasRoomForVoucher 0 = .ok (.aload_n 0, 1) := by decide +kernel
theorem dX8_hasRoomForVoucher_1 : decode cX8_hasRoomForVoucher 1 = .ok (.getfield 25, 3) := by decide +kernel
theorem dX8_hasRoomForVoucher_4 : decode cX8_hasRoomForVoucher 4 = .ok (.iconst 4, 1) := by decide +kernel
theorem dX8_hasRoomForVoucher_5 : decode cX8_hasRoomForVoucher 5 = .ok (.if_icmp .ge 7, 3) := by decide +kernel
theorem dX8_hasRoomForVoucher_8 : decode cX8_hasRoomForVoucher 8 = .ok (.iconst 1, 1) := by decide +kernel
theorem dX8_hasRoomForVoucher_9 : decode cX8_hasRoomForVoucher 9 = .ok (.goto 4, 3) := by decide +kernel
theorem dX8_hasRoomForVoucher_12 : decode cX8_hasRoomForVoucher 12 = .ok (.iconst 0, 1) := by decide +kernel
theorem dX8_hasRoomForVoucher_13 : decode cX8_hasRoomForVoucher 13 = .ok (.ireturn, 1) := by decide +kernel
theorem dX8_addVoucherNumber_0 : decode cX8_addVoucherNumber 0 = .ok (.aload_n 0, 1) := by decide +kernel
theorem dX8_addVoucherNumber_1 : decode cX8_addVoucherNumber 1 = .ok (.invokevirtual 45, 3) := by decide +kernel
theorem dX8_addVoucherNumber_4 : decode cX8_addVoucherNumber 4 = .ok (.ifCond .eq 23, 3) := by decide +kernel
theorem dX8_addVoucherNumber_7 : decode cX8_addVoucherNumber 7 = .ok (.aload_n 0, 1) := by decide +kernel
theorem dX8_addVoucherNumber_8 : decode cX8_addVoucherNumber 8 = .ok (.getfield 9, 3) := by decide +kernel
theorem dX8_addVoucherNumber_11 : decode cX8_addVoucherNumber 11 = .ok (.aload_n 0, 1) := by decide +kernel
theorem dX8_addVoucherNumber_12 : decode cX8_addVoucherNumber 12 = .ok (.getfield 25, 3) := by decide +kernel
theorem dX8_addVoucherNumber_15 : decode cX8_addVoucherNumber 15 = .ok (.iload_n 1, 1) := by decide +kernel
theorem dX8_addVoucherNumber_16 : decode cX8_addVoucherNumber 16 = .ok (.iastore, 1) := by decide +kernel
theorem dX8_addVoucherNumber_17 : decode cX8_addVoucherNumber 17 = .ok (.aload_n 0, 1) := by decide +kernel
theorem dX8_addVoucherNumber_18 : decode cX8_addVoucherNumber 18 = .ok (.dup, 1) := by decide +kernel
theorem dX8_addVoucherNumber_19 : decode cX8_addVoucherNumber 19 = .ok (.getfield 25, 3) := by decide +kernel
theorem dX8_addVoucherNumber_22 : decode cX8_addVoucherNumber 22 = .ok (.iconst 1, 1) := by decide +kernel
theorem dX8_addVoucherNumber_23 : decode cX8_addVoucherNumber 23 = .ok (.iadd, 1) := by decide +kernel
theorem dX8_addVoucherNumber_24 : decode cX8_addVoucherNumber 24 = .ok (.putfield 25, 3) := by decide +kernel
theorem dX8_addVoucherNumber_27 : decode cX8_addVoucherNumber 27 = .ok (.return_, 1) := by decide +kernel
theorem dX8_voucherNumber_0 : decode cX8_voucherNumber 0 = .ok (.iload_n 1, 1) := by decide +kernel
theorem dX8_voucherNumber_1 : decode cX8_voucherNumber 1 = .ok (.iconst 0, 1) := by decide +kernel
theorem dX8_voucherNumber_2 : decode cX8_voucherNumber 2 = .ok (.iconst 3, 1) := by decide +kernel
theorem dX8_voucherNumber_3 : decode cX8_voucherNumber 3 = .ok (.invokestatic 49, 3) := by decide +kernel
theorem dX8_voucherNumber_6 : decode cX8_voucherNumber 6 = .ok (.ifCond .eq 12, 3) := by decide +kernel
theorem dX8_voucherNumber_9 : decode cX8_voucherNumber 9 = .ok (.aload_n 0, 1) := by decide +kernel
theorem dX8_voucherNumber_10 : decode cX8_voucherNumber 10 = .ok (.getfield 9, 3) := by decide +kernel
theorem dX8_voucherNumber_13 : decode cX8_voucherNumber 13 = .ok (.iload_n 1, 1) := by decide +kernel
theorem dX8_voucherNumber_14 : decode cX8_voucherNumber 14 = .ok (.iaload, 1) := by decide +kernel
theorem dX8_voucherNumber_15 : decode cX8_voucherNumber 15 = .ok (.goto 4, 3) := by decide +kernel
theorem dX8_voucherNumber_18 : decode cX8_voucherNumber 18 = .ok (.iconst (-1), 1) := by decide +kernel
theorem dX8_voucherNumber_19 : decode cX8_voucherNumber 19 = .ok (.ireturn, 1) := by decide +kernel
theorem dX8_takePayment_0 : decode cX8_takePayment 0 = .ok (.iload_n 1, 1) := by decide +kernel
theorem dX8_takePayment_1 : decode cX8_takePayment 1 = .ok (.ifCond .le 18, 3) := by decide +kernel
theorem dX8_takePayment_4 : decode cX8_takePayment 4 = .ok (.aload_n 0, 1) := by decide +kernel
theorem dX8_takePayment_5 : decode cX8_takePayment 5 = .ok (.dup, 1) := by decide +kernel
theorem dX8_takePayment_6 : decode cX8_takePayment 6 = .ok (.getfield 28, 3) := by decide +kernel
theorem dX8_takePayment_9 : decode cX8_takePayment 9 = .ok (.iload_n 1, 1) := by decide +kernel
theorem dX8_takePayment_10 : decode cX8_takePayment 10 = .ok (.iadd, 1) := by decide +kernel
theorem dX8_takePayment_11 : decode cX8_takePayment 11 = .ok (.putfield 28, 3) := by decide +kernel
theorem dX8_takePayment_14 : decode cX8_takePayment 14 = .ok (.aload_n 0, 1) := by decide +kernel
theorem dX8_takePayment_15 : decode cX8_takePayment 15 = .ok (.iload_n 2, 1) := by decide +kernel
theorem dX8_takePayment_16 : decode cX8_takePayment 16 = .ok (.putfield 31, 3) := by decide +kernel
theorem dX8_takePayment_19 : decode cX8_takePayment 19 = .ok (.return_, 1) := by decide +kernel
theorem dX8_paidWithin_0 : decode cX8_paidWithin 0 = .ok (.aload_n 0, 1) := by decide +kernel
theorem dX8_paidWithin_1 : decode cX8_paidWithin 1 = .ok (.getfield 31, 3) := by decide +kernel
theorem dX8_paidWithin_4 : decode cX8_paidWithin 4 = .ok (.iconst (-1), 1) := by decide +kernel
theorem dX8_paidWithin_5 : decode cX8_paidWithin 5 = .ok (.if_icmp .eq 17, 3) := by decide +kernel
theorem dX8_paidWithin_8 : decode cX8_paidWithin 8 = .ok (.iload_n 2, 1) := by decide +kernel
theorem dX8_paidWithin_9 : decode cX8_paidWithin 9 = .ok (.aload_n 0, 1) := by decide +kernel
theorem dX8_paidWithin_10 : decode cX8_paidWithin 10 = .ok (.getfield 31, 3) := by decide +kernel
theorem dX8_paidWithin_13 : decode cX8_paidWithin 13 = .ok (.isub, 1) := by decide +kernel
theorem dX8_paidWithin_14 : decode cX8_paidWithin 14 = .ok (.iload_n 1, 1) := by decide +kernel
theorem dX8_paidWithin_15 : decode cX8_paidWithin 15 = .ok (.if_icmp .gt 7, 3) := by decide +kernel
theorem dX8_paidWithin_18 : decode cX8_paidWithin 18 = .ok (.iconst 1, 1) := by decide +kernel
theorem dX8_paidWithin_19 : decode cX8_paidWithin 19 = .ok (.goto 4, 3) := by decide +kernel
theorem dX8_paidWithin_22 : decode cX8_paidWithin 22 = .ok (.iconst 0, 1) := by decide +kernel
theorem dX8_paidWithin_23 : decode cX8_paidWithin 23 = .ok (.ireturn, 1) := by decide +kernel
theorem dX9_init_0 : decode cX9_init 0 = .ok (.aload_n 0, 1) := by decide +kernel
theorem dX9_init_1 : decode cX9_init 1 = .ok (.invokespecial 3, 3) := by decide +kernel
theorem dX9_init_4 : decode cX9_init 4 = .ok (.return_, 1) := by decide +kernel
theorem dX9_begin_0 : decode cX9_begin 0 = .ok (.aload_n 0, 1) := by decide +kernel
theorem dX9_begin_1 : decode cX9_begin 1 = .ok (.iload_n 1, 1) := by decide +kernel
theorem dX9_begin_2 : decode cX9_begin 2 = .ok (.putfield 9, 3) := by decide +kernel
theorem dX9_begin_5 : decode cX9_begin 5 = .ok (.aload_n 0, 1) := by decide +kernel
theorem dX9_begin_6 : decode cX9_begin 6 = .ok (.iload_n 2, 1) := by decide +kernel
theorem dX9_begin_7 : decode cX9_begin 7 = .ok (.putfield 15, 3) := by decide +kernel
theorem dX9_begin_10 : decode cX9_begin 10 = .ok (.aload_n 0, 1) := by decide +kernel
theorem dX9_begin_11 : decode cX9_begin 11 = .ok (.iconst 0, 1) := by decide +kernel
theorem dX9_begin_12 : decode cX9_begin 12 = .ok (.putfield 18, 3) := by decide +kernel
theorem dX9_begin_15 : decode cX9_begin 15 = .ok (.return_, 1) := by decide +kernel
theorem dX9_copyFrom_0 : decode cX9_copyFrom 0 = .ok (.aload_n 0, 1) := by decide +kernel
theorem dX9_copyFrom_1 : decode cX9_copyFrom 1 = .ok (.aload_n 1, 1) := by decide +kernel
theorem dX9_copyFrom_2 : decode cX9_copyFrom 2 = .ok (.getfield 9, 3) := by decide +kernel
theorem dX9_copyFrom_5 : decode cX9_copyFrom 5 = .ok (.putfield 9, 3) := by decide +kernel
theorem dX9_copyFrom_8 : decode cX9_copyFrom 8 = .ok (.aload_n 0, 1) := by decide +kernel
theorem dX9_copyFrom_9 : decode cX9_copyFrom 9 = .ok (.aload_n 1, 1) := by decide +kernel
theorem dX9_copyFrom_10 : decode cX9_copyFrom 10 = .ok (.getfield 15, 3) := by decide +kernel
theorem dX9_copyFrom_13 : decode cX9_copyFrom 13 = .ok (.putfield 15, 3) := by decide +kernel
theorem dX9_copyFrom_16 : decode cX9_copyFrom 16 = .ok (.aload_n 0, 1) := by decide +kernel
theorem dX9_copyFrom_17 : decode cX9_copyFrom 17 = .ok (.aload_n 1, 1) := by decide +kernel
theorem dX9_copyFrom_18 : decode cX9_copyFrom 18 = .ok (.getfield 18, 3) := by decide +kernel
theorem dX9_copyFrom_21 : decode cX9_copyFrom 21 = .ok (.putfield 18, 3) := by decide +kernel
theorem dX9_copyFrom_24 : decode cX9_copyFrom 24 = .ok (.return_, 1) := by decide +kernel
theorem dX9_property_0 : decode cX9_property 0 = .ok (.iload_n 1, 1) := by decide +kernel
theorem dX9_property_1 : decode cX9_property 1 = .ok (.lookupswitch 37 #[(0, 27), (1, 32)], 27) := by decide +kernel
theorem dX9_property_28 : decode cX9_property 28 = .ok (.aload_n 0, 1) := by decide +kernel
theorem dX9_property_29 : decode cX9_property 29 = .ok (.getfield 9, 3) := by decide +kernel
theorem dX9_property_32 : decode cX9_property 32 = .ok (.ireturn, 1) := by decide +kernel
theorem dX9_property_33 : decode cX9_property 33 = .ok (.aload_n 0, 1) := by decide +kernel
theorem dX9_property_34 : decode cX9_property 34 = .ok (.getfield 15, 3) := by decide +kernel
theorem dX9_property_37 : decode cX9_property 37 = .ok (.ireturn, 1) := by decide +kernel
theorem dX9_property_38 : decode cX9_property 38 = .ok (.aload_n 0, 1) := by decide +kernel
theorem dX9_property_39 : decode cX9_property 39 = .ok (.getfield 18, 3) := by decide +kernel
theorem dX9_property_42 : decode cX9_property 42 = .ok (.ireturn, 1) := by decide +kernel
theorem dX9_reduce_0 : decode cX9_reduce 0 = .ok (.aload_n 0, 1) := by decide +kernel
theorem dX9_reduce_1 : decode cX9_reduce 1 = .ok (.getfield 9, 3) := by decide +kernel
theorem dX9_reduce_4 : decode cX9_reduce 4 = .ok (.tableswitch 60 1 3 #[28, 40, 51], 28) := by decide +kernel
theorem dX9_reduce_32 : decode cX9_reduce 32 = .ok (.iload_n 1, 1) := by decide +kernel
theorem dX9_reduce_33 : decode cX9_reduce 33 = .ok (.iload_n 1, 1) := by decide +kernel
theorem dX9_reduce_34 : decode cX9_reduce 34 = .ok (.aload_n 0, 1) := by decide +kernel
theorem dX9_reduce_35 : decode cX9_reduce 35 = .ok (.getfield 15, 3) := by decide +kernel
theorem dX9_reduce_38 : decode cX9_reduce 38 = .ok (.imul, 1) := by decide +kernel
theorem dX9_reduce_39 : decode cX9_reduce 39 = .ok (.bipush 100, 2) := by decide +kernel
theorem dX9_reduce_41 : decode cX9_reduce 41 = .ok (.idiv, 1) := by decide +kernel
theorem dX9_reduce_42 : decode cX9_reduce 42 = .ok (.isub, 1) := by decide +kernel
theorem dX9_reduce_43 : decode cX9_reduce 43 = .ok (.ireturn, 1) := by decide +kernel
theorem dX9_reduce_44 : decode cX9_reduce 44 = .ok (.iconst 0, 1) := by decide +kernel
theorem dX9_reduce_45 : decode cX9_reduce 45 = .ok (.iload_n 1, 1) := by decide +kernel
theorem dX9_reduce_46 : decode cX9_reduce 46 = .ok (.aload_n 0, 1) := by decide +kernel
theorem dX9_reduce_47 : decode cX9_reduce 47 = .ok (.getfield 15, 3) := by decide +kernel
theorem dX9_reduce_50 : decode cX9_reduce 50 = .ok (.isub, 1) := by decide +kernel
theorem dX9_reduce_51 : decode cX9_reduce 51 = .ok (.invokestatic 21, 3) := by decide +kernel
theorem dX9_reduce_54 : decode cX9_reduce 54 = .ok (.ireturn, 1) := by decide +kernel
theorem dX9_reduce_55 : decode cX9_reduce 55 = .ok (.iload_n 1, 1) := by decide +kernel
theorem dX9_reduce_56 : decode cX9_reduce 56 = .ok (.aload_n 0, 1) := by decide +kernel
theorem dX9_reduce_57 : decode cX9_reduce 57 = .ok (.getfield 15, 3) := by decide +kernel
theorem dX9_reduce_60 : decode cX9_reduce 60 = .ok (.invokestatic 27, 3) := by decide +kernel
theorem dX9_reduce_63 : decode cX9_reduce 63 = .ok (.ireturn, 1) := by decide +kernel
theorem dX9_reduce_64 : decode cX9_reduce 64 = .ok (.iload_n 1, 1) := by decide +kernel
theorem dX9_reduce_65 : decode cX9_reduce 65 = .ok (.ireturn, 1) := by decide +kernel
end
section
theorem dX10_init_0 : decode cX10_init 0 = .ok (.aload_n 0, 1) := by decide +kernel
theorem dX10_init_1 : decode cX10_init 1 = .ok (.invokespecial 3, 3) := by decide +kernel
theorem dX10_init_4 : decode cX10_init 4 = .ok (.aload_n 0, 1) := by decide +kernel
theorem dX10_init_5 : decode cX10_init 5 = .ok (.new 9, 3) := by decide +kernel
theorem dX10_init_8 : decode cX10_init 8 = .ok (.dup, 1) := by decide +kernel
theorem dX10_init_9 : decode cX10_init 9 = .ok (.invokespecial 11, 3) := by decide +kernel
theorem dX10_init_12 : decode cX10_init 12 = .ok (.putfield 12, 3) := by decide +kernel
theorem dX10_init_15 : decode cX10_init 15 = .ok (.aload_n 0, 1) := by decide +kernel
theorem dX10_init_16 : decode cX10_init 16 = .ok (.new 9, 3) := by decide +kernel
theorem dX10_init_19 : decode cX10_init 19 = .ok (.dup, 1) := by decide +kernel
theorem dX10_init_20 : decode cX10_init 20 = .ok (.invokespecial 11, 3) := by decide +kernel
theorem dX10_init_23 : decode cX10_init 23 = .ok (.putfield 16, 3) := by decide +kernel
theorem dX10_init_26 : decode cX10_init 26 = .ok (.aload_n 0, 1) := by decide +kernel
theorem dX10_init_27 : decode cX10_init 27 = .ok (.new 19, 3) := by decide +kernel
theorem dX10_init_30 : decode cX10_init 30 = .ok (.dup, 1) := by decide +kernel
theorem dX10_init_31 : decode cX10_init 31 = .ok (.invokespecial 21, 3) := by decide +kernel
theorem dX10_init_34 : decode cX10_init 34 = .ok (.putfield 22, 3) := by decide +kernel
theorem dX10_init_37 : decode cX10_init 37 = .ok (.aload_n 0, 1) := by decide +kernel
theorem dX10_init_38 : decode cX10_init 38 = .ok (.new 26, 3) := by decide +kernel
theorem dX10_init_41 : decode cX10_init 41 = .ok (.dup, 1) := by decide +kernel
theorem dX10_init_42 : decode cX10_init 42 = .ok (.invokespecial 28, 3) := by decide +kernel
theorem dX10_init_45 : decode cX10_init 45 = .ok (.putfield 29, 3) := by decide +kernel
theorem dX10_init_48 : decode cX10_init 48 = .ok (.return_, 1) := by decide +kernel
theorem dX10_append_0 : decode cX10_append 0 = .ok (.iload_n 1, 1) := by decide +kernel
theorem dX10_append_1 : decode cX10_append 1 = .ok (.iconst 0, 1) := by decide +kernel
theorem dX10_append_2 : decode cX10_append 2 = .ok (.bipush 127, 2) := by decide +kernel
theorem dX10_append_4 : decode cX10_append 4 = .ok (.invokestatic 33, 3) := by decide +kernel
theorem dX10_append_7 : decode cX10_append 7 = .ok (.ifCond .eq 13, 3) := by decide +kernel
theorem dX10_append_10 : decode cX10_append 10 = .ok (.iload_n 2, 1) := by decide +kernel
theorem dX10_append_11 : decode cX10_append 11 = .ok (.iconst 1, 1) := by decide +kernel
theorem dX10_append_12 : decode cX10_append 12 = .ok (.bipush 90, 2) := by decide +kernel
theorem dX10_append_14 : decode cX10_append 14 = .ok (.invokestatic 33, 3) := by decide +kernel
theorem dX10_append_17 : decode cX10_append 17 = .ok (.ifCond .ne 6, 3) := by decide +kernel
theorem dX10_append_20 : decode cX10_append 20 = .ok (.bipush (-2), 2) := by decide +kernel
theorem dX10_append_22 : decode cX10_append 22 = .ok (.ireturn, 1) := by decide +kernel
theorem dX10_append_23 : decode cX10_append 23 = .ok (.aload_n 0, 1) := by decide +kernel
theorem dX10_append_24 : decode cX10_append 24 = .ok (.getfield 22, 3) := by decide +kernel
theorem dX10_append_27 : decode cX10_append 27 = .ok (.iload_n 2, 1) := by decide +kernel
theorem dX10_append_28 : decode cX10_append 28 = .ok (.invokevirtual 37, 3) := by decide +kernel
theorem dX10_append_31 : decode cX10_append 31 = .ok (.ifCond .ne 6, 3) := by decide +kernel
theorem dX10_append_34 : decode cX10_append 34 = .ok (.bipush (-3), 2) := by decide +kernel
theorem dX10_append_36 : decode cX10_append 36 = .ok (.ireturn, 1) := by decide +kernel
theorem dX10_append_37 : decode cX10_append 37 = .ok (.aload_n 0, 1) := by decide +kernel
theorem dX10_append_38 : decode cX10_append 38 = .ok (.getfield 22, 3) := by decide +kernel
theorem dX10_append_41 : decode cX10_append 41 = .ok (.iload_n 1, 1) := by decide +kernel
theorem dX10_append_42 : decode cX10_append 42 = .ok (.i2c, 1) := by decide +kernel
theorem dX10_append_43 : decode cX10_append 43 = .ok (.iload_n 2, 1) := by decide +kernel
theorem dX10_append_44 : decode cX10_append 44 = .ok (.invokevirtual 41, 3) := by decide +kernel
theorem dX10_append_47 : decode cX10_append 47 = .ok (.aload_n 0, 1) := by decide +kernel
theorem dX10_append_48 : decode cX10_append 48 = .ok (.getfield 22, 3) := by decide +kernel
theorem dX10_append_51 : decode cX10_append 51 = .ok (.getfield 45, 3) := by decide +kernel
theorem dX10_append_54 : decode cX10_append 54 = .ok (.ireturn, 1) := by decide +kernel
theorem dX10_readPlan_0 : decode cX10_readPlan 0 = .ok (.aload_n 0, 1) := by decide +kernel
theorem dX10_readPlan_1 : decode cX10_readPlan 1 = .ok (.getfield 12, 3) := by decide +kernel
theorem dX10_readPlan_4 : decode cX10_readPlan 4 = .ok (.iload_n 1, 1) := by decide +kernel
theorem dX10_readPlan_5 : decode cX10_readPlan 5 = .ok (.invokevirtual 49, 3) := by decide +kernel
theorem dX10_readPlan_8 : decode cX10_readPlan 8 = .ok (.astore_n 2, 1) := by decide +kernel
theorem dX10_readPlan_9 : decode cX10_readPlan 9 = .ok (.aload_n 2, 1) := by decide +kernel
theorem dX10_readPlan_10 : decode cX10_readPlan 10 = .ok (.ifnull 17, 3) := by decide +kernel
theorem dX10_readPlan_13 : decode cX10_readPlan 13 = .ok (.aload_n 0, 1) := by decide +kernel
theorem dX10_readPlan_14 : decode cX10_readPlan 14 = .ok (.getfield 22, 3) := by decide +kernel
theorem dX10_readPlan_17 : decode cX10_readPlan 17 = .ok (.invokevirtual 53, 3) := by decide +kernel
theorem dX10_readPlan_20 : decode cX10_readPlan 20 = .ok (.ifCond .eq 7, 3) := by decide +kernel
theorem dX10_readPlan_23 : decode cX10_readPlan 23 = .ok (.iconst 1, 1) := by decide +kernel
theorem dX10_readPlan_24 : decode cX10_readPlan 24 = .ok (.goto 4, 3) := by decide +kernel
theorem dX10_readPlan_27 : decode cX10_readPlan 27 = .ok (.iconst 0, 1) := by decide +kernel
theorem dX10_readPlan_28 : decode cX10_readPlan 28 = .ok (.istore_n 3, 1) := by decide +kernel
theorem dX10_readPlan_29 : decode cX10_readPlan 29 = .ok (.aload_n 0, 1) := by decide +kernel
theorem dX10_readPlan_30 : decode cX10_readPlan 30 = .ok (.getfield 22, 3) := by decide +kernel
theorem dX10_readPlan_33 : decode cX10_readPlan 33 = .ok (.invokevirtual 57, 3) := by decide +kernel
theorem dX10_readPlan_36 : decode cX10_readPlan 36 = .ok (.aload_n 2, 1) := by decide +kernel
theorem dX10_readPlan_37 : decode cX10_readPlan 37 = .ok (.ifnonnull 6, 3) := by decide +kernel
theorem dX10_readPlan_40 : decode cX10_readPlan 40 = .ok (.bipush (-2), 2) := by decide +kernel
theorem dX10_readPlan_42 : decode cX10_readPlan 42 = .ok (.ireturn, 1) := by decide +kernel
theorem dX10_readPlan_43 : decode cX10_readPlan 43 = .ok (.iload_n 3, 1) := by decide +kernel
theorem dX10_readPlan_44 : decode cX10_readPlan 44 = .ok (.ifCond .ne 35, 3) := by decide +kernel
theorem dX10_readPlan_47 : decode cX10_readPlan 47 = .ok (.aload_n 0, 1) := by decide +kernel
theorem dX10_readPlan_48 : decode cX10_readPlan 48 = .ok (.getfield 29, 3) := by decide +kernel
theorem dX10_readPlan_51 : decode cX10_readPlan 51 = .ok (.iload_n 1, 1) := by decide +kernel
theorem dX10_readPlan_52 : decode cX10_readPlan 52 = .ok (.aload_n 0, 1) := by decide +kernel
theorem dX10_readPlan_53 : decode cX10_readPlan 53 = .ok (.getfield 22, 3) := by decide +kernel
theorem dX10_readPlan_56 : decode cX10_readPlan 56 = .ok (.getfield 60, 3) := by decide +kernel
theorem dX10_readPlan_59 : decode cX10_readPlan 59 = .ok (.aload_n 0, 1) := by decide +kernel
theorem dX10_readPlan_60 : decode cX10_readPlan 60 = .ok (.getfield 22, 3) := by decide +kernel
theorem dX10_readPlan_63 : decode cX10_readPlan 63 = .ok (.getfield 63, 3) := by decide +kernel
theorem dX10_readPlan_66 : decode cX10_readPlan 66 = .ok (.aload_n 0, 1) := by decide +kernel
theorem dX10_readPlan_67 : decode cX10_readPlan 67 = .ok (.getfield 22, 3) := by decide +kernel
theorem dX10_readPlan_70 : decode cX10_readPlan 70 = .ok (.getfield 66, 3) := by decide +kernel
theorem dX10_readPlan_73 : decode cX10_readPlan 73 = .ok (.invokevirtual 69, 3) := by decide +kernel
theorem dX10_readPlan_76 : decode cX10_readPlan 76 = .ok (.bipush (-5), 2) := by decide +kernel
theorem dX10_readPlan_78 : decode cX10_readPlan 78 = .ok (.ireturn, 1) := by decide +kernel
theorem dX10_readPlan_79 : decode cX10_readPlan 79 = .ok (.aload_n 2, 1) := by decide +kernel
theorem dX10_readPlan_80 : decode cX10_readPlan 80 = .ok (.aload_n 0, 1) := by decide +kernel
theorem dX10_readPlan_81 : decode cX10_readPlan 81 = .ok (.getfield 22, 3) := by decide +kernel
theorem dX10_readPlan_84 : decode cX10_readPlan 84 = .ok (.getfield 73, 3) := by decide +kernel
theorem dX10_readPlan_87 : decode cX10_readPlan 87 = .ok (.invokevirtual 77, 3) := by decide +kernel
theorem dX10_readPlan_90 : decode cX10_readPlan 90 = .ok (.aload_n 2, 1) := by decide +kernel
theorem dX10_readPlan_91 : decode cX10_readPlan 91 = .ok (.getfield 83, 3) := by decide +kernel
theorem dX10_readPlan_94 : decode cX10_readPlan 94 = .ok (.ireturn, 1) := by decide +kernel
theorem dX10_plan_0 : decode cX10_plan 0 = .ok (.aload_n 0, 1) := by decide +kernel
theorem dX10_plan_1 : decode cX10_plan 1 = .ok (.getfield 12, 3) := by decide +kernel
theorem dX10_plan_4 : decode cX10_plan 4 = .ok (.iload_n 1, 1) := by decide +kernel
theorem dX10_plan_5 : decode cX10_plan 5 = .ok (.invokevirtual 49, 3) := by decide +kernel
theorem dX10_plan_8 : decode cX10_plan 8 = .ok (.astore_n 3, 1) := by decide +kernel
theorem dX10_plan_9 : decode cX10_plan 9 = .ok (.aload_n 3, 1) := by decide +kernel
theorem dX10_plan_10 : decode cX10_plan 10 = .ok (.ifnull 12, 3) := by decide +kernel
theorem dX10_plan_13 : decode cX10_plan 13 = .ok (.iload_n 2, 1) := by decide +kernel
theorem dX10_plan_14 : decode cX10_plan 14 = .ok (.iconst 0, 1) := by decide +kernel
theorem dX10_plan_15 : decode cX10_plan 15 = .ok (.iconst 4, 1) := by decide +kernel
theorem dX10_plan_16 : decode cX10_plan 16 = .ok (.invokestatic 33, 3) := by decide +kernel
theorem dX10_plan_19 : decode cX10_plan 19 = .ok (.ifCond .ne 6, 3) := by decide +kernel
theorem dX10_plan_22 : decode cX10_plan 22 = .ok (.bipush (-2), 2) := by decide +kernel
theorem dX10_plan_24 : decode cX10_plan 24 = .ok (.ireturn, 1) := by decide +kernel
theorem dX10_plan_25 : decode cX10_plan 25 = .ok (.aload_n 3, 1) := by decide +kernel
theorem dX10_plan_26 : decode cX10_plan 26 = .ok (.iload_n 2, 1) := by decide +kernel
theorem dX10_plan_27 : decode cX10_plan 27 = .ok (.invokevirtual 86, 3) := by decide +kernel
theorem dX10_plan_30 : decode cX10_plan 30 = .ok (.ireturn, 1) := by decide +kernel
theorem dX10_band_0 : decode cX10_band 0 = .ok (.aload_n 0, 1) := by decide +kernel
theorem dX10_band_1 : decode cX10_band 1 = .ok (.getfield 12, 3) := by decide +kernel
theorem dX10_band_4 : decode cX10_band 4 = .ok (.iload_n 1, 1) := by decide +kernel
theorem dX10_band_5 : decode cX10_band 5 = .ok (.invokevirtual 49, 3) := by decide +kernel
theorem dX10_band_8 : decode cX10_band 8 = .ok (.astore 4, 2) := by decide +kernel
theorem dX10_band_10 : decode cX10_band 10 = .ok (.aload 4, 2) := by decide +kernel
theorem dX10_band_12 : decode cX10_band 12 = .ok (.ifnull 12, 3) := by decide +kernel
theorem dX10_band_15 : decode cX10_band 15 = .ok (.iload_n 3, 1) := by decide +kernel
theorem dX10_band_16 : decode cX10_band 16 = .ok (.iconst 0, 1) := by decide +kernel
theorem dX10_band_17 : decode cX10_band 17 = .ok (.iconst 2, 1) := by decide +kernel
theorem dX10_band_18 : decode cX10_band 18 = .ok (.invokestatic 33, 3) := by decide +kernel
theorem dX10_band_21 : decode cX10_band 21 = .ok (.ifCond .ne 6, 3) := by decide +kernel
theorem dX10_band_24 : decode cX10_band 24 = .ok (.bipush (-2), 2) := by decide +kernel
theorem dX10_band_26 : decode cX10_band 26 = .ok (.ireturn, 1) := by decide +kernel
theorem dX10_band_27 : decode cX10_band 27 = .ok (.aload 4, 2) := by decide +kernel
theorem dX10_band_29 : decode cX10_band 29 = .ok (.iload_n 2, 1) := by decide +kernel
theorem dX10_band_30 : decode cX10_band 30 = .ok (.invokevirtual 90, 3) := by decide +kernel
theorem dX10_band_33 : decode cX10_band 33 = .ok (.astore 5, 2) := by decide +kernel
theorem dX10_band_35 : decode cX10_band 35 = .ok (.aload 5, 2) := by decide +kernel
theorem dX10_band_37 : decode cX10_band 37 = .ok (.ifnonnull 7, 3) := by decide +kernel
theorem dX10_band_40 : decode cX10_band 40 = .ok (.iconst (-1), 1) := by decide +kernel
theorem dX10_band_41 : decode cX10_band 41 = .ok (.goto 9, 3) := by decide +kernel
theorem dX10_band_44 : decode cX10_band 44 = .ok (.aload 5, 2) := by decide +kernel
theorem dX10_band_46 : decode cX10_band 46 = .ok (.iload_n 3, 1) := by decide +kernel
theorem dX10_band_47 : decode cX10_band 47 = .ok (.invokevirtual 94, 3) := by decide +kernel
theorem dX10_band_50 : decode cX10_band 50 = .ok (.ireturn, 1) := by decide +kernel
theorem dX10_fee_0 : decode cX10_fee 0 = .ok (.aload_n 0, 1) := by decide +kernel
theorem dX10_fee_1 : decode cX10_fee 1 = .ok (.getfield 12, 3) := by decide +kernel
theorem dX10_fee_4 : decode cX10_fee 4 = .ok (.iload_n 1, 1) := by decide +kernel
theorem dX10_fee_5 : decode cX10_fee 5 = .ok (.invokevirtual 49, 3) := by decide +kernel
theorem dX10_fee_8 : decode cX10_fee 8 = .ok (.astore 4, 2) := by decide +kernel
theorem dX10_fee_10 : decode cX10_fee 10 = .ok (.aload 4, 2) := by decide +kernel
theorem dX10_fee_12 : decode cX10_fee 12 = .ok (.ifnull 11, 3) := by decide +kernel
theorem dX10_fee_15 : decode cX10_fee 15 = .ok (.iload_n 2, 1) := by decide +kernel
theorem dX10_fee_16 : decode cX10_fee 16 = .ok (.iload_n 3, 1) := by decide +kernel
theorem dX10_fee_17 : decode cX10_fee 17 = .ok (.invokestatic 97, 3) := by decide +kernel
theorem dX10_fee_20 : decode cX10_fee 20 = .ok (.ifCond .ne 6, 3) := by decide +kernel
theorem dX10_fee_23 : decode cX10_fee 23 = .ok (.bipush (-2), 2) := by decide +kernel
theorem dX10_fee_25 : decode cX10_fee 25 = .ok (.ireturn, 1) := by decide +kernel
theorem dX10_fee_26 : decode cX10_fee 26 = .ok (.aload 4, 2) := by decide +kernel
theorem dX10_fee_28 : decode cX10_fee 28 = .ok (.iload_n 2, 1) := by decide +kernel
theorem dX10_fee_29 : decode cX10_fee 29 = .ok (.iload_n 3, 1) := by decide +kernel
theorem dX10_fee_30 : decode cX10_fee 30 = .ok (.invokevirtual 101, 3) := by decide +kernel
theorem dX10_fee_33 : decode cX10_fee 33 = .ok (.ireturn, 1) := by decide +kernel
theorem dX10_unit_0 : decode cX10_unit 0 = .ok (.aload_n 0, 1) := by decide +kernel
theorem dX10_unit_1 : decode cX10_unit 1 = .ok (.getfield 12, 3) := by decide +kernel
theorem dX10_unit_4 : decode cX10_unit 4 = .ok (.iload_n 1, 1) := by decide +kernel
theorem dX10_unit_5 : decode cX10_unit 5 = .ok (.invokevirtual 49, 3) := by decide +kernel
theorem dX10_unit_8 : decode cX10_unit 8 = .ok (.astore 5, 2) := by decide +kernel
theorem dX10_unit_10 : decode cX10_unit 10 = .ok (.aload 5, 2) := by decide +kernel
theorem dX10_unit_12 : decode cX10_unit 12 = .ok (.ifnull 13, 3) := by decide +kernel
theorem dX10_unit_15 : decode cX10_unit 15 = .ok (.iload_n 2, 1) := by decide +kernel
theorem dX10_unit_16 : decode cX10_unit 16 = .ok (.iconst 0, 1) := by decide +kernel
theorem dX10_unit_17 : decode cX10_unit 17 = .ok (.ldc 105, 2) := by decide +kernel
theorem dX10_unit_19 : decode cX10_unit 19 = .ok (.invokestatic 33, 3) := by decide +kernel
theorem dX10_unit_22 : decode cX10_unit 22 = .ok (.ifCond .ne 6, 3) := by decide +kernel
theorem dX10_unit_25 : decode cX10_unit 25 = .ok (.bipush (-2), 2) := by decide +kernel
theorem dX10_unit_27 : decode cX10_unit 27 = .ok (.ireturn, 1) := by decide +kernel
theorem dX10_unit_28 : decode cX10_unit 28 = .ok (.iload_n 3, 1) := by decide +kernel
theorem dX10_unit_29 : decode cX10_unit 29 = .ok (.iconst 0, 1) := by decide +kernel
theorem dX10_unit_30 : decode cX10_unit 30 = .ok (.bipush 99, 2) := by decide +kernel
theorem dX10_unit_32 : decode cX10_unit 32 = .ok (.invokestatic 33, 3) := by decide +kernel
theorem dX10_unit_35 : decode cX10_unit 35 = .ok (.ifCond .eq 13, 3) := by decide +kernel
theorem dX10_unit_38 : decode cX10_unit 38 = .ok (.iload 4, 2) := by decide +kernel
theorem dX10_unit_40 : decode cX10_unit 40 = .ok (.iconst 0, 1) := by decide +kernel
theorem dX10_unit_41 : decode cX10_unit 41 = .ok (.iconst 2, 1) := by decide +kernel
theorem dX10_unit_42 : decode cX10_unit 42 = .ok (.invokestatic 33, 3) := by decide +kernel
theorem dX10_unit_45 : decode cX10_unit 45 = .ok (.ifCond .ne 6, 3) := by decide +kernel
theorem dX10_unit_48 : decode cX10_unit 48 = .ok (.bipush (-2), 2) := by decide +kernel
theorem dX10_unit_50 : decode cX10_unit 50 = .ok (.ireturn, 1) := by decide +kernel
theorem dX10_unit_51 : decode cX10_unit 51 = .ok (.aload 5, 2) := by decide +kernel
theorem dX10_unit_53 : decode cX10_unit 53 = .ok (.iload_n 2, 1) := by decide +kernel
theorem dX10_unit_54 : decode cX10_unit 54 = .ok (.iload_n 3, 1) := by decide +kernel
theorem dX10_unit_55 : decode cX10_unit 55 = .ok (.iload 4, 2) := by decide +kernel
theorem dX10_unit_57 : decode cX10_unit 57 = .ok (.invokevirtual 106, 3) := by decide +kernel
theorem dX10_unit_60 : decode cX10_unit 60 = .ok (.ireturn, 1) := by decide +kernel
theorem dX10_extend_0 : decode cX10_extend 0 = .ok (.aload_n 0, 1) := by decide +kernel
theorem dX10_extend_1 : decode cX10_extend 1 = .ok (.getfield 12, 3) := by decide +kernel
theorem dX10_extend_4 : decode cX10_extend 4 = .ok (.iload_n 1, 1) := by decide +kernel
theorem dX10_extend_5 : decode cX10_extend 5 = .ok (.invokevirtual 49, 3) := by decide +kernel
theorem dX10_extend_8 : decode cX10_extend 8 = .ok (.astore 4, 2) := by decide +kernel
theorem dX10_extend_10 : decode cX10_extend 10 = .ok (.aload 4, 2) := by decide +kernel
theorem dX10_extend_12 : decode cX10_extend 12 = .ok (.ifnull 11, 3) := by decide +kernel
theorem dX10_extend_15 : decode cX10_extend 15 = .ok (.iload_n 2, 1) := by decide +kernel
theorem dX10_extend_16 : decode cX10_extend 16 = .ok (.iload_n 3, 1) := by decide +kernel
theorem dX10_extend_17 : decode cX10_extend 17 = .ok (.invokestatic 97, 3) := by decide +kernel
theorem dX10_extend_20 : decode cX10_extend 20 = .ok (.ifCond .ne 6, 3) := by decide +kernel
theorem dX10_extend_23 : decode cX10_extend 23 = .ok (.bipush (-2), 2) := by decide +kernel
theorem dX10_extend_25 : decode cX10_extend 25 = .ok (.ireturn, 1) := by decide +kernel
theorem dX10_extend_26 : decode cX10_extend 26 = .ok (.aload 4, 2) := by decide +kernel
theorem dX10_extend_28 : decode cX10_extend 28 = .ok (.iload_n 2, 1) := by decide +kernel
theorem dX10_extend_29 : decode cX10_extend 29 = .ok (.iload_n 3, 1) := by decide +kernel
theorem dX10_extend_30 : decode cX10_extend 30 = .ok (.invokevirtual 110, 3) := by decide +kernel
theorem dX10_extend_33 : decode cX10_extend 33 = .ok (.ireturn, 1) := by decide +kernel
theorem dX10_addVoucher_0 : decode cX10_addVoucher 0 = .ok (.iload_n 1, 1) := by decide +kernel
theorem dX10_addVoucher_1 : decode cX10_addVoucher 1 = .ok (.iconst 0, 1) := by decide +kernel
theorem dX10_addVoucher_2 : decode cX10_addVoucher 2 = .ok (.iconst 3, 1) := by decide +kernel
theorem dX10_addVoucher_3 : decode cX10_addVoucher 3 = .ok (.invokestatic 33, 3) := by decide +kernel
theorem dX10_addVoucher_6 : decode cX10_addVoucher 6 = .ok (.ifCond .ne 6, 3) := by decide +kernel
theorem dX10_addVoucher_9 : decode cX10_addVoucher 9 = .ok (.bipush (-2), 2) := by decide +kernel
theorem dX10_addVoucher_11 : decode cX10_addVoucher 11 = .ok (.ireturn, 1) := by decide +kernel
theorem dX10_addVoucher_12 : decode cX10_addVoucher 12 = .ok (.iload_n 2, 1) := by decide +kernel
theorem dX10_addVoucher_13 : decode cX10_addVoucher 13 = .ok (.iconst 0, 1) := by decide +kernel
theorem dX10_addVoucher_14 : decode cX10_addVoucher 14 = .ok (.iload_n 1, 1) := by decide +kernel
theorem dX10_addVoucher_15 : decode cX10_addVoucher 15 = .ok (.iconst 1, 1) := by decide +kernel
theorem dX10_addVoucher_16 : decode cX10_addVoucher 16 = .ok (.if_icmp .ne 8, 3) := by decide +kernel
theorem dX10_addVoucher_19 : decode cX10_addVoucher 19 = .ok (.bipush 100, 2) := by decide +kernel
theorem dX10_addVoucher_21 : decode cX10_addVoucher 21 = .ok (.goto 6, 3) := by decide +kernel
theorem dX10_addVoucher_24 : decode cX10_addVoucher 24 = .ok (.sipush 999, 3) := by decide +kernel
theorem dX10_addVoucher_27 : decode cX10_addVoucher 27 = .ok (.invokestatic 33, 3) := by decide +kernel
theorem dX10_addVoucher_30 : decode cX10_addVoucher 30 = .ok (.ifCond .ne 6, 3) := by decide +kernel
theorem dX10_addVoucher_33 : decode cX10_addVoucher 33 = .ok (.bipush (-2), 2) := by decide +kernel
theorem dX10_addVoucher_35 : decode cX10_addVoucher 35 = .ok (.ireturn, 1) := by decide +kernel
theorem dX10_addVoucher_36 : decode cX10_addVoucher 36 = .ok (.aload_n 0, 1) := by decide +kernel
theorem dX10_addVoucher_37 : decode cX10_addVoucher 37 = .ok (.getfield 12, 3) := by decide +kernel
theorem dX10_addVoucher_40 : decode cX10_addVoucher 40 = .ok (.iload_n 1, 1) := by decide +kernel
theorem dX10_addVoucher_41 : decode cX10_addVoucher 41 = .ok (.iload_n 2, 1) := by decide +kernel
theorem dX10_addVoucher_42 : decode cX10_addVoucher 42 = .ok (.invokevirtual 113, 3) := by decide +kernel
theorem dX10_addVoucher_45 : decode cX10_addVoucher 45 = .ok (.ireturn, 1) := by decide +kernel
theorem dX10_voucher_0 : decode cX10_voucher 0 = .ok (.aload_n 0, 1) := by decide +kernel
theorem dX10_voucher_1 : decode cX10_voucher 1 = .ok (.getfield 12, 3) := by decide +kernel
theorem dX10_voucher_4 : decode cX10_voucher 4 = .ok (.iload_n 1, 1) := by decide +kernel
theorem dX10_voucher_5 : decode cX10_voucher 5 = .ok (.invokevirtual 116, 3) := by decide +kernel
theorem dX10_voucher_8 : decode cX10_voucher 8 = .ok (.astore_n 3, 1) := by decide +kernel
theorem dX10_voucher_9 : decode cX10_voucher 9 = .ok (.aload_n 3, 1) := by decide +kernel
theorem dX10_voucher_10 : decode cX10_voucher 10 = .ok (.ifnonnull 5, 3) := by decide +kernel
theorem dX10_voucher_13 : decode cX10_voucher 13 = .ok (.iconst (-1), 1) := by decide +kernel
theorem dX10_voucher_14 : decode cX10_voucher 14 = .ok (.ireturn, 1) := by decide +kernel
theorem dX10_voucher_15 : decode cX10_voucher 15 = .ok (.iload_n 2, 1) := by decide +kernel
theorem dX10_voucher_16 : decode cX10_voucher 16 = .ok (.iconst 0, 1) := by decide +kernel
theorem dX10_voucher_17 : decode cX10_voucher 17 = .ok (.iconst 2, 1) := by decide +kernel
theorem dX10_voucher_18 : decode cX10_voucher 18 = .ok (.invokestatic 33, 3) := by decide +kernel
theorem dX10_voucher_21 : decode cX10_voucher 21 = .ok (.ifCond .eq 11, 3) := by decide +kernel
theorem dX10_voucher_24 : decode cX10_voucher 24 = .ok (.aload_n 3, 1) := by decide +kernel
theorem dX10_voucher_25 : decode cX10_voucher 25 = .ok (.iload_n 2, 1) := by decide +kernel
theorem dX10_voucher_26 : decode cX10_voucher 26 = .ok (.invokevirtual 120, 3) := by decide +kernel
theorem dX10_voucher_29 : decode cX10_voucher 29 = .ok (.goto 5, 3) := by decide +kernel
theorem dX10_voucher_32 : decode cX10_voucher 32 = .ok (.bipush (-2), 2) := by decide +kernel
theorem dX10_voucher_34 : decode cX10_voucher 34 = .ok (.ireturn, 1) := by decide +kernel
theorem dX10_makeFolder_0 : decode cX10_makeFolder 0 = .ok (.iload_n 1, 1) := by decide +kernel
theorem dX10_makeFolder_1 : decode cX10_makeFolder 1 = .ok (.iconst 0, 1) := by decide +kernel
theorem dX10_makeFolder_2 : decode cX10_makeFolder 2 = .ok (.iconst 2, 1) := by decide +kernel
theorem dX10_makeFolder_3 : decode cX10_makeFolder 3 = .ok (.invokestatic 33, 3) := by decide +kernel
theorem dX10_makeFolder_6 : decode cX10_makeFolder 6 = .ok (.ifCond .eq 12, 3) := by decide +kernel
theorem dX10_makeFolder_9 : decode cX10_makeFolder 9 = .ok (.iload_n 2, 1) := by decide +kernel
theorem dX10_makeFolder_10 : decode cX10_makeFolder 10 = .ok (.iconst (-1), 1) := by decide +kernel
theorem dX10_makeFolder_11 : decode cX10_makeFolder 11 = .ok (.iconst 3, 1) := by decide +kernel
theorem dX10_makeFolder_12 : decode cX10_makeFolder 12 = .ok (.invokestatic 33, 3) := by decide +kernel
theorem dX10_makeFolder_15 : decode cX10_makeFolder 15 = .ok (.ifCond .ne 6, 3) := by decide +kernel
theorem dX10_makeFolder_18 : decode cX10_makeFolder 18 = .ok (.bipush (-2), 2) := by decide +kernel
theorem dX10_makeFolder_20 : decode cX10_makeFolder 20 = .ok (.ireturn, 1) := by decide +kernel
theorem dX10_makeFolder_21 : decode cX10_makeFolder 21 = .ok (.iload_n 3, 1) := by decide +kernel
theorem dX10_makeFolder_22 : decode cX10_makeFolder 22 = .ok (.iconst 1, 1) := by decide +kernel
theorem dX10_makeFolder_23 : decode cX10_makeFolder 23 = .ok (.iconst 5, 1) := by decide +kernel
theorem dX10_makeFolder_24 : decode cX10_makeFolder 24 = .ok (.invokestatic 33, 3) := by decide +kernel
theorem dX10_makeFolder_27 : decode cX10_makeFolder 27 = .ok (.ifCond .ne 6, 3) := by decide +kernel
theorem dX10_makeFolder_30 : decode cX10_makeFolder 30 = .ok (.bipush (-2), 2) := by decide +kernel
theorem dX10_makeFolder_32 : decode cX10_makeFolder 32 = .ok (.ireturn, 1) := by decide +kernel
theorem dX10_makeFolder_33 : decode cX10_makeFolder 33 = .ok (.aload_n 0, 1) := by decide +kernel
theorem dX10_makeFolder_34 : decode cX10_makeFolder 34 = .ok (.getfield 12, 3) := by decide +kernel
theorem dX10_makeFolder_37 : decode cX10_makeFolder 37 = .ok (.getfield 123, 3) := by decide +kernel
theorem dX10_makeFolder_40 : decode cX10_makeFolder 40 = .ok (.iload_n 1, 1) := by decide +kernel
theorem dX10_makeFolder_41 : decode cX10_makeFolder 41 = .ok (.aaload, 1) := by decide +kernel
theorem dX10_makeFolder_42 : decode cX10_makeFolder 42 = .ok (.iload_n 2, 1) := by decide +kernel
theorem dX10_makeFolder_43 : decode cX10_makeFolder 43 = .ok (.iload_n 3, 1) := by decide +kernel
theorem dX10_makeFolder_44 : decode cX10_makeFolder 44 = .ok (.invokevirtual 127, 3) := by decide +kernel
theorem dX10_makeFolder_47 : decode cX10_makeFolder 47 = .ok (.iload_n 3, 1) := by decide +kernel
theorem dX10_makeFolder_48 : decode cX10_makeFolder 48 = .ok (.ireturn, 1) := by decide +kernel
theorem dX10_put_0 : decode cX10_put 0 = .ok (.aload_n 0, 1) := by decide +kernel
theorem dX10_put_1 : decode cX10_put 1 = .ok (.getfield 12, 3) := by decide +kernel
theorem dX10_put_4 : decode cX10_put 4 = .ok (.iload_n 1, 1) := by decide +kernel
theorem dX10_put_5 : decode cX10_put 5 = .ok (.invokevirtual 133, 3) := by decide +kernel
theorem dX10_put_8 : decode cX10_put 8 = .ok (.astore 4, 2) := by decide +kernel
theorem dX10_put_10 : decode cX10_put 10 = .ok (.aload_n 0, 1) := by decide +kernel
theorem dX10_put_11 : decode cX10_put 11 = .ok (.getfield 12, 3) := by decide +kernel
theorem dX10_put_14 : decode cX10_put 14 = .ok (.iload_n 3, 1) := by decide +kernel
theorem dX10_put_15 : decode cX10_put 15 = .ok (.invokevirtual 116, 3) := by decide +kernel
theorem dX10_put_18 : decode cX10_put 18 = .ok (.astore 5, 2) := by decide +kernel
theorem dX10_put_20 : decode cX10_put 20 = .ok (.aload 4, 2) := by decide +kernel
theorem dX10_put_22 : decode cX10_put 22 = .ok (.ifnull 17, 3) := by decide +kernel
theorem dX10_put_25 : decode cX10_put 25 = .ok (.aload 5, 2) := by decide +kernel
theorem dX10_put_27 : decode cX10_put 27 = .ok (.ifnull 12, 3) := by decide +kernel
theorem dX10_put_30 : decode cX10_put 30 = .ok (.aload 4, 2) := by decide +kernel
theorem dX10_put_32 : decode cX10_put 32 = .ok (.iload_n 2, 1) := by decide +kernel
theorem dX10_put_33 : decode cX10_put 33 = .ok (.invokevirtual 137, 3) := by decide +kernel
theorem dX10_put_36 : decode cX10_put 36 = .ok (.ifCond .ne 5, 3) := by decide +kernel
theorem dX10_put_39 : decode cX10_put 39 = .ok (.iconst (-1), 1) := by decide +kernel
theorem dX10_put_40 : decode cX10_put 40 = .ok (.ireturn, 1) := by decide +kernel
theorem dX10_put_41 : decode cX10_put 41 = .ok (.aload 4, 2) := by decide +kernel
theorem dX10_put_43 : decode cX10_put 43 = .ok (.aload 5, 2) := by decide +kernel
theorem dX10_put_45 : decode cX10_put 45 = .ok (.getfield 140, 3) := by decide +kernel
theorem dX10_put_48 : decode cX10_put 48 = .ok (.invokevirtual 143, 3) := by decide +kernel
theorem dX10_put_51 : decode cX10_put 51 = .ok (.ifCond .ne 6, 3) := by decide +kernel
theorem dX10_put_54 : decode cX10_put 54 = .ok (.bipush (-6), 2) := by decide +kernel
theorem dX10_put_56 : decode cX10_put 56 = .ok (.ireturn, 1) := by decide +kernel
theorem dX10_put_57 : decode cX10_put 57 = .ok (.aload 4, 2) := by decide +kernel
theorem dX10_put_59 : decode cX10_put 59 = .ok (.iload_n 2, 1) := by decide +kernel
theorem dX10_put_60 : decode cX10_put 60 = .ok (.iload_n 3, 1) := by decide +kernel
theorem dX10_put_61 : decode cX10_put 61 = .ok (.invokevirtual 146, 3) := by decide +kernel
theorem dX10_put_64 : decode cX10_put 64 = .ok (.aload 4, 2) := by decide +kernel
theorem dX10_put_66 : decode cX10_put 66 = .ok (.invokevirtual 149, 3) := by decide +kernel
theorem dX10_put_69 : decode cX10_put 69 = .ok (.ireturn, 1) := by decide +kernel
theorem dX10_inFolder_0 : decode cX10_inFolder 0 = .ok (.aload_n 0, 1) := by decide +kernel
theorem dX10_inFolder_1 : decode cX10_inFolder 1 = .ok (.getfield 12, 3) := by decide +kernel
theorem dX10_inFolder_4 : decode cX10_inFolder 4 = .ok (.iload_n 1, 1) := by decide +kernel
theorem dX10_inFolder_5 : decode cX10_inFolder 5 = .ok (.iload_n 2, 1) := by decide +kernel
theorem dX10_inFolder_6 : decode cX10_inFolder 6 = .ok (.invokevirtual 153, 3) := by decide +kernel
theorem dX10_inFolder_9 : decode cX10_inFolder 9 = .ok (.ireturn, 1) := by decide +kernel
theorem dX10_enter_0 : decode cX10_enter 0 = .ok (.aload_n 0, 1) := by decide +kernel
theorem dX10_enter_1 : decode cX10_enter 1 = .ok (.getfield 12, 3) := by decide +kernel
theorem dX10_enter_4 : decode cX10_enter 4 = .ok (.iload_n 1, 1) := by decide +kernel
theorem dX10_enter_5 : decode cX10_enter 5 = .ok (.invokevirtual 49, 3) := by decide +kernel
theorem dX10_enter_8 : decode cX10_enter 8 = .ok (.ifnonnull 6, 3) := by decide +kernel
theorem dX10_enter_11 : decode cX10_enter 11 = .ok (.bipush (-2), 2) := by decide +kernel
theorem dX10_enter_13 : decode cX10_enter 13 = .ok (.ireturn, 1) := by decide +kernel
theorem dX10_enter_14 : decode cX10_enter 14 = .ok (.aload_n 0, 1) := by decide +kernel
theorem dX10_enter_15 : decode cX10_enter 15 = .ok (.getfield 12, 3) := by decide +kernel
theorem dX10_enter_18 : decode cX10_enter 18 = .ok (.iload_n 1, 1) := by decide +kernel
theorem dX10_enter_19 : decode cX10_enter 19 = .ok (.invokevirtual 156, 3) := by decide +kernel
theorem dX10_enter_22 : decode cX10_enter 22 = .ok (.ireturn, 1) := by decide +kernel
theorem dX10_give_0 : decode cX10_give 0 = .ok (.aload_n 0, 1) := by decide +kernel
theorem dX10_give_1 : decode cX10_give 1 = .ok (.getfield 12, 3) := by decide +kernel
theorem dX10_give_4 : decode cX10_give 4 = .ok (.iload_n 1, 1) := by decide +kernel
theorem dX10_give_5 : decode cX10_give 5 = .ok (.invokevirtual 159, 3) := by decide +kernel
theorem dX10_give_8 : decode cX10_give 8 = .ok (.astore 4, 2) := by decide +kernel
theorem dX10_give_10 : decode cX10_give 10 = .ok (.aload_n 0, 1) := by decide +kernel
theorem dX10_give_11 : decode cX10_give 11 = .ok (.getfield 12, 3) := by decide +kernel
theorem dX10_give_14 : decode cX10_give 14 = .ok (.iload_n 2, 1) := by decide +kernel
theorem dX10_give_15 : decode cX10_give 15 = .ok (.iload_n 3, 1) := by decide +kernel
theorem dX10_give_16 : decode cX10_give 16 = .ok (.invokevirtual 153, 3) := by decide +kernel
theorem dX10_give_19 : decode cX10_give 19 = .ok (.istore 5, 2) := by decide +kernel
theorem dX10_give_21 : decode cX10_give 21 = .ok (.aload_n 0, 1) := by decide +kernel
theorem dX10_give_22 : decode cX10_give 22 = .ok (.getfield 12, 3) := by decide +kernel
theorem dX10_give_25 : decode cX10_give 25 = .ok (.iload 5, 2) := by decide +kernel
theorem dX10_give_27 : decode cX10_give 27 = .ok (.invokevirtual 116, 3) := by decide +kernel
theorem dX10_give_30 : decode cX10_give 30 = .ok (.astore 6, 2) := by decide +kernel
theorem dX10_give_32 : decode cX10_give 32 = .ok (.aload 4, 2) := by decide +kernel
theorem dX10_give_34 : decode cX10_give 34 = .ok (.ifnull 8, 3) := by decide +kernel
theorem dX10_give_37 : decode cX10_give 37 = .ok (.aload 6, 2) := by decide +kernel
theorem dX10_give_39 : decode cX10_give 39 = .ok (.ifnonnull 5, 3) := by decide +kernel
theorem dX10_give_42 : decode cX10_give 42 = .ok (.iconst (-1), 1) := by decide +kernel
theorem dX10_give_43 : decode cX10_give 43 = .ok (.ireturn, 1) := by decide +kernel
theorem dX10_give_44 : decode cX10_give 44 = .ok (.aload 4, 2) := by decide +kernel
theorem dX10_give_46 : decode cX10_give 46 = .ok (.getfield 163, 3) := by decide +kernel
theorem dX10_give_49 : decode cX10_give 49 = .ok (.ifCond .eq 6, 3) := by decide +kernel
theorem dX10_give_52 : decode cX10_give 52 = .ok (.bipush (-4), 2) := by decide +kernel
theorem dX10_give_54 : decode cX10_give 54 = .ok (.ireturn, 1) := by decide +kernel
theorem dX10_give_55 : decode cX10_give 55 = .ok (.aload 4, 2) := by decide +kernel
theorem dX10_give_57 : decode cX10_give 57 = .ok (.invokevirtual 169, 3) := by decide +kernel
theorem dX10_give_60 : decode cX10_give 60 = .ok (.ifCond .ne 6, 3) := by decide +kernel
theorem dX10_give_63 : decode cX10_give 63 = .ok (.bipush (-3), 2) := by decide +kernel
theorem dX10_give_65 : decode cX10_give 65 = .ok (.ireturn, 1) := by decide +kernel
theorem dX10_give_66 : decode cX10_give 66 = .ok (.aload 4, 2) := by decide +kernel
theorem dX10_give_68 : decode cX10_give 68 = .ok (.iload 5, 2) := by decide +kernel
theorem dX10_give_70 : decode cX10_give 70 = .ok (.invokevirtual 172, 3) := by decide +kernel
theorem dX10_give_73 : decode cX10_give 73 = .ok (.aload 6, 2) := by decide +kernel
theorem dX10_give_75 : decode cX10_give 75 = .ok (.dup, 1) := by decide +kernel
theorem dX10_give_76 : decode cX10_give 76 = .ok (.getfield 176, 3) := by decide +kernel
theorem dX10_give_79 : decode cX10_give 79 = .ok (.iconst 1, 1) := by decide +kernel
theorem dX10_give_80 : decode cX10_give 80 = .ok (.iadd, 1) := by decide +kernel
theorem dX10_give_81 : decode cX10_give 81 = .ok (.putfield 176, 3) := by decide +kernel
theorem dX10_give_84 : decode cX10_give 84 = .ok (.aload 4, 2) := by decide +kernel
theorem dX10_give_86 : decode cX10_give 86 = .ok (.getfield 179, 3) := by decide +kernel
theorem dX10_give_89 : decode cX10_give 89 = .ok (.ireturn, 1) := by decide +kernel
theorem dX10_lose_0 : decode cX10_lose 0 = .ok (.aload_n 0, 1) := by decide +kernel
theorem dX10_lose_1 : decode cX10_lose 1 = .ok (.getfield 12, 3) := by decide +kernel
theorem dX10_lose_4 : decode cX10_lose 4 = .ok (.iload_n 1, 1) := by decide +kernel
theorem dX10_lose_5 : decode cX10_lose 5 = .ok (.invokevirtual 159, 3) := by decide +kernel
theorem dX10_lose_8 : decode cX10_lose 8 = .ok (.astore_n 2, 1) := by decide +kernel
theorem dX10_lose_9 : decode cX10_lose 9 = .ok (.aload_n 2, 1) := by decide +kernel
theorem dX10_lose_10 : decode cX10_lose 10 = .ok (.ifnonnull 5, 3) := by decide +kernel
theorem dX10_lose_13 : decode cX10_lose 13 = .ok (.iconst (-1), 1) := by decide +kernel
theorem dX10_lose_14 : decode cX10_lose 14 = .ok (.ireturn, 1) := by decide +kernel
theorem dX10_lose_15 : decode cX10_lose 15 = .ok (.aload_n 2, 1) := by decide +kernel
theorem dX10_lose_16 : decode cX10_lose 16 = .ok (.getfield 163, 3) := by decide +kernel
theorem dX10_lose_19 : decode cX10_lose 19 = .ok (.ifCond .eq 6, 3) := by decide +kernel
theorem dX10_lose_22 : decode cX10_lose 22 = .ok (.bipush (-4), 2) := by decide +kernel
theorem dX10_lose_24 : decode cX10_lose 24 = .ok (.ireturn, 1) := by decide +kernel
theorem dX10_lose_25 : decode cX10_lose 25 = .ok (.aload_n 2, 1) := by decide +kernel
theorem dX10_lose_26 : decode cX10_lose 26 = .ok (.iconst 1, 1) := by decide +kernel
theorem dX10_lose_27 : decode cX10_lose 27 = .ok (.putfield 163, 3) := by decide +kernel
theorem dX10_lose_30 : decode cX10_lose 30 = .ok (.aload_n 0, 1) := by decide +kernel
theorem dX10_lose_31 : decode cX10_lose 31 = .ok (.getfield 12, 3) := by decide +kernel
theorem dX10_lose_34 : decode cX10_lose 34 = .ok (.aload_n 2, 1) := by decide +kernel
theorem dX10_lose_35 : decode cX10_lose 35 = .ok (.aload_n 0, 1) := by decide +kernel
theorem dX10_lose_36 : decode cX10_lose 36 = .ok (.getfield 12, 3) := by decide +kernel
theorem dX10_lose_39 : decode cX10_lose 39 = .ok (.getfield 182, 3) := by decide +kernel
theorem dX10_lose_42 : decode cX10_lose 42 = .ok (.invokevirtual 185, 3) := by decide +kernel
theorem dX10_lose_45 : decode cX10_lose 45 = .ok (.ireturn, 1) := by decide +kernel
theorem dX10_due_0 : decode cX10_due 0 = .ok (.aload_n 0, 1) := by decide +kernel
theorem dX10_due_1 : decode cX10_due 1 = .ok (.getfield 12, 3) := by decide +kernel
theorem dX10_due_4 : decode cX10_due 4 = .ok (.iload_n 1, 1) := by decide +kernel
theorem dX10_due_5 : decode cX10_due 5 = .ok (.invokevirtual 159, 3) := by decide +kernel
theorem dX10_due_8 : decode cX10_due 8 = .ok (.astore_n 3, 1) := by decide +kernel
theorem dX10_due_9 : decode cX10_due 9 = .ok (.aload_n 3, 1) := by decide +kernel
theorem dX10_due_10 : decode cX10_due 10 = .ok (.ifnonnull 5, 3) := by decide +kernel
theorem dX10_due_13 : decode cX10_due 13 = .ok (.iconst (-1), 1) := by decide +kernel
theorem dX10_due_14 : decode cX10_due 14 = .ok (.ireturn, 1) := by decide +kernel
theorem dX10_due_15 : decode cX10_due 15 = .ok (.iload_n 2, 1) := by decide +kernel
theorem dX10_due_16 : decode cX10_due 16 = .ok (.aload_n 0, 1) := by decide +kernel
theorem dX10_due_17 : decode cX10_due 17 = .ok (.getfield 12, 3) := by decide +kernel
theorem dX10_due_20 : decode cX10_due 20 = .ok (.getfield 182, 3) := by decide +kernel
theorem dX10_due_23 : decode cX10_due 23 = .ok (.ldc 105, 2) := by decide +kernel
theorem dX10_due_25 : decode cX10_due 25 = .ok (.invokestatic 33, 3) := by decide +kernel
theorem dX10_due_28 : decode cX10_due 28 = .ok (.ifCond .ne 6, 3) := by decide +kernel
theorem dX10_due_31 : decode cX10_due 31 = .ok (.bipush (-2), 2) := by decide +kernel
theorem dX10_due_33 : decode cX10_due 33 = .ok (.ireturn, 1) := by decide +kernel
theorem dX10_due_34 : decode cX10_due 34 = .ok (.aload_n 0, 1) := by decide +kernel
theorem dX10_due_35 : decode cX10_due 35 = .ok (.getfield 12, 3) := by decide +kernel
theorem dX10_due_38 : decode cX10_due 38 = .ok (.aload_n 3, 1) := by decide +kernel
theorem dX10_due_39 : decode cX10_due 39 = .ok (.iload_n 2, 1) := by decide +kernel
theorem dX10_due_40 : decode cX10_due 40 = .ok (.invokevirtual 185, 3) := by decide +kernel
theorem dX10_due_43 : decode cX10_due 43 = .ok (.ireturn, 1) := by decide +kernel
theorem dX10_pay_0 : decode cX10_pay 0 = .ok (.aload_n 0, 1) := by decide +kernel
theorem dX10_pay_1 : decode cX10_pay 1 = .ok (.getfield 12, 3) := by decide +kernel
theorem dX10_pay_4 : decode cX10_pay 4 = .ok (.iload_n 1, 1) := by decide +kernel
theorem dX10_pay_5 : decode cX10_pay 5 = .ok (.invokevirtual 159, 3) := by decide +kernel
theorem dX10_pay_8 : decode cX10_pay 8 = .ok (.astore_n 2, 1) := by decide +kernel
theorem dX10_pay_9 : decode cX10_pay 9 = .ok (.aload_n 2, 1) := by decide +kernel
theorem dX10_pay_10 : decode cX10_pay 10 = .ok (.ifnonnull 5, 3) := by decide +kernel
theorem dX10_pay_13 : decode cX10_pay 13 = .ok (.iconst (-1), 1) := by decide +kernel
theorem dX10_pay_14 : decode cX10_pay 14 = .ok (.ireturn, 1) := by decide +kernel
theorem dX10_pay_15 : decode cX10_pay 15 = .ok (.aload_n 0, 1) := by decide +kernel
theorem dX10_pay_16 : decode cX10_pay 16 = .ok (.getfield 12, 3) := by decide +kernel
theorem dX10_pay_19 : decode cX10_pay 19 = .ok (.aload_n 2, 1) := by decide +kernel
theorem dX10_pay_20 : decode cX10_pay 20 = .ok (.aload_n 0, 1) := by decide +kernel
theorem dX10_pay_21 : decode cX10_pay 21 = .ok (.getfield 12, 3) := by decide +kernel
theorem dX10_pay_24 : decode cX10_pay 24 = .ok (.getfield 182, 3) := by decide +kernel
theorem dX10_pay_27 : decode cX10_pay 27 = .ok (.invokevirtual 185, 3) := by decide +kernel
theorem dX10_pay_30 : decode cX10_pay 30 = .ok (.istore_n 3, 1) := by decide +kernel
theorem dX10_pay_31 : decode cX10_pay 31 = .ok (.aload_n 2, 1) := by decide +kernel
theorem dX10_pay_32 : decode cX10_pay 32 = .ok (.iload_n 3, 1) := by decide +kernel
theorem dX10_pay_33 : decode cX10_pay 33 = .ok (.aload_n 0, 1) := by decide +kernel
theorem dX10_pay_34 : decode cX10_pay 34 = .ok (.getfield 12, 3) := by decide +kernel
theorem dX10_pay_37 : decode cX10_pay 37 = .ok (.getfield 182, 3) := by decide +kernel
theorem dX10_pay_40 : decode cX10_pay 40 = .ok (.invokevirtual 189, 3) := by decide +kernel
theorem dX10_pay_43 : decode cX10_pay 43 = .ok (.iload_n 3, 1) := by decide +kernel
theorem dX10_pay_44 : decode cX10_pay 44 = .ok (.ireturn, 1) := by decide +kernel
theorem dX10_leave_0 : decode cX10_leave 0 = .ok (.aload_n 0, 1) := by decide +kernel
theorem dX10_leave_1 : decode cX10_leave 1 = .ok (.getfield 12, 3) := by decide +kernel
theorem dX10_leave_4 : decode cX10_leave 4 = .ok (.iload_n 1, 1) := by decide +kernel
theorem dX10_leave_5 : decode cX10_leave 5 = .ok (.invokevirtual 159, 3) := by decide +kernel
theorem dX10_leave_8 : decode cX10_leave 8 = .ok (.astore_n 2, 1) := by decide +kernel
theorem dX10_leave_9 : decode cX10_leave 9 = .ok (.aload_n 2, 1) := by decide +kernel
theorem dX10_leave_10 : decode cX10_leave 10 = .ok (.ifnonnull 5, 3) := by decide +kernel
theorem dX10_leave_13 : decode cX10_leave 13 = .ok (.iconst (-1), 1) := by decide +kernel
theorem dX10_leave_14 : decode cX10_leave 14 = .ok (.ireturn, 1) := by decide +kernel
theorem dX10_leave_15 : decode cX10_leave 15 = .ok (.aload_n 2, 1) := by decide +kernel
theorem dX10_leave_16 : decode cX10_leave 16 = .ok (.bipush 15, 2) := by decide +kernel
theorem dX10_leave_18 : decode cX10_leave 18 = .ok (.aload_n 0, 1) := by decide +kernel
theorem dX10_leave_19 : decode cX10_leave 19 = .ok (.getfield 12, 3) := by decide +kernel
theorem dX10_leave_22 : decode cX10_leave 22 = .ok (.getfield 182, 3) := by decide +kernel
theorem dX10_leave_25 : decode cX10_leave 25 = .ok (.invokevirtual 192, 3) := by decide +kernel
theorem dX10_leave_28 : decode cX10_leave 28 = .ok (.istore_n 3, 1) := by decide +kernel
theorem dX10_leave_29 : decode cX10_leave 29 = .ok (.iload_n 3, 1) := by decide +kernel
theorem dX10_leave_30 : decode cX10_leave 30 = .ok (.ifCond .ne 24, 3) := by decide +kernel
theorem dX10_leave_33 : decode cX10_leave 33 = .ok (.aload_n 0, 1) := by decide +kernel
theorem dX10_leave_34 : decode cX10_leave 34 = .ok (.getfield 12, 3) := by decide +kernel
theorem dX10_leave_37 : decode cX10_leave 37 = .ok (.aload_n 2, 1) := by decide +kernel
theorem dX10_leave_38 : decode cX10_leave 38 = .ok (.aload_n 0, 1) := by decide +kernel
theorem dX10_leave_39 : decode cX10_leave 39 = .ok (.getfield 12, 3) := by decide +kernel
theorem dX10_leave_42 : decode cX10_leave 42 = .ok (.getfield 182, 3) := by decide +kernel
theorem dX10_leave_45 : decode cX10_leave 45 = .ok (.invokevirtual 185, 3) := by decide +kernel
theorem dX10_leave_48 : decode cX10_leave 48 = .ok (.ifCond .le 6, 3) := by decide +kernel
theorem dX10_leave_51 : decode cX10_leave 51 = .ok (.bipush (-7), 2) := by decide +kernel
theorem dX10_leave_53 : decode cX10_leave 53 = .ok (.ireturn, 1) := by decide +kernel
theorem dX10_leave_54 : decode cX10_leave 54 = .ok (.aload_n 0, 1) := by decide +kernel
theorem dX10_leave_55 : decode cX10_leave 55 = .ok (.getfield 12, 3) := by decide +kernel
theorem dX10_leave_58 : decode cX10_leave 58 = .ok (.aload_n 2, 1) := by decide +kernel
theorem dX10_leave_59 : decode cX10_leave 59 = .ok (.invokevirtual 195, 3) := by decide +kernel
theorem dX10_leave_62 : decode cX10_leave 62 = .ok (.aload_n 2, 1) := by decide +kernel
theorem dX10_leave_63 : decode cX10_leave 63 = .ok (.getfield 199, 3) := by decide +kernel
theorem dX10_leave_66 : decode cX10_leave 66 = .ok (.ireturn, 1) := by decide +kernel
theorem dX10_ticket_0 : decode cX10_ticket 0 = .ok (.aload_n 0, 1) := by decide +kernel
theorem dX10_ticket_1 : decode cX10_ticket 1 = .ok (.getfield 12, 3) := by decide +kernel
theorem dX10_ticket_4 : decode cX10_ticket 4 = .ok (.iload_n 1, 1) := by decide +kernel
theorem dX10_ticket_5 : decode cX10_ticket 5 = .ok (.invokevirtual 202, 3) := by decide +kernel
theorem dX10_ticket_8 : decode cX10_ticket 8 = .ok (.astore_n 3, 1) := by decide +kernel
theorem dX10_ticket_9 : decode cX10_ticket 9 = .ok (.aload_n 3, 1) := by decide +kernel
theorem dX10_ticket_10 : decode cX10_ticket 10 = .ok (.ifnonnull 5, 3) := by decide +kernel
theorem dX10_ticket_13 : decode cX10_ticket 13 = .ok (.iconst (-1), 1) := by decide +kernel
theorem dX10_ticket_14 : decode cX10_ticket 14 = .ok (.ireturn, 1) := by decide +kernel
theorem dX10_ticket_15 : decode cX10_ticket 15 = .ok (.iload_n 2, 1) := by decide +kernel
theorem dX10_ticket_16 : decode cX10_ticket 16 = .ok (.iconst 0, 1) := by decide +kernel
theorem dX10_ticket_17 : decode cX10_ticket 17 = .ok (.bipush 7, 2) := by decide +kernel
theorem dX10_ticket_19 : decode cX10_ticket 19 = .ok (.invokestatic 33, 3) := by decide +kernel
theorem dX10_ticket_22 : decode cX10_ticket 22 = .ok (.ifCond .eq 11, 3) := by decide +kernel
theorem dX10_ticket_25 : decode cX10_ticket 25 = .ok (.aload_n 3, 1) := by decide +kernel
theorem dX10_ticket_26 : decode cX10_ticket 26 = .ok (.iload_n 2, 1) := by decide +kernel
theorem dX10_ticket_27 : decode cX10_ticket 27 = .ok (.invokevirtual 205, 3) := by decide +kernel
theorem dX10_ticket_30 : decode cX10_ticket 30 = .ok (.goto 5, 3) := by decide +kernel
theorem dX10_ticket_33 : decode cX10_ticket 33 = .ok (.bipush (-2), 2) := by decide +kernel
theorem dX10_ticket_35 : decode cX10_ticket 35 = .ok (.ireturn, 1) := by decide +kernel
theorem dX10_step_0 : decode cX10_step 0 = .ok (.aload_n 0, 1) := by decide +kernel
theorem dX10_step_1 : decode cX10_step 1 = .ok (.getfield 12, 3) := by decide +kernel
theorem dX10_step_4 : decode cX10_step 4 = .ok (.iload_n 1, 1) := by decide +kernel
theorem dX10_step_5 : decode cX10_step 5 = .ok (.invokevirtual 159, 3) := by decide +kernel
theorem dX10_step_8 : decode cX10_step 8 = .ok (.astore_n 3, 1) := by decide +kernel
theorem dX10_step_9 : decode cX10_step 9 = .ok (.aload_n 3, 1) := by decide +kernel
theorem dX10_step_10 : decode cX10_step 10 = .ok (.ifnull 19, 3) := by decide +kernel
theorem dX10_step_13 : decode cX10_step 13 = .ok (.iload_n 2, 1) := by decide +kernel
theorem dX10_step_14 : decode cX10_step 14 = .ok (.iconst 0, 1) := by decide +kernel
theorem dX10_step_15 : decode cX10_step 15 = .ok (.aload_n 0, 1) := by decide +kernel
theorem dX10_step_16 : decode cX10_step 16 = .ok (.getfield 12, 3) := by decide +kernel
theorem dX10_step_19 : decode cX10_step 19 = .ok (.aload_n 3, 1) := by decide +kernel
theorem dX10_step_20 : decode cX10_step 20 = .ok (.invokevirtual 206, 3) := by decide +kernel
theorem dX10_step_23 : decode cX10_step 23 = .ok (.invokestatic 33, 3) := by decide +kernel
theorem dX10_step_26 : decode cX10_step 26 = .ok (.ifCond .ne 5, 3) := by decide +kernel
theorem dX10_step_29 : decode cX10_step 29 = .ok (.iconst (-1), 1) := by decide +kernel
theorem dX10_step_30 : decode cX10_step 30 = .ok (.ireturn, 1) := by decide +kernel
theorem dX10_step_31 : decode cX10_step 31 = .ok (.aload_n 3, 1) := by decide +kernel
theorem dX10_step_32 : decode cX10_step 32 = .ok (.getfield 163, 3) := by decide +kernel
theorem dX10_step_35 : decode cX10_step 35 = .ok (.ifCond .eq 8, 3) := by decide +kernel
theorem dX10_step_38 : decode cX10_step 38 = .ok (.bipush (-4), 2) := by decide +kernel
theorem dX10_step_40 : decode cX10_step 40 = .ok (.goto 19, 3) := by decide +kernel
theorem dX10_step_43 : decode cX10_step 43 = .ok (.aload_n 0, 1) := by decide +kernel
theorem dX10_step_44 : decode cX10_step 44 = .ok (.getfield 12, 3) := by decide +kernel
theorem dX10_step_47 : decode cX10_step 47 = .ok (.aload_n 3, 1) := by decide +kernel
theorem dX10_step_48 : decode cX10_step 48 = .ok (.aload_n 0, 1) := by decide +kernel
theorem dX10_step_49 : decode cX10_step 49 = .ok (.getfield 12, 3) := by decide +kernel
theorem dX10_step_52 : decode cX10_step 52 = .ok (.getfield 182, 3) := by decide +kernel
theorem dX10_step_55 : decode cX10_step 55 = .ok (.iload_n 2, 1) := by decide +kernel
theorem dX10_step_56 : decode cX10_step 56 = .ok (.invokevirtual 210, 3) := by decide +kernel
theorem dX10_step_59 : decode cX10_step 59 = .ok (.ireturn, 1) := by decide +kernel
theorem dX10_advance_0 : decode cX10_advance 0 = .ok (.iload_n 1, 1) := by decide +kernel
theorem dX10_advance_1 : decode cX10_advance 1 = .ok (.iconst 1, 1) := by decide +kernel
theorem dX10_advance_2 : decode cX10_advance 2 = .ok (.sipush 3000, 3) := by decide +kernel
theorem dX10_advance_5 : decode cX10_advance 5 = .ok (.invokestatic 33, 3) := by decide +kernel
theorem dX10_advance_8 : decode cX10_advance 8 = .ok (.ifCond .ne 6, 3) := by decide +kernel
theorem dX10_advance_11 : decode cX10_advance 11 = .ok (.bipush (-2), 2) := by decide +kernel
theorem dX10_advance_13 : decode cX10_advance 13 = .ok (.ireturn, 1) := by decide +kernel
theorem dX10_advance_14 : decode cX10_advance 14 = .ok (.aload_n 0, 1) := by decide +kernel
theorem dX10_advance_15 : decode cX10_advance 15 = .ok (.getfield 12, 3) := by decide +kernel
theorem dX10_advance_18 : decode cX10_advance 18 = .ok (.getfield 182, 3) := by decide +kernel
theorem dX10_advance_21 : decode cX10_advance 21 = .ok (.iload_n 1, 1) := by decide +kernel
theorem dX10_advance_22 : decode cX10_advance 22 = .ok (.iadd, 1) := by decide +kernel
theorem dX10_advance_23 : decode cX10_advance 23 = .ok (.ldc 105, 2) := by decide +kernel
theorem dX10_advance_25 : decode cX10_advance 25 = .ok (.if_icmp .le 6, 3) := by decide +kernel
theorem dX10_advance_28 : decode cX10_advance 28 = .ok (.bipush (-3), 2) := by decide +kernel
theorem dX10_advance_30 : decode cX10_advance 30 = .ok (.ireturn, 1) := by decide +kernel
theorem dX10_advance_31 : decode cX10_advance 31 = .ok (.aload_n 0, 1) := by decide +kernel
theorem dX10_advance_32 : decode cX10_advance 32 = .ok (.getfield 12, 3) := by decide +kernel
theorem dX10_advance_35 : decode cX10_advance 35 = .ok (.iload_n 1, 1) := by decide +kernel
theorem dX10_advance_36 : decode cX10_advance 36 = .ok (.invokevirtual 214, 3) := by decide +kernel
theorem dX10_advance_39 : decode cX10_advance 39 = .ok (.aload_n 0, 1) := by decide +kernel
theorem dX10_advance_40 : decode cX10_advance 40 = .ok (.getfield 12, 3) := by decide +kernel
theorem dX10_advance_43 : decode cX10_advance 43 = .ok (.getfield 182, 3) := by decide +kernel
theorem dX10_advance_46 : decode cX10_advance 46 = .ok (.ireturn, 1) := by decide +kernel
theorem dX10_setCapacity_0 : decode cX10_setCapacity 0 = .ok (.aload_n 0, 1) := by decide +kernel
theorem dX10_setCapacity_1 : decode cX10_setCapacity 1 = .ok (.getfield 12, 3) := by decide +kernel
theorem dX10_setCapacity_4 : decode cX10_setCapacity 4 = .ok (.iload_n 1, 1) := by decide +kernel
theorem dX10_setCapacity_5 : decode cX10_setCapacity 5 = .ok (.invokevirtual 217, 3) := by decide +kernel
theorem dX10_setCapacity_8 : decode cX10_setCapacity 8 = .ok (.astore_n 3, 1) := by decide +kernel
theorem dX10_setCapacity_9 : decode cX10_setCapacity 9 = .ok (.aload_n 3, 1) := by decide +kernel
theorem dX10_setCapacity_10 : decode cX10_setCapacity 10 = .ok (.ifnull 13, 3) := by decide +kernel
theorem dX10_setCapacity_13 : decode cX10_setCapacity 13 = .ok (.iload_n 2, 1) := by decide +kernel
theorem dX10_setCapacity_14 : decode cX10_setCapacity 14 = .ok (.iconst 0, 1) := by decide +kernel
theorem dX10_setCapacity_15 : decode cX10_setCapacity 15 = .ok (.bipush 40, 2) := by decide +kernel
theorem dX10_setCapacity_17 : decode cX10_setCapacity 17 = .ok (.invokestatic 33, 3) := by decide +kernel
theorem dX10_setCapacity_20 : decode cX10_setCapacity 20 = .ok (.ifCond .ne 6, 3) := by decide +kernel
theorem dX10_setCapacity_23 : decode cX10_setCapacity 23 = .ok (.bipush (-2), 2) := by decide +kernel
theorem dX10_setCapacity_25 : decode cX10_setCapacity 25 = .ok (.ireturn, 1) := by decide +kernel
theorem dX10_setCapacity_26 : decode cX10_setCapacity 26 = .ok (.aload_n 3, 1) := by decide +kernel
theorem dX10_setCapacity_27 : decode cX10_setCapacity 27 = .ok (.getfield 221, 3) := by decide +kernel
theorem dX10_setCapacity_30 : decode cX10_setCapacity 30 = .ok (.iload_n 2, 1) := by decide +kernel
theorem dX10_setCapacity_31 : decode cX10_setCapacity 31 = .ok (.if_icmp .le 6, 3) := by decide +kernel
theorem dX10_setCapacity_34 : decode cX10_setCapacity 34 = .ok (.bipush (-3), 2) := by decide +kernel
theorem dX10_setCapacity_36 : decode cX10_setCapacity 36 = .ok (.ireturn, 1) := by decide +kernel
theorem dX10_setCapacity_37 : decode cX10_setCapacity 37 = .ok (.aload_n 3, 1) := by decide +kernel
theorem dX10_setCapacity_38 : decode cX10_setCapacity 38 = .ok (.getfield 226, 3) := by decide +kernel
theorem dX10_setCapacity_41 : decode cX10_setCapacity 41 = .ok (.istore 4, 2) := by decide +kernel
theorem dX10_setCapacity_43 : decode cX10_setCapacity 43 = .ok (.aload_n 3, 1) := by decide +kernel
theorem dX10_setCapacity_44 : decode cX10_setCapacity 44 = .ok (.iload_n 2, 1) := by decide +kernel
theorem dX10_setCapacity_45 : decode cX10_setCapacity 45 = .ok (.putfield 226, 3) := by decide +kernel
theorem dX10_setCapacity_48 : decode cX10_setCapacity 48 = .ok (.iload 4, 2) := by decide +kernel
theorem dX10_setCapacity_50 : decode cX10_setCapacity 50 = .ok (.ireturn, 1) := by decide +kernel
theorem dX10_level_0 : decode cX10_level 0 = .ok (.aload_n 0, 1) := by decide +kernel
theorem dX10_level_1 : decode cX10_level 1 = .ok (.getfield 12, 3) := by decide +kernel
theorem dX10_level_4 : decode cX10_level 4 = .ok (.iload_n 1, 1) := by decide +kernel
theorem dX10_level_5 : decode cX10_level 5 = .ok (.invokevirtual 217, 3) := by decide +kernel
theorem dX10_level_8 : decode cX10_level 8 = .ok (.astore_n 3, 1) := by decide +kernel
theorem dX10_level_9 : decode cX10_level 9 = .ok (.aload_n 3, 1) := by decide +kernel
theorem dX10_level_10 : decode cX10_level 10 = .ok (.ifnull 12, 3) := by decide +kernel
theorem dX10_level_13 : decode cX10_level 13 = .ok (.iload_n 2, 1) := by decide +kernel
theorem dX10_level_14 : decode cX10_level 14 = .ok (.iconst 0, 1) := by decide +kernel
theorem dX10_level_15 : decode cX10_level 15 = .ok (.iconst 5, 1) := by decide +kernel
theorem dX10_level_16 : decode cX10_level 16 = .ok (.invokestatic 33, 3) := by decide +kernel
theorem dX10_level_19 : decode cX10_level 19 = .ok (.ifCond .ne 6, 3) := by decide +kernel
theorem dX10_level_22 : decode cX10_level 22 = .ok (.bipush (-2), 2) := by decide +kernel
theorem dX10_level_24 : decode cX10_level 24 = .ok (.ireturn, 1) := by decide +kernel
theorem dX10_level_25 : decode cX10_level 25 = .ok (.aload_n 3, 1) := by decide +kernel
theorem dX10_level_26 : decode cX10_level 26 = .ok (.iload_n 2, 1) := by decide +kernel
theorem dX10_level_27 : decode cX10_level 27 = .ok (.invokevirtual 229, 3) := by decide +kernel
theorem dX10_level_30 : decode cX10_level 30 = .ok (.ireturn, 1) := by decide +kernel
theorem dX10_forecast_0 : decode cX10_forecast 0 = .ok (.aload_n 0, 1) := by decide +kernel
theorem dX10_forecast_1 : decode cX10_forecast 1 = .ok (.getfield 12, 3) := by decide +kernel
theorem dX10_forecast_4 : decode cX10_forecast 4 = .ok (.iload_n 1, 1) := by decide +kernel
theorem dX10_forecast_5 : decode cX10_forecast 5 = .ok (.invokevirtual 217, 3) := by decide +kernel
theorem dX10_forecast_8 : decode cX10_forecast 8 = .ok (.astore_n 3, 1) := by decide +kernel
theorem dX10_forecast_9 : decode cX10_forecast 9 = .ok (.aload_n 3, 1) := by decide +kernel
theorem dX10_forecast_10 : decode cX10_forecast 10 = .ok (.ifnull 14, 3) := by decide +kernel
theorem dX10_forecast_13 : decode cX10_forecast 13 = .ok (.iload_n 2, 1) := by decide +kernel
theorem dX10_forecast_14 : decode cX10_forecast 14 = .ok (.iconst 0, 1) := by decide +kernel
theorem dX10_forecast_15 : decode cX10_forecast 15 = .ok (.sipush 600, 3) := by decide +kernel
theorem dX10_forecast_18 : decode cX10_forecast 18 = .ok (.invokestatic 33, 3) := by decide +kernel
theorem dX10_forecast_21 : decode cX10_forecast 21 = .ok (.ifCond .ne 6, 3) := by decide +kernel
theorem dX10_forecast_24 : decode cX10_forecast 24 = .ok (.bipush (-2), 2) := by decide +kernel
theorem dX10_forecast_26 : decode cX10_forecast 26 = .ok (.ireturn, 1) := by decide +kernel
theorem dX10_forecast_27 : decode cX10_forecast 27 = .ok (.aload_n 3, 1) := by decide +kernel
theorem dX10_forecast_28 : decode cX10_forecast 28 = .ok (.iload_n 2, 1) := by decide +kernel
theorem dX10_forecast_29 : decode cX10_forecast 29 = .ok (.invokevirtual 230, 3) := by decide +kernel
theorem dX10_forecast_32 : decode cX10_forecast 32 = .ok (.ireturn, 1) := by decide +kernel
theorem dX10_count_0 : decode cX10_count 0 = .ok (.iload_n 1, 1) := by decide +kernel
theorem dX10_count_1 : decode cX10_count 1 = .ok (.tableswitch 163 0 11 #[63, 71, 79, 87, 95, 103, 112, 121, 130, 139, 147, 155], 63) := by decide +kernel
theorem dX10_count_64 : decode cX10_count 64 = .ok (.aload_n 0, 1) := by decide +kernel
theorem dX10_count_65 : decode cX10_count 65 = .ok (.getfield 12, 3) := by decide +kernel
theorem dX10_count_68 : decode cX10_count 68 = .ok (.getfield 182, 3) := by decide +kernel
theorem dX10_count_71 : decode cX10_count 71 = .ok (.ireturn, 1) := by decide +kernel
theorem dX10_count_72 : decode cX10_count 72 = .ok (.aload_n 0, 1) := by decide +kernel
theorem dX10_count_73 : decode cX10_count 73 = .ok (.getfield 12, 3) := by decide +kernel
theorem dX10_count_76 : decode cX10_count 76 = .ok (.getfield 233, 3) := by decide +kernel
theorem dX10_count_79 : decode cX10_count 79 = .ok (.ireturn, 1) := by decide +kernel
theorem dX10_count_80 : decode cX10_count 80 = .ok (.aload_n 0, 1) := by decide +kernel
theorem dX10_count_81 : decode cX10_count 81 = .ok (.getfield 12, 3) := by decide +kernel
theorem dX10_count_84 : decode cX10_count 84 = .ok (.invokevirtual 236, 3) := by decide +kernel
theorem dX10_count_87 : decode cX10_count 87 = .ok (.ireturn, 1) := by decide +kernel
theorem dX10_count_88 : decode cX10_count 88 = .ok (.aload_n 0, 1) := by decide +kernel
theorem dX10_count_89 : decode cX10_count 89 = .ok (.getfield 12, 3) := by decide +kernel
theorem dX10_count_92 : decode cX10_count 92 = .ok (.invokevirtual 239, 3) := by decide +kernel
theorem dX10_count_95 : decode cX10_count 95 = .ok (.ireturn, 1) := by decide +kernel
theorem dX10_count_96 : decode cX10_count 96 = .ok (.aload_n 0, 1) := by decide +kernel
theorem dX10_count_97 : decode cX10_count 97 = .ok (.getfield 12, 3) := by decide +kernel
theorem dX10_count_100 : decode cX10_count 100 = .ok (.invokevirtual 242, 3) := by decide +kernel
theorem dX10_count_103 : decode cX10_count 103 = .ok (.ireturn, 1) := by decide +kernel
theorem dX10_count_104 : decode cX10_count 104 = .ok (.aload_n 0, 1) := by decide +kernel
theorem dX10_count_105 : decode cX10_count 105 = .ok (.getfield 12, 3) := by decide +kernel
theorem dX10_count_108 : decode cX10_count 108 = .ok (.iconst 0, 1) := by decide +kernel
theorem dX10_count_109 : decode cX10_count 109 = .ok (.invokevirtual 245, 3) := by decide +kernel
theorem dX10_count_112 : decode cX10_count 112 = .ok (.ireturn, 1) := by decide +kernel
theorem dX10_count_113 : decode cX10_count 113 = .ok (.aload_n 0, 1) := by decide +kernel
theorem dX10_count_114 : decode cX10_count 114 = .ok (.getfield 12, 3) := by decide +kernel
theorem dX10_count_117 : decode cX10_count 117 = .ok (.iconst 1, 1) := by decide +kernel
theorem dX10_count_118 : decode cX10_count 118 = .ok (.invokevirtual 245, 3) := by decide +kernel
theorem dX10_count_121 : decode cX10_count 121 = .ok (.ireturn, 1) := by decide +kernel
theorem dX10_count_122 : decode cX10_count 122 = .ok (.aload_n 0, 1) := by decide +kernel
theorem dX10_count_123 : decode cX10_count 123 = .ok (.getfield 12, 3) := by decide +kernel
theorem dX10_count_126 : decode cX10_count 126 = .ok (.iconst 2, 1) := by decide +kernel
theorem dX10_count_127 : decode cX10_count 127 = .ok (.invokevirtual 245, 3) := by decide +kernel
theorem dX10_count_130 : decode cX10_count 130 = .ok (.ireturn, 1) := by decide +kernel
theorem dX10_count_131 : decode cX10_count 131 = .ok (.aload_n 0, 1) := by decide +kernel
theorem dX10_count_132 : decode cX10_count 132 = .ok (.getfield 12, 3) := by decide +kernel
theorem dX10_count_135 : decode cX10_count 135 = .ok (.iconst 3, 1) := by decide +kernel
theorem dX10_count_136 : decode cX10_count 136 = .ok (.invokevirtual 245, 3) := by decide +kernel
theorem dX10_count_139 : decode cX10_count 139 = .ok (.ireturn, 1) := by decide +kernel
theorem dX10_count_140 : decode cX10_count 140 = .ok (.aload_n 0, 1) := by decide +kernel
theorem dX10_count_141 : decode cX10_count 141 = .ok (.getfield 12, 3) := by decide +kernel
theorem dX10_count_144 : decode cX10_count 144 = .ok (.invokevirtual 248, 3) := by decide +kernel
theorem dX10_count_147 : decode cX10_count 147 = .ok (.ireturn, 1) := by decide +kernel
theorem dX10_count_148 : decode cX10_count 148 = .ok (.aload_n 0, 1) := by decide +kernel
theorem dX10_count_149 : decode cX10_count 149 = .ok (.getfield 12, 3) := by decide +kernel
theorem dX10_count_152 : decode cX10_count 152 = .ok (.getfield 251, 3) := by decide +kernel
theorem dX10_count_155 : decode cX10_count 155 = .ok (.ireturn, 1) := by decide +kernel
theorem dX10_count_156 : decode cX10_count 156 = .ok (.aload_n 0, 1) := by decide +kernel
theorem dX10_count_157 : decode cX10_count 157 = .ok (.getfield 22, 3) := by decide +kernel
theorem dX10_count_160 : decode cX10_count 160 = .ok (.getfield 45, 3) := by decide +kernel
theorem dX10_count_163 : decode cX10_count 163 = .ok (.ireturn, 1) := by decide +kernel
theorem dX10_count_164 : decode cX10_count 164 = .ok (.bipush (-2), 2) := by decide +kernel
theorem dX10_count_166 : decode cX10_count 166 = .ok (.ireturn, 1) := by decide +kernel
theorem dX10_reportLevels_0 : decode cX10_reportLevels 0 = .ok (.aload_n 0, 1) := by decide +kernel
theorem dX10_reportLevels_1 : decode cX10_reportLevels 1 = .ok (.getfield 29, 3) := by decide +kernel
theorem dX10_reportLevels_4 : decode cX10_reportLevels 4 = .ok (.getfield 252, 3) := by decide +kernel
theorem dX10_reportLevels_7 : decode cX10_reportLevels 7 = .ok (.ireturn, 1) := by decide +kernel
theorem dX10_reportCode_0 : decode cX10_reportCode 0 = .ok (.aload_n 0, 1) := by decide +kernel
theorem dX10_reportCode_1 : decode cX10_reportCode 1 = .ok (.getfield 29, 3) := by decide +kernel
theorem dX10_reportCode_4 : decode cX10_reportCode 4 = .ok (.iload_n 1, 1) := by decide +kernel
theorem dX10_reportCode_5 : decode cX10_reportCode 5 = .ok (.invokevirtual 255, 3) := by decide +kernel
theorem dX10_reportCode_8 : decode cX10_reportCode 8 = .ok (.ifCond .eq 15, 3) := by decide +kernel
theorem dX10_reportCode_11 : decode cX10_reportCode 11 = .ok (.aload_n 0, 1) := by decide +kernel
theorem dX10_reportCode_12 : decode cX10_reportCode 12 = .ok (.getfield 29, 3) := by decide +kernel
theorem dX10_reportCode_15 : decode cX10_reportCode 15 = .ok (.getfield 258, 3) := by decide +kernel
theorem dX10_reportCode_18 : decode cX10_reportCode 18 = .ok (.iload_n 1, 1) := by decide +kernel
theorem dX10_reportCode_19 : decode cX10_reportCode 19 = .ok (.iaload, 1) := by decide +kernel
theorem dX10_reportCode_20 : decode cX10_reportCode 20 = .ok (.goto 4, 3) := by decide +kernel
theorem dX10_reportCode_23 : decode cX10_reportCode 23 = .ok (.iconst (-1), 1) := by decide +kernel
theorem dX10_reportCode_24 : decode cX10_reportCode 24 = .ok (.ireturn, 1) := by decide +kernel
theorem dX10_reportNumber_0 : decode cX10_reportNumber 0 = .ok (.aload_n 0, 1) := by decide +kernel
theorem dX10_reportNumber_1 : decode cX10_reportNumber 1 = .ok (.getfield 29, 3) := by decide +kernel
theorem dX10_reportNumber_4 : decode cX10_reportNumber 4 = .ok (.iload_n 1, 1) := by decide +kernel
theorem dX10_reportNumber_5 : decode cX10_reportNumber 5 = .ok (.invokevirtual 255, 3) := by decide +kernel
theorem dX10_reportNumber_8 : decode cX10_reportNumber 8 = .ok (.ifCond .eq 15, 3) := by decide +kernel
theorem dX10_reportNumber_11 : decode cX10_reportNumber 11 = .ok (.aload_n 0, 1) := by decide +kernel
theorem dX10_reportNumber_12 : decode cX10_reportNumber 12 = .ok (.getfield 29, 3) := by decide +kernel
theorem dX10_reportNumber_15 : decode cX10_reportNumber 15 = .ok (.getfield 262, 3) := by decide +kernel
theorem dX10_reportNumber_18 : decode cX10_reportNumber 18 = .ok (.iload_n 1, 1) := by decide +kernel
theorem dX10_reportNumber_19 : decode cX10_reportNumber 19 = .ok (.iaload, 1) := by decide +kernel
theorem dX10_reportNumber_20 : decode cX10_reportNumber 20 = .ok (.goto 4, 3) := by decide +kernel
theorem dX10_reportNumber_23 : decode cX10_reportNumber 23 = .ok (.iconst (-1), 1) := by decide +kernel
theorem dX10_reportNumber_24 : decode cX10_reportNumber 24 = .ok (.ireturn, 1) := by decide +kernel
theorem dX10_save_0 : decode cX10_save 0 = .ok (.aload_n 0, 1) := by decide +kernel
theorem dX10_save_1 : decode cX10_save 1 = .ok (.getfield 16, 3) := by decide +kernel
theorem dX10_save_4 : decode cX10_save 4 = .ok (.aload_n 0, 1) := by decide +kernel
theorem dX10_save_5 : decode cX10_save 5 = .ok (.getfield 12, 3) := by decide +kernel
theorem dX10_save_8 : decode cX10_save 8 = .ok (.invokevirtual 265, 3) := by decide +kernel
theorem dX10_save_11 : decode cX10_save 11 = .ok (.aload_n 0, 1) := by decide +kernel
theorem dX10_save_12 : decode cX10_save 12 = .ok (.iconst 1, 1) := by decide +kernel
theorem dX10_save_13 : decode cX10_save 13 = .ok (.putfield 268, 3) := by decide +kernel
theorem dX10_save_16 : decode cX10_save 16 = .ok (.aload_n 0, 1) := by decide +kernel
theorem dX10_save_17 : decode cX10_save 17 = .ok (.getfield 12, 3) := by decide +kernel
theorem dX10_save_20 : decode cX10_save 20 = .ok (.getfield 182, 3) := by decide +kernel
theorem dX10_save_23 : decode cX10_save 23 = .ok (.ireturn, 1) := by decide +kernel
theorem dX10_restore_0 : decode cX10_restore 0 = .ok (.aload_n 0, 1) := by decide +kernel
theorem dX10_restore_1 : decode cX10_restore 1 = .ok (.getfield 268, 3) := by decide +kernel
theorem dX10_restore_4 : decode cX10_restore 4 = .ok (.ifCond .ne 5, 3) := by decide +kernel
theorem dX10_restore_7 : decode cX10_restore 7 = .ok (.iconst (-1), 1) := by decide +kernel
theorem dX10_restore_8 : decode cX10_restore 8 = .ok (.ireturn, 1) := by decide +kernel
theorem dX10_restore_9 : decode cX10_restore 9 = .ok (.aload_n 0, 1) := by decide +kernel
theorem dX10_restore_10 : decode cX10_restore 10 = .ok (.getfield 12, 3) := by decide +kernel
theorem dX10_restore_13 : decode cX10_restore 13 = .ok (.aload_n 0, 1) := by decide +kernel
theorem dX10_restore_14 : decode cX10_restore 14 = .ok (.getfield 16, 3) := by decide +kernel
theorem dX10_restore_17 : decode cX10_restore 17 = .ok (.invokevirtual 265, 3) := by decide +kernel
theorem dX10_restore_20 : decode cX10_restore 20 = .ok (.aload_n 0, 1) := by decide +kernel
theorem dX10_restore_21 : decode cX10_restore 21 = .ok (.getfield 12, 3) := by decide +kernel
theorem dX10_restore_24 : decode cX10_restore 24 = .ok (.getfield 182, 3) := by decide +kernel
theorem dX10_restore_27 : decode cX10_restore 27 = .ok (.ireturn, 1) := by decide +kernel
theorem dX10_isStay_0 : decode cX10_isStay 0 = .ok (.iload_n 0, 1) := by decide +kernel
theorem dX10_isStay_1 : decode cX10_isStay 1 = .ok (.iconst 0, 1) := by decide +kernel
theorem dX10_isStay_2 : decode cX10_isStay 2 = .ok (.ldc 105, 2) := by decide +kernel
theorem dX10_isStay_4 : decode cX10_isStay 4 = .ok (.invokestatic 33, 3) := by decide +kernel
theorem dX10_isStay_7 : decode cX10_isStay 7 = .ok (.ifCond .eq 17, 3) := by decide +kernel
theorem dX10_isStay_10 : decode cX10_isStay 10 = .ok (.iload_n 1, 1) := by decide +kernel
theorem dX10_isStay_11 : decode cX10_isStay 11 = .ok (.iload_n 0, 1) := by decide +kernel
theorem dX10_isStay_12 : decode cX10_isStay 12 = .ok (.ldc 105, 2) := by decide +kernel
theorem dX10_isStay_14 : decode cX10_isStay 14 = .ok (.invokestatic 33, 3) := by decide +kernel
theorem dX10_isStay_17 : decode cX10_isStay 17 = .ok (.ifCond .eq 7, 3) := by decide +kernel
theorem dX10_isStay_20 : decode cX10_isStay 20 = .ok (.iconst 1, 1) := by decide +kernel
theorem dX10_isStay_21 : decode cX10_isStay 21 = .ok (.goto 4, 3) := by decide +kernel
theorem dX10_isStay_24 : decode cX10_isStay 24 = .ok (.iconst 0, 1) := by decide +kernel
theorem dX10_isStay_25 : decode cX10_isStay 25 = .ok (.ireturn, 1) := by decide +kernel
theorem dX10_within_0 : decode cX10_within 0 = .ok (.iload_n 0, 1) := by decide +kernel
theorem dX10_within_1 : decode cX10_within 1 = .ok (.iload_n 1, 1) := by decide +kernel
theorem dX10_within_2 : decode cX10_within 2 = .ok (.if_icmp .lt 12, 3) := by decide +kernel
theorem dX10_within_5 : decode cX10_within 5 = .ok (.iload_n 0, 1) := by decide +kernel
theorem dX10_within_6 : decode cX10_within 6 = .ok (.iload_n 2, 1) := by decide +kernel
theorem dX10_within_7 : decode cX10_within 7 = .ok (.if_icmp .gt 7, 3) := by decide +kernel
theorem dX10_within_10 : decode cX10_within 10 = .ok (.iconst 1, 1) := by decide +kernel
theorem dX10_within_11 : decode cX10_within 11 = .ok (.goto 4, 3) := by decide +kernel
theorem dX10_within_14 : decode cX10_within 14 = .ok (.iconst 0, 1) := by decide +kernel
theorem dX10_within_15 : decode cX10_within 15 = .ok (.ireturn, 1) := by decide +kernel
theorem dX10_bitsOf_0 : decode cX10_bitsOf 0 = .ok (.fload_n 0, 1) := by decide +kernel
theorem dX10_bitsOf_1 : decode cX10_bitsOf 1 = .ok (.fstore_n 1, 1) := by decide +kernel
theorem dX10_bitsOf_2 : decode cX10_bitsOf 2 = .ok (.bipush 127, 2) := by decide +kernel
theorem dX10_bitsOf_4 : decode cX10_bitsOf 4 = .ok (.istore_n 2, 1) := by decide +kernel
theorem dX10_bitsOf_5 : decode cX10_bitsOf 5 = .ok (.fload_n 1, 1) := by decide +kernel
theorem dX10_bitsOf_6 : decode cX10_bitsOf 6 = .ok (.fconst 2, 1) := by decide +kernel
theorem dX10_bitsOf_7 : decode cX10_bitsOf 7 = .ok (.fcmp .l, 1) := by decide +kernel
theorem dX10_bitsOf_8 : decode cX10_bitsOf 8 = .ok (.ifCond .lt 22, 3) := by decide +kernel
theorem dX10_bitsOf_11 : decode cX10_bitsOf 11 = .ok (.iload_n 2, 1) := by decide +kernel
theorem dX10_bitsOf_12 : decode cX10_bitsOf 12 = .ok (.sipush 254, 3) := by decide +kernel
theorem dX10_bitsOf_15 : decode cX10_bitsOf 15 = .ok (.if_icmp .ge 15, 3) := by decide +kernel
theorem dX10_bitsOf_18 : decode cX10_bitsOf 18 = .ok (.fload_n 1, 1) := by decide +kernel
theorem dX10_bitsOf_19 : decode cX10_bitsOf 19 = .ok (.ldc_w 271, 3) := by decide +kernel
theorem dX10_bitsOf_22 : decode cX10_bitsOf 22 = .ok (.fmul, 1) := by decide +kernel
theorem dX10_bitsOf_23 : decode cX10_bitsOf 23 = .ok (.fstore_n 1, 1) := by decide +kernel
theorem dX10_bitsOf_24 : decode cX10_bitsOf 24 = .ok (.iinc 2 1, 3) := by decide +kernel
theorem dX10_bitsOf_27 : decode cX10_bitsOf 27 = .ok (.goto (-22), 3) := by decide +kernel
theorem dX10_bitsOf_30 : decode cX10_bitsOf 30 = .ok (.fload_n 1, 1) := by decide +kernel
theorem dX10_bitsOf_31 : decode cX10_bitsOf 31 = .ok (.fconst 1, 1) := by decide +kernel
theorem dX10_bitsOf_32 : decode cX10_bitsOf 32 = .ok (.fcmp .g, 1) := by decide +kernel
theorem dX10_bitsOf_33 : decode cX10_bitsOf 33 = .ok (.ifCond .ge 18, 3) := by decide +kernel
theorem dX10_bitsOf_36 : decode cX10_bitsOf 36 = .ok (.iload_n 2, 1) := by decide +kernel
theorem dX10_bitsOf_37 : decode cX10_bitsOf 37 = .ok (.iconst 1, 1) := by decide +kernel
theorem dX10_bitsOf_38 : decode cX10_bitsOf 38 = .ok (.if_icmp .le 13, 3) := by decide +kernel
theorem dX10_bitsOf_41 : decode cX10_bitsOf 41 = .ok (.fload_n 1, 1) := by decide +kernel
theorem dX10_bitsOf_42 : decode cX10_bitsOf 42 = .ok (.fconst 2, 1) := by decide +kernel
theorem dX10_bitsOf_43 : decode cX10_bitsOf 43 = .ok (.fmul, 1) := by decide +kernel
theorem dX10_bitsOf_44 : decode cX10_bitsOf 44 = .ok (.fstore_n 1, 1) := by decide +kernel
theorem dX10_bitsOf_45 : decode cX10_bitsOf 45 = .ok (.iinc 2 (-1), 3) := by decide +kernel
theorem dX10_bitsOf_48 : decode cX10_bitsOf 48 = .ok (.goto (-18), 3) := by decide +kernel
theorem dX10_bitsOf_51 : decode cX10_bitsOf 51 = .ok (.iload_n 2, 1) := by decide +kernel
theorem dX10_bitsOf_52 : decode cX10_bitsOf 52 = .ok (.iconst 1, 1) := by decide +kernel
theorem dX10_bitsOf_53 : decode cX10_bitsOf 53 = .ok (.isub, 1) := by decide +kernel
theorem dX10_bitsOf_54 : decode cX10_bitsOf 54 = .ok (.bipush 23, 2) := by decide +kernel
theorem dX10_bitsOf_56 : decode cX10_bitsOf 56 = .ok (.ishl, 1) := by decide +kernel
theorem dX10_bitsOf_57 : decode cX10_bitsOf 57 = .ok (.fload_n 1, 1) := by decide +kernel
theorem dX10_bitsOf_58 : decode cX10_bitsOf 58 = .ok (.ldc_w 272, 3) := by decide +kernel
theorem dX10_bitsOf_61 : decode cX10_bitsOf 61 = .ok (.fmul, 1) := by decide +kernel
theorem dX10_bitsOf_62 : decode cX10_bitsOf 62 = .ok (.f2i, 1) := by decide +kernel
theorem dX10_bitsOf_63 : decode cX10_bitsOf 63 = .ok (.iadd, 1) := by decide +kernel
theorem dX10_bitsOf_64 : decode cX10_bitsOf 64 = .ok (.ireturn, 1) := by decide +kernel
theorem dJxf58ca_isNaN_12338_0 : decode cJxf58ca_isNaN_12338 0 = .ok (.fload_n 0, 1) := by decide +kernel
theorem dJxf58ca_isNaN_12338_1 : decode cJxf58ca_isNaN_12338 1 = .ok (.fload_n 0, 1) := by decide +kernel
theorem dJxf58ca_isNaN_12338_2 : decode cJxf58ca_isNaN_12338 2 = .ok (.fcmp .l, 1) := by decide +kernel
theorem dJxf58ca_isNaN_12338_3 : decode cJxf58ca_isNaN_12338 3 = .ok (.ifCond .eq 7, 3) := by decide +kernel
theorem dJxf58ca_isNaN_12338_6 : decode cJxf58ca_isNaN_12338 6 = .ok (.iconst 1, 1) := by decide +kernel
theorem dJxf58ca_isNaN_12338_7 : decode cJxf58ca_isNaN_12338 7 = .ok (.goto 4, 3) := by decide +kernel
theorem dJxf58ca_isNaN_12338_10 : decode cJxf58ca_isNaN_12338 10 = .ok (.iconst 0, 1) := by decide +kernel
theorem dJxf58ca_isNaN_12338_11 : decode cJxf58ca_isNaN_12338 11 = .ok (.ireturn, 1) := by decide +kernel
theorem dJxf58ca_floatToIntBits_5c35a_0 : decode cJxf58ca_floatToIntBits_5c35a 0 = .ok (.fload_n 0, 1) := by decide +kernel
theorem dJxf58ca_floatToIntBits_5c35a_1 : decode cJxf58ca_floatToIntBits_5c35a 1 = .ok (.invokestatic 59, 3) := by decide +kernel
theorem dJxf58ca_floatToIntBits_5c35a_4 : decode cJxf58ca_floatToIntBits_5c35a 4 = .ok (.ifCond .ne 8, 3) := by decide +kernel
theorem dJxf58ca_floatToIntBits_5c35a_7 : decode cJxf58ca_floatToIntBits_5c35a 7 = .ok (.fload_n 0, 1) := by decide +kernel
theorem dJxf58ca_floatToIntBits_5c35a_8 : decode cJxf58ca_floatToIntBits_5c35a 8 = .ok (.invokestatic 74, 3) := by decide +kernel
theorem dJxf58ca_floatToIntBits_5c35a_11 : decode cJxf58ca_floatToIntBits_5c35a 11 = .ok (.ireturn, 1) := by decide +kernel
theorem dJxf58ca_floatToIntBits_5c35a_12 : decode cJxf58ca_floatToIntBits_5c35a 12 = .ok (.ldc 77, 2) := by decide +kernel
theorem dJxf58ca_floatToIntBits_5c35a_14 : decode cJxf58ca_floatToIntBits_5c35a 14 = .ok (.ireturn, 1) := by decide +kernel
theorem dJ9_max_7cf53_0 : decode cJ9_max_7cf53 0 = .ok (.iload_n 0, 1) := by decide +kernel
theorem dJ9_max_7cf53_1 : decode cJ9_max_7cf53 1 = .ok (.iload_n 1, 1) := by decide +kernel
theorem dJ9_max_7cf53_2 : decode cJ9_max_7cf53 2 = .ok (.if_icmp .lt 7, 3) := by decide +kernel
theorem dJ9_max_7cf53_5 : decode cJ9_max_7cf53 5 = .ok (.iload_n 0, 1) := by decide +kernel
theorem dJ9_max_7cf53_6 : decode cJ9_max_7cf53 6 = .ok (.goto 4, 3) := by decide +kernel
theorem dJ9_max_7cf53_9 : decode cJ9_max_7cf53 9 = .ok (.iload_n 1, 1) := by decide +kernel
theorem dJ9_max_7cf53_10 : decode cJ9_max_7cf53 10 = .ok (.ireturn, 1) := by decide +kernel
theorem dJ9_min_7cf53_0 : decode cJ9_min_7cf53 0 = .ok (.iload_n 0, 1) := by decide +kernel
theorem dJ9_min_7cf53_1 : decode cJ9_min_7cf53 1 = .ok (.iload_n 1, 1) := by decide +kernel
theorem dJ9_min_7cf53_2 : decode cJ9_min_7cf53 2 = .ok (.if_icmp .gt 7, 3) := by decide +kernel
theorem dJ9_min_7cf53_5 : decode cJ9_min_7cf53 5 = .ok (.iload_n 0, 1) := by decide +kernel
theorem dJ9_min_7cf53_6 : decode cJ9_min_7cf53 6 = .ok (.goto 4, 3) := by decide +kernel
theorem dJ9_min_7cf53_9 : decode cJ9_min_7cf53 9 = .ok (.iload_n 1, 1) := by decide +kernel
theorem dJ9_min_7cf53_10 : decode cJ9_min_7cf53 10 = .ok (.ireturn, 1) := by decide +kernel
theorem dJ0_length_8abf5_0 : decode cJ0_length_8abf5 0 = .ok (.aload_n 0, 1) := by decide +kernel
theorem dJ0_length_8abf5_1 : decode cJ0_length_8abf5 1 = .ok (.getfield 9, 3) := by decide +kernel
theorem dJ0_length_8abf5_4 : decode cJ0_length_8abf5 4 = .ok (.arraylength, 1) := by decide +kernel
theorem dJ0_length_8abf5_5 : decode cJ0_length_8abf5 5 = .ok (.aload_n 0, 1) := by decide +kernel
theorem dJ0_length_8abf5_6 : decode cJ0_length_8abf5 6 = .ok (.invokevirtual 335, 3) := by decide +kernel
theorem dJ0_length_8abf5_9 : decode cJ0_length_8abf5 9 = .ok (.ishr, 1) := by decide +kernel
theorem dJ0_length_8abf5_10 : decode cJ0_length_8abf5 10 = .ok (.ireturn, 1) := by decide +kernel
theorem dJ0_charAt_5068e_0 : decode cJ0_charAt_5068e 0 = .ok (.aload_n 0, 1) := by decide +kernel
theorem dJ0_charAt_5068e_1 : decode cJ0_charAt_5068e 1 = .ok (.invokevirtual 492, 3) := by decide +kernel
theorem dJ0_charAt_5068e_4 : decode cJ0_charAt_5068e 4 = .ok (.ifCond .eq 12, 3) := by decide +kernel
theorem dJ0_charAt_5068e_7 : decode cJ0_charAt_5068e 7 = .ok (.aload_n 0, 1) := by decide +kernel
theorem dJ0_charAt_5068e_8 : decode cJ0_charAt_5068e 8 = .ok (.getfield 9, 3) := by decide +kernel
theorem dJ0_charAt_5068e_11 : decode cJ0_charAt_5068e 11 = .ok (.iload_n 1, 1) := by decide +kernel
theorem dJ0_charAt_5068e_12 : decode cJ0_charAt_5068e 12 = .ok (.invokestatic 495, 3) := by decide +kernel
theorem dJ0_charAt_5068e_15 : decode cJ0_charAt_5068e 15 = .ok (.ireturn, 1) := by decide +kernel
theorem dJ0_charAt_5068e_16 : decode cJ0_charAt_5068e 16 = .ok (.aload_n 0, 1) := by decide +kernel
theorem dJ0_charAt_5068e_17 : decode cJ0_charAt_5068e 17 = .ok (.getfield 9, 3) := by decide +kernel
theorem dJ0_charAt_5068e_20 : decode cJ0_charAt_5068e 20 = .ok (.iload_n 1, 1) := by decide +kernel
theorem dJ0_charAt_5068e_21 : decode cJ0_charAt_5068e 21 = .ok (.invokestatic 498, 3) := by decide +kernel
theorem dJ0_charAt_5068e_24 : decode cJ0_charAt_5068e 24 = .ok (.ireturn, 1) := by decide +kernel
theorem dJ0_coder_7d493_0 : decode cJ0_coder_7d493 0 = .ok (.getstatic 38, 3) := by decide +kernel
theorem dJ0_coder_7d493_3 : decode cJ0_coder_7d493 3 = .ok (.ifCond .eq 10, 3) := by decide +kernel
theorem dJ0_coder_7d493_6 : decode cJ0_coder_7d493 6 = .ok (.aload_n 0, 1) := by decide +kernel
theorem dJ0_coder_7d493_7 : decode cJ0_coder_7d493 7 = .ok (.getfield 15, 3) := by decide +kernel
theorem dJ0_coder_7d493_10 : decode cJ0_coder_7d493 10 = .ok (.goto 4, 3) := by decide +kernel
theorem dJ0_coder_7d493_13 : decode cJ0_coder_7d493 13 = .ok (.iconst 1, 1) := by decide +kernel
theorem dJ0_coder_7d493_14 : decode cJ0_coder_7d493 14 = .ok (.ireturn, 1) := by decide +kernel
theorem dJ0_isLatin1_aae02_0 : decode cJ0_isLatin1_aae02 0 = .ok (.getstatic 38, 3) := by decide +kernel
theorem dJ0_isLatin1_aae02_3 : decode cJ0_isLatin1_aae02 3 = .ok (.ifCond .eq 14, 3) := by decide +kernel
theorem dJ0_isLatin1_aae02_6 : decode cJ0_isLatin1_aae02 6 = .ok (.aload_n 0, 1) := by decide +kernel
theorem dJ0_isLatin1_aae02_7 : decode cJ0_isLatin1_aae02 7 = .ok (.getfield 15, 3) := by decide +kernel
theorem dJ0_isLatin1_aae02_10 : decode cJ0_isLatin1_aae02 10 = .ok (.ifCond .ne 7, 3) := by decide +kernel
theorem dJ0_isLatin1_aae02_13 : decode cJ0_isLatin1_aae02 13 = .ok (.iconst 1, 1) := by decide +kernel
theorem dJ0_isLatin1_aae02_14 : decode cJ0_isLatin1_aae02 14 = .ok (.goto 4, 3) := by decide +kernel
theorem dJ0_isLatin1_aae02_17 : decode cJ0_isLatin1_aae02 17 = .ok (.iconst 0, 1) := by decide +kernel
theorem dJ0_isLatin1_aae02_18 : decode cJ0_isLatin1_aae02 18 = .ok (.ireturn, 1) := by decide +kernel
theorem dJ0_checkIndex_df160_0 : decode cJ0_checkIndex_df160 0 = .ok (.iload_n 0, 1) := by decide +kernel
theorem dJ0_checkIndex_df160_1 : decode cJ0_checkIndex_df160 1 = .ok (.iload_n 1, 1) := by decide +kernel
theorem dJ0_checkIndex_df160_2 : decode cJ0_checkIndex_df160 2 = .ok (.getstatic 1053, 3) := by decide +kernel
theorem dJ0_checkIndex_df160_5 : decode cJ0_checkIndex_df160 5 = .ok (.invokestatic 1059, 3) := by decide +kernel
theorem dJ0_checkIndex_df160_8 : decode cJ0_checkIndex_df160 8 = .ok (.pop, 1) := by decide +kernel
theorem dJ0_checkIndex_df160_9 : decode cJ0_checkIndex_df160 9 = .ok (.return_, 1) := by decide +kernel
theorem dJ1_charAt_3b067_0 : decode cJ1_charAt_3b067 0 = .ok (.iload_n 1, 1) := by decide +kernel
theorem dJ1_charAt_3b067_1 : decode cJ1_charAt_3b067 1 = .ok (.aload_n 0, 1) := by decide +kernel
theorem dJ1_charAt_3b067_2 : decode cJ1_charAt_3b067 2 = .ok (.arraylength, 1) := by decide +kernel
theorem dJ1_charAt_3b067_3 : decode cJ1_charAt_3b067 3 = .ok (.invokestatic 9, 3) := by decide +kernel
theorem dJ1_charAt_3b067_6 : decode cJ1_charAt_3b067 6 = .ok (.aload_n 0, 1) := by decide +kernel
theorem dJ1_charAt_3b067_7 : decode cJ1_charAt_3b067 7 = .ok (.iload_n 1, 1) := by decide +kernel
theorem dJ1_charAt_3b067_8 : decode cJ1_charAt_3b067 8 = .ok (.baload, 1) := by decide +kernel
theorem dJ1_charAt_3b067_9 : decode cJ1_charAt_3b067 9 = .ok (.sipush 255, 3) := by decide +kernel
theorem dJ1_charAt_3b067_12 : decode cJ1_charAt_3b067 12 = .ok (.iand, 1) := by decide +kernel
theorem dJ1_charAt_3b067_13 : decode cJ1_charAt_3b067 13 = .ok (.i2c, 1) := by decide +kernel
theorem dJ1_charAt_3b067_14 : decode cJ1_charAt_3b067 14 = .ok (.ireturn, 1) := by decide +kernel
theorem dJ2_getChar_3b067_0 : decode cJ2_getChar_3b067 0 = .ok (.getstatic 44, 3) := by decide +kernel
theorem dJ2_getChar_3b067_3 : decode cJ2_getChar_3b067 3 = .ok (.ifCond .ne 25, 3) := by decide +kernel
theorem dJ2_getChar_3b067_6 : decode cJ2_getChar_3b067 6 = .ok (.iload_n 1, 1) := by decide +kernel
theorem dJ2_getChar_3b067_7 : decode cJ2_getChar_3b067 7 = .ok (.ifCond .lt 11, 3) := by decide +kernel
theorem dJ2_getChar_3b067_10 : decode cJ2_getChar_3b067 10 = .ok (.iload_n 1, 1) := by decide +kernel
theorem dJ2_getChar_3b067_11 : decode cJ2_getChar_3b067 11 = .ok (.aload_n 0, 1) := by decide +kernel
theorem dJ2_getChar_3b067_12 : decode cJ2_getChar_3b067 12 = .ok (.invokestatic 48, 3) := by decide +kernel
theorem dJ2_getChar_3b067_15 : decode cJ2_getChar_3b067 15 = .ok (.if_icmp .lt 13, 3) := by decide +kernel
theorem dJ2_getChar_3b067_18 : decode cJ2_getChar_3b067 18 = .ok (.new 52, 3) := by decide +kernel
theorem dJ2_getChar_3b067_21 : decode cJ2_getChar_3b067 21 = .ok (.dup, 1) := by decide +kernel
theorem dJ2_getChar_3b067_22 : decode cJ2_getChar_3b067 22 = .ok (.ldc 54, 2) := by decide +kernel
theorem dJ2_getChar_3b067_24 : decode cJ2_getChar_3b067 24 = .ok (.invokespecial 56, 3) := by decide +kernel
theorem dJ2_getChar_3b067_27 : decode cJ2_getChar_3b067 27 = .ok (.athrow, 1) := by decide +kernel
theorem dJ2_getChar_3b067_28 : decode cJ2_getChar_3b067 28 = .ok (.iload_n 1, 1) := by decide +kernel
theorem dJ2_getChar_3b067_29 : decode cJ2_getChar_3b067 29 = .ok (.iconst 1, 1) := by decide +kernel
theorem dJ2_getChar_3b067_30 : decode cJ2_getChar_3b067 30 = .ok (.ishl, 1) := by decide +kernel
theorem dJ2_getChar_3b067_31 : decode cJ2_getChar_3b067 31 = .ok (.istore_n 1, 1) := by decide +kernel
theorem dJ2_getChar_3b067_32 : decode cJ2_getChar_3b067 32 = .ok (.aload_n 0, 1) := by decide +kernel
theorem dJ2_getChar_3b067_33 : decode cJ2_getChar_3b067 33 = .ok (.iload_n 1, 1) := by decide +kernel
theorem dJ2_getChar_3b067_34 : decode cJ2_getChar_3b067 34 = .ok (.iinc 1 1, 3) := by decide +kernel
theorem dJ2_getChar_3b067_37 : decode cJ2_getChar_3b067 37 = .ok (.baload, 1) := by decide +kernel
theorem dJ2_getChar_3b067_38 : decode cJ2_getChar_3b067 38 = .ok (.sipush 255, 3) := by decide +kernel
theorem dJ2_getChar_3b067_41 : decode cJ2_getChar_3b067 41 = .ok (.iand, 1) := by decide +kernel
theorem dJ2_getChar_3b067_42 : decode cJ2_getChar_3b067 42 = .ok (.getstatic 59, 3) := by decide +kernel
theorem dJ2_getChar_3b067_45 : decode cJ2_getChar_3b067 45 = .ok (.ishl, 1) := by decide +kernel
theorem dJ2_getChar_3b067_46 : decode cJ2_getChar_3b067 46 = .ok (.aload_n 0, 1) := by decide +kernel
theorem dJ2_getChar_3b067_47 : decode cJ2_getChar_3b067 47 = .ok (.iload_n 1, 1) := by decide +kernel
theorem dJ2_getChar_3b067_48 : decode cJ2_getChar_3b067 48 = .ok (.baload, 1) := by decide +kernel
theorem dJ2_getChar_3b067_49 : decode cJ2_getChar_3b067 49 = .ok (.sipush 255, 3) := by decide +kernel
theorem dJ2_getChar_3b067_52 : decode cJ2_getChar_3b067 52 = .ok (.iand, 1) := by decide +kernel
theorem dJ2_getChar_3b067_53 : decode cJ2_getChar_3b067 53 = .ok (.getstatic 63, 3) := by decide +kernel
theorem dJ2_getChar_3b067_56 : decode cJ2_getChar_3b067 56 = .ok (.ishl, 1) := by decide +kernel
theorem dJ2_getChar_3b067_57 : decode cJ2_getChar_3b067 57 = .ok (.ior, 1) := by decide +kernel
theorem dJ2_getChar_3b067_58 : decode cJ2_getChar_3b067 58 = .ok (.i2c, 1) := by decide +kernel
theorem dJ2_getChar_3b067_59 : decode cJ2_getChar_3b067 59 = .ok (.ireturn, 1) := by decide +kernel
theorem dJ2_length_9d52b_0 : decode cJ2_length_9d52b 0 = .ok (.aload_n 0, 1) := by decide +kernel
theorem dJ2_length_9d52b_1 : decode cJ2_length_9d52b 1 = .ok (.arraylength, 1) := by decide +kernel
theorem dJ2_length_9d52b_2 : decode cJ2_length_9d52b 2 = .ok (.iconst 1, 1) := by decide +kernel
theorem dJ2_length_9d52b_3 : decode cJ2_length_9d52b 3 = .ok (.ishr, 1) := by decide +kernel
theorem dJ2_length_9d52b_4 : decode cJ2_length_9d52b 4 = .ok (.ireturn, 1) := by decide +kernel
theorem dJ2_charAt_3b067_0 : decode cJ2_charAt_3b067 0 = .ok (.iload_n 1, 1) := by decide +kernel
theorem dJ2_charAt_3b067_1 : decode cJ2_charAt_3b067 1 = .ok (.aload_n 0, 1) := by decide +kernel
theorem dJ2_charAt_3b067_2 : decode cJ2_charAt_3b067 2 = .ok (.invokestatic 67, 3) := by decide +kernel
theorem dJ2_charAt_3b067_5 : decode cJ2_charAt_3b067 5 = .ok (.aload_n 0, 1) := by decide +kernel
theorem dJ2_charAt_3b067_6 : decode cJ2_charAt_3b067 6 = .ok (.iload_n 1, 1) := by decide +kernel
theorem dJ2_charAt_3b067_7 : decode cJ2_charAt_3b067 7 = .ok (.invokestatic 71, 3) := by decide +kernel
theorem dJ2_charAt_3b067_10 : decode cJ2_charAt_3b067 10 = .ok (.ireturn, 1) := by decide +kernel
theorem dJ2_checkIndex_2214a_0 : decode cJ2_checkIndex_2214a 0 = .ok (.iload_n 0, 1) := by decide +kernel
theorem dJ2_checkIndex_2214a_1 : decode cJ2_checkIndex_2214a 1 = .ok (.aload_n 1, 1) := by decide +kernel
theorem dJ2_checkIndex_2214a_2 : decode cJ2_checkIndex_2214a 2 = .ok (.invokestatic 48, 3) := by decide +kernel
theorem dJ2_checkIndex_2214a_5 : decode cJ2_checkIndex_2214a 5 = .ok (.invokestatic 414, 3) := by decide +kernel
theorem dJ2_checkIndex_2214a_8 : decode cJ2_checkIndex_2214a 8 = .ok (.return_, 1) := by decide +kernel
theorem dJ3_checkIndex_8e157_0 : decode cJ3_checkIndex_8e157 0 = .ok (.iload_n 0, 1) := by decide +kernel
theorem dJ3_checkIndex_8e157_1 : decode cJ3_checkIndex_8e157 1 = .ok (.ifCond .lt 8, 3) := by decide +kernel
theorem dJ3_checkIndex_8e157_4 : decode cJ3_checkIndex_8e157 4 = .ok (.iload_n 0, 1) := by decide +kernel
theorem dJ3_checkIndex_8e157_5 : decode cJ3_checkIndex_8e157 5 = .ok (.iload_n 1, 1) := by decide +kernel
theorem dJ3_checkIndex_8e157_6 : decode cJ3_checkIndex_8e157 6 = .ok (.if_icmp .lt 10, 3) := by decide +kernel
theorem dJ3_checkIndex_8e157_9 : decode cJ3_checkIndex_8e157 9 = .ok (.aload_n 2, 1) := by decide +kernel
theorem dJ3_checkIndex_8e157_10 : decode cJ3_checkIndex_8e157 10 = .ok (.iload_n 0, 1) := by decide +kernel
theorem dJ3_checkIndex_8e157_11 : decode cJ3_checkIndex_8e157 11 = .ok (.iload_n 1, 1) := by decide +kernel
theorem dJ3_checkIndex_8e157_12 : decode cJ3_checkIndex_8e157 12 = .ok (.invokestatic 95, 3) := by decide +kernel
theorem dJ3_checkIndex_8e157_15 : decode cJ3_checkIndex_8e157 15 = .ok (.athrow, 1) := by decide +kernel
theorem dJ3_checkIndex_8e157_16 : decode cJ3_checkIndex_8e157 16 = .ok (.iload_n 0, 1) := by decide +kernel
theorem dJ3_checkIndex_8e157_17 : decode cJ3_checkIndex_8e157 17 = .ok (.ireturn, 1) := by decide +kernel
end
section
theorem dX11_init_0 : decode cX11_init 0 = .ok (.aload_n 0, 1) := by decide +kernel
theorem dX11_init_1 : decode cX11_init 1 = .ok (.invokespecial 1, 3) := by decide +kernel
theorem dX11_init_4 : decode cX11_init 4 = .ok (.aload_n 0, 1) := by decide +kernel
theorem dX11_init_5 : decode cX11_init 5 = .ok (.sipush 6889, 3) := by decide +kernel
theorem dX11_init_8 : decode cX11_init 8 = .ok (.newarray .int, 2) := by decide +kernel
theorem dX11_init_10 : decode cX11_init 10 = .ok (.putfield 7, 3) := by decide +kernel
theorem dX11_init_13 : decode cX11_init 13 = .ok (.aload_n 0, 1) := by decide +kernel
theorem dX11_init_14 : decode cX11_init 14 = .ok (.sipush 6889, 3) := by decide +kernel
theorem dX11_init_17 : decode cX11_init 17 = .ok (.newarray .int, 2) := by decide +kernel
theorem dX11_init_19 : decode cX11_init 19 = .ok (.putfield 13, 3) := by decide +kernel
theorem dX11_init_22 : decode cX11_init 22 = .ok (.aload_n 0, 1) := by decide +kernel
theorem dX11_init_23 : decode cX11_init 23 = .ok (.iconst 4, 1) := by decide +kernel
theorem dX11_init_24 : decode cX11_init 24 = .ok (.newarray .float, 2) := by decide +kernel
theorem dX11_init_26 : decode cX11_init 26 = .ok (.putfield 16, 3) := by decide +kernel
theorem dX11_init_29 : decode cX11_init 29 = .ok (.aload_n 0, 1) := by decide +kernel
theorem dX11_init_30 : decode cX11_init 30 = .ok (.iconst 4, 1) := by decide +kernel
theorem dX11_init_31 : decode cX11_init 31 = .ok (.newarray .float, 2) := by decide +kernel
theorem dX11_init_33 : decode cX11_init 33 = .ok (.putfield 20, 3) := by decide +kernel
theorem dX11_init_36 : decode cX11_init 36 = .ok (.aload_n 0, 1) := by decide +kernel
theorem dX11_init_37 : decode cX11_init 37 = .ok (.bipush 90, 2) := by decide +kernel
theorem dX11_init_39 : decode cX11_init 39 = .ok (.newarray .int, 2) := by decide +kernel
theorem dX11_init_41 : decode cX11_init 41 = .ok (.putfield 23, 3) := by decide +kernel
theorem dX11_init_44 : decode cX11_init 44 = .ok (.aload_n 0, 1) := by decide +kernel
theorem dX11_init_45 : decode cX11_init 45 = .ok (.bipush 6, 2) := by decide +kernel
theorem dX11_init_47 : decode cX11_init 47 = .ok (.newarray .int, 2) := by decide +kernel
theorem dX11_init_49 : decode cX11_init 49 = .ok (.putfield 26, 3) := by decide +kernel
theorem dX11_init_52 : decode cX11_init 52 = .ok (.aload_n 0, 1) := by decide +kernel
theorem dX11_init_53 : decode cX11_init 53 = .ok (.bipush 23, 2) := by decide +kernel
theorem dX11_init_55 : decode cX11_init 55 = .ok (.newarray .int, 2) := by decide +kernel
theorem dX11_init_57 : decode cX11_init 57 = .ok (.putfield 29, 3) := by decide +kernel
theorem dX11_init_60 : decode cX11_init 60 = .ok (.aload_n 0, 1) := by decide +kernel
theorem dX11_init_61 : decode cX11_init 61 = .ok (.iconst 3, 1) := by decide +kernel
theorem dX11_init_62 : decode cX11_init 62 = .ok (.newarray .int, 2) := by decide +kernel
theorem dX11_init_64 : decode cX11_init 64 = .ok (.putfield 32, 3) := by decide +kernel
theorem dX11_init_67 : decode cX11_init 67 = .ok (.iconst 0, 1) := by decide +kernel
theorem dX11_init_68 : decode cX11_init 68 = .ok (.istore_n 1, 1) := by decide +kernel
theorem dX11_init_69 : decode cX11_init 69 = .ok (.iload_n 1, 1) := by decide +kernel
theorem dX11_init_70 : decode cX11_init 70 = .ok (.iconst 4, 1) := by decide +kernel
theorem dX11_init_71 : decode cX11_init 71 = .ok (.if_icmp .ge 20, 3) := by decide +kernel
theorem dX11_init_74 : decode cX11_init 74 = .ok (.aload_n 0, 1) := by decide +kernel
theorem dX11_init_75 : decode cX11_init 75 = .ok (.bipush 10, 2) := by decide +kernel
theorem dX11_init_77 : decode cX11_init 77 = .ok (.bipush 23, 2) := by decide +kernel
theorem dX11_init_79 : decode cX11_init 79 = .ok (.iload_n 1, 1) := by decide +kernel
theorem dX11_init_80 : decode cX11_init 80 = .ok (.imul, 1) := by decide +kernel
theorem dX11_init_81 : decode cX11_init 81 = .ok (.iadd, 1) := by decide +kernel
theorem dX11_init_82 : decode cX11_init 82 = .ok (.invokevirtual 35, 3) := by decide +kernel
theorem dX11_init_85 : decode cX11_init 85 = .ok (.iinc 1 1, 3) := by decide +kernel
theorem dX11_init_88 : decode cX11_init 88 = .ok (.goto (-19), 3) := by decide +kernel
theorem dX11_init_91 : decode cX11_init 91 = .ok (.iconst 0, 1) := by decide +kernel
theorem dX11_init_92 : decode cX11_init 92 = .ok (.istore_n 1, 1) := by decide +kernel
theorem dX11_init_93 : decode cX11_init 93 = .ok (.iload_n 1, 1) := by decide +kernel
theorem dX11_init_94 : decode cX11_init 94 = .ok (.iconst 4, 1) := by decide +kernel
theorem dX11_init_95 : decode cX11_init 95 = .ok (.if_icmp .ge 23, 3) := by decide +kernel
theorem dX11_init_98 : decode cX11_init 98 = .ok (.aload_n 0, 1) := by decide +kernel
theorem dX11_init_99 : decode cX11_init 99 = .ok (.getfield 7, 3) := by decide +kernel
theorem dX11_init_102 : decode cX11_init 102 = .ok (.sipush 153, 3) := by decide +kernel
theorem dX11_init_105 : decode cX11_init 105 = .ok (.iconst 4, 1) := by decide +kernel
theorem dX11_init_106 : decode cX11_init 106 = .ok (.iload_n 1, 1) := by decide +kernel
theorem dX11_init_107 : decode cX11_init 107 = .ok (.imul, 1) := by decide +kernel
theorem dX11_init_108 : decode cX11_init 108 = .ok (.iadd, 1) := by decide +kernel
theorem dX11_init_109 : decode cX11_init 109 = .ok (.bipush 10, 2) := by decide +kernel
theorem dX11_init_111 : decode cX11_init 111 = .ok (.iastore, 1) := by decide +kernel
theorem dX11_init_112 : decode cX11_init 112 = .ok (.iinc 1 1, 3) := by decide +kernel
theorem dX11_init_115 : decode cX11_init 115 = .ok (.goto (-22), 3) := by decide +kernel
theorem dX11_init_118 : decode cX11_init 118 = .ok (.return_, 1) := by decide +kernel
theorem dX11_in_0 : decode cX11_in 0 = .ok (.iload_n 0, 1) := by decide +kernel
theorem dX11_in_1 : decode cX11_in 1 = .ok (.iload_n 1, 1) := by decide +kernel
theorem dX11_in_2 : decode cX11_in 2 = .ok (.if_icmp .lt 12, 3) := by decide +kernel
theorem dX11_in_5 : decode cX11_in 5 = .ok (.iload_n 0, 1) := by decide +kernel
theorem dX11_in_6 : decode cX11_in 6 = .ok (.iload_n 2, 1) := by decide +kernel
theorem dX11_in_7 : decode cX11_in 7 = .ok (.if_icmp .gt 7, 3) := by decide +kernel
theorem dX11_in_10 : decode cX11_in 10 = .ok (.iconst 1, 1) := by decide +kernel
theorem dX11_in_11 : decode cX11_in 11 = .ok (.goto 4, 3) := by decide +kernel
theorem dX11_in_14 : decode cX11_in 14 = .ok (.iconst 0, 1) := by decide +kernel
theorem dX11_in_15 : decode cX11_in 15 = .ok (.ireturn, 1) := by decide +kernel
theorem dX11_isPlan_0 : decode cX11_isPlan 0 = .ok (.iload_n 0, 1) := by decide +kernel
theorem dX11_isPlan_1 : decode cX11_isPlan 1 = .ok (.iconst 0, 1) := by decide +kernel
theorem dX11_isPlan_2 : decode cX11_isPlan 2 = .ok (.iconst 3, 1) := by decide +kernel
theorem dX11_isPlan_3 : decode cX11_isPlan 3 = .ok (.invokestatic 39, 3) := by decide +kernel
theorem dX11_isPlan_6 : decode cX11_isPlan 6 = .ok (.ireturn, 1) := by decide +kernel
theorem dX11_isMinute_0 : decode cX11_isMinute 0 = .ok (.iload_n 0, 1) := by decide +kernel
theorem dX11_isMinute_1 : decode cX11_isMinute 1 = .ok (.iconst 0, 1) := by decide +kernel
theorem dX11_isMinute_2 : decode cX11_isMinute 2 = .ok (.ldc 43, 2) := by decide +kernel
theorem dX11_isMinute_4 : decode cX11_isMinute 4 = .ok (.invokestatic 39, 3) := by decide +kernel
theorem dX11_isMinute_7 : decode cX11_isMinute 7 = .ok (.ireturn, 1) := by decide +kernel
theorem dX11_clears_0 : decode cX11_clears 0 = .ok (.iconst 0, 1) := by decide +kernel
theorem dX11_clears_1 : decode cX11_clears 1 = .ok (.istore_n 2, 1) := by decide +kernel
theorem dX11_clears_2 : decode cX11_clears 2 = .ok (.iload_n 2, 1) := by decide +kernel
theorem dX11_clears_3 : decode cX11_clears 3 = .ok (.bipush 23, 2) := by decide +kernel
theorem dX11_clears_5 : decode cX11_clears 5 = .ok (.if_icmp .ge 18, 3) := by decide +kernel
theorem dX11_clears_8 : decode cX11_clears 8 = .ok (.aload_n 0, 1) := by decide +kernel
theorem dX11_clears_9 : decode cX11_clears 9 = .ok (.getfield 7, 3) := by decide +kernel
theorem dX11_clears_12 : decode cX11_clears 12 = .ok (.iload_n 1, 1) := by decide +kernel
theorem dX11_clears_13 : decode cX11_clears 13 = .ok (.iload_n 2, 1) := by decide +kernel
theorem dX11_clears_14 : decode cX11_clears 14 = .ok (.iadd, 1) := by decide +kernel
theorem dX11_clears_15 : decode cX11_clears 15 = .ok (.iconst 0, 1) := by decide +kernel
theorem dX11_clears_16 : decode cX11_clears 16 = .ok (.iastore, 1) := by decide +kernel
theorem dX11_clears_17 : decode cX11_clears 17 = .ok (.iinc 2 1, 3) := by decide +kernel
theorem dX11_clears_20 : decode cX11_clears 20 = .ok (.goto (-18), 3) := by decide +kernel
theorem dX11_clears_23 : decode cX11_clears 23 = .ok (.aload_n 0, 1) := by decide +kernel
theorem dX11_clears_24 : decode cX11_clears 24 = .ok (.getfield 7, 3) := by decide +kernel
theorem dX11_clears_27 : decode cX11_clears 27 = .ok (.iload_n 1, 1) := by decide +kernel
theorem dX11_clears_28 : decode cX11_clears 28 = .ok (.iconst 3, 1) := by decide +kernel
theorem dX11_clears_29 : decode cX11_clears 29 = .ok (.iadd, 1) := by decide +kernel
theorem dX11_clears_30 : decode cX11_clears 30 = .ok (.sipush 2000, 3) := by decide +kernel
theorem dX11_clears_33 : decode cX11_clears 33 = .ok (.iastore, 1) := by decide +kernel
theorem dX11_clears_34 : decode cX11_clears 34 = .ok (.aload_n 0, 1) := by decide +kernel
theorem dX11_clears_35 : decode cX11_clears 35 = .ok (.getfield 7, 3) := by decide +kernel
theorem dX11_clears_38 : decode cX11_clears 38 = .ok (.iload_n 1, 1) := by decide +kernel
theorem dX11_clears_39 : decode cX11_clears 39 = .ok (.iconst 4, 1) := by decide +kernel
theorem dX11_clears_40 : decode cX11_clears 40 = .ok (.iadd, 1) := by decide +kernel
theorem dX11_clears_41 : decode cX11_clears 41 = .ok (.iconst 1, 1) := by decide +kernel
theorem dX11_clears_42 : decode cX11_clears 42 = .ok (.iastore, 1) := by decide +kernel
theorem dX11_clears_43 : decode cX11_clears 43 = .ok (.aload_n 0, 1) := by decide +kernel
theorem dX11_clears_44 : decode cX11_clears 44 = .ok (.getfield 7, 3) := by decide +kernel
theorem dX11_clears_47 : decode cX11_clears 47 = .ok (.iload_n 1, 1) := by decide +kernel
theorem dX11_clears_48 : decode cX11_clears 48 = .ok (.iconst 5, 1) := by decide +kernel
theorem dX11_clears_49 : decode cX11_clears 49 = .ok (.iadd, 1) := by decide +kernel
theorem dX11_clears_50 : decode cX11_clears 50 = .ok (.iconst 1, 1) := by decide +kernel
theorem dX11_clears_51 : decode cX11_clears 51 = .ok (.iadd, 1) := by decide +kernel
theorem dX11_clears_52 : decode cX11_clears 52 = .ok (.bipush 100, 2) := by decide +kernel
theorem dX11_clears_54 : decode cX11_clears 54 = .ok (.iastore, 1) := by decide +kernel
theorem dX11_clears_55 : decode cX11_clears 55 = .ok (.aload_n 0, 1) := by decide +kernel
theorem dX11_clears_56 : decode cX11_clears 56 = .ok (.getfield 7, 3) := by decide +kernel
theorem dX11_clears_59 : decode cX11_clears 59 = .ok (.iload_n 1, 1) := by decide +kernel
theorem dX11_clears_60 : decode cX11_clears 60 = .ok (.iconst 5, 1) := by decide +kernel
theorem dX11_clears_61 : decode cX11_clears 61 = .ok (.iadd, 1) := by decide +kernel
theorem dX11_clears_62 : decode cX11_clears 62 = .ok (.iconst 2, 1) := by decide +kernel
theorem dX11_clears_63 : decode cX11_clears 63 = .ok (.iadd, 1) := by decide +kernel
theorem dX11_clears_64 : decode cX11_clears 64 = .ok (.bipush 60, 2) := by decide +kernel
theorem dX11_clears_66 : decode cX11_clears 66 = .ok (.iastore, 1) := by decide +kernel
theorem dX11_clears_67 : decode cX11_clears 67 = .ok (.return_, 1) := by decide +kernel
theorem dX11_of_0 : decode cX11_of 0 = .ok (.aload_n 0, 1) := by decide +kernel
theorem dX11_of_1 : decode cX11_of 1 = .ok (.getfield 7, 3) := by decide +kernel
theorem dX11_of_4 : decode cX11_of 4 = .ok (.bipush 10, 2) := by decide +kernel
theorem dX11_of_6 : decode cX11_of 6 = .ok (.bipush 23, 2) := by decide +kernel
theorem dX11_of_8 : decode cX11_of 8 = .ok (.iload_n 1, 1) := by decide +kernel
theorem dX11_of_9 : decode cX11_of 9 = .ok (.imul, 1) := by decide +kernel
theorem dX11_of_10 : decode cX11_of 10 = .ok (.iadd, 1) := by decide +kernel
theorem dX11_of_11 : decode cX11_of 11 = .ok (.iload_n 2, 1) := by decide +kernel
theorem dX11_of_12 : decode cX11_of 12 = .ok (.iadd, 1) := by decide +kernel
theorem dX11_of_13 : decode cX11_of 13 = .ok (.iaload, 1) := by decide +kernel
theorem dX11_of_14 : decode cX11_of 14 = .ok (.ireturn, 1) := by decide +kernel
theorem dX11_bandPart_0 : decode cX11_bandPart 0 = .ok (.aload_n 0, 1) := by decide +kernel
theorem dX11_bandPart_1 : decode cX11_bandPart 1 = .ok (.iload_n 1, 1) := by decide +kernel
theorem dX11_bandPart_2 : decode cX11_bandPart 2 = .ok (.iconst 5, 1) := by decide +kernel
theorem dX11_bandPart_3 : decode cX11_bandPart 3 = .ok (.iconst 3, 1) := by decide +kernel
theorem dX11_bandPart_4 : decode cX11_bandPart 4 = .ok (.iload_n 2, 1) := by decide +kernel
theorem dX11_bandPart_5 : decode cX11_bandPart 5 = .ok (.imul, 1) := by decide +kernel
theorem dX11_bandPart_6 : decode cX11_bandPart 6 = .ok (.iadd, 1) := by decide +kernel
theorem dX11_bandPart_7 : decode cX11_bandPart 7 = .ok (.iload_n 3, 1) := by decide +kernel
theorem dX11_bandPart_8 : decode cX11_bandPart 8 = .ok (.iadd, 1) := by decide +kernel
theorem dX11_bandPart_9 : decode cX11_bandPart 9 = .ok (.invokevirtual 44, 3) := by decide +kernel
theorem dX11_bandPart_12 : decode cX11_bandPart 12 = .ok (.ireturn, 1) := by decide +kernel
theorem dX11_bandAt_0 : decode cX11_bandAt 0 = .ok (.aload_n 0, 1) := by decide +kernel
theorem dX11_bandAt_1 : decode cX11_bandAt 1 = .ok (.iload_n 1, 1) := by decide +kernel
theorem dX11_bandAt_2 : decode cX11_bandAt 2 = .ok (.iconst 4, 1) := by decide +kernel
theorem dX11_bandAt_3 : decode cX11_bandAt 3 = .ok (.invokevirtual 44, 3) := by decide +kernel
theorem dX11_bandAt_6 : decode cX11_bandAt 6 = .ok (.iconst 1, 1) := by decide +kernel
theorem dX11_bandAt_7 : decode cX11_bandAt 7 = .ok (.isub, 1) := by decide +kernel
theorem dX11_bandAt_8 : decode cX11_bandAt 8 = .ok (.istore_n 3, 1) := by decide +kernel
theorem dX11_bandAt_9 : decode cX11_bandAt 9 = .ok (.aload_n 0, 1) := by decide +kernel
theorem dX11_bandAt_10 : decode cX11_bandAt 10 = .ok (.iload_n 1, 1) := by decide +kernel
theorem dX11_bandAt_11 : decode cX11_bandAt 11 = .ok (.iload_n 3, 1) := by decide +kernel
theorem dX11_bandAt_12 : decode cX11_bandAt 12 = .ok (.iconst 0, 1) := by decide +kernel
theorem dX11_bandAt_13 : decode cX11_bandAt 13 = .ok (.invokevirtual 48, 3) := by decide +kernel
theorem dX11_bandAt_16 : decode cX11_bandAt 16 = .ok (.iload_n 2, 1) := by decide +kernel
theorem dX11_bandAt_17 : decode cX11_bandAt 17 = .ok (.sipush 1440, 3) := by decide +kernel
theorem dX11_bandAt_20 : decode cX11_bandAt 20 = .ok (.irem, 1) := by decide +kernel
theorem dX11_bandAt_21 : decode cX11_bandAt 21 = .ok (.if_icmp .le 9, 3) := by decide +kernel
theorem dX11_bandAt_24 : decode cX11_bandAt 24 = .ok (.iinc 3 (-1), 3) := by decide +kernel
theorem dX11_bandAt_27 : decode cX11_bandAt 27 = .ok (.goto (-18), 3) := by decide +kernel
theorem dX11_bandAt_30 : decode cX11_bandAt 30 = .ok (.iload_n 3, 1) := by decide +kernel
theorem dX11_bandAt_31 : decode cX11_bandAt 31 = .ok (.ireturn, 1) := by decide +kernel
theorem dX11_begins_0 : decode cX11_begins 0 = .ok (.aload_n 0, 1) := by decide +kernel
theorem dX11_begins_1 : decode cX11_begins 1 = .ok (.iload_n 1, 1) := by decide +kernel
theorem dX11_begins_2 : decode cX11_begins 2 = .ok (.putfield 52, 3) := by decide +kernel
theorem dX11_begins_5 : decode cX11_begins 5 = .ok (.aload_n 0, 1) := by decide +kernel
theorem dX11_begins_6 : decode cX11_begins 6 = .ok (.iconst (-1), 1) := by decide +kernel
theorem dX11_begins_7 : decode cX11_begins 7 = .ok (.putfield 56, 3) := by decide +kernel
theorem dX11_begins_10 : decode cX11_begins 10 = .ok (.aload_n 0, 1) := by decide +kernel
theorem dX11_begins_11 : decode cX11_begins 11 = .ok (.iconst 0, 1) := by decide +kernel
theorem dX11_begins_12 : decode cX11_begins 12 = .ok (.putfield 59, 3) := by decide +kernel
theorem dX11_begins_15 : decode cX11_begins 15 = .ok (.aload_n 0, 1) := by decide +kernel
theorem dX11_begins_16 : decode cX11_begins 16 = .ok (.iconst 0, 1) := by decide +kernel
theorem dX11_begins_17 : decode cX11_begins 17 = .ok (.putfield 62, 3) := by decide +kernel
theorem dX11_begins_20 : decode cX11_begins 20 = .ok (.aload_n 0, 1) := by decide +kernel
theorem dX11_begins_21 : decode cX11_begins 21 = .ok (.iconst 0, 1) := by decide +kernel
theorem dX11_begins_22 : decode cX11_begins 22 = .ok (.putfield 65, 3) := by decide +kernel
theorem dX11_begins_25 : decode cX11_begins 25 = .ok (.return_, 1) := by decide +kernel
theorem dX11_capped_0 : decode cX11_capped 0 = .ok (.aload_n 0, 1) := by decide +kernel
theorem dX11_capped_1 : decode cX11_capped 1 = .ok (.iload_n 1, 1) := by decide +kernel
theorem dX11_capped_2 : decode cX11_capped 2 = .ok (.iconst 1, 1) := by decide +kernel
theorem dX11_capped_3 : decode cX11_capped 3 = .ok (.invokevirtual 44, 3) := by decide +kernel
theorem dX11_capped_6 : decode cX11_capped 6 = .ok (.ifCond .le 22, 3) := by decide +kernel
theorem dX11_capped_9 : decode cX11_capped 9 = .ok (.iload_n 2, 1) := by decide +kernel
theorem dX11_capped_10 : decode cX11_capped 10 = .ok (.aload_n 0, 1) := by decide +kernel
theorem dX11_capped_11 : decode cX11_capped 11 = .ok (.iload_n 1, 1) := by decide +kernel
theorem dX11_capped_12 : decode cX11_capped 12 = .ok (.iconst 1, 1) := by decide +kernel
theorem dX11_capped_13 : decode cX11_capped 13 = .ok (.invokevirtual 44, 3) := by decide +kernel
theorem dX11_capped_16 : decode cX11_capped 16 = .ok (.if_icmp .le 12, 3) := by decide +kernel
theorem dX11_capped_19 : decode cX11_capped 19 = .ok (.aload_n 0, 1) := by decide +kernel
theorem dX11_capped_20 : decode cX11_capped 20 = .ok (.iload_n 1, 1) := by decide +kernel
theorem dX11_capped_21 : decode cX11_capped 21 = .ok (.iconst 1, 1) := by decide +kernel
theorem dX11_capped_22 : decode cX11_capped 22 = .ok (.invokevirtual 44, 3) := by decide +kernel
theorem dX11_capped_25 : decode cX11_capped 25 = .ok (.goto 4, 3) := by decide +kernel
theorem dX11_capped_28 : decode cX11_capped 28 = .ok (.iload_n 2, 1) := by decide +kernel
theorem dX11_capped_29 : decode cX11_capped 29 = .ok (.ireturn, 1) := by decide +kernel
theorem dX11_groupOf_0 : decode cX11_groupOf 0 = .ok (.aload_n 0, 1) := by decide +kernel
theorem dX11_groupOf_1 : decode cX11_groupOf 1 = .ok (.iload_n 1, 1) := by decide +kernel
theorem dX11_groupOf_2 : decode cX11_groupOf 2 = .ok (.iconst 2, 1) := by decide +kernel
theorem dX11_groupOf_3 : decode cX11_groupOf 3 = .ok (.invokevirtual 44, 3) := by decide +kernel
theorem dX11_groupOf_6 : decode cX11_groupOf 6 = .ok (.ifCond .ne 16, 3) := by decide +kernel
theorem dX11_groupOf_9 : decode cX11_groupOf 9 = .ok (.aload_n 0, 1) := by decide +kernel
theorem dX11_groupOf_10 : decode cX11_groupOf 10 = .ok (.getfield 52, 3) := by decide +kernel
theorem dX11_groupOf_13 : decode cX11_groupOf 13 = .ok (.iload_n 2, 1) := by decide +kernel
theorem dX11_groupOf_14 : decode cX11_groupOf 14 = .ok (.isub, 1) := by decide +kernel
theorem dX11_groupOf_15 : decode cX11_groupOf 15 = .ok (.sipush 1440, 3) := by decide +kernel
theorem dX11_groupOf_18 : decode cX11_groupOf 18 = .ok (.idiv, 1) := by decide +kernel
theorem dX11_groupOf_19 : decode cX11_groupOf 19 = .ok (.goto 11, 3) := by decide +kernel
theorem dX11_groupOf_22 : decode cX11_groupOf 22 = .ok (.aload_n 0, 1) := by decide +kernel
theorem dX11_groupOf_23 : decode cX11_groupOf 23 = .ok (.getfield 52, 3) := by decide +kernel
theorem dX11_groupOf_26 : decode cX11_groupOf 26 = .ok (.sipush 1440, 3) := by decide +kernel
theorem dX11_groupOf_29 : decode cX11_groupOf 29 = .ok (.idiv, 1) := by decide +kernel
theorem dX11_groupOf_30 : decode cX11_groupOf 30 = .ok (.ireturn, 1) := by decide +kernel
theorem dX11_adds_0 : decode cX11_adds 0 = .ok (.aload_n 0, 1) := by decide +kernel
theorem dX11_adds_1 : decode cX11_adds 1 = .ok (.iload_n 1, 1) := by decide +kernel
theorem dX11_adds_2 : decode cX11_adds 2 = .ok (.iload_n 2, 1) := by decide +kernel
theorem dX11_adds_3 : decode cX11_adds 3 = .ok (.invokevirtual 68, 3) := by decide +kernel
theorem dX11_adds_6 : decode cX11_adds 6 = .ok (.istore_n 3, 1) := by decide +kernel
theorem dX11_adds_7 : decode cX11_adds 7 = .ok (.iload_n 3, 1) := by decide +kernel
theorem dX11_adds_8 : decode cX11_adds 8 = .ok (.aload_n 0, 1) := by decide +kernel
theorem dX11_adds_9 : decode cX11_adds 9 = .ok (.getfield 56, 3) := by decide +kernel
theorem dX11_adds_12 : decode cX11_adds 12 = .ok (.if_icmp .eq 31, 3) := by decide +kernel
theorem dX11_adds_15 : decode cX11_adds 15 = .ok (.aload_n 0, 1) := by decide +kernel
theorem dX11_adds_16 : decode cX11_adds 16 = .ok (.dup, 1) := by decide +kernel
theorem dX11_adds_17 : decode cX11_adds 17 = .ok (.getfield 62, 3) := by decide +kernel
theorem dX11_adds_20 : decode cX11_adds 20 = .ok (.aload_n 0, 1) := by decide +kernel
theorem dX11_adds_21 : decode cX11_adds 21 = .ok (.iload_n 1, 1) := by decide +kernel
theorem dX11_adds_22 : decode cX11_adds 22 = .ok (.aload_n 0, 1) := by decide +kernel
theorem dX11_adds_23 : decode cX11_adds 23 = .ok (.getfield 59, 3) := by decide +kernel
theorem dX11_adds_26 : decode cX11_adds 26 = .ok (.invokevirtual 71, 3) := by decide +kernel
theorem dX11_adds_29 : decode cX11_adds 29 = .ok (.iadd, 1) := by decide +kernel
theorem dX11_adds_30 : decode cX11_adds 30 = .ok (.putfield 62, 3) := by decide +kernel
theorem dX11_adds_33 : decode cX11_adds 33 = .ok (.aload_n 0, 1) := by decide +kernel
theorem dX11_adds_34 : decode cX11_adds 34 = .ok (.iconst 0, 1) := by decide +kernel
theorem dX11_adds_35 : decode cX11_adds 35 = .ok (.putfield 59, 3) := by decide +kernel
theorem dX11_adds_38 : decode cX11_adds 38 = .ok (.aload_n 0, 1) := by decide +kernel
theorem dX11_adds_39 : decode cX11_adds 39 = .ok (.iload_n 3, 1) := by decide +kernel
theorem dX11_adds_40 : decode cX11_adds 40 = .ok (.putfield 56, 3) := by decide +kernel
theorem dX11_adds_43 : decode cX11_adds 43 = .ok (.aload_n 0, 1) := by decide +kernel
theorem dX11_adds_44 : decode cX11_adds 44 = .ok (.iload_n 1, 1) := by decide +kernel
theorem dX11_adds_45 : decode cX11_adds 45 = .ok (.aload_n 0, 1) := by decide +kernel
theorem dX11_adds_46 : decode cX11_adds 46 = .ok (.getfield 52, 3) := by decide +kernel
theorem dX11_adds_49 : decode cX11_adds 49 = .ok (.invokevirtual 74, 3) := by decide +kernel
theorem dX11_adds_52 : decode cX11_adds 52 = .ok (.istore 4, 2) := by decide +kernel
theorem dX11_adds_54 : decode cX11_adds 54 = .ok (.aload_n 0, 1) := by decide +kernel
theorem dX11_adds_55 : decode cX11_adds 55 = .ok (.dup, 1) := by decide +kernel
theorem dX11_adds_56 : decode cX11_adds 56 = .ok (.getfield 59, 3) := by decide +kernel
theorem dX11_adds_59 : decode cX11_adds 59 = .ok (.aload_n 0, 1) := by decide +kernel
theorem dX11_adds_60 : decode cX11_adds 60 = .ok (.iload_n 1, 1) := by decide +kernel
theorem dX11_adds_61 : decode cX11_adds 61 = .ok (.iload 4, 2) := by decide +kernel
theorem dX11_adds_63 : decode cX11_adds 63 = .ok (.iconst 1, 1) := by decide +kernel
theorem dX11_adds_64 : decode cX11_adds 64 = .ok (.invokevirtual 48, 3) := by decide +kernel
theorem dX11_adds_67 : decode cX11_adds 67 = .ok (.iadd, 1) := by decide +kernel
theorem dX11_adds_68 : decode cX11_adds 68 = .ok (.putfield 59, 3) := by decide +kernel
theorem dX11_adds_71 : decode cX11_adds 71 = .ok (.aload_n 0, 1) := by decide +kernel
theorem dX11_adds_72 : decode cX11_adds 72 = .ok (.aload_n 0, 1) := by decide +kernel
theorem dX11_adds_73 : decode cX11_adds 73 = .ok (.getfield 62, 3) := by decide +kernel
theorem dX11_adds_76 : decode cX11_adds 76 = .ok (.aload_n 0, 1) := by decide +kernel
theorem dX11_adds_77 : decode cX11_adds 77 = .ok (.iload_n 1, 1) := by decide +kernel
theorem dX11_adds_78 : decode cX11_adds 78 = .ok (.aload_n 0, 1) := by decide +kernel
theorem dX11_adds_79 : decode cX11_adds 79 = .ok (.getfield 59, 3) := by decide +kernel
theorem dX11_adds_82 : decode cX11_adds 82 = .ok (.invokevirtual 71, 3) := by decide +kernel
theorem dX11_adds_85 : decode cX11_adds 85 = .ok (.iadd, 1) := by decide +kernel
theorem dX11_adds_86 : decode cX11_adds 86 = .ok (.putfield 65, 3) := by decide +kernel
theorem dX11_adds_89 : decode cX11_adds 89 = .ok (.aload_n 0, 1) := by decide +kernel
theorem dX11_adds_90 : decode cX11_adds 90 = .ok (.dup, 1) := by decide +kernel
theorem dX11_adds_91 : decode cX11_adds 91 = .ok (.getfield 52, 3) := by decide +kernel
theorem dX11_adds_94 : decode cX11_adds 94 = .ok (.aload_n 0, 1) := by decide +kernel
theorem dX11_adds_95 : decode cX11_adds 95 = .ok (.iload_n 1, 1) := by decide +kernel
theorem dX11_adds_96 : decode cX11_adds 96 = .ok (.iload 4, 2) := by decide +kernel
theorem dX11_adds_98 : decode cX11_adds 98 = .ok (.iconst 2, 1) := by decide +kernel
theorem dX11_adds_99 : decode cX11_adds 99 = .ok (.invokevirtual 48, 3) := by decide +kernel
theorem dX11_adds_102 : decode cX11_adds 102 = .ok (.iadd, 1) := by decide +kernel
theorem dX11_adds_103 : decode cX11_adds 103 = .ok (.putfield 52, 3) := by decide +kernel
theorem dX11_adds_106 : decode cX11_adds 106 = .ok (.return_, 1) := by decide +kernel
theorem dX11_feeOf_0 : decode cX11_feeOf 0 = .ok (.iload_n 3, 1) := by decide +kernel
theorem dX11_feeOf_1 : decode cX11_feeOf 1 = .ok (.iload_n 2, 1) := by decide +kernel
theorem dX11_feeOf_2 : decode cX11_feeOf 2 = .ok (.isub, 1) := by decide +kernel
theorem dX11_feeOf_3 : decode cX11_feeOf 3 = .ok (.aload_n 0, 1) := by decide +kernel
theorem dX11_feeOf_4 : decode cX11_feeOf 4 = .ok (.iload_n 1, 1) := by decide +kernel
theorem dX11_feeOf_5 : decode cX11_feeOf 5 = .ok (.iconst 0, 1) := by decide +kernel
theorem dX11_feeOf_6 : decode cX11_feeOf 6 = .ok (.invokevirtual 44, 3) := by decide +kernel
theorem dX11_feeOf_9 : decode cX11_feeOf 9 = .ok (.if_icmp .gt 5, 3) := by decide +kernel
theorem dX11_feeOf_12 : decode cX11_feeOf 12 = .ok (.iconst 0, 1) := by decide +kernel
theorem dX11_feeOf_13 : decode cX11_feeOf 13 = .ok (.ireturn, 1) := by decide +kernel
theorem dX11_feeOf_14 : decode cX11_feeOf 14 = .ok (.aload_n 0, 1) := by decide +kernel
theorem dX11_feeOf_15 : decode cX11_feeOf 15 = .ok (.iload_n 2, 1) := by decide +kernel
theorem dX11_feeOf_16 : decode cX11_feeOf 16 = .ok (.invokevirtual 77, 3) := by decide +kernel
theorem dX11_feeOf_19 : decode cX11_feeOf 19 = .ok (.aload_n 0, 1) := by decide +kernel
theorem dX11_feeOf_20 : decode cX11_feeOf 20 = .ok (.getfield 52, 3) := by decide +kernel
theorem dX11_feeOf_23 : decode cX11_feeOf 23 = .ok (.iload_n 3, 1) := by decide +kernel
theorem dX11_feeOf_24 : decode cX11_feeOf 24 = .ok (.if_icmp .ge 12, 3) := by decide +kernel
theorem dX11_feeOf_27 : decode cX11_feeOf 27 = .ok (.aload_n 0, 1) := by decide +kernel
theorem dX11_feeOf_28 : decode cX11_feeOf 28 = .ok (.iload_n 1, 1) := by decide +kernel
theorem dX11_feeOf_29 : decode cX11_feeOf 29 = .ok (.iload_n 2, 1) := by decide +kernel
theorem dX11_feeOf_30 : decode cX11_feeOf 30 = .ok (.invokevirtual 80, 3) := by decide +kernel
theorem dX11_feeOf_33 : decode cX11_feeOf 33 = .ok (.goto (-14), 3) := by decide +kernel
theorem dX11_feeOf_36 : decode cX11_feeOf 36 = .ok (.aload_n 0, 1) := by decide +kernel
theorem dX11_feeOf_37 : decode cX11_feeOf 37 = .ok (.getfield 65, 3) := by decide +kernel
theorem dX11_feeOf_40 : decode cX11_feeOf 40 = .ok (.ireturn, 1) := by decide +kernel
theorem dX11_isStay_0 : decode cX11_isStay 0 = .ok (.iload_n 1, 1) := by decide +kernel
theorem dX11_isStay_1 : decode cX11_isStay 1 = .ok (.invokestatic 84, 3) := by decide +kernel
theorem dX11_isStay_4 : decode cX11_isStay 4 = .ok (.ifCond .eq 24, 3) := by decide +kernel
theorem dX11_isStay_7 : decode cX11_isStay 7 = .ok (.iload_n 2, 1) := by decide +kernel
theorem dX11_isStay_8 : decode cX11_isStay 8 = .ok (.invokestatic 88, 3) := by decide +kernel
theorem dX11_isStay_11 : decode cX11_isStay 11 = .ok (.ifCond .eq 17, 3) := by decide +kernel
theorem dX11_isStay_14 : decode cX11_isStay 14 = .ok (.iload_n 3, 1) := by decide +kernel
theorem dX11_isStay_15 : decode cX11_isStay 15 = .ok (.iload_n 2, 1) := by decide +kernel
theorem dX11_isStay_16 : decode cX11_isStay 16 = .ok (.ldc 43, 2) := by decide +kernel
theorem dX11_isStay_18 : decode cX11_isStay 18 = .ok (.invokestatic 39, 3) := by decide +kernel
theorem dX11_isStay_21 : decode cX11_isStay 21 = .ok (.ifCond .eq 7, 3) := by decide +kernel
theorem dX11_isStay_24 : decode cX11_isStay 24 = .ok (.iconst 1, 1) := by decide +kernel
theorem dX11_isStay_25 : decode cX11_isStay 25 = .ok (.goto 4, 3) := by decide +kernel
theorem dX11_isStay_28 : decode cX11_isStay 28 = .ok (.iconst 0, 1) := by decide +kernel
theorem dX11_isStay_29 : decode cX11_isStay 29 = .ok (.ireturn, 1) := by decide +kernel
theorem dX11_fee_0 : decode cX11_fee 0 = .ok (.aload_n 0, 1) := by decide +kernel
theorem dX11_fee_1 : decode cX11_fee 1 = .ok (.iload_n 1, 1) := by decide +kernel
theorem dX11_fee_2 : decode cX11_fee 2 = .ok (.iload_n 2, 1) := by decide +kernel
theorem dX11_fee_3 : decode cX11_fee 3 = .ok (.iload_n 3, 1) := by decide +kernel
theorem dX11_fee_4 : decode cX11_fee 4 = .ok (.invokevirtual 91, 3) := by decide +kernel
theorem dX11_fee_7 : decode cX11_fee 7 = .ok (.ifCond .eq 13, 3) := by decide +kernel
theorem dX11_fee_10 : decode cX11_fee 10 = .ok (.aload_n 0, 1) := by decide +kernel
theorem dX11_fee_11 : decode cX11_fee 11 = .ok (.iload_n 1, 1) := by decide +kernel
theorem dX11_fee_12 : decode cX11_fee 12 = .ok (.iload_n 2, 1) := by decide +kernel
theorem dX11_fee_13 : decode cX11_fee 13 = .ok (.iload_n 3, 1) := by decide +kernel
theorem dX11_fee_14 : decode cX11_fee 14 = .ok (.invokevirtual 94, 3) := by decide +kernel
theorem dX11_fee_17 : decode cX11_fee 17 = .ok (.goto 5, 3) := by decide +kernel
theorem dX11_fee_20 : decode cX11_fee 20 = .ok (.bipush (-2), 2) := by decide +kernel
theorem dX11_fee_22 : decode cX11_fee 22 = .ok (.ireturn, 1) := by decide +kernel
theorem dX11_unit_0 : decode cX11_unit 0 = .ok (.iload_n 1, 1) := by decide +kernel
theorem dX11_unit_1 : decode cX11_unit 1 = .ok (.invokestatic 84, 3) := by decide +kernel
theorem dX11_unit_4 : decode cX11_unit 4 = .ok (.ifCond .eq 30, 3) := by decide +kernel
theorem dX11_unit_7 : decode cX11_unit 7 = .ok (.iload_n 2, 1) := by decide +kernel
theorem dX11_unit_8 : decode cX11_unit 8 = .ok (.invokestatic 88, 3) := by decide +kernel
theorem dX11_unit_11 : decode cX11_unit 11 = .ok (.ifCond .eq 23, 3) := by decide +kernel
theorem dX11_unit_14 : decode cX11_unit 14 = .ok (.iload_n 3, 1) := by decide +kernel
theorem dX11_unit_15 : decode cX11_unit 15 = .ok (.iconst 0, 1) := by decide +kernel
theorem dX11_unit_16 : decode cX11_unit 16 = .ok (.bipush 99, 2) := by decide +kernel
theorem dX11_unit_18 : decode cX11_unit 18 = .ok (.invokestatic 39, 3) := by decide +kernel
theorem dX11_unit_21 : decode cX11_unit 21 = .ok (.ifCond .eq 13, 3) := by decide +kernel
theorem dX11_unit_24 : decode cX11_unit 24 = .ok (.iload 4, 2) := by decide +kernel
theorem dX11_unit_26 : decode cX11_unit 26 = .ok (.iconst 0, 1) := by decide +kernel
theorem dX11_unit_27 : decode cX11_unit 27 = .ok (.iconst 2, 1) := by decide +kernel
theorem dX11_unit_28 : decode cX11_unit 28 = .ok (.invokestatic 39, 3) := by decide +kernel
theorem dX11_unit_31 : decode cX11_unit 31 = .ok (.ifCond .ne 6, 3) := by decide +kernel
theorem dX11_unit_34 : decode cX11_unit 34 = .ok (.bipush (-2), 2) := by decide +kernel
theorem dX11_unit_36 : decode cX11_unit 36 = .ok (.ireturn, 1) := by decide +kernel
theorem dX11_unit_37 : decode cX11_unit 37 = .ok (.aload_n 0, 1) := by decide +kernel
theorem dX11_unit_38 : decode cX11_unit 38 = .ok (.iload_n 2, 1) := by decide +kernel
theorem dX11_unit_39 : decode cX11_unit 39 = .ok (.invokevirtual 77, 3) := by decide +kernel
theorem dX11_unit_42 : decode cX11_unit 42 = .ok (.iconst 0, 1) := by decide +kernel
theorem dX11_unit_43 : decode cX11_unit 43 = .ok (.istore 5, 2) := by decide +kernel
theorem dX11_unit_45 : decode cX11_unit 45 = .ok (.iload 5, 2) := by decide +kernel
theorem dX11_unit_47 : decode cX11_unit 47 = .ok (.iload_n 3, 1) := by decide +kernel
theorem dX11_unit_48 : decode cX11_unit 48 = .ok (.if_icmp .ge 15, 3) := by decide +kernel
theorem dX11_unit_51 : decode cX11_unit 51 = .ok (.aload_n 0, 1) := by decide +kernel
theorem dX11_unit_52 : decode cX11_unit 52 = .ok (.iload_n 1, 1) := by decide +kernel
theorem dX11_unit_53 : decode cX11_unit 53 = .ok (.iload_n 2, 1) := by decide +kernel
theorem dX11_unit_54 : decode cX11_unit 54 = .ok (.invokevirtual 80, 3) := by decide +kernel
theorem dX11_unit_57 : decode cX11_unit 57 = .ok (.iinc 5 1, 3) := by decide +kernel
theorem dX11_unit_60 : decode cX11_unit 60 = .ok (.goto (-15), 3) := by decide +kernel
theorem dX11_unit_63 : decode cX11_unit 63 = .ok (.iload 4, 2) := by decide +kernel
theorem dX11_unit_65 : decode cX11_unit 65 = .ok (.ifCond .ne 10, 3) := by decide +kernel
theorem dX11_unit_68 : decode cX11_unit 68 = .ok (.aload_n 0, 1) := by decide +kernel
theorem dX11_unit_69 : decode cX11_unit 69 = .ok (.getfield 52, 3) := by decide +kernel
theorem dX11_unit_72 : decode cX11_unit 72 = .ok (.goto 27, 3) := by decide +kernel
theorem dX11_unit_75 : decode cX11_unit 75 = .ok (.iload 4, 2) := by decide +kernel
theorem dX11_unit_77 : decode cX11_unit 77 = .ok (.iconst 1, 1) := by decide +kernel
theorem dX11_unit_78 : decode cX11_unit 78 = .ok (.if_icmp .ne 15, 3) := by decide +kernel
theorem dX11_unit_81 : decode cX11_unit 81 = .ok (.aload_n 0, 1) := by decide +kernel
theorem dX11_unit_82 : decode cX11_unit 82 = .ok (.iload_n 1, 1) := by decide +kernel
theorem dX11_unit_83 : decode cX11_unit 83 = .ok (.aload_n 0, 1) := by decide +kernel
theorem dX11_unit_84 : decode cX11_unit 84 = .ok (.getfield 52, 3) := by decide +kernel
theorem dX11_unit_87 : decode cX11_unit 87 = .ok (.invokevirtual 74, 3) := by decide +kernel
theorem dX11_unit_90 : decode cX11_unit 90 = .ok (.goto 9, 3) := by decide +kernel
theorem dX11_unit_93 : decode cX11_unit 93 = .ok (.aload_n 0, 1) := by decide +kernel
theorem dX11_unit_94 : decode cX11_unit 94 = .ok (.iload_n 1, 1) := by decide +kernel
theorem dX11_unit_95 : decode cX11_unit 95 = .ok (.iload_n 2, 1) := by decide +kernel
theorem dX11_unit_96 : decode cX11_unit 96 = .ok (.invokevirtual 68, 3) := by decide +kernel
theorem dX11_unit_99 : decode cX11_unit 99 = .ok (.ireturn, 1) := by decide +kernel
theorem dX11_extend_0 : decode cX11_extend 0 = .ok (.aload_n 0, 1) := by decide +kernel
theorem dX11_extend_1 : decode cX11_extend 1 = .ok (.iload_n 1, 1) := by decide +kernel
theorem dX11_extend_2 : decode cX11_extend 2 = .ok (.iload_n 2, 1) := by decide +kernel
theorem dX11_extend_3 : decode cX11_extend 3 = .ok (.iload_n 3, 1) := by decide +kernel
theorem dX11_extend_4 : decode cX11_extend 4 = .ok (.invokevirtual 91, 3) := by decide +kernel
theorem dX11_extend_7 : decode cX11_extend 7 = .ok (.ifCond .ne 6, 3) := by decide +kernel
theorem dX11_extend_10 : decode cX11_extend 10 = .ok (.bipush (-2), 2) := by decide +kernel
theorem dX11_extend_12 : decode cX11_extend 12 = .ok (.ireturn, 1) := by decide +kernel
theorem dX11_extend_13 : decode cX11_extend 13 = .ok (.aload_n 0, 1) := by decide +kernel
theorem dX11_extend_14 : decode cX11_extend 14 = .ok (.iload_n 1, 1) := by decide +kernel
theorem dX11_extend_15 : decode cX11_extend 15 = .ok (.iload_n 2, 1) := by decide +kernel
theorem dX11_extend_16 : decode cX11_extend 16 = .ok (.iload_n 3, 1) := by decide +kernel
theorem dX11_extend_17 : decode cX11_extend 17 = .ok (.invokevirtual 94, 3) := by decide +kernel
theorem dX11_extend_20 : decode cX11_extend 20 = .ok (.istore 4, 2) := by decide +kernel
theorem dX11_extend_22 : decode cX11_extend 22 = .ok (.aload_n 0, 1) := by decide +kernel
theorem dX11_extend_23 : decode cX11_extend 23 = .ok (.iload_n 2, 1) := by decide +kernel
theorem dX11_extend_24 : decode cX11_extend 24 = .ok (.invokevirtual 77, 3) := by decide +kernel
theorem dX11_extend_27 : decode cX11_extend 27 = .ok (.iload_n 2, 1) := by decide +kernel
theorem dX11_extend_28 : decode cX11_extend 28 = .ok (.istore 5, 2) := by decide +kernel
theorem dX11_extend_30 : decode cX11_extend 30 = .ok (.aload_n 0, 1) := by decide +kernel
theorem dX11_extend_31 : decode cX11_extend 31 = .ok (.getfield 52, 3) := by decide +kernel
theorem dX11_extend_34 : decode cX11_extend 34 = .ok (.ldc 43, 2) := by decide +kernel
theorem dX11_extend_36 : decode cX11_extend 36 = .ok (.if_icmp .gt 27, 3) := by decide +kernel
theorem dX11_extend_39 : decode cX11_extend 39 = .ok (.aload_n 0, 1) := by decide +kernel
theorem dX11_extend_40 : decode cX11_extend 40 = .ok (.getfield 65, 3) := by decide +kernel
theorem dX11_extend_43 : decode cX11_extend 43 = .ok (.iload 4, 2) := by decide +kernel
theorem dX11_extend_45 : decode cX11_extend 45 = .ok (.if_icmp .gt 18, 3) := by decide +kernel
theorem dX11_extend_48 : decode cX11_extend 48 = .ok (.aload_n 0, 1) := by decide +kernel
theorem dX11_extend_49 : decode cX11_extend 49 = .ok (.getfield 52, 3) := by decide +kernel
theorem dX11_extend_52 : decode cX11_extend 52 = .ok (.istore 5, 2) := by decide +kernel
theorem dX11_extend_54 : decode cX11_extend 54 = .ok (.aload_n 0, 1) := by decide +kernel
theorem dX11_extend_55 : decode cX11_extend 55 = .ok (.iload_n 1, 1) := by decide +kernel
theorem dX11_extend_56 : decode cX11_extend 56 = .ok (.iload_n 2, 1) := by decide +kernel
theorem dX11_extend_57 : decode cX11_extend 57 = .ok (.invokevirtual 80, 3) := by decide +kernel
theorem dX11_extend_60 : decode cX11_extend 60 = .ok (.goto (-30), 3) := by decide +kernel
theorem dX11_extend_63 : decode cX11_extend 63 = .ok (.aload_n 0, 1) := by decide +kernel
theorem dX11_extend_64 : decode cX11_extend 64 = .ok (.getfield 65, 3) := by decide +kernel
theorem dX11_extend_67 : decode cX11_extend 67 = .ok (.iload 4, 2) := by decide +kernel
theorem dX11_extend_69 : decode cX11_extend 69 = .ok (.if_icmp .gt 6, 3) := by decide +kernel
theorem dX11_extend_72 : decode cX11_extend 72 = .ok (.ldc 43, 2) := by decide +kernel
theorem dX11_extend_74 : decode cX11_extend 74 = .ok (.ireturn, 1) := by decide +kernel
theorem dX11_extend_75 : decode cX11_extend 75 = .ok (.iload_n 2, 1) := by decide +kernel
theorem dX11_extend_76 : decode cX11_extend 76 = .ok (.aload_n 0, 1) := by decide +kernel
theorem dX11_extend_77 : decode cX11_extend 77 = .ok (.iload_n 1, 1) := by decide +kernel
theorem dX11_extend_78 : decode cX11_extend 78 = .ok (.iconst 0, 1) := by decide +kernel
theorem dX11_extend_79 : decode cX11_extend 79 = .ok (.invokevirtual 44, 3) := by decide +kernel
theorem dX11_extend_82 : decode cX11_extend 82 = .ok (.iadd, 1) := by decide +kernel
theorem dX11_extend_83 : decode cX11_extend 83 = .ok (.istore 6, 2) := by decide +kernel
theorem dX11_extend_85 : decode cX11_extend 85 = .ok (.iload 6, 2) := by decide +kernel
theorem dX11_extend_87 : decode cX11_extend 87 = .ok (.iload 5, 2) := by decide +kernel
theorem dX11_extend_89 : decode cX11_extend 89 = .ok (.if_icmp .le 20, 3) := by decide +kernel
theorem dX11_extend_92 : decode cX11_extend 92 = .ok (.iload 6, 2) := by decide +kernel
theorem dX11_extend_94 : decode cX11_extend 94 = .ok (.ldc 43, 2) := by decide +kernel
theorem dX11_extend_96 : decode cX11_extend 96 = .ok (.if_icmp .le 8, 3) := by decide +kernel
theorem dX11_extend_99 : decode cX11_extend 99 = .ok (.ldc 43, 2) := by decide +kernel
theorem dX11_extend_101 : decode cX11_extend 101 = .ok (.goto 10, 3) := by decide +kernel
theorem dX11_extend_104 : decode cX11_extend 104 = .ok (.iload 6, 2) := by decide +kernel
theorem dX11_extend_106 : decode cX11_extend 106 = .ok (.goto 5, 3) := by decide +kernel
theorem dX11_extend_109 : decode cX11_extend 109 = .ok (.iload 5, 2) := by decide +kernel
theorem dX11_extend_111 : decode cX11_extend 111 = .ok (.ireturn, 1) := by decide +kernel
theorem dX11_append_0 : decode cX11_append 0 = .ok (.iload_n 1, 1) := by decide +kernel
theorem dX11_append_1 : decode cX11_append 1 = .ok (.iconst 0, 1) := by decide +kernel
theorem dX11_append_2 : decode cX11_append 2 = .ok (.bipush 127, 2) := by decide +kernel
theorem dX11_append_4 : decode cX11_append 4 = .ok (.invokestatic 39, 3) := by decide +kernel
theorem dX11_append_7 : decode cX11_append 7 = .ok (.ifCond .eq 13, 3) := by decide +kernel
theorem dX11_append_10 : decode cX11_append 10 = .ok (.iload_n 2, 1) := by decide +kernel
theorem dX11_append_11 : decode cX11_append 11 = .ok (.iconst 1, 1) := by decide +kernel
theorem dX11_append_12 : decode cX11_append 12 = .ok (.bipush 90, 2) := by decide +kernel
theorem dX11_append_14 : decode cX11_append 14 = .ok (.invokestatic 39, 3) := by decide +kernel
theorem dX11_append_17 : decode cX11_append 17 = .ok (.ifCond .ne 6, 3) := by decide +kernel
theorem dX11_append_20 : decode cX11_append 20 = .ok (.bipush (-2), 2) := by decide +kernel
theorem dX11_append_22 : decode cX11_append 22 = .ok (.ireturn, 1) := by decide +kernel
theorem dX11_append_23 : decode cX11_append 23 = .ok (.aload_n 0, 1) := by decide +kernel
theorem dX11_append_24 : decode cX11_append 24 = .ok (.getfield 97, 3) := by decide +kernel
theorem dX11_append_27 : decode cX11_append 27 = .ok (.iload_n 2, 1) := by decide +kernel
theorem dX11_append_28 : decode cX11_append 28 = .ok (.iadd, 1) := by decide +kernel
theorem dX11_append_29 : decode cX11_append 29 = .ok (.bipush 90, 2) := by decide +kernel
theorem dX11_append_31 : decode cX11_append 31 = .ok (.if_icmp .le 6, 3) := by decide +kernel
theorem dX11_append_34 : decode cX11_append 34 = .ok (.bipush (-3), 2) := by decide +kernel
theorem dX11_append_36 : decode cX11_append 36 = .ok (.ireturn, 1) := by decide +kernel
theorem dX11_append_37 : decode cX11_append 37 = .ok (.iconst 0, 1) := by decide +kernel
theorem dX11_append_38 : decode cX11_append 38 = .ok (.istore_n 3, 1) := by decide +kernel
theorem dX11_append_39 : decode cX11_append 39 = .ok (.iload_n 3, 1) := by decide +kernel
theorem dX11_append_40 : decode cX11_append 40 = .ok (.iload_n 2, 1) := by decide +kernel
theorem dX11_append_41 : decode cX11_append 41 = .ok (.if_icmp .ge 21, 3) := by decide +kernel
theorem dX11_append_44 : decode cX11_append 44 = .ok (.aload_n 0, 1) := by decide +kernel
theorem dX11_append_45 : decode cX11_append 45 = .ok (.getfield 23, 3) := by decide +kernel
theorem dX11_append_48 : decode cX11_append 48 = .ok (.aload_n 0, 1) := by decide +kernel
theorem dX11_append_49 : decode cX11_append 49 = .ok (.getfield 97, 3) := by decide +kernel
theorem dX11_append_52 : decode cX11_append 52 = .ok (.iload_n 3, 1) := by decide +kernel
theorem dX11_append_53 : decode cX11_append 53 = .ok (.iadd, 1) := by decide +kernel
theorem dX11_append_54 : decode cX11_append 54 = .ok (.iload_n 1, 1) := by decide +kernel
theorem dX11_append_55 : decode cX11_append 55 = .ok (.iastore, 1) := by decide +kernel
theorem dX11_append_56 : decode cX11_append 56 = .ok (.iinc 3 1, 3) := by decide +kernel
theorem dX11_append_59 : decode cX11_append 59 = .ok (.goto (-20), 3) := by decide +kernel
theorem dX11_append_62 : decode cX11_append 62 = .ok (.aload_n 0, 1) := by decide +kernel
theorem dX11_append_63 : decode cX11_append 63 = .ok (.dup, 1) := by decide +kernel
theorem dX11_append_64 : decode cX11_append 64 = .ok (.getfield 97, 3) := by decide +kernel
theorem dX11_append_67 : decode cX11_append 67 = .ok (.iload_n 2, 1) := by decide +kernel
theorem dX11_append_68 : decode cX11_append 68 = .ok (.iadd, 1) := by decide +kernel
theorem dX11_append_69 : decode cX11_append 69 = .ok (.putfield 97, 3) := by decide +kernel
theorem dX11_append_72 : decode cX11_append 72 = .ok (.aload_n 0, 1) := by decide +kernel
theorem dX11_append_73 : decode cX11_append 73 = .ok (.getfield 97, 3) := by decide +kernel
theorem dX11_append_76 : decode cX11_append 76 = .ok (.ireturn, 1) := by decide +kernel
theorem dX11_here_0 : decode cX11_here 0 = .ok (.aload_n 0, 1) := by decide +kernel
theorem dX11_here_1 : decode cX11_here 1 = .ok (.getfield 100, 3) := by decide +kernel
theorem dX11_here_4 : decode cX11_here 4 = .ok (.aload_n 0, 1) := by decide +kernel
theorem dX11_here_5 : decode cX11_here 5 = .ok (.getfield 97, 3) := by decide +kernel
theorem dX11_here_8 : decode cX11_here 8 = .ok (.if_icmp .ge 15, 3) := by decide +kernel
theorem dX11_here_11 : decode cX11_here 11 = .ok (.aload_n 0, 1) := by decide +kernel
theorem dX11_here_12 : decode cX11_here 12 = .ok (.getfield 23, 3) := by decide +kernel
theorem dX11_here_15 : decode cX11_here 15 = .ok (.aload_n 0, 1) := by decide +kernel
theorem dX11_here_16 : decode cX11_here 16 = .ok (.getfield 100, 3) := by decide +kernel
theorem dX11_here_19 : decode cX11_here 19 = .ok (.iaload, 1) := by decide +kernel
theorem dX11_here_20 : decode cX11_here 20 = .ok (.goto 4, 3) := by decide +kernel
theorem dX11_here_23 : decode cX11_here 23 = .ok (.iconst (-1), 1) := by decide +kernel
theorem dX11_here_24 : decode cX11_here 24 = .ok (.ireturn, 1) := by decide +kernel
theorem dX11_fails_0 : decode cX11_fails 0 = .ok (.aload_n 0, 1) := by decide +kernel
theorem dX11_fails_1 : decode cX11_fails 1 = .ok (.getfield 103, 3) := by decide +kernel
theorem dX11_fails_4 : decode cX11_fails 4 = .ok (.ifCond .le 4, 3) := by decide +kernel
theorem dX11_fails_7 : decode cX11_fails 7 = .ok (.return_, 1) := by decide +kernel
theorem dX11_fails_8 : decode cX11_fails 8 = .ok (.aload_n 0, 1) := by decide +kernel
theorem dX11_fails_9 : decode cX11_fails 9 = .ok (.iload_n 1, 1) := by decide +kernel
theorem dX11_fails_10 : decode cX11_fails 10 = .ok (.putfield 103, 3) := by decide +kernel
theorem dX11_fails_13 : decode cX11_fails 13 = .ok (.aload_n 0, 1) := by decide +kernel
theorem dX11_fails_14 : decode cX11_fails 14 = .ok (.iload_n 2, 1) := by decide +kernel
theorem dX11_fails_15 : decode cX11_fails 15 = .ok (.putfield 106, 3) := by decide +kernel
theorem dX11_fails_18 : decode cX11_fails 18 = .ok (.return_, 1) := by decide +kernel
theorem dX11_must_0 : decode cX11_must 0 = .ok (.aload_n 0, 1) := by decide +kernel
theorem dX11_must_1 : decode cX11_must 1 = .ok (.invokevirtual 109, 3) := by decide +kernel
theorem dX11_must_4 : decode cX11_must 4 = .ok (.iload_n 1, 1) := by decide +kernel
theorem dX11_must_5 : decode cX11_must 5 = .ok (.if_icmp .eq 12, 3) := by decide +kernel
theorem dX11_must_8 : decode cX11_must 8 = .ok (.aload_n 0, 1) := by decide +kernel
theorem dX11_must_9 : decode cX11_must 9 = .ok (.iconst 3, 1) := by decide +kernel
theorem dX11_must_10 : decode cX11_must 10 = .ok (.aload_n 0, 1) := by decide +kernel
theorem dX11_must_11 : decode cX11_must 11 = .ok (.getfield 100, 3) := by decide +kernel
theorem dX11_must_14 : decode cX11_must 14 = .ok (.invokevirtual 113, 3) := by decide +kernel
theorem dX11_must_17 : decode cX11_must 17 = .ok (.aload_n 0, 1) := by decide +kernel
theorem dX11_must_18 : decode cX11_must 18 = .ok (.dup, 1) := by decide +kernel
theorem dX11_must_19 : decode cX11_must 19 = .ok (.getfield 100, 3) := by decide +kernel
theorem dX11_must_22 : decode cX11_must 22 = .ok (.aload_n 0, 1) := by decide +kernel
theorem dX11_must_23 : decode cX11_must 23 = .ok (.getfield 103, 3) := by decide +kernel
theorem dX11_must_26 : decode cX11_must 26 = .ok (.ifCond .ne 7, 3) := by decide +kernel
theorem dX11_must_29 : decode cX11_must 29 = .ok (.iconst 1, 1) := by decide +kernel
theorem dX11_must_30 : decode cX11_must 30 = .ok (.goto 4, 3) := by decide +kernel
theorem dX11_must_33 : decode cX11_must 33 = .ok (.iconst 0, 1) := by decide +kernel
theorem dX11_must_34 : decode cX11_must 34 = .ok (.iadd, 1) := by decide +kernel
theorem dX11_must_35 : decode cX11_must 35 = .ok (.putfield 100, 3) := by decide +kernel
theorem dX11_must_38 : decode cX11_must 38 = .ok (.return_, 1) := by decide +kernel
theorem dX11_number_0 : decode cX11_number 0 = .ok (.aload_n 0, 1) := by decide +kernel
theorem dX11_number_1 : decode cX11_number 1 = .ok (.invokevirtual 109, 3) := by decide +kernel
theorem dX11_number_4 : decode cX11_number 4 = .ok (.bipush 48, 2) := by decide +kernel
theorem dX11_number_6 : decode cX11_number 6 = .ok (.bipush 57, 2) := by decide +kernel
theorem dX11_number_8 : decode cX11_number 8 = .ok (.invokestatic 39, 3) := by decide +kernel
theorem dX11_number_11 : decode cX11_number 11 = .ok (.ifCond .ne 12, 3) := by decide +kernel
theorem dX11_number_14 : decode cX11_number 14 = .ok (.aload_n 0, 1) := by decide +kernel
theorem dX11_number_15 : decode cX11_number 15 = .ok (.iconst 3, 1) := by decide +kernel
theorem dX11_number_16 : decode cX11_number 16 = .ok (.aload_n 0, 1) := by decide +kernel
theorem dX11_number_17 : decode cX11_number 17 = .ok (.getfield 100, 3) := by decide +kernel
theorem dX11_number_20 : decode cX11_number 20 = .ok (.invokevirtual 113, 3) := by decide +kernel
theorem dX11_number_23 : decode cX11_number 23 = .ok (.aload_n 0, 1) := by decide +kernel
theorem dX11_number_24 : decode cX11_number 24 = .ok (.getfield 32, 3) := by decide +kernel
theorem dX11_number_27 : decode cX11_number 27 = .ok (.iload_n 1, 1) := by decide +kernel
theorem dX11_number_28 : decode cX11_number 28 = .ok (.iconst 0, 1) := by decide +kernel
theorem dX11_number_29 : decode cX11_number 29 = .ok (.iastore, 1) := by decide +kernel
theorem dX11_number_30 : decode cX11_number 30 = .ok (.iconst 0, 1) := by decide +kernel
theorem dX11_number_31 : decode cX11_number 31 = .ok (.istore_n 2, 1) := by decide +kernel
theorem dX11_number_32 : decode cX11_number 32 = .ok (.iload_n 2, 1) := by decide +kernel
theorem dX11_number_33 : decode cX11_number 33 = .ok (.iconst 4, 1) := by decide +kernel
theorem dX11_number_34 : decode cX11_number 34 = .ok (.if_icmp .ge 63, 3) := by decide +kernel
theorem dX11_number_37 : decode cX11_number 37 = .ok (.aload_n 0, 1) := by decide +kernel
theorem dX11_number_38 : decode cX11_number 38 = .ok (.getfield 103, 3) := by decide +kernel
theorem dX11_number_41 : decode cX11_number 41 = .ok (.ifCond .ne 56, 3) := by decide +kernel
theorem dX11_number_44 : decode cX11_number 44 = .ok (.aload_n 0, 1) := by decide +kernel
theorem dX11_number_45 : decode cX11_number 45 = .ok (.invokevirtual 109, 3) := by decide +kernel
theorem dX11_number_48 : decode cX11_number 48 = .ok (.bipush 48, 2) := by decide +kernel
theorem dX11_number_50 : decode cX11_number 50 = .ok (.bipush 57, 2) := by decide +kernel
theorem dX11_number_52 : decode cX11_number 52 = .ok (.invokestatic 39, 3) := by decide +kernel
theorem dX11_number_55 : decode cX11_number 55 = .ok (.ifCond .eq 42, 3) := by decide +kernel
theorem dX11_number_58 : decode cX11_number 58 = .ok (.aload_n 0, 1) := by decide +kernel
theorem dX11_number_59 : decode cX11_number 59 = .ok (.getfield 32, 3) := by decide +kernel
theorem dX11_number_62 : decode cX11_number 62 = .ok (.iload_n 1, 1) := by decide +kernel
theorem dX11_number_63 : decode cX11_number 63 = .ok (.bipush 10, 2) := by decide +kernel
theorem dX11_number_65 : decode cX11_number 65 = .ok (.aload_n 0, 1) := by decide +kernel
theorem dX11_number_66 : decode cX11_number 66 = .ok (.getfield 32, 3) := by decide +kernel
theorem dX11_number_69 : decode cX11_number 69 = .ok (.iload_n 1, 1) := by decide +kernel
theorem dX11_number_70 : decode cX11_number 70 = .ok (.iaload, 1) := by decide +kernel
theorem dX11_number_71 : decode cX11_number 71 = .ok (.imul, 1) := by decide +kernel
theorem dX11_number_72 : decode cX11_number 72 = .ok (.aload_n 0, 1) := by decide +kernel
theorem dX11_number_73 : decode cX11_number 73 = .ok (.invokevirtual 109, 3) := by decide +kernel
theorem dX11_number_76 : decode cX11_number 76 = .ok (.iadd, 1) := by decide +kernel
theorem dX11_number_77 : decode cX11_number 77 = .ok (.bipush 48, 2) := by decide +kernel
theorem dX11_number_79 : decode cX11_number 79 = .ok (.isub, 1) := by decide +kernel
theorem dX11_number_80 : decode cX11_number 80 = .ok (.iastore, 1) := by decide +kernel
theorem dX11_number_81 : decode cX11_number 81 = .ok (.aload_n 0, 1) := by decide +kernel
theorem dX11_number_82 : decode cX11_number 82 = .ok (.dup, 1) := by decide +kernel
theorem dX11_number_83 : decode cX11_number 83 = .ok (.getfield 100, 3) := by decide +kernel
theorem dX11_number_86 : decode cX11_number 86 = .ok (.iconst 1, 1) := by decide +kernel
theorem dX11_number_87 : decode cX11_number 87 = .ok (.iadd, 1) := by decide +kernel
theorem dX11_number_88 : decode cX11_number 88 = .ok (.putfield 100, 3) := by decide +kernel
theorem dX11_number_91 : decode cX11_number 91 = .ok (.iinc 2 1, 3) := by decide +kernel
theorem dX11_number_94 : decode cX11_number 94 = .ok (.goto (-62), 3) := by decide +kernel
theorem dX11_number_97 : decode cX11_number 97 = .ok (.return_, 1) := by decide +kernel
theorem dX11_isWord_0 : decode cX11_isWord 0 = .ok (.iload_n 2, 1) := by decide +kernel
theorem dX11_isWord_1 : decode cX11_isWord 1 = .ok (.iload 6, 2) := by decide +kernel
theorem dX11_isWord_3 : decode cX11_isWord 3 = .ok (.ifCond .ne 7, 3) := by decide +kernel
theorem dX11_isWord_6 : decode cX11_isWord 6 = .ok (.iconst 3, 1) := by decide +kernel
theorem dX11_isWord_7 : decode cX11_isWord 7 = .ok (.goto 4, 3) := by decide +kernel
theorem dX11_isWord_10 : decode cX11_isWord 10 = .ok (.iconst 4, 1) := by decide +kernel
theorem dX11_isWord_11 : decode cX11_isWord 11 = .ok (.if_icmp .ne 61, 3) := by decide +kernel
theorem dX11_isWord_14 : decode cX11_isWord 14 = .ok (.aload_n 0, 1) := by decide +kernel
theorem dX11_isWord_15 : decode cX11_isWord 15 = .ok (.getfield 23, 3) := by decide +kernel
theorem dX11_isWord_18 : decode cX11_isWord 18 = .ok (.iload_n 1, 1) := by decide +kernel
theorem dX11_isWord_19 : decode cX11_isWord 19 = .ok (.iaload, 1) := by decide +kernel
theorem dX11_isWord_20 : decode cX11_isWord 20 = .ok (.iload_n 3, 1) := by decide +kernel
theorem dX11_isWord_21 : decode cX11_isWord 21 = .ok (.if_icmp .ne 51, 3) := by decide +kernel
theorem dX11_isWord_24 : decode cX11_isWord 24 = .ok (.aload_n 0, 1) := by decide +kernel
theorem dX11_isWord_25 : decode cX11_isWord 25 = .ok (.getfield 23, 3) := by decide +kernel
theorem dX11_isWord_28 : decode cX11_isWord 28 = .ok (.iload_n 1, 1) := by decide +kernel
theorem dX11_isWord_29 : decode cX11_isWord 29 = .ok (.iconst 1, 1) := by decide +kernel
theorem dX11_isWord_30 : decode cX11_isWord 30 = .ok (.iadd, 1) := by decide +kernel
theorem dX11_isWord_31 : decode cX11_isWord 31 = .ok (.iaload, 1) := by decide +kernel
theorem dX11_isWord_32 : decode cX11_isWord 32 = .ok (.iload 4, 2) := by decide +kernel
theorem dX11_isWord_34 : decode cX11_isWord 34 = .ok (.if_icmp .ne 38, 3) := by decide +kernel
theorem dX11_isWord_37 : decode cX11_isWord 37 = .ok (.aload_n 0, 1) := by decide +kernel
theorem dX11_isWord_38 : decode cX11_isWord 38 = .ok (.getfield 23, 3) := by decide +kernel
theorem dX11_isWord_41 : decode cX11_isWord 41 = .ok (.iload_n 1, 1) := by decide +kernel
theorem dX11_isWord_42 : decode cX11_isWord 42 = .ok (.iconst 2, 1) := by decide +kernel
theorem dX11_isWord_43 : decode cX11_isWord 43 = .ok (.iadd, 1) := by decide +kernel
theorem dX11_isWord_44 : decode cX11_isWord 44 = .ok (.iaload, 1) := by decide +kernel
theorem dX11_isWord_45 : decode cX11_isWord 45 = .ok (.iload 5, 2) := by decide +kernel
theorem dX11_isWord_47 : decode cX11_isWord 47 = .ok (.if_icmp .ne 25, 3) := by decide +kernel
theorem dX11_isWord_50 : decode cX11_isWord 50 = .ok (.iload 6, 2) := by decide +kernel
theorem dX11_isWord_52 : decode cX11_isWord 52 = .ok (.ifCond .eq 16, 3) := by decide +kernel
theorem dX11_isWord_55 : decode cX11_isWord 55 = .ok (.aload_n 0, 1) := by decide +kernel
theorem dX11_isWord_56 : decode cX11_isWord 56 = .ok (.getfield 23, 3) := by decide +kernel
theorem dX11_isWord_59 : decode cX11_isWord 59 = .ok (.iload_n 1, 1) := by decide +kernel
theorem dX11_isWord_60 : decode cX11_isWord 60 = .ok (.iconst 3, 1) := by decide +kernel
theorem dX11_isWord_61 : decode cX11_isWord 61 = .ok (.iadd, 1) := by decide +kernel
theorem dX11_isWord_62 : decode cX11_isWord 62 = .ok (.iaload, 1) := by decide +kernel
theorem dX11_isWord_63 : decode cX11_isWord 63 = .ok (.iload 6, 2) := by decide +kernel
theorem dX11_isWord_65 : decode cX11_isWord 65 = .ok (.if_icmp .ne 7, 3) := by decide +kernel
theorem dX11_isWord_68 : decode cX11_isWord 68 = .ok (.iconst 1, 1) := by decide +kernel
theorem dX11_isWord_69 : decode cX11_isWord 69 = .ok (.goto 4, 3) := by decide +kernel
theorem dX11_isWord_72 : decode cX11_isWord 72 = .ok (.iconst 0, 1) := by decide +kernel
theorem dX11_isWord_73 : decode cX11_isWord 73 = .ok (.ireturn, 1) := by decide +kernel
theorem dX11_ranges_0 : decode cX11_ranges 0 = .ok (.aload_n 0, 1) := by decide +kernel
theorem dX11_ranges_1 : decode cX11_ranges 1 = .ok (.getfield 32, 3) := by decide +kernel
theorem dX11_ranges_4 : decode cX11_ranges 4 = .ok (.iload_n 1, 1) := by decide +kernel
theorem dX11_ranges_5 : decode cX11_ranges 5 = .ok (.iaload, 1) := by decide +kernel
theorem dX11_ranges_6 : decode cX11_ranges 6 = .ok (.iload_n 2, 1) := by decide +kernel
theorem dX11_ranges_7 : decode cX11_ranges 7 = .ok (.iload_n 3, 1) := by decide +kernel
theorem dX11_ranges_8 : decode cX11_ranges 8 = .ok (.invokestatic 39, 3) := by decide +kernel
theorem dX11_ranges_11 : decode cX11_ranges 11 = .ok (.ifCond .ne 14, 3) := by decide +kernel
theorem dX11_ranges_14 : decode cX11_ranges 14 = .ok (.aload_n 0, 1) := by decide +kernel
theorem dX11_ranges_15 : decode cX11_ranges 15 = .ok (.iconst 4, 1) := by decide +kernel
theorem dX11_ranges_16 : decode cX11_ranges 16 = .ok (.aload_n 0, 1) := by decide +kernel
theorem dX11_ranges_17 : decode cX11_ranges 17 = .ok (.getfield 32, 3) := by decide +kernel
theorem dX11_ranges_20 : decode cX11_ranges 20 = .ok (.iload_n 1, 1) := by decide +kernel
theorem dX11_ranges_21 : decode cX11_ranges 21 = .ok (.iaload, 1) := by decide +kernel
theorem dX11_ranges_22 : decode cX11_ranges 22 = .ok (.invokevirtual 113, 3) := by decide +kernel
theorem dX11_ranges_25 : decode cX11_ranges 25 = .ok (.return_, 1) := by decide +kernel
theorem dX11_band_0 : decode cX11_band 0 = .ok (.aload_n 0, 1) := by decide +kernel
theorem dX11_band_1 : decode cX11_band 1 = .ok (.bipush 32, 2) := by decide +kernel
theorem dX11_band_3 : decode cX11_band 3 = .ok (.invokevirtual 116, 3) := by decide +kernel
theorem dX11_band_6 : decode cX11_band 6 = .ok (.aload_n 0, 1) := by decide +kernel
theorem dX11_band_7 : decode cX11_band 7 = .ok (.iconst 0, 1) := by decide +kernel
theorem dX11_band_8 : decode cX11_band 8 = .ok (.invokevirtual 119, 3) := by decide +kernel
theorem dX11_band_11 : decode cX11_band 11 = .ok (.aload_n 0, 1) := by decide +kernel
theorem dX11_band_12 : decode cX11_band 12 = .ok (.bipush 44, 2) := by decide +kernel
theorem dX11_band_14 : decode cX11_band 14 = .ok (.invokevirtual 116, 3) := by decide +kernel
theorem dX11_band_17 : decode cX11_band 17 = .ok (.aload_n 0, 1) := by decide +kernel
theorem dX11_band_18 : decode cX11_band 18 = .ok (.iconst 1, 1) := by decide +kernel
theorem dX11_band_19 : decode cX11_band 19 = .ok (.invokevirtual 119, 3) := by decide +kernel
theorem dX11_band_22 : decode cX11_band 22 = .ok (.aload_n 0, 1) := by decide +kernel
theorem dX11_band_23 : decode cX11_band 23 = .ok (.bipush 44, 2) := by decide +kernel
theorem dX11_band_25 : decode cX11_band 25 = .ok (.invokevirtual 116, 3) := by decide +kernel
theorem dX11_band_28 : decode cX11_band 28 = .ok (.aload_n 0, 1) := by decide +kernel
theorem dX11_band_29 : decode cX11_band 29 = .ok (.iconst 2, 1) := by decide +kernel
theorem dX11_band_30 : decode cX11_band 30 = .ok (.invokevirtual 119, 3) := by decide +kernel
theorem dX11_band_33 : decode cX11_band 33 = .ok (.aload_n 0, 1) := by decide +kernel
theorem dX11_band_34 : decode cX11_band 34 = .ok (.iconst 0, 1) := by decide +kernel
theorem dX11_band_35 : decode cX11_band 35 = .ok (.iconst 0, 1) := by decide +kernel
theorem dX11_band_36 : decode cX11_band 36 = .ok (.sipush 1439, 3) := by decide +kernel
theorem dX11_band_39 : decode cX11_band 39 = .ok (.invokevirtual 122, 3) := by decide +kernel
theorem dX11_band_42 : decode cX11_band 42 = .ok (.aload_n 0, 1) := by decide +kernel
theorem dX11_band_43 : decode cX11_band 43 = .ok (.iconst 1, 1) := by decide +kernel
theorem dX11_band_44 : decode cX11_band 44 = .ok (.iconst 0, 1) := by decide +kernel
theorem dX11_band_45 : decode cX11_band 45 = .ok (.sipush 999, 3) := by decide +kernel
theorem dX11_band_48 : decode cX11_band 48 = .ok (.invokevirtual 122, 3) := by decide +kernel
theorem dX11_band_51 : decode cX11_band 51 = .ok (.aload_n 0, 1) := by decide +kernel
theorem dX11_band_52 : decode cX11_band 52 = .ok (.iconst 2, 1) := by decide +kernel
theorem dX11_band_53 : decode cX11_band 53 = .ok (.iconst 5, 1) := by decide +kernel
theorem dX11_band_54 : decode cX11_band 54 = .ok (.sipush 240, 3) := by decide +kernel
theorem dX11_band_57 : decode cX11_band 57 = .ok (.invokevirtual 122, 3) := by decide +kernel
theorem dX11_band_60 : decode cX11_band 60 = .ok (.aload_n 0, 1) := by decide +kernel
theorem dX11_band_61 : decode cX11_band 61 = .ok (.getfield 126, 3) := by decide +kernel
theorem dX11_band_64 : decode cX11_band 64 = .ok (.ifCond .ne 7, 3) := by decide +kernel
theorem dX11_band_67 : decode cX11_band 67 = .ok (.iconst 1, 1) := by decide +kernel
theorem dX11_band_68 : decode cX11_band 68 = .ok (.goto 4, 3) := by decide +kernel
theorem dX11_band_71 : decode cX11_band 71 = .ok (.iconst 0, 1) := by decide +kernel
theorem dX11_band_72 : decode cX11_band 72 = .ok (.istore_n 1, 1) := by decide +kernel
theorem dX11_band_73 : decode cX11_band 73 = .ok (.iload_n 1, 1) := by decide +kernel
theorem dX11_band_74 : decode cX11_band 74 = .ok (.ifCond .eq 20, 3) := by decide +kernel
theorem dX11_band_77 : decode cX11_band 77 = .ok (.aload_n 0, 1) := by decide +kernel
theorem dX11_band_78 : decode cX11_band 78 = .ok (.getfield 32, 3) := by decide +kernel
theorem dX11_band_81 : decode cX11_band 81 = .ok (.iconst 0, 1) := by decide +kernel
theorem dX11_band_82 : decode cX11_band 82 = .ok (.iaload, 1) := by decide +kernel
theorem dX11_band_83 : decode cX11_band 83 = .ok (.ifCond .ne 7, 3) := by decide +kernel
theorem dX11_band_86 : decode cX11_band 86 = .ok (.iconst 1, 1) := by decide +kernel
theorem dX11_band_87 : decode cX11_band 87 = .ok (.goto 36, 3) := by decide +kernel
theorem dX11_band_90 : decode cX11_band 90 = .ok (.iconst 0, 1) := by decide +kernel
theorem dX11_band_91 : decode cX11_band 91 = .ok (.goto 32, 3) := by decide +kernel
theorem dX11_band_94 : decode cX11_band 94 = .ok (.aload_n 0, 1) := by decide +kernel
theorem dX11_band_95 : decode cX11_band 95 = .ok (.getfield 32, 3) := by decide +kernel
theorem dX11_band_98 : decode cX11_band 98 = .ok (.iconst 0, 1) := by decide +kernel
theorem dX11_band_99 : decode cX11_band 99 = .ok (.iaload, 1) := by decide +kernel
theorem dX11_band_100 : decode cX11_band 100 = .ok (.aload_n 0, 1) := by decide +kernel
theorem dX11_band_101 : decode cX11_band 101 = .ok (.getfield 29, 3) := by decide +kernel
theorem dX11_band_104 : decode cX11_band 104 = .ok (.iconst 5, 1) := by decide +kernel
theorem dX11_band_105 : decode cX11_band 105 = .ok (.iconst 3, 1) := by decide +kernel
theorem dX11_band_106 : decode cX11_band 106 = .ok (.aload_n 0, 1) := by decide +kernel
theorem dX11_band_107 : decode cX11_band 107 = .ok (.getfield 126, 3) := by decide +kernel
theorem dX11_band_110 : decode cX11_band 110 = .ok (.imul, 1) := by decide +kernel
theorem dX11_band_111 : decode cX11_band 111 = .ok (.iadd, 1) := by decide +kernel
theorem dX11_band_112 : decode cX11_band 112 = .ok (.iconst 3, 1) := by decide +kernel
theorem dX11_band_113 : decode cX11_band 113 = .ok (.isub, 1) := by decide +kernel
theorem dX11_band_114 : decode cX11_band 114 = .ok (.iaload, 1) := by decide +kernel
theorem dX11_band_115 : decode cX11_band 115 = .ok (.if_icmp .le 7, 3) := by decide +kernel
theorem dX11_band_118 : decode cX11_band 118 = .ok (.iconst 1, 1) := by decide +kernel
theorem dX11_band_119 : decode cX11_band 119 = .ok (.goto 4, 3) := by decide +kernel
theorem dX11_band_122 : decode cX11_band 122 = .ok (.iconst 0, 1) := by decide +kernel
theorem dX11_band_123 : decode cX11_band 123 = .ok (.istore_n 2, 1) := by decide +kernel
theorem dX11_band_124 : decode cX11_band 124 = .ok (.aload_n 0, 1) := by decide +kernel
theorem dX11_band_125 : decode cX11_band 125 = .ok (.getfield 126, 3) := by decide +kernel
theorem dX11_band_128 : decode cX11_band 128 = .ok (.bipush 6, 2) := by decide +kernel
theorem dX11_band_130 : decode cX11_band 130 = .ok (.if_icmp .eq 7, 3) := by decide +kernel
theorem dX11_band_133 : decode cX11_band 133 = .ok (.iload_n 2, 1) := by decide +kernel
theorem dX11_band_134 : decode cX11_band 134 = .ok (.ifCond .ne 14, 3) := by decide +kernel
theorem dX11_band_137 : decode cX11_band 137 = .ok (.aload_n 0, 1) := by decide +kernel
theorem dX11_band_138 : decode cX11_band 138 = .ok (.iconst 4, 1) := by decide +kernel
theorem dX11_band_139 : decode cX11_band 139 = .ok (.aload_n 0, 1) := by decide +kernel
theorem dX11_band_140 : decode cX11_band 140 = .ok (.getfield 32, 3) := by decide +kernel
theorem dX11_band_143 : decode cX11_band 143 = .ok (.iconst 0, 1) := by decide +kernel
theorem dX11_band_144 : decode cX11_band 144 = .ok (.iaload, 1) := by decide +kernel
theorem dX11_band_145 : decode cX11_band 145 = .ok (.invokevirtual 113, 3) := by decide +kernel
theorem dX11_band_148 : decode cX11_band 148 = .ok (.aload_n 0, 1) := by decide +kernel
theorem dX11_band_149 : decode cX11_band 149 = .ok (.getfield 103, 3) := by decide +kernel
theorem dX11_band_152 : decode cX11_band 152 = .ok (.ifCond .le 4, 3) := by decide +kernel
theorem dX11_band_155 : decode cX11_band 155 = .ok (.return_, 1) := by decide +kernel
theorem dX11_band_156 : decode cX11_band 156 = .ok (.iconst 0, 1) := by decide +kernel
theorem dX11_band_157 : decode cX11_band 157 = .ok (.istore_n 3, 1) := by decide +kernel
theorem dX11_band_158 : decode cX11_band 158 = .ok (.iload_n 3, 1) := by decide +kernel
theorem dX11_band_159 : decode cX11_band 159 = .ok (.iconst 3, 1) := by decide +kernel
theorem dX11_band_160 : decode cX11_band 160 = .ok (.if_icmp .ge 30, 3) := by decide +kernel
theorem dX11_band_163 : decode cX11_band 163 = .ok (.aload_n 0, 1) := by decide +kernel
theorem dX11_band_164 : decode cX11_band 164 = .ok (.getfield 29, 3) := by decide +kernel
theorem dX11_band_167 : decode cX11_band 167 = .ok (.iconst 5, 1) := by decide +kernel
theorem dX11_band_168 : decode cX11_band 168 = .ok (.iconst 3, 1) := by decide +kernel
theorem dX11_band_169 : decode cX11_band 169 = .ok (.aload_n 0, 1) := by decide +kernel
theorem dX11_band_170 : decode cX11_band 170 = .ok (.getfield 126, 3) := by decide +kernel
theorem dX11_band_173 : decode cX11_band 173 = .ok (.imul, 1) := by decide +kernel
theorem dX11_band_174 : decode cX11_band 174 = .ok (.iadd, 1) := by decide +kernel
theorem dX11_band_175 : decode cX11_band 175 = .ok (.iload_n 3, 1) := by decide +kernel
theorem dX11_band_176 : decode cX11_band 176 = .ok (.iadd, 1) := by decide +kernel
theorem dX11_band_177 : decode cX11_band 177 = .ok (.aload_n 0, 1) := by decide +kernel
theorem dX11_band_178 : decode cX11_band 178 = .ok (.getfield 32, 3) := by decide +kernel
theorem dX11_band_181 : decode cX11_band 181 = .ok (.iload_n 3, 1) := by decide +kernel
theorem dX11_band_182 : decode cX11_band 182 = .ok (.iaload, 1) := by decide +kernel
theorem dX11_band_183 : decode cX11_band 183 = .ok (.iastore, 1) := by decide +kernel
theorem dX11_band_184 : decode cX11_band 184 = .ok (.iinc 3 1, 3) := by decide +kernel
theorem dX11_band_187 : decode cX11_band 187 = .ok (.goto (-29), 3) := by decide +kernel
theorem dX11_band_190 : decode cX11_band 190 = .ok (.aload_n 0, 1) := by decide +kernel
theorem dX11_band_191 : decode cX11_band 191 = .ok (.dup, 1) := by decide +kernel
theorem dX11_band_192 : decode cX11_band 192 = .ok (.getfield 126, 3) := by decide +kernel
theorem dX11_band_195 : decode cX11_band 195 = .ok (.iconst 1, 1) := by decide +kernel
theorem dX11_band_196 : decode cX11_band 196 = .ok (.iadd, 1) := by decide +kernel
theorem dX11_band_197 : decode cX11_band 197 = .ok (.putfield 126, 3) := by decide +kernel
theorem dX11_band_200 : decode cX11_band 200 = .ok (.return_, 1) := by decide +kernel
theorem dX11_amount_0 : decode cX11_amount 0 = .ok (.aload_n 0, 1) := by decide +kernel
theorem dX11_amount_1 : decode cX11_amount 1 = .ok (.bipush 32, 2) := by decide +kernel
theorem dX11_amount_3 : decode cX11_amount 3 = .ok (.invokevirtual 116, 3) := by decide +kernel
theorem dX11_amount_6 : decode cX11_amount 6 = .ok (.aload_n 0, 1) := by decide +kernel
theorem dX11_amount_7 : decode cX11_amount 7 = .ok (.iconst 0, 1) := by decide +kernel
theorem dX11_amount_8 : decode cX11_amount 8 = .ok (.invokevirtual 119, 3) := by decide +kernel
theorem dX11_amount_11 : decode cX11_amount 11 = .ok (.aload_n 0, 1) := by decide +kernel
theorem dX11_amount_12 : decode cX11_amount 12 = .ok (.iconst 0, 1) := by decide +kernel
theorem dX11_amount_13 : decode cX11_amount 13 = .ok (.iconst 0, 1) := by decide +kernel
theorem dX11_amount_14 : decode cX11_amount 14 = .ok (.iload_n 2, 1) := by decide +kernel
theorem dX11_amount_15 : decode cX11_amount 15 = .ok (.invokevirtual 122, 3) := by decide +kernel
theorem dX11_amount_18 : decode cX11_amount 18 = .ok (.aload_n 0, 1) := by decide +kernel
theorem dX11_amount_19 : decode cX11_amount 19 = .ok (.getfield 103, 3) := by decide +kernel
theorem dX11_amount_22 : decode cX11_amount 22 = .ok (.ifCond .ne 15, 3) := by decide +kernel
theorem dX11_amount_25 : decode cX11_amount 25 = .ok (.aload_n 0, 1) := by decide +kernel
theorem dX11_amount_26 : decode cX11_amount 26 = .ok (.getfield 29, 3) := by decide +kernel
theorem dX11_amount_29 : decode cX11_amount 29 = .ok (.iload_n 1, 1) := by decide +kernel
theorem dX11_amount_30 : decode cX11_amount 30 = .ok (.aload_n 0, 1) := by decide +kernel
theorem dX11_amount_31 : decode cX11_amount 31 = .ok (.getfield 32, 3) := by decide +kernel
theorem dX11_amount_34 : decode cX11_amount 34 = .ok (.iconst 0, 1) := by decide +kernel
theorem dX11_amount_35 : decode cX11_amount 35 = .ok (.iaload, 1) := by decide +kernel
theorem dX11_amount_36 : decode cX11_amount 36 = .ok (.iastore, 1) := by decide +kernel
theorem dX11_amount_37 : decode cX11_amount 37 = .ok (.return_, 1) := by decide +kernel
theorem dX11_clause_0 : decode cX11_clause 0 = .ok (.aload_n 0, 1) := by decide +kernel
theorem dX11_clause_1 : decode cX11_clause 1 = .ok (.getfield 100, 3) := by decide +kernel
theorem dX11_clause_4 : decode cX11_clause 4 = .ok (.istore_n 1, 1) := by decide +kernel
theorem dX11_clause_5 : decode cX11_clause 5 = .ok (.aload_n 0, 1) := by decide +kernel
theorem dX11_clause_6 : decode cX11_clause 6 = .ok (.invokevirtual 109, 3) := by decide +kernel
theorem dX11_clause_9 : decode cX11_clause 9 = .ok (.bipush 97, 2) := by decide +kernel
theorem dX11_clause_11 : decode cX11_clause 11 = .ok (.bipush 122, 2) := by decide +kernel
theorem dX11_clause_13 : decode cX11_clause 13 = .ok (.invokestatic 39, 3) := by decide +kernel
theorem dX11_clause_16 : decode cX11_clause 16 = .ok (.ifCond .eq 16, 3) := by decide +kernel
theorem dX11_clause_19 : decode cX11_clause 19 = .ok (.aload_n 0, 1) := by decide +kernel
theorem dX11_clause_20 : decode cX11_clause 20 = .ok (.dup, 1) := by decide +kernel
theorem dX11_clause_21 : decode cX11_clause 21 = .ok (.getfield 100, 3) := by decide +kernel
theorem dX11_clause_24 : decode cX11_clause 24 = .ok (.iconst 1, 1) := by decide +kernel
theorem dX11_clause_25 : decode cX11_clause 25 = .ok (.iadd, 1) := by decide +kernel
theorem dX11_clause_26 : decode cX11_clause 26 = .ok (.putfield 100, 3) := by decide +kernel
theorem dX11_clause_29 : decode cX11_clause 29 = .ok (.goto (-24), 3) := by decide +kernel
theorem dX11_clause_32 : decode cX11_clause 32 = .ok (.aload_n 0, 1) := by decide +kernel
theorem dX11_clause_33 : decode cX11_clause 33 = .ok (.getfield 100, 3) := by decide +kernel
theorem dX11_clause_36 : decode cX11_clause 36 = .ok (.iload_n 1, 1) := by decide +kernel
theorem dX11_clause_37 : decode cX11_clause 37 = .ok (.isub, 1) := by decide +kernel
theorem dX11_clause_38 : decode cX11_clause 38 = .ok (.istore_n 2, 1) := by decide +kernel
theorem dX11_clause_39 : decode cX11_clause 39 = .ok (.aload_n 0, 1) := by decide +kernel
theorem dX11_clause_40 : decode cX11_clause 40 = .ok (.iload_n 1, 1) := by decide +kernel
theorem dX11_clause_41 : decode cX11_clause 41 = .ok (.iload_n 2, 1) := by decide +kernel
theorem dX11_clause_42 : decode cX11_clause 42 = .ok (.bipush 102, 2) := by decide +kernel
theorem dX11_clause_44 : decode cX11_clause 44 = .ok (.bipush 114, 2) := by decide +kernel
theorem dX11_clause_46 : decode cX11_clause 46 = .ok (.bipush 101, 2) := by decide +kernel
theorem dX11_clause_48 : decode cX11_clause 48 = .ok (.bipush 101, 2) := by decide +kernel
theorem dX11_clause_50 : decode cX11_clause 50 = .ok (.invokevirtual 129, 3) := by decide +kernel
theorem dX11_clause_53 : decode cX11_clause 53 = .ok (.ifCond .eq 13, 3) := by decide +kernel
theorem dX11_clause_56 : decode cX11_clause 56 = .ok (.aload_n 0, 1) := by decide +kernel
theorem dX11_clause_57 : decode cX11_clause 57 = .ok (.iconst 0, 1) := by decide +kernel
theorem dX11_clause_58 : decode cX11_clause 58 = .ok (.bipush 60, 2) := by decide +kernel
theorem dX11_clause_60 : decode cX11_clause 60 = .ok (.invokevirtual 133, 3) := by decide +kernel
theorem dX11_clause_63 : decode cX11_clause 63 = .ok (.goto 115, 3) := by decide +kernel
theorem dX11_clause_66 : decode cX11_clause 66 = .ok (.aload_n 0, 1) := by decide +kernel
theorem dX11_clause_67 : decode cX11_clause 67 = .ok (.iload_n 1, 1) := by decide +kernel
theorem dX11_clause_68 : decode cX11_clause 68 = .ok (.iload_n 2, 1) := by decide +kernel
theorem dX11_clause_69 : decode cX11_clause 69 = .ok (.bipush 99, 2) := by decide +kernel
theorem dX11_clause_71 : decode cX11_clause 71 = .ok (.bipush 97, 2) := by decide +kernel
theorem dX11_clause_73 : decode cX11_clause 73 = .ok (.bipush 112, 2) := by decide +kernel
theorem dX11_clause_75 : decode cX11_clause 75 = .ok (.iconst 0, 1) := by decide +kernel
theorem dX11_clause_76 : decode cX11_clause 76 = .ok (.invokevirtual 129, 3) := by decide +kernel
theorem dX11_clause_79 : decode cX11_clause 79 = .ok (.ifCond .eq 14, 3) := by decide +kernel
theorem dX11_clause_82 : decode cX11_clause 82 = .ok (.aload_n 0, 1) := by decide +kernel
theorem dX11_clause_83 : decode cX11_clause 83 = .ok (.iconst 1, 1) := by decide +kernel
theorem dX11_clause_84 : decode cX11_clause 84 = .ok (.sipush 9999, 3) := by decide +kernel
theorem dX11_clause_87 : decode cX11_clause 87 = .ok (.invokevirtual 133, 3) := by decide +kernel
theorem dX11_clause_90 : decode cX11_clause 90 = .ok (.goto 88, 3) := by decide +kernel
theorem dX11_clause_93 : decode cX11_clause 93 = .ok (.aload_n 0, 1) := by decide +kernel
theorem dX11_clause_94 : decode cX11_clause 94 = .ok (.iload_n 1, 1) := by decide +kernel
theorem dX11_clause_95 : decode cX11_clause 95 = .ok (.iload_n 2, 1) := by decide +kernel
theorem dX11_clause_96 : decode cX11_clause 96 = .ok (.bipush 108, 2) := by decide +kernel
theorem dX11_clause_98 : decode cX11_clause 98 = .ok (.bipush 111, 2) := by decide +kernel
theorem dX11_clause_100 : decode cX11_clause 100 = .ok (.bipush 115, 2) := by decide +kernel
theorem dX11_clause_102 : decode cX11_clause 102 = .ok (.bipush 116, 2) := by decide +kernel
theorem dX11_clause_104 : decode cX11_clause 104 = .ok (.invokevirtual 129, 3) := by decide +kernel
theorem dX11_clause_107 : decode cX11_clause 107 = .ok (.ifCond .eq 14, 3) := by decide +kernel
theorem dX11_clause_110 : decode cX11_clause 110 = .ok (.aload_n 0, 1) := by decide +kernel
theorem dX11_clause_111 : decode cX11_clause 111 = .ok (.iconst 3, 1) := by decide +kernel
theorem dX11_clause_112 : decode cX11_clause 112 = .ok (.sipush 9999, 3) := by decide +kernel
theorem dX11_clause_115 : decode cX11_clause 115 = .ok (.invokevirtual 133, 3) := by decide +kernel
theorem dX11_clause_118 : decode cX11_clause 118 = .ok (.goto 60, 3) := by decide +kernel
theorem dX11_clause_121 : decode cX11_clause 121 = .ok (.aload_n 0, 1) := by decide +kernel
theorem dX11_clause_122 : decode cX11_clause 122 = .ok (.iload_n 1, 1) := by decide +kernel
theorem dX11_clause_123 : decode cX11_clause 123 = .ok (.iload_n 2, 1) := by decide +kernel
theorem dX11_clause_124 : decode cX11_clause 124 = .ok (.bipush 100, 2) := by decide +kernel
theorem dX11_clause_126 : decode cX11_clause 126 = .ok (.bipush 97, 2) := by decide +kernel
theorem dX11_clause_128 : decode cX11_clause 128 = .ok (.bipush 121, 2) := by decide +kernel
theorem dX11_clause_130 : decode cX11_clause 130 = .ok (.bipush 115, 2) := by decide +kernel
theorem dX11_clause_132 : decode cX11_clause 132 = .ok (.invokevirtual 129, 3) := by decide +kernel
theorem dX11_clause_135 : decode cX11_clause 135 = .ok (.ifCond .eq 13, 3) := by decide +kernel
theorem dX11_clause_138 : decode cX11_clause 138 = .ok (.aload_n 0, 1) := by decide +kernel
theorem dX11_clause_139 : decode cX11_clause 139 = .ok (.getfield 29, 3) := by decide +kernel
theorem dX11_clause_142 : decode cX11_clause 142 = .ok (.iconst 2, 1) := by decide +kernel
theorem dX11_clause_143 : decode cX11_clause 143 = .ok (.iconst 1, 1) := by decide +kernel
theorem dX11_clause_144 : decode cX11_clause 144 = .ok (.iastore, 1) := by decide +kernel
theorem dX11_clause_145 : decode cX11_clause 145 = .ok (.goto 33, 3) := by decide +kernel
theorem dX11_clause_148 : decode cX11_clause 148 = .ok (.aload_n 0, 1) := by decide +kernel
theorem dX11_clause_149 : decode cX11_clause 149 = .ok (.iload_n 1, 1) := by decide +kernel
theorem dX11_clause_150 : decode cX11_clause 150 = .ok (.iload_n 2, 1) := by decide +kernel
theorem dX11_clause_151 : decode cX11_clause 151 = .ok (.bipush 98, 2) := by decide +kernel
theorem dX11_clause_153 : decode cX11_clause 153 = .ok (.bipush 97, 2) := by decide +kernel
theorem dX11_clause_155 : decode cX11_clause 155 = .ok (.bipush 110, 2) := by decide +kernel
theorem dX11_clause_157 : decode cX11_clause 157 = .ok (.bipush 100, 2) := by decide +kernel
theorem dX11_clause_159 : decode cX11_clause 159 = .ok (.invokevirtual 129, 3) := by decide +kernel
theorem dX11_clause_162 : decode cX11_clause 162 = .ok (.ifCond .eq 10, 3) := by decide +kernel
theorem dX11_clause_165 : decode cX11_clause 165 = .ok (.aload_n 0, 1) := by decide +kernel
theorem dX11_clause_166 : decode cX11_clause 166 = .ok (.invokevirtual 136, 3) := by decide +kernel
theorem dX11_clause_169 : decode cX11_clause 169 = .ok (.goto 9, 3) := by decide +kernel
theorem dX11_clause_172 : decode cX11_clause 172 = .ok (.aload_n 0, 1) := by decide +kernel
theorem dX11_clause_173 : decode cX11_clause 173 = .ok (.iconst 3, 1) := by decide +kernel
theorem dX11_clause_174 : decode cX11_clause 174 = .ok (.iload_n 1, 1) := by decide +kernel
theorem dX11_clause_175 : decode cX11_clause 175 = .ok (.invokevirtual 113, 3) := by decide +kernel
theorem dX11_clause_178 : decode cX11_clause 178 = .ok (.return_, 1) := by decide +kernel
theorem dX11_reads_0 : decode cX11_reads 0 = .ok (.aload_n 0, 1) := by decide +kernel
theorem dX11_reads_1 : decode cX11_reads 1 = .ok (.iconst 0, 1) := by decide +kernel
theorem dX11_reads_2 : decode cX11_reads 2 = .ok (.putfield 100, 3) := by decide +kernel
theorem dX11_reads_5 : decode cX11_reads 5 = .ok (.aload_n 0, 1) := by decide +kernel
theorem dX11_reads_6 : decode cX11_reads 6 = .ok (.iconst 0, 1) := by decide +kernel
theorem dX11_reads_7 : decode cX11_reads 7 = .ok (.putfield 139, 3) := by decide +kernel
theorem dX11_reads_10 : decode cX11_reads 10 = .ok (.aload_n 0, 1) := by decide +kernel
theorem dX11_reads_11 : decode cX11_reads 11 = .ok (.iconst 0, 1) := by decide +kernel
theorem dX11_reads_12 : decode cX11_reads 12 = .ok (.putfield 103, 3) := by decide +kernel
theorem dX11_reads_15 : decode cX11_reads 15 = .ok (.aload_n 0, 1) := by decide +kernel
theorem dX11_reads_16 : decode cX11_reads 16 = .ok (.iconst 0, 1) := by decide +kernel
theorem dX11_reads_17 : decode cX11_reads 17 = .ok (.putfield 126, 3) := by decide +kernel
theorem dX11_reads_20 : decode cX11_reads 20 = .ok (.aload_n 0, 1) := by decide +kernel
theorem dX11_reads_21 : decode cX11_reads 21 = .ok (.invokevirtual 142, 3) := by decide +kernel
theorem dX11_reads_24 : decode cX11_reads 24 = .ok (.aload_n 0, 1) := by decide +kernel
theorem dX11_reads_25 : decode cX11_reads 25 = .ok (.getfield 103, 3) := by decide +kernel
theorem dX11_reads_28 : decode cX11_reads 28 = .ok (.ifCond .ne 39, 3) := by decide +kernel
theorem dX11_reads_31 : decode cX11_reads 31 = .ok (.aload_n 0, 1) := by decide +kernel
theorem dX11_reads_32 : decode cX11_reads 32 = .ok (.invokevirtual 109, 3) := by decide +kernel
theorem dX11_reads_35 : decode cX11_reads 35 = .ok (.bipush 59, 2) := by decide +kernel
theorem dX11_reads_37 : decode cX11_reads 37 = .ok (.if_icmp .ne 30, 3) := by decide +kernel
theorem dX11_reads_40 : decode cX11_reads 40 = .ok (.aload_n 0, 1) := by decide +kernel
theorem dX11_reads_41 : decode cX11_reads 41 = .ok (.dup, 1) := by decide +kernel
theorem dX11_reads_42 : decode cX11_reads 42 = .ok (.getfield 100, 3) := by decide +kernel
theorem dX11_reads_45 : decode cX11_reads 45 = .ok (.iconst 1, 1) := by decide +kernel
theorem dX11_reads_46 : decode cX11_reads 46 = .ok (.iadd, 1) := by decide +kernel
theorem dX11_reads_47 : decode cX11_reads 47 = .ok (.putfield 100, 3) := by decide +kernel
theorem dX11_reads_50 : decode cX11_reads 50 = .ok (.aload_n 0, 1) := by decide +kernel
theorem dX11_reads_51 : decode cX11_reads 51 = .ok (.dup, 1) := by decide +kernel
theorem dX11_reads_52 : decode cX11_reads 52 = .ok (.getfield 139, 3) := by decide +kernel
theorem dX11_reads_55 : decode cX11_reads 55 = .ok (.iconst 1, 1) := by decide +kernel
theorem dX11_reads_56 : decode cX11_reads 56 = .ok (.iadd, 1) := by decide +kernel
theorem dX11_reads_57 : decode cX11_reads 57 = .ok (.putfield 139, 3) := by decide +kernel
theorem dX11_reads_60 : decode cX11_reads 60 = .ok (.aload_n 0, 1) := by decide +kernel
theorem dX11_reads_61 : decode cX11_reads 61 = .ok (.invokevirtual 142, 3) := by decide +kernel
theorem dX11_reads_64 : decode cX11_reads 64 = .ok (.goto (-40), 3) := by decide +kernel
theorem dX11_reads_67 : decode cX11_reads 67 = .ok (.aload_n 0, 1) := by decide +kernel
theorem dX11_reads_68 : decode cX11_reads 68 = .ok (.getfield 100, 3) := by decide +kernel
theorem dX11_reads_71 : decode cX11_reads 71 = .ok (.aload_n 0, 1) := by decide +kernel
theorem dX11_reads_72 : decode cX11_reads 72 = .ok (.getfield 97, 3) := by decide +kernel
theorem dX11_reads_75 : decode cX11_reads 75 = .ok (.if_icmp .ge 12, 3) := by decide +kernel
theorem dX11_reads_78 : decode cX11_reads 78 = .ok (.aload_n 0, 1) := by decide +kernel
theorem dX11_reads_79 : decode cX11_reads 79 = .ok (.iconst 3, 1) := by decide +kernel
theorem dX11_reads_80 : decode cX11_reads 80 = .ok (.aload_n 0, 1) := by decide +kernel
theorem dX11_reads_81 : decode cX11_reads 81 = .ok (.getfield 100, 3) := by decide +kernel
theorem dX11_reads_84 : decode cX11_reads 84 = .ok (.invokevirtual 113, 3) := by decide +kernel
theorem dX11_reads_87 : decode cX11_reads 87 = .ok (.return_, 1) := by decide +kernel
theorem dX11_reports_0 : decode cX11_reports 0 = .ok (.aload_n 0, 1) := by decide +kernel
theorem dX11_reports_1 : decode cX11_reports 1 = .ok (.iconst 3, 1) := by decide +kernel
theorem dX11_reports_2 : decode cX11_reports 2 = .ok (.putfield 144, 3) := by decide +kernel
theorem dX11_reports_5 : decode cX11_reports 5 = .ok (.aload_n 0, 1) := by decide +kernel
theorem dX11_reports_6 : decode cX11_reports 6 = .ok (.getfield 26, 3) := by decide +kernel
theorem dX11_reports_9 : decode cX11_reports 9 = .ok (.iconst 0, 1) := by decide +kernel
theorem dX11_reports_10 : decode cX11_reports 10 = .ok (.iconst 1, 1) := by decide +kernel
theorem dX11_reports_11 : decode cX11_reports 11 = .ok (.iastore, 1) := by decide +kernel
theorem dX11_reports_12 : decode cX11_reports 12 = .ok (.aload_n 0, 1) := by decide +kernel
theorem dX11_reports_13 : decode cX11_reports 13 = .ok (.getfield 26, 3) := by decide +kernel
theorem dX11_reports_16 : decode cX11_reports 16 = .ok (.iconst 1, 1) := by decide +kernel
theorem dX11_reports_17 : decode cX11_reports 17 = .ok (.iload_n 1, 1) := by decide +kernel
theorem dX11_reports_18 : decode cX11_reports 18 = .ok (.iastore, 1) := by decide +kernel
theorem dX11_reports_19 : decode cX11_reports 19 = .ok (.aload_n 0, 1) := by decide +kernel
theorem dX11_reports_20 : decode cX11_reports 20 = .ok (.getfield 26, 3) := by decide +kernel
theorem dX11_reports_23 : decode cX11_reports 23 = .ok (.iconst 2, 1) := by decide +kernel
theorem dX11_reports_24 : decode cX11_reports 24 = .ok (.iconst 2, 1) := by decide +kernel
theorem dX11_reports_25 : decode cX11_reports 25 = .ok (.iastore, 1) := by decide +kernel
theorem dX11_reports_26 : decode cX11_reports 26 = .ok (.aload_n 0, 1) := by decide +kernel
theorem dX11_reports_27 : decode cX11_reports 27 = .ok (.getfield 26, 3) := by decide +kernel
theorem dX11_reports_30 : decode cX11_reports 30 = .ok (.iconst 3, 1) := by decide +kernel
theorem dX11_reports_31 : decode cX11_reports 31 = .ok (.aload_n 0, 1) := by decide +kernel
theorem dX11_reports_32 : decode cX11_reports 32 = .ok (.getfield 139, 3) := by decide +kernel
theorem dX11_reports_35 : decode cX11_reports 35 = .ok (.iastore, 1) := by decide +kernel
theorem dX11_reports_36 : decode cX11_reports 36 = .ok (.aload_n 0, 1) := by decide +kernel
theorem dX11_reports_37 : decode cX11_reports 37 = .ok (.getfield 26, 3) := by decide +kernel
theorem dX11_reports_40 : decode cX11_reports 40 = .ok (.iconst 4, 1) := by decide +kernel
theorem dX11_reports_41 : decode cX11_reports 41 = .ok (.aload_n 0, 1) := by decide +kernel
theorem dX11_reports_42 : decode cX11_reports 42 = .ok (.getfield 103, 3) := by decide +kernel
theorem dX11_reports_45 : decode cX11_reports 45 = .ok (.iastore, 1) := by decide +kernel
theorem dX11_reports_46 : decode cX11_reports 46 = .ok (.aload_n 0, 1) := by decide +kernel
theorem dX11_reports_47 : decode cX11_reports 47 = .ok (.getfield 26, 3) := by decide +kernel
theorem dX11_reports_50 : decode cX11_reports 50 = .ok (.iconst 5, 1) := by decide +kernel
theorem dX11_reports_51 : decode cX11_reports 51 = .ok (.aload_n 0, 1) := by decide +kernel
theorem dX11_reports_52 : decode cX11_reports 52 = .ok (.getfield 106, 3) := by decide +kernel
theorem dX11_reports_55 : decode cX11_reports 55 = .ok (.iastore, 1) := by decide +kernel
theorem dX11_reports_56 : decode cX11_reports 56 = .ok (.return_, 1) := by decide +kernel
theorem dX11_readPlan_0 : decode cX11_readPlan 0 = .ok (.iload_n 1, 1) := by decide +kernel
theorem dX11_readPlan_1 : decode cX11_readPlan 1 = .ok (.invokestatic 84, 3) := by decide +kernel
theorem dX11_readPlan_4 : decode cX11_readPlan 4 = .ok (.ifCond .ne 11, 3) := by decide +kernel
theorem dX11_readPlan_7 : decode cX11_readPlan 7 = .ok (.aload_n 0, 1) := by decide +kernel
theorem dX11_readPlan_8 : decode cX11_readPlan 8 = .ok (.iconst 0, 1) := by decide +kernel
theorem dX11_readPlan_9 : decode cX11_readPlan 9 = .ok (.putfield 97, 3) := by decide +kernel
theorem dX11_readPlan_12 : decode cX11_readPlan 12 = .ok (.bipush (-2), 2) := by decide +kernel
theorem dX11_readPlan_14 : decode cX11_readPlan 14 = .ok (.ireturn, 1) := by decide +kernel
theorem dX11_readPlan_15 : decode cX11_readPlan 15 = .ok (.iconst 0, 1) := by decide +kernel
theorem dX11_readPlan_16 : decode cX11_readPlan 16 = .ok (.istore_n 2, 1) := by decide +kernel
theorem dX11_readPlan_17 : decode cX11_readPlan 17 = .ok (.iload_n 2, 1) := by decide +kernel
theorem dX11_readPlan_18 : decode cX11_readPlan 18 = .ok (.bipush 23, 2) := by decide +kernel
theorem dX11_readPlan_20 : decode cX11_readPlan 20 = .ok (.if_icmp .ge 16, 3) := by decide +kernel
theorem dX11_readPlan_23 : decode cX11_readPlan 23 = .ok (.aload_n 0, 1) := by decide +kernel
theorem dX11_readPlan_24 : decode cX11_readPlan 24 = .ok (.getfield 29, 3) := by decide +kernel
theorem dX11_readPlan_27 : decode cX11_readPlan 27 = .ok (.iload_n 2, 1) := by decide +kernel
theorem dX11_readPlan_28 : decode cX11_readPlan 28 = .ok (.iconst 0, 1) := by decide +kernel
theorem dX11_readPlan_29 : decode cX11_readPlan 29 = .ok (.iastore, 1) := by decide +kernel
theorem dX11_readPlan_30 : decode cX11_readPlan 30 = .ok (.iinc 2 1, 3) := by decide +kernel
theorem dX11_readPlan_33 : decode cX11_readPlan 33 = .ok (.goto (-16), 3) := by decide +kernel
theorem dX11_readPlan_36 : decode cX11_readPlan 36 = .ok (.aload_n 0, 1) := by decide +kernel
theorem dX11_readPlan_37 : decode cX11_readPlan 37 = .ok (.getfield 29, 3) := by decide +kernel
theorem dX11_readPlan_40 : decode cX11_readPlan 40 = .ok (.iconst 3, 1) := by decide +kernel
theorem dX11_readPlan_41 : decode cX11_readPlan 41 = .ok (.sipush 2000, 3) := by decide +kernel
theorem dX11_readPlan_44 : decode cX11_readPlan 44 = .ok (.iastore, 1) := by decide +kernel
theorem dX11_readPlan_45 : decode cX11_readPlan 45 = .ok (.aload_n 0, 1) := by decide +kernel
theorem dX11_readPlan_46 : decode cX11_readPlan 46 = .ok (.getfield 29, 3) := by decide +kernel
theorem dX11_readPlan_49 : decode cX11_readPlan 49 = .ok (.iconst 4, 1) := by decide +kernel
theorem dX11_readPlan_50 : decode cX11_readPlan 50 = .ok (.iconst 1, 1) := by decide +kernel
theorem dX11_readPlan_51 : decode cX11_readPlan 51 = .ok (.iastore, 1) := by decide +kernel
theorem dX11_readPlan_52 : decode cX11_readPlan 52 = .ok (.aload_n 0, 1) := by decide +kernel
theorem dX11_readPlan_53 : decode cX11_readPlan 53 = .ok (.invokevirtual 147, 3) := by decide +kernel
theorem dX11_readPlan_56 : decode cX11_readPlan 56 = .ok (.aload_n 0, 1) := by decide +kernel
theorem dX11_readPlan_57 : decode cX11_readPlan 57 = .ok (.iconst 0, 1) := by decide +kernel
theorem dX11_readPlan_58 : decode cX11_readPlan 58 = .ok (.putfield 97, 3) := by decide +kernel
theorem dX11_readPlan_61 : decode cX11_readPlan 61 = .ok (.aload_n 0, 1) := by decide +kernel
theorem dX11_readPlan_62 : decode cX11_readPlan 62 = .ok (.getfield 103, 3) := by decide +kernel
theorem dX11_readPlan_65 : decode cX11_readPlan 65 = .ok (.ifCond .le 11, 3) := by decide +kernel
theorem dX11_readPlan_68 : decode cX11_readPlan 68 = .ok (.aload_n 0, 1) := by decide +kernel
theorem dX11_readPlan_69 : decode cX11_readPlan 69 = .ok (.iload_n 1, 1) := by decide +kernel
theorem dX11_readPlan_70 : decode cX11_readPlan 70 = .ok (.invokevirtual 150, 3) := by decide +kernel
theorem dX11_readPlan_73 : decode cX11_readPlan 73 = .ok (.bipush (-5), 2) := by decide +kernel
theorem dX11_readPlan_75 : decode cX11_readPlan 75 = .ok (.ireturn, 1) := by decide +kernel
theorem dX11_readPlan_76 : decode cX11_readPlan 76 = .ok (.aload_n 0, 1) := by decide +kernel
theorem dX11_readPlan_77 : decode cX11_readPlan 77 = .ok (.getfield 126, 3) := by decide +kernel
theorem dX11_readPlan_80 : decode cX11_readPlan 80 = .ok (.ifCond .ne 28, 3) := by decide +kernel
theorem dX11_readPlan_83 : decode cX11_readPlan 83 = .ok (.aload_n 0, 1) := by decide +kernel
theorem dX11_readPlan_84 : decode cX11_readPlan 84 = .ok (.getfield 29, 3) := by decide +kernel
theorem dX11_readPlan_87 : decode cX11_readPlan 87 = .ok (.iconst 5, 1) := by decide +kernel
theorem dX11_readPlan_88 : decode cX11_readPlan 88 = .ok (.iconst 0, 1) := by decide +kernel
theorem dX11_readPlan_89 : decode cX11_readPlan 89 = .ok (.iastore, 1) := by decide +kernel
theorem dX11_readPlan_90 : decode cX11_readPlan 90 = .ok (.aload_n 0, 1) := by decide +kernel
theorem dX11_readPlan_91 : decode cX11_readPlan 91 = .ok (.getfield 29, 3) := by decide +kernel
theorem dX11_readPlan_94 : decode cX11_readPlan 94 = .ok (.bipush 6, 2) := by decide +kernel
theorem dX11_readPlan_96 : decode cX11_readPlan 96 = .ok (.bipush 100, 2) := by decide +kernel
theorem dX11_readPlan_98 : decode cX11_readPlan 98 = .ok (.iastore, 1) := by decide +kernel
theorem dX11_readPlan_99 : decode cX11_readPlan 99 = .ok (.aload_n 0, 1) := by decide +kernel
theorem dX11_readPlan_100 : decode cX11_readPlan 100 = .ok (.getfield 29, 3) := by decide +kernel
theorem dX11_readPlan_103 : decode cX11_readPlan 103 = .ok (.bipush 7, 2) := by decide +kernel
theorem dX11_readPlan_105 : decode cX11_readPlan 105 = .ok (.bipush 60, 2) := by decide +kernel
theorem dX11_readPlan_107 : decode cX11_readPlan 107 = .ok (.iastore, 1) := by decide +kernel
theorem dX11_readPlan_108 : decode cX11_readPlan 108 = .ok (.aload_n 0, 1) := by decide +kernel
theorem dX11_readPlan_109 : decode cX11_readPlan 109 = .ok (.getfield 29, 3) := by decide +kernel
theorem dX11_readPlan_112 : decode cX11_readPlan 112 = .ok (.iconst 4, 1) := by decide +kernel
theorem dX11_readPlan_113 : decode cX11_readPlan 113 = .ok (.aload_n 0, 1) := by decide +kernel
theorem dX11_readPlan_114 : decode cX11_readPlan 114 = .ok (.getfield 126, 3) := by decide +kernel
theorem dX11_readPlan_117 : decode cX11_readPlan 117 = .ok (.ifCond .ne 7, 3) := by decide +kernel
theorem dX11_readPlan_120 : decode cX11_readPlan 120 = .ok (.iconst 1, 1) := by decide +kernel
theorem dX11_readPlan_121 : decode cX11_readPlan 121 = .ok (.goto 7, 3) := by decide +kernel
theorem dX11_readPlan_124 : decode cX11_readPlan 124 = .ok (.aload_n 0, 1) := by decide +kernel
theorem dX11_readPlan_125 : decode cX11_readPlan 125 = .ok (.getfield 126, 3) := by decide +kernel
theorem dX11_readPlan_128 : decode cX11_readPlan 128 = .ok (.iastore, 1) := by decide +kernel
theorem dX11_readPlan_129 : decode cX11_readPlan 129 = .ok (.iconst 0, 1) := by decide +kernel
theorem dX11_readPlan_130 : decode cX11_readPlan 130 = .ok (.istore_n 2, 1) := by decide +kernel
theorem dX11_readPlan_131 : decode cX11_readPlan 131 = .ok (.iload_n 2, 1) := by decide +kernel
theorem dX11_readPlan_132 : decode cX11_readPlan 132 = .ok (.bipush 23, 2) := by decide +kernel
theorem dX11_readPlan_134 : decode cX11_readPlan 134 = .ok (.if_icmp .ge 29, 3) := by decide +kernel
theorem dX11_readPlan_137 : decode cX11_readPlan 137 = .ok (.aload_n 0, 1) := by decide +kernel
theorem dX11_readPlan_138 : decode cX11_readPlan 138 = .ok (.getfield 7, 3) := by decide +kernel
theorem dX11_readPlan_141 : decode cX11_readPlan 141 = .ok (.bipush 10, 2) := by decide +kernel
theorem dX11_readPlan_143 : decode cX11_readPlan 143 = .ok (.bipush 23, 2) := by decide +kernel
theorem dX11_readPlan_145 : decode cX11_readPlan 145 = .ok (.iload_n 1, 1) := by decide +kernel
theorem dX11_readPlan_146 : decode cX11_readPlan 146 = .ok (.imul, 1) := by decide +kernel
theorem dX11_readPlan_147 : decode cX11_readPlan 147 = .ok (.iadd, 1) := by decide +kernel
theorem dX11_readPlan_148 : decode cX11_readPlan 148 = .ok (.iload_n 2, 1) := by decide +kernel
theorem dX11_readPlan_149 : decode cX11_readPlan 149 = .ok (.iadd, 1) := by decide +kernel
theorem dX11_readPlan_150 : decode cX11_readPlan 150 = .ok (.aload_n 0, 1) := by decide +kernel
theorem dX11_readPlan_151 : decode cX11_readPlan 151 = .ok (.getfield 29, 3) := by decide +kernel
theorem dX11_readPlan_154 : decode cX11_readPlan 154 = .ok (.iload_n 2, 1) := by decide +kernel
theorem dX11_readPlan_155 : decode cX11_readPlan 155 = .ok (.iaload, 1) := by decide +kernel
theorem dX11_readPlan_156 : decode cX11_readPlan 156 = .ok (.iastore, 1) := by decide +kernel
theorem dX11_readPlan_157 : decode cX11_readPlan 157 = .ok (.iinc 2 1, 3) := by decide +kernel
theorem dX11_readPlan_160 : decode cX11_readPlan 160 = .ok (.goto (-29), 3) := by decide +kernel
theorem dX11_readPlan_163 : decode cX11_readPlan 163 = .ok (.aload_n 0, 1) := by decide +kernel
theorem dX11_readPlan_164 : decode cX11_readPlan 164 = .ok (.getfield 29, 3) := by decide +kernel
theorem dX11_readPlan_167 : decode cX11_readPlan 167 = .ok (.iconst 4, 1) := by decide +kernel
theorem dX11_readPlan_168 : decode cX11_readPlan 168 = .ok (.iaload, 1) := by decide +kernel
theorem dX11_readPlan_169 : decode cX11_readPlan 169 = .ok (.ireturn, 1) := by decide +kernel
theorem dX11_plan_0 : decode cX11_plan 0 = .ok (.iload_n 1, 1) := by decide +kernel
theorem dX11_plan_1 : decode cX11_plan 1 = .ok (.invokestatic 84, 3) := by decide +kernel
theorem dX11_plan_4 : decode cX11_plan 4 = .ok (.ifCond .eq 21, 3) := by decide +kernel
theorem dX11_plan_7 : decode cX11_plan 7 = .ok (.iload_n 2, 1) := by decide +kernel
theorem dX11_plan_8 : decode cX11_plan 8 = .ok (.iconst 0, 1) := by decide +kernel
theorem dX11_plan_9 : decode cX11_plan 9 = .ok (.iconst 4, 1) := by decide +kernel
theorem dX11_plan_10 : decode cX11_plan 10 = .ok (.invokestatic 39, 3) := by decide +kernel
theorem dX11_plan_13 : decode cX11_plan 13 = .ok (.ifCond .eq 12, 3) := by decide +kernel
theorem dX11_plan_16 : decode cX11_plan 16 = .ok (.aload_n 0, 1) := by decide +kernel
theorem dX11_plan_17 : decode cX11_plan 17 = .ok (.iload_n 1, 1) := by decide +kernel
theorem dX11_plan_18 : decode cX11_plan 18 = .ok (.iload_n 2, 1) := by decide +kernel
theorem dX11_plan_19 : decode cX11_plan 19 = .ok (.invokevirtual 44, 3) := by decide +kernel
theorem dX11_plan_22 : decode cX11_plan 22 = .ok (.goto 5, 3) := by decide +kernel
theorem dX11_plan_25 : decode cX11_plan 25 = .ok (.bipush (-2), 2) := by decide +kernel
theorem dX11_plan_27 : decode cX11_plan 27 = .ok (.ireturn, 1) := by decide +kernel
theorem dX11_band__0 : decode cX11_band_ 0 = .ok (.iload_n 1, 1) := by decide +kernel
theorem dX11_band__1 : decode cX11_band_ 1 = .ok (.invokestatic 84, 3) := by decide +kernel
theorem dX11_band__4 : decode cX11_band_ 4 = .ok (.ifCond .eq 12, 3) := by decide +kernel
theorem dX11_band__7 : decode cX11_band_ 7 = .ok (.iload_n 3, 1) := by decide +kernel
theorem dX11_band__8 : decode cX11_band_ 8 = .ok (.iconst 0, 1) := by decide +kernel
theorem dX11_band__9 : decode cX11_band_ 9 = .ok (.iconst 2, 1) := by decide +kernel
theorem dX11_band__10 : decode cX11_band_ 10 = .ok (.invokestatic 39, 3) := by decide +kernel
theorem dX11_band__13 : decode cX11_band_ 13 = .ok (.ifCond .ne 6, 3) := by decide +kernel
theorem dX11_band__16 : decode cX11_band_ 16 = .ok (.bipush (-2), 2) := by decide +kernel
theorem dX11_band__18 : decode cX11_band_ 18 = .ok (.ireturn, 1) := by decide +kernel
theorem dX11_band__19 : decode cX11_band_ 19 = .ok (.iload_n 2, 1) := by decide +kernel
theorem dX11_band__20 : decode cX11_band_ 20 = .ok (.iconst 0, 1) := by decide +kernel
theorem dX11_band__21 : decode cX11_band_ 21 = .ok (.aload_n 0, 1) := by decide +kernel
theorem dX11_band__22 : decode cX11_band_ 22 = .ok (.iload_n 1, 1) := by decide +kernel
theorem dX11_band__23 : decode cX11_band_ 23 = .ok (.iconst 4, 1) := by decide +kernel
theorem dX11_band__24 : decode cX11_band_ 24 = .ok (.invokevirtual 44, 3) := by decide +kernel
theorem dX11_band__27 : decode cX11_band_ 27 = .ok (.iconst 1, 1) := by decide +kernel
theorem dX11_band__28 : decode cX11_band_ 28 = .ok (.isub, 1) := by decide +kernel
theorem dX11_band__29 : decode cX11_band_ 29 = .ok (.invokestatic 39, 3) := by decide +kernel
theorem dX11_band__32 : decode cX11_band_ 32 = .ok (.ifCond .eq 13, 3) := by decide +kernel
theorem dX11_band__35 : decode cX11_band_ 35 = .ok (.aload_n 0, 1) := by decide +kernel
theorem dX11_band__36 : decode cX11_band_ 36 = .ok (.iload_n 1, 1) := by decide +kernel
theorem dX11_band__37 : decode cX11_band_ 37 = .ok (.iload_n 2, 1) := by decide +kernel
theorem dX11_band__38 : decode cX11_band_ 38 = .ok (.iload_n 3, 1) := by decide +kernel
theorem dX11_band__39 : decode cX11_band_ 39 = .ok (.invokevirtual 48, 3) := by decide +kernel
theorem dX11_band__42 : decode cX11_band_ 42 = .ok (.goto 4, 3) := by decide +kernel
theorem dX11_band__45 : decode cX11_band_ 45 = .ok (.iconst (-1), 1) := by decide +kernel
theorem dX11_band__46 : decode cX11_band_ 46 = .ok (.ireturn, 1) := by decide +kernel
theorem dX11_isVoucher_0 : decode cX11_isVoucher 0 = .ok (.iload_n 1, 1) := by decide +kernel
theorem dX11_isVoucher_1 : decode cX11_isVoucher 1 = .ok (.iconst 0, 1) := by decide +kernel
theorem dX11_isVoucher_2 : decode cX11_isVoucher 2 = .ok (.aload_n 0, 1) := by decide +kernel
theorem dX11_isVoucher_3 : decode cX11_isVoucher 3 = .ok (.getfield 7, 3) := by decide +kernel
theorem dX11_isVoucher_6 : decode cX11_isVoucher 6 = .ok (.bipush 9, 2) := by decide +kernel
theorem dX11_isVoucher_8 : decode cX11_isVoucher 8 = .ok (.iaload, 1) := by decide +kernel
theorem dX11_isVoucher_9 : decode cX11_isVoucher 9 = .ok (.iconst 1, 1) := by decide +kernel
theorem dX11_isVoucher_10 : decode cX11_isVoucher 10 = .ok (.isub, 1) := by decide +kernel
theorem dX11_isVoucher_11 : decode cX11_isVoucher 11 = .ok (.invokestatic 39, 3) := by decide +kernel
theorem dX11_isVoucher_14 : decode cX11_isVoucher 14 = .ok (.ireturn, 1) := by decide +kernel
theorem dX11_kindOf_0 : decode cX11_kindOf 0 = .ok (.aload_n 0, 1) := by decide +kernel
theorem dX11_kindOf_1 : decode cX11_kindOf 1 = .ok (.getfield 7, 3) := by decide +kernel
theorem dX11_kindOf_4 : decode cX11_kindOf 4 = .ok (.bipush 102, 2) := by decide +kernel
theorem dX11_kindOf_6 : decode cX11_kindOf 6 = .ok (.iconst 3, 1) := by decide +kernel
theorem dX11_kindOf_7 : decode cX11_kindOf 7 = .ok (.iload_n 1, 1) := by decide +kernel
theorem dX11_kindOf_8 : decode cX11_kindOf 8 = .ok (.imul, 1) := by decide +kernel
theorem dX11_kindOf_9 : decode cX11_kindOf 9 = .ok (.iadd, 1) := by decide +kernel
theorem dX11_kindOf_10 : decode cX11_kindOf 10 = .ok (.iaload, 1) := by decide +kernel
theorem dX11_kindOf_11 : decode cX11_kindOf 11 = .ok (.ireturn, 1) := by decide +kernel
theorem dX11_amountOf_0 : decode cX11_amountOf 0 = .ok (.aload_n 0, 1) := by decide +kernel
theorem dX11_amountOf_1 : decode cX11_amountOf 1 = .ok (.getfield 7, 3) := by decide +kernel
theorem dX11_amountOf_4 : decode cX11_amountOf 4 = .ok (.bipush 102, 2) := by decide +kernel
theorem dX11_amountOf_6 : decode cX11_amountOf 6 = .ok (.iconst 3, 1) := by decide +kernel
theorem dX11_amountOf_7 : decode cX11_amountOf 7 = .ok (.iload_n 1, 1) := by decide +kernel
theorem dX11_amountOf_8 : decode cX11_amountOf 8 = .ok (.imul, 1) := by decide +kernel
theorem dX11_amountOf_9 : decode cX11_amountOf 9 = .ok (.iadd, 1) := by decide +kernel
theorem dX11_amountOf_10 : decode cX11_amountOf 10 = .ok (.iconst 1, 1) := by decide +kernel
theorem dX11_amountOf_11 : decode cX11_amountOf 11 = .ok (.iadd, 1) := by decide +kernel
theorem dX11_amountOf_12 : decode cX11_amountOf 12 = .ok (.iaload, 1) := by decide +kernel
theorem dX11_amountOf_13 : decode cX11_amountOf 13 = .ok (.ireturn, 1) := by decide +kernel
theorem dX11_addVoucher_0 : decode cX11_addVoucher 0 = .ok (.iload_n 1, 1) := by decide +kernel
theorem dX11_addVoucher_1 : decode cX11_addVoucher 1 = .ok (.iconst 0, 1) := by decide +kernel
theorem dX11_addVoucher_2 : decode cX11_addVoucher 2 = .ok (.iconst 3, 1) := by decide +kernel
theorem dX11_addVoucher_3 : decode cX11_addVoucher 3 = .ok (.invokestatic 39, 3) := by decide +kernel
theorem dX11_addVoucher_6 : decode cX11_addVoucher 6 = .ok (.ifCond .eq 24, 3) := by decide +kernel
theorem dX11_addVoucher_9 : decode cX11_addVoucher 9 = .ok (.iload_n 2, 1) := by decide +kernel
theorem dX11_addVoucher_10 : decode cX11_addVoucher 10 = .ok (.iconst 0, 1) := by decide +kernel
theorem dX11_addVoucher_11 : decode cX11_addVoucher 11 = .ok (.iload_n 1, 1) := by decide +kernel
theorem dX11_addVoucher_12 : decode cX11_addVoucher 12 = .ok (.iconst 1, 1) := by decide +kernel
theorem dX11_addVoucher_13 : decode cX11_addVoucher 13 = .ok (.if_icmp .ne 8, 3) := by decide +kernel
theorem dX11_addVoucher_16 : decode cX11_addVoucher 16 = .ok (.bipush 100, 2) := by decide +kernel
theorem dX11_addVoucher_18 : decode cX11_addVoucher 18 = .ok (.goto 6, 3) := by decide +kernel
theorem dX11_addVoucher_21 : decode cX11_addVoucher 21 = .ok (.sipush 999, 3) := by decide +kernel
theorem dX11_addVoucher_24 : decode cX11_addVoucher 24 = .ok (.invokestatic 39, 3) := by decide +kernel
theorem dX11_addVoucher_27 : decode cX11_addVoucher 27 = .ok (.ifCond .ne 6, 3) := by decide +kernel
theorem dX11_addVoucher_30 : decode cX11_addVoucher 30 = .ok (.bipush (-2), 2) := by decide +kernel
theorem dX11_addVoucher_32 : decode cX11_addVoucher 32 = .ok (.ireturn, 1) := by decide +kernel
theorem dX11_addVoucher_33 : decode cX11_addVoucher 33 = .ok (.aload_n 0, 1) := by decide +kernel
theorem dX11_addVoucher_34 : decode cX11_addVoucher 34 = .ok (.getfield 7, 3) := by decide +kernel
theorem dX11_addVoucher_37 : decode cX11_addVoucher 37 = .ok (.bipush 9, 2) := by decide +kernel
theorem dX11_addVoucher_39 : decode cX11_addVoucher 39 = .ok (.iaload, 1) := by decide +kernel
theorem dX11_addVoucher_40 : decode cX11_addVoucher 40 = .ok (.bipush 10, 2) := by decide +kernel
theorem dX11_addVoucher_42 : decode cX11_addVoucher 42 = .ok (.if_icmp .ne 6, 3) := by decide +kernel
theorem dX11_addVoucher_45 : decode cX11_addVoucher 45 = .ok (.bipush (-3), 2) := by decide +kernel
theorem dX11_addVoucher_47 : decode cX11_addVoucher 47 = .ok (.ireturn, 1) := by decide +kernel
theorem dX11_addVoucher_48 : decode cX11_addVoucher 48 = .ok (.aload_n 0, 1) := by decide +kernel
theorem dX11_addVoucher_49 : decode cX11_addVoucher 49 = .ok (.getfield 7, 3) := by decide +kernel
theorem dX11_addVoucher_52 : decode cX11_addVoucher 52 = .ok (.bipush 9, 2) := by decide +kernel
theorem dX11_addVoucher_54 : decode cX11_addVoucher 54 = .ok (.iaload, 1) := by decide +kernel
theorem dX11_addVoucher_55 : decode cX11_addVoucher 55 = .ok (.istore_n 3, 1) := by decide +kernel
theorem dX11_addVoucher_56 : decode cX11_addVoucher 56 = .ok (.aload_n 0, 1) := by decide +kernel
theorem dX11_addVoucher_57 : decode cX11_addVoucher 57 = .ok (.getfield 7, 3) := by decide +kernel
theorem dX11_addVoucher_60 : decode cX11_addVoucher 60 = .ok (.bipush 102, 2) := by decide +kernel
theorem dX11_addVoucher_62 : decode cX11_addVoucher 62 = .ok (.iconst 3, 1) := by decide +kernel
theorem dX11_addVoucher_63 : decode cX11_addVoucher 63 = .ok (.iload_n 3, 1) := by decide +kernel
theorem dX11_addVoucher_64 : decode cX11_addVoucher 64 = .ok (.imul, 1) := by decide +kernel
theorem dX11_addVoucher_65 : decode cX11_addVoucher 65 = .ok (.iadd, 1) := by decide +kernel
theorem dX11_addVoucher_66 : decode cX11_addVoucher 66 = .ok (.iload_n 1, 1) := by decide +kernel
theorem dX11_addVoucher_67 : decode cX11_addVoucher 67 = .ok (.iastore, 1) := by decide +kernel
theorem dX11_addVoucher_68 : decode cX11_addVoucher 68 = .ok (.aload_n 0, 1) := by decide +kernel
theorem dX11_addVoucher_69 : decode cX11_addVoucher 69 = .ok (.getfield 7, 3) := by decide +kernel
theorem dX11_addVoucher_72 : decode cX11_addVoucher 72 = .ok (.bipush 102, 2) := by decide +kernel
theorem dX11_addVoucher_74 : decode cX11_addVoucher 74 = .ok (.iconst 3, 1) := by decide +kernel
theorem dX11_addVoucher_75 : decode cX11_addVoucher 75 = .ok (.iload_n 3, 1) := by decide +kernel
theorem dX11_addVoucher_76 : decode cX11_addVoucher 76 = .ok (.imul, 1) := by decide +kernel
theorem dX11_addVoucher_77 : decode cX11_addVoucher 77 = .ok (.iadd, 1) := by decide +kernel
theorem dX11_addVoucher_78 : decode cX11_addVoucher 78 = .ok (.iconst 1, 1) := by decide +kernel
theorem dX11_addVoucher_79 : decode cX11_addVoucher 79 = .ok (.iadd, 1) := by decide +kernel
theorem dX11_addVoucher_80 : decode cX11_addVoucher 80 = .ok (.iload_n 2, 1) := by decide +kernel
theorem dX11_addVoucher_81 : decode cX11_addVoucher 81 = .ok (.iastore, 1) := by decide +kernel
theorem dX11_addVoucher_82 : decode cX11_addVoucher 82 = .ok (.aload_n 0, 1) := by decide +kernel
theorem dX11_addVoucher_83 : decode cX11_addVoucher 83 = .ok (.getfield 7, 3) := by decide +kernel
theorem dX11_addVoucher_86 : decode cX11_addVoucher 86 = .ok (.bipush 102, 2) := by decide +kernel
theorem dX11_addVoucher_88 : decode cX11_addVoucher 88 = .ok (.iconst 3, 1) := by decide +kernel
theorem dX11_addVoucher_89 : decode cX11_addVoucher 89 = .ok (.iload_n 3, 1) := by decide +kernel
theorem dX11_addVoucher_90 : decode cX11_addVoucher 90 = .ok (.imul, 1) := by decide +kernel
theorem dX11_addVoucher_91 : decode cX11_addVoucher 91 = .ok (.iadd, 1) := by decide +kernel
theorem dX11_addVoucher_92 : decode cX11_addVoucher 92 = .ok (.iconst 2, 1) := by decide +kernel
theorem dX11_addVoucher_93 : decode cX11_addVoucher 93 = .ok (.iadd, 1) := by decide +kernel
theorem dX11_addVoucher_94 : decode cX11_addVoucher 94 = .ok (.iconst 0, 1) := by decide +kernel
theorem dX11_addVoucher_95 : decode cX11_addVoucher 95 = .ok (.iastore, 1) := by decide +kernel
theorem dX11_addVoucher_96 : decode cX11_addVoucher 96 = .ok (.aload_n 0, 1) := by decide +kernel
theorem dX11_addVoucher_97 : decode cX11_addVoucher 97 = .ok (.getfield 7, 3) := by decide +kernel
theorem dX11_addVoucher_100 : decode cX11_addVoucher 100 = .ok (.bipush 9, 2) := by decide +kernel
theorem dX11_addVoucher_102 : decode cX11_addVoucher 102 = .ok (.dup2, 1) := by decide +kernel
theorem dX11_addVoucher_103 : decode cX11_addVoucher 103 = .ok (.iaload, 1) := by decide +kernel
theorem dX11_addVoucher_104 : decode cX11_addVoucher 104 = .ok (.iconst 1, 1) := by decide +kernel
theorem dX11_addVoucher_105 : decode cX11_addVoucher 105 = .ok (.iadd, 1) := by decide +kernel
theorem dX11_addVoucher_106 : decode cX11_addVoucher 106 = .ok (.iastore, 1) := by decide +kernel
theorem dX11_addVoucher_107 : decode cX11_addVoucher 107 = .ok (.iload_n 3, 1) := by decide +kernel
theorem dX11_addVoucher_108 : decode cX11_addVoucher 108 = .ok (.ireturn, 1) := by decide +kernel
theorem dX11_voucher_0 : decode cX11_voucher 0 = .ok (.aload_n 0, 1) := by decide +kernel
theorem dX11_voucher_1 : decode cX11_voucher 1 = .ok (.iload_n 1, 1) := by decide +kernel
theorem dX11_voucher_2 : decode cX11_voucher 2 = .ok (.invokevirtual 153, 3) := by decide +kernel
theorem dX11_voucher_5 : decode cX11_voucher 5 = .ok (.ifCond .ne 7, 3) := by decide +kernel
theorem dX11_voucher_8 : decode cX11_voucher 8 = .ok (.iconst (-1), 1) := by decide +kernel
theorem dX11_voucher_9 : decode cX11_voucher 9 = .ok (.goto 30, 3) := by decide +kernel
theorem dX11_voucher_12 : decode cX11_voucher 12 = .ok (.iload_n 2, 1) := by decide +kernel
theorem dX11_voucher_13 : decode cX11_voucher 13 = .ok (.iconst 0, 1) := by decide +kernel
theorem dX11_voucher_14 : decode cX11_voucher 14 = .ok (.iconst 2, 1) := by decide +kernel
theorem dX11_voucher_15 : decode cX11_voucher 15 = .ok (.invokestatic 39, 3) := by decide +kernel
theorem dX11_voucher_18 : decode cX11_voucher 18 = .ok (.ifCond .eq 19, 3) := by decide +kernel
theorem dX11_voucher_21 : decode cX11_voucher 21 = .ok (.aload_n 0, 1) := by decide +kernel
theorem dX11_voucher_22 : decode cX11_voucher 22 = .ok (.getfield 7, 3) := by decide +kernel
theorem dX11_voucher_25 : decode cX11_voucher 25 = .ok (.bipush 102, 2) := by decide +kernel
theorem dX11_voucher_27 : decode cX11_voucher 27 = .ok (.iconst 3, 1) := by decide +kernel
theorem dX11_voucher_28 : decode cX11_voucher 28 = .ok (.iload_n 1, 1) := by decide +kernel
theorem dX11_voucher_29 : decode cX11_voucher 29 = .ok (.imul, 1) := by decide +kernel
theorem dX11_voucher_30 : decode cX11_voucher 30 = .ok (.iadd, 1) := by decide +kernel
theorem dX11_voucher_31 : decode cX11_voucher 31 = .ok (.iload_n 2, 1) := by decide +kernel
theorem dX11_voucher_32 : decode cX11_voucher 32 = .ok (.iadd, 1) := by decide +kernel
theorem dX11_voucher_33 : decode cX11_voucher 33 = .ok (.iaload, 1) := by decide +kernel
theorem dX11_voucher_34 : decode cX11_voucher 34 = .ok (.goto 5, 3) := by decide +kernel
theorem dX11_voucher_37 : decode cX11_voucher 37 = .ok (.bipush (-2), 2) := by decide +kernel
theorem dX11_voucher_39 : decode cX11_voucher 39 = .ok (.ireturn, 1) := by decide +kernel
theorem dX11_makeFolder_0 : decode cX11_makeFolder 0 = .ok (.iload_n 1, 1) := by decide +kernel
theorem dX11_makeFolder_1 : decode cX11_makeFolder 1 = .ok (.iconst 0, 1) := by decide +kernel
theorem dX11_makeFolder_2 : decode cX11_makeFolder 2 = .ok (.iconst 2, 1) := by decide +kernel
theorem dX11_makeFolder_3 : decode cX11_makeFolder 3 = .ok (.invokestatic 39, 3) := by decide +kernel
theorem dX11_makeFolder_6 : decode cX11_makeFolder 6 = .ok (.ifCond .eq 21, 3) := by decide +kernel
theorem dX11_makeFolder_9 : decode cX11_makeFolder 9 = .ok (.iload_n 2, 1) := by decide +kernel
theorem dX11_makeFolder_10 : decode cX11_makeFolder 10 = .ok (.iconst (-1), 1) := by decide +kernel
theorem dX11_makeFolder_11 : decode cX11_makeFolder 11 = .ok (.iconst 3, 1) := by decide +kernel
theorem dX11_makeFolder_12 : decode cX11_makeFolder 12 = .ok (.invokestatic 39, 3) := by decide +kernel
theorem dX11_makeFolder_15 : decode cX11_makeFolder 15 = .ok (.ifCond .eq 12, 3) := by decide +kernel
theorem dX11_makeFolder_18 : decode cX11_makeFolder 18 = .ok (.iload_n 3, 1) := by decide +kernel
theorem dX11_makeFolder_19 : decode cX11_makeFolder 19 = .ok (.iconst 1, 1) := by decide +kernel
theorem dX11_makeFolder_20 : decode cX11_makeFolder 20 = .ok (.iconst 5, 1) := by decide +kernel
theorem dX11_makeFolder_21 : decode cX11_makeFolder 21 = .ok (.invokestatic 39, 3) := by decide +kernel
theorem dX11_makeFolder_24 : decode cX11_makeFolder 24 = .ok (.ifCond .ne 6, 3) := by decide +kernel
theorem dX11_makeFolder_27 : decode cX11_makeFolder 27 = .ok (.bipush (-2), 2) := by decide +kernel
theorem dX11_makeFolder_29 : decode cX11_makeFolder 29 = .ok (.ireturn, 1) := by decide +kernel
theorem dX11_makeFolder_30 : decode cX11_makeFolder 30 = .ok (.sipush 132, 3) := by decide +kernel
theorem dX11_makeFolder_33 : decode cX11_makeFolder 33 = .ok (.bipush 7, 2) := by decide +kernel
theorem dX11_makeFolder_35 : decode cX11_makeFolder 35 = .ok (.iload_n 1, 1) := by decide +kernel
theorem dX11_makeFolder_36 : decode cX11_makeFolder 36 = .ok (.imul, 1) := by decide +kernel
theorem dX11_makeFolder_37 : decode cX11_makeFolder 37 = .ok (.iadd, 1) := by decide +kernel
theorem dX11_makeFolder_38 : decode cX11_makeFolder 38 = .ok (.istore 4, 2) := by decide +kernel
theorem dX11_makeFolder_40 : decode cX11_makeFolder 40 = .ok (.aload_n 0, 1) := by decide +kernel
theorem dX11_makeFolder_41 : decode cX11_makeFolder 41 = .ok (.getfield 7, 3) := by decide +kernel
theorem dX11_makeFolder_44 : decode cX11_makeFolder 44 = .ok (.iload 4, 2) := by decide +kernel
theorem dX11_makeFolder_46 : decode cX11_makeFolder 46 = .ok (.iload_n 3, 1) := by decide +kernel
theorem dX11_makeFolder_47 : decode cX11_makeFolder 47 = .ok (.iastore, 1) := by decide +kernel
theorem dX11_makeFolder_48 : decode cX11_makeFolder 48 = .ok (.aload_n 0, 1) := by decide +kernel
theorem dX11_makeFolder_49 : decode cX11_makeFolder 49 = .ok (.getfield 7, 3) := by decide +kernel
theorem dX11_makeFolder_52 : decode cX11_makeFolder 52 = .ok (.iload 4, 2) := by decide +kernel
theorem dX11_makeFolder_54 : decode cX11_makeFolder 54 = .ok (.iconst 1, 1) := by decide +kernel
theorem dX11_makeFolder_55 : decode cX11_makeFolder 55 = .ok (.iadd, 1) := by decide +kernel
theorem dX11_makeFolder_56 : decode cX11_makeFolder 56 = .ok (.iload_n 2, 1) := by decide +kernel
theorem dX11_makeFolder_57 : decode cX11_makeFolder 57 = .ok (.iastore, 1) := by decide +kernel
theorem dX11_makeFolder_58 : decode cX11_makeFolder 58 = .ok (.iconst 0, 1) := by decide +kernel
theorem dX11_makeFolder_59 : decode cX11_makeFolder 59 = .ok (.istore 5, 2) := by decide +kernel
theorem dX11_makeFolder_61 : decode cX11_makeFolder 61 = .ok (.iload 5, 2) := by decide +kernel
theorem dX11_makeFolder_63 : decode cX11_makeFolder 63 = .ok (.iconst 5, 1) := by decide +kernel
theorem dX11_makeFolder_64 : decode cX11_makeFolder 64 = .ok (.if_icmp .ge 22, 3) := by decide +kernel
theorem dX11_makeFolder_67 : decode cX11_makeFolder 67 = .ok (.aload_n 0, 1) := by decide +kernel
theorem dX11_makeFolder_68 : decode cX11_makeFolder 68 = .ok (.getfield 7, 3) := by decide +kernel
theorem dX11_makeFolder_71 : decode cX11_makeFolder 71 = .ok (.iload 4, 2) := by decide +kernel
theorem dX11_makeFolder_73 : decode cX11_makeFolder 73 = .ok (.iconst 2, 1) := by decide +kernel
theorem dX11_makeFolder_74 : decode cX11_makeFolder 74 = .ok (.iadd, 1) := by decide +kernel
theorem dX11_makeFolder_75 : decode cX11_makeFolder 75 = .ok (.iload 5, 2) := by decide +kernel
theorem dX11_makeFolder_77 : decode cX11_makeFolder 77 = .ok (.iadd, 1) := by decide +kernel
theorem dX11_makeFolder_78 : decode cX11_makeFolder 78 = .ok (.iconst 0, 1) := by decide +kernel
theorem dX11_makeFolder_79 : decode cX11_makeFolder 79 = .ok (.iastore, 1) := by decide +kernel
theorem dX11_makeFolder_80 : decode cX11_makeFolder 80 = .ok (.iinc 5 1, 3) := by decide +kernel
theorem dX11_makeFolder_83 : decode cX11_makeFolder 83 = .ok (.goto (-22), 3) := by decide +kernel
theorem dX11_makeFolder_86 : decode cX11_makeFolder 86 = .ok (.iload_n 3, 1) := by decide +kernel
theorem dX11_makeFolder_87 : decode cX11_makeFolder 87 = .ok (.ireturn, 1) := by decide +kernel
theorem dX11_isPlace_0 : decode cX11_isPlace 0 = .ok (.iload_n 1, 1) := by decide +kernel
theorem dX11_isPlace_1 : decode cX11_isPlace 1 = .ok (.iconst 0, 1) := by decide +kernel
theorem dX11_isPlace_2 : decode cX11_isPlace 2 = .ok (.iconst 2, 1) := by decide +kernel
theorem dX11_isPlace_3 : decode cX11_isPlace 3 = .ok (.invokestatic 39, 3) := by decide +kernel
theorem dX11_isPlace_6 : decode cX11_isPlace 6 = .ok (.ifCond .eq 30, 3) := by decide +kernel
theorem dX11_isPlace_9 : decode cX11_isPlace 9 = .ok (.iload_n 2, 1) := by decide +kernel
theorem dX11_isPlace_10 : decode cX11_isPlace 10 = .ok (.iconst 0, 1) := by decide +kernel
theorem dX11_isPlace_11 : decode cX11_isPlace 11 = .ok (.aload_n 0, 1) := by decide +kernel
theorem dX11_isPlace_12 : decode cX11_isPlace 12 = .ok (.getfield 7, 3) := by decide +kernel
theorem dX11_isPlace_15 : decode cX11_isPlace 15 = .ok (.sipush 132, 3) := by decide +kernel
theorem dX11_isPlace_18 : decode cX11_isPlace 18 = .ok (.bipush 7, 2) := by decide +kernel
theorem dX11_isPlace_20 : decode cX11_isPlace 20 = .ok (.iload_n 1, 1) := by decide +kernel
theorem dX11_isPlace_21 : decode cX11_isPlace 21 = .ok (.imul, 1) := by decide +kernel
theorem dX11_isPlace_22 : decode cX11_isPlace 22 = .ok (.iadd, 1) := by decide +kernel
theorem dX11_isPlace_23 : decode cX11_isPlace 23 = .ok (.iaload, 1) := by decide +kernel
theorem dX11_isPlace_24 : decode cX11_isPlace 24 = .ok (.iconst 1, 1) := by decide +kernel
theorem dX11_isPlace_25 : decode cX11_isPlace 25 = .ok (.isub, 1) := by decide +kernel
theorem dX11_isPlace_26 : decode cX11_isPlace 26 = .ok (.invokestatic 39, 3) := by decide +kernel
theorem dX11_isPlace_29 : decode cX11_isPlace 29 = .ok (.ifCond .eq 7, 3) := by decide +kernel
theorem dX11_isPlace_32 : decode cX11_isPlace 32 = .ok (.iconst 1, 1) := by decide +kernel
theorem dX11_isPlace_33 : decode cX11_isPlace 33 = .ok (.goto 4, 3) := by decide +kernel
theorem dX11_isPlace_36 : decode cX11_isPlace 36 = .ok (.iconst 0, 1) := by decide +kernel
theorem dX11_isPlace_37 : decode cX11_isPlace 37 = .ok (.ireturn, 1) := by decide +kernel
theorem dX11_put_0 : decode cX11_put 0 = .ok (.aload_n 0, 1) := by decide +kernel
theorem dX11_put_1 : decode cX11_put 1 = .ok (.iload_n 1, 1) := by decide +kernel
theorem dX11_put_2 : decode cX11_put 2 = .ok (.iload_n 2, 1) := by decide +kernel
theorem dX11_put_3 : decode cX11_put 3 = .ok (.invokevirtual 156, 3) := by decide +kernel
theorem dX11_put_6 : decode cX11_put 6 = .ok (.ifCond .eq 11, 3) := by decide +kernel
theorem dX11_put_9 : decode cX11_put 9 = .ok (.aload_n 0, 1) := by decide +kernel
theorem dX11_put_10 : decode cX11_put 10 = .ok (.iload_n 3, 1) := by decide +kernel
theorem dX11_put_11 : decode cX11_put 11 = .ok (.invokevirtual 153, 3) := by decide +kernel
theorem dX11_put_14 : decode cX11_put 14 = .ok (.ifCond .ne 5, 3) := by decide +kernel
theorem dX11_put_17 : decode cX11_put 17 = .ok (.iconst (-1), 1) := by decide +kernel
theorem dX11_put_18 : decode cX11_put 18 = .ok (.ireturn, 1) := by decide +kernel
theorem dX11_put_19 : decode cX11_put 19 = .ok (.sipush 132, 3) := by decide +kernel
theorem dX11_put_22 : decode cX11_put 22 = .ok (.bipush 7, 2) := by decide +kernel
theorem dX11_put_24 : decode cX11_put 24 = .ok (.iload_n 1, 1) := by decide +kernel
theorem dX11_put_25 : decode cX11_put 25 = .ok (.imul, 1) := by decide +kernel
theorem dX11_put_26 : decode cX11_put 26 = .ok (.iadd, 1) := by decide +kernel
theorem dX11_put_27 : decode cX11_put 27 = .ok (.istore 4, 2) := by decide +kernel
theorem dX11_put_29 : decode cX11_put 29 = .ok (.aload_n 0, 1) := by decide +kernel
theorem dX11_put_30 : decode cX11_put 30 = .ok (.getfield 7, 3) := by decide +kernel
theorem dX11_put_33 : decode cX11_put 33 = .ok (.iload 4, 2) := by decide +kernel
theorem dX11_put_35 : decode cX11_put 35 = .ok (.iconst 1, 1) := by decide +kernel
theorem dX11_put_36 : decode cX11_put 36 = .ok (.iadd, 1) := by decide +kernel
theorem dX11_put_37 : decode cX11_put 37 = .ok (.iaload, 1) := by decide +kernel
theorem dX11_put_38 : decode cX11_put 38 = .ok (.iconst (-1), 1) := by decide +kernel
theorem dX11_put_39 : decode cX11_put 39 = .ok (.if_icmp .eq 23, 3) := by decide +kernel
theorem dX11_put_42 : decode cX11_put 42 = .ok (.aload_n 0, 1) := by decide +kernel
theorem dX11_put_43 : decode cX11_put 43 = .ok (.getfield 7, 3) := by decide +kernel
theorem dX11_put_46 : decode cX11_put 46 = .ok (.iload 4, 2) := by decide +kernel
theorem dX11_put_48 : decode cX11_put 48 = .ok (.iconst 1, 1) := by decide +kernel
theorem dX11_put_49 : decode cX11_put 49 = .ok (.iadd, 1) := by decide +kernel
theorem dX11_put_50 : decode cX11_put 50 = .ok (.iaload, 1) := by decide +kernel
theorem dX11_put_51 : decode cX11_put 51 = .ok (.aload_n 0, 1) := by decide +kernel
theorem dX11_put_52 : decode cX11_put 52 = .ok (.iload_n 3, 1) := by decide +kernel
theorem dX11_put_53 : decode cX11_put 53 = .ok (.invokevirtual 160, 3) := by decide +kernel
theorem dX11_put_56 : decode cX11_put 56 = .ok (.if_icmp .eq 6, 3) := by decide +kernel
theorem dX11_put_59 : decode cX11_put 59 = .ok (.bipush (-6), 2) := by decide +kernel
theorem dX11_put_61 : decode cX11_put 61 = .ok (.ireturn, 1) := by decide +kernel
theorem dX11_put_62 : decode cX11_put 62 = .ok (.aload_n 0, 1) := by decide +kernel
theorem dX11_put_63 : decode cX11_put 63 = .ok (.getfield 7, 3) := by decide +kernel
theorem dX11_put_66 : decode cX11_put 66 = .ok (.iload 4, 2) := by decide +kernel
theorem dX11_put_68 : decode cX11_put 68 = .ok (.iconst 2, 1) := by decide +kernel
theorem dX11_put_69 : decode cX11_put 69 = .ok (.iadd, 1) := by decide +kernel
theorem dX11_put_70 : decode cX11_put 70 = .ok (.iload_n 2, 1) := by decide +kernel
theorem dX11_put_71 : decode cX11_put 71 = .ok (.iadd, 1) := by decide +kernel
theorem dX11_put_72 : decode cX11_put 72 = .ok (.iload_n 3, 1) := by decide +kernel
theorem dX11_put_73 : decode cX11_put 73 = .ok (.iconst 1, 1) := by decide +kernel
theorem dX11_put_74 : decode cX11_put 74 = .ok (.iadd, 1) := by decide +kernel
theorem dX11_put_75 : decode cX11_put 75 = .ok (.iastore, 1) := by decide +kernel
theorem dX11_put_76 : decode cX11_put 76 = .ok (.iconst 0, 1) := by decide +kernel
theorem dX11_put_77 : decode cX11_put 77 = .ok (.istore 5, 2) := by decide +kernel
theorem dX11_put_79 : decode cX11_put 79 = .ok (.iconst 0, 1) := by decide +kernel
theorem dX11_put_80 : decode cX11_put 80 = .ok (.istore 6, 2) := by decide +kernel
theorem dX11_put_82 : decode cX11_put 82 = .ok (.iload 6, 2) := by decide +kernel
theorem dX11_put_84 : decode cX11_put 84 = .ok (.iconst 5, 1) := by decide +kernel
theorem dX11_put_85 : decode cX11_put 85 = .ok (.if_icmp .ge 34, 3) := by decide +kernel
theorem dX11_put_88 : decode cX11_put 88 = .ok (.iload 5, 2) := by decide +kernel
theorem dX11_put_90 : decode cX11_put 90 = .ok (.aload_n 0, 1) := by decide +kernel
theorem dX11_put_91 : decode cX11_put 91 = .ok (.getfield 7, 3) := by decide +kernel
theorem dX11_put_94 : decode cX11_put 94 = .ok (.iload 4, 2) := by decide +kernel
theorem dX11_put_96 : decode cX11_put 96 = .ok (.iconst 2, 1) := by decide +kernel
theorem dX11_put_97 : decode cX11_put 97 = .ok (.iadd, 1) := by decide +kernel
theorem dX11_put_98 : decode cX11_put 98 = .ok (.iload 6, 2) := by decide +kernel
theorem dX11_put_100 : decode cX11_put 100 = .ok (.iadd, 1) := by decide +kernel
theorem dX11_put_101 : decode cX11_put 101 = .ok (.iaload, 1) := by decide +kernel
theorem dX11_put_102 : decode cX11_put 102 = .ok (.ifCond .le 7, 3) := by decide +kernel
theorem dX11_put_105 : decode cX11_put 105 = .ok (.iconst 1, 1) := by decide +kernel
theorem dX11_put_106 : decode cX11_put 106 = .ok (.goto 4, 3) := by decide +kernel
theorem dX11_put_109 : decode cX11_put 109 = .ok (.iconst 0, 1) := by decide +kernel
theorem dX11_put_110 : decode cX11_put 110 = .ok (.iadd, 1) := by decide +kernel
theorem dX11_put_111 : decode cX11_put 111 = .ok (.istore 5, 2) := by decide +kernel
theorem dX11_put_113 : decode cX11_put 113 = .ok (.iinc 6 1, 3) := by decide +kernel
theorem dX11_put_116 : decode cX11_put 116 = .ok (.goto (-34), 3) := by decide +kernel
theorem dX11_put_119 : decode cX11_put 119 = .ok (.iload 5, 2) := by decide +kernel
theorem dX11_put_121 : decode cX11_put 121 = .ok (.ireturn, 1) := by decide +kernel
theorem dX11_inFolder_0 : decode cX11_inFolder 0 = .ok (.aload_n 0, 1) := by decide +kernel
theorem dX11_inFolder_1 : decode cX11_inFolder 1 = .ok (.iload_n 1, 1) := by decide +kernel
theorem dX11_inFolder_2 : decode cX11_inFolder 2 = .ok (.iload_n 2, 1) := by decide +kernel
theorem dX11_inFolder_3 : decode cX11_inFolder 3 = .ok (.invokevirtual 156, 3) := by decide +kernel
theorem dX11_inFolder_6 : decode cX11_inFolder 6 = .ok (.ifCond .eq 25, 3) := by decide +kernel
theorem dX11_inFolder_9 : decode cX11_inFolder 9 = .ok (.aload_n 0, 1) := by decide +kernel
theorem dX11_inFolder_10 : decode cX11_inFolder 10 = .ok (.getfield 7, 3) := by decide +kernel
theorem dX11_inFolder_13 : decode cX11_inFolder 13 = .ok (.sipush 132, 3) := by decide +kernel
theorem dX11_inFolder_16 : decode cX11_inFolder 16 = .ok (.bipush 7, 2) := by decide +kernel
theorem dX11_inFolder_18 : decode cX11_inFolder 18 = .ok (.iload_n 1, 1) := by decide +kernel
theorem dX11_inFolder_19 : decode cX11_inFolder 19 = .ok (.imul, 1) := by decide +kernel
theorem dX11_inFolder_20 : decode cX11_inFolder 20 = .ok (.iadd, 1) := by decide +kernel
theorem dX11_inFolder_21 : decode cX11_inFolder 21 = .ok (.iconst 2, 1) := by decide +kernel
theorem dX11_inFolder_22 : decode cX11_inFolder 22 = .ok (.iadd, 1) := by decide +kernel
theorem dX11_inFolder_23 : decode cX11_inFolder 23 = .ok (.iload_n 2, 1) := by decide +kernel
theorem dX11_inFolder_24 : decode cX11_inFolder 24 = .ok (.iadd, 1) := by decide +kernel
theorem dX11_inFolder_25 : decode cX11_inFolder 25 = .ok (.iaload, 1) := by decide +kernel
theorem dX11_inFolder_26 : decode cX11_inFolder 26 = .ok (.iconst 1, 1) := by decide +kernel
theorem dX11_inFolder_27 : decode cX11_inFolder 27 = .ok (.isub, 1) := by decide +kernel
theorem dX11_inFolder_28 : decode cX11_inFolder 28 = .ok (.goto 4, 3) := by decide +kernel
theorem dX11_inFolder_31 : decode cX11_inFolder 31 = .ok (.iconst (-1), 1) := by decide +kernel
theorem dX11_inFolder_32 : decode cX11_inFolder 32 = .ok (.ireturn, 1) := by decide +kernel
theorem dX11_levelPart_0 : decode cX11_levelPart 0 = .ok (.aload_n 0, 1) := by decide +kernel
theorem dX11_levelPart_1 : decode cX11_levelPart 1 = .ok (.getfield 7, 3) := by decide +kernel
theorem dX11_levelPart_4 : decode cX11_levelPart 4 = .ok (.sipush 153, 3) := by decide +kernel
theorem dX11_levelPart_7 : decode cX11_levelPart 7 = .ok (.iconst 4, 1) := by decide +kernel
theorem dX11_levelPart_8 : decode cX11_levelPart 8 = .ok (.iload_n 1, 1) := by decide +kernel
theorem dX11_levelPart_9 : decode cX11_levelPart 9 = .ok (.imul, 1) := by decide +kernel
theorem dX11_levelPart_10 : decode cX11_levelPart 10 = .ok (.iadd, 1) := by decide +kernel
theorem dX11_levelPart_11 : decode cX11_levelPart 11 = .ok (.iload_n 2, 1) := by decide +kernel
theorem dX11_levelPart_12 : decode cX11_levelPart 12 = .ok (.iadd, 1) := by decide +kernel
theorem dX11_levelPart_13 : decode cX11_levelPart 13 = .ok (.iaload, 1) := by decide +kernel
theorem dX11_levelPart_14 : decode cX11_levelPart 14 = .ok (.ireturn, 1) := by decide +kernel
theorem dX11_score_0 : decode cX11_score 0 = .ok (.aload_n 0, 1) := by decide +kernel
theorem dX11_score_1 : decode cX11_score 1 = .ok (.iload_n 1, 1) := by decide +kernel
theorem dX11_score_2 : decode cX11_score 2 = .ok (.iconst 0, 1) := by decide +kernel
theorem dX11_score_3 : decode cX11_score 3 = .ok (.invokevirtual 164, 3) := by decide +kernel
theorem dX11_score_6 : decode cX11_score 6 = .ok (.aload_n 0, 1) := by decide +kernel
theorem dX11_score_7 : decode cX11_score 7 = .ok (.iload_n 1, 1) := by decide +kernel
theorem dX11_score_8 : decode cX11_score 8 = .ok (.iconst 1, 1) := by decide +kernel
theorem dX11_score_9 : decode cX11_score 9 = .ok (.invokevirtual 164, 3) := by decide +kernel
theorem dX11_score_12 : decode cX11_score 12 = .ok (.isub, 1) := by decide +kernel
theorem dX11_score_13 : decode cX11_score 13 = .ok (.i2f, 1) := by decide +kernel
theorem dX11_score_14 : decode cX11_score 14 = .ok (.aload_n 0, 1) := by decide +kernel
theorem dX11_score_15 : decode cX11_score 15 = .ok (.getfield 16, 3) := by decide +kernel
theorem dX11_score_18 : decode cX11_score 18 = .ok (.iload_n 1, 1) := by decide +kernel
theorem dX11_score_19 : decode cX11_score 19 = .ok (.faload, 1) := by decide +kernel
theorem dX11_score_20 : decode cX11_score 20 = .ok (.ldc 167, 2) := by decide +kernel
theorem dX11_score_22 : decode cX11_score 22 = .ok (.fmul, 1) := by decide +kernel
theorem dX11_score_23 : decode cX11_score 23 = .ok (.fadd, 1) := by decide +kernel
theorem dX11_score_24 : decode cX11_score 24 = .ok (.aload_n 0, 1) := by decide +kernel
theorem dX11_score_25 : decode cX11_score 25 = .ok (.iload_n 1, 1) := by decide +kernel
theorem dX11_score_26 : decode cX11_score 26 = .ok (.iconst 0, 1) := by decide +kernel
theorem dX11_score_27 : decode cX11_score 27 = .ok (.invokevirtual 164, 3) := by decide +kernel
theorem dX11_score_30 : decode cX11_score 30 = .ok (.i2f, 1) := by decide +kernel
theorem dX11_score_31 : decode cX11_score 31 = .ok (.fdiv, 1) := by decide +kernel
theorem dX11_score_32 : decode cX11_score 32 = .ok (.freturn, 1) := by decide +kernel
theorem dX11_bestLevel_0 : decode cX11_bestLevel 0 = .ok (.iconst (-1), 1) := by decide +kernel
theorem dX11_bestLevel_1 : decode cX11_bestLevel 1 = .ok (.istore_n 1, 1) := by decide +kernel
theorem dX11_bestLevel_2 : decode cX11_bestLevel 2 = .ok (.iconst 0, 1) := by decide +kernel
theorem dX11_bestLevel_3 : decode cX11_bestLevel 3 = .ok (.istore_n 2, 1) := by decide +kernel
theorem dX11_bestLevel_4 : decode cX11_bestLevel 4 = .ok (.iload_n 2, 1) := by decide +kernel
theorem dX11_bestLevel_5 : decode cX11_bestLevel 5 = .ok (.iconst 4, 1) := by decide +kernel
theorem dX11_bestLevel_6 : decode cX11_bestLevel 6 = .ok (.if_icmp .ge 45, 3) := by decide +kernel
theorem dX11_bestLevel_9 : decode cX11_bestLevel 9 = .ok (.aload_n 0, 1) := by decide +kernel
theorem dX11_bestLevel_10 : decode cX11_bestLevel 10 = .ok (.iload_n 2, 1) := by decide +kernel
theorem dX11_bestLevel_11 : decode cX11_bestLevel 11 = .ok (.iconst 1, 1) := by decide +kernel
theorem dX11_bestLevel_12 : decode cX11_bestLevel 12 = .ok (.invokevirtual 164, 3) := by decide +kernel
theorem dX11_bestLevel_15 : decode cX11_bestLevel 15 = .ok (.aload_n 0, 1) := by decide +kernel
theorem dX11_bestLevel_16 : decode cX11_bestLevel 16 = .ok (.iload_n 2, 1) := by decide +kernel
theorem dX11_bestLevel_17 : decode cX11_bestLevel 17 = .ok (.iconst 0, 1) := by decide +kernel
theorem dX11_bestLevel_18 : decode cX11_bestLevel 18 = .ok (.invokevirtual 164, 3) := by decide +kernel
theorem dX11_bestLevel_21 : decode cX11_bestLevel 21 = .ok (.if_icmp .ge 24, 3) := by decide +kernel
theorem dX11_bestLevel_24 : decode cX11_bestLevel 24 = .ok (.iload_n 1, 1) := by decide +kernel
theorem dX11_bestLevel_25 : decode cX11_bestLevel 25 = .ok (.iconst (-1), 1) := by decide +kernel
theorem dX11_bestLevel_26 : decode cX11_bestLevel 26 = .ok (.if_icmp .eq 17, 3) := by decide +kernel
theorem dX11_bestLevel_29 : decode cX11_bestLevel 29 = .ok (.aload_n 0, 1) := by decide +kernel
theorem dX11_bestLevel_30 : decode cX11_bestLevel 30 = .ok (.iload_n 2, 1) := by decide +kernel
theorem dX11_bestLevel_31 : decode cX11_bestLevel 31 = .ok (.invokevirtual 168, 3) := by decide +kernel
theorem dX11_bestLevel_34 : decode cX11_bestLevel 34 = .ok (.aload_n 0, 1) := by decide +kernel
theorem dX11_bestLevel_35 : decode cX11_bestLevel 35 = .ok (.iload_n 1, 1) := by decide +kernel
theorem dX11_bestLevel_36 : decode cX11_bestLevel 36 = .ok (.invokevirtual 168, 3) := by decide +kernel
theorem dX11_bestLevel_39 : decode cX11_bestLevel 39 = .ok (.fcmp .l, 1) := by decide +kernel
theorem dX11_bestLevel_40 : decode cX11_bestLevel 40 = .ok (.ifCond .le 5, 3) := by decide +kernel
theorem dX11_bestLevel_43 : decode cX11_bestLevel 43 = .ok (.iload_n 2, 1) := by decide +kernel
theorem dX11_bestLevel_44 : decode cX11_bestLevel 44 = .ok (.istore_n 1, 1) := by decide +kernel
theorem dX11_bestLevel_45 : decode cX11_bestLevel 45 = .ok (.iinc 2 1, 3) := by decide +kernel
theorem dX11_bestLevel_48 : decode cX11_bestLevel 48 = .ok (.goto (-44), 3) := by decide +kernel
theorem dX11_bestLevel_51 : decode cX11_bestLevel 51 = .ok (.iload_n 1, 1) := by decide +kernel
theorem dX11_bestLevel_52 : decode cX11_bestLevel 52 = .ok (.ireturn, 1) := by decide +kernel
theorem dX11_setCapacity_0 : decode cX11_setCapacity 0 = .ok (.iload_n 1, 1) := by decide +kernel
theorem dX11_setCapacity_1 : decode cX11_setCapacity 1 = .ok (.iconst 0, 1) := by decide +kernel
theorem dX11_setCapacity_2 : decode cX11_setCapacity 2 = .ok (.iconst 3, 1) := by decide +kernel
theorem dX11_setCapacity_3 : decode cX11_setCapacity 3 = .ok (.invokestatic 39, 3) := by decide +kernel
theorem dX11_setCapacity_6 : decode cX11_setCapacity 6 = .ok (.ifCond .eq 13, 3) := by decide +kernel
theorem dX11_setCapacity_9 : decode cX11_setCapacity 9 = .ok (.iload_n 2, 1) := by decide +kernel
theorem dX11_setCapacity_10 : decode cX11_setCapacity 10 = .ok (.iconst 0, 1) := by decide +kernel
theorem dX11_setCapacity_11 : decode cX11_setCapacity 11 = .ok (.bipush 40, 2) := by decide +kernel
theorem dX11_setCapacity_13 : decode cX11_setCapacity 13 = .ok (.invokestatic 39, 3) := by decide +kernel
theorem dX11_setCapacity_16 : decode cX11_setCapacity 16 = .ok (.ifCond .ne 6, 3) := by decide +kernel
theorem dX11_setCapacity_19 : decode cX11_setCapacity 19 = .ok (.bipush (-2), 2) := by decide +kernel
theorem dX11_setCapacity_21 : decode cX11_setCapacity 21 = .ok (.ireturn, 1) := by decide +kernel
theorem dX11_setCapacity_22 : decode cX11_setCapacity 22 = .ok (.aload_n 0, 1) := by decide +kernel
theorem dX11_setCapacity_23 : decode cX11_setCapacity 23 = .ok (.iload_n 1, 1) := by decide +kernel
theorem dX11_setCapacity_24 : decode cX11_setCapacity 24 = .ok (.iconst 1, 1) := by decide +kernel
theorem dX11_setCapacity_25 : decode cX11_setCapacity 25 = .ok (.invokevirtual 164, 3) := by decide +kernel
theorem dX11_setCapacity_28 : decode cX11_setCapacity 28 = .ok (.iload_n 2, 1) := by decide +kernel
theorem dX11_setCapacity_29 : decode cX11_setCapacity 29 = .ok (.if_icmp .le 6, 3) := by decide +kernel
theorem dX11_setCapacity_32 : decode cX11_setCapacity 32 = .ok (.bipush (-3), 2) := by decide +kernel
theorem dX11_setCapacity_34 : decode cX11_setCapacity 34 = .ok (.ireturn, 1) := by decide +kernel
theorem dX11_setCapacity_35 : decode cX11_setCapacity 35 = .ok (.aload_n 0, 1) := by decide +kernel
theorem dX11_setCapacity_36 : decode cX11_setCapacity 36 = .ok (.iload_n 1, 1) := by decide +kernel
theorem dX11_setCapacity_37 : decode cX11_setCapacity 37 = .ok (.iconst 0, 1) := by decide +kernel
theorem dX11_setCapacity_38 : decode cX11_setCapacity 38 = .ok (.invokevirtual 164, 3) := by decide +kernel
theorem dX11_setCapacity_41 : decode cX11_setCapacity 41 = .ok (.istore_n 3, 1) := by decide +kernel
theorem dX11_setCapacity_42 : decode cX11_setCapacity 42 = .ok (.aload_n 0, 1) := by decide +kernel
theorem dX11_setCapacity_43 : decode cX11_setCapacity 43 = .ok (.getfield 7, 3) := by decide +kernel
theorem dX11_setCapacity_46 : decode cX11_setCapacity 46 = .ok (.sipush 153, 3) := by decide +kernel
theorem dX11_setCapacity_49 : decode cX11_setCapacity 49 = .ok (.iconst 4, 1) := by decide +kernel
theorem dX11_setCapacity_50 : decode cX11_setCapacity 50 = .ok (.iload_n 1, 1) := by decide +kernel
theorem dX11_setCapacity_51 : decode cX11_setCapacity 51 = .ok (.imul, 1) := by decide +kernel
theorem dX11_setCapacity_52 : decode cX11_setCapacity 52 = .ok (.iadd, 1) := by decide +kernel
theorem dX11_setCapacity_53 : decode cX11_setCapacity 53 = .ok (.iconst 0, 1) := by decide +kernel
theorem dX11_setCapacity_54 : decode cX11_setCapacity 54 = .ok (.iadd, 1) := by decide +kernel
theorem dX11_setCapacity_55 : decode cX11_setCapacity 55 = .ok (.iload_n 2, 1) := by decide +kernel
theorem dX11_setCapacity_56 : decode cX11_setCapacity 56 = .ok (.iastore, 1) := by decide +kernel
theorem dX11_setCapacity_57 : decode cX11_setCapacity 57 = .ok (.iload_n 3, 1) := by decide +kernel
theorem dX11_setCapacity_58 : decode cX11_setCapacity 58 = .ok (.ireturn, 1) := by decide +kernel
theorem dX11_level_0 : decode cX11_level 0 = .ok (.iload_n 1, 1) := by decide +kernel
theorem dX11_level_1 : decode cX11_level 1 = .ok (.iconst 0, 1) := by decide +kernel
theorem dX11_level_2 : decode cX11_level 2 = .ok (.iconst 3, 1) := by decide +kernel
theorem dX11_level_3 : decode cX11_level 3 = .ok (.invokestatic 39, 3) := by decide +kernel
theorem dX11_level_6 : decode cX11_level 6 = .ok (.ifCond .ne 6, 3) := by decide +kernel
theorem dX11_level_9 : decode cX11_level 9 = .ok (.bipush (-2), 2) := by decide +kernel
theorem dX11_level_11 : decode cX11_level 11 = .ok (.ireturn, 1) := by decide +kernel
theorem dX11_level_12 : decode cX11_level 12 = .ok (.iload_n 2, 1) := by decide +kernel
theorem dX11_level_13 : decode cX11_level 13 = .ok (.tableswitch 99 0 5 #[39, 46, 53, 63, 85, 92], 39) := by decide +kernel
theorem dX11_level_52 : decode cX11_level 52 = .ok (.aload_n 0, 1) := by decide +kernel
theorem dX11_level_53 : decode cX11_level 53 = .ok (.iload_n 1, 1) := by decide +kernel
theorem dX11_level_54 : decode cX11_level 54 = .ok (.iconst 0, 1) := by decide +kernel
theorem dX11_level_55 : decode cX11_level 55 = .ok (.invokevirtual 164, 3) := by decide +kernel
theorem dX11_level_58 : decode cX11_level 58 = .ok (.ireturn, 1) := by decide +kernel
theorem dX11_level_59 : decode cX11_level 59 = .ok (.aload_n 0, 1) := by decide +kernel
theorem dX11_level_60 : decode cX11_level 60 = .ok (.iload_n 1, 1) := by decide +kernel
theorem dX11_level_61 : decode cX11_level 61 = .ok (.iconst 1, 1) := by decide +kernel
theorem dX11_level_62 : decode cX11_level 62 = .ok (.invokevirtual 164, 3) := by decide +kernel
theorem dX11_level_65 : decode cX11_level 65 = .ok (.ireturn, 1) := by decide +kernel
theorem dX11_level_66 : decode cX11_level 66 = .ok (.aload_n 0, 1) := by decide +kernel
theorem dX11_level_67 : decode cX11_level 67 = .ok (.getfield 16, 3) := by decide +kernel
theorem dX11_level_70 : decode cX11_level 70 = .ok (.iload_n 1, 1) := by decide +kernel
theorem dX11_level_71 : decode cX11_level 71 = .ok (.faload, 1) := by decide +kernel
theorem dX11_level_72 : decode cX11_level 72 = .ok (.invokestatic 172, 3) := by decide +kernel
theorem dX11_level_75 : decode cX11_level 75 = .ok (.ireturn, 1) := by decide +kernel
theorem dX11_level_76 : decode cX11_level 76 = .ok (.aload_n 0, 1) := by decide +kernel
theorem dX11_level_77 : decode cX11_level 77 = .ok (.iload_n 1, 1) := by decide +kernel
theorem dX11_level_78 : decode cX11_level 78 = .ok (.iconst 0, 1) := by decide +kernel
theorem dX11_level_79 : decode cX11_level 79 = .ok (.invokevirtual 164, 3) := by decide +kernel
theorem dX11_level_82 : decode cX11_level 82 = .ok (.ifCond .ne 7, 3) := by decide +kernel
theorem dX11_level_85 : decode cX11_level 85 = .ok (.iconst 0, 1) := by decide +kernel
theorem dX11_level_86 : decode cX11_level 86 = .ok (.goto 11, 3) := by decide +kernel
theorem dX11_level_89 : decode cX11_level 89 = .ok (.aload_n 0, 1) := by decide +kernel
theorem dX11_level_90 : decode cX11_level 90 = .ok (.iload_n 1, 1) := by decide +kernel
theorem dX11_level_91 : decode cX11_level 91 = .ok (.invokevirtual 168, 3) := by decide +kernel
theorem dX11_level_94 : decode cX11_level 94 = .ok (.invokestatic 172, 3) := by decide +kernel
theorem dX11_level_97 : decode cX11_level 97 = .ok (.ireturn, 1) := by decide +kernel
theorem dX11_level_98 : decode cX11_level 98 = .ok (.aload_n 0, 1) := by decide +kernel
theorem dX11_level_99 : decode cX11_level 99 = .ok (.iload_n 1, 1) := by decide +kernel
theorem dX11_level_100 : decode cX11_level 100 = .ok (.iconst 2, 1) := by decide +kernel
theorem dX11_level_101 : decode cX11_level 101 = .ok (.invokevirtual 164, 3) := by decide +kernel
theorem dX11_level_104 : decode cX11_level 104 = .ok (.ireturn, 1) := by decide +kernel
theorem dX11_level_105 : decode cX11_level 105 = .ok (.aload_n 0, 1) := by decide +kernel
theorem dX11_level_106 : decode cX11_level 106 = .ok (.iload_n 1, 1) := by decide +kernel
theorem dX11_level_107 : decode cX11_level 107 = .ok (.iconst 3, 1) := by decide +kernel
theorem dX11_level_108 : decode cX11_level 108 = .ok (.invokevirtual 164, 3) := by decide +kernel
theorem dX11_level_111 : decode cX11_level 111 = .ok (.ireturn, 1) := by decide +kernel
theorem dX11_level_112 : decode cX11_level 112 = .ok (.bipush (-2), 2) := by decide +kernel
theorem dX11_level_114 : decode cX11_level 114 = .ok (.ireturn, 1) := by decide +kernel
theorem dX11_forecast_0 : decode cX11_forecast 0 = .ok (.iload_n 1, 1) := by decide +kernel
theorem dX11_forecast_1 : decode cX11_forecast 1 = .ok (.iconst 0, 1) := by decide +kernel
theorem dX11_forecast_2 : decode cX11_forecast 2 = .ok (.iconst 3, 1) := by decide +kernel
theorem dX11_forecast_3 : decode cX11_forecast 3 = .ok (.invokestatic 39, 3) := by decide +kernel
theorem dX11_forecast_6 : decode cX11_forecast 6 = .ok (.ifCond .eq 14, 3) := by decide +kernel
theorem dX11_forecast_9 : decode cX11_forecast 9 = .ok (.iload_n 2, 1) := by decide +kernel
theorem dX11_forecast_10 : decode cX11_forecast 10 = .ok (.iconst 0, 1) := by decide +kernel
theorem dX11_forecast_11 : decode cX11_forecast 11 = .ok (.sipush 600, 3) := by decide +kernel
theorem dX11_forecast_14 : decode cX11_forecast 14 = .ok (.invokestatic 39, 3) := by decide +kernel
theorem dX11_forecast_17 : decode cX11_forecast 17 = .ok (.ifCond .ne 6, 3) := by decide +kernel
theorem dX11_forecast_20 : decode cX11_forecast 20 = .ok (.bipush (-2), 2) := by decide +kernel
theorem dX11_forecast_22 : decode cX11_forecast 22 = .ok (.ireturn, 1) := by decide +kernel
theorem dX11_forecast_23 : decode cX11_forecast 23 = .ok (.aload_n 0, 1) := by decide +kernel
theorem dX11_forecast_24 : decode cX11_forecast 24 = .ok (.iload_n 1, 1) := by decide +kernel
theorem dX11_forecast_25 : decode cX11_forecast 25 = .ok (.iconst 1, 1) := by decide +kernel
theorem dX11_forecast_26 : decode cX11_forecast 26 = .ok (.invokevirtual 164, 3) := by decide +kernel
theorem dX11_forecast_29 : decode cX11_forecast 29 = .ok (.i2f, 1) := by decide +kernel
theorem dX11_forecast_30 : decode cX11_forecast 30 = .ok (.aload_n 0, 1) := by decide +kernel
theorem dX11_forecast_31 : decode cX11_forecast 31 = .ok (.getfield 16, 3) := by decide +kernel
theorem dX11_forecast_34 : decode cX11_forecast 34 = .ok (.iload_n 1, 1) := by decide +kernel
theorem dX11_forecast_35 : decode cX11_forecast 35 = .ok (.faload, 1) := by decide +kernel
theorem dX11_forecast_36 : decode cX11_forecast 36 = .ok (.iload_n 2, 1) := by decide +kernel
theorem dX11_forecast_37 : decode cX11_forecast 37 = .ok (.i2f, 1) := by decide +kernel
theorem dX11_forecast_38 : decode cX11_forecast 38 = .ok (.fmul, 1) := by decide +kernel
theorem dX11_forecast_39 : decode cX11_forecast 39 = .ok (.ldc 178, 2) := by decide +kernel
theorem dX11_forecast_41 : decode cX11_forecast 41 = .ok (.fdiv, 1) := by decide +kernel
theorem dX11_forecast_42 : decode cX11_forecast 42 = .ok (.fsub, 1) := by decide +kernel
theorem dX11_forecast_43 : decode cX11_forecast 43 = .ok (.f2i, 1) := by decide +kernel
theorem dX11_forecast_44 : decode cX11_forecast 44 = .ok (.istore_n 3, 1) := by decide +kernel
theorem dX11_forecast_45 : decode cX11_forecast 45 = .ok (.iload_n 3, 1) := by decide +kernel
theorem dX11_forecast_46 : decode cX11_forecast 46 = .ok (.ifCond .ge 7, 3) := by decide +kernel
theorem dX11_forecast_49 : decode cX11_forecast 49 = .ok (.iconst 0, 1) := by decide +kernel
theorem dX11_forecast_50 : decode cX11_forecast 50 = .ok (.goto 4, 3) := by decide +kernel
theorem dX11_forecast_53 : decode cX11_forecast 53 = .ok (.iload_n 3, 1) := by decide +kernel
theorem dX11_forecast_54 : decode cX11_forecast 54 = .ok (.ireturn, 1) := by decide +kernel
theorem dX11_item_0 : decode cX11_item 0 = .ok (.aload_n 0, 1) := by decide +kernel
theorem dX11_item_1 : decode cX11_item 1 = .ok (.getfield 7, 3) := by decide +kernel
theorem dX11_item_4 : decode cX11_item 4 = .ok (.sipush 169, 3) := by decide +kernel
theorem dX11_item_7 : decode cX11_item 7 = .ok (.bipush 12, 2) := by decide +kernel
theorem dX11_item_9 : decode cX11_item 9 = .ok (.iload_n 1, 1) := by decide +kernel
theorem dX11_item_10 : decode cX11_item 10 = .ok (.imul, 1) := by decide +kernel
theorem dX11_item_11 : decode cX11_item 11 = .ok (.iadd, 1) := by decide +kernel
theorem dX11_item_12 : decode cX11_item 12 = .ok (.iload_n 2, 1) := by decide +kernel
theorem dX11_item_13 : decode cX11_item 13 = .ok (.iadd, 1) := by decide +kernel
theorem dX11_item_14 : decode cX11_item 14 = .ok (.iaload, 1) := by decide +kernel
theorem dX11_item_15 : decode cX11_item 15 = .ok (.ireturn, 1) := by decide +kernel
theorem dX11_set_0 : decode cX11_set 0 = .ok (.aload_n 0, 1) := by decide +kernel
theorem dX11_set_1 : decode cX11_set 1 = .ok (.getfield 7, 3) := by decide +kernel
theorem dX11_set_4 : decode cX11_set 4 = .ok (.sipush 169, 3) := by decide +kernel
theorem dX11_set_7 : decode cX11_set 7 = .ok (.bipush 12, 2) := by decide +kernel
theorem dX11_set_9 : decode cX11_set 9 = .ok (.iload_n 1, 1) := by decide +kernel
theorem dX11_set_10 : decode cX11_set 10 = .ok (.imul, 1) := by decide +kernel
theorem dX11_set_11 : decode cX11_set 11 = .ok (.iadd, 1) := by decide +kernel
theorem dX11_set_12 : decode cX11_set 12 = .ok (.iload_n 2, 1) := by decide +kernel
theorem dX11_set_13 : decode cX11_set 13 = .ok (.iadd, 1) := by decide +kernel
theorem dX11_set_14 : decode cX11_set 14 = .ok (.iload_n 3, 1) := by decide +kernel
theorem dX11_set_15 : decode cX11_set 15 = .ok (.iastore, 1) := by decide +kernel
theorem dX11_set_16 : decode cX11_set 16 = .ok (.return_, 1) := by decide +kernel
theorem dX11_isInside_0 : decode cX11_isInside 0 = .ok (.iload_n 1, 1) := by decide +kernel
theorem dX11_isInside_1 : decode cX11_isInside 1 = .ok (.iconst 0, 1) := by decide +kernel
theorem dX11_isInside_2 : decode cX11_isInside 2 = .ok (.aload_n 0, 1) := by decide +kernel
theorem dX11_isInside_3 : decode cX11_isInside 3 = .ok (.getfield 7, 3) := by decide +kernel
theorem dX11_isInside_6 : decode cX11_isInside 6 = .ok (.iconst 1, 1) := by decide +kernel
theorem dX11_isInside_7 : decode cX11_isInside 7 = .ok (.iaload, 1) := by decide +kernel
theorem dX11_isInside_8 : decode cX11_isInside 8 = .ok (.iconst 1, 1) := by decide +kernel
theorem dX11_isInside_9 : decode cX11_isInside 9 = .ok (.isub, 1) := by decide +kernel
theorem dX11_isInside_10 : decode cX11_isInside 10 = .ok (.invokestatic 39, 3) := by decide +kernel
theorem dX11_isInside_13 : decode cX11_isInside 13 = .ok (.ifCond .eq 16, 3) := by decide +kernel
theorem dX11_isInside_16 : decode cX11_isInside 16 = .ok (.aload_n 0, 1) := by decide +kernel
theorem dX11_isInside_17 : decode cX11_isInside 17 = .ok (.iload_n 1, 1) := by decide +kernel
theorem dX11_isInside_18 : decode cX11_isInside 18 = .ok (.iconst 5, 1) := by decide +kernel
theorem dX11_isInside_19 : decode cX11_isInside 19 = .ok (.invokevirtual 179, 3) := by decide +kernel
theorem dX11_isInside_22 : decode cX11_isInside 22 = .ok (.ifCond .ne 7, 3) := by decide +kernel
theorem dX11_isInside_25 : decode cX11_isInside 25 = .ok (.iconst 1, 1) := by decide +kernel
theorem dX11_isInside_26 : decode cX11_isInside 26 = .ok (.goto 4, 3) := by decide +kernel
theorem dX11_isInside_29 : decode cX11_isInside 29 = .ok (.iconst 0, 1) := by decide +kernel
theorem dX11_isInside_30 : decode cX11_isInside 30 = .ok (.ireturn, 1) := by decide +kernel
theorem dX11_inside_0 : decode cX11_inside 0 = .ok (.aload_n 0, 1) := by decide +kernel
theorem dX11_inside_1 : decode cX11_inside 1 = .ok (.getfield 7, 3) := by decide +kernel
theorem dX11_inside_4 : decode cX11_inside 4 = .ok (.iconst 1, 1) := by decide +kernel
theorem dX11_inside_5 : decode cX11_inside 5 = .ok (.iaload, 1) := by decide +kernel
theorem dX11_inside_6 : decode cX11_inside 6 = .ok (.aload_n 0, 1) := by decide +kernel
theorem dX11_inside_7 : decode cX11_inside 7 = .ok (.getfield 7, 3) := by decide +kernel
theorem dX11_inside_10 : decode cX11_inside 10 = .ok (.iconst 2, 1) := by decide +kernel
theorem dX11_inside_11 : decode cX11_inside 11 = .ok (.iaload, 1) := by decide +kernel
theorem dX11_inside_12 : decode cX11_inside 12 = .ok (.isub, 1) := by decide +kernel
theorem dX11_inside_13 : decode cX11_inside 13 = .ok (.ireturn, 1) := by decide +kernel
theorem dX11_enter_0 : decode cX11_enter 0 = .ok (.iload_n 1, 1) := by decide +kernel
theorem dX11_enter_1 : decode cX11_enter 1 = .ok (.invokestatic 84, 3) := by decide +kernel
theorem dX11_enter_4 : decode cX11_enter 4 = .ok (.ifCond .ne 6, 3) := by decide +kernel
theorem dX11_enter_7 : decode cX11_enter 7 = .ok (.bipush (-2), 2) := by decide +kernel
theorem dX11_enter_9 : decode cX11_enter 9 = .ok (.ireturn, 1) := by decide +kernel
theorem dX11_enter_10 : decode cX11_enter 10 = .ok (.aload_n 0, 1) := by decide +kernel
theorem dX11_enter_11 : decode cX11_enter 11 = .ok (.invokevirtual 182, 3) := by decide +kernel
theorem dX11_enter_14 : decode cX11_enter 14 = .ok (.istore_n 2, 1) := by decide +kernel
theorem dX11_enter_15 : decode cX11_enter 15 = .ok (.aload_n 0, 1) := by decide +kernel
theorem dX11_enter_16 : decode cX11_enter 16 = .ok (.invokevirtual 185, 3) := by decide +kernel
theorem dX11_enter_19 : decode cX11_enter 19 = .ok (.bipush 40, 2) := by decide +kernel
theorem dX11_enter_21 : decode cX11_enter 21 = .ok (.if_icmp .eq 8, 3) := by decide +kernel
theorem dX11_enter_24 : decode cX11_enter 24 = .ok (.iload_n 2, 1) := by decide +kernel
theorem dX11_enter_25 : decode cX11_enter 25 = .ok (.iconst (-1), 1) := by decide +kernel
theorem dX11_enter_26 : decode cX11_enter 26 = .ok (.if_icmp .ne 6, 3) := by decide +kernel
theorem dX11_enter_29 : decode cX11_enter 29 = .ok (.bipush (-3), 2) := by decide +kernel
theorem dX11_enter_31 : decode cX11_enter 31 = .ok (.ireturn, 1) := by decide +kernel
theorem dX11_enter_32 : decode cX11_enter 32 = .ok (.aload_n 0, 1) := by decide +kernel
theorem dX11_enter_33 : decode cX11_enter 33 = .ok (.getfield 7, 3) := by decide +kernel
theorem dX11_enter_36 : decode cX11_enter 36 = .ok (.iconst 1, 1) := by decide +kernel
theorem dX11_enter_37 : decode cX11_enter 37 = .ok (.iaload, 1) := by decide +kernel
theorem dX11_enter_38 : decode cX11_enter 38 = .ok (.istore_n 3, 1) := by decide +kernel
theorem dX11_enter_39 : decode cX11_enter 39 = .ok (.iconst 0, 1) := by decide +kernel
theorem dX11_enter_40 : decode cX11_enter 40 = .ok (.istore 4, 2) := by decide +kernel
theorem dX11_enter_42 : decode cX11_enter 42 = .ok (.iload 4, 2) := by decide +kernel
theorem dX11_enter_44 : decode cX11_enter 44 = .ok (.bipush 12, 2) := by decide +kernel
theorem dX11_enter_46 : decode cX11_enter 46 = .ok (.if_icmp .ge 17, 3) := by decide +kernel
theorem dX11_enter_49 : decode cX11_enter 49 = .ok (.aload_n 0, 1) := by decide +kernel
theorem dX11_enter_50 : decode cX11_enter 50 = .ok (.iload_n 3, 1) := by decide +kernel
theorem dX11_enter_51 : decode cX11_enter 51 = .ok (.iload 4, 2) := by decide +kernel
theorem dX11_enter_53 : decode cX11_enter 53 = .ok (.iconst 0, 1) := by decide +kernel
theorem dX11_enter_54 : decode cX11_enter 54 = .ok (.invokevirtual 188, 3) := by decide +kernel
theorem dX11_enter_57 : decode cX11_enter 57 = .ok (.iinc 4 1, 3) := by decide +kernel
theorem dX11_enter_60 : decode cX11_enter 60 = .ok (.goto (-18), 3) := by decide +kernel
theorem dX11_enter_63 : decode cX11_enter 63 = .ok (.aload_n 0, 1) := by decide +kernel
theorem dX11_enter_64 : decode cX11_enter 64 = .ok (.iload_n 3, 1) := by decide +kernel
theorem dX11_enter_65 : decode cX11_enter 65 = .ok (.iconst 0, 1) := by decide +kernel
theorem dX11_enter_66 : decode cX11_enter 66 = .ok (.iload_n 1, 1) := by decide +kernel
theorem dX11_enter_67 : decode cX11_enter 67 = .ok (.invokevirtual 188, 3) := by decide +kernel
theorem dX11_enter_70 : decode cX11_enter 70 = .ok (.aload_n 0, 1) := by decide +kernel
theorem dX11_enter_71 : decode cX11_enter 71 = .ok (.iload_n 3, 1) := by decide +kernel
theorem dX11_enter_72 : decode cX11_enter 72 = .ok (.iconst 1, 1) := by decide +kernel
theorem dX11_enter_73 : decode cX11_enter 73 = .ok (.aload_n 0, 1) := by decide +kernel
theorem dX11_enter_74 : decode cX11_enter 74 = .ok (.getfield 7, 3) := by decide +kernel
theorem dX11_enter_77 : decode cX11_enter 77 = .ok (.iconst 0, 1) := by decide +kernel
theorem dX11_enter_78 : decode cX11_enter 78 = .ok (.iaload, 1) := by decide +kernel
theorem dX11_enter_79 : decode cX11_enter 79 = .ok (.invokevirtual 188, 3) := by decide +kernel
theorem dX11_enter_82 : decode cX11_enter 82 = .ok (.aload_n 0, 1) := by decide +kernel
theorem dX11_enter_83 : decode cX11_enter 83 = .ok (.iload_n 3, 1) := by decide +kernel
theorem dX11_enter_84 : decode cX11_enter 84 = .ok (.iconst 2, 1) := by decide +kernel
theorem dX11_enter_85 : decode cX11_enter 85 = .ok (.iload_n 2, 1) := by decide +kernel
theorem dX11_enter_86 : decode cX11_enter 86 = .ok (.invokevirtual 188, 3) := by decide +kernel
theorem dX11_enter_89 : decode cX11_enter 89 = .ok (.aload_n 0, 1) := by decide +kernel
theorem dX11_enter_90 : decode cX11_enter 90 = .ok (.iload_n 3, 1) := by decide +kernel
theorem dX11_enter_91 : decode cX11_enter 91 = .ok (.bipush 7, 2) := by decide +kernel
theorem dX11_enter_93 : decode cX11_enter 93 = .ok (.iconst (-1), 1) := by decide +kernel
theorem dX11_enter_94 : decode cX11_enter 94 = .ok (.invokevirtual 188, 3) := by decide +kernel
theorem dX11_enter_97 : decode cX11_enter 97 = .ok (.aload_n 0, 1) := by decide +kernel
theorem dX11_enter_98 : decode cX11_enter 98 = .ok (.getfield 7, 3) := by decide +kernel
theorem dX11_enter_101 : decode cX11_enter 101 = .ok (.iconst 1, 1) := by decide +kernel
theorem dX11_enter_102 : decode cX11_enter 102 = .ok (.dup2, 1) := by decide +kernel
theorem dX11_enter_103 : decode cX11_enter 103 = .ok (.iaload, 1) := by decide +kernel
theorem dX11_enter_104 : decode cX11_enter 104 = .ok (.iconst 1, 1) := by decide +kernel
theorem dX11_enter_105 : decode cX11_enter 105 = .ok (.iadd, 1) := by decide +kernel
theorem dX11_enter_106 : decode cX11_enter 106 = .ok (.iastore, 1) := by decide +kernel
theorem dX11_enter_107 : decode cX11_enter 107 = .ok (.aload_n 0, 1) := by decide +kernel
theorem dX11_enter_108 : decode cX11_enter 108 = .ok (.getfield 7, 3) := by decide +kernel
theorem dX11_enter_111 : decode cX11_enter 111 = .ok (.sipush 153, 3) := by decide +kernel
theorem dX11_enter_114 : decode cX11_enter 114 = .ok (.iconst 4, 1) := by decide +kernel
theorem dX11_enter_115 : decode cX11_enter 115 = .ok (.iload_n 2, 1) := by decide +kernel
theorem dX11_enter_116 : decode cX11_enter 116 = .ok (.imul, 1) := by decide +kernel
theorem dX11_enter_117 : decode cX11_enter 117 = .ok (.iadd, 1) := by decide +kernel
theorem dX11_enter_118 : decode cX11_enter 118 = .ok (.iconst 1, 1) := by decide +kernel
theorem dX11_enter_119 : decode cX11_enter 119 = .ok (.iadd, 1) := by decide +kernel
theorem dX11_enter_120 : decode cX11_enter 120 = .ok (.dup2, 1) := by decide +kernel
theorem dX11_enter_121 : decode cX11_enter 121 = .ok (.iaload, 1) := by decide +kernel
theorem dX11_enter_122 : decode cX11_enter 122 = .ok (.iconst 1, 1) := by decide +kernel
theorem dX11_enter_123 : decode cX11_enter 123 = .ok (.iadd, 1) := by decide +kernel
theorem dX11_enter_124 : decode cX11_enter 124 = .ok (.iastore, 1) := by decide +kernel
theorem dX11_enter_125 : decode cX11_enter 125 = .ok (.aload_n 0, 1) := by decide +kernel
theorem dX11_enter_126 : decode cX11_enter 126 = .ok (.getfield 7, 3) := by decide +kernel
theorem dX11_enter_129 : decode cX11_enter 129 = .ok (.sipush 153, 3) := by decide +kernel
theorem dX11_enter_132 : decode cX11_enter 132 = .ok (.iconst 4, 1) := by decide +kernel
theorem dX11_enter_133 : decode cX11_enter 133 = .ok (.iload_n 2, 1) := by decide +kernel
theorem dX11_enter_134 : decode cX11_enter 134 = .ok (.imul, 1) := by decide +kernel
theorem dX11_enter_135 : decode cX11_enter 135 = .ok (.iadd, 1) := by decide +kernel
theorem dX11_enter_136 : decode cX11_enter 136 = .ok (.iconst 3, 1) := by decide +kernel
theorem dX11_enter_137 : decode cX11_enter 137 = .ok (.iadd, 1) := by decide +kernel
theorem dX11_enter_138 : decode cX11_enter 138 = .ok (.dup2, 1) := by decide +kernel
theorem dX11_enter_139 : decode cX11_enter 139 = .ok (.iaload, 1) := by decide +kernel
theorem dX11_enter_140 : decode cX11_enter 140 = .ok (.iconst 1, 1) := by decide +kernel
theorem dX11_enter_141 : decode cX11_enter 141 = .ok (.iadd, 1) := by decide +kernel
theorem dX11_enter_142 : decode cX11_enter 142 = .ok (.iastore, 1) := by decide +kernel
theorem dX11_enter_143 : decode cX11_enter 143 = .ok (.iload_n 3, 1) := by decide +kernel
theorem dX11_enter_144 : decode cX11_enter 144 = .ok (.ireturn, 1) := by decide +kernel
theorem dX11_give_0 : decode cX11_give 0 = .ok (.aload_n 0, 1) := by decide +kernel
theorem dX11_give_1 : decode cX11_give 1 = .ok (.iload_n 1, 1) := by decide +kernel
theorem dX11_give_2 : decode cX11_give 2 = .ok (.invokevirtual 191, 3) := by decide +kernel
theorem dX11_give_5 : decode cX11_give 5 = .ok (.ifCond .eq 13, 3) := by decide +kernel
theorem dX11_give_8 : decode cX11_give 8 = .ok (.aload_n 0, 1) := by decide +kernel
theorem dX11_give_9 : decode cX11_give 9 = .ok (.iload_n 2, 1) := by decide +kernel
theorem dX11_give_10 : decode cX11_give 10 = .ok (.iload_n 3, 1) := by decide +kernel
theorem dX11_give_11 : decode cX11_give 11 = .ok (.invokevirtual 194, 3) := by decide +kernel
theorem dX11_give_14 : decode cX11_give 14 = .ok (.iconst (-1), 1) := by decide +kernel
theorem dX11_give_15 : decode cX11_give 15 = .ok (.if_icmp .ne 5, 3) := by decide +kernel
theorem dX11_give_18 : decode cX11_give 18 = .ok (.iconst (-1), 1) := by decide +kernel
theorem dX11_give_19 : decode cX11_give 19 = .ok (.ireturn, 1) := by decide +kernel
theorem dX11_give_20 : decode cX11_give 20 = .ok (.aload_n 0, 1) := by decide +kernel
theorem dX11_give_21 : decode cX11_give 21 = .ok (.iload_n 1, 1) := by decide +kernel
theorem dX11_give_22 : decode cX11_give 22 = .ok (.bipush 6, 2) := by decide +kernel
theorem dX11_give_24 : decode cX11_give 24 = .ok (.invokevirtual 179, 3) := by decide +kernel
theorem dX11_give_27 : decode cX11_give 27 = .ok (.iconst 1, 1) := by decide +kernel
theorem dX11_give_28 : decode cX11_give 28 = .ok (.if_icmp .ne 6, 3) := by decide +kernel
theorem dX11_give_31 : decode cX11_give 31 = .ok (.bipush (-4), 2) := by decide +kernel
theorem dX11_give_33 : decode cX11_give 33 = .ok (.ireturn, 1) := by decide +kernel
theorem dX11_give_34 : decode cX11_give 34 = .ok (.aload_n 0, 1) := by decide +kernel
theorem dX11_give_35 : decode cX11_give 35 = .ok (.iload_n 1, 1) := by decide +kernel
theorem dX11_give_36 : decode cX11_give 36 = .ok (.iconst 4, 1) := by decide +kernel
theorem dX11_give_37 : decode cX11_give 37 = .ok (.invokevirtual 179, 3) := by decide +kernel
theorem dX11_give_40 : decode cX11_give 40 = .ok (.istore 4, 2) := by decide +kernel
theorem dX11_give_42 : decode cX11_give 42 = .ok (.iload 4, 2) := by decide +kernel
theorem dX11_give_44 : decode cX11_give 44 = .ok (.iconst 4, 1) := by decide +kernel
theorem dX11_give_45 : decode cX11_give 45 = .ok (.if_icmp .ne 6, 3) := by decide +kernel
theorem dX11_give_48 : decode cX11_give 48 = .ok (.bipush (-3), 2) := by decide +kernel
theorem dX11_give_50 : decode cX11_give 50 = .ok (.ireturn, 1) := by decide +kernel
theorem dX11_give_51 : decode cX11_give 51 = .ok (.aload_n 0, 1) := by decide +kernel
theorem dX11_give_52 : decode cX11_give 52 = .ok (.iload_n 2, 1) := by decide +kernel
theorem dX11_give_53 : decode cX11_give 53 = .ok (.iload_n 3, 1) := by decide +kernel
theorem dX11_give_54 : decode cX11_give 54 = .ok (.invokevirtual 194, 3) := by decide +kernel
theorem dX11_give_57 : decode cX11_give 57 = .ok (.istore 5, 2) := by decide +kernel
theorem dX11_give_59 : decode cX11_give 59 = .ok (.aload_n 0, 1) := by decide +kernel
theorem dX11_give_60 : decode cX11_give 60 = .ok (.iload_n 1, 1) := by decide +kernel
theorem dX11_give_61 : decode cX11_give 61 = .ok (.bipush 8, 2) := by decide +kernel
theorem dX11_give_63 : decode cX11_give 63 = .ok (.iload 4, 2) := by decide +kernel
theorem dX11_give_65 : decode cX11_give 65 = .ok (.iadd, 1) := by decide +kernel
theorem dX11_give_66 : decode cX11_give 66 = .ok (.iload 5, 2) := by decide +kernel
theorem dX11_give_68 : decode cX11_give 68 = .ok (.invokevirtual 188, 3) := by decide +kernel
theorem dX11_give_71 : decode cX11_give 71 = .ok (.aload_n 0, 1) := by decide +kernel
theorem dX11_give_72 : decode cX11_give 72 = .ok (.iload_n 1, 1) := by decide +kernel
theorem dX11_give_73 : decode cX11_give 73 = .ok (.iconst 4, 1) := by decide +kernel
theorem dX11_give_74 : decode cX11_give 74 = .ok (.iload 4, 2) := by decide +kernel
theorem dX11_give_76 : decode cX11_give 76 = .ok (.iconst 1, 1) := by decide +kernel
theorem dX11_give_77 : decode cX11_give 77 = .ok (.iadd, 1) := by decide +kernel
theorem dX11_give_78 : decode cX11_give 78 = .ok (.invokevirtual 188, 3) := by decide +kernel
theorem dX11_give_81 : decode cX11_give 81 = .ok (.aload_n 0, 1) := by decide +kernel
theorem dX11_give_82 : decode cX11_give 82 = .ok (.getfield 7, 3) := by decide +kernel
theorem dX11_give_85 : decode cX11_give 85 = .ok (.bipush 102, 2) := by decide +kernel
theorem dX11_give_87 : decode cX11_give 87 = .ok (.iconst 3, 1) := by decide +kernel
theorem dX11_give_88 : decode cX11_give 88 = .ok (.iload 5, 2) := by decide +kernel
theorem dX11_give_90 : decode cX11_give 90 = .ok (.imul, 1) := by decide +kernel
theorem dX11_give_91 : decode cX11_give 91 = .ok (.iadd, 1) := by decide +kernel
theorem dX11_give_92 : decode cX11_give 92 = .ok (.iconst 2, 1) := by decide +kernel
theorem dX11_give_93 : decode cX11_give 93 = .ok (.iadd, 1) := by decide +kernel
theorem dX11_give_94 : decode cX11_give 94 = .ok (.dup2, 1) := by decide +kernel
theorem dX11_give_95 : decode cX11_give 95 = .ok (.iaload, 1) := by decide +kernel
theorem dX11_give_96 : decode cX11_give 96 = .ok (.iconst 1, 1) := by decide +kernel
theorem dX11_give_97 : decode cX11_give 97 = .ok (.iadd, 1) := by decide +kernel
theorem dX11_give_98 : decode cX11_give 98 = .ok (.iastore, 1) := by decide +kernel
theorem dX11_give_99 : decode cX11_give 99 = .ok (.iload 4, 2) := by decide +kernel
theorem dX11_give_101 : decode cX11_give 101 = .ok (.iconst 1, 1) := by decide +kernel
theorem dX11_give_102 : decode cX11_give 102 = .ok (.iadd, 1) := by decide +kernel
theorem dX11_give_103 : decode cX11_give 103 = .ok (.ireturn, 1) := by decide +kernel
theorem dX11_base_0 : decode cX11_base 0 = .ok (.aload_n 0, 1) := by decide +kernel
theorem dX11_base_1 : decode cX11_base 1 = .ok (.iload_n 1, 1) := by decide +kernel
theorem dX11_base_2 : decode cX11_base 2 = .ok (.iconst 1, 1) := by decide +kernel
theorem dX11_base_3 : decode cX11_base 3 = .ok (.invokevirtual 179, 3) := by decide +kernel
theorem dX11_base_6 : decode cX11_base 6 = .ok (.istore_n 3, 1) := by decide +kernel
theorem dX11_base_7 : decode cX11_base 7 = .ok (.iconst 0, 1) := by decide +kernel
theorem dX11_base_8 : decode cX11_base 8 = .ok (.istore 4, 2) := by decide +kernel
theorem dX11_base_10 : decode cX11_base 10 = .ok (.iload 4, 2) := by decide +kernel
theorem dX11_base_12 : decode cX11_base 12 = .ok (.aload_n 0, 1) := by decide +kernel
theorem dX11_base_13 : decode cX11_base 13 = .ok (.iload_n 1, 1) := by decide +kernel
theorem dX11_base_14 : decode cX11_base 14 = .ok (.iconst 4, 1) := by decide +kernel
theorem dX11_base_15 : decode cX11_base 15 = .ok (.invokevirtual 179, 3) := by decide +kernel
theorem dX11_base_18 : decode cX11_base 18 = .ok (.if_icmp .ge 47, 3) := by decide +kernel
theorem dX11_base_21 : decode cX11_base 21 = .ok (.iload_n 3, 1) := by decide +kernel
theorem dX11_base_22 : decode cX11_base 22 = .ok (.aload_n 0, 1) := by decide +kernel
theorem dX11_base_23 : decode cX11_base 23 = .ok (.aload_n 0, 1) := by decide +kernel
theorem dX11_base_24 : decode cX11_base 24 = .ok (.iload_n 1, 1) := by decide +kernel
theorem dX11_base_25 : decode cX11_base 25 = .ok (.bipush 8, 2) := by decide +kernel
theorem dX11_base_27 : decode cX11_base 27 = .ok (.iload 4, 2) := by decide +kernel
theorem dX11_base_29 : decode cX11_base 29 = .ok (.iadd, 1) := by decide +kernel
theorem dX11_base_30 : decode cX11_base 30 = .ok (.invokevirtual 179, 3) := by decide +kernel
theorem dX11_base_33 : decode cX11_base 33 = .ok (.invokevirtual 160, 3) := by decide +kernel
theorem dX11_base_36 : decode cX11_base 36 = .ok (.ifCond .ne 20, 3) := by decide +kernel
theorem dX11_base_39 : decode cX11_base 39 = .ok (.aload_n 0, 1) := by decide +kernel
theorem dX11_base_40 : decode cX11_base 40 = .ok (.aload_n 0, 1) := by decide +kernel
theorem dX11_base_41 : decode cX11_base 41 = .ok (.iload_n 1, 1) := by decide +kernel
theorem dX11_base_42 : decode cX11_base 42 = .ok (.bipush 8, 2) := by decide +kernel
theorem dX11_base_44 : decode cX11_base 44 = .ok (.iload 4, 2) := by decide +kernel
theorem dX11_base_46 : decode cX11_base 46 = .ok (.iadd, 1) := by decide +kernel
theorem dX11_base_47 : decode cX11_base 47 = .ok (.invokevirtual 179, 3) := by decide +kernel
theorem dX11_base_50 : decode cX11_base 50 = .ok (.invokevirtual 197, 3) := by decide +kernel
theorem dX11_base_53 : decode cX11_base 53 = .ok (.goto 4, 3) := by decide +kernel
theorem dX11_base_56 : decode cX11_base 56 = .ok (.iconst 0, 1) := by decide +kernel
theorem dX11_base_57 : decode cX11_base 57 = .ok (.iadd, 1) := by decide +kernel
theorem dX11_base_58 : decode cX11_base 58 = .ok (.istore_n 3, 1) := by decide +kernel
theorem dX11_base_59 : decode cX11_base 59 = .ok (.iinc 4 1, 3) := by decide +kernel
theorem dX11_base_62 : decode cX11_base 62 = .ok (.goto (-52), 3) := by decide +kernel
theorem dX11_base_65 : decode cX11_base 65 = .ok (.iload_n 3, 1) := by decide +kernel
theorem dX11_base_66 : decode cX11_base 66 = .ok (.iload_n 2, 1) := by decide +kernel
theorem dX11_base_67 : decode cX11_base 67 = .ok (.if_icmp .ge 18, 3) := by decide +kernel
theorem dX11_base_70 : decode cX11_base 70 = .ok (.aload_n 0, 1) := by decide +kernel
theorem dX11_base_71 : decode cX11_base 71 = .ok (.aload_n 0, 1) := by decide +kernel
theorem dX11_base_72 : decode cX11_base 72 = .ok (.iload_n 1, 1) := by decide +kernel
theorem dX11_base_73 : decode cX11_base 73 = .ok (.iconst 0, 1) := by decide +kernel
theorem dX11_base_74 : decode cX11_base 74 = .ok (.invokevirtual 179, 3) := by decide +kernel
theorem dX11_base_77 : decode cX11_base 77 = .ok (.iload_n 3, 1) := by decide +kernel
theorem dX11_base_78 : decode cX11_base 78 = .ok (.iload_n 2, 1) := by decide +kernel
theorem dX11_base_79 : decode cX11_base 79 = .ok (.invokevirtual 94, 3) := by decide +kernel
theorem dX11_base_82 : decode cX11_base 82 = .ok (.goto 4, 3) := by decide +kernel
theorem dX11_base_85 : decode cX11_base 85 = .ok (.iconst 0, 1) := by decide +kernel
theorem dX11_base_86 : decode cX11_base 86 = .ok (.ireturn, 1) := by decide +kernel
theorem dX11_lowered_0 : decode cX11_lowered 0 = .ok (.iload_n 1, 1) := by decide +kernel
theorem dX11_lowered_1 : decode cX11_lowered 1 = .ok (.tableswitch 60 1 3 #[27, 36, 49], 27) := by decide +kernel
theorem dX11_lowered_28 : decode cX11_lowered 28 = .ok (.iload_n 0, 1) := by decide +kernel
theorem dX11_lowered_29 : decode cX11_lowered 29 = .ok (.iload_n 0, 1) := by decide +kernel
theorem dX11_lowered_30 : decode cX11_lowered 30 = .ok (.iload_n 2, 1) := by decide +kernel
theorem dX11_lowered_31 : decode cX11_lowered 31 = .ok (.imul, 1) := by decide +kernel
theorem dX11_lowered_32 : decode cX11_lowered 32 = .ok (.bipush 100, 2) := by decide +kernel
theorem dX11_lowered_34 : decode cX11_lowered 34 = .ok (.idiv, 1) := by decide +kernel
theorem dX11_lowered_35 : decode cX11_lowered 35 = .ok (.isub, 1) := by decide +kernel
theorem dX11_lowered_36 : decode cX11_lowered 36 = .ok (.ireturn, 1) := by decide +kernel
theorem dX11_lowered_37 : decode cX11_lowered 37 = .ok (.iload_n 0, 1) := by decide +kernel
theorem dX11_lowered_38 : decode cX11_lowered 38 = .ok (.iload_n 2, 1) := by decide +kernel
theorem dX11_lowered_39 : decode cX11_lowered 39 = .ok (.if_icmp .le 9, 3) := by decide +kernel
theorem dX11_lowered_42 : decode cX11_lowered 42 = .ok (.iload_n 0, 1) := by decide +kernel
theorem dX11_lowered_43 : decode cX11_lowered 43 = .ok (.iload_n 2, 1) := by decide +kernel
theorem dX11_lowered_44 : decode cX11_lowered 44 = .ok (.isub, 1) := by decide +kernel
theorem dX11_lowered_45 : decode cX11_lowered 45 = .ok (.goto 4, 3) := by decide +kernel
theorem dX11_lowered_48 : decode cX11_lowered 48 = .ok (.iconst 0, 1) := by decide +kernel
theorem dX11_lowered_49 : decode cX11_lowered 49 = .ok (.ireturn, 1) := by decide +kernel
theorem dX11_lowered_50 : decode cX11_lowered 50 = .ok (.iload_n 0, 1) := by decide +kernel
theorem dX11_lowered_51 : decode cX11_lowered 51 = .ok (.iload_n 2, 1) := by decide +kernel
theorem dX11_lowered_52 : decode cX11_lowered 52 = .ok (.if_icmp .ge 7, 3) := by decide +kernel
theorem dX11_lowered_55 : decode cX11_lowered 55 = .ok (.iload_n 0, 1) := by decide +kernel
theorem dX11_lowered_56 : decode cX11_lowered 56 = .ok (.goto 4, 3) := by decide +kernel
theorem dX11_lowered_59 : decode cX11_lowered 59 = .ok (.iload_n 2, 1) := by decide +kernel
theorem dX11_lowered_60 : decode cX11_lowered 60 = .ok (.ireturn, 1) := by decide +kernel
theorem dX11_lowered_61 : decode cX11_lowered 61 = .ok (.iload_n 0, 1) := by decide +kernel
theorem dX11_lowered_62 : decode cX11_lowered 62 = .ok (.ireturn, 1) := by decide +kernel
theorem dX11_vouchered_0 : decode cX11_vouchered 0 = .ok (.aload_n 0, 1) := by decide +kernel
theorem dX11_vouchered_1 : decode cX11_vouchered 1 = .ok (.iload_n 1, 1) := by decide +kernel
theorem dX11_vouchered_2 : decode cX11_vouchered 2 = .ok (.iload_n 2, 1) := by decide +kernel
theorem dX11_vouchered_3 : decode cX11_vouchered 3 = .ok (.invokevirtual 200, 3) := by decide +kernel
theorem dX11_vouchered_6 : decode cX11_vouchered 6 = .ok (.istore 4, 2) := by decide +kernel
theorem dX11_vouchered_8 : decode cX11_vouchered 8 = .ok (.iload_n 3, 1) := by decide +kernel
theorem dX11_vouchered_9 : decode cX11_vouchered 9 = .ok (.istore 5, 2) := by decide +kernel
theorem dX11_vouchered_11 : decode cX11_vouchered 11 = .ok (.iconst 0, 1) := by decide +kernel
theorem dX11_vouchered_12 : decode cX11_vouchered 12 = .ok (.istore 6, 2) := by decide +kernel
theorem dX11_vouchered_14 : decode cX11_vouchered 14 = .ok (.iload 6, 2) := by decide +kernel
theorem dX11_vouchered_16 : decode cX11_vouchered 16 = .ok (.aload_n 0, 1) := by decide +kernel
theorem dX11_vouchered_17 : decode cX11_vouchered 17 = .ok (.iload_n 1, 1) := by decide +kernel
theorem dX11_vouchered_18 : decode cX11_vouchered 18 = .ok (.iconst 4, 1) := by decide +kernel
theorem dX11_vouchered_19 : decode cX11_vouchered 19 = .ok (.invokevirtual 179, 3) := by decide +kernel
theorem dX11_vouchered_22 : decode cX11_vouchered 22 = .ok (.if_icmp .ge 64, 3) := by decide +kernel
theorem dX11_vouchered_25 : decode cX11_vouchered 25 = .ok (.iload 5, 2) := by decide +kernel
theorem dX11_vouchered_27 : decode cX11_vouchered 27 = .ok (.ifCond .le 59, 3) := by decide +kernel
theorem dX11_vouchered_30 : decode cX11_vouchered 30 = .ok (.aload_n 0, 1) := by decide +kernel
theorem dX11_vouchered_31 : decode cX11_vouchered 31 = .ok (.iload_n 1, 1) := by decide +kernel
theorem dX11_vouchered_32 : decode cX11_vouchered 32 = .ok (.bipush 8, 2) := by decide +kernel
theorem dX11_vouchered_34 : decode cX11_vouchered 34 = .ok (.iload 6, 2) := by decide +kernel
theorem dX11_vouchered_36 : decode cX11_vouchered 36 = .ok (.iadd, 1) := by decide +kernel
theorem dX11_vouchered_37 : decode cX11_vouchered 37 = .ok (.invokevirtual 179, 3) := by decide +kernel
theorem dX11_vouchered_40 : decode cX11_vouchered 40 = .ok (.istore 7, 2) := by decide +kernel
theorem dX11_vouchered_42 : decode cX11_vouchered 42 = .ok (.iload 4, 2) := by decide +kernel
theorem dX11_vouchered_44 : decode cX11_vouchered 44 = .ok (.aload_n 0, 1) := by decide +kernel
theorem dX11_vouchered_45 : decode cX11_vouchered 45 = .ok (.iload 7, 2) := by decide +kernel
theorem dX11_vouchered_47 : decode cX11_vouchered 47 = .ok (.invokevirtual 160, 3) := by decide +kernel
theorem dX11_vouchered_50 : decode cX11_vouchered 50 = .ok (.aload_n 0, 1) := by decide +kernel
theorem dX11_vouchered_51 : decode cX11_vouchered 51 = .ok (.iload 7, 2) := by decide +kernel
theorem dX11_vouchered_53 : decode cX11_vouchered 53 = .ok (.invokevirtual 197, 3) := by decide +kernel
theorem dX11_vouchered_56 : decode cX11_vouchered 56 = .ok (.invokestatic 203, 3) := by decide +kernel
theorem dX11_vouchered_59 : decode cX11_vouchered 59 = .ok (.istore 4, 2) := by decide +kernel
theorem dX11_vouchered_61 : decode cX11_vouchered 61 = .ok (.iload 5, 2) := by decide +kernel
theorem dX11_vouchered_63 : decode cX11_vouchered 63 = .ok (.aload_n 0, 1) := by decide +kernel
theorem dX11_vouchered_64 : decode cX11_vouchered 64 = .ok (.iload 7, 2) := by decide +kernel
theorem dX11_vouchered_66 : decode cX11_vouchered 66 = .ok (.invokevirtual 160, 3) := by decide +kernel
theorem dX11_vouchered_69 : decode cX11_vouchered 69 = .ok (.ifCond .le 7, 3) := by decide +kernel
theorem dX11_vouchered_72 : decode cX11_vouchered 72 = .ok (.iconst 1, 1) := by decide +kernel
theorem dX11_vouchered_73 : decode cX11_vouchered 73 = .ok (.goto 4, 3) := by decide +kernel
theorem dX11_vouchered_76 : decode cX11_vouchered 76 = .ok (.iconst 0, 1) := by decide +kernel
theorem dX11_vouchered_77 : decode cX11_vouchered 77 = .ok (.isub, 1) := by decide +kernel
theorem dX11_vouchered_78 : decode cX11_vouchered 78 = .ok (.istore 5, 2) := by decide +kernel
theorem dX11_vouchered_80 : decode cX11_vouchered 80 = .ok (.iinc 6 1, 3) := by decide +kernel
theorem dX11_vouchered_83 : decode cX11_vouchered 83 = .ok (.goto (-69), 3) := by decide +kernel
theorem dX11_vouchered_86 : decode cX11_vouchered 86 = .ok (.iload 4, 2) := by decide +kernel
theorem dX11_vouchered_88 : decode cX11_vouchered 88 = .ok (.ireturn, 1) := by decide +kernel
theorem dX11_lostFee_0 : decode cX11_lostFee 0 = .ok (.aload_n 0, 1) := by decide +kernel
theorem dX11_lostFee_1 : decode cX11_lostFee 1 = .ok (.aload_n 0, 1) := by decide +kernel
theorem dX11_lostFee_2 : decode cX11_lostFee 2 = .ok (.iload_n 1, 1) := by decide +kernel
theorem dX11_lostFee_3 : decode cX11_lostFee 3 = .ok (.iconst 0, 1) := by decide +kernel
theorem dX11_lostFee_4 : decode cX11_lostFee 4 = .ok (.invokevirtual 179, 3) := by decide +kernel
theorem dX11_lostFee_7 : decode cX11_lostFee 7 = .ok (.aload_n 0, 1) := by decide +kernel
theorem dX11_lostFee_8 : decode cX11_lostFee 8 = .ok (.iload_n 1, 1) := by decide +kernel
theorem dX11_lostFee_9 : decode cX11_lostFee 9 = .ok (.iconst 1, 1) := by decide +kernel
theorem dX11_lostFee_10 : decode cX11_lostFee 10 = .ok (.invokevirtual 179, 3) := by decide +kernel
theorem dX11_lostFee_13 : decode cX11_lostFee 13 = .ok (.iload_n 2, 1) := by decide +kernel
theorem dX11_lostFee_14 : decode cX11_lostFee 14 = .ok (.invokevirtual 94, 3) := by decide +kernel
theorem dX11_lostFee_17 : decode cX11_lostFee 17 = .ok (.istore_n 3, 1) := by decide +kernel
theorem dX11_lostFee_18 : decode cX11_lostFee 18 = .ok (.iload_n 3, 1) := by decide +kernel
theorem dX11_lostFee_19 : decode cX11_lostFee 19 = .ok (.aload_n 0, 1) := by decide +kernel
theorem dX11_lostFee_20 : decode cX11_lostFee 20 = .ok (.aload_n 0, 1) := by decide +kernel
theorem dX11_lostFee_21 : decode cX11_lostFee 21 = .ok (.iload_n 1, 1) := by decide +kernel
theorem dX11_lostFee_22 : decode cX11_lostFee 22 = .ok (.iconst 0, 1) := by decide +kernel
theorem dX11_lostFee_23 : decode cX11_lostFee 23 = .ok (.invokevirtual 179, 3) := by decide +kernel
theorem dX11_lostFee_26 : decode cX11_lostFee 26 = .ok (.iconst 3, 1) := by decide +kernel
theorem dX11_lostFee_27 : decode cX11_lostFee 27 = .ok (.invokevirtual 44, 3) := by decide +kernel
theorem dX11_lostFee_30 : decode cX11_lostFee 30 = .ok (.if_icmp .le 7, 3) := by decide +kernel
theorem dX11_lostFee_33 : decode cX11_lostFee 33 = .ok (.iload_n 3, 1) := by decide +kernel
theorem dX11_lostFee_34 : decode cX11_lostFee 34 = .ok (.goto 14, 3) := by decide +kernel
theorem dX11_lostFee_37 : decode cX11_lostFee 37 = .ok (.aload_n 0, 1) := by decide +kernel
theorem dX11_lostFee_38 : decode cX11_lostFee 38 = .ok (.aload_n 0, 1) := by decide +kernel
theorem dX11_lostFee_39 : decode cX11_lostFee 39 = .ok (.iload_n 1, 1) := by decide +kernel
theorem dX11_lostFee_40 : decode cX11_lostFee 40 = .ok (.iconst 0, 1) := by decide +kernel
theorem dX11_lostFee_41 : decode cX11_lostFee 41 = .ok (.invokevirtual 179, 3) := by decide +kernel
theorem dX11_lostFee_44 : decode cX11_lostFee 44 = .ok (.iconst 3, 1) := by decide +kernel
theorem dX11_lostFee_45 : decode cX11_lostFee 45 = .ok (.invokevirtual 44, 3) := by decide +kernel
theorem dX11_lostFee_48 : decode cX11_lostFee 48 = .ok (.ireturn, 1) := by decide +kernel
theorem dX11_dueAt_0 : decode cX11_dueAt 0 = .ok (.aload_n 0, 1) := by decide +kernel
theorem dX11_dueAt_1 : decode cX11_dueAt 1 = .ok (.iload_n 1, 1) := by decide +kernel
theorem dX11_dueAt_2 : decode cX11_dueAt 2 = .ok (.bipush 6, 2) := by decide +kernel
theorem dX11_dueAt_4 : decode cX11_dueAt 4 = .ok (.invokevirtual 179, 3) := by decide +kernel
theorem dX11_dueAt_7 : decode cX11_dueAt 7 = .ok (.iconst 1, 1) := by decide +kernel
theorem dX11_dueAt_8 : decode cX11_dueAt 8 = .ok (.if_icmp .ne 12, 3) := by decide +kernel
theorem dX11_dueAt_11 : decode cX11_dueAt 11 = .ok (.aload_n 0, 1) := by decide +kernel
theorem dX11_dueAt_12 : decode cX11_dueAt 12 = .ok (.iload_n 1, 1) := by decide +kernel
theorem dX11_dueAt_13 : decode cX11_dueAt 13 = .ok (.iload_n 2, 1) := by decide +kernel
theorem dX11_dueAt_14 : decode cX11_dueAt 14 = .ok (.invokevirtual 206, 3) := by decide +kernel
theorem dX11_dueAt_17 : decode cX11_dueAt 17 = .ok (.goto 10, 3) := by decide +kernel
theorem dX11_dueAt_20 : decode cX11_dueAt 20 = .ok (.aload_n 0, 1) := by decide +kernel
theorem dX11_dueAt_21 : decode cX11_dueAt 21 = .ok (.iload_n 1, 1) := by decide +kernel
theorem dX11_dueAt_22 : decode cX11_dueAt 22 = .ok (.iload_n 2, 1) := by decide +kernel
theorem dX11_dueAt_23 : decode cX11_dueAt 23 = .ok (.iconst 5, 1) := by decide +kernel
theorem dX11_dueAt_24 : decode cX11_dueAt 24 = .ok (.invokevirtual 209, 3) := by decide +kernel
theorem dX11_dueAt_27 : decode cX11_dueAt 27 = .ok (.istore_n 3, 1) := by decide +kernel
theorem dX11_dueAt_28 : decode cX11_dueAt 28 = .ok (.iload_n 3, 1) := by decide +kernel
theorem dX11_dueAt_29 : decode cX11_dueAt 29 = .ok (.aload_n 0, 1) := by decide +kernel
theorem dX11_dueAt_30 : decode cX11_dueAt 30 = .ok (.iload_n 1, 1) := by decide +kernel
theorem dX11_dueAt_31 : decode cX11_dueAt 31 = .ok (.iconst 3, 1) := by decide +kernel
theorem dX11_dueAt_32 : decode cX11_dueAt 32 = .ok (.invokevirtual 179, 3) := by decide +kernel
theorem dX11_dueAt_35 : decode cX11_dueAt 35 = .ok (.if_icmp .le 14, 3) := by decide +kernel
theorem dX11_dueAt_38 : decode cX11_dueAt 38 = .ok (.iload_n 3, 1) := by decide +kernel
theorem dX11_dueAt_39 : decode cX11_dueAt 39 = .ok (.aload_n 0, 1) := by decide +kernel
theorem dX11_dueAt_40 : decode cX11_dueAt 40 = .ok (.iload_n 1, 1) := by decide +kernel
theorem dX11_dueAt_41 : decode cX11_dueAt 41 = .ok (.iconst 3, 1) := by decide +kernel
theorem dX11_dueAt_42 : decode cX11_dueAt 42 = .ok (.invokevirtual 179, 3) := by decide +kernel
theorem dX11_dueAt_45 : decode cX11_dueAt 45 = .ok (.isub, 1) := by decide +kernel
theorem dX11_dueAt_46 : decode cX11_dueAt 46 = .ok (.goto 4, 3) := by decide +kernel
theorem dX11_dueAt_49 : decode cX11_dueAt 49 = .ok (.iconst 0, 1) := by decide +kernel
theorem dX11_dueAt_50 : decode cX11_dueAt 50 = .ok (.ireturn, 1) := by decide +kernel
theorem dX11_lose_0 : decode cX11_lose 0 = .ok (.aload_n 0, 1) := by decide +kernel
theorem dX11_lose_1 : decode cX11_lose 1 = .ok (.iload_n 1, 1) := by decide +kernel
theorem dX11_lose_2 : decode cX11_lose 2 = .ok (.invokevirtual 191, 3) := by decide +kernel
theorem dX11_lose_5 : decode cX11_lose 5 = .ok (.ifCond .ne 5, 3) := by decide +kernel
theorem dX11_lose_8 : decode cX11_lose 8 = .ok (.iconst (-1), 1) := by decide +kernel
theorem dX11_lose_9 : decode cX11_lose 9 = .ok (.ireturn, 1) := by decide +kernel
theorem dX11_lose_10 : decode cX11_lose 10 = .ok (.aload_n 0, 1) := by decide +kernel
theorem dX11_lose_11 : decode cX11_lose 11 = .ok (.iload_n 1, 1) := by decide +kernel
theorem dX11_lose_12 : decode cX11_lose 12 = .ok (.bipush 6, 2) := by decide +kernel
theorem dX11_lose_14 : decode cX11_lose 14 = .ok (.invokevirtual 179, 3) := by decide +kernel
theorem dX11_lose_17 : decode cX11_lose 17 = .ok (.iconst 1, 1) := by decide +kernel
theorem dX11_lose_18 : decode cX11_lose 18 = .ok (.if_icmp .ne 6, 3) := by decide +kernel
theorem dX11_lose_21 : decode cX11_lose 21 = .ok (.bipush (-4), 2) := by decide +kernel
theorem dX11_lose_23 : decode cX11_lose 23 = .ok (.ireturn, 1) := by decide +kernel
theorem dX11_lose_24 : decode cX11_lose 24 = .ok (.aload_n 0, 1) := by decide +kernel
theorem dX11_lose_25 : decode cX11_lose 25 = .ok (.iload_n 1, 1) := by decide +kernel
theorem dX11_lose_26 : decode cX11_lose 26 = .ok (.bipush 6, 2) := by decide +kernel
theorem dX11_lose_28 : decode cX11_lose 28 = .ok (.iconst 1, 1) := by decide +kernel
theorem dX11_lose_29 : decode cX11_lose 29 = .ok (.invokevirtual 188, 3) := by decide +kernel
theorem dX11_lose_32 : decode cX11_lose 32 = .ok (.aload_n 0, 1) := by decide +kernel
theorem dX11_lose_33 : decode cX11_lose 33 = .ok (.getfield 7, 3) := by decide +kernel
theorem dX11_lose_36 : decode cX11_lose 36 = .ok (.bipush 8, 2) := by decide +kernel
theorem dX11_lose_38 : decode cX11_lose 38 = .ok (.dup2, 1) := by decide +kernel
theorem dX11_lose_39 : decode cX11_lose 39 = .ok (.iaload, 1) := by decide +kernel
theorem dX11_lose_40 : decode cX11_lose 40 = .ok (.iconst 1, 1) := by decide +kernel
theorem dX11_lose_41 : decode cX11_lose 41 = .ok (.iadd, 1) := by decide +kernel
theorem dX11_lose_42 : decode cX11_lose 42 = .ok (.iastore, 1) := by decide +kernel
theorem dX11_lose_43 : decode cX11_lose 43 = .ok (.aload_n 0, 1) := by decide +kernel
theorem dX11_lose_44 : decode cX11_lose 44 = .ok (.iload_n 1, 1) := by decide +kernel
theorem dX11_lose_45 : decode cX11_lose 45 = .ok (.aload_n 0, 1) := by decide +kernel
theorem dX11_lose_46 : decode cX11_lose 46 = .ok (.getfield 7, 3) := by decide +kernel
theorem dX11_lose_49 : decode cX11_lose 49 = .ok (.iconst 0, 1) := by decide +kernel
theorem dX11_lose_50 : decode cX11_lose 50 = .ok (.iaload, 1) := by decide +kernel
theorem dX11_lose_51 : decode cX11_lose 51 = .ok (.invokevirtual 212, 3) := by decide +kernel
theorem dX11_lose_54 : decode cX11_lose 54 = .ok (.ireturn, 1) := by decide +kernel
theorem dX11_due_0 : decode cX11_due 0 = .ok (.aload_n 0, 1) := by decide +kernel
theorem dX11_due_1 : decode cX11_due 1 = .ok (.iload_n 1, 1) := by decide +kernel
theorem dX11_due_2 : decode cX11_due 2 = .ok (.invokevirtual 191, 3) := by decide +kernel
theorem dX11_due_5 : decode cX11_due 5 = .ok (.ifCond .ne 5, 3) := by decide +kernel
theorem dX11_due_8 : decode cX11_due 8 = .ok (.iconst (-1), 1) := by decide +kernel
theorem dX11_due_9 : decode cX11_due 9 = .ok (.ireturn, 1) := by decide +kernel
theorem dX11_due_10 : decode cX11_due 10 = .ok (.iload_n 2, 1) := by decide +kernel
theorem dX11_due_11 : decode cX11_due 11 = .ok (.aload_n 0, 1) := by decide +kernel
theorem dX11_due_12 : decode cX11_due 12 = .ok (.getfield 7, 3) := by decide +kernel
theorem dX11_due_15 : decode cX11_due 15 = .ok (.iconst 0, 1) := by decide +kernel
theorem dX11_due_16 : decode cX11_due 16 = .ok (.iaload, 1) := by decide +kernel
theorem dX11_due_17 : decode cX11_due 17 = .ok (.ldc 43, 2) := by decide +kernel
theorem dX11_due_19 : decode cX11_due 19 = .ok (.invokestatic 39, 3) := by decide +kernel
theorem dX11_due_22 : decode cX11_due 22 = .ok (.ifCond .eq 12, 3) := by decide +kernel
theorem dX11_due_25 : decode cX11_due 25 = .ok (.aload_n 0, 1) := by decide +kernel
theorem dX11_due_26 : decode cX11_due 26 = .ok (.iload_n 1, 1) := by decide +kernel
theorem dX11_due_27 : decode cX11_due 27 = .ok (.iload_n 2, 1) := by decide +kernel
theorem dX11_due_28 : decode cX11_due 28 = .ok (.invokevirtual 212, 3) := by decide +kernel
theorem dX11_due_31 : decode cX11_due 31 = .ok (.goto 5, 3) := by decide +kernel
theorem dX11_due_34 : decode cX11_due 34 = .ok (.bipush (-2), 2) := by decide +kernel
theorem dX11_due_36 : decode cX11_due 36 = .ok (.ireturn, 1) := by decide +kernel
theorem dX11_pay_0 : decode cX11_pay 0 = .ok (.aload_n 0, 1) := by decide +kernel
theorem dX11_pay_1 : decode cX11_pay 1 = .ok (.iload_n 1, 1) := by decide +kernel
theorem dX11_pay_2 : decode cX11_pay 2 = .ok (.invokevirtual 191, 3) := by decide +kernel
theorem dX11_pay_5 : decode cX11_pay 5 = .ok (.ifCond .ne 5, 3) := by decide +kernel
theorem dX11_pay_8 : decode cX11_pay 8 = .ok (.iconst (-1), 1) := by decide +kernel
theorem dX11_pay_9 : decode cX11_pay 9 = .ok (.ireturn, 1) := by decide +kernel
theorem dX11_pay_10 : decode cX11_pay 10 = .ok (.aload_n 0, 1) := by decide +kernel
theorem dX11_pay_11 : decode cX11_pay 11 = .ok (.iload_n 1, 1) := by decide +kernel
theorem dX11_pay_12 : decode cX11_pay 12 = .ok (.aload_n 0, 1) := by decide +kernel
theorem dX11_pay_13 : decode cX11_pay 13 = .ok (.getfield 7, 3) := by decide +kernel
theorem dX11_pay_16 : decode cX11_pay 16 = .ok (.iconst 0, 1) := by decide +kernel
theorem dX11_pay_17 : decode cX11_pay 17 = .ok (.iaload, 1) := by decide +kernel
theorem dX11_pay_18 : decode cX11_pay 18 = .ok (.invokevirtual 212, 3) := by decide +kernel
theorem dX11_pay_21 : decode cX11_pay 21 = .ok (.istore_n 2, 1) := by decide +kernel
theorem dX11_pay_22 : decode cX11_pay 22 = .ok (.aload_n 0, 1) := by decide +kernel
theorem dX11_pay_23 : decode cX11_pay 23 = .ok (.iload_n 1, 1) := by decide +kernel
theorem dX11_pay_24 : decode cX11_pay 24 = .ok (.iconst 3, 1) := by decide +kernel
theorem dX11_pay_25 : decode cX11_pay 25 = .ok (.aload_n 0, 1) := by decide +kernel
theorem dX11_pay_26 : decode cX11_pay 26 = .ok (.iload_n 1, 1) := by decide +kernel
theorem dX11_pay_27 : decode cX11_pay 27 = .ok (.iconst 3, 1) := by decide +kernel
theorem dX11_pay_28 : decode cX11_pay 28 = .ok (.invokevirtual 179, 3) := by decide +kernel
theorem dX11_pay_31 : decode cX11_pay 31 = .ok (.iload_n 2, 1) := by decide +kernel
theorem dX11_pay_32 : decode cX11_pay 32 = .ok (.iadd, 1) := by decide +kernel
theorem dX11_pay_33 : decode cX11_pay 33 = .ok (.invokevirtual 188, 3) := by decide +kernel
theorem dX11_pay_36 : decode cX11_pay 36 = .ok (.iload_n 2, 1) := by decide +kernel
theorem dX11_pay_37 : decode cX11_pay 37 = .ok (.ifCond .le 16, 3) := by decide +kernel
theorem dX11_pay_40 : decode cX11_pay 40 = .ok (.aload_n 0, 1) := by decide +kernel
theorem dX11_pay_41 : decode cX11_pay 41 = .ok (.iload_n 1, 1) := by decide +kernel
theorem dX11_pay_42 : decode cX11_pay 42 = .ok (.bipush 7, 2) := by decide +kernel
theorem dX11_pay_44 : decode cX11_pay 44 = .ok (.aload_n 0, 1) := by decide +kernel
theorem dX11_pay_45 : decode cX11_pay 45 = .ok (.getfield 7, 3) := by decide +kernel
theorem dX11_pay_48 : decode cX11_pay 48 = .ok (.iconst 0, 1) := by decide +kernel
theorem dX11_pay_49 : decode cX11_pay 49 = .ok (.iaload, 1) := by decide +kernel
theorem dX11_pay_50 : decode cX11_pay 50 = .ok (.invokevirtual 188, 3) := by decide +kernel
theorem dX11_pay_53 : decode cX11_pay 53 = .ok (.aload_n 0, 1) := by decide +kernel
theorem dX11_pay_54 : decode cX11_pay 54 = .ok (.getfield 7, 3) := by decide +kernel
theorem dX11_pay_57 : decode cX11_pay 57 = .ok (.iconst 3, 1) := by decide +kernel
theorem dX11_pay_58 : decode cX11_pay 58 = .ok (.dup2, 1) := by decide +kernel
theorem dX11_pay_59 : decode cX11_pay 59 = .ok (.iaload, 1) := by decide +kernel
theorem dX11_pay_60 : decode cX11_pay 60 = .ok (.iload_n 2, 1) := by decide +kernel
theorem dX11_pay_61 : decode cX11_pay 61 = .ok (.iadd, 1) := by decide +kernel
theorem dX11_pay_62 : decode cX11_pay 62 = .ok (.iastore, 1) := by decide +kernel
theorem dX11_pay_63 : decode cX11_pay 63 = .ok (.aload_n 0, 1) := by decide +kernel
theorem dX11_pay_64 : decode cX11_pay 64 = .ok (.getfield 7, 3) := by decide +kernel
theorem dX11_pay_67 : decode cX11_pay 67 = .ok (.iconst 4, 1) := by decide +kernel
theorem dX11_pay_68 : decode cX11_pay 68 = .ok (.aload_n 0, 1) := by decide +kernel
theorem dX11_pay_69 : decode cX11_pay 69 = .ok (.iload_n 1, 1) := by decide +kernel
theorem dX11_pay_70 : decode cX11_pay 70 = .ok (.iconst 0, 1) := by decide +kernel
theorem dX11_pay_71 : decode cX11_pay 71 = .ok (.invokevirtual 179, 3) := by decide +kernel
theorem dX11_pay_74 : decode cX11_pay 74 = .ok (.iadd, 1) := by decide +kernel
theorem dX11_pay_75 : decode cX11_pay 75 = .ok (.dup2, 1) := by decide +kernel
theorem dX11_pay_76 : decode cX11_pay 76 = .ok (.iaload, 1) := by decide +kernel
theorem dX11_pay_77 : decode cX11_pay 77 = .ok (.iload_n 2, 1) := by decide +kernel
theorem dX11_pay_78 : decode cX11_pay 78 = .ok (.iadd, 1) := by decide +kernel
theorem dX11_pay_79 : decode cX11_pay 79 = .ok (.iastore, 1) := by decide +kernel
theorem dX11_pay_80 : decode cX11_pay 80 = .ok (.iload_n 2, 1) := by decide +kernel
theorem dX11_pay_81 : decode cX11_pay 81 = .ok (.ireturn, 1) := by decide +kernel
theorem dX11_leave_0 : decode cX11_leave 0 = .ok (.aload_n 0, 1) := by decide +kernel
theorem dX11_leave_1 : decode cX11_leave 1 = .ok (.iload_n 1, 1) := by decide +kernel
theorem dX11_leave_2 : decode cX11_leave 2 = .ok (.invokevirtual 191, 3) := by decide +kernel
theorem dX11_leave_5 : decode cX11_leave 5 = .ok (.ifCond .ne 5, 3) := by decide +kernel
theorem dX11_leave_8 : decode cX11_leave 8 = .ok (.iconst (-1), 1) := by decide +kernel
theorem dX11_leave_9 : decode cX11_leave 9 = .ok (.ireturn, 1) := by decide +kernel
theorem dX11_leave_10 : decode cX11_leave 10 = .ok (.aload_n 0, 1) := by decide +kernel
theorem dX11_leave_11 : decode cX11_leave 11 = .ok (.iload_n 1, 1) := by decide +kernel
theorem dX11_leave_12 : decode cX11_leave 12 = .ok (.bipush 7, 2) := by decide +kernel
theorem dX11_leave_14 : decode cX11_leave 14 = .ok (.invokevirtual 179, 3) := by decide +kernel
theorem dX11_leave_17 : decode cX11_leave 17 = .ok (.ifCond .lt 26, 3) := by decide +kernel
theorem dX11_leave_20 : decode cX11_leave 20 = .ok (.aload_n 0, 1) := by decide +kernel
theorem dX11_leave_21 : decode cX11_leave 21 = .ok (.getfield 7, 3) := by decide +kernel
theorem dX11_leave_24 : decode cX11_leave 24 = .ok (.iconst 0, 1) := by decide +kernel
theorem dX11_leave_25 : decode cX11_leave 25 = .ok (.iaload, 1) := by decide +kernel
theorem dX11_leave_26 : decode cX11_leave 26 = .ok (.aload_n 0, 1) := by decide +kernel
theorem dX11_leave_27 : decode cX11_leave 27 = .ok (.iload_n 1, 1) := by decide +kernel
theorem dX11_leave_28 : decode cX11_leave 28 = .ok (.bipush 7, 2) := by decide +kernel
theorem dX11_leave_30 : decode cX11_leave 30 = .ok (.invokevirtual 179, 3) := by decide +kernel
theorem dX11_leave_33 : decode cX11_leave 33 = .ok (.isub, 1) := by decide +kernel
theorem dX11_leave_34 : decode cX11_leave 34 = .ok (.bipush 15, 2) := by decide +kernel
theorem dX11_leave_36 : decode cX11_leave 36 = .ok (.if_icmp .gt 7, 3) := by decide +kernel
theorem dX11_leave_39 : decode cX11_leave 39 = .ok (.iconst 1, 1) := by decide +kernel
theorem dX11_leave_40 : decode cX11_leave 40 = .ok (.goto 4, 3) := by decide +kernel
theorem dX11_leave_43 : decode cX11_leave 43 = .ok (.iconst 0, 1) := by decide +kernel
theorem dX11_leave_44 : decode cX11_leave 44 = .ok (.istore_n 2, 1) := by decide +kernel
theorem dX11_leave_45 : decode cX11_leave 45 = .ok (.iload_n 2, 1) := by decide +kernel
theorem dX11_leave_46 : decode cX11_leave 46 = .ok (.ifCond .ne 20, 3) := by decide +kernel
theorem dX11_leave_49 : decode cX11_leave 49 = .ok (.aload_n 0, 1) := by decide +kernel
theorem dX11_leave_50 : decode cX11_leave 50 = .ok (.iload_n 1, 1) := by decide +kernel
theorem dX11_leave_51 : decode cX11_leave 51 = .ok (.aload_n 0, 1) := by decide +kernel
theorem dX11_leave_52 : decode cX11_leave 52 = .ok (.getfield 7, 3) := by decide +kernel
theorem dX11_leave_55 : decode cX11_leave 55 = .ok (.iconst 0, 1) := by decide +kernel
theorem dX11_leave_56 : decode cX11_leave 56 = .ok (.iaload, 1) := by decide +kernel
theorem dX11_leave_57 : decode cX11_leave 57 = .ok (.invokevirtual 212, 3) := by decide +kernel
theorem dX11_leave_60 : decode cX11_leave 60 = .ok (.ifCond .le 6, 3) := by decide +kernel
theorem dX11_leave_63 : decode cX11_leave 63 = .ok (.bipush (-7), 2) := by decide +kernel
theorem dX11_leave_65 : decode cX11_leave 65 = .ok (.ireturn, 1) := by decide +kernel
theorem dX11_leave_66 : decode cX11_leave 66 = .ok (.aload_n 0, 1) := by decide +kernel
theorem dX11_leave_67 : decode cX11_leave 67 = .ok (.iload_n 1, 1) := by decide +kernel
theorem dX11_leave_68 : decode cX11_leave 68 = .ok (.iconst 5, 1) := by decide +kernel
theorem dX11_leave_69 : decode cX11_leave 69 = .ok (.iconst 1, 1) := by decide +kernel
theorem dX11_leave_70 : decode cX11_leave 70 = .ok (.invokevirtual 188, 3) := by decide +kernel
theorem dX11_leave_73 : decode cX11_leave 73 = .ok (.aload_n 0, 1) := by decide +kernel
theorem dX11_leave_74 : decode cX11_leave 74 = .ok (.getfield 7, 3) := by decide +kernel
theorem dX11_leave_77 : decode cX11_leave 77 = .ok (.iconst 2, 1) := by decide +kernel
theorem dX11_leave_78 : decode cX11_leave 78 = .ok (.dup2, 1) := by decide +kernel
theorem dX11_leave_79 : decode cX11_leave 79 = .ok (.iaload, 1) := by decide +kernel
theorem dX11_leave_80 : decode cX11_leave 80 = .ok (.iconst 1, 1) := by decide +kernel
theorem dX11_leave_81 : decode cX11_leave 81 = .ok (.iadd, 1) := by decide +kernel
theorem dX11_leave_82 : decode cX11_leave 82 = .ok (.iastore, 1) := by decide +kernel
theorem dX11_leave_83 : decode cX11_leave 83 = .ok (.aload_n 0, 1) := by decide +kernel
theorem dX11_leave_84 : decode cX11_leave 84 = .ok (.getfield 7, 3) := by decide +kernel
theorem dX11_leave_87 : decode cX11_leave 87 = .ok (.sipush 153, 3) := by decide +kernel
theorem dX11_leave_90 : decode cX11_leave 90 = .ok (.iconst 4, 1) := by decide +kernel
theorem dX11_leave_91 : decode cX11_leave 91 = .ok (.aload_n 0, 1) := by decide +kernel
theorem dX11_leave_92 : decode cX11_leave 92 = .ok (.iload_n 1, 1) := by decide +kernel
theorem dX11_leave_93 : decode cX11_leave 93 = .ok (.iconst 2, 1) := by decide +kernel
theorem dX11_leave_94 : decode cX11_leave 94 = .ok (.invokevirtual 179, 3) := by decide +kernel
theorem dX11_leave_97 : decode cX11_leave 97 = .ok (.imul, 1) := by decide +kernel
theorem dX11_leave_98 : decode cX11_leave 98 = .ok (.iadd, 1) := by decide +kernel
theorem dX11_leave_99 : decode cX11_leave 99 = .ok (.iconst 1, 1) := by decide +kernel
theorem dX11_leave_100 : decode cX11_leave 100 = .ok (.iadd, 1) := by decide +kernel
theorem dX11_leave_101 : decode cX11_leave 101 = .ok (.dup2, 1) := by decide +kernel
theorem dX11_leave_102 : decode cX11_leave 102 = .ok (.iaload, 1) := by decide +kernel
theorem dX11_leave_103 : decode cX11_leave 103 = .ok (.iconst 1, 1) := by decide +kernel
theorem dX11_leave_104 : decode cX11_leave 104 = .ok (.isub, 1) := by decide +kernel
theorem dX11_leave_105 : decode cX11_leave 105 = .ok (.iastore, 1) := by decide +kernel
theorem dX11_leave_106 : decode cX11_leave 106 = .ok (.aload_n 0, 1) := by decide +kernel
theorem dX11_leave_107 : decode cX11_leave 107 = .ok (.getfield 7, 3) := by decide +kernel
theorem dX11_leave_110 : decode cX11_leave 110 = .ok (.sipush 153, 3) := by decide +kernel
theorem dX11_leave_113 : decode cX11_leave 113 = .ok (.iconst 4, 1) := by decide +kernel
theorem dX11_leave_114 : decode cX11_leave 114 = .ok (.aload_n 0, 1) := by decide +kernel
theorem dX11_leave_115 : decode cX11_leave 115 = .ok (.iload_n 1, 1) := by decide +kernel
theorem dX11_leave_116 : decode cX11_leave 116 = .ok (.iconst 2, 1) := by decide +kernel
theorem dX11_leave_117 : decode cX11_leave 117 = .ok (.invokevirtual 179, 3) := by decide +kernel
theorem dX11_leave_120 : decode cX11_leave 120 = .ok (.imul, 1) := by decide +kernel
theorem dX11_leave_121 : decode cX11_leave 121 = .ok (.iadd, 1) := by decide +kernel
theorem dX11_leave_122 : decode cX11_leave 122 = .ok (.iconst 2, 1) := by decide +kernel
theorem dX11_leave_123 : decode cX11_leave 123 = .ok (.iadd, 1) := by decide +kernel
theorem dX11_leave_124 : decode cX11_leave 124 = .ok (.dup2, 1) := by decide +kernel
theorem dX11_leave_125 : decode cX11_leave 125 = .ok (.iaload, 1) := by decide +kernel
theorem dX11_leave_126 : decode cX11_leave 126 = .ok (.iconst 1, 1) := by decide +kernel
theorem dX11_leave_127 : decode cX11_leave 127 = .ok (.iadd, 1) := by decide +kernel
theorem dX11_leave_128 : decode cX11_leave 128 = .ok (.iastore, 1) := by decide +kernel
theorem dX11_leave_129 : decode cX11_leave 129 = .ok (.aload_n 0, 1) := by decide +kernel
theorem dX11_leave_130 : decode cX11_leave 130 = .ok (.iload_n 1, 1) := by decide +kernel
theorem dX11_leave_131 : decode cX11_leave 131 = .ok (.iconst 3, 1) := by decide +kernel
theorem dX11_leave_132 : decode cX11_leave 132 = .ok (.invokevirtual 179, 3) := by decide +kernel
theorem dX11_leave_135 : decode cX11_leave 135 = .ok (.ireturn, 1) := by decide +kernel
theorem dX11_ticket_0 : decode cX11_ticket 0 = .ok (.iload_n 1, 1) := by decide +kernel
theorem dX11_ticket_1 : decode cX11_ticket 1 = .ok (.iconst 0, 1) := by decide +kernel
theorem dX11_ticket_2 : decode cX11_ticket 2 = .ok (.aload_n 0, 1) := by decide +kernel
theorem dX11_ticket_3 : decode cX11_ticket 3 = .ok (.getfield 7, 3) := by decide +kernel
theorem dX11_ticket_6 : decode cX11_ticket 6 = .ok (.iconst 1, 1) := by decide +kernel
theorem dX11_ticket_7 : decode cX11_ticket 7 = .ok (.iaload, 1) := by decide +kernel
theorem dX11_ticket_8 : decode cX11_ticket 8 = .ok (.iconst 1, 1) := by decide +kernel
theorem dX11_ticket_9 : decode cX11_ticket 9 = .ok (.isub, 1) := by decide +kernel
theorem dX11_ticket_10 : decode cX11_ticket 10 = .ok (.invokestatic 39, 3) := by decide +kernel
theorem dX11_ticket_13 : decode cX11_ticket 13 = .ok (.ifCond .ne 5, 3) := by decide +kernel
theorem dX11_ticket_16 : decode cX11_ticket 16 = .ok (.iconst (-1), 1) := by decide +kernel
theorem dX11_ticket_17 : decode cX11_ticket 17 = .ok (.ireturn, 1) := by decide +kernel
theorem dX11_ticket_18 : decode cX11_ticket 18 = .ok (.iload_n 2, 1) := by decide +kernel
theorem dX11_ticket_19 : decode cX11_ticket 19 = .ok (.iconst 0, 1) := by decide +kernel
theorem dX11_ticket_20 : decode cX11_ticket 20 = .ok (.bipush 7, 2) := by decide +kernel
theorem dX11_ticket_22 : decode cX11_ticket 22 = .ok (.invokestatic 39, 3) := by decide +kernel
theorem dX11_ticket_25 : decode cX11_ticket 25 = .ok (.ifCond .eq 12, 3) := by decide +kernel
theorem dX11_ticket_28 : decode cX11_ticket 28 = .ok (.aload_n 0, 1) := by decide +kernel
theorem dX11_ticket_29 : decode cX11_ticket 29 = .ok (.iload_n 1, 1) := by decide +kernel
theorem dX11_ticket_30 : decode cX11_ticket 30 = .ok (.iload_n 2, 1) := by decide +kernel
theorem dX11_ticket_31 : decode cX11_ticket 31 = .ok (.invokevirtual 179, 3) := by decide +kernel
theorem dX11_ticket_34 : decode cX11_ticket 34 = .ok (.goto 5, 3) := by decide +kernel
theorem dX11_ticket_37 : decode cX11_ticket 37 = .ok (.bipush (-2), 2) := by decide +kernel
theorem dX11_ticket_39 : decode cX11_ticket 39 = .ok (.ireturn, 1) := by decide +kernel
theorem dX11_stepsOf_0 : decode cX11_stepsOf 0 = .ok (.iconst 0, 1) := by decide +kernel
theorem dX11_stepsOf_1 : decode cX11_stepsOf 1 = .ok (.istore_n 2, 1) := by decide +kernel
theorem dX11_stepsOf_2 : decode cX11_stepsOf 2 = .ok (.iconst 0, 1) := by decide +kernel
theorem dX11_stepsOf_3 : decode cX11_stepsOf 3 = .ok (.istore_n 3, 1) := by decide +kernel
theorem dX11_stepsOf_4 : decode cX11_stepsOf 4 = .ok (.iload_n 3, 1) := by decide +kernel
theorem dX11_stepsOf_5 : decode cX11_stepsOf 5 = .ok (.aload_n 0, 1) := by decide +kernel
theorem dX11_stepsOf_6 : decode cX11_stepsOf 6 = .ok (.iload_n 1, 1) := by decide +kernel
theorem dX11_stepsOf_7 : decode cX11_stepsOf 7 = .ok (.iconst 4, 1) := by decide +kernel
theorem dX11_stepsOf_8 : decode cX11_stepsOf 8 = .ok (.invokevirtual 179, 3) := by decide +kernel
theorem dX11_stepsOf_11 : decode cX11_stepsOf 11 = .ok (.if_icmp .ge 33, 3) := by decide +kernel
theorem dX11_stepsOf_14 : decode cX11_stepsOf 14 = .ok (.iload_n 2, 1) := by decide +kernel
theorem dX11_stepsOf_15 : decode cX11_stepsOf 15 = .ok (.aload_n 0, 1) := by decide +kernel
theorem dX11_stepsOf_16 : decode cX11_stepsOf 16 = .ok (.aload_n 0, 1) := by decide +kernel
theorem dX11_stepsOf_17 : decode cX11_stepsOf 17 = .ok (.iload_n 1, 1) := by decide +kernel
theorem dX11_stepsOf_18 : decode cX11_stepsOf 18 = .ok (.bipush 8, 2) := by decide +kernel
theorem dX11_stepsOf_20 : decode cX11_stepsOf 20 = .ok (.iload_n 3, 1) := by decide +kernel
theorem dX11_stepsOf_21 : decode cX11_stepsOf 21 = .ok (.iadd, 1) := by decide +kernel
theorem dX11_stepsOf_22 : decode cX11_stepsOf 22 = .ok (.invokevirtual 179, 3) := by decide +kernel
theorem dX11_stepsOf_25 : decode cX11_stepsOf 25 = .ok (.invokevirtual 160, 3) := by decide +kernel
theorem dX11_stepsOf_28 : decode cX11_stepsOf 28 = .ok (.ifCond .le 7, 3) := by decide +kernel
theorem dX11_stepsOf_31 : decode cX11_stepsOf 31 = .ok (.iconst 1, 1) := by decide +kernel
theorem dX11_stepsOf_32 : decode cX11_stepsOf 32 = .ok (.goto 4, 3) := by decide +kernel
theorem dX11_stepsOf_35 : decode cX11_stepsOf 35 = .ok (.iconst 0, 1) := by decide +kernel
theorem dX11_stepsOf_36 : decode cX11_stepsOf 36 = .ok (.iadd, 1) := by decide +kernel
theorem dX11_stepsOf_37 : decode cX11_stepsOf 37 = .ok (.istore_n 2, 1) := by decide +kernel
theorem dX11_stepsOf_38 : decode cX11_stepsOf 38 = .ok (.iinc 3 1, 3) := by decide +kernel
theorem dX11_stepsOf_41 : decode cX11_stepsOf 41 = .ok (.goto (-37), 3) := by decide +kernel
theorem dX11_stepsOf_44 : decode cX11_stepsOf 44 = .ok (.iload_n 2, 1) := by decide +kernel
theorem dX11_stepsOf_45 : decode cX11_stepsOf 45 = .ok (.ireturn, 1) := by decide +kernel
theorem dX11_step_0 : decode cX11_step 0 = .ok (.aload_n 0, 1) := by decide +kernel
theorem dX11_step_1 : decode cX11_step 1 = .ok (.iload_n 1, 1) := by decide +kernel
theorem dX11_step_2 : decode cX11_step 2 = .ok (.invokevirtual 191, 3) := by decide +kernel
theorem dX11_step_5 : decode cX11_step 5 = .ok (.ifCond .eq 16, 3) := by decide +kernel
theorem dX11_step_8 : decode cX11_step 8 = .ok (.iload_n 2, 1) := by decide +kernel
theorem dX11_step_9 : decode cX11_step 9 = .ok (.iconst 0, 1) := by decide +kernel
theorem dX11_step_10 : decode cX11_step 10 = .ok (.aload_n 0, 1) := by decide +kernel
theorem dX11_step_11 : decode cX11_step 11 = .ok (.iload_n 1, 1) := by decide +kernel
theorem dX11_step_12 : decode cX11_step 12 = .ok (.invokevirtual 215, 3) := by decide +kernel
theorem dX11_step_15 : decode cX11_step 15 = .ok (.invokestatic 39, 3) := by decide +kernel
theorem dX11_step_18 : decode cX11_step 18 = .ok (.ifCond .ne 5, 3) := by decide +kernel
theorem dX11_step_21 : decode cX11_step 21 = .ok (.iconst (-1), 1) := by decide +kernel
theorem dX11_step_22 : decode cX11_step 22 = .ok (.ireturn, 1) := by decide +kernel
theorem dX11_step_23 : decode cX11_step 23 = .ok (.aload_n 0, 1) := by decide +kernel
theorem dX11_step_24 : decode cX11_step 24 = .ok (.iload_n 1, 1) := by decide +kernel
theorem dX11_step_25 : decode cX11_step 25 = .ok (.bipush 6, 2) := by decide +kernel
theorem dX11_step_27 : decode cX11_step 27 = .ok (.invokevirtual 179, 3) := by decide +kernel
theorem dX11_step_30 : decode cX11_step 30 = .ok (.iconst 1, 1) := by decide +kernel
theorem dX11_step_31 : decode cX11_step 31 = .ok (.if_icmp .ne 8, 3) := by decide +kernel
theorem dX11_step_34 : decode cX11_step 34 = .ok (.bipush (-4), 2) := by decide +kernel
theorem dX11_step_36 : decode cX11_step 36 = .ok (.goto 15, 3) := by decide +kernel
theorem dX11_step_39 : decode cX11_step 39 = .ok (.aload_n 0, 1) := by decide +kernel
theorem dX11_step_40 : decode cX11_step 40 = .ok (.iload_n 1, 1) := by decide +kernel
theorem dX11_step_41 : decode cX11_step 41 = .ok (.aload_n 0, 1) := by decide +kernel
theorem dX11_step_42 : decode cX11_step 42 = .ok (.getfield 7, 3) := by decide +kernel
theorem dX11_step_45 : decode cX11_step 45 = .ok (.iconst 0, 1) := by decide +kernel
theorem dX11_step_46 : decode cX11_step 46 = .ok (.iaload, 1) := by decide +kernel
theorem dX11_step_47 : decode cX11_step 47 = .ok (.iload_n 2, 1) := by decide +kernel
theorem dX11_step_48 : decode cX11_step 48 = .ok (.invokevirtual 209, 3) := by decide +kernel
theorem dX11_step_51 : decode cX11_step 51 = .ok (.ireturn, 1) := by decide +kernel
theorem dX11_advance_0 : decode cX11_advance 0 = .ok (.iload_n 1, 1) := by decide +kernel
theorem dX11_advance_1 : decode cX11_advance 1 = .ok (.iconst 1, 1) := by decide +kernel
theorem dX11_advance_2 : decode cX11_advance 2 = .ok (.sipush 3000, 3) := by decide +kernel
theorem dX11_advance_5 : decode cX11_advance 5 = .ok (.invokestatic 39, 3) := by decide +kernel
theorem dX11_advance_8 : decode cX11_advance 8 = .ok (.ifCond .ne 6, 3) := by decide +kernel
theorem dX11_advance_11 : decode cX11_advance 11 = .ok (.bipush (-2), 2) := by decide +kernel
theorem dX11_advance_13 : decode cX11_advance 13 = .ok (.ireturn, 1) := by decide +kernel
theorem dX11_advance_14 : decode cX11_advance 14 = .ok (.aload_n 0, 1) := by decide +kernel
theorem dX11_advance_15 : decode cX11_advance 15 = .ok (.getfield 7, 3) := by decide +kernel
theorem dX11_advance_18 : decode cX11_advance 18 = .ok (.iconst 0, 1) := by decide +kernel
theorem dX11_advance_19 : decode cX11_advance 19 = .ok (.iaload, 1) := by decide +kernel
theorem dX11_advance_20 : decode cX11_advance 20 = .ok (.iload_n 1, 1) := by decide +kernel
theorem dX11_advance_21 : decode cX11_advance 21 = .ok (.iadd, 1) := by decide +kernel
theorem dX11_advance_22 : decode cX11_advance 22 = .ok (.ldc 43, 2) := by decide +kernel
theorem dX11_advance_24 : decode cX11_advance 24 = .ok (.if_icmp .le 6, 3) := by decide +kernel
theorem dX11_advance_27 : decode cX11_advance 27 = .ok (.bipush (-3), 2) := by decide +kernel
theorem dX11_advance_29 : decode cX11_advance 29 = .ok (.ireturn, 1) := by decide +kernel
theorem dX11_advance_30 : decode cX11_advance 30 = .ok (.aload_n 0, 1) := by decide +kernel
theorem dX11_advance_31 : decode cX11_advance 31 = .ok (.getfield 7, 3) := by decide +kernel
theorem dX11_advance_34 : decode cX11_advance 34 = .ok (.iconst 0, 1) := by decide +kernel
theorem dX11_advance_35 : decode cX11_advance 35 = .ok (.iaload, 1) := by decide +kernel
theorem dX11_advance_36 : decode cX11_advance 36 = .ok (.iload_n 1, 1) := by decide +kernel
theorem dX11_advance_37 : decode cX11_advance 37 = .ok (.iadd, 1) := by decide +kernel
theorem dX11_advance_38 : decode cX11_advance 38 = .ok (.bipush 60, 2) := by decide +kernel
theorem dX11_advance_40 : decode cX11_advance 40 = .ok (.idiv, 1) := by decide +kernel
theorem dX11_advance_41 : decode cX11_advance 41 = .ok (.aload_n 0, 1) := by decide +kernel
theorem dX11_advance_42 : decode cX11_advance 42 = .ok (.getfield 7, 3) := by decide +kernel
theorem dX11_advance_45 : decode cX11_advance 45 = .ok (.iconst 0, 1) := by decide +kernel
theorem dX11_advance_46 : decode cX11_advance 46 = .ok (.iaload, 1) := by decide +kernel
theorem dX11_advance_47 : decode cX11_advance 47 = .ok (.bipush 60, 2) := by decide +kernel
theorem dX11_advance_49 : decode cX11_advance 49 = .ok (.idiv, 1) := by decide +kernel
theorem dX11_advance_50 : decode cX11_advance 50 = .ok (.isub, 1) := by decide +kernel
theorem dX11_advance_51 : decode cX11_advance 51 = .ok (.istore_n 2, 1) := by decide +kernel
theorem dX11_advance_52 : decode cX11_advance 52 = .ok (.iconst 0, 1) := by decide +kernel
theorem dX11_advance_53 : decode cX11_advance 53 = .ok (.istore_n 3, 1) := by decide +kernel
theorem dX11_advance_54 : decode cX11_advance 54 = .ok (.iload_n 3, 1) := by decide +kernel
theorem dX11_advance_55 : decode cX11_advance 55 = .ok (.iload_n 2, 1) := by decide +kernel
theorem dX11_advance_56 : decode cX11_advance 56 = .ok (.if_icmp .ge 69, 3) := by decide +kernel
theorem dX11_advance_59 : decode cX11_advance 59 = .ok (.iconst 0, 1) := by decide +kernel
theorem dX11_advance_60 : decode cX11_advance 60 = .ok (.istore 4, 2) := by decide +kernel
theorem dX11_advance_62 : decode cX11_advance 62 = .ok (.iload 4, 2) := by decide +kernel
theorem dX11_advance_64 : decode cX11_advance 64 = .ok (.iconst 4, 1) := by decide +kernel
theorem dX11_advance_65 : decode cX11_advance 65 = .ok (.if_icmp .ge 54, 3) := by decide +kernel
theorem dX11_advance_68 : decode cX11_advance 68 = .ok (.aload_n 0, 1) := by decide +kernel
theorem dX11_advance_69 : decode cX11_advance 69 = .ok (.getfield 16, 3) := by decide +kernel
theorem dX11_advance_72 : decode cX11_advance 72 = .ok (.iload 4, 2) := by decide +kernel
theorem dX11_advance_74 : decode cX11_advance 74 = .ok (.aload_n 0, 1) := by decide +kernel
theorem dX11_advance_75 : decode cX11_advance 75 = .ok (.getfield 16, 3) := by decide +kernel
theorem dX11_advance_78 : decode cX11_advance 78 = .ok (.iload 4, 2) := by decide +kernel
theorem dX11_advance_80 : decode cX11_advance 80 = .ok (.faload, 1) := by decide +kernel
theorem dX11_advance_81 : decode cX11_advance 81 = .ok (.ldc 218, 2) := by decide +kernel
theorem dX11_advance_83 : decode cX11_advance 83 = .ok (.fmul, 1) := by decide +kernel
theorem dX11_advance_84 : decode cX11_advance 84 = .ok (.aload_n 0, 1) := by decide +kernel
theorem dX11_advance_85 : decode cX11_advance 85 = .ok (.iload 4, 2) := by decide +kernel
theorem dX11_advance_87 : decode cX11_advance 87 = .ok (.iconst 2, 1) := by decide +kernel
theorem dX11_advance_88 : decode cX11_advance 88 = .ok (.invokevirtual 164, 3) := by decide +kernel
theorem dX11_advance_91 : decode cX11_advance 91 = .ok (.i2f, 1) := by decide +kernel
theorem dX11_advance_92 : decode cX11_advance 92 = .ok (.ldc 219, 2) := by decide +kernel
theorem dX11_advance_94 : decode cX11_advance 94 = .ok (.fmul, 1) := by decide +kernel
theorem dX11_advance_95 : decode cX11_advance 95 = .ok (.fadd, 1) := by decide +kernel
theorem dX11_advance_96 : decode cX11_advance 96 = .ok (.fastore, 1) := by decide +kernel
theorem dX11_advance_97 : decode cX11_advance 97 = .ok (.aload_n 0, 1) := by decide +kernel
theorem dX11_advance_98 : decode cX11_advance 98 = .ok (.getfield 7, 3) := by decide +kernel
theorem dX11_advance_101 : decode cX11_advance 101 = .ok (.sipush 153, 3) := by decide +kernel
theorem dX11_advance_104 : decode cX11_advance 104 = .ok (.iconst 4, 1) := by decide +kernel
theorem dX11_advance_105 : decode cX11_advance 105 = .ok (.iload 4, 2) := by decide +kernel
theorem dX11_advance_107 : decode cX11_advance 107 = .ok (.imul, 1) := by decide +kernel
theorem dX11_advance_108 : decode cX11_advance 108 = .ok (.iadd, 1) := by decide +kernel
theorem dX11_advance_109 : decode cX11_advance 109 = .ok (.iconst 2, 1) := by decide +kernel
theorem dX11_advance_110 : decode cX11_advance 110 = .ok (.iadd, 1) := by decide +kernel
theorem dX11_advance_111 : decode cX11_advance 111 = .ok (.iconst 0, 1) := by decide +kernel
theorem dX11_advance_112 : decode cX11_advance 112 = .ok (.iastore, 1) := by decide +kernel
theorem dX11_advance_113 : decode cX11_advance 113 = .ok (.iinc 4 1, 3) := by decide +kernel
theorem dX11_advance_116 : decode cX11_advance 116 = .ok (.goto (-54), 3) := by decide +kernel
theorem dX11_advance_119 : decode cX11_advance 119 = .ok (.iinc 3 1, 3) := by decide +kernel
theorem dX11_advance_122 : decode cX11_advance 122 = .ok (.goto (-68), 3) := by decide +kernel
theorem dX11_advance_125 : decode cX11_advance 125 = .ok (.aload_n 0, 1) := by decide +kernel
theorem dX11_advance_126 : decode cX11_advance 126 = .ok (.getfield 7, 3) := by decide +kernel
theorem dX11_advance_129 : decode cX11_advance 129 = .ok (.iconst 0, 1) := by decide +kernel
theorem dX11_advance_130 : decode cX11_advance 130 = .ok (.dup2, 1) := by decide +kernel
theorem dX11_advance_131 : decode cX11_advance 131 = .ok (.iaload, 1) := by decide +kernel
theorem dX11_advance_132 : decode cX11_advance 132 = .ok (.iload_n 1, 1) := by decide +kernel
theorem dX11_advance_133 : decode cX11_advance 133 = .ok (.iadd, 1) := by decide +kernel
theorem dX11_advance_134 : decode cX11_advance 134 = .ok (.iastore, 1) := by decide +kernel
theorem dX11_advance_135 : decode cX11_advance 135 = .ok (.aload_n 0, 1) := by decide +kernel
theorem dX11_advance_136 : decode cX11_advance 136 = .ok (.getfield 7, 3) := by decide +kernel
theorem dX11_advance_139 : decode cX11_advance 139 = .ok (.iconst 0, 1) := by decide +kernel
theorem dX11_advance_140 : decode cX11_advance 140 = .ok (.iaload, 1) := by decide +kernel
theorem dX11_advance_141 : decode cX11_advance 141 = .ok (.ireturn, 1) := by decide +kernel
theorem dX11_count_0 : decode cX11_count 0 = .ok (.iload_n 1, 1) := by decide +kernel
theorem dX11_count_1 : decode cX11_count 1 = .ok (.iconst 0, 1) := by decide +kernel
theorem dX11_count_2 : decode cX11_count 2 = .ok (.bipush 11, 2) := by decide +kernel
theorem dX11_count_4 : decode cX11_count 4 = .ok (.invokestatic 39, 3) := by decide +kernel
theorem dX11_count_7 : decode cX11_count 7 = .ok (.ifCond .ne 6, 3) := by decide +kernel
theorem dX11_count_10 : decode cX11_count 10 = .ok (.bipush (-2), 2) := by decide +kernel
theorem dX11_count_12 : decode cX11_count 12 = .ok (.ireturn, 1) := by decide +kernel
theorem dX11_count_13 : decode cX11_count 13 = .ok (.iload_n 1, 1) := by decide +kernel
theorem dX11_count_14 : decode cX11_count 14 = .ok (.tableswitch 109 0 11 #[62, 69, 76, 83, 109, 109, 109, 109, 109, 88, 96, 104], 62) := by decide +kernel
theorem dX11_count_76 : decode cX11_count 76 = .ok (.aload_n 0, 1) := by decide +kernel
theorem dX11_count_77 : decode cX11_count 77 = .ok (.getfield 7, 3) := by decide +kernel
theorem dX11_count_80 : decode cX11_count 80 = .ok (.iconst 0, 1) := by decide +kernel
theorem dX11_count_81 : decode cX11_count 81 = .ok (.iaload, 1) := by decide +kernel
theorem dX11_count_82 : decode cX11_count 82 = .ok (.ireturn, 1) := by decide +kernel
theorem dX11_count_83 : decode cX11_count 83 = .ok (.aload_n 0, 1) := by decide +kernel
theorem dX11_count_84 : decode cX11_count 84 = .ok (.getfield 7, 3) := by decide +kernel
theorem dX11_count_87 : decode cX11_count 87 = .ok (.iconst 1, 1) := by decide +kernel
theorem dX11_count_88 : decode cX11_count 88 = .ok (.iaload, 1) := by decide +kernel
theorem dX11_count_89 : decode cX11_count 89 = .ok (.ireturn, 1) := by decide +kernel
theorem dX11_count_90 : decode cX11_count 90 = .ok (.aload_n 0, 1) := by decide +kernel
theorem dX11_count_91 : decode cX11_count 91 = .ok (.getfield 7, 3) := by decide +kernel
theorem dX11_count_94 : decode cX11_count 94 = .ok (.iconst 2, 1) := by decide +kernel
theorem dX11_count_95 : decode cX11_count 95 = .ok (.iaload, 1) := by decide +kernel
theorem dX11_count_96 : decode cX11_count 96 = .ok (.ireturn, 1) := by decide +kernel
theorem dX11_count_97 : decode cX11_count 97 = .ok (.aload_n 0, 1) := by decide +kernel
theorem dX11_count_98 : decode cX11_count 98 = .ok (.invokevirtual 185, 3) := by decide +kernel
theorem dX11_count_101 : decode cX11_count 101 = .ok (.ireturn, 1) := by decide +kernel
theorem dX11_count_102 : decode cX11_count 102 = .ok (.aload_n 0, 1) := by decide +kernel
theorem dX11_count_103 : decode cX11_count 103 = .ok (.getfield 7, 3) := by decide +kernel
theorem dX11_count_106 : decode cX11_count 106 = .ok (.bipush 8, 2) := by decide +kernel
theorem dX11_count_108 : decode cX11_count 108 = .ok (.iaload, 1) := by decide +kernel
theorem dX11_count_109 : decode cX11_count 109 = .ok (.ireturn, 1) := by decide +kernel
theorem dX11_count_110 : decode cX11_count 110 = .ok (.aload_n 0, 1) := by decide +kernel
theorem dX11_count_111 : decode cX11_count 111 = .ok (.getfield 7, 3) := by decide +kernel
theorem dX11_count_114 : decode cX11_count 114 = .ok (.bipush 9, 2) := by decide +kernel
theorem dX11_count_116 : decode cX11_count 116 = .ok (.iaload, 1) := by decide +kernel
theorem dX11_count_117 : decode cX11_count 117 = .ok (.ireturn, 1) := by decide +kernel
theorem dX11_count_118 : decode cX11_count 118 = .ok (.aload_n 0, 1) := by decide +kernel
theorem dX11_count_119 : decode cX11_count 119 = .ok (.getfield 97, 3) := by decide +kernel
theorem dX11_count_122 : decode cX11_count 122 = .ok (.ireturn, 1) := by decide +kernel
theorem dX11_count_123 : decode cX11_count 123 = .ok (.aload_n 0, 1) := by decide +kernel
theorem dX11_count_124 : decode cX11_count 124 = .ok (.getfield 7, 3) := by decide +kernel
theorem dX11_count_127 : decode cX11_count 127 = .ok (.iconst 3, 1) := by decide +kernel
theorem dX11_count_128 : decode cX11_count 128 = .ok (.iload_n 1, 1) := by decide +kernel
theorem dX11_count_129 : decode cX11_count 129 = .ok (.iadd, 1) := by decide +kernel
theorem dX11_count_130 : decode cX11_count 130 = .ok (.iconst 4, 1) := by decide +kernel
theorem dX11_count_131 : decode cX11_count 131 = .ok (.isub, 1) := by decide +kernel
theorem dX11_count_132 : decode cX11_count 132 = .ok (.iaload, 1) := by decide +kernel
theorem dX11_count_133 : decode cX11_count 133 = .ok (.ireturn, 1) := by decide +kernel
theorem dX11_reportLevels_0 : decode cX11_reportLevels 0 = .ok (.aload_n 0, 1) := by decide +kernel
theorem dX11_reportLevels_1 : decode cX11_reportLevels 1 = .ok (.getfield 144, 3) := by decide +kernel
theorem dX11_reportLevels_4 : decode cX11_reportLevels 4 = .ok (.ireturn, 1) := by decide +kernel
theorem dX11_reportCode_0 : decode cX11_reportCode 0 = .ok (.iload_n 1, 1) := by decide +kernel
theorem dX11_reportCode_1 : decode cX11_reportCode 1 = .ok (.iconst 0, 1) := by decide +kernel
theorem dX11_reportCode_2 : decode cX11_reportCode 2 = .ok (.aload_n 0, 1) := by decide +kernel
theorem dX11_reportCode_3 : decode cX11_reportCode 3 = .ok (.getfield 144, 3) := by decide +kernel
theorem dX11_reportCode_6 : decode cX11_reportCode 6 = .ok (.iconst 1, 1) := by decide +kernel
theorem dX11_reportCode_7 : decode cX11_reportCode 7 = .ok (.isub, 1) := by decide +kernel
theorem dX11_reportCode_8 : decode cX11_reportCode 8 = .ok (.invokestatic 39, 3) := by decide +kernel
theorem dX11_reportCode_11 : decode cX11_reportCode 11 = .ok (.ifCond .eq 14, 3) := by decide +kernel
theorem dX11_reportCode_14 : decode cX11_reportCode 14 = .ok (.aload_n 0, 1) := by decide +kernel
theorem dX11_reportCode_15 : decode cX11_reportCode 15 = .ok (.getfield 26, 3) := by decide +kernel
theorem dX11_reportCode_18 : decode cX11_reportCode 18 = .ok (.iconst 2, 1) := by decide +kernel
theorem dX11_reportCode_19 : decode cX11_reportCode 19 = .ok (.iload_n 1, 1) := by decide +kernel
theorem dX11_reportCode_20 : decode cX11_reportCode 20 = .ok (.imul, 1) := by decide +kernel
theorem dX11_reportCode_21 : decode cX11_reportCode 21 = .ok (.iaload, 1) := by decide +kernel
theorem dX11_reportCode_22 : decode cX11_reportCode 22 = .ok (.goto 4, 3) := by decide +kernel
theorem dX11_reportCode_25 : decode cX11_reportCode 25 = .ok (.iconst (-1), 1) := by decide +kernel
theorem dX11_reportCode_26 : decode cX11_reportCode 26 = .ok (.ireturn, 1) := by decide +kernel
theorem dX11_reportNumber_0 : decode cX11_reportNumber 0 = .ok (.iload_n 1, 1) := by decide +kernel
theorem dX11_reportNumber_1 : decode cX11_reportNumber 1 = .ok (.iconst 0, 1) := by decide +kernel
theorem dX11_reportNumber_2 : decode cX11_reportNumber 2 = .ok (.aload_n 0, 1) := by decide +kernel
theorem dX11_reportNumber_3 : decode cX11_reportNumber 3 = .ok (.getfield 144, 3) := by decide +kernel
theorem dX11_reportNumber_6 : decode cX11_reportNumber 6 = .ok (.iconst 1, 1) := by decide +kernel
theorem dX11_reportNumber_7 : decode cX11_reportNumber 7 = .ok (.isub, 1) := by decide +kernel
theorem dX11_reportNumber_8 : decode cX11_reportNumber 8 = .ok (.invokestatic 39, 3) := by decide +kernel
theorem dX11_reportNumber_11 : decode cX11_reportNumber 11 = .ok (.ifCond .eq 16, 3) := by decide +kernel
theorem dX11_reportNumber_14 : decode cX11_reportNumber 14 = .ok (.aload_n 0, 1) := by decide +kernel
theorem dX11_reportNumber_15 : decode cX11_reportNumber 15 = .ok (.getfield 26, 3) := by decide +kernel
theorem dX11_reportNumber_18 : decode cX11_reportNumber 18 = .ok (.iconst 2, 1) := by decide +kernel
theorem dX11_reportNumber_19 : decode cX11_reportNumber 19 = .ok (.iload_n 1, 1) := by decide +kernel
theorem dX11_reportNumber_20 : decode cX11_reportNumber 20 = .ok (.imul, 1) := by decide +kernel
theorem dX11_reportNumber_21 : decode cX11_reportNumber 21 = .ok (.iconst 1, 1) := by decide +kernel
theorem dX11_reportNumber_22 : decode cX11_reportNumber 22 = .ok (.iadd, 1) := by decide +kernel
theorem dX11_reportNumber_23 : decode cX11_reportNumber 23 = .ok (.iaload, 1) := by decide +kernel
theorem dX11_reportNumber_24 : decode cX11_reportNumber 24 = .ok (.goto 4, 3) := by decide +kernel
theorem dX11_reportNumber_27 : decode cX11_reportNumber 27 = .ok (.iconst (-1), 1) := by decide +kernel
theorem dX11_reportNumber_28 : decode cX11_reportNumber 28 = .ok (.ireturn, 1) := by decide +kernel
theorem dX11_save_0 : decode cX11_save 0 = .ok (.iconst 0, 1) := by decide +kernel
theorem dX11_save_1 : decode cX11_save 1 = .ok (.istore_n 1, 1) := by decide +kernel
theorem dX11_save_2 : decode cX11_save 2 = .ok (.iload_n 1, 1) := by decide +kernel
theorem dX11_save_3 : decode cX11_save 3 = .ok (.sipush 6889, 3) := by decide +kernel
theorem dX11_save_6 : decode cX11_save 6 = .ok (.if_icmp .ge 21, 3) := by decide +kernel
theorem dX11_save_9 : decode cX11_save 9 = .ok (.aload_n 0, 1) := by decide +kernel
theorem dX11_save_10 : decode cX11_save 10 = .ok (.getfield 13, 3) := by decide +kernel
theorem dX11_save_13 : decode cX11_save 13 = .ok (.iload_n 1, 1) := by decide +kernel
theorem dX11_save_14 : decode cX11_save 14 = .ok (.aload_n 0, 1) := by decide +kernel
theorem dX11_save_15 : decode cX11_save 15 = .ok (.getfield 7, 3) := by decide +kernel
theorem dX11_save_18 : decode cX11_save 18 = .ok (.iload_n 1, 1) := by decide +kernel
theorem dX11_save_19 : decode cX11_save 19 = .ok (.iaload, 1) := by decide +kernel
theorem dX11_save_20 : decode cX11_save 20 = .ok (.iastore, 1) := by decide +kernel
theorem dX11_save_21 : decode cX11_save 21 = .ok (.iinc 1 1, 3) := by decide +kernel
theorem dX11_save_24 : decode cX11_save 24 = .ok (.goto (-22), 3) := by decide +kernel
theorem dX11_save_27 : decode cX11_save 27 = .ok (.iconst 0, 1) := by decide +kernel
theorem dX11_save_28 : decode cX11_save 28 = .ok (.istore_n 1, 1) := by decide +kernel
theorem dX11_save_29 : decode cX11_save 29 = .ok (.iload_n 1, 1) := by decide +kernel
theorem dX11_save_30 : decode cX11_save 30 = .ok (.iconst 4, 1) := by decide +kernel
theorem dX11_save_31 : decode cX11_save 31 = .ok (.if_icmp .ge 21, 3) := by decide +kernel
theorem dX11_save_34 : decode cX11_save 34 = .ok (.aload_n 0, 1) := by decide +kernel
theorem dX11_save_35 : decode cX11_save 35 = .ok (.getfield 20, 3) := by decide +kernel
theorem dX11_save_38 : decode cX11_save 38 = .ok (.iload_n 1, 1) := by decide +kernel
theorem dX11_save_39 : decode cX11_save 39 = .ok (.aload_n 0, 1) := by decide +kernel
theorem dX11_save_40 : decode cX11_save 40 = .ok (.getfield 16, 3) := by decide +kernel
theorem dX11_save_43 : decode cX11_save 43 = .ok (.iload_n 1, 1) := by decide +kernel
theorem dX11_save_44 : decode cX11_save 44 = .ok (.faload, 1) := by decide +kernel
theorem dX11_save_45 : decode cX11_save 45 = .ok (.fastore, 1) := by decide +kernel
theorem dX11_save_46 : decode cX11_save 46 = .ok (.iinc 1 1, 3) := by decide +kernel
theorem dX11_save_49 : decode cX11_save 49 = .ok (.goto (-20), 3) := by decide +kernel
theorem dX11_save_52 : decode cX11_save 52 = .ok (.aload_n 0, 1) := by decide +kernel
theorem dX11_save_53 : decode cX11_save 53 = .ok (.iconst 1, 1) := by decide +kernel
theorem dX11_save_54 : decode cX11_save 54 = .ok (.putfield 220, 3) := by decide +kernel
theorem dX11_save_57 : decode cX11_save 57 = .ok (.aload_n 0, 1) := by decide +kernel
theorem dX11_save_58 : decode cX11_save 58 = .ok (.getfield 7, 3) := by decide +kernel
theorem dX11_save_61 : decode cX11_save 61 = .ok (.iconst 0, 1) := by decide +kernel
theorem dX11_save_62 : decode cX11_save 62 = .ok (.iaload, 1) := by decide +kernel
theorem dX11_save_63 : decode cX11_save 63 = .ok (.ireturn, 1) := by decide +kernel
theorem dX11_restore_0 : decode cX11_restore 0 = .ok (.aload_n 0, 1) := by decide +kernel
theorem dX11_restore_1 : decode cX11_restore 1 = .ok (.getfield 220, 3) := by decide +kernel
theorem dX11_restore_4 : decode cX11_restore 4 = .ok (.ifCond .ne 5, 3) := by decide +kernel
theorem dX11_restore_7 : decode cX11_restore 7 = .ok (.iconst (-1), 1) := by decide +kernel
theorem dX11_restore_8 : decode cX11_restore 8 = .ok (.ireturn, 1) := by decide +kernel
theorem dX11_restore_9 : decode cX11_restore 9 = .ok (.iconst 0, 1) := by decide +kernel
theorem dX11_restore_10 : decode cX11_restore 10 = .ok (.istore_n 1, 1) := by decide +kernel
theorem dX11_restore_11 : decode cX11_restore 11 = .ok (.iload_n 1, 1) := by decide +kernel
theorem dX11_restore_12 : decode cX11_restore 12 = .ok (.sipush 6889, 3) := by decide +kernel
theorem dX11_restore_15 : decode cX11_restore 15 = .ok (.if_icmp .ge 21, 3) := by decide +kernel
theorem dX11_restore_18 : decode cX11_restore 18 = .ok (.aload_n 0, 1) := by decide +kernel
theorem dX11_restore_19 : decode cX11_restore 19 = .ok (.getfield 7, 3) := by decide +kernel
theorem dX11_restore_22 : decode cX11_restore 22 = .ok (.iload_n 1, 1) := by decide +kernel
theorem dX11_restore_23 : decode cX11_restore 23 = .ok (.aload_n 0, 1) := by decide +kernel
theorem dX11_restore_24 : decode cX11_restore 24 = .ok (.getfield 13, 3) := by decide +kernel
theorem dX11_restore_27 : decode cX11_restore 27 = .ok (.iload_n 1, 1) := by decide +kernel
theorem dX11_restore_28 : decode cX11_restore 28 = .ok (.iaload, 1) := by decide +kernel
theorem dX11_restore_29 : decode cX11_restore 29 = .ok (.iastore, 1) := by decide +kernel
theorem dX11_restore_30 : decode cX11_restore 30 = .ok (.iinc 1 1, 3) := by decide +kernel
theorem dX11_restore_33 : decode cX11_restore 33 = .ok (.goto (-22), 3) := by decide +kernel
theorem dX11_restore_36 : decode cX11_restore 36 = .ok (.iconst 0, 1) := by decide +kernel
theorem dX11_restore_37 : decode cX11_restore 37 = .ok (.istore_n 1, 1) := by decide +kernel
theorem dX11_restore_38 : decode cX11_restore 38 = .ok (.iload_n 1, 1) := by decide +kernel
theorem dX11_restore_39 : decode cX11_restore 39 = .ok (.iconst 4, 1) := by decide +kernel
theorem dX11_restore_40 : decode cX11_restore 40 = .ok (.if_icmp .ge 21, 3) := by decide +kernel
theorem dX11_restore_43 : decode cX11_restore 43 = .ok (.aload_n 0, 1) := by decide +kernel
theorem dX11_restore_44 : decode cX11_restore 44 = .ok (.getfield 16, 3) := by decide +kernel
theorem dX11_restore_47 : decode cX11_restore 47 = .ok (.iload_n 1, 1) := by decide +kernel
theorem dX11_restore_48 : decode cX11_restore 48 = .ok (.aload_n 0, 1) := by decide +kernel
theorem dX11_restore_49 : decode cX11_restore 49 = .ok (.getfield 20, 3) := by decide +kernel
theorem dX11_restore_52 : decode cX11_restore 52 = .ok (.iload_n 1, 1) := by decide +kernel
theorem dX11_restore_53 : decode cX11_restore 53 = .ok (.faload, 1) := by decide +kernel
theorem dX11_restore_54 : decode cX11_restore 54 = .ok (.fastore, 1) := by decide +kernel
theorem dX11_restore_55 : decode cX11_restore 55 = .ok (.iinc 1 1, 3) := by decide +kernel
theorem dX11_restore_58 : decode cX11_restore 58 = .ok (.goto (-20), 3) := by decide +kernel
theorem dX11_restore_61 : decode cX11_restore 61 = .ok (.aload_n 0, 1) := by decide +kernel
theorem dX11_restore_62 : decode cX11_restore 62 = .ok (.getfield 7, 3) := by decide +kernel
theorem dX11_restore_65 : decode cX11_restore 65 = .ok (.iconst 0, 1) := by decide +kernel
theorem dX11_restore_66 : decode cX11_restore 66 = .ok (.iaload, 1) := by decide +kernel
theorem dX11_restore_67 : decode cX11_restore 67 = .ok (.ireturn, 1) := by decide +kernel
end
section
theorem dL_law_0 : decode cL_law 0 = .ok (.new 7, 3) := by decide +kernel
theorem dL_law_3 : decode cL_law 3 = .ok (.dup, 1) := by decide +kernel
theorem dL_law_4 : decode cL_law 4 = .ok (.invokespecial 9, 3) := by decide +kernel
theorem dL_law_7 : decode cL_law 7 = .ok (.astore_n 1, 1) := by decide +kernel
theorem dL_law_8 : decode cL_law 8 = .ok (.new 10, 3) := by decide +kernel
theorem dL_law_11 : decode cL_law 11 = .ok (.dup, 1) := by decide +kernel
theorem dL_law_12 : decode cL_law 12 = .ok (.invokespecial 12, 3) := by decide +kernel
theorem dL_law_15 : decode cL_law 15 = .ok (.astore_n 2, 1) := by decide +kernel
theorem dL_law_16 : decode cL_law 16 = .ok (.iconst 0, 1) := by decide +kernel
theorem dL_law_17 : decode cL_law 17 = .ok (.istore_n 3, 1) := by decide +kernel
theorem dL_law_18 : decode cL_law 18 = .ok (.iload_n 3, 1) := by decide +kernel
theorem dL_law_19 : decode cL_law 19 = .ok (.aload_n 0, 1) := by decide +kernel
theorem dL_law_20 : decode cL_law 20 = .ok (.arraylength, 1) := by decide +kernel
theorem dL_law_21 : decode cL_law 21 = .ok (.iconst 5, 1) := by decide +kernel
theorem dL_law_22 : decode cL_law 22 = .ok (.isub, 1) := by decide +kernel
theorem dL_law_23 : decode cL_law 23 = .ok (.if_icmp .gt 1071, 3) := by decide +kernel
theorem dL_law_26 : decode cL_law 26 = .ok (.aload_n 0, 1) := by decide +kernel
theorem dL_law_27 : decode cL_law 27 = .ok (.iload_n 3, 1) := by decide +kernel
theorem dL_law_28 : decode cL_law 28 = .ok (.iaload, 1) := by decide +kernel
theorem dL_law_29 : decode cL_law 29 = .ok (.bipush 31, 2) := by decide +kernel
theorem dL_law_31 : decode cL_law 31 = .ok (.iand, 1) := by decide +kernel
theorem dL_law_32 : decode cL_law 32 = .ok (.tableswitch 1056 0 29 #[136, 169, 192, 225, 268, 311, 364, 407, 440, 473, 516, 559, 592, 615, 658, 681, 714, 737, 760, 793, 826, 849, 882, 915, 948, 971, 984, 1007, 1030, 1043], 136) := by decide +kernel
theorem dL_law_168 : decode cL_law 168 = .ok (.aload_n 1, 1) := by decide +kernel
theorem dL_law_169 : decode cL_law 169 = .ok (.aload_n 0, 1) := by decide +kernel
theorem dL_law_170 : decode cL_law 170 = .ok (.iload_n 3, 1) := by decide +kernel
theorem dL_law_171 : decode cL_law 171 = .ok (.iconst 1, 1) := by decide +kernel
theorem dL_law_172 : decode cL_law 172 = .ok (.iadd, 1) := by decide +kernel
theorem dL_law_173 : decode cL_law 173 = .ok (.iaload, 1) := by decide +kernel
theorem dL_law_174 : decode cL_law 174 = .ok (.aload_n 0, 1) := by decide +kernel
theorem dL_law_175 : decode cL_law 175 = .ok (.iload_n 3, 1) := by decide +kernel
theorem dL_law_176 : decode cL_law 176 = .ok (.iconst 2, 1) := by decide +kernel
theorem dL_law_177 : decode cL_law 177 = .ok (.iadd, 1) := by decide +kernel
theorem dL_law_178 : decode cL_law 178 = .ok (.iaload, 1) := by decide +kernel
theorem dL_law_179 : decode cL_law 179 = .ok (.invokevirtual 13, 3) := by decide +kernel
theorem dL_law_182 : decode cL_law 182 = .ok (.aload_n 2, 1) := by decide +kernel
theorem dL_law_183 : decode cL_law 183 = .ok (.aload_n 0, 1) := by decide +kernel
theorem dL_law_184 : decode cL_law 184 = .ok (.iload_n 3, 1) := by decide +kernel
theorem dL_law_185 : decode cL_law 185 = .ok (.iconst 1, 1) := by decide +kernel
theorem dL_law_186 : decode cL_law 186 = .ok (.iadd, 1) := by decide +kernel
theorem dL_law_187 : decode cL_law 187 = .ok (.iaload, 1) := by decide +kernel
theorem dL_law_188 : decode cL_law 188 = .ok (.aload_n 0, 1) := by decide +kernel
theorem dL_law_189 : decode cL_law 189 = .ok (.iload_n 3, 1) := by decide +kernel
theorem dL_law_190 : decode cL_law 190 = .ok (.iconst 2, 1) := by decide +kernel
theorem dL_law_191 : decode cL_law 191 = .ok (.iadd, 1) := by decide +kernel
theorem dL_law_192 : decode cL_law 192 = .ok (.iaload, 1) := by decide +kernel
theorem dL_law_193 : decode cL_law 193 = .ok (.invokevirtual 17, 3) := by decide +kernel
theorem dL_law_196 : decode cL_law 196 = .ok (.if_icmp .eq 892, 3) := by decide +kernel
theorem dL_law_199 : decode cL_law 199 = .ok (.iconst 0, 1) := by decide +kernel
theorem dL_law_200 : decode cL_law 200 = .ok (.ireturn, 1) := by decide +kernel
theorem dL_law_201 : decode cL_law 201 = .ok (.aload_n 1, 1) := by decide +kernel
theorem dL_law_202 : decode cL_law 202 = .ok (.aload_n 0, 1) := by decide +kernel
theorem dL_law_203 : decode cL_law 203 = .ok (.iload_n 3, 1) := by decide +kernel
theorem dL_law_204 : decode cL_law 204 = .ok (.iconst 1, 1) := by decide +kernel
theorem dL_law_205 : decode cL_law 205 = .ok (.iadd, 1) := by decide +kernel
theorem dL_law_206 : decode cL_law 206 = .ok (.iaload, 1) := by decide +kernel
theorem dL_law_207 : decode cL_law 207 = .ok (.invokevirtual 18, 3) := by decide +kernel
theorem dL_law_210 : decode cL_law 210 = .ok (.aload_n 2, 1) := by decide +kernel
theorem dL_law_211 : decode cL_law 211 = .ok (.aload_n 0, 1) := by decide +kernel
theorem dL_law_212 : decode cL_law 212 = .ok (.iload_n 3, 1) := by decide +kernel
theorem dL_law_213 : decode cL_law 213 = .ok (.iconst 1, 1) := by decide +kernel
theorem dL_law_214 : decode cL_law 214 = .ok (.iadd, 1) := by decide +kernel
theorem dL_law_215 : decode cL_law 215 = .ok (.iaload, 1) := by decide +kernel
theorem dL_law_216 : decode cL_law 216 = .ok (.invokevirtual 22, 3) := by decide +kernel
theorem dL_law_219 : decode cL_law 219 = .ok (.if_icmp .eq 869, 3) := by decide +kernel
theorem dL_law_222 : decode cL_law 222 = .ok (.iconst 0, 1) := by decide +kernel
theorem dL_law_223 : decode cL_law 223 = .ok (.ireturn, 1) := by decide +kernel
theorem dL_law_224 : decode cL_law 224 = .ok (.aload_n 1, 1) := by decide +kernel
theorem dL_law_225 : decode cL_law 225 = .ok (.aload_n 0, 1) := by decide +kernel
theorem dL_law_226 : decode cL_law 226 = .ok (.iload_n 3, 1) := by decide +kernel
theorem dL_law_227 : decode cL_law 227 = .ok (.iconst 1, 1) := by decide +kernel
theorem dL_law_228 : decode cL_law 228 = .ok (.iadd, 1) := by decide +kernel
theorem dL_law_229 : decode cL_law 229 = .ok (.iaload, 1) := by decide +kernel
theorem dL_law_230 : decode cL_law 230 = .ok (.aload_n 0, 1) := by decide +kernel
theorem dL_law_231 : decode cL_law 231 = .ok (.iload_n 3, 1) := by decide +kernel
theorem dL_law_232 : decode cL_law 232 = .ok (.iconst 2, 1) := by decide +kernel
theorem dL_law_233 : decode cL_law 233 = .ok (.iadd, 1) := by decide +kernel
theorem dL_law_234 : decode cL_law 234 = .ok (.iaload, 1) := by decide +kernel
theorem dL_law_235 : decode cL_law 235 = .ok (.invokevirtual 23, 3) := by decide +kernel
theorem dL_law_238 : decode cL_law 238 = .ok (.aload_n 2, 1) := by decide +kernel
theorem dL_law_239 : decode cL_law 239 = .ok (.aload_n 0, 1) := by decide +kernel
theorem dL_law_240 : decode cL_law 240 = .ok (.iload_n 3, 1) := by decide +kernel
theorem dL_law_241 : decode cL_law 241 = .ok (.iconst 1, 1) := by decide +kernel
theorem dL_law_242 : decode cL_law 242 = .ok (.iadd, 1) := by decide +kernel
theorem dL_law_243 : decode cL_law 243 = .ok (.iaload, 1) := by decide +kernel
theorem dL_law_244 : decode cL_law 244 = .ok (.aload_n 0, 1) := by decide +kernel
theorem dL_law_245 : decode cL_law 245 = .ok (.iload_n 3, 1) := by decide +kernel
theorem dL_law_246 : decode cL_law 246 = .ok (.iconst 2, 1) := by decide +kernel
theorem dL_law_247 : decode cL_law 247 = .ok (.iadd, 1) := by decide +kernel
theorem dL_law_248 : decode cL_law 248 = .ok (.iaload, 1) := by decide +kernel
theorem dL_law_249 : decode cL_law 249 = .ok (.invokevirtual 26, 3) := by decide +kernel
theorem dL_law_252 : decode cL_law 252 = .ok (.if_icmp .eq 836, 3) := by decide +kernel
theorem dL_law_255 : decode cL_law 255 = .ok (.iconst 0, 1) := by decide +kernel
theorem dL_law_256 : decode cL_law 256 = .ok (.ireturn, 1) := by decide +kernel
theorem dL_law_257 : decode cL_law 257 = .ok (.aload_n 1, 1) := by decide +kernel
theorem dL_law_258 : decode cL_law 258 = .ok (.aload_n 0, 1) := by decide +kernel
theorem dL_law_259 : decode cL_law 259 = .ok (.iload_n 3, 1) := by decide +kernel
theorem dL_law_260 : decode cL_law 260 = .ok (.iconst 1, 1) := by decide +kernel
theorem dL_law_261 : decode cL_law 261 = .ok (.iadd, 1) := by decide +kernel
theorem dL_law_262 : decode cL_law 262 = .ok (.iaload, 1) := by decide +kernel
theorem dL_law_263 : decode cL_law 263 = .ok (.aload_n 0, 1) := by decide +kernel
theorem dL_law_264 : decode cL_law 264 = .ok (.iload_n 3, 1) := by decide +kernel
theorem dL_law_265 : decode cL_law 265 = .ok (.iconst 2, 1) := by decide +kernel
theorem dL_law_266 : decode cL_law 266 = .ok (.iadd, 1) := by decide +kernel
theorem dL_law_267 : decode cL_law 267 = .ok (.iaload, 1) := by decide +kernel
theorem dL_law_268 : decode cL_law 268 = .ok (.aload_n 0, 1) := by decide +kernel
theorem dL_law_269 : decode cL_law 269 = .ok (.iload_n 3, 1) := by decide +kernel
theorem dL_law_270 : decode cL_law 270 = .ok (.iconst 3, 1) := by decide +kernel
theorem dL_law_271 : decode cL_law 271 = .ok (.iadd, 1) := by decide +kernel
theorem dL_law_272 : decode cL_law 272 = .ok (.iaload, 1) := by decide +kernel
theorem dL_law_273 : decode cL_law 273 = .ok (.invokevirtual 27, 3) := by decide +kernel
theorem dL_law_276 : decode cL_law 276 = .ok (.aload_n 2, 1) := by decide +kernel
theorem dL_law_277 : decode cL_law 277 = .ok (.aload_n 0, 1) := by decide +kernel
theorem dL_law_278 : decode cL_law 278 = .ok (.iload_n 3, 1) := by decide +kernel
theorem dL_law_279 : decode cL_law 279 = .ok (.iconst 1, 1) := by decide +kernel
theorem dL_law_280 : decode cL_law 280 = .ok (.iadd, 1) := by decide +kernel
theorem dL_law_281 : decode cL_law 281 = .ok (.iaload, 1) := by decide +kernel
theorem dL_law_282 : decode cL_law 282 = .ok (.aload_n 0, 1) := by decide +kernel
theorem dL_law_283 : decode cL_law 283 = .ok (.iload_n 3, 1) := by decide +kernel
theorem dL_law_284 : decode cL_law 284 = .ok (.iconst 2, 1) := by decide +kernel
theorem dL_law_285 : decode cL_law 285 = .ok (.iadd, 1) := by decide +kernel
theorem dL_law_286 : decode cL_law 286 = .ok (.iaload, 1) := by decide +kernel
theorem dL_law_287 : decode cL_law 287 = .ok (.aload_n 0, 1) := by decide +kernel
theorem dL_law_288 : decode cL_law 288 = .ok (.iload_n 3, 1) := by decide +kernel
theorem dL_law_289 : decode cL_law 289 = .ok (.iconst 3, 1) := by decide +kernel
theorem dL_law_290 : decode cL_law 290 = .ok (.iadd, 1) := by decide +kernel
theorem dL_law_291 : decode cL_law 291 = .ok (.iaload, 1) := by decide +kernel
theorem dL_law_292 : decode cL_law 292 = .ok (.invokevirtual 31, 3) := by decide +kernel
theorem dL_law_295 : decode cL_law 295 = .ok (.if_icmp .eq 793, 3) := by decide +kernel
theorem dL_law_298 : decode cL_law 298 = .ok (.iconst 0, 1) := by decide +kernel
theorem dL_law_299 : decode cL_law 299 = .ok (.ireturn, 1) := by decide +kernel
theorem dL_law_300 : decode cL_law 300 = .ok (.aload_n 1, 1) := by decide +kernel
theorem dL_law_301 : decode cL_law 301 = .ok (.aload_n 0, 1) := by decide +kernel
theorem dL_law_302 : decode cL_law 302 = .ok (.iload_n 3, 1) := by decide +kernel
theorem dL_law_303 : decode cL_law 303 = .ok (.iconst 1, 1) := by decide +kernel
theorem dL_law_304 : decode cL_law 304 = .ok (.iadd, 1) := by decide +kernel
theorem dL_law_305 : decode cL_law 305 = .ok (.iaload, 1) := by decide +kernel
theorem dL_law_306 : decode cL_law 306 = .ok (.aload_n 0, 1) := by decide +kernel
theorem dL_law_307 : decode cL_law 307 = .ok (.iload_n 3, 1) := by decide +kernel
theorem dL_law_308 : decode cL_law 308 = .ok (.iconst 2, 1) := by decide +kernel
theorem dL_law_309 : decode cL_law 309 = .ok (.iadd, 1) := by decide +kernel
theorem dL_law_310 : decode cL_law 310 = .ok (.iaload, 1) := by decide +kernel
theorem dL_law_311 : decode cL_law 311 = .ok (.aload_n 0, 1) := by decide +kernel
theorem dL_law_312 : decode cL_law 312 = .ok (.iload_n 3, 1) := by decide +kernel
theorem dL_law_313 : decode cL_law 313 = .ok (.iconst 3, 1) := by decide +kernel
theorem dL_law_314 : decode cL_law 314 = .ok (.iadd, 1) := by decide +kernel
theorem dL_law_315 : decode cL_law 315 = .ok (.iaload, 1) := by decide +kernel
theorem dL_law_316 : decode cL_law 316 = .ok (.invokevirtual 32, 3) := by decide +kernel
theorem dL_law_319 : decode cL_law 319 = .ok (.aload_n 2, 1) := by decide +kernel
theorem dL_law_320 : decode cL_law 320 = .ok (.aload_n 0, 1) := by decide +kernel
theorem dL_law_321 : decode cL_law 321 = .ok (.iload_n 3, 1) := by decide +kernel
theorem dL_law_322 : decode cL_law 322 = .ok (.iconst 1, 1) := by decide +kernel
theorem dL_law_323 : decode cL_law 323 = .ok (.iadd, 1) := by decide +kernel
theorem dL_law_324 : decode cL_law 324 = .ok (.iaload, 1) := by decide +kernel
theorem dL_law_325 : decode cL_law 325 = .ok (.aload_n 0, 1) := by decide +kernel
theorem dL_law_326 : decode cL_law 326 = .ok (.iload_n 3, 1) := by decide +kernel
theorem dL_law_327 : decode cL_law 327 = .ok (.iconst 2, 1) := by decide +kernel
theorem dL_law_328 : decode cL_law 328 = .ok (.iadd, 1) := by decide +kernel
theorem dL_law_329 : decode cL_law 329 = .ok (.iaload, 1) := by decide +kernel
theorem dL_law_330 : decode cL_law 330 = .ok (.aload_n 0, 1) := by decide +kernel
theorem dL_law_331 : decode cL_law 331 = .ok (.iload_n 3, 1) := by decide +kernel
theorem dL_law_332 : decode cL_law 332 = .ok (.iconst 3, 1) := by decide +kernel
theorem dL_law_333 : decode cL_law 333 = .ok (.iadd, 1) := by decide +kernel
theorem dL_law_334 : decode cL_law 334 = .ok (.iaload, 1) := by decide +kernel
theorem dL_law_335 : decode cL_law 335 = .ok (.invokevirtual 35, 3) := by decide +kernel
theorem dL_law_338 : decode cL_law 338 = .ok (.if_icmp .eq 750, 3) := by decide +kernel
theorem dL_law_341 : decode cL_law 341 = .ok (.iconst 0, 1) := by decide +kernel
theorem dL_law_342 : decode cL_law 342 = .ok (.ireturn, 1) := by decide +kernel
theorem dL_law_343 : decode cL_law 343 = .ok (.aload_n 1, 1) := by decide +kernel
theorem dL_law_344 : decode cL_law 344 = .ok (.aload_n 0, 1) := by decide +kernel
theorem dL_law_345 : decode cL_law 345 = .ok (.iload_n 3, 1) := by decide +kernel
theorem dL_law_346 : decode cL_law 346 = .ok (.iconst 1, 1) := by decide +kernel
theorem dL_law_347 : decode cL_law 347 = .ok (.iadd, 1) := by decide +kernel
theorem dL_law_348 : decode cL_law 348 = .ok (.iaload, 1) := by decide +kernel
theorem dL_law_349 : decode cL_law 349 = .ok (.aload_n 0, 1) := by decide +kernel
theorem dL_law_350 : decode cL_law 350 = .ok (.iload_n 3, 1) := by decide +kernel
theorem dL_law_351 : decode cL_law 351 = .ok (.iconst 2, 1) := by decide +kernel
theorem dL_law_352 : decode cL_law 352 = .ok (.iadd, 1) := by decide +kernel
theorem dL_law_353 : decode cL_law 353 = .ok (.iaload, 1) := by decide +kernel
theorem dL_law_354 : decode cL_law 354 = .ok (.aload_n 0, 1) := by decide +kernel
theorem dL_law_355 : decode cL_law 355 = .ok (.iload_n 3, 1) := by decide +kernel
theorem dL_law_356 : decode cL_law 356 = .ok (.iconst 3, 1) := by decide +kernel
theorem dL_law_357 : decode cL_law 357 = .ok (.iadd, 1) := by decide +kernel
theorem dL_law_358 : decode cL_law 358 = .ok (.iaload, 1) := by decide +kernel
theorem dL_law_359 : decode cL_law 359 = .ok (.aload_n 0, 1) := by decide +kernel
theorem dL_law_360 : decode cL_law 360 = .ok (.iload_n 3, 1) := by decide +kernel
theorem dL_law_361 : decode cL_law 361 = .ok (.iconst 4, 1) := by decide +kernel
theorem dL_law_362 : decode cL_law 362 = .ok (.iadd, 1) := by decide +kernel
theorem dL_law_363 : decode cL_law 363 = .ok (.iaload, 1) := by decide +kernel
theorem dL_law_364 : decode cL_law 364 = .ok (.invokevirtual 36, 3) := by decide +kernel
theorem dL_law_367 : decode cL_law 367 = .ok (.aload_n 2, 1) := by decide +kernel
theorem dL_law_368 : decode cL_law 368 = .ok (.aload_n 0, 1) := by decide +kernel
theorem dL_law_369 : decode cL_law 369 = .ok (.iload_n 3, 1) := by decide +kernel
end
section
theorem dL_law_370 : decode cL_law 370 = .ok (.iconst 1, 1) := by decide +kernel
theorem dL_law_371 : decode cL_law 371 = .ok (.iadd, 1) := by decide +kernel
theorem dL_law_372 : decode cL_law 372 = .ok (.iaload, 1) := by decide +kernel
theorem dL_law_373 : decode cL_law 373 = .ok (.aload_n 0, 1) := by decide +kernel
theorem dL_law_374 : decode cL_law 374 = .ok (.iload_n 3, 1) := by decide +kernel
theorem dL_law_375 : decode cL_law 375 = .ok (.iconst 2, 1) := by decide +kernel
theorem dL_law_376 : decode cL_law 376 = .ok (.iadd, 1) := by decide +kernel
theorem dL_law_377 : decode cL_law 377 = .ok (.iaload, 1) := by decide +kernel
theorem dL_law_378 : decode cL_law 378 = .ok (.aload_n 0, 1) := by decide +kernel
theorem dL_law_379 : decode cL_law 379 = .ok (.iload_n 3, 1) := by decide +kernel
theorem dL_law_380 : decode cL_law 380 = .ok (.iconst 3, 1) := by decide +kernel
theorem dL_law_381 : decode cL_law 381 = .ok (.iadd, 1) := by decide +kernel
theorem dL_law_382 : decode cL_law 382 = .ok (.iaload, 1) := by decide +kernel
theorem dL_law_383 : decode cL_law 383 = .ok (.aload_n 0, 1) := by decide +kernel
theorem dL_law_384 : decode cL_law 384 = .ok (.iload_n 3, 1) := by decide +kernel
theorem dL_law_385 : decode cL_law 385 = .ok (.iconst 4, 1) := by decide +kernel
theorem dL_law_386 : decode cL_law 386 = .ok (.iadd, 1) := by decide +kernel
theorem dL_law_387 : decode cL_law 387 = .ok (.iaload, 1) := by decide +kernel
theorem dL_law_388 : decode cL_law 388 = .ok (.invokevirtual 40, 3) := by decide +kernel
theorem dL_law_391 : decode cL_law 391 = .ok (.if_icmp .eq 697, 3) := by decide +kernel
theorem dL_law_394 : decode cL_law 394 = .ok (.iconst 0, 1) := by decide +kernel
theorem dL_law_395 : decode cL_law 395 = .ok (.ireturn, 1) := by decide +kernel
theorem dL_law_396 : decode cL_law 396 = .ok (.aload_n 1, 1) := by decide +kernel
theorem dL_law_397 : decode cL_law 397 = .ok (.aload_n 0, 1) := by decide +kernel
theorem dL_law_398 : decode cL_law 398 = .ok (.iload_n 3, 1) := by decide +kernel
theorem dL_law_399 : decode cL_law 399 = .ok (.iconst 1, 1) := by decide +kernel
theorem dL_law_400 : decode cL_law 400 = .ok (.iadd, 1) := by decide +kernel
theorem dL_law_401 : decode cL_law 401 = .ok (.iaload, 1) := by decide +kernel
theorem dL_law_402 : decode cL_law 402 = .ok (.aload_n 0, 1) := by decide +kernel
theorem dL_law_403 : decode cL_law 403 = .ok (.iload_n 3, 1) := by decide +kernel
theorem dL_law_404 : decode cL_law 404 = .ok (.iconst 2, 1) := by decide +kernel
theorem dL_law_405 : decode cL_law 405 = .ok (.iadd, 1) := by decide +kernel
theorem dL_law_406 : decode cL_law 406 = .ok (.iaload, 1) := by decide +kernel
theorem dL_law_407 : decode cL_law 407 = .ok (.aload_n 0, 1) := by decide +kernel
theorem dL_law_408 : decode cL_law 408 = .ok (.iload_n 3, 1) := by decide +kernel
theorem dL_law_409 : decode cL_law 409 = .ok (.iconst 3, 1) := by decide +kernel
theorem dL_law_410 : decode cL_law 410 = .ok (.iadd, 1) := by decide +kernel
theorem dL_law_411 : decode cL_law 411 = .ok (.iaload, 1) := by decide +kernel
theorem dL_law_412 : decode cL_law 412 = .ok (.invokevirtual 41, 3) := by decide +kernel
theorem dL_law_415 : decode cL_law 415 = .ok (.aload_n 2, 1) := by decide +kernel
theorem dL_law_416 : decode cL_law 416 = .ok (.aload_n 0, 1) := by decide +kernel
theorem dL_law_417 : decode cL_law 417 = .ok (.iload_n 3, 1) := by decide +kernel
theorem dL_law_418 : decode cL_law 418 = .ok (.iconst 1, 1) := by decide +kernel
theorem dL_law_419 : decode cL_law 419 = .ok (.iadd, 1) := by decide +kernel
theorem dL_law_420 : decode cL_law 420 = .ok (.iaload, 1) := by decide +kernel
theorem dL_law_421 : decode cL_law 421 = .ok (.aload_n 0, 1) := by decide +kernel
theorem dL_law_422 : decode cL_law 422 = .ok (.iload_n 3, 1) := by decide +kernel
theorem dL_law_423 : decode cL_law 423 = .ok (.iconst 2, 1) := by decide +kernel
theorem dL_law_424 : decode cL_law 424 = .ok (.iadd, 1) := by decide +kernel
theorem dL_law_425 : decode cL_law 425 = .ok (.iaload, 1) := by decide +kernel
theorem dL_law_426 : decode cL_law 426 = .ok (.aload_n 0, 1) := by decide +kernel
theorem dL_law_427 : decode cL_law 427 = .ok (.iload_n 3, 1) := by decide +kernel
theorem dL_law_428 : decode cL_law 428 = .ok (.iconst 3, 1) := by decide +kernel
theorem dL_law_429 : decode cL_law 429 = .ok (.iadd, 1) := by decide +kernel
theorem dL_law_430 : decode cL_law 430 = .ok (.iaload, 1) := by decide +kernel
theorem dL_law_431 : decode cL_law 431 = .ok (.invokevirtual 44, 3) := by decide +kernel
theorem dL_law_434 : decode cL_law 434 = .ok (.if_icmp .eq 654, 3) := by decide +kernel
theorem dL_law_437 : decode cL_law 437 = .ok (.iconst 0, 1) := by decide +kernel
theorem dL_law_438 : decode cL_law 438 = .ok (.ireturn, 1) := by decide +kernel
theorem dL_law_439 : decode cL_law 439 = .ok (.aload_n 1, 1) := by decide +kernel
theorem dL_law_440 : decode cL_law 440 = .ok (.aload_n 0, 1) := by decide +kernel
theorem dL_law_441 : decode cL_law 441 = .ok (.iload_n 3, 1) := by decide +kernel
theorem dL_law_442 : decode cL_law 442 = .ok (.iconst 1, 1) := by decide +kernel
theorem dL_law_443 : decode cL_law 443 = .ok (.iadd, 1) := by decide +kernel
theorem dL_law_444 : decode cL_law 444 = .ok (.iaload, 1) := by decide +kernel
theorem dL_law_445 : decode cL_law 445 = .ok (.aload_n 0, 1) := by decide +kernel
theorem dL_law_446 : decode cL_law 446 = .ok (.iload_n 3, 1) := by decide +kernel
theorem dL_law_447 : decode cL_law 447 = .ok (.iconst 2, 1) := by decide +kernel
theorem dL_law_448 : decode cL_law 448 = .ok (.iadd, 1) := by decide +kernel
theorem dL_law_449 : decode cL_law 449 = .ok (.iaload, 1) := by decide +kernel
theorem dL_law_450 : decode cL_law 450 = .ok (.invokevirtual 45, 3) := by decide +kernel
theorem dL_law_453 : decode cL_law 453 = .ok (.aload_n 2, 1) := by decide +kernel
theorem dL_law_454 : decode cL_law 454 = .ok (.aload_n 0, 1) := by decide +kernel
theorem dL_law_455 : decode cL_law 455 = .ok (.iload_n 3, 1) := by decide +kernel
theorem dL_law_456 : decode cL_law 456 = .ok (.iconst 1, 1) := by decide +kernel
theorem dL_law_457 : decode cL_law 457 = .ok (.iadd, 1) := by decide +kernel
theorem dL_law_458 : decode cL_law 458 = .ok (.iaload, 1) := by decide +kernel
theorem dL_law_459 : decode cL_law 459 = .ok (.aload_n 0, 1) := by decide +kernel
theorem dL_law_460 : decode cL_law 460 = .ok (.iload_n 3, 1) := by decide +kernel
theorem dL_law_461 : decode cL_law 461 = .ok (.iconst 2, 1) := by decide +kernel
theorem dL_law_462 : decode cL_law 462 = .ok (.iadd, 1) := by decide +kernel
theorem dL_law_463 : decode cL_law 463 = .ok (.iaload, 1) := by decide +kernel
theorem dL_law_464 : decode cL_law 464 = .ok (.invokevirtual 48, 3) := by decide +kernel
theorem dL_law_467 : decode cL_law 467 = .ok (.if_icmp .eq 621, 3) := by decide +kernel
theorem dL_law_470 : decode cL_law 470 = .ok (.iconst 0, 1) := by decide +kernel
theorem dL_law_471 : decode cL_law 471 = .ok (.ireturn, 1) := by decide +kernel
theorem dL_law_472 : decode cL_law 472 = .ok (.aload_n 1, 1) := by decide +kernel
theorem dL_law_473 : decode cL_law 473 = .ok (.aload_n 0, 1) := by decide +kernel
theorem dL_law_474 : decode cL_law 474 = .ok (.iload_n 3, 1) := by decide +kernel
theorem dL_law_475 : decode cL_law 475 = .ok (.iconst 1, 1) := by decide +kernel
theorem dL_law_476 : decode cL_law 476 = .ok (.iadd, 1) := by decide +kernel
theorem dL_law_477 : decode cL_law 477 = .ok (.iaload, 1) := by decide +kernel
theorem dL_law_478 : decode cL_law 478 = .ok (.aload_n 0, 1) := by decide +kernel
theorem dL_law_479 : decode cL_law 479 = .ok (.iload_n 3, 1) := by decide +kernel
theorem dL_law_480 : decode cL_law 480 = .ok (.iconst 2, 1) := by decide +kernel
theorem dL_law_481 : decode cL_law 481 = .ok (.iadd, 1) := by decide +kernel
theorem dL_law_482 : decode cL_law 482 = .ok (.iaload, 1) := by decide +kernel
theorem dL_law_483 : decode cL_law 483 = .ok (.invokevirtual 49, 3) := by decide +kernel
theorem dL_law_486 : decode cL_law 486 = .ok (.aload_n 2, 1) := by decide +kernel
theorem dL_law_487 : decode cL_law 487 = .ok (.aload_n 0, 1) := by decide +kernel
theorem dL_law_488 : decode cL_law 488 = .ok (.iload_n 3, 1) := by decide +kernel
theorem dL_law_489 : decode cL_law 489 = .ok (.iconst 1, 1) := by decide +kernel
theorem dL_law_490 : decode cL_law 490 = .ok (.iadd, 1) := by decide +kernel
theorem dL_law_491 : decode cL_law 491 = .ok (.iaload, 1) := by decide +kernel
theorem dL_law_492 : decode cL_law 492 = .ok (.aload_n 0, 1) := by decide +kernel
theorem dL_law_493 : decode cL_law 493 = .ok (.iload_n 3, 1) := by decide +kernel
theorem dL_law_494 : decode cL_law 494 = .ok (.iconst 2, 1) := by decide +kernel
theorem dL_law_495 : decode cL_law 495 = .ok (.iadd, 1) := by decide +kernel
theorem dL_law_496 : decode cL_law 496 = .ok (.iaload, 1) := by decide +kernel
theorem dL_law_497 : decode cL_law 497 = .ok (.invokevirtual 52, 3) := by decide +kernel
theorem dL_law_500 : decode cL_law 500 = .ok (.if_icmp .eq 588, 3) := by decide +kernel
theorem dL_law_503 : decode cL_law 503 = .ok (.iconst 0, 1) := by decide +kernel
theorem dL_law_504 : decode cL_law 504 = .ok (.ireturn, 1) := by decide +kernel
theorem dL_law_505 : decode cL_law 505 = .ok (.aload_n 1, 1) := by decide +kernel
theorem dL_law_506 : decode cL_law 506 = .ok (.aload_n 0, 1) := by decide +kernel
theorem dL_law_507 : decode cL_law 507 = .ok (.iload_n 3, 1) := by decide +kernel
theorem dL_law_508 : decode cL_law 508 = .ok (.iconst 1, 1) := by decide +kernel
theorem dL_law_509 : decode cL_law 509 = .ok (.iadd, 1) := by decide +kernel
theorem dL_law_510 : decode cL_law 510 = .ok (.iaload, 1) := by decide +kernel
theorem dL_law_511 : decode cL_law 511 = .ok (.aload_n 0, 1) := by decide +kernel
theorem dL_law_512 : decode cL_law 512 = .ok (.iload_n 3, 1) := by decide +kernel
theorem dL_law_513 : decode cL_law 513 = .ok (.iconst 2, 1) := by decide +kernel
theorem dL_law_514 : decode cL_law 514 = .ok (.iadd, 1) := by decide +kernel
theorem dL_law_515 : decode cL_law 515 = .ok (.iaload, 1) := by decide +kernel
theorem dL_law_516 : decode cL_law 516 = .ok (.aload_n 0, 1) := by decide +kernel
theorem dL_law_517 : decode cL_law 517 = .ok (.iload_n 3, 1) := by decide +kernel
theorem dL_law_518 : decode cL_law 518 = .ok (.iconst 3, 1) := by decide +kernel
theorem dL_law_519 : decode cL_law 519 = .ok (.iadd, 1) := by decide +kernel
theorem dL_law_520 : decode cL_law 520 = .ok (.iaload, 1) := by decide +kernel
theorem dL_law_521 : decode cL_law 521 = .ok (.invokevirtual 53, 3) := by decide +kernel
theorem dL_law_524 : decode cL_law 524 = .ok (.aload_n 2, 1) := by decide +kernel
theorem dL_law_525 : decode cL_law 525 = .ok (.aload_n 0, 1) := by decide +kernel
theorem dL_law_526 : decode cL_law 526 = .ok (.iload_n 3, 1) := by decide +kernel
theorem dL_law_527 : decode cL_law 527 = .ok (.iconst 1, 1) := by decide +kernel
theorem dL_law_528 : decode cL_law 528 = .ok (.iadd, 1) := by decide +kernel
theorem dL_law_529 : decode cL_law 529 = .ok (.iaload, 1) := by decide +kernel
theorem dL_law_530 : decode cL_law 530 = .ok (.aload_n 0, 1) := by decide +kernel
theorem dL_law_531 : decode cL_law 531 = .ok (.iload_n 3, 1) := by decide +kernel
theorem dL_law_532 : decode cL_law 532 = .ok (.iconst 2, 1) := by decide +kernel
theorem dL_law_533 : decode cL_law 533 = .ok (.iadd, 1) := by decide +kernel
theorem dL_law_534 : decode cL_law 534 = .ok (.iaload, 1) := by decide +kernel
theorem dL_law_535 : decode cL_law 535 = .ok (.aload_n 0, 1) := by decide +kernel
theorem dL_law_536 : decode cL_law 536 = .ok (.iload_n 3, 1) := by decide +kernel
theorem dL_law_537 : decode cL_law 537 = .ok (.iconst 3, 1) := by decide +kernel
theorem dL_law_538 : decode cL_law 538 = .ok (.iadd, 1) := by decide +kernel
theorem dL_law_539 : decode cL_law 539 = .ok (.iaload, 1) := by decide +kernel
theorem dL_law_540 : decode cL_law 540 = .ok (.invokevirtual 56, 3) := by decide +kernel
theorem dL_law_543 : decode cL_law 543 = .ok (.if_icmp .eq 545, 3) := by decide +kernel
theorem dL_law_546 : decode cL_law 546 = .ok (.iconst 0, 1) := by decide +kernel
theorem dL_law_547 : decode cL_law 547 = .ok (.ireturn, 1) := by decide +kernel
theorem dL_law_548 : decode cL_law 548 = .ok (.aload_n 1, 1) := by decide +kernel
theorem dL_law_549 : decode cL_law 549 = .ok (.aload_n 0, 1) := by decide +kernel
theorem dL_law_550 : decode cL_law 550 = .ok (.iload_n 3, 1) := by decide +kernel
theorem dL_law_551 : decode cL_law 551 = .ok (.iconst 1, 1) := by decide +kernel
theorem dL_law_552 : decode cL_law 552 = .ok (.iadd, 1) := by decide +kernel
theorem dL_law_553 : decode cL_law 553 = .ok (.iaload, 1) := by decide +kernel
theorem dL_law_554 : decode cL_law 554 = .ok (.aload_n 0, 1) := by decide +kernel
theorem dL_law_555 : decode cL_law 555 = .ok (.iload_n 3, 1) := by decide +kernel
theorem dL_law_556 : decode cL_law 556 = .ok (.iconst 2, 1) := by decide +kernel
theorem dL_law_557 : decode cL_law 557 = .ok (.iadd, 1) := by decide +kernel
theorem dL_law_558 : decode cL_law 558 = .ok (.iaload, 1) := by decide +kernel
theorem dL_law_559 : decode cL_law 559 = .ok (.aload_n 0, 1) := by decide +kernel
theorem dL_law_560 : decode cL_law 560 = .ok (.iload_n 3, 1) := by decide +kernel
theorem dL_law_561 : decode cL_law 561 = .ok (.iconst 3, 1) := by decide +kernel
theorem dL_law_562 : decode cL_law 562 = .ok (.iadd, 1) := by decide +kernel
theorem dL_law_563 : decode cL_law 563 = .ok (.iaload, 1) := by decide +kernel
theorem dL_law_564 : decode cL_law 564 = .ok (.invokevirtual 57, 3) := by decide +kernel
theorem dL_law_567 : decode cL_law 567 = .ok (.aload_n 2, 1) := by decide +kernel
theorem dL_law_568 : decode cL_law 568 = .ok (.aload_n 0, 1) := by decide +kernel
theorem dL_law_569 : decode cL_law 569 = .ok (.iload_n 3, 1) := by decide +kernel
theorem dL_law_570 : decode cL_law 570 = .ok (.iconst 1, 1) := by decide +kernel
theorem dL_law_571 : decode cL_law 571 = .ok (.iadd, 1) := by decide +kernel
theorem dL_law_572 : decode cL_law 572 = .ok (.iaload, 1) := by decide +kernel
theorem dL_law_573 : decode cL_law 573 = .ok (.aload_n 0, 1) := by decide +kernel
theorem dL_law_574 : decode cL_law 574 = .ok (.iload_n 3, 1) := by decide +kernel
theorem dL_law_575 : decode cL_law 575 = .ok (.iconst 2, 1) := by decide +kernel
theorem dL_law_576 : decode cL_law 576 = .ok (.iadd, 1) := by decide +kernel
theorem dL_law_577 : decode cL_law 577 = .ok (.iaload, 1) := by decide +kernel
theorem dL_law_578 : decode cL_law 578 = .ok (.aload_n 0, 1) := by decide +kernel
theorem dL_law_579 : decode cL_law 579 = .ok (.iload_n 3, 1) := by decide +kernel
theorem dL_law_580 : decode cL_law 580 = .ok (.iconst 3, 1) := by decide +kernel
theorem dL_law_581 : decode cL_law 581 = .ok (.iadd, 1) := by decide +kernel
theorem dL_law_582 : decode cL_law 582 = .ok (.iaload, 1) := by decide +kernel
theorem dL_law_583 : decode cL_law 583 = .ok (.invokevirtual 60, 3) := by decide +kernel
theorem dL_law_586 : decode cL_law 586 = .ok (.if_icmp .eq 502, 3) := by decide +kernel
theorem dL_law_589 : decode cL_law 589 = .ok (.iconst 0, 1) := by decide +kernel
theorem dL_law_590 : decode cL_law 590 = .ok (.ireturn, 1) := by decide +kernel
theorem dL_law_591 : decode cL_law 591 = .ok (.aload_n 1, 1) := by decide +kernel
theorem dL_law_592 : decode cL_law 592 = .ok (.aload_n 0, 1) := by decide +kernel
theorem dL_law_593 : decode cL_law 593 = .ok (.iload_n 3, 1) := by decide +kernel
theorem dL_law_594 : decode cL_law 594 = .ok (.iconst 1, 1) := by decide +kernel
theorem dL_law_595 : decode cL_law 595 = .ok (.iadd, 1) := by decide +kernel
end
section
theorem dL_law_596 : decode cL_law 596 = .ok (.iaload, 1) := by decide +kernel
theorem dL_law_597 : decode cL_law 597 = .ok (.aload_n 0, 1) := by decide +kernel
theorem dL_law_598 : decode cL_law 598 = .ok (.iload_n 3, 1) := by decide +kernel
theorem dL_law_599 : decode cL_law 599 = .ok (.iconst 2, 1) := by decide +kernel
theorem dL_law_600 : decode cL_law 600 = .ok (.iadd, 1) := by decide +kernel
theorem dL_law_601 : decode cL_law 601 = .ok (.iaload, 1) := by decide +kernel
theorem dL_law_602 : decode cL_law 602 = .ok (.invokevirtual 61, 3) := by decide +kernel
theorem dL_law_605 : decode cL_law 605 = .ok (.aload_n 2, 1) := by decide +kernel
theorem dL_law_606 : decode cL_law 606 = .ok (.aload_n 0, 1) := by decide +kernel
theorem dL_law_607 : decode cL_law 607 = .ok (.iload_n 3, 1) := by decide +kernel
theorem dL_law_608 : decode cL_law 608 = .ok (.iconst 1, 1) := by decide +kernel
theorem dL_law_609 : decode cL_law 609 = .ok (.iadd, 1) := by decide +kernel
theorem dL_law_610 : decode cL_law 610 = .ok (.iaload, 1) := by decide +kernel
theorem dL_law_611 : decode cL_law 611 = .ok (.aload_n 0, 1) := by decide +kernel
theorem dL_law_612 : decode cL_law 612 = .ok (.iload_n 3, 1) := by decide +kernel
theorem dL_law_613 : decode cL_law 613 = .ok (.iconst 2, 1) := by decide +kernel
theorem dL_law_614 : decode cL_law 614 = .ok (.iadd, 1) := by decide +kernel
theorem dL_law_615 : decode cL_law 615 = .ok (.iaload, 1) := by decide +kernel
theorem dL_law_616 : decode cL_law 616 = .ok (.invokevirtual 64, 3) := by decide +kernel
theorem dL_law_619 : decode cL_law 619 = .ok (.if_icmp .eq 469, 3) := by decide +kernel
theorem dL_law_622 : decode cL_law 622 = .ok (.iconst 0, 1) := by decide +kernel
theorem dL_law_623 : decode cL_law 623 = .ok (.ireturn, 1) := by decide +kernel
theorem dL_law_624 : decode cL_law 624 = .ok (.aload_n 1, 1) := by decide +kernel
theorem dL_law_625 : decode cL_law 625 = .ok (.aload_n 0, 1) := by decide +kernel
theorem dL_law_626 : decode cL_law 626 = .ok (.iload_n 3, 1) := by decide +kernel
theorem dL_law_627 : decode cL_law 627 = .ok (.iconst 1, 1) := by decide +kernel
theorem dL_law_628 : decode cL_law 628 = .ok (.iadd, 1) := by decide +kernel
theorem dL_law_629 : decode cL_law 629 = .ok (.iaload, 1) := by decide +kernel
theorem dL_law_630 : decode cL_law 630 = .ok (.invokevirtual 65, 3) := by decide +kernel
theorem dL_law_633 : decode cL_law 633 = .ok (.aload_n 2, 1) := by decide +kernel
theorem dL_law_634 : decode cL_law 634 = .ok (.aload_n 0, 1) := by decide +kernel
theorem dL_law_635 : decode cL_law 635 = .ok (.iload_n 3, 1) := by decide +kernel
theorem dL_law_636 : decode cL_law 636 = .ok (.iconst 1, 1) := by decide +kernel
theorem dL_law_637 : decode cL_law 637 = .ok (.iadd, 1) := by decide +kernel
theorem dL_law_638 : decode cL_law 638 = .ok (.iaload, 1) := by decide +kernel
theorem dL_law_639 : decode cL_law 639 = .ok (.invokevirtual 68, 3) := by decide +kernel
theorem dL_law_642 : decode cL_law 642 = .ok (.if_icmp .eq 446, 3) := by decide +kernel
theorem dL_law_645 : decode cL_law 645 = .ok (.iconst 0, 1) := by decide +kernel
theorem dL_law_646 : decode cL_law 646 = .ok (.ireturn, 1) := by decide +kernel
theorem dL_law_647 : decode cL_law 647 = .ok (.aload_n 1, 1) := by decide +kernel
theorem dL_law_648 : decode cL_law 648 = .ok (.aload_n 0, 1) := by decide +kernel
theorem dL_law_649 : decode cL_law 649 = .ok (.iload_n 3, 1) := by decide +kernel
theorem dL_law_650 : decode cL_law 650 = .ok (.iconst 1, 1) := by decide +kernel
theorem dL_law_651 : decode cL_law 651 = .ok (.iadd, 1) := by decide +kernel
theorem dL_law_652 : decode cL_law 652 = .ok (.iaload, 1) := by decide +kernel
theorem dL_law_653 : decode cL_law 653 = .ok (.aload_n 0, 1) := by decide +kernel
theorem dL_law_654 : decode cL_law 654 = .ok (.iload_n 3, 1) := by decide +kernel
theorem dL_law_655 : decode cL_law 655 = .ok (.iconst 2, 1) := by decide +kernel
theorem dL_law_656 : decode cL_law 656 = .ok (.iadd, 1) := by decide +kernel
theorem dL_law_657 : decode cL_law 657 = .ok (.iaload, 1) := by decide +kernel
theorem dL_law_658 : decode cL_law 658 = .ok (.aload_n 0, 1) := by decide +kernel
theorem dL_law_659 : decode cL_law 659 = .ok (.iload_n 3, 1) := by decide +kernel
theorem dL_law_660 : decode cL_law 660 = .ok (.iconst 3, 1) := by decide +kernel
theorem dL_law_661 : decode cL_law 661 = .ok (.iadd, 1) := by decide +kernel
theorem dL_law_662 : decode cL_law 662 = .ok (.iaload, 1) := by decide +kernel
theorem dL_law_663 : decode cL_law 663 = .ok (.invokevirtual 69, 3) := by decide +kernel
theorem dL_law_666 : decode cL_law 666 = .ok (.aload_n 2, 1) := by decide +kernel
theorem dL_law_667 : decode cL_law 667 = .ok (.aload_n 0, 1) := by decide +kernel
theorem dL_law_668 : decode cL_law 668 = .ok (.iload_n 3, 1) := by decide +kernel
theorem dL_law_669 : decode cL_law 669 = .ok (.iconst 1, 1) := by decide +kernel
theorem dL_law_670 : decode cL_law 670 = .ok (.iadd, 1) := by decide +kernel
theorem dL_law_671 : decode cL_law 671 = .ok (.iaload, 1) := by decide +kernel
theorem dL_law_672 : decode cL_law 672 = .ok (.aload_n 0, 1) := by decide +kernel
theorem dL_law_673 : decode cL_law 673 = .ok (.iload_n 3, 1) := by decide +kernel
theorem dL_law_674 : decode cL_law 674 = .ok (.iconst 2, 1) := by decide +kernel
theorem dL_law_675 : decode cL_law 675 = .ok (.iadd, 1) := by decide +kernel
theorem dL_law_676 : decode cL_law 676 = .ok (.iaload, 1) := by decide +kernel
theorem dL_law_677 : decode cL_law 677 = .ok (.aload_n 0, 1) := by decide +kernel
theorem dL_law_678 : decode cL_law 678 = .ok (.iload_n 3, 1) := by decide +kernel
theorem dL_law_679 : decode cL_law 679 = .ok (.iconst 3, 1) := by decide +kernel
theorem dL_law_680 : decode cL_law 680 = .ok (.iadd, 1) := by decide +kernel
theorem dL_law_681 : decode cL_law 681 = .ok (.iaload, 1) := by decide +kernel
theorem dL_law_682 : decode cL_law 682 = .ok (.invokevirtual 72, 3) := by decide +kernel
theorem dL_law_685 : decode cL_law 685 = .ok (.if_icmp .eq 403, 3) := by decide +kernel
theorem dL_law_688 : decode cL_law 688 = .ok (.iconst 0, 1) := by decide +kernel
theorem dL_law_689 : decode cL_law 689 = .ok (.ireturn, 1) := by decide +kernel
theorem dL_law_690 : decode cL_law 690 = .ok (.aload_n 1, 1) := by decide +kernel
theorem dL_law_691 : decode cL_law 691 = .ok (.aload_n 0, 1) := by decide +kernel
theorem dL_law_692 : decode cL_law 692 = .ok (.iload_n 3, 1) := by decide +kernel
theorem dL_law_693 : decode cL_law 693 = .ok (.iconst 1, 1) := by decide +kernel
theorem dL_law_694 : decode cL_law 694 = .ok (.iadd, 1) := by decide +kernel
theorem dL_law_695 : decode cL_law 695 = .ok (.iaload, 1) := by decide +kernel
theorem dL_law_696 : decode cL_law 696 = .ok (.invokevirtual 73, 3) := by decide +kernel
theorem dL_law_699 : decode cL_law 699 = .ok (.aload_n 2, 1) := by decide +kernel
theorem dL_law_700 : decode cL_law 700 = .ok (.aload_n 0, 1) := by decide +kernel
theorem dL_law_701 : decode cL_law 701 = .ok (.iload_n 3, 1) := by decide +kernel
theorem dL_law_702 : decode cL_law 702 = .ok (.iconst 1, 1) := by decide +kernel
theorem dL_law_703 : decode cL_law 703 = .ok (.iadd, 1) := by decide +kernel
theorem dL_law_704 : decode cL_law 704 = .ok (.iaload, 1) := by decide +kernel
theorem dL_law_705 : decode cL_law 705 = .ok (.invokevirtual 76, 3) := by decide +kernel
theorem dL_law_708 : decode cL_law 708 = .ok (.if_icmp .eq 380, 3) := by decide +kernel
theorem dL_law_711 : decode cL_law 711 = .ok (.iconst 0, 1) := by decide +kernel
theorem dL_law_712 : decode cL_law 712 = .ok (.ireturn, 1) := by decide +kernel
theorem dL_law_713 : decode cL_law 713 = .ok (.aload_n 1, 1) := by decide +kernel
theorem dL_law_714 : decode cL_law 714 = .ok (.aload_n 0, 1) := by decide +kernel
theorem dL_law_715 : decode cL_law 715 = .ok (.iload_n 3, 1) := by decide +kernel
theorem dL_law_716 : decode cL_law 716 = .ok (.iconst 1, 1) := by decide +kernel
theorem dL_law_717 : decode cL_law 717 = .ok (.iadd, 1) := by decide +kernel
theorem dL_law_718 : decode cL_law 718 = .ok (.iaload, 1) := by decide +kernel
theorem dL_law_719 : decode cL_law 719 = .ok (.aload_n 0, 1) := by decide +kernel
theorem dL_law_720 : decode cL_law 720 = .ok (.iload_n 3, 1) := by decide +kernel
theorem dL_law_721 : decode cL_law 721 = .ok (.iconst 2, 1) := by decide +kernel
theorem dL_law_722 : decode cL_law 722 = .ok (.iadd, 1) := by decide +kernel
theorem dL_law_723 : decode cL_law 723 = .ok (.iaload, 1) := by decide +kernel
theorem dL_law_724 : decode cL_law 724 = .ok (.invokevirtual 77, 3) := by decide +kernel
theorem dL_law_727 : decode cL_law 727 = .ok (.aload_n 2, 1) := by decide +kernel
theorem dL_law_728 : decode cL_law 728 = .ok (.aload_n 0, 1) := by decide +kernel
theorem dL_law_729 : decode cL_law 729 = .ok (.iload_n 3, 1) := by decide +kernel
theorem dL_law_730 : decode cL_law 730 = .ok (.iconst 1, 1) := by decide +kernel
theorem dL_law_731 : decode cL_law 731 = .ok (.iadd, 1) := by decide +kernel
theorem dL_law_732 : decode cL_law 732 = .ok (.iaload, 1) := by decide +kernel
theorem dL_law_733 : decode cL_law 733 = .ok (.aload_n 0, 1) := by decide +kernel
theorem dL_law_734 : decode cL_law 734 = .ok (.iload_n 3, 1) := by decide +kernel
theorem dL_law_735 : decode cL_law 735 = .ok (.iconst 2, 1) := by decide +kernel
theorem dL_law_736 : decode cL_law 736 = .ok (.iadd, 1) := by decide +kernel
theorem dL_law_737 : decode cL_law 737 = .ok (.iaload, 1) := by decide +kernel
theorem dL_law_738 : decode cL_law 738 = .ok (.invokevirtual 80, 3) := by decide +kernel
theorem dL_law_741 : decode cL_law 741 = .ok (.if_icmp .eq 347, 3) := by decide +kernel
theorem dL_law_744 : decode cL_law 744 = .ok (.iconst 0, 1) := by decide +kernel
theorem dL_law_745 : decode cL_law 745 = .ok (.ireturn, 1) := by decide +kernel
theorem dL_law_746 : decode cL_law 746 = .ok (.aload_n 1, 1) := by decide +kernel
theorem dL_law_747 : decode cL_law 747 = .ok (.aload_n 0, 1) := by decide +kernel
theorem dL_law_748 : decode cL_law 748 = .ok (.iload_n 3, 1) := by decide +kernel
theorem dL_law_749 : decode cL_law 749 = .ok (.iconst 1, 1) := by decide +kernel
theorem dL_law_750 : decode cL_law 750 = .ok (.iadd, 1) := by decide +kernel
theorem dL_law_751 : decode cL_law 751 = .ok (.iaload, 1) := by decide +kernel
theorem dL_law_752 : decode cL_law 752 = .ok (.invokevirtual 81, 3) := by decide +kernel
theorem dL_law_755 : decode cL_law 755 = .ok (.aload_n 2, 1) := by decide +kernel
theorem dL_law_756 : decode cL_law 756 = .ok (.aload_n 0, 1) := by decide +kernel
theorem dL_law_757 : decode cL_law 757 = .ok (.iload_n 3, 1) := by decide +kernel
theorem dL_law_758 : decode cL_law 758 = .ok (.iconst 1, 1) := by decide +kernel
theorem dL_law_759 : decode cL_law 759 = .ok (.iadd, 1) := by decide +kernel
theorem dL_law_760 : decode cL_law 760 = .ok (.iaload, 1) := by decide +kernel
theorem dL_law_761 : decode cL_law 761 = .ok (.invokevirtual 84, 3) := by decide +kernel
theorem dL_law_764 : decode cL_law 764 = .ok (.if_icmp .eq 324, 3) := by decide +kernel
theorem dL_law_767 : decode cL_law 767 = .ok (.iconst 0, 1) := by decide +kernel
theorem dL_law_768 : decode cL_law 768 = .ok (.ireturn, 1) := by decide +kernel
theorem dL_law_769 : decode cL_law 769 = .ok (.aload_n 1, 1) := by decide +kernel
theorem dL_law_770 : decode cL_law 770 = .ok (.aload_n 0, 1) := by decide +kernel
theorem dL_law_771 : decode cL_law 771 = .ok (.iload_n 3, 1) := by decide +kernel
theorem dL_law_772 : decode cL_law 772 = .ok (.iconst 1, 1) := by decide +kernel
theorem dL_law_773 : decode cL_law 773 = .ok (.iadd, 1) := by decide +kernel
theorem dL_law_774 : decode cL_law 774 = .ok (.iaload, 1) := by decide +kernel
theorem dL_law_775 : decode cL_law 775 = .ok (.invokevirtual 85, 3) := by decide +kernel
theorem dL_law_778 : decode cL_law 778 = .ok (.aload_n 2, 1) := by decide +kernel
theorem dL_law_779 : decode cL_law 779 = .ok (.aload_n 0, 1) := by decide +kernel
theorem dL_law_780 : decode cL_law 780 = .ok (.iload_n 3, 1) := by decide +kernel
theorem dL_law_781 : decode cL_law 781 = .ok (.iconst 1, 1) := by decide +kernel
theorem dL_law_782 : decode cL_law 782 = .ok (.iadd, 1) := by decide +kernel
theorem dL_law_783 : decode cL_law 783 = .ok (.iaload, 1) := by decide +kernel
theorem dL_law_784 : decode cL_law 784 = .ok (.invokevirtual 88, 3) := by decide +kernel
theorem dL_law_787 : decode cL_law 787 = .ok (.if_icmp .eq 301, 3) := by decide +kernel
theorem dL_law_790 : decode cL_law 790 = .ok (.iconst 0, 1) := by decide +kernel
theorem dL_law_791 : decode cL_law 791 = .ok (.ireturn, 1) := by decide +kernel
theorem dL_law_792 : decode cL_law 792 = .ok (.aload_n 1, 1) := by decide +kernel
theorem dL_law_793 : decode cL_law 793 = .ok (.aload_n 0, 1) := by decide +kernel
theorem dL_law_794 : decode cL_law 794 = .ok (.iload_n 3, 1) := by decide +kernel
theorem dL_law_795 : decode cL_law 795 = .ok (.iconst 1, 1) := by decide +kernel
theorem dL_law_796 : decode cL_law 796 = .ok (.iadd, 1) := by decide +kernel
theorem dL_law_797 : decode cL_law 797 = .ok (.iaload, 1) := by decide +kernel
theorem dL_law_798 : decode cL_law 798 = .ok (.aload_n 0, 1) := by decide +kernel
theorem dL_law_799 : decode cL_law 799 = .ok (.iload_n 3, 1) := by decide +kernel
theorem dL_law_800 : decode cL_law 800 = .ok (.iconst 2, 1) := by decide +kernel
theorem dL_law_801 : decode cL_law 801 = .ok (.iadd, 1) := by decide +kernel
theorem dL_law_802 : decode cL_law 802 = .ok (.iaload, 1) := by decide +kernel
theorem dL_law_803 : decode cL_law 803 = .ok (.invokevirtual 89, 3) := by decide +kernel
theorem dL_law_806 : decode cL_law 806 = .ok (.aload_n 2, 1) := by decide +kernel
theorem dL_law_807 : decode cL_law 807 = .ok (.aload_n 0, 1) := by decide +kernel
theorem dL_law_808 : decode cL_law 808 = .ok (.iload_n 3, 1) := by decide +kernel
theorem dL_law_809 : decode cL_law 809 = .ok (.iconst 1, 1) := by decide +kernel
theorem dL_law_810 : decode cL_law 810 = .ok (.iadd, 1) := by decide +kernel
theorem dL_law_811 : decode cL_law 811 = .ok (.iaload, 1) := by decide +kernel
theorem dL_law_812 : decode cL_law 812 = .ok (.aload_n 0, 1) := by decide +kernel
theorem dL_law_813 : decode cL_law 813 = .ok (.iload_n 3, 1) := by decide +kernel
theorem dL_law_814 : decode cL_law 814 = .ok (.iconst 2, 1) := by decide +kernel
theorem dL_law_815 : decode cL_law 815 = .ok (.iadd, 1) := by decide +kernel
theorem dL_law_816 : decode cL_law 816 = .ok (.iaload, 1) := by decide +kernel
theorem dL_law_817 : decode cL_law 817 = .ok (.invokevirtual 92, 3) := by decide +kernel
theorem dL_law_820 : decode cL_law 820 = .ok (.if_icmp .eq 268, 3) := by decide +kernel
theorem dL_law_823 : decode cL_law 823 = .ok (.iconst 0, 1) := by decide +kernel
theorem dL_law_824 : decode cL_law 824 = .ok (.ireturn, 1) := by decide +kernel
theorem dL_law_825 : decode cL_law 825 = .ok (.aload_n 1, 1) := by decide +kernel
theorem dL_law_826 : decode cL_law 826 = .ok (.aload_n 0, 1) := by decide +kernel
theorem dL_law_827 : decode cL_law 827 = .ok (.iload_n 3, 1) := by decide +kernel
theorem dL_law_828 : decode cL_law 828 = .ok (.iconst 1, 1) := by decide +kernel
theorem dL_law_829 : decode cL_law 829 = .ok (.iadd, 1) := by decide +kernel
theorem dL_law_830 : decode cL_law 830 = .ok (.iaload, 1) := by decide +kernel
theorem dL_law_831 : decode cL_law 831 = .ok (.aload_n 0, 1) := by decide +kernel
theorem dL_law_832 : decode cL_law 832 = .ok (.iload_n 3, 1) := by decide +kernel
theorem dL_law_833 : decode cL_law 833 = .ok (.iconst 2, 1) := by decide +kernel
theorem dL_law_834 : decode cL_law 834 = .ok (.iadd, 1) := by decide +kernel
theorem dL_law_835 : decode cL_law 835 = .ok (.iaload, 1) := by decide +kernel
end
section
theorem dL_law_836 : decode cL_law 836 = .ok (.invokevirtual 93, 3) := by decide +kernel
theorem dL_law_839 : decode cL_law 839 = .ok (.aload_n 2, 1) := by decide +kernel
theorem dL_law_840 : decode cL_law 840 = .ok (.aload_n 0, 1) := by decide +kernel
theorem dL_law_841 : decode cL_law 841 = .ok (.iload_n 3, 1) := by decide +kernel
theorem dL_law_842 : decode cL_law 842 = .ok (.iconst 1, 1) := by decide +kernel
theorem dL_law_843 : decode cL_law 843 = .ok (.iadd, 1) := by decide +kernel
theorem dL_law_844 : decode cL_law 844 = .ok (.iaload, 1) := by decide +kernel
theorem dL_law_845 : decode cL_law 845 = .ok (.aload_n 0, 1) := by decide +kernel
theorem dL_law_846 : decode cL_law 846 = .ok (.iload_n 3, 1) := by decide +kernel
theorem dL_law_847 : decode cL_law 847 = .ok (.iconst 2, 1) := by decide +kernel
theorem dL_law_848 : decode cL_law 848 = .ok (.iadd, 1) := by decide +kernel
theorem dL_law_849 : decode cL_law 849 = .ok (.iaload, 1) := by decide +kernel
theorem dL_law_850 : decode cL_law 850 = .ok (.invokevirtual 96, 3) := by decide +kernel
theorem dL_law_853 : decode cL_law 853 = .ok (.if_icmp .eq 235, 3) := by decide +kernel
theorem dL_law_856 : decode cL_law 856 = .ok (.iconst 0, 1) := by decide +kernel
theorem dL_law_857 : decode cL_law 857 = .ok (.ireturn, 1) := by decide +kernel
theorem dL_law_858 : decode cL_law 858 = .ok (.aload_n 1, 1) := by decide +kernel
theorem dL_law_859 : decode cL_law 859 = .ok (.aload_n 0, 1) := by decide +kernel
theorem dL_law_860 : decode cL_law 860 = .ok (.iload_n 3, 1) := by decide +kernel
theorem dL_law_861 : decode cL_law 861 = .ok (.iconst 1, 1) := by decide +kernel
theorem dL_law_862 : decode cL_law 862 = .ok (.iadd, 1) := by decide +kernel
theorem dL_law_863 : decode cL_law 863 = .ok (.iaload, 1) := by decide +kernel
theorem dL_law_864 : decode cL_law 864 = .ok (.invokevirtual 97, 3) := by decide +kernel
theorem dL_law_867 : decode cL_law 867 = .ok (.aload_n 2, 1) := by decide +kernel
theorem dL_law_868 : decode cL_law 868 = .ok (.aload_n 0, 1) := by decide +kernel
theorem dL_law_869 : decode cL_law 869 = .ok (.iload_n 3, 1) := by decide +kernel
theorem dL_law_870 : decode cL_law 870 = .ok (.iconst 1, 1) := by decide +kernel
theorem dL_law_871 : decode cL_law 871 = .ok (.iadd, 1) := by decide +kernel
theorem dL_law_872 : decode cL_law 872 = .ok (.iaload, 1) := by decide +kernel
theorem dL_law_873 : decode cL_law 873 = .ok (.invokevirtual 100, 3) := by decide +kernel
theorem dL_law_876 : decode cL_law 876 = .ok (.if_icmp .eq 212, 3) := by decide +kernel
theorem dL_law_879 : decode cL_law 879 = .ok (.iconst 0, 1) := by decide +kernel
theorem dL_law_880 : decode cL_law 880 = .ok (.ireturn, 1) := by decide +kernel
theorem dL_law_881 : decode cL_law 881 = .ok (.aload_n 1, 1) := by decide +kernel
theorem dL_law_882 : decode cL_law 882 = .ok (.aload_n 0, 1) := by decide +kernel
theorem dL_law_883 : decode cL_law 883 = .ok (.iload_n 3, 1) := by decide +kernel
theorem dL_law_884 : decode cL_law 884 = .ok (.iconst 1, 1) := by decide +kernel
theorem dL_law_885 : decode cL_law 885 = .ok (.iadd, 1) := by decide +kernel
theorem dL_law_886 : decode cL_law 886 = .ok (.iaload, 1) := by decide +kernel
theorem dL_law_887 : decode cL_law 887 = .ok (.aload_n 0, 1) := by decide +kernel
theorem dL_law_888 : decode cL_law 888 = .ok (.iload_n 3, 1) := by decide +kernel
theorem dL_law_889 : decode cL_law 889 = .ok (.iconst 2, 1) := by decide +kernel
theorem dL_law_890 : decode cL_law 890 = .ok (.iadd, 1) := by decide +kernel
theorem dL_law_891 : decode cL_law 891 = .ok (.iaload, 1) := by decide +kernel
theorem dL_law_892 : decode cL_law 892 = .ok (.invokevirtual 101, 3) := by decide +kernel
theorem dL_law_895 : decode cL_law 895 = .ok (.aload_n 2, 1) := by decide +kernel
theorem dL_law_896 : decode cL_law 896 = .ok (.aload_n 0, 1) := by decide +kernel
theorem dL_law_897 : decode cL_law 897 = .ok (.iload_n 3, 1) := by decide +kernel
theorem dL_law_898 : decode cL_law 898 = .ok (.iconst 1, 1) := by decide +kernel
theorem dL_law_899 : decode cL_law 899 = .ok (.iadd, 1) := by decide +kernel
theorem dL_law_900 : decode cL_law 900 = .ok (.iaload, 1) := by decide +kernel
theorem dL_law_901 : decode cL_law 901 = .ok (.aload_n 0, 1) := by decide +kernel
theorem dL_law_902 : decode cL_law 902 = .ok (.iload_n 3, 1) := by decide +kernel
theorem dL_law_903 : decode cL_law 903 = .ok (.iconst 2, 1) := by decide +kernel
theorem dL_law_904 : decode cL_law 904 = .ok (.iadd, 1) := by decide +kernel
theorem dL_law_905 : decode cL_law 905 = .ok (.iaload, 1) := by decide +kernel
theorem dL_law_906 : decode cL_law 906 = .ok (.invokevirtual 104, 3) := by decide +kernel
theorem dL_law_909 : decode cL_law 909 = .ok (.if_icmp .eq 179, 3) := by decide +kernel
theorem dL_law_912 : decode cL_law 912 = .ok (.iconst 0, 1) := by decide +kernel
theorem dL_law_913 : decode cL_law 913 = .ok (.ireturn, 1) := by decide +kernel
theorem dL_law_914 : decode cL_law 914 = .ok (.aload_n 1, 1) := by decide +kernel
theorem dL_law_915 : decode cL_law 915 = .ok (.aload_n 0, 1) := by decide +kernel
theorem dL_law_916 : decode cL_law 916 = .ok (.iload_n 3, 1) := by decide +kernel
theorem dL_law_917 : decode cL_law 917 = .ok (.iconst 1, 1) := by decide +kernel
theorem dL_law_918 : decode cL_law 918 = .ok (.iadd, 1) := by decide +kernel
theorem dL_law_919 : decode cL_law 919 = .ok (.iaload, 1) := by decide +kernel
theorem dL_law_920 : decode cL_law 920 = .ok (.aload_n 0, 1) := by decide +kernel
theorem dL_law_921 : decode cL_law 921 = .ok (.iload_n 3, 1) := by decide +kernel
theorem dL_law_922 : decode cL_law 922 = .ok (.iconst 2, 1) := by decide +kernel
theorem dL_law_923 : decode cL_law 923 = .ok (.iadd, 1) := by decide +kernel
theorem dL_law_924 : decode cL_law 924 = .ok (.iaload, 1) := by decide +kernel
theorem dL_law_925 : decode cL_law 925 = .ok (.invokevirtual 105, 3) := by decide +kernel
theorem dL_law_928 : decode cL_law 928 = .ok (.aload_n 2, 1) := by decide +kernel
theorem dL_law_929 : decode cL_law 929 = .ok (.aload_n 0, 1) := by decide +kernel
theorem dL_law_930 : decode cL_law 930 = .ok (.iload_n 3, 1) := by decide +kernel
theorem dL_law_931 : decode cL_law 931 = .ok (.iconst 1, 1) := by decide +kernel
theorem dL_law_932 : decode cL_law 932 = .ok (.iadd, 1) := by decide +kernel
theorem dL_law_933 : decode cL_law 933 = .ok (.iaload, 1) := by decide +kernel
theorem dL_law_934 : decode cL_law 934 = .ok (.aload_n 0, 1) := by decide +kernel
theorem dL_law_935 : decode cL_law 935 = .ok (.iload_n 3, 1) := by decide +kernel
theorem dL_law_936 : decode cL_law 936 = .ok (.iconst 2, 1) := by decide +kernel
theorem dL_law_937 : decode cL_law 937 = .ok (.iadd, 1) := by decide +kernel
theorem dL_law_938 : decode cL_law 938 = .ok (.iaload, 1) := by decide +kernel
theorem dL_law_939 : decode cL_law 939 = .ok (.invokevirtual 108, 3) := by decide +kernel
theorem dL_law_942 : decode cL_law 942 = .ok (.if_icmp .eq 146, 3) := by decide +kernel
theorem dL_law_945 : decode cL_law 945 = .ok (.iconst 0, 1) := by decide +kernel
theorem dL_law_946 : decode cL_law 946 = .ok (.ireturn, 1) := by decide +kernel
theorem dL_law_947 : decode cL_law 947 = .ok (.aload_n 1, 1) := by decide +kernel
theorem dL_law_948 : decode cL_law 948 = .ok (.aload_n 0, 1) := by decide +kernel
theorem dL_law_949 : decode cL_law 949 = .ok (.iload_n 3, 1) := by decide +kernel
theorem dL_law_950 : decode cL_law 950 = .ok (.iconst 1, 1) := by decide +kernel
theorem dL_law_951 : decode cL_law 951 = .ok (.iadd, 1) := by decide +kernel
theorem dL_law_952 : decode cL_law 952 = .ok (.iaload, 1) := by decide +kernel
theorem dL_law_953 : decode cL_law 953 = .ok (.aload_n 0, 1) := by decide +kernel
theorem dL_law_954 : decode cL_law 954 = .ok (.iload_n 3, 1) := by decide +kernel
theorem dL_law_955 : decode cL_law 955 = .ok (.iconst 2, 1) := by decide +kernel
theorem dL_law_956 : decode cL_law 956 = .ok (.iadd, 1) := by decide +kernel
theorem dL_law_957 : decode cL_law 957 = .ok (.iaload, 1) := by decide +kernel
theorem dL_law_958 : decode cL_law 958 = .ok (.invokevirtual 109, 3) := by decide +kernel
theorem dL_law_961 : decode cL_law 961 = .ok (.aload_n 2, 1) := by decide +kernel
theorem dL_law_962 : decode cL_law 962 = .ok (.aload_n 0, 1) := by decide +kernel
theorem dL_law_963 : decode cL_law 963 = .ok (.iload_n 3, 1) := by decide +kernel
theorem dL_law_964 : decode cL_law 964 = .ok (.iconst 1, 1) := by decide +kernel
theorem dL_law_965 : decode cL_law 965 = .ok (.iadd, 1) := by decide +kernel
theorem dL_law_966 : decode cL_law 966 = .ok (.iaload, 1) := by decide +kernel
theorem dL_law_967 : decode cL_law 967 = .ok (.aload_n 0, 1) := by decide +kernel
theorem dL_law_968 : decode cL_law 968 = .ok (.iload_n 3, 1) := by decide +kernel
theorem dL_law_969 : decode cL_law 969 = .ok (.iconst 2, 1) := by decide +kernel
theorem dL_law_970 : decode cL_law 970 = .ok (.iadd, 1) := by decide +kernel
theorem dL_law_971 : decode cL_law 971 = .ok (.iaload, 1) := by decide +kernel
theorem dL_law_972 : decode cL_law 972 = .ok (.invokevirtual 112, 3) := by decide +kernel
theorem dL_law_975 : decode cL_law 975 = .ok (.if_icmp .eq 113, 3) := by decide +kernel
theorem dL_law_978 : decode cL_law 978 = .ok (.iconst 0, 1) := by decide +kernel
theorem dL_law_979 : decode cL_law 979 = .ok (.ireturn, 1) := by decide +kernel
theorem dL_law_980 : decode cL_law 980 = .ok (.aload_n 1, 1) := by decide +kernel
theorem dL_law_981 : decode cL_law 981 = .ok (.aload_n 0, 1) := by decide +kernel
theorem dL_law_982 : decode cL_law 982 = .ok (.iload_n 3, 1) := by decide +kernel
theorem dL_law_983 : decode cL_law 983 = .ok (.iconst 1, 1) := by decide +kernel
theorem dL_law_984 : decode cL_law 984 = .ok (.iadd, 1) := by decide +kernel
theorem dL_law_985 : decode cL_law 985 = .ok (.iaload, 1) := by decide +kernel
theorem dL_law_986 : decode cL_law 986 = .ok (.invokevirtual 113, 3) := by decide +kernel
theorem dL_law_989 : decode cL_law 989 = .ok (.aload_n 2, 1) := by decide +kernel
theorem dL_law_990 : decode cL_law 990 = .ok (.aload_n 0, 1) := by decide +kernel
theorem dL_law_991 : decode cL_law 991 = .ok (.iload_n 3, 1) := by decide +kernel
theorem dL_law_992 : decode cL_law 992 = .ok (.iconst 1, 1) := by decide +kernel
theorem dL_law_993 : decode cL_law 993 = .ok (.iadd, 1) := by decide +kernel
theorem dL_law_994 : decode cL_law 994 = .ok (.iaload, 1) := by decide +kernel
theorem dL_law_995 : decode cL_law 995 = .ok (.invokevirtual 116, 3) := by decide +kernel
theorem dL_law_998 : decode cL_law 998 = .ok (.if_icmp .eq 90, 3) := by decide +kernel
theorem dL_law_1001 : decode cL_law 1001 = .ok (.iconst 0, 1) := by decide +kernel
theorem dL_law_1002 : decode cL_law 1002 = .ok (.ireturn, 1) := by decide +kernel
theorem dL_law_1003 : decode cL_law 1003 = .ok (.aload_n 1, 1) := by decide +kernel
theorem dL_law_1004 : decode cL_law 1004 = .ok (.invokevirtual 117, 3) := by decide +kernel
theorem dL_law_1007 : decode cL_law 1007 = .ok (.aload_n 2, 1) := by decide +kernel
theorem dL_law_1008 : decode cL_law 1008 = .ok (.invokevirtual 121, 3) := by decide +kernel
theorem dL_law_1011 : decode cL_law 1011 = .ok (.if_icmp .eq 77, 3) := by decide +kernel
theorem dL_law_1014 : decode cL_law 1014 = .ok (.iconst 0, 1) := by decide +kernel
theorem dL_law_1015 : decode cL_law 1015 = .ok (.ireturn, 1) := by decide +kernel
theorem dL_law_1016 : decode cL_law 1016 = .ok (.aload_n 1, 1) := by decide +kernel
theorem dL_law_1017 : decode cL_law 1017 = .ok (.aload_n 0, 1) := by decide +kernel
theorem dL_law_1018 : decode cL_law 1018 = .ok (.iload_n 3, 1) := by decide +kernel
theorem dL_law_1019 : decode cL_law 1019 = .ok (.iconst 1, 1) := by decide +kernel
theorem dL_law_1020 : decode cL_law 1020 = .ok (.iadd, 1) := by decide +kernel
theorem dL_law_1021 : decode cL_law 1021 = .ok (.iaload, 1) := by decide +kernel
theorem dL_law_1022 : decode cL_law 1022 = .ok (.invokevirtual 122, 3) := by decide +kernel
theorem dL_law_1025 : decode cL_law 1025 = .ok (.aload_n 2, 1) := by decide +kernel
theorem dL_law_1026 : decode cL_law 1026 = .ok (.aload_n 0, 1) := by decide +kernel
theorem dL_law_1027 : decode cL_law 1027 = .ok (.iload_n 3, 1) := by decide +kernel
theorem dL_law_1028 : decode cL_law 1028 = .ok (.iconst 1, 1) := by decide +kernel
theorem dL_law_1029 : decode cL_law 1029 = .ok (.iadd, 1) := by decide +kernel
theorem dL_law_1030 : decode cL_law 1030 = .ok (.iaload, 1) := by decide +kernel
theorem dL_law_1031 : decode cL_law 1031 = .ok (.invokevirtual 125, 3) := by decide +kernel
theorem dL_law_1034 : decode cL_law 1034 = .ok (.if_icmp .eq 54, 3) := by decide +kernel
theorem dL_law_1037 : decode cL_law 1037 = .ok (.iconst 0, 1) := by decide +kernel
theorem dL_law_1038 : decode cL_law 1038 = .ok (.ireturn, 1) := by decide +kernel
theorem dL_law_1039 : decode cL_law 1039 = .ok (.aload_n 1, 1) := by decide +kernel
theorem dL_law_1040 : decode cL_law 1040 = .ok (.aload_n 0, 1) := by decide +kernel
theorem dL_law_1041 : decode cL_law 1041 = .ok (.iload_n 3, 1) := by decide +kernel
theorem dL_law_1042 : decode cL_law 1042 = .ok (.iconst 1, 1) := by decide +kernel
theorem dL_law_1043 : decode cL_law 1043 = .ok (.iadd, 1) := by decide +kernel
theorem dL_law_1044 : decode cL_law 1044 = .ok (.iaload, 1) := by decide +kernel
theorem dL_law_1045 : decode cL_law 1045 = .ok (.invokevirtual 126, 3) := by decide +kernel
theorem dL_law_1048 : decode cL_law 1048 = .ok (.aload_n 2, 1) := by decide +kernel
theorem dL_law_1049 : decode cL_law 1049 = .ok (.aload_n 0, 1) := by decide +kernel
theorem dL_law_1050 : decode cL_law 1050 = .ok (.iload_n 3, 1) := by decide +kernel
theorem dL_law_1051 : decode cL_law 1051 = .ok (.iconst 1, 1) := by decide +kernel
theorem dL_law_1052 : decode cL_law 1052 = .ok (.iadd, 1) := by decide +kernel
theorem dL_law_1053 : decode cL_law 1053 = .ok (.iaload, 1) := by decide +kernel
theorem dL_law_1054 : decode cL_law 1054 = .ok (.invokevirtual 129, 3) := by decide +kernel
theorem dL_law_1057 : decode cL_law 1057 = .ok (.if_icmp .eq 31, 3) := by decide +kernel
theorem dL_law_1060 : decode cL_law 1060 = .ok (.iconst 0, 1) := by decide +kernel
theorem dL_law_1061 : decode cL_law 1061 = .ok (.ireturn, 1) := by decide +kernel
theorem dL_law_1062 : decode cL_law 1062 = .ok (.aload_n 1, 1) := by decide +kernel
theorem dL_law_1063 : decode cL_law 1063 = .ok (.invokevirtual 130, 3) := by decide +kernel
theorem dL_law_1066 : decode cL_law 1066 = .ok (.aload_n 2, 1) := by decide +kernel
theorem dL_law_1067 : decode cL_law 1067 = .ok (.invokevirtual 133, 3) := by decide +kernel
theorem dL_law_1070 : decode cL_law 1070 = .ok (.if_icmp .eq 18, 3) := by decide +kernel
theorem dL_law_1073 : decode cL_law 1073 = .ok (.iconst 0, 1) := by decide +kernel
theorem dL_law_1074 : decode cL_law 1074 = .ok (.ireturn, 1) := by decide +kernel
theorem dL_law_1075 : decode cL_law 1075 = .ok (.aload_n 1, 1) := by decide +kernel
theorem dL_law_1076 : decode cL_law 1076 = .ok (.invokevirtual 134, 3) := by decide +kernel
theorem dL_law_1079 : decode cL_law 1079 = .ok (.aload_n 2, 1) := by decide +kernel
theorem dL_law_1080 : decode cL_law 1080 = .ok (.invokevirtual 137, 3) := by decide +kernel
theorem dL_law_1083 : decode cL_law 1083 = .ok (.if_icmp .eq 5, 3) := by decide +kernel
theorem dL_law_1086 : decode cL_law 1086 = .ok (.iconst 0, 1) := by decide +kernel
theorem dL_law_1087 : decode cL_law 1087 = .ok (.ireturn, 1) := by decide +kernel
theorem dL_law_1088 : decode cL_law 1088 = .ok (.iinc 3 5, 3) := by decide +kernel
theorem dL_law_1091 : decode cL_law 1091 = .ok (.goto (-1073), 3) := by decide +kernel
theorem dL_law_1094 : decode cL_law 1094 = .ok (.iconst 1, 1) := by decide +kernel
theorem dL_law_1095 : decode cL_law 1095 = .ok (.ireturn, 1) := by decide +kernel
end
section
/-! ===== THE ABSTRACT MEMORY: ints, floats, references by (key, cell), the cells' shapes (tag, length), how many cells, how many slots were made ===== -/
abbrev Mem : Type := (Nat → Nat → Int32) × (Nat → Nat → UInt32) × (Nat → Nat → Option Nat) × (Nat → Nat × Nat) × Nat × Nat
def mI (M : Mem) (k a : Nat) : Int32 := M.1 k a
def mF (M : Mem) (k a : Nat) : UInt32 := M.2.1 k a
def mP (M : Mem) (k a : Nat) : Option Nat := M.2.2.1 k a
def mS (M : Mem) (a : Nat) : Nat × Nat := M.2.2.2.1 a
def mN (M : Mem) : Nat := M.2.2.2.2.1
def mL (M : Mem) : Nat := M.2.2.2.2.2
def uI (M : Mem) (k a : Nat) (x : Int32) : Mem := (fun k' a' => if k' = k ∧ a' = a then x else M.1 k' a', M.2)
def uF (M : Mem) (k a : Nat) (x : UInt32) : Mem := (M.1, fun k' a' => if k' = k ∧ a' = a then x else M.2.1 k' a', M.2.2)
def uP (M : Mem) (k a : Nat) (x : Option Nat) : Mem := (M.1, M.2.1, fun k' a' => if k' = k ∧ a' = a then x else M.2.2.1 k' a', M.2.2.2)
/-- a new cell of a shape, of so many slots, all at their defaults -/
def nw (M : Mem) (sh : Nat × Nat) (sl : Nat) : Mem :=
  (fun k a => if a = M.2.2.2.2.1 then 0 else M.1 k a, fun k a => if a = M.2.2.2.2.1 then 0 else M.2.1 k a, fun k a => if a = M.2.2.2.2.1 then none else M.2.2.1 k a, fun a => if a = M.2.2.2.2.1 then sh else M.2.2.2.1 a, M.2.2.2.2.1 + 1, M.2.2.2.2.2 + sl)
/-! ===== a run's fixed names: the tables' numbers, the first new cell, the String constants' cells and their rows, the array classes, the heap at the law's start ===== -/
abbrev Cfg : Type := va_G × Nat × (Nat → Nat) × (Nat → Nat) × (Nat → ClassId) × Heap × Nat × (Nat → Int32)
def kD (κ : Cfg) : va_G := κ.1
def kB (κ : Cfg) : Nat := κ.2.1
def kS (κ : Cfg) : Nat → Nat := κ.2.2.1
def kV (κ : Cfg) : Nat → Nat := κ.2.2.2.1
def kA (κ : Cfg) : Nat → ClassId := κ.2.2.2.2.1
def kH (κ : Cfg) : Heap := κ.2.2.2.2.2.1
/-- the law's script: its length, its ints; its cell is kS 5 -/
def kL (κ : Cfg) : Nat := κ.2.2.2.2.2.2.1
def kX (κ : Cfg) : Nat → Int32 := κ.2.2.2.2.2.2.2
def kad (κ : Cfg) (i : Nat) : Nat := if i < 1000000 then kB κ + i else kS κ (i - 1000000)
def rv (κ : Cfg) (o : Option Nat) : Value := va_rf (o.map (kad κ))
/-- the kinds of a class's fields: 0 int, 1 float, 2 reference -/
def kd : Nat → List Nat
  | 0 => [0, 0, 0, 0]
  | 1 => [2, 2, 2, 2, 2, 0, 0, 0]
  | 2 => [2, 0, 0]
  | 3 => [0, 0, 0, 0, 1]
  | 4 => [2, 0, 0, 0, 0, 0]
  | 5 => [2, 0, 0, 0, 0, 0]
  | 6 => [2, 2, 2, 0, 0, 0, 0, 0, 0]
  | 7 => [2, 2, 0]
  | 8 => [2, 0, 0, 0, 0, 0, 0, 0, 0]
  | 9 => [0, 0, 0]
  | 10 => [2, 2, 0, 2, 2]
  | 11 => [2, 2, 2, 2, 0, 2, 0, 2, 0, 0, 0, 0, 0, 0, 0, 0, 0, 0, 2, 2, 0]
  | _ => []
def fv (κ : Cfg) (M : Mem) (t k a : Nat) : Value := if t = 0 then .int (mI M k a) else if t = 1 then .float (mF M k a) else rv κ (mP M k a)
def fls (κ : Cfg) (M : Mem) (ci a : Nat) : List Value := (List.range (kd ci).length).map (fun j => fv κ M ((kd ci).getD j 0) (32 * ci + j) a)
def enc (κ : Cfg) (M : Mem) (a : Nat) : va_E :=
  if (mS M a).1 < 100 then .inr ((mS M a).1, fls κ M (mS M a).1 a)
  else if (mS M a).1 < 102 then .inl (kA κ (mS M a).1, (mS M a).2, .inl (fun i => mI M (1000 + i) a))
  else if (mS M a).1 < 110 then .inl (kA κ (mS M a).1, (mS M a).2, .inr (.inr (.inl (fun i => mF M (1000 + i) a))))
  else .inl (kA κ (mS M a).1, (mS M a).2, .inr (.inr (.inr (.inr (fun i => (mP M (1000 + i) a).map (kad κ))))))
/-- the machine's heap holds the memory, from the first new cell on, and what was there before -/
def HR (κ : Cfg) (M : Mem) (H : Heap) : Prop :=
  H.size = kB κ + mN M ∧ mN M ≤ 1000000 ∧ (∀ a, (mS M a).1 < 900 → a < mN M ∧ va_at (kD κ) vwCl (kB κ + a, enc κ M a) H) ∧ ∀ q, q < kB κ → H[q]? = (kH κ)[q]?
def tyOf (t : Nat) : FieldType := if t = 100 then .int else if t = 101 then .char else if t = 102 then .float else if t = 110 then .object RX0 else if t = 112 then .object RX2 else if t = 113 then .object RX3 else if t = 115 then .object RX5 else if t = 118 then .object RX8 else .object RX9
def tys (κ : Cfg) : List (ClassId × FieldType) := [(kA κ 100, .int), (kA κ 101, .char), (kA κ 102, .float), (kA κ 110, .object RX0), (kA κ 112, .object RX2), (kA κ 113, .object RX3), (kA κ 115, .object RX5), (kA κ 118, .object RX8), (kA κ 119, .object RX9)]
def lenJ : List Nat := [4, 3, 4, 4, 4]
def bytJ : List (List Int32) := [[102, 114, 101, 101], [99, 97, 112], [108, 111, 115, 116], [100, 97, 121, 115], [98, 97, 110, 100]]
/-- what is known of the String constants and of the statics that String's methods read -/
def SK (κ : Cfg) (U : State) : Prop :=
  vk_S 5 lenJ bytJ (kS κ) (kV κ) (fun q => kB κ ≤ q) U (kH κ) ∧ va_Z "java/lang/String" "COMPACT_STRINGS" "Z" (.int 1) (fun q => kB κ ≤ q) U (kH κ) ∧ va_Zq "jdk/internal/util/Preconditions" "SIOOBE_FORMATTER" "Ljava/util/function/BiFunction;" (fun q => kB κ ≤ q) U (kH κ) ∧
  vk_R RX6 57 "free" (kS κ 0) U ∧ vk_R RX6 70 "cap" (kS κ 1) U ∧ vk_R RX6 74 "lost" (kS κ 2) U ∧ vk_R RX6 79 "days" (kS κ 3) U ∧ vk_R RX6 84 "band" (kS κ 4) U ∧ va_X (kS κ 5) (kL κ) (kX κ) U (kH κ) ∧ kS κ 5 < kB κ
def nestL : List (String × Nat × MethodName) := [(RX1, 42, yX9_init), (RX1, 43, yX2_init), (RX1, 44, yX3_init), (RX1, 45, yX8_init), (RX10, 21, yX6_init), (RX10, 28, yX7_init), (RX1, 72, yX10_within), (RX6, 137, yX10_within), (RX5, 47, yX10_within), (RX2, 22, yX10_within), (RX8, 49, yX10_within), (RX3, 28, yX10_bitsOf), (RX7, 18, yX10_within)]
/-- what is known of the tables, at the start of every method -/
def NK (κ : Cfg) (U : State) : Prop :=
  va_K (kD κ) vwCl (tys κ) U ∧ (∀ q ∈ nestL, va_Nw (.methodLinkNest q.1 q.2.1 q.2.2 RX10) U) ∧ (∀ C ∈ [RX0, RX2, RX3, RX5, RX8, RX9], va_AO C U) ∧ SK κ U
/-- a method: its class, name, bytes, locals, answer, frames and locals' room below it -/
abbrev MD : Type := String × MethodName × ByteArray × Nat × Option FieldType × Nat × Nat
def mdO (y : MD) : String := y.1
def mdY (y : MD) : MethodName := y.2.1
def mdC (y : MD) : ByteArray := y.2.2.1
def mdL (y : MD) : Nat := y.2.2.2.1
def mdR (y : MD) : Option FieldType := y.2.2.2.2.1
def mdF (y : MD) : Nat := y.2.2.2.2.2.1
def mdK (y : MD) : Nat := y.2.2.2.2.2.2
def rIns : Option FieldType → Instr
  | none => .return_
  | some .float => .freturn
  | some (.object _) => .areturn
  | some (.array _) => .areturn
  | some _ => .ireturn
def wsOf (y : MD) : List Cond := Cond.code (mdY y) (mdC y) (mdL y) (mdR y) :: WS
def Ctx (κ : Cfg) (y : MD) (p : Program) (R : Room) (s : State) (m : MethodId) (args : Array Value) (meth : Method) (c : Code) : Prop :=
  p.tables.exec = Jvm.exec ∧ c.code = mdC y ∧ c.maxLocals = mdL y ∧ s.vm.findClass (mdO y) = some m.cls ∧ (∀ w ∈ WS, w.before args s = true) ∧ meth.sig.returnType = mdR y ∧ meth.locks = false ∧ meth.name = (mdY y).name ∧ NK κ s ∧ (s.heap.size ≥ kB κ ∧ ∀ q, q < kB κ → s.heap[q]? = (kH κ)[q]?) ∧ mdF y ≤ R.frames ∧ mdK y ≤ R.locals
def LV (ls : Array Slot) (n : Nat) (lv : List (Nat × Value)) : Prop := lv_has ls n lv ∧ ∀ q ∈ lv, q.2.category = 1
def lvs (lv : List (Nat × Value)) (i : Nat) (v : Value) : List (Nat × Value) := (i, v) :: lv.filter (fun q => !(q.1 == i))
/-- THE JUDGEMENT: from pc, with these locals and this stack over this memory, the method's rest comes to what o says: if o is some (v, M'), it returns v and leaves M' -/
def G (κ : Cfg) (y : MD) {α : Type} (cv : α → Option Value) (o : Option (α × Mem)) (pc : Nat) (lv : List (Nat × Value)) (st : List Value) (M : Mem) : Prop :=
  ∀ r, o = some r → (mN M ≤ mN r.2 ∧ mL M ≤ mL r.2) ∧
    ∀ (p : Program) (l : Launch) (e : Env) (R : Room) (s : State) (m : MethodId) (args : Array Value) (below : List Frame) (meth : Method) (c : Code) (H : Heap) (locs : List Loc) (cells slots : Nat) (ls : Array Slot) (Q : State → Prop),
      Ctx κ y p R s m args meth c → HR κ M H → LV ls (mdL y) lv → (∀ q ∈ locs, kB κ ≤ q.base) → cells + (mN r.2 - mN M) ≤ R.cells → slots + (mL r.2 - mL M) ≤ R.slots →
      (∀ (H' : Heap) (locs' : List Loc) (ls' : Array Slot) (pc' : Nat), HR κ r.2 H' → (∀ q ∈ locs', kB κ ≤ q.base) → decode (mdC y) pc' = .ok (rIns (mdR y), 1) → (mdR y = some .boolean → cv r.1 = some (.int 0) ∨ cv r.1 = some (.int 1)) →
        W p l e R s m args below meth c H' locs' (cells + (mN r.2 - mN M)) (slots + (mL r.2 - mL M)) Q (F0 m pc' ls' (cv r.1).toList)) →
      W p l e R s m args below meth c H locs cells slots Q (F0 m pc ls st)
def PcK (κ : Cfg) (as : List Value) (M : Mem) : Array Value → State → Prop := va_Pc as (fun U => HR κ M U.heap ∧ NK κ U)
def QcK (κ : Cfg) (v : Option Value) (M : Mem) : Array Value → State → Outcome → State → Prop := fun _ _ oc t => oc = .returned v ∧ HR κ M t.heap
/-- a method's contract for these arguments over this memory -/
def Con (κ : Cfg) (y : MD) (as : List Value) (M : Mem) {α : Type} (cv : α → Option Value) (o : Option (α × Mem)) : Prop :=
  ∀ r, o = some r → (mN M ≤ mN r.2 ∧ mL M ≤ mL r.2) ∧
    ∀ l : Launch, Met l (mdY y) (wsOf y) { frames := mdF y, cells := mN r.2 - mN M, slots := mL r.2 - mL M, locals := mdK y } (PcK κ as M) (QcK κ (cv r.1) r.2) (mN r.2 - mN M) (mL r.2 - mL M) (fun q => kB κ ≤ q)
abbrev cvI : Int32 → Option Value := fun x => some (.int x)
abbrev cvF : UInt32 → Option Value := fun x => some (.float x)
abbrev cvQ (κ : Cfg) : Option Nat → Option Value := fun x => some (rv κ x)
abbrev cvV : Unit → Option Value := fun _ => none
/-! ===== small facts ===== -/
theorem rv_cat (κ : Cfg) (o : Option Nat) : (rv κ o).category = 1 := by cases o <;> rfl
theorem rv_none (κ : Cfg) : rv κ none = .null := rfl
theorem rv_some (κ : Cfg) (a : Nat) : rv κ (some a) = .ref (kad κ a) := rfl
theorem kad_lt {κ : Cfg} {a : Nat} (h : a < 1000000) : kad κ a = kB κ + a := if_pos h
theorem LV.store {ls : Array Slot} {n : Nat} {lv : List (Nat × Value)} {i : Nat} {v : Value} {ls' : Array Slot} (h : LV ls n lv) (hv : v.category = 1)
    (h' : lv_has ls' n ((i, v) :: lv.filter (fun q => !(q.1 == i) && !(q.1 + 1 == i && q.2.category == 2)))) : LV ls' n (lvs lv i v) := by
  have key : ∀ q ∈ lvs lv i v, q ∈ (i, v) :: lv.filter (fun q => !(q.1 == i) && !(q.1 + 1 == i && q.2.category == 2)) := by
    intro q hq
    rcases List.mem_cons.mp hq with rfl | hq
    · exact List.mem_cons_self
    · obtain ⟨h1, h2⟩ := List.mem_filter.mp hq
      refine List.mem_cons_of_mem _ (List.mem_filter.mpr ⟨h1, ?_⟩)
      simp only [h.2 q h1]
      simpa using h2
  refine ⟨⟨h'.1, h'.2.1, fun q hq => h'.2.2 q (key q hq)⟩, fun q hq => ?_⟩
  rcases List.mem_cons.mp hq with rfl | hq
  · exact hv
  · exact h.2 q (List.mem_filter.mp hq).1
theorem P1 {D : va_G} {cl : List vw_C} {q : Nat × va_E} {H : Heap} (h : va_at D cl q H) : va_P D cl [q] H := by
  intro k x hk
  have : k < 1 := (List.getElem?_eq_some_iff.mp hk).1
  have h0 : k = 0 := by omega
  subst h0
  cases hk
  exact h
theorem fls_get {κ : Cfg} {M : Mem} {ci a j t : Nat} (h : (kd ci)[j]? = some t) : (fls κ M ci a)[j]? = some (fv κ M t (32 * ci + j) a) := by
  have hj : j < (kd ci).length := (List.getElem?_eq_some_iff.mp h).1
  simp only [fls, List.getElem?_map, List.getElem?_range hj, Option.map_some, List.getD_eq_getElem?_getD, h, Option.getD_some]
theorem fls_len (κ : Cfg) (M : Mem) (ci a : Nat) : (fls κ M ci a).length = (kd ci).length := by simp [fls]
theorem HR.lt {κ : Cfg} {M : Mem} {H : Heap} (h : HR κ M H) {a : Nat} (hs : (mS M a).1 < 900) : a < mN M ∧ kad κ a = kB κ + a := by
  have h1 := (h.2.2.1 a hs).1
  exact ⟨h1, kad_lt (by have := h.2.1; omega)⟩
theorem Ctx.vaS {κ : Cfg} {y : MD} {p : Program} {R : Room} {s : State} {m : MethodId} {args : Array Value} {meth : Method} {c : Code} {M : Mem} {H : Heap} {locs : List Loc} (X : Ctx κ y p R s m args meth c) (hH : HR κ M H) (hlo : ∀ q ∈ locs, kB κ ≤ q.base) (hz : s.heap.size ≤ H.size) : va_S (fun q => kB κ ≤ q) s.heap H locs :=
  ⟨hz, fun q h1 h2 => by
    have h3 : q < kB κ := Nat.not_le.mp h2
    rw [hH.2.2.2 q h3, X.2.2.2.2.2.2.2.2.2.1.2 q h3], hlo⟩
section RULES
variable {κ : Cfg} {y : MD} {α : Type} {cv : α → Option Value} {o o1 o2 : Option (α × Mem)} {pc : Nat} {lv lv' : List (Nat × Value)} {st : List Value} {M : Mem}
theorem G.none' : G κ y cv (none : Option (α × Mem)) pc lv st M := fun r h => by cases h
theorem G.step {o : Option (α × Mem)} {pc' : Nat} {st' : List Value} (k : G κ y cv o pc' lv' st' M)
    (h : ∀ (p : Program) (l : Launch) (e : Env) (R : Room) (s : State) (m : MethodId) (args : Array Value) (below : List Frame) (meth : Method) (c : Code) (H : Heap) (locs : List Loc) (cells slots : Nat) (ls : Array Slot) (Q : State → Prop),
      Ctx κ y p R s m args meth c → HR κ M H → LV ls (mdL y) lv → (∀ ls', LV ls' (mdL y) lv' → W p l e R s m args below meth c H locs cells slots Q (F0 m pc' ls' st')) → W p l e R s m args below meth c H locs cells slots Q (F0 m pc ls st)) : G κ y cv o pc lv st M := by
  intro r hr
  obtain ⟨h1, h2⟩ := k r hr
  refine ⟨h1, ?_⟩
  intro p l e R s m args below meth c H locs cells slots ls Q X hH hl hlo hc hs fin
  exact h p l e R s m args below meth c H locs cells slots ls Q X hH hl (fun ls' hl' => h2 p l e R s m args below meth c H locs cells slots ls' Q X hH hl' hlo hc hs fin)
theorem G.cond {c : Prop} [Decidable c] (ht : c → G κ y cv o1 pc lv st M) (hf : ¬ c → G κ y cv o2 pc lv st M) : G κ y cv (if c then o1 else o2) pc lv st M := by
  by_cases h : c
  · rw [if_pos h]; exact ht h
  · rw [if_neg h]; exact hf h
/-- branches: the condition's two ways -/
theorem G.fork {c : Prop} [Decidable c] {pc1 pc2 : Nat} {st' : List Value} (kt : G κ y cv o1 pc1 lv st' M) (kf : G κ y cv o2 pc2 lv st' M)
    (h : ∀ (p : Program) (l : Launch) (e : Env) (R : Room) (s : State) (m : MethodId) (args : Array Value) (below : List Frame) (meth : Method) (cc : Code) (H : Heap) (locs : List Loc) (cells slots : Nat) (ls : Array Slot) (Q : State → Prop),
      Ctx κ y p R s m args meth cc → (c → W p l e R s m args below meth cc H locs cells slots Q (F0 m pc1 ls st')) → (¬ c → W p l e R s m args below meth cc H locs cells slots Q (F0 m pc2 ls st')) → W p l e R s m args below meth cc H locs cells slots Q (F0 m pc ls st)) : G κ y cv (if c then o1 else o2) pc lv st M := by
  refine G.cond (fun hc => ?_) (fun hc => ?_)
  · refine G.step kt ?_
    intro p l e R s m args below meth cc H locs cells slots ls Q X hH hl k
    exact h p l e R s m args below meth cc H locs cells slots ls Q X (fun _ => k ls hl) (fun h9 => absurd hc h9)
  · refine G.step kf ?_
    intro p l e R s m args below meth cc H locs cells slots ls Q X hH hl k
    exact h p l e R s m args below meth cc H locs cells slots ls Q X (fun h9 => absurd h9 hc) (fun _ => k ls hl)
theorem G_iadd {x z : Int32} (hd : decode (mdC y) pc = .ok (.iadd, 1)) (k : G κ y cv o (pc + 1) lv (.int (x + z) :: st) M) : G κ y cv o pc lv (.int z :: .int x :: st) M :=
  G.step k fun p l e R s m args below meth c H locs cells slots ls Q X hH hl kk => lv_iadd X.1 X.2.1 hd (kk ls hl)
theorem G_isub {x z : Int32} (hd : decode (mdC y) pc = .ok (.isub, 1)) (k : G κ y cv o (pc + 1) lv (.int (x - z) :: st) M) : G κ y cv o pc lv (.int z :: .int x :: st) M :=
  G.step k fun p l e R s m args below meth c H locs cells slots ls Q X hH hl kk => lv_isub X.1 X.2.1 hd (kk ls hl)
theorem G_imul {x z : Int32} (hd : decode (mdC y) pc = .ok (.imul, 1)) (k : G κ y cv o (pc + 1) lv (.int (x * z) :: st) M) : G κ y cv o pc lv (.int z :: .int x :: st) M :=
  G.step k fun p l e R s m args below meth c H locs cells slots ls Q X hH hl kk => lv_imul X.1 X.2.1 hd (kk ls hl)
theorem G_iand {x z : Int32} (hd : decode (mdC y) pc = .ok (.iand, 1)) (k : G κ y cv o (pc + 1) lv (.int (x &&& z) :: st) M) : G κ y cv o pc lv (.int z :: .int x :: st) M :=
  G.step k fun p l e R s m args below meth c H locs cells slots ls Q X hH hl kk => lv_iand X.1 X.2.1 hd (kk ls hl)
theorem G_ishl {x z : Int32} (hd : decode (mdC y) pc = .ok (.ishl, 1)) (k : G κ y cv o (pc + 1) lv (.int (x <<< (z &&& 31)) :: st) M) : G κ y cv o pc lv (.int z :: .int x :: st) M :=
  G.step k fun p l e R s m args below meth c H locs cells slots ls Q X hH hl kk => lv_ishl X.1 X.2.1 hd (kk ls hl)
theorem G_ishr {x z : Int32} (hd : decode (mdC y) pc = .ok (.ishr, 1)) (k : G κ y cv o (pc + 1) lv (.int (x >>> (z &&& 31)) :: st) M) : G κ y cv o pc lv (.int z :: .int x :: st) M :=
  G.step k fun p l e R s m args below meth c H locs cells slots ls Q X hH hl kk => lv_ishr X.1 X.2.1 hd (kk ls hl)
theorem G_idiv {x z : Int32} (hd : decode (mdC y) pc = .ok (.idiv, 1)) (hz : ¬ z = 0) (k : G κ y cv o (pc + 1) lv (.int (x / z) :: st) M) : G κ y cv o pc lv (.int z :: .int x :: st) M :=
  G.step k fun p l e R s m args below meth c H locs cells slots ls Q X hH hl kk => lv_idiv X.1 X.2.1 hd hz (kk ls hl)
theorem G_irem {x z : Int32} (hd : decode (mdC y) pc = .ok (.irem, 1)) (hz : ¬ z = 0) (k : G κ y cv o (pc + 1) lv (.int (x - x / z * z) :: st) M) : G κ y cv o pc lv (.int z :: .int x :: st) M :=
  G.step k fun p l e R s m args below meth c H locs cells slots ls Q X hH hl kk => lv_irem X.1 X.2.1 hd hz (kk ls hl)
theorem G_i2c {x : Int32} (hd : decode (mdC y) pc = .ok (.i2c, 1)) (k : G κ y cv o (pc + 1) lv (.int ((x.toUInt32 % 65536).toInt32) :: st) M) : G κ y cv o pc lv (.int x :: st) M :=
  G.step k fun p l e R s m args below meth c H locs cells slots ls Q X hH hl kk => lv_i2c X.1 X.2.1 hd rfl (kk ls hl)
theorem G_i2f {x : Int32} (hd : decode (mdC y) pc = .ok (.i2f, 1)) (k : G κ y cv o (pc + 1) lv (.float (FP.i2f x) :: st) M) : G κ y cv o pc lv (.int x :: st) M :=
  G.step k fun p l e R s m args below meth c H locs cells slots ls Q X hH hl kk => lv_i2f X.1 X.2.1 hd (kk ls hl)
theorem G_f2i {x : UInt32} (hd : decode (mdC y) pc = .ok (.f2i, 1)) (k : G κ y cv o (pc + 1) lv (.int (FP.f2i x) :: st) M) : G κ y cv o pc lv (.float x :: st) M :=
  G.step k fun p l e R s m args below meth c H locs cells slots ls Q X hH hl kk => lv_f2i X.1 X.2.1 hd (kk ls hl)
theorem G_fcmp {x z : UInt32} {op : CmpOp} (hd : decode (mdC y) pc = .ok (.fcmp op, 1)) (k : G κ y cv o (pc + 1) lv (.int (Op.cmpValue (FP.fcmp x z) op) :: st) M) : G κ y cv o pc lv (.float z :: .float x :: st) M :=
  G.step k fun p l e R s m args below meth c H locs cells slots ls Q X hH hl kk => lv_fcmp X.1 X.2.1 hd (kk ls hl)
theorem G_fconst0 (hd : decode (mdC y) pc = .ok (.fconst 0, 1)) (k : G κ y cv o (pc + 1) lv (.float FP.fconst0 :: st) M) : G κ y cv o pc lv (st) M :=
  G.step k fun p l e R s m args below meth c H locs cells slots ls Q X hH hl kk => lv_fconst0 X.1 X.2.1 hd (kk ls hl)
theorem G_fconst1 (hd : decode (mdC y) pc = .ok (.fconst 1, 1)) (k : G κ y cv o (pc + 1) lv (.float FP.fconst1 :: st) M) : G κ y cv o pc lv (st) M :=
  G.step k fun p l e R s m args below meth c H locs cells slots ls Q X hH hl kk => lv_fconst1 X.1 X.2.1 hd (kk ls hl)
theorem G_fconst2 (hd : decode (mdC y) pc = .ok (.fconst 2, 1)) (k : G κ y cv o (pc + 1) lv (.float FP.fconst2 :: st) M) : G κ y cv o pc lv (st) M :=
  G.step k fun p l e R s m args below meth c H locs cells slots ls Q X hH hl kk => lv_fconst2 X.1 X.2.1 hd (kk ls hl)
theorem G_iconst {n : Int} {v : Int32} (hd : decode (mdC y) pc = .ok (.iconst n, 1)) (hv : Int32.ofInt n = v) (k : G κ y cv o (pc + 1) lv (.int v :: st) M) : G κ y cv o pc lv (st) M :=
  G.step k fun p l e R s m args below meth c H locs cells slots ls Q X hH hl kk => lv_iconst X.1 X.2.1 hd hv (kk ls hl)
theorem G_bipush {n : Int} {v : Int32} (hd : decode (mdC y) pc = .ok (.bipush n, 2)) (hv : (Int8.ofInt n).toInt32 = v) (k : G κ y cv o (pc + 2) lv (.int v :: st) M) : G κ y cv o pc lv (st) M :=
  G.step k fun p l e R s m args below meth c H locs cells slots ls Q X hH hl kk => lv_bipush X.1 X.2.1 hd hv (kk ls hl)
theorem G_sipush {n : Int} {v : Int32} (hd : decode (mdC y) pc = .ok (.sipush n, 3)) (hv : (Int16.ofInt n).toInt32 = v) (k : G κ y cv o (pc + 3) lv (.int v :: st) M) : G κ y cv o pc lv (st) M :=
  G.step k fun p l e R s m args below meth c H locs cells slots ls Q X hH hl kk => lv_sipush X.1 X.2.1 hd hv (kk ls hl)
theorem G_null (hd : decode (mdC y) pc = .ok (.aconst_null, 1)) (k : G κ y cv o (pc + 1) lv (rv κ none :: st) M) : G κ y cv o pc lv (st) M :=
  G.step k fun p l e R s m args below meth c H locs cells slots ls Q X hH hl kk => lv_null X.1 X.2.1 hd (kk ls hl)
theorem G_dup {v : Value} (hd : decode (mdC y) pc = .ok (.dup, 1)) (hv : v.category = 1) (k : G κ y cv o (pc + 1) lv (v :: v :: st) M) : G κ y cv o pc lv (v :: st) M :=
  G.step k fun p l e R s m args below meth c H locs cells slots ls Q X hH hl kk => lv_dup X.1 X.2.1 hd hv (kk ls hl)
theorem G_pop {v : Value} (hd : decode (mdC y) pc = .ok (.pop, 1)) (hv : v.category = 1) (k : G κ y cv o (pc + 1) lv (st) M) : G κ y cv o pc lv (v :: st) M :=
  G.step k fun p l e R s m args below meth c H locs cells slots ls Q X hH hl kk => lv_pop X.1 X.2.1 hd hv (kk ls hl)
theorem G_dup2 {v w : Value} (hd : decode (mdC y) pc = .ok (.dup2, 1)) (hv : v.category = 1) (hw : w.category = 1) (k : G κ y cv o (pc + 1) lv (v :: w :: v :: w :: st) M) : G κ y cv o pc lv (v :: w :: st) M :=
  G.step k fun p l e R s m args below meth c H locs cells slots ls Q X hH hl kk => lv_dup2_11 X.1 X.2.1 hd hv hw (kk ls hl)
theorem G_ldc {n : Nat} {v : Int32} (hd : decode (mdC y) pc = .ok (.ldc n, 2)) (hw : Jvm.Cond.constant (mdO y) n v ∈ WS) (k : G κ y cv o (pc + 2) lv (.int v :: st) M) : G κ y cv o pc lv (st) M :=
  G.step k fun p l e R s m args below meth c H locs cells slots ls Q X hH hl kk => lv_ldc X.1 X.2.1 X.2.2.2.1 (X.2.2.2.2.1 _ hw) hd (kk ls hl)
theorem G_ldcw {n : Nat} {v : Int32} (hd : decode (mdC y) pc = .ok (.ldc_w n, 3)) (hw : Jvm.Cond.constant (mdO y) n v ∈ WS) (k : G κ y cv o (pc + 3) lv (.int v :: st) M) : G κ y cv o pc lv (st) M :=
  G.step k fun p l e R s m args below meth c H locs cells slots ls Q X hH hl kk => lv_ldcw X.1 X.2.1 X.2.2.2.1 (X.2.2.2.2.1 _ hw) hd (kk ls hl)
theorem G_ldcf {n : Nat} {v : UInt32} (hd : decode (mdC y) pc = .ok (.ldc n, 2)) (hw : Jvm.Cond.constantFloat (mdO y) n v ∈ WS) (k : G κ y cv o (pc + 2) lv (.float v :: st) M) : G κ y cv o pc lv (st) M :=
  G.step k fun p l e R s m args below meth c H locs cells slots ls Q X hH hl kk => lv_ldcf X.1 X.2.1 X.2.2.2.1 (X.2.2.2.2.1 _ hw) hd (kk ls hl)
theorem G_iload_n {q : Fin 4} {i : Nat} {x : Int32} (hd : decode (mdC y) pc = .ok (.iload_n q, 1)) (j : Nat) (hi : (q : Nat) = i) (hk : lv[j]? = some (i, .int x)) (k : G κ y cv o (pc + 1) lv (.int x :: st) M) : G κ y cv o pc lv st M :=
  G.step k fun p l e R s m args below meth c H locs cells slots ls Q X hH hl kk => lv_iload_n X.1 X.2.1 hd hi (lv_at hl.1 j hk) (kk ls hl)
theorem G_iload {i : Nat} {x : Int32} (hd : decode (mdC y) pc = .ok (.iload i, 2)) (j : Nat) (hk : lv[j]? = some (i, .int x)) (k : G κ y cv o (pc + 2) lv (.int x :: st) M) : G κ y cv o pc lv st M :=
  G.step k fun p l e R s m args below meth c H locs cells slots ls Q X hH hl kk => lv_iload X.1 X.2.1 hd (lv_at hl.1 j hk) (kk ls hl)
theorem G_istore_n {q : Fin 4} {i : Nat} {x : Int32} (hd : decode (mdC y) pc = .ok (.istore_n q, 1)) (hi : (q : Nat) = i) (hn : i < mdL y) (hl2 : lvs lv i (.int x) = lv') (k : G κ y cv o (pc + 1) lv' st M) : G κ y cv o pc lv (.int x :: st) M :=
  G.step k fun p l e R s m args below meth c H locs cells slots ls Q X hH hl kk => lv_istore_n X.1 X.2.1 hd hi hl.1 hn rfl (fun ls' h9 => kk ls' (hl2 ▸ LV.store hl rfl h9))
theorem G_istore {i : Nat} {x : Int32} (hd : decode (mdC y) pc = .ok (.istore i, 2)) (hn : i < mdL y) (hl2 : lvs lv i (.int x) = lv') (k : G κ y cv o (pc + 2) lv' st M) : G κ y cv o pc lv (.int x :: st) M :=
  G.step k fun p l e R s m args below meth c H locs cells slots ls Q X hH hl kk => lv_istore X.1 X.2.1 hd hl.1 hn rfl (fun ls' h9 => kk ls' (hl2 ▸ LV.store hl rfl h9))
theorem G_fload_n {q : Fin 4} {i : Nat} {x : UInt32} (hd : decode (mdC y) pc = .ok (.fload_n q, 1)) (j : Nat) (hi : (q : Nat) = i) (hk : lv[j]? = some (i, .float x)) (k : G κ y cv o (pc + 1) lv (.float x :: st) M) : G κ y cv o pc lv st M :=
  G.step k fun p l e R s m args below meth c H locs cells slots ls Q X hH hl kk => lv_fload_n X.1 X.2.1 hd hi (lv_at hl.1 j hk) (kk ls hl)
theorem G_fload {i : Nat} {x : UInt32} (hd : decode (mdC y) pc = .ok (.fload i, 2)) (j : Nat) (hk : lv[j]? = some (i, .float x)) (k : G κ y cv o (pc + 2) lv (.float x :: st) M) : G κ y cv o pc lv st M :=
  G.step k fun p l e R s m args below meth c H locs cells slots ls Q X hH hl kk => lv_fload X.1 X.2.1 hd (lv_at hl.1 j hk) (kk ls hl)
theorem G_fstore_n {q : Fin 4} {i : Nat} {x : UInt32} (hd : decode (mdC y) pc = .ok (.fstore_n q, 1)) (hi : (q : Nat) = i) (hn : i < mdL y) (hl2 : lvs lv i (.float x) = lv') (k : G κ y cv o (pc + 1) lv' st M) : G κ y cv o pc lv (.float x :: st) M :=
  G.step k fun p l e R s m args below meth c H locs cells slots ls Q X hH hl kk => lv_fstore_n X.1 X.2.1 hd hi hl.1 hn rfl (fun ls' h9 => kk ls' (hl2 ▸ LV.store hl rfl h9))
theorem G_fstore {i : Nat} {x : UInt32} (hd : decode (mdC y) pc = .ok (.fstore i, 2)) (hn : i < mdL y) (hl2 : lvs lv i (.float x) = lv') (k : G κ y cv o (pc + 2) lv' st M) : G κ y cv o pc lv (.float x :: st) M :=
  G.step k fun p l e R s m args below meth c H locs cells slots ls Q X hH hl kk => lv_fstore X.1 X.2.1 hd hl.1 hn rfl (fun ls' h9 => kk ls' (hl2 ▸ LV.store hl rfl h9))
theorem G_aload_n {q : Fin 4} {i : Nat} {x : Option Nat} (hd : decode (mdC y) pc = .ok (.aload_n q, 1)) (j : Nat) (hi : (q : Nat) = i) (hk : lv[j]? = some (i, rv κ x)) (k : G κ y cv o (pc + 1) lv (rv κ x :: st) M) : G κ y cv o pc lv st M := by
  cases x with
  | none => exact G.step k fun p l e R s m args below meth c H locs cells slots ls Q X hH hl kk => lv_aload_nN X.1 X.2.1 hd hi (lv_at hl.1 j hk) (kk ls hl)
  | some a => exact G.step k fun p l e R s m args below meth c H locs cells slots ls Q X hH hl kk => lv_aload_n X.1 X.2.1 hd hi (lv_at hl.1 j hk) (kk ls hl)
theorem G_aload {i : Nat} {x : Option Nat} (hd : decode (mdC y) pc = .ok (.aload i, 2)) (j : Nat) (hk : lv[j]? = some (i, rv κ x)) (k : G κ y cv o (pc + 2) lv (rv κ x :: st) M) : G κ y cv o pc lv st M := by
  cases x with
  | none => exact G.step k fun p l e R s m args below meth c H locs cells slots ls Q X hH hl kk => lv_aloadN X.1 X.2.1 hd (lv_at hl.1 j hk) (kk ls hl)
  | some a => exact G.step k fun p l e R s m args below meth c H locs cells slots ls Q X hH hl kk => lv_aload X.1 X.2.1 hd (lv_at hl.1 j hk) (kk ls hl)
theorem G_astore_n {q : Fin 4} {i : Nat} {x : Option Nat} (hd : decode (mdC y) pc = .ok (.astore_n q, 1)) (hi : (q : Nat) = i) (hn : i < mdL y) (hl2 : lvs lv i (rv κ x) = lv') (k : G κ y cv o (pc + 1) lv' st M) : G κ y cv o pc lv (rv κ x :: st) M := by
  cases x with
  | none => exact G.step k fun p l e R s m args below meth c H locs cells slots ls Q X hH hl kk => lv_astore_nN X.1 X.2.1 hd hi hl.1 hn rfl (fun ls' h9 => kk ls' (hl2 ▸ LV.store hl rfl h9))
  | some a => exact G.step k fun p l e R s m args below meth c H locs cells slots ls Q X hH hl kk => lv_astore_n X.1 X.2.1 hd hi hl.1 hn rfl (fun ls' h9 => kk ls' (hl2 ▸ LV.store hl rfl h9))
theorem G_astore {i : Nat} {x : Option Nat} (hd : decode (mdC y) pc = .ok (.astore i, 2)) (hn : i < mdL y) (hl2 : lvs lv i (rv κ x) = lv') (k : G κ y cv o (pc + 2) lv' st M) : G κ y cv o pc lv (rv κ x :: st) M := by
  cases x with
  | none => exact G.step k fun p l e R s m args below meth c H locs cells slots ls Q X hH hl kk => lv_astoreN X.1 X.2.1 hd hl.1 hn rfl (fun ls' h9 => kk ls' (hl2 ▸ LV.store hl rfl h9))
  | some a => exact G.step k fun p l e R s m args below meth c H locs cells slots ls Q X hH hl kk => lv_astore X.1 X.2.1 hd hl.1 hn rfl (fun ls' h9 => kk ls' (hl2 ▸ LV.store hl rfl h9))
theorem G_iinc {i : Nat} {n : Int} {x v : Int32} (hd : decode (mdC y) pc = .ok (.iinc i n, 3)) (j : Nat) (hk : lv[j]? = some (i, .int x)) (hv : x + Int32.ofInt n = v) (hn : i < mdL y) (hl2 : lvs lv i (.int v) = lv') (k : G κ y cv o (pc + 3) lv' st M) : G κ y cv o pc lv st M :=
  G.step k fun p l e R s m args below meth c H locs cells slots ls Q X hH hl kk => lv_iinc X.1 X.2.1 hd hl.1 hk hv hn rfl (fun ls' h9 => kk ls' (hl2 ▸ LV.store hl rfl h9))
theorem G_goto {off : Int} {tgt : Nat} (hd : decode (mdC y) pc = .ok (.goto off, 3)) (ht : (pc : Int) + off = (tgt : Int)) (k : G κ y cv o tgt lv st M) : G κ y cv o pc lv st M :=
  G.step k fun p l e R s m args below meth c H locs cells slots ls Q X hH hl kk => lv_goto X.1 X.2.1 hd ht (kk ls hl)
theorem G_if_eq {x : Int32} {off : Int} {tgt : Nat} (hd : decode (mdC y) pc = .ok (.ifCond .eq off, 3)) (ht : (pc : Int) + off = (tgt : Int)) (kt : G κ y cv o1 tgt lv st M) (kf : G κ y cv o2 (pc + 3) lv st M) : G κ y cv (if x = 0 then o1 else o2) pc lv (.int x :: st) M :=
  G.fork kt kf fun p l e R s m args below meth c H locs cells slots ls Q X a b => lv_if_eq X.1 X.2.1 hd ht (fun h => a h) (fun h => b h)
theorem G_if_ne {x : Int32} {off : Int} {tgt : Nat} (hd : decode (mdC y) pc = .ok (.ifCond .ne off, 3)) (ht : (pc : Int) + off = (tgt : Int)) (kt : G κ y cv o1 tgt lv st M) (kf : G κ y cv o2 (pc + 3) lv st M) : G κ y cv (if x ≠ 0 then o1 else o2) pc lv (.int x :: st) M :=
  G.fork kt kf fun p l e R s m args below meth c H locs cells slots ls Q X a b => lv_if_ne X.1 X.2.1 hd ht (fun h => a h) (fun h => b (fun h9 => h9 h))
theorem G_if_lt {x : Int32} {off : Int} {tgt : Nat} (hd : decode (mdC y) pc = .ok (.ifCond .lt off, 3)) (ht : (pc : Int) + off = (tgt : Int)) (kt : G κ y cv o1 tgt lv st M) (kf : G κ y cv o2 (pc + 3) lv st M) : G κ y cv (if x < 0 then o1 else o2) pc lv (.int x :: st) M :=
  G.fork kt kf fun p l e R s m args below meth c H locs cells slots ls Q X a b => lv_if_lt X.1 X.2.1 hd ht (fun h => a h) (fun h => b h)
theorem G_if_ge {x : Int32} {off : Int} {tgt : Nat} (hd : decode (mdC y) pc = .ok (.ifCond .ge off, 3)) (ht : (pc : Int) + off = (tgt : Int)) (kt : G κ y cv o1 tgt lv st M) (kf : G κ y cv o2 (pc + 3) lv st M) : G κ y cv (if 0 ≤ x then o1 else o2) pc lv (.int x :: st) M :=
  G.fork kt kf fun p l e R s m args below meth c H locs cells slots ls Q X a b => lv_if_ge X.1 X.2.1 hd ht (fun h => a h) (fun h => b h)
theorem G_if_gt {x : Int32} {off : Int} {tgt : Nat} (hd : decode (mdC y) pc = .ok (.ifCond .gt off, 3)) (ht : (pc : Int) + off = (tgt : Int)) (kt : G κ y cv o1 tgt lv st M) (kf : G κ y cv o2 (pc + 3) lv st M) : G κ y cv (if 0 < x then o1 else o2) pc lv (.int x :: st) M :=
  G.fork kt kf fun p l e R s m args below meth c H locs cells slots ls Q X a b => lv_if_gt X.1 X.2.1 hd ht (fun h => a h) (fun h => b h)
theorem G_if_le {x : Int32} {off : Int} {tgt : Nat} (hd : decode (mdC y) pc = .ok (.ifCond .le off, 3)) (ht : (pc : Int) + off = (tgt : Int)) (kt : G κ y cv o1 tgt lv st M) (kf : G κ y cv o2 (pc + 3) lv st M) : G κ y cv (if x ≤ 0 then o1 else o2) pc lv (.int x :: st) M :=
  G.fork kt kf fun p l e R s m args below meth c H locs cells slots ls Q X a b => lv_if_le X.1 X.2.1 hd ht (fun h => a h) (fun h => b h)
theorem G_icmp_eq {x z : Int32} {off : Int} {tgt : Nat} (hd : decode (mdC y) pc = .ok (.if_icmp .eq off, 3)) (ht : (pc : Int) + off = (tgt : Int)) (kt : G κ y cv o1 tgt lv st M) (kf : G κ y cv o2 (pc + 3) lv st M) : G κ y cv (if x = z then o1 else o2) pc lv (.int z :: .int x :: st) M :=
  G.fork kt kf fun p l e R s m args below meth c H locs cells slots ls Q X a b => lv_icmp_eq X.1 X.2.1 hd ht (fun h => a h) (fun h => b h)
theorem G_icmp_ne {x z : Int32} {off : Int} {tgt : Nat} (hd : decode (mdC y) pc = .ok (.if_icmp .ne off, 3)) (ht : (pc : Int) + off = (tgt : Int)) (kt : G κ y cv o1 tgt lv st M) (kf : G κ y cv o2 (pc + 3) lv st M) : G κ y cv (if x ≠ z then o1 else o2) pc lv (.int z :: .int x :: st) M :=
  G.fork kt kf fun p l e R s m args below meth c H locs cells slots ls Q X a b => lv_icmp_ne X.1 X.2.1 hd ht (fun h => a h) (fun h => b (fun h9 => h9 h))
theorem G_icmp_lt {x z : Int32} {off : Int} {tgt : Nat} (hd : decode (mdC y) pc = .ok (.if_icmp .lt off, 3)) (ht : (pc : Int) + off = (tgt : Int)) (kt : G κ y cv o1 tgt lv st M) (kf : G κ y cv o2 (pc + 3) lv st M) : G κ y cv (if x < z then o1 else o2) pc lv (.int z :: .int x :: st) M :=
  G.fork kt kf fun p l e R s m args below meth c H locs cells slots ls Q X a b => lv_icmp_lt X.1 X.2.1 hd ht (fun h => a h) (fun h => b h)
theorem G_icmp_ge {x z : Int32} {off : Int} {tgt : Nat} (hd : decode (mdC y) pc = .ok (.if_icmp .ge off, 3)) (ht : (pc : Int) + off = (tgt : Int)) (kt : G κ y cv o1 tgt lv st M) (kf : G κ y cv o2 (pc + 3) lv st M) : G κ y cv (if z ≤ x then o1 else o2) pc lv (.int z :: .int x :: st) M :=
  G.fork kt kf fun p l e R s m args below meth c H locs cells slots ls Q X a b => lv_icmp_ge X.1 X.2.1 hd ht (fun h => a h) (fun h => b h)
theorem G_icmp_gt {x z : Int32} {off : Int} {tgt : Nat} (hd : decode (mdC y) pc = .ok (.if_icmp .gt off, 3)) (ht : (pc : Int) + off = (tgt : Int)) (kt : G κ y cv o1 tgt lv st M) (kf : G κ y cv o2 (pc + 3) lv st M) : G κ y cv (if z < x then o1 else o2) pc lv (.int z :: .int x :: st) M :=
  G.fork kt kf fun p l e R s m args below meth c H locs cells slots ls Q X a b => lv_icmp_gt X.1 X.2.1 hd ht (fun h => a h) (fun h => b h)
theorem G_icmp_le {x z : Int32} {off : Int} {tgt : Nat} (hd : decode (mdC y) pc = .ok (.if_icmp .le off, 3)) (ht : (pc : Int) + off = (tgt : Int)) (kt : G κ y cv o1 tgt lv st M) (kf : G κ y cv o2 (pc + 3) lv st M) : G κ y cv (if x ≤ z then o1 else o2) pc lv (.int z :: .int x :: st) M :=
  G.fork kt kf fun p l e R s m args below meth c H locs cells slots ls Q X a b => lv_icmp_le X.1 X.2.1 hd ht (fun h => a h) (fun h => b h)
theorem G_ifnull {x : Option Nat} {off : Int} {tgt : Nat} (hd : decode (mdC y) pc = .ok (.ifnull off, 3)) (ht : (pc : Int) + off = (tgt : Int)) (kt : G κ y cv o1 tgt lv st M) (kf : G κ y cv o2 (pc + 3) lv st M) : G κ y cv (if x = none then o1 else o2) pc lv (rv κ x :: st) M := by
  cases x with
  | none => exact G.fork kt kf fun p l e R s m args below meth c H locs cells slots ls Q X a b => lv_ifnullN X.1 X.2.1 hd ht (a rfl)
  | some q => exact G.fork kt kf fun p l e R s m args below meth c H locs cells slots ls Q X a b => lv_ifnull X.1 X.2.1 hd (b (fun h => by cases h))
theorem G_ifnonnull {x : Option Nat} {off : Int} {tgt : Nat} (hd : decode (mdC y) pc = .ok (.ifnonnull off, 3)) (ht : (pc : Int) + off = (tgt : Int)) (kt : G κ y cv o1 tgt lv st M) (kf : G κ y cv o2 (pc + 3) lv st M) : G κ y cv (if x ≠ none then o1 else o2) pc lv (rv κ x :: st) M := by
  cases x with
  | none => exact G.fork kt kf fun p l e R s m args below meth c H locs cells slots ls Q X a b => lv_ifnonnullN X.1 X.2.1 hd (b (fun h => h rfl))
  | some q => exact G.fork kt kf fun p l e R s m args below meth c H locs cells slots ls Q X a b => lv_ifnonnull X.1 X.2.1 hd ht (a (fun h => by cases h))
def o_fadd {β : Type} (x z : UInt32) (K : UInt32 → Option β) : Option β := if FP.fadd x z &&& 0x7fffffff ≤ 0x7f800000 then K (FP.fadd x z) else none
theorem G_fadd {x z : UInt32} {K : UInt32 → Option (α × Mem)} (hd : decode (mdC y) pc = .ok (.fadd, 1)) (k : ∀ r, G κ y cv (K r) (pc + 1) lv (.float r :: st) M) : G κ y cv (o_fadd x z K) pc lv (.float z :: .float x :: st) M := by
  unfold o_fadd
  refine G.cond (fun hc => G.step (k _) fun p l e R s m args below meth c H locs cells slots ls Q X hH hl kk => lv_fadd X.1 X.2.1 hd hc (kk ls hl)) (fun _ => G.none')
def o_fsub {β : Type} (x z : UInt32) (K : UInt32 → Option β) : Option β := if FP.fsub x z &&& 0x7fffffff ≤ 0x7f800000 then K (FP.fsub x z) else none
theorem G_fsub {x z : UInt32} {K : UInt32 → Option (α × Mem)} (hd : decode (mdC y) pc = .ok (.fsub, 1)) (k : ∀ r, G κ y cv (K r) (pc + 1) lv (.float r :: st) M) : G κ y cv (o_fsub x z K) pc lv (.float z :: .float x :: st) M := by
  unfold o_fsub
  refine G.cond (fun hc => G.step (k _) fun p l e R s m args below meth c H locs cells slots ls Q X hH hl kk => lv_fsub X.1 X.2.1 hd hc (kk ls hl)) (fun _ => G.none')
def o_fmul {β : Type} (x z : UInt32) (K : UInt32 → Option β) : Option β := if FP.fmul x z &&& 0x7fffffff ≤ 0x7f800000 then K (FP.fmul x z) else none
theorem G_fmul {x z : UInt32} {K : UInt32 → Option (α × Mem)} (hd : decode (mdC y) pc = .ok (.fmul, 1)) (k : ∀ r, G κ y cv (K r) (pc + 1) lv (.float r :: st) M) : G κ y cv (o_fmul x z K) pc lv (.float z :: .float x :: st) M := by
  unfold o_fmul
  refine G.cond (fun hc => G.step (k _) fun p l e R s m args below meth c H locs cells slots ls Q X hH hl kk => lv_fmul X.1 X.2.1 hd hc (kk ls hl)) (fun _ => G.none')
def o_fdiv {β : Type} (x z : UInt32) (K : UInt32 → Option β) : Option β := if FP.fdiv x z &&& 0x7fffffff ≤ 0x7f800000 then K (FP.fdiv x z) else none
theorem G_fdiv {x z : UInt32} {K : UInt32 → Option (α × Mem)} (hd : decode (mdC y) pc = .ok (.fdiv, 1)) (k : ∀ r, G κ y cv (K r) (pc + 1) lv (.float r :: st) M) : G κ y cv (o_fdiv x z K) pc lv (.float z :: .float x :: st) M := by
  unfold o_fdiv
  refine G.cond (fun hc => G.step (k _) fun p l e R s m args below meth c H locs cells slots ls Q X hH hl kk => lv_fdiv X.1 X.2.1 hd hc (kk ls hl)) (fun _ => G.none')
theorem G_tin {x : Int32} {n : Int} {dflt lo hi : Int} {offs : Array Int} {len tgt : Nat} {off : Int} (hd : decode (mdC y) pc = .ok (.tableswitch dflt lo hi offs, len)) (hx : x.toInt = n) (h1 : ¬ n < lo) (h2 : ¬ hi < n) (ho : offs[(n - lo).toNat]? = some off) (ht : (pc : Int) + off = (tgt : Int)) (k : G κ y cv o tgt lv st M) : G κ y cv o pc lv (.int x :: st) M := by
  subst hx
  exact G.step k fun p l e R s m args below meth c H locs cells slots ls Q X hH hl kk => lv_tableIn X.1 X.2.1 hd h1 h2 ho ht (kk ls hl)
theorem G_tout {x : Int32} {dflt lo hi : Int} {offs : Array Int} {len tgt : Nat} (hd : decode (mdC y) pc = .ok (.tableswitch dflt lo hi offs, len)) (hx : x.toInt < lo ∨ hi < x.toInt) (ht : (pc : Int) + dflt = (tgt : Int)) (k : G κ y cv o tgt lv st M) : G κ y cv o pc lv (.int x :: st) M :=
  G.step k fun p l e R s m args below meth c H locs cells slots ls Q X hH hl kk => lv_tableOut X.1 X.2.1 hd hx ht (kk ls hl)
theorem G_lks {x : Int32} {dflt : Int} {ps : Array (Int × Int)} {len tgt : Nat} {off : Int} (hd : decode (mdC y) pc = .ok (.lookupswitch dflt ps, len)) (hp : (ps.toList.zip (ps.toList.drop 1)).all (fun (a, next) => a.1 < next.1) = true) (ho : Op.lookupswitch.offset ps.toList dflt x.toInt = off) (ht : (pc : Int) + off = (tgt : Int)) (k : G κ y cv o tgt lv st M) : G κ y cv o pc lv (.int x :: st) M :=
  G.step k fun p l e R s m args below meth c H locs cells slots ls Q X hH hl kk => lv_lookup X.1 X.2.1 hd hp ho ht (kk ls hl)
end RULES
end
section
/-! ===== what the class's code does to the memory, in the order of its instructions; none: the machine would throw, or leave what is modelled ===== -/
def dI {β : Type} (M : Mem) (ci j : Nat) (o : Option Nat) (K : Int32 → Option β) : Option β := match o with | none => none | some a => if (mS M a).1 = ci then K (mI M (32 * ci + j) a) else none
def dF {β : Type} (M : Mem) (ci j : Nat) (o : Option Nat) (K : UInt32 → Option β) : Option β := match o with | none => none | some a => if (mS M a).1 = ci then K (mF M (32 * ci + j) a) else none
def dP {β : Type} (M : Mem) (ci j : Nat) (o : Option Nat) (K : Option Nat → Option β) : Option β := match o with | none => none | some a => if (mS M a).1 = ci then K (mP M (32 * ci + j) a) else none
def pI {β : Type} (M : Mem) (ci j : Nat) (o : Option Nat) (x : Int32) (K : Mem → Option β) : Option β := match o with | none => none | some a => if (mS M a).1 = ci then K (uI M (32 * ci + j) a x) else none
def pZ {β : Type} (M : Mem) (ci j : Nat) (o : Option Nat) (x : Int32) (K : Mem → Option β) : Option β := match o with | none => none | some a => if (mS M a).1 = ci ∧ (x = 0 ∨ x = 1) then K (uI M (32 * ci + j) a x) else none
def pF {β : Type} (M : Mem) (ci j : Nat) (o : Option Nat) (x : UInt32) (K : Mem → Option β) : Option β := match o with | none => none | some a => if (mS M a).1 = ci then K (uF M (32 * ci + j) a x) else none
def pP {β : Type} (M : Mem) (ci j : Nat) (o : Option Nat) (x : Option Nat) (K : Mem → Option β) : Option β := match o with | none => none | some a => if (mS M a).1 = ci then K (uP M (32 * ci + j) a x) else none
def aI {β : Type} (M : Mem) (t : Nat) (o : Option Nat) (i : Int32) (K : Int32 → Option β) : Option β := match o with | none => none | some a => if (mS M a).1 = t ∧ 0 ≤ i.toInt ∧ i.toInt < (mS M a).2 then K (mI M (1000 + i.toInt.toNat) a) else none
def aF {β : Type} (M : Mem) (t : Nat) (o : Option Nat) (i : Int32) (K : UInt32 → Option β) : Option β := match o with | none => none | some a => if (mS M a).1 = t ∧ 0 ≤ i.toInt ∧ i.toInt < (mS M a).2 then K (mF M (1000 + i.toInt.toNat) a) else none
def aP {β : Type} (M : Mem) (t : Nat) (o : Option Nat) (i : Int32) (K : Option Nat → Option β) : Option β := match o with | none => none | some a => if (mS M a).1 = t ∧ 0 ≤ i.toInt ∧ i.toInt < (mS M a).2 then K (mP M (1000 + i.toInt.toNat) a) else none
def sI {β : Type} (M : Mem) (t : Nat) (o : Option Nat) (i x : Int32) (K : Mem → Option β) : Option β := match o with | none => none | some a => if (mS M a).1 = t ∧ 0 ≤ i.toInt ∧ i.toInt < (mS M a).2 then K (uI M (1000 + i.toInt.toNat) a x) else none
def sF {β : Type} (M : Mem) (t : Nat) (o : Option Nat) (i : Int32) (x : UInt32) (K : Mem → Option β) : Option β := match o with | none => none | some a => if (mS M a).1 = t ∧ 0 ≤ i.toInt ∧ i.toInt < (mS M a).2 then K (uF M (1000 + i.toInt.toNat) a x) else none
def sP {β : Type} (M : Mem) (ci : Nat) (o : Option Nat) (i : Int32) (x : Option Nat) (K : Mem → Option β) : Option β := match o with | none => none | some a => if (mS M a).1 = 110 + ci ∧ 0 ≤ i.toInt ∧ i.toInt < (mS M a).2 ∧ (∃ v, x = some v ∧ (mS M v).1 = ci) then K (uP M (1000 + i.toInt.toNat) a x) else none
def aL {β : Type} (M : Mem) (t : Nat) (o : Option Nat) (K : Int32 → Option β) : Option β := match o with | none => none | some a => if (mS M a).1 = t then K (Int32.ofNat (mS M a).2) else none
def nO {β : Type} (M : Mem) (ci sl : Nat) (K : Option Nat → Mem → Option β) : Option β := if mN M < 900000 then K (some (mN M)) (nw M (ci, 0) sl) else none
def nA {β : Type} (M : Mem) (t : Nat) (n : Int32) (K : Option Nat → Mem → Option β) : Option β := if mN M < 900000 ∧ 0 ≤ n.toInt ∧ n.toInt < 100000 then K (some (mN M)) (nw M (t, n.toInt.toNat) n.toInt.toNat) else none
def rc {β : Type} (M : Mem) (ci : Nat) (o : Option Nat) (r : Option β) : Option β := match o with | none => none | some a => if (mS M a).1 = ci then r else none
def cl {β γ : Type} (o : Option (β × Mem)) (K : β → Mem → Option γ) : Option γ := match o with | none => none | some z => K z.1 z.2
def rt {β : Type} (v : β) (M : Mem) : Option (β × Mem) := some (v, M)
def rtZ (v : Int32) (M : Mem) : Option (Int32 × Mem) := if v = 0 ∨ v = 1 then some (v, M) else none
def jn {A : Type} {β : Type} (f : A) (b : A → Option β) : Option β := b f
def lp {A β : Type} (B : (A → Option β) → A → Option β) : Nat → A → Option β
  | 0, _ => none
  | n + 1, a => B (lp B n) a
/-! ===== the memory and the heap ===== -/
theorem enc_ne {κ : Cfg} {M M' : Mem} {a : Nat} (h1 : mS M' a = mS M a) (h2 : ∀ k, mI M' k a = mI M k a) (h3 : ∀ k, mF M' k a = mF M k a) (h4 : ∀ k, mP M' k a = mP M k a) : enc κ M' a = enc κ M a := by
  simp only [enc, fls, fv, h1, h2, h3, h4]
theorem vp_in_iff2 {i : Int32} {n : Nat} (h0 : 0 ≤ i.toInt) (h : i.toInt < n) : ¬ (i < 0 ∨ n ≤ i.toNatClampNeg) := by
  rintro (h2 | h2)
  · rw [Int32.lt_iff_toInt_lt] at h2
    simp at h2; omega
  · have : i.toNatClampNeg = i.toInt.toNat := rfl
    omega
theorem enc_obj {κ : Cfg} {M : Mem} {a ci : Nat} (h : (mS M a).1 = ci) (hc : ci < 12) : enc κ M a = .inr (ci, fls κ M ci a) := by
  unfold enc; rw [if_pos (by omega), h]
theorem enc_arrI {κ : Cfg} {M : Mem} {a t : Nat} (h : (mS M a).1 = t) (h1 : t = 100 ∨ t = 101) : enc κ M a = .inl (kA κ t, (mS M a).2, .inl (fun i => mI M (1000 + i) a)) := by
  unfold enc; rw [if_neg (by omega), if_pos (by omega), h]
theorem enc_arrF {κ : Cfg} {M : Mem} {a t : Nat} (h : (mS M a).1 = t) (h1 : t = 102) : enc κ M a = .inl (kA κ t, (mS M a).2, .inr (.inr (.inl (fun i => mF M (1000 + i) a)))) := by
  unfold enc; rw [if_neg (by omega), if_neg (by omega), if_pos (by omega), h]
theorem enc_arrP {κ : Cfg} {M : Mem} {a t : Nat} (h : (mS M a).1 = t) (h1 : 110 ≤ t) : enc κ M a = .inl (kA κ t, (mS M a).2, .inr (.inr (.inr (.inr (fun i => (mP M (1000 + i) a).map (kad κ)))))) := by
  unfold enc; rw [if_neg (by omega), if_neg (by omega), if_neg (by omega), h]
/-- a write at one cell: the rest stays -/
theorem HR.write {κ : Cfg} {M M' : Mem} {H H' : Heap} {a : Nat} (hH : HR κ M H) (hs : (mS M a).1 < 900) (hn : mN M' = mN M) (hsh : ∀ q, mS M' q = mS M q) (hI : ∀ k q, q ≠ a → mI M' k q = mI M k q) (hF : ∀ k q, q ≠ a → mF M' k q = mF M k q) (hP : ∀ k q, q ≠ a → mP M' k q = mP M k q)
    (e1 : va_at (kD κ) vwCl (kB κ + a, enc κ M' a) H') (e2 : H'.size = H.size) (e3 : ∀ q, q ≠ kB κ + a → H'[q]? = H[q]?) : HR κ M' H' := by
  refine ⟨by rw [e2, hn]; exact hH.1, by rw [hn]; exact hH.2.1, fun q hq => ?_, fun q hq => by rw [e3 q (by omega)]; exact hH.2.2.2 q hq⟩
  rw [hsh] at hq
  rw [hn]
  refine ⟨(hH.2.2.1 q hq).1, ?_⟩
  by_cases hqa : q = a
  · subst hqa; exact e1
  · rw [enc_ne (hsh q) (fun k => hI k q hqa) (fun k => hF k q hqa) (fun k => hP k q hqa)]
    exact (hH.2.2.1 q hq).2.kept (e3 _ (by show kB κ + q ≠ kB κ + a; omega))
/-- a new cell -/
theorem HR.push {κ : Cfg} {M : Mem} {H H' : Heap} {sh : Nat × Nat} {sl : Nat} (hH : HR κ M H) (hlt : mN M < 900000) (hs : sh.1 < 900)
    (e1 : va_at (kD κ) vwCl (kB κ + mN M, enc κ (nw M sh sl) (mN M)) H') (e2 : H'.size = H.size + 1) (e3 : ∀ q, q < H.size → H'[q]? = H[q]?) : HR κ (nw M sh sl) H' := by
  have hN : mN (nw M sh sl) = mN M + 1 := rfl
  refine ⟨by rw [e2, hH.1, hN]; omega, by rw [hN]; omega, fun q hq => ?_, fun q hq => by rw [e3 q (by rw [hH.1]; omega)]; exact hH.2.2.2 q hq⟩
  by_cases hqa : q = mN M
  · subst hqa
    exact ⟨by rw [hN]; omega, e1⟩
  · have es : mS (nw M sh sl) q = mS M q := if_neg hqa
    rw [es] at hq
    have h1 := hH.2.2.1 q hq
    refine ⟨by rw [hN]; omega, ?_⟩
    rw [enc_ne es (fun k => if_neg hqa) (fun k => if_neg hqa) (fun k => if_neg hqa)]
    exact h1.2.kept (e3 _ (by show kB κ + q < _; rw [hH.1]; omega))
/-- a class's facts for its fields' rows -/
def CF (ci : Nat) (C : String) (T : u_T) (N : Nat) (ty : Nat → FieldType) : Prop :=
  ci < 12 ∧ vwCl[ci]? = some (C, T, N) ∧ (∀ w ∈ u_ws C T N, w ∈ WS) ∧ (∀ k, k < N → parseFieldDescriptor (T k).2.2.1 = some (ty k)) ∧ (∀ a, a < N → ∀ b, b < N → a ≠ b → (T a).2.1 ≠ (T b).2.1) ∧ (kd ci).length = N
theorem fls_set {κ : Cfg} {M M' : Mem} {ci a j : Nat} {v : Value} (hj : j < (kd ci).length) (hv : fv κ M' ((kd ci).getD j 0) (32 * ci + j) a = v) (ho : ∀ i, i ≠ j → i < (kd ci).length → fv κ M' ((kd ci).getD i 0) (32 * ci + i) a = fv κ M ((kd ci).getD i 0) (32 * ci + i) a) : fls κ M' ci a = (fls κ M ci a).set j v := by
  apply List.ext_getElem?
  intro i
  by_cases hi : i < (kd ci).length
  · rw [List.getElem?_set]
    by_cases hij : j = i
    · subst hij
      rw [if_pos rfl, if_pos (by rw [fls_len]; exact hi)]
      simp only [fls, List.getElem?_map, List.getElem?_range hi, Option.map_some, hv]
    · rw [if_neg hij]
      simp only [fls, List.getElem?_map, List.getElem?_range hi, Option.map_some, ho i (fun h => hij h.symm) hi]
  · rw [List.getElem?_eq_none (by rw [fls_len]; omega), List.getElem?_eq_none (by rw [List.length_set, fls_len]; omega)]
end
section
section MEMRULES
variable {κ : Cfg} {y : MD} {α : Type} {cv : α → Option Value} {o o1 o2 : Option (α × Mem)} {pc : Nat} {lv lv' : List (Nat × Value)} {st : List Value} {M : Mem}
/-- a step that writes -/
theorem G.stepM {o : Option (α × Mem)} {pc' : Nat} {st' : List Value} {M' : Mem} (hn : mN M' = mN M) (hL : mL M' = mL M) (k : G κ y cv o pc' lv st' M')
    (h : ∀ (p : Program) (l : Launch) (e : Env) (R : Room) (s : State) (m : MethodId) (args : Array Value) (below : List Frame) (meth : Method) (c : Code) (H : Heap) (locs : List Loc) (cells slots : Nat) (ls : Array Slot) (Q : State → Prop),
      Ctx κ y p R s m args meth c → HR κ M H → LV ls (mdL y) lv → (∀ (H' : Heap) (a f : Nat), HR κ M' H' → W p l e R s m args below meth c H' (locs ++ [⟨kB κ + a, f⟩]) cells slots Q (F0 m pc' ls st')) → W p l e R s m args below meth c H locs cells slots Q (F0 m pc ls st)) : G κ y cv o pc lv st M := by
  intro r hr
  obtain ⟨h1, h2⟩ := k r hr
  rw [hn, hL] at h1
  refine ⟨h1, ?_⟩
  intro p l e R s m args below meth c H locs cells slots ls Q X hH hl hlo hc hs fin
  refine h p l e R s m args below meth c H locs cells slots ls Q X hH hl (fun H' a f hH' => ?_)
  have h3 := h2 p l e R s m args below meth c H' (locs ++ [⟨kB κ + a, f⟩]) cells slots ls Q X hH' hl (fun q hq => by
    rcases List.mem_append.mp hq with h | h
    · exact hlo q h
    · rw [List.mem_singleton.mp h]; exact Nat.le_add_right _ _)
  rw [hn, hL] at h3
  exact h3 hc hs fin
/-- a step that makes a cell -/
theorem G.stepN {o : Option (α × Mem)} {pc' : Nat} {st' : List Value} {M' : Mem} {sl : Nat} (hn : mN M' = mN M + 1) (hL : mL M' = mL M + sl) (k : G κ y cv o pc' lv st' M')
    (h : ∀ (p : Program) (l : Launch) (e : Env) (R : Room) (s : State) (m : MethodId) (args : Array Value) (below : List Frame) (meth : Method) (c : Code) (H : Heap) (locs : List Loc) (cells slots : Nat) (ls : Array Slot) (Q : State → Prop),
      Ctx κ y p R s m args meth c → HR κ M H → LV ls (mdL y) lv → cells + 1 ≤ R.cells → slots + sl ≤ R.slots → (∀ (H' : Heap), HR κ M' H' → W p l e R s m args below meth c H' locs (cells + 1) (slots + sl) Q (F0 m pc' ls st')) → W p l e R s m args below meth c H locs cells slots Q (F0 m pc ls st)) : G κ y cv o pc lv st M := by
  intro r hr
  obtain ⟨h1, h2⟩ := k r hr
  rw [hn, hL] at h1
  refine ⟨⟨by omega, by omega⟩, ?_⟩
  intro p l e R s m args below meth c H locs cells slots ls Q X hH hl hlo hc hs fin
  refine h p l e R s m args below meth c H locs cells slots ls Q X hH hl (by omega) (by omega) (fun H' hH' => ?_)
  have h3 := h2 p l e R s m args below meth c H' locs (cells + 1) (slots + sl) ls Q X hH' hl hlo
  rw [hn, hL] at h3
  have e1 : cells + 1 + (mN r.2 - (mN M + 1)) = cells + (mN r.2 - mN M) := by omega
  have e2 : slots + sl + (mL r.2 - (mL M + sl)) = slots + (mL r.2 - mL M) := by omega
  rw [e1, e2] at h3
  exact h3 hc hs fin
theorem G.sub {lv' : List (Nat × Value)} (ks : List Nat) (h : ks.filterMap (fun i => lv[i]?) = lv') (k : G κ y cv o pc lv' st M) : G κ y cv o pc lv st M :=
  G.step k fun p l e R s m args below meth c H locs cells slots ls Q X hH hl kk => kk ls (by
    have hm : ∀ q ∈ lv', q ∈ lv := fun q hq => by
      rw [← h] at hq
      obtain ⟨i, -, hi⟩ := List.mem_filterMap.mp hq
      exact List.mem_of_getElem? hi
    exact ⟨⟨hl.1.1, hl.1.2.1, fun q hq => hl.1.2.2 q (hm q hq)⟩, fun q hq => hl.2 q (hm q hq)⟩)
theorem G.jn {A : Type} {P : A → Prop} {f : A} {b : A → Option (α × Mem)} (hf : P f) (hb : ∀ J, P J → G κ y cv (b J) pc lv st M) : G κ y cv (jn f b) pc lv st M := hb f hf
theorem G.loop {A : Type} {B : (A → Option (α × Mem)) → A → Option (α × Mem)} {lvf : A → List (Nat × Value)} {mf : A → Mem} (h : ∀ L, (∀ a, G κ y cv (L a) pc (lvf a) st (mf a)) → ∀ a, G κ y cv (B L a) pc (lvf a) st (mf a)) : ∀ (n : Nat) (a : A), G κ y cv (lp B n a) pc (lvf a) st (mf a) := by
  intro n
  induction n with
  | zero => intro a; exact G.none'
  | succ n ih => intro a; exact h (lp B n) ih a
theorem Ctx.K {p : Program} {R : Room} {s : State} {m : MethodId} {args : Array Value} {meth : Method} {c : Code} (X : Ctx κ y p R s m args meth c) : va_K (kD κ) vwCl (tys κ) s := X.2.2.2.2.2.2.2.2.1.1
theorem Ctx.w {p : Program} {R : Room} {s : State} {m : MethodId} {args : Array Value} {meth : Method} {c : Code} (X : Ctx κ y p R s m args meth c) : ∀ w ∈ WS, w.before args s = true := X.2.2.2.2.1

theorem G_getI {ci j idx : Nat} {C : String} {T : u_T} {N : Nat} {ty : Nat → FieldType} (cf : CF ci C T N ty) {ob : Option Nat} {K : Int32 → Option (α × Mem)} (hj : (kd ci)[j]? = some 0) (hl : Jvm.Cond.fieldLink (mdO y) idx (T j).1 (T j).2.1 (T j).2.2.1 ∈ WS) (hd : decode (mdC y) pc = .ok (.getfield idx, 3)) (k : ∀ x, G κ y cv (K x) (pc + 3) lv (.int x :: st) M) : G κ y cv (dI M ci j ob K) pc lv (rv κ ob :: st) M := by
  cases ob with
  | none => exact G.none'
  | some a =>
    show G κ y cv (if (mS M a).1 = ci then K (mI M (32 * ci + j) a) else none) pc lv _ M
    refine G.cond (fun hs => G.step (k _) ?_) (fun _ => G.none')
    intro p l e R s m args below meth c H locs cells slots ls Q X hH hl0 kk
    have hlt : (mS M a).1 < 900 := by have := cf.1; omega
    have hat := (hH.2.2.1 a hlt).2
    rw [enc_obj hs cf.1] at hat
    rw [rv_some, (hH.lt hlt).2]
    have hjN : j < N := by rw [← cf.2.2.2.2.2]; exact (List.getElem?_eq_some_iff.mp hj).1
    refine va_get (D := kD κ) (own := mdO y) X.1 X.2.1 X.w cf.2.2.1 X.2.2.2.1 X.K (P1 hat) 0 rfl cf.2.1 j hjN (X.w _ hl) (fun _ h => h) (fls_get hj) hd ?_
    exact kk ls hl0
theorem G_getF {ci j idx : Nat} {C : String} {T : u_T} {N : Nat} {ty : Nat → FieldType} (cf : CF ci C T N ty) {ob : Option Nat} {K : UInt32 → Option (α × Mem)} (hj : (kd ci)[j]? = some 1) (hl : Jvm.Cond.fieldLink (mdO y) idx (T j).1 (T j).2.1 (T j).2.2.1 ∈ WS) (hd : decode (mdC y) pc = .ok (.getfield idx, 3)) (k : ∀ x, G κ y cv (K x) (pc + 3) lv (.float x :: st) M) : G κ y cv (dF M ci j ob K) pc lv (rv κ ob :: st) M := by
  cases ob with
  | none => exact G.none'
  | some a =>
    show G κ y cv (if (mS M a).1 = ci then K (mF M (32 * ci + j) a) else none) pc lv _ M
    refine G.cond (fun hs => G.step (k _) ?_) (fun _ => G.none')
    intro p l e R s m args below meth c H locs cells slots ls Q X hH hl0 kk
    have hlt : (mS M a).1 < 900 := by have := cf.1; omega
    have hat := (hH.2.2.1 a hlt).2
    rw [enc_obj hs cf.1] at hat
    rw [rv_some, (hH.lt hlt).2]
    have hjN : j < N := by rw [← cf.2.2.2.2.2]; exact (List.getElem?_eq_some_iff.mp hj).1
    refine va_get (D := kD κ) (own := mdO y) X.1 X.2.1 X.w cf.2.2.1 X.2.2.2.1 X.K (P1 hat) 0 rfl cf.2.1 j hjN (X.w _ hl) (fun _ h => h) (fls_get hj) hd ?_
    exact kk ls hl0
theorem G_getP {ci j idx : Nat} {C : String} {T : u_T} {N : Nat} {ty : Nat → FieldType} (cf : CF ci C T N ty) {ob : Option Nat} {K : Option Nat → Option (α × Mem)} (hj : (kd ci)[j]? = some 2) (hl : Jvm.Cond.fieldLink (mdO y) idx (T j).1 (T j).2.1 (T j).2.2.1 ∈ WS) (hd : decode (mdC y) pc = .ok (.getfield idx, 3)) (k : ∀ x, G κ y cv (K x) (pc + 3) lv (rv κ x :: st) M) : G κ y cv (dP M ci j ob K) pc lv (rv κ ob :: st) M := by
  cases ob with
  | none => exact G.none'
  | some a =>
    show G κ y cv (if (mS M a).1 = ci then K (mP M (32 * ci + j) a) else none) pc lv _ M
    refine G.cond (fun hs => G.step (k _) ?_) (fun _ => G.none')
    intro p l e R s m args below meth c H locs cells slots ls Q X hH hl0 kk
    have hlt : (mS M a).1 < 900 := by have := cf.1; omega
    have hat := (hH.2.2.1 a hlt).2
    rw [enc_obj hs cf.1] at hat
    rw [rv_some, (hH.lt hlt).2]
    have hjN : j < N := by rw [← cf.2.2.2.2.2]; exact (List.getElem?_eq_some_iff.mp hj).1
    refine va_get (D := kD κ) (own := mdO y) X.1 X.2.1 X.w cf.2.2.1 X.2.2.2.1 X.K (P1 hat) 0 rfl cf.2.1 j hjN (X.w _ hl) (fun _ h => h) (fls_get hj) hd ?_
    exact kk ls hl0
theorem put_core {p : Program} {l : Launch} {e : Env} {R : Room} {s : State} {m : MethodId} {args : Array Value} {below : List Frame} {meth : Method} {c : Code} {H : Heap} {locs : List Loc} {cells slots : Nat} {ls : Array Slot} {Q : State → Prop} {M' : Mem} {a ci j idx : Nat} {C : String} {T : u_T} {N : Nat} {ty : Nat → FieldType} {v : Value}
    (cf : CF ci C T N ty) (X : Ctx κ y p R s m args meth c) (hH : HR κ M H) (hs : (mS M a).1 = ci) (hjN : j < N) (hl : Jvm.Cond.fieldLink (mdO y) idx (T j).1 (T j).2.1 (T j).2.2.1 ∈ WS) (hfin : (T j).2.2.2 = false ∨ ((T j).2.2.2 = true ∧ (mdY y).name = "<init>" ∧ (T j).1 = mdO y)) (hn : narrow (ty j) v = v) (hfit : fits (ty j) v = true)
    (hnM : mN M' = mN M) (hsh : ∀ q, mS M' q = mS M q) (hI : ∀ k q, q ≠ a → mI M' k q = mI M k q) (hF : ∀ k q, q ≠ a → mF M' k q = mF M k q) (hP : ∀ k q, q ≠ a → mP M' k q = mP M k q) (hfl : fls κ M' ci a = (fls κ M ci a).set j v) (hd : decode (mdC y) pc = .ok (.putfield idx, 3))
    (kk : ∀ (H' : Heap) (a f : Nat), HR κ M' H' → W p l e R s m args below meth c H' (locs ++ [⟨kB κ + a, f⟩]) cells slots Q (F0 m (pc + 3) ls st)) : W p l e R s m args below meth c H locs cells slots Q (F0 m pc ls (v :: .ref (kB κ + a) :: st)) := by
  have hK := X.K
  have hts := X.w
  have hap := va_apart (own := mdO y) hts cf.2.2.1 ty cf.2.2.2.1 cf.2.2.2.2.1 hK cf.2.1
  have hlt : (mS M a).1 < 900 := by have := cf.1; omega
  have hat := (hH.2.2.1 a hlt).2
  rw [enc_obj hs cf.1] at hat
  obtain ⟨r, h1, cell, q1, q2, q3, q4⟩ := hat
  have hr : r = (C, T, N) := Option.some.inj (h1.symm.trans cf.2.1)
  subst hr
  obtain ⟨hS, hfc, kC, hkC, hkind⟩ := hK.1 ci _ cf.2.1
  obtain ⟨cf', kf, fi, f, hi, hsl⟩ := hS j hjN
  have hlay := hts _ (cf.2.2.1 _ (u_in_lay hjN))
  have hst := (u_facts hfc hkC (u_lays hts cf.2.2.1 hjN) hi).1
  have fin : ∀ H' : Heap, H'[kB κ + a]? = some (cell.setSlot f.slot v) → H'.size = H.size → (∀ q, q ≠ kB κ + a → H'[q]? = H[q]?) → HR κ M' H' := by
    intro H' e1 e2 e3
    rw [hsl] at e1
    refine hH.write hlt hnM hsh hI hF hP ?_ e2 e3
    rw [enc_obj (by rw [hsh]; exact hs) cf.1, hfl]
    exact ⟨_, cf.2.1, t_OB.to (V := updV (vp_V (fls κ M ci a)) j v) ⟨_, e1, q2, q3, t_set q4 hap hjN v⟩ (fun i _ => vp_updV_set (by rw [fls_len, cf.2.2.2.2.2]; exact hjN) v i)⟩
  have hslot : f.slot < cell.slots.size := by rw [hsl]; exact k2_hasslot (q4 j hjN)
  unfold u_lay at hlay
  rcases hfin with hf | ⟨hf, hinit, hown⟩
  · rw [if_neg (by rw [hf]; decide)] at hlay
    have h6 := u_store hfc hkC hkind hlay hi (cf.2.2.2.1 j hjN) hn hfit
    exact W.putK X.1 X.2.1 (f := f) ⟨X.2.2.2.1, hts _ hl, ⟨_, _, _, hi⟩, hst⟩ (by rw [q2]; exact h6) q1 q3 hslot rfl rfl hd fun H' e1 e2 e3 => kk H' _ _ (fin H' e1 e2 e3)
  · rw [if_pos hf] at hlay
    have h6 := u_fits hfc hkC hkind (Or.inr hlay) hi (cf.2.2.2.1 j hjN) hn hfit
    have hcf : m.cls = cf' := by
      obtain ⟨_, _, c', _, _, _, -, -, hf', -, -, -, hown2, -⟩ := Cond.laysFinal_spec hlay
      have e1 : c' = cf' := by have := hi.symm.trans hf'; simp at this; exact this.1.symm
      rw [hown] at hown2
      rw [← e1]; exact Option.some.inj (X.2.2.2.1.symm.trans hown2)
    exact W.putFinK X.1 X.2.1 X.2.2.2.1 (hts _ hl) hi hst hcf (X.2.2.2.2.2.2.2.1.trans hinit) (by rw [q2]; exact h6) q1 q3 hslot rfl rfl hd fun H' e1 e2 e3 => kk H' _ _ (fin H' e1 e2 e3)
theorem uI_mI {M : Mem} {k a k' a' : Nat} {x : Int32} : mI (uI M k a x) k' a' = if k' = k ∧ a' = a then x else mI M k' a' := rfl
theorem uF_mF {M : Mem} {k a k' a' : Nat} {x : UInt32} : mF (uF M k a x) k' a' = if k' = k ∧ a' = a then x else mF M k' a' := rfl
theorem uP_mP {M : Mem} {k a k' a' : Nat} {x : Option Nat} : mP (uP M k a x) k' a' = if k' = k ∧ a' = a then x else mP M k' a' := rfl

theorem G_putI {ci j idx : Nat} {C : String} {T : u_T} {N : Nat} {ty : Nat → FieldType} (cf : CF ci C T N ty) {ob : Option Nat} {x : Int32} {K : Mem → Option (α × Mem)} (hj : (kd ci)[j]? = some 0) (hty : ty j = .int) (hl : Jvm.Cond.fieldLink (mdO y) idx (T j).1 (T j).2.1 (T j).2.2.1 ∈ WS) (hfin : (T j).2.2.2 = false ∨ ((T j).2.2.2 = true ∧ (mdY y).name = "<init>" ∧ (T j).1 = mdO y)) (hd : decode (mdC y) pc = .ok (.putfield idx, 3)) (k : ∀ M1, G κ y cv (K M1) (pc + 3) lv st M1) : G κ y cv (pI M ci j ob x K) pc lv (.int x :: rv κ ob :: st) M := by
  cases ob with
  | none => exact G.none'
  | some a =>
    show G κ y cv (if (mS M a).1 = ci then K (uI M (32 * ci + j) a x) else none) pc lv _ M
    refine G.cond (fun hs => G.stepM (M' := uI M (32 * ci + j) a x) rfl rfl (k _) ?_) (fun _ => G.none')
    intro p l e R s m args below meth c H locs cells slots ls Q X hH hl0 kk
    have hlt : (mS M a).1 < 900 := by have := cf.1; have := hs; omega
    rw [rv_some, (hH.lt hlt).2]
    have hjl : j < (kd ci).length := (List.getElem?_eq_some_iff.mp hj).1
    have hjN : j < N := by rw [← cf.2.2.2.2.2]; exact hjl
    have hg : (kd ci).getD j 0 = 0 := by rw [List.getD_eq_getElem?_getD, hj]; rfl
    refine put_core (M' := uI M (32 * ci + j) a x) cf X hH hs hjN hl hfin (by rw [hty]; rfl) (by rw [hty]; rfl) rfl (fun _ => rfl) (fun k9 q h => ?_) (fun k9 q h => ?_) (fun k9 q h => ?_) ?_ hd kk
    all_goals first
      | rfl
      | (rw [uI_mI, if_neg (fun h9 => h h9.2)]; done)
      | (rw [uF_mF, if_neg (fun h9 => h h9.2)]; done)
      | (rw [uP_mP, if_neg (fun h9 => h h9.2)]; done)
      | skip
    refine fls_set hjl ?_ (fun i hi hil => ?_)
    · rw [hg]; simp [fv, uI_mI, uF_mF, uP_mP]
    · have hne : 32 * ci + i ≠ 32 * ci + j := by omega
      simp [fv, uI_mI, uF_mF, uP_mP, hne, hi, mI, mF, mP, uI, uF, uP]
theorem G_putZ {ci j idx : Nat} {C : String} {T : u_T} {N : Nat} {ty : Nat → FieldType} (cf : CF ci C T N ty) {ob : Option Nat} {x : Int32} {K : Mem → Option (α × Mem)} (hj : (kd ci)[j]? = some 0) (hty : ty j = .boolean) (hl : Jvm.Cond.fieldLink (mdO y) idx (T j).1 (T j).2.1 (T j).2.2.1 ∈ WS) (hfin : (T j).2.2.2 = false ∨ ((T j).2.2.2 = true ∧ (mdY y).name = "<init>" ∧ (T j).1 = mdO y)) (hd : decode (mdC y) pc = .ok (.putfield idx, 3)) (k : ∀ M1, G κ y cv (K M1) (pc + 3) lv st M1) : G κ y cv (pZ M ci j ob x K) pc lv (.int x :: rv κ ob :: st) M := by
  cases ob with
  | none => exact G.none'
  | some a =>
    show G κ y cv (if (mS M a).1 = ci ∧ (x = 0 ∨ x = 1) then K (uI M (32 * ci + j) a x) else none) pc lv _ M
    refine G.cond (fun hs => G.stepM (M' := uI M (32 * ci + j) a x) rfl rfl (k _) ?_) (fun _ => G.none')
    intro p l e R s m args below meth c H locs cells slots ls Q X hH hl0 kk
    have hlt : (mS M a).1 < 900 := by have := cf.1; have := hs.1; omega
    rw [rv_some, (hH.lt hlt).2]
    have hjl : j < (kd ci).length := (List.getElem?_eq_some_iff.mp hj).1
    have hjN : j < N := by rw [← cf.2.2.2.2.2]; exact hjl
    have hg : (kd ci).getD j 0 = 0 := by rw [List.getD_eq_getElem?_getD, hj]; rfl
    refine put_core (M' := uI M (32 * ci + j) a x) cf X hH hs.1 hjN hl hfin (by rw [hty]; rcases hs.2 with h | h <;> rw [h] <;> rfl) (by rw [hty]; rcases hs.2 with h | h <;> rw [h] <;> rfl) rfl (fun _ => rfl) (fun k9 q h => ?_) (fun k9 q h => ?_) (fun k9 q h => ?_) ?_ hd kk
    all_goals first
      | rfl
      | (rw [uI_mI, if_neg (fun h9 => h h9.2)]; done)
      | (rw [uF_mF, if_neg (fun h9 => h h9.2)]; done)
      | (rw [uP_mP, if_neg (fun h9 => h h9.2)]; done)
      | skip
    refine fls_set hjl ?_ (fun i hi hil => ?_)
    · rw [hg]; simp [fv, uI_mI, uF_mF, uP_mP]
    · have hne : 32 * ci + i ≠ 32 * ci + j := by omega
      simp [fv, uI_mI, uF_mF, uP_mP, hne, hi, mI, mF, mP, uI, uF, uP]
theorem G_putF {ci j idx : Nat} {C : String} {T : u_T} {N : Nat} {ty : Nat → FieldType} (cf : CF ci C T N ty) {ob : Option Nat} {x : UInt32} {K : Mem → Option (α × Mem)} (hj : (kd ci)[j]? = some 1) (hty : ty j = .float) (hl : Jvm.Cond.fieldLink (mdO y) idx (T j).1 (T j).2.1 (T j).2.2.1 ∈ WS) (hfin : (T j).2.2.2 = false ∨ ((T j).2.2.2 = true ∧ (mdY y).name = "<init>" ∧ (T j).1 = mdO y)) (hd : decode (mdC y) pc = .ok (.putfield idx, 3)) (k : ∀ M1, G κ y cv (K M1) (pc + 3) lv st M1) : G κ y cv (pF M ci j ob x K) pc lv (.float x :: rv κ ob :: st) M := by
  cases ob with
  | none => exact G.none'
  | some a =>
    show G κ y cv (if (mS M a).1 = ci then K (uF M (32 * ci + j) a x) else none) pc lv _ M
    refine G.cond (fun hs => G.stepM (M' := uF M (32 * ci + j) a x) rfl rfl (k _) ?_) (fun _ => G.none')
    intro p l e R s m args below meth c H locs cells slots ls Q X hH hl0 kk
    have hlt : (mS M a).1 < 900 := by have := cf.1; have := hs; omega
    rw [rv_some, (hH.lt hlt).2]
    have hjl : j < (kd ci).length := (List.getElem?_eq_some_iff.mp hj).1
    have hjN : j < N := by rw [← cf.2.2.2.2.2]; exact hjl
    have hg : (kd ci).getD j 0 = 1 := by rw [List.getD_eq_getElem?_getD, hj]; rfl
    refine put_core (M' := uF M (32 * ci + j) a x) cf X hH hs hjN hl hfin (by rw [hty]; rfl) (by rw [hty]; rfl) rfl (fun _ => rfl) (fun k9 q h => ?_) (fun k9 q h => ?_) (fun k9 q h => ?_) ?_ hd kk
    all_goals first
      | rfl
      | (rw [uI_mI, if_neg (fun h9 => h h9.2)]; done)
      | (rw [uF_mF, if_neg (fun h9 => h h9.2)]; done)
      | (rw [uP_mP, if_neg (fun h9 => h h9.2)]; done)
      | skip
    refine fls_set hjl ?_ (fun i hi hil => ?_)
    · rw [hg]; simp [fv, uI_mI, uF_mF, uP_mP]
    · have hne : 32 * ci + i ≠ 32 * ci + j := by omega
      simp [fv, uI_mI, uF_mF, uP_mP, hne, hi, mI, mF, mP, uI, uF, uP]
theorem G_putP {ci j idx : Nat} {C : String} {T : u_T} {N : Nat} {ty : Nat → FieldType} (cf : CF ci C T N ty) {ob : Option Nat} {x : Option Nat} {K : Mem → Option (α × Mem)} (hj : (kd ci)[j]? = some 2) (hty : (∃ C9, ty j = .object C9) ∨ ∃ t9, ty j = .array t9) (hl : Jvm.Cond.fieldLink (mdO y) idx (T j).1 (T j).2.1 (T j).2.2.1 ∈ WS) (hfin : (T j).2.2.2 = false ∨ ((T j).2.2.2 = true ∧ (mdY y).name = "<init>" ∧ (T j).1 = mdO y)) (hd : decode (mdC y) pc = .ok (.putfield idx, 3)) (k : ∀ M1, G κ y cv (K M1) (pc + 3) lv st M1) : G κ y cv (pP M ci j ob x K) pc lv (rv κ x :: rv κ ob :: st) M := by
  cases ob with
  | none => exact G.none'
  | some a =>
    show G κ y cv (if (mS M a).1 = ci then K (uP M (32 * ci + j) a x) else none) pc lv _ M
    refine G.cond (fun hs => G.stepM (M' := uP M (32 * ci + j) a x) rfl rfl (k _) ?_) (fun _ => G.none')
    intro p l e R s m args below meth c H locs cells slots ls Q X hH hl0 kk
    have hlt : (mS M a).1 < 900 := by have := cf.1; have := hs; omega
    rw [rv_some, (hH.lt hlt).2]
    have hjl : j < (kd ci).length := (List.getElem?_eq_some_iff.mp hj).1
    have hjN : j < N := by rw [← cf.2.2.2.2.2]; exact hjl
    have hg : (kd ci).getD j 0 = 2 := by rw [List.getD_eq_getElem?_getD, hj]; rfl
    refine put_core (M' := uP M (32 * ci + j) a x) cf X hH hs hjN hl hfin (by rcases hty with ⟨_, h⟩ | ⟨_, h⟩ <;> rw [h] <;> cases x <;> rfl) (by rcases hty with ⟨_, h⟩ | ⟨_, h⟩ <;> rw [h] <;> cases x <;> rfl) rfl (fun _ => rfl) (fun k9 q h => ?_) (fun k9 q h => ?_) (fun k9 q h => ?_) ?_ hd kk
    all_goals first
      | rfl
      | (rw [uI_mI, if_neg (fun h9 => h h9.2)]; done)
      | (rw [uF_mF, if_neg (fun h9 => h h9.2)]; done)
      | (rw [uP_mP, if_neg (fun h9 => h h9.2)]; done)
      | skip
    refine fls_set hjl ?_ (fun i hi hil => ?_)
    · rw [hg]; simp [fv, uI_mI, uF_mF, uP_mP]
    · have hne : 32 * ci + i ≠ 32 * ci + j := by omega
      simp [fv, uI_mI, uF_mF, uP_mP, hne, hi, mI, mF, mP, uI, uF, uP]
theorem G_iald {ob : Option Nat} {i : Int32} {K : Int32 → Option (α × Mem)} (hd : decode (mdC y) pc = .ok (.iaload, 1)) (k : ∀ x, G κ y cv (K x) (pc + 1) lv (.int x :: st) M) : G κ y cv (aI M 100 ob i K) pc lv (.int i :: rv κ ob :: st) M := by
  cases ob with
  | none => exact G.none'
  | some a =>
    show G κ y cv (if (mS M a).1 = 100 ∧ 0 ≤ i.toInt ∧ i.toInt < (mS M a).2 then K (mI M (1000 + i.toInt.toNat) a) else none) pc lv _ M
    refine G.cond (fun hs => G.step (k _) ?_) (fun _ => G.none')
    intro p l e R s m args below meth c H locs cells slots ls Q X hH hl0 kk
    have hlt : (mS M a).1 < 900 := by have := hs.1; omega
    have hat := (hH.2.2.1 a hlt).2
    rw [enc_arrI hs.1 (by simp)] at hat
    rw [rv_some, (hH.lt hlt).2]
    exact va_iald X.1 X.2.1 X.K (P1 hat) 0 0 rfl rfl (vp_in_iff2 hs.2.1 hs.2.2) hd (kk ls hl0)
theorem G_cald {ob : Option Nat} {i : Int32} {K : Int32 → Option (α × Mem)} (hd : decode (mdC y) pc = .ok (.caload, 1)) (k : ∀ x, G κ y cv (K x) (pc + 1) lv (.int x :: st) M) : G κ y cv (aI M 101 ob i K) pc lv (.int i :: rv κ ob :: st) M := by
  cases ob with
  | none => exact G.none'
  | some a =>
    show G κ y cv (if (mS M a).1 = 101 ∧ 0 ≤ i.toInt ∧ i.toInt < (mS M a).2 then K (mI M (1000 + i.toInt.toNat) a) else none) pc lv _ M
    refine G.cond (fun hs => G.step (k _) ?_) (fun _ => G.none')
    intro p l e R s m args below meth c H locs cells slots ls Q X hH hl0 kk
    have hlt : (mS M a).1 < 900 := by have := hs.1; omega
    have hat := (hH.2.2.1 a hlt).2
    rw [enc_arrI hs.1 (by simp)] at hat
    rw [rv_some, (hH.lt hlt).2]
    exact va_cald X.1 X.2.1 X.K (P1 hat) 0 1 rfl rfl (vp_in_iff2 hs.2.1 hs.2.2) hd (kk ls hl0)
theorem G_fald {ob : Option Nat} {i : Int32} {K : UInt32 → Option (α × Mem)} (hd : decode (mdC y) pc = .ok (.faload, 1)) (k : ∀ x, G κ y cv (K x) (pc + 1) lv (.float x :: st) M) : G κ y cv (aF M 102 ob i K) pc lv (.int i :: rv κ ob :: st) M := by
  cases ob with
  | none => exact G.none'
  | some a =>
    show G κ y cv (if (mS M a).1 = 102 ∧ 0 ≤ i.toInt ∧ i.toInt < (mS M a).2 then K (mF M (1000 + i.toInt.toNat) a) else none) pc lv _ M
    refine G.cond (fun hs => G.step (k _) ?_) (fun _ => G.none')
    intro p l e R s m args below meth c H locs cells slots ls Q X hH hl0 kk
    have hlt : (mS M a).1 < 900 := by have := hs.1; omega
    have hat := (hH.2.2.1 a hlt).2
    rw [enc_arrF hs.1 rfl] at hat
    rw [rv_some, (hH.lt hlt).2]
    exact va_fald X.1 X.2.1 X.K (P1 hat) 0 2 rfl rfl (vp_in_iff2 hs.2.1 hs.2.2) hd (kk ls hl0)
theorem G_aald {t tn : Nat} {C : String} (ht : tys κ = tys κ → (tys κ)[tn]? = some (kA κ t, .object C)) (ht1 : 110 ≤ t ∧ t < 900) {ob : Option Nat} {i : Int32} {K : Option Nat → Option (α × Mem)} (hd : decode (mdC y) pc = .ok (.aaload, 1)) (k : ∀ x, G κ y cv (K x) (pc + 1) lv (rv κ x :: st) M) : G κ y cv (aP M t ob i K) pc lv (.int i :: rv κ ob :: st) M := by
  cases ob with
  | none => exact G.none'
  | some a =>
    show G κ y cv (if (mS M a).1 = t ∧ 0 ≤ i.toInt ∧ i.toInt < (mS M a).2 then K (mP M (1000 + i.toInt.toNat) a) else none) pc lv _ M
    refine G.cond (fun hs => G.step (k _) ?_) (fun _ => G.none')
    intro p l e R s m args below meth c H locs cells slots ls Q X hH hl0 kk
    have hlt : (mS M a).1 < 900 := by have := hs.1; omega
    have hat := (hH.2.2.1 a hlt).2
    rw [enc_arrP hs.1 ht1.1] at hat
    rw [rv_some, (hH.lt hlt).2]
    exact va_aldq X.1 X.2.1 X.K (P1 hat) 0 tn rfl (ht rfl) (vp_in_iff2 hs.2.1 hs.2.2) hd (kk ls hl0)
theorem G_alen {t tn : Nat} {ty : FieldType} (ht : tys κ = tys κ → (tys κ)[tn]? = some (kA κ t, ty)) (ht1 : 100 ≤ t ∧ t < 900) {ob : Option Nat} {K : Int32 → Option (α × Mem)} (hd : decode (mdC y) pc = .ok (.arraylength, 1)) (k : ∀ x, G κ y cv (K x) (pc + 1) lv (.int x :: st) M) : G κ y cv (aL M t ob K) pc lv (rv κ ob :: st) M := by
  cases ob with
  | none => exact G.none'
  | some a =>
    show G κ y cv (if (mS M a).1 = t then K (Int32.ofNat (mS M a).2) else none) pc lv _ M
    refine G.cond (fun hs => G.step (k _) ?_) (fun _ => G.none')
    intro p l e R s m args below meth c H locs cells slots ls Q X hH hl0 kk
    have hlt : (mS M a).1 < 900 := by omega
    have hat := (hH.2.2.1 a hlt).2
    rw [rv_some, (hH.lt hlt).2]
    by_cases h1 : t < 102
    · rw [enc_arrI hs (by omega)] at hat
      exact va_alen X.1 X.2.1 X.K (P1 hat) 0 tn rfl (ht rfl) rfl hd (kk ls hl0)
    · by_cases h2 : t < 110
      · unfold enc at hat
        rw [if_neg (by omega), if_neg (by omega), if_pos (by omega), hs] at hat
        exact va_alen X.1 X.2.1 X.K (P1 hat) 0 tn rfl (ht rfl) rfl hd (kk ls hl0)
      · rw [enc_arrP hs (by omega)] at hat
        exact va_alen X.1 X.2.1 X.K (P1 hat) 0 tn rfl (ht rfl) rfl hd (kk ls hl0)
theorem G_iast {ob : Option Nat} {i : Int32} {x : Int32} {K : Mem → Option (α × Mem)} (hd : decode (mdC y) pc = .ok (.iastore, 1)) (k : ∀ M1, G κ y cv (K M1) (pc + 1) lv st M1) : G κ y cv (sI M 100 ob i x K) pc lv (.int x :: .int i :: rv κ ob :: st) M := by
  cases ob with
  | none => exact G.none'
  | some a =>
    show G κ y cv (if (mS M a).1 = 100 ∧ 0 ≤ i.toInt ∧ i.toInt < (mS M a).2 then K (uI M (1000 + i.toInt.toNat) a x) else none) pc lv _ M
    refine G.cond (fun hs => G.stepM (M' := uI M (1000 + i.toInt.toNat) a x) rfl rfl (k _) ?_) (fun _ => G.none')
    intro p l e R s m args below meth c H locs cells slots ls Q X hH hl0 kk
    have hlt : (mS M a).1 < 900 := by have := hs.1; omega
    have hat := (hH.2.2.1 a hlt).2
    rw [enc_arrI hs.1 (by simp)] at hat
    rw [rv_some, (hH.lt hlt).2]
    refine W.iast X.1 X.2.1 hat ((X.K.2 0 _ rfl).1 _ (fun j => .int (mI M (1000 + j) a))) (fun q => by cases q) (by show ¬ (i < 0 ∨ (arrV _ _ _).slots.size ≤ _); rw [arrV_size]; exact vp_in_iff2 hs.2.1 hs.2.2) rfl rfl hd fun H' e1 e2 e3 => kk H' a _ ?_
    refine hH.write (M' := uI M (1000 + i.toInt.toNat) a x) hlt rfl (fun _ => rfl) (fun k9 q h => ?_) (fun k9 q h => ?_) (fun k9 q h => ?_) ?_ e2 e3
    all_goals first
      | rfl
      | (rw [uI_mI, if_neg (fun h9 => h h9.2)]; done)
      | (rw [uF_mF, if_neg (fun h9 => h h9.2)]; done)
      | skip
    rw [enc_arrI (M := uI M (1000 + i.toInt.toNat) a x) hs.1 (by simp)]
    show H'[kB κ + a]? = some (vp_cell _ _)
    rw [e1]
    rw [vp_cell_i, vp_cell_i, arrV_store]
    congr 2
    funext q
    by_cases hq : q = i.toNatClampNeg
    · rw [hq]
      exact (if_pos rfl).trans (congrArg Value.int (if_pos ⟨rfl, rfl⟩)).symm
    · exact (if_neg hq).trans (congrArg Value.int (if_neg (fun h9 => hq (Nat.add_left_cancel h9.1)))).symm
theorem G_cast {ob : Option Nat} {i : Int32} {x : Int32} {K : Mem → Option (α × Mem)} (hd : decode (mdC y) pc = .ok (.castore, 1)) (k : ∀ M1, G κ y cv (K M1) (pc + 1) lv st M1) : G κ y cv (sI M 101 ob i (x.toUInt32.toUInt16.toUInt32.toInt32) K) pc lv (.int x :: .int i :: rv κ ob :: st) M := by
  cases ob with
  | none => exact G.none'
  | some a =>
    show G κ y cv (if (mS M a).1 = 101 ∧ 0 ≤ i.toInt ∧ i.toInt < (mS M a).2 then K (uI M (1000 + i.toInt.toNat) a (x.toUInt32.toUInt16.toUInt32.toInt32)) else none) pc lv _ M
    refine G.cond (fun hs => G.stepM (M' := uI M (1000 + i.toInt.toNat) a (x.toUInt32.toUInt16.toUInt32.toInt32)) rfl rfl (k _) ?_) (fun _ => G.none')
    intro p l e R s m args below meth c H locs cells slots ls Q X hH hl0 kk
    have hlt : (mS M a).1 < 900 := by have := hs.1; omega
    have hat := (hH.2.2.1 a hlt).2
    rw [enc_arrI hs.1 (by simp)] at hat
    rw [rv_some, (hH.lt hlt).2]
    refine W.cast X.1 X.2.1 hat ((X.K.2 1 _ rfl).1 _ (fun j => .int (mI M (1000 + j) a))) (fun q => by cases q) (by show ¬ (i < 0 ∨ (arrV _ _ _).slots.size ≤ _); rw [arrV_size]; exact vp_in_iff2 hs.2.1 hs.2.2) rfl rfl hd fun H' e1 e2 e3 => kk H' a _ ?_
    refine hH.write (M' := uI M (1000 + i.toInt.toNat) a (x.toUInt32.toUInt16.toUInt32.toInt32)) hlt rfl (fun _ => rfl) (fun k9 q h => ?_) (fun k9 q h => ?_) (fun k9 q h => ?_) ?_ e2 e3
    all_goals first
      | rfl
      | (rw [uI_mI, if_neg (fun h9 => h h9.2)]; done)
      | (rw [uF_mF, if_neg (fun h9 => h h9.2)]; done)
      | skip
    rw [enc_arrI (M := uI M (1000 + i.toInt.toNat) a (x.toUInt32.toUInt16.toUInt32.toInt32)) hs.1 (by simp)]
    show H'[kB κ + a]? = some (vp_cell _ _)
    rw [e1]
    rw [vp_cell_i, vp_cell_i, arrV_store]
    congr 2
    funext q
    by_cases hq : q = i.toNatClampNeg
    · rw [hq]
      exact (if_pos rfl).trans (congrArg Value.int (if_pos ⟨rfl, rfl⟩)).symm
    · exact (if_neg hq).trans (congrArg Value.int (if_neg (fun h9 => hq (Nat.add_left_cancel h9.1)))).symm
theorem G_fast {ob : Option Nat} {i : Int32} {x : UInt32} {K : Mem → Option (α × Mem)} (hd : decode (mdC y) pc = .ok (.fastore, 1)) (k : ∀ M1, G κ y cv (K M1) (pc + 1) lv st M1) : G κ y cv (sF M 102 ob i x K) pc lv (.float x :: .int i :: rv κ ob :: st) M := by
  cases ob with
  | none => exact G.none'
  | some a =>
    show G κ y cv (if (mS M a).1 = 102 ∧ 0 ≤ i.toInt ∧ i.toInt < (mS M a).2 then K (uF M (1000 + i.toInt.toNat) a x) else none) pc lv _ M
    refine G.cond (fun hs => G.stepM (M' := uF M (1000 + i.toInt.toNat) a x) rfl rfl (k _) ?_) (fun _ => G.none')
    intro p l e R s m args below meth c H locs cells slots ls Q X hH hl0 kk
    have hlt : (mS M a).1 < 900 := by have := hs.1; omega
    have hat := (hH.2.2.1 a hlt).2
    rw [enc_arrF hs.1 rfl] at hat
    rw [rv_some, (hH.lt hlt).2]
    refine W.fast X.1 X.2.1 hat ((X.K.2 2 _ rfl).1 _ (fun j => .float (mF M (1000 + j) a))) (fun q => by cases q) (by show ¬ (i < 0 ∨ (arrV _ _ _).slots.size ≤ _); rw [arrV_size]; exact vp_in_iff2 hs.2.1 hs.2.2) rfl rfl hd fun H' e1 e2 e3 => kk H' a _ ?_
    refine hH.write (M' := uF M (1000 + i.toInt.toNat) a x) hlt rfl (fun _ => rfl) (fun k9 q h => ?_) (fun k9 q h => ?_) (fun k9 q h => ?_) ?_ e2 e3
    all_goals first
      | rfl
      | (rw [uI_mI, if_neg (fun h9 => h h9.2)]; done)
      | (rw [uF_mF, if_neg (fun h9 => h h9.2)]; done)
      | skip
    rw [enc_arrF (M := uF M (1000 + i.toInt.toNat) a x) hs.1 rfl]
    show H'[kB κ + a]? = some (vp_cell _ _)
    rw [e1]
    rw [vp_cell_f, vp_cell_f, arrV_store]
    congr 2
    funext q
    by_cases hq : q = i.toNatClampNeg
    · rw [hq]
      exact (if_pos rfl).trans (congrArg Value.float (if_pos ⟨rfl, rfl⟩)).symm
    · exact (if_neg hq).trans (congrArg Value.float (if_neg (fun h9 => hq (Nat.add_left_cancel h9.1)))).symm
theorem G_aast {ci tn : Nat} {C : String} {T : u_T} {N : Nat} {ty : Nat → FieldType} (cf : CF ci C T N ty) (ht : tys κ = tys κ → (tys κ)[tn]? = some (kA κ (110 + ci), .object C)) {ob : Option Nat} {i : Int32} {x : Option Nat} {K : Mem → Option (α × Mem)} (hd : decode (mdC y) pc = .ok (.aastore, 1)) (k : ∀ M1, G κ y cv (K M1) (pc + 1) lv st M1) : G κ y cv (sP M ci ob i x K) pc lv (rv κ x :: .int i :: rv κ ob :: st) M := by
  cases ob with
  | none => exact G.none'
  | some a =>
    unfold sP
    show G κ y cv (if _ then K (uP M (1000 + i.toInt.toNat) a x) else none) pc lv _ M
    refine G.cond (fun hs => ?_) (fun _ => G.none')
    obtain ⟨hs1, hs2, hs3, v, rfl, hv⟩ := hs
    refine G.stepM (M' := uP M (1000 + i.toInt.toNat) a (some v)) rfl rfl (k _) ?_
    intro p l e R s m args below meth c H locs cells slots ls Q X hH hl0 kk
    have hlt : (mS M a).1 < 900 := by have := cf.1; omega
    have hltv : (mS M v).1 < 900 := by have := cf.1; omega
    have hat := (hH.2.2.1 a hlt).2
    rw [enc_arrP hs1 (by omega)] at hat
    have hatv := (hH.2.2.1 v hltv).2
    rw [enc_obj hv cf.1] at hatv
    obtain ⟨r', hr', cellV, g1, g2, g3, -⟩ := hatv
    have hr : r' = (C, T, N) := Option.some.inj (hr'.symm.trans cf.2.1)
    subst hr
    have hcls := (X.K.1 ci _ cf.2.1).2
    obtain ⟨kA9, comp, k1, k2, k3, -⟩ := (X.K.2 tn _ (ht rfl)).2
    have hcomp : comp = (kD κ).1 ci := Option.some.inj (k3.symm.trans hcls.1)
    subst hcomp
    obtain ⟨kC, hkC, -⟩ := hcls.2
    have hil : i.toNatClampNeg < (mS M a).2 := by have : i.toNatClampNeg = i.toInt.toNat := rfl; omega
    have h0 : ¬ i < 0 := fun q => by rw [Int32.lt_iff_toInt_lt] at q; simp at q; omega
    rw [rv_some, rv_some, (hH.lt hlt).2, (hH.lt hltv).2]
    refine W.aast X.1 X.2.1 hat (fun q h => by cases h) (fun h => by cases h) k1 k2 rfl hkC ⟨h0, by show _ < (arrV _ _ _).slots.size; rw [arrV_size]; exact hil⟩ g1 (fun q h => by rw [g3] at h; cases h) (by rw [g2]; exact hkC) (by rw [g2]; exact va_assign hcls) rfl rfl hd fun H' e1 e2 e3 => kk H' a _ ?_
    refine hH.write (M' := uP M (1000 + i.toInt.toNat) a (some v)) hlt rfl (fun _ => rfl) (fun k9 q h => rfl) (fun k9 q h => rfl) (fun k9 q h => ?_) ?_ e2 e3
    · rw [uP_mP, if_neg (fun h9 => h h9.2)]
    rw [enc_arrP (M := uP M (1000 + i.toInt.toNat) a (some v)) hs1 (by omega)]
    show H'[kB κ + a]? = some (vp_cell _ _)
    rw [e1]
    rw [vp_cell_q, vp_cell_q, arrV_store]
    congr 2
    funext q
    by_cases hq : q = i.toNatClampNeg
    · rw [hq]
      refine (if_pos rfl).trans ?_
      have e8 : mP (uP M (1000 + i.toInt.toNat) a (some v)) (1000 + i.toNatClampNeg) a = some v := if_pos ⟨rfl, rfl⟩
      rw [e8]
      show Value.ref (kB κ + v) = Value.ref (kad κ v)
      rw [(hH.lt hltv).2]
    · refine (if_neg hq).trans ?_
      have e8 : mP (uP M (1000 + i.toInt.toNat) a (some v)) (1000 + q) a = mP M (1000 + q) a := if_neg (fun h9 => hq (Nat.add_left_cancel h9.1))
      rw [e8]
theorem fls_new {κ : Cfg} {M : Mem} {ci sl : Nat} {ty : Nat → FieldType} {N : Nat} (hk : (kd ci).length = N) (hd : ∀ j, j < N → ((kd ci).getD j 0 = 0 → defaultValue (ty j) = .int 0) ∧ ((kd ci).getD j 0 = 1 → defaultValue (ty j) = .float 0) ∧ ((kd ci).getD j 0 = 2 → defaultValue (ty j) = .null) ∧ (kd ci).getD j 0 ≤ 2) : ∀ j, j < N → defaultValue (ty j) = vp_V (fls κ (nw M (ci, 0) sl) ci (mN M)) j := by
  intro j hj
  have h1 : vp_V (fls κ (nw M (ci, 0) sl) ci (mN M)) j = fv κ (nw M (ci, 0) sl) ((kd ci).getD j 0) (32 * ci + j) (mN M) := by
    simp only [vp_V, fls, List.getD_eq_getElem?_getD, List.getElem?_map, List.getElem?_range (show j < (kd ci).length by omega), Option.map_some, Option.getD_some]
  rw [h1]
  obtain ⟨a0, a1, a2, a3⟩ := hd j hj
  have eI : mI (nw M (ci, 0) sl) (32 * ci + j) (mN M) = 0 := if_pos rfl
  have eF : mF (nw M (ci, 0) sl) (32 * ci + j) (mN M) = 0 := if_pos rfl
  have eP : mP (nw M (ci, 0) sl) (32 * ci + j) (mN M) = none := if_pos rfl
  unfold fv
  rw [eI, eF, eP]
  by_cases h0 : (kd ci).getD j 0 = 0
  · rw [if_pos h0]; exact a0 h0
  · rw [if_neg h0]
    by_cases h1 : (kd ci).getD j 0 = 1
    · rw [if_pos h1]; exact a1 h1
    · rw [if_neg h1]; exact a2 (by omega)
/-- the defaults of a class's fields are those of its kinds -/
def CD (ci N : Nat) (ty : Nat → FieldType) : Prop := ∀ j, j < N → ((kd ci).getD j 0 = 0 → defaultValue (ty j) = .int 0) ∧ ((kd ci).getD j 0 = 1 → defaultValue (ty j) = .float 0) ∧ ((kd ci).getD j 0 = 2 → defaultValue (ty j) = .null) ∧ (kd ci).getD j 0 ≤ 2
theorem G_new {ci idx : Nat} {C : String} {T : u_T} {N : Nat} {ty : Nat → FieldType} (cf : CF ci C T N ty) (cd : CD ci N ty) {K : Option Nat → Mem → Option (α × Mem)} (h1 : Jvm.Cond.classLink (mdO y) idx C ∈ WS) (h2 : Jvm.Cond.instantiable C N ∈ WS) (h3 : Jvm.Cond.initialized C ∈ WS) (hd : decode (mdC y) pc = .ok (.new idx, 3)) (k : ∀ q M1, G κ y cv (K q M1) (pc + 3) lv (rv κ q :: st) M1) : G κ y cv (nO M ci N K) pc lv st M := by
  unfold nO
  refine G.cond (fun hs => G.stepN (M' := nw M (ci, 0) N) (sl := N) rfl rfl (k _ _) ?_) (fun _ => G.none')
  intro p l e R s m args below meth c H locs cells slots ls Q X hH hl0 hc hs9 kk
  have hKn := X.K.1 ci _ cf.2.1
  refine W.newcK X.1 X.2.1 X.2.2.2.1 (X.w _ h1) (X.w _ h2) (X.w _ h3) rfl hd hc hs9 hKn.2.1 rfl fun H1 kC hkC e1 z1 o1 => ?_
  have e9 : kad κ (mN M) = H.size := by rw [kad_lt (by omega), hH.1]
  rw [rv_some, e9] at kk
  refine kk H1 (hH.push hs (by have := cf.1; show ci < 900; omega) ?_ z1 o1)
  rw [enc_obj (show (mS (nw M (ci, 0) N) (mN M)).1 = ci by show (if mN M = mN M then (ci, 0) else _).1 = ci; rw [if_pos rfl]) cf.1]
  refine ⟨_, cf.2.1, ?_⟩
  rw [← hH.1]
  exact (u_born ty X.w cf.2.2.1 hKn hkC e1 cf.2.2.2.1).to (fls_new cf.2.2.2.2.2 cd)
theorem ra_uniq {U : State} {cA cB : ClassId} {t : FieldType} (h : va_RA U cA t) (h2 : U.vm.findClass ("[" ++ t.toString) = some cB) : cA = cB := by
  have : U.vm.findClass ("[" ++ t.toString) = some cA := by
    cases t with
    | object C => obtain ⟨_, _, _, _, _, h4⟩ := h; exact h4
    | _ => exact h
  rw [this] at h2
  exact Option.some.inj h2
theorem G_newq {ci idx tn : Nat} {C : String} {T : u_T} {N : Nat} {ty : Nat → FieldType} (cf : CF ci C T N ty) (ht : tys κ = tys κ → (tys κ)[tn]? = some (kA κ (110 + ci), .object C)) (hao : C ∈ [RX0, RX2, RX3, RX5, RX8, RX9]) {n : Int32} {K : Option Nat → Mem → Option (α × Mem)} (h1 : Jvm.Cond.classLink (mdO y) idx C ∈ WS) (hd : decode (mdC y) pc = .ok (.anewarray idx, 3)) (k : ∀ q M1, G κ y cv (K q M1) (pc + 3) lv (rv κ q :: st) M1) : G κ y cv (nA M (110 + ci) n K) pc lv (.int n :: st) M := by
  unfold nA
  refine G.cond (fun hs => G.stepN (M' := nw M (110 + ci, n.toInt.toNat) n.toInt.toNat) (sl := n.toInt.toNat) rfl rfl (k _ _) ?_) (fun _ => G.none')
  intro p l e R s m args below meth c H locs cells slots ls Q X hH hl0 hc hs9 kk
  have e0 : n.toNatClampNeg = n.toInt.toNat := rfl
  have hn0 : ¬ n < 0 := fun q => by rw [Int32.lt_iff_toInt_lt] at q; simp at q; omega
  refine W.anew X.1 X.2.1 X.2.2.2.1 (X.w _ h1) (va_AO.use (X.2.2.2.2.2.2.2.2.1.2.2.1 C hao)) rfl hd rfl hn0 (by omega) hc hs9 fun cA kA9 comp f1 f2 f3 f4 => ?_
  have e9 : kad κ (mN M) = H.size := by rw [kad_lt (by omega), hH.1]
  rw [rv_some, e9] at kk
  have hcA := ra_uniq (X.K.2 tn _ (ht rfl)).2 f1
  refine kk _ (hH.push hs.1 (by have := cf.1; show 110 + ci < 900; omega) ?_ (Array.size_push ..) (fun q hq => by rw [Array.getElem?_push, if_neg (Nat.ne_of_lt hq)]))
  have es : (mS (nw M (110 + ci, n.toInt.toNat) n.toInt.toNat) (mN M)) = (110 + ci, n.toInt.toNat) := by show (if mN M = mN M then _ else _) = _; rw [if_pos rfl]
  rw [enc_arrP (by rw [es]) (by omega), es]
  show (H.push _)[kB κ + mN M]? = some (vp_cell _ _)
  rw [← hH.1, Array.getElem?_push_size, arrV_new, vp_cell_q, hcA, e0]
  congr 2
  funext j
  have : mP (nw M (110 + ci, n.toInt.toNat) n.toInt.toNat) (1000 + j) (mN M) = none := if_pos rfl
  rw [this]; rfl
theorem G_newa {at9 : ArrayType} {t : Nat} (ht : tys κ = tys κ → (tys κ)[t - 100]? = some (kA κ t, newarray.typeOf at9)) (hao : Jvm.Cond.arrayClass (newarray.typeOf at9) ∈ WS) (ht1 : (t = 100 ∧ at9 = .int) ∨ (t = 101 ∧ at9 = .char) ∨ (t = 102 ∧ at9 = .float)) {n : Int32} {K : Option Nat → Mem → Option (α × Mem)} (hd : decode (mdC y) pc = .ok (.newarray at9, 2)) (k : ∀ q M1, G κ y cv (K q M1) (pc + 2) lv (rv κ q :: st) M1) : G κ y cv (nA M t n K) pc lv (.int n :: st) M := by
  unfold nA
  refine G.cond (fun hs => G.stepN (M' := nw M (t, n.toInt.toNat) n.toInt.toNat) (sl := n.toInt.toNat) rfl rfl (k _ _) ?_) (fun _ => G.none')
  intro p l e R s m args below meth c H locs cells slots ls Q X hH hl0 hc hs9 kk
  have e0 : n.toNatClampNeg = n.toInt.toNat := rfl
  have hn0 : ¬ n < 0 := fun q => by rw [Int32.lt_iff_toInt_lt] at q; simp at q; omega
  have hb : n.toInt.toNat * componentBytes (newarray.typeOf at9) ≤ 536870912 := by
    rcases ht1 with ⟨-, rfl⟩ | ⟨-, rfl⟩ | ⟨-, rfl⟩ <;> simp [newarray.typeOf, componentBytes] <;> omega
  refine va_newaK X.1 X.2.1 (X.w _ hao) rfl hd rfl hn0 e0 hb hc hs9 rfl fun H' cA g1 g2 g3 g4 g5 => ?_
  have e9 : kad κ (mN M) = H.size := by rw [kad_lt (by omega), hH.1]
  rw [rv_some, e9] at kk
  have hcA := ra_uniq (X.K.2 (t - 100) _ (ht rfl)).2 g5
  refine kk H' (hH.push hs.1 (by show t < 900; omega) ?_ g2 g3)
  have es : (mS (nw M (t, n.toInt.toNat) n.toInt.toNat) (mN M)) = (t, n.toInt.toNat) := by show (if mN M = mN M then _ else _) = _; rw [if_pos rfl]
  have eI : ∀ j, mI (nw M (t, n.toInt.toNat) n.toInt.toNat) (1000 + j) (mN M) = 0 := fun _ => if_pos rfl
  have eF : ∀ j, mF (nw M (t, n.toInt.toNat) n.toInt.toNat) (1000 + j) (mN M) = 0 := fun _ => if_pos rfl
  rcases ht1 with ⟨rfl, rfl⟩ | ⟨rfl, rfl⟩ | ⟨rfl, rfl⟩
  · rw [enc_arrI (by rw [es]) (by simp), es]
    show H'[kB κ + mN M]? = some (vp_cell _ _)
    rw [← hH.1, g1, vp_cell_i, hcA]
    simp only [eI]; rfl
  · rw [enc_arrI (by rw [es]) (by simp), es]
    show H'[kB κ + mN M]? = some (vp_cell _ _)
    rw [← hH.1, g1, vp_cell_i, hcA]
    simp only [eI]; rfl
  · rw [enc_arrF (by rw [es]) rfl, es]
    show H'[kB κ + mN M]? = some (vp_cell _ _)
    rw [← hH.1, g1, vp_cell_f, hcA]
    simp only [eF]; rfl
end MEMRULES
end
section
/-! ===== contracts out of walks, and calls by contracts ===== -/
theorem NK.warm {κ : Cfg} {s U : State} (hW : s.WarmedH U.vm) (h : NK κ s) : NK κ U :=
  ⟨va_K.moved hW.alike h.1, fun q hq => va_Nw.warmM hW (h.2.1 q hq), fun C hC => va_AO.moved hW.alike (h.2.2.1 C hC),
   vk_S.moved hW.alike h.2.2.2.1, va_Z.moved hW.alike h.2.2.2.2.1, va_Zq.moved hW.alike h.2.2.2.2.2.1, vk_R.warm hW h.2.2.2.2.2.2.1, vk_R.warm hW h.2.2.2.2.2.2.2.1, vk_R.warm hW h.2.2.2.2.2.2.2.2.1, vk_R.warm hW h.2.2.2.2.2.2.2.2.2.1, vk_R.warm hW h.2.2.2.2.2.2.2.2.2.2.1, va_X.moved hW.alike h.2.2.2.2.2.2.2.2.2.2.2.1, h.2.2.2.2.2.2.2.2.2.2.2.2⟩
theorem PcK.blind {κ : Cfg} {as : List Value} {M : Mem} : FrameBlind (PcK κ as M) := fun a U g mk q =>
  ⟨q.1, q.2.1, NK.warm (s := U) (U := U.calling g mk a) (State.WarmedH.refl U) q.2.2⟩
def MOk (y : MD) (n : Nat) : Prop := plainName (mdY y).cls = true ∧ Jvm.Cond.code (mdY y) (mdC y) (mdL y) (mdR y) ∈ WS ∧ Jvm.Cond.initialized (mdY y).cls ∈ WS ∧ ((mdY y).cls ≠ "java/lang/invoke/MethodHandle" ∧ (mdY y).cls ≠ "java/lang/invoke/VarHandle") ∧ (parseMethodDescriptor (mdY y).desc).map (fun d => d.parameters.length) = some n ∧ mdO y = (mdY y).cls
def RetOk (κ : Cfg) (y : MD) {α : Type} (cv : α → Option Value) : Prop :=
  ∀ (a : α) (p : Program) (l : Launch) (e : Env) (R : Room) (s : State) (m : MethodId) (args : Array Value) (below : List Frame) (meth : Method) (c : Code) (H : Heap) (locs : List Loc) (cells slots : Nat) (ls : Array Slot) (pc : Nat) (Qc : Array Value → State → Outcome → State → Prop),
    p.tables.exec = Jvm.exec → c.code = mdC y → meth.sig.returnType = mdR y → meth.locks = false → decode (mdC y) pc = .ok (rIns (mdR y), 1) → (mdR y = some .boolean → cv a = some (.int 0) ∨ cv a = some (.int 1)) →
    (∀ t : State, t.heap = H → s.WarmedH t.vm → Qc args s (.returned (cv a)) t) → (∀ q ∈ locs, kB κ ≤ q.base) →
    W p l e R s m args below meth c H locs cells slots (MQ below Qc args s cells slots (fun q => kB κ ≤ q)) (F0 m pc ls (cv a).toList)
theorem ret_I {κ : Cfg} {y : MD} (h : mdR y = some .int) : RetOk κ y cvI := by
  intro a p l e R s m args below meth c H locs cells slots ls pc Qc hx hb hr hlk hd hbo hq hf
  rw [h] at hr hd
  exact W.iret hx hb hr hq hf hd hlk
theorem ret_Z {κ : Cfg} {y : MD} (h : mdR y = some .boolean) : RetOk κ y cvI := by
  intro a p l e R s m args below meth c H locs cells slots ls pc Qc hx hb hr hlk hd hbo hq hf
  have hbo2 := hbo h
  rw [h] at hr hd
  have hn : narrow .boolean (.int a) = .int a := by
    rcases hbo2 with h9 | h9
    · have e9 : a = 0 := by simpa [cvI] using h9
      rw [e9]; rfl
    · have e9 : a = 1 := by simpa [cvI] using h9
      rw [e9]; rfl
  exact W.zret hx hb hr hn hq hf hd hlk
theorem ret_F {κ : Cfg} {y : MD} (h : mdR y = some .float) : RetOk κ y cvF := by
  intro a p l e R s m args below meth c H locs cells slots ls pc Qc hx hb hr hlk hd hbo hq hf
  rw [h] at hr hd
  exact W.fret hx hb hr hq hf hd hlk
theorem ret_V {κ : Cfg} {y : MD} (h : mdR y = none) : RetOk κ y cvV := by
  intro a p l e R s m args below meth c H locs cells slots ls pc Qc hx hb hr hlk hd hbo hq hf
  rw [h] at hr hd
  exact W.vret hx hb hr hq hf hd hlk
theorem ret_Q {κ : Cfg} {y : MD} {C : String} (h : mdR y = some (.object C)) : RetOk κ y (cvQ κ) := by
  intro a p l e R s m args below meth c H locs cells slots ls pc Qc hx hb hr hlk hd hbo hq hf
  rw [h] at hr hd
  exact W.aret hx hb hr (Or.inl ⟨_, rfl⟩) (va_rf_or _) hq hf hd hlk
def lvA : Nat → List Value → List (Nat × Value)
  | _, [] => []
  | i, v :: vs => (i, v) :: lvA (i + 1) vs
theorem lvA_eq : ∀ (as : List Value) (i : Nat), (∀ v ∈ as, v.category = 1) → lv_args i as = lvA i as := by
  intro as
  induction as with
  | nil => intro i _; rfl
  | cons v vs ih =>
    intro i h
    have h1 : v.category = 1 := h v List.mem_cons_self
    show (i, v) :: lv_args (if v.category = 2 then i + 2 else i + 1) vs = (i, v) :: lvA (i + 1) vs
    rw [if_neg (by omega), ih (i + 1) (fun w hw => h w (List.mem_cons_of_mem _ hw))]
theorem lvA_cat : ∀ (as : List Value) (i : Nat), (∀ v ∈ as, v.category = 1) → ∀ q ∈ lvA i as, q.2.category = 1 := by
  intro as
  induction as with
  | nil => intro i _ q hq; cases hq
  | cons v vs ih =>
    intro i h q hq
    rcases List.mem_cons.mp hq with rfl | hq
    · exact h v List.mem_cons_self
    · exact ih (i + 1) (fun w hw => h w (List.mem_cons_of_mem _ hw)) q hq
theorem sl_len : ∀ (as : List Value), (∀ v ∈ as, v.category = 1) → (lg_sl as).length = as.length := by
  intro as
  induction as with
  | nil => intro _; rfl
  | cons v vs ih =>
    intro h
    have h1 : v.category = 1 := h v List.mem_cons_self
    have h2 := ih (fun w hw => h w (List.mem_cons_of_mem _ hw))
    simp only [lg_sl, List.flatMap_cons, h1] at h2 ⊢
    simp [h2]
theorem Con.of {κ : Cfg} {y : MD} {n : Nat} {α : Type} {cv : α → Option Value} {o : Option (α × Mem)} {as : List Value} {M : Mem} (ok : MOk y n) (ret : RetOk κ y cv) (hcat : ∀ v ∈ as, v.category = 1) (hlen : as.length ≤ mdL y) (h : G κ y cv o 0 (lvA 0 as) [] M) : Con κ y as M cv o := by
  intro r hr
  obtain ⟨h1, h2⟩ := h r hr
  refine ⟨h1, fun l => ?_⟩
  refine Met.ofW (cc := mdC y) (maxL := mdL y) (ret := mdR y) ok.1 rfl ?_
  intro p e s m args below meth c s₁ B hml hv
  obtain ⟨rfl, hH, hN⟩ := hv
  have hts : ∀ w ∈ wsOf y, w.before as.toArray s = true := atoms_spec (ws := wsOf y) B.pre
  rw [lg_entry_eq]
  have hl := lv_entry as (n := mdL y) (by rw [sl_len as hcat]; exact hlen)
  rw [lvA_eq as 0 hcat] at hl
  have X : Ctx κ y p (headSpec (wsOf y) { frames := mdF y, cells := mN r.2 - mN M, slots := mL r.2 - mL M, locals := mdK y }).room s m as.toArray meth c :=
    ⟨B.exec, B.bytes, hml, by rw [ok.2.2.2.2.2]; exact findClass_of_methodNamed B.named, fun w hw => hts w (List.mem_cons_of_mem _ hw), B.returns, B.notSynchronized, (name_of_methodNamed B.named B.method).1, hN, ⟨by rw [hH.1]; omega, hH.2.2.2⟩, Nat.le_refl _, Nat.le_refl _⟩
  refine h2 p l e _ s m as.toArray below meth c s.heap [] 0 0 _ _ X hH ⟨hl, lvA_cat as 0 hcat⟩ (fun q hq => by cases hq) (by rw [Nat.zero_add]; exact Nat.le_refl _) (by rw [Nat.zero_add]; exact Nat.le_refl _) ?_
  intro H' locs' ls' pc' hH' hlo' hd' hb'
  have hfin := ret r.1 p l e (headSpec (wsOf y) { frames := mdF y, cells := mN r.2 - mN M, slots := mL r.2 - mL M, locals := mdK y }).room s m as.toArray below meth c H' locs' (0 + (mN r.2 - mN M)) (0 + (mL r.2 - mL M)) ls' pc' (QcK κ (cv r.1) r.2) B.exec B.bytes B.returns B.notSynchronized hd' hb' (fun t ht _ => ⟨rfl, by rw [ht]; exact hH'⟩) hlo'
  rw [Nat.zero_add, Nat.zero_add] at hfin ⊢
  exact hfin
theorem cat_le (v : Value) : v.category ≤ 2 := by rcases lv_cat v with h | h <;> omega
theorem room_st (st : List Value) (h : st.length ≤ 4) : (st.map fun v => v.category).sum ≤ 8 := by
  have : ∀ (l : List Value), (l.map fun v => v.category).sum ≤ 2 * l.length := by
    intro l
    induction l with
    | nil => simp
    | cons v vs ih => have := cat_le v; simp only [List.map_cons, List.sum_cons, List.length_cons]; omega
  have := this st
  omega
section CALLS
variable {κ : Cfg} {y : MD} {α : Type} {cv : α → Option Value} {o : Option (α × Mem)} {pc : Nat} {lv : List (Nat × Value)} {st : List Value} {M : Mem}
theorem G_call {β : Type} {cv' : β → Option Value} {o' : Option (β × Mem)} {K : β → Mem → Option (α × Mem)} {y' : MD} {as stk : List Value} (hc : Con κ y' as M cv' o')
    (hrun : ∀ (p : Program) (l : Launch) (e : Env) (R : Room) (s : State) (m : MethodId) (args : Array Value) (below : List Frame) (meth : Method) (c : Code) (H : Heap) (locs : List Loc) (cells slots : Nat) (ls : Array Slot) (r : β × Mem),
      Ctx κ y p R s m args meth c → HR κ M H → LV ls (mdL y) lv →
      Met l (mdY y') (wsOf y') { frames := mdF y', cells := mN r.2 - mN M, slots := mL r.2 - mL M, locals := mdK y' } (PcK κ as M) (QcK κ (cv' r.1) r.2) (mN r.2 - mN M) (mL r.2 - mL M) (fun q => kB κ ≤ q) →
      cells + (mN r.2 - mN M) ≤ R.cells → slots + (mL r.2 - mL M) ≤ R.slots →
      va_Run p l e R s m args below meth c H locs cells slots (mN r.2 - mN M) (mL r.2 - mL M) (F0 m pc ls stk) st (QcK κ (cv' r.1) r.2 as.toArray) (fun q => kB κ ≤ q))
    (k : ∀ v M1, G κ y cv (K v M1) (pc + 3) lv ((cv' v).toList ++ st) M1) : G κ y cv (cl o' K) pc lv stk M := by
  intro r hr
  cases ho : o' with
  | none => rw [ho] at hr; cases hr
  | some z =>
    rw [ho] at hr
    obtain ⟨⟨a1, a2⟩, hmet⟩ := hc z ho
    obtain ⟨⟨b1, b2⟩, hw⟩ := k z.1 z.2 r hr
    refine ⟨⟨by omega, by omega⟩, ?_⟩
    intro p l e R s m args below meth c H locs cells slots ls Q X hH hl hlo hcl hsl fin
    have hr1 := hrun p l e R s m args below meth c H locs cells slots ls z X hH hl (hmet l) (by omega) (by omega)
    intro T hT XT
    obtain ⟨v, st₀, t, T', L, h0, X', hL, e1, e2, hq, hgo⟩ := hr1 T hT XT
    obtain ⟨hv, hH'⟩ := hq
    cases hv
    have e5 : cells + (mN z.2 - mN M) + (mN r.2 - mN z.2) = cells + (mN r.2 - mN M) := by omega
    have e6 : slots + (mL z.2 - mL M) + (mL r.2 - mL z.2) = slots + (mL r.2 - mL M) := by omega
    have h5 := hw p l e R s m args below meth c T'.heap (locs ++ L) (cells + (mN z.2 - mN M)) (slots + (mL z.2 - mL M)) ls Q X (by rw [e1]; exact hH') hl (fun q hq => by
      rcases List.mem_append.mp hq with h | h
      · exact hlo q h
      · exact hL q h)
    rw [e5, e6] at h5
    obtain ⟨t2, c1, d1⟩ := h5 hcl hsl fin T' rfl X'
    exact ⟨t2, hgo t2 c1, d1⟩
theorem MOk.len {y' : MD} {n : Nat} (ok : MOk y' n) : ∀ sig, parseMethodDescriptor (mdY y').desc = some sig → n = sig.parameters.length := by
  intro sig h
  have h2 := ok.2.2.2.2.1
  rw [h] at h2
  exact (Option.some.inj h2).symm
theorem ws_keep {p : Program} {R : Room} {s : State} {m : MethodId} {args : Array Value} {meth : Method} {c : Code} {y' : MD} {n : Nat} (ok : MOk y' n) (X : Ctx κ y p R s m args meth c) : ∀ w ∈ wsOf y', ∀ (a' : Array Value) (U : State), s.WarmedH U.vm → w.before a' U = true := by
  intro w hw a' U hW
  have hm : w ∈ WS := by
    rcases List.mem_cons.mp hw with rfl | h
    · exact ok.2.1
    · exact h
  exact word_at hW (good_of_word (ws_good w hm)) (X.w w hm)
theorem callB {p : Program} {R : Room} {s : State} {m : MethodId} {args : Array Value} {meth : Method} {c : Code} {y' : MD} {n idx mc ms : Nat} (ok : MOk y' n) (hl : Jvm.Cond.methodLink (mdO y) idx (mdY y') ∈ WS) (hF : mdF y' + 1 ≤ mdF y) (hK : 8 + (mdL y' + 11) + mdK y' ≤ mdK y) (X : Ctx κ y p R s m args meth c) :
    CallB R s args (mdO y) idx (mdY y') (mdC y') (mdL y') (mdR y') (wsOf y') { frames := mdF y', cells := mc, slots := ms, locals := mdK y' } mc ms n :=
  ⟨rfl, rfl, Nat.le_trans hF X.2.2.2.2.2.2.2.2.2.2.1, Nat.le_trans hK X.2.2.2.2.2.2.2.2.2.2.2, ws_keep ok X, List.mem_cons_self, X.w _ ok.2.1, X.w _ ok.2.2.1, ok.2.2.2.1, ok.len, X.w _ hl⟩
theorem callN {p : Program} {R : Room} {s : State} {m : MethodId} {args : Array Value} {meth : Method} {c : Code} {y' : MD} {n idx mc ms : Nat} (ok : MOk y' n) (hl : (mdO y, idx, mdY y') ∈ nestL) (hF : mdF y' + 1 ≤ mdF y) (hK : 8 + (mdL y' + 11) + mdK y' ≤ mdK y) (X : Ctx κ y p R s m args meth c) :
    va_CN R s args (mdO y) idx (mdY y') RX10 (mdC y') (mdL y') (mdR y') (wsOf y') { frames := mdF y', cells := mc, slots := ms, locals := mdK y' } mc ms n :=
  ⟨⟨rfl, rfl, Nat.le_trans hF X.2.2.2.2.2.2.2.2.2.2.1, Nat.le_trans hK X.2.2.2.2.2.2.2.2.2.2.2, ws_keep ok X, List.mem_cons_self⟩, X.w _ ok.2.1, X.w _ ok.2.2.1, ok.2.2.2.1, ok.len, va_Nw.use rfl (X.2.2.2.2.2.2.2.2.1.2.1 _ hl)⟩
theorem fix {p : Program} {R : Room} {s : State} {m : MethodId} {args : Array Value} {meth : Method} {c : Code} (X : Ctx κ y p R s m args meth c) : CallFix p m c (mdC y) (mdL y) s args WS (mdO y) := ⟨X.1, X.2.1, X.2.2.1, X.2.2.2.1, X.w⟩
theorem preS {p : Program} {R : Room} {s : State} {m : MethodId} {args : Array Value} {meth : Method} {c : Code} {H : Heap} {as : List Value} (X : Ctx κ y p R s m args meth c) (hH : HR κ M H) : PreS s H (PcK κ as M) as :=
  ⟨PcK.blind, fun U hU hW => ⟨rfl, by rw [hU]; exact hH, NK.warm hW X.2.2.2.2.2.2.2.2.1⟩⟩
theorem G_callS {β : Type} {cv' : β → Option Value} {o' : Option (β × Mem)} {K : β → Mem → Option (α × Mem)} {y' : MD} {n idx : Nat} (ok : MOk y' n) (as st : List Value) {stk : List Value} (hc : Con κ y' as M cv' o') (hn : as.length = n)
    (hl : Jvm.Cond.methodLink (mdO y) idx (mdY y') ∈ WS) (hst : Jvm.Cond.static (mdY y') ∈ WS) (hF : mdF y' + 1 ≤ mdF y) (hK : 8 + (mdL y' + 11) + mdK y' ≤ mdK y) (hd : decode (mdC y) pc = .ok (.invokestatic idx, 3)) (hstk : stk = as.reverse ++ st) (h4 : st.length ≤ 4)
    (k : ∀ v M1, G κ y cv (K v M1) (pc + 3) lv ((cv' v).toList ++ st) M1) : G κ y cv (cl o' K) pc lv stk M := by
  subst hstk
  refine G_call hc ?_ k
  intro p l e R s m args below meth c H locs cells slots ls r X hH hl0 hM h1 h2
  exact va_runS (fix X) hM ⟨callB ok hl hF hK X, X.w _ hst⟩ (preS X hH) rfl hn hl0.1.1 rfl (lv_room (room_st st h4)) hd ⟨h1, h2⟩
theorem G_callSN {β : Type} {cv' : β → Option Value} {o' : Option (β × Mem)} {K : β → Mem → Option (α × Mem)} {y' : MD} {n idx : Nat} (ok : MOk y' n) (as st : List Value) {stk : List Value} (hc : Con κ y' as M cv' o') (hn : as.length = n)
    (hl : (mdO y, idx, mdY y') ∈ nestL) (hst : Jvm.Cond.static (mdY y') ∈ WS) (hF : mdF y' + 1 ≤ mdF y) (hK : 8 + (mdL y' + 11) + mdK y' ≤ mdK y) (hd : decode (mdC y) pc = .ok (.invokestatic idx, 3)) (hstk : stk = as.reverse ++ st) (h4 : st.length ≤ 4)
    (k : ∀ v M1, G κ y cv (K v M1) (pc + 3) lv ((cv' v).toList ++ st) M1) : G κ y cv (cl o' K) pc lv stk M := by
  subst hstk
  refine G_call hc ?_ k
  intro p l e R s m args below meth c H locs cells slots ls r X hH hl0 hM h1 h2
  exact va_runSN (fix X) hM ⟨callN ok hl hF hK X, X.w _ hst, trivial⟩ (preS X hH) rfl hn hl0.1.1 rfl (lv_room (room_st st h4)) hd ⟨h1, h2⟩
theorem G_callV {β : Type} {cv' : β → Option Value} {o' : Option (β × Mem)} {K : β → Mem → Option (α × Mem)} {y' : MD} {n idx ci : Nat} {C : String} {T : u_T} {N : Nat} {ty : Nat → FieldType} (cf : CF ci C T N ty) (ok : MOk y' n) (as st : List Value) {stk : List Value} {ob : Option Nat} (hc : Con κ y' (rv κ ob :: as) M cv' o') (hn : as.length = n)
    (hl : Jvm.Cond.methodLink (mdO y) idx (mdY y') ∈ WS) (hin : Jvm.Cond.instanceMethod (mdY y') ∈ WS) (hsel : Jvm.Cond.selects C (mdY y') (mdY y') ∈ WS) (hF : mdF y' + 1 ≤ mdF y) (hK : 8 + (mdL y' + 11) + mdK y' ≤ mdK y) (hd : decode (mdC y) pc = .ok (.invokevirtual idx, 3)) (hstk : stk = as.reverse ++ rv κ ob :: st) (h4 : st.length ≤ 4)
    (k : ∀ v M1, G κ y cv (K v M1) (pc + 3) lv ((cv' v).toList ++ st) M1) : G κ y cv (rc M ci ob (cl o' K)) pc lv stk M := by
  subst hstk
  cases ob with
  | none => exact G.none'
  | some a =>
    show G κ y cv (if (mS M a).1 = ci then cl o' K else none) pc lv _ M
    refine G.cond (fun hs => ?_) (fun _ => G.none')
    refine G_call hc ?_ k
    intro p l e R s m args below meth c H locs cells slots ls r X hH hl0 hM h1 h2
    have hlt : (mS M a).1 < 900 := by have := cf.1; omega
    have hat := (hH.2.2.1 a hlt).2
    rw [enc_obj hs cf.1] at hat
    obtain ⟨cell, g1, g2, g3⟩ := va_recv X.K (P1 hat) (ci := ci) (q0 := 0) cf.2.1 rfl
    rw [← (hH.lt hlt).2] at g1
    exact va_runV (C := C) (b := kad κ a) (As := as) (fix X) hM ⟨callB ok hl hF hK X, X.w _ hin, X.w _ hsel⟩ ⟨PcK.blind, ⟨cell, g1, g2, g3⟩, (preS X hH).2⟩ rfl hn hl0.1.1 rfl (lv_room (room_st st h4)) hd ⟨h1, h2⟩
theorem G_callI {o' : Option (Unit × Mem)} {K : Unit → Mem → Option (α × Mem)} {y' : MD} {n idx : Nat} (ok : MOk y' n) (as st : List Value) {stk : List Value} {ob : Option Nat} {ci : Nat} (hc : Con κ y' (rv κ ob :: as) M cvV o') (hn : as.length = n)
    (hl : Jvm.Cond.methodLink (mdO y) idx (mdY y') ∈ WS) (hin : Jvm.Cond.instanceMethod (mdY y') ∈ WS) (hnm : (mdY y').name = "<init>") (hrt : mdR y' = none) (hF : mdF y' + 1 ≤ mdF y) (hK : 8 + (mdL y' + 11) + mdK y' ≤ mdK y) (hd : decode (mdC y) pc = .ok (.invokespecial idx, 3)) (hstk : stk = as.reverse ++ rv κ ob :: st) (h4 : st.length ≤ 4)
    (k : ∀ v M1, G κ y cv (K v M1) (pc + 3) lv st M1) : G κ y cv (rc M ci ob (cl o' K)) pc lv stk M := by
  subst hstk
  cases ob with
  | none => exact G.none'
  | some a =>
    show G κ y cv (if (mS M a).1 = ci then cl o' K else none) pc lv _ M
    refine G.cond (fun hs => ?_) (fun _ => G.none')
    refine G_call hc ?_ k
    intro p l e R s m args below meth c H locs cells slots ls r X hH hl0 hM h1 h2
    have hcb := callB (mc := mN r.2 - mN M) (ms := mL r.2 - mL M) ok hl hF hK X
    rw [hrt] at hcb
    exact va_runI (b := kad κ a) (As := as) (fix X) hM ⟨hcb, hnm, X.w _ hin⟩ (preS X hH) rfl hn hl0.1.1 rfl (lv_room (room_st st h4)) hd ⟨h1, h2⟩
theorem G_callIN {o' : Option (Unit × Mem)} {K : Unit → Mem → Option (α × Mem)} {y' : MD} {n idx : Nat} (ok : MOk y' n) (as st : List Value) {stk : List Value} {ob : Option Nat} {ci : Nat} (hc : Con κ y' (rv κ ob :: as) M cvV o') (hn : as.length = n)
    (hl : (mdO y, idx, mdY y') ∈ nestL) (hin : Jvm.Cond.instanceMethod (mdY y') ∈ WS) (hnm : (mdY y').name = "<init>") (hrt : mdR y' = none) (hF : mdF y' + 1 ≤ mdF y) (hK : 8 + (mdL y' + 11) + mdK y' ≤ mdK y) (hd : decode (mdC y) pc = .ok (.invokespecial idx, 3)) (hstk : stk = as.reverse ++ rv κ ob :: st) (h4 : st.length ≤ 4)
    (k : ∀ v M1, G κ y cv (K v M1) (pc + 3) lv st M1) : G κ y cv (rc M ci ob (cl o' K)) pc lv stk M := by
  subst hstk
  cases ob with
  | none => exact G.none'
  | some a =>
    show G κ y cv (if (mS M a).1 = ci then cl o' K else none) pc lv _ M
    refine G.cond (fun hs => ?_) (fun _ => G.none')
    refine G_call hc ?_ k
    intro p l e R s m args below meth c H locs cells slots ls r X hH hl0 hM h1 h2
    have hcb := callN (mc := mN r.2 - mN M) (ms := mL r.2 - mL M) ok hl hF hK X
    rw [hrt] at hcb
    exact va_runIN (b := kad κ a) (As := as) (fix X) hM ⟨hcb, hnm, X.w _ hin⟩ (preS X hH) rfl hn hl0.1.1 rfl (lv_room (room_st st h4)) hd ⟨h1, h2⟩
/-- Object's own constructor -/
def oi {β : Type} (ob : Option Nat) (r : Option β) : Option β := match ob with | none => none | some _ => r
theorem G_objInit {ob : Option Nat} {idx : Nat} (hl : Jvm.Cond.methodLink (mdO y) idx Lib.objectInit ∈ WS) (hin : Jvm.Cond.instanceMethod Lib.objectInit ∈ WS) (hco : Jvm.Cond.code Lib.objectInit ⟨#[0xb1]⟩ 1 none ∈ WS) (hF : 1 ≤ mdF y) (hK : 20 ≤ mdK y) (h4 : st.length ≤ 4) (hd : decode (mdC y) pc = .ok (.invokespecial idx, 3)) (k : G κ y cv o (pc + 3) lv st M) : G κ y cv (oi ob o) pc lv (rv κ ob :: st) M := by
  cases ob with
  | none => exact G.none'
  | some a =>
    refine G.step k ?_
    intro p l e R s m args below meth c H locs cells slots ls Q X hH hl0 kk
    exact W.objInit X.1 X.2.1 X.2.2.2.1 (X.w _ hl) (X.w _ hin) (X.w _ hco) rfl (hl0.1.1.trans X.2.2.1.symm) rfl hd (Nat.le_trans hF X.2.2.2.2.2.2.2.2.2.2.1) (by
      have h8 := lv_room (m := m) (pc := pc) (ls := ls) (rest := rv κ (some a) :: st) (room_st st h4)
      have h9 := X.2.2.2.2.2.2.2.2.2.2.2
      omega) (kk ls hl0)
def imax (x z : Int32) : Int32 := if x < z then z else x
def imin (x z : Int32) : Int32 := if z < x then z else x
theorem G_max {x z : Int32} {idx : Nat} (hl : Jvm.Cond.methodLink (mdO y) idx Lib.Math.max.name ∈ WS) (h1 : Jvm.Cond.static Lib.Math.max.name ∈ WS) (h2 : Jvm.Cond.initialized "java/lang/Math" ∈ WS) (h3 : Jvm.Cond.code Lib.Math.max.name Lib.Math.max.code 2 (some .int) ∈ WS) (hF : 1 ≤ mdF y) (hK : 21 ≤ mdK y) (h4 : st.length ≤ 4) (hd : decode (mdC y) pc = .ok (.invokestatic idx, 3)) (k : G κ y cv o (pc + 3) lv (.int (imax x z) :: st) M) : G κ y cv o pc lv (.int z :: .int x :: st) M := by
  intro r hr
  obtain ⟨g1, g2⟩ := k r hr
  refine ⟨g1, ?_⟩
  intro p l e R s m args below meth c H locs cells slots ls Q X hH hl0 hlo hc hs fin
  have h8 := room_st st h4
  have h9 := X.2.2.2.2.2.2.2.2.2.2.2
  exact va_mmax X.1 X.2.1 (X.2.2.1.trans hl0.1.1.symm) X.2.2.2.1 (X.w _ hl) (X.w _ h1) (X.w _ h2) (X.w _ h3) (Nat.le_trans hF X.2.2.2.2.2.2.2.2.2.2.1) (by omega) (by omega) (by omega) hd (g2 p l e R s m args below meth c H locs cells slots ls Q X hH hl0 hlo hc hs fin)
theorem G_min {x z : Int32} {idx : Nat} (hl : Jvm.Cond.methodLink (mdO y) idx Lib.Math.min.name ∈ WS) (h1 : Jvm.Cond.static Lib.Math.min.name ∈ WS) (h2 : Jvm.Cond.initialized "java/lang/Math" ∈ WS) (h3 : Jvm.Cond.code Lib.Math.min.name Lib.Math.min.code 2 (some .int) ∈ WS) (hF : 1 ≤ mdF y) (hK : 21 ≤ mdK y) (h4 : st.length ≤ 4) (hd : decode (mdC y) pc = .ok (.invokestatic idx, 3)) (k : G κ y cv o (pc + 3) lv (.int (imin x z) :: st) M) : G κ y cv o pc lv (.int z :: .int x :: st) M := by
  intro r hr
  obtain ⟨g1, g2⟩ := k r hr
  refine ⟨g1, ?_⟩
  intro p l e R s m args below meth c H locs cells slots ls Q X hH hl0 hlo hc hs fin
  have h8 := room_st st h4
  have h9 := X.2.2.2.2.2.2.2.2.2.2.2
  exact va_mmin X.1 X.2.1 (X.2.2.1.trans hl0.1.1.symm) X.2.2.2.1 (X.w _ hl) (X.w _ h1) (X.w _ h2) (X.w _ h3) (Nat.le_trans hF X.2.2.2.2.2.2.2.2.2.2.1) (by omega) (by omega) (by omega) hd (g2 p l e R s m args below meth c H locs cells slots ls Q X hH hl0 hlo hc hs fin)
/-- the method's end -/
theorem G_ret {v : α} (hd : decode (mdC y) pc = .ok (rIns (mdR y), 1)) (hnb : mdR y ≠ some .boolean) (hst : st = (cv v).toList) : G κ y cv (rt v M) pc lv st M := by
  subst hst
  intro r hr
  cases hr
  refine ⟨⟨Nat.le_refl _, Nat.le_refl _⟩, ?_⟩
  intro p l e R s m args below meth c H locs cells slots ls Q X hH hl0 hlo hc hs fin
  have h := fin H locs ls pc hH hlo hd (fun h9 => absurd h9 hnb)
  simp only [Nat.sub_self, Nat.add_zero] at h
  exact h
end CALLS
theorem G_retZ {κ : Cfg} {y : MD} {pc : Nat} {lv : List (Nat × Value)} {M : Mem} {v : Int32} (hd : decode (mdC y) pc = .ok (rIns (mdR y), 1)) : G κ y cvI (rtZ v M) pc lv [.int v] M := by
  unfold rtZ
  refine G.cond (fun hv => ?_) (fun _ => G.none')
  intro r hr
  cases hr
  refine ⟨⟨Nat.le_refl _, Nat.le_refl _⟩, ?_⟩
  intro p l e R s m args below meth c H locs cells slots ls Q X hH hl0 hlo hc hs fin
  have h := fin H locs ls pc hH hlo hd (fun _ => by rcases hv with h | h <;> rw [h] <;> simp)
  simp only [Nat.sub_self, Nat.add_zero] at h
  exact h
end
section
/-! ===== the script, the String constants as values ===== -/
section MORE
variable {κ : Cfg} {y : MD} {α : Type} {cv : α → Option Value} {o : Option (α × Mem)} {pc : Nat} {lv : List (Nat × Value)} {st : List Value} {M : Mem}
theorem Ctx.N {p : Program} {R : Room} {s : State} {m : MethodId} {args : Array Value} {meth : Method} {c : Code} (X : Ctx κ y p R s m args meth c) : NK κ s := X.2.2.2.2.2.2.2.2.1
def scI {β : Type} (κ : Cfg) (i : Int32) (K : Int32 → Option β) : Option β := if 0 ≤ i.toInt ∧ i.toInt < kL κ then K (kX κ i.toInt.toNat) else none
theorem kad_s (κ : Cfg) (i : Nat) : kad κ (1000000 + i) = kS κ i := by
  unfold kad
  rw [if_neg (by omega), Nat.add_sub_cancel_left]
theorem Ctx.X {p : Program} {R : Room} {s : State} {m : MethodId} {args : Array Value} {meth : Method} {c : Code} (X : Ctx κ y p R s m args meth c) : va_X (kS κ 5) (kL κ) (kX κ) s s.heap ∧ kS κ 5 < kB κ :=
  ⟨va_X.kept X.N.2.2.2.2.2.2.2.2.2.2.2.1 (X.2.2.2.2.2.2.2.2.2.1.2 _ X.N.2.2.2.2.2.2.2.2.2.2.2.2), X.N.2.2.2.2.2.2.2.2.2.2.2.2⟩
theorem G_sld {i : Int32} {K : Int32 → Option (α × Mem)} (hd : decode (mdC y) pc = .ok (.iaload, 1)) (k : ∀ x, G κ y cv (K x) (pc + 1) lv (.int x :: st) M) : G κ y cv (scI κ i K) pc lv (.int i :: rv κ (some 1000005) :: st) M := by
  unfold scI
  refine G.cond (fun hs => ?_) (fun _ => G.none')
  intro r hr
  obtain ⟨g1, g2⟩ := k _ r hr
  refine ⟨g1, ?_⟩
  intro p l e R s m args below meth c H locs cells slots ls Q X hH hl0 hlo hc hs9 fin
  rw [rv_some, kad_s κ 5]
  obtain ⟨hX, hb⟩ := X.X
  have hX2 : va_X (kS κ 5) (kL κ) (kX κ) s H := va_X.kept hX (by rw [hH.2.2.2 _ hb, X.2.2.2.2.2.2.2.2.2.1.2 _ hb])
  have hbl : kS κ 5 < H.size := by rw [hH.1]; omega
  exact va_sld X.1 X.2.1 (A := fun q => kB κ ≤ q) (H0 := H) hX2 hbl (Nat.not_le.mpr hb) ⟨Nat.le_refl _, fun _ _ _ => rfl, hlo⟩ (vp_in_iff2 hs.1 hs.2) hd (g2 p l e R s m args below meth c H locs cells slots ls Q X hH hl0 hlo hc hs9 fin)
theorem G_slen {K : Int32 → Option (α × Mem)} (hd : decode (mdC y) pc = .ok (.arraylength, 1)) (k : ∀ x, G κ y cv (K x) (pc + 1) lv (.int x :: st) M) : G κ y cv (K (Int32.ofNat (kL κ))) pc lv (rv κ (some 1000005) :: st) M := by
  intro r hr
  obtain ⟨g1, g2⟩ := k _ r hr
  refine ⟨g1, ?_⟩
  intro p l e R s m args below meth c H locs cells slots ls Q X hH hl0 hlo hc hs9 fin
  rw [rv_some, kad_s κ 5]
  obtain ⟨hX, hb⟩ := X.X
  have hX2 : va_X (kS κ 5) (kL κ) (kX κ) s H := va_X.kept hX (by rw [hH.2.2.2 _ hb, X.2.2.2.2.2.2.2.2.2.1.2 _ hb])
  have hbl : kS κ 5 < H.size := by rw [hH.1]; omega
  exact va_slen X.1 X.2.1 (A := fun q => kB κ ≤ q) (H0 := H) hX2 hbl (Nat.not_le.mpr hb) ⟨Nat.le_refl _, fun _ _ _ => rfl, hlo⟩ hd (g2 p l e R s m args below meth c H locs cells slots ls Q X hH hl0 hlo hc hs9 fin)
theorem G_ldcS {n i : Nat} {tx : String} (hR : ∀ s, NK κ s → vk_R (mdO y) n tx (kS κ i) s) (hd : decode (mdC y) pc = .ok (.ldc n, 2)) (k : G κ y cv o (pc + 2) lv (rv κ (some (1000000 + i)) :: st) M) : G κ y cv o pc lv st M := by
  refine G.step k ?_
  intro p l e R s m args below meth c H locs cells slots ls Q X hH hl0 kk
  rw [rv_some, kad_s κ i] at kk
  exact va_ldcS X.1 X.2.1 X.2.2.2.1 (hR s X.N) hd (kk ls hl0)
end MORE
section LDCW
variable {p : Program} {l : Launch} {e : Env} {R : Room} {s : State} {m : MethodId} {args : Array Value} {below : List Frame} {meth : Method} {c : Code} {locs : List Loc} {cells slots : Nat}
theorem ldcwF {T : State} (X : Stand p l e R s m args below meth c T locs cells slots) (hexec : p.tables.exec = Jvm.exec) {own : String} {index : Nat} {v : UInt32} (hown : s.vm.findClass own = some m.cls)
    (hconst : (Jvm.Cond.constantFloat own index v).before args s = true) {g : JFrame} (hg : g.method = m) (hdg : decode c.code g.pc = .ok (.ldc_w index, 3)) :
    ∀ target, Steps p.tables e below (T.setTop { g with pc := g.pc + 3, stack := .float v :: g.stack }) target → Steps p.tables e below (T.setTop g) target := by
  obtain ⟨k, cf, hk, hcf, hcp⟩ := Cond.constantFloat_spec hown hconst
  obtain ⟨k', hk', he⟩ := X.warmed.alike.2.2 _ _ hk
  intro target hrest
  subst hg
  jvm_step X.here [hexec, hdg, ldc_w.wp_float (s := T) (f := g) X.here.top hk' (by rw [he]; exact hcf) hcp]
  exact hrest
end LDCW
theorem G_ldcwf {κ : Cfg} {y : MD} {α : Type} {cv : α → Option Value} {o : Option (α × Mem)} {pc : Nat} {lv : List (Nat × Value)} {st : List Value} {M : Mem} {n : Nat} {v : UInt32} (hd : decode (mdC y) pc = .ok (.ldc_w n, 3)) (hw : Jvm.Cond.constantFloat (mdO y) n v ∈ WS) (k : G κ y cv o (pc + 3) lv (.float v :: st) M) : G κ y cv o pc lv st M :=
  G.step k fun p l e R s m args below meth c H locs cells slots ls Q X hH hl kk => by
    intro T hT X2
    obtain ⟨t, a, b⟩ := kk ls hl T hT X2
    exact ⟨t, ldcwF X2 X.1 X.2.2.2.1 (X.w _ hw) (g := F0 m pc ls st) rfl (by rw [X.2.1]; exact hd) t a, b⟩
end
section
/-! ===== written by program (tools/decomp.py) out of the decode rows and the words ===== -/
def FU : Nat := 1000000
theorem iinc_m1 (x : Int32) : x + Int32.ofInt (-1) = x - 1 := by
  rw [show Int32.ofInt (-1) = -1 from by decide]
  exact (Int32.sub_eq_add_neg ..).symm
theorem cf_X0 : CF 0 RX0 TX0 4 tyX0 := ⟨by decide, rfl, uwX0, tyX0_ok, nmX0, rfl⟩
theorem cd_X0 : CD 0 4 tyX0 := by unfold CD; decide +kernel
theorem cf_X1 : CF 1 RX1 TX1 8 tyX1 := ⟨by decide, rfl, uwX1, tyX1_ok, nmX1, rfl⟩
theorem cd_X1 : CD 1 8 tyX1 := by unfold CD; decide +kernel
theorem cf_X2 : CF 2 RX2 TX2 3 tyX2 := ⟨by decide, rfl, uwX2, tyX2_ok, nmX2, rfl⟩
theorem cd_X2 : CD 2 3 tyX2 := by unfold CD; decide +kernel
theorem cf_X3 : CF 3 RX3 TX3 5 tyX3 := ⟨by decide, rfl, uwX3, tyX3_ok, nmX3, rfl⟩
theorem cd_X3 : CD 3 5 tyX3 := by unfold CD; decide +kernel
theorem cf_X4 : CF 4 RX4 TX4 6 tyX4 := ⟨by decide, rfl, uwX4, tyX4_ok, nmX4, rfl⟩
theorem cd_X4 : CD 4 6 tyX4 := by unfold CD; decide +kernel
theorem cf_X5 : CF 5 RX5 TX5 6 tyX5 := ⟨by decide, rfl, uwX5, tyX5_ok, nmX5, rfl⟩
theorem cd_X5 : CD 5 6 tyX5 := by unfold CD; decide +kernel
theorem cf_X6 : CF 6 RX6 TX6 9 tyX6 := ⟨by decide, rfl, uwX6, tyX6_ok, nmX6, rfl⟩
theorem cd_X6 : CD 6 9 tyX6 := by unfold CD; decide +kernel
theorem cf_X7 : CF 7 RX7 TX7 3 tyX7 := ⟨by decide, rfl, uwX7, tyX7_ok, nmX7, rfl⟩
theorem cd_X7 : CD 7 3 tyX7 := by unfold CD; decide +kernel
theorem cf_X8 : CF 8 RX8 TX8 9 tyX8 := ⟨by decide, rfl, uwX8, tyX8_ok, nmX8, rfl⟩
theorem cd_X8 : CD 8 9 tyX8 := by unfold CD; decide +kernel
theorem cf_X9 : CF 9 RX9 TX9 3 tyX9 := ⟨by decide, rfl, uwX9, tyX9_ok, nmX9, rfl⟩
theorem cd_X9 : CD 9 3 tyX9 := by unfold CD; decide +kernel
theorem cf_X10 : CF 10 RX10 TX10 5 tyX10 := ⟨by decide, rfl, uwX10, tyX10_ok, nmX10, rfl⟩
theorem cd_X10 : CD 10 5 tyX10 := by unfold CD; decide +kernel
theorem cf_X11 : CF 11 RX11 TX11 21 tyX11 := ⟨by decide, rfl, uwX11, tyX11_ok, nmX11, rfl⟩
theorem cd_X11 : CD 11 21 tyX11 := by unfold CD; decide +kernel
def m_X0_init (M : Mem) (this : Option Nat) (p1 : Int32) : Option (Unit × Mem) :=
  oi this (pI M 0 0 this p1 (fun (M1 : Mem) => rt () M1))
abbrev md_X0_init : MD := (RX0, yX0_init, cX0_init, 2, Option.none, 1, 20)
theorem ok_X0_init : MOk md_X0_init 1 := ⟨by decide +kernel, w_53, w_4, ⟨by decide +kernel, by decide +kernel⟩, by decide +kernel, rfl⟩
set_option maxRecDepth 100000 in
set_option maxHeartbeats 4000000 in
theorem con_X0_init (κ : Cfg) (M : Mem) (this : Option Nat) (p1 : Int32) : Con κ md_X0_init [rv κ this, .int p1] M cvV (m_X0_init M this p1) := by
  refine Con.of ok_X0_init (ret_V rfl) (by
    intro v hv
    simp only [List.mem_cons, List.not_mem_nil, or_false] at hv
    rcases hv with rfl | rfl <;> first | rfl | exact rv_cat _ _) (Nat.le_of_ble_eq_true rfl) ?_
  unfold m_X0_init
  refine G.sub (lv' := [(0, rv κ this), (1, .int p1)]) [0, 1] rfl ?_
  refine G_aload_n dX0_init_0 0 rfl rfl ?_
  refine G_objInit w_54 w_25 w_26 (Nat.le_of_ble_eq_true rfl) (Nat.le_of_ble_eq_true rfl) (by simp) dX0_init_1 ?_
  refine G_aload_n dX0_init_4 0 rfl rfl ?_
  refine G_iload_n dX0_init_5 1 rfl rfl ?_
  refine G_putI cf_X0 (j := 0) rfl rfl w_55 (Or.inr ⟨rfl, rfl, rfl⟩) dX0_init_6 (fun M1 => ?_)
  exact G_ret (v := ()) dX0_init_9 (fun h => by cases h) rfl
def m_X0_tell (M : Mem) (this : Option Nat) (p1 : Int32) (p2 : Int32) (p3 : Int32) : Option (Unit × Mem) :=
  pI M 0 1 this p1 (fun (M1 : Mem) => pI M1 0 2 this p2 (fun (M2 : Mem) => pI M2 0 3 this p3 (fun (M3 : Mem) => rt () M3)))
abbrev md_X0_tell : MD := (RX0, yX0_tell, cX0_tell, 4, Option.none, 0, 0)
theorem ok_X0_tell : MOk md_X0_tell 3 := ⟨by decide +kernel, w_80, w_4, ⟨by decide +kernel, by decide +kernel⟩, by decide +kernel, rfl⟩
set_option maxRecDepth 100000 in
set_option maxHeartbeats 4000000 in
theorem con_X0_tell (κ : Cfg) (M : Mem) (this : Option Nat) (p1 : Int32) (p2 : Int32) (p3 : Int32) : Con κ md_X0_tell [rv κ this, .int p1, .int p2, .int p3] M cvV (m_X0_tell M this p1 p2 p3) := by
  refine Con.of ok_X0_tell (ret_V rfl) (by
    intro v hv
    simp only [List.mem_cons, List.not_mem_nil, or_false] at hv
    rcases hv with rfl | rfl | rfl | rfl <;> first | rfl | exact rv_cat _ _) (Nat.le_of_ble_eq_true rfl) ?_
  unfold m_X0_tell
  refine G.sub (lv' := [(0, rv κ this), (1, .int p1), (2, .int p2), (3, .int p3)]) [0, 1, 2, 3] rfl ?_
  refine G_aload_n dX0_tell_0 0 rfl rfl ?_
  refine G_iload_n dX0_tell_1 1 rfl rfl ?_
  refine G_putI cf_X0 (j := 1) rfl rfl w_57 (Or.inl rfl) dX0_tell_2 (fun M1 => ?_)
  refine G_aload_n dX0_tell_5 0 rfl rfl ?_
  refine G_iload_n dX0_tell_6 2 rfl rfl ?_
  refine G_putI cf_X0 (j := 2) rfl rfl w_60 (Or.inl rfl) dX0_tell_7 (fun M2 => ?_)
  refine G_aload_n dX0_tell_10 0 rfl rfl ?_
  refine G_iload_n dX0_tell_11 3 rfl rfl ?_
  refine G_putI cf_X0 (j := 3) rfl rfl w_62 (Or.inl rfl) dX0_tell_12 (fun M3 => ?_)
  exact G_ret (v := ()) dX0_tell_15 (fun h => by cases h) rfl
def m_X0_copyFrom (M : Mem) (this : Option Nat) (p1 : Option Nat) : Option (Unit × Mem) :=
  dI M 0 1 p1 (fun (x1 : Int32) => dI M 0 2 p1 (fun (x2 : Int32) => dI M 0 3 p1 (fun (x3 : Int32) => rc M 0 this (cl (m_X0_tell M this x1 x2 x3) (fun (_u : Unit) (M4 : Mem) => rt () M4)))))
abbrev md_X0_copyFrom : MD := (RX0, yX0_copyFrom, cX0_copyFrom, 2, Option.none, 1, 23)
theorem ok_X0_copyFrom : MOk md_X0_copyFrom 1 := ⟨by decide +kernel, w_471, w_4, ⟨by decide +kernel, by decide +kernel⟩, by decide +kernel, rfl⟩
set_option maxRecDepth 100000 in
set_option maxHeartbeats 4000000 in
theorem con_X0_copyFrom (κ : Cfg) (M : Mem) (this : Option Nat) (p1 : Option Nat) : Con κ md_X0_copyFrom [rv κ this, rv κ p1] M cvV (m_X0_copyFrom M this p1) := by
  refine Con.of ok_X0_copyFrom (ret_V rfl) (by
    intro v hv
    simp only [List.mem_cons, List.not_mem_nil, or_false] at hv
    rcases hv with rfl | rfl <;> first | rfl | exact rv_cat _ _) (Nat.le_of_ble_eq_true rfl) ?_
  unfold m_X0_copyFrom
  refine G.sub (lv' := [(0, rv κ this), (1, rv κ p1)]) [0, 1] rfl ?_
  refine G_aload_n dX0_copyFrom_0 0 rfl rfl ?_
  refine G_aload_n dX0_copyFrom_1 1 rfl rfl ?_
  refine G_getI cf_X0 (j := 1) rfl w_57 dX0_copyFrom_2 (fun x1 => ?_)
  refine G_aload_n dX0_copyFrom_5 1 rfl rfl ?_
  refine G_getI cf_X0 (j := 2) rfl w_60 dX0_copyFrom_6 (fun x2 => ?_)
  refine G_aload_n dX0_copyFrom_9 1 rfl rfl ?_
  refine G_getI cf_X0 (j := 3) rfl w_62 dX0_copyFrom_10 (fun x3 => ?_)
  refine G_callV cf_X0 ok_X0_tell [.int x1, .int x2, .int x3] [] (con_X0_tell κ M this x1 x2 x3) rfl w_472 w_78 w_79 (Nat.le_of_ble_eq_true rfl) (Nat.le_of_ble_eq_true rfl) dX0_copyFrom_13 rfl (by simp) (fun _u M4 => (show G _ _ _ _ _ _ [] _ from ?_))
  exact G_ret (v := ()) dX0_copyFrom_16 (fun h => by cases h) rfl
def m_X0_property (M : Mem) (this : Option Nat) (p1 : Int32) : Option (Int32 × Mem) :=
  (if p1 = 0 then dI M 0 1 this (fun (x1 : Int32) => rt x1 M) else (if p1 = 1 then dI M 0 2 this (fun (x2 : Int32) => rt x2 M) else dI M 0 3 this (fun (x3 : Int32) => rt x3 M)))
abbrev md_X0_property : MD := (RX0, yX0_property, cX0_property, 2, Option.some Jvm.ClassFile.FieldType.int, 0, 0)
theorem ok_X0_property : MOk md_X0_property 1 := ⟨by decide +kernel, w_490, w_4, ⟨by decide +kernel, by decide +kernel⟩, by decide +kernel, rfl⟩
set_option maxRecDepth 100000 in
set_option maxHeartbeats 4000000 in
theorem con_X0_property (κ : Cfg) (M : Mem) (this : Option Nat) (p1 : Int32) : Con κ md_X0_property [rv κ this, .int p1] M cvI (m_X0_property M this p1) := by
  refine Con.of ok_X0_property (ret_I rfl) (by
    intro v hv
    simp only [List.mem_cons, List.not_mem_nil, or_false] at hv
    rcases hv with rfl | rfl <;> first | rfl | exact rv_cat _ _) (Nat.le_of_ble_eq_true rfl) ?_
  unfold m_X0_property
  refine G.sub (lv' := [(0, rv κ this), (1, .int p1)]) [0, 1] rfl ?_
  refine G_iload_n dX0_property_0 1 rfl rfl ?_
  refine G.cond (fun hx1_0 => ?_) (fun hn1_0 => ?_)
  · refine G_lks (off := 27) (tgt := 28) dX0_property_1 (by decide) (by rw [hx1_0]; rfl) (by decide) ?_
    refine G_aload_n dX0_property_28 0 rfl rfl ?_
    refine G_getI cf_X0 (j := 1) rfl w_57 dX0_property_29 (fun x1 => ?_)
    exact G_ret (v := x1) dX0_property_32 (fun h => by cases h) rfl
  refine G.cond (fun hx1_1 => ?_) (fun hn1_1 => ?_)
  · refine G_lks (off := 32) (tgt := 33) dX0_property_1 (by decide) (by rw [hx1_1]; rfl) (by decide) ?_
    refine G_aload_n dX0_property_33 0 rfl rfl ?_
    refine G_getI cf_X0 (j := 2) rfl w_60 dX0_property_34 (fun x2 => ?_)
    exact G_ret (v := x2) dX0_property_37 (fun h => by cases h) rfl
  refine G_lks (off := 37) (tgt := 38) dX0_property_1 (by decide) ((lv_osw hn1_0 rfl).trans ((lv_osw hn1_1 rfl).trans (rfl))) (by decide) ?_
  refine G_aload_n dX0_property_38 0 rfl rfl ?_
  refine G_getI cf_X0 (j := 3) rfl w_62 dX0_property_39 (fun x3 => ?_)
  exact G_ret (v := x3) dX0_property_42 (fun h => by cases h) rfl
def m_X9_init (M : Mem) (this : Option Nat) : Option (Unit × Mem) :=
  oi this (rt () M)
abbrev md_X9_init : MD := (RX9, yX9_init, cX9_init, 1, Option.none, 1, 20)
theorem ok_X9_init : MOk md_X9_init 0 := ⟨by decide +kernel, w_111, w_5, ⟨by decide +kernel, by decide +kernel⟩, by decide +kernel, rfl⟩
set_option maxRecDepth 100000 in
set_option maxHeartbeats 4000000 in
theorem con_X9_init (κ : Cfg) (M : Mem) (this : Option Nat) : Con κ md_X9_init [rv κ this] M cvV (m_X9_init M this) := by
  refine Con.of ok_X9_init (ret_V rfl) (by
    intro v hv
    simp only [List.mem_cons, List.not_mem_nil, or_false] at hv
    subst hv; first | rfl | exact rv_cat _ _) (Nat.le_of_ble_eq_true rfl) ?_
  unfold m_X9_init
  refine G.sub (lv' := [(0, rv κ this)]) [0] rfl ?_
  refine G_aload_n dX9_init_0 0 rfl rfl ?_
  refine G_objInit w_112 w_25 w_26 (Nat.le_of_ble_eq_true rfl) (Nat.le_of_ble_eq_true rfl) (by simp) dX9_init_1 ?_
  exact G_ret (v := ()) dX9_init_4 (fun h => by cases h) rfl
def m_X2_init (M : Mem) (this : Option Nat) : Option (Unit × Mem) :=
  oi this (nA M 100 5 (fun (q1 : Option Nat) (M2 : Mem) => pP M2 2 0 this q1 (fun (M3 : Mem) => rt () M3)))
abbrev md_X2_init : MD := (RX2, yX2_init, cX2_init, 1, Option.none, 1, 20)
theorem ok_X2_init : MOk md_X2_init 0 := ⟨by decide +kernel, w_130, w_6, ⟨by decide +kernel, by decide +kernel⟩, by decide +kernel, rfl⟩
set_option maxRecDepth 100000 in
set_option maxHeartbeats 4000000 in
theorem con_X2_init (κ : Cfg) (M : Mem) (this : Option Nat) : Con κ md_X2_init [rv κ this] M cvV (m_X2_init M this) := by
  refine Con.of ok_X2_init (ret_V rfl) (by
    intro v hv
    simp only [List.mem_cons, List.not_mem_nil, or_false] at hv
    subst hv; first | rfl | exact rv_cat _ _) (Nat.le_of_ble_eq_true rfl) ?_
  unfold m_X2_init
  refine G.sub (lv' := [(0, rv κ this)]) [0] rfl ?_
  refine G_aload_n dX2_init_0 0 rfl rfl ?_
  refine G_objInit w_131 w_25 w_26 (Nat.le_of_ble_eq_true rfl) (Nat.le_of_ble_eq_true rfl) (by simp) dX2_init_1 ?_
  refine G_aload_n dX2_init_4 0 rfl rfl ?_
  refine G_iconst (v := 5) dX2_init_5 (by decide) ?_
  refine G_newa (at9 := .int) (fun _ => rfl) w_142 (by simp) dX2_init_6 (fun q1 M2 => ?_)
  refine G_putP cf_X2 (j := 0) rfl (Or.inr ⟨_, rfl⟩) w_132 (Or.inr ⟨rfl, rfl, rfl⟩) dX2_init_8 (fun M3 => ?_)
  exact G_ret (v := ()) dX2_init_11 (fun h => by cases h) rfl
def m_X3_init (M : Mem) (this : Option Nat) : Option (Unit × Mem) :=
  oi this (pI M 3 0 this 10 (fun (M1 : Mem) => rt () M1))
abbrev md_X3_init : MD := (RX3, yX3_init, cX3_init, 1, Option.none, 1, 20)
theorem ok_X3_init : MOk md_X3_init 0 := ⟨by decide +kernel, w_146, w_7, ⟨by decide +kernel, by decide +kernel⟩, by decide +kernel, rfl⟩
set_option maxRecDepth 100000 in
set_option maxHeartbeats 4000000 in
theorem con_X3_init (κ : Cfg) (M : Mem) (this : Option Nat) : Con κ md_X3_init [rv κ this] M cvV (m_X3_init M this) := by
  refine Con.of ok_X3_init (ret_V rfl) (by
    intro v hv
    simp only [List.mem_cons, List.not_mem_nil, or_false] at hv
    subst hv; first | rfl | exact rv_cat _ _) (Nat.le_of_ble_eq_true rfl) ?_
  unfold m_X3_init
  refine G.sub (lv' := [(0, rv κ this)]) [0] rfl ?_
  refine G_aload_n dX3_init_0 0 rfl rfl ?_
  refine G_objInit w_147 w_25 w_26 (Nat.le_of_ble_eq_true rfl) (Nat.le_of_ble_eq_true rfl) (by simp) dX3_init_1 ?_
  refine G_aload_n dX3_init_4 0 rfl rfl ?_
  refine G_bipush (v := 10) dX3_init_5 (by decide) ?_
  refine G_putI cf_X3 (j := 0) rfl rfl w_148 (Or.inl rfl) dX3_init_7 (fun M1 => ?_)
  exact G_ret (v := ()) dX3_init_10 (fun h => by cases h) rfl
def m_X9_copyFrom (M : Mem) (this : Option Nat) (p1 : Option Nat) : Option (Unit × Mem) :=
  dI M 9 0 p1 (fun (x1 : Int32) => pI M 9 0 this x1 (fun (M2 : Mem) => dI M2 9 1 p1 (fun (x3 : Int32) => pI M2 9 1 this x3 (fun (M4 : Mem) => dI M4 9 2 p1 (fun (x5 : Int32) => pI M4 9 2 this x5 (fun (M6 : Mem) => rt () M6))))))
abbrev md_X9_copyFrom : MD := (RX9, yX9_copyFrom, cX9_copyFrom, 2, Option.none, 0, 0)
theorem ok_X9_copyFrom : MOk md_X9_copyFrom 1 := ⟨by decide +kernel, w_889, w_5, ⟨by decide +kernel, by decide +kernel⟩, by decide +kernel, rfl⟩
set_option maxRecDepth 100000 in
set_option maxHeartbeats 4000000 in
theorem con_X9_copyFrom (κ : Cfg) (M : Mem) (this : Option Nat) (p1 : Option Nat) : Con κ md_X9_copyFrom [rv κ this, rv κ p1] M cvV (m_X9_copyFrom M this p1) := by
  refine Con.of ok_X9_copyFrom (ret_V rfl) (by
    intro v hv
    simp only [List.mem_cons, List.not_mem_nil, or_false] at hv
    rcases hv with rfl | rfl <;> first | rfl | exact rv_cat _ _) (Nat.le_of_ble_eq_true rfl) ?_
  unfold m_X9_copyFrom
  refine G.sub (lv' := [(0, rv κ this), (1, rv κ p1)]) [0, 1] rfl ?_
  refine G_aload_n dX9_copyFrom_0 0 rfl rfl ?_
  refine G_aload_n dX9_copyFrom_1 1 rfl rfl ?_
  refine G_getI cf_X9 (j := 0) rfl w_113 dX9_copyFrom_2 (fun x1 => ?_)
  refine G_putI cf_X9 (j := 0) rfl rfl w_113 (Or.inl rfl) dX9_copyFrom_5 (fun M2 => ?_)
  refine G_aload_n dX9_copyFrom_8 0 rfl rfl ?_
  refine G_aload_n dX9_copyFrom_9 1 rfl rfl ?_
  refine G_getI cf_X9 (j := 1) rfl w_116 dX9_copyFrom_10 (fun x3 => ?_)
  refine G_putI cf_X9 (j := 1) rfl rfl w_116 (Or.inl rfl) dX9_copyFrom_13 (fun M4 => ?_)
  refine G_aload_n dX9_copyFrom_16 0 rfl rfl ?_
  refine G_aload_n dX9_copyFrom_17 1 rfl rfl ?_
  refine G_getI cf_X9 (j := 2) rfl w_118 dX9_copyFrom_18 (fun x5 => ?_)
  refine G_putI cf_X9 (j := 2) rfl rfl w_118 (Or.inl rfl) dX9_copyFrom_21 (fun M6 => ?_)
  exact G_ret (v := ()) dX9_copyFrom_24 (fun h => by cases h) rfl
def b_X2_copyFrom_18 (this : Option Nat) (p1 : Option Nat) (L18_4 : (Int32 × Mem) → Option (Unit × Mem)) (a5 : Int32 × Mem) : Option (Unit × Mem) :=
  (if 5 ≤ a5.1 then rt () a5.2 else dP a5.2 2 0 this (fun (q7 : Option Nat) => dP a5.2 2 0 p1 (fun (q8 : Option Nat) => aI a5.2 100 q8 a5.1 (fun (x9 : Int32) => sI a5.2 100 q7 a5.1 x9 (fun (M10 : Mem) => L18_4 ((a5.1 + 1), M10))))))
def m_X2_copyFrom (M : Mem) (this : Option Nat) (p1 : Option Nat) : Option (Unit × Mem) :=
  dI M 2 2 p1 (fun (x1 : Int32) => pI M 2 2 this x1 (fun (M2 : Mem) => dI M2 2 1 p1 (fun (x3 : Int32) => pI M2 2 1 this x3 (fun (M4 : Mem) => lp (b_X2_copyFrom_18 this p1) FU (0, M4)))))
abbrev md_X2_copyFrom : MD := (RX2, yX2_copyFrom, cX2_copyFrom, 3, Option.none, 0, 0)
theorem ok_X2_copyFrom : MOk md_X2_copyFrom 1 := ⟨by decide +kernel, w_893, w_6, ⟨by decide +kernel, by decide +kernel⟩, by decide +kernel, rfl⟩
set_option maxRecDepth 100000 in
set_option maxHeartbeats 4000000 in
theorem con_X2_copyFrom (κ : Cfg) (M : Mem) (this : Option Nat) (p1 : Option Nat) : Con κ md_X2_copyFrom [rv κ this, rv κ p1] M cvV (m_X2_copyFrom M this p1) := by
  refine Con.of ok_X2_copyFrom (ret_V rfl) (by
    intro v hv
    simp only [List.mem_cons, List.not_mem_nil, or_false] at hv
    rcases hv with rfl | rfl <;> first | rfl | exact rv_cat _ _) (Nat.le_of_ble_eq_true rfl) ?_
  unfold m_X2_copyFrom
  refine G.sub (lv' := [(0, rv κ this), (1, rv κ p1)]) [0, 1] rfl ?_
  refine G_aload_n dX2_copyFrom_0 0 rfl rfl ?_
  refine G_aload_n dX2_copyFrom_1 1 rfl rfl ?_
  refine G_getI cf_X2 (j := 2) rfl w_134 dX2_copyFrom_2 (fun x1 => ?_)
  refine G_putI cf_X2 (j := 2) rfl rfl w_134 (Or.inl rfl) dX2_copyFrom_5 (fun M2 => ?_)
  refine G_aload_n dX2_copyFrom_8 0 rfl rfl ?_
  refine G_aload_n dX2_copyFrom_9 1 rfl rfl ?_
  refine G_getI cf_X2 (j := 1) rfl w_133 dX2_copyFrom_10 (fun x3 => ?_)
  refine G_putI cf_X2 (j := 1) rfl rfl w_133 (Or.inl rfl) dX2_copyFrom_13 (fun M4 => ?_)
  refine G_iconst (v := 0) dX2_copyFrom_16 (by decide) ?_
  refine G_istore_n (lv' := [(2, .int 0), (0, rv κ this), (1, rv κ p1)]) dX2_copyFrom_17 rfl (Nat.le_of_ble_eq_true rfl) rfl ?_
  refine G.sub (lv' := [(0, rv κ this), (1, rv κ p1), (2, .int 0)]) [1, 2, 0] rfl ?_
  refine G.loop (lvf := fun (a5 : Int32 × Mem) => [(0, rv κ this), (1, rv κ p1), (2, .int a5.1)]) (mf := fun (a5 : Int32 × Mem) => a5.2) (fun L18_4 hL18_4 a5 => ?_) FU (0, M4)
  unfold b_X2_copyFrom_18
  refine G_iload_n dX2_copyFrom_18 2 rfl rfl ?_
  refine G_iconst (v := 5) dX2_copyFrom_19 (by decide) ?_
  refine G_icmp_ge (tgt := 41) dX2_copyFrom_20 (by decide) ?_ ?_
  · exact G_ret (v := ()) dX2_copyFrom_41 (fun h => by cases h) rfl
  · refine G_aload_n dX2_copyFrom_23 0 rfl rfl ?_
    refine G_getP cf_X2 (j := 0) rfl w_132 dX2_copyFrom_24 (fun q7 => ?_)
    refine G_iload_n dX2_copyFrom_27 2 rfl rfl ?_
    refine G_aload_n dX2_copyFrom_28 1 rfl rfl ?_
    refine G_getP cf_X2 (j := 0) rfl w_132 dX2_copyFrom_29 (fun q8 => ?_)
    refine G_iload_n dX2_copyFrom_32 2 rfl rfl ?_
    refine G_iald dX2_copyFrom_33 (fun x9 => ?_)
    refine G_iast dX2_copyFrom_34 (fun M10 => ?_)
    refine G_iinc (v := (a5.1 + 1)) (lv' := [(2, .int (a5.1 + 1)), (0, rv κ this), (1, rv κ p1)]) dX2_copyFrom_35 2 rfl (congrArg (fun z9 : Int32 => a5.1 + z9) (by decide : Int32.ofInt 1 = 1)) (Nat.le_of_ble_eq_true rfl) rfl ?_
    refine G_goto (tgt := 18) dX2_copyFrom_38 (by decide) ?_
    exact G.sub [1, 2, 0] rfl (hL18_4 _)
def m_X3_copyFrom (M : Mem) (this : Option Nat) (p1 : Option Nat) : Option (Unit × Mem) :=
  dI M 3 0 p1 (fun (x1 : Int32) => pI M 3 0 this x1 (fun (M2 : Mem) => dI M2 3 1 p1 (fun (x3 : Int32) => pI M2 3 1 this x3 (fun (M4 : Mem) => dI M4 3 2 p1 (fun (x5 : Int32) => pI M4 3 2 this x5 (fun (M6 : Mem) => dI M6 3 3 p1 (fun (x7 : Int32) => pI M6 3 3 this x7 (fun (M8 : Mem) => dF M8 3 4 p1 (fun (r9 : UInt32) => pF M8 3 4 this r9 (fun (M10 : Mem) => rt () M10))))))))))
abbrev md_X3_copyFrom : MD := (RX3, yX3_copyFrom, cX3_copyFrom, 2, Option.none, 0, 0)
theorem ok_X3_copyFrom : MOk md_X3_copyFrom 1 := ⟨by decide +kernel, w_897, w_7, ⟨by decide +kernel, by decide +kernel⟩, by decide +kernel, rfl⟩
set_option maxRecDepth 100000 in
set_option maxHeartbeats 4000000 in
theorem con_X3_copyFrom (κ : Cfg) (M : Mem) (this : Option Nat) (p1 : Option Nat) : Con κ md_X3_copyFrom [rv κ this, rv κ p1] M cvV (m_X3_copyFrom M this p1) := by
  refine Con.of ok_X3_copyFrom (ret_V rfl) (by
    intro v hv
    simp only [List.mem_cons, List.not_mem_nil, or_false] at hv
    rcases hv with rfl | rfl <;> first | rfl | exact rv_cat _ _) (Nat.le_of_ble_eq_true rfl) ?_
  unfold m_X3_copyFrom
  refine G.sub (lv' := [(0, rv κ this), (1, rv κ p1)]) [0, 1] rfl ?_
  refine G_aload_n dX3_copyFrom_0 0 rfl rfl ?_
  refine G_aload_n dX3_copyFrom_1 1 rfl rfl ?_
  refine G_getI cf_X3 (j := 0) rfl w_148 dX3_copyFrom_2 (fun x1 => ?_)
  refine G_putI cf_X3 (j := 0) rfl rfl w_148 (Or.inl rfl) dX3_copyFrom_5 (fun M2 => ?_)
  refine G_aload_n dX3_copyFrom_8 0 rfl rfl ?_
  refine G_aload_n dX3_copyFrom_9 1 rfl rfl ?_
  refine G_getI cf_X3 (j := 1) rfl w_150 dX3_copyFrom_10 (fun x3 => ?_)
  refine G_putI cf_X3 (j := 1) rfl rfl w_150 (Or.inl rfl) dX3_copyFrom_13 (fun M4 => ?_)
  refine G_aload_n dX3_copyFrom_16 0 rfl rfl ?_
  refine G_aload_n dX3_copyFrom_17 1 rfl rfl ?_
  refine G_getI cf_X3 (j := 2) rfl w_152 dX3_copyFrom_18 (fun x5 => ?_)
  refine G_putI cf_X3 (j := 2) rfl rfl w_152 (Or.inl rfl) dX3_copyFrom_21 (fun M6 => ?_)
  refine G_aload_n dX3_copyFrom_24 0 rfl rfl ?_
  refine G_aload_n dX3_copyFrom_25 1 rfl rfl ?_
  refine G_getI cf_X3 (j := 3) rfl w_153 dX3_copyFrom_26 (fun x7 => ?_)
  refine G_putI cf_X3 (j := 3) rfl rfl w_153 (Or.inl rfl) dX3_copyFrom_29 (fun M8 => ?_)
  refine G_aload_n dX3_copyFrom_32 0 rfl rfl ?_
  refine G_aload_n dX3_copyFrom_33 1 rfl rfl ?_
  refine G_getF cf_X3 (j := 4) rfl w_154 dX3_copyFrom_34 (fun r9 => ?_)
  refine G_putF cf_X3 (j := 4) rfl rfl w_154 (Or.inl rfl) dX3_copyFrom_37 (fun M10 => ?_)
  exact G_ret (v := ()) dX3_copyFrom_40 (fun h => by cases h) rfl
def m_X10_within (M : Mem) (p1 : Int32) (p2 : Int32) (p3 : Int32) : Option (Int32 × Mem) :=
  (if p1 < p2 then rtZ 0 M else (if p3 < p1 then rtZ 0 M else rtZ 1 M))
abbrev md_X10_within : MD := (RX10, yX10_within, cX10_within, 3, Option.some Jvm.ClassFile.FieldType.boolean, 0, 0)
theorem ok_X10_within : MOk md_X10_within 3 := ⟨by decide +kernel, w_321, w_1, ⟨by decide +kernel, by decide +kernel⟩, by decide +kernel, rfl⟩
set_option maxRecDepth 100000 in
set_option maxHeartbeats 4000000 in
theorem con_X10_within (κ : Cfg) (M : Mem) (p1 : Int32) (p2 : Int32) (p3 : Int32) : Con κ md_X10_within [.int p1, .int p2, .int p3] M cvI (m_X10_within M p1 p2 p3) := by
  refine Con.of ok_X10_within (ret_Z rfl) (by
    intro v hv
    simp only [List.mem_cons, List.not_mem_nil, or_false] at hv
    rcases hv with rfl | rfl | rfl <;> first | rfl | exact rv_cat _ _) (Nat.le_of_ble_eq_true rfl) ?_
  unfold m_X10_within
  refine G.sub (lv' := [(0, .int p1), (1, .int p2), (2, .int p3)]) [0, 1, 2] rfl ?_
  refine G_iload_n dX10_within_0 0 rfl rfl ?_
  refine G_iload_n dX10_within_1 1 rfl rfl ?_
  refine G_icmp_lt (tgt := 14) dX10_within_2 (by decide) ?_ ?_
  · refine G_iconst (v := 0) dX10_within_14 (by decide) ?_
    exact G_retZ dX10_within_15
  · refine G_iload_n dX10_within_5 0 rfl rfl ?_
    refine G_iload_n dX10_within_6 2 rfl rfl ?_
    refine G_icmp_gt (tgt := 14) dX10_within_7 (by decide) ?_ ?_
    · refine G_iconst (v := 0) dX10_within_14 (by decide) ?_
      exact G_retZ dX10_within_15
    · refine G_iconst (v := 1) dX10_within_10 (by decide) ?_
      refine G_goto (tgt := 15) dX10_within_11 (by decide) ?_
      exact G_retZ dX10_within_15
def m_X2_isMade (M : Mem) (this : Option Nat) : Option (Int32 × Mem) :=
  dI M 2 1 this (fun (x1 : Int32) => (if x1 ≤ 0 then rtZ 0 M else rtZ 1 M))
abbrev md_X2_isMade : MD := (RX2, yX2_isMade, cX2_isMade, 1, Option.some Jvm.ClassFile.FieldType.boolean, 0, 0)
theorem ok_X2_isMade : MOk md_X2_isMade 0 := ⟨by decide +kernel, w_618, w_6, ⟨by decide +kernel, by decide +kernel⟩, by decide +kernel, rfl⟩
set_option maxRecDepth 100000 in
set_option maxHeartbeats 4000000 in
theorem con_X2_isMade (κ : Cfg) (M : Mem) (this : Option Nat) : Con κ md_X2_isMade [rv κ this] M cvI (m_X2_isMade M this) := by
  refine Con.of ok_X2_isMade (ret_Z rfl) (by
    intro v hv
    simp only [List.mem_cons, List.not_mem_nil, or_false] at hv
    subst hv; first | rfl | exact rv_cat _ _) (Nat.le_of_ble_eq_true rfl) ?_
  unfold m_X2_isMade
  refine G.sub (lv' := [(0, rv κ this)]) [0] rfl ?_
  refine G_aload_n dX2_isMade_0 0 rfl rfl ?_
  refine G_getI cf_X2 (j := 1) rfl w_133 dX2_isMade_1 (fun x1 => ?_)
  refine G_if_le (tgt := 11) dX2_isMade_4 (by decide) ?_ ?_
  · refine G_iconst (v := 0) dX2_isMade_11 (by decide) ?_
    exact G_retZ dX2_isMade_12
  · refine G_iconst (v := 1) dX2_isMade_7 (by decide) ?_
    refine G_goto (tgt := 12) dX2_isMade_8 (by decide) ?_
    exact G_retZ dX2_isMade_12
def m_X9_begin (M : Mem) (this : Option Nat) (p1 : Int32) (p2 : Int32) : Option (Unit × Mem) :=
  pI M 9 0 this p1 (fun (M1 : Mem) => pI M1 9 1 this p2 (fun (M2 : Mem) => pI M2 9 2 this 0 (fun (M3 : Mem) => rt () M3)))
abbrev md_X9_begin : MD := (RX9, yX9_begin, cX9_begin, 3, Option.none, 0, 0)
theorem ok_X9_begin : MOk md_X9_begin 2 := ⟨by decide +kernel, w_586, w_5, ⟨by decide +kernel, by decide +kernel⟩, by decide +kernel, rfl⟩
set_option maxRecDepth 100000 in
set_option maxHeartbeats 4000000 in
theorem con_X9_begin (κ : Cfg) (M : Mem) (this : Option Nat) (p1 : Int32) (p2 : Int32) : Con κ md_X9_begin [rv κ this, .int p1, .int p2] M cvV (m_X9_begin M this p1 p2) := by
  refine Con.of ok_X9_begin (ret_V rfl) (by
    intro v hv
    simp only [List.mem_cons, List.not_mem_nil, or_false] at hv
    rcases hv with rfl | rfl | rfl <;> first | rfl | exact rv_cat _ _) (Nat.le_of_ble_eq_true rfl) ?_
  unfold m_X9_begin
  refine G.sub (lv' := [(0, rv κ this), (1, .int p1), (2, .int p2)]) [0, 1, 2] rfl ?_
  refine G_aload_n dX9_begin_0 0 rfl rfl ?_
  refine G_iload_n dX9_begin_1 1 rfl rfl ?_
  refine G_putI cf_X9 (j := 0) rfl rfl w_113 (Or.inl rfl) dX9_begin_2 (fun M1 => ?_)
  refine G_aload_n dX9_begin_5 0 rfl rfl ?_
  refine G_iload_n dX9_begin_6 2 rfl rfl ?_
  refine G_putI cf_X9 (j := 1) rfl rfl w_116 (Or.inl rfl) dX9_begin_7 (fun M2 => ?_)
  refine G_aload_n dX9_begin_10 0 rfl rfl ?_
  refine G_iconst (v := 0) dX9_begin_11 (by decide) ?_
  refine G_putI cf_X9 (j := 2) rfl rfl w_118 (Or.inl rfl) dX9_begin_12 (fun M3 => ?_)
  exact G_ret (v := ()) dX9_begin_15 (fun h => by cases h) rfl
def m_X2_hasPlace (M : Mem) (this : Option Nat) (p1 : Int32) : Option (Int32 × Mem) :=
  cl (m_X10_within M p1 0 4) (fun (x2 : Int32) (M1 : Mem) => (if x2 = 0 then rtZ 0 M1 else dI M1 2 1 this (fun (x3 : Int32) => (if x3 ≤ p1 then rtZ 0 M1 else rtZ 1 M1))))
abbrev md_X2_hasPlace : MD := (RX2, yX2_hasPlace, cX2_hasPlace, 2, Option.some Jvm.ClassFile.FieldType.boolean, 1, 22)
theorem ok_X2_hasPlace : MOk md_X2_hasPlace 1 := ⟨by decide +kernel, w_622, w_6, ⟨by decide +kernel, by decide +kernel⟩, by decide +kernel, rfl⟩
set_option maxRecDepth 100000 in
set_option maxHeartbeats 4000000 in
theorem con_X2_hasPlace (κ : Cfg) (M : Mem) (this : Option Nat) (p1 : Int32) : Con κ md_X2_hasPlace [rv κ this, .int p1] M cvI (m_X2_hasPlace M this p1) := by
  refine Con.of ok_X2_hasPlace (ret_Z rfl) (by
    intro v hv
    simp only [List.mem_cons, List.not_mem_nil, or_false] at hv
    rcases hv with rfl | rfl <;> first | rfl | exact rv_cat _ _) (Nat.le_of_ble_eq_true rfl) ?_
  unfold m_X2_hasPlace
  refine G.sub (lv' := [(0, rv κ this), (1, .int p1)]) [0, 1] rfl ?_
  refine G_iload_n dX2_hasPlace_0 1 rfl rfl ?_
  refine G_iconst (v := 0) dX2_hasPlace_1 (by decide) ?_
  refine G_iconst (v := 4) dX2_hasPlace_2 (by decide) ?_
  refine G_callSN ok_X10_within [.int p1, .int 0, .int 4] [] (con_X10_within κ M p1 0 4) rfl (by simp [nestL, mdO, mdY]) w_320 (Nat.le_of_ble_eq_true rfl) (Nat.le_of_ble_eq_true rfl) dX2_hasPlace_3 rfl (by simp) (fun x2 M1 => (show G _ _ _ _ _ _ [.int x2] _ from ?_))
  refine G_if_eq (tgt := 21) dX2_hasPlace_6 (by decide) ?_ ?_
  · refine G_iconst (v := 0) dX2_hasPlace_21 (by decide) ?_
    exact G_retZ dX2_hasPlace_22
  · refine G_iload_n dX2_hasPlace_9 1 rfl rfl ?_
    refine G_aload_n dX2_hasPlace_10 0 rfl rfl ?_
    refine G_getI cf_X2 (j := 1) rfl w_133 dX2_hasPlace_11 (fun x3 => ?_)
    refine G_icmp_ge (tgt := 21) dX2_hasPlace_14 (by decide) ?_ ?_
    · refine G_iconst (v := 0) dX2_hasPlace_21 (by decide) ?_
      exact G_retZ dX2_hasPlace_22
    · refine G_iconst (v := 1) dX2_hasPlace_17 (by decide) ?_
      refine G_goto (tgt := 22) dX2_hasPlace_18 (by decide) ?_
      exact G_retZ dX2_hasPlace_22
def m_X2_content (M : Mem) (this : Option Nat) (p1 : Int32) : Option (Int32 × Mem) :=
  rc M 2 this (cl (m_X2_hasPlace M this p1) (fun (x2 : Int32) (M1 : Mem) => (if x2 = 0 then rt ((-1)) M1 else dP M1 2 0 this (fun (q3 : Option Nat) => aI M1 100 q3 p1 (fun (x4 : Int32) => (if x4 = (-1) then rt ((-1)) M1 else dP M1 2 0 this (fun (q5 : Option Nat) => aI M1 100 q5 p1 (fun (x6 : Int32) => rt x6 M1))))))))
abbrev md_X2_content : MD := (RX2, yX2_content, cX2_content, 2, Option.some Jvm.ClassFile.FieldType.int, 2, 43)
theorem ok_X2_content : MOk md_X2_content 1 := ⟨by decide +kernel, w_649, w_6, ⟨by decide +kernel, by decide +kernel⟩, by decide +kernel, rfl⟩
set_option maxRecDepth 100000 in
set_option maxHeartbeats 4000000 in
theorem con_X2_content (κ : Cfg) (M : Mem) (this : Option Nat) (p1 : Int32) : Con κ md_X2_content [rv κ this, .int p1] M cvI (m_X2_content M this p1) := by
  refine Con.of ok_X2_content (ret_I rfl) (by
    intro v hv
    simp only [List.mem_cons, List.not_mem_nil, or_false] at hv
    rcases hv with rfl | rfl <;> first | rfl | exact rv_cat _ _) (Nat.le_of_ble_eq_true rfl) ?_
  unfold m_X2_content
  refine G.sub (lv' := [(0, rv κ this), (1, .int p1)]) [0, 1] rfl ?_
  refine G_aload_n dX2_content_0 0 rfl rfl ?_
  refine G_iload_n dX2_content_1 1 rfl rfl ?_
  refine G_callV cf_X2 ok_X2_hasPlace [.int p1] [] (con_X2_hasPlace κ M this p1) rfl w_632 w_620 w_621 (Nat.le_of_ble_eq_true rfl) (Nat.le_of_ble_eq_true rfl) dX2_content_2 rfl (by simp) (fun x2 M1 => (show G _ _ _ _ _ _ [.int x2] _ from ?_))
  refine G_if_eq (tgt := 27) dX2_content_5 (by decide) ?_ ?_
  · refine G_iconst (v := (-1)) dX2_content_27 (by decide) ?_
    exact G_ret (v := ((-1))) dX2_content_28 (fun h => by cases h) rfl
  · refine G_aload_n dX2_content_8 0 rfl rfl ?_
    refine G_getP cf_X2 (j := 0) rfl w_132 dX2_content_9 (fun q3 => ?_)
    refine G_iload_n dX2_content_12 1 rfl rfl ?_
    refine G_iald dX2_content_13 (fun x4 => ?_)
    refine G_iconst (v := (-1)) dX2_content_14 (by decide) ?_
    refine G_icmp_eq (tgt := 27) dX2_content_15 (by decide) ?_ ?_
    · refine G_iconst (v := (-1)) dX2_content_27 (by decide) ?_
      exact G_ret (v := ((-1))) dX2_content_28 (fun h => by cases h) rfl
    · refine G_aload_n dX2_content_18 0 rfl rfl ?_
      refine G_getP cf_X2 (j := 0) rfl w_132 dX2_content_19 (fun q5 => ?_)
      refine G_iload_n dX2_content_22 1 rfl rfl ?_
      refine G_iald dX2_content_23 (fun x6 => ?_)
      refine G_goto (tgt := 28) dX2_content_24 (by decide) ?_
      exact G_ret (v := x6) dX2_content_28 (fun h => by cases h) rfl
def m_X3_freePlaces (M : Mem) (this : Option Nat) : Option (Int32 × Mem) :=
  dI M 3 0 this (fun (x1 : Int32) => dI M 3 1 this (fun (x2 : Int32) => rt ((x1 - x2)) M))
abbrev md_X3_freePlaces : MD := (RX3, yX3_freePlaces, cX3_freePlaces, 1, Option.some Jvm.ClassFile.FieldType.int, 0, 0)
theorem ok_X3_freePlaces : MOk md_X3_freePlaces 0 := ⟨by decide +kernel, w_669, w_7, ⟨by decide +kernel, by decide +kernel⟩, by decide +kernel, rfl⟩
set_option maxRecDepth 100000 in
set_option maxHeartbeats 4000000 in
theorem con_X3_freePlaces (κ : Cfg) (M : Mem) (this : Option Nat) : Con κ md_X3_freePlaces [rv κ this] M cvI (m_X3_freePlaces M this) := by
  refine Con.of ok_X3_freePlaces (ret_I rfl) (by
    intro v hv
    simp only [List.mem_cons, List.not_mem_nil, or_false] at hv
    subst hv; first | rfl | exact rv_cat _ _) (Nat.le_of_ble_eq_true rfl) ?_
  unfold m_X3_freePlaces
  refine G.sub (lv' := [(0, rv κ this)]) [0] rfl ?_
  refine G_aload_n dX3_freePlaces_0 0 rfl rfl ?_
  refine G_getI cf_X3 (j := 0) rfl w_148 dX3_freePlaces_1 (fun x1 => ?_)
  refine G_aload_n dX3_freePlaces_4 0 rfl rfl ?_
  refine G_getI cf_X3 (j := 1) rfl w_150 dX3_freePlaces_5 (fun x2 => ?_)
  refine G_isub dX3_freePlaces_8 ?_
  exact G_ret (v := ((x1 - x2))) dX3_freePlaces_9 (fun h => by cases h) rfl
def m_X3_score (M : Mem) (this : Option Nat) : Option (UInt32 × Mem) :=
  dI M 3 0 this (fun (x1 : Int32) => (if x1 ≤ 0 then rt FP.fconst0 M else rc M 3 this (cl (m_X3_freePlaces M this) (fun (x3 : Int32) (M2 : Mem) => dF M2 3 4 this (fun (r4 : UInt32) => o_fmul r4 1056964608 (fun (r5 : UInt32) => o_fadd ((FP.i2f x3)) r5 (fun (r6 : UInt32) => dI M2 3 0 this (fun (x7 : Int32) => o_fdiv r6 ((FP.i2f x7)) (fun (r8 : UInt32) => rt r8 M2)))))))))
abbrev md_X3_score : MD := (RX3, yX3_score, cX3_score, 1, Option.some Jvm.ClassFile.FieldType.float, 1, 20)
theorem ok_X3_score : MOk md_X3_score 0 := ⟨by decide +kernel, w_665, w_7, ⟨by decide +kernel, by decide +kernel⟩, by decide +kernel, rfl⟩
set_option maxRecDepth 100000 in
set_option maxHeartbeats 4000000 in
theorem con_X3_score (κ : Cfg) (M : Mem) (this : Option Nat) : Con κ md_X3_score [rv κ this] M cvF (m_X3_score M this) := by
  refine Con.of ok_X3_score (ret_F rfl) (by
    intro v hv
    simp only [List.mem_cons, List.not_mem_nil, or_false] at hv
    subst hv; first | rfl | exact rv_cat _ _) (Nat.le_of_ble_eq_true rfl) ?_
  unfold m_X3_score
  refine G.sub (lv' := [(0, rv κ this)]) [0] rfl ?_
  refine G_aload_n dX3_score_0 0 rfl rfl ?_
  refine G_getI cf_X3 (j := 0) rfl w_148 dX3_score_1 (fun x1 => ?_)
  refine G_if_le (tgt := 29) dX3_score_4 (by decide) ?_ ?_
  · refine G_fconst0 dX3_score_29 ?_
    exact G_ret (v := FP.fconst0) dX3_score_30 (fun h => by cases h) rfl
  · refine G_aload_n dX3_score_7 0 rfl rfl ?_
    refine G_callV cf_X3 ok_X3_freePlaces [] [] (con_X3_freePlaces κ M this) rfl w_666 w_667 w_668 (Nat.le_of_ble_eq_true rfl) (Nat.le_of_ble_eq_true rfl) dX3_score_8 rfl (by simp) (fun x3 M2 => (show G _ _ _ _ _ _ [.int x3] _ from ?_))
    refine G_i2f dX3_score_11 ?_
    refine G_aload_n dX3_score_12 0 rfl rfl ?_
    refine G_getF cf_X3 (j := 4) rfl w_154 dX3_score_13 (fun r4 => ?_)
    refine G_ldcf (v := 1056964608) dX3_score_16 w_670 ?_
    refine G_fmul dX3_score_18 (fun r5 => ?_)
    refine G_fadd dX3_score_19 (fun r6 => ?_)
    refine G_aload_n dX3_score_20 0 rfl rfl ?_
    refine G_getI cf_X3 (j := 0) rfl w_148 dX3_score_21 (fun x7 => ?_)
    refine G_i2f dX3_score_24 ?_
    refine G_fdiv dX3_score_25 (fun r8 => ?_)
    refine G_goto (tgt := 30) dX3_score_26 (by decide) ?_
    exact G_ret (v := r8) dX3_score_30 (fun h => by cases h) rfl
def m_X3_admitCar (M : Mem) (this : Option Nat) : Option (Unit × Mem) :=
  dI M 3 1 this (fun (x1 : Int32) => pI M 3 1 this ((x1 + 1)) (fun (M2 : Mem) => dI M2 3 3 this (fun (x3 : Int32) => pI M2 3 3 this ((x3 + 1)) (fun (M4 : Mem) => rt () M4))))
abbrev md_X3_admitCar : MD := (RX3, yX3_admitCar, cX3_admitCar, 1, Option.none, 0, 0)
theorem ok_X3_admitCar : MOk md_X3_admitCar 0 := ⟨by decide +kernel, w_687, w_7, ⟨by decide +kernel, by decide +kernel⟩, by decide +kernel, rfl⟩
set_option maxRecDepth 100000 in
set_option maxHeartbeats 4000000 in
theorem con_X3_admitCar (κ : Cfg) (M : Mem) (this : Option Nat) : Con κ md_X3_admitCar [rv κ this] M cvV (m_X3_admitCar M this) := by
  refine Con.of ok_X3_admitCar (ret_V rfl) (by
    intro v hv
    simp only [List.mem_cons, List.not_mem_nil, or_false] at hv
    subst hv; first | rfl | exact rv_cat _ _) (Nat.le_of_ble_eq_true rfl) ?_
  unfold m_X3_admitCar
  refine G.sub (lv' := [(0, rv κ this)]) [0] rfl ?_
  refine G_aload_n dX3_admitCar_0 0 rfl rfl ?_
  refine G_dup dX3_admitCar_1 (rv_cat _ _) ?_
  refine G_getI cf_X3 (j := 1) rfl w_150 dX3_admitCar_2 (fun x1 => ?_)
  refine G_iconst (v := 1) dX3_admitCar_5 (by decide) ?_
  refine G_iadd dX3_admitCar_6 ?_
  refine G_putI cf_X3 (j := 1) rfl rfl w_150 (Or.inl rfl) dX3_admitCar_7 (fun M2 => ?_)
  refine G_aload_n dX3_admitCar_10 0 rfl rfl ?_
  refine G_dup dX3_admitCar_11 (rv_cat _ _) ?_
  refine G_getI cf_X3 (j := 3) rfl w_153 dX3_admitCar_12 (fun x3 => ?_)
  refine G_iconst (v := 1) dX3_admitCar_15 (by decide) ?_
  refine G_iadd dX3_admitCar_16 ?_
  refine G_putI cf_X3 (j := 3) rfl rfl w_153 (Or.inl rfl) dX3_admitCar_17 (fun M4 => ?_)
  exact G_ret (v := ()) dX3_admitCar_20 (fun h => by cases h) rfl
def m_X3_releaseCar (M : Mem) (this : Option Nat) : Option (Unit × Mem) :=
  dI M 3 1 this (fun (x1 : Int32) => pI M 3 1 this ((x1 - 1)) (fun (M2 : Mem) => dI M2 3 2 this (fun (x3 : Int32) => pI M2 3 2 this ((x3 + 1)) (fun (M4 : Mem) => rt () M4))))
abbrev md_X3_releaseCar : MD := (RX3, yX3_releaseCar, cX3_releaseCar, 1, Option.none, 0, 0)
theorem ok_X3_releaseCar : MOk md_X3_releaseCar 0 := ⟨by decide +kernel, w_779, w_7, ⟨by decide +kernel, by decide +kernel⟩, by decide +kernel, rfl⟩
set_option maxRecDepth 100000 in
set_option maxHeartbeats 4000000 in
theorem con_X3_releaseCar (κ : Cfg) (M : Mem) (this : Option Nat) : Con κ md_X3_releaseCar [rv κ this] M cvV (m_X3_releaseCar M this) := by
  refine Con.of ok_X3_releaseCar (ret_V rfl) (by
    intro v hv
    simp only [List.mem_cons, List.not_mem_nil, or_false] at hv
    subst hv; first | rfl | exact rv_cat _ _) (Nat.le_of_ble_eq_true rfl) ?_
  unfold m_X3_releaseCar
  refine G.sub (lv' := [(0, rv κ this)]) [0] rfl ?_
  refine G_aload_n dX3_releaseCar_0 0 rfl rfl ?_
  refine G_dup dX3_releaseCar_1 (rv_cat _ _) ?_
  refine G_getI cf_X3 (j := 1) rfl w_150 dX3_releaseCar_2 (fun x1 => ?_)
  refine G_iconst (v := 1) dX3_releaseCar_5 (by decide) ?_
  refine G_isub dX3_releaseCar_6 ?_
  refine G_putI cf_X3 (j := 1) rfl rfl w_150 (Or.inl rfl) dX3_releaseCar_7 (fun M2 => ?_)
  refine G_aload_n dX3_releaseCar_10 0 rfl rfl ?_
  refine G_dup dX3_releaseCar_11 (rv_cat _ _) ?_
  refine G_getI cf_X3 (j := 2) rfl w_152 dX3_releaseCar_12 (fun x3 => ?_)
  refine G_iconst (v := 1) dX3_releaseCar_15 (by decide) ?_
  refine G_iadd dX3_releaseCar_16 ?_
  refine G_putI cf_X3 (j := 2) rfl rfl w_152 (Or.inl rfl) dX3_releaseCar_17 (fun M4 => ?_)
  exact G_ret (v := ()) dX3_releaseCar_20 (fun h => by cases h) rfl
def m_X9_reduce (M : Mem) (this : Option Nat) (p1 : Int32) : Option (Int32 × Mem) :=
  dI M 9 0 this (fun (x1 : Int32) => (if x1 = 1 then dI M 9 1 this (fun (x2 : Int32) => rt ((p1 - ((p1 * x2) / 100))) M) else (if x1 = 2 then dI M 9 1 this (fun (x3 : Int32) => rt ((imax 0 ((p1 - x3)))) M) else (if x1 = 3 then dI M 9 1 this (fun (x4 : Int32) => rt ((imin p1 x4)) M) else rt p1 M))))
abbrev md_X9_reduce : MD := (RX9, yX9_reduce, cX9_reduce, 2, Option.some Jvm.ClassFile.FieldType.int, 1, 21)
theorem ok_X9_reduce : MOk md_X9_reduce 1 := ⟨by decide +kernel, w_749, w_5, ⟨by decide +kernel, by decide +kernel⟩, by decide +kernel, rfl⟩
set_option maxRecDepth 100000 in
set_option maxHeartbeats 4000000 in
theorem con_X9_reduce (κ : Cfg) (M : Mem) (this : Option Nat) (p1 : Int32) : Con κ md_X9_reduce [rv κ this, .int p1] M cvI (m_X9_reduce M this p1) := by
  refine Con.of ok_X9_reduce (ret_I rfl) (by
    intro v hv
    simp only [List.mem_cons, List.not_mem_nil, or_false] at hv
    rcases hv with rfl | rfl <;> first | rfl | exact rv_cat _ _) (Nat.le_of_ble_eq_true rfl) ?_
  unfold m_X9_reduce
  refine G.sub (lv' := [(0, rv κ this), (1, .int p1)]) [0, 1] rfl ?_
  refine G_aload_n dX9_reduce_0 0 rfl rfl ?_
  refine G_getI cf_X9 (j := 0) rfl w_113 dX9_reduce_1 (fun x1 => ?_)
  refine G.cond (fun hx4_0 => ?_) (fun hn4_0 => ?_)
  · refine G_tin (n := 1) (tgt := 32) dX9_reduce_4 (by rw [hx4_0]; rfl) (by decide) (by decide) rfl (by decide) ?_
    refine G_iload_n dX9_reduce_32 1 rfl rfl ?_
    refine G_iload_n dX9_reduce_33 1 rfl rfl ?_
    refine G_aload_n dX9_reduce_34 0 rfl rfl ?_
    refine G_getI cf_X9 (j := 1) rfl w_116 dX9_reduce_35 (fun x2 => ?_)
    refine G_imul dX9_reduce_38 ?_
    refine G_bipush (v := 100) dX9_reduce_39 (by decide) ?_
    refine G_idiv dX9_reduce_41 (by decide) ?_
    refine G_isub dX9_reduce_42 ?_
    exact G_ret (v := ((p1 - ((p1 * x2) / 100)))) dX9_reduce_43 (fun h => by cases h) rfl
  refine G.cond (fun hx4_1 => ?_) (fun hn4_1 => ?_)
  · refine G_tin (n := 2) (tgt := 44) dX9_reduce_4 (by rw [hx4_1]; rfl) (by decide) (by decide) rfl (by decide) ?_
    refine G_iconst (v := 0) dX9_reduce_44 (by decide) ?_
    refine G_iload_n dX9_reduce_45 1 rfl rfl ?_
    refine G_aload_n dX9_reduce_46 0 rfl rfl ?_
    refine G_getI cf_X9 (j := 1) rfl w_116 dX9_reduce_47 (fun x3 => ?_)
    refine G_isub dX9_reduce_50 ?_
    refine G_max w_750 w_573 w_17 w_574 (Nat.le_of_ble_eq_true rfl) (Nat.le_of_ble_eq_true rfl) (by simp) dX9_reduce_51 ?_
    exact G_ret (v := ((imax 0 ((p1 - x3))))) dX9_reduce_54 (fun h => by cases h) rfl
  refine G.cond (fun hx4_2 => ?_) (fun hn4_2 => ?_)
  · refine G_tin (n := 3) (tgt := 55) dX9_reduce_4 (by rw [hx4_2]; rfl) (by decide) (by decide) rfl (by decide) ?_
    refine G_iload_n dX9_reduce_55 1 rfl rfl ?_
    refine G_aload_n dX9_reduce_56 0 rfl rfl ?_
    refine G_getI cf_X9 (j := 1) rfl w_116 dX9_reduce_57 (fun x4 => ?_)
    refine G_min w_751 w_542 w_17 w_543 (Nat.le_of_ble_eq_true rfl) (Nat.le_of_ble_eq_true rfl) (by simp) dX9_reduce_60 ?_
    exact G_ret (v := ((imin p1 x4))) dX9_reduce_63 (fun h => by cases h) rfl
  refine G_tout (tgt := 64) dX9_reduce_4 (by
      have hz0 : (x1).toInt ≠ 1 := fun h => hn4_0 (Int32.toInt_inj.mp (h.trans rfl))
      have hz1 : (x1).toInt ≠ 2 := fun h => hn4_1 (Int32.toInt_inj.mp (h.trans rfl))
      have hz2 : (x1).toInt ≠ 3 := fun h => hn4_2 (Int32.toInt_inj.mp (h.trans rfl))
      omega) (by decide) ?_
  refine G_iload_n dX9_reduce_64 1 rfl rfl ?_
  exact G_ret (v := p1) dX9_reduce_65 (fun h => by cases h) rfl
def m_X3_passHour (M : Mem) (this : Option Nat) : Option (Unit × Mem) :=
  dF M 3 4 this (fun (r1 : UInt32) => o_fmul r1 1061158912 (fun (r2 : UInt32) => dI M 3 2 this (fun (x3 : Int32) => o_fmul ((FP.i2f x3)) 1048576000 (fun (r4 : UInt32) => o_fadd r2 r4 (fun (r5 : UInt32) => pF M 3 4 this r5 (fun (M6 : Mem) => pI M6 3 2 this 0 (fun (M7 : Mem) => rt () M7)))))))
abbrev md_X3_passHour : MD := (RX3, yX3_passHour, cX3_passHour, 1, Option.none, 0, 0)
theorem ok_X3_passHour : MOk md_X3_passHour 0 := ⟨by decide +kernel, w_809, w_7, ⟨by decide +kernel, by decide +kernel⟩, by decide +kernel, rfl⟩
set_option maxRecDepth 100000 in
set_option maxHeartbeats 4000000 in
theorem con_X3_passHour (κ : Cfg) (M : Mem) (this : Option Nat) : Con κ md_X3_passHour [rv κ this] M cvV (m_X3_passHour M this) := by
  refine Con.of ok_X3_passHour (ret_V rfl) (by
    intro v hv
    simp only [List.mem_cons, List.not_mem_nil, or_false] at hv
    subst hv; first | rfl | exact rv_cat _ _) (Nat.le_of_ble_eq_true rfl) ?_
  unfold m_X3_passHour
  refine G.sub (lv' := [(0, rv κ this)]) [0] rfl ?_
  refine G_aload_n dX3_passHour_0 0 rfl rfl ?_
  refine G_aload_n dX3_passHour_1 0 rfl rfl ?_
  refine G_getF cf_X3 (j := 4) rfl w_154 dX3_passHour_2 (fun r1 => ?_)
  refine G_ldcf (v := 1061158912) dX3_passHour_5 w_810 ?_
  refine G_fmul dX3_passHour_7 (fun r2 => ?_)
  refine G_aload_n dX3_passHour_8 0 rfl rfl ?_
  refine G_getI cf_X3 (j := 2) rfl w_152 dX3_passHour_9 (fun x3 => ?_)
  refine G_i2f dX3_passHour_12 ?_
  refine G_ldcf (v := 1048576000) dX3_passHour_13 w_811 ?_
  refine G_fmul dX3_passHour_15 (fun r4 => ?_)
  refine G_fadd dX3_passHour_16 (fun r5 => ?_)
  refine G_putF cf_X3 (j := 4) rfl rfl w_154 (Or.inl rfl) dX3_passHour_17 (fun M6 => ?_)
  refine G_aload_n dX3_passHour_20 0 rfl rfl ?_
  refine G_iconst (v := 0) dX3_passHour_21 (by decide) ?_
  refine G_putI cf_X3 (j := 2) rfl rfl w_152 (Or.inl rfl) dX3_passHour_22 (fun M7 => ?_)
  exact G_ret (v := ()) dX3_passHour_25 (fun h => by cases h) rfl
def b_X2_make_12 (this : Option Nat) (L12_2 : (Int32 × Mem) → Option (Unit × Mem)) (a3 : Int32 × Mem) : Option (Unit × Mem) :=
  (if 5 ≤ a3.1 then rt () a3.2 else dP a3.2 2 0 this (fun (q5 : Option Nat) => sI a3.2 100 q5 a3.1 ((-1)) (fun (M6 : Mem) => L12_2 ((a3.1 + 1), M6))))
def m_X2_make (M : Mem) (this : Option Nat) (p1 : Int32) (p2 : Int32) : Option (Unit × Mem) :=
  pI M 2 2 this p1 (fun (M1 : Mem) => pI M1 2 1 this p2 (fun (M2 : Mem) => lp (b_X2_make_12 this) FU (0, M2)))
abbrev md_X2_make : MD := (RX2, yX2_make, cX2_make, 4, Option.none, 0, 0)
theorem ok_X2_make : MOk md_X2_make 2 := ⟨by decide +kernel, w_606, w_6, ⟨by decide +kernel, by decide +kernel⟩, by decide +kernel, rfl⟩
set_option maxRecDepth 100000 in
set_option maxHeartbeats 4000000 in
theorem con_X2_make (κ : Cfg) (M : Mem) (this : Option Nat) (p1 : Int32) (p2 : Int32) : Con κ md_X2_make [rv κ this, .int p1, .int p2] M cvV (m_X2_make M this p1 p2) := by
  refine Con.of ok_X2_make (ret_V rfl) (by
    intro v hv
    simp only [List.mem_cons, List.not_mem_nil, or_false] at hv
    rcases hv with rfl | rfl | rfl <;> first | rfl | exact rv_cat _ _) (Nat.le_of_ble_eq_true rfl) ?_
  unfold m_X2_make
  refine G.sub (lv' := [(0, rv κ this), (1, .int p1), (2, .int p2)]) [0, 1, 2] rfl ?_
  refine G_aload_n dX2_make_0 0 rfl rfl ?_
  refine G_iload_n dX2_make_1 1 rfl rfl ?_
  refine G_putI cf_X2 (j := 2) rfl rfl w_134 (Or.inl rfl) dX2_make_2 (fun M1 => ?_)
  refine G_aload_n dX2_make_5 0 rfl rfl ?_
  refine G_iload_n dX2_make_6 2 rfl rfl ?_
  refine G_putI cf_X2 (j := 1) rfl rfl w_133 (Or.inl rfl) dX2_make_7 (fun M2 => ?_)
  refine G_iconst (v := 0) dX2_make_10 (by decide) ?_
  refine G_istore_n (lv' := [(3, .int 0), (0, rv κ this), (1, .int p1), (2, .int p2)]) dX2_make_11 rfl (Nat.le_of_ble_eq_true rfl) rfl ?_
  refine G.sub (lv' := [(0, rv κ this), (3, .int 0)]) [1, 0] rfl ?_
  refine G.loop (lvf := fun (a3 : Int32 × Mem) => [(0, rv κ this), (3, .int a3.1)]) (mf := fun (a3 : Int32 × Mem) => a3.2) (fun L12_2 hL12_2 a3 => ?_) FU (0, M2)
  unfold b_X2_make_12
  refine G_iload_n dX2_make_12 1 rfl rfl ?_
  refine G_iconst (v := 5) dX2_make_13 (by decide) ?_
  refine G_icmp_ge (tgt := 30) dX2_make_14 (by decide) ?_ ?_
  · exact G_ret (v := ()) dX2_make_30 (fun h => by cases h) rfl
  · refine G_aload_n dX2_make_17 0 rfl rfl ?_
    refine G_getP cf_X2 (j := 0) rfl w_132 dX2_make_18 (fun q5 => ?_)
    refine G_iload_n dX2_make_21 1 rfl rfl ?_
    refine G_iconst (v := (-1)) dX2_make_22 (by decide) ?_
    refine G_iast dX2_make_23 (fun M6 => ?_)
    refine G_iinc (v := (a3.1 + 1)) (lv' := [(3, .int (a3.1 + 1)), (0, rv κ this)]) dX2_make_24 1 rfl (congrArg (fun z9 : Int32 => a3.1 + z9) (by decide : Int32.ofInt 1 = 1)) (Nat.le_of_ble_eq_true rfl) rfl ?_
    refine G_goto (tgt := 12) dX2_make_27 (by decide) ?_
    exact G.sub [1, 0] rfl (hL12_2 _)
def m_X2_takes (M : Mem) (this : Option Nat) (p1 : Int32) : Option (Int32 × Mem) :=
  dI M 2 2 this (fun (x1 : Int32) => (if x1 = (-1) then rtZ 1 M else dI M 2 2 this (fun (x2 : Int32) => (if x2 ≠ p1 then rtZ 0 M else rtZ 1 M))))
abbrev md_X2_takes : MD := (RX2, yX2_takes, cX2_takes, 2, Option.some Jvm.ClassFile.FieldType.boolean, 0, 0)
theorem ok_X2_takes : MOk md_X2_takes 1 := ⟨by decide +kernel, w_627, w_6, ⟨by decide +kernel, by decide +kernel⟩, by decide +kernel, rfl⟩
set_option maxRecDepth 100000 in
set_option maxHeartbeats 4000000 in
theorem con_X2_takes (κ : Cfg) (M : Mem) (this : Option Nat) (p1 : Int32) : Con κ md_X2_takes [rv κ this, .int p1] M cvI (m_X2_takes M this p1) := by
  refine Con.of ok_X2_takes (ret_Z rfl) (by
    intro v hv
    simp only [List.mem_cons, List.not_mem_nil, or_false] at hv
    rcases hv with rfl | rfl <;> first | rfl | exact rv_cat _ _) (Nat.le_of_ble_eq_true rfl) ?_
  unfold m_X2_takes
  refine G.sub (lv' := [(0, rv κ this), (1, .int p1)]) [0, 1] rfl ?_
  refine G_aload_n dX2_takes_0 0 rfl rfl ?_
  refine G_getI cf_X2 (j := 2) rfl w_134 dX2_takes_1 (fun x1 => ?_)
  refine G_iconst (v := (-1)) dX2_takes_4 (by decide) ?_
  refine G_icmp_eq (tgt := 16) dX2_takes_5 (by decide) ?_ ?_
  · refine G_iconst (v := 1) dX2_takes_16 (by decide) ?_
    refine G_goto (tgt := 21) dX2_takes_17 (by decide) ?_
    exact G_retZ dX2_takes_21
  · refine G_aload_n dX2_takes_8 0 rfl rfl ?_
    refine G_getI cf_X2 (j := 2) rfl w_134 dX2_takes_9 (fun x2 => ?_)
    refine G_iload_n dX2_takes_12 1 rfl rfl ?_
    refine G_icmp_ne (tgt := 20) dX2_takes_13 (by decide) ?_ ?_
    · refine G_iconst (v := 0) dX2_takes_20 (by decide) ?_
      exact G_retZ dX2_takes_21
    · refine G_iconst (v := 1) dX2_takes_16 (by decide) ?_
      refine G_goto (tgt := 21) dX2_takes_17 (by decide) ?_
      exact G_retZ dX2_takes_21
def m_X2_fill (M : Mem) (this : Option Nat) (p1 : Int32) (p2 : Int32) : Option (Unit × Mem) :=
  rc M 2 this (cl (m_X2_hasPlace M this p1) (fun (x2 : Int32) (M1 : Mem) => (if x2 = 0 then rt () M1 else dP M1 2 0 this (fun (q3 : Option Nat) => sI M1 100 q3 p1 p2 (fun (M4 : Mem) => rt () M4)))))
abbrev md_X2_fill : MD := (RX2, yX2_fill, cX2_fill, 3, Option.none, 2, 43)
theorem ok_X2_fill : MOk md_X2_fill 2 := ⟨by decide +kernel, w_631, w_6, ⟨by decide +kernel, by decide +kernel⟩, by decide +kernel, rfl⟩
set_option maxRecDepth 100000 in
set_option maxHeartbeats 4000000 in
theorem con_X2_fill (κ : Cfg) (M : Mem) (this : Option Nat) (p1 : Int32) (p2 : Int32) : Con κ md_X2_fill [rv κ this, .int p1, .int p2] M cvV (m_X2_fill M this p1 p2) := by
  refine Con.of ok_X2_fill (ret_V rfl) (by
    intro v hv
    simp only [List.mem_cons, List.not_mem_nil, or_false] at hv
    rcases hv with rfl | rfl | rfl <;> first | rfl | exact rv_cat _ _) (Nat.le_of_ble_eq_true rfl) ?_
  unfold m_X2_fill
  refine G.sub (lv' := [(0, rv κ this), (1, .int p1), (2, .int p2)]) [0, 1, 2] rfl ?_
  refine G_aload_n dX2_fill_0 0 rfl rfl ?_
  refine G_iload_n dX2_fill_1 1 rfl rfl ?_
  refine G_callV cf_X2 ok_X2_hasPlace [.int p1] [] (con_X2_hasPlace κ M this p1) rfl w_632 w_620 w_621 (Nat.le_of_ble_eq_true rfl) (Nat.le_of_ble_eq_true rfl) dX2_fill_2 rfl (by simp) (fun x2 M1 => (show G _ _ _ _ _ _ [.int x2] _ from ?_))
  refine G_if_eq (tgt := 15) dX2_fill_5 (by decide) ?_ ?_
  · exact G_ret (v := ()) dX2_fill_15 (fun h => by cases h) rfl
  · refine G_aload_n dX2_fill_8 0 rfl rfl ?_
    refine G_getP cf_X2 (j := 0) rfl w_132 dX2_fill_9 (fun q3 => ?_)
    refine G_iload_n dX2_fill_12 1 rfl rfl ?_
    refine G_iload_n dX2_fill_13 2 rfl rfl ?_
    refine G_iast dX2_fill_14 (fun M4 => ?_)
    exact G_ret (v := ()) dX2_fill_15 (fun h => by cases h) rfl
def b_X2_filledPlaces_4 (this : Option Nat) (L4_0 : (Int32 × Int32 × Mem) → Option (Int32 × Mem)) (a1 : Int32 × Int32 × Mem) : Option (Int32 × Mem) :=
  (if 5 ≤ a1.2.1 then rt a1.1 a1.2.2 else dI a1.2.2 2 1 this (fun (x3 : Int32) => (if x3 ≤ a1.2.1 then rt a1.1 a1.2.2 else dP a1.2.2 2 0 this (fun (q4 : Option Nat) => aI a1.2.2 100 q4 a1.2.1 (fun (x5 : Int32) => jn (fun (x7 : Int32) (M8 : Mem) => L4_0 ((a1.1 + x7), (a1.2.1 + 1), M8)) (fun (J33_5 : Int32 → Mem → Option (Int32 × Mem)) => (if x5 = (-1) then J33_5 0 a1.2.2 else J33_5 1 a1.2.2)))))))
def m_X2_filledPlaces (M : Mem) (this : Option Nat) : Option (Int32 × Mem) :=
  lp (b_X2_filledPlaces_4 this) FU (0, 0, M)
abbrev md_X2_filledPlaces : MD := (RX2, yX2_filledPlaces, cX2_filledPlaces, 3, Option.some Jvm.ClassFile.FieldType.int, 0, 0)
theorem ok_X2_filledPlaces : MOk md_X2_filledPlaces 0 := ⟨by decide +kernel, w_636, w_6, ⟨by decide +kernel, by decide +kernel⟩, by decide +kernel, rfl⟩
set_option maxRecDepth 100000 in
set_option maxHeartbeats 4000000 in
theorem con_X2_filledPlaces (κ : Cfg) (M : Mem) (this : Option Nat) : Con κ md_X2_filledPlaces [rv κ this] M cvI (m_X2_filledPlaces M this) := by
  refine Con.of ok_X2_filledPlaces (ret_I rfl) (by
    intro v hv
    simp only [List.mem_cons, List.not_mem_nil, or_false] at hv
    subst hv; first | rfl | exact rv_cat _ _) (Nat.le_of_ble_eq_true rfl) ?_
  unfold m_X2_filledPlaces
  refine G.sub (lv' := [(0, rv κ this)]) [0] rfl ?_
  refine G_iconst (v := 0) dX2_filledPlaces_0 (by decide) ?_
  refine G_istore_n (lv' := [(1, .int 0), (0, rv κ this)]) dX2_filledPlaces_1 rfl (Nat.le_of_ble_eq_true rfl) rfl ?_
  refine G_iconst (v := 0) dX2_filledPlaces_2 (by decide) ?_
  refine G_istore_n (lv' := [(2, .int 0), (1, .int 0), (0, rv κ this)]) dX2_filledPlaces_3 rfl (Nat.le_of_ble_eq_true rfl) rfl ?_
  refine G.sub (lv' := [(0, rv κ this), (1, .int 0), (2, .int 0)]) [2, 1, 0] rfl ?_
  refine G.loop (lvf := fun (a1 : Int32 × Int32 × Mem) => [(0, rv κ this), (1, .int a1.1), (2, .int a1.2.1)]) (mf := fun (a1 : Int32 × Int32 × Mem) => a1.2.2) (fun L4_0 hL4_0 a1 => ?_) FU (0, 0, M)
  unfold b_X2_filledPlaces_4
  refine G_iload_n dX2_filledPlaces_4 2 rfl rfl ?_
  refine G_iconst (v := 5) dX2_filledPlaces_5 (by decide) ?_
  refine G_icmp_ge (tgt := 41) dX2_filledPlaces_6 (by decide) ?_ ?_
  · refine G_iload_n dX2_filledPlaces_41 1 rfl rfl ?_
    exact G_ret (v := a1.1) dX2_filledPlaces_42 (fun h => by cases h) rfl
  · refine G_iload_n dX2_filledPlaces_9 2 rfl rfl ?_
    refine G_aload_n dX2_filledPlaces_10 0 rfl rfl ?_
    refine G_getI cf_X2 (j := 1) rfl w_133 dX2_filledPlaces_11 (fun x3 => ?_)
    refine G_icmp_ge (tgt := 41) dX2_filledPlaces_14 (by decide) ?_ ?_
    · refine G_iload_n dX2_filledPlaces_41 1 rfl rfl ?_
      exact G_ret (v := a1.1) dX2_filledPlaces_42 (fun h => by cases h) rfl
    · refine G_iload_n dX2_filledPlaces_17 1 rfl rfl ?_
      refine G_aload_n dX2_filledPlaces_18 0 rfl rfl ?_
      refine G_getP cf_X2 (j := 0) rfl w_132 dX2_filledPlaces_19 (fun q4 => ?_)
      refine G_iload_n dX2_filledPlaces_22 2 rfl rfl ?_
      refine G_iald dX2_filledPlaces_23 (fun x5 => ?_)
      refine G_iconst (v := (-1)) dX2_filledPlaces_24 (by decide) ?_
      refine G.jn (P := (fun (J : Int32 → Mem → Option (Int32 × Mem)) => ∀ (x7 : Int32) (M8 : Mem), G κ md_X2_filledPlaces cvI (J x7 M8) 33 [(0, rv κ this), (2, .int a1.2.1)] [.int x7, .int a1.1] M8)) ?_ ?_
      · intro x7 M8
        refine G_iadd dX2_filledPlaces_33 ?_
        refine G_istore_n (lv' := [(1, .int (a1.1 + x7)), (0, rv κ this), (2, .int a1.2.1)]) dX2_filledPlaces_34 rfl (Nat.le_of_ble_eq_true rfl) rfl ?_
        refine G_iinc (v := (a1.2.1 + 1)) (lv' := [(2, .int (a1.2.1 + 1)), (1, .int (a1.1 + x7)), (0, rv κ this)]) dX2_filledPlaces_35 2 rfl (congrArg (fun z9 : Int32 => a1.2.1 + z9) (by decide : Int32.ofInt 1 = 1)) (Nat.le_of_ble_eq_true rfl) rfl ?_
        refine G_goto (tgt := 4) dX2_filledPlaces_38 (by decide) ?_
        exact G.sub [2, 1, 0] rfl (hL4_0 _)
      · intro J33_5 hJ33_5
        refine G_icmp_eq (tgt := 32) dX2_filledPlaces_25 (by decide) ?_ ?_
        · refine G_iconst (v := 0) dX2_filledPlaces_32 (by decide) ?_
          exact G.sub [0, 2] rfl (hJ33_5 _ _)
        · refine G_iconst (v := 1) dX2_filledPlaces_28 (by decide) ?_
          refine G_goto (tgt := 33) dX2_filledPlaces_29 (by decide) ?_
          exact G.sub [0, 2] rfl (hJ33_5 _ _)
def b_X10_bitsOf_30 (J51_4 : UInt32 → Int32 → Mem → Option (Int32 × Mem)) (L30_9 : (UInt32 × Int32 × Mem) → Option (Int32 × Mem)) (a10 : UInt32 × Int32 × Mem) : Option (Int32 × Mem) :=
  (if 0 ≤ (Op.cmpValue (FP.fcmp a10.1 FP.fconst1) .g) then J51_4 a10.1 a10.2.1 a10.2.2 else (if a10.2.1 ≤ 1 then J51_4 a10.1 a10.2.1 a10.2.2 else o_fmul a10.1 FP.fconst2 (fun (r12 : UInt32) => L30_9 (r12, (a10.2.1 - 1), a10.2.2))))
def b_X10_bitsOf_5 (J30_0 : UInt32 → Int32 → Mem → Option (Int32 × Mem)) (L5_12 : (UInt32 × Int32 × Mem) → Option (Int32 × Mem)) (a13 : UInt32 × Int32 × Mem) : Option (Int32 × Mem) :=
  (if (Op.cmpValue (FP.fcmp a13.1 FP.fconst2) .l) < 0 then J30_0 a13.1 a13.2.1 a13.2.2 else (if 254 ≤ a13.2.1 then J30_0 a13.1 a13.2.1 a13.2.2 else o_fmul a13.1 1056964608 (fun (r15 : UInt32) => L5_12 (r15, (a13.2.1 + 1), a13.2.2))))
def m_X10_bitsOf (M : Mem) (p1 : UInt32) : Option (Int32 × Mem) :=
  jn (fun (r2 : UInt32) (x3 : Int32) (M4 : Mem) => jn (fun (r6 : UInt32) (x7 : Int32) (M8 : Mem) => o_fmul r6 1258291200 (fun (r9 : UInt32) => rt ((((x7 - 1) <<< (23 &&& 31)) + (FP.f2i r9))) M8)) (fun (J51_4 : UInt32 → Int32 → Mem → Option (Int32 × Mem)) => lp (b_X10_bitsOf_30 J51_4) FU (r2, x3, M4))) (fun (J30_0 : UInt32 → Int32 → Mem → Option (Int32 × Mem)) => lp (b_X10_bitsOf_5 J30_0) FU (p1, 127, M))
abbrev md_X10_bitsOf : MD := (RX10, yX10_bitsOf, cX10_bitsOf, 3, Option.some Jvm.ClassFile.FieldType.int, 0, 0)
theorem ok_X10_bitsOf : MOk md_X10_bitsOf 1 := ⟨by decide +kernel, w_827, w_1, ⟨by decide +kernel, by decide +kernel⟩, by decide +kernel, rfl⟩
set_option maxRecDepth 100000 in
set_option maxHeartbeats 4000000 in
theorem con_X10_bitsOf (κ : Cfg) (M : Mem) (p1 : UInt32) : Con κ md_X10_bitsOf [.float p1] M cvI (m_X10_bitsOf M p1) := by
  refine Con.of ok_X10_bitsOf (ret_I rfl) (by
    intro v hv
    simp only [List.mem_cons, List.not_mem_nil, or_false] at hv
    subst hv; first | rfl | exact rv_cat _ _) (Nat.le_of_ble_eq_true rfl) ?_
  unfold m_X10_bitsOf
  refine G.sub (lv' := [(0, .float p1)]) [0] rfl ?_
  refine G_fload_n dX10_bitsOf_0 0 rfl rfl ?_
  refine G_fstore_n (lv' := [(1, .float p1), (0, .float p1)]) dX10_bitsOf_1 rfl (Nat.le_of_ble_eq_true rfl) rfl ?_
  refine G_bipush (v := 127) dX10_bitsOf_2 (by decide) ?_
  refine G_istore_n (lv' := [(2, .int 127), (1, .float p1), (0, .float p1)]) dX10_bitsOf_4 rfl (Nat.le_of_ble_eq_true rfl) rfl ?_
  refine G.jn (P := (fun (J : UInt32 → Int32 → Mem → Option (Int32 × Mem)) => ∀ (r2 : UInt32) (x3 : Int32) (M4 : Mem), G κ md_X10_bitsOf cvI (J r2 x3 M4) 30 [(1, .float r2), (2, .int x3)] [] M4)) ?_ ?_
  · intro r2 x3 M4
    refine G.jn (P := (fun (J : UInt32 → Int32 → Mem → Option (Int32 × Mem)) => ∀ (r6 : UInt32) (x7 : Int32) (M8 : Mem), G κ md_X10_bitsOf cvI (J r6 x7 M8) 51 [(1, .float r6), (2, .int x7)] [] M8)) ?_ ?_
    · intro r6 x7 M8
      refine G_iload_n dX10_bitsOf_51 1 rfl rfl ?_
      refine G_iconst (v := 1) dX10_bitsOf_52 (by decide) ?_
      refine G_isub dX10_bitsOf_53 ?_
      refine G_bipush (v := 23) dX10_bitsOf_54 (by decide) ?_
      refine G_ishl dX10_bitsOf_56 ?_
      refine G_fload_n dX10_bitsOf_57 0 rfl rfl ?_
      refine G_ldcwf (v := 1258291200) dX10_bitsOf_58 w_829 ?_
      refine G_fmul dX10_bitsOf_61 (fun r9 => ?_)
      refine G_f2i dX10_bitsOf_62 ?_
      refine G_iadd dX10_bitsOf_63 ?_
      exact G_ret (v := ((((x7 - 1) <<< (23 &&& 31)) + (FP.f2i r9)))) dX10_bitsOf_64 (fun h => by cases h) rfl
    · intro J51_4 hJ51_4
      refine G.sub (lv' := [(1, .float r2), (2, .int x3)]) [0, 1] rfl ?_
      refine G.loop (lvf := fun (a10 : UInt32 × Int32 × Mem) => [(1, .float a10.1), (2, .int a10.2.1)]) (mf := fun (a10 : UInt32 × Int32 × Mem) => a10.2.2) (fun L30_9 hL30_9 a10 => ?_) FU (r2, x3, M4)
      unfold b_X10_bitsOf_30
      refine G_fload_n dX10_bitsOf_30 0 rfl rfl ?_
      refine G_fconst1 dX10_bitsOf_31 ?_
      refine G_fcmp dX10_bitsOf_32 ?_
      refine G_if_ge (tgt := 51) dX10_bitsOf_33 (by decide) ?_ ?_
      · exact G.sub [0, 1] rfl (hJ51_4 _ _ _)
      · refine G_iload_n dX10_bitsOf_36 1 rfl rfl ?_
        refine G_iconst (v := 1) dX10_bitsOf_37 (by decide) ?_
        refine G_icmp_le (tgt := 51) dX10_bitsOf_38 (by decide) ?_ ?_
        · exact G.sub [0, 1] rfl (hJ51_4 _ _ _)
        · refine G_fload_n dX10_bitsOf_41 0 rfl rfl ?_
          refine G_fconst2 dX10_bitsOf_42 ?_
          refine G_fmul dX10_bitsOf_43 (fun r12 => ?_)
          refine G_fstore_n (lv' := [(1, .float r12), (2, .int a10.2.1)]) dX10_bitsOf_44 rfl (Nat.le_of_ble_eq_true rfl) rfl ?_
          refine G_iinc (v := (a10.2.1 - 1)) (lv' := [(2, .int (a10.2.1 - 1)), (1, .float r12)]) dX10_bitsOf_45 1 rfl (iinc_m1 _) (Nat.le_of_ble_eq_true rfl) rfl ?_
          refine G_goto (tgt := 30) dX10_bitsOf_48 (by decide) ?_
          exact G.sub [1, 0] rfl (hL30_9 _)
  · intro J30_0 hJ30_0
    refine G.sub (lv' := [(1, .float p1), (2, .int 127)]) [1, 0] rfl ?_
    refine G.loop (lvf := fun (a13 : UInt32 × Int32 × Mem) => [(1, .float a13.1), (2, .int a13.2.1)]) (mf := fun (a13 : UInt32 × Int32 × Mem) => a13.2.2) (fun L5_12 hL5_12 a13 => ?_) FU (p1, 127, M)
    unfold b_X10_bitsOf_5
    refine G_fload_n dX10_bitsOf_5 0 rfl rfl ?_
    refine G_fconst2 dX10_bitsOf_6 ?_
    refine G_fcmp dX10_bitsOf_7 ?_
    refine G_if_lt (tgt := 30) dX10_bitsOf_8 (by decide) ?_ ?_
    · exact G.sub [0, 1] rfl (hJ30_0 _ _ _)
    · refine G_iload_n dX10_bitsOf_11 1 rfl rfl ?_
      refine G_sipush (v := 254) dX10_bitsOf_12 (by decide) ?_
      refine G_icmp_ge (tgt := 30) dX10_bitsOf_15 (by decide) ?_ ?_
      · exact G.sub [0, 1] rfl (hJ30_0 _ _ _)
      · refine G_fload_n dX10_bitsOf_18 0 rfl rfl ?_
        refine G_ldcwf (v := 1056964608) dX10_bitsOf_19 w_828 ?_
        refine G_fmul dX10_bitsOf_22 (fun r15 => ?_)
        refine G_fstore_n (lv' := [(1, .float r15), (2, .int a13.2.1)]) dX10_bitsOf_23 rfl (Nat.le_of_ble_eq_true rfl) rfl ?_
        refine G_iinc (v := (a13.2.1 + 1)) (lv' := [(2, .int (a13.2.1 + 1)), (1, .float r15)]) dX10_bitsOf_24 1 rfl (congrArg (fun z9 : Int32 => a13.2.1 + z9) (by decide : Int32.ofInt 1 = 1)) (Nat.le_of_ble_eq_true rfl) rfl ?_
        refine G_goto (tgt := 5) dX10_bitsOf_27 (by decide) ?_
        exact G.sub [1, 0] rfl (hL5_12 _)
def m_X3_property (M : Mem) (this : Option Nat) (p1 : Int32) : Option (Int32 × Mem) :=
  (if p1 = 0 then dI M 3 0 this (fun (x1 : Int32) => rt x1 M) else (if p1 = 1 then dI M 3 1 this (fun (x2 : Int32) => rt x2 M) else (if p1 = 2 then dF M 3 4 this (fun (r3 : UInt32) => cl (m_X10_bitsOf M r3) (fun (x5 : Int32) (M4 : Mem) => rt x5 M4)) else (if p1 = 3 then rc M 3 this (cl (m_X3_score M this) (fun (r7 : UInt32) (M6 : Mem) => cl (m_X10_bitsOf M6 r7) (fun (x9 : Int32) (M8 : Mem) => rt x9 M8))) else (if p1 = 4 then dI M 3 2 this (fun (x10 : Int32) => rt x10 M) else dI M 3 3 this (fun (x11 : Int32) => rt x11 M))))))
abbrev md_X3_property : MD := (RX3, yX3_property, cX3_property, 2, Option.some Jvm.ClassFile.FieldType.int, 2, 40)
theorem ok_X3_property : MOk md_X3_property 1 := ⟨by decide +kernel, w_824, w_7, ⟨by decide +kernel, by decide +kernel⟩, by decide +kernel, rfl⟩
set_option maxRecDepth 100000 in
set_option maxHeartbeats 4000000 in
theorem con_X3_property (κ : Cfg) (M : Mem) (this : Option Nat) (p1 : Int32) : Con κ md_X3_property [rv κ this, .int p1] M cvI (m_X3_property M this p1) := by
  refine Con.of ok_X3_property (ret_I rfl) (by
    intro v hv
    simp only [List.mem_cons, List.not_mem_nil, or_false] at hv
    rcases hv with rfl | rfl <;> first | rfl | exact rv_cat _ _) (Nat.le_of_ble_eq_true rfl) ?_
  unfold m_X3_property
  refine G.sub (lv' := [(0, rv κ this), (1, .int p1)]) [0, 1] rfl ?_
  refine G_iload_n dX3_property_0 1 rfl rfl ?_
  refine G.cond (fun hx1_0 => ?_) (fun hn1_0 => ?_)
  · refine G_tin (n := 0) (tgt := 36) dX3_property_1 (by rw [hx1_0]; rfl) (by decide) (by decide) rfl (by decide) ?_
    refine G_aload_n dX3_property_36 0 rfl rfl ?_
    refine G_getI cf_X3 (j := 0) rfl w_148 dX3_property_37 (fun x1 => ?_)
    exact G_ret (v := x1) dX3_property_40 (fun h => by cases h) rfl
  refine G.cond (fun hx1_1 => ?_) (fun hn1_1 => ?_)
  · refine G_tin (n := 1) (tgt := 41) dX3_property_1 (by rw [hx1_1]; rfl) (by decide) (by decide) rfl (by decide) ?_
    refine G_aload_n dX3_property_41 0 rfl rfl ?_
    refine G_getI cf_X3 (j := 1) rfl w_150 dX3_property_42 (fun x2 => ?_)
    exact G_ret (v := x2) dX3_property_45 (fun h => by cases h) rfl
  refine G.cond (fun hx1_2 => ?_) (fun hn1_2 => ?_)
  · refine G_tin (n := 2) (tgt := 46) dX3_property_1 (by rw [hx1_2]; rfl) (by decide) (by decide) rfl (by decide) ?_
    refine G_aload_n dX3_property_46 0 rfl rfl ?_
    refine G_getF cf_X3 (j := 4) rfl w_154 dX3_property_47 (fun r3 => ?_)
    refine G_callSN ok_X10_bitsOf [.float r3] [] (con_X10_bitsOf κ M r3) rfl (by simp [nestL, mdO, mdY]) w_826 (Nat.le_of_ble_eq_true rfl) (Nat.le_of_ble_eq_true rfl) dX3_property_50 rfl (by simp) (fun x5 M4 => (show G _ _ _ _ _ _ [.int x5] _ from ?_))
    exact G_ret (v := x5) dX3_property_53 (fun h => by cases h) rfl
  refine G.cond (fun hx1_3 => ?_) (fun hn1_3 => ?_)
  · refine G_tin (n := 3) (tgt := 54) dX3_property_1 (by rw [hx1_3]; rfl) (by decide) (by decide) rfl (by decide) ?_
    refine G_aload_n dX3_property_54 0 rfl rfl ?_
    refine G_callV cf_X3 ok_X3_score [] [] (con_X3_score κ M this) rfl w_830 w_663 w_664 (Nat.le_of_ble_eq_true rfl) (Nat.le_of_ble_eq_true rfl) dX3_property_55 rfl (by simp) (fun r7 M6 => (show G _ _ _ _ _ _ [.float r7] _ from ?_))
    refine G_callSN ok_X10_bitsOf [.float r7] [] (con_X10_bitsOf κ M6 r7) rfl (by simp [nestL, mdO, mdY]) w_826 (Nat.le_of_ble_eq_true rfl) (Nat.le_of_ble_eq_true rfl) dX3_property_58 rfl (by simp) (fun x9 M8 => (show G _ _ _ _ _ _ [.int x9] _ from ?_))
    exact G_ret (v := x9) dX3_property_61 (fun h => by cases h) rfl
  refine G.cond (fun hx1_4 => ?_) (fun hn1_4 => ?_)
  · refine G_tin (n := 4) (tgt := 62) dX3_property_1 (by rw [hx1_4]; rfl) (by decide) (by decide) rfl (by decide) ?_
    refine G_aload_n dX3_property_62 0 rfl rfl ?_
    refine G_getI cf_X3 (j := 2) rfl w_152 dX3_property_63 (fun x10 => ?_)
    exact G_ret (v := x10) dX3_property_66 (fun h => by cases h) rfl
  refine G_tout (tgt := 67) dX3_property_1 (by
      have hz0 : (p1).toInt ≠ 0 := fun h => hn1_0 (Int32.toInt_inj.mp (h.trans rfl))
      have hz1 : (p1).toInt ≠ 1 := fun h => hn1_1 (Int32.toInt_inj.mp (h.trans rfl))
      have hz2 : (p1).toInt ≠ 2 := fun h => hn1_2 (Int32.toInt_inj.mp (h.trans rfl))
      have hz3 : (p1).toInt ≠ 3 := fun h => hn1_3 (Int32.toInt_inj.mp (h.trans rfl))
      have hz4 : (p1).toInt ≠ 4 := fun h => hn1_4 (Int32.toInt_inj.mp (h.trans rfl))
      omega) (by decide) ?_
  refine G_aload_n dX3_property_67 0 rfl rfl ?_
  refine G_getI cf_X3 (j := 3) rfl w_153 dX3_property_68 (fun x11 => ?_)
  exact G_ret (v := x11) dX3_property_71 (fun h => by cases h) rfl
def m_X3_carsAfter (M : Mem) (this : Option Nat) (p1 : Int32) : Option (Int32 × Mem) :=
  dI M 3 1 this (fun (x1 : Int32) => dF M 3 4 this (fun (r2 : UInt32) => o_fmul r2 ((FP.i2f p1)) (fun (r3 : UInt32) => o_fdiv r3 1114636288 (fun (r4 : UInt32) => o_fsub ((FP.i2f x1)) r4 (fun (r5 : UInt32) => rt ((imax 0 ((FP.f2i r5)))) M)))))
abbrev md_X3_carsAfter : MD := (RX3, yX3_carsAfter, cX3_carsAfter, 2, Option.some Jvm.ClassFile.FieldType.int, 1, 21)
theorem ok_X3_carsAfter : MOk md_X3_carsAfter 1 := ⟨by decide +kernel, w_838, w_7, ⟨by decide +kernel, by decide +kernel⟩, by decide +kernel, rfl⟩
set_option maxRecDepth 100000 in
set_option maxHeartbeats 4000000 in
theorem con_X3_carsAfter (κ : Cfg) (M : Mem) (this : Option Nat) (p1 : Int32) : Con κ md_X3_carsAfter [rv κ this, .int p1] M cvI (m_X3_carsAfter M this p1) := by
  refine Con.of ok_X3_carsAfter (ret_I rfl) (by
    intro v hv
    simp only [List.mem_cons, List.not_mem_nil, or_false] at hv
    rcases hv with rfl | rfl <;> first | rfl | exact rv_cat _ _) (Nat.le_of_ble_eq_true rfl) ?_
  unfold m_X3_carsAfter
  refine G.sub (lv' := [(0, rv κ this), (1, .int p1)]) [0, 1] rfl ?_
  refine G_iconst (v := 0) dX3_carsAfter_0 (by decide) ?_
  refine G_aload_n dX3_carsAfter_1 0 rfl rfl ?_
  refine G_getI cf_X3 (j := 1) rfl w_150 dX3_carsAfter_2 (fun x1 => ?_)
  refine G_i2f dX3_carsAfter_5 ?_
  refine G_aload_n dX3_carsAfter_6 0 rfl rfl ?_
  refine G_getF cf_X3 (j := 4) rfl w_154 dX3_carsAfter_7 (fun r2 => ?_)
  refine G_iload_n dX3_carsAfter_10 1 rfl rfl ?_
  refine G_i2f dX3_carsAfter_11 ?_
  refine G_fmul dX3_carsAfter_12 (fun r3 => ?_)
  refine G_ldcf (v := 1114636288) dX3_carsAfter_13 w_839 ?_
  refine G_fdiv dX3_carsAfter_15 (fun r4 => ?_)
  refine G_fsub dX3_carsAfter_16 (fun r5 => ?_)
  refine G_f2i dX3_carsAfter_17 ?_
  refine G_max w_840 w_573 w_17 w_574 (Nat.le_of_ble_eq_true rfl) (Nat.le_of_ble_eq_true rfl) (by simp) dX3_carsAfter_18 ?_
  exact G_ret (v := ((imax 0 ((FP.f2i r5))))) dX3_carsAfter_21 (fun h => by cases h) rfl
def m_X9_property (M : Mem) (this : Option Nat) (p1 : Int32) : Option (Int32 × Mem) :=
  (if p1 = 0 then dI M 9 0 this (fun (x1 : Int32) => rt x1 M) else (if p1 = 1 then dI M 9 1 this (fun (x2 : Int32) => rt x2 M) else dI M 9 2 this (fun (x3 : Int32) => rt x3 M)))
abbrev md_X9_property : MD := (RX9, yX9_property, cX9_property, 2, Option.some Jvm.ClassFile.FieldType.int, 0, 0)
theorem ok_X9_property : MOk md_X9_property 1 := ⟨by decide +kernel, w_598, w_5, ⟨by decide +kernel, by decide +kernel⟩, by decide +kernel, rfl⟩
set_option maxRecDepth 100000 in
set_option maxHeartbeats 4000000 in
theorem con_X9_property (κ : Cfg) (M : Mem) (this : Option Nat) (p1 : Int32) : Con κ md_X9_property [rv κ this, .int p1] M cvI (m_X9_property M this p1) := by
  refine Con.of ok_X9_property (ret_I rfl) (by
    intro v hv
    simp only [List.mem_cons, List.not_mem_nil, or_false] at hv
    rcases hv with rfl | rfl <;> first | rfl | exact rv_cat _ _) (Nat.le_of_ble_eq_true rfl) ?_
  unfold m_X9_property
  refine G.sub (lv' := [(0, rv κ this), (1, .int p1)]) [0, 1] rfl ?_
  refine G_iload_n dX9_property_0 1 rfl rfl ?_
  refine G.cond (fun hx1_0 => ?_) (fun hn1_0 => ?_)
  · refine G_lks (off := 27) (tgt := 28) dX9_property_1 (by decide) (by rw [hx1_0]; rfl) (by decide) ?_
    refine G_aload_n dX9_property_28 0 rfl rfl ?_
    refine G_getI cf_X9 (j := 0) rfl w_113 dX9_property_29 (fun x1 => ?_)
    exact G_ret (v := x1) dX9_property_32 (fun h => by cases h) rfl
  refine G.cond (fun hx1_1 => ?_) (fun hn1_1 => ?_)
  · refine G_lks (off := 32) (tgt := 33) dX9_property_1 (by decide) (by rw [hx1_1]; rfl) (by decide) ?_
    refine G_aload_n dX9_property_33 0 rfl rfl ?_
    refine G_getI cf_X9 (j := 1) rfl w_116 dX9_property_34 (fun x2 => ?_)
    exact G_ret (v := x2) dX9_property_37 (fun h => by cases h) rfl
  refine G_lks (off := 37) (tgt := 38) dX9_property_1 (by decide) ((lv_osw hn1_0 rfl).trans ((lv_osw hn1_1 rfl).trans (rfl))) (by decide) ?_
  refine G_aload_n dX9_property_38 0 rfl rfl ?_
  refine G_getI cf_X9 (j := 2) rfl w_118 dX9_property_39 (fun x3 => ?_)
  exact G_ret (v := x3) dX9_property_42 (fun h => by cases h) rfl
end
