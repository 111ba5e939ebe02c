-- ===== PART A: goes FIRST, ahead of the names: the tables' words, and 'selects' of the private methods out of them =====
/-- a private method of a class that the tables say can be made, by its rows of tables_1 -/
def lw_okq (q : MethodName × Nat) : Prop := (q.1.cls ≠ "java/lang/invoke/MethodHandle" ∧ q.1.cls ≠ "java/lang/invoke/VarHandle") ∧ Cond.instantiable q.1.cls q.2 ∈ tables_1 ∧ Cond.privateMethod q.1 ∈ tables_1 ∧ Cond.instanceMethod q.1 ∈ tables_1
theorem lw_p0 : lw_okq (⟨"ParkingTariffModel", "clears", "(I)V"⟩, 21) := ⟨⟨by decide +kernel, by decide +kernel⟩, List.mem_of_getElem? (i := 908) (by decide +kernel), List.mem_of_getElem? (i := 914) (by decide +kernel), List.mem_of_getElem? (i := 915) (by decide +kernel)⟩
theorem lw_p1 : lw_okq (⟨"ParkingTariffModel", "isStay", "(III)Z"⟩, 21) := ⟨⟨by decide +kernel, by decide +kernel⟩, List.mem_of_getElem? (i := 908) (by decide +kernel), List.mem_of_getElem? (i := 987) (by decide +kernel), List.mem_of_getElem? (i := 988) (by decide +kernel)⟩
theorem lw_p2 : lw_okq (⟨"ParkingTariffModel", "feeOf", "(III)I"⟩, 21) := ⟨⟨by decide +kernel, by decide +kernel⟩, List.mem_of_getElem? (i := 908) (by decide +kernel), List.mem_of_getElem? (i := 1001) (by decide +kernel), List.mem_of_getElem? (i := 1002) (by decide +kernel)⟩
theorem lw_p3 : lw_okq (⟨"ParkingTariffModel", "of", "(II)I"⟩, 21) := ⟨⟨by decide +kernel, by decide +kernel⟩, List.mem_of_getElem? (i := 908) (by decide +kernel), List.mem_of_getElem? (i := 1005) (by decide +kernel), List.mem_of_getElem? (i := 1006) (by decide +kernel)⟩
theorem lw_p4 : lw_okq (⟨"ParkingTariffModel", "begins", "(I)V"⟩, 21) := ⟨⟨by decide +kernel, by decide +kernel⟩, List.mem_of_getElem? (i := 908) (by decide +kernel), List.mem_of_getElem? (i := 1009) (by decide +kernel), List.mem_of_getElem? (i := 1010) (by decide +kernel)⟩
theorem lw_p5 : lw_okq (⟨"ParkingTariffModel", "adds", "(II)V"⟩, 21) := ⟨⟨by decide +kernel, by decide +kernel⟩, List.mem_of_getElem? (i := 908) (by decide +kernel), List.mem_of_getElem? (i := 1013) (by decide +kernel), List.mem_of_getElem? (i := 1014) (by decide +kernel)⟩
theorem lw_p6 : lw_okq (⟨"ParkingTariffModel", "groupOf", "(II)I"⟩, 21) := ⟨⟨by decide +kernel, by decide +kernel⟩, List.mem_of_getElem? (i := 908) (by decide +kernel), List.mem_of_getElem? (i := 1017) (by decide +kernel), List.mem_of_getElem? (i := 1018) (by decide +kernel)⟩
theorem lw_p7 : lw_okq (⟨"ParkingTariffModel", "capped", "(II)I"⟩, 21) := ⟨⟨by decide +kernel, by decide +kernel⟩, List.mem_of_getElem? (i := 908) (by decide +kernel), List.mem_of_getElem? (i := 1021) (by decide +kernel), List.mem_of_getElem? (i := 1022) (by decide +kernel)⟩
theorem lw_p8 : lw_okq (⟨"ParkingTariffModel", "bandAt", "(II)I"⟩, 21) := ⟨⟨by decide +kernel, by decide +kernel⟩, List.mem_of_getElem? (i := 908) (by decide +kernel), List.mem_of_getElem? (i := 1025) (by decide +kernel), List.mem_of_getElem? (i := 1026) (by decide +kernel)⟩
theorem lw_p9 : lw_okq (⟨"ParkingTariffModel", "bandPart", "(III)I"⟩, 21) := ⟨⟨by decide +kernel, by decide +kernel⟩, List.mem_of_getElem? (i := 908) (by decide +kernel), List.mem_of_getElem? (i := 1029) (by decide +kernel), List.mem_of_getElem? (i := 1030) (by decide +kernel)⟩
theorem lw_p10 : lw_okq (⟨"ParkingTariffModel", "reads", "()V"⟩, 21) := ⟨⟨by decide +kernel, by decide +kernel⟩, List.mem_of_getElem? (i := 908) (by decide +kernel), List.mem_of_getElem? (i := 1049) (by decide +kernel), List.mem_of_getElem? (i := 1050) (by decide +kernel)⟩
theorem lw_p11 : lw_okq (⟨"ParkingTariffModel", "clause", "()V"⟩, 21) := ⟨⟨by decide +kernel, by decide +kernel⟩, List.mem_of_getElem? (i := 908) (by decide +kernel), List.mem_of_getElem? (i := 1053) (by decide +kernel), List.mem_of_getElem? (i := 1054) (by decide +kernel)⟩
theorem lw_p12 : lw_okq (⟨"ParkingTariffModel", "here", "()I"⟩, 21) := ⟨⟨by decide +kernel, by decide +kernel⟩, List.mem_of_getElem? (i := 908) (by decide +kernel), List.mem_of_getElem? (i := 1057) (by decide +kernel), List.mem_of_getElem? (i := 1058) (by decide +kernel)⟩
theorem lw_p13 : lw_okq (⟨"ParkingTariffModel", "isWord", "(IICCCC)Z"⟩, 21) := ⟨⟨by decide +kernel, by decide +kernel⟩, List.mem_of_getElem? (i := 908) (by decide +kernel), List.mem_of_getElem? (i := 1061) (by decide +kernel), List.mem_of_getElem? (i := 1062) (by decide +kernel)⟩
theorem lw_p14 : lw_okq (⟨"ParkingTariffModel", "amount", "(II)V"⟩, 21) := ⟨⟨by decide +kernel, by decide +kernel⟩, List.mem_of_getElem? (i := 908) (by decide +kernel), List.mem_of_getElem? (i := 1065) (by decide +kernel), List.mem_of_getElem? (i := 1066) (by decide +kernel)⟩
theorem lw_p15 : lw_okq (⟨"ParkingTariffModel", "must", "(I)V"⟩, 21) := ⟨⟨by decide +kernel, by decide +kernel⟩, List.mem_of_getElem? (i := 908) (by decide +kernel), List.mem_of_getElem? (i := 1069) (by decide +kernel), List.mem_of_getElem? (i := 1070) (by decide +kernel)⟩
def lw_privs_1 : List (MethodName × Nat) := [(⟨"ParkingTariffModel", "clears", "(I)V"⟩, 21), (⟨"ParkingTariffModel", "isStay", "(III)Z"⟩, 21), (⟨"ParkingTariffModel", "feeOf", "(III)I"⟩, 21), (⟨"ParkingTariffModel", "of", "(II)I"⟩, 21), (⟨"ParkingTariffModel", "begins", "(I)V"⟩, 21), (⟨"ParkingTariffModel", "adds", "(II)V"⟩, 21), (⟨"ParkingTariffModel", "groupOf", "(II)I"⟩, 21), (⟨"ParkingTariffModel", "capped", "(II)I"⟩, 21), (⟨"ParkingTariffModel", "bandAt", "(II)I"⟩, 21), (⟨"ParkingTariffModel", "bandPart", "(III)I"⟩, 21), (⟨"ParkingTariffModel", "reads", "()V"⟩, 21), (⟨"ParkingTariffModel", "clause", "()V"⟩, 21), (⟨"ParkingTariffModel", "here", "()I"⟩, 21), (⟨"ParkingTariffModel", "isWord", "(IICCCC)Z"⟩, 21), (⟨"ParkingTariffModel", "amount", "(II)V"⟩, 21), (⟨"ParkingTariffModel", "must", "(I)V"⟩, 21)]
theorem lw_r1 : ∀ q ∈ lw_privs_1, lw_okq q := List.forall_mem_cons.mpr ⟨lw_p0, List.forall_mem_cons.mpr ⟨lw_p1, List.forall_mem_cons.mpr ⟨lw_p2, List.forall_mem_cons.mpr ⟨lw_p3, List.forall_mem_cons.mpr ⟨lw_p4, List.forall_mem_cons.mpr ⟨lw_p5, List.forall_mem_cons.mpr ⟨lw_p6, List.forall_mem_cons.mpr ⟨lw_p7, List.forall_mem_cons.mpr ⟨lw_p8, List.forall_mem_cons.mpr ⟨lw_p9, List.forall_mem_cons.mpr ⟨lw_p10, List.forall_mem_cons.mpr ⟨lw_p11, List.forall_mem_cons.mpr ⟨lw_p12, List.forall_mem_cons.mpr ⟨lw_p13, List.forall_mem_cons.mpr ⟨lw_p14, List.forall_mem_cons.mpr ⟨lw_p15, fun _ h => absurd h List.not_mem_nil⟩⟩⟩⟩⟩⟩⟩⟩⟩⟩⟩⟩⟩⟩⟩⟩
theorem lw_p16 : lw_okq (⟨"ParkingTariffModel", "fails", "(II)V"⟩, 21) := ⟨⟨by decide +kernel, by decide +kernel⟩, List.mem_of_getElem? (i := 908) (by decide +kernel), List.mem_of_getElem? (i := 1073) (by decide +kernel), List.mem_of_getElem? (i := 1074) (by decide +kernel)⟩
theorem lw_p17 : lw_okq (⟨"ParkingTariffModel", "number", "(I)V"⟩, 21) := ⟨⟨by decide +kernel, by decide +kernel⟩, List.mem_of_getElem? (i := 908) (by decide +kernel), List.mem_of_getElem? (i := 1077) (by decide +kernel), List.mem_of_getElem? (i := 1078) (by decide +kernel)⟩
theorem lw_p18 : lw_okq (⟨"ParkingTariffModel", "ranges", "(III)V"⟩, 21) := ⟨⟨by decide +kernel, by decide +kernel⟩, List.mem_of_getElem? (i := 908) (by decide +kernel), List.mem_of_getElem? (i := 1081) (by decide +kernel), List.mem_of_getElem? (i := 1082) (by decide +kernel)⟩
theorem lw_p19 : lw_okq (⟨"ParkingTariffModel", "band", "()V"⟩, 21) := ⟨⟨by decide +kernel, by decide +kernel⟩, List.mem_of_getElem? (i := 908) (by decide +kernel), List.mem_of_getElem? (i := 1085) (by decide +kernel), List.mem_of_getElem? (i := 1086) (by decide +kernel)⟩
theorem lw_p20 : lw_okq (⟨"ParkingTariffModel", "reports", "(I)V"⟩, 21) := ⟨⟨by decide +kernel, by decide +kernel⟩, List.mem_of_getElem? (i := 908) (by decide +kernel), List.mem_of_getElem? (i := 1089) (by decide +kernel), List.mem_of_getElem? (i := 1090) (by decide +kernel)⟩
theorem lw_p21 : lw_okq (⟨"ParkingTariffModel", "isVoucher", "(I)Z"⟩, 21) := ⟨⟨by decide +kernel, by decide +kernel⟩, List.mem_of_getElem? (i := 908) (by decide +kernel), List.mem_of_getElem? (i := 1109) (by decide +kernel), List.mem_of_getElem? (i := 1110) (by decide +kernel)⟩
theorem lw_p22 : lw_okq (⟨"ParkingTariffModel", "isPlace", "(II)Z"⟩, 21) := ⟨⟨by decide +kernel, by decide +kernel⟩, List.mem_of_getElem? (i := 908) (by decide +kernel), List.mem_of_getElem? (i := 1121) (by decide +kernel), List.mem_of_getElem? (i := 1122) (by decide +kernel)⟩
theorem lw_p23 : lw_okq (⟨"ParkingTariffModel", "kindOf", "(I)I"⟩, 21) := ⟨⟨by decide +kernel, by decide +kernel⟩, List.mem_of_getElem? (i := 908) (by decide +kernel), List.mem_of_getElem? (i := 1125) (by decide +kernel), List.mem_of_getElem? (i := 1126) (by decide +kernel)⟩
theorem lw_p24 : lw_okq (⟨"ParkingTariffModel", "levelPart", "(II)I"⟩, 21) := ⟨⟨by decide +kernel, by decide +kernel⟩, List.mem_of_getElem? (i := 908) (by decide +kernel), List.mem_of_getElem? (i := 1137) (by decide +kernel), List.mem_of_getElem? (i := 1138) (by decide +kernel)⟩
theorem lw_p25 : lw_okq (⟨"ParkingTariffModel", "score", "(I)F"⟩, 21) := ⟨⟨by decide +kernel, by decide +kernel⟩, List.mem_of_getElem? (i := 908) (by decide +kernel), List.mem_of_getElem? (i := 1155) (by decide +kernel), List.mem_of_getElem? (i := 1156) (by decide +kernel)⟩
theorem lw_p26 : lw_okq (⟨"ParkingTariffModel", "bestLevel", "()I"⟩, 21) := ⟨⟨by decide +kernel, by decide +kernel⟩, List.mem_of_getElem? (i := 908) (by decide +kernel), List.mem_of_getElem? (i := 1169) (by decide +kernel), List.mem_of_getElem? (i := 1170) (by decide +kernel)⟩
theorem lw_p27 : lw_okq (⟨"ParkingTariffModel", "inside", "()I"⟩, 21) := ⟨⟨by decide +kernel, by decide +kernel⟩, List.mem_of_getElem? (i := 908) (by decide +kernel), List.mem_of_getElem? (i := 1173) (by decide +kernel), List.mem_of_getElem? (i := 1174) (by decide +kernel)⟩
theorem lw_p28 : lw_okq (⟨"ParkingTariffModel", "set", "(III)V"⟩, 21) := ⟨⟨by decide +kernel, by decide +kernel⟩, List.mem_of_getElem? (i := 908) (by decide +kernel), List.mem_of_getElem? (i := 1177) (by decide +kernel), List.mem_of_getElem? (i := 1178) (by decide +kernel)⟩
theorem lw_p29 : lw_okq (⟨"ParkingTariffModel", "isInside", "(I)Z"⟩, 21) := ⟨⟨by decide +kernel, by decide +kernel⟩, List.mem_of_getElem? (i := 908) (by decide +kernel), List.mem_of_getElem? (i := 1185) (by decide +kernel), List.mem_of_getElem? (i := 1186) (by decide +kernel)⟩
theorem lw_p30 : lw_okq (⟨"ParkingTariffModel", "item", "(II)I"⟩, 21) := ⟨⟨by decide +kernel, by decide +kernel⟩, List.mem_of_getElem? (i := 908) (by decide +kernel), List.mem_of_getElem? (i := 1189) (by decide +kernel), List.mem_of_getElem? (i := 1190) (by decide +kernel)⟩
theorem lw_p31 : lw_okq (⟨"ParkingTariffModel", "dueAt", "(II)I"⟩, 21) := ⟨⟨by decide +kernel, by decide +kernel⟩, List.mem_of_getElem? (i := 908) (by decide +kernel), List.mem_of_getElem? (i := 1198) (by decide +kernel), List.mem_of_getElem? (i := 1199) (by decide +kernel)⟩
def lw_privs_2 : List (MethodName × Nat) := [(⟨"ParkingTariffModel", "fails", "(II)V"⟩, 21), (⟨"ParkingTariffModel", "number", "(I)V"⟩, 21), (⟨"ParkingTariffModel", "ranges", "(III)V"⟩, 21), (⟨"ParkingTariffModel", "band", "()V"⟩, 21), (⟨"ParkingTariffModel", "reports", "(I)V"⟩, 21), (⟨"ParkingTariffModel", "isVoucher", "(I)Z"⟩, 21), (⟨"ParkingTariffModel", "isPlace", "(II)Z"⟩, 21), (⟨"ParkingTariffModel", "kindOf", "(I)I"⟩, 21), (⟨"ParkingTariffModel", "levelPart", "(II)I"⟩, 21), (⟨"ParkingTariffModel", "score", "(I)F"⟩, 21), (⟨"ParkingTariffModel", "bestLevel", "()I"⟩, 21), (⟨"ParkingTariffModel", "inside", "()I"⟩, 21), (⟨"ParkingTariffModel", "set", "(III)V"⟩, 21), (⟨"ParkingTariffModel", "isInside", "(I)Z"⟩, 21), (⟨"ParkingTariffModel", "item", "(II)I"⟩, 21), (⟨"ParkingTariffModel", "dueAt", "(II)I"⟩, 21)]
theorem lw_r2 : ∀ q ∈ lw_privs_2, lw_okq q := List.forall_mem_cons.mpr ⟨lw_p16, List.forall_mem_cons.mpr ⟨lw_p17, List.forall_mem_cons.mpr ⟨lw_p18, List.forall_mem_cons.mpr ⟨lw_p19, List.forall_mem_cons.mpr ⟨lw_p20, List.forall_mem_cons.mpr ⟨lw_p21, List.forall_mem_cons.mpr ⟨lw_p22, List.forall_mem_cons.mpr ⟨lw_p23, List.forall_mem_cons.mpr ⟨lw_p24, List.forall_mem_cons.mpr ⟨lw_p25, List.forall_mem_cons.mpr ⟨lw_p26, List.forall_mem_cons.mpr ⟨lw_p27, List.forall_mem_cons.mpr ⟨lw_p28, List.forall_mem_cons.mpr ⟨lw_p29, List.forall_mem_cons.mpr ⟨lw_p30, List.forall_mem_cons.mpr ⟨lw_p31, fun _ h => absurd h List.not_mem_nil⟩⟩⟩⟩⟩⟩⟩⟩⟩⟩⟩⟩⟩⟩⟩⟩
theorem lw_p32 : lw_okq (⟨"ParkingTariffModel", "lostFee", "(II)I"⟩, 21) := ⟨⟨by decide +kernel, by decide +kernel⟩, List.mem_of_getElem? (i := 908) (by decide +kernel), List.mem_of_getElem? (i := 1202) (by decide +kernel), List.mem_of_getElem? (i := 1203) (by decide +kernel)⟩
theorem lw_p33 : lw_okq (⟨"ParkingTariffModel", "vouchered", "(III)I"⟩, 21) := ⟨⟨by decide +kernel, by decide +kernel⟩, List.mem_of_getElem? (i := 908) (by decide +kernel), List.mem_of_getElem? (i := 1206) (by decide +kernel), List.mem_of_getElem? (i := 1207) (by decide +kernel)⟩
theorem lw_p34 : lw_okq (⟨"ParkingTariffModel", "base", "(II)I"⟩, 21) := ⟨⟨by decide +kernel, by decide +kernel⟩, List.mem_of_getElem? (i := 908) (by decide +kernel), List.mem_of_getElem? (i := 1210) (by decide +kernel), List.mem_of_getElem? (i := 1211) (by decide +kernel)⟩
theorem lw_p35 : lw_okq (⟨"ParkingTariffModel", "amountOf", "(I)I"⟩, 21) := ⟨⟨by decide +kernel, by decide +kernel⟩, List.mem_of_getElem? (i := 908) (by decide +kernel), List.mem_of_getElem? (i := 1214) (by decide +kernel), List.mem_of_getElem? (i := 1215) (by decide +kernel)⟩
theorem lw_p36 : lw_okq (⟨"ParkingTariffModel", "stepsOf", "(I)I"⟩, 21) := ⟨⟨by decide +kernel, by decide +kernel⟩, List.mem_of_getElem? (i := 908) (by decide +kernel), List.mem_of_getElem? (i := 1241) (by decide +kernel), List.mem_of_getElem? (i := 1242) (by decide +kernel)⟩
def lw_privs_3 : List (MethodName × Nat) := [(⟨"ParkingTariffModel", "lostFee", "(II)I"⟩, 21), (⟨"ParkingTariffModel", "vouchered", "(III)I"⟩, 21), (⟨"ParkingTariffModel", "base", "(II)I"⟩, 21), (⟨"ParkingTariffModel", "amountOf", "(I)I"⟩, 21), (⟨"ParkingTariffModel", "stepsOf", "(I)I"⟩, 21)]
theorem lw_r3 : ∀ q ∈ lw_privs_3, lw_okq q := List.forall_mem_cons.mpr ⟨lw_p32, List.forall_mem_cons.mpr ⟨lw_p33, List.forall_mem_cons.mpr ⟨lw_p34, List.forall_mem_cons.mpr ⟨lw_p35, List.forall_mem_cons.mpr ⟨lw_p36, fun _ h => absurd h List.not_mem_nil⟩⟩⟩⟩⟩
def lw_privs : List (MethodName × Nat) := lw_privs_1 ++ (lw_privs_2 ++ (lw_privs_3))
def lw_tbl : List Cond := k2_sels lw_privs ++ tables_1
theorem lw_privs_ok : ∀ q ∈ lw_privs, lw_okq q := by
  show ∀ q ∈ lw_privs_1 ++ (lw_privs_2 ++ (lw_privs_3)), lw_okq q
  exact List.forall_mem_append.mpr ⟨lw_r1, List.forall_mem_append.mpr ⟨lw_r2, lw_r3⟩⟩
/-- the streams that the claim lets the run draw from -/
abbrev lw_cs : List Choice := [Jvm.Choice.named "NaN.bits"]
theorem lw_bits : nanBits ∈ lw_cs := by first | decide | exact List.mem_cons_self | simp [lw_cs, nanBits]
-- NAMES (printed by program, pasted)

/-! ===== BEGIN printed: names, fields, word lists, decode rows ===== -/
def RX0 : String := "ParkingTariff$Band"
def TX0 : u_T := fun k => match k with
  | 0 => ("ParkingTariff$Band", "number", "I", true)
  | 1 => ("ParkingTariff$Band", "beginning", "I", false)
  | 2 => ("ParkingTariff$Band", "price", "I", false)
  | _ => ("ParkingTariff$Band", "length", "I", false)
def tyX0 : Nat → FieldType := fun k => match k with
  | 0 => .int
  | 1 => .int
  | 2 => .int
  | _ => .int
abbrev wsX00 : List Cond := u_ws RX0 TX0 4
theorem nmX0 : ∀ a, a < 4 → ∀ b, b < 4 → a ≠ b → (TX0 a).2.1 ≠ (TX0 b).2.1 := by decide +kernel
theorem tyX0_ok : ∀ k, k < 4 → parseFieldDescriptor (TX0 k).2.2.1 = some (tyX0 k) := by decide +kernel
abbrev cX0_init : ByteArray := prog_2_method_1_code
def yX0_init : MethodName := ⟨RX0, "<init>", "(I)V"⟩
abbrev cX0_tell : ByteArray := prog_2_method_2_code
def yX0_tell : MethodName := ⟨RX0, "tell", "(III)V"⟩
abbrev cX0_copyFrom : ByteArray := prog_2_method_3_code
def yX0_copyFrom : MethodName := ⟨RX0, "copyFrom", "(LParkingTariff$Band;)V"⟩
abbrev cX0_property : ByteArray := prog_2_method_4_code
def yX0_property : MethodName := ⟨RX0, "property", "(I)I"⟩
def RX1 : String := "ParkingTariff$CarPark"
def TX1 : u_T := fun k => match k with
  | 0 => ("ParkingTariff$CarPark", "plans", "[LParkingTariff$Plan;", true)
  | 1 => ("ParkingTariff$CarPark", "vouchers", "[LParkingTariff$Voucher;", true)
  | 2 => ("ParkingTariff$CarPark", "folders", "[LParkingTariff$Folder;", true)
  | 3 => ("ParkingTariff$CarPark", "levels", "[LParkingTariff$Level;", true)
  | 4 => ("ParkingTariff$CarPark", "tickets", "[LParkingTariff$Ticket;", true)
  | 5 => ("ParkingTariff$CarPark", "voucherCount", "I", false)
  | 6 => ("ParkingTariff$CarPark", "ticketCount", "I", false)
  | _ => ("ParkingTariff$CarPark", "minute", "I", false)
def tyX1 : Nat → FieldType := fun k => match k with
  | 0 => .array (.object "ParkingTariff$Plan")
  | 1 => .array (.object "ParkingTariff$Voucher")
  | 2 => .array (.object "ParkingTariff$Folder")
  | 3 => .array (.object "ParkingTariff$Level")
  | 4 => .array (.object "ParkingTariff$Ticket")
  | 5 => .int
  | 6 => .int
  | _ => .int
abbrev wsX10 : List Cond := u_ws RX1 TX1 8
theorem nmX1 : ∀ a, a < 8 → ∀ b, b < 8 → a ≠ b → (TX1 a).2.1 ≠ (TX1 b).2.1 := by decide +kernel
theorem tyX1_ok : ∀ k, k < 8 → parseFieldDescriptor (TX1 k).2.2.1 = some (tyX1 k) := by decide +kernel
abbrev cX1_init : ByteArray := prog_3_method_1_code
def yX1_init : MethodName := ⟨RX1, "<init>", "()V"⟩
abbrev cX1_copyFrom : ByteArray := prog_3_method_2_code
def yX1_copyFrom : MethodName := ⟨RX1, "copyFrom", "(LParkingTariff$CarPark;)V"⟩
abbrev cX1_planAt : ByteArray := prog_3_method_3_code
def yX1_planAt : MethodName := ⟨RX1, "planAt", "(I)LParkingTariff$Plan;"⟩
abbrev cX1_voucherAt : ByteArray := prog_3_method_4_code
def yX1_voucherAt : MethodName := ⟨RX1, "voucherAt", "(I)LParkingTariff$Voucher;"⟩
abbrev cX1_folderAt : ByteArray := prog_3_method_5_code
def yX1_folderAt : MethodName := ⟨RX1, "folderAt", "(I)LParkingTariff$Folder;"⟩
abbrev cX1_levelAt : ByteArray := prog_3_method_6_code
def yX1_levelAt : MethodName := ⟨RX1, "levelAt", "(I)LParkingTariff$Level;"⟩
abbrev cX1_ticketAt : ByteArray := prog_3_method_7_code
def yX1_ticketAt : MethodName := ⟨RX1, "ticketAt", "(I)LParkingTariff$Ticket;"⟩
abbrev cX1_ticketInside : ByteArray := prog_3_method_8_code
def yX1_ticketInside : MethodName := ⟨RX1, "ticketInside", "(I)LParkingTariff$Ticket;"⟩
abbrev cX1_makeVoucher : ByteArray := prog_3_method_9_code
def yX1_makeVoucher : MethodName := ⟨RX1, "makeVoucher", "(II)I"⟩
abbrev cX1_voucherInFolder : ByteArray := prog_3_method_10_code
def yX1_voucherInFolder : MethodName := ⟨RX1, "voucherInFolder", "(II)I"⟩
abbrev cX1_admitCar : ByteArray := prog_3_method_11_code
def yX1_admitCar : MethodName := ⟨RX1, "admitCar", "(I)I"⟩
abbrev cX1_bestLevel : ByteArray := prog_3_method_12_code
def yX1_bestLevel : MethodName := ⟨RX1, "bestLevel", "()I"⟩
abbrev cX1_releaseCar : ByteArray := prog_3_method_13_code
def yX1_releaseCar : MethodName := ⟨RX1, "releaseCar", "(LParkingTariff$Ticket;)V"⟩
abbrev cX1_dueAmount : ByteArray := prog_3_method_14_code
def yX1_dueAmount : MethodName := ⟨RX1, "dueAmount", "(LParkingTariff$Ticket;I)I"⟩
abbrev cX1_amountOfLost : ByteArray := prog_3_method_15_code
def yX1_amountOfLost : MethodName := ⟨RX1, "amountOfLost", "(LParkingTariff$Ticket;I)I"⟩
abbrev cX1_amountAfter : ByteArray := prog_3_method_16_code
def yX1_amountAfter : MethodName := ⟨RX1, "amountAfter", "(LParkingTariff$Ticket;II)I"⟩
abbrev cX1_feeOfShortenedStay : ByteArray := prog_3_method_17_code
def yX1_feeOfShortenedStay : MethodName := ⟨RX1, "feeOfShortenedStay", "(LParkingTariff$Ticket;I)I"⟩
abbrev cX1_minutesGiven : ByteArray := prog_3_method_18_code
def yX1_minutesGiven : MethodName := ⟨RX1, "minutesGiven", "(LParkingTariff$Ticket;)I"⟩
abbrev cX1_lastStep : ByteArray := prog_3_method_19_code
def yX1_lastStep : MethodName := ⟨RX1, "lastStep", "(LParkingTariff$Ticket;)I"⟩
abbrev cX1_moveClock : ByteArray := prog_3_method_20_code
def yX1_moveClock : MethodName := ⟨RX1, "moveClock", "(I)V"⟩
abbrev cX1_carsInside : ByteArray := prog_3_method_21_code
def yX1_carsInside : MethodName := ⟨RX1, "carsInside", "()I"⟩
abbrev cX1_carsLeft : ByteArray := prog_3_method_22_code
def yX1_carsLeft : MethodName := ⟨RX1, "carsLeft", "()I"⟩
abbrev cX1_lostTickets : ByteArray := prog_3_method_23_code
def yX1_lostTickets : MethodName := ⟨RX1, "lostTickets", "()I"⟩
abbrev cX1_paidByPlan : ByteArray := prog_3_method_24_code
def yX1_paidByPlan : MethodName := ⟨RX1, "paidByPlan", "(I)I"⟩
abbrev cX1_paidAltogether : ByteArray := prog_3_method_25_code
def yX1_paidAltogether : MethodName := ⟨RX1, "paidAltogether", "()I"⟩
def RX2 : String := "ParkingTariff$Folder"
def TX2 : u_T := fun k => match k with
  | 0 => ("ParkingTariff$Folder", "contents", "[I", true)
  | 1 => ("ParkingTariff$Folder", "places", "I", false)
  | _ => ("ParkingTariff$Folder", "kind", "I", false)
def tyX2 : Nat → FieldType := fun k => match k with
  | 0 => .array .int
  | 1 => .int
  | _ => .int
abbrev wsX20 : List Cond := u_ws RX2 TX2 3
theorem nmX2 : ∀ a, a < 3 → ∀ b, b < 3 → a ≠ b → (TX2 a).2.1 ≠ (TX2 b).2.1 := by decide +kernel
theorem tyX2_ok : ∀ k, k < 3 → parseFieldDescriptor (TX2 k).2.2.1 = some (tyX2 k) := by decide +kernel
abbrev cX2_init : ByteArray := prog_4_method_1_code
def yX2_init : MethodName := ⟨RX2, "<init>", "()V"⟩
abbrev cX2_isMade : ByteArray := prog_4_method_2_code
def yX2_isMade : MethodName := ⟨RX2, "isMade", "()Z"⟩
abbrev cX2_make : ByteArray := prog_4_method_3_code
def yX2_make : MethodName := ⟨RX2, "make", "(II)V"⟩
abbrev cX2_copyFrom : ByteArray := prog_4_method_4_code
def yX2_copyFrom : MethodName := ⟨RX2, "copyFrom", "(LParkingTariff$Folder;)V"⟩
abbrev cX2_hasPlace : ByteArray := prog_4_method_5_code
def yX2_hasPlace : MethodName := ⟨RX2, "hasPlace", "(I)Z"⟩
abbrev cX2_takes : ByteArray := prog_4_method_6_code
def yX2_takes : MethodName := ⟨RX2, "takes", "(I)Z"⟩
abbrev cX2_fill : ByteArray := prog_4_method_7_code
def yX2_fill : MethodName := ⟨RX2, "fill", "(II)V"⟩
abbrev cX2_content : ByteArray := prog_4_method_8_code
def yX2_content : MethodName := ⟨RX2, "content", "(I)I"⟩
abbrev cX2_filledPlaces : ByteArray := prog_4_method_9_code
def yX2_filledPlaces : MethodName := ⟨RX2, "filledPlaces", "()I"⟩
def RX3 : String := "ParkingTariff$Level"
def TX3 : u_T := fun k => match k with
  | 0 => ("ParkingTariff$Level", "capacity", "I", false)
  | 1 => ("ParkingTariff$Level", "cars", "I", false)
  | 2 => ("ParkingTariff$Level", "exits", "I", false)
  | 3 => ("ParkingTariff$Level", "entered", "I", false)
  | _ => ("ParkingTariff$Level", "rate", "F", false)
def tyX3 : Nat → FieldType := fun k => match k with
  | 0 => .int
  | 1 => .int
  | 2 => .int
  | 3 => .int
  | _ => .float
abbrev wsX30 : List Cond := u_ws RX3 TX3 5
theorem nmX3 : ∀ a, a < 5 → ∀ b, b < 5 → a ≠ b → (TX3 a).2.1 ≠ (TX3 b).2.1 := by decide +kernel
theorem tyX3_ok : ∀ k, k < 5 → parseFieldDescriptor (TX3 k).2.2.1 = some (tyX3 k) := by decide +kernel
abbrev cX3_init : ByteArray := prog_5_method_1_code
def yX3_init : MethodName := ⟨RX3, "<init>", "()V"⟩
abbrev cX3_copyFrom : ByteArray := prog_5_method_2_code
def yX3_copyFrom : MethodName := ⟨RX3, "copyFrom", "(LParkingTariff$Level;)V"⟩
abbrev cX3_property : ByteArray := prog_5_method_3_code
def yX3_property : MethodName := ⟨RX3, "property", "(I)I"⟩
abbrev cX3_freePlaces : ByteArray := prog_5_method_4_code
def yX3_freePlaces : MethodName := ⟨RX3, "freePlaces", "()I"⟩
abbrev cX3_score : ByteArray := prog_5_method_5_code
def yX3_score : MethodName := ⟨RX3, "score", "()F"⟩
abbrev cX3_admitCar : ByteArray := prog_5_method_6_code
def yX3_admitCar : MethodName := ⟨RX3, "admitCar", "()V"⟩
abbrev cX3_releaseCar : ByteArray := prog_5_method_7_code
def yX3_releaseCar : MethodName := ⟨RX3, "releaseCar", "()V"⟩
abbrev cX3_passHour : ByteArray := prog_5_method_8_code
def yX3_passHour : MethodName := ⟨RX3, "passHour", "()V"⟩
abbrev cX3_carsAfter : ByteArray := prog_5_method_9_code
def yX3_carsAfter : MethodName := ⟨RX3, "carsAfter", "(I)I"⟩
def RX4 : String := "ParkingTariff$Meter"
def TX4 : u_T := fun k => match k with
  | 0 => ("ParkingTariff$Meter", "plan", "LParkingTariff$Plan;", true)
  | 1 => ("ParkingTariff$Meter", "from", "I", true)
  | 2 => ("ParkingTariff$Meter", "next", "I", false)
  | 3 => ("ParkingTariff$Meter", "group", "I", false)
  | 4 => ("ParkingTariff$Meter", "closedSum", "I", false)
  | _ => ("ParkingTariff$Meter", "openSum", "I", false)
def tyX4 : Nat → FieldType := fun k => match k with
  | 0 => .object "ParkingTariff$Plan"
  | 1 => .int
  | 2 => .int
  | 3 => .int
  | 4 => .int
  | _ => .int
abbrev wsX40 : List Cond := u_ws RX4 TX4 6
theorem nmX4 : ∀ a, a < 6 → ∀ b, b < 6 → a ≠ b → (TX4 a).2.1 ≠ (TX4 b).2.1 := by decide +kernel
theorem tyX4_ok : ∀ k, k < 6 → parseFieldDescriptor (TX4 k).2.2.1 = some (tyX4 k) := by decide +kernel
abbrev cX4_init : ByteArray := prog_6_method_1_code
def yX4_init : MethodName := ⟨RX4, "<init>", "(LParkingTariff$Plan;I)V"⟩
abbrev cX4_addUnit : ByteArray := prog_6_method_2_code
def yX4_addUnit : MethodName := ⟨RX4, "addUnit", "()V"⟩
abbrev cX4_amount : ByteArray := prog_6_method_3_code
def yX4_amount : MethodName := ⟨RX4, "amount", "()I"⟩
def RX5 : String := "ParkingTariff$Plan"
def TX5 : u_T := fun k => match k with
  | 0 => ("ParkingTariff$Plan", "bands", "[LParkingTariff$Band;", true)
  | 1 => ("ParkingTariff$Plan", "bandCount", "I", false)
  | 2 => ("ParkingTariff$Plan", "freeMinutes", "I", false)
  | 3 => ("ParkingTariff$Plan", "cap", "I", false)
  | 4 => ("ParkingTariff$Plan", "way", "I", false)
  | _ => ("ParkingTariff$Plan", "lostFee", "I", false)
def tyX5 : Nat → FieldType := fun k => match k with
  | 0 => .array (.object "ParkingTariff$Band")
  | 1 => .int
  | 2 => .int
  | 3 => .int
  | 4 => .int
  | _ => .int
abbrev wsX50 : List Cond := u_ws RX5 TX5 6
theorem nmX5 : ∀ a, a < 6 → ∀ b, b < 6 → a ≠ b → (TX5 a).2.1 ≠ (TX5 b).2.1 := by decide +kernel
theorem tyX5_ok : ∀ k, k < 6 → parseFieldDescriptor (TX5 k).2.2.1 = some (tyX5 k) := by decide +kernel
abbrev cX5_init : ByteArray := prog_7_method_1_code
def yX5_init : MethodName := ⟨RX5, "<init>", "()V"⟩
abbrev cX5_reset : ByteArray := prog_7_method_2_code
def yX5_reset : MethodName := ⟨RX5, "reset", "()V"⟩
abbrev cX5_copyFrom : ByteArray := prog_7_method_3_code
def yX5_copyFrom : MethodName := ⟨RX5, "copyFrom", "(LParkingTariff$Plan;)V"⟩
abbrev cX5_property : ByteArray := prog_7_method_4_code
def yX5_property : MethodName := ⟨RX5, "property", "(I)I"⟩
abbrev cX5_bandAt : ByteArray := prog_7_method_5_code
def yX5_bandAt : MethodName := ⟨RX5, "bandAt", "(I)LParkingTariff$Band;"⟩
abbrev cX5_bandOfMinute : ByteArray := prog_7_method_6_code
def yX5_bandOfMinute : MethodName := ⟨RX5, "bandOfMinute", "(I)LParkingTariff$Band;"⟩
abbrev cX5_groupOf : ByteArray := prog_7_method_7_code
def yX5_groupOf : MethodName := ⟨RX5, "groupOf", "(II)I"⟩
abbrev cX5_capped : ByteArray := prog_7_method_8_code
def yX5_capped : MethodName := ⟨RX5, "capped", "(I)I"⟩
abbrev cX5_feeOfStay : ByteArray := prog_7_method_9_code
def yX5_feeOfStay : MethodName := ⟨RX5, "feeOfStay", "(II)I"⟩
abbrev cX5_latestEnd : ByteArray := prog_7_method_10_code
def yX5_latestEnd : MethodName := ⟨RX5, "latestEnd", "(II)I"⟩
abbrev cX5_partOfUnit : ByteArray := prog_7_method_11_code
def yX5_partOfUnit : MethodName := ⟨RX5, "partOfUnit", "(III)I"⟩
def RX6 : String := "ParkingTariff$PlanText"
def TX6 : u_T := fun k => match k with
  | 0 => ("ParkingTariff$PlanText", "signs", "[C", true)
  | 1 => ("ParkingTariff$PlanText", "numbers", "[I", true)
  | 2 => ("ParkingTariff$PlanText", "draft", "LParkingTariff$Plan;", true)
  | 3 => ("ParkingTariff$PlanText", "length", "I", false)
  | 4 => ("ParkingTariff$PlanText", "position", "I", false)
  | 5 => ("ParkingTariff$PlanText", "clause", "I", false)
  | 6 => ("ParkingTariff$PlanText", "toldBands", "I", false)
  | 7 => ("ParkingTariff$PlanText", "faultCode", "I", false)
  | _ => ("ParkingTariff$PlanText", "faultNumber", "I", false)
def tyX6 : Nat → FieldType := fun k => match k with
  | 0 => .array .char
  | 1 => .array .int
  | 2 => .object "ParkingTariff$Plan"
  | 3 => .int
  | 4 => .int
  | 5 => .int
  | 6 => .int
  | 7 => .int
  | _ => .int
abbrev wsX60 : List Cond := u_ws RX6 TX6 9
theorem nmX6 : ∀ a, a < 9 → ∀ b, b < 9 → a ≠ b → (TX6 a).2.1 ≠ (TX6 b).2.1 := by decide +kernel
theorem tyX6_ok : ∀ k, k < 9 → parseFieldDescriptor (TX6 k).2.2.1 = some (tyX6 k) := by decide +kernel
abbrev cX6_init : ByteArray := prog_8_method_1_code
def yX6_init : MethodName := ⟨RX6, "<init>", "()V"⟩
abbrev cX6_hasRoomFor : ByteArray := prog_8_method_2_code
def yX6_hasRoomFor : MethodName := ⟨RX6, "hasRoomFor", "(I)Z"⟩
abbrev cX6_add : ByteArray := prog_8_method_3_code
def yX6_add : MethodName := ⟨RX6, "add", "(CI)V"⟩
abbrev cX6_clear : ByteArray := prog_8_method_4_code
def yX6_clear : MethodName := ⟨RX6, "clear", "()V"⟩
abbrev cX6_describesPlan : ByteArray := prog_8_method_5_code
def yX6_describesPlan : MethodName := ⟨RX6, "describesPlan", "()Z"⟩
abbrev cX6_readClause : ByteArray := prog_8_method_6_code
def yX6_readClause : MethodName := ⟨RX6, "readClause", "()Z"⟩
abbrev cX6_readSetting : ByteArray := prog_8_method_7_code
def yX6_readSetting : MethodName := ⟨RX6, "readSetting", "(I)Z"⟩
abbrev cX6_readBand : ByteArray := prog_8_method_8_code
def yX6_readBand : MethodName := ⟨RX6, "readBand", "()Z"⟩
abbrev cX6_isInOrder : ByteArray := prog_8_method_9_code
def yX6_isInOrder : MethodName := ⟨RX6, "isInOrder", "(I)Z"⟩
abbrev cX6_skipWord : ByteArray := prog_8_method_10_code
def yX6_skipWord : MethodName := ⟨RX6, "skipWord", "()V"⟩
abbrev cX6_isSmallLetter : ByteArray := prog_8_method_11_code
def yX6_isSmallLetter : MethodName := ⟨RX6, "isSmallLetter", "(C)Z"⟩
abbrev cX6_isWord : ByteArray := prog_8_method_12_code
def yX6_isWord : MethodName := ⟨RX6, "isWord", "(ILjava/lang/String;)Z"⟩
abbrev cX6_readNumbers : ByteArray := prog_8_method_13_code
def yX6_readNumbers : MethodName := ⟨RX6, "readNumbers", "(I)Z"⟩
abbrev cX6_readSign : ByteArray := prog_8_method_14_code
def yX6_readSign : MethodName := ⟨RX6, "readSign", "(C)Z"⟩
abbrev cX6_readNumber : ByteArray := prog_8_method_15_code
def yX6_readNumber : MethodName := ⟨RX6, "readNumber", "(I)Z"⟩
abbrev cX6_isDigit : ByteArray := prog_8_method_16_code
def yX6_isDigit : MethodName := ⟨RX6, "isDigit", "(C)Z"⟩
abbrev cX6_inRange : ByteArray := prog_8_method_17_code
def yX6_inRange : MethodName := ⟨RX6, "inRange", "(III)Z"⟩
abbrev cX6_fault : ByteArray := prog_8_method_18_code
def yX6_fault : MethodName := ⟨RX6, "fault", "(II)Z"⟩
def RX7 : String := "ParkingTariff$Report"
def TX7 : u_T := fun k => match k with
  | 0 => ("ParkingTariff$Report", "codes", "[I", true)
  | 1 => ("ParkingTariff$Report", "numbers", "[I", true)
  | _ => ("ParkingTariff$Report", "levels", "I", false)
def tyX7 : Nat → FieldType := fun k => match k with
  | 0 => .array .int
  | 1 => .array .int
  | _ => .int
abbrev wsX70 : List Cond := u_ws RX7 TX7 3
theorem nmX7 : ∀ a, a < 3 → ∀ b, b < 3 → a ≠ b → (TX7 a).2.1 ≠ (TX7 b).2.1 := by decide +kernel
theorem tyX7_ok : ∀ k, k < 3 → parseFieldDescriptor (TX7 k).2.2.1 = some (tyX7 k) := by decide +kernel
abbrev cX7_init : ByteArray := prog_9_method_1_code
def yX7_init : MethodName := ⟨RX7, "<init>", "()V"⟩
abbrev cX7_hasLevel : ByteArray := prog_9_method_2_code
def yX7_hasLevel : MethodName := ⟨RX7, "hasLevel", "(I)Z"⟩
abbrev cX7_tell : ByteArray := prog_9_method_3_code
def yX7_tell : MethodName := ⟨RX7, "tell", "(IIII)V"⟩
def RX8 : String := "ParkingTariff$Ticket"
def TX8 : u_T := fun k => match k with
  | 0 => ("ParkingTariff$Ticket", "vouchers", "[I", true)
  | 1 => ("ParkingTariff$Ticket", "voucherCount", "I", false)
  | 2 => ("ParkingTariff$Ticket", "plan", "I", false)
  | 3 => ("ParkingTariff$Ticket", "entry", "I", false)
  | 4 => ("ParkingTariff$Ticket", "level", "I", false)
  | 5 => ("ParkingTariff$Ticket", "paid", "I", false)
  | 6 => ("ParkingTariff$Ticket", "latestPayment", "I", false)
  | 7 => ("ParkingTariff$Ticket", "left", "Z", false)
  | _ => ("ParkingTariff$Ticket", "lost", "Z", false)
def tyX8 : Nat → FieldType := fun k => match k with
  | 0 => .array .int
  | 1 => .int
  | 2 => .int
  | 3 => .int
  | 4 => .int
  | 5 => .int
  | 6 => .int
  | 7 => .boolean
  | _ => .boolean
abbrev wsX80 : List Cond := u_ws RX8 TX8 9
theorem nmX8 : ∀ a, a < 9 → ∀ b, b < 9 → a ≠ b → (TX8 a).2.1 ≠ (TX8 b).2.1 := by decide +kernel
theorem tyX8_ok : ∀ k, k < 9 → parseFieldDescriptor (TX8 k).2.2.1 = some (tyX8 k) := by decide +kernel
abbrev cX8_init : ByteArray := prog_10_method_1_code
def yX8_init : MethodName := ⟨RX8, "<init>", "()V"⟩
abbrev cX8_begin : ByteArray := prog_10_method_2_code
def yX8_begin : MethodName := ⟨RX8, "begin", "(III)V"⟩
abbrev cX8_copyFrom : ByteArray := prog_10_method_3_code
def yX8_copyFrom : MethodName := ⟨RX8, "copyFrom", "(LParkingTariff$Ticket;)V"⟩
abbrev cX8_property : ByteArray := prog_10_method_4_code
def yX8_property : MethodName := ⟨RX8, "property", "(I)I"⟩
abbrev cX8_hasRoomForVoucher : ByteArray := prog_10_method_5_code
def yX8_hasRoomForVoucher : MethodName := ⟨RX8, "hasRoomForVoucher", "()Z"⟩
abbrev cX8_addVoucherNumber : ByteArray := prog_10_method_6_code
def yX8_addVoucherNumber : MethodName := ⟨RX8, "addVoucherNumber", "(I)V"⟩
abbrev cX8_voucherNumber : ByteArray := prog_10_method_7_code
def yX8_voucherNumber : MethodName := ⟨RX8, "voucherNumber", "(I)I"⟩
abbrev cX8_takePayment : ByteArray := prog_10_method_8_code
def yX8_takePayment : MethodName := ⟨RX8, "takePayment", "(II)V"⟩
abbrev cX8_paidWithin : ByteArray := prog_10_method_9_code
def yX8_paidWithin : MethodName := ⟨RX8, "paidWithin", "(II)Z"⟩
def RX9 : String := "ParkingTariff$Voucher"
def TX9 : u_T := fun k => match k with
  | 0 => ("ParkingTariff$Voucher", "kind", "I", false)
  | 1 => ("ParkingTariff$Voucher", "amount", "I", false)
  | _ => ("ParkingTariff$Voucher", "given", "I", false)
def tyX9 : Nat → FieldType := fun k => match k with
  | 0 => .int
  | 1 => .int
  | _ => .int
abbrev wsX90 : List Cond := u_ws RX9 TX9 3
theorem nmX9 : ∀ a, a < 3 → ∀ b, b < 3 → a ≠ b → (TX9 a).2.1 ≠ (TX9 b).2.1 := by decide +kernel
theorem tyX9_ok : ∀ k, k < 3 → parseFieldDescriptor (TX9 k).2.2.1 = some (tyX9 k) := by decide +kernel
abbrev cX9_init : ByteArray := prog_11_method_1_code
def yX9_init : MethodName := ⟨RX9, "<init>", "()V"⟩
abbrev cX9_begin : ByteArray := prog_11_method_2_code
def yX9_begin : MethodName := ⟨RX9, "begin", "(II)V"⟩
abbrev cX9_copyFrom : ByteArray := prog_11_method_3_code
def yX9_copyFrom : MethodName := ⟨RX9, "copyFrom", "(LParkingTariff$Voucher;)V"⟩
abbrev cX9_property : ByteArray := prog_11_method_4_code
def yX9_property : MethodName := ⟨RX9, "property", "(I)I"⟩
abbrev cX9_reduce : ByteArray := prog_11_method_5_code
def yX9_reduce : MethodName := ⟨RX9, "reduce", "(I)I"⟩
def RX10 : String := "ParkingTariff"
def TX10 : u_T := fun k => match k with
  | 0 => ("ParkingTariff", "park", "LParkingTariff$CarPark;", true)
  | 1 => ("ParkingTariff", "snapshot", "LParkingTariff$CarPark;", true)
  | 2 => ("ParkingTariff", "hasSnapshot", "Z", false)
  | 3 => ("ParkingTariff", "text", "LParkingTariff$PlanText;", true)
  | _ => ("ParkingTariff", "report", "LParkingTariff$Report;", true)
def tyX10 : Nat → FieldType := fun k => match k with
  | 0 => .object "ParkingTariff$CarPark"
  | 1 => .object "ParkingTariff$CarPark"
  | 2 => .boolean
  | 3 => .object "ParkingTariff$PlanText"
  | _ => .object "ParkingTariff$Report"
abbrev wsX100 : List Cond := u_ws RX10 TX10 5
theorem nmX10 : ∀ a, a < 5 → ∀ b, b < 5 → a ≠ b → (TX10 a).2.1 ≠ (TX10 b).2.1 := by decide +kernel
theorem tyX10_ok : ∀ k, k < 5 → parseFieldDescriptor (TX10 k).2.2.1 = some (tyX10 k) := by decide +kernel
abbrev cX10_init : ByteArray := prog_1_method_1_code
def yX10_init : MethodName := ⟨RX10, "<init>", "()V"⟩
abbrev cX10_append : ByteArray := prog_1_method_2_code
def yX10_append : MethodName := ⟨RX10, "append", "(II)I"⟩
abbrev cX10_readPlan : ByteArray := prog_1_method_3_code
def yX10_readPlan : MethodName := ⟨RX10, "readPlan", "(I)I"⟩
abbrev cX10_plan : ByteArray := prog_1_method_4_code
def yX10_plan : MethodName := ⟨RX10, "plan", "(II)I"⟩
abbrev cX10_band : ByteArray := prog_1_method_5_code
def yX10_band : MethodName := ⟨RX10, "band", "(III)I"⟩
abbrev cX10_fee : ByteArray := prog_1_method_6_code
def yX10_fee : MethodName := ⟨RX10, "fee", "(III)I"⟩
abbrev cX10_unit : ByteArray := prog_1_method_7_code
def yX10_unit : MethodName := ⟨RX10, "unit", "(IIII)I"⟩
abbrev cX10_extend : ByteArray := prog_1_method_8_code
def yX10_extend : MethodName := ⟨RX10, "extend", "(III)I"⟩
abbrev cX10_addVoucher : ByteArray := prog_1_method_9_code
def yX10_addVoucher : MethodName := ⟨RX10, "addVoucher", "(II)I"⟩
abbrev cX10_voucher : ByteArray := prog_1_method_10_code
def yX10_voucher : MethodName := ⟨RX10, "voucher", "(II)I"⟩
abbrev cX10_makeFolder : ByteArray := prog_1_method_11_code
def yX10_makeFolder : MethodName := ⟨RX10, "makeFolder", "(III)I"⟩
abbrev cX10_put : ByteArray := prog_1_method_12_code
def yX10_put : MethodName := ⟨RX10, "put", "(III)I"⟩
abbrev cX10_inFolder : ByteArray := prog_1_method_13_code
def yX10_inFolder : MethodName := ⟨RX10, "inFolder", "(II)I"⟩
abbrev cX10_enter : ByteArray := prog_1_method_14_code
def yX10_enter : MethodName := ⟨RX10, "enter", "(I)I"⟩
abbrev cX10_give : ByteArray := prog_1_method_15_code
def yX10_give : MethodName := ⟨RX10, "give", "(III)I"⟩
abbrev cX10_lose : ByteArray := prog_1_method_16_code
def yX10_lose : MethodName := ⟨RX10, "lose", "(I)I"⟩
abbrev cX10_due : ByteArray := prog_1_method_17_code
def yX10_due : MethodName := ⟨RX10, "due", "(II)I"⟩
abbrev cX10_pay : ByteArray := prog_1_method_18_code
def yX10_pay : MethodName := ⟨RX10, "pay", "(I)I"⟩
abbrev cX10_leave : ByteArray := prog_1_method_19_code
def yX10_leave : MethodName := ⟨RX10, "leave", "(I)I"⟩
abbrev cX10_ticket : ByteArray := prog_1_method_20_code
def yX10_ticket : MethodName := ⟨RX10, "ticket", "(II)I"⟩
abbrev cX10_step : ByteArray := prog_1_method_21_code
def yX10_step : MethodName := ⟨RX10, "step", "(II)I"⟩
abbrev cX10_advance : ByteArray := prog_1_method_22_code
def yX10_advance : MethodName := ⟨RX10, "advance", "(I)I"⟩
abbrev cX10_setCapacity : ByteArray := prog_1_method_23_code
def yX10_setCapacity : MethodName := ⟨RX10, "setCapacity", "(II)I"⟩
abbrev cX10_level : ByteArray := prog_1_method_24_code
def yX10_level : MethodName := ⟨RX10, "level", "(II)I"⟩
abbrev cX10_forecast : ByteArray := prog_1_method_25_code
def yX10_forecast : MethodName := ⟨RX10, "forecast", "(II)I"⟩
abbrev cX10_count : ByteArray := prog_1_method_26_code
def yX10_count : MethodName := ⟨RX10, "count", "(I)I"⟩
abbrev cX10_reportLevels : ByteArray := prog_1_method_27_code
def yX10_reportLevels : MethodName := ⟨RX10, "reportLevels", "()I"⟩
abbrev cX10_reportCode : ByteArray := prog_1_method_28_code
def yX10_reportCode : MethodName := ⟨RX10, "reportCode", "(I)I"⟩
abbrev cX10_reportNumber : ByteArray := prog_1_method_29_code
def yX10_reportNumber : MethodName := ⟨RX10, "reportNumber", "(I)I"⟩
abbrev cX10_save : ByteArray := prog_1_method_30_code
def yX10_save : MethodName := ⟨RX10, "save", "()I"⟩
abbrev cX10_restore : ByteArray := prog_1_method_31_code
def yX10_restore : MethodName := ⟨RX10, "restore", "()I"⟩
abbrev cX10_isStay : ByteArray := prog_1_method_32_code
def yX10_isStay : MethodName := ⟨RX10, "isStay", "(II)Z"⟩
abbrev cX10_within : ByteArray := prog_1_method_33_code
def yX10_within : MethodName := ⟨RX10, "within", "(III)Z"⟩
abbrev cX10_bitsOf : ByteArray := prog_1_method_34_code
def yX10_bitsOf : MethodName := ⟨RX10, "bitsOf", "(F)I"⟩
def RX11 : String := "ParkingTariffModel"
def TX11 : u_T := fun k => match k with
  | 0 => ("ParkingTariffModel", "s", "[I", true)
  | 1 => ("ParkingTariffModel", "saved", "[I", true)
  | 2 => ("ParkingTariffModel", "rates", "[F", true)
  | 3 => ("ParkingTariffModel", "savedRates", "[F", true)
  | 4 => ("ParkingTariffModel", "hasSaved", "Z", false)
  | 5 => ("ParkingTariffModel", "text", "[I", true)
  | 6 => ("ParkingTariffModel", "length", "I", false)
  | 7 => ("ParkingTariffModel", "report", "[I", true)
  | 8 => ("ParkingTariffModel", "reported", "I", false)
  | 9 => ("ParkingTariffModel", "at", "I", false)
  | 10 => ("ParkingTariffModel", "group", "I", false)
  | 11 => ("ParkingTariffModel", "sum", "I", false)
  | 12 => ("ParkingTariffModel", "closed", "I", false)
  | 13 => ("ParkingTariffModel", "total", "I", false)
  | 14 => ("ParkingTariffModel", "spot", "I", false)
  | 15 => ("ParkingTariffModel", "clause", "I", false)
  | 16 => ("ParkingTariffModel", "fault", "I", false)
  | 17 => ("ParkingTariffModel", "faulty", "I", false)
  | 18 => ("ParkingTariffModel", "draft", "[I", true)
  | 19 => ("ParkingTariffModel", "numbers", "[I", true)
  | _ => ("ParkingTariffModel", "drafted", "I", false)
def tyX11 : Nat → FieldType := fun k => match k with
  | 0 => .array .int
  | 1 => .array .int
  | 2 => .array .float
  | 3 => .array .float
  | 4 => .boolean
  | 5 => .array .int
  | 6 => .int
  | 7 => .array .int
  | 8 => .int
  | 9 => .int
  | 10 => .int
  | 11 => .int
  | 12 => .int
  | 13 => .int
  | 14 => .int
  | 15 => .int
  | 16 => .int
  | 17 => .int
  | 18 => .array .int
  | 19 => .array .int
  | _ => .int
abbrev wsX110 : List Cond := u_ws RX11 TX11 21
theorem nmX11 : ∀ a, a < 21 → ∀ b, b < 21 → a ≠ b → (TX11 a).2.1 ≠ (TX11 b).2.1 := by decide +kernel
theorem tyX11_ok : ∀ k, k < 21 → parseFieldDescriptor (TX11 k).2.2.1 = some (tyX11 k) := by decide +kernel
abbrev cX11_init : ByteArray := prog_13_method_1_code
def yX11_init : MethodName := ⟨RX11, "<init>", "()V"⟩
abbrev cX11_in : ByteArray := prog_13_method_2_code
def yX11_in : MethodName := ⟨RX11, "in", "(III)Z"⟩
abbrev cX11_isPlan : ByteArray := prog_13_method_3_code
def yX11_isPlan : MethodName := ⟨RX11, "isPlan", "(I)Z"⟩
abbrev cX11_isMinute : ByteArray := prog_13_method_4_code
def yX11_isMinute : MethodName := ⟨RX11, "isMinute", "(I)Z"⟩
abbrev cX11_clears : ByteArray := prog_13_method_5_code
def yX11_clears : MethodName := ⟨RX11, "clears", "(I)V"⟩
abbrev cX11_of : ByteArray := prog_13_method_6_code
def yX11_of : MethodName := ⟨RX11, "of", "(II)I"⟩
abbrev cX11_bandPart : ByteArray := prog_13_method_7_code
def yX11_bandPart : MethodName := ⟨RX11, "bandPart", "(III)I"⟩
abbrev cX11_bandAt : ByteArray := prog_13_method_8_code
def yX11_bandAt : MethodName := ⟨RX11, "bandAt", "(II)I"⟩
abbrev cX11_begins : ByteArray := prog_13_method_9_code
def yX11_begins : MethodName := ⟨RX11, "begins", "(I)V"⟩
abbrev cX11_capped : ByteArray := prog_13_method_10_code
def yX11_capped : MethodName := ⟨RX11, "capped", "(II)I"⟩
abbrev cX11_groupOf : ByteArray := prog_13_method_11_code
def yX11_groupOf : MethodName := ⟨RX11, "groupOf", "(II)I"⟩
abbrev cX11_adds : ByteArray := prog_13_method_12_code
def yX11_adds : MethodName := ⟨RX11, "adds", "(II)V"⟩
abbrev cX11_feeOf : ByteArray := prog_13_method_13_code
def yX11_feeOf : MethodName := ⟨RX11, "feeOf", "(III)I"⟩
abbrev cX11_isStay : ByteArray := prog_13_method_14_code
def yX11_isStay : MethodName := ⟨RX11, "isStay", "(III)Z"⟩
abbrev cX11_fee : ByteArray := prog_13_method_15_code
def yX11_fee : MethodName := ⟨RX11, "fee", "(III)I"⟩
abbrev cX11_unit : ByteArray := prog_13_method_16_code
def yX11_unit : MethodName := ⟨RX11, "unit", "(IIII)I"⟩
abbrev cX11_extend : ByteArray := prog_13_method_17_code
def yX11_extend : MethodName := ⟨RX11, "extend", "(III)I"⟩
abbrev cX11_append : ByteArray := prog_13_method_18_code
def yX11_append : MethodName := ⟨RX11, "append", "(II)I"⟩
abbrev cX11_here : ByteArray := prog_13_method_19_code
def yX11_here : MethodName := ⟨RX11, "here", "()I"⟩
abbrev cX11_fails : ByteArray := prog_13_method_20_code
def yX11_fails : MethodName := ⟨RX11, "fails", "(II)V"⟩
abbrev cX11_must : ByteArray := prog_13_method_21_code
def yX11_must : MethodName := ⟨RX11, "must", "(I)V"⟩
abbrev cX11_number : ByteArray := prog_13_method_22_code
def yX11_number : MethodName := ⟨RX11, "number", "(I)V"⟩
abbrev cX11_isWord : ByteArray := prog_13_method_23_code
def yX11_isWord : MethodName := ⟨RX11, "isWord", "(IICCCC)Z"⟩
abbrev cX11_ranges : ByteArray := prog_13_method_24_code
def yX11_ranges : MethodName := ⟨RX11, "ranges", "(III)V"⟩
abbrev cX11_band : ByteArray := prog_13_method_25_code
def yX11_band : MethodName := ⟨RX11, "band", "()V"⟩
abbrev cX11_amount : ByteArray := prog_13_method_26_code
def yX11_amount : MethodName := ⟨RX11, "amount", "(II)V"⟩
abbrev cX11_clause : ByteArray := prog_13_method_27_code
def yX11_clause : MethodName := ⟨RX11, "clause", "()V"⟩
abbrev cX11_reads : ByteArray := prog_13_method_28_code
def yX11_reads : MethodName := ⟨RX11, "reads", "()V"⟩
abbrev cX11_reports : ByteArray := prog_13_method_29_code
def yX11_reports : MethodName := ⟨RX11, "reports", "(I)V"⟩
abbrev cX11_readPlan : ByteArray := prog_13_method_30_code
def yX11_readPlan : MethodName := ⟨RX11, "readPlan", "(I)I"⟩
abbrev cX11_plan : ByteArray := prog_13_method_31_code
def yX11_plan : MethodName := ⟨RX11, "plan", "(II)I"⟩
abbrev cX11_band_ : ByteArray := prog_13_method_32_code
def yX11_band_ : MethodName := ⟨RX11, "band", "(III)I"⟩
abbrev cX11_isVoucher : ByteArray := prog_13_method_33_code
def yX11_isVoucher : MethodName := ⟨RX11, "isVoucher", "(I)Z"⟩
abbrev cX11_kindOf : ByteArray := prog_13_method_34_code
def yX11_kindOf : MethodName := ⟨RX11, "kindOf", "(I)I"⟩
abbrev cX11_amountOf : ByteArray := prog_13_method_35_code
def yX11_amountOf : MethodName := ⟨RX11, "amountOf", "(I)I"⟩
abbrev cX11_addVoucher : ByteArray := prog_13_method_36_code
def yX11_addVoucher : MethodName := ⟨RX11, "addVoucher", "(II)I"⟩
abbrev cX11_voucher : ByteArray := prog_13_method_37_code
def yX11_voucher : MethodName := ⟨RX11, "voucher", "(II)I"⟩
abbrev cX11_makeFolder : ByteArray := prog_13_method_38_code
def yX11_makeFolder : MethodName := ⟨RX11, "makeFolder", "(III)I"⟩
abbrev cX11_isPlace : ByteArray := prog_13_method_39_code
def yX11_isPlace : MethodName := ⟨RX11, "isPlace", "(II)Z"⟩
abbrev cX11_put : ByteArray := prog_13_method_40_code
def yX11_put : MethodName := ⟨RX11, "put", "(III)I"⟩
abbrev cX11_inFolder : ByteArray := prog_13_method_41_code
def yX11_inFolder : MethodName := ⟨RX11, "inFolder", "(II)I"⟩
abbrev cX11_levelPart : ByteArray := prog_13_method_42_code
def yX11_levelPart : MethodName := ⟨RX11, "levelPart", "(II)I"⟩
abbrev cX11_score : ByteArray := prog_13_method_43_code
def yX11_score : MethodName := ⟨RX11, "score", "(I)F"⟩
abbrev cX11_bestLevel : ByteArray := prog_13_method_44_code
def yX11_bestLevel : MethodName := ⟨RX11, "bestLevel", "()I"⟩
abbrev cX11_setCapacity : ByteArray := prog_13_method_45_code
def yX11_setCapacity : MethodName := ⟨RX11, "setCapacity", "(II)I"⟩
abbrev cX11_level : ByteArray := prog_13_method_46_code
def yX11_level : MethodName := ⟨RX11, "level", "(II)I"⟩
abbrev cX11_forecast : ByteArray := prog_13_method_47_code
def yX11_forecast : MethodName := ⟨RX11, "forecast", "(II)I"⟩
abbrev cX11_item : ByteArray := prog_13_method_48_code
def yX11_item : MethodName := ⟨RX11, "item", "(II)I"⟩
abbrev cX11_set : ByteArray := prog_13_method_49_code
def yX11_set : MethodName := ⟨RX11, "set", "(III)V"⟩
abbrev cX11_isInside : ByteArray := prog_13_method_50_code
def yX11_isInside : MethodName := ⟨RX11, "isInside", "(I)Z"⟩
abbrev cX11_inside : ByteArray := prog_13_method_51_code
def yX11_inside : MethodName := ⟨RX11, "inside", "()I"⟩
abbrev cX11_enter : ByteArray := prog_13_method_52_code
def yX11_enter : MethodName := ⟨RX11, "enter", "(I)I"⟩
abbrev cX11_give : ByteArray := prog_13_method_53_code
def yX11_give : MethodName := ⟨RX11, "give", "(III)I"⟩
abbrev cX11_base : ByteArray := prog_13_method_54_code
def yX11_base : MethodName := ⟨RX11, "base", "(II)I"⟩
abbrev cX11_lowered : ByteArray := prog_13_method_55_code
def yX11_lowered : MethodName := ⟨RX11, "lowered", "(III)I"⟩
abbrev cX11_vouchered : ByteArray := prog_13_method_56_code
def yX11_vouchered : MethodName := ⟨RX11, "vouchered", "(III)I"⟩
abbrev cX11_lostFee : ByteArray := prog_13_method_57_code
def yX11_lostFee : MethodName := ⟨RX11, "lostFee", "(II)I"⟩
abbrev cX11_dueAt : ByteArray := prog_13_method_58_code
def yX11_dueAt : MethodName := ⟨RX11, "dueAt", "(II)I"⟩
abbrev cX11_lose : ByteArray := prog_13_method_59_code
def yX11_lose : MethodName := ⟨RX11, "lose", "(I)I"⟩
abbrev cX11_due : ByteArray := prog_13_method_60_code
def yX11_due : MethodName := ⟨RX11, "due", "(II)I"⟩
abbrev cX11_pay : ByteArray := prog_13_method_61_code
def yX11_pay : MethodName := ⟨RX11, "pay", "(I)I"⟩
abbrev cX11_leave : ByteArray := prog_13_method_62_code
def yX11_leave : MethodName := ⟨RX11, "leave", "(I)I"⟩
abbrev cX11_ticket : ByteArray := prog_13_method_63_code
def yX11_ticket : MethodName := ⟨RX11, "ticket", "(II)I"⟩
abbrev cX11_stepsOf : ByteArray := prog_13_method_64_code
def yX11_stepsOf : MethodName := ⟨RX11, "stepsOf", "(I)I"⟩
abbrev cX11_step : ByteArray := prog_13_method_65_code
def yX11_step : MethodName := ⟨RX11, "step", "(II)I"⟩
abbrev cX11_advance : ByteArray := prog_13_method_66_code
def yX11_advance : MethodName := ⟨RX11, "advance", "(I)I"⟩
abbrev cX11_count : ByteArray := prog_13_method_67_code
def yX11_count : MethodName := ⟨RX11, "count", "(I)I"⟩
abbrev cX11_reportLevels : ByteArray := prog_13_method_68_code
def yX11_reportLevels : MethodName := ⟨RX11, "reportLevels", "()I"⟩
abbrev cX11_reportCode : ByteArray := prog_13_method_69_code
def yX11_reportCode : MethodName := ⟨RX11, "reportCode", "(I)I"⟩
abbrev cX11_reportNumber : ByteArray := prog_13_method_70_code
def yX11_reportNumber : MethodName := ⟨RX11, "reportNumber", "(I)I"⟩
abbrev cX11_save : ByteArray := prog_13_method_71_code
def yX11_save : MethodName := ⟨RX11, "save", "()I"⟩
abbrev cX11_restore : ByteArray := prog_13_method_72_code
def yX11_restore : MethodName := ⟨RX11, "restore", "()I"⟩
def RJxf58ca : String := "java/lang/Float"
def TJxf58ca : u_T := fun k => match k with
  | _ => ("", "", "", false)
def tyJxf58ca : Nat → FieldType := fun k => match k with
  | _ => .int
abbrev wsJxf58ca0 : List Cond := u_ws RJxf58ca TJxf58ca 0
theorem nmJxf58ca : ∀ a, a < 0 → ∀ b, b < 0 → a ≠ b → (TJxf58ca a).2.1 ≠ (TJxf58ca b).2.1 := by decide +kernel
theorem tyJxf58ca_ok : ∀ k, k < 0 → parseFieldDescriptor (TJxf58ca k).2.2.1 = some (tyJxf58ca k) := by decide +kernel
abbrev cJxf58ca_isNaN_12338 : ByteArray := prog_14_method_6_code
def yJxf58ca_isNaN_12338 : MethodName := ⟨RJxf58ca, "isNaN", "(F)Z"⟩
abbrev cJxf58ca_floatToIntBits_5c35a : ByteArray := prog_14_method_24_code
def yJxf58ca_floatToIntBits_5c35a : MethodName := ⟨RJxf58ca, "floatToIntBits", "(F)I"⟩
def RJ9 : String := "java/lang/Math"
def TJ9 : u_T := fun k => match k with
  | _ => ("", "", "", false)
def tyJ9 : Nat → FieldType := fun k => match k with
  | _ => .int
abbrev wsJ90 : List Cond := u_ws RJ9 TJ9 0
theorem nmJ9 : ∀ a, a < 0 → ∀ b, b < 0 → a ≠ b → (TJ9 a).2.1 ≠ (TJ9 b).2.1 := by decide +kernel
theorem tyJ9_ok : ∀ k, k < 0 → parseFieldDescriptor (TJ9 k).2.2.1 = some (tyJ9 k) := by decide +kernel
abbrev cJ9_max_7cf53 : ByteArray := prog_15_method_65_code
def yJ9_max_7cf53 : MethodName := ⟨RJ9, "max", "(II)I"⟩
abbrev cJ9_min_7cf53 : ByteArray := prog_15_method_69_code
def yJ9_min_7cf53 : MethodName := ⟨RJ9, "min", "(II)I"⟩
def RJ0 : String := "java/lang/String"
def TJ0 : u_T := fun k => match k with
  | _ => ("", "", "", false)
def tyJ0 : Nat → FieldType := fun k => match k with
  | _ => .int
abbrev wsJ00 : List Cond := u_ws RJ0 TJ0 0
theorem nmJ0 : ∀ a, a < 0 → ∀ b, b < 0 → a ≠ b → (TJ0 a).2.1 ≠ (TJ0 b).2.1 := by decide +kernel
theorem tyJ0_ok : ∀ k, k < 0 → parseFieldDescriptor (TJ0 k).2.2.1 = some (tyJ0 k) := by decide +kernel
abbrev cJ0_length_8abf5 : ByteArray := prog_16_method_54_code
def yJ0_length_8abf5 : MethodName := ⟨RJ0, "length", "()I"⟩
abbrev cJ0_charAt_5068e : ByteArray := prog_16_method_56_code
def yJ0_charAt_5068e : MethodName := ⟨RJ0, "charAt", "(I)C"⟩
abbrev cJ0_coder_7d493 : ByteArray := prog_16_method_152_code
def yJ0_coder_7d493 : MethodName := ⟨RJ0, "coder", "()B"⟩
abbrev cJ0_isLatin1_aae02 : ByteArray := prog_16_method_154_code
def yJ0_isLatin1_aae02 : MethodName := ⟨RJ0, "isLatin1", "()Z"⟩
abbrev cJ0_checkIndex_df160 : ByteArray := prog_16_method_155_code
def yJ0_checkIndex_df160 : MethodName := ⟨RJ0, "checkIndex", "(II)V"⟩
def RJ1 : String := "java/lang/StringLatin1"
def TJ1 : u_T := fun k => match k with
  | _ => ("", "", "", false)
def tyJ1 : Nat → FieldType := fun k => match k with
  | _ => .int
abbrev wsJ10 : List Cond := u_ws RJ1 TJ1 0
theorem nmJ1 : ∀ a, a < 0 → ∀ b, b < 0 → a ≠ b → (TJ1 a).2.1 ≠ (TJ1 b).2.1 := by decide +kernel
theorem tyJ1_ok : ∀ k, k < 0 → parseFieldDescriptor (TJ1 k).2.2.1 = some (tyJ1 k) := by decide +kernel
abbrev cJ1_charAt_3b067 : ByteArray := prog_17_method_2_code
def yJ1_charAt_3b067 : MethodName := ⟨RJ1, "charAt", "([BI)C"⟩
def RJ2 : String := "java/lang/StringUTF16"
def TJ2 : u_T := fun k => match k with
  | _ => ("", "", "", false)
def tyJ2 : Nat → FieldType := fun k => match k with
  | _ => .int
abbrev wsJ20 : List Cond := u_ws RJ2 TJ2 0
theorem nmJ2 : ∀ a, a < 0 → ∀ b, b < 0 → a ≠ b → (TJ2 a).2.1 ≠ (TJ2 b).2.1 := by decide +kernel
theorem tyJ2_ok : ∀ k, k < 0 → parseFieldDescriptor (TJ2 k).2.2.1 = some (tyJ2 k) := by decide +kernel
abbrev cJ2_getChar_3b067 : ByteArray := prog_18_method_5_code
def yJ2_getChar_3b067 : MethodName := ⟨RJ2, "getChar", "([BI)C"⟩
abbrev cJ2_length_9d52b : ByteArray := prog_18_method_6_code
def yJ2_length_9d52b : MethodName := ⟨RJ2, "length", "([B)I"⟩
abbrev cJ2_charAt_3b067 : ByteArray := prog_18_method_83_code
def yJ2_charAt_3b067 : MethodName := ⟨RJ2, "charAt", "([BI)C"⟩
abbrev cJ2_checkIndex_2214a : ByteArray := prog_18_method_91_code
def yJ2_checkIndex_2214a : MethodName := ⟨RJ2, "checkIndex", "(I[B)V"⟩
def RJ3 : String := "jdk/internal/util/Preconditions"
def TJ3 : u_T := fun k => match k with
  | _ => ("", "", "", false)
def tyJ3 : Nat → FieldType := fun k => match k with
  | _ => .int
abbrev wsJ30 : List Cond := u_ws RJ3 TJ3 0
theorem nmJ3 : ∀ a, a < 0 → ∀ b, b < 0 → a ≠ b → (TJ3 a).2.1 ≠ (TJ3 b).2.1 := by decide +kernel
theorem tyJ3_ok : ∀ k, k < 0 → parseFieldDescriptor (TJ3 k).2.2.1 = some (tyJ3 k) := by decide +kernel
abbrev cJ3_checkIndex_8e157 : ByteArray := prog_19_method_11_code
def yJ3_checkIndex_8e157 : MethodName := ⟨RJ3, "checkIndex", "(IILjava/util/function/BiFunction;)I"⟩
def RL : String := "ParkingTariffLaw"
abbrev cL_law : ByteArray := code
def yL_law : MethodName := ⟨RL, "law", "([I)Z"⟩
abbrev vwCl : List vw_C := [(RX0, TX0, 4), (RX1, TX1, 8), (RX2, TX2, 3), (RX3, TX3, 5), (RX4, TX4, 6), (RX5, TX5, 6), (RX6, TX6, 9), (RX7, TX7, 3), (RX8, TX8, 9), (RX9, TX9, 3), (RX10, TX10, 5), (RX11, TX11, 21)]
/-! ===== the words that go from a method to its callees: all of the tables that keep ===== -/
def WS : List Cond := lw_tbl.filter goodWord
theorem ws_at {w : Cond} (i : Nat) (h : tables_1[i]? = some w) (hg : goodWord w = true) : w ∈ WS := List.mem_filter.mpr ⟨List.mem_append_right _ (List.mem_of_getElem? h), hg⟩
theorem ws_pr {w : Cond} (i : Nat) (h : (k2_sels lw_privs)[i]? = some w) (hg : goodWord w = true) : w ∈ WS := List.mem_filter.mpr ⟨List.mem_append_left _ (List.mem_of_getElem? h), hg⟩
theorem ws_of {ws : List Cond} (ps : List Nat) (hp : ws = ps.filterMap (fun i => tables_1[i]?)) (hg : ws.all goodWord = true) : ∀ w ∈ ws, w ∈ WS := by
  intro w hw
  have h1 := List.all_eq_true.mp hg w hw
  rw [hp] at hw
  obtain ⟨i, -, hi⟩ := List.mem_filterMap.mp hw
  exact List.mem_filter.mpr ⟨List.mem_append_right _ (List.mem_of_getElem? hi), h1⟩
theorem ws_good : ∀ w ∈ WS, goodWord w = true := fun _ h => (List.mem_filter.mp h).2
theorem uwX0 : ∀ w ∈ wsX00, w ∈ WS := ws_of [64, 66, 68, 70] (by decide +kernel) (by decide +kernel)
theorem uwX1 : ∀ w ∈ wsX10, w ∈ WS := ws_of [221, 223, 225, 227, 229, 231, 233, 235] (by decide +kernel) (by decide +kernel)
theorem uwX2 : ∀ w ∈ wsX20, w ∈ WS := ws_of [135, 137, 139] (by decide +kernel) (by decide +kernel)
theorem uwX3 : ∀ w ∈ wsX30, w ∈ WS := ws_of [155, 157, 159, 161, 163] (by decide +kernel) (by decide +kernel)
theorem uwX4 : ∀ w ∈ wsX40, w ∈ WS := ws_of [520, 522, 524, 526, 528, 530] (by decide +kernel) (by decide +kernel)
theorem uwX5 : ∀ w ∈ wsX50, w ∈ WS := ws_of [95, 97, 99, 101, 103, 105] (by decide +kernel) (by decide +kernel)
theorem uwX6 : ∀ w ∈ wsX60, w ∈ WS := ws_of [260, 262, 264, 266, 268, 270, 272, 274, 276] (by decide +kernel) (by decide +kernel)
theorem uwX7 : ∀ w ∈ wsX70, w ∈ WS := ws_of [292, 294, 296] (by decide +kernel) (by decide +kernel)
theorem uwX8 : ∀ w ∈ wsX80, w ∈ WS := ws_of [190, 192, 194, 196, 198, 200, 202, 204, 206] (by decide +kernel) (by decide +kernel)
theorem uwX9 : ∀ w ∈ wsX90, w ∈ WS := ws_of [120, 122, 124] (by decide +kernel) (by decide +kernel)
theorem uwX10 : ∀ w ∈ wsX100, w ∈ WS := ws_of [304, 306, 308, 310, 312] (by decide +kernel) (by decide +kernel)
theorem uwX11 : ∀ w ∈ wsX110, w ∈ WS := ws_of [938, 940, 942, 944, 946, 948, 950, 952, 954, 956, 958, 960, 962, 964, 966, 968, 970, 972, 974, 976, 978] (by decide +kernel) (by decide +kernel)
