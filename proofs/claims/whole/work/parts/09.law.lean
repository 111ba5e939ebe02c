def b_L_law_18 (κ : Cfg) (q1 : Option Nat) (q4 : Option Nat) (L18_6 : (Int32 × Mem) → Option (Int32 × Mem)) (a7 : Int32 × Mem) : Option (Int32 × Mem) :=
  (if ((Int32.ofNat (kL κ)) - 5) < a7.1 then rtZ 1 a7.2 else scI κ a7.1 (fun (x9 : Int32) => jn (fun (M11 : Mem) => L18_6 ((a7.1 + 5), M11)) (fun (J1088_9 : Mem → Option (Int32 × Mem)) => (if (x9 &&& 31) = 0 then scI κ ((a7.1 + 1)) (fun (x12 : Int32) => scI κ ((a7.1 + 2)) (fun (x13 : Int32) => rc a7.2 10 q1 (cl (m_X10_append a7.2 q1 x12 x13) (fun (x15 : Int32) (M14 : Mem) => scI κ ((a7.1 + 1)) (fun (x16 : Int32) => scI κ ((a7.1 + 2)) (fun (x17 : Int32) => rc M14 11 q4 (cl (m_X11_append M14 q4 x16 x17) (fun (x19 : Int32) (M18 : Mem) => (if x15 = x19 then J1088_9 M18 else rtZ 0 M18))))))))) else (if (x9 &&& 31) = 1 then scI κ ((a7.1 + 1)) (fun (x20 : Int32) => rc a7.2 10 q1 (cl (m_X10_readPlan a7.2 q1 x20) (fun (x22 : Int32) (M21 : Mem) => scI κ ((a7.1 + 1)) (fun (x23 : Int32) => rc M21 11 q4 (cl (m_X11_readPlan M21 q4 x23) (fun (x25 : Int32) (M24 : Mem) => (if x22 = x25 then J1088_9 M24 else rtZ 0 M24))))))) else (if (x9 &&& 31) = 2 then scI κ ((a7.1 + 1)) (fun (x26 : Int32) => scI κ ((a7.1 + 2)) (fun (x27 : Int32) => rc a7.2 10 q1 (cl (m_X10_plan a7.2 q1 x26 x27) (fun (x29 : Int32) (M28 : Mem) => scI κ ((a7.1 + 1)) (fun (x30 : Int32) => scI κ ((a7.1 + 2)) (fun (x31 : Int32) => rc M28 11 q4 (cl (m_X11_plan M28 q4 x30 x31) (fun (x33 : Int32) (M32 : Mem) => (if x29 = x33 then J1088_9 M32 else rtZ 0 M32))))))))) else (if (x9 &&& 31) = 3 then scI κ ((a7.1 + 1)) (fun (x34 : Int32) => scI κ ((a7.1 + 2)) (fun (x35 : Int32) => scI κ ((a7.1 + 3)) (fun (x36 : Int32) => rc a7.2 10 q1 (cl (m_X10_band a7.2 q1 x34 x35 x36) (fun (x38 : Int32) (M37 : Mem) => scI κ ((a7.1 + 1)) (fun (x39 : Int32) => scI κ ((a7.1 + 2)) (fun (x40 : Int32) => scI κ ((a7.1 + 3)) (fun (x41 : Int32) => rc M37 11 q4 (cl (m_X11_band_ M37 q4 x39 x40 x41) (fun (x43 : Int32) (M42 : Mem) => (if x38 = x43 then J1088_9 M42 else rtZ 0 M42))))))))))) else (if (x9 &&& 31) = 4 then scI κ ((a7.1 + 1)) (fun (x44 : Int32) => scI κ ((a7.1 + 2)) (fun (x45 : Int32) => scI κ ((a7.1 + 3)) (fun (x46 : Int32) => rc a7.2 10 q1 (cl (m_X10_fee a7.2 q1 x44 x45 x46) (fun (x48 : Int32) (M47 : Mem) => scI κ ((a7.1 + 1)) (fun (x49 : Int32) => scI κ ((a7.1 + 2)) (fun (x50 : Int32) => scI κ ((a7.1 + 3)) (fun (x51 : Int32) => rc M47 11 q4 (cl (m_X11_fee M47 q4 x49 x50 x51) (fun (x53 : Int32) (M52 : Mem) => (if x48 = x53 then J1088_9 M52 else rtZ 0 M52))))))))))) else (if (x9 &&& 31) = 5 then scI κ ((a7.1 + 1)) (fun (x54 : Int32) => scI κ ((a7.1 + 2)) (fun (x55 : Int32) => scI κ ((a7.1 + 3)) (fun (x56 : Int32) => scI κ ((a7.1 + 4)) (fun (x57 : Int32) => rc a7.2 10 q1 (cl (m_X10_unit a7.2 q1 x54 x55 x56 x57) (fun (x59 : Int32) (M58 : Mem) => scI κ ((a7.1 + 1)) (fun (x60 : Int32) => scI κ ((a7.1 + 2)) (fun (x61 : Int32) => scI κ ((a7.1 + 3)) (fun (x62 : Int32) => scI κ ((a7.1 + 4)) (fun (x63 : Int32) => rc M58 11 q4 (cl (m_X11_unit M58 q4 x60 x61 x62 x63) (fun (x65 : Int32) (M64 : Mem) => (if x59 = x65 then J1088_9 M64 else rtZ 0 M64))))))))))))) else (if (x9 &&& 31) = 6 then scI κ ((a7.1 + 1)) (fun (x66 : Int32) => scI κ ((a7.1 + 2)) (fun (x67 : Int32) => scI κ ((a7.1 + 3)) (fun (x68 : Int32) => rc a7.2 10 q1 (cl (m_X10_extend a7.2 q1 x66 x67 x68) (fun (x70 : Int32) (M69 : Mem) => scI κ ((a7.1 + 1)) (fun (x71 : Int32) => scI κ ((a7.1 + 2)) (fun (x72 : Int32) => scI κ ((a7.1 + 3)) (fun (x73 : Int32) => rc M69 11 q4 (cl (m_X11_extend M69 q4 x71 x72 x73) (fun (x75 : Int32) (M74 : Mem) => (if x70 = x75 then J1088_9 M74 else rtZ 0 M74))))))))))) else (if (x9 &&& 31) = 7 then scI κ ((a7.1 + 1)) (fun (x76 : Int32) => scI κ ((a7.1 + 2)) (fun (x77 : Int32) => rc a7.2 10 q1 (cl (m_X10_addVoucher a7.2 q1 x76 x77) (fun (x79 : Int32) (M78 : Mem) => scI κ ((a7.1 + 1)) (fun (x80 : Int32) => scI κ ((a7.1 + 2)) (fun (x81 : Int32) => rc M78 11 q4 (cl (m_X11_addVoucher M78 q4 x80 x81) (fun (x83 : Int32) (M82 : Mem) => (if x79 = x83 then J1088_9 M82 else rtZ 0 M82))))))))) else (if (x9 &&& 31) = 8 then scI κ ((a7.1 + 1)) (fun (x84 : Int32) => scI κ ((a7.1 + 2)) (fun (x85 : Int32) => rc a7.2 10 q1 (cl (m_X10_voucher a7.2 q1 x84 x85) (fun (x87 : Int32) (M86 : Mem) => scI κ ((a7.1 + 1)) (fun (x88 : Int32) => scI κ ((a7.1 + 2)) (fun (x89 : Int32) => rc M86 11 q4 (cl (m_X11_voucher M86 q4 x88 x89) (fun (x91 : Int32) (M90 : Mem) => (if x87 = x91 then J1088_9 M90 else rtZ 0 M90))))))))) else (if (x9 &&& 31) = 9 then scI κ ((a7.1 + 1)) (fun (x92 : Int32) => scI κ ((a7.1 + 2)) (fun (x93 : Int32) => scI κ ((a7.1 + 3)) (fun (x94 : Int32) => rc a7.2 10 q1 (cl (m_X10_makeFolder a7.2 q1 x92 x93 x94) (fun (x96 : Int32) (M95 : Mem) => scI κ ((a7.1 + 1)) (fun (x97 : Int32) => scI κ ((a7.1 + 2)) (fun (x98 : Int32) => scI κ ((a7.1 + 3)) (fun (x99 : Int32) => rc M95 11 q4 (cl (m_X11_makeFolder M95 q4 x97 x98 x99) (fun (x101 : Int32) (M100 : Mem) => (if x96 = x101 then J1088_9 M100 else rtZ 0 M100))))))))))) else (if (x9 &&& 31) = 10 then scI κ ((a7.1 + 1)) (fun (x102 : Int32) => scI κ ((a7.1 + 2)) (fun (x103 : Int32) => scI κ ((a7.1 + 3)) (fun (x104 : Int32) => rc a7.2 10 q1 (cl (m_X10_put a7.2 q1 x102 x103 x104) (fun (x106 : Int32) (M105 : Mem) => scI κ ((a7.1 + 1)) (fun (x107 : Int32) => scI κ ((a7.1 + 2)) (fun (x108 : Int32) => scI κ ((a7.1 + 3)) (fun (x109 : Int32) => rc M105 11 q4 (cl (m_X11_put M105 q4 x107 x108 x109) (fun (x111 : Int32) (M110 : Mem) => (if x106 = x111 then J1088_9 M110 else rtZ 0 M110))))))))))) else (if (x9 &&& 31) = 11 then scI κ ((a7.1 + 1)) (fun (x112 : Int32) => scI κ ((a7.1 + 2)) (fun (x113 : Int32) => rc a7.2 10 q1 (cl (m_X10_inFolder a7.2 q1 x112 x113) (fun (x115 : Int32) (M114 : Mem) => scI κ ((a7.1 + 1)) (fun (x116 : Int32) => scI κ ((a7.1 + 2)) (fun (x117 : Int32) => rc M114 11 q4 (cl (m_X11_inFolder M114 q4 x116 x117) (fun (x119 : Int32) (M118 : Mem) => (if x115 = x119 then J1088_9 M118 else rtZ 0 M118))))))))) else (if (x9 &&& 31) = 12 then scI κ ((a7.1 + 1)) (fun (x120 : Int32) => rc a7.2 10 q1 (cl (m_X10_enter a7.2 q1 x120) (fun (x122 : Int32) (M121 : Mem) => scI κ ((a7.1 + 1)) (fun (x123 : Int32) => rc M121 11 q4 (cl (m_X11_enter M121 q4 x123) (fun (x125 : Int32) (M124 : Mem) => (if x122 = x125 then J1088_9 M124 else rtZ 0 M124))))))) else (if (x9 &&& 31) = 13 then scI κ ((a7.1 + 1)) (fun (x126 : Int32) => scI κ ((a7.1 + 2)) (fun (x127 : Int32) => scI κ ((a7.1 + 3)) (fun (x128 : Int32) => rc a7.2 10 q1 (cl (m_X10_give a7.2 q1 x126 x127 x128) (fun (x130 : Int32) (M129 : Mem) => scI κ ((a7.1 + 1)) (fun (x131 : Int32) => scI κ ((a7.1 + 2)) (fun (x132 : Int32) => scI κ ((a7.1 + 3)) (fun (x133 : Int32) => rc M129 11 q4 (cl (m_X11_give M129 q4 x131 x132 x133) (fun (x135 : Int32) (M134 : Mem) => (if x130 = x135 then J1088_9 M134 else rtZ 0 M134))))))))))) else (if (x9 &&& 31) = 14 then scI κ ((a7.1 + 1)) (fun (x136 : Int32) => rc a7.2 10 q1 (cl (m_X10_lose a7.2 q1 x136) (fun (x138 : Int32) (M137 : Mem) => scI κ ((a7.1 + 1)) (fun (x139 : Int32) => rc M137 11 q4 (cl (m_X11_lose M137 q4 x139) (fun (x141 : Int32) (M140 : Mem) => (if x138 = x141 then J1088_9 M140 else rtZ 0 M140))))))) else (if (x9 &&& 31) = 15 then scI κ ((a7.1 + 1)) (fun (x142 : Int32) => scI κ ((a7.1 + 2)) (fun (x143 : Int32) => rc a7.2 10 q1 (cl (m_X10_due a7.2 q1 x142 x143) (fun (x145 : Int32) (M144 : Mem) => scI κ ((a7.1 + 1)) (fun (x146 : Int32) => scI κ ((a7.1 + 2)) (fun (x147 : Int32) => rc M144 11 q4 (cl (m_X11_due M144 q4 x146 x147) (fun (x149 : Int32) (M148 : Mem) => (if x145 = x149 then J1088_9 M148 else rtZ 0 M148))))))))) else (if (x9 &&& 31) = 16 then scI κ ((a7.1 + 1)) (fun (x150 : Int32) => rc a7.2 10 q1 (cl (m_X10_pay a7.2 q1 x150) (fun (x152 : Int32) (M151 : Mem) => scI κ ((a7.1 + 1)) (fun (x153 : Int32) => rc M151 11 q4 (cl (m_X11_pay M151 q4 x153) (fun (x155 : Int32) (M154 : Mem) => (if x152 = x155 then J1088_9 M154 else rtZ 0 M154))))))) else (if (x9 &&& 31) = 17 then scI κ ((a7.1 + 1)) (fun (x156 : Int32) => rc a7.2 10 q1 (cl (m_X10_leave a7.2 q1 x156) (fun (x158 : Int32) (M157 : Mem) => scI κ ((a7.1 + 1)) (fun (x159 : Int32) => rc M157 11 q4 (cl (m_X11_leave M157 q4 x159) (fun (x161 : Int32) (M160 : Mem) => (if x158 = x161 then J1088_9 M160 else rtZ 0 M160))))))) else (if (x9 &&& 31) = 18 then scI κ ((a7.1 + 1)) (fun (x162 : Int32) => scI κ ((a7.1 + 2)) (fun (x163 : Int32) => rc a7.2 10 q1 (cl (m_X10_ticket a7.2 q1 x162 x163) (fun (x165 : Int32) (M164 : Mem) => scI κ ((a7.1 + 1)) (fun (x166 : Int32) => scI κ ((a7.1 + 2)) (fun (x167 : Int32) => rc M164 11 q4 (cl (m_X11_ticket M164 q4 x166 x167) (fun (x169 : Int32) (M168 : Mem) => (if x165 = x169 then J1088_9 M168 else rtZ 0 M168))))))))) else (if (x9 &&& 31) = 19 then scI κ ((a7.1 + 1)) (fun (x170 : Int32) => scI κ ((a7.1 + 2)) (fun (x171 : Int32) => rc a7.2 10 q1 (cl (m_X10_step a7.2 q1 x170 x171) (fun (x173 : Int32) (M172 : Mem) => scI κ ((a7.1 + 1)) (fun (x174 : Int32) => scI κ ((a7.1 + 2)) (fun (x175 : Int32) => rc M172 11 q4 (cl (m_X11_step M172 q4 x174 x175) (fun (x177 : Int32) (M176 : Mem) => (if x173 = x177 then J1088_9 M176 else rtZ 0 M176))))))))) else (if (x9 &&& 31) = 20 then scI κ ((a7.1 + 1)) (fun (x178 : Int32) => rc a7.2 10 q1 (cl (m_X10_advance a7.2 q1 x178) (fun (x180 : Int32) (M179 : Mem) => scI κ ((a7.1 + 1)) (fun (x181 : Int32) => rc M179 11 q4 (cl (m_X11_advance M179 q4 x181) (fun (x183 : Int32) (M182 : Mem) => (if x180 = x183 then J1088_9 M182 else rtZ 0 M182))))))) else (if (x9 &&& 31) = 21 then scI κ ((a7.1 + 1)) (fun (x184 : Int32) => scI κ ((a7.1 + 2)) (fun (x185 : Int32) => rc a7.2 10 q1 (cl (m_X10_setCapacity a7.2 q1 x184 x185) (fun (x187 : Int32) (M186 : Mem) => scI κ ((a7.1 + 1)) (fun (x188 : Int32) => scI κ ((a7.1 + 2)) (fun (x189 : Int32) => rc M186 11 q4 (cl (m_X11_setCapacity M186 q4 x188 x189) (fun (x191 : Int32) (M190 : Mem) => (if x187 = x191 then J1088_9 M190 else rtZ 0 M190))))))))) else (if (x9 &&& 31) = 22 then scI κ ((a7.1 + 1)) (fun (x192 : Int32) => scI κ ((a7.1 + 2)) (fun (x193 : Int32) => rc a7.2 10 q1 (cl (m_X10_level a7.2 q1 x192 x193) (fun (x195 : Int32) (M194 : Mem) => scI κ ((a7.1 + 1)) (fun (x196 : Int32) => scI κ ((a7.1 + 2)) (fun (x197 : Int32) => rc M194 11 q4 (cl (m_X11_level M194 q4 x196 x197) (fun (x199 : Int32) (M198 : Mem) => (if x195 = x199 then J1088_9 M198 else rtZ 0 M198))))))))) else (if (x9 &&& 31) = 23 then scI κ ((a7.1 + 1)) (fun (x200 : Int32) => scI κ ((a7.1 + 2)) (fun (x201 : Int32) => rc a7.2 10 q1 (cl (m_X10_forecast a7.2 q1 x200 x201) (fun (x203 : Int32) (M202 : Mem) => scI κ ((a7.1 + 1)) (fun (x204 : Int32) => scI κ ((a7.1 + 2)) (fun (x205 : Int32) => rc M202 11 q4 (cl (m_X11_forecast M202 q4 x204 x205) (fun (x207 : Int32) (M206 : Mem) => (if x203 = x207 then J1088_9 M206 else rtZ 0 M206))))))))) else (if (x9 &&& 31) = 24 then scI κ ((a7.1 + 1)) (fun (x208 : Int32) => rc a7.2 10 q1 (cl (m_X10_count a7.2 q1 x208) (fun (x210 : Int32) (M209 : Mem) => scI κ ((a7.1 + 1)) (fun (x211 : Int32) => rc M209 11 q4 (cl (m_X11_count M209 q4 x211) (fun (x213 : Int32) (M212 : Mem) => (if x210 = x213 then J1088_9 M212 else rtZ 0 M212))))))) else (if (x9 &&& 31) = 25 then rc a7.2 10 q1 (cl (m_X10_reportLevels a7.2 q1) (fun (x215 : Int32) (M214 : Mem) => rc M214 11 q4 (cl (m_X11_reportLevels M214 q4) (fun (x217 : Int32) (M216 : Mem) => (if x215 = x217 then J1088_9 M216 else rtZ 0 M216))))) else (if (x9 &&& 31) = 26 then scI κ ((a7.1 + 1)) (fun (x218 : Int32) => rc a7.2 10 q1 (cl (m_X10_reportCode a7.2 q1 x218) (fun (x220 : Int32) (M219 : Mem) => scI κ ((a7.1 + 1)) (fun (x221 : Int32) => rc M219 11 q4 (cl (m_X11_reportCode M219 q4 x221) (fun (x223 : Int32) (M222 : Mem) => (if x220 = x223 then J1088_9 M222 else rtZ 0 M222))))))) else (if (x9 &&& 31) = 27 then scI κ ((a7.1 + 1)) (fun (x224 : Int32) => rc a7.2 10 q1 (cl (m_X10_reportNumber a7.2 q1 x224) (fun (x226 : Int32) (M225 : Mem) => scI κ ((a7.1 + 1)) (fun (x227 : Int32) => rc M225 11 q4 (cl (m_X11_reportNumber M225 q4 x227) (fun (x229 : Int32) (M228 : Mem) => (if x226 = x229 then J1088_9 M228 else rtZ 0 M228))))))) else (if (x9 &&& 31) = 28 then rc a7.2 10 q1 (cl (m_X10_save a7.2 q1) (fun (x231 : Int32) (M230 : Mem) => rc M230 11 q4 (cl (m_X11_save M230 q4) (fun (x233 : Int32) (M232 : Mem) => (if x231 = x233 then J1088_9 M232 else rtZ 0 M232))))) else (if (x9 &&& 31) = 29 then rc a7.2 10 q1 (cl (m_X10_restore a7.2 q1) (fun (x235 : Int32) (M234 : Mem) => rc M234 11 q4 (cl (m_X11_restore M234 q4) (fun (x237 : Int32) (M236 : Mem) => (if x235 = x237 then J1088_9 M236 else rtZ 0 M236))))) else J1088_9 a7.2)))))))))))))))))))))))))))))))))
def m_L_law (κ : Cfg) (M : Mem) : Option (Int32 × Mem) :=
  nO M 10 5 (fun (q1 : Option Nat) (M2 : Mem) => rc M2 10 q1 (cl (m_X10_init M2 q1) (fun (_u : Unit) (M3 : Mem) => nO M3 11 21 (fun (q4 : Option Nat) (M5 : Mem) => rc M5 11 q4 (cl (m_X11_init M5 q4) (fun (_u : Unit) (M6 : Mem) => lp (b_L_law_18 κ q1 q4) FU (0, M6)))))))
abbrev md_L_law : MD := (RL, yL_law, cL_law, 4, some .boolean, 9, 219)
set_option maxRecDepth 100000 in
set_option maxHeartbeats 8000000 in
theorem g_L_law (κ : Cfg) (M : Mem) : G κ md_L_law cvI (m_L_law κ M) 0 [(0, rv κ (some 1000005))] [] M := by
  unfold m_L_law
  refine G_new cf_X10 cd_X10 w_19 w_20 w_1 dL_law_0 (fun q1 M2 => ?_)
  refine G_dup dL_law_3 (rv_cat _ _) ?_
  refine G_callI ok_X10_init [] [rv κ q1] (con_X10_init κ M2 q1) rfl w_21 w_22 rfl rfl (Nat.le_of_ble_eq_true rfl) (Nat.le_of_ble_eq_true rfl) dL_law_4 rfl (by simp) (fun _u M3 => (show G _ _ _ _ _ _ [rv κ q1] _ from ?_))
  refine G_astore_n (lv' := [(1, rv κ q1), (0, rv κ (some 1000005))]) dL_law_7 rfl (Nat.le_of_ble_eq_true rfl) rfl ?_
  refine G_new cf_X11 cd_X11 w_907 w_908 w_11 dL_law_8 (fun q4 M5 => ?_)
  refine G_dup dL_law_11 (rv_cat _ _) ?_
  refine G_callI ok_X11_init [] [rv κ q4] (con_X11_init κ M5 q4) rfl w_909 w_910 rfl rfl (Nat.le_of_ble_eq_true rfl) (Nat.le_of_ble_eq_true rfl) dL_law_12 rfl (by simp) (fun _u M6 => (show G _ _ _ _ _ _ [rv κ q4] _ from ?_))
  refine G_astore_n (lv' := [(2, rv κ q4), (1, rv κ q1), (0, rv κ (some 1000005))]) dL_law_15 rfl (Nat.le_of_ble_eq_true rfl) rfl ?_
  refine G_iconst (v := 0) dL_law_16 (by decide) ?_
  refine G_istore_n (lv' := [(3, .int 0), (2, rv κ q4), (1, rv κ q1), (0, rv κ (some 1000005))]) dL_law_17 rfl (Nat.le_of_ble_eq_true rfl) rfl ?_
  refine G.sub (lv' := [(0, rv κ (some 1000005)), (1, rv κ q1), (2, rv κ q4), (3, .int 0)]) [3, 2, 1, 0] rfl ?_
  refine G.loop (lvf := fun (a7 : Int32 × Mem) => [(0, rv κ (some 1000005)), (1, rv κ q1), (2, rv κ q4), (3, .int a7.1)]) (mf := fun (a7 : Int32 × Mem) => a7.2) (fun L18_6 hL18_6 a7 => ?_) FU (0, M6)
  unfold b_L_law_18
  refine G_iload_n dL_law_18 3 rfl rfl ?_
  refine G_aload_n dL_law_19 0 rfl rfl ?_
  refine G_slen (K := fun (x238 : Int32) => (if (x238 - 5) < a7.1 then rtZ 1 a7.2 else scI κ a7.1 (fun (x239 : Int32) => jn (fun (M241 : Mem) => L18_6 ((a7.1 + 5), M241)) (fun (J1088_239 : Mem → Option (Int32 × Mem)) => (if (x239 &&& 31) = 0 then scI κ ((a7.1 + 1)) (fun (x242 : Int32) => scI κ ((a7.1 + 2)) (fun (x243 : Int32) => rc a7.2 10 q1 (cl (m_X10_append a7.2 q1 x242 x243) (fun (x245 : Int32) (M244 : Mem) => scI κ ((a7.1 + 1)) (fun (x246 : Int32) => scI κ ((a7.1 + 2)) (fun (x247 : Int32) => rc M244 11 q4 (cl (m_X11_append M244 q4 x246 x247) (fun (x249 : Int32) (M248 : Mem) => (if x245 = x249 then J1088_239 M248 else rtZ 0 M248))))))))) else (if (x239 &&& 31) = 1 then scI κ ((a7.1 + 1)) (fun (x250 : Int32) => rc a7.2 10 q1 (cl (m_X10_readPlan a7.2 q1 x250) (fun (x252 : Int32) (M251 : Mem) => scI κ ((a7.1 + 1)) (fun (x253 : Int32) => rc M251 11 q4 (cl (m_X11_readPlan M251 q4 x253) (fun (x255 : Int32) (M254 : Mem) => (if x252 = x255 then J1088_239 M254 else rtZ 0 M254))))))) else (if (x239 &&& 31) = 2 then scI κ ((a7.1 + 1)) (fun (x256 : Int32) => scI κ ((a7.1 + 2)) (fun (x257 : Int32) => rc a7.2 10 q1 (cl (m_X10_plan a7.2 q1 x256 x257) (fun (x259 : Int32) (M258 : Mem) => scI κ ((a7.1 + 1)) (fun (x260 : Int32) => scI κ ((a7.1 + 2)) (fun (x261 : Int32) => rc M258 11 q4 (cl (m_X11_plan M258 q4 x260 x261) (fun (x263 : Int32) (M262 : Mem) => (if x259 = x263 then J1088_239 M262 else rtZ 0 M262))))))))) else (if (x239 &&& 31) = 3 then scI κ ((a7.1 + 1)) (fun (x264 : Int32) => scI κ ((a7.1 + 2)) (fun (x265 : Int32) => scI κ ((a7.1 + 3)) (fun (x266 : Int32) => rc a7.2 10 q1 (cl (m_X10_band a7.2 q1 x264 x265 x266) (fun (x268 : Int32) (M267 : Mem) => scI κ ((a7.1 + 1)) (fun (x269 : Int32) => scI κ ((a7.1 + 2)) (fun (x270 : Int32) => scI κ ((a7.1 + 3)) (fun (x271 : Int32) => rc M267 11 q4 (cl (m_X11_band_ M267 q4 x269 x270 x271) (fun (x273 : Int32) (M272 : Mem) => (if x268 = x273 then J1088_239 M272 else rtZ 0 M272))))))))))) else (if (x239 &&& 31) = 4 then scI κ ((a7.1 + 1)) (fun (x274 : Int32) => scI κ ((a7.1 + 2)) (fun (x275 : Int32) => scI κ ((a7.1 + 3)) (fun (x276 : Int32) => rc a7.2 10 q1 (cl (m_X10_fee a7.2 q1 x274 x275 x276) (fun (x278 : Int32) (M277 : Mem) => scI κ ((a7.1 + 1)) (fun (x279 : Int32) => scI κ ((a7.1 + 2)) (fun (x280 : Int32) => scI κ ((a7.1 + 3)) (fun (x281 : Int32) => rc M277 11 q4 (cl (m_X11_fee M277 q4 x279 x280 x281) (fun (x283 : Int32) (M282 : Mem) => (if x278 = x283 then J1088_239 M282 else rtZ 0 M282))))))))))) else (if (x239 &&& 31) = 5 then scI κ ((a7.1 + 1)) (fun (x284 : Int32) => scI κ ((a7.1 + 2)) (fun (x285 : Int32) => scI κ ((a7.1 + 3)) (fun (x286 : Int32) => scI κ ((a7.1 + 4)) (fun (x287 : Int32) => rc a7.2 10 q1 (cl (m_X10_unit a7.2 q1 x284 x285 x286 x287) (fun (x289 : Int32) (M288 : Mem) => scI κ ((a7.1 + 1)) (fun (x290 : Int32) => scI κ ((a7.1 + 2)) (fun (x291 : Int32) => scI κ ((a7.1 + 3)) (fun (x292 : Int32) => scI κ ((a7.1 + 4)) (fun (x293 : Int32) => rc M288 11 q4 (cl (m_X11_unit M288 q4 x290 x291 x292 x293) (fun (x295 : Int32) (M294 : Mem) => (if x289 = x295 then J1088_239 M294 else rtZ 0 M294))))))))))))) else (if (x239 &&& 31) = 6 then scI κ ((a7.1 + 1)) (fun (x296 : Int32) => scI κ ((a7.1 + 2)) (fun (x297 : Int32) => scI κ ((a7.1 + 3)) (fun (x298 : Int32) => rc a7.2 10 q1 (cl (m_X10_extend a7.2 q1 x296 x297 x298) (fun (x300 : Int32) (M299 : Mem) => scI κ ((a7.1 + 1)) (fun (x301 : Int32) => scI κ ((a7.1 + 2)) (fun (x302 : Int32) => scI κ ((a7.1 + 3)) (fun (x303 : Int32) => rc M299 11 q4 (cl (m_X11_extend M299 q4 x301 x302 x303) (fun (x305 : Int32) (M304 : Mem) => (if x300 = x305 then J1088_239 M304 else rtZ 0 M304))))))))))) else (if (x239 &&& 31) = 7 then scI κ ((a7.1 + 1)) (fun (x306 : Int32) => scI κ ((a7.1 + 2)) (fun (x307 : Int32) => rc a7.2 10 q1 (cl (m_X10_addVoucher a7.2 q1 x306 x307) (fun (x309 : Int32) (M308 : Mem) => scI κ ((a7.1 + 1)) (fun (x310 : Int32) => scI κ ((a7.1 + 2)) (fun (x311 : Int32) => rc M308 11 q4 (cl (m_X11_addVoucher M308 q4 x310 x311) (fun (x313 : Int32) (M312 : Mem) => (if x309 = x313 then J1088_239 M312 else rtZ 0 M312))))))))) else (if (x239 &&& 31) = 8 then scI κ ((a7.1 + 1)) (fun (x314 : Int32) => scI κ ((a7.1 + 2)) (fun (x315 : Int32) => rc a7.2 10 q1 (cl (m_X10_voucher a7.2 q1 x314 x315) (fun (x317 : Int32) (M316 : Mem) => scI κ ((a7.1 + 1)) (fun (x318 : Int32) => scI κ ((a7.1 + 2)) (fun (x319 : Int32) => rc M316 11 q4 (cl (m_X11_voucher M316 q4 x318 x319) (fun (x321 : Int32) (M320 : Mem) => (if x317 = x321 then J1088_239 M320 else rtZ 0 M320))))))))) else (if (x239 &&& 31) = 9 then scI κ ((a7.1 + 1)) (fun (x322 : Int32) => scI κ ((a7.1 + 2)) (fun (x323 : Int32) => scI κ ((a7.1 + 3)) (fun (x324 : Int32) => rc a7.2 10 q1 (cl (m_X10_makeFolder a7.2 q1 x322 x323 x324) (fun (x326 : Int32) (M325 : Mem) => scI κ ((a7.1 + 1)) (fun (x327 : Int32) => scI κ ((a7.1 + 2)) (fun (x328 : Int32) => scI κ ((a7.1 + 3)) (fun (x329 : Int32) => rc M325 11 q4 (cl (m_X11_makeFolder M325 q4 x327 x328 x329) (fun (x331 : Int32) (M330 : Mem) => (if x326 = x331 then J1088_239 M330 else rtZ 0 M330))))))))))) else (if (x239 &&& 31) = 10 then scI κ ((a7.1 + 1)) (fun (x332 : Int32) => scI κ ((a7.1 + 2)) (fun (x333 : Int32) => scI κ ((a7.1 + 3)) (fun (x334 : Int32) => rc a7.2 10 q1 (cl (m_X10_put a7.2 q1 x332 x333 x334) (fun (x336 : Int32) (M335 : Mem) => scI κ ((a7.1 + 1)) (fun (x337 : Int32) => scI κ ((a7.1 + 2)) (fun (x338 : Int32) => scI κ ((a7.1 + 3)) (fun (x339 : Int32) => rc M335 11 q4 (cl (m_X11_put M335 q4 x337 x338 x339) (fun (x341 : Int32) (M340 : Mem) => (if x336 = x341 then J1088_239 M340 else rtZ 0 M340))))))))))) else (if (x239 &&& 31) = 11 then scI κ ((a7.1 + 1)) (fun (x342 : Int32) => scI κ ((a7.1 + 2)) (fun (x343 : Int32) => rc a7.2 10 q1 (cl (m_X10_inFolder a7.2 q1 x342 x343) (fun (x345 : Int32) (M344 : Mem) => scI κ ((a7.1 + 1)) (fun (x346 : Int32) => scI κ ((a7.1 + 2)) (fun (x347 : Int32) => rc M344 11 q4 (cl (m_X11_inFolder M344 q4 x346 x347) (fun (x349 : Int32) (M348 : Mem) => (if x345 = x349 then J1088_239 M348 else rtZ 0 M348))))))))) else (if (x239 &&& 31) = 12 then scI κ ((a7.1 + 1)) (fun (x350 : Int32) => rc a7.2 10 q1 (cl (m_X10_enter a7.2 q1 x350) (fun (x352 : Int32) (M351 : Mem) => scI κ ((a7.1 + 1)) (fun (x353 : Int32) => rc M351 11 q4 (cl (m_X11_enter M351 q4 x353) (fun (x355 : Int32) (M354 : Mem) => (if x352 = x355 then J1088_239 M354 else rtZ 0 M354))))))) else (if (x239 &&& 31) = 13 then scI κ ((a7.1 + 1)) (fun (x356 : Int32) => scI κ ((a7.1 + 2)) (fun (x357 : Int32) => scI κ ((a7.1 + 3)) (fun (x358 : Int32) => rc a7.2 10 q1 (cl (m_X10_give a7.2 q1 x356 x357 x358) (fun (x360 : Int32) (M359 : Mem) => scI κ ((a7.1 + 1)) (fun (x361 : Int32) => scI κ ((a7.1 + 2)) (fun (x362 : Int32) => scI κ ((a7.1 + 3)) (fun (x363 : Int32) => rc M359 11 q4 (cl (m_X11_give M359 q4 x361 x362 x363) (fun (x365 : Int32) (M364 : Mem) => (if x360 = x365 then J1088_239 M364 else rtZ 0 M364))))))))))) else (if (x239 &&& 31) = 14 then scI κ ((a7.1 + 1)) (fun (x366 : Int32) => rc a7.2 10 q1 (cl (m_X10_lose a7.2 q1 x366) (fun (x368 : Int32) (M367 : Mem) => scI κ ((a7.1 + 1)) (fun (x369 : Int32) => rc M367 11 q4 (cl (m_X11_lose M367 q4 x369) (fun (x371 : Int32) (M370 : Mem) => (if x368 = x371 then J1088_239 M370 else rtZ 0 M370))))))) else (if (x239 &&& 31) = 15 then scI κ ((a7.1 + 1)) (fun (x372 : Int32) => scI κ ((a7.1 + 2)) (fun (x373 : Int32) => rc a7.2 10 q1 (cl (m_X10_due a7.2 q1 x372 x373) (fun (x375 : Int32) (M374 : Mem) => scI κ ((a7.1 + 1)) (fun (x376 : Int32) => scI κ ((a7.1 + 2)) (fun (x377 : Int32) => rc M374 11 q4 (cl (m_X11_due M374 q4 x376 x377) (fun (x379 : Int32) (M378 : Mem) => (if x375 = x379 then J1088_239 M378 else rtZ 0 M378))))))))) else (if (x239 &&& 31) = 16 then scI κ ((a7.1 + 1)) (fun (x380 : Int32) => rc a7.2 10 q1 (cl (m_X10_pay a7.2 q1 x380) (fun (x382 : Int32) (M381 : Mem) => scI κ ((a7.1 + 1)) (fun (x383 : Int32) => rc M381 11 q4 (cl (m_X11_pay M381 q4 x383) (fun (x385 : Int32) (M384 : Mem) => (if x382 = x385 then J1088_239 M384 else rtZ 0 M384))))))) else (if (x239 &&& 31) = 17 then scI κ ((a7.1 + 1)) (fun (x386 : Int32) => rc a7.2 10 q1 (cl (m_X10_leave a7.2 q1 x386) (fun (x388 : Int32) (M387 : Mem) => scI κ ((a7.1 + 1)) (fun (x389 : Int32) => rc M387 11 q4 (cl (m_X11_leave M387 q4 x389) (fun (x391 : Int32) (M390 : Mem) => (if x388 = x391 then J1088_239 M390 else rtZ 0 M390))))))) else (if (x239 &&& 31) = 18 then scI κ ((a7.1 + 1)) (fun (x392 : Int32) => scI κ ((a7.1 + 2)) (fun (x393 : Int32) => rc a7.2 10 q1 (cl (m_X10_ticket a7.2 q1 x392 x393) (fun (x395 : Int32) (M394 : Mem) => scI κ ((a7.1 + 1)) (fun (x396 : Int32) => scI κ ((a7.1 + 2)) (fun (x397 : Int32) => rc M394 11 q4 (cl (m_X11_ticket M394 q4 x396 x397) (fun (x399 : Int32) (M398 : Mem) => (if x395 = x399 then J1088_239 M398 else rtZ 0 M398))))))))) else (if (x239 &&& 31) = 19 then scI κ ((a7.1 + 1)) (fun (x400 : Int32) => scI κ ((a7.1 + 2)) (fun (x401 : Int32) => rc a7.2 10 q1 (cl (m_X10_step a7.2 q1 x400 x401) (fun (x403 : Int32) (M402 : Mem) => scI κ ((a7.1 + 1)) (fun (x404 : Int32) => scI κ ((a7.1 + 2)) (fun (x405 : Int32) => rc M402 11 q4 (cl (m_X11_step M402 q4 x404 x405) (fun (x407 : Int32) (M406 : Mem) => (if x403 = x407 then J1088_239 M406 else rtZ 0 M406))))))))) else (if (x239 &&& 31) = 20 then scI κ ((a7.1 + 1)) (fun (x408 : Int32) => rc a7.2 10 q1 (cl (m_X10_advance a7.2 q1 x408) (fun (x410 : Int32) (M409 : Mem) => scI κ ((a7.1 + 1)) (fun (x411 : Int32) => rc M409 11 q4 (cl (m_X11_advance M409 q4 x411) (fun (x413 : Int32) (M412 : Mem) => (if x410 = x413 then J1088_239 M412 else rtZ 0 M412))))))) else (if (x239 &&& 31) = 21 then scI κ ((a7.1 + 1)) (fun (x414 : Int32) => scI κ ((a7.1 + 2)) (fun (x415 : Int32) => rc a7.2 10 q1 (cl (m_X10_setCapacity a7.2 q1 x414 x415) (fun (x417 : Int32) (M416 : Mem) => scI κ ((a7.1 + 1)) (fun (x418 : Int32) => scI κ ((a7.1 + 2)) (fun (x419 : Int32) => rc M416 11 q4 (cl (m_X11_setCapacity M416 q4 x418 x419) (fun (x421 : Int32) (M420 : Mem) => (if x417 = x421 then J1088_239 M420 else rtZ 0 M420))))))))) else (if (x239 &&& 31) = 22 then scI κ ((a7.1 + 1)) (fun (x422 : Int32) => scI κ ((a7.1 + 2)) (fun (x423 : Int32) => rc a7.2 10 q1 (cl (m_X10_level a7.2 q1 x422 x423) (fun (x425 : Int32) (M424 : Mem) => scI κ ((a7.1 + 1)) (fun (x426 : Int32) => scI κ ((a7.1 + 2)) (fun (x427 : Int32) => rc M424 11 q4 (cl (m_X11_level M424 q4 x426 x427) (fun (x429 : Int32) (M428 : Mem) => (if x425 = x429 then J1088_239 M428 else rtZ 0 M428))))))))) else (if (x239 &&& 31) = 23 then scI κ ((a7.1 + 1)) (fun (x430 : Int32) => scI κ ((a7.1 + 2)) (fun (x431 : Int32) => rc a7.2 10 q1 (cl (m_X10_forecast a7.2 q1 x430 x431) (fun (x433 : Int32) (M432 : Mem) => scI κ ((a7.1 + 1)) (fun (x434 : Int32) => scI κ ((a7.1 + 2)) (fun (x435 : Int32) => rc M432 11 q4 (cl (m_X11_forecast M432 q4 x434 x435) (fun (x437 : Int32) (M436 : Mem) => (if x433 = x437 then J1088_239 M436 else rtZ 0 M436))))))))) else (if (x239 &&& 31) = 24 then scI κ ((a7.1 + 1)) (fun (x438 : Int32) => rc a7.2 10 q1 (cl (m_X10_count a7.2 q1 x438) (fun (x440 : Int32) (M439 : Mem) => scI κ ((a7.1 + 1)) (fun (x441 : Int32) => rc M439 11 q4 (cl (m_X11_count M439 q4 x441) (fun (x443 : Int32) (M442 : Mem) => (if x440 = x443 then J1088_239 M442 else rtZ 0 M442))))))) else (if (x239 &&& 31) = 25 then rc a7.2 10 q1 (cl (m_X10_reportLevels a7.2 q1) (fun (x445 : Int32) (M444 : Mem) => rc M444 11 q4 (cl (m_X11_reportLevels M444 q4) (fun (x447 : Int32) (M446 : Mem) => (if x445 = x447 then J1088_239 M446 else rtZ 0 M446))))) else (if (x239 &&& 31) = 26 then scI κ ((a7.1 + 1)) (fun (x448 : Int32) => rc a7.2 10 q1 (cl (m_X10_reportCode a7.2 q1 x448) (fun (x450 : Int32) (M449 : Mem) => scI κ ((a7.1 + 1)) (fun (x451 : Int32) => rc M449 11 q4 (cl (m_X11_reportCode M449 q4 x451) (fun (x453 : Int32) (M452 : Mem) => (if x450 = x453 then J1088_239 M452 else rtZ 0 M452))))))) else (if (x239 &&& 31) = 27 then scI κ ((a7.1 + 1)) (fun (x454 : Int32) => rc a7.2 10 q1 (cl (m_X10_reportNumber a7.2 q1 x454) (fun (x456 : Int32) (M455 : Mem) => scI κ ((a7.1 + 1)) (fun (x457 : Int32) => rc M455 11 q4 (cl (m_X11_reportNumber M455 q4 x457) (fun (x459 : Int32) (M458 : Mem) => (if x456 = x459 then J1088_239 M458 else rtZ 0 M458))))))) else (if (x239 &&& 31) = 28 then rc a7.2 10 q1 (cl (m_X10_save a7.2 q1) (fun (x461 : Int32) (M460 : Mem) => rc M460 11 q4 (cl (m_X11_save M460 q4) (fun (x463 : Int32) (M462 : Mem) => (if x461 = x463 then J1088_239 M462 else rtZ 0 M462))))) else (if (x239 &&& 31) = 29 then rc a7.2 10 q1 (cl (m_X10_restore a7.2 q1) (fun (x465 : Int32) (M464 : Mem) => rc M464 11 q4 (cl (m_X11_restore M464 q4) (fun (x467 : Int32) (M466 : Mem) => (if x465 = x467 then J1088_239 M466 else rtZ 0 M466))))) else J1088_239 a7.2)))))))))))))))))))))))))))))))))) dL_law_20 (fun x238 => ?_)
  refine G_iconst (v := 5) dL_law_21 (by decide) ?_
  refine G_isub dL_law_22 ?_
  refine G_icmp_gt (tgt := 1094) dL_law_23 (by decide) ?_ ?_
  · refine G_iconst (v := 1) dL_law_1094 (by decide) ?_
    exact G_retZ dL_law_1095
  · refine G_aload_n dL_law_26 0 rfl rfl ?_
    refine G_iload_n dL_law_27 3 rfl rfl ?_
    refine G_sld dL_law_28 (fun x239 => ?_)
    refine G_bipush (v := 31) dL_law_29 (by decide) ?_
    refine G_iand dL_law_31 ?_
    refine G.jn (P := (fun (J : Mem → Option (Int32 × Mem)) => ∀ (M241 : Mem), G κ md_L_law cvI (J M241) 1088 [(0, rv κ (some 1000005)), (1, rv κ q1), (2, rv κ q4), (3, .int a7.1)] [] M241)) ?_ ?_
    · intro M241
      refine G_iinc (v := (a7.1 + 5)) (lv' := [(3, .int (a7.1 + 5)), (0, rv κ (some 1000005)), (1, rv κ q1), (2, rv κ q4)]) dL_law_1088 3 rfl (congrArg (fun z9 : Int32 => a7.1 + z9) (by decide : Int32.ofInt 5 = 5)) (Nat.le_of_ble_eq_true rfl) rfl ?_
      refine G_goto (tgt := 18) dL_law_1091 (by decide) ?_
      exact G.sub [1, 2, 3, 0] rfl (hL18_6 _)
    · intro J1088_239 hJ1088_239
      refine G.cond (fun hx32_0 => ?_) (fun hn32_0 => ?_)
      · refine G_tin (n := 0) (tgt := 168) dL_law_32 (by rw [hx32_0]; rfl) (by decide) (by decide) rfl (by decide) ?_
        refine G_aload_n dL_law_168 1 rfl rfl ?_
        refine G_aload_n dL_law_169 0 rfl rfl ?_
        refine G_iload_n dL_law_170 3 rfl rfl ?_
        refine G_iconst (v := 1) dL_law_171 (by decide) ?_
        refine G_iadd dL_law_172 ?_
        refine G_sld dL_law_173 (fun x242 => ?_)
        refine G_aload_n dL_law_174 0 rfl rfl ?_
        refine G_iload_n dL_law_175 3 rfl rfl ?_
        refine G_iconst (v := 2) dL_law_176 (by decide) ?_
        refine G_iadd dL_law_177 ?_
        refine G_sld dL_law_178 (fun x243 => ?_)
        refine G_callV cf_X10 ok_X10_append [.int x242, .int x243] [] (con_X10_append κ a7.2 q1 x242 x243) rfl w_315 w_316 w_317 (Nat.le_of_ble_eq_true rfl) (Nat.le_of_ble_eq_true rfl) dL_law_179 rfl (by simp) (fun x245 M244 => (show G _ _ _ _ _ _ [.int x245] _ from ?_))
        refine G_aload_n dL_law_182 2 rfl rfl ?_
        refine G_aload_n dL_law_183 0 rfl rfl ?_
        refine G_iload_n dL_law_184 3 rfl rfl ?_
        refine G_iconst (v := 1) dL_law_185 (by decide) ?_
        refine G_iadd dL_law_186 ?_
        refine G_sld dL_law_187 (fun x246 => ?_)
        refine G_aload_n dL_law_188 0 rfl rfl ?_
        refine G_iload_n dL_law_189 3 rfl rfl ?_
        refine G_iconst (v := 2) dL_law_190 (by decide) ?_
        refine G_iadd dL_law_191 ?_
        refine G_sld dL_law_192 (fun x247 => ?_)
        refine G_callV cf_X11 ok_X11_append [.int x246, .int x247] [.int x245] (con_X11_append κ M244 q4 x246 x247) rfl w_1040 w_1041 w_1042 (Nat.le_of_ble_eq_true rfl) (Nat.le_of_ble_eq_true rfl) dL_law_193 rfl (by simp) (fun x249 M248 => (show G _ _ _ _ _ _ [.int x249, .int x245] _ from ?_))
        refine G_icmp_eq (tgt := 1088) dL_law_196 (by decide) ?_ ?_
        · exact G.sub [0, 1, 2, 3] rfl (hJ1088_239 _)
        · refine G_iconst (v := 0) dL_law_199 (by decide) ?_
          exact G_retZ dL_law_200
      refine G.cond (fun hx32_1 => ?_) (fun hn32_1 => ?_)
      · refine G_tin (n := 1) (tgt := 201) dL_law_32 (by rw [hx32_1]; rfl) (by decide) (by decide) rfl (by decide) ?_
        refine G_aload_n dL_law_201 1 rfl rfl ?_
        refine G_aload_n dL_law_202 0 rfl rfl ?_
        refine G_iload_n dL_law_203 3 rfl rfl ?_
        refine G_iconst (v := 1) dL_law_204 (by decide) ?_
        refine G_iadd dL_law_205 ?_
        refine G_sld dL_law_206 (fun x250 => ?_)
        refine G_callV cf_X10 ok_X10_readPlan [.int x250] [] (con_X10_readPlan κ a7.2 q1 x250) rfl w_330 w_331 w_332 (Nat.le_of_ble_eq_true rfl) (Nat.le_of_ble_eq_true rfl) dL_law_207 rfl (by simp) (fun x252 M251 => (show G _ _ _ _ _ _ [.int x252] _ from ?_))
        refine G_aload_n dL_law_210 2 rfl rfl ?_
        refine G_aload_n dL_law_211 0 rfl rfl ?_
        refine G_iload_n dL_law_212 3 rfl rfl ?_
        refine G_iconst (v := 1) dL_law_213 (by decide) ?_
        refine G_iadd dL_law_214 ?_
        refine G_sld dL_law_215 (fun x253 => ?_)
        refine G_callV cf_X11 ok_X11_readPlan [.int x253] [.int x252] (con_X11_readPlan κ M251 q4 x253) rfl w_1044 w_1045 w_1046 (Nat.le_of_ble_eq_true rfl) (Nat.le_of_ble_eq_true rfl) dL_law_216 rfl (by simp) (fun x255 M254 => (show G _ _ _ _ _ _ [.int x255, .int x252] _ from ?_))
        refine G_icmp_eq (tgt := 1088) dL_law_219 (by decide) ?_ ?_
        · exact G.sub [0, 1, 2, 3] rfl (hJ1088_239 _)
        · refine G_iconst (v := 0) dL_law_222 (by decide) ?_
          exact G_retZ dL_law_223
      refine G.cond (fun hx32_2 => ?_) (fun hn32_2 => ?_)
      · refine G_tin (n := 2) (tgt := 224) dL_law_32 (by rw [hx32_2]; rfl) (by decide) (by decide) rfl (by decide) ?_
        refine G_aload_n dL_law_224 1 rfl rfl ?_
        refine G_aload_n dL_law_225 0 rfl rfl ?_
        refine G_iload_n dL_law_226 3 rfl rfl ?_
        refine G_iconst (v := 1) dL_law_227 (by decide) ?_
        refine G_iadd dL_law_228 ?_
        refine G_sld dL_law_229 (fun x256 => ?_)
        refine G_aload_n dL_law_230 0 rfl rfl ?_
        refine G_iload_n dL_law_231 3 rfl rfl ?_
        refine G_iconst (v := 2) dL_law_232 (by decide) ?_
        refine G_iadd dL_law_233 ?_
        refine G_sld dL_law_234 (fun x257 => ?_)
        refine G_callV cf_X10 ok_X10_plan [.int x256, .int x257] [] (con_X10_plan κ a7.2 q1 x256 x257) rfl w_474 w_475 w_476 (Nat.le_of_ble_eq_true rfl) (Nat.le_of_ble_eq_true rfl) dL_law_235 rfl (by simp) (fun x259 M258 => (show G _ _ _ _ _ _ [.int x259] _ from ?_))
        refine G_aload_n dL_law_238 2 rfl rfl ?_
        refine G_aload_n dL_law_239 0 rfl rfl ?_
        refine G_iload_n dL_law_240 3 rfl rfl ?_
        refine G_iconst (v := 1) dL_law_241 (by decide) ?_
        refine G_iadd dL_law_242 ?_
        refine G_sld dL_law_243 (fun x260 => ?_)
        refine G_aload_n dL_law_244 0 rfl rfl ?_
        refine G_iload_n dL_law_245 3 rfl rfl ?_
        refine G_iconst (v := 2) dL_law_246 (by decide) ?_
        refine G_iadd dL_law_247 ?_
        refine G_sld dL_law_248 (fun x261 => ?_)
        refine G_callV cf_X11 ok_X11_plan [.int x260, .int x261] [.int x259] (con_X11_plan κ M258 q4 x260 x261) rfl w_1092 w_1093 w_1094 (Nat.le_of_ble_eq_true rfl) (Nat.le_of_ble_eq_true rfl) dL_law_249 rfl (by simp) (fun x263 M262 => (show G _ _ _ _ _ _ [.int x263, .int x259] _ from ?_))
        refine G_icmp_eq (tgt := 1088) dL_law_252 (by decide) ?_ ?_
        · exact G.sub [0, 1, 2, 3] rfl (hJ1088_239 _)
        · refine G_iconst (v := 0) dL_law_255 (by decide) ?_
          exact G_retZ dL_law_256
      refine G.cond (fun hx32_3 => ?_) (fun hn32_3 => ?_)
      · refine G_tin (n := 3) (tgt := 257) dL_law_32 (by rw [hx32_3]; rfl) (by decide) (by decide) rfl (by decide) ?_
        refine G_aload_n dL_law_257 1 rfl rfl ?_
        refine G_aload_n dL_law_258 0 rfl rfl ?_
        refine G_iload_n dL_law_259 3 rfl rfl ?_
        refine G_iconst (v := 1) dL_law_260 (by decide) ?_
        refine G_iadd dL_law_261 ?_
        refine G_sld dL_law_262 (fun x264 => ?_)
        refine G_aload_n dL_law_263 0 rfl rfl ?_
        refine G_iload_n dL_law_264 3 rfl rfl ?_
        refine G_iconst (v := 2) dL_law_265 (by decide) ?_
        refine G_iadd dL_law_266 ?_
        refine G_sld dL_law_267 (fun x265 => ?_)
        refine G_aload_n dL_law_268 0 rfl rfl ?_
        refine G_iload_n dL_law_269 3 rfl rfl ?_
        refine G_iconst (v := 3) dL_law_270 (by decide) ?_
        refine G_iadd dL_law_271 ?_
        refine G_sld dL_law_272 (fun x266 => ?_)
        refine G_callV cf_X10 ok_X10_band [.int x264, .int x265, .int x266] [] (con_X10_band κ a7.2 q1 x264 x265 x266) rfl w_482 w_483 w_484 (Nat.le_of_ble_eq_true rfl) (Nat.le_of_ble_eq_true rfl) dL_law_273 rfl (by simp) (fun x268 M267 => (show G _ _ _ _ _ _ [.int x268] _ from ?_))
        refine G_aload_n dL_law_276 2 rfl rfl ?_
        refine G_aload_n dL_law_277 0 rfl rfl ?_
        refine G_iload_n dL_law_278 3 rfl rfl ?_
        refine G_iconst (v := 1) dL_law_279 (by decide) ?_
        refine G_iadd dL_law_280 ?_
        refine G_sld dL_law_281 (fun x269 => ?_)
        refine G_aload_n dL_law_282 0 rfl rfl ?_
        refine G_iload_n dL_law_283 3 rfl rfl ?_
        refine G_iconst (v := 2) dL_law_284 (by decide) ?_
        refine G_iadd dL_law_285 ?_
        refine G_sld dL_law_286 (fun x270 => ?_)
        refine G_aload_n dL_law_287 0 rfl rfl ?_
        refine G_iload_n dL_law_288 3 rfl rfl ?_
        refine G_iconst (v := 3) dL_law_289 (by decide) ?_
        refine G_iadd dL_law_290 ?_
        refine G_sld dL_law_291 (fun x271 => ?_)
        refine G_callV cf_X11 ok_X11_band_ [.int x269, .int x270, .int x271] [.int x268] (con_X11_band_ κ M267 q4 x269 x270 x271) rfl w_1096 w_1097 w_1098 (Nat.le_of_ble_eq_true rfl) (Nat.le_of_ble_eq_true rfl) dL_law_292 rfl (by simp) (fun x273 M272 => (show G _ _ _ _ _ _ [.int x273, .int x268] _ from ?_))
        refine G_icmp_eq (tgt := 1088) dL_law_295 (by decide) ?_ ?_
        · exact G.sub [0, 1, 2, 3] rfl (hJ1088_239 _)
        · refine G_iconst (v := 0) dL_law_298 (by decide) ?_
          exact G_retZ dL_law_299
      refine G.cond (fun hx32_4 => ?_) (fun hn32_4 => ?_)
      · refine G_tin (n := 4) (tgt := 300) dL_law_32 (by rw [hx32_4]; rfl) (by decide) (by decide) rfl (by decide) ?_
        refine G_aload_n dL_law_300 1 rfl rfl ?_
        refine G_aload_n dL_law_301 0 rfl rfl ?_
        refine G_iload_n dL_law_302 3 rfl rfl ?_
        refine G_iconst (v := 1) dL_law_303 (by decide) ?_
        refine G_iadd dL_law_304 ?_
        refine G_sld dL_law_305 (fun x274 => ?_)
        refine G_aload_n dL_law_306 0 rfl rfl ?_
        refine G_iload_n dL_law_307 3 rfl rfl ?_
        refine G_iconst (v := 2) dL_law_308 (by decide) ?_
        refine G_iadd dL_law_309 ?_
        refine G_sld dL_law_310 (fun x275 => ?_)
        refine G_aload_n dL_law_311 0 rfl rfl ?_
        refine G_iload_n dL_law_312 3 rfl rfl ?_
        refine G_iconst (v := 3) dL_law_313 (by decide) ?_
        refine G_iadd dL_law_314 ?_
        refine G_sld dL_law_315 (fun x276 => ?_)
        refine G_callV cf_X10 ok_X10_fee [.int x274, .int x275, .int x276] [] (con_X10_fee κ a7.2 q1 x274 x275 x276) rfl w_491 w_492 w_493 (Nat.le_of_ble_eq_true rfl) (Nat.le_of_ble_eq_true rfl) dL_law_316 rfl (by simp) (fun x278 M277 => (show G _ _ _ _ _ _ [.int x278] _ from ?_))
        refine G_aload_n dL_law_319 2 rfl rfl ?_
        refine G_aload_n dL_law_320 0 rfl rfl ?_
        refine G_iload_n dL_law_321 3 rfl rfl ?_
        refine G_iconst (v := 1) dL_law_322 (by decide) ?_
        refine G_iadd dL_law_323 ?_
        refine G_sld dL_law_324 (fun x279 => ?_)
        refine G_aload_n dL_law_325 0 rfl rfl ?_
        refine G_iload_n dL_law_326 3 rfl rfl ?_
        refine G_iconst (v := 2) dL_law_327 (by decide) ?_
        refine G_iadd dL_law_328 ?_
        refine G_sld dL_law_329 (fun x280 => ?_)
        refine G_aload_n dL_law_330 0 rfl rfl ?_
        refine G_iload_n dL_law_331 3 rfl rfl ?_
        refine G_iconst (v := 3) dL_law_332 (by decide) ?_
        refine G_iadd dL_law_333 ?_
        refine G_sld dL_law_334 (fun x281 => ?_)
        refine G_callV cf_X11 ok_X11_fee [.int x279, .int x280, .int x281] [.int x278] (con_X11_fee κ M277 q4 x279 x280 x281) rfl w_982 w_983 w_984 (Nat.le_of_ble_eq_true rfl) (Nat.le_of_ble_eq_true rfl) dL_law_335 rfl (by simp) (fun x283 M282 => (show G _ _ _ _ _ _ [.int x283, .int x278] _ from ?_))
        refine G_icmp_eq (tgt := 1088) dL_law_338 (by decide) ?_ ?_
        · exact G.sub [0, 1, 2, 3] rfl (hJ1088_239 _)
        · refine G_iconst (v := 0) dL_law_341 (by decide) ?_
          exact G_retZ dL_law_342
      refine G.cond (fun hx32_5 => ?_) (fun hn32_5 => ?_)
      · refine G_tin (n := 5) (tgt := 343) dL_law_32 (by rw [hx32_5]; rfl) (by decide) (by decide) rfl (by decide) ?_
        refine G_aload_n dL_law_343 1 rfl rfl ?_
        refine G_aload_n dL_law_344 0 rfl rfl ?_
        refine G_iload_n dL_law_345 3 rfl rfl ?_
        refine G_iconst (v := 1) dL_law_346 (by decide) ?_
        refine G_iadd dL_law_347 ?_
        refine G_sld dL_law_348 (fun x284 => ?_)
        refine G_aload_n dL_law_349 0 rfl rfl ?_
        refine G_iload_n dL_law_350 3 rfl rfl ?_
        refine G_iconst (v := 2) dL_law_351 (by decide) ?_
        refine G_iadd dL_law_352 ?_
        refine G_sld dL_law_353 (fun x285 => ?_)
        refine G_aload_n dL_law_354 0 rfl rfl ?_
        refine G_iload_n dL_law_355 3 rfl rfl ?_
        refine G_iconst (v := 3) dL_law_356 (by decide) ?_
        refine G_iadd dL_law_357 ?_
        refine G_sld dL_law_358 (fun x286 => ?_)
        refine G_aload_n dL_law_359 0 rfl rfl ?_
        refine G_iload_n dL_law_360 3 rfl rfl ?_
        refine G_iconst (v := 4) dL_law_361 (by decide) ?_
        refine G_iadd dL_law_362 ?_
        refine G_sld dL_law_363 (fun x287 => ?_)
        refine G_callV cf_X10 ok_X10_unit [.int x284, .int x285, .int x286, .int x287] [] (con_X10_unit κ a7.2 q1 x284 x285 x286 x287) rfl w_552 w_553 w_554 (Nat.le_of_ble_eq_true rfl) (Nat.le_of_ble_eq_true rfl) dL_law_364 rfl (by simp) (fun x289 M288 => (show G _ _ _ _ _ _ [.int x289] _ from ?_))
        refine G_aload_n dL_law_367 2 rfl rfl ?_
        refine G_aload_n dL_law_368 0 rfl rfl ?_
        refine G_iload_n dL_law_369 3 rfl rfl ?_
        refine G_iconst (v := 1) dL_law_370 (by decide) ?_
        refine G_iadd dL_law_371 ?_
        refine G_sld dL_law_372 (fun x290 => ?_)
        refine G_aload_n dL_law_373 0 rfl rfl ?_
        refine G_iload_n dL_law_374 3 rfl rfl ?_
        refine G_iconst (v := 2) dL_law_375 (by decide) ?_
        refine G_iadd dL_law_376 ?_
        refine G_sld dL_law_377 (fun x291 => ?_)
        refine G_aload_n dL_law_378 0 rfl rfl ?_
        refine G_iload_n dL_law_379 3 rfl rfl ?_
        refine G_iconst (v := 3) dL_law_380 (by decide) ?_
        refine G_iadd dL_law_381 ?_
        refine G_sld dL_law_382 (fun x292 => ?_)
        refine G_aload_n dL_law_383 0 rfl rfl ?_
        refine G_iload_n dL_law_384 3 rfl rfl ?_
        refine G_iconst (v := 4) dL_law_385 (by decide) ?_
        refine G_iadd dL_law_386 ?_
        refine G_sld dL_law_387 (fun x293 => ?_)
        refine G_callV cf_X11 ok_X11_unit [.int x290, .int x291, .int x292, .int x293] [.int x289] (con_X11_unit κ M288 q4 x290 x291 x292 x293) rfl w_1032 w_1033 w_1034 (Nat.le_of_ble_eq_true rfl) (Nat.le_of_ble_eq_true rfl) dL_law_388 rfl (by simp) (fun x295 M294 => (show G _ _ _ _ _ _ [.int x295, .int x289] _ from ?_))
        refine G_icmp_eq (tgt := 1088) dL_law_391 (by decide) ?_ ?_
        · exact G.sub [0, 1, 2, 3] rfl (hJ1088_239 _)
        · refine G_iconst (v := 0) dL_law_394 (by decide) ?_
          exact G_retZ dL_law_395
      refine G.cond (fun hx32_6 => ?_) (fun hn32_6 => ?_)
      · refine G_tin (n := 6) (tgt := 396) dL_law_32 (by rw [hx32_6]; rfl) (by decide) (by decide) rfl (by decide) ?_
        refine G_aload_n dL_law_396 1 rfl rfl ?_
        refine G_aload_n dL_law_397 0 rfl rfl ?_
        refine G_iload_n dL_law_398 3 rfl rfl ?_
        refine G_iconst (v := 1) dL_law_399 (by decide) ?_
        refine G_iadd dL_law_400 ?_
        refine G_sld dL_law_401 (fun x296 => ?_)
        refine G_aload_n dL_law_402 0 rfl rfl ?_
        refine G_iload_n dL_law_403 3 rfl rfl ?_
        refine G_iconst (v := 2) dL_law_404 (by decide) ?_
        refine G_iadd dL_law_405 ?_
        refine G_sld dL_law_406 (fun x297 => ?_)
        refine G_aload_n dL_law_407 0 rfl rfl ?_
        refine G_iload_n dL_law_408 3 rfl rfl ?_
        refine G_iconst (v := 3) dL_law_409 (by decide) ?_
        refine G_iadd dL_law_410 ?_
        refine G_sld dL_law_411 (fun x298 => ?_)
        refine G_callV cf_X10 ok_X10_extend [.int x296, .int x297, .int x298] [] (con_X10_extend κ a7.2 q1 x296 x297 x298) rfl w_562 w_563 w_564 (Nat.le_of_ble_eq_true rfl) (Nat.le_of_ble_eq_true rfl) dL_law_412 rfl (by simp) (fun x300 M299 => (show G _ _ _ _ _ _ [.int x300] _ from ?_))
        refine G_aload_n dL_law_415 2 rfl rfl ?_
        refine G_aload_n dL_law_416 0 rfl rfl ?_
        refine G_iload_n dL_law_417 3 rfl rfl ?_
        refine G_iconst (v := 1) dL_law_418 (by decide) ?_
        refine G_iadd dL_law_419 ?_
        refine G_sld dL_law_420 (fun x301 => ?_)
        refine G_aload_n dL_law_421 0 rfl rfl ?_
        refine G_iload_n dL_law_422 3 rfl rfl ?_
        refine G_iconst (v := 2) dL_law_423 (by decide) ?_
        refine G_iadd dL_law_424 ?_
        refine G_sld dL_law_425 (fun x302 => ?_)
        refine G_aload_n dL_law_426 0 rfl rfl ?_
        refine G_iload_n dL_law_427 3 rfl rfl ?_
        refine G_iconst (v := 3) dL_law_428 (by decide) ?_
        refine G_iadd dL_law_429 ?_
        refine G_sld dL_law_430 (fun x303 => ?_)
        refine G_callV cf_X11 ok_X11_extend [.int x301, .int x302, .int x303] [.int x300] (con_X11_extend κ M299 q4 x301 x302 x303) rfl w_1036 w_1037 w_1038 (Nat.le_of_ble_eq_true rfl) (Nat.le_of_ble_eq_true rfl) dL_law_431 rfl (by simp) (fun x305 M304 => (show G _ _ _ _ _ _ [.int x305, .int x300] _ from ?_))
        refine G_icmp_eq (tgt := 1088) dL_law_434 (by decide) ?_ ?_
        · exact G.sub [0, 1, 2, 3] rfl (hJ1088_239 _)
        · refine G_iconst (v := 0) dL_law_437 (by decide) ?_
          exact G_retZ dL_law_438
      refine G.cond (fun hx32_7 => ?_) (fun hn32_7 => ?_)
      · refine G_tin (n := 7) (tgt := 439) dL_law_32 (by rw [hx32_7]; rfl) (by decide) (by decide) rfl (by decide) ?_
        refine G_aload_n dL_law_439 1 rfl rfl ?_
        refine G_aload_n dL_law_440 0 rfl rfl ?_
        refine G_iload_n dL_law_441 3 rfl rfl ?_
        refine G_iconst (v := 1) dL_law_442 (by decide) ?_
        refine G_iadd dL_law_443 ?_
        refine G_sld dL_law_444 (fun x306 => ?_)
        refine G_aload_n dL_law_445 0 rfl rfl ?_
        refine G_iload_n dL_law_446 3 rfl rfl ?_
        refine G_iconst (v := 2) dL_law_447 (by decide) ?_
        refine G_iadd dL_law_448 ?_
        refine G_sld dL_law_449 (fun x307 => ?_)
        refine G_callV cf_X10 ok_X10_addVoucher [.int x306, .int x307] [] (con_X10_addVoucher κ a7.2 q1 x306 x307) rfl w_575 w_576 w_577 (Nat.le_of_ble_eq_true rfl) (Nat.le_of_ble_eq_true rfl) dL_law_450 rfl (by simp) (fun x309 M308 => (show G _ _ _ _ _ _ [.int x309] _ from ?_))
        refine G_aload_n dL_law_453 2 rfl rfl ?_
        refine G_aload_n dL_law_454 0 rfl rfl ?_
        refine G_iload_n dL_law_455 3 rfl rfl ?_
        refine G_iconst (v := 1) dL_law_456 (by decide) ?_
        refine G_iadd dL_law_457 ?_
        refine G_sld dL_law_458 (fun x310 => ?_)
        refine G_aload_n dL_law_459 0 rfl rfl ?_
        refine G_iload_n dL_law_460 3 rfl rfl ?_
        refine G_iconst (v := 2) dL_law_461 (by decide) ?_
        refine G_iadd dL_law_462 ?_
        refine G_sld dL_law_463 (fun x311 => ?_)
        refine G_callV cf_X11 ok_X11_addVoucher [.int x310, .int x311] [.int x309] (con_X11_addVoucher κ M308 q4 x310 x311) rfl w_1100 w_1101 w_1102 (Nat.le_of_ble_eq_true rfl) (Nat.le_of_ble_eq_true rfl) dL_law_464 rfl (by simp) (fun x313 M312 => (show G _ _ _ _ _ _ [.int x313, .int x309] _ from ?_))
        refine G_icmp_eq (tgt := 1088) dL_law_467 (by decide) ?_ ?_
        · exact G.sub [0, 1, 2, 3] rfl (hJ1088_239 _)
        · refine G_iconst (v := 0) dL_law_470 (by decide) ?_
          exact G_retZ dL_law_471
      refine G.cond (fun hx32_8 => ?_) (fun hn32_8 => ?_)
      · refine G_tin (n := 8) (tgt := 472) dL_law_32 (by rw [hx32_8]; rfl) (by decide) (by decide) rfl (by decide) ?_
        refine G_aload_n dL_law_472 1 rfl rfl ?_
        refine G_aload_n dL_law_473 0 rfl rfl ?_
        refine G_iload_n dL_law_474 3 rfl rfl ?_
        refine G_iconst (v := 1) dL_law_475 (by decide) ?_
        refine G_iadd dL_law_476 ?_
        refine G_sld dL_law_477 (fun x314 => ?_)
        refine G_aload_n dL_law_478 0 rfl rfl ?_
        refine G_iload_n dL_law_479 3 rfl rfl ?_
        refine G_iconst (v := 2) dL_law_480 (by decide) ?_
        refine G_iadd dL_law_481 ?_
        refine G_sld dL_law_482 (fun x315 => ?_)
        refine G_callV cf_X10 ok_X10_voucher [.int x314, .int x315] [] (con_X10_voucher κ a7.2 q1 x314 x315) rfl w_587 w_588 w_589 (Nat.le_of_ble_eq_true rfl) (Nat.le_of_ble_eq_true rfl) dL_law_483 rfl (by simp) (fun x317 M316 => (show G _ _ _ _ _ _ [.int x317] _ from ?_))
        refine G_aload_n dL_law_486 2 rfl rfl ?_
        refine G_aload_n dL_law_487 0 rfl rfl ?_
        refine G_iload_n dL_law_488 3 rfl rfl ?_
        refine G_iconst (v := 1) dL_law_489 (by decide) ?_
        refine G_iadd dL_law_490 ?_
        refine G_sld dL_law_491 (fun x318 => ?_)
        refine G_aload_n dL_law_492 0 rfl rfl ?_
        refine G_iload_n dL_law_493 3 rfl rfl ?_
        refine G_iconst (v := 2) dL_law_494 (by decide) ?_
        refine G_iadd dL_law_495 ?_
        refine G_sld dL_law_496 (fun x319 => ?_)
        refine G_callV cf_X11 ok_X11_voucher [.int x318, .int x319] [.int x317] (con_X11_voucher κ M316 q4 x318 x319) rfl w_1104 w_1105 w_1106 (Nat.le_of_ble_eq_true rfl) (Nat.le_of_ble_eq_true rfl) dL_law_497 rfl (by simp) (fun x321 M320 => (show G _ _ _ _ _ _ [.int x321, .int x317] _ from ?_))
        refine G_icmp_eq (tgt := 1088) dL_law_500 (by decide) ?_ ?_
        · exact G.sub [0, 1, 2, 3] rfl (hJ1088_239 _)
        · refine G_iconst (v := 0) dL_law_503 (by decide) ?_
          exact G_retZ dL_law_504
      refine G.cond (fun hx32_9 => ?_) (fun hn32_9 => ?_)
      · refine G_tin (n := 9) (tgt := 505) dL_law_32 (by rw [hx32_9]; rfl) (by decide) (by decide) rfl (by decide) ?_
        refine G_aload_n dL_law_505 1 rfl rfl ?_
        refine G_aload_n dL_law_506 0 rfl rfl ?_
        refine G_iload_n dL_law_507 3 rfl rfl ?_
        refine G_iconst (v := 1) dL_law_508 (by decide) ?_
        refine G_iadd dL_law_509 ?_
        refine G_sld dL_law_510 (fun x322 => ?_)
        refine G_aload_n dL_law_511 0 rfl rfl ?_
        refine G_iload_n dL_law_512 3 rfl rfl ?_
        refine G_iconst (v := 2) dL_law_513 (by decide) ?_
        refine G_iadd dL_law_514 ?_
        refine G_sld dL_law_515 (fun x323 => ?_)
        refine G_aload_n dL_law_516 0 rfl rfl ?_
        refine G_iload_n dL_law_517 3 rfl rfl ?_
        refine G_iconst (v := 3) dL_law_518 (by decide) ?_
        refine G_iadd dL_law_519 ?_
        refine G_sld dL_law_520 (fun x324 => ?_)
        refine G_callV cf_X10 ok_X10_makeFolder [.int x322, .int x323, .int x324] [] (con_X10_makeFolder κ a7.2 q1 x322 x323 x324) rfl w_599 w_600 w_601 (Nat.le_of_ble_eq_true rfl) (Nat.le_of_ble_eq_true rfl) dL_law_521 rfl (by simp) (fun x326 M325 => (show G _ _ _ _ _ _ [.int x326] _ from ?_))
        refine G_aload_n dL_law_524 2 rfl rfl ?_
        refine G_aload_n dL_law_525 0 rfl rfl ?_
        refine G_iload_n dL_law_526 3 rfl rfl ?_
        refine G_iconst (v := 1) dL_law_527 (by decide) ?_
        refine G_iadd dL_law_528 ?_
        refine G_sld dL_law_529 (fun x327 => ?_)
        refine G_aload_n dL_law_530 0 rfl rfl ?_
        refine G_iload_n dL_law_531 3 rfl rfl ?_
        refine G_iconst (v := 2) dL_law_532 (by decide) ?_
        refine G_iadd dL_law_533 ?_
        refine G_sld dL_law_534 (fun x328 => ?_)
        refine G_aload_n dL_law_535 0 rfl rfl ?_
        refine G_iload_n dL_law_536 3 rfl rfl ?_
        refine G_iconst (v := 3) dL_law_537 (by decide) ?_
        refine G_iadd dL_law_538 ?_
        refine G_sld dL_law_539 (fun x329 => ?_)
        refine G_callV cf_X11 ok_X11_makeFolder [.int x327, .int x328, .int x329] [.int x326] (con_X11_makeFolder κ M325 q4 x327 x328 x329) rfl w_1112 w_1113 w_1114 (Nat.le_of_ble_eq_true rfl) (Nat.le_of_ble_eq_true rfl) dL_law_540 rfl (by simp) (fun x331 M330 => (show G _ _ _ _ _ _ [.int x331, .int x326] _ from ?_))
        refine G_icmp_eq (tgt := 1088) dL_law_543 (by decide) ?_ ?_
        · exact G.sub [0, 1, 2, 3] rfl (hJ1088_239 _)
        · refine G_iconst (v := 0) dL_law_546 (by decide) ?_
          exact G_retZ dL_law_547
      refine G.cond (fun hx32_10 => ?_) (fun hn32_10 => ?_)
      · refine G_tin (n := 10) (tgt := 548) dL_law_32 (by rw [hx32_10]; rfl) (by decide) (by decide) rfl (by decide) ?_
        refine G_aload_n dL_law_548 1 rfl rfl ?_
        refine G_aload_n dL_law_549 0 rfl rfl ?_
        refine G_iload_n dL_law_550 3 rfl rfl ?_
        refine G_iconst (v := 1) dL_law_551 (by decide) ?_
        refine G_iadd dL_law_552 ?_
        refine G_sld dL_law_553 (fun x332 => ?_)
        refine G_aload_n dL_law_554 0 rfl rfl ?_
        refine G_iload_n dL_law_555 3 rfl rfl ?_
        refine G_iconst (v := 2) dL_law_556 (by decide) ?_
        refine G_iadd dL_law_557 ?_
        refine G_sld dL_law_558 (fun x333 => ?_)
        refine G_aload_n dL_law_559 0 rfl rfl ?_
        refine G_iload_n dL_law_560 3 rfl rfl ?_
        refine G_iconst (v := 3) dL_law_561 (by decide) ?_
        refine G_iadd dL_law_562 ?_
        refine G_sld dL_law_563 (fun x334 => ?_)
        refine G_callV cf_X10 ok_X10_put [.int x332, .int x333, .int x334] [] (con_X10_put κ a7.2 q1 x332 x333 x334) rfl w_607 w_608 w_609 (Nat.le_of_ble_eq_true rfl) (Nat.le_of_ble_eq_true rfl) dL_law_564 rfl (by simp) (fun x336 M335 => (show G _ _ _ _ _ _ [.int x336] _ from ?_))
        refine G_aload_n dL_law_567 2 rfl rfl ?_
        refine G_aload_n dL_law_568 0 rfl rfl ?_
        refine G_iload_n dL_law_569 3 rfl rfl ?_
        refine G_iconst (v := 1) dL_law_570 (by decide) ?_
        refine G_iadd dL_law_571 ?_
        refine G_sld dL_law_572 (fun x337 => ?_)
        refine G_aload_n dL_law_573 0 rfl rfl ?_
        refine G_iload_n dL_law_574 3 rfl rfl ?_
        refine G_iconst (v := 2) dL_law_575 (by decide) ?_
        refine G_iadd dL_law_576 ?_
        refine G_sld dL_law_577 (fun x338 => ?_)
        refine G_aload_n dL_law_578 0 rfl rfl ?_
        refine G_iload_n dL_law_579 3 rfl rfl ?_
        refine G_iconst (v := 3) dL_law_580 (by decide) ?_
        refine G_iadd dL_law_581 ?_
        refine G_sld dL_law_582 (fun x339 => ?_)
        refine G_callV cf_X11 ok_X11_put [.int x337, .int x338, .int x339] [.int x336] (con_X11_put κ M335 q4 x337 x338 x339) rfl w_1116 w_1117 w_1118 (Nat.le_of_ble_eq_true rfl) (Nat.le_of_ble_eq_true rfl) dL_law_583 rfl (by simp) (fun x341 M340 => (show G _ _ _ _ _ _ [.int x341, .int x336] _ from ?_))
        refine G_icmp_eq (tgt := 1088) dL_law_586 (by decide) ?_ ?_
        · exact G.sub [0, 1, 2, 3] rfl (hJ1088_239 _)
        · refine G_iconst (v := 0) dL_law_589 (by decide) ?_
          exact G_retZ dL_law_590
      refine G.cond (fun hx32_11 => ?_) (fun hn32_11 => ?_)
      · refine G_tin (n := 11) (tgt := 591) dL_law_32 (by rw [hx32_11]; rfl) (by decide) (by decide) rfl (by decide) ?_
        refine G_aload_n dL_law_591 1 rfl rfl ?_
        refine G_aload_n dL_law_592 0 rfl rfl ?_
        refine G_iload_n dL_law_593 3 rfl rfl ?_
        refine G_iconst (v := 1) dL_law_594 (by decide) ?_
        refine G_iadd dL_law_595 ?_
        refine G_sld dL_law_596 (fun x342 => ?_)
        refine G_aload_n dL_law_597 0 rfl rfl ?_
        refine G_iload_n dL_law_598 3 rfl rfl ?_
        refine G_iconst (v := 2) dL_law_599 (by decide) ?_
        refine G_iadd dL_law_600 ?_
        refine G_sld dL_law_601 (fun x343 => ?_)
        refine G_callV cf_X10 ok_X10_inFolder [.int x342, .int x343] [] (con_X10_inFolder κ a7.2 q1 x342 x343) rfl w_637 w_638 w_639 (Nat.le_of_ble_eq_true rfl) (Nat.le_of_ble_eq_true rfl) dL_law_602 rfl (by simp) (fun x345 M344 => (show G _ _ _ _ _ _ [.int x345] _ from ?_))
        refine G_aload_n dL_law_605 2 rfl rfl ?_
        refine G_aload_n dL_law_606 0 rfl rfl ?_
        refine G_iload_n dL_law_607 3 rfl rfl ?_
        refine G_iconst (v := 1) dL_law_608 (by decide) ?_
        refine G_iadd dL_law_609 ?_
        refine G_sld dL_law_610 (fun x346 => ?_)
        refine G_aload_n dL_law_611 0 rfl rfl ?_
        refine G_iload_n dL_law_612 3 rfl rfl ?_
        refine G_iconst (v := 2) dL_law_613 (by decide) ?_
        refine G_iadd dL_law_614 ?_
        refine G_sld dL_law_615 (fun x347 => ?_)
        refine G_callV cf_X11 ok_X11_inFolder [.int x346, .int x347] [.int x345] (con_X11_inFolder κ M344 q4 x346 x347) rfl w_1128 w_1129 w_1130 (Nat.le_of_ble_eq_true rfl) (Nat.le_of_ble_eq_true rfl) dL_law_616 rfl (by simp) (fun x349 M348 => (show G _ _ _ _ _ _ [.int x349, .int x345] _ from ?_))
        refine G_icmp_eq (tgt := 1088) dL_law_619 (by decide) ?_ ?_
        · exact G.sub [0, 1, 2, 3] rfl (hJ1088_239 _)
        · refine G_iconst (v := 0) dL_law_622 (by decide) ?_
          exact G_retZ dL_law_623
      refine G.cond (fun hx32_12 => ?_) (fun hn32_12 => ?_)
      · refine G_tin (n := 12) (tgt := 624) dL_law_32 (by rw [hx32_12]; rfl) (by decide) (by decide) rfl (by decide) ?_
        refine G_aload_n dL_law_624 1 rfl rfl ?_
        refine G_aload_n dL_law_625 0 rfl rfl ?_
        refine G_iload_n dL_law_626 3 rfl rfl ?_
        refine G_iconst (v := 1) dL_law_627 (by decide) ?_
        refine G_iadd dL_law_628 ?_
        refine G_sld dL_law_629 (fun x350 => ?_)
        refine G_callV cf_X10 ok_X10_enter [.int x350] [] (con_X10_enter κ a7.2 q1 x350) rfl w_650 w_651 w_652 (Nat.le_of_ble_eq_true rfl) (Nat.le_of_ble_eq_true rfl) dL_law_630 rfl (by simp) (fun x352 M351 => (show G _ _ _ _ _ _ [.int x352] _ from ?_))
        refine G_aload_n dL_law_633 2 rfl rfl ?_
        refine G_aload_n dL_law_634 0 rfl rfl ?_
        refine G_iload_n dL_law_635 3 rfl rfl ?_
        refine G_iconst (v := 1) dL_law_636 (by decide) ?_
        refine G_iadd dL_law_637 ?_
        refine G_sld dL_law_638 (fun x353 => ?_)
        refine G_callV cf_X11 ok_X11_enter [.int x353] [.int x352] (con_X11_enter κ M351 q4 x353) rfl w_1164 w_1165 w_1166 (Nat.le_of_ble_eq_true rfl) (Nat.le_of_ble_eq_true rfl) dL_law_639 rfl (by simp) (fun x355 M354 => (show G _ _ _ _ _ _ [.int x355, .int x352] _ from ?_))
        refine G_icmp_eq (tgt := 1088) dL_law_642 (by decide) ?_ ?_
        · exact G.sub [0, 1, 2, 3] rfl (hJ1088_239 _)
        · refine G_iconst (v := 0) dL_law_645 (by decide) ?_
          exact G_retZ dL_law_646
      refine G.cond (fun hx32_13 => ?_) (fun hn32_13 => ?_)
      · refine G_tin (n := 13) (tgt := 647) dL_law_32 (by rw [hx32_13]; rfl) (by decide) (by decide) rfl (by decide) ?_
        refine G_aload_n dL_law_647 1 rfl rfl ?_
        refine G_aload_n dL_law_648 0 rfl rfl ?_
        refine G_iload_n dL_law_649 3 rfl rfl ?_
        refine G_iconst (v := 1) dL_law_650 (by decide) ?_
        refine G_iadd dL_law_651 ?_
        refine G_sld dL_law_652 (fun x356 => ?_)
        refine G_aload_n dL_law_653 0 rfl rfl ?_
        refine G_iload_n dL_law_654 3 rfl rfl ?_
        refine G_iconst (v := 2) dL_law_655 (by decide) ?_
        refine G_iadd dL_law_656 ?_
        refine G_sld dL_law_657 (fun x357 => ?_)
        refine G_aload_n dL_law_658 0 rfl rfl ?_
        refine G_iload_n dL_law_659 3 rfl rfl ?_
        refine G_iconst (v := 3) dL_law_660 (by decide) ?_
        refine G_iadd dL_law_661 ?_
        refine G_sld dL_law_662 (fun x358 => ?_)
        refine G_callV cf_X10 ok_X10_give [.int x356, .int x357, .int x358] [] (con_X10_give κ a7.2 q1 x356 x357 x358) rfl w_692 w_693 w_694 (Nat.le_of_ble_eq_true rfl) (Nat.le_of_ble_eq_true rfl) dL_law_663 rfl (by simp) (fun x360 M359 => (show G _ _ _ _ _ _ [.int x360] _ from ?_))
        refine G_aload_n dL_law_666 2 rfl rfl ?_
        refine G_aload_n dL_law_667 0 rfl rfl ?_
        refine G_iload_n dL_law_668 3 rfl rfl ?_
        refine G_iconst (v := 1) dL_law_669 (by decide) ?_
        refine G_iadd dL_law_670 ?_
        refine G_sld dL_law_671 (fun x361 => ?_)
        refine G_aload_n dL_law_672 0 rfl rfl ?_
        refine G_iload_n dL_law_673 3 rfl rfl ?_
        refine G_iconst (v := 2) dL_law_674 (by decide) ?_
        refine G_iadd dL_law_675 ?_
        refine G_sld dL_law_676 (fun x362 => ?_)
        refine G_aload_n dL_law_677 0 rfl rfl ?_
        refine G_iload_n dL_law_678 3 rfl rfl ?_
        refine G_iconst (v := 3) dL_law_679 (by decide) ?_
        refine G_iadd dL_law_680 ?_
        refine G_sld dL_law_681 (fun x363 => ?_)
        refine G_callV cf_X11 ok_X11_give [.int x361, .int x362, .int x363] [.int x360] (con_X11_give κ M359 q4 x361 x362 x363) rfl w_1180 w_1181 w_1182 (Nat.le_of_ble_eq_true rfl) (Nat.le_of_ble_eq_true rfl) dL_law_682 rfl (by simp) (fun x365 M364 => (show G _ _ _ _ _ _ [.int x365, .int x360] _ from ?_))
        refine G_icmp_eq (tgt := 1088) dL_law_685 (by decide) ?_ ?_
        · exact G.sub [0, 1, 2, 3] rfl (hJ1088_239 _)
        · refine G_iconst (v := 0) dL_law_688 (by decide) ?_
          exact G_retZ dL_law_689
      refine G.cond (fun hx32_14 => ?_) (fun hn32_14 => ?_)
      · refine G_tin (n := 14) (tgt := 690) dL_law_32 (by rw [hx32_14]; rfl) (by decide) (by decide) rfl (by decide) ?_
        refine G_aload_n dL_law_690 1 rfl rfl ?_
        refine G_aload_n dL_law_691 0 rfl rfl ?_
        refine G_iload_n dL_law_692 3 rfl rfl ?_
        refine G_iconst (v := 1) dL_law_693 (by decide) ?_
        refine G_iadd dL_law_694 ?_
        refine G_sld dL_law_695 (fun x366 => ?_)
        refine G_callV cf_X10 ok_X10_lose [.int x366] [] (con_X10_lose κ a7.2 q1 x366) rfl w_713 w_714 w_715 (Nat.le_of_ble_eq_true rfl) (Nat.le_of_ble_eq_true rfl) dL_law_696 rfl (by simp) (fun x368 M367 => (show G _ _ _ _ _ _ [.int x368] _ from ?_))
        refine G_aload_n dL_law_699 2 rfl rfl ?_
        refine G_aload_n dL_law_700 0 rfl rfl ?_
        refine G_iload_n dL_law_701 3 rfl rfl ?_
        refine G_iconst (v := 1) dL_law_702 (by decide) ?_
        refine G_iadd dL_law_703 ?_
        refine G_sld dL_law_704 (fun x369 => ?_)
        refine G_callV cf_X11 ok_X11_lose [.int x369] [.int x368] (con_X11_lose κ M367 q4 x369) rfl w_1193 w_1194 w_1195 (Nat.le_of_ble_eq_true rfl) (Nat.le_of_ble_eq_true rfl) dL_law_705 rfl (by simp) (fun x371 M370 => (show G _ _ _ _ _ _ [.int x371, .int x368] _ from ?_))
        refine G_icmp_eq (tgt := 1088) dL_law_708 (by decide) ?_ ?_
        · exact G.sub [0, 1, 2, 3] rfl (hJ1088_239 _)
        · refine G_iconst (v := 0) dL_law_711 (by decide) ?_
          exact G_retZ dL_law_712
      refine G.cond (fun hx32_15 => ?_) (fun hn32_15 => ?_)
      · refine G_tin (n := 15) (tgt := 713) dL_law_32 (by rw [hx32_15]; rfl) (by decide) (by decide) rfl (by decide) ?_
        refine G_aload_n dL_law_713 1 rfl rfl ?_
        refine G_aload_n dL_law_714 0 rfl rfl ?_
        refine G_iload_n dL_law_715 3 rfl rfl ?_
        refine G_iconst (v := 1) dL_law_716 (by decide) ?_
        refine G_iadd dL_law_717 ?_
        refine G_sld dL_law_718 (fun x372 => ?_)
        refine G_aload_n dL_law_719 0 rfl rfl ?_
        refine G_iload_n dL_law_720 3 rfl rfl ?_
        refine G_iconst (v := 2) dL_law_721 (by decide) ?_
        refine G_iadd dL_law_722 ?_
        refine G_sld dL_law_723 (fun x373 => ?_)
        refine G_callV cf_X10 ok_X10_due [.int x372, .int x373] [] (con_X10_due κ a7.2 q1 x372 x373) rfl w_752 w_753 w_754 (Nat.le_of_ble_eq_true rfl) (Nat.le_of_ble_eq_true rfl) dL_law_724 rfl (by simp) (fun x375 M374 => (show G _ _ _ _ _ _ [.int x375] _ from ?_))
        refine G_aload_n dL_law_727 2 rfl rfl ?_
        refine G_aload_n dL_law_728 0 rfl rfl ?_
        refine G_iload_n dL_law_729 3 rfl rfl ?_
        refine G_iconst (v := 1) dL_law_730 (by decide) ?_
        refine G_iadd dL_law_731 ?_
        refine G_sld dL_law_732 (fun x376 => ?_)
        refine G_aload_n dL_law_733 0 rfl rfl ?_
        refine G_iload_n dL_law_734 3 rfl rfl ?_
        refine G_iconst (v := 2) dL_law_735 (by decide) ?_
        refine G_iadd dL_law_736 ?_
        refine G_sld dL_law_737 (fun x377 => ?_)
        refine G_callV cf_X11 ok_X11_due [.int x376, .int x377] [.int x375] (con_X11_due κ M374 q4 x376 x377) rfl w_1220 w_1221 w_1222 (Nat.le_of_ble_eq_true rfl) (Nat.le_of_ble_eq_true rfl) dL_law_738 rfl (by simp) (fun x379 M378 => (show G _ _ _ _ _ _ [.int x379, .int x375] _ from ?_))
        refine G_icmp_eq (tgt := 1088) dL_law_741 (by decide) ?_ ?_
        · exact G.sub [0, 1, 2, 3] rfl (hJ1088_239 _)
        · refine G_iconst (v := 0) dL_law_744 (by decide) ?_
          exact G_retZ dL_law_745
      refine G.cond (fun hx32_16 => ?_) (fun hn32_16 => ?_)
      · refine G_tin (n := 16) (tgt := 746) dL_law_32 (by rw [hx32_16]; rfl) (by decide) (by decide) rfl (by decide) ?_
        refine G_aload_n dL_law_746 1 rfl rfl ?_
        refine G_aload_n dL_law_747 0 rfl rfl ?_
        refine G_iload_n dL_law_748 3 rfl rfl ?_
        refine G_iconst (v := 1) dL_law_749 (by decide) ?_
        refine G_iadd dL_law_750 ?_
        refine G_sld dL_law_751 (fun x380 => ?_)
        refine G_callV cf_X10 ok_X10_pay [.int x380] [] (con_X10_pay κ a7.2 q1 x380) rfl w_756 w_757 w_758 (Nat.le_of_ble_eq_true rfl) (Nat.le_of_ble_eq_true rfl) dL_law_752 rfl (by simp) (fun x382 M381 => (show G _ _ _ _ _ _ [.int x382] _ from ?_))
        refine G_aload_n dL_law_755 2 rfl rfl ?_
        refine G_aload_n dL_law_756 0 rfl rfl ?_
        refine G_iload_n dL_law_757 3 rfl rfl ?_
        refine G_iconst (v := 1) dL_law_758 (by decide) ?_
        refine G_iadd dL_law_759 ?_
        refine G_sld dL_law_760 (fun x383 => ?_)
        refine G_callV cf_X11 ok_X11_pay [.int x383] [.int x382] (con_X11_pay κ M381 q4 x383) rfl w_1224 w_1225 w_1226 (Nat.le_of_ble_eq_true rfl) (Nat.le_of_ble_eq_true rfl) dL_law_761 rfl (by simp) (fun x385 M384 => (show G _ _ _ _ _ _ [.int x385, .int x382] _ from ?_))
        refine G_icmp_eq (tgt := 1088) dL_law_764 (by decide) ?_ ?_
        · exact G.sub [0, 1, 2, 3] rfl (hJ1088_239 _)
        · refine G_iconst (v := 0) dL_law_767 (by decide) ?_
          exact G_retZ dL_law_768
      refine G.cond (fun hx32_17 => ?_) (fun hn32_17 => ?_)
      · refine G_tin (n := 17) (tgt := 769) dL_law_32 (by rw [hx32_17]; rfl) (by decide) (by decide) rfl (by decide) ?_
        refine G_aload_n dL_law_769 1 rfl rfl ?_
        refine G_aload_n dL_law_770 0 rfl rfl ?_
        refine G_iload_n dL_law_771 3 rfl rfl ?_
        refine G_iconst (v := 1) dL_law_772 (by decide) ?_
        refine G_iadd dL_law_773 ?_
        refine G_sld dL_law_774 (fun x386 => ?_)
        refine G_callV cf_X10 ok_X10_leave [.int x386] [] (con_X10_leave κ a7.2 q1 x386) rfl w_764 w_765 w_766 (Nat.le_of_ble_eq_true rfl) (Nat.le_of_ble_eq_true rfl) dL_law_775 rfl (by simp) (fun x388 M387 => (show G _ _ _ _ _ _ [.int x388] _ from ?_))
        refine G_aload_n dL_law_778 2 rfl rfl ?_
        refine G_aload_n dL_law_779 0 rfl rfl ?_
        refine G_iload_n dL_law_780 3 rfl rfl ?_
        refine G_iconst (v := 1) dL_law_781 (by decide) ?_
        refine G_iadd dL_law_782 ?_
        refine G_sld dL_law_783 (fun x389 => ?_)
        refine G_callV cf_X11 ok_X11_leave [.int x389] [.int x388] (con_X11_leave κ M387 q4 x389) rfl w_1228 w_1229 w_1230 (Nat.le_of_ble_eq_true rfl) (Nat.le_of_ble_eq_true rfl) dL_law_784 rfl (by simp) (fun x391 M390 => (show G _ _ _ _ _ _ [.int x391, .int x388] _ from ?_))
        refine G_icmp_eq (tgt := 1088) dL_law_787 (by decide) ?_ ?_
        · exact G.sub [0, 1, 2, 3] rfl (hJ1088_239 _)
        · refine G_iconst (v := 0) dL_law_790 (by decide) ?_
          exact G_retZ dL_law_791
      refine G.cond (fun hx32_18 => ?_) (fun hn32_18 => ?_)
      · refine G_tin (n := 18) (tgt := 792) dL_law_32 (by rw [hx32_18]; rfl) (by decide) (by decide) rfl (by decide) ?_
        refine G_aload_n dL_law_792 1 rfl rfl ?_
        refine G_aload_n dL_law_793 0 rfl rfl ?_
        refine G_iload_n dL_law_794 3 rfl rfl ?_
        refine G_iconst (v := 1) dL_law_795 (by decide) ?_
        refine G_iadd dL_law_796 ?_
        refine G_sld dL_law_797 (fun x392 => ?_)
        refine G_aload_n dL_law_798 0 rfl rfl ?_
        refine G_iload_n dL_law_799 3 rfl rfl ?_
        refine G_iconst (v := 2) dL_law_800 (by decide) ?_
        refine G_iadd dL_law_801 ?_
        refine G_sld dL_law_802 (fun x393 => ?_)
        refine G_callV cf_X10 ok_X10_ticket [.int x392, .int x393] [] (con_X10_ticket κ a7.2 q1 x392 x393) rfl w_780 w_781 w_782 (Nat.le_of_ble_eq_true rfl) (Nat.le_of_ble_eq_true rfl) dL_law_803 rfl (by simp) (fun x395 M394 => (show G _ _ _ _ _ _ [.int x395] _ from ?_))
        refine G_aload_n dL_law_806 2 rfl rfl ?_
        refine G_aload_n dL_law_807 0 rfl rfl ?_
        refine G_iload_n dL_law_808 3 rfl rfl ?_
        refine G_iconst (v := 1) dL_law_809 (by decide) ?_
        refine G_iadd dL_law_810 ?_
        refine G_sld dL_law_811 (fun x396 => ?_)
        refine G_aload_n dL_law_812 0 rfl rfl ?_
        refine G_iload_n dL_law_813 3 rfl rfl ?_
        refine G_iconst (v := 2) dL_law_814 (by decide) ?_
        refine G_iadd dL_law_815 ?_
        refine G_sld dL_law_816 (fun x397 => ?_)
        refine G_callV cf_X11 ok_X11_ticket [.int x396, .int x397] [.int x395] (con_X11_ticket κ M394 q4 x396 x397) rfl w_1232 w_1233 w_1234 (Nat.le_of_ble_eq_true rfl) (Nat.le_of_ble_eq_true rfl) dL_law_817 rfl (by simp) (fun x399 M398 => (show G _ _ _ _ _ _ [.int x399, .int x395] _ from ?_))
        refine G_icmp_eq (tgt := 1088) dL_law_820 (by decide) ?_ ?_
        · exact G.sub [0, 1, 2, 3] rfl (hJ1088_239 _)
        · refine G_iconst (v := 0) dL_law_823 (by decide) ?_
          exact G_retZ dL_law_824
      refine G.cond (fun hx32_19 => ?_) (fun hn32_19 => ?_)
      · refine G_tin (n := 19) (tgt := 825) dL_law_32 (by rw [hx32_19]; rfl) (by decide) (by decide) rfl (by decide) ?_
        refine G_aload_n dL_law_825 1 rfl rfl ?_
        refine G_aload_n dL_law_826 0 rfl rfl ?_
        refine G_iload_n dL_law_827 3 rfl rfl ?_
        refine G_iconst (v := 1) dL_law_828 (by decide) ?_
        refine G_iadd dL_law_829 ?_
        refine G_sld dL_law_830 (fun x400 => ?_)
        refine G_aload_n dL_law_831 0 rfl rfl ?_
        refine G_iload_n dL_law_832 3 rfl rfl ?_
        refine G_iconst (v := 2) dL_law_833 (by decide) ?_
        refine G_iadd dL_law_834 ?_
        refine G_sld dL_law_835 (fun x401 => ?_)
        refine G_callV cf_X10 ok_X10_step [.int x400, .int x401] [] (con_X10_step κ a7.2 q1 x400 x401) rfl w_789 w_790 w_791 (Nat.le_of_ble_eq_true rfl) (Nat.le_of_ble_eq_true rfl) dL_law_836 rfl (by simp) (fun x403 M402 => (show G _ _ _ _ _ _ [.int x403] _ from ?_))
        refine G_aload_n dL_law_839 2 rfl rfl ?_
        refine G_aload_n dL_law_840 0 rfl rfl ?_
        refine G_iload_n dL_law_841 3 rfl rfl ?_
        refine G_iconst (v := 1) dL_law_842 (by decide) ?_
        refine G_iadd dL_law_843 ?_
        refine G_sld dL_law_844 (fun x404 => ?_)
        refine G_aload_n dL_law_845 0 rfl rfl ?_
        refine G_iload_n dL_law_846 3 rfl rfl ?_
        refine G_iconst (v := 2) dL_law_847 (by decide) ?_
        refine G_iadd dL_law_848 ?_
        refine G_sld dL_law_849 (fun x405 => ?_)
        refine G_callV cf_X11 ok_X11_step [.int x404, .int x405] [.int x403] (con_X11_step κ M402 q4 x404 x405) rfl w_1236 w_1237 w_1238 (Nat.le_of_ble_eq_true rfl) (Nat.le_of_ble_eq_true rfl) dL_law_850 rfl (by simp) (fun x407 M406 => (show G _ _ _ _ _ _ [.int x407, .int x403] _ from ?_))
        refine G_icmp_eq (tgt := 1088) dL_law_853 (by decide) ?_ ?_
        · exact G.sub [0, 1, 2, 3] rfl (hJ1088_239 _)
        · refine G_iconst (v := 0) dL_law_856 (by decide) ?_
          exact G_retZ dL_law_857
      refine G.cond (fun hx32_20 => ?_) (fun hn32_20 => ?_)
      · refine G_tin (n := 20) (tgt := 858) dL_law_32 (by rw [hx32_20]; rfl) (by decide) (by decide) rfl (by decide) ?_
        refine G_aload_n dL_law_858 1 rfl rfl ?_
        refine G_aload_n dL_law_859 0 rfl rfl ?_
        refine G_iload_n dL_law_860 3 rfl rfl ?_
        refine G_iconst (v := 1) dL_law_861 (by decide) ?_
        refine G_iadd dL_law_862 ?_
        refine G_sld dL_law_863 (fun x408 => ?_)
        refine G_callV cf_X10 ok_X10_advance [.int x408] [] (con_X10_advance κ a7.2 q1 x408) rfl w_798 w_799 w_800 (Nat.le_of_ble_eq_true rfl) (Nat.le_of_ble_eq_true rfl) dL_law_864 rfl (by simp) (fun x410 M409 => (show G _ _ _ _ _ _ [.int x410] _ from ?_))
        refine G_aload_n dL_law_867 2 rfl rfl ?_
        refine G_aload_n dL_law_868 0 rfl rfl ?_
        refine G_iload_n dL_law_869 3 rfl rfl ?_
        refine G_iconst (v := 1) dL_law_870 (by decide) ?_
        refine G_iadd dL_law_871 ?_
        refine G_sld dL_law_872 (fun x411 => ?_)
        refine G_callV cf_X11 ok_X11_advance [.int x411] [.int x410] (con_X11_advance κ M409 q4 x411) rfl w_1244 w_1245 w_1246 (Nat.le_of_ble_eq_true rfl) (Nat.le_of_ble_eq_true rfl) dL_law_873 rfl (by simp) (fun x413 M412 => (show G _ _ _ _ _ _ [.int x413, .int x410] _ from ?_))
        refine G_icmp_eq (tgt := 1088) dL_law_876 (by decide) ?_ ?_
        · exact G.sub [0, 1, 2, 3] rfl (hJ1088_239 _)
        · refine G_iconst (v := 0) dL_law_879 (by decide) ?_
          exact G_retZ dL_law_880
      refine G.cond (fun hx32_21 => ?_) (fun hn32_21 => ?_)
      · refine G_tin (n := 21) (tgt := 881) dL_law_32 (by rw [hx32_21]; rfl) (by decide) (by decide) rfl (by decide) ?_
        refine G_aload_n dL_law_881 1 rfl rfl ?_
        refine G_aload_n dL_law_882 0 rfl rfl ?_
        refine G_iload_n dL_law_883 3 rfl rfl ?_
        refine G_iconst (v := 1) dL_law_884 (by decide) ?_
        refine G_iadd dL_law_885 ?_
        refine G_sld dL_law_886 (fun x414 => ?_)
        refine G_aload_n dL_law_887 0 rfl rfl ?_
        refine G_iload_n dL_law_888 3 rfl rfl ?_
        refine G_iconst (v := 2) dL_law_889 (by decide) ?_
        refine G_iadd dL_law_890 ?_
        refine G_sld dL_law_891 (fun x415 => ?_)
        refine G_callV cf_X10 ok_X10_setCapacity [.int x414, .int x415] [] (con_X10_setCapacity κ a7.2 q1 x414 x415) rfl w_812 w_813 w_814 (Nat.le_of_ble_eq_true rfl) (Nat.le_of_ble_eq_true rfl) dL_law_892 rfl (by simp) (fun x417 M416 => (show G _ _ _ _ _ _ [.int x417] _ from ?_))
        refine G_aload_n dL_law_895 2 rfl rfl ?_
        refine G_aload_n dL_law_896 0 rfl rfl ?_
        refine G_iload_n dL_law_897 3 rfl rfl ?_
        refine G_iconst (v := 1) dL_law_898 (by decide) ?_
        refine G_iadd dL_law_899 ?_
        refine G_sld dL_law_900 (fun x418 => ?_)
        refine G_aload_n dL_law_901 0 rfl rfl ?_
        refine G_iload_n dL_law_902 3 rfl rfl ?_
        refine G_iconst (v := 2) dL_law_903 (by decide) ?_
        refine G_iadd dL_law_904 ?_
        refine G_sld dL_law_905 (fun x419 => ?_)
        refine G_callV cf_X11 ok_X11_setCapacity [.int x418, .int x419] [.int x417] (con_X11_setCapacity κ M416 q4 x418 x419) rfl w_1132 w_1133 w_1134 (Nat.le_of_ble_eq_true rfl) (Nat.le_of_ble_eq_true rfl) dL_law_906 rfl (by simp) (fun x421 M420 => (show G _ _ _ _ _ _ [.int x421, .int x417] _ from ?_))
        refine G_icmp_eq (tgt := 1088) dL_law_909 (by decide) ?_ ?_
        · exact G.sub [0, 1, 2, 3] rfl (hJ1088_239 _)
        · refine G_iconst (v := 0) dL_law_912 (by decide) ?_
          exact G_retZ dL_law_913
      refine G.cond (fun hx32_22 => ?_) (fun hn32_22 => ?_)
      · refine G_tin (n := 22) (tgt := 914) dL_law_32 (by rw [hx32_22]; rfl) (by decide) (by decide) rfl (by decide) ?_
        refine G_aload_n dL_law_914 1 rfl rfl ?_
        refine G_aload_n dL_law_915 0 rfl rfl ?_
        refine G_iload_n dL_law_916 3 rfl rfl ?_
        refine G_iconst (v := 1) dL_law_917 (by decide) ?_
        refine G_iadd dL_law_918 ?_
        refine G_sld dL_law_919 (fun x422 => ?_)
        refine G_aload_n dL_law_920 0 rfl rfl ?_
        refine G_iload_n dL_law_921 3 rfl rfl ?_
        refine G_iconst (v := 2) dL_law_922 (by decide) ?_
        refine G_iadd dL_law_923 ?_
        refine G_sld dL_law_924 (fun x423 => ?_)
        refine G_callV cf_X10 ok_X10_level [.int x422, .int x423] [] (con_X10_level κ a7.2 q1 x422 x423) rfl w_817 w_818 w_819 (Nat.le_of_ble_eq_true rfl) (Nat.le_of_ble_eq_true rfl) dL_law_925 rfl (by simp) (fun x425 M424 => (show G _ _ _ _ _ _ [.int x425] _ from ?_))
        refine G_aload_n dL_law_928 2 rfl rfl ?_
        refine G_aload_n dL_law_929 0 rfl rfl ?_
        refine G_iload_n dL_law_930 3 rfl rfl ?_
        refine G_iconst (v := 1) dL_law_931 (by decide) ?_
        refine G_iadd dL_law_932 ?_
        refine G_sld dL_law_933 (fun x426 => ?_)
        refine G_aload_n dL_law_934 0 rfl rfl ?_
        refine G_iload_n dL_law_935 3 rfl rfl ?_
        refine G_iconst (v := 2) dL_law_936 (by decide) ?_
        refine G_iadd dL_law_937 ?_
        refine G_sld dL_law_938 (fun x427 => ?_)
        refine G_callV cf_X11 ok_X11_level [.int x426, .int x427] [.int x425] (con_X11_level κ M424 q4 x426 x427) rfl w_1140 w_1141 w_1142 (Nat.le_of_ble_eq_true rfl) (Nat.le_of_ble_eq_true rfl) dL_law_939 rfl (by simp) (fun x429 M428 => (show G _ _ _ _ _ _ [.int x429, .int x425] _ from ?_))
        refine G_icmp_eq (tgt := 1088) dL_law_942 (by decide) ?_ ?_
        · exact G.sub [0, 1, 2, 3] rfl (hJ1088_239 _)
        · refine G_iconst (v := 0) dL_law_945 (by decide) ?_
          exact G_retZ dL_law_946
      refine G.cond (fun hx32_23 => ?_) (fun hn32_23 => ?_)
      · refine G_tin (n := 23) (tgt := 947) dL_law_32 (by rw [hx32_23]; rfl) (by decide) (by decide) rfl (by decide) ?_
        refine G_aload_n dL_law_947 1 rfl rfl ?_
        refine G_aload_n dL_law_948 0 rfl rfl ?_
        refine G_iload_n dL_law_949 3 rfl rfl ?_
        refine G_iconst (v := 1) dL_law_950 (by decide) ?_
        refine G_iadd dL_law_951 ?_
        refine G_sld dL_law_952 (fun x430 => ?_)
        refine G_aload_n dL_law_953 0 rfl rfl ?_
        refine G_iload_n dL_law_954 3 rfl rfl ?_
        refine G_iconst (v := 2) dL_law_955 (by decide) ?_
        refine G_iadd dL_law_956 ?_
        refine G_sld dL_law_957 (fun x431 => ?_)
        refine G_callV cf_X10 ok_X10_forecast [.int x430, .int x431] [] (con_X10_forecast κ a7.2 q1 x430 x431) rfl w_831 w_832 w_833 (Nat.le_of_ble_eq_true rfl) (Nat.le_of_ble_eq_true rfl) dL_law_958 rfl (by simp) (fun x433 M432 => (show G _ _ _ _ _ _ [.int x433] _ from ?_))
        refine G_aload_n dL_law_961 2 rfl rfl ?_
        refine G_aload_n dL_law_962 0 rfl rfl ?_
        refine G_iload_n dL_law_963 3 rfl rfl ?_
        refine G_iconst (v := 1) dL_law_964 (by decide) ?_
        refine G_iadd dL_law_965 ?_
        refine G_sld dL_law_966 (fun x434 => ?_)
        refine G_aload_n dL_law_967 0 rfl rfl ?_
        refine G_iload_n dL_law_968 3 rfl rfl ?_
        refine G_iconst (v := 2) dL_law_969 (by decide) ?_
        refine G_iadd dL_law_970 ?_
        refine G_sld dL_law_971 (fun x435 => ?_)
        refine G_callV cf_X11 ok_X11_forecast [.int x434, .int x435] [.int x433] (con_X11_forecast κ M432 q4 x434 x435) rfl w_1159 w_1160 w_1161 (Nat.le_of_ble_eq_true rfl) (Nat.le_of_ble_eq_true rfl) dL_law_972 rfl (by simp) (fun x437 M436 => (show G _ _ _ _ _ _ [.int x437, .int x433] _ from ?_))
        refine G_icmp_eq (tgt := 1088) dL_law_975 (by decide) ?_ ?_
        · exact G.sub [0, 1, 2, 3] rfl (hJ1088_239 _)
        · refine G_iconst (v := 0) dL_law_978 (by decide) ?_
          exact G_retZ dL_law_979
      refine G.cond (fun hx32_24 => ?_) (fun hn32_24 => ?_)
      · refine G_tin (n := 24) (tgt := 980) dL_law_32 (by rw [hx32_24]; rfl) (by decide) (by decide) rfl (by decide) ?_
        refine G_aload_n dL_law_980 1 rfl rfl ?_
        refine G_aload_n dL_law_981 0 rfl rfl ?_
        refine G_iload_n dL_law_982 3 rfl rfl ?_
        refine G_iconst (v := 1) dL_law_983 (by decide) ?_
        refine G_iadd dL_law_984 ?_
        refine G_sld dL_law_985 (fun x438 => ?_)
        refine G_callV cf_X10 ok_X10_count [.int x438] [] (con_X10_count κ a7.2 q1 x438) rfl w_841 w_842 w_843 (Nat.le_of_ble_eq_true rfl) (Nat.le_of_ble_eq_true rfl) dL_law_986 rfl (by simp) (fun x440 M439 => (show G _ _ _ _ _ _ [.int x440] _ from ?_))
        refine G_aload_n dL_law_989 2 rfl rfl ?_
        refine G_aload_n dL_law_990 0 rfl rfl ?_
        refine G_iload_n dL_law_991 3 rfl rfl ?_
        refine G_iconst (v := 1) dL_law_992 (by decide) ?_
        refine G_iadd dL_law_993 ?_
        refine G_sld dL_law_994 (fun x441 => ?_)
        refine G_callV cf_X11 ok_X11_count [.int x441] [.int x440] (con_X11_count κ M439 q4 x441) rfl w_1250 w_1251 w_1252 (Nat.le_of_ble_eq_true rfl) (Nat.le_of_ble_eq_true rfl) dL_law_995 rfl (by simp) (fun x443 M442 => (show G _ _ _ _ _ _ [.int x443, .int x440] _ from ?_))
        refine G_icmp_eq (tgt := 1088) dL_law_998 (by decide) ?_ ?_
        · exact G.sub [0, 1, 2, 3] rfl (hJ1088_239 _)
        · refine G_iconst (v := 0) dL_law_1001 (by decide) ?_
          exact G_retZ dL_law_1002
      refine G.cond (fun hx32_25 => ?_) (fun hn32_25 => ?_)
      · refine G_tin (n := 25) (tgt := 1003) dL_law_32 (by rw [hx32_25]; rfl) (by decide) (by decide) rfl (by decide) ?_
        refine G_aload_n dL_law_1003 1 rfl rfl ?_
        refine G_callV cf_X10 ok_X10_reportLevels [] [] (con_X10_reportLevels κ a7.2 q1) rfl w_860 w_861 w_862 (Nat.le_of_ble_eq_true rfl) (Nat.le_of_ble_eq_true rfl) dL_law_1004 rfl (by simp) (fun x445 M444 => (show G _ _ _ _ _ _ [.int x445] _ from ?_))
        refine G_aload_n dL_law_1007 2 rfl rfl ?_
        refine G_callV cf_X11 ok_X11_reportLevels [] [.int x445] (con_X11_reportLevels κ M444 q4) rfl w_1254 w_1255 w_1256 (Nat.le_of_ble_eq_true rfl) (Nat.le_of_ble_eq_true rfl) dL_law_1008 rfl (by simp) (fun x447 M446 => (show G _ _ _ _ _ _ [.int x447, .int x445] _ from ?_))
        refine G_icmp_eq (tgt := 1088) dL_law_1011 (by decide) ?_ ?_
        · exact G.sub [0, 1, 2, 3] rfl (hJ1088_239 _)
        · refine G_iconst (v := 0) dL_law_1014 (by decide) ?_
          exact G_retZ dL_law_1015
      refine G.cond (fun hx32_26 => ?_) (fun hn32_26 => ?_)
      · refine G_tin (n := 26) (tgt := 1016) dL_law_32 (by rw [hx32_26]; rfl) (by decide) (by decide) rfl (by decide) ?_
        refine G_aload_n dL_law_1016 1 rfl rfl ?_
        refine G_aload_n dL_law_1017 0 rfl rfl ?_
        refine G_iload_n dL_law_1018 3 rfl rfl ?_
        refine G_iconst (v := 1) dL_law_1019 (by decide) ?_
        refine G_iadd dL_law_1020 ?_
        refine G_sld dL_law_1021 (fun x448 => ?_)
        refine G_callV cf_X10 ok_X10_reportCode [.int x448] [] (con_X10_reportCode κ a7.2 q1 x448) rfl w_864 w_865 w_866 (Nat.le_of_ble_eq_true rfl) (Nat.le_of_ble_eq_true rfl) dL_law_1022 rfl (by simp) (fun x450 M449 => (show G _ _ _ _ _ _ [.int x450] _ from ?_))
        refine G_aload_n dL_law_1025 2 rfl rfl ?_
        refine G_aload_n dL_law_1026 0 rfl rfl ?_
        refine G_iload_n dL_law_1027 3 rfl rfl ?_
        refine G_iconst (v := 1) dL_law_1028 (by decide) ?_
        refine G_iadd dL_law_1029 ?_
        refine G_sld dL_law_1030 (fun x451 => ?_)
        refine G_callV cf_X11 ok_X11_reportCode [.int x451] [.int x450] (con_X11_reportCode κ M449 q4 x451) rfl w_1258 w_1259 w_1260 (Nat.le_of_ble_eq_true rfl) (Nat.le_of_ble_eq_true rfl) dL_law_1031 rfl (by simp) (fun x453 M452 => (show G _ _ _ _ _ _ [.int x453, .int x450] _ from ?_))
        refine G_icmp_eq (tgt := 1088) dL_law_1034 (by decide) ?_ ?_
        · exact G.sub [0, 1, 2, 3] rfl (hJ1088_239 _)
        · refine G_iconst (v := 0) dL_law_1037 (by decide) ?_
          exact G_retZ dL_law_1038
      refine G.cond (fun hx32_27 => ?_) (fun hn32_27 => ?_)
      · refine G_tin (n := 27) (tgt := 1039) dL_law_32 (by rw [hx32_27]; rfl) (by decide) (by decide) rfl (by decide) ?_
        refine G_aload_n dL_law_1039 1 rfl rfl ?_
        refine G_aload_n dL_law_1040 0 rfl rfl ?_
        refine G_iload_n dL_law_1041 3 rfl rfl ?_
        refine G_iconst (v := 1) dL_law_1042 (by decide) ?_
        refine G_iadd dL_law_1043 ?_
        refine G_sld dL_law_1044 (fun x454 => ?_)
        refine G_callV cf_X10 ok_X10_reportNumber [.int x454] [] (con_X10_reportNumber κ a7.2 q1 x454) rfl w_873 w_874 w_875 (Nat.le_of_ble_eq_true rfl) (Nat.le_of_ble_eq_true rfl) dL_law_1045 rfl (by simp) (fun x456 M455 => (show G _ _ _ _ _ _ [.int x456] _ from ?_))
        refine G_aload_n dL_law_1048 2 rfl rfl ?_
        refine G_aload_n dL_law_1049 0 rfl rfl ?_
        refine G_iload_n dL_law_1050 3 rfl rfl ?_
        refine G_iconst (v := 1) dL_law_1051 (by decide) ?_
        refine G_iadd dL_law_1052 ?_
        refine G_sld dL_law_1053 (fun x457 => ?_)
        refine G_callV cf_X11 ok_X11_reportNumber [.int x457] [.int x456] (con_X11_reportNumber κ M455 q4 x457) rfl w_1262 w_1263 w_1264 (Nat.le_of_ble_eq_true rfl) (Nat.le_of_ble_eq_true rfl) dL_law_1054 rfl (by simp) (fun x459 M458 => (show G _ _ _ _ _ _ [.int x459, .int x456] _ from ?_))
        refine G_icmp_eq (tgt := 1088) dL_law_1057 (by decide) ?_ ?_
        · exact G.sub [0, 1, 2, 3] rfl (hJ1088_239 _)
        · refine G_iconst (v := 0) dL_law_1060 (by decide) ?_
          exact G_retZ dL_law_1061
      refine G.cond (fun hx32_28 => ?_) (fun hn32_28 => ?_)
      · refine G_tin (n := 28) (tgt := 1062) dL_law_32 (by rw [hx32_28]; rfl) (by decide) (by decide) rfl (by decide) ?_
        refine G_aload_n dL_law_1062 1 rfl rfl ?_
        refine G_callV cf_X10 ok_X10_save [] [] (con_X10_save κ a7.2 q1) rfl w_877 w_878 w_879 (Nat.le_of_ble_eq_true rfl) (Nat.le_of_ble_eq_true rfl) dL_law_1063 rfl (by simp) (fun x461 M460 => (show G _ _ _ _ _ _ [.int x461] _ from ?_))
        refine G_aload_n dL_law_1066 2 rfl rfl ?_
        refine G_callV cf_X11 ok_X11_save [] [.int x461] (con_X11_save κ M460 q4) rfl w_1266 w_1267 w_1268 (Nat.le_of_ble_eq_true rfl) (Nat.le_of_ble_eq_true rfl) dL_law_1067 rfl (by simp) (fun x463 M462 => (show G _ _ _ _ _ _ [.int x463, .int x461] _ from ?_))
        refine G_icmp_eq (tgt := 1088) dL_law_1070 (by decide) ?_ ?_
        · exact G.sub [0, 1, 2, 3] rfl (hJ1088_239 _)
        · refine G_iconst (v := 0) dL_law_1073 (by decide) ?_
          exact G_retZ dL_law_1074
      refine G.cond (fun hx32_29 => ?_) (fun hn32_29 => ?_)
      · refine G_tin (n := 29) (tgt := 1075) dL_law_32 (by rw [hx32_29]; rfl) (by decide) (by decide) rfl (by decide) ?_
        refine G_aload_n dL_law_1075 1 rfl rfl ?_
        refine G_callV cf_X10 ok_X10_restore [] [] (con_X10_restore κ a7.2 q1) rfl w_903 w_904 w_905 (Nat.le_of_ble_eq_true rfl) (Nat.le_of_ble_eq_true rfl) dL_law_1076 rfl (by simp) (fun x465 M464 => (show G _ _ _ _ _ _ [.int x465] _ from ?_))
        refine G_aload_n dL_law_1079 2 rfl rfl ?_
        refine G_callV cf_X11 ok_X11_restore [] [.int x465] (con_X11_restore κ M464 q4) rfl w_1270 w_1271 w_1272 (Nat.le_of_ble_eq_true rfl) (Nat.le_of_ble_eq_true rfl) dL_law_1080 rfl (by simp) (fun x467 M466 => (show G _ _ _ _ _ _ [.int x467, .int x465] _ from ?_))
        refine G_icmp_eq (tgt := 1088) dL_law_1083 (by decide) ?_ ?_
        · exact G.sub [0, 1, 2, 3] rfl (hJ1088_239 _)
        · refine G_iconst (v := 0) dL_law_1086 (by decide) ?_
          exact G_retZ dL_law_1087
      refine G_tout (tgt := 1088) dL_law_32 (by
          have hz0 : ((x239 &&& 31)).toInt ≠ 0 := fun h => hn32_0 (Int32.toInt_inj.mp (h.trans rfl))
          have hz1 : ((x239 &&& 31)).toInt ≠ 1 := fun h => hn32_1 (Int32.toInt_inj.mp (h.trans rfl))
          have hz2 : ((x239 &&& 31)).toInt ≠ 2 := fun h => hn32_2 (Int32.toInt_inj.mp (h.trans rfl))
          have hz3 : ((x239 &&& 31)).toInt ≠ 3 := fun h => hn32_3 (Int32.toInt_inj.mp (h.trans rfl))
          have hz4 : ((x239 &&& 31)).toInt ≠ 4 := fun h => hn32_4 (Int32.toInt_inj.mp (h.trans rfl))
          have hz5 : ((x239 &&& 31)).toInt ≠ 5 := fun h => hn32_5 (Int32.toInt_inj.mp (h.trans rfl))
          have hz6 : ((x239 &&& 31)).toInt ≠ 6 := fun h => hn32_6 (Int32.toInt_inj.mp (h.trans rfl))
          have hz7 : ((x239 &&& 31)).toInt ≠ 7 := fun h => hn32_7 (Int32.toInt_inj.mp (h.trans rfl))
          have hz8 : ((x239 &&& 31)).toInt ≠ 8 := fun h => hn32_8 (Int32.toInt_inj.mp (h.trans rfl))
          have hz9 : ((x239 &&& 31)).toInt ≠ 9 := fun h => hn32_9 (Int32.toInt_inj.mp (h.trans rfl))
          have hz10 : ((x239 &&& 31)).toInt ≠ 10 := fun h => hn32_10 (Int32.toInt_inj.mp (h.trans rfl))
          have hz11 : ((x239 &&& 31)).toInt ≠ 11 := fun h => hn32_11 (Int32.toInt_inj.mp (h.trans rfl))
          have hz12 : ((x239 &&& 31)).toInt ≠ 12 := fun h => hn32_12 (Int32.toInt_inj.mp (h.trans rfl))
          have hz13 : ((x239 &&& 31)).toInt ≠ 13 := fun h => hn32_13 (Int32.toInt_inj.mp (h.trans rfl))
          have hz14 : ((x239 &&& 31)).toInt ≠ 14 := fun h => hn32_14 (Int32.toInt_inj.mp (h.trans rfl))
          have hz15 : ((x239 &&& 31)).toInt ≠ 15 := fun h => hn32_15 (Int32.toInt_inj.mp (h.trans rfl))
          have hz16 : ((x239 &&& 31)).toInt ≠ 16 := fun h => hn32_16 (Int32.toInt_inj.mp (h.trans rfl))
          have hz17 : ((x239 &&& 31)).toInt ≠ 17 := fun h => hn32_17 (Int32.toInt_inj.mp (h.trans rfl))
          have hz18 : ((x239 &&& 31)).toInt ≠ 18 := fun h => hn32_18 (Int32.toInt_inj.mp (h.trans rfl))
          have hz19 : ((x239 &&& 31)).toInt ≠ 19 := fun h => hn32_19 (Int32.toInt_inj.mp (h.trans rfl))
          have hz20 : ((x239 &&& 31)).toInt ≠ 20 := fun h => hn32_20 (Int32.toInt_inj.mp (h.trans rfl))
          have hz21 : ((x239 &&& 31)).toInt ≠ 21 := fun h => hn32_21 (Int32.toInt_inj.mp (h.trans rfl))
          have hz22 : ((x239 &&& 31)).toInt ≠ 22 := fun h => hn32_22 (Int32.toInt_inj.mp (h.trans rfl))
          have hz23 : ((x239 &&& 31)).toInt ≠ 23 := fun h => hn32_23 (Int32.toInt_inj.mp (h.trans rfl))
          have hz24 : ((x239 &&& 31)).toInt ≠ 24 := fun h => hn32_24 (Int32.toInt_inj.mp (h.trans rfl))
          have hz25 : ((x239 &&& 31)).toInt ≠ 25 := fun h => hn32_25 (Int32.toInt_inj.mp (h.trans rfl))
          have hz26 : ((x239 &&& 31)).toInt ≠ 26 := fun h => hn32_26 (Int32.toInt_inj.mp (h.trans rfl))
          have hz27 : ((x239 &&& 31)).toInt ≠ 27 := fun h => hn32_27 (Int32.toInt_inj.mp (h.trans rfl))
          have hz28 : ((x239 &&& 31)).toInt ≠ 28 := fun h => hn32_28 (Int32.toInt_inj.mp (h.trans rfl))
          have hz29 : ((x239 &&& 31)).toInt ≠ 29 := fun h => hn32_29 (Int32.toInt_inj.mp (h.trans rfl))
          omega) (by decide) ?_
      exact G.sub [0, 1, 2, 3] rfl (hJ1088_239 _)
