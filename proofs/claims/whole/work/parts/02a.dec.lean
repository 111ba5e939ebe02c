theorem dX0_init_0 : decode cX0_init 0 = .ok (.aload_n 0, 1) := by decide +kernel
theorem dX0_init_1 : decode cX0_init 1 = .ok (.invokespecial 1, 3) := by decide +kernel
theorem dX0_init_4 : decode cX0_init 4 = .ok (.aload_n 0, 1) := by decide +kernel
theorem dX0_init_5 : decode cX0_init 5 = .ok (.iload_n 1, 1) := by decide +kernel
theorem dX0_init_6 : decode cX0_init 6 = .ok (.putfield 7, 3) := by decide +kernel
theorem dX0_init_9 : decode cX0_init 9 = .ok (.return_, 1) := by decide +kernel
theorem dX0_tell_0 : decode cX0_tell 0 = .ok (.aload_n 0, 1) := by decide +kernel
theorem dX0_tell_1 : decode cX0_tell 1 = .ok (.iload_n 1, 1) := by decide +kernel
theorem dX0_tell_2 : decode cX0_tell 2 = .ok (.putfield 13, 3) := by decide +kernel
theorem dX0_tell_5 : decode cX0_tell 5 = .ok (.aload_n 0, 1) := by decide +kernel
theorem dX0_tell_6 : decode cX0_tell 6 = .ok (.iload_n 2, 1) := by decide +kernel
theorem dX0_tell_7 : decode cX0_tell 7 = .ok (.putfield 16, 3) := by decide +kernel
theorem dX0_tell_10 : decode cX0_tell 10 = .ok (.aload_n 0, 1) := by decide +kernel
theorem dX0_tell_11 : decode cX0_tell 11 = .ok (.iload_n 3, 1) := by decide +kernel
theorem dX0_tell_12 : decode cX0_tell 12 = .ok (.putfield 19, 3) := by decide +kernel
theorem dX0_tell_15 : decode cX0_tell 15 = .ok (.return_, 1) := by decide +kernel
theorem dX0_copyFrom_0 : decode cX0_copyFrom 0 = .ok (.aload_n 0, 1) := by decide +kernel
theorem dX0_copyFrom_1 : decode cX0_copyFrom 1 = .ok (.aload_n 1, 1) := by decide +kernel
theorem dX0_copyFrom_2 : decode cX0_copyFrom 2 = .ok (.getfield 13, 3) := by decide +kernel
theorem dX0_copyFrom_5 : decode cX0_copyFrom 5 = .ok (.aload_n 1, 1) := by decide +kernel
theorem dX0_copyFrom_6 : decode cX0_copyFrom 6 = .ok (.getfield 16, 3) := by decide +kernel
theorem dX0_copyFrom_9 : decode cX0_copyFrom 9 = .ok (.aload_n 1, 1) := by decide +kernel
theorem dX0_copyFrom_10 : decode cX0_copyFrom 10 = .ok (.getfield 19, 3) := by decide +kernel
theorem dX0_copyFrom_13 : decode cX0_copyFrom 13 = .ok (.invokevirtual 22, 3) := by decide +kernel
theorem dX0_copyFrom_16 : decode cX0_copyFrom 16 = .ok (.return_, 1) := by decide +kernel
theorem dX0_property_0 : decode cX0_property 0 = .ok (.iload_n 1, 1) := by decide +kernel
theorem dX0_property_1 : decode cX0_property 1 = .ok (.lookupswitch 37 #[(0, 27), (1, 32)], 27) := by decide +kernel
theorem dX0_property_28 : decode cX0_property 28 = .ok (.aload_n 0, 1) := by decide +kernel
theorem dX0_property_29 : decode cX0_property 29 = .ok (.getfield 13, 3) := by decide +kernel
theorem dX0_property_32 : decode cX0_property 32 = .ok (.ireturn, 1) := by decide +kernel
theorem dX0_property_33 : decode cX0_property 33 = .ok (.aload_n 0, 1) := by decide +kernel
theorem dX0_property_34 : decode cX0_property 34 = .ok (.getfield 16, 3) := by decide +kernel
theorem dX0_property_37 : decode cX0_property 37 = .ok (.ireturn, 1) := by decide +kernel
theorem dX0_property_38 : decode cX0_property 38 = .ok (.aload_n 0, 1) := by decide +kernel
theorem dX0_property_39 : decode cX0_property 39 = .ok (.getfield 19, 3) := by decide +kernel
theorem dX0_property_42 : decode cX0_property 42 = .ok (.ireturn, 1) := by decide +kernel
theorem dX1_init_0 : decode cX1_init 0 = .ok (.aload_n 0, 1) := by decide +kernel
theorem dX1_init_1 : decode cX1_init 1 = .ok (.invokespecial 3, 3) := by decide +kernel
theorem dX1_init_4 : decode cX1_init 4 = .ok (.aload_n 0, 1) := by decide +kernel
theorem dX1_init_5 : decode cX1_init 5 = .ok (.iconst 4, 1) := by decide +kernel
theorem dX1_init_6 : decode cX1_init 6 = .ok (.anewarray 9, 3) := by decide +kernel
theorem dX1_init_9 : decode cX1_init 9 = .ok (.putfield 11, 3) := by decide +kernel
theorem dX1_init_12 : decode cX1_init 12 = .ok (.aload_n 0, 1) := by decide +kernel
theorem dX1_init_13 : decode cX1_init 13 = .ok (.bipush 10, 2) := by decide +kernel
theorem dX1_init_15 : decode cX1_init 15 = .ok (.anewarray 17, 3) := by decide +kernel
theorem dX1_init_18 : decode cX1_init 18 = .ok (.putfield 19, 3) := by decide +kernel
theorem dX1_init_21 : decode cX1_init 21 = .ok (.aload_n 0, 1) := by decide +kernel
theorem dX1_init_22 : decode cX1_init 22 = .ok (.iconst 3, 1) := by decide +kernel
theorem dX1_init_23 : decode cX1_init 23 = .ok (.anewarray 23, 3) := by decide +kernel
theorem dX1_init_26 : decode cX1_init 26 = .ok (.putfield 25, 3) := by decide +kernel
theorem dX1_init_29 : decode cX1_init 29 = .ok (.aload_n 0, 1) := by decide +kernel
theorem dX1_init_30 : decode cX1_init 30 = .ok (.iconst 4, 1) := by decide +kernel
theorem dX1_init_31 : decode cX1_init 31 = .ok (.anewarray 29, 3) := by decide +kernel
theorem dX1_init_34 : decode cX1_init 34 = .ok (.putfield 31, 3) := by decide +kernel
theorem dX1_init_37 : decode cX1_init 37 = .ok (.aload_n 0, 1) := by decide +kernel
theorem dX1_init_38 : decode cX1_init 38 = .ok (.sipush 512, 3) := by decide +kernel
theorem dX1_init_41 : decode cX1_init 41 = .ok (.anewarray 35, 3) := by decide +kernel
theorem dX1_init_44 : decode cX1_init 44 = .ok (.putfield 37, 3) := by decide +kernel
theorem dX1_init_47 : decode cX1_init 47 = .ok (.iconst 0, 1) := by decide +kernel
theorem dX1_init_48 : decode cX1_init 48 = .ok (.istore_n 1, 1) := by decide +kernel
theorem dX1_init_49 : decode cX1_init 49 = .ok (.iload_n 1, 1) := by decide +kernel
theorem dX1_init_50 : decode cX1_init 50 = .ok (.iconst 4, 1) := by decide +kernel
theorem dX1_init_51 : decode cX1_init 51 = .ok (.if_icmp .ge 22, 3) := by decide +kernel
theorem dX1_init_54 : decode cX1_init 54 = .ok (.aload_n 0, 1) := by decide +kernel
theorem dX1_init_55 : decode cX1_init 55 = .ok (.getfield 11, 3) := by decide +kernel
theorem dX1_init_58 : decode cX1_init 58 = .ok (.iload_n 1, 1) := by decide +kernel
theorem dX1_init_59 : decode cX1_init 59 = .ok (.new 9, 3) := by decide +kernel
theorem dX1_init_62 : decode cX1_init 62 = .ok (.dup, 1) := by decide +kernel
theorem dX1_init_63 : decode cX1_init 63 = .ok (.invokespecial 41, 3) := by decide +kernel
theorem dX1_init_66 : decode cX1_init 66 = .ok (.aastore, 1) := by decide +kernel
theorem dX1_init_67 : decode cX1_init 67 = .ok (.iinc 1 1, 3) := by decide +kernel
theorem dX1_init_70 : decode cX1_init 70 = .ok (.goto (-21), 3) := by decide +kernel
theorem dX1_init_73 : decode cX1_init 73 = .ok (.iconst 0, 1) := by decide +kernel
theorem dX1_init_74 : decode cX1_init 74 = .ok (.istore_n 1, 1) := by decide +kernel
theorem dX1_init_75 : decode cX1_init 75 = .ok (.iload_n 1, 1) := by decide +kernel
theorem dX1_init_76 : decode cX1_init 76 = .ok (.bipush 10, 2) := by decide +kernel
theorem dX1_init_78 : decode cX1_init 78 = .ok (.if_icmp .ge 22, 3) := by decide +kernel
theorem dX1_init_81 : decode cX1_init 81 = .ok (.aload_n 0, 1) := by decide +kernel
theorem dX1_init_82 : decode cX1_init 82 = .ok (.getfield 19, 3) := by decide +kernel
theorem dX1_init_85 : decode cX1_init 85 = .ok (.iload_n 1, 1) := by decide +kernel
theorem dX1_init_86 : decode cX1_init 86 = .ok (.new 17, 3) := by decide +kernel
theorem dX1_init_89 : decode cX1_init 89 = .ok (.dup, 1) := by decide +kernel
theorem dX1_init_90 : decode cX1_init 90 = .ok (.invokespecial 42, 3) := by decide +kernel
theorem dX1_init_93 : decode cX1_init 93 = .ok (.aastore, 1) := by decide +kernel
theorem dX1_init_94 : decode cX1_init 94 = .ok (.iinc 1 1, 3) := by decide +kernel
theorem dX1_init_97 : decode cX1_init 97 = .ok (.goto (-22), 3) := by decide +kernel
theorem dX1_init_100 : decode cX1_init 100 = .ok (.iconst 0, 1) := by decide +kernel
theorem dX1_init_101 : decode cX1_init 101 = .ok (.istore_n 1, 1) := by decide +kernel
theorem dX1_init_102 : decode cX1_init 102 = .ok (.iload_n 1, 1) := by decide +kernel
theorem dX1_init_103 : decode cX1_init 103 = .ok (.iconst 3, 1) := by decide +kernel
theorem dX1_init_104 : decode cX1_init 104 = .ok (.if_icmp .ge 22, 3) := by decide +kernel
theorem dX1_init_107 : decode cX1_init 107 = .ok (.aload_n 0, 1) := by decide +kernel
theorem dX1_init_108 : decode cX1_init 108 = .ok (.getfield 25, 3) := by decide +kernel
theorem dX1_init_111 : decode cX1_init 111 = .ok (.iload_n 1, 1) := by decide +kernel
theorem dX1_init_112 : decode cX1_init 112 = .ok (.new 23, 3) := by decide +kernel
theorem dX1_init_115 : decode cX1_init 115 = .ok (.dup, 1) := by decide +kernel
theorem dX1_init_116 : decode cX1_init 116 = .ok (.invokespecial 43, 3) := by decide +kernel
theorem dX1_init_119 : decode cX1_init 119 = .ok (.aastore, 1) := by decide +kernel
theorem dX1_init_120 : decode cX1_init 120 = .ok (.iinc 1 1, 3) := by decide +kernel
theorem dX1_init_123 : decode cX1_init 123 = .ok (.goto (-21), 3) := by decide +kernel
theorem dX1_init_126 : decode cX1_init 126 = .ok (.iconst 0, 1) := by decide +kernel
theorem dX1_init_127 : decode cX1_init 127 = .ok (.istore_n 1, 1) := by decide +kernel
theorem dX1_init_128 : decode cX1_init 128 = .ok (.iload_n 1, 1) := by decide +kernel
theorem dX1_init_129 : decode cX1_init 129 = .ok (.iconst 4, 1) := by decide +kernel
theorem dX1_init_130 : decode cX1_init 130 = .ok (.if_icmp .ge 22, 3) := by decide +kernel
theorem dX1_init_133 : decode cX1_init 133 = .ok (.aload_n 0, 1) := by decide +kernel
theorem dX1_init_134 : decode cX1_init 134 = .ok (.getfield 31, 3) := by decide +kernel
theorem dX1_init_137 : decode cX1_init 137 = .ok (.iload_n 1, 1) := by decide +kernel
theorem dX1_init_138 : decode cX1_init 138 = .ok (.new 29, 3) := by decide +kernel
theorem dX1_init_141 : decode cX1_init 141 = .ok (.dup, 1) := by decide +kernel
theorem dX1_init_142 : decode cX1_init 142 = .ok (.invokespecial 44, 3) := by decide +kernel
theorem dX1_init_145 : decode cX1_init 145 = .ok (.aastore, 1) := by decide +kernel
theorem dX1_init_146 : decode cX1_init 146 = .ok (.iinc 1 1, 3) := by decide +kernel
theorem dX1_init_149 : decode cX1_init 149 = .ok (.goto (-21), 3) := by decide +kernel
theorem dX1_init_152 : decode cX1_init 152 = .ok (.iconst 0, 1) := by decide +kernel
theorem dX1_init_153 : decode cX1_init 153 = .ok (.istore_n 1, 1) := by decide +kernel
theorem dX1_init_154 : decode cX1_init 154 = .ok (.iload_n 1, 1) := by decide +kernel
theorem dX1_init_155 : decode cX1_init 155 = .ok (.sipush 512, 3) := by decide +kernel
theorem dX1_init_158 : decode cX1_init 158 = .ok (.if_icmp .ge 22, 3) := by decide +kernel
theorem dX1_init_161 : decode cX1_init 161 = .ok (.aload_n 0, 1) := by decide +kernel
theorem dX1_init_162 : decode cX1_init 162 = .ok (.getfield 37, 3) := by decide +kernel
theorem dX1_init_165 : decode cX1_init 165 = .ok (.iload_n 1, 1) := by decide +kernel
theorem dX1_init_166 : decode cX1_init 166 = .ok (.new 35, 3) := by decide +kernel
theorem dX1_init_169 : decode cX1_init 169 = .ok (.dup, 1) := by decide +kernel
theorem dX1_init_170 : decode cX1_init 170 = .ok (.invokespecial 45, 3) := by decide +kernel
theorem dX1_init_173 : decode cX1_init 173 = .ok (.aastore, 1) := by decide +kernel
theorem dX1_init_174 : decode cX1_init 174 = .ok (.iinc 1 1, 3) := by decide +kernel
theorem dX1_init_177 : decode cX1_init 177 = .ok (.goto (-23), 3) := by decide +kernel
theorem dX1_init_180 : decode cX1_init 180 = .ok (.return_, 1) := by decide +kernel
theorem dX1_copyFrom_0 : decode cX1_copyFrom 0 = .ok (.iconst 0, 1) := by decide +kernel
theorem dX1_copyFrom_1 : decode cX1_copyFrom 1 = .ok (.istore_n 2, 1) := by decide +kernel
theorem dX1_copyFrom_2 : decode cX1_copyFrom 2 = .ok (.iload_n 2, 1) := by decide +kernel
theorem dX1_copyFrom_3 : decode cX1_copyFrom 3 = .ok (.iconst 4, 1) := by decide +kernel
theorem dX1_copyFrom_4 : decode cX1_copyFrom 4 = .ok (.if_icmp .ge 24, 3) := by decide +kernel
theorem dX1_copyFrom_7 : decode cX1_copyFrom 7 = .ok (.aload_n 0, 1) := by decide +kernel
theorem dX1_copyFrom_8 : decode cX1_copyFrom 8 = .ok (.getfield 11, 3) := by decide +kernel
theorem dX1_copyFrom_11 : decode cX1_copyFrom 11 = .ok (.iload_n 2, 1) := by decide +kernel
theorem dX1_copyFrom_12 : decode cX1_copyFrom 12 = .ok (.aaload, 1) := by decide +kernel
theorem dX1_copyFrom_13 : decode cX1_copyFrom 13 = .ok (.aload_n 1, 1) := by decide +kernel
theorem dX1_copyFrom_14 : decode cX1_copyFrom 14 = .ok (.getfield 11, 3) := by decide +kernel
theorem dX1_copyFrom_17 : decode cX1_copyFrom 17 = .ok (.iload_n 2, 1) := by decide +kernel
theorem dX1_copyFrom_18 : decode cX1_copyFrom 18 = .ok (.aaload, 1) := by decide +kernel
theorem dX1_copyFrom_19 : decode cX1_copyFrom 19 = .ok (.invokevirtual 46, 3) := by decide +kernel
theorem dX1_copyFrom_22 : decode cX1_copyFrom 22 = .ok (.iinc 2 1, 3) := by decide +kernel
theorem dX1_copyFrom_25 : decode cX1_copyFrom 25 = .ok (.goto (-23), 3) := by decide +kernel
theorem dX1_copyFrom_28 : decode cX1_copyFrom 28 = .ok (.iconst 0, 1) := by decide +kernel
theorem dX1_copyFrom_29 : decode cX1_copyFrom 29 = .ok (.istore_n 2, 1) := by decide +kernel
theorem dX1_copyFrom_30 : decode cX1_copyFrom 30 = .ok (.iload_n 2, 1) := by decide +kernel
theorem dX1_copyFrom_31 : decode cX1_copyFrom 31 = .ok (.bipush 10, 2) := by decide +kernel
theorem dX1_copyFrom_33 : decode cX1_copyFrom 33 = .ok (.if_icmp .ge 24, 3) := by decide +kernel
theorem dX1_copyFrom_36 : decode cX1_copyFrom 36 = .ok (.aload_n 0, 1) := by decide +kernel
theorem dX1_copyFrom_37 : decode cX1_copyFrom 37 = .ok (.getfield 19, 3) := by decide +kernel
theorem dX1_copyFrom_40 : decode cX1_copyFrom 40 = .ok (.iload_n 2, 1) := by decide +kernel
theorem dX1_copyFrom_41 : decode cX1_copyFrom 41 = .ok (.aaload, 1) := by decide +kernel
theorem dX1_copyFrom_42 : decode cX1_copyFrom 42 = .ok (.aload_n 1, 1) := by decide +kernel
theorem dX1_copyFrom_43 : decode cX1_copyFrom 43 = .ok (.getfield 19, 3) := by decide +kernel
theorem dX1_copyFrom_46 : decode cX1_copyFrom 46 = .ok (.iload_n 2, 1) := by decide +kernel
theorem dX1_copyFrom_47 : decode cX1_copyFrom 47 = .ok (.aaload, 1) := by decide +kernel
theorem dX1_copyFrom_48 : decode cX1_copyFrom 48 = .ok (.invokevirtual 50, 3) := by decide +kernel
theorem dX1_copyFrom_51 : decode cX1_copyFrom 51 = .ok (.iinc 2 1, 3) := by decide +kernel
theorem dX1_copyFrom_54 : decode cX1_copyFrom 54 = .ok (.goto (-24), 3) := by decide +kernel
theorem dX1_copyFrom_57 : decode cX1_copyFrom 57 = .ok (.iconst 0, 1) := by decide +kernel
theorem dX1_copyFrom_58 : decode cX1_copyFrom 58 = .ok (.istore_n 2, 1) := by decide +kernel
theorem dX1_copyFrom_59 : decode cX1_copyFrom 59 = .ok (.iload_n 2, 1) := by decide +kernel
theorem dX1_copyFrom_60 : decode cX1_copyFrom 60 = .ok (.iconst 3, 1) := by decide +kernel
theorem dX1_copyFrom_61 : decode cX1_copyFrom 61 = .ok (.if_icmp .ge 24, 3) := by decide +kernel
theorem dX1_copyFrom_64 : decode cX1_copyFrom 64 = .ok (.aload_n 0, 1) := by decide +kernel
theorem dX1_copyFrom_65 : decode cX1_copyFrom 65 = .ok (.getfield 25, 3) := by decide +kernel
theorem dX1_copyFrom_68 : decode cX1_copyFrom 68 = .ok (.iload_n 2, 1) := by decide +kernel
theorem dX1_copyFrom_69 : decode cX1_copyFrom 69 = .ok (.aaload, 1) := by decide +kernel
theorem dX1_copyFrom_70 : decode cX1_copyFrom 70 = .ok (.aload_n 1, 1) := by decide +kernel
theorem dX1_copyFrom_71 : decode cX1_copyFrom 71 = .ok (.getfield 25, 3) := by decide +kernel
theorem dX1_copyFrom_74 : decode cX1_copyFrom 74 = .ok (.iload_n 2, 1) := by decide +kernel
theorem dX1_copyFrom_75 : decode cX1_copyFrom 75 = .ok (.aaload, 1) := by decide +kernel
theorem dX1_copyFrom_76 : decode cX1_copyFrom 76 = .ok (.invokevirtual 53, 3) := by decide +kernel
theorem dX1_copyFrom_79 : decode cX1_copyFrom 79 = .ok (.iinc 2 1, 3) := by decide +kernel
theorem dX1_copyFrom_82 : decode cX1_copyFrom 82 = .ok (.goto (-23), 3) := by decide +kernel
theorem dX1_copyFrom_85 : decode cX1_copyFrom 85 = .ok (.iconst 0, 1) := by decide +kernel
theorem dX1_copyFrom_86 : decode cX1_copyFrom 86 = .ok (.istore_n 2, 1) := by decide +kernel
theorem dX1_copyFrom_87 : decode cX1_copyFrom 87 = .ok (.iload_n 2, 1) := by decide +kernel
theorem dX1_copyFrom_88 : decode cX1_copyFrom 88 = .ok (.iconst 4, 1) := by decide +kernel
theorem dX1_copyFrom_89 : decode cX1_copyFrom 89 = .ok (.if_icmp .ge 24, 3) := by decide +kernel
theorem dX1_copyFrom_92 : decode cX1_copyFrom 92 = .ok (.aload_n 0, 1) := by decide +kernel
theorem dX1_copyFrom_93 : decode cX1_copyFrom 93 = .ok (.getfield 31, 3) := by decide +kernel
theorem dX1_copyFrom_96 : decode cX1_copyFrom 96 = .ok (.iload_n 2, 1) := by decide +kernel
theorem dX1_copyFrom_97 : decode cX1_copyFrom 97 = .ok (.aaload, 1) := by decide +kernel
theorem dX1_copyFrom_98 : decode cX1_copyFrom 98 = .ok (.aload_n 1, 1) := by decide +kernel
theorem dX1_copyFrom_99 : decode cX1_copyFrom 99 = .ok (.getfield 31, 3) := by decide +kernel
theorem dX1_copyFrom_102 : decode cX1_copyFrom 102 = .ok (.iload_n 2, 1) := by decide +kernel
theorem dX1_copyFrom_103 : decode cX1_copyFrom 103 = .ok (.aaload, 1) := by decide +kernel
theorem dX1_copyFrom_104 : decode cX1_copyFrom 104 = .ok (.invokevirtual 56, 3) := by decide +kernel
theorem dX1_copyFrom_107 : decode cX1_copyFrom 107 = .ok (.iinc 2 1, 3) := by decide +kernel
theorem dX1_copyFrom_110 : decode cX1_copyFrom 110 = .ok (.goto (-23), 3) := by decide +kernel
theorem dX1_copyFrom_113 : decode cX1_copyFrom 113 = .ok (.iconst 0, 1) := by decide +kernel
theorem dX1_copyFrom_114 : decode cX1_copyFrom 114 = .ok (.istore_n 2, 1) := by decide +kernel
theorem dX1_copyFrom_115 : decode cX1_copyFrom 115 = .ok (.iload_n 2, 1) := by decide +kernel
theorem dX1_copyFrom_116 : decode cX1_copyFrom 116 = .ok (.sipush 512, 3) := by decide +kernel
theorem dX1_copyFrom_119 : decode cX1_copyFrom 119 = .ok (.if_icmp .ge 32, 3) := by decide +kernel
theorem dX1_copyFrom_122 : decode cX1_copyFrom 122 = .ok (.iload_n 2, 1) := by decide +kernel
theorem dX1_copyFrom_123 : decode cX1_copyFrom 123 = .ok (.aload_n 1, 1) := by decide +kernel
theorem dX1_copyFrom_124 : decode cX1_copyFrom 124 = .ok (.getfield 59, 3) := by decide +kernel
theorem dX1_copyFrom_127 : decode cX1_copyFrom 127 = .ok (.if_icmp .ge 24, 3) := by decide +kernel
theorem dX1_copyFrom_130 : decode cX1_copyFrom 130 = .ok (.aload_n 0, 1) := by decide +kernel
theorem dX1_copyFrom_131 : decode cX1_copyFrom 131 = .ok (.getfield 37, 3) := by decide +kernel
theorem dX1_copyFrom_134 : decode cX1_copyFrom 134 = .ok (.iload_n 2, 1) := by decide +kernel
theorem dX1_copyFrom_135 : decode cX1_copyFrom 135 = .ok (.aaload, 1) := by decide +kernel
theorem dX1_copyFrom_136 : decode cX1_copyFrom 136 = .ok (.aload_n 1, 1) := by decide +kernel
theorem dX1_copyFrom_137 : decode cX1_copyFrom 137 = .ok (.getfield 37, 3) := by decide +kernel
theorem dX1_copyFrom_140 : decode cX1_copyFrom 140 = .ok (.iload_n 2, 1) := by decide +kernel
theorem dX1_copyFrom_141 : decode cX1_copyFrom 141 = .ok (.aaload, 1) := by decide +kernel
theorem dX1_copyFrom_142 : decode cX1_copyFrom 142 = .ok (.invokevirtual 63, 3) := by decide +kernel
theorem dX1_copyFrom_145 : decode cX1_copyFrom 145 = .ok (.iinc 2 1, 3) := by decide +kernel
theorem dX1_copyFrom_148 : decode cX1_copyFrom 148 = .ok (.goto (-33), 3) := by decide +kernel
theorem dX1_copyFrom_151 : decode cX1_copyFrom 151 = .ok (.aload_n 0, 1) := by decide +kernel
theorem dX1_copyFrom_152 : decode cX1_copyFrom 152 = .ok (.aload_n 1, 1) := by decide +kernel
theorem dX1_copyFrom_153 : decode cX1_copyFrom 153 = .ok (.getfield 66, 3) := by decide +kernel
theorem dX1_copyFrom_156 : decode cX1_copyFrom 156 = .ok (.putfield 66, 3) := by decide +kernel
theorem dX1_copyFrom_159 : decode cX1_copyFrom 159 = .ok (.aload_n 0, 1) := by decide +kernel
theorem dX1_copyFrom_160 : decode cX1_copyFrom 160 = .ok (.aload_n 1, 1) := by decide +kernel
theorem dX1_copyFrom_161 : decode cX1_copyFrom 161 = .ok (.getfield 59, 3) := by decide +kernel
theorem dX1_copyFrom_164 : decode cX1_copyFrom 164 = .ok (.putfield 59, 3) := by decide +kernel
theorem dX1_copyFrom_167 : decode cX1_copyFrom 167 = .ok (.aload_n 0, 1) := by decide +kernel
theorem dX1_copyFrom_168 : decode cX1_copyFrom 168 = .ok (.aload_n 1, 1) := by decide +kernel
theorem dX1_copyFrom_169 : decode cX1_copyFrom 169 = .ok (.getfield 69, 3) := by decide +kernel
theorem dX1_copyFrom_172 : decode cX1_copyFrom 172 = .ok (.putfield 69, 3) := by decide +kernel
theorem dX1_copyFrom_175 : decode cX1_copyFrom 175 = .ok (.return_, 1) := by decide +kernel
theorem dX1_planAt_0 : decode cX1_planAt 0 = .ok (.iload_n 1, 1) := by decide +kernel
theorem dX1_planAt_1 : decode cX1_planAt 1 = .ok (.iconst 0, 1) := by decide +kernel
theorem dX1_planAt_2 : decode cX1_planAt 2 = .ok (.iconst 3, 1) := by decide +kernel
theorem dX1_planAt_3 : decode cX1_planAt 3 = .ok (.invokestatic 72, 3) := by decide +kernel
theorem dX1_planAt_6 : decode cX1_planAt 6 = .ok (.ifCond .eq 12, 3) := by decide +kernel
theorem dX1_planAt_9 : decode cX1_planAt 9 = .ok (.aload_n 0, 1) := by decide +kernel
theorem dX1_planAt_10 : decode cX1_planAt 10 = .ok (.getfield 11, 3) := by decide +kernel
theorem dX1_planAt_13 : decode cX1_planAt 13 = .ok (.iload_n 1, 1) := by decide +kernel
theorem dX1_planAt_14 : decode cX1_planAt 14 = .ok (.aaload, 1) := by decide +kernel
theorem dX1_planAt_15 : decode cX1_planAt 15 = .ok (.goto 4, 3) := by decide +kernel
theorem dX1_planAt_18 : decode cX1_planAt 18 = .ok (.aconst_null, 1) := by decide +kernel
theorem dX1_planAt_19 : decode cX1_planAt 19 = .ok (.areturn, 1) := by decide +kernel
theorem dX1_voucherAt_0 : decode cX1_voucherAt 0 = .ok (.iload_n 1, 1) := by decide +kernel
theorem dX1_voucherAt_1 : decode cX1_voucherAt 1 = .ok (.iconst 0, 1) := by decide +kernel
theorem dX1_voucherAt_2 : decode cX1_voucherAt 2 = .ok (.bipush 9, 2) := by decide +kernel
theorem dX1_voucherAt_4 : decode cX1_voucherAt 4 = .ok (.invokestatic 72, 3) := by decide +kernel
theorem dX1_voucherAt_7 : decode cX1_voucherAt 7 = .ok (.ifCond .eq 15, 3) := by decide +kernel
theorem dX1_voucherAt_10 : decode cX1_voucherAt 10 = .ok (.iload_n 1, 1) := by decide +kernel
theorem dX1_voucherAt_11 : decode cX1_voucherAt 11 = .ok (.aload_n 0, 1) := by decide +kernel
theorem dX1_voucherAt_12 : decode cX1_voucherAt 12 = .ok (.getfield 66, 3) := by decide +kernel
theorem dX1_voucherAt_15 : decode cX1_voucherAt 15 = .ok (.if_icmp .ge 7, 3) := by decide +kernel
theorem dX1_voucherAt_18 : decode cX1_voucherAt 18 = .ok (.iconst 1, 1) := by decide +kernel
theorem dX1_voucherAt_19 : decode cX1_voucherAt 19 = .ok (.goto 4, 3) := by decide +kernel
theorem dX1_voucherAt_22 : decode cX1_voucherAt 22 = .ok (.iconst 0, 1) := by decide +kernel
theorem dX1_voucherAt_23 : decode cX1_voucherAt 23 = .ok (.istore_n 2, 1) := by decide +kernel
theorem dX1_voucherAt_24 : decode cX1_voucherAt 24 = .ok (.iload_n 2, 1) := by decide +kernel
theorem dX1_voucherAt_25 : decode cX1_voucherAt 25 = .ok (.ifCond .eq 12, 3) := by decide +kernel
theorem dX1_voucherAt_28 : decode cX1_voucherAt 28 = .ok (.aload_n 0, 1) := by decide +kernel
theorem dX1_voucherAt_29 : decode cX1_voucherAt 29 = .ok (.getfield 19, 3) := by decide +kernel
theorem dX1_voucherAt_32 : decode cX1_voucherAt 32 = .ok (.iload_n 1, 1) := by decide +kernel
theorem dX1_voucherAt_33 : decode cX1_voucherAt 33 = .ok (.aaload, 1) := by decide +kernel
theorem dX1_voucherAt_34 : decode cX1_voucherAt 34 = .ok (.goto 4, 3) := by decide +kernel
theorem dX1_voucherAt_37 : decode cX1_voucherAt 37 = .ok (.aconst_null, 1) := by decide +kernel
theorem dX1_voucherAt_38 : decode cX1_voucherAt 38 = .ok (.areturn, 1) := by decide +kernel
theorem dX1_folderAt_0 : decode cX1_folderAt 0 = .ok (.iload_n 1, 1) := by decide +kernel
theorem dX1_folderAt_1 : decode cX1_folderAt 1 = .ok (.iconst 0, 1) := by decide +kernel
theorem dX1_folderAt_2 : decode cX1_folderAt 2 = .ok (.iconst 2, 1) := by decide +kernel
theorem dX1_folderAt_3 : decode cX1_folderAt 3 = .ok (.invokestatic 72, 3) := by decide +kernel
theorem dX1_folderAt_6 : decode cX1_folderAt 6 = .ok (.ifCond .eq 19, 3) := by decide +kernel
theorem dX1_folderAt_9 : decode cX1_folderAt 9 = .ok (.aload_n 0, 1) := by decide +kernel
theorem dX1_folderAt_10 : decode cX1_folderAt 10 = .ok (.getfield 25, 3) := by decide +kernel
theorem dX1_folderAt_13 : decode cX1_folderAt 13 = .ok (.iload_n 1, 1) := by decide +kernel
theorem dX1_folderAt_14 : decode cX1_folderAt 14 = .ok (.aaload, 1) := by decide +kernel
theorem dX1_folderAt_15 : decode cX1_folderAt 15 = .ok (.invokevirtual 76, 3) := by decide +kernel
theorem dX1_folderAt_18 : decode cX1_folderAt 18 = .ok (.ifCond .eq 7, 3) := by decide +kernel
theorem dX1_folderAt_21 : decode cX1_folderAt 21 = .ok (.iconst 1, 1) := by decide +kernel
theorem dX1_folderAt_22 : decode cX1_folderAt 22 = .ok (.goto 4, 3) := by decide +kernel
theorem dX1_folderAt_25 : decode cX1_folderAt 25 = .ok (.iconst 0, 1) := by decide +kernel
theorem dX1_folderAt_26 : decode cX1_folderAt 26 = .ok (.istore_n 2, 1) := by decide +kernel
theorem dX1_folderAt_27 : decode cX1_folderAt 27 = .ok (.iload_n 2, 1) := by decide +kernel
theorem dX1_folderAt_28 : decode cX1_folderAt 28 = .ok (.ifCond .eq 12, 3) := by decide +kernel
theorem dX1_folderAt_31 : decode cX1_folderAt 31 = .ok (.aload_n 0, 1) := by decide +kernel
theorem dX1_folderAt_32 : decode cX1_folderAt 32 = .ok (.getfield 25, 3) := by decide +kernel
theorem dX1_folderAt_35 : decode cX1_folderAt 35 = .ok (.iload_n 1, 1) := by decide +kernel
theorem dX1_folderAt_36 : decode cX1_folderAt 36 = .ok (.aaload, 1) := by decide +kernel
theorem dX1_folderAt_37 : decode cX1_folderAt 37 = .ok (.goto 4, 3) := by decide +kernel
theorem dX1_folderAt_40 : decode cX1_folderAt 40 = .ok (.aconst_null, 1) := by decide +kernel
theorem dX1_folderAt_41 : decode cX1_folderAt 41 = .ok (.areturn, 1) := by decide +kernel
theorem dX1_levelAt_0 : decode cX1_levelAt 0 = .ok (.iload_n 1, 1) := by decide +kernel
theorem dX1_levelAt_1 : decode cX1_levelAt 1 = .ok (.iconst 0, 1) := by decide +kernel
theorem dX1_levelAt_2 : decode cX1_levelAt 2 = .ok (.iconst 3, 1) := by decide +kernel
theorem dX1_levelAt_3 : decode cX1_levelAt 3 = .ok (.invokestatic 72, 3) := by decide +kernel
theorem dX1_levelAt_6 : decode cX1_levelAt 6 = .ok (.ifCond .eq 12, 3) := by decide +kernel
theorem dX1_levelAt_9 : decode cX1_levelAt 9 = .ok (.aload_n 0, 1) := by decide +kernel
theorem dX1_levelAt_10 : decode cX1_levelAt 10 = .ok (.getfield 31, 3) := by decide +kernel
theorem dX1_levelAt_13 : decode cX1_levelAt 13 = .ok (.iload_n 1, 1) := by decide +kernel
theorem dX1_levelAt_14 : decode cX1_levelAt 14 = .ok (.aaload, 1) := by decide +kernel
theorem dX1_levelAt_15 : decode cX1_levelAt 15 = .ok (.goto 4, 3) := by decide +kernel
theorem dX1_levelAt_18 : decode cX1_levelAt 18 = .ok (.aconst_null, 1) := by decide +kernel
theorem dX1_levelAt_19 : decode cX1_levelAt 19 = .ok (.areturn, 1) := by decide +kernel
theorem dX1_ticketAt_0 : decode cX1_ticketAt 0 = .ok (.iload_n 1, 1) := by decide +kernel
theorem dX1_ticketAt_1 : decode cX1_ticketAt 1 = .ok (.iconst 0, 1) := by decide +kernel
theorem dX1_ticketAt_2 : decode cX1_ticketAt 2 = .ok (.sipush 511, 3) := by decide +kernel
theorem dX1_ticketAt_5 : decode cX1_ticketAt 5 = .ok (.invokestatic 72, 3) := by decide +kernel
theorem dX1_ticketAt_8 : decode cX1_ticketAt 8 = .ok (.ifCond .eq 15, 3) := by decide +kernel
theorem dX1_ticketAt_11 : decode cX1_ticketAt 11 = .ok (.iload_n 1, 1) := by decide +kernel
theorem dX1_ticketAt_12 : decode cX1_ticketAt 12 = .ok (.aload_n 0, 1) := by decide +kernel
theorem dX1_ticketAt_13 : decode cX1_ticketAt 13 = .ok (.getfield 59, 3) := by decide +kernel
theorem dX1_ticketAt_16 : decode cX1_ticketAt 16 = .ok (.if_icmp .ge 7, 3) := by decide +kernel
theorem dX1_ticketAt_19 : decode cX1_ticketAt 19 = .ok (.iconst 1, 1) := by decide +kernel
theorem dX1_ticketAt_20 : decode cX1_ticketAt 20 = .ok (.goto 4, 3) := by decide +kernel
theorem dX1_ticketAt_23 : decode cX1_ticketAt 23 = .ok (.iconst 0, 1) := by decide +kernel
theorem dX1_ticketAt_24 : decode cX1_ticketAt 24 = .ok (.istore_n 2, 1) := by decide +kernel
theorem dX1_ticketAt_25 : decode cX1_ticketAt 25 = .ok (.iload_n 2, 1) := by decide +kernel
theorem dX1_ticketAt_26 : decode cX1_ticketAt 26 = .ok (.ifCond .eq 12, 3) := by decide +kernel
theorem dX1_ticketAt_29 : decode cX1_ticketAt 29 = .ok (.aload_n 0, 1) := by decide +kernel
theorem dX1_ticketAt_30 : decode cX1_ticketAt 30 = .ok (.getfield 37, 3) := by decide +kernel
theorem dX1_ticketAt_33 : decode cX1_ticketAt 33 = .ok (.iload_n 1, 1) := by decide +kernel
theorem dX1_ticketAt_34 : decode cX1_ticketAt 34 = .ok (.aaload, 1) := by decide +kernel
theorem dX1_ticketAt_35 : decode cX1_ticketAt 35 = .ok (.goto 4, 3) := by decide +kernel
theorem dX1_ticketAt_38 : decode cX1_ticketAt 38 = .ok (.aconst_null, 1) := by decide +kernel
theorem dX1_ticketAt_39 : decode cX1_ticketAt 39 = .ok (.areturn, 1) := by decide +kernel
theorem dX1_ticketInside_0 : decode cX1_ticketInside 0 = .ok (.aload_n 0, 1) := by decide +kernel
theorem dX1_ticketInside_1 : decode cX1_ticketInside 1 = .ok (.iload_n 1, 1) := by decide +kernel
theorem dX1_ticketInside_2 : decode cX1_ticketInside 2 = .ok (.invokevirtual 80, 3) := by decide +kernel
theorem dX1_ticketInside_5 : decode cX1_ticketInside 5 = .ok (.astore_n 2, 1) := by decide +kernel
theorem dX1_ticketInside_6 : decode cX1_ticketInside 6 = .ok (.aload_n 2, 1) := by decide +kernel
theorem dX1_ticketInside_7 : decode cX1_ticketInside 7 = .ok (.ifnull 10, 3) := by decide +kernel
theorem dX1_ticketInside_10 : decode cX1_ticketInside 10 = .ok (.aload_n 2, 1) := by decide +kernel
theorem dX1_ticketInside_11 : decode cX1_ticketInside 11 = .ok (.getfield 84, 3) := by decide +kernel
theorem dX1_ticketInside_14 : decode cX1_ticketInside 14 = .ok (.ifCond .eq 7, 3) := by decide +kernel
theorem dX1_ticketInside_17 : decode cX1_ticketInside 17 = .ok (.aconst_null, 1) := by decide +kernel
theorem dX1_ticketInside_18 : decode cX1_ticketInside 18 = .ok (.goto 4, 3) := by decide +kernel
theorem dX1_ticketInside_21 : decode cX1_ticketInside 21 = .ok (.aload_n 2, 1) := by decide +kernel
theorem dX1_ticketInside_22 : decode cX1_ticketInside 22 = .ok (.areturn, 1) := by decide +kernel
theorem dX1_makeVoucher_0 : decode cX1_makeVoucher 0 = .ok (.aload_n 0, 1) := by decide +kernel
theorem dX1_makeVoucher_1 : decode cX1_makeVoucher 1 = .ok (.getfield 66, 3) := by decide +kernel
theorem dX1_makeVoucher_4 : decode cX1_makeVoucher 4 = .ok (.bipush 10, 2) := by decide +kernel
theorem dX1_makeVoucher_6 : decode cX1_makeVoucher 6 = .ok (.if_icmp .lt 6, 3) := by decide +kernel
theorem dX1_makeVoucher_9 : decode cX1_makeVoucher 9 = .ok (.bipush (-3), 2) := by decide +kernel
theorem dX1_makeVoucher_11 : decode cX1_makeVoucher 11 = .ok (.ireturn, 1) := by decide +kernel
theorem dX1_makeVoucher_12 : decode cX1_makeVoucher 12 = .ok (.aload_n 0, 1) := by decide +kernel
theorem dX1_makeVoucher_13 : decode cX1_makeVoucher 13 = .ok (.getfield 19, 3) := by decide +kernel
theorem dX1_makeVoucher_16 : decode cX1_makeVoucher 16 = .ok (.aload_n 0, 1) := by decide +kernel
theorem dX1_makeVoucher_17 : decode cX1_makeVoucher 17 = .ok (.getfield 66, 3) := by decide +kernel
theorem dX1_makeVoucher_20 : decode cX1_makeVoucher 20 = .ok (.aaload, 1) := by decide +kernel
theorem dX1_makeVoucher_21 : decode cX1_makeVoucher 21 = .ok (.iload_n 1, 1) := by decide +kernel
theorem dX1_makeVoucher_22 : decode cX1_makeVoucher 22 = .ok (.iload_n 2, 1) := by decide +kernel
theorem dX1_makeVoucher_23 : decode cX1_makeVoucher 23 = .ok (.invokevirtual 88, 3) := by decide +kernel
theorem dX1_makeVoucher_26 : decode cX1_makeVoucher 26 = .ok (.aload_n 0, 1) := by decide +kernel
theorem dX1_makeVoucher_27 : decode cX1_makeVoucher 27 = .ok (.dup, 1) := by decide +kernel
theorem dX1_makeVoucher_28 : decode cX1_makeVoucher 28 = .ok (.getfield 66, 3) := by decide +kernel
theorem dX1_makeVoucher_31 : decode cX1_makeVoucher 31 = .ok (.iconst 1, 1) := by decide +kernel
theorem dX1_makeVoucher_32 : decode cX1_makeVoucher 32 = .ok (.iadd, 1) := by decide +kernel
theorem dX1_makeVoucher_33 : decode cX1_makeVoucher 33 = .ok (.putfield 66, 3) := by decide +kernel
theorem dX1_makeVoucher_36 : decode cX1_makeVoucher 36 = .ok (.aload_n 0, 1) := by decide +kernel
theorem dX1_makeVoucher_37 : decode cX1_makeVoucher 37 = .ok (.getfield 66, 3) := by decide +kernel
theorem dX1_makeVoucher_40 : decode cX1_makeVoucher 40 = .ok (.iconst 1, 1) := by decide +kernel
theorem dX1_makeVoucher_41 : decode cX1_makeVoucher 41 = .ok (.isub, 1) := by decide +kernel
theorem dX1_makeVoucher_42 : decode cX1_makeVoucher 42 = .ok (.ireturn, 1) := by decide +kernel
theorem dX1_voucherInFolder_0 : decode cX1_voucherInFolder 0 = .ok (.aload_n 0, 1) := by decide +kernel
theorem dX1_voucherInFolder_1 : decode cX1_voucherInFolder 1 = .ok (.iload_n 1, 1) := by decide +kernel
theorem dX1_voucherInFolder_2 : decode cX1_voucherInFolder 2 = .ok (.invokevirtual 92, 3) := by decide +kernel
theorem dX1_voucherInFolder_5 : decode cX1_voucherInFolder 5 = .ok (.astore_n 3, 1) := by decide +kernel
theorem dX1_voucherInFolder_6 : decode cX1_voucherInFolder 6 = .ok (.aload_n 3, 1) := by decide +kernel
theorem dX1_voucherInFolder_7 : decode cX1_voucherInFolder 7 = .ok (.ifnonnull 7, 3) := by decide +kernel
theorem dX1_voucherInFolder_10 : decode cX1_voucherInFolder 10 = .ok (.iconst (-1), 1) := by decide +kernel
theorem dX1_voucherInFolder_11 : decode cX1_voucherInFolder 11 = .ok (.goto 8, 3) := by decide +kernel
theorem dX1_voucherInFolder_14 : decode cX1_voucherInFolder 14 = .ok (.aload_n 3, 1) := by decide +kernel
theorem dX1_voucherInFolder_15 : decode cX1_voucherInFolder 15 = .ok (.iload_n 2, 1) := by decide +kernel
theorem dX1_voucherInFolder_16 : decode cX1_voucherInFolder 16 = .ok (.invokevirtual 96, 3) := by decide +kernel
theorem dX1_voucherInFolder_19 : decode cX1_voucherInFolder 19 = .ok (.ireturn, 1) := by decide +kernel
theorem dX1_admitCar_0 : decode cX1_admitCar 0 = .ok (.aload_n 0, 1) := by decide +kernel
theorem dX1_admitCar_1 : decode cX1_admitCar 1 = .ok (.invokevirtual 100, 3) := by decide +kernel
theorem dX1_admitCar_4 : decode cX1_admitCar 4 = .ok (.istore_n 2, 1) := by decide +kernel
theorem dX1_admitCar_5 : decode cX1_admitCar 5 = .ok (.aload_n 0, 1) := by decide +kernel
theorem dX1_admitCar_6 : decode cX1_admitCar 6 = .ok (.iload_n 2, 1) := by decide +kernel
theorem dX1_admitCar_7 : decode cX1_admitCar 7 = .ok (.invokevirtual 104, 3) := by decide +kernel
theorem dX1_admitCar_10 : decode cX1_admitCar 10 = .ok (.astore_n 3, 1) := by decide +kernel
theorem dX1_admitCar_11 : decode cX1_admitCar 11 = .ok (.aload_n 3, 1) := by decide +kernel
theorem dX1_admitCar_12 : decode cX1_admitCar 12 = .ok (.ifnull 22, 3) := by decide +kernel
theorem dX1_admitCar_15 : decode cX1_admitCar 15 = .ok (.aload_n 0, 1) := by decide +kernel
theorem dX1_admitCar_16 : decode cX1_admitCar 16 = .ok (.invokevirtual 108, 3) := by decide +kernel
theorem dX1_admitCar_19 : decode cX1_admitCar 19 = .ok (.bipush 40, 2) := by decide +kernel
theorem dX1_admitCar_21 : decode cX1_admitCar 21 = .ok (.if_icmp .ge 13, 3) := by decide +kernel
theorem dX1_admitCar_24 : decode cX1_admitCar 24 = .ok (.aload_n 0, 1) := by decide +kernel
theorem dX1_admitCar_25 : decode cX1_admitCar 25 = .ok (.getfield 59, 3) := by decide +kernel
theorem dX1_admitCar_28 : decode cX1_admitCar 28 = .ok (.sipush 512, 3) := by decide +kernel
theorem dX1_admitCar_31 : decode cX1_admitCar 31 = .ok (.if_icmp .lt 6, 3) := by decide +kernel
theorem dX1_admitCar_34 : decode cX1_admitCar 34 = .ok (.bipush (-3), 2) := by decide +kernel
theorem dX1_admitCar_36 : decode cX1_admitCar 36 = .ok (.ireturn, 1) := by decide +kernel
theorem dX1_admitCar_37 : decode cX1_admitCar 37 = .ok (.aload_n 3, 1) := by decide +kernel
theorem dX1_admitCar_38 : decode cX1_admitCar 38 = .ok (.invokevirtual 111, 3) := by decide +kernel
theorem dX1_admitCar_41 : decode cX1_admitCar 41 = .ok (.aload_n 0, 1) := by decide +kernel
theorem dX1_admitCar_42 : decode cX1_admitCar 42 = .ok (.getfield 37, 3) := by decide +kernel
theorem dX1_admitCar_45 : decode cX1_admitCar 45 = .ok (.aload_n 0, 1) := by decide +kernel
theorem dX1_admitCar_46 : decode cX1_admitCar 46 = .ok (.getfield 59, 3) := by decide +kernel
theorem dX1_admitCar_49 : decode cX1_admitCar 49 = .ok (.aaload, 1) := by decide +kernel
theorem dX1_admitCar_50 : decode cX1_admitCar 50 = .ok (.iload_n 1, 1) := by decide +kernel
theorem dX1_admitCar_51 : decode cX1_admitCar 51 = .ok (.aload_n 0, 1) := by decide +kernel
theorem dX1_admitCar_52 : decode cX1_admitCar 52 = .ok (.getfield 69, 3) := by decide +kernel
theorem dX1_admitCar_55 : decode cX1_admitCar 55 = .ok (.iload_n 2, 1) := by decide +kernel
theorem dX1_admitCar_56 : decode cX1_admitCar 56 = .ok (.invokevirtual 114, 3) := by decide +kernel
theorem dX1_admitCar_59 : decode cX1_admitCar 59 = .ok (.aload_n 0, 1) := by decide +kernel
theorem dX1_admitCar_60 : decode cX1_admitCar 60 = .ok (.dup, 1) := by decide +kernel
theorem dX1_admitCar_61 : decode cX1_admitCar 61 = .ok (.getfield 59, 3) := by decide +kernel
theorem dX1_admitCar_64 : decode cX1_admitCar 64 = .ok (.iconst 1, 1) := by decide +kernel
theorem dX1_admitCar_65 : decode cX1_admitCar 65 = .ok (.iadd, 1) := by decide +kernel
theorem dX1_admitCar_66 : decode cX1_admitCar 66 = .ok (.putfield 59, 3) := by decide +kernel
theorem dX1_admitCar_69 : decode cX1_admitCar 69 = .ok (.aload_n 0, 1) := by decide +kernel
theorem dX1_admitCar_70 : decode cX1_admitCar 70 = .ok (.getfield 59, 3) := by decide +kernel
theorem dX1_admitCar_73 : decode cX1_admitCar 73 = .ok (.iconst 1, 1) := by decide +kernel
theorem dX1_admitCar_74 : decode cX1_admitCar 74 = .ok (.isub, 1) := by decide +kernel
theorem dX1_admitCar_75 : decode cX1_admitCar 75 = .ok (.ireturn, 1) := by decide +kernel
theorem dX1_bestLevel_0 : decode cX1_bestLevel 0 = .ok (.iconst (-1), 1) := by decide +kernel
theorem dX1_bestLevel_1 : decode cX1_bestLevel 1 = .ok (.istore_n 1, 1) := by decide +kernel
theorem dX1_bestLevel_2 : decode cX1_bestLevel 2 = .ok (.fconst 0, 1) := by decide +kernel
theorem dX1_bestLevel_3 : decode cX1_bestLevel 3 = .ok (.fstore_n 2, 1) := by decide +kernel
theorem dX1_bestLevel_4 : decode cX1_bestLevel 4 = .ok (.iconst 0, 1) := by decide +kernel
theorem dX1_bestLevel_5 : decode cX1_bestLevel 5 = .ok (.istore_n 3, 1) := by decide +kernel
theorem dX1_bestLevel_6 : decode cX1_bestLevel 6 = .ok (.iload_n 3, 1) := by decide +kernel
theorem dX1_bestLevel_7 : decode cX1_bestLevel 7 = .ok (.iconst 4, 1) := by decide +kernel
theorem dX1_bestLevel_8 : decode cX1_bestLevel 8 = .ok (.if_icmp .ge 49, 3) := by decide +kernel
theorem dX1_bestLevel_11 : decode cX1_bestLevel 11 = .ok (.aload_n 0, 1) := by decide +kernel
theorem dX1_bestLevel_12 : decode cX1_bestLevel 12 = .ok (.getfield 31, 3) := by decide +kernel
theorem dX1_bestLevel_15 : decode cX1_bestLevel 15 = .ok (.iload_n 3, 1) := by decide +kernel
theorem dX1_bestLevel_16 : decode cX1_bestLevel 16 = .ok (.aaload, 1) := by decide +kernel
theorem dX1_bestLevel_17 : decode cX1_bestLevel 17 = .ok (.invokevirtual 117, 3) := by decide +kernel
theorem dX1_bestLevel_20 : decode cX1_bestLevel 20 = .ok (.fstore 4, 2) := by decide +kernel
theorem dX1_bestLevel_22 : decode cX1_bestLevel 22 = .ok (.aload_n 0, 1) := by decide +kernel
theorem dX1_bestLevel_23 : decode cX1_bestLevel 23 = .ok (.getfield 31, 3) := by decide +kernel
theorem dX1_bestLevel_26 : decode cX1_bestLevel 26 = .ok (.iload_n 3, 1) := by decide +kernel
theorem dX1_bestLevel_27 : decode cX1_bestLevel 27 = .ok (.aaload, 1) := by decide +kernel
theorem dX1_bestLevel_28 : decode cX1_bestLevel 28 = .ok (.invokevirtual 121, 3) := by decide +kernel
theorem dX1_bestLevel_31 : decode cX1_bestLevel 31 = .ok (.ifCond .le 20, 3) := by decide +kernel
theorem dX1_bestLevel_34 : decode cX1_bestLevel 34 = .ok (.iload_n 1, 1) := by decide +kernel
theorem dX1_bestLevel_35 : decode cX1_bestLevel 35 = .ok (.iconst (-1), 1) := by decide +kernel
theorem dX1_bestLevel_36 : decode cX1_bestLevel 36 = .ok (.if_icmp .eq 10, 3) := by decide +kernel
theorem dX1_bestLevel_39 : decode cX1_bestLevel 39 = .ok (.fload 4, 2) := by decide +kernel
theorem dX1_bestLevel_41 : decode cX1_bestLevel 41 = .ok (.fload_n 2, 1) := by decide +kernel
theorem dX1_bestLevel_42 : decode cX1_bestLevel 42 = .ok (.fcmp .l, 1) := by decide +kernel
theorem dX1_bestLevel_43 : decode cX1_bestLevel 43 = .ok (.ifCond .le 8, 3) := by decide +kernel
theorem dX1_bestLevel_46 : decode cX1_bestLevel 46 = .ok (.iload_n 3, 1) := by decide +kernel
theorem dX1_bestLevel_47 : decode cX1_bestLevel 47 = .ok (.istore_n 1, 1) := by decide +kernel
theorem dX1_bestLevel_48 : decode cX1_bestLevel 48 = .ok (.fload 4, 2) := by decide +kernel
theorem dX1_bestLevel_50 : decode cX1_bestLevel 50 = .ok (.fstore_n 2, 1) := by decide +kernel
theorem dX1_bestLevel_51 : decode cX1_bestLevel 51 = .ok (.iinc 3 1, 3) := by decide +kernel
theorem dX1_bestLevel_54 : decode cX1_bestLevel 54 = .ok (.goto (-48), 3) := by decide +kernel
theorem dX1_bestLevel_57 : decode cX1_bestLevel 57 = .ok (.iload_n 1, 1) := by decide +kernel
theorem dX1_bestLevel_58 : decode cX1_bestLevel 58 = .ok (.ireturn, 1) := by decide +kernel
theorem dX1_releaseCar_0 : decode cX1_releaseCar 0 = .ok (.aload_n 1, 1) := by decide +kernel
theorem dX1_releaseCar_1 : decode cX1_releaseCar 1 = .ok (.iconst 1, 1) := by decide +kernel
theorem dX1_releaseCar_2 : decode cX1_releaseCar 2 = .ok (.putfield 84, 3) := by decide +kernel
theorem dX1_releaseCar_5 : decode cX1_releaseCar 5 = .ok (.aload_n 0, 1) := by decide +kernel
theorem dX1_releaseCar_6 : decode cX1_releaseCar 6 = .ok (.aload_n 1, 1) := by decide +kernel
theorem dX1_releaseCar_7 : decode cX1_releaseCar 7 = .ok (.getfield 124, 3) := by decide +kernel
theorem dX1_releaseCar_10 : decode cX1_releaseCar 10 = .ok (.invokevirtual 104, 3) := by decide +kernel
theorem dX1_releaseCar_13 : decode cX1_releaseCar 13 = .ok (.astore_n 2, 1) := by decide +kernel
theorem dX1_releaseCar_14 : decode cX1_releaseCar 14 = .ok (.aload_n 2, 1) := by decide +kernel
theorem dX1_releaseCar_15 : decode cX1_releaseCar 15 = .ok (.ifnull 7, 3) := by decide +kernel
theorem dX1_releaseCar_18 : decode cX1_releaseCar 18 = .ok (.aload_n 2, 1) := by decide +kernel
theorem dX1_releaseCar_19 : decode cX1_releaseCar 19 = .ok (.invokevirtual 127, 3) := by decide +kernel
theorem dX1_releaseCar_22 : decode cX1_releaseCar 22 = .ok (.return_, 1) := by decide +kernel
theorem dX1_dueAmount_0 : decode cX1_dueAmount 0 = .ok (.aload_n 1, 1) := by decide +kernel
theorem dX1_dueAmount_1 : decode cX1_dueAmount 1 = .ok (.getfield 130, 3) := by decide +kernel
theorem dX1_dueAmount_4 : decode cX1_dueAmount 4 = .ok (.ifCond .eq 12, 3) := by decide +kernel
theorem dX1_dueAmount_7 : decode cX1_dueAmount 7 = .ok (.aload_n 0, 1) := by decide +kernel
theorem dX1_dueAmount_8 : decode cX1_dueAmount 8 = .ok (.aload_n 1, 1) := by decide +kernel
theorem dX1_dueAmount_9 : decode cX1_dueAmount 9 = .ok (.iload_n 2, 1) := by decide +kernel
theorem dX1_dueAmount_10 : decode cX1_dueAmount 10 = .ok (.invokevirtual 133, 3) := by decide +kernel
theorem dX1_dueAmount_13 : decode cX1_dueAmount 13 = .ok (.goto 10, 3) := by decide +kernel
theorem dX1_dueAmount_16 : decode cX1_dueAmount 16 = .ok (.aload_n 0, 1) := by decide +kernel
theorem dX1_dueAmount_17 : decode cX1_dueAmount 17 = .ok (.aload_n 1, 1) := by decide +kernel
theorem dX1_dueAmount_18 : decode cX1_dueAmount 18 = .ok (.iload_n 2, 1) := by decide +kernel
theorem dX1_dueAmount_19 : decode cX1_dueAmount 19 = .ok (.iconst 4, 1) := by decide +kernel
theorem dX1_dueAmount_20 : decode cX1_dueAmount 20 = .ok (.invokevirtual 137, 3) := by decide +kernel
theorem dX1_dueAmount_23 : decode cX1_dueAmount 23 = .ok (.istore_n 3, 1) := by decide +kernel
theorem dX1_dueAmount_24 : decode cX1_dueAmount 24 = .ok (.iconst 0, 1) := by decide +kernel
theorem dX1_dueAmount_25 : decode cX1_dueAmount 25 = .ok (.iload_n 3, 1) := by decide +kernel
theorem dX1_dueAmount_26 : decode cX1_dueAmount 26 = .ok (.aload_n 1, 1) := by decide +kernel
theorem dX1_dueAmount_27 : decode cX1_dueAmount 27 = .ok (.getfield 141, 3) := by decide +kernel
theorem dX1_dueAmount_30 : decode cX1_dueAmount 30 = .ok (.isub, 1) := by decide +kernel
theorem dX1_dueAmount_31 : decode cX1_dueAmount 31 = .ok (.invokestatic 144, 3) := by decide +kernel
theorem dX1_dueAmount_34 : decode cX1_dueAmount 34 = .ok (.ireturn, 1) := by decide +kernel
theorem dX1_amountOfLost_0 : decode cX1_amountOfLost 0 = .ok (.aload_n 0, 1) := by decide +kernel
theorem dX1_amountOfLost_1 : decode cX1_amountOfLost 1 = .ok (.aload_n 1, 1) := by decide +kernel
theorem dX1_amountOfLost_2 : decode cX1_amountOfLost 2 = .ok (.getfield 150, 3) := by decide +kernel
theorem dX1_amountOfLost_5 : decode cX1_amountOfLost 5 = .ok (.invokevirtual 153, 3) := by decide +kernel
theorem dX1_amountOfLost_8 : decode cX1_amountOfLost 8 = .ok (.astore_n 3, 1) := by decide +kernel
theorem dX1_amountOfLost_9 : decode cX1_amountOfLost 9 = .ok (.aload_n 3, 1) := by decide +kernel
theorem dX1_amountOfLost_10 : decode cX1_amountOfLost 10 = .ok (.ifnonnull 5, 3) := by decide +kernel
theorem dX1_amountOfLost_13 : decode cX1_amountOfLost 13 = .ok (.iconst 0, 1) := by decide +kernel
theorem dX1_amountOfLost_14 : decode cX1_amountOfLost 14 = .ok (.ireturn, 1) := by decide +kernel
theorem dX1_amountOfLost_15 : decode cX1_amountOfLost 15 = .ok (.aload_n 3, 1) := by decide +kernel
theorem dX1_amountOfLost_16 : decode cX1_amountOfLost 16 = .ok (.getfield 157, 3) := by decide +kernel
theorem dX1_amountOfLost_19 : decode cX1_amountOfLost 19 = .ok (.aload_n 3, 1) := by decide +kernel
theorem dX1_amountOfLost_20 : decode cX1_amountOfLost 20 = .ok (.aload_n 1, 1) := by decide +kernel
theorem dX1_amountOfLost_21 : decode cX1_amountOfLost 21 = .ok (.getfield 160, 3) := by decide +kernel
theorem dX1_amountOfLost_24 : decode cX1_amountOfLost 24 = .ok (.iload_n 2, 1) := by decide +kernel
theorem dX1_amountOfLost_25 : decode cX1_amountOfLost 25 = .ok (.invokevirtual 163, 3) := by decide +kernel
theorem dX1_amountOfLost_28 : decode cX1_amountOfLost 28 = .ok (.invokestatic 144, 3) := by decide +kernel
theorem dX1_amountOfLost_31 : decode cX1_amountOfLost 31 = .ok (.ireturn, 1) := by decide +kernel
theorem dX1_amountAfter_0 : decode cX1_amountAfter 0 = .ok (.aload_n 0, 1) := by decide +kernel
theorem dX1_amountAfter_1 : decode cX1_amountAfter 1 = .ok (.aload_n 1, 1) := by decide +kernel
theorem dX1_amountAfter_2 : decode cX1_amountAfter 2 = .ok (.iload_n 2, 1) := by decide +kernel
theorem dX1_amountAfter_3 : decode cX1_amountAfter 3 = .ok (.invokevirtual 166, 3) := by decide +kernel
theorem dX1_amountAfter_6 : decode cX1_amountAfter 6 = .ok (.istore 4, 2) := by decide +kernel
theorem dX1_amountAfter_8 : decode cX1_amountAfter 8 = .ok (.iconst 0, 1) := by decide +kernel
theorem dX1_amountAfter_9 : decode cX1_amountAfter 9 = .ok (.istore 5, 2) := by decide +kernel
theorem dX1_amountAfter_11 : decode cX1_amountAfter 11 = .ok (.iconst 0, 1) := by decide +kernel
theorem dX1_amountAfter_12 : decode cX1_amountAfter 12 = .ok (.istore 6, 2) := by decide +kernel
theorem dX1_amountAfter_14 : decode cX1_amountAfter 14 = .ok (.iload 6, 2) := by decide +kernel
theorem dX1_amountAfter_16 : decode cX1_amountAfter 16 = .ok (.aload_n 1, 1) := by decide +kernel
theorem dX1_amountAfter_17 : decode cX1_amountAfter 17 = .ok (.getfield 169, 3) := by decide +kernel
theorem dX1_amountAfter_20 : decode cX1_amountAfter 20 = .ok (.if_icmp .ge 52, 3) := by decide +kernel
theorem dX1_amountAfter_23 : decode cX1_amountAfter 23 = .ok (.iload 5, 2) := by decide +kernel
theorem dX1_amountAfter_25 : decode cX1_amountAfter 25 = .ok (.iload_n 3, 1) := by decide +kernel
theorem dX1_amountAfter_26 : decode cX1_amountAfter 26 = .ok (.if_icmp .ge 46, 3) := by decide +kernel
theorem dX1_amountAfter_29 : decode cX1_amountAfter 29 = .ok (.aload_n 0, 1) := by decide +kernel
theorem dX1_amountAfter_30 : decode cX1_amountAfter 30 = .ok (.aload_n 1, 1) := by decide +kernel
theorem dX1_amountAfter_31 : decode cX1_amountAfter 31 = .ok (.iload 6, 2) := by decide +kernel
theorem dX1_amountAfter_33 : decode cX1_amountAfter 33 = .ok (.invokevirtual 170, 3) := by decide +kernel
theorem dX1_amountAfter_36 : decode cX1_amountAfter 36 = .ok (.invokevirtual 173, 3) := by decide +kernel
theorem dX1_amountAfter_39 : decode cX1_amountAfter 39 = .ok (.astore 7, 2) := by decide +kernel
theorem dX1_amountAfter_41 : decode cX1_amountAfter 41 = .ok (.aload 7, 2) := by decide +kernel
theorem dX1_amountAfter_43 : decode cX1_amountAfter 43 = .ok (.ifnull 23, 3) := by decide +kernel
theorem dX1_amountAfter_46 : decode cX1_amountAfter 46 = .ok (.aload 7, 2) := by decide +kernel
theorem dX1_amountAfter_48 : decode cX1_amountAfter 48 = .ok (.getfield 177, 3) := by decide +kernel
theorem dX1_amountAfter_51 : decode cX1_amountAfter 51 = .ok (.ifCond .eq 15, 3) := by decide +kernel
theorem dX1_amountAfter_54 : decode cX1_amountAfter 54 = .ok (.aload 7, 2) := by decide +kernel
theorem dX1_amountAfter_56 : decode cX1_amountAfter 56 = .ok (.iload 4, 2) := by decide +kernel
theorem dX1_amountAfter_58 : decode cX1_amountAfter 58 = .ok (.invokevirtual 180, 3) := by decide +kernel
theorem dX1_amountAfter_61 : decode cX1_amountAfter 61 = .ok (.istore 4, 2) := by decide +kernel
theorem dX1_amountAfter_63 : decode cX1_amountAfter 63 = .ok (.iinc 5 1, 3) := by decide +kernel
theorem dX1_amountAfter_66 : decode cX1_amountAfter 66 = .ok (.iinc 6 1, 3) := by decide +kernel
theorem dX1_amountAfter_69 : decode cX1_amountAfter 69 = .ok (.goto (-55), 3) := by decide +kernel
theorem dX1_amountAfter_72 : decode cX1_amountAfter 72 = .ok (.iload 4, 2) := by decide +kernel
theorem dX1_amountAfter_74 : decode cX1_amountAfter 74 = .ok (.ireturn, 1) := by decide +kernel
theorem dX1_feeOfShortenedStay_0 : decode cX1_feeOfShortenedStay 0 = .ok (.aload_n 0, 1) := by decide +kernel
theorem dX1_feeOfShortenedStay_1 : decode cX1_feeOfShortenedStay 1 = .ok (.aload_n 1, 1) := by decide +kernel
theorem dX1_feeOfShortenedStay_2 : decode cX1_feeOfShortenedStay 2 = .ok (.getfield 150, 3) := by decide +kernel
theorem dX1_feeOfShortenedStay_5 : decode cX1_feeOfShortenedStay 5 = .ok (.invokevirtual 153, 3) := by decide +kernel
theorem dX1_feeOfShortenedStay_8 : decode cX1_feeOfShortenedStay 8 = .ok (.astore_n 3, 1) := by decide +kernel
theorem dX1_feeOfShortenedStay_9 : decode cX1_feeOfShortenedStay 9 = .ok (.aload_n 1, 1) := by decide +kernel
theorem dX1_feeOfShortenedStay_10 : decode cX1_feeOfShortenedStay 10 = .ok (.getfield 160, 3) := by decide +kernel
theorem dX1_feeOfShortenedStay_13 : decode cX1_feeOfShortenedStay 13 = .ok (.aload_n 0, 1) := by decide +kernel
theorem dX1_feeOfShortenedStay_14 : decode cX1_feeOfShortenedStay 14 = .ok (.aload_n 1, 1) := by decide +kernel
theorem dX1_feeOfShortenedStay_15 : decode cX1_feeOfShortenedStay 15 = .ok (.invokevirtual 183, 3) := by decide +kernel
theorem dX1_feeOfShortenedStay_18 : decode cX1_feeOfShortenedStay 18 = .ok (.iadd, 1) := by decide +kernel
theorem dX1_feeOfShortenedStay_19 : decode cX1_feeOfShortenedStay 19 = .ok (.istore 4, 2) := by decide +kernel
theorem dX1_feeOfShortenedStay_21 : decode cX1_feeOfShortenedStay 21 = .ok (.aload_n 3, 1) := by decide +kernel
theorem dX1_feeOfShortenedStay_22 : decode cX1_feeOfShortenedStay 22 = .ok (.ifnull 9, 3) := by decide +kernel
theorem dX1_feeOfShortenedStay_25 : decode cX1_feeOfShortenedStay 25 = .ok (.iload 4, 2) := by decide +kernel
theorem dX1_feeOfShortenedStay_27 : decode cX1_feeOfShortenedStay 27 = .ok (.iload_n 2, 1) := by decide +kernel
theorem dX1_feeOfShortenedStay_28 : decode cX1_feeOfShortenedStay 28 = .ok (.if_icmp .lt 7, 3) := by decide +kernel
theorem dX1_feeOfShortenedStay_31 : decode cX1_feeOfShortenedStay 31 = .ok (.iconst 0, 1) := by decide +kernel
theorem dX1_feeOfShortenedStay_32 : decode cX1_feeOfShortenedStay 32 = .ok (.goto 10, 3) := by decide +kernel
theorem dX1_feeOfShortenedStay_35 : decode cX1_feeOfShortenedStay 35 = .ok (.aload_n 3, 1) := by decide +kernel
theorem dX1_feeOfShortenedStay_36 : decode cX1_feeOfShortenedStay 36 = .ok (.iload 4, 2) := by decide +kernel
theorem dX1_feeOfShortenedStay_38 : decode cX1_feeOfShortenedStay 38 = .ok (.iload_n 2, 1) := by decide +kernel
theorem dX1_feeOfShortenedStay_39 : decode cX1_feeOfShortenedStay 39 = .ok (.invokevirtual 163, 3) := by decide +kernel
theorem dX1_feeOfShortenedStay_42 : decode cX1_feeOfShortenedStay 42 = .ok (.ireturn, 1) := by decide +kernel
theorem dX1_minutesGiven_0 : decode cX1_minutesGiven 0 = .ok (.iconst 0, 1) := by decide +kernel
theorem dX1_minutesGiven_1 : decode cX1_minutesGiven 1 = .ok (.istore_n 2, 1) := by decide +kernel
theorem dX1_minutesGiven_2 : decode cX1_minutesGiven 2 = .ok (.iconst 0, 1) := by decide +kernel
theorem dX1_minutesGiven_3 : decode cX1_minutesGiven 3 = .ok (.istore_n 3, 1) := by decide +kernel
theorem dX1_minutesGiven_4 : decode cX1_minutesGiven 4 = .ok (.iload_n 3, 1) := by decide +kernel
theorem dX1_minutesGiven_5 : decode cX1_minutesGiven 5 = .ok (.aload_n 1, 1) := by decide +kernel
theorem dX1_minutesGiven_6 : decode cX1_minutesGiven 6 = .ok (.getfield 169, 3) := by decide +kernel
theorem dX1_minutesGiven_9 : decode cX1_minutesGiven 9 = .ok (.if_icmp .ge 41, 3) := by decide +kernel
theorem dX1_minutesGiven_12 : decode cX1_minutesGiven 12 = .ok (.aload_n 0, 1) := by decide +kernel
theorem dX1_minutesGiven_13 : decode cX1_minutesGiven 13 = .ok (.aload_n 1, 1) := by decide +kernel
theorem dX1_minutesGiven_14 : decode cX1_minutesGiven 14 = .ok (.iload_n 3, 1) := by decide +kernel
theorem dX1_minutesGiven_15 : decode cX1_minutesGiven 15 = .ok (.invokevirtual 170, 3) := by decide +kernel
theorem dX1_minutesGiven_18 : decode cX1_minutesGiven 18 = .ok (.invokevirtual 173, 3) := by decide +kernel
theorem dX1_minutesGiven_21 : decode cX1_minutesGiven 21 = .ok (.astore 4, 2) := by decide +kernel
theorem dX1_minutesGiven_23 : decode cX1_minutesGiven 23 = .ok (.aload 4, 2) := by decide +kernel
theorem dX1_minutesGiven_25 : decode cX1_minutesGiven 25 = .ok (.ifnull 19, 3) := by decide +kernel
theorem dX1_minutesGiven_28 : decode cX1_minutesGiven 28 = .ok (.aload 4, 2) := by decide +kernel
theorem dX1_minutesGiven_30 : decode cX1_minutesGiven 30 = .ok (.getfield 177, 3) := by decide +kernel
theorem dX1_minutesGiven_33 : decode cX1_minutesGiven 33 = .ok (.ifCond .ne 11, 3) := by decide +kernel
theorem dX1_minutesGiven_36 : decode cX1_minutesGiven 36 = .ok (.iload_n 2, 1) := by decide +kernel
theorem dX1_minutesGiven_37 : decode cX1_minutesGiven 37 = .ok (.aload 4, 2) := by decide +kernel
theorem dX1_minutesGiven_39 : decode cX1_minutesGiven 39 = .ok (.getfield 187, 3) := by decide +kernel
theorem dX1_minutesGiven_42 : decode cX1_minutesGiven 42 = .ok (.iadd, 1) := by decide +kernel
theorem dX1_minutesGiven_43 : decode cX1_minutesGiven 43 = .ok (.istore_n 2, 1) := by decide +kernel
theorem dX1_minutesGiven_44 : decode cX1_minutesGiven 44 = .ok (.iinc 3 1, 3) := by decide +kernel
theorem dX1_minutesGiven_47 : decode cX1_minutesGiven 47 = .ok (.goto (-43), 3) := by decide +kernel
theorem dX1_minutesGiven_50 : decode cX1_minutesGiven 50 = .ok (.iload_n 2, 1) := by decide +kernel
theorem dX1_minutesGiven_51 : decode cX1_minutesGiven 51 = .ok (.ireturn, 1) := by decide +kernel
theorem dX1_lastStep_0 : decode cX1_lastStep 0 = .ok (.iconst 0, 1) := by decide +kernel
theorem dX1_lastStep_1 : decode cX1_lastStep 1 = .ok (.istore_n 2, 1) := by decide +kernel
theorem dX1_lastStep_2 : decode cX1_lastStep 2 = .ok (.iconst 0, 1) := by decide +kernel
theorem dX1_lastStep_3 : decode cX1_lastStep 3 = .ok (.istore_n 3, 1) := by decide +kernel
theorem dX1_lastStep_4 : decode cX1_lastStep 4 = .ok (.iload_n 3, 1) := by decide +kernel
theorem dX1_lastStep_5 : decode cX1_lastStep 5 = .ok (.aload_n 1, 1) := by decide +kernel
theorem dX1_lastStep_6 : decode cX1_lastStep 6 = .ok (.getfield 169, 3) := by decide +kernel
theorem dX1_lastStep_9 : decode cX1_lastStep 9 = .ok (.if_icmp .ge 36, 3) := by decide +kernel
theorem dX1_lastStep_12 : decode cX1_lastStep 12 = .ok (.aload_n 0, 1) := by decide +kernel
theorem dX1_lastStep_13 : decode cX1_lastStep 13 = .ok (.aload_n 1, 1) := by decide +kernel
theorem dX1_lastStep_14 : decode cX1_lastStep 14 = .ok (.iload_n 3, 1) := by decide +kernel
theorem dX1_lastStep_15 : decode cX1_lastStep 15 = .ok (.invokevirtual 170, 3) := by decide +kernel
theorem dX1_lastStep_18 : decode cX1_lastStep 18 = .ok (.invokevirtual 173, 3) := by decide +kernel
theorem dX1_lastStep_21 : decode cX1_lastStep 21 = .ok (.astore 4, 2) := by decide +kernel
theorem dX1_lastStep_23 : decode cX1_lastStep 23 = .ok (.aload 4, 2) := by decide +kernel
theorem dX1_lastStep_25 : decode cX1_lastStep 25 = .ok (.ifnull 14, 3) := by decide +kernel
theorem dX1_lastStep_28 : decode cX1_lastStep 28 = .ok (.aload 4, 2) := by decide +kernel
theorem dX1_lastStep_30 : decode cX1_lastStep 30 = .ok (.getfield 177, 3) := by decide +kernel
theorem dX1_lastStep_33 : decode cX1_lastStep 33 = .ok (.ifCond .eq 6, 3) := by decide +kernel
theorem dX1_lastStep_36 : decode cX1_lastStep 36 = .ok (.iinc 2 1, 3) := by decide +kernel
theorem dX1_lastStep_39 : decode cX1_lastStep 39 = .ok (.iinc 3 1, 3) := by decide +kernel
theorem dX1_lastStep_42 : decode cX1_lastStep 42 = .ok (.goto (-38), 3) := by decide +kernel
theorem dX1_lastStep_45 : decode cX1_lastStep 45 = .ok (.iload_n 2, 1) := by decide +kernel
theorem dX1_lastStep_46 : decode cX1_lastStep 46 = .ok (.ireturn, 1) := by decide +kernel
theorem dX1_moveClock_0 : decode cX1_moveClock 0 = .ok (.aload_n 0, 1) := by decide +kernel
theorem dX1_moveClock_1 : decode cX1_moveClock 1 = .ok (.getfield 69, 3) := by decide +kernel
theorem dX1_moveClock_4 : decode cX1_moveClock 4 = .ok (.iload_n 1, 1) := by decide +kernel
theorem dX1_moveClock_5 : decode cX1_moveClock 5 = .ok (.iadd, 1) := by decide +kernel
theorem dX1_moveClock_6 : decode cX1_moveClock 6 = .ok (.bipush 60, 2) := by decide +kernel
theorem dX1_moveClock_8 : decode cX1_moveClock 8 = .ok (.idiv, 1) := by decide +kernel
theorem dX1_moveClock_9 : decode cX1_moveClock 9 = .ok (.istore_n 2, 1) := by decide +kernel
theorem dX1_moveClock_10 : decode cX1_moveClock 10 = .ok (.aload_n 0, 1) := by decide +kernel
theorem dX1_moveClock_11 : decode cX1_moveClock 11 = .ok (.getfield 69, 3) := by decide +kernel
theorem dX1_moveClock_14 : decode cX1_moveClock 14 = .ok (.bipush 60, 2) := by decide +kernel
theorem dX1_moveClock_16 : decode cX1_moveClock 16 = .ok (.idiv, 1) := by decide +kernel
theorem dX1_moveClock_17 : decode cX1_moveClock 17 = .ok (.istore_n 3, 1) := by decide +kernel
theorem dX1_moveClock_18 : decode cX1_moveClock 18 = .ok (.iload_n 3, 1) := by decide +kernel
theorem dX1_moveClock_19 : decode cX1_moveClock 19 = .ok (.iload_n 2, 1) := by decide +kernel
theorem dX1_moveClock_20 : decode cX1_moveClock 20 = .ok (.if_icmp .ge 48, 3) := by decide +kernel
theorem dX1_moveClock_23 : decode cX1_moveClock 23 = .ok (.aload_n 0, 1) := by decide +kernel
theorem dX1_moveClock_24 : decode cX1_moveClock 24 = .ok (.getfield 31, 3) := by decide +kernel
theorem dX1_moveClock_27 : decode cX1_moveClock 27 = .ok (.astore 4, 2) := by decide +kernel
theorem dX1_moveClock_29 : decode cX1_moveClock 29 = .ok (.aload 4, 2) := by decide +kernel
theorem dX1_moveClock_31 : decode cX1_moveClock 31 = .ok (.arraylength, 1) := by decide +kernel
theorem dX1_moveClock_32 : decode cX1_moveClock 32 = .ok (.istore 5, 2) := by decide +kernel
theorem dX1_moveClock_34 : decode cX1_moveClock 34 = .ok (.iconst 0, 1) := by decide +kernel
theorem dX1_moveClock_35 : decode cX1_moveClock 35 = .ok (.istore 6, 2) := by decide +kernel
theorem dX1_moveClock_37 : decode cX1_moveClock 37 = .ok (.iload 6, 2) := by decide +kernel
theorem dX1_moveClock_39 : decode cX1_moveClock 39 = .ok (.iload 5, 2) := by decide +kernel
theorem dX1_moveClock_41 : decode cX1_moveClock 41 = .ok (.if_icmp .ge 21, 3) := by decide +kernel
theorem dX1_moveClock_44 : decode cX1_moveClock 44 = .ok (.aload 4, 2) := by decide +kernel
theorem dX1_moveClock_46 : decode cX1_moveClock 46 = .ok (.iload 6, 2) := by decide +kernel
theorem dX1_moveClock_48 : decode cX1_moveClock 48 = .ok (.aaload, 1) := by decide +kernel
theorem dX1_moveClock_49 : decode cX1_moveClock 49 = .ok (.astore 7, 2) := by decide +kernel
theorem dX1_moveClock_51 : decode cX1_moveClock 51 = .ok (.aload 7, 2) := by decide +kernel
theorem dX1_moveClock_53 : decode cX1_moveClock 53 = .ok (.invokevirtual 190, 3) := by decide +kernel
theorem dX1_moveClock_56 : decode cX1_moveClock 56 = .ok (.iinc 6 1, 3) := by decide +kernel
theorem dX1_moveClock_59 : decode cX1_moveClock 59 = .ok (.goto (-22), 3) := by decide +kernel
theorem dX1_moveClock_62 : decode cX1_moveClock 62 = .ok (.iinc 3 1, 3) := by decide +kernel
theorem dX1_moveClock_65 : decode cX1_moveClock 65 = .ok (.goto (-47), 3) := by decide +kernel
theorem dX1_moveClock_68 : decode cX1_moveClock 68 = .ok (.aload_n 0, 1) := by decide +kernel
theorem dX1_moveClock_69 : decode cX1_moveClock 69 = .ok (.dup, 1) := by decide +kernel
theorem dX1_moveClock_70 : decode cX1_moveClock 70 = .ok (.getfield 69, 3) := by decide +kernel
theorem dX1_moveClock_73 : decode cX1_moveClock 73 = .ok (.iload_n 1, 1) := by decide +kernel
theorem dX1_moveClock_74 : decode cX1_moveClock 74 = .ok (.iadd, 1) := by decide +kernel
theorem dX1_moveClock_75 : decode cX1_moveClock 75 = .ok (.putfield 69, 3) := by decide +kernel
theorem dX1_moveClock_78 : decode cX1_moveClock 78 = .ok (.return_, 1) := by decide +kernel
theorem dX1_carsInside_0 : decode cX1_carsInside 0 = .ok (.aload_n 0, 1) := by decide +kernel
theorem dX1_carsInside_1 : decode cX1_carsInside 1 = .ok (.getfield 59, 3) := by decide +kernel
theorem dX1_carsInside_4 : decode cX1_carsInside 4 = .ok (.aload_n 0, 1) := by decide +kernel
theorem dX1_carsInside_5 : decode cX1_carsInside 5 = .ok (.invokevirtual 193, 3) := by decide +kernel
theorem dX1_carsInside_8 : decode cX1_carsInside 8 = .ok (.isub, 1) := by decide +kernel
theorem dX1_carsInside_9 : decode cX1_carsInside 9 = .ok (.ireturn, 1) := by decide +kernel
theorem dX1_carsLeft_0 : decode cX1_carsLeft 0 = .ok (.iconst 0, 1) := by decide +kernel
theorem dX1_carsLeft_1 : decode cX1_carsLeft 1 = .ok (.istore_n 1, 1) := by decide +kernel
theorem dX1_carsLeft_2 : decode cX1_carsLeft 2 = .ok (.iconst 0, 1) := by decide +kernel
theorem dX1_carsLeft_3 : decode cX1_carsLeft 3 = .ok (.istore_n 2, 1) := by decide +kernel
theorem dX1_carsLeft_4 : decode cX1_carsLeft 4 = .ok (.iload_n 2, 1) := by decide +kernel
theorem dX1_carsLeft_5 : decode cX1_carsLeft 5 = .ok (.sipush 512, 3) := by decide +kernel
theorem dX1_carsLeft_8 : decode cX1_carsLeft 8 = .ok (.if_icmp .ge 37, 3) := by decide +kernel
theorem dX1_carsLeft_11 : decode cX1_carsLeft 11 = .ok (.iload_n 2, 1) := by decide +kernel
theorem dX1_carsLeft_12 : decode cX1_carsLeft 12 = .ok (.aload_n 0, 1) := by decide +kernel
theorem dX1_carsLeft_13 : decode cX1_carsLeft 13 = .ok (.getfield 59, 3) := by decide +kernel
theorem dX1_carsLeft_16 : decode cX1_carsLeft 16 = .ok (.if_icmp .ge 29, 3) := by decide +kernel
theorem dX1_carsLeft_19 : decode cX1_carsLeft 19 = .ok (.iload_n 1, 1) := by decide +kernel
theorem dX1_carsLeft_20 : decode cX1_carsLeft 20 = .ok (.aload_n 0, 1) := by decide +kernel
theorem dX1_carsLeft_21 : decode cX1_carsLeft 21 = .ok (.getfield 37, 3) := by decide +kernel
theorem dX1_carsLeft_24 : decode cX1_carsLeft 24 = .ok (.iload_n 2, 1) := by decide +kernel
theorem dX1_carsLeft_25 : decode cX1_carsLeft 25 = .ok (.aaload, 1) := by decide +kernel
theorem dX1_carsLeft_26 : decode cX1_carsLeft 26 = .ok (.getfield 84, 3) := by decide +kernel
theorem dX1_carsLeft_29 : decode cX1_carsLeft 29 = .ok (.ifCond .eq 7, 3) := by decide +kernel
theorem dX1_carsLeft_32 : decode cX1_carsLeft 32 = .ok (.iconst 1, 1) := by decide +kernel
theorem dX1_carsLeft_33 : decode cX1_carsLeft 33 = .ok (.goto 4, 3) := by decide +kernel
theorem dX1_carsLeft_36 : decode cX1_carsLeft 36 = .ok (.iconst 0, 1) := by decide +kernel
theorem dX1_carsLeft_37 : decode cX1_carsLeft 37 = .ok (.iadd, 1) := by decide +kernel
theorem dX1_carsLeft_38 : decode cX1_carsLeft 38 = .ok (.istore_n 1, 1) := by decide +kernel
theorem dX1_carsLeft_39 : decode cX1_carsLeft 39 = .ok (.iinc 2 1, 3) := by decide +kernel
theorem dX1_carsLeft_42 : decode cX1_carsLeft 42 = .ok (.goto (-38), 3) := by decide +kernel
theorem dX1_carsLeft_45 : decode cX1_carsLeft 45 = .ok (.iload_n 1, 1) := by decide +kernel
theorem dX1_carsLeft_46 : decode cX1_carsLeft 46 = .ok (.ireturn, 1) := by decide +kernel
theorem dX1_lostTickets_0 : decode cX1_lostTickets 0 = .ok (.iconst 0, 1) := by decide +kernel
theorem dX1_lostTickets_1 : decode cX1_lostTickets 1 = .ok (.istore_n 1, 1) := by decide +kernel
theorem dX1_lostTickets_2 : decode cX1_lostTickets 2 = .ok (.iconst 0, 1) := by decide +kernel
theorem dX1_lostTickets_3 : decode cX1_lostTickets 3 = .ok (.istore_n 2, 1) := by decide +kernel
theorem dX1_lostTickets_4 : decode cX1_lostTickets 4 = .ok (.iload_n 2, 1) := by decide +kernel
theorem dX1_lostTickets_5 : decode cX1_lostTickets 5 = .ok (.sipush 512, 3) := by decide +kernel
theorem dX1_lostTickets_8 : decode cX1_lostTickets 8 = .ok (.if_icmp .ge 37, 3) := by decide +kernel
theorem dX1_lostTickets_11 : decode cX1_lostTickets 11 = .ok (.iload_n 2, 1) := by decide +kernel
theorem dX1_lostTickets_12 : decode cX1_lostTickets 12 = .ok (.aload_n 0, 1) := by decide +kernel
theorem dX1_lostTickets_13 : decode cX1_lostTickets 13 = .ok (.getfield 59, 3) := by decide +kernel
theorem dX1_lostTickets_16 : decode cX1_lostTickets 16 = .ok (.if_icmp .ge 29, 3) := by decide +kernel
theorem dX1_lostTickets_19 : decode cX1_lostTickets 19 = .ok (.iload_n 1, 1) := by decide +kernel
theorem dX1_lostTickets_20 : decode cX1_lostTickets 20 = .ok (.aload_n 0, 1) := by decide +kernel
theorem dX1_lostTickets_21 : decode cX1_lostTickets 21 = .ok (.getfield 37, 3) := by decide +kernel
theorem dX1_lostTickets_24 : decode cX1_lostTickets 24 = .ok (.iload_n 2, 1) := by decide +kernel
theorem dX1_lostTickets_25 : decode cX1_lostTickets 25 = .ok (.aaload, 1) := by decide +kernel
theorem dX1_lostTickets_26 : decode cX1_lostTickets 26 = .ok (.getfield 130, 3) := by decide +kernel
theorem dX1_lostTickets_29 : decode cX1_lostTickets 29 = .ok (.ifCond .eq 7, 3) := by decide +kernel
theorem dX1_lostTickets_32 : decode cX1_lostTickets 32 = .ok (.iconst 1, 1) := by decide +kernel
theorem dX1_lostTickets_33 : decode cX1_lostTickets 33 = .ok (.goto 4, 3) := by decide +kernel
theorem dX1_lostTickets_36 : decode cX1_lostTickets 36 = .ok (.iconst 0, 1) := by decide +kernel
theorem dX1_lostTickets_37 : decode cX1_lostTickets 37 = .ok (.iadd, 1) := by decide +kernel
theorem dX1_lostTickets_38 : decode cX1_lostTickets 38 = .ok (.istore_n 1, 1) := by decide +kernel
theorem dX1_lostTickets_39 : decode cX1_lostTickets 39 = .ok (.iinc 2 1, 3) := by decide +kernel
theorem dX1_lostTickets_42 : decode cX1_lostTickets 42 = .ok (.goto (-38), 3) := by decide +kernel
theorem dX1_lostTickets_45 : decode cX1_lostTickets 45 = .ok (.iload_n 1, 1) := by decide +kernel
theorem dX1_lostTickets_46 : decode cX1_lostTickets 46 = .ok (.ireturn, 1) := by decide +kernel
theorem dX1_paidByPlan_0 : decode cX1_paidByPlan 0 = .ok (.iconst 0, 1) := by decide +kernel
theorem dX1_paidByPlan_1 : decode cX1_paidByPlan 1 = .ok (.istore_n 2, 1) := by decide +kernel
theorem dX1_paidByPlan_2 : decode cX1_paidByPlan 2 = .ok (.iconst 0, 1) := by decide +kernel
theorem dX1_paidByPlan_3 : decode cX1_paidByPlan 3 = .ok (.istore_n 3, 1) := by decide +kernel
theorem dX1_paidByPlan_4 : decode cX1_paidByPlan 4 = .ok (.iload_n 3, 1) := by decide +kernel
theorem dX1_paidByPlan_5 : decode cX1_paidByPlan 5 = .ok (.sipush 512, 3) := by decide +kernel
theorem dX1_paidByPlan_8 : decode cX1_paidByPlan 8 = .ok (.if_icmp .ge 46, 3) := by decide +kernel
theorem dX1_paidByPlan_11 : decode cX1_paidByPlan 11 = .ok (.iload_n 3, 1) := by decide +kernel
theorem dX1_paidByPlan_12 : decode cX1_paidByPlan 12 = .ok (.aload_n 0, 1) := by decide +kernel
theorem dX1_paidByPlan_13 : decode cX1_paidByPlan 13 = .ok (.getfield 59, 3) := by decide +kernel
theorem dX1_paidByPlan_16 : decode cX1_paidByPlan 16 = .ok (.if_icmp .ge 38, 3) := by decide +kernel
theorem dX1_paidByPlan_19 : decode cX1_paidByPlan 19 = .ok (.iload_n 2, 1) := by decide +kernel
theorem dX1_paidByPlan_20 : decode cX1_paidByPlan 20 = .ok (.aload_n 0, 1) := by decide +kernel
theorem dX1_paidByPlan_21 : decode cX1_paidByPlan 21 = .ok (.getfield 37, 3) := by decide +kernel
theorem dX1_paidByPlan_24 : decode cX1_paidByPlan 24 = .ok (.iload_n 3, 1) := by decide +kernel
theorem dX1_paidByPlan_25 : decode cX1_paidByPlan 25 = .ok (.aaload, 1) := by decide +kernel
theorem dX1_paidByPlan_26 : decode cX1_paidByPlan 26 = .ok (.getfield 150, 3) := by decide +kernel
theorem dX1_paidByPlan_29 : decode cX1_paidByPlan 29 = .ok (.iload_n 1, 1) := by decide +kernel
theorem dX1_paidByPlan_30 : decode cX1_paidByPlan 30 = .ok (.if_icmp .ne 15, 3) := by decide +kernel
theorem dX1_paidByPlan_33 : decode cX1_paidByPlan 33 = .ok (.aload_n 0, 1) := by decide +kernel
theorem dX1_paidByPlan_34 : decode cX1_paidByPlan 34 = .ok (.getfield 37, 3) := by decide +kernel
theorem dX1_paidByPlan_37 : decode cX1_paidByPlan 37 = .ok (.iload_n 3, 1) := by decide +kernel
theorem dX1_paidByPlan_38 : decode cX1_paidByPlan 38 = .ok (.aaload, 1) := by decide +kernel
theorem dX1_paidByPlan_39 : decode cX1_paidByPlan 39 = .ok (.getfield 141, 3) := by decide +kernel
theorem dX1_paidByPlan_42 : decode cX1_paidByPlan 42 = .ok (.goto 4, 3) := by decide +kernel
theorem dX1_paidByPlan_45 : decode cX1_paidByPlan 45 = .ok (.iconst 0, 1) := by decide +kernel
theorem dX1_paidByPlan_46 : decode cX1_paidByPlan 46 = .ok (.iadd, 1) := by decide +kernel
theorem dX1_paidByPlan_47 : decode cX1_paidByPlan 47 = .ok (.istore_n 2, 1) := by decide +kernel
theorem dX1_paidByPlan_48 : decode cX1_paidByPlan 48 = .ok (.iinc 3 1, 3) := by decide +kernel
theorem dX1_paidByPlan_51 : decode cX1_paidByPlan 51 = .ok (.goto (-47), 3) := by decide +kernel
theorem dX1_paidByPlan_54 : decode cX1_paidByPlan 54 = .ok (.iload_n 2, 1) := by decide +kernel
theorem dX1_paidByPlan_55 : decode cX1_paidByPlan 55 = .ok (.ireturn, 1) := by decide +kernel
theorem dX1_paidAltogether_0 : decode cX1_paidAltogether 0 = .ok (.iconst 0, 1) := by decide +kernel
theorem dX1_paidAltogether_1 : decode cX1_paidAltogether 1 = .ok (.istore_n 1, 1) := by decide +kernel
theorem dX1_paidAltogether_2 : decode cX1_paidAltogether 2 = .ok (.iconst 0, 1) := by decide +kernel
theorem dX1_paidAltogether_3 : decode cX1_paidAltogether 3 = .ok (.istore_n 2, 1) := by decide +kernel
theorem dX1_paidAltogether_4 : decode cX1_paidAltogether 4 = .ok (.iload_n 2, 1) := by decide +kernel
theorem dX1_paidAltogether_5 : decode cX1_paidAltogether 5 = .ok (.iconst 4, 1) := by decide +kernel
theorem dX1_paidAltogether_6 : decode cX1_paidAltogether 6 = .ok (.if_icmp .ge 17, 3) := by decide +kernel
theorem dX1_paidAltogether_9 : decode cX1_paidAltogether 9 = .ok (.iload_n 1, 1) := by decide +kernel
theorem dX1_paidAltogether_10 : decode cX1_paidAltogether 10 = .ok (.aload_n 0, 1) := by decide +kernel
theorem dX1_paidAltogether_11 : decode cX1_paidAltogether 11 = .ok (.iload_n 2, 1) := by decide +kernel
theorem dX1_paidAltogether_12 : decode cX1_paidAltogether 12 = .ok (.invokevirtual 196, 3) := by decide +kernel
theorem dX1_paidAltogether_15 : decode cX1_paidAltogether 15 = .ok (.iadd, 1) := by decide +kernel
theorem dX1_paidAltogether_16 : decode cX1_paidAltogether 16 = .ok (.istore_n 1, 1) := by decide +kernel
theorem dX1_paidAltogether_17 : decode cX1_paidAltogether 17 = .ok (.iinc 2 1, 3) := by decide +kernel
theorem dX1_paidAltogether_20 : decode cX1_paidAltogether 20 = .ok (.goto (-16), 3) := by decide +kernel
theorem dX1_paidAltogether_23 : decode cX1_paidAltogether 23 = .ok (.iload_n 1, 1) := by decide +kernel
theorem dX1_paidAltogether_24 : decode cX1_paidAltogether 24 = .ok (.ireturn, 1) := by decide +kernel
theorem dX2_init_0 : decode cX2_init 0 = .ok (.aload_n 0, 1) := by decide +kernel
theorem dX2_init_1 : decode cX2_init 1 = .ok (.invokespecial 3, 3) := by decide +kernel
theorem dX2_init_4 : decode cX2_init 4 = .ok (.aload_n 0, 1) := by decide +kernel
theorem dX2_init_5 : decode cX2_init 5 = .ok (.iconst 5, 1) := by decide +kernel
theorem dX2_init_6 : decode cX2_init 6 = .ok (.newarray .int, 2) := by decide +kernel
theorem dX2_init_8 : decode cX2_init 8 = .ok (.putfield 9, 3) := by decide +kernel
theorem dX2_init_11 : decode cX2_init 11 = .ok (.return_, 1) := by decide +kernel
theorem dX2_isMade_0 : decode cX2_isMade 0 = .ok (.aload_n 0, 1) := by decide +kernel
theorem dX2_isMade_1 : decode cX2_isMade 1 = .ok (.getfield 15, 3) := by decide +kernel
theorem dX2_isMade_4 : decode cX2_isMade 4 = .ok (.ifCond .le 7, 3) := by decide +kernel
theorem dX2_isMade_7 : decode cX2_isMade 7 = .ok (.iconst 1, 1) := by decide +kernel
theorem dX2_isMade_8 : decode cX2_isMade 8 = .ok (.goto 4, 3) := by decide +kernel
theorem dX2_isMade_11 : decode cX2_isMade 11 = .ok (.iconst 0, 1) := by decide +kernel
theorem dX2_isMade_12 : decode cX2_isMade 12 = .ok (.ireturn, 1) := by decide +kernel
theorem dX2_make_0 : decode cX2_make 0 = .ok (.aload_n 0, 1) := by decide +kernel
theorem dX2_make_1 : decode cX2_make 1 = .ok (.iload_n 1, 1) := by decide +kernel
theorem dX2_make_2 : decode cX2_make 2 = .ok (.putfield 19, 3) := by decide +kernel
theorem dX2_make_5 : decode cX2_make 5 = .ok (.aload_n 0, 1) := by decide +kernel
theorem dX2_make_6 : decode cX2_make 6 = .ok (.iload_n 2, 1) := by decide +kernel
theorem dX2_make_7 : decode cX2_make 7 = .ok (.putfield 15, 3) := by decide +kernel
theorem dX2_make_10 : decode cX2_make 10 = .ok (.iconst 0, 1) := by decide +kernel
theorem dX2_make_11 : decode cX2_make 11 = .ok (.istore_n 3, 1) := by decide +kernel
theorem dX2_make_12 : decode cX2_make 12 = .ok (.iload_n 3, 1) := by decide +kernel
theorem dX2_make_13 : decode cX2_make 13 = .ok (.iconst 5, 1) := by decide +kernel
theorem dX2_make_14 : decode cX2_make 14 = .ok (.if_icmp .ge 16, 3) := by decide +kernel
theorem dX2_make_17 : decode cX2_make 17 = .ok (.aload_n 0, 1) := by decide +kernel
theorem dX2_make_18 : decode cX2_make 18 = .ok (.getfield 9, 3) := by decide +kernel
theorem dX2_make_21 : decode cX2_make 21 = .ok (.iload_n 3, 1) := by decide +kernel
theorem dX2_make_22 : decode cX2_make 22 = .ok (.iconst (-1), 1) := by decide +kernel
theorem dX2_make_23 : decode cX2_make 23 = .ok (.iastore, 1) := by decide +kernel
theorem dX2_make_24 : decode cX2_make 24 = .ok (.iinc 3 1, 3) := by decide +kernel
theorem dX2_make_27 : decode cX2_make 27 = .ok (.goto (-15), 3) := by decide +kernel
theorem dX2_make_30 : decode cX2_make 30 = .ok (.return_, 1) := by decide +kernel
theorem dX2_copyFrom_0 : decode cX2_copyFrom 0 = .ok (.aload_n 0, 1) := by decide +kernel
theorem dX2_copyFrom_1 : decode cX2_copyFrom 1 = .ok (.aload_n 1, 1) := by decide +kernel
theorem dX2_copyFrom_2 : decode cX2_copyFrom 2 = .ok (.getfield 19, 3) := by decide +kernel
theorem dX2_copyFrom_5 : decode cX2_copyFrom 5 = .ok (.putfield 19, 3) := by decide +kernel
theorem dX2_copyFrom_8 : decode cX2_copyFrom 8 = .ok (.aload_n 0, 1) := by decide +kernel
theorem dX2_copyFrom_9 : decode cX2_copyFrom 9 = .ok (.aload_n 1, 1) := by decide +kernel
theorem dX2_copyFrom_10 : decode cX2_copyFrom 10 = .ok (.getfield 15, 3) := by decide +kernel
theorem dX2_copyFrom_13 : decode cX2_copyFrom 13 = .ok (.putfield 15, 3) := by decide +kernel
theorem dX2_copyFrom_16 : decode cX2_copyFrom 16 = .ok (.iconst 0, 1) := by decide +kernel
theorem dX2_copyFrom_17 : decode cX2_copyFrom 17 = .ok (.istore_n 2, 1) := by decide +kernel
theorem dX2_copyFrom_18 : decode cX2_copyFrom 18 = .ok (.iload_n 2, 1) := by decide +kernel
theorem dX2_copyFrom_19 : decode cX2_copyFrom 19 = .ok (.iconst 5, 1) := by decide +kernel
theorem dX2_copyFrom_20 : decode cX2_copyFrom 20 = .ok (.if_icmp .ge 21, 3) := by decide +kernel
theorem dX2_copyFrom_23 : decode cX2_copyFrom 23 = .ok (.aload_n 0, 1) := by decide +kernel
theorem dX2_copyFrom_24 : decode cX2_copyFrom 24 = .ok (.getfield 9, 3) := by decide +kernel
theorem dX2_copyFrom_27 : decode cX2_copyFrom 27 = .ok (.iload_n 2, 1) := by decide +kernel
theorem dX2_copyFrom_28 : decode cX2_copyFrom 28 = .ok (.aload_n 1, 1) := by decide +kernel
theorem dX2_copyFrom_29 : decode cX2_copyFrom 29 = .ok (.getfield 9, 3) := by decide +kernel
theorem dX2_copyFrom_32 : decode cX2_copyFrom 32 = .ok (.iload_n 2, 1) := by decide +kernel
theorem dX2_copyFrom_33 : decode cX2_copyFrom 33 = .ok (.iaload, 1) := by decide +kernel
theorem dX2_copyFrom_34 : decode cX2_copyFrom 34 = .ok (.iastore, 1) := by decide +kernel
theorem dX2_copyFrom_35 : decode cX2_copyFrom 35 = .ok (.iinc 2 1, 3) := by decide +kernel
theorem dX2_copyFrom_38 : decode cX2_copyFrom 38 = .ok (.goto (-20), 3) := by decide +kernel
theorem dX2_copyFrom_41 : decode cX2_copyFrom 41 = .ok (.return_, 1) := by decide +kernel
theorem dX2_hasPlace_0 : decode cX2_hasPlace 0 = .ok (.iload_n 1, 1) := by decide +kernel
theorem dX2_hasPlace_1 : decode cX2_hasPlace 1 = .ok (.iconst 0, 1) := by decide +kernel
theorem dX2_hasPlace_2 : decode cX2_hasPlace 2 = .ok (.iconst 4, 1) := by decide +kernel
theorem dX2_hasPlace_3 : decode cX2_hasPlace 3 = .ok (.invokestatic 22, 3) := by decide +kernel
theorem dX2_hasPlace_6 : decode cX2_hasPlace 6 = .ok (.ifCond .eq 15, 3) := by decide +kernel
theorem dX2_hasPlace_9 : decode cX2_hasPlace 9 = .ok (.iload_n 1, 1) := by decide +kernel
theorem dX2_hasPlace_10 : decode cX2_hasPlace 10 = .ok (.aload_n 0, 1) := by decide +kernel
theorem dX2_hasPlace_11 : decode cX2_hasPlace 11 = .ok (.getfield 15, 3) := by decide +kernel
theorem dX2_hasPlace_14 : decode cX2_hasPlace 14 = .ok (.if_icmp .ge 7, 3) := by decide +kernel
theorem dX2_hasPlace_17 : decode cX2_hasPlace 17 = .ok (.iconst 1, 1) := by decide +kernel
theorem dX2_hasPlace_18 : decode cX2_hasPlace 18 = .ok (.goto 4, 3) := by decide +kernel
theorem dX2_hasPlace_21 : decode cX2_hasPlace 21 = .ok (.iconst 0, 1) := by decide +kernel
theorem dX2_hasPlace_22 : decode cX2_hasPlace 22 = .ok (.ireturn, 1) := by decide +kernel
theorem dX2_takes_0 : decode cX2_takes 0 = .ok (.aload_n 0, 1) := by decide +kernel
theorem dX2_takes_1 : decode cX2_takes 1 = .ok (.getfield 19, 3) := by decide +kernel
theorem dX2_takes_4 : decode cX2_takes 4 = .ok (.iconst (-1), 1) := by decide +kernel
theorem dX2_takes_5 : decode cX2_takes 5 = .ok (.if_icmp .eq 11, 3) := by decide +kernel
theorem dX2_takes_8 : decode cX2_takes 8 = .ok (.aload_n 0, 1) := by decide +kernel
theorem dX2_takes_9 : decode cX2_takes 9 = .ok (.getfield 19, 3) := by decide +kernel
theorem dX2_takes_12 : decode cX2_takes 12 = .ok (.iload_n 1, 1) := by decide +kernel
theorem dX2_takes_13 : decode cX2_takes 13 = .ok (.if_icmp .ne 7, 3) := by decide +kernel
theorem dX2_takes_16 : decode cX2_takes 16 = .ok (.iconst 1, 1) := by decide +kernel
theorem dX2_takes_17 : decode cX2_takes 17 = .ok (.goto 4, 3) := by decide +kernel
theorem dX2_takes_20 : decode cX2_takes 20 = .ok (.iconst 0, 1) := by decide +kernel
theorem dX2_takes_21 : decode cX2_takes 21 = .ok (.ireturn, 1) := by decide +kernel
theorem dX2_fill_0 : decode cX2_fill 0 = .ok (.aload_n 0, 1) := by decide +kernel
theorem dX2_fill_1 : decode cX2_fill 1 = .ok (.iload_n 1, 1) := by decide +kernel
theorem dX2_fill_2 : decode cX2_fill 2 = .ok (.invokevirtual 26, 3) := by decide +kernel
theorem dX2_fill_5 : decode cX2_fill 5 = .ok (.ifCond .eq 10, 3) := by decide +kernel
theorem dX2_fill_8 : decode cX2_fill 8 = .ok (.aload_n 0, 1) := by decide +kernel
theorem dX2_fill_9 : decode cX2_fill 9 = .ok (.getfield 9, 3) := by decide +kernel
theorem dX2_fill_12 : decode cX2_fill 12 = .ok (.iload_n 1, 1) := by decide +kernel
theorem dX2_fill_13 : decode cX2_fill 13 = .ok (.iload_n 2, 1) := by decide +kernel
theorem dX2_fill_14 : decode cX2_fill 14 = .ok (.iastore, 1) := by decide +kernel
theorem dX2_fill_15 : decode cX2_fill 15 = .ok (.return_, 1) := by decide +kernel
theorem dX2_content_0 : decode cX2_content 0 = .ok (.aload_n 0, 1) := by decide +kernel
theorem dX2_content_1 : decode cX2_content 1 = .ok (.iload_n 1, 1) := by decide +kernel
theorem dX2_content_2 : decode cX2_content 2 = .ok (.invokevirtual 26, 3) := by decide +kernel
theorem dX2_content_5 : decode cX2_content 5 = .ok (.ifCond .eq 22, 3) := by decide +kernel
theorem dX2_content_8 : decode cX2_content 8 = .ok (.aload_n 0, 1) := by decide +kernel
theorem dX2_content_9 : decode cX2_content 9 = .ok (.getfield 9, 3) := by decide +kernel
theorem dX2_content_12 : decode cX2_content 12 = .ok (.iload_n 1, 1) := by decide +kernel
theorem dX2_content_13 : decode cX2_content 13 = .ok (.iaload, 1) := by decide +kernel
theorem dX2_content_14 : decode cX2_content 14 = .ok (.iconst (-1), 1) := by decide +kernel
theorem dX2_content_15 : decode cX2_content 15 = .ok (.if_icmp .eq 12, 3) := by decide +kernel
theorem dX2_content_18 : decode cX2_content 18 = .ok (.aload_n 0, 1) := by decide +kernel
theorem dX2_content_19 : decode cX2_content 19 = .ok (.getfield 9, 3) := by decide +kernel
theorem dX2_content_22 : decode cX2_content 22 = .ok (.iload_n 1, 1) := by decide +kernel
theorem dX2_content_23 : decode cX2_content 23 = .ok (.iaload, 1) := by decide +kernel
theorem dX2_content_24 : decode cX2_content 24 = .ok (.goto 4, 3) := by decide +kernel
theorem dX2_content_27 : decode cX2_content 27 = .ok (.iconst (-1), 1) := by decide +kernel
theorem dX2_content_28 : decode cX2_content 28 = .ok (.ireturn, 1) := by decide +kernel
theorem dX2_filledPlaces_0 : decode cX2_filledPlaces 0 = .ok (.iconst 0, 1) := by decide +kernel
theorem dX2_filledPlaces_1 : decode cX2_filledPlaces 1 = .ok (.istore_n 1, 1) := by decide +kernel
theorem dX2_filledPlaces_2 : decode cX2_filledPlaces 2 = .ok (.iconst 0, 1) := by decide +kernel
theorem dX2_filledPlaces_3 : decode cX2_filledPlaces 3 = .ok (.istore_n 2, 1) := by decide +kernel
theorem dX2_filledPlaces_4 : decode cX2_filledPlaces 4 = .ok (.iload_n 2, 1) := by decide +kernel
theorem dX2_filledPlaces_5 : decode cX2_filledPlaces 5 = .ok (.iconst 5, 1) := by decide +kernel
theorem dX2_filledPlaces_6 : decode cX2_filledPlaces 6 = .ok (.if_icmp .ge 35, 3) := by decide +kernel
theorem dX2_filledPlaces_9 : decode cX2_filledPlaces 9 = .ok (.iload_n 2, 1) := by decide +kernel
theorem dX2_filledPlaces_10 : decode cX2_filledPlaces 10 = .ok (.aload_n 0, 1) := by decide +kernel
theorem dX2_filledPlaces_11 : decode cX2_filledPlaces 11 = .ok (.getfield 15, 3) := by decide +kernel
theorem dX2_filledPlaces_14 : decode cX2_filledPlaces 14 = .ok (.if_icmp .ge 27, 3) := by decide +kernel
theorem dX2_filledPlaces_17 : decode cX2_filledPlaces 17 = .ok (.iload_n 1, 1) := by decide +kernel
theorem dX2_filledPlaces_18 : decode cX2_filledPlaces 18 = .ok (.aload_n 0, 1) := by decide +kernel
theorem dX2_filledPlaces_19 : decode cX2_filledPlaces 19 = .ok (.getfield 9, 3) := by decide +kernel
theorem dX2_filledPlaces_22 : decode cX2_filledPlaces 22 = .ok (.iload_n 2, 1) := by decide +kernel
theorem dX2_filledPlaces_23 : decode cX2_filledPlaces 23 = .ok (.iaload, 1) := by decide +kernel
theorem dX2_filledPlaces_24 : decode cX2_filledPlaces 24 = .ok (.iconst (-1), 1) := by decide +kernel
theorem dX2_filledPlaces_25 : decode cX2_filledPlaces 25 = .ok (.if_icmp .eq 7, 3) := by decide +kernel
theorem dX2_filledPlaces_28 : decode cX2_filledPlaces 28 = .ok (.iconst 1, 1) := by decide +kernel
theorem dX2_filledPlaces_29 : decode cX2_filledPlaces 29 = .ok (.goto 4, 3) := by decide +kernel
theorem dX2_filledPlaces_32 : decode cX2_filledPlaces 32 = .ok (.iconst 0, 1) := by decide +kernel
theorem dX2_filledPlaces_33 : decode cX2_filledPlaces 33 = .ok (.iadd, 1) := by decide +kernel
theorem dX2_filledPlaces_34 : decode cX2_filledPlaces 34 = .ok (.istore_n 1, 1) := by decide +kernel
theorem dX2_filledPlaces_35 : decode cX2_filledPlaces 35 = .ok (.iinc 2 1, 3) := by decide +kernel
theorem dX2_filledPlaces_38 : decode cX2_filledPlaces 38 = .ok (.goto (-34), 3) := by decide +kernel
theorem dX2_filledPlaces_41 : decode cX2_filledPlaces 41 = .ok (.iload_n 1, 1) := by decide +kernel
theorem dX2_filledPlaces_42 : decode cX2_filledPlaces 42 = .ok (.ireturn, 1) := by decide +kernel
theorem dX3_init_0 : decode cX3_init 0 = .ok (.aload_n 0, 1) := by decide +kernel
theorem dX3_init_1 : decode cX3_init 1 = .ok (.invokespecial 3, 3) := by decide +kernel
theorem dX3_init_4 : decode cX3_init 4 = .ok (.aload_n 0, 1) := by decide +kernel
theorem dX3_init_5 : decode cX3_init 5 = .ok (.bipush 10, 2) := by decide +kernel
theorem dX3_init_7 : decode cX3_init 7 = .ok (.putfield 9, 3) := by decide +kernel
theorem dX3_init_10 : decode cX3_init 10 = .ok (.return_, 1) := by decide +kernel
theorem dX3_copyFrom_0 : decode cX3_copyFrom 0 = .ok (.aload_n 0, 1) := by decide +kernel
theorem dX3_copyFrom_1 : decode cX3_copyFrom 1 = .ok (.aload_n 1, 1) := by decide +kernel
theorem dX3_copyFrom_2 : decode cX3_copyFrom 2 = .ok (.getfield 9, 3) := by decide +kernel
theorem dX3_copyFrom_5 : decode cX3_copyFrom 5 = .ok (.putfield 9, 3) := by decide +kernel
theorem dX3_copyFrom_8 : decode cX3_copyFrom 8 = .ok (.aload_n 0, 1) := by decide +kernel
theorem dX3_copyFrom_9 : decode cX3_copyFrom 9 = .ok (.aload_n 1, 1) := by decide +kernel
theorem dX3_copyFrom_10 : decode cX3_copyFrom 10 = .ok (.getfield 15, 3) := by decide +kernel
theorem dX3_copyFrom_13 : decode cX3_copyFrom 13 = .ok (.putfield 15, 3) := by decide +kernel
theorem dX3_copyFrom_16 : decode cX3_copyFrom 16 = .ok (.aload_n 0, 1) := by decide +kernel
theorem dX3_copyFrom_17 : decode cX3_copyFrom 17 = .ok (.aload_n 1, 1) := by decide +kernel
theorem dX3_copyFrom_18 : decode cX3_copyFrom 18 = .ok (.getfield 18, 3) := by decide +kernel
theorem dX3_copyFrom_21 : decode cX3_copyFrom 21 = .ok (.putfield 18, 3) := by decide +kernel
theorem dX3_copyFrom_24 : decode cX3_copyFrom 24 = .ok (.aload_n 0, 1) := by decide +kernel
theorem dX3_copyFrom_25 : decode cX3_copyFrom 25 = .ok (.aload_n 1, 1) := by decide +kernel
theorem dX3_copyFrom_26 : decode cX3_copyFrom 26 = .ok (.getfield 21, 3) := by decide +kernel
theorem dX3_copyFrom_29 : decode cX3_copyFrom 29 = .ok (.putfield 21, 3) := by decide +kernel
theorem dX3_copyFrom_32 : decode cX3_copyFrom 32 = .ok (.aload_n 0, 1) := by decide +kernel
theorem dX3_copyFrom_33 : decode cX3_copyFrom 33 = .ok (.aload_n 1, 1) := by decide +kernel
theorem dX3_copyFrom_34 : decode cX3_copyFrom 34 = .ok (.getfield 24, 3) := by decide +kernel
theorem dX3_copyFrom_37 : decode cX3_copyFrom 37 = .ok (.putfield 24, 3) := by decide +kernel
theorem dX3_copyFrom_40 : decode cX3_copyFrom 40 = .ok (.return_, 1) := by decide +kernel
theorem dX3_property_0 : decode cX3_property 0 = .ok (.iload_n 1, 1) := by decide +kernel
theorem dX3_property_1 : decode cX3_property 1 = .ok (.tableswitch 66 0 4 #[35, 40, 45, 53, 61], 35) := by decide +kernel
theorem dX3_property_36 : decode cX3_property 36 = .ok (.aload_n 0, 1) := by decide +kernel
theorem dX3_property_37 : decode cX3_property 37 = .ok (.getfield 9, 3) := by decide +kernel
theorem dX3_property_40 : decode cX3_property 40 = .ok (.ireturn, 1) := by decide +kernel
theorem dX3_property_41 : decode cX3_property 41 = .ok (.aload_n 0, 1) := by decide +kernel
theorem dX3_property_42 : decode cX3_property 42 = .ok (.getfield 15, 3) := by decide +kernel
theorem dX3_property_45 : decode cX3_property 45 = .ok (.ireturn, 1) := by decide +kernel
theorem dX3_property_46 : decode cX3_property 46 = .ok (.aload_n 0, 1) := by decide +kernel
theorem dX3_property_47 : decode cX3_property 47 = .ok (.getfield 24, 3) := by decide +kernel
theorem dX3_property_50 : decode cX3_property 50 = .ok (.invokestatic 28, 3) := by decide +kernel
theorem dX3_property_53 : decode cX3_property 53 = .ok (.ireturn, 1) := by decide +kernel
theorem dX3_property_54 : decode cX3_property 54 = .ok (.aload_n 0, 1) := by decide +kernel
theorem dX3_property_55 : decode cX3_property 55 = .ok (.invokevirtual 32, 3) := by decide +kernel
theorem dX3_property_58 : decode cX3_property 58 = .ok (.invokestatic 28, 3) := by decide +kernel
theorem dX3_property_61 : decode cX3_property 61 = .ok (.ireturn, 1) := by decide +kernel
theorem dX3_property_62 : decode cX3_property 62 = .ok (.aload_n 0, 1) := by decide +kernel
theorem dX3_property_63 : decode cX3_property 63 = .ok (.getfield 18, 3) := by decide +kernel
theorem dX3_property_66 : decode cX3_property 66 = .ok (.ireturn, 1) := by decide +kernel
theorem dX3_property_67 : decode cX3_property 67 = .ok (.aload_n 0, 1) := by decide +kernel
theorem dX3_property_68 : decode cX3_property 68 = .ok (.getfield 21, 3) := by decide +kernel
theorem dX3_property_71 : decode cX3_property 71 = .ok (.ireturn, 1) := by decide +kernel
theorem dX3_freePlaces_0 : decode cX3_freePlaces 0 = .ok (.aload_n 0, 1) := by decide +kernel
theorem dX3_freePlaces_1 : decode cX3_freePlaces 1 = .ok (.getfield 9, 3) := by decide +kernel
theorem dX3_freePlaces_4 : decode cX3_freePlaces 4 = .ok (.aload_n 0, 1) := by decide +kernel
theorem dX3_freePlaces_5 : decode cX3_freePlaces 5 = .ok (.getfield 15, 3) := by decide +kernel
theorem dX3_freePlaces_8 : decode cX3_freePlaces 8 = .ok (.isub, 1) := by decide +kernel
theorem dX3_freePlaces_9 : decode cX3_freePlaces 9 = .ok (.ireturn, 1) := by decide +kernel
theorem dX3_score_0 : decode cX3_score 0 = .ok (.aload_n 0, 1) := by decide +kernel
theorem dX3_score_1 : decode cX3_score 1 = .ok (.getfield 9, 3) := by decide +kernel
theorem dX3_score_4 : decode cX3_score 4 = .ok (.ifCond .le 25, 3) := by decide +kernel
theorem dX3_score_7 : decode cX3_score 7 = .ok (.aload_n 0, 1) := by decide +kernel
theorem dX3_score_8 : decode cX3_score 8 = .ok (.invokevirtual 36, 3) := by decide +kernel
theorem dX3_score_11 : decode cX3_score 11 = .ok (.i2f, 1) := by decide +kernel
theorem dX3_score_12 : decode cX3_score 12 = .ok (.aload_n 0, 1) := by decide +kernel
theorem dX3_score_13 : decode cX3_score 13 = .ok (.getfield 24, 3) := by decide +kernel
theorem dX3_score_16 : decode cX3_score 16 = .ok (.ldc 40, 2) := by decide +kernel
theorem dX3_score_18 : decode cX3_score 18 = .ok (.fmul, 1) := by decide +kernel
theorem dX3_score_19 : decode cX3_score 19 = .ok (.fadd, 1) := by decide +kernel
theorem dX3_score_20 : decode cX3_score 20 = .ok (.aload_n 0, 1) := by decide +kernel
theorem dX3_score_21 : decode cX3_score 21 = .ok (.getfield 9, 3) := by decide +kernel
theorem dX3_score_24 : decode cX3_score 24 = .ok (.i2f, 1) := by decide +kernel
theorem dX3_score_25 : decode cX3_score 25 = .ok (.fdiv, 1) := by decide +kernel
theorem dX3_score_26 : decode cX3_score 26 = .ok (.goto 4, 3) := by decide +kernel
theorem dX3_score_29 : decode cX3_score 29 = .ok (.fconst 0, 1) := by decide +kernel
theorem dX3_score_30 : decode cX3_score 30 = .ok (.freturn, 1) := by decide +kernel
theorem dX3_admitCar_0 : decode cX3_admitCar 0 = .ok (.aload_n 0, 1) := by decide +kernel
theorem dX3_admitCar_1 : decode cX3_admitCar 1 = .ok (.dup, 1) := by decide +kernel
theorem dX3_admitCar_2 : decode cX3_admitCar 2 = .ok (.getfield 15, 3) := by decide +kernel
theorem dX3_admitCar_5 : decode cX3_admitCar 5 = .ok (.iconst 1, 1) := by decide +kernel
theorem dX3_admitCar_6 : decode cX3_admitCar 6 = .ok (.iadd, 1) := by decide +kernel
theorem dX3_admitCar_7 : decode cX3_admitCar 7 = .ok (.putfield 15, 3) := by decide +kernel
theorem dX3_admitCar_10 : decode cX3_admitCar 10 = .ok (.aload_n 0, 1) := by decide +kernel
theorem dX3_admitCar_11 : decode cX3_admitCar 11 = .ok (.dup, 1) := by decide +kernel
theorem dX3_admitCar_12 : decode cX3_admitCar 12 = .ok (.getfield 21, 3) := by decide +kernel
theorem dX3_admitCar_15 : decode cX3_admitCar 15 = .ok (.iconst 1, 1) := by decide +kernel
theorem dX3_admitCar_16 : decode cX3_admitCar 16 = .ok (.iadd, 1) := by decide +kernel
theorem dX3_admitCar_17 : decode cX3_admitCar 17 = .ok (.putfield 21, 3) := by decide +kernel
theorem dX3_admitCar_20 : decode cX3_admitCar 20 = .ok (.return_, 1) := by decide +kernel
theorem dX3_releaseCar_0 : decode cX3_releaseCar 0 = .ok (.aload_n 0, 1) := by decide +kernel
theorem dX3_releaseCar_1 : decode cX3_releaseCar 1 = .ok (.dup, 1) := by decide +kernel
theorem dX3_releaseCar_2 : decode cX3_releaseCar 2 = .ok (.getfield 15, 3) := by decide +kernel
theorem dX3_releaseCar_5 : decode cX3_releaseCar 5 = .ok (.iconst 1, 1) := by decide +kernel
theorem dX3_releaseCar_6 : decode cX3_releaseCar 6 = .ok (.isub, 1) := by decide +kernel
theorem dX3_releaseCar_7 : decode cX3_releaseCar 7 = .ok (.putfield 15, 3) := by decide +kernel
theorem dX3_releaseCar_10 : decode cX3_releaseCar 10 = .ok (.aload_n 0, 1) := by decide +kernel
theorem dX3_releaseCar_11 : decode cX3_releaseCar 11 = .ok (.dup, 1) := by decide +kernel
theorem dX3_releaseCar_12 : decode cX3_releaseCar 12 = .ok (.getfield 18, 3) := by decide +kernel
theorem dX3_releaseCar_15 : decode cX3_releaseCar 15 = .ok (.iconst 1, 1) := by decide +kernel
theorem dX3_releaseCar_16 : decode cX3_releaseCar 16 = .ok (.iadd, 1) := by decide +kernel
theorem dX3_releaseCar_17 : decode cX3_releaseCar 17 = .ok (.putfield 18, 3) := by decide +kernel
theorem dX3_releaseCar_20 : decode cX3_releaseCar 20 = .ok (.return_, 1) := by decide +kernel
theorem dX3_passHour_0 : decode cX3_passHour 0 = .ok (.aload_n 0, 1) := by decide +kernel
theorem dX3_passHour_1 : decode cX3_passHour 1 = .ok (.aload_n 0, 1) := by decide +kernel
theorem dX3_passHour_2 : decode cX3_passHour 2 = .ok (.getfield 24, 3) := by decide +kernel
theorem dX3_passHour_5 : decode cX3_passHour 5 = .ok (.ldc 41, 2) := by decide +kernel
theorem dX3_passHour_7 : decode cX3_passHour 7 = .ok (.fmul, 1) := by decide +kernel
theorem dX3_passHour_8 : decode cX3_passHour 8 = .ok (.aload_n 0, 1) := by decide +kernel
theorem dX3_passHour_9 : decode cX3_passHour 9 = .ok (.getfield 18, 3) := by decide +kernel
theorem dX3_passHour_12 : decode cX3_passHour 12 = .ok (.i2f, 1) := by decide +kernel
theorem dX3_passHour_13 : decode cX3_passHour 13 = .ok (.ldc 42, 2) := by decide +kernel
theorem dX3_passHour_15 : decode cX3_passHour 15 = .ok (.fmul, 1) := by decide +kernel
theorem dX3_passHour_16 : decode cX3_passHour 16 = .ok (.fadd, 1) := by decide +kernel
theorem dX3_passHour_17 : decode cX3_passHour 17 = .ok (.putfield 24, 3) := by decide +kernel
theorem dX3_passHour_20 : decode cX3_passHour 20 = .ok (.aload_n 0, 1) := by decide +kernel
theorem dX3_passHour_21 : decode cX3_passHour 21 = .ok (.iconst 0, 1) := by decide +kernel
theorem dX3_passHour_22 : decode cX3_passHour 22 = .ok (.putfield 18, 3) := by decide +kernel
theorem dX3_passHour_25 : decode cX3_passHour 25 = .ok (.return_, 1) := by decide +kernel
theorem dX3_carsAfter_0 : decode cX3_carsAfter 0 = .ok (.iconst 0, 1) := by decide +kernel
theorem dX3_carsAfter_1 : decode cX3_carsAfter 1 = .ok (.aload_n 0, 1) := by decide +kernel
theorem dX3_carsAfter_2 : decode cX3_carsAfter 2 = .ok (.getfield 15, 3) := by decide +kernel
theorem dX3_carsAfter_5 : decode cX3_carsAfter 5 = .ok (.i2f, 1) := by decide +kernel
theorem dX3_carsAfter_6 : decode cX3_carsAfter 6 = .ok (.aload_n 0, 1) := by decide +kernel
theorem dX3_carsAfter_7 : decode cX3_carsAfter 7 = .ok (.getfield 24, 3) := by decide +kernel
theorem dX3_carsAfter_10 : decode cX3_carsAfter 10 = .ok (.iload_n 1, 1) := by decide +kernel
theorem dX3_carsAfter_11 : decode cX3_carsAfter 11 = .ok (.i2f, 1) := by decide +kernel
theorem dX3_carsAfter_12 : decode cX3_carsAfter 12 = .ok (.fmul, 1) := by decide +kernel
theorem dX3_carsAfter_13 : decode cX3_carsAfter 13 = .ok (.ldc 43, 2) := by decide +kernel
theorem dX3_carsAfter_15 : decode cX3_carsAfter 15 = .ok (.fdiv, 1) := by decide +kernel
theorem dX3_carsAfter_16 : decode cX3_carsAfter 16 = .ok (.fsub, 1) := by decide +kernel
theorem dX3_carsAfter_17 : decode cX3_carsAfter 17 = .ok (.f2i, 1) := by decide +kernel
theorem dX3_carsAfter_18 : decode cX3_carsAfter 18 = .ok (.invokestatic 44, 3) := by decide +kernel
theorem dX3_carsAfter_21 : decode cX3_carsAfter 21 = .ok (.ireturn, 1) := by decide +kernel
