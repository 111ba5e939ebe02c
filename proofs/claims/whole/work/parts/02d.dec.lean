theorem dX11_init_0 : decode cX11_init 0 = .ok (.aload_n 0, 1) := by decide +kernel
theorem dX11_init_1 : decode cX11_init 1 = .ok (.invokespecial 1, 3) := by decide +kernel
theorem dX11_init_4 : decode cX11_init 4 = .ok (.aload_n 0, 1) := by decide +kernel
theorem dX11_init_5 : decode cX11_init 5 = .ok (.sipush 6889, 3) := by decide +kernel
theorem dX11_init_8 : decode cX11_init 8 = .ok (.newarray .int, 2) := by decide +kernel
theorem dX11_init_10 : decode cX11_init 10 = .ok (.putfield 7, 3) := by decide +kernel
theorem dX11_init_13 : decode cX11_init 13 = .ok (.aload_n 0, 1) := by decide +kernel
theorem dX11_init_14 : decode cX11_init 14 = .ok (.sipush 6889, 3) := by decide +kernel
theorem dX11_init_17 : decode cX11_init 17 = .ok (.newarray .int, 2) := by decide +kernel
theorem dX11_init_19 : decode cX11_init 19 = .ok (.putfield 13, 3) := by decide +kernel
theorem dX11_init_22 : decode cX11_init 22 = .ok (.aload_n 0, 1) := by decide +kernel
theorem dX11_init_23 : decode cX11_init 23 = .ok (.iconst 4, 1) := by decide +kernel
theorem dX11_init_24 : decode cX11_init 24 = .ok (.newarray .float, 2) := by decide +kernel
theorem dX11_init_26 : decode cX11_init 26 = .ok (.putfield 16, 3) := by decide +kernel
theorem dX11_init_29 : decode cX11_init 29 = .ok (.aload_n 0, 1) := by decide +kernel
theorem dX11_init_30 : decode cX11_init 30 = .ok (.iconst 4, 1) := by decide +kernel
theorem dX11_init_31 : decode cX11_init 31 = .ok (.newarray .float, 2) := by decide +kernel
theorem dX11_init_33 : decode cX11_init 33 = .ok (.putfield 20, 3) := by decide +kernel
theorem dX11_init_36 : decode cX11_init 36 = .ok (.aload_n 0, 1) := by decide +kernel
theorem dX11_init_37 : decode cX11_init 37 = .ok (.bipush 90, 2) := by decide +kernel
theorem dX11_init_39 : decode cX11_init 39 = .ok (.newarray .int, 2) := by decide +kernel
theorem dX11_init_41 : decode cX11_init 41 = .ok (.putfield 23, 3) := by decide +kernel
theorem dX11_init_44 : decode cX11_init 44 = .ok (.aload_n 0, 1) := by decide +kernel
theorem dX11_init_45 : decode cX11_init 45 = .ok (.bipush 6, 2) := by decide +kernel
theorem dX11_init_47 : decode cX11_init 47 = .ok (.newarray .int, 2) := by decide +kernel
theorem dX11_init_49 : decode cX11_init 49 = .ok (.putfield 26, 3) := by decide +kernel
theorem dX11_init_52 : decode cX11_init 52 = .ok (.aload_n 0, 1) := by decide +kernel
theorem dX11_init_53 : decode cX11_init 53 = .ok (.bipush 23, 2) := by decide +kernel
theorem dX11_init_55 : decode cX11_init 55 = .ok (.newarray .int, 2) := by decide +kernel
theorem dX11_init_57 : decode cX11_init 57 = .ok (.putfield 29, 3) := by decide +kernel
theorem dX11_init_60 : decode cX11_init 60 = .ok (.aload_n 0, 1) := by decide +kernel
theorem dX11_init_61 : decode cX11_init 61 = .ok (.iconst 3, 1) := by decide +kernel
theorem dX11_init_62 : decode cX11_init 62 = .ok (.newarray .int, 2) := by decide +kernel
theorem dX11_init_64 : decode cX11_init 64 = .ok (.putfield 32, 3) := by decide +kernel
theorem dX11_init_67 : decode cX11_init 67 = .ok (.iconst 0, 1) := by decide +kernel
theorem dX11_init_68 : decode cX11_init 68 = .ok (.istore_n 1, 1) := by decide +kernel
theorem dX11_init_69 : decode cX11_init 69 = .ok (.iload_n 1, 1) := by decide +kernel
theorem dX11_init_70 : decode cX11_init 70 = .ok (.iconst 4, 1) := by decide +kernel
theorem dX11_init_71 : decode cX11_init 71 = .ok (.if_icmp .ge 20, 3) := by decide +kernel
theorem dX11_init_74 : decode cX11_init 74 = .ok (.aload_n 0, 1) := by decide +kernel
theorem dX11_init_75 : decode cX11_init 75 = .ok (.bipush 10, 2) := by decide +kernel
theorem dX11_init_77 : decode cX11_init 77 = .ok (.bipush 23, 2) := by decide +kernel
theorem dX11_init_79 : decode cX11_init 79 = .ok (.iload_n 1, 1) := by decide +kernel
theorem dX11_init_80 : decode cX11_init 80 = .ok (.imul, 1) := by decide +kernel
theorem dX11_init_81 : decode cX11_init 81 = .ok (.iadd, 1) := by decide +kernel
theorem dX11_init_82 : decode cX11_init 82 = .ok (.invokevirtual 35, 3) := by decide +kernel
theorem dX11_init_85 : decode cX11_init 85 = .ok (.iinc 1 1, 3) := by decide +kernel
theorem dX11_init_88 : decode cX11_init 88 = .ok (.goto (-19), 3) := by decide +kernel
theorem dX11_init_91 : decode cX11_init 91 = .ok (.iconst 0, 1) := by decide +kernel
theorem dX11_init_92 : decode cX11_init 92 = .ok (.istore_n 1, 1) := by decide +kernel
theorem dX11_init_93 : decode cX11_init 93 = .ok (.iload_n 1, 1) := by decide +kernel
theorem dX11_init_94 : decode cX11_init 94 = .ok (.iconst 4, 1) := by decide +kernel
theorem dX11_init_95 : decode cX11_init 95 = .ok (.if_icmp .ge 23, 3) := by decide +kernel
theorem dX11_init_98 : decode cX11_init 98 = .ok (.aload_n 0, 1) := by decide +kernel
theorem dX11_init_99 : decode cX11_init 99 = .ok (.getfield 7, 3) := by decide +kernel
theorem dX11_init_102 : decode cX11_init 102 = .ok (.sipush 153, 3) := by decide +kernel
theorem dX11_init_105 : decode cX11_init 105 = .ok (.iconst 4, 1) := by decide +kernel
theorem dX11_init_106 : decode cX11_init 106 = .ok (.iload_n 1, 1) := by decide +kernel
theorem dX11_init_107 : decode cX11_init 107 = .ok (.imul, 1) := by decide +kernel
theorem dX11_init_108 : decode cX11_init 108 = .ok (.iadd, 1) := by decide +kernel
theorem dX11_init_109 : decode cX11_init 109 = .ok (.bipush 10, 2) := by decide +kernel
theorem dX11_init_111 : decode cX11_init 111 = .ok (.iastore, 1) := by decide +kernel
theorem dX11_init_112 : decode cX11_init 112 = .ok (.iinc 1 1, 3) := by decide +kernel
theorem dX11_init_115 : decode cX11_init 115 = .ok (.goto (-22), 3) := by decide +kernel
theorem dX11_init_118 : decode cX11_init 118 = .ok (.return_, 1) := by decide +kernel
theorem dX11_in_0 : decode cX11_in 0 = .ok (.iload_n 0, 1) := by decide +kernel
theorem dX11_in_1 : decode cX11_in 1 = .ok (.iload_n 1, 1) := by decide +kernel
theorem dX11_in_2 : decode cX11_in 2 = .ok (.if_icmp .lt 12, 3) := by decide +kernel
theorem dX11_in_5 : decode cX11_in 5 = .ok (.iload_n 0, 1) := by decide +kernel
theorem dX11_in_6 : decode cX11_in 6 = .ok (.iload_n 2, 1) := by decide +kernel
theorem dX11_in_7 : decode cX11_in 7 = .ok (.if_icmp .gt 7, 3) := by decide +kernel
theorem dX11_in_10 : decode cX11_in 10 = .ok (.iconst 1, 1) := by decide +kernel
theorem dX11_in_11 : decode cX11_in 11 = .ok (.goto 4, 3) := by decide +kernel
theorem dX11_in_14 : decode cX11_in 14 = .ok (.iconst 0, 1) := by decide +kernel
theorem dX11_in_15 : decode cX11_in 15 = .ok (.ireturn, 1) := by decide +kernel
theorem dX11_isPlan_0 : decode cX11_isPlan 0 = .ok (.iload_n 0, 1) := by decide +kernel
theorem dX11_isPlan_1 : decode cX11_isPlan 1 = .ok (.iconst 0, 1) := by decide +kernel
theorem dX11_isPlan_2 : decode cX11_isPlan 2 = .ok (.iconst 3, 1) := by decide +kernel
theorem dX11_isPlan_3 : decode cX11_isPlan 3 = .ok (.invokestatic 39, 3) := by decide +kernel
theorem dX11_isPlan_6 : decode cX11_isPlan 6 = .ok (.ireturn, 1) := by decide +kernel
theorem dX11_isMinute_0 : decode cX11_isMinute 0 = .ok (.iload_n 0, 1) := by decide +kernel
theorem dX11_isMinute_1 : decode cX11_isMinute 1 = .ok (.iconst 0, 1) := by decide +kernel
theorem dX11_isMinute_2 : decode cX11_isMinute 2 = .ok (.ldc 43, 2) := by decide +kernel
theorem dX11_isMinute_4 : decode cX11_isMinute 4 = .ok (.invokestatic 39, 3) := by decide +kernel
theorem dX11_isMinute_7 : decode cX11_isMinute 7 = .ok (.ireturn, 1) := by decide +kernel
theorem dX11_clears_0 : decode cX11_clears 0 = .ok (.iconst 0, 1) := by decide +kernel
theorem dX11_clears_1 : decode cX11_clears 1 = .ok (.istore_n 2, 1) := by decide +kernel
theorem dX11_clears_2 : decode cX11_clears 2 = .ok (.iload_n 2, 1) := by decide +kernel
theorem dX11_clears_3 : decode cX11_clears 3 = .ok (.bipush 23, 2) := by decide +kernel
theorem dX11_clears_5 : decode cX11_clears 5 = .ok (.if_icmp .ge 18, 3) := by decide +kernel
theorem dX11_clears_8 : decode cX11_clears 8 = .ok (.aload_n 0, 1) := by decide +kernel
theorem dX11_clears_9 : decode cX11_clears 9 = .ok (.getfield 7, 3) := by decide +kernel
theorem dX11_clears_12 : decode cX11_clears 12 = .ok (.iload_n 1, 1) := by decide +kernel
theorem dX11_clears_13 : decode cX11_clears 13 = .ok (.iload_n 2, 1) := by decide +kernel
theorem dX11_clears_14 : decode cX11_clears 14 = .ok (.iadd, 1) := by decide +kernel
theorem dX11_clears_15 : decode cX11_clears 15 = .ok (.iconst 0, 1) := by decide +kernel
theorem dX11_clears_16 : decode cX11_clears 16 = .ok (.iastore, 1) := by decide +kernel
theorem dX11_clears_17 : decode cX11_clears 17 = .ok (.iinc 2 1, 3) := by decide +kernel
theorem dX11_clears_20 : decode cX11_clears 20 = .ok (.goto (-18), 3) := by decide +kernel
theorem dX11_clears_23 : decode cX11_clears 23 = .ok (.aload_n 0, 1) := by decide +kernel
theorem dX11_clears_24 : decode cX11_clears 24 = .ok (.getfield 7, 3) := by decide +kernel
theorem dX11_clears_27 : decode cX11_clears 27 = .ok (.iload_n 1, 1) := by decide +kernel
theorem dX11_clears_28 : decode cX11_clears 28 = .ok (.iconst 3, 1) := by decide +kernel
theorem dX11_clears_29 : decode cX11_clears 29 = .ok (.iadd, 1) := by decide +kernel
theorem dX11_clears_30 : decode cX11_clears 30 = .ok (.sipush 2000, 3) := by decide +kernel
theorem dX11_clears_33 : decode cX11_clears 33 = .ok (.iastore, 1) := by decide +kernel
theorem dX11_clears_34 : decode cX11_clears 34 = .ok (.aload_n 0, 1) := by decide +kernel
theorem dX11_clears_35 : decode cX11_clears 35 = .ok (.getfield 7, 3) := by decide +kernel
theorem dX11_clears_38 : decode cX11_clears 38 = .ok (.iload_n 1, 1) := by decide +kernel
theorem dX11_clears_39 : decode cX11_clears 39 = .ok (.iconst 4, 1) := by decide +kernel
theorem dX11_clears_40 : decode cX11_clears 40 = .ok (.iadd, 1) := by decide +kernel
theorem dX11_clears_41 : decode cX11_clears 41 = .ok (.iconst 1, 1) := by decide +kernel
theorem dX11_clears_42 : decode cX11_clears 42 = .ok (.iastore, 1) := by decide +kernel
theorem dX11_clears_43 : decode cX11_clears 43 = .ok (.aload_n 0, 1) := by decide +kernel
theorem dX11_clears_44 : decode cX11_clears 44 = .ok (.getfield 7, 3) := by decide +kernel
theorem dX11_clears_47 : decode cX11_clears 47 = .ok (.iload_n 1, 1) := by decide +kernel
theorem dX11_clears_48 : decode cX11_clears 48 = .ok (.iconst 5, 1) := by decide +kernel
theorem dX11_clears_49 : decode cX11_clears 49 = .ok (.iadd, 1) := by decide +kernel
theorem dX11_clears_50 : decode cX11_clears 50 = .ok (.iconst 1, 1) := by decide +kernel
theorem dX11_clears_51 : decode cX11_clears 51 = .ok (.iadd, 1) := by decide +kernel
theorem dX11_clears_52 : decode cX11_clears 52 = .ok (.bipush 100, 2) := by decide +kernel
theorem dX11_clears_54 : decode cX11_clears 54 = .ok (.iastore, 1) := by decide +kernel
theorem dX11_clears_55 : decode cX11_clears 55 = .ok (.aload_n 0, 1) := by decide +kernel
theorem dX11_clears_56 : decode cX11_clears 56 = .ok (.getfield 7, 3) := by decide +kernel
theorem dX11_clears_59 : decode cX11_clears 59 = .ok (.iload_n 1, 1) := by decide +kernel
theorem dX11_clears_60 : decode cX11_clears 60 = .ok (.iconst 5, 1) := by decide +kernel
theorem dX11_clears_61 : decode cX11_clears 61 = .ok (.iadd, 1) := by decide +kernel
theorem dX11_clears_62 : decode cX11_clears 62 = .ok (.iconst 2, 1) := by decide +kernel
theorem dX11_clears_63 : decode cX11_clears 63 = .ok (.iadd, 1) := by decide +kernel
theorem dX11_clears_64 : decode cX11_clears 64 = .ok (.bipush 60, 2) := by decide +kernel
theorem dX11_clears_66 : decode cX11_clears 66 = .ok (.iastore, 1) := by decide +kernel
theorem dX11_clears_67 : decode cX11_clears 67 = .ok (.return_, 1) := by decide +kernel
theorem dX11_of_0 : decode cX11_of 0 = .ok (.aload_n 0, 1) := by decide +kernel
theorem dX11_of_1 : decode cX11_of 1 = .ok (.getfield 7, 3) := by decide +kernel
theorem dX11_of_4 : decode cX11_of 4 = .ok (.bipush 10, 2) := by decide +kernel
theorem dX11_of_6 : decode cX11_of 6 = .ok (.bipush 23, 2) := by decide +kernel
theorem dX11_of_8 : decode cX11_of 8 = .ok (.iload_n 1, 1) := by decide +kernel
theorem dX11_of_9 : decode cX11_of 9 = .ok (.imul, 1) := by decide +kernel
theorem dX11_of_10 : decode cX11_of 10 = .ok (.iadd, 1) := by decide +kernel
theorem dX11_of_11 : decode cX11_of 11 = .ok (.iload_n 2, 1) := by decide +kernel
theorem dX11_of_12 : decode cX11_of 12 = .ok (.iadd, 1) := by decide +kernel
theorem dX11_of_13 : decode cX11_of 13 = .ok (.iaload, 1) := by decide +kernel
theorem dX11_of_14 : decode cX11_of 14 = .ok (.ireturn, 1) := by decide +kernel
theorem dX11_bandPart_0 : decode cX11_bandPart 0 = .ok (.aload_n 0, 1) := by decide +kernel
theorem dX11_bandPart_1 : decode cX11_bandPart 1 = .ok (.iload_n 1, 1) := by decide +kernel
theorem dX11_bandPart_2 : decode cX11_bandPart 2 = .ok (.iconst 5, 1) := by decide +kernel
theorem dX11_bandPart_3 : decode cX11_bandPart 3 = .ok (.iconst 3, 1) := by decide +kernel
theorem dX11_bandPart_4 : decode cX11_bandPart 4 = .ok (.iload_n 2, 1) := by decide +kernel
theorem dX11_bandPart_5 : decode cX11_bandPart 5 = .ok (.imul, 1) := by decide +kernel
theorem dX11_bandPart_6 : decode cX11_bandPart 6 = .ok (.iadd, 1) := by decide +kernel
theorem dX11_bandPart_7 : decode cX11_bandPart 7 = .ok (.iload_n 3, 1) := by decide +kernel
theorem dX11_bandPart_8 : decode cX11_bandPart 8 = .ok (.iadd, 1) := by decide +kernel
theorem dX11_bandPart_9 : decode cX11_bandPart 9 = .ok (.invokevirtual 44, 3) := by decide +kernel
theorem dX11_bandPart_12 : decode cX11_bandPart 12 = .ok (.ireturn, 1) := by decide +kernel
theorem dX11_bandAt_0 : decode cX11_bandAt 0 = .ok (.aload_n 0, 1) := by decide +kernel
theorem dX11_bandAt_1 : decode cX11_bandAt 1 = .ok (.iload_n 1, 1) := by decide +kernel
theorem dX11_bandAt_2 : decode cX11_bandAt 2 = .ok (.iconst 4, 1) := by decide +kernel
theorem dX11_bandAt_3 : decode cX11_bandAt 3 = .ok (.invokevirtual 44, 3) := by decide +kernel
theorem dX11_bandAt_6 : decode cX11_bandAt 6 = .ok (.iconst 1, 1) := by decide +kernel
theorem dX11_bandAt_7 : decode cX11_bandAt 7 = .ok (.isub, 1) := by decide +kernel
theorem dX11_bandAt_8 : decode cX11_bandAt 8 = .ok (.istore_n 3, 1) := by decide +kernel
theorem dX11_bandAt_9 : decode cX11_bandAt 9 = .ok (.aload_n 0, 1) := by decide +kernel
theorem dX11_bandAt_10 : decode cX11_bandAt 10 = .ok (.iload_n 1, 1) := by decide +kernel
theorem dX11_bandAt_11 : decode cX11_bandAt 11 = .ok (.iload_n 3, 1) := by decide +kernel
theorem dX11_bandAt_12 : decode cX11_bandAt 12 = .ok (.iconst 0, 1) := by decide +kernel
theorem dX11_bandAt_13 : decode cX11_bandAt 13 = .ok (.invokevirtual 48, 3) := by decide +kernel
theorem dX11_bandAt_16 : decode cX11_bandAt 16 = .ok (.iload_n 2, 1) := by decide +kernel
theorem dX11_bandAt_17 : decode cX11_bandAt 17 = .ok (.sipush 1440, 3) := by decide +kernel
theorem dX11_bandAt_20 : decode cX11_bandAt 20 = .ok (.irem, 1) := by decide +kernel
theorem dX11_bandAt_21 : decode cX11_bandAt 21 = .ok (.if_icmp .le 9, 3) := by decide +kernel
theorem dX11_bandAt_24 : decode cX11_bandAt 24 = .ok (.iinc 3 (-1), 3) := by decide +kernel
theorem dX11_bandAt_27 : decode cX11_bandAt 27 = .ok (.goto (-18), 3) := by decide +kernel
theorem dX11_bandAt_30 : decode cX11_bandAt 30 = .ok (.iload_n 3, 1) := by decide +kernel
theorem dX11_bandAt_31 : decode cX11_bandAt 31 = .ok (.ireturn, 1) := by decide +kernel
theorem dX11_begins_0 : decode cX11_begins 0 = .ok (.aload_n 0, 1) := by decide +kernel
theorem dX11_begins_1 : decode cX11_begins 1 = .ok (.iload_n 1, 1) := by decide +kernel
theorem dX11_begins_2 : decode cX11_begins 2 = .ok (.putfield 52, 3) := by decide +kernel
theorem dX11_begins_5 : decode cX11_begins 5 = .ok (.aload_n 0, 1) := by decide +kernel
theorem dX11_begins_6 : decode cX11_begins 6 = .ok (.iconst (-1), 1) := by decide +kernel
theorem dX11_begins_7 : decode cX11_begins 7 = .ok (.putfield 56, 3) := by decide +kernel
theorem dX11_begins_10 : decode cX11_begins 10 = .ok (.aload_n 0, 1) := by decide +kernel
theorem dX11_begins_11 : decode cX11_begins 11 = .ok (.iconst 0, 1) := by decide +kernel
theorem dX11_begins_12 : decode cX11_begins 12 = .ok (.putfield 59, 3) := by decide +kernel
theorem dX11_begins_15 : decode cX11_begins 15 = .ok (.aload_n 0, 1) := by decide +kernel
theorem dX11_begins_16 : decode cX11_begins 16 = .ok (.iconst 0, 1) := by decide +kernel
theorem dX11_begins_17 : decode cX11_begins 17 = .ok (.putfield 62, 3) := by decide +kernel
theorem dX11_begins_20 : decode cX11_begins 20 = .ok (.aload_n 0, 1) := by decide +kernel
theorem dX11_begins_21 : decode cX11_begins 21 = .ok (.iconst 0, 1) := by decide +kernel
theorem dX11_begins_22 : decode cX11_begins 22 = .ok (.putfield 65, 3) := by decide +kernel
theorem dX11_begins_25 : decode cX11_begins 25 = .ok (.return_, 1) := by decide +kernel
theorem dX11_capped_0 : decode cX11_capped 0 = .ok (.aload_n 0, 1) := by decide +kernel
theorem dX11_capped_1 : decode cX11_capped 1 = .ok (.iload_n 1, 1) := by decide +kernel
theorem dX11_capped_2 : decode cX11_capped 2 = .ok (.iconst 1, 1) := by decide +kernel
theorem dX11_capped_3 : decode cX11_capped 3 = .ok (.invokevirtual 44, 3) := by decide +kernel
theorem dX11_capped_6 : decode cX11_capped 6 = .ok (.ifCond .le 22, 3) := by decide +kernel
theorem dX11_capped_9 : decode cX11_capped 9 = .ok (.iload_n 2, 1) := by decide +kernel
theorem dX11_capped_10 : decode cX11_capped 10 = .ok (.aload_n 0, 1) := by decide +kernel
theorem dX11_capped_11 : decode cX11_capped 11 = .ok (.iload_n 1, 1) := by decide +kernel
theorem dX11_capped_12 : decode cX11_capped 12 = .ok (.iconst 1, 1) := by decide +kernel
theorem dX11_capped_13 : decode cX11_capped 13 = .ok (.invokevirtual 44, 3) := by decide +kernel
theorem dX11_capped_16 : decode cX11_capped 16 = .ok (.if_icmp .le 12, 3) := by decide +kernel
theorem dX11_capped_19 : decode cX11_capped 19 = .ok (.aload_n 0, 1) := by decide +kernel
theorem dX11_capped_20 : decode cX11_capped 20 = .ok (.iload_n 1, 1) := by decide +kernel
theorem dX11_capped_21 : decode cX11_capped 21 = .ok (.iconst 1, 1) := by decide +kernel
theorem dX11_capped_22 : decode cX11_capped 22 = .ok (.invokevirtual 44, 3) := by decide +kernel
theorem dX11_capped_25 : decode cX11_capped 25 = .ok (.goto 4, 3) := by decide +kernel
theorem dX11_capped_28 : decode cX11_capped 28 = .ok (.iload_n 2, 1) := by decide +kernel
theorem dX11_capped_29 : decode cX11_capped 29 = .ok (.ireturn, 1) := by decide +kernel
theorem dX11_groupOf_0 : decode cX11_groupOf 0 = .ok (.aload_n 0, 1) := by decide +kernel
theorem dX11_groupOf_1 : decode cX11_groupOf 1 = .ok (.iload_n 1, 1) := by decide +kernel
theorem dX11_groupOf_2 : decode cX11_groupOf 2 = .ok (.iconst 2, 1) := by decide +kernel
theorem dX11_groupOf_3 : decode cX11_groupOf 3 = .ok (.invokevirtual 44, 3) := by decide +kernel
theorem dX11_groupOf_6 : decode cX11_groupOf 6 = .ok (.ifCond .ne 16, 3) := by decide +kernel
theorem dX11_groupOf_9 : decode cX11_groupOf 9 = .ok (.aload_n 0, 1) := by decide +kernel
theorem dX11_groupOf_10 : decode cX11_groupOf 10 = .ok (.getfield 52, 3) := by decide +kernel
theorem dX11_groupOf_13 : decode cX11_groupOf 13 = .ok (.iload_n 2, 1) := by decide +kernel
theorem dX11_groupOf_14 : decode cX11_groupOf 14 = .ok (.isub, 1) := by decide +kernel
theorem dX11_groupOf_15 : decode cX11_groupOf 15 = .ok (.sipush 1440, 3) := by decide +kernel
theorem dX11_groupOf_18 : decode cX11_groupOf 18 = .ok (.idiv, 1) := by decide +kernel
theorem dX11_groupOf_19 : decode cX11_groupOf 19 = .ok (.goto 11, 3) := by decide +kernel
theorem dX11_groupOf_22 : decode cX11_groupOf 22 = .ok (.aload_n 0, 1) := by decide +kernel
theorem dX11_groupOf_23 : decode cX11_groupOf 23 = .ok (.getfield 52, 3) := by decide +kernel
theorem dX11_groupOf_26 : decode cX11_groupOf 26 = .ok (.sipush 1440, 3) := by decide +kernel
theorem dX11_groupOf_29 : decode cX11_groupOf 29 = .ok (.idiv, 1) := by decide +kernel
theorem dX11_groupOf_30 : decode cX11_groupOf 30 = .ok (.ireturn, 1) := by decide +kernel
theorem dX11_adds_0 : decode cX11_adds 0 = .ok (.aload_n 0, 1) := by decide +kernel
theorem dX11_adds_1 : decode cX11_adds 1 = .ok (.iload_n 1, 1) := by decide +kernel
theorem dX11_adds_2 : decode cX11_adds 2 = .ok (.iload_n 2, 1) := by decide +kernel
theorem dX11_adds_3 : decode cX11_adds 3 = .ok (.invokevirtual 68, 3) := by decide +kernel
theorem dX11_adds_6 : decode cX11_adds 6 = .ok (.istore_n 3, 1) := by decide +kernel
theorem dX11_adds_7 : decode cX11_adds 7 = .ok (.iload_n 3, 1) := by decide +kernel
theorem dX11_adds_8 : decode cX11_adds 8 = .ok (.aload_n 0, 1) := by decide +kernel
theorem dX11_adds_9 : decode cX11_adds 9 = .ok (.getfield 56, 3) := by decide +kernel
theorem dX11_adds_12 : decode cX11_adds 12 = .ok (.if_icmp .eq 31, 3) := by decide +kernel
theorem dX11_adds_15 : decode cX11_adds 15 = .ok (.aload_n 0, 1) := by decide +kernel
theorem dX11_adds_16 : decode cX11_adds 16 = .ok (.dup, 1) := by decide +kernel
theorem dX11_adds_17 : decode cX11_adds 17 = .ok (.getfield 62, 3) := by decide +kernel
theorem dX11_adds_20 : decode cX11_adds 20 = .ok (.aload_n 0, 1) := by decide +kernel
theorem dX11_adds_21 : decode cX11_adds 21 = .ok (.iload_n 1, 1) := by decide +kernel
theorem dX11_adds_22 : decode cX11_adds 22 = .ok (.aload_n 0, 1) := by decide +kernel
theorem dX11_adds_23 : decode cX11_adds 23 = .ok (.getfield 59, 3) := by decide +kernel
theorem dX11_adds_26 : decode cX11_adds 26 = .ok (.invokevirtual 71, 3) := by decide +kernel
theorem dX11_adds_29 : decode cX11_adds 29 = .ok (.iadd, 1) := by decide +kernel
theorem dX11_adds_30 : decode cX11_adds 30 = .ok (.putfield 62, 3) := by decide +kernel
theorem dX11_adds_33 : decode cX11_adds 33 = .ok (.aload_n 0, 1) := by decide +kernel
theorem dX11_adds_34 : decode cX11_adds 34 = .ok (.iconst 0, 1) := by decide +kernel
theorem dX11_adds_35 : decode cX11_adds 35 = .ok (.putfield 59, 3) := by decide +kernel
theorem dX11_adds_38 : decode cX11_adds 38 = .ok (.aload_n 0, 1) := by decide +kernel
theorem dX11_adds_39 : decode cX11_adds 39 = .ok (.iload_n 3, 1) := by decide +kernel
theorem dX11_adds_40 : decode cX11_adds 40 = .ok (.putfield 56, 3) := by decide +kernel
theorem dX11_adds_43 : decode cX11_adds 43 = .ok (.aload_n 0, 1) := by decide +kernel
theorem dX11_adds_44 : decode cX11_adds 44 = .ok (.iload_n 1, 1) := by decide +kernel
theorem dX11_adds_45 : decode cX11_adds 45 = .ok (.aload_n 0, 1) := by decide +kernel
theorem dX11_adds_46 : decode cX11_adds 46 = .ok (.getfield 52, 3) := by decide +kernel
theorem dX11_adds_49 : decode cX11_adds 49 = .ok (.invokevirtual 74, 3) := by decide +kernel
theorem dX11_adds_52 : decode cX11_adds 52 = .ok (.istore 4, 2) := by decide +kernel
theorem dX11_adds_54 : decode cX11_adds 54 = .ok (.aload_n 0, 1) := by decide +kernel
theorem dX11_adds_55 : decode cX11_adds 55 = .ok (.dup, 1) := by decide +kernel
theorem dX11_adds_56 : decode cX11_adds 56 = .ok (.getfield 59, 3) := by decide +kernel
theorem dX11_adds_59 : decode cX11_adds 59 = .ok (.aload_n 0, 1) := by decide +kernel
theorem dX11_adds_60 : decode cX11_adds 60 = .ok (.iload_n 1, 1) := by decide +kernel
theorem dX11_adds_61 : decode cX11_adds 61 = .ok (.iload 4, 2) := by decide +kernel
theorem dX11_adds_63 : decode cX11_adds 63 = .ok (.iconst 1, 1) := by decide +kernel
theorem dX11_adds_64 : decode cX11_adds 64 = .ok (.invokevirtual 48, 3) := by decide +kernel
theorem dX11_adds_67 : decode cX11_adds 67 = .ok (.iadd, 1) := by decide +kernel
theorem dX11_adds_68 : decode cX11_adds 68 = .ok (.putfield 59, 3) := by decide +kernel
theorem dX11_adds_71 : decode cX11_adds 71 = .ok (.aload_n 0, 1) := by decide +kernel
theorem dX11_adds_72 : decode cX11_adds 72 = .ok (.aload_n 0, 1) := by decide +kernel
theorem dX11_adds_73 : decode cX11_adds 73 = .ok (.getfield 62, 3) := by decide +kernel
theorem dX11_adds_76 : decode cX11_adds 76 = .ok (.aload_n 0, 1) := by decide +kernel
theorem dX11_adds_77 : decode cX11_adds 77 = .ok (.iload_n 1, 1) := by decide +kernel
theorem dX11_adds_78 : decode cX11_adds 78 = .ok (.aload_n 0, 1) := by decide +kernel
theorem dX11_adds_79 : decode cX11_adds 79 = .ok (.getfield 59, 3) := by decide +kernel
theorem dX11_adds_82 : decode cX11_adds 82 = .ok (.invokevirtual 71, 3) := by decide +kernel
theorem dX11_adds_85 : decode cX11_adds 85 = .ok (.iadd, 1) := by decide +kernel
theorem dX11_adds_86 : decode cX11_adds 86 = .ok (.putfield 65, 3) := by decide +kernel
theorem dX11_adds_89 : decode cX11_adds 89 = .ok (.aload_n 0, 1) := by decide +kernel
theorem dX11_adds_90 : decode cX11_adds 90 = .ok (.dup, 1) := by decide +kernel
theorem dX11_adds_91 : decode cX11_adds 91 = .ok (.getfield 52, 3) := by decide +kernel
theorem dX11_adds_94 : decode cX11_adds 94 = .ok (.aload_n 0, 1) := by decide +kernel
theorem dX11_adds_95 : decode cX11_adds 95 = .ok (.iload_n 1, 1) := by decide +kernel
theorem dX11_adds_96 : decode cX11_adds 96 = .ok (.iload 4, 2) := by decide +kernel
theorem dX11_adds_98 : decode cX11_adds 98 = .ok (.iconst 2, 1) := by decide +kernel
theorem dX11_adds_99 : decode cX11_adds 99 = .ok (.invokevirtual 48, 3) := by decide +kernel
theorem dX11_adds_102 : decode cX11_adds 102 = .ok (.iadd, 1) := by decide +kernel
theorem dX11_adds_103 : decode cX11_adds 103 = .ok (.putfield 52, 3) := by decide +kernel
theorem dX11_adds_106 : decode cX11_adds 106 = .ok (.return_, 1) := by decide +kernel
theorem dX11_feeOf_0 : decode cX11_feeOf 0 = .ok (.iload_n 3, 1) := by decide +kernel
theorem dX11_feeOf_1 : decode cX11_feeOf 1 = .ok (.iload_n 2, 1) := by decide +kernel
theorem dX11_feeOf_2 : decode cX11_feeOf 2 = .ok (.isub, 1) := by decide +kernel
theorem dX11_feeOf_3 : decode cX11_feeOf 3 = .ok (.aload_n 0, 1) := by decide +kernel
theorem dX11_feeOf_4 : decode cX11_feeOf 4 = .ok (.iload_n 1, 1) := by decide +kernel
theorem dX11_feeOf_5 : decode cX11_feeOf 5 = .ok (.iconst 0, 1) := by decide +kernel
theorem dX11_feeOf_6 : decode cX11_feeOf 6 = .ok (.invokevirtual 44, 3) := by decide +kernel
theorem dX11_feeOf_9 : decode cX11_feeOf 9 = .ok (.if_icmp .gt 5, 3) := by decide +kernel
theorem dX11_feeOf_12 : decode cX11_feeOf 12 = .ok (.iconst 0, 1) := by decide +kernel
theorem dX11_feeOf_13 : decode cX11_feeOf 13 = .ok (.ireturn, 1) := by decide +kernel
theorem dX11_feeOf_14 : decode cX11_feeOf 14 = .ok (.aload_n 0, 1) := by decide +kernel
theorem dX11_feeOf_15 : decode cX11_feeOf 15 = .ok (.iload_n 2, 1) := by decide +kernel
theorem dX11_feeOf_16 : decode cX11_feeOf 16 = .ok (.invokevirtual 77, 3) := by decide +kernel
theorem dX11_feeOf_19 : decode cX11_feeOf 19 = .ok (.aload_n 0, 1) := by decide +kernel
theorem dX11_feeOf_20 : decode cX11_feeOf 20 = .ok (.getfield 52, 3) := by decide +kernel
theorem dX11_feeOf_23 : decode cX11_feeOf 23 = .ok (.iload_n 3, 1) := by decide +kernel
theorem dX11_feeOf_24 : decode cX11_feeOf 24 = .ok (.if_icmp .ge 12, 3) := by decide +kernel
theorem dX11_feeOf_27 : decode cX11_feeOf 27 = .ok (.aload_n 0, 1) := by decide +kernel
theorem dX11_feeOf_28 : decode cX11_feeOf 28 = .ok (.iload_n 1, 1) := by decide +kernel
theorem dX11_feeOf_29 : decode cX11_feeOf 29 = .ok (.iload_n 2, 1) := by decide +kernel
theorem dX11_feeOf_30 : decode cX11_feeOf 30 = .ok (.invokevirtual 80, 3) := by decide +kernel
theorem dX11_feeOf_33 : decode cX11_feeOf 33 = .ok (.goto (-14), 3) := by decide +kernel
theorem dX11_feeOf_36 : decode cX11_feeOf 36 = .ok (.aload_n 0, 1) := by decide +kernel
theorem dX11_feeOf_37 : decode cX11_feeOf 37 = .ok (.getfield 65, 3) := by decide +kernel
theorem dX11_feeOf_40 : decode cX11_feeOf 40 = .ok (.ireturn, 1) := by decide +kernel
theorem dX11_isStay_0 : decode cX11_isStay 0 = .ok (.iload_n 1, 1) := by decide +kernel
theorem dX11_isStay_1 : decode cX11_isStay 1 = .ok (.invokestatic 84, 3) := by decide +kernel
theorem dX11_isStay_4 : decode cX11_isStay 4 = .ok (.ifCond .eq 24, 3) := by decide +kernel
theorem dX11_isStay_7 : decode cX11_isStay 7 = .ok (.iload_n 2, 1) := by decide +kernel
theorem dX11_isStay_8 : decode cX11_isStay 8 = .ok (.invokestatic 88, 3) := by decide +kernel
theorem dX11_isStay_11 : decode cX11_isStay 11 = .ok (.ifCond .eq 17, 3) := by decide +kernel
theorem dX11_isStay_14 : decode cX11_isStay 14 = .ok (.iload_n 3, 1) := by decide +kernel
theorem dX11_isStay_15 : decode cX11_isStay 15 = .ok (.iload_n 2, 1) := by decide +kernel
theorem dX11_isStay_16 : decode cX11_isStay 16 = .ok (.ldc 43, 2) := by decide +kernel
theorem dX11_isStay_18 : decode cX11_isStay 18 = .ok (.invokestatic 39, 3) := by decide +kernel
theorem dX11_isStay_21 : decode cX11_isStay 21 = .ok (.ifCond .eq 7, 3) := by decide +kernel
theorem dX11_isStay_24 : decode cX11_isStay 24 = .ok (.iconst 1, 1) := by decide +kernel
theorem dX11_isStay_25 : decode cX11_isStay 25 = .ok (.goto 4, 3) := by decide +kernel
theorem dX11_isStay_28 : decode cX11_isStay 28 = .ok (.iconst 0, 1) := by decide +kernel
theorem dX11_isStay_29 : decode cX11_isStay 29 = .ok (.ireturn, 1) := by decide +kernel
theorem dX11_fee_0 : decode cX11_fee 0 = .ok (.aload_n 0, 1) := by decide +kernel
theorem dX11_fee_1 : decode cX11_fee 1 = .ok (.iload_n 1, 1) := by decide +kernel
theorem dX11_fee_2 : decode cX11_fee 2 = .ok (.iload_n 2, 1) := by decide +kernel
theorem dX11_fee_3 : decode cX11_fee 3 = .ok (.iload_n 3, 1) := by decide +kernel
theorem dX11_fee_4 : decode cX11_fee 4 = .ok (.invokevirtual 91, 3) := by decide +kernel
theorem dX11_fee_7 : decode cX11_fee 7 = .ok (.ifCond .eq 13, 3) := by decide +kernel
theorem dX11_fee_10 : decode cX11_fee 10 = .ok (.aload_n 0, 1) := by decide +kernel
theorem dX11_fee_11 : decode cX11_fee 11 = .ok (.iload_n 1, 1) := by decide +kernel
theorem dX11_fee_12 : decode cX11_fee 12 = .ok (.iload_n 2, 1) := by decide +kernel
theorem dX11_fee_13 : decode cX11_fee 13 = .ok (.iload_n 3, 1) := by decide +kernel
theorem dX11_fee_14 : decode cX11_fee 14 = .ok (.invokevirtual 94, 3) := by decide +kernel
theorem dX11_fee_17 : decode cX11_fee 17 = .ok (.goto 5, 3) := by decide +kernel
theorem dX11_fee_20 : decode cX11_fee 20 = .ok (.bipush (-2), 2) := by decide +kernel
theorem dX11_fee_22 : decode cX11_fee 22 = .ok (.ireturn, 1) := by decide +kernel
theorem dX11_unit_0 : decode cX11_unit 0 = .ok (.iload_n 1, 1) := by decide +kernel
theorem dX11_unit_1 : decode cX11_unit 1 = .ok (.invokestatic 84, 3) := by decide +kernel
theorem dX11_unit_4 : decode cX11_unit 4 = .ok (.ifCond .eq 30, 3) := by decide +kernel
theorem dX11_unit_7 : decode cX11_unit 7 = .ok (.iload_n 2, 1) := by decide +kernel
theorem dX11_unit_8 : decode cX11_unit 8 = .ok (.invokestatic 88, 3) := by decide +kernel
theorem dX11_unit_11 : decode cX11_unit 11 = .ok (.ifCond .eq 23, 3) := by decide +kernel
theorem dX11_unit_14 : decode cX11_unit 14 = .ok (.iload_n 3, 1) := by decide +kernel
theorem dX11_unit_15 : decode cX11_unit 15 = .ok (.iconst 0, 1) := by decide +kernel
theorem dX11_unit_16 : decode cX11_unit 16 = .ok (.bipush 99, 2) := by decide +kernel
theorem dX11_unit_18 : decode cX11_unit 18 = .ok (.invokestatic 39, 3) := by decide +kernel
theorem dX11_unit_21 : decode cX11_unit 21 = .ok (.ifCond .eq 13, 3) := by decide +kernel
theorem dX11_unit_24 : decode cX11_unit 24 = .ok (.iload 4, 2) := by decide +kernel
theorem dX11_unit_26 : decode cX11_unit 26 = .ok (.iconst 0, 1) := by decide +kernel
theorem dX11_unit_27 : decode cX11_unit 27 = .ok (.iconst 2, 1) := by decide +kernel
theorem dX11_unit_28 : decode cX11_unit 28 = .ok (.invokestatic 39, 3) := by decide +kernel
theorem dX11_unit_31 : decode cX11_unit 31 = .ok (.ifCond .ne 6, 3) := by decide +kernel
theorem dX11_unit_34 : decode cX11_unit 34 = .ok (.bipush (-2), 2) := by decide +kernel
theorem dX11_unit_36 : decode cX11_unit 36 = .ok (.ireturn, 1) := by decide +kernel
theorem dX11_unit_37 : decode cX11_unit 37 = .ok (.aload_n 0, 1) := by decide +kernel
theorem dX11_unit_38 : decode cX11_unit 38 = .ok (.iload_n 2, 1) := by decide +kernel
theorem dX11_unit_39 : decode cX11_unit 39 = .ok (.invokevirtual 77, 3) := by decide +kernel
theorem dX11_unit_42 : decode cX11_unit 42 = .ok (.iconst 0, 1) := by decide +kernel
theorem dX11_unit_43 : decode cX11_unit 43 = .ok (.istore 5, 2) := by decide +kernel
theorem dX11_unit_45 : decode cX11_unit 45 = .ok (.iload 5, 2) := by decide +kernel
theorem dX11_unit_47 : decode cX11_unit 47 = .ok (.iload_n 3, 1) := by decide +kernel
theorem dX11_unit_48 : decode cX11_unit 48 = .ok (.if_icmp .ge 15, 3) := by decide +kernel
theorem dX11_unit_51 : decode cX11_unit 51 = .ok (.aload_n 0, 1) := by decide +kernel
theorem dX11_unit_52 : decode cX11_unit 52 = .ok (.iload_n 1, 1) := by decide +kernel
theorem dX11_unit_53 : decode cX11_unit 53 = .ok (.iload_n 2, 1) := by decide +kernel
theorem dX11_unit_54 : decode cX11_unit 54 = .ok (.invokevirtual 80, 3) := by decide +kernel
theorem dX11_unit_57 : decode cX11_unit 57 = .ok (.iinc 5 1, 3) := by decide +kernel
theorem dX11_unit_60 : decode cX11_unit 60 = .ok (.goto (-15), 3) := by decide +kernel
theorem dX11_unit_63 : decode cX11_unit 63 = .ok (.iload 4, 2) := by decide +kernel
theorem dX11_unit_65 : decode cX11_unit 65 = .ok (.ifCond .ne 10, 3) := by decide +kernel
theorem dX11_unit_68 : decode cX11_unit 68 = .ok (.aload_n 0, 1) := by decide +kernel
theorem dX11_unit_69 : decode cX11_unit 69 = .ok (.getfield 52, 3) := by decide +kernel
theorem dX11_unit_72 : decode cX11_unit 72 = .ok (.goto 27, 3) := by decide +kernel
theorem dX11_unit_75 : decode cX11_unit 75 = .ok (.iload 4, 2) := by decide +kernel
theorem dX11_unit_77 : decode cX11_unit 77 = .ok (.iconst 1, 1) := by decide +kernel
theorem dX11_unit_78 : decode cX11_unit 78 = .ok (.if_icmp .ne 15, 3) := by decide +kernel
theorem dX11_unit_81 : decode cX11_unit 81 = .ok (.aload_n 0, 1) := by decide +kernel
theorem dX11_unit_82 : decode cX11_unit 82 = .ok (.iload_n 1, 1) := by decide +kernel
theorem dX11_unit_83 : decode cX11_unit 83 = .ok (.aload_n 0, 1) := by decide +kernel
theorem dX11_unit_84 : decode cX11_unit 84 = .ok (.getfield 52, 3) := by decide +kernel
theorem dX11_unit_87 : decode cX11_unit 87 = .ok (.invokevirtual 74, 3) := by decide +kernel
theorem dX11_unit_90 : decode cX11_unit 90 = .ok (.goto 9, 3) := by decide +kernel
theorem dX11_unit_93 : decode cX11_unit 93 = .ok (.aload_n 0, 1) := by decide +kernel
theorem dX11_unit_94 : decode cX11_unit 94 = .ok (.iload_n 1, 1) := by decide +kernel
theorem dX11_unit_95 : decode cX11_unit 95 = .ok (.iload_n 2, 1) := by decide +kernel
theorem dX11_unit_96 : decode cX11_unit 96 = .ok (.invokevirtual 68, 3) := by decide +kernel
theorem dX11_unit_99 : decode cX11_unit 99 = .ok (.ireturn, 1) := by decide +kernel
theorem dX11_extend_0 : decode cX11_extend 0 = .ok (.aload_n 0, 1) := by decide +kernel
theorem dX11_extend_1 : decode cX11_extend 1 = .ok (.iload_n 1, 1) := by decide +kernel
theorem dX11_extend_2 : decode cX11_extend 2 = .ok (.iload_n 2, 1) := by decide +kernel
theorem dX11_extend_3 : decode cX11_extend 3 = .ok (.iload_n 3, 1) := by decide +kernel
theorem dX11_extend_4 : decode cX11_extend 4 = .ok (.invokevirtual 91, 3) := by decide +kernel
theorem dX11_extend_7 : decode cX11_extend 7 = .ok (.ifCond .ne 6, 3) := by decide +kernel
theorem dX11_extend_10 : decode cX11_extend 10 = .ok (.bipush (-2), 2) := by decide +kernel
theorem dX11_extend_12 : decode cX11_extend 12 = .ok (.ireturn, 1) := by decide +kernel
theorem dX11_extend_13 : decode cX11_extend 13 = .ok (.aload_n 0, 1) := by decide +kernel
theorem dX11_extend_14 : decode cX11_extend 14 = .ok (.iload_n 1, 1) := by decide +kernel
theorem dX11_extend_15 : decode cX11_extend 15 = .ok (.iload_n 2, 1) := by decide +kernel
theorem dX11_extend_16 : decode cX11_extend 16 = .ok (.iload_n 3, 1) := by decide +kernel
theorem dX11_extend_17 : decode cX11_extend 17 = .ok (.invokevirtual 94, 3) := by decide +kernel
theorem dX11_extend_20 : decode cX11_extend 20 = .ok (.istore 4, 2) := by decide +kernel
theorem dX11_extend_22 : decode cX11_extend 22 = .ok (.aload_n 0, 1) := by decide +kernel
theorem dX11_extend_23 : decode cX11_extend 23 = .ok (.iload_n 2, 1) := by decide +kernel
theorem dX11_extend_24 : decode cX11_extend 24 = .ok (.invokevirtual 77, 3) := by decide +kernel
theorem dX11_extend_27 : decode cX11_extend 27 = .ok (.iload_n 2, 1) := by decide +kernel
theorem dX11_extend_28 : decode cX11_extend 28 = .ok (.istore 5, 2) := by decide +kernel
theorem dX11_extend_30 : decode cX11_extend 30 = .ok (.aload_n 0, 1) := by decide +kernel
theorem dX11_extend_31 : decode cX11_extend 31 = .ok (.getfield 52, 3) := by decide +kernel
theorem dX11_extend_34 : decode cX11_extend 34 = .ok (.ldc 43, 2) := by decide +kernel
theorem dX11_extend_36 : decode cX11_extend 36 = .ok (.if_icmp .gt 27, 3) := by decide +kernel
theorem dX11_extend_39 : decode cX11_extend 39 = .ok (.aload_n 0, 1) := by decide +kernel
theorem dX11_extend_40 : decode cX11_extend 40 = .ok (.getfield 65, 3) := by decide +kernel
theorem dX11_extend_43 : decode cX11_extend 43 = .ok (.iload 4, 2) := by decide +kernel
theorem dX11_extend_45 : decode cX11_extend 45 = .ok (.if_icmp .gt 18, 3) := by decide +kernel
theorem dX11_extend_48 : decode cX11_extend 48 = .ok (.aload_n 0, 1) := by decide +kernel
theorem dX11_extend_49 : decode cX11_extend 49 = .ok (.getfield 52, 3) := by decide +kernel
theorem dX11_extend_52 : decode cX11_extend 52 = .ok (.istore 5, 2) := by decide +kernel
theorem dX11_extend_54 : decode cX11_extend 54 = .ok (.aload_n 0, 1) := by decide +kernel
theorem dX11_extend_55 : decode cX11_extend 55 = .ok (.iload_n 1, 1) := by decide +kernel
theorem dX11_extend_56 : decode cX11_extend 56 = .ok (.iload_n 2, 1) := by decide +kernel
theorem dX11_extend_57 : decode cX11_extend 57 = .ok (.invokevirtual 80, 3) := by decide +kernel
theorem dX11_extend_60 : decode cX11_extend 60 = .ok (.goto (-30), 3) := by decide +kernel
theorem dX11_extend_63 : decode cX11_extend 63 = .ok (.aload_n 0, 1) := by decide +kernel
theorem dX11_extend_64 : decode cX11_extend 64 = .ok (.getfield 65, 3) := by decide +kernel
theorem dX11_extend_67 : decode cX11_extend 67 = .ok (.iload 4, 2) := by decide +kernel
theorem dX11_extend_69 : decode cX11_extend 69 = .ok (.if_icmp .gt 6, 3) := by decide +kernel
theorem dX11_extend_72 : decode cX11_extend 72 = .ok (.ldc 43, 2) := by decide +kernel
theorem dX11_extend_74 : decode cX11_extend 74 = .ok (.ireturn, 1) := by decide +kernel
theorem dX11_extend_75 : decode cX11_extend 75 = .ok (.iload_n 2, 1) := by decide +kernel
theorem dX11_extend_76 : decode cX11_extend 76 = .ok (.aload_n 0, 1) := by decide +kernel
theorem dX11_extend_77 : decode cX11_extend 77 = .ok (.iload_n 1, 1) := by decide +kernel
theorem dX11_extend_78 : decode cX11_extend 78 = .ok (.iconst 0, 1) := by decide +kernel
theorem dX11_extend_79 : decode cX11_extend 79 = .ok (.invokevirtual 44, 3) := by decide +kernel
theorem dX11_extend_82 : decode cX11_extend 82 = .ok (.iadd, 1) := by decide +kernel
theorem dX11_extend_83 : decode cX11_extend 83 = .ok (.istore 6, 2) := by decide +kernel
theorem dX11_extend_85 : decode cX11_extend 85 = .ok (.iload 6, 2) := by decide +kernel
theorem dX11_extend_87 : decode cX11_extend 87 = .ok (.iload 5, 2) := by decide +kernel
theorem dX11_extend_89 : decode cX11_extend 89 = .ok (.if_icmp .le 20, 3) := by decide +kernel
theorem dX11_extend_92 : decode cX11_extend 92 = .ok (.iload 6, 2) := by decide +kernel
theorem dX11_extend_94 : decode cX11_extend 94 = .ok (.ldc 43, 2) := by decide +kernel
theorem dX11_extend_96 : decode cX11_extend 96 = .ok (.if_icmp .le 8, 3) := by decide +kernel
theorem dX11_extend_99 : decode cX11_extend 99 = .ok (.ldc 43, 2) := by decide +kernel
theorem dX11_extend_101 : decode cX11_extend 101 = .ok (.goto 10, 3) := by decide +kernel
theorem dX11_extend_104 : decode cX11_extend 104 = .ok (.iload 6, 2) := by decide +kernel
theorem dX11_extend_106 : decode cX11_extend 106 = .ok (.goto 5, 3) := by decide +kernel
theorem dX11_extend_109 : decode cX11_extend 109 = .ok (.iload 5, 2) := by decide +kernel
theorem dX11_extend_111 : decode cX11_extend 111 = .ok (.ireturn, 1) := by decide +kernel
theorem dX11_append_0 : decode cX11_append 0 = .ok (.iload_n 1, 1) := by decide +kernel
theorem dX11_append_1 : decode cX11_append 1 = .ok (.iconst 0, 1) := by decide +kernel
theorem dX11_append_2 : decode cX11_append 2 = .ok (.bipush 127, 2) := by decide +kernel
theorem dX11_append_4 : decode cX11_append 4 = .ok (.invokestatic 39, 3) := by decide +kernel
theorem dX11_append_7 : decode cX11_append 7 = .ok (.ifCond .eq 13, 3) := by decide +kernel
theorem dX11_append_10 : decode cX11_append 10 = .ok (.iload_n 2, 1) := by decide +kernel
theorem dX11_append_11 : decode cX11_append 11 = .ok (.iconst 1, 1) := by decide +kernel
theorem dX11_append_12 : decode cX11_append 12 = .ok (.bipush 90, 2) := by decide +kernel
theorem dX11_append_14 : decode cX11_append 14 = .ok (.invokestatic 39, 3) := by decide +kernel
theorem dX11_append_17 : decode cX11_append 17 = .ok (.ifCond .ne 6, 3) := by decide +kernel
theorem dX11_append_20 : decode cX11_append 20 = .ok (.bipush (-2), 2) := by decide +kernel
theorem dX11_append_22 : decode cX11_append 22 = .ok (.ireturn, 1) := by decide +kernel
theorem dX11_append_23 : decode cX11_append 23 = .ok (.aload_n 0, 1) := by decide +kernel
theorem dX11_append_24 : decode cX11_append 24 = .ok (.getfield 97, 3) := by decide +kernel
theorem dX11_append_27 : decode cX11_append 27 = .ok (.iload_n 2, 1) := by decide +kernel
theorem dX11_append_28 : decode cX11_append 28 = .ok (.iadd, 1) := by decide +kernel
theorem dX11_append_29 : decode cX11_append 29 = .ok (.bipush 90, 2) := by decide +kernel
theorem dX11_append_31 : decode cX11_append 31 = .ok (.if_icmp .le 6, 3) := by decide +kernel
theorem dX11_append_34 : decode cX11_append 34 = .ok (.bipush (-3), 2) := by decide +kernel
theorem dX11_append_36 : decode cX11_append 36 = .ok (.ireturn, 1) := by decide +kernel
theorem dX11_append_37 : decode cX11_append 37 = .ok (.iconst 0, 1) := by decide +kernel
theorem dX11_append_38 : decode cX11_append 38 = .ok (.istore_n 3, 1) := by decide +kernel
theorem dX11_append_39 : decode cX11_append 39 = .ok (.iload_n 3, 1) := by decide +kernel
theorem dX11_append_40 : decode cX11_append 40 = .ok (.iload_n 2, 1) := by decide +kernel
theorem dX11_append_41 : decode cX11_append 41 = .ok (.if_icmp .ge 21, 3) := by decide +kernel
theorem dX11_append_44 : decode cX11_append 44 = .ok (.aload_n 0, 1) := by decide +kernel
theorem dX11_append_45 : decode cX11_append 45 = .ok (.getfield 23, 3) := by decide +kernel
theorem dX11_append_48 : decode cX11_append 48 = .ok (.aload_n 0, 1) := by decide +kernel
theorem dX11_append_49 : decode cX11_append 49 = .ok (.getfield 97, 3) := by decide +kernel
theorem dX11_append_52 : decode cX11_append 52 = .ok (.iload_n 3, 1) := by decide +kernel
theorem dX11_append_53 : decode cX11_append 53 = .ok (.iadd, 1) := by decide +kernel
theorem dX11_append_54 : decode cX11_append 54 = .ok (.iload_n 1, 1) := by decide +kernel
theorem dX11_append_55 : decode cX11_append 55 = .ok (.iastore, 1) := by decide +kernel
theorem dX11_append_56 : decode cX11_append 56 = .ok (.iinc 3 1, 3) := by decide +kernel
theorem dX11_append_59 : decode cX11_append 59 = .ok (.goto (-20), 3) := by decide +kernel
theorem dX11_append_62 : decode cX11_append 62 = .ok (.aload_n 0, 1) := by decide +kernel
theorem dX11_append_63 : decode cX11_append 63 = .ok (.dup, 1) := by decide +kernel
theorem dX11_append_64 : decode cX11_append 64 = .ok (.getfield 97, 3) := by decide +kernel
theorem dX11_append_67 : decode cX11_append 67 = .ok (.iload_n 2, 1) := by decide +kernel
theorem dX11_append_68 : decode cX11_append 68 = .ok (.iadd, 1) := by decide +kernel
theorem dX11_append_69 : decode cX11_append 69 = .ok (.putfield 97, 3) := by decide +kernel
theorem dX11_append_72 : decode cX11_append 72 = .ok (.aload_n 0, 1) := by decide +kernel
theorem dX11_append_73 : decode cX11_append 73 = .ok (.getfield 97, 3) := by decide +kernel
theorem dX11_append_76 : decode cX11_append 76 = .ok (.ireturn, 1) := by decide +kernel
theorem dX11_here_0 : decode cX11_here 0 = .ok (.aload_n 0, 1) := by decide +kernel
theorem dX11_here_1 : decode cX11_here 1 = .ok (.getfield 100, 3) := by decide +kernel
theorem dX11_here_4 : decode cX11_here 4 = .ok (.aload_n 0, 1) := by decide +kernel
theorem dX11_here_5 : decode cX11_here 5 = .ok (.getfield 97, 3) := by decide +kernel
theorem dX11_here_8 : decode cX11_here 8 = .ok (.if_icmp .ge 15, 3) := by decide +kernel
theorem dX11_here_11 : decode cX11_here 11 = .ok (.aload_n 0, 1) := by decide +kernel
theorem dX11_here_12 : decode cX11_here 12 = .ok (.getfield 23, 3) := by decide +kernel
theorem dX11_here_15 : decode cX11_here 15 = .ok (.aload_n 0, 1) := by decide +kernel
theorem dX11_here_16 : decode cX11_here 16 = .ok (.getfield 100, 3) := by decide +kernel
theorem dX11_here_19 : decode cX11_here 19 = .ok (.iaload, 1) := by decide +kernel
theorem dX11_here_20 : decode cX11_here 20 = .ok (.goto 4, 3) := by decide +kernel
theorem dX11_here_23 : decode cX11_here 23 = .ok (.iconst (-1), 1) := by decide +kernel
theorem dX11_here_24 : decode cX11_here 24 = .ok (.ireturn, 1) := by decide +kernel
theorem dX11_fails_0 : decode cX11_fails 0 = .ok (.aload_n 0, 1) := by decide +kernel
theorem dX11_fails_1 : decode cX11_fails 1 = .ok (.getfield 103, 3) := by decide +kernel
theorem dX11_fails_4 : decode cX11_fails 4 = .ok (.ifCond .le 4, 3) := by decide +kernel
theorem dX11_fails_7 : decode cX11_fails 7 = .ok (.return_, 1) := by decide +kernel
theorem dX11_fails_8 : decode cX11_fails 8 = .ok (.aload_n 0, 1) := by decide +kernel
theorem dX11_fails_9 : decode cX11_fails 9 = .ok (.iload_n 1, 1) := by decide +kernel
theorem dX11_fails_10 : decode cX11_fails 10 = .ok (.putfield 103, 3) := by decide +kernel
theorem dX11_fails_13 : decode cX11_fails 13 = .ok (.aload_n 0, 1) := by decide +kernel
theorem dX11_fails_14 : decode cX11_fails 14 = .ok (.iload_n 2, 1) := by decide +kernel
theorem dX11_fails_15 : decode cX11_fails 15 = .ok (.putfield 106, 3) := by decide +kernel
theorem dX11_fails_18 : decode cX11_fails 18 = .ok (.return_, 1) := by decide +kernel
theorem dX11_must_0 : decode cX11_must 0 = .ok (.aload_n 0, 1) := by decide +kernel
theorem dX11_must_1 : decode cX11_must 1 = .ok (.invokevirtual 109, 3) := by decide +kernel
theorem dX11_must_4 : decode cX11_must 4 = .ok (.iload_n 1, 1) := by decide +kernel
theorem dX11_must_5 : decode cX11_must 5 = .ok (.if_icmp .eq 12, 3) := by decide +kernel
theorem dX11_must_8 : decode cX11_must 8 = .ok (.aload_n 0, 1) := by decide +kernel
theorem dX11_must_9 : decode cX11_must 9 = .ok (.iconst 3, 1) := by decide +kernel
theorem dX11_must_10 : decode cX11_must 10 = .ok (.aload_n 0, 1) := by decide +kernel
theorem dX11_must_11 : decode cX11_must 11 = .ok (.getfield 100, 3) := by decide +kernel
theorem dX11_must_14 : decode cX11_must 14 = .ok (.invokevirtual 113, 3) := by decide +kernel
theorem dX11_must_17 : decode cX11_must 17 = .ok (.aload_n 0, 1) := by decide +kernel
theorem dX11_must_18 : decode cX11_must 18 = .ok (.dup, 1) := by decide +kernel
theorem dX11_must_19 : decode cX11_must 19 = .ok (.getfield 100, 3) := by decide +kernel
theorem dX11_must_22 : decode cX11_must 22 = .ok (.aload_n 0, 1) := by decide +kernel
theorem dX11_must_23 : decode cX11_must 23 = .ok (.getfield 103, 3) := by decide +kernel
theorem dX11_must_26 : decode cX11_must 26 = .ok (.ifCond .ne 7, 3) := by decide +kernel
theorem dX11_must_29 : decode cX11_must 29 = .ok (.iconst 1, 1) := by decide +kernel
theorem dX11_must_30 : decode cX11_must 30 = .ok (.goto 4, 3) := by decide +kernel
theorem dX11_must_33 : decode cX11_must 33 = .ok (.iconst 0, 1) := by decide +kernel
theorem dX11_must_34 : decode cX11_must 34 = .ok (.iadd, 1) := by decide +kernel
theorem dX11_must_35 : decode cX11_must 35 = .ok (.putfield 100, 3) := by decide +kernel
theorem dX11_must_38 : decode cX11_must 38 = .ok (.return_, 1) := by decide +kernel
theorem dX11_number_0 : decode cX11_number 0 = .ok (.aload_n 0, 1) := by decide +kernel
theorem dX11_number_1 : decode cX11_number 1 = .ok (.invokevirtual 109, 3) := by decide +kernel
theorem dX11_number_4 : decode cX11_number 4 = .ok (.bipush 48, 2) := by decide +kernel
theorem dX11_number_6 : decode cX11_number 6 = .ok (.bipush 57, 2) := by decide +kernel
theorem dX11_number_8 : decode cX11_number 8 = .ok (.invokestatic 39, 3) := by decide +kernel
theorem dX11_number_11 : decode cX11_number 11 = .ok (.ifCond .ne 12, 3) := by decide +kernel
theorem dX11_number_14 : decode cX11_number 14 = .ok (.aload_n 0, 1) := by decide +kernel
theorem dX11_number_15 : decode cX11_number 15 = .ok (.iconst 3, 1) := by decide +kernel
theorem dX11_number_16 : decode cX11_number 16 = .ok (.aload_n 0, 1) := by decide +kernel
theorem dX11_number_17 : decode cX11_number 17 = .ok (.getfield 100, 3) := by decide +kernel
theorem dX11_number_20 : decode cX11_number 20 = .ok (.invokevirtual 113, 3) := by decide +kernel
theorem dX11_number_23 : decode cX11_number 23 = .ok (.aload_n 0, 1) := by decide +kernel
theorem dX11_number_24 : decode cX11_number 24 = .ok (.getfield 32, 3) := by decide +kernel
theorem dX11_number_27 : decode cX11_number 27 = .ok (.iload_n 1, 1) := by decide +kernel
theorem dX11_number_28 : decode cX11_number 28 = .ok (.iconst 0, 1) := by decide +kernel
theorem dX11_number_29 : decode cX11_number 29 = .ok (.iastore, 1) := by decide +kernel
theorem dX11_number_30 : decode cX11_number 30 = .ok (.iconst 0, 1) := by decide +kernel
theorem dX11_number_31 : decode cX11_number 31 = .ok (.istore_n 2, 1) := by decide +kernel
theorem dX11_number_32 : decode cX11_number 32 = .ok (.iload_n 2, 1) := by decide +kernel
theorem dX11_number_33 : decode cX11_number 33 = .ok (.iconst 4, 1) := by decide +kernel
theorem dX11_number_34 : decode cX11_number 34 = .ok (.if_icmp .ge 63, 3) := by decide +kernel
theorem dX11_number_37 : decode cX11_number 37 = .ok (.aload_n 0, 1) := by decide +kernel
theorem dX11_number_38 : decode cX11_number 38 = .ok (.getfield 103, 3) := by decide +kernel
theorem dX11_number_41 : decode cX11_number 41 = .ok (.ifCond .ne 56, 3) := by decide +kernel
theorem dX11_number_44 : decode cX11_number 44 = .ok (.aload_n 0, 1) := by decide +kernel
theorem dX11_number_45 : decode cX11_number 45 = .ok (.invokevirtual 109, 3) := by decide +kernel
theorem dX11_number_48 : decode cX11_number 48 = .ok (.bipush 48, 2) := by decide +kernel
theorem dX11_number_50 : decode cX11_number 50 = .ok (.bipush 57, 2) := by decide +kernel
theorem dX11_number_52 : decode cX11_number 52 = .ok (.invokestatic 39, 3) := by decide +kernel
theorem dX11_number_55 : decode cX11_number 55 = .ok (.ifCond .eq 42, 3) := by decide +kernel
theorem dX11_number_58 : decode cX11_number 58 = .ok (.aload_n 0, 1) := by decide +kernel
theorem dX11_number_59 : decode cX11_number 59 = .ok (.getfield 32, 3) := by decide +kernel
theorem dX11_number_62 : decode cX11_number 62 = .ok (.iload_n 1, 1) := by decide +kernel
theorem dX11_number_63 : decode cX11_number 63 = .ok (.bipush 10, 2) := by decide +kernel
theorem dX11_number_65 : decode cX11_number 65 = .ok (.aload_n 0, 1) := by decide +kernel
theorem dX11_number_66 : decode cX11_number 66 = .ok (.getfield 32, 3) := by decide +kernel
theorem dX11_number_69 : decode cX11_number 69 = .ok (.iload_n 1, 1) := by decide +kernel
theorem dX11_number_70 : decode cX11_number 70 = .ok (.iaload, 1) := by decide +kernel
theorem dX11_number_71 : decode cX11_number 71 = .ok (.imul, 1) := by decide +kernel
theorem dX11_number_72 : decode cX11_number 72 = .ok (.aload_n 0, 1) := by decide +kernel
theorem dX11_number_73 : decode cX11_number 73 = .ok (.invokevirtual 109, 3) := by decide +kernel
theorem dX11_number_76 : decode cX11_number 76 = .ok (.iadd, 1) := by decide +kernel
theorem dX11_number_77 : decode cX11_number 77 = .ok (.bipush 48, 2) := by decide +kernel
theorem dX11_number_79 : decode cX11_number 79 = .ok (.isub, 1) := by decide +kernel
theorem dX11_number_80 : decode cX11_number 80 = .ok (.iastore, 1) := by decide +kernel
theorem dX11_number_81 : decode cX11_number 81 = .ok (.aload_n 0, 1) := by decide +kernel
theorem dX11_number_82 : decode cX11_number 82 = .ok (.dup, 1) := by decide +kernel
theorem dX11_number_83 : decode cX11_number 83 = .ok (.getfield 100, 3) := by decide +kernel
theorem dX11_number_86 : decode cX11_number 86 = .ok (.iconst 1, 1) := by decide +kernel
theorem dX11_number_87 : decode cX11_number 87 = .ok (.iadd, 1) := by decide +kernel
theorem dX11_number_88 : decode cX11_number 88 = .ok (.putfield 100, 3) := by decide +kernel
theorem dX11_number_91 : decode cX11_number 91 = .ok (.iinc 2 1, 3) := by decide +kernel
theorem dX11_number_94 : decode cX11_number 94 = .ok (.goto (-62), 3) := by decide +kernel
theorem dX11_number_97 : decode cX11_number 97 = .ok (.return_, 1) := by decide +kernel
theorem dX11_isWord_0 : decode cX11_isWord 0 = .ok (.iload_n 2, 1) := by decide +kernel
theorem dX11_isWord_1 : decode cX11_isWord 1 = .ok (.iload 6, 2) := by decide +kernel
theorem dX11_isWord_3 : decode cX11_isWord 3 = .ok (.ifCond .ne 7, 3) := by decide +kernel
theorem dX11_isWord_6 : decode cX11_isWord 6 = .ok (.iconst 3, 1) := by decide +kernel
theorem dX11_isWord_7 : decode cX11_isWord 7 = .ok (.goto 4, 3) := by decide +kernel
theorem dX11_isWord_10 : decode cX11_isWord 10 = .ok (.iconst 4, 1) := by decide +kernel
theorem dX11_isWord_11 : decode cX11_isWord 11 = .ok (.if_icmp .ne 61, 3) := by decide +kernel
theorem dX11_isWord_14 : decode cX11_isWord 14 = .ok (.aload_n 0, 1) := by decide +kernel
theorem dX11_isWord_15 : decode cX11_isWord 15 = .ok (.getfield 23, 3) := by decide +kernel
theorem dX11_isWord_18 : decode cX11_isWord 18 = .ok (.iload_n 1, 1) := by decide +kernel
theorem dX11_isWord_19 : decode cX11_isWord 19 = .ok (.iaload, 1) := by decide +kernel
theorem dX11_isWord_20 : decode cX11_isWord 20 = .ok (.iload_n 3, 1) := by decide +kernel
theorem dX11_isWord_21 : decode cX11_isWord 21 = .ok (.if_icmp .ne 51, 3) := by decide +kernel
theorem dX11_isWord_24 : decode cX11_isWord 24 = .ok (.aload_n 0, 1) := by decide +kernel
theorem dX11_isWord_25 : decode cX11_isWord 25 = .ok (.getfield 23, 3) := by decide +kernel
theorem dX11_isWord_28 : decode cX11_isWord 28 = .ok (.iload_n 1, 1) := by decide +kernel
theorem dX11_isWord_29 : decode cX11_isWord 29 = .ok (.iconst 1, 1) := by decide +kernel
theorem dX11_isWord_30 : decode cX11_isWord 30 = .ok (.iadd, 1) := by decide +kernel
theorem dX11_isWord_31 : decode cX11_isWord 31 = .ok (.iaload, 1) := by decide +kernel
theorem dX11_isWord_32 : decode cX11_isWord 32 = .ok (.iload 4, 2) := by decide +kernel
theorem dX11_isWord_34 : decode cX11_isWord 34 = .ok (.if_icmp .ne 38, 3) := by decide +kernel
theorem dX11_isWord_37 : decode cX11_isWord 37 = .ok (.aload_n 0, 1) := by decide +kernel
theorem dX11_isWord_38 : decode cX11_isWord 38 = .ok (.getfield 23, 3) := by decide +kernel
theorem dX11_isWord_41 : decode cX11_isWord 41 = .ok (.iload_n 1, 1) := by decide +kernel
theorem dX11_isWord_42 : decode cX11_isWord 42 = .ok (.iconst 2, 1) := by decide +kernel
theorem dX11_isWord_43 : decode cX11_isWord 43 = .ok (.iadd, 1) := by decide +kernel
theorem dX11_isWord_44 : decode cX11_isWord 44 = .ok (.iaload, 1) := by decide +kernel
theorem dX11_isWord_45 : decode cX11_isWord 45 = .ok (.iload 5, 2) := by decide +kernel
theorem dX11_isWord_47 : decode cX11_isWord 47 = .ok (.if_icmp .ne 25, 3) := by decide +kernel
theorem dX11_isWord_50 : decode cX11_isWord 50 = .ok (.iload 6, 2) := by decide +kernel
theorem dX11_isWord_52 : decode cX11_isWord 52 = .ok (.ifCond .eq 16, 3) := by decide +kernel
theorem dX11_isWord_55 : decode cX11_isWord 55 = .ok (.aload_n 0, 1) := by decide +kernel
theorem dX11_isWord_56 : decode cX11_isWord 56 = .ok (.getfield 23, 3) := by decide +kernel
theorem dX11_isWord_59 : decode cX11_isWord 59 = .ok (.iload_n 1, 1) := by decide +kernel
theorem dX11_isWord_60 : decode cX11_isWord 60 = .ok (.iconst 3, 1) := by decide +kernel
theorem dX11_isWord_61 : decode cX11_isWord 61 = .ok (.iadd, 1) := by decide +kernel
theorem dX11_isWord_62 : decode cX11_isWord 62 = .ok (.iaload, 1) := by decide +kernel
theorem dX11_isWord_63 : decode cX11_isWord 63 = .ok (.iload 6, 2) := by decide +kernel
theorem dX11_isWord_65 : decode cX11_isWord 65 = .ok (.if_icmp .ne 7, 3) := by decide +kernel
theorem dX11_isWord_68 : decode cX11_isWord 68 = .ok (.iconst 1, 1) := by decide +kernel
theorem dX11_isWord_69 : decode cX11_isWord 69 = .ok (.goto 4, 3) := by decide +kernel
theorem dX11_isWord_72 : decode cX11_isWord 72 = .ok (.iconst 0, 1) := by decide +kernel
theorem dX11_isWord_73 : decode cX11_isWord 73 = .ok (.ireturn, 1) := by decide +kernel
theorem dX11_ranges_0 : decode cX11_ranges 0 = .ok (.aload_n 0, 1) := by decide +kernel
theorem dX11_ranges_1 : decode cX11_ranges 1 = .ok (.getfield 32, 3) := by decide +kernel
theorem dX11_ranges_4 : decode cX11_ranges 4 = .ok (.iload_n 1, 1) := by decide +kernel
theorem dX11_ranges_5 : decode cX11_ranges 5 = .ok (.iaload, 1) := by decide +kernel
theorem dX11_ranges_6 : decode cX11_ranges 6 = .ok (.iload_n 2, 1) := by decide +kernel
theorem dX11_ranges_7 : decode cX11_ranges 7 = .ok (.iload_n 3, 1) := by decide +kernel
theorem dX11_ranges_8 : decode cX11_ranges 8 = .ok (.invokestatic 39, 3) := by decide +kernel
theorem dX11_ranges_11 : decode cX11_ranges 11 = .ok (.ifCond .ne 14, 3) := by decide +kernel
theorem dX11_ranges_14 : decode cX11_ranges 14 = .ok (.aload_n 0, 1) := by decide +kernel
theorem dX11_ranges_15 : decode cX11_ranges 15 = .ok (.iconst 4, 1) := by decide +kernel
theorem dX11_ranges_16 : decode cX11_ranges 16 = .ok (.aload_n 0, 1) := by decide +kernel
theorem dX11_ranges_17 : decode cX11_ranges 17 = .ok (.getfield 32, 3) := by decide +kernel
theorem dX11_ranges_20 : decode cX11_ranges 20 = .ok (.iload_n 1, 1) := by decide +kernel
theorem dX11_ranges_21 : decode cX11_ranges 21 = .ok (.iaload, 1) := by decide +kernel
theorem dX11_ranges_22 : decode cX11_ranges 22 = .ok (.invokevirtual 113, 3) := by decide +kernel
theorem dX11_ranges_25 : decode cX11_ranges 25 = .ok (.return_, 1) := by decide +kernel
theorem dX11_band_0 : decode cX11_band 0 = .ok (.aload_n 0, 1) := by decide +kernel
theorem dX11_band_1 : decode cX11_band 1 = .ok (.bipush 32, 2) := by decide +kernel
theorem dX11_band_3 : decode cX11_band 3 = .ok (.invokevirtual 116, 3) := by decide +kernel
theorem dX11_band_6 : decode cX11_band 6 = .ok (.aload_n 0, 1) := by decide +kernel
theorem dX11_band_7 : decode cX11_band 7 = .ok (.iconst 0, 1) := by decide +kernel
theorem dX11_band_8 : decode cX11_band 8 = .ok (.invokevirtual 119, 3) := by decide +kernel
theorem dX11_band_11 : decode cX11_band 11 = .ok (.aload_n 0, 1) := by decide +kernel
theorem dX11_band_12 : decode cX11_band 12 = .ok (.bipush 44, 2) := by decide +kernel
theorem dX11_band_14 : decode cX11_band 14 = .ok (.invokevirtual 116, 3) := by decide +kernel
theorem dX11_band_17 : decode cX11_band 17 = .ok (.aload_n 0, 1) := by decide +kernel
theorem dX11_band_18 : decode cX11_band 18 = .ok (.iconst 1, 1) := by decide +kernel
theorem dX11_band_19 : decode cX11_band 19 = .ok (.invokevirtual 119, 3) := by decide +kernel
theorem dX11_band_22 : decode cX11_band 22 = .ok (.aload_n 0, 1) := by decide +kernel
theorem dX11_band_23 : decode cX11_band 23 = .ok (.bipush 44, 2) := by decide +kernel
theorem dX11_band_25 : decode cX11_band 25 = .ok (.invokevirtual 116, 3) := by decide +kernel
theorem dX11_band_28 : decode cX11_band 28 = .ok (.aload_n 0, 1) := by decide +kernel
theorem dX11_band_29 : decode cX11_band 29 = .ok (.iconst 2, 1) := by decide +kernel
theorem dX11_band_30 : decode cX11_band 30 = .ok (.invokevirtual 119, 3) := by decide +kernel
theorem dX11_band_33 : decode cX11_band 33 = .ok (.aload_n 0, 1) := by decide +kernel
theorem dX11_band_34 : decode cX11_band 34 = .ok (.iconst 0, 1) := by decide +kernel
theorem dX11_band_35 : decode cX11_band 35 = .ok (.iconst 0, 1) := by decide +kernel
theorem dX11_band_36 : decode cX11_band 36 = .ok (.sipush 1439, 3) := by decide +kernel
theorem dX11_band_39 : decode cX11_band 39 = .ok (.invokevirtual 122, 3) := by decide +kernel
theorem dX11_band_42 : decode cX11_band 42 = .ok (.aload_n 0, 1) := by decide +kernel
theorem dX11_band_43 : decode cX11_band 43 = .ok (.iconst 1, 1) := by decide +kernel
theorem dX11_band_44 : decode cX11_band 44 = .ok (.iconst 0, 1) := by decide +kernel
theorem dX11_band_45 : decode cX11_band 45 = .ok (.sipush 999, 3) := by decide +kernel
theorem dX11_band_48 : decode cX11_band 48 = .ok (.invokevirtual 122, 3) := by decide +kernel
theorem dX11_band_51 : decode cX11_band 51 = .ok (.aload_n 0, 1) := by decide +kernel
theorem dX11_band_52 : decode cX11_band 52 = .ok (.iconst 2, 1) := by decide +kernel
theorem dX11_band_53 : decode cX11_band 53 = .ok (.iconst 5, 1) := by decide +kernel
theorem dX11_band_54 : decode cX11_band 54 = .ok (.sipush 240, 3) := by decide +kernel
theorem dX11_band_57 : decode cX11_band 57 = .ok (.invokevirtual 122, 3) := by decide +kernel
theorem dX11_band_60 : decode cX11_band 60 = .ok (.aload_n 0, 1) := by decide +kernel
theorem dX11_band_61 : decode cX11_band 61 = .ok (.getfield 126, 3) := by decide +kernel
theorem dX11_band_64 : decode cX11_band 64 = .ok (.ifCond .ne 7, 3) := by decide +kernel
theorem dX11_band_67 : decode cX11_band 67 = .ok (.iconst 1, 1) := by decide +kernel
theorem dX11_band_68 : decode cX11_band 68 = .ok (.goto 4, 3) := by decide +kernel
theorem dX11_band_71 : decode cX11_band 71 = .ok (.iconst 0, 1) := by decide +kernel
theorem dX11_band_72 : decode cX11_band 72 = .ok (.istore_n 1, 1) := by decide +kernel
theorem dX11_band_73 : decode cX11_band 73 = .ok (.iload_n 1, 1) := by decide +kernel
theorem dX11_band_74 : decode cX11_band 74 = .ok (.ifCond .eq 20, 3) := by decide +kernel
theorem dX11_band_77 : decode cX11_band 77 = .ok (.aload_n 0, 1) := by decide +kernel
theorem dX11_band_78 : decode cX11_band 78 = .ok (.getfield 32, 3) := by decide +kernel
theorem dX11_band_81 : decode cX11_band 81 = .ok (.iconst 0, 1) := by decide +kernel
theorem dX11_band_82 : decode cX11_band 82 = .ok (.iaload, 1) := by decide +kernel
theorem dX11_band_83 : decode cX11_band 83 = .ok (.ifCond .ne 7, 3) := by decide +kernel
theorem dX11_band_86 : decode cX11_band 86 = .ok (.iconst 1, 1) := by decide +kernel
theorem dX11_band_87 : decode cX11_band 87 = .ok (.goto 36, 3) := by decide +kernel
theorem dX11_band_90 : decode cX11_band 90 = .ok (.iconst 0, 1) := by decide +kernel
theorem dX11_band_91 : decode cX11_band 91 = .ok (.goto 32, 3) := by decide +kernel
theorem dX11_band_94 : decode cX11_band 94 = .ok (.aload_n 0, 1) := by decide +kernel
theorem dX11_band_95 : decode cX11_band 95 = .ok (.getfield 32, 3) := by decide +kernel
theorem dX11_band_98 : decode cX11_band 98 = .ok (.iconst 0, 1) := by decide +kernel
theorem dX11_band_99 : decode cX11_band 99 = .ok (.iaload, 1) := by decide +kernel
theorem dX11_band_100 : decode cX11_band 100 = .ok (.aload_n 0, 1) := by decide +kernel
theorem dX11_band_101 : decode cX11_band 101 = .ok (.getfield 29, 3) := by decide +kernel
theorem dX11_band_104 : decode cX11_band 104 = .ok (.iconst 5, 1) := by decide +kernel
theorem dX11_band_105 : decode cX11_band 105 = .ok (.iconst 3, 1) := by decide +kernel
theorem dX11_band_106 : decode cX11_band 106 = .ok (.aload_n 0, 1) := by decide +kernel
theorem dX11_band_107 : decode cX11_band 107 = .ok (.getfield 126, 3) := by decide +kernel
theorem dX11_band_110 : decode cX11_band 110 = .ok (.imul, 1) := by decide +kernel
theorem dX11_band_111 : decode cX11_band 111 = .ok (.iadd, 1) := by decide +kernel
theorem dX11_band_112 : decode cX11_band 112 = .ok (.iconst 3, 1) := by decide +kernel
theorem dX11_band_113 : decode cX11_band 113 = .ok (.isub, 1) := by decide +kernel
theorem dX11_band_114 : decode cX11_band 114 = .ok (.iaload, 1) := by decide +kernel
theorem dX11_band_115 : decode cX11_band 115 = .ok (.if_icmp .le 7, 3) := by decide +kernel
theorem dX11_band_118 : decode cX11_band 118 = .ok (.iconst 1, 1) := by decide +kernel
theorem dX11_band_119 : decode cX11_band 119 = .ok (.goto 4, 3) := by decide +kernel
theorem dX11_band_122 : decode cX11_band 122 = .ok (.iconst 0, 1) := by decide +kernel
theorem dX11_band_123 : decode cX11_band 123 = .ok (.istore_n 2, 1) := by decide +kernel
theorem dX11_band_124 : decode cX11_band 124 = .ok (.aload_n 0, 1) := by decide +kernel
theorem dX11_band_125 : decode cX11_band 125 = .ok (.getfield 126, 3) := by decide +kernel
theorem dX11_band_128 : decode cX11_band 128 = .ok (.bipush 6, 2) := by decide +kernel
theorem dX11_band_130 : decode cX11_band 130 = .ok (.if_icmp .eq 7, 3) := by decide +kernel
theorem dX11_band_133 : decode cX11_band 133 = .ok (.iload_n 2, 1) := by decide +kernel
theorem dX11_band_134 : decode cX11_band 134 = .ok (.ifCond .ne 14, 3) := by decide +kernel
theorem dX11_band_137 : decode cX11_band 137 = .ok (.aload_n 0, 1) := by decide +kernel
theorem dX11_band_138 : decode cX11_band 138 = .ok (.iconst 4, 1) := by decide +kernel
theorem dX11_band_139 : decode cX11_band 139 = .ok (.aload_n 0, 1) := by decide +kernel
theorem dX11_band_140 : decode cX11_band 140 = .ok (.getfield 32, 3) := by decide +kernel
theorem dX11_band_143 : decode cX11_band 143 = .ok (.iconst 0, 1) := by decide +kernel
theorem dX11_band_144 : decode cX11_band 144 = .ok (.iaload, 1) := by decide +kernel
theorem dX11_band_145 : decode cX11_band 145 = .ok (.invokevirtual 113, 3) := by decide +kernel
theorem dX11_band_148 : decode cX11_band 148 = .ok (.aload_n 0, 1) := by decide +kernel
theorem dX11_band_149 : decode cX11_band 149 = .ok (.getfield 103, 3) := by decide +kernel
theorem dX11_band_152 : decode cX11_band 152 = .ok (.ifCond .le 4, 3) := by decide +kernel
theorem dX11_band_155 : decode cX11_band 155 = .ok (.return_, 1) := by decide +kernel
theorem dX11_band_156 : decode cX11_band 156 = .ok (.iconst 0, 1) := by decide +kernel
theorem dX11_band_157 : decode cX11_band 157 = .ok (.istore_n 3, 1) := by decide +kernel
theorem dX11_band_158 : decode cX11_band 158 = .ok (.iload_n 3, 1) := by decide +kernel
theorem dX11_band_159 : decode cX11_band 159 = .ok (.iconst 3, 1) := by decide +kernel
theorem dX11_band_160 : decode cX11_band 160 = .ok (.if_icmp .ge 30, 3) := by decide +kernel
theorem dX11_band_163 : decode cX11_band 163 = .ok (.aload_n 0, 1) := by decide +kernel
theorem dX11_band_164 : decode cX11_band 164 = .ok (.getfield 29, 3) := by decide +kernel
theorem dX11_band_167 : decode cX11_band 167 = .ok (.iconst 5, 1) := by decide +kernel
theorem dX11_band_168 : decode cX11_band 168 = .ok (.iconst 3, 1) := by decide +kernel
theorem dX11_band_169 : decode cX11_band 169 = .ok (.aload_n 0, 1) := by decide +kernel
theorem dX11_band_170 : decode cX11_band 170 = .ok (.getfield 126, 3) := by decide +kernel
theorem dX11_band_173 : decode cX11_band 173 = .ok (.imul, 1) := by decide +kernel
theorem dX11_band_174 : decode cX11_band 174 = .ok (.iadd, 1) := by decide +kernel
theorem dX11_band_175 : decode cX11_band 175 = .ok (.iload_n 3, 1) := by decide +kernel
theorem dX11_band_176 : decode cX11_band 176 = .ok (.iadd, 1) := by decide +kernel
theorem dX11_band_177 : decode cX11_band 177 = .ok (.aload_n 0, 1) := by decide +kernel
theorem dX11_band_178 : decode cX11_band 178 = .ok (.getfield 32, 3) := by decide +kernel
theorem dX11_band_181 : decode cX11_band 181 = .ok (.iload_n 3, 1) := by decide +kernel
theorem dX11_band_182 : decode cX11_band 182 = .ok (.iaload, 1) := by decide +kernel
theorem dX11_band_183 : decode cX11_band 183 = .ok (.iastore, 1) := by decide +kernel
theorem dX11_band_184 : decode cX11_band 184 = .ok (.iinc 3 1, 3) := by decide +kernel
theorem dX11_band_187 : decode cX11_band 187 = .ok (.goto (-29), 3) := by decide +kernel
theorem dX11_band_190 : decode cX11_band 190 = .ok (.aload_n 0, 1) := by decide +kernel
theorem dX11_band_191 : decode cX11_band 191 = .ok (.dup, 1) := by decide +kernel
theorem dX11_band_192 : decode cX11_band 192 = .ok (.getfield 126, 3) := by decide +kernel
theorem dX11_band_195 : decode cX11_band 195 = .ok (.iconst 1, 1) := by decide +kernel
theorem dX11_band_196 : decode cX11_band 196 = .ok (.iadd, 1) := by decide +kernel
theorem dX11_band_197 : decode cX11_band 197 = .ok (.putfield 126, 3) := by decide +kernel
theorem dX11_band_200 : decode cX11_band 200 = .ok (.return_, 1) := by decide +kernel
theorem dX11_amount_0 : decode cX11_amount 0 = .ok (.aload_n 0, 1) := by decide +kernel
theorem dX11_amount_1 : decode cX11_amount 1 = .ok (.bipush 32, 2) := by decide +kernel
theorem dX11_amount_3 : decode cX11_amount 3 = .ok (.invokevirtual 116, 3) := by decide +kernel
theorem dX11_amount_6 : decode cX11_amount 6 = .ok (.aload_n 0, 1) := by decide +kernel
theorem dX11_amount_7 : decode cX11_amount 7 = .ok (.iconst 0, 1) := by decide +kernel
theorem dX11_amount_8 : decode cX11_amount 8 = .ok (.invokevirtual 119, 3) := by decide +kernel
theorem dX11_amount_11 : decode cX11_amount 11 = .ok (.aload_n 0, 1) := by decide +kernel
theorem dX11_amount_12 : decode cX11_amount 12 = .ok (.iconst 0, 1) := by decide +kernel
theorem dX11_amount_13 : decode cX11_amount 13 = .ok (.iconst 0, 1) := by decide +kernel
theorem dX11_amount_14 : decode cX11_amount 14 = .ok (.iload_n 2, 1) := by decide +kernel
theorem dX11_amount_15 : decode cX11_amount 15 = .ok (.invokevirtual 122, 3) := by decide +kernel
theorem dX11_amount_18 : decode cX11_amount 18 = .ok (.aload_n 0, 1) := by decide +kernel
theorem dX11_amount_19 : decode cX11_amount 19 = .ok (.getfield 103, 3) := by decide +kernel
theorem dX11_amount_22 : decode cX11_amount 22 = .ok (.ifCond .ne 15, 3) := by decide +kernel
theorem dX11_amount_25 : decode cX11_amount 25 = .ok (.aload_n 0, 1) := by decide +kernel
theorem dX11_amount_26 : decode cX11_amount 26 = .ok (.getfield 29, 3) := by decide +kernel
theorem dX11_amount_29 : decode cX11_amount 29 = .ok (.iload_n 1, 1) := by decide +kernel
theorem dX11_amount_30 : decode cX11_amount 30 = .ok (.aload_n 0, 1) := by decide +kernel
theorem dX11_amount_31 : decode cX11_amount 31 = .ok (.getfield 32, 3) := by decide +kernel
theorem dX11_amount_34 : decode cX11_amount 34 = .ok (.iconst 0, 1) := by decide +kernel
theorem dX11_amount_35 : decode cX11_amount 35 = .ok (.iaload, 1) := by decide +kernel
theorem dX11_amount_36 : decode cX11_amount 36 = .ok (.iastore, 1) := by decide +kernel
theorem dX11_amount_37 : decode cX11_amount 37 = .ok (.return_, 1) := by decide +kernel
theorem dX11_clause_0 : decode cX11_clause 0 = .ok (.aload_n 0, 1) := by decide +kernel
theorem dX11_clause_1 : decode cX11_clause 1 = .ok (.getfield 100, 3) := by decide +kernel
theorem dX11_clause_4 : decode cX11_clause 4 = .ok (.istore_n 1, 1) := by decide +kernel
theorem dX11_clause_5 : decode cX11_clause 5 = .ok (.aload_n 0, 1) := by decide +kernel
theorem dX11_clause_6 : decode cX11_clause 6 = .ok (.invokevirtual 109, 3) := by decide +kernel
theorem dX11_clause_9 : decode cX11_clause 9 = .ok (.bipush 97, 2) := by decide +kernel
theorem dX11_clause_11 : decode cX11_clause 11 = .ok (.bipush 122, 2) := by decide +kernel
theorem dX11_clause_13 : decode cX11_clause 13 = .ok (.invokestatic 39, 3) := by decide +kernel
theorem dX11_clause_16 : decode cX11_clause 16 = .ok (.ifCond .eq 16, 3) := by decide +kernel
theorem dX11_clause_19 : decode cX11_clause 19 = .ok (.aload_n 0, 1) := by decide +kernel
theorem dX11_clause_20 : decode cX11_clause 20 = .ok (.dup, 1) := by decide +kernel
theorem dX11_clause_21 : decode cX11_clause 21 = .ok (.getfield 100, 3) := by decide +kernel
theorem dX11_clause_24 : decode cX11_clause 24 = .ok (.iconst 1, 1) := by decide +kernel
theorem dX11_clause_25 : decode cX11_clause 25 = .ok (.iadd, 1) := by decide +kernel
theorem dX11_clause_26 : decode cX11_clause 26 = .ok (.putfield 100, 3) := by decide +kernel
theorem dX11_clause_29 : decode cX11_clause 29 = .ok (.goto (-24), 3) := by decide +kernel
theorem dX11_clause_32 : decode cX11_clause 32 = .ok (.aload_n 0, 1) := by decide +kernel
theorem dX11_clause_33 : decode cX11_clause 33 = .ok (.getfield 100, 3) := by decide +kernel
theorem dX11_clause_36 : decode cX11_clause 36 = .ok (.iload_n 1, 1) := by decide +kernel
theorem dX11_clause_37 : decode cX11_clause 37 = .ok (.isub, 1) := by decide +kernel
theorem dX11_clause_38 : decode cX11_clause 38 = .ok (.istore_n 2, 1) := by decide +kernel
theorem dX11_clause_39 : decode cX11_clause 39 = .ok (.aload_n 0, 1) := by decide +kernel
theorem dX11_clause_40 : decode cX11_clause 40 = .ok (.iload_n 1, 1) := by decide +kernel
theorem dX11_clause_41 : decode cX11_clause 41 = .ok (.iload_n 2, 1) := by decide +kernel
theorem dX11_clause_42 : decode cX11_clause 42 = .ok (.bipush 102, 2) := by decide +kernel
theorem dX11_clause_44 : decode cX11_clause 44 = .ok (.bipush 114, 2) := by decide +kernel
theorem dX11_clause_46 : decode cX11_clause 46 = .ok (.bipush 101, 2) := by decide +kernel
theorem dX11_clause_48 : decode cX11_clause 48 = .ok (.bipush 101, 2) := by decide +kernel
theorem dX11_clause_50 : decode cX11_clause 50 = .ok (.invokevirtual 129, 3) := by decide +kernel
theorem dX11_clause_53 : decode cX11_clause 53 = .ok (.ifCond .eq 13, 3) := by decide +kernel
theorem dX11_clause_56 : decode cX11_clause 56 = .ok (.aload_n 0, 1) := by decide +kernel
theorem dX11_clause_57 : decode cX11_clause 57 = .ok (.iconst 0, 1) := by decide +kernel
theorem dX11_clause_58 : decode cX11_clause 58 = .ok (.bipush 60, 2) := by decide +kernel
theorem dX11_clause_60 : decode cX11_clause 60 = .ok (.invokevirtual 133, 3) := by decide +kernel
theorem dX11_clause_63 : decode cX11_clause 63 = .ok (.goto 115, 3) := by decide +kernel
theorem dX11_clause_66 : decode cX11_clause 66 = .ok (.aload_n 0, 1) := by decide +kernel
theorem dX11_clause_67 : decode cX11_clause 67 = .ok (.iload_n 1, 1) := by decide +kernel
theorem dX11_clause_68 : decode cX11_clause 68 = .ok (.iload_n 2, 1) := by decide +kernel
theorem dX11_clause_69 : decode cX11_clause 69 = .ok (.bipush 99, 2) := by decide +kernel
theorem dX11_clause_71 : decode cX11_clause 71 = .ok (.bipush 97, 2) := by decide +kernel
theorem dX11_clause_73 : decode cX11_clause 73 = .ok (.bipush 112, 2) := by decide +kernel
theorem dX11_clause_75 : decode cX11_clause 75 = .ok (.iconst 0, 1) := by decide +kernel
theorem dX11_clause_76 : decode cX11_clause 76 = .ok (.invokevirtual 129, 3) := by decide +kernel
theorem dX11_clause_79 : decode cX11_clause 79 = .ok (.ifCond .eq 14, 3) := by decide +kernel
theorem dX11_clause_82 : decode cX11_clause 82 = .ok (.aload_n 0, 1) := by decide +kernel
theorem dX11_clause_83 : decode cX11_clause 83 = .ok (.iconst 1, 1) := by decide +kernel
theorem dX11_clause_84 : decode cX11_clause 84 = .ok (.sipush 9999, 3) := by decide +kernel
theorem dX11_clause_87 : decode cX11_clause 87 = .ok (.invokevirtual 133, 3) := by decide +kernel
theorem dX11_clause_90 : decode cX11_clause 90 = .ok (.goto 88, 3) := by decide +kernel
theorem dX11_clause_93 : decode cX11_clause 93 = .ok (.aload_n 0, 1) := by decide +kernel
theorem dX11_clause_94 : decode cX11_clause 94 = .ok (.iload_n 1, 1) := by decide +kernel
theorem dX11_clause_95 : decode cX11_clause 95 = .ok (.iload_n 2, 1) := by decide +kernel
theorem dX11_clause_96 : decode cX11_clause 96 = .ok (.bipush 108, 2) := by decide +kernel
theorem dX11_clause_98 : decode cX11_clause 98 = .ok (.bipush 111, 2) := by decide +kernel
theorem dX11_clause_100 : decode cX11_clause 100 = .ok (.bipush 115, 2) := by decide +kernel
theorem dX11_clause_102 : decode cX11_clause 102 = .ok (.bipush 116, 2) := by decide +kernel
theorem dX11_clause_104 : decode cX11_clause 104 = .ok (.invokevirtual 129, 3) := by decide +kernel
theorem dX11_clause_107 : decode cX11_clause 107 = .ok (.ifCond .eq 14, 3) := by decide +kernel
theorem dX11_clause_110 : decode cX11_clause 110 = .ok (.aload_n 0, 1) := by decide +kernel
theorem dX11_clause_111 : decode cX11_clause 111 = .ok (.iconst 3, 1) := by decide +kernel
theorem dX11_clause_112 : decode cX11_clause 112 = .ok (.sipush 9999, 3) := by decide +kernel
theorem dX11_clause_115 : decode cX11_clause 115 = .ok (.invokevirtual 133, 3) := by decide +kernel
theorem dX11_clause_118 : decode cX11_clause 118 = .ok (.goto 60, 3) := by decide +kernel
theorem dX11_clause_121 : decode cX11_clause 121 = .ok (.aload_n 0, 1) := by decide +kernel
theorem dX11_clause_122 : decode cX11_clause 122 = .ok (.iload_n 1, 1) := by decide +kernel
theorem dX11_clause_123 : decode cX11_clause 123 = .ok (.iload_n 2, 1) := by decide +kernel
theorem dX11_clause_124 : decode cX11_clause 124 = .ok (.bipush 100, 2) := by decide +kernel
theorem dX11_clause_126 : decode cX11_clause 126 = .ok (.bipush 97, 2) := by decide +kernel
theorem dX11_clause_128 : decode cX11_clause 128 = .ok (.bipush 121, 2) := by decide +kernel
theorem dX11_clause_130 : decode cX11_clause 130 = .ok (.bipush 115, 2) := by decide +kernel
theorem dX11_clause_132 : decode cX11_clause 132 = .ok (.invokevirtual 129, 3) := by decide +kernel
theorem dX11_clause_135 : decode cX11_clause 135 = .ok (.ifCond .eq 13, 3) := by decide +kernel
theorem dX11_clause_138 : decode cX11_clause 138 = .ok (.aload_n 0, 1) := by decide +kernel
theorem dX11_clause_139 : decode cX11_clause 139 = .ok (.getfield 29, 3) := by decide +kernel
theorem dX11_clause_142 : decode cX11_clause 142 = .ok (.iconst 2, 1) := by decide +kernel
theorem dX11_clause_143 : decode cX11_clause 143 = .ok (.iconst 1, 1) := by decide +kernel
theorem dX11_clause_144 : decode cX11_clause 144 = .ok (.iastore, 1) := by decide +kernel
theorem dX11_clause_145 : decode cX11_clause 145 = .ok (.goto 33, 3) := by decide +kernel
theorem dX11_clause_148 : decode cX11_clause 148 = .ok (.aload_n 0, 1) := by decide +kernel
theorem dX11_clause_149 : decode cX11_clause 149 = .ok (.iload_n 1, 1) := by decide +kernel
theorem dX11_clause_150 : decode cX11_clause 150 = .ok (.iload_n 2, 1) := by decide +kernel
theorem dX11_clause_151 : decode cX11_clause 151 = .ok (.bipush 98, 2) := by decide +kernel
theorem dX11_clause_153 : decode cX11_clause 153 = .ok (.bipush 97, 2) := by decide +kernel
theorem dX11_clause_155 : decode cX11_clause 155 = .ok (.bipush 110, 2) := by decide +kernel
theorem dX11_clause_157 : decode cX11_clause 157 = .ok (.bipush 100, 2) := by decide +kernel
theorem dX11_clause_159 : decode cX11_clause 159 = .ok (.invokevirtual 129, 3) := by decide +kernel
theorem dX11_clause_162 : decode cX11_clause 162 = .ok (.ifCond .eq 10, 3) := by decide +kernel
theorem dX11_clause_165 : decode cX11_clause 165 = .ok (.aload_n 0, 1) := by decide +kernel
theorem dX11_clause_166 : decode cX11_clause 166 = .ok (.invokevirtual 136, 3) := by decide +kernel
theorem dX11_clause_169 : decode cX11_clause 169 = .ok (.goto 9, 3) := by decide +kernel
theorem dX11_clause_172 : decode cX11_clause 172 = .ok (.aload_n 0, 1) := by decide +kernel
theorem dX11_clause_173 : decode cX11_clause 173 = .ok (.iconst 3, 1) := by decide +kernel
theorem dX11_clause_174 : decode cX11_clause 174 = .ok (.iload_n 1, 1) := by decide +kernel
theorem dX11_clause_175 : decode cX11_clause 175 = .ok (.invokevirtual 113, 3) := by decide +kernel
theorem dX11_clause_178 : decode cX11_clause 178 = .ok (.return_, 1) := by decide +kernel
theorem dX11_reads_0 : decode cX11_reads 0 = .ok (.aload_n 0, 1) := by decide +kernel
theorem dX11_reads_1 : decode cX11_reads 1 = .ok (.iconst 0, 1) := by decide +kernel
theorem dX11_reads_2 : decode cX11_reads 2 = .ok (.putfield 100, 3) := by decide +kernel
theorem dX11_reads_5 : decode cX11_reads 5 = .ok (.aload_n 0, 1) := by decide +kernel
theorem dX11_reads_6 : decode cX11_reads 6 = .ok (.iconst 0, 1) := by decide +kernel
theorem dX11_reads_7 : decode cX11_reads 7 = .ok (.putfield 139, 3) := by decide +kernel
theorem dX11_reads_10 : decode cX11_reads 10 = .ok (.aload_n 0, 1) := by decide +kernel
theorem dX11_reads_11 : decode cX11_reads 11 = .ok (.iconst 0, 1) := by decide +kernel
theorem dX11_reads_12 : decode cX11_reads 12 = .ok (.putfield 103, 3) := by decide +kernel
theorem dX11_reads_15 : decode cX11_reads 15 = .ok (.aload_n 0, 1) := by decide +kernel
theorem dX11_reads_16 : decode cX11_reads 16 = .ok (.iconst 0, 1) := by decide +kernel
theorem dX11_reads_17 : decode cX11_reads 17 = .ok (.putfield 126, 3) := by decide +kernel
theorem dX11_reads_20 : decode cX11_reads 20 = .ok (.aload_n 0, 1) := by decide +kernel
theorem dX11_reads_21 : decode cX11_reads 21 = .ok (.invokevirtual 142, 3) := by decide +kernel
theorem dX11_reads_24 : decode cX11_reads 24 = .ok (.aload_n 0, 1) := by decide +kernel
theorem dX11_reads_25 : decode cX11_reads 25 = .ok (.getfield 103, 3) := by decide +kernel
theorem dX11_reads_28 : decode cX11_reads 28 = .ok (.ifCond .ne 39, 3) := by decide +kernel
theorem dX11_reads_31 : decode cX11_reads 31 = .ok (.aload_n 0, 1) := by decide +kernel
theorem dX11_reads_32 : decode cX11_reads 32 = .ok (.invokevirtual 109, 3) := by decide +kernel
theorem dX11_reads_35 : decode cX11_reads 35 = .ok (.bipush 59, 2) := by decide +kernel
theorem dX11_reads_37 : decode cX11_reads 37 = .ok (.if_icmp .ne 30, 3) := by decide +kernel
theorem dX11_reads_40 : decode cX11_reads 40 = .ok (.aload_n 0, 1) := by decide +kernel
theorem dX11_reads_41 : decode cX11_reads 41 = .ok (.dup, 1) := by decide +kernel
theorem dX11_reads_42 : decode cX11_reads 42 = .ok (.getfield 100, 3) := by decide +kernel
theorem dX11_reads_45 : decode cX11_reads 45 = .ok (.iconst 1, 1) := by decide +kernel
theorem dX11_reads_46 : decode cX11_reads 46 = .ok (.iadd, 1) := by decide +kernel
theorem dX11_reads_47 : decode cX11_reads 47 = .ok (.putfield 100, 3) := by decide +kernel
theorem dX11_reads_50 : decode cX11_reads 50 = .ok (.aload_n 0, 1) := by decide +kernel
theorem dX11_reads_51 : decode cX11_reads 51 = .ok (.dup, 1) := by decide +kernel
theorem dX11_reads_52 : decode cX11_reads 52 = .ok (.getfield 139, 3) := by decide +kernel
theorem dX11_reads_55 : decode cX11_reads 55 = .ok (.iconst 1, 1) := by decide +kernel
theorem dX11_reads_56 : decode cX11_reads 56 = .ok (.iadd, 1) := by decide +kernel
theorem dX11_reads_57 : decode cX11_reads 57 = .ok (.putfield 139, 3) := by decide +kernel
theorem dX11_reads_60 : decode cX11_reads 60 = .ok (.aload_n 0, 1) := by decide +kernel
theorem dX11_reads_61 : decode cX11_reads 61 = .ok (.invokevirtual 142, 3) := by decide +kernel
theorem dX11_reads_64 : decode cX11_reads 64 = .ok (.goto (-40), 3) := by decide +kernel
theorem dX11_reads_67 : decode cX11_reads 67 = .ok (.aload_n 0, 1) := by decide +kernel
theorem dX11_reads_68 : decode cX11_reads 68 = .ok (.getfield 100, 3) := by decide +kernel
theorem dX11_reads_71 : decode cX11_reads 71 = .ok (.aload_n 0, 1) := by decide +kernel
theorem dX11_reads_72 : decode cX11_reads 72 = .ok (.getfield 97, 3) := by decide +kernel
theorem dX11_reads_75 : decode cX11_reads 75 = .ok (.if_icmp .ge 12, 3) := by decide +kernel
theorem dX11_reads_78 : decode cX11_reads 78 = .ok (.aload_n 0, 1) := by decide +kernel
theorem dX11_reads_79 : decode cX11_reads 79 = .ok (.iconst 3, 1) := by decide +kernel
theorem dX11_reads_80 : decode cX11_reads 80 = .ok (.aload_n 0, 1) := by decide +kernel
theorem dX11_reads_81 : decode cX11_reads 81 = .ok (.getfield 100, 3) := by decide +kernel
theorem dX11_reads_84 : decode cX11_reads 84 = .ok (.invokevirtual 113, 3) := by decide +kernel
theorem dX11_reads_87 : decode cX11_reads 87 = .ok (.return_, 1) := by decide +kernel
theorem dX11_reports_0 : decode cX11_reports 0 = .ok (.aload_n 0, 1) := by decide +kernel
theorem dX11_reports_1 : decode cX11_reports 1 = .ok (.iconst 3, 1) := by decide +kernel
theorem dX11_reports_2 : decode cX11_reports 2 = .ok (.putfield 144, 3) := by decide +kernel
theorem dX11_reports_5 : decode cX11_reports 5 = .ok (.aload_n 0, 1) := by decide +kernel
theorem dX11_reports_6 : decode cX11_reports 6 = .ok (.getfield 26, 3) := by decide +kernel
theorem dX11_reports_9 : decode cX11_reports 9 = .ok (.iconst 0, 1) := by decide +kernel
theorem dX11_reports_10 : decode cX11_reports 10 = .ok (.iconst 1, 1) := by decide +kernel
theorem dX11_reports_11 : decode cX11_reports 11 = .ok (.iastore, 1) := by decide +kernel
theorem dX11_reports_12 : decode cX11_reports 12 = .ok (.aload_n 0, 1) := by decide +kernel
theorem dX11_reports_13 : decode cX11_reports 13 = .ok (.getfield 26, 3) := by decide +kernel
theorem dX11_reports_16 : decode cX11_reports 16 = .ok (.iconst 1, 1) := by decide +kernel
theorem dX11_reports_17 : decode cX11_reports 17 = .ok (.iload_n 1, 1) := by decide +kernel
theorem dX11_reports_18 : decode cX11_reports 18 = .ok (.iastore, 1) := by decide +kernel
theorem dX11_reports_19 : decode cX11_reports 19 = .ok (.aload_n 0, 1) := by decide +kernel
theorem dX11_reports_20 : decode cX11_reports 20 = .ok (.getfield 26, 3) := by decide +kernel
theorem dX11_reports_23 : decode cX11_reports 23 = .ok (.iconst 2, 1) := by decide +kernel
theorem dX11_reports_24 : decode cX11_reports 24 = .ok (.iconst 2, 1) := by decide +kernel
theorem dX11_reports_25 : decode cX11_reports 25 = .ok (.iastore, 1) := by decide +kernel
theorem dX11_reports_26 : decode cX11_reports 26 = .ok (.aload_n 0, 1) := by decide +kernel
theorem dX11_reports_27 : decode cX11_reports 27 = .ok (.getfield 26, 3) := by decide +kernel
theorem dX11_reports_30 : decode cX11_reports 30 = .ok (.iconst 3, 1) := by decide +kernel
theorem dX11_reports_31 : decode cX11_reports 31 = .ok (.aload_n 0, 1) := by decide +kernel
theorem dX11_reports_32 : decode cX11_reports 32 = .ok (.getfield 139, 3) := by decide +kernel
theorem dX11_reports_35 : decode cX11_reports 35 = .ok (.iastore, 1) := by decide +kernel
theorem dX11_reports_36 : decode cX11_reports 36 = .ok (.aload_n 0, 1) := by decide +kernel
theorem dX11_reports_37 : decode cX11_reports 37 = .ok (.getfield 26, 3) := by decide +kernel
theorem dX11_reports_40 : decode cX11_reports 40 = .ok (.iconst 4, 1) := by decide +kernel
theorem dX11_reports_41 : decode cX11_reports 41 = .ok (.aload_n 0, 1) := by decide +kernel
theorem dX11_reports_42 : decode cX11_reports 42 = .ok (.getfield 103, 3) := by decide +kernel
theorem dX11_reports_45 : decode cX11_reports 45 = .ok (.iastore, 1) := by decide +kernel
theorem dX11_reports_46 : decode cX11_reports 46 = .ok (.aload_n 0, 1) := by decide +kernel
theorem dX11_reports_47 : decode cX11_reports 47 = .ok (.getfield 26, 3) := by decide +kernel
theorem dX11_reports_50 : decode cX11_reports 50 = .ok (.iconst 5, 1) := by decide +kernel
theorem dX11_reports_51 : decode cX11_reports 51 = .ok (.aload_n 0, 1) := by decide +kernel
theorem dX11_reports_52 : decode cX11_reports 52 = .ok (.getfield 106, 3) := by decide +kernel
theorem dX11_reports_55 : decode cX11_reports 55 = .ok (.iastore, 1) := by decide +kernel
theorem dX11_reports_56 : decode cX11_reports 56 = .ok (.return_, 1) := by decide +kernel
theorem dX11_readPlan_0 : decode cX11_readPlan 0 = .ok (.iload_n 1, 1) := by decide +kernel
theorem dX11_readPlan_1 : decode cX11_readPlan 1 = .ok (.invokestatic 84, 3) := by decide +kernel
theorem dX11_readPlan_4 : decode cX11_readPlan 4 = .ok (.ifCond .ne 11, 3) := by decide +kernel
theorem dX11_readPlan_7 : decode cX11_readPlan 7 = .ok (.aload_n 0, 1) := by decide +kernel
theorem dX11_readPlan_8 : decode cX11_readPlan 8 = .ok (.iconst 0, 1) := by decide +kernel
theorem dX11_readPlan_9 : decode cX11_readPlan 9 = .ok (.putfield 97, 3) := by decide +kernel
theorem dX11_readPlan_12 : decode cX11_readPlan 12 = .ok (.bipush (-2), 2) := by decide +kernel
theorem dX11_readPlan_14 : decode cX11_readPlan 14 = .ok (.ireturn, 1) := by decide +kernel
theorem dX11_readPlan_15 : decode cX11_readPlan 15 = .ok (.iconst 0, 1) := by decide +kernel
theorem dX11_readPlan_16 : decode cX11_readPlan 16 = .ok (.istore_n 2, 1) := by decide +kernel
theorem dX11_readPlan_17 : decode cX11_readPlan 17 = .ok (.iload_n 2, 1) := by decide +kernel
theorem dX11_readPlan_18 : decode cX11_readPlan 18 = .ok (.bipush 23, 2) := by decide +kernel
theorem dX11_readPlan_20 : decode cX11_readPlan 20 = .ok (.if_icmp .ge 16, 3) := by decide +kernel
theorem dX11_readPlan_23 : decode cX11_readPlan 23 = .ok (.aload_n 0, 1) := by decide +kernel
theorem dX11_readPlan_24 : decode cX11_readPlan 24 = .ok (.getfield 29, 3) := by decide +kernel
theorem dX11_readPlan_27 : decode cX11_readPlan 27 = .ok (.iload_n 2, 1) := by decide +kernel
theorem dX11_readPlan_28 : decode cX11_readPlan 28 = .ok (.iconst 0, 1) := by decide +kernel
theorem dX11_readPlan_29 : decode cX11_readPlan 29 = .ok (.iastore, 1) := by decide +kernel
theorem dX11_readPlan_30 : decode cX11_readPlan 30 = .ok (.iinc 2 1, 3) := by decide +kernel
theorem dX11_readPlan_33 : decode cX11_readPlan 33 = .ok (.goto (-16), 3) := by decide +kernel
theorem dX11_readPlan_36 : decode cX11_readPlan 36 = .ok (.aload_n 0, 1) := by decide +kernel
theorem dX11_readPlan_37 : decode cX11_readPlan 37 = .ok (.getfield 29, 3) := by decide +kernel
theorem dX11_readPlan_40 : decode cX11_readPlan 40 = .ok (.iconst 3, 1) := by decide +kernel
theorem dX11_readPlan_41 : decode cX11_readPlan 41 = .ok (.sipush 2000, 3) := by decide +kernel
theorem dX11_readPlan_44 : decode cX11_readPlan 44 = .ok (.iastore, 1) := by decide +kernel
theorem dX11_readPlan_45 : decode cX11_readPlan 45 = .ok (.aload_n 0, 1) := by decide +kernel
theorem dX11_readPlan_46 : decode cX11_readPlan 46 = .ok (.getfield 29, 3) := by decide +kernel
theorem dX11_readPlan_49 : decode cX11_readPlan 49 = .ok (.iconst 4, 1) := by decide +kernel
theorem dX11_readPlan_50 : decode cX11_readPlan 50 = .ok (.iconst 1, 1) := by decide +kernel
theorem dX11_readPlan_51 : decode cX11_readPlan 51 = .ok (.iastore, 1) := by decide +kernel
theorem dX11_readPlan_52 : decode cX11_readPlan 52 = .ok (.aload_n 0, 1) := by decide +kernel
theorem dX11_readPlan_53 : decode cX11_readPlan 53 = .ok (.invokevirtual 147, 3) := by decide +kernel
theorem dX11_readPlan_56 : decode cX11_readPlan 56 = .ok (.aload_n 0, 1) := by decide +kernel
theorem dX11_readPlan_57 : decode cX11_readPlan 57 = .ok (.iconst 0, 1) := by decide +kernel
theorem dX11_readPlan_58 : decode cX11_readPlan 58 = .ok (.putfield 97, 3) := by decide +kernel
theorem dX11_readPlan_61 : decode cX11_readPlan 61 = .ok (.aload_n 0, 1) := by decide +kernel
theorem dX11_readPlan_62 : decode cX11_readPlan 62 = .ok (.getfield 103, 3) := by decide +kernel
theorem dX11_readPlan_65 : decode cX11_readPlan 65 = .ok (.ifCond .le 11, 3) := by decide +kernel
theorem dX11_readPlan_68 : decode cX11_readPlan 68 = .ok (.aload_n 0, 1) := by decide +kernel
theorem dX11_readPlan_69 : decode cX11_readPlan 69 = .ok (.iload_n 1, 1) := by decide +kernel
theorem dX11_readPlan_70 : decode cX11_readPlan 70 = .ok (.invokevirtual 150, 3) := by decide +kernel
theorem dX11_readPlan_73 : decode cX11_readPlan 73 = .ok (.bipush (-5), 2) := by decide +kernel
theorem dX11_readPlan_75 : decode cX11_readPlan 75 = .ok (.ireturn, 1) := by decide +kernel
theorem dX11_readPlan_76 : decode cX11_readPlan 76 = .ok (.aload_n 0, 1) := by decide +kernel
theorem dX11_readPlan_77 : decode cX11_readPlan 77 = .ok (.getfield 126, 3) := by decide +kernel
theorem dX11_readPlan_80 : decode cX11_readPlan 80 = .ok (.ifCond .ne 28, 3) := by decide +kernel
theorem dX11_readPlan_83 : decode cX11_readPlan 83 = .ok (.aload_n 0, 1) := by decide +kernel
theorem dX11_readPlan_84 : decode cX11_readPlan 84 = .ok (.getfield 29, 3) := by decide +kernel
theorem dX11_readPlan_87 : decode cX11_readPlan 87 = .ok (.iconst 5, 1) := by decide +kernel
theorem dX11_readPlan_88 : decode cX11_readPlan 88 = .ok (.iconst 0, 1) := by decide +kernel
theorem dX11_readPlan_89 : decode cX11_readPlan 89 = .ok (.iastore, 1) := by decide +kernel
theorem dX11_readPlan_90 : decode cX11_readPlan 90 = .ok (.aload_n 0, 1) := by decide +kernel
theorem dX11_readPlan_91 : decode cX11_readPlan 91 = .ok (.getfield 29, 3) := by decide +kernel
theorem dX11_readPlan_94 : decode cX11_readPlan 94 = .ok (.bipush 6, 2) := by decide +kernel
theorem dX11_readPlan_96 : decode cX11_readPlan 96 = .ok (.bipush 100, 2) := by decide +kernel
theorem dX11_readPlan_98 : decode cX11_readPlan 98 = .ok (.iastore, 1) := by decide +kernel
theorem dX11_readPlan_99 : decode cX11_readPlan 99 = .ok (.aload_n 0, 1) := by decide +kernel
theorem dX11_readPlan_100 : decode cX11_readPlan 100 = .ok (.getfield 29, 3) := by decide +kernel
theorem dX11_readPlan_103 : decode cX11_readPlan 103 = .ok (.bipush 7, 2) := by decide +kernel
theorem dX11_readPlan_105 : decode cX11_readPlan 105 = .ok (.bipush 60, 2) := by decide +kernel
theorem dX11_readPlan_107 : decode cX11_readPlan 107 = .ok (.iastore, 1) := by decide +kernel
theorem dX11_readPlan_108 : decode cX11_readPlan 108 = .ok (.aload_n 0, 1) := by decide +kernel
theorem dX11_readPlan_109 : decode cX11_readPlan 109 = .ok (.getfield 29, 3) := by decide +kernel
theorem dX11_readPlan_112 : decode cX11_readPlan 112 = .ok (.iconst 4, 1) := by decide +kernel
theorem dX11_readPlan_113 : decode cX11_readPlan 113 = .ok (.aload_n 0, 1) := by decide +kernel
theorem dX11_readPlan_114 : decode cX11_readPlan 114 = .ok (.getfield 126, 3) := by decide +kernel
theorem dX11_readPlan_117 : decode cX11_readPlan 117 = .ok (.ifCond .ne 7, 3) := by decide +kernel
theorem dX11_readPlan_120 : decode cX11_readPlan 120 = .ok (.iconst 1, 1) := by decide +kernel
theorem dX11_readPlan_121 : decode cX11_readPlan 121 = .ok (.goto 7, 3) := by decide +kernel
theorem dX11_readPlan_124 : decode cX11_readPlan 124 = .ok (.aload_n 0, 1) := by decide +kernel
theorem dX11_readPlan_125 : decode cX11_readPlan 125 = .ok (.getfield 126, 3) := by decide +kernel
theorem dX11_readPlan_128 : decode cX11_readPlan 128 = .ok (.iastore, 1) := by decide +kernel
theorem dX11_readPlan_129 : decode cX11_readPlan 129 = .ok (.iconst 0, 1) := by decide +kernel
theorem dX11_readPlan_130 : decode cX11_readPlan 130 = .ok (.istore_n 2, 1) := by decide +kernel
theorem dX11_readPlan_131 : decode cX11_readPlan 131 = .ok (.iload_n 2, 1) := by decide +kernel
theorem dX11_readPlan_132 : decode cX11_readPlan 132 = .ok (.bipush 23, 2) := by decide +kernel
theorem dX11_readPlan_134 : decode cX11_readPlan 134 = .ok (.if_icmp .ge 29, 3) := by decide +kernel
theorem dX11_readPlan_137 : decode cX11_readPlan 137 = .ok (.aload_n 0, 1) := by decide +kernel
theorem dX11_readPlan_138 : decode cX11_readPlan 138 = .ok (.getfield 7, 3) := by decide +kernel
theorem dX11_readPlan_141 : decode cX11_readPlan 141 = .ok (.bipush 10, 2) := by decide +kernel
theorem dX11_readPlan_143 : decode cX11_readPlan 143 = .ok (.bipush 23, 2) := by decide +kernel
theorem dX11_readPlan_145 : decode cX11_readPlan 145 = .ok (.iload_n 1, 1) := by decide +kernel
theorem dX11_readPlan_146 : decode cX11_readPlan 146 = .ok (.imul, 1) := by decide +kernel
theorem dX11_readPlan_147 : decode cX11_readPlan 147 = .ok (.iadd, 1) := by decide +kernel
theorem dX11_readPlan_148 : decode cX11_readPlan 148 = .ok (.iload_n 2, 1) := by decide +kernel
theorem dX11_readPlan_149 : decode cX11_readPlan 149 = .ok (.iadd, 1) := by decide +kernel
theorem dX11_readPlan_150 : decode cX11_readPlan 150 = .ok (.aload_n 0, 1) := by decide +kernel
theorem dX11_readPlan_151 : decode cX11_readPlan 151 = .ok (.getfield 29, 3) := by decide +kernel
theorem dX11_readPlan_154 : decode cX11_readPlan 154 = .ok (.iload_n 2, 1) := by decide +kernel
theorem dX11_readPlan_155 : decode cX11_readPlan 155 = .ok (.iaload, 1) := by decide +kernel
theorem dX11_readPlan_156 : decode cX11_readPlan 156 = .ok (.iastore, 1) := by decide +kernel
theorem dX11_readPlan_157 : decode cX11_readPlan 157 = .ok (.iinc 2 1, 3) := by decide +kernel
theorem dX11_readPlan_160 : decode cX11_readPlan 160 = .ok (.goto (-29), 3) := by decide +kernel
theorem dX11_readPlan_163 : decode cX11_readPlan 163 = .ok (.aload_n 0, 1) := by decide +kernel
theorem dX11_readPlan_164 : decode cX11_readPlan 164 = .ok (.getfield 29, 3) := by decide +kernel
theorem dX11_readPlan_167 : decode cX11_readPlan 167 = .ok (.iconst 4, 1) := by decide +kernel
theorem dX11_readPlan_168 : decode cX11_readPlan 168 = .ok (.iaload, 1) := by decide +kernel
theorem dX11_readPlan_169 : decode cX11_readPlan 169 = .ok (.ireturn, 1) := by decide +kernel
theorem dX11_plan_0 : decode cX11_plan 0 = .ok (.iload_n 1, 1) := by decide +kernel
theorem dX11_plan_1 : decode cX11_plan 1 = .ok (.invokestatic 84, 3) := by decide +kernel
theorem dX11_plan_4 : decode cX11_plan 4 = .ok (.ifCond .eq 21, 3) := by decide +kernel
theorem dX11_plan_7 : decode cX11_plan 7 = .ok (.iload_n 2, 1) := by decide +kernel
theorem dX11_plan_8 : decode cX11_plan 8 = .ok (.iconst 0, 1) := by decide +kernel
theorem dX11_plan_9 : decode cX11_plan 9 = .ok (.iconst 4, 1) := by decide +kernel
theorem dX11_plan_10 : decode cX11_plan 10 = .ok (.invokestatic 39, 3) := by decide +kernel
theorem dX11_plan_13 : decode cX11_plan 13 = .ok (.ifCond .eq 12, 3) := by decide +kernel
theorem dX11_plan_16 : decode cX11_plan 16 = .ok (.aload_n 0, 1) := by decide +kernel
theorem dX11_plan_17 : decode cX11_plan 17 = .ok (.iload_n 1, 1) := by decide +kernel
theorem dX11_plan_18 : decode cX11_plan 18 = .ok (.iload_n 2, 1) := by decide +kernel
theorem dX11_plan_19 : decode cX11_plan 19 = .ok (.invokevirtual 44, 3) := by decide +kernel
theorem dX11_plan_22 : decode cX11_plan 22 = .ok (.goto 5, 3) := by decide +kernel
theorem dX11_plan_25 : decode cX11_plan 25 = .ok (.bipush (-2), 2) := by decide +kernel
theorem dX11_plan_27 : decode cX11_plan 27 = .ok (.ireturn, 1) := by decide +kernel
theorem dX11_band__0 : decode cX11_band_ 0 = .ok (.iload_n 1, 1) := by decide +kernel
theorem dX11_band__1 : decode cX11_band_ 1 = .ok (.invokestatic 84, 3) := by decide +kernel
theorem dX11_band__4 : decode cX11_band_ 4 = .ok (.ifCond .eq 12, 3) := by decide +kernel
theorem dX11_band__7 : decode cX11_band_ 7 = .ok (.iload_n 3, 1) := by decide +kernel
theorem dX11_band__8 : decode cX11_band_ 8 = .ok (.iconst 0, 1) := by decide +kernel
theorem dX11_band__9 : decode cX11_band_ 9 = .ok (.iconst 2, 1) := by decide +kernel
theorem dX11_band__10 : decode cX11_band_ 10 = .ok (.invokestatic 39, 3) := by decide +kernel
theorem dX11_band__13 : decode cX11_band_ 13 = .ok (.ifCond .ne 6, 3) := by decide +kernel
theorem dX11_band__16 : decode cX11_band_ 16 = .ok (.bipush (-2), 2) := by decide +kernel
theorem dX11_band__18 : decode cX11_band_ 18 = .ok (.ireturn, 1) := by decide +kernel
theorem dX11_band__19 : decode cX11_band_ 19 = .ok (.iload_n 2, 1) := by decide +kernel
theorem dX11_band__20 : decode cX11_band_ 20 = .ok (.iconst 0, 1) := by decide +kernel
theorem dX11_band__21 : decode cX11_band_ 21 = .ok (.aload_n 0, 1) := by decide +kernel
theorem dX11_band__22 : decode cX11_band_ 22 = .ok (.iload_n 1, 1) := by decide +kernel
theorem dX11_band__23 : decode cX11_band_ 23 = .ok (.iconst 4, 1) := by decide +kernel
theorem dX11_band__24 : decode cX11_band_ 24 = .ok (.invokevirtual 44, 3) := by decide +kernel
theorem dX11_band__27 : decode cX11_band_ 27 = .ok (.iconst 1, 1) := by decide +kernel
theorem dX11_band__28 : decode cX11_band_ 28 = .ok (.isub, 1) := by decide +kernel
theorem dX11_band__29 : decode cX11_band_ 29 = .ok (.invokestatic 39, 3) := by decide +kernel
theorem dX11_band__32 : decode cX11_band_ 32 = .ok (.ifCond .eq 13, 3) := by decide +kernel
theorem dX11_band__35 : decode cX11_band_ 35 = .ok (.aload_n 0, 1) := by decide +kernel
theorem dX11_band__36 : decode cX11_band_ 36 = .ok (.iload_n 1, 1) := by decide +kernel
theorem dX11_band__37 : decode cX11_band_ 37 = .ok (.iload_n 2, 1) := by decide +kernel
theorem dX11_band__38 : decode cX11_band_ 38 = .ok (.iload_n 3, 1) := by decide +kernel
theorem dX11_band__39 : decode cX11_band_ 39 = .ok (.invokevirtual 48, 3) := by decide +kernel
theorem dX11_band__42 : decode cX11_band_ 42 = .ok (.goto 4, 3) := by decide +kernel
theorem dX11_band__45 : decode cX11_band_ 45 = .ok (.iconst (-1), 1) := by decide +kernel
theorem dX11_band__46 : decode cX11_band_ 46 = .ok (.ireturn, 1) := by decide +kernel
theorem dX11_isVoucher_0 : decode cX11_isVoucher 0 = .ok (.iload_n 1, 1) := by decide +kernel
theorem dX11_isVoucher_1 : decode cX11_isVoucher 1 = .ok (.iconst 0, 1) := by decide +kernel
theorem dX11_isVoucher_2 : decode cX11_isVoucher 2 = .ok (.aload_n 0, 1) := by decide +kernel
theorem dX11_isVoucher_3 : decode cX11_isVoucher 3 = .ok (.getfield 7, 3) := by decide +kernel
theorem dX11_isVoucher_6 : decode cX11_isVoucher 6 = .ok (.bipush 9, 2) := by decide +kernel
theorem dX11_isVoucher_8 : decode cX11_isVoucher 8 = .ok (.iaload, 1) := by decide +kernel
theorem dX11_isVoucher_9 : decode cX11_isVoucher 9 = .ok (.iconst 1, 1) := by decide +kernel
theorem dX11_isVoucher_10 : decode cX11_isVoucher 10 = .ok (.isub, 1) := by decide +kernel
theorem dX11_isVoucher_11 : decode cX11_isVoucher 11 = .ok (.invokestatic 39, 3) := by decide +kernel
theorem dX11_isVoucher_14 : decode cX11_isVoucher 14 = .ok (.ireturn, 1) := by decide +kernel
theorem dX11_kindOf_0 : decode cX11_kindOf 0 = .ok (.aload_n 0, 1) := by decide +kernel
theorem dX11_kindOf_1 : decode cX11_kindOf 1 = .ok (.getfield 7, 3) := by decide +kernel
theorem dX11_kindOf_4 : decode cX11_kindOf 4 = .ok (.bipush 102, 2) := by decide +kernel
theorem dX11_kindOf_6 : decode cX11_kindOf 6 = .ok (.iconst 3, 1) := by decide +kernel
theorem dX11_kindOf_7 : decode cX11_kindOf 7 = .ok (.iload_n 1, 1) := by decide +kernel
theorem dX11_kindOf_8 : decode cX11_kindOf 8 = .ok (.imul, 1) := by decide +kernel
theorem dX11_kindOf_9 : decode cX11_kindOf 9 = .ok (.iadd, 1) := by decide +kernel
theorem dX11_kindOf_10 : decode cX11_kindOf 10 = .ok (.iaload, 1) := by decide +kernel
theorem dX11_kindOf_11 : decode cX11_kindOf 11 = .ok (.ireturn, 1) := by decide +kernel
theorem dX11_amountOf_0 : decode cX11_amountOf 0 = .ok (.aload_n 0, 1) := by decide +kernel
theorem dX11_amountOf_1 : decode cX11_amountOf 1 = .ok (.getfield 7, 3) := by decide +kernel
theorem dX11_amountOf_4 : decode cX11_amountOf 4 = .ok (.bipush 102, 2) := by decide +kernel
theorem dX11_amountOf_6 : decode cX11_amountOf 6 = .ok (.iconst 3, 1) := by decide +kernel
theorem dX11_amountOf_7 : decode cX11_amountOf 7 = .ok (.iload_n 1, 1) := by decide +kernel
theorem dX11_amountOf_8 : decode cX11_amountOf 8 = .ok (.imul, 1) := by decide +kernel
theorem dX11_amountOf_9 : decode cX11_amountOf 9 = .ok (.iadd, 1) := by decide +kernel
theorem dX11_amountOf_10 : decode cX11_amountOf 10 = .ok (.iconst 1, 1) := by decide +kernel
theorem dX11_amountOf_11 : decode cX11_amountOf 11 = .ok (.iadd, 1) := by decide +kernel
theorem dX11_amountOf_12 : decode cX11_amountOf 12 = .ok (.iaload, 1) := by decide +kernel
theorem dX11_amountOf_13 : decode cX11_amountOf 13 = .ok (.ireturn, 1) := by decide +kernel
theorem dX11_addVoucher_0 : decode cX11_addVoucher 0 = .ok (.iload_n 1, 1) := by decide +kernel
theorem dX11_addVoucher_1 : decode cX11_addVoucher 1 = .ok (.iconst 0, 1) := by decide +kernel
theorem dX11_addVoucher_2 : decode cX11_addVoucher 2 = .ok (.iconst 3, 1) := by decide +kernel
theorem dX11_addVoucher_3 : decode cX11_addVoucher 3 = .ok (.invokestatic 39, 3) := by decide +kernel
theorem dX11_addVoucher_6 : decode cX11_addVoucher 6 = .ok (.ifCond .eq 24, 3) := by decide +kernel
theorem dX11_addVoucher_9 : decode cX11_addVoucher 9 = .ok (.iload_n 2, 1) := by decide +kernel
theorem dX11_addVoucher_10 : decode cX11_addVoucher 10 = .ok (.iconst 0, 1) := by decide +kernel
theorem dX11_addVoucher_11 : decode cX11_addVoucher 11 = .ok (.iload_n 1, 1) := by decide +kernel
theorem dX11_addVoucher_12 : decode cX11_addVoucher 12 = .ok (.iconst 1, 1) := by decide +kernel
theorem dX11_addVoucher_13 : decode cX11_addVoucher 13 = .ok (.if_icmp .ne 8, 3) := by decide +kernel
theorem dX11_addVoucher_16 : decode cX11_addVoucher 16 = .ok (.bipush 100, 2) := by decide +kernel
theorem dX11_addVoucher_18 : decode cX11_addVoucher 18 = .ok (.goto 6, 3) := by decide +kernel
theorem dX11_addVoucher_21 : decode cX11_addVoucher 21 = .ok (.sipush 999, 3) := by decide +kernel
theorem dX11_addVoucher_24 : decode cX11_addVoucher 24 = .ok (.invokestatic 39, 3) := by decide +kernel
theorem dX11_addVoucher_27 : decode cX11_addVoucher 27 = .ok (.ifCond .ne 6, 3) := by decide +kernel
theorem dX11_addVoucher_30 : decode cX11_addVoucher 30 = .ok (.bipush (-2), 2) := by decide +kernel
theorem dX11_addVoucher_32 : decode cX11_addVoucher 32 = .ok (.ireturn, 1) := by decide +kernel
theorem dX11_addVoucher_33 : decode cX11_addVoucher 33 = .ok (.aload_n 0, 1) := by decide +kernel
theorem dX11_addVoucher_34 : decode cX11_addVoucher 34 = .ok (.getfield 7, 3) := by decide +kernel
theorem dX11_addVoucher_37 : decode cX11_addVoucher 37 = .ok (.bipush 9, 2) := by decide +kernel
theorem dX11_addVoucher_39 : decode cX11_addVoucher 39 = .ok (.iaload, 1) := by decide +kernel
theorem dX11_addVoucher_40 : decode cX11_addVoucher 40 = .ok (.bipush 10, 2) := by decide +kernel
theorem dX11_addVoucher_42 : decode cX11_addVoucher 42 = .ok (.if_icmp .ne 6, 3) := by decide +kernel
theorem dX11_addVoucher_45 : decode cX11_addVoucher 45 = .ok (.bipush (-3), 2) := by decide +kernel
theorem dX11_addVoucher_47 : decode cX11_addVoucher 47 = .ok (.ireturn, 1) := by decide +kernel
theorem dX11_addVoucher_48 : decode cX11_addVoucher 48 = .ok (.aload_n 0, 1) := by decide +kernel
theorem dX11_addVoucher_49 : decode cX11_addVoucher 49 = .ok (.getfield 7, 3) := by decide +kernel
theorem dX11_addVoucher_52 : decode cX11_addVoucher 52 = .ok (.bipush 9, 2) := by decide +kernel
theorem dX11_addVoucher_54 : decode cX11_addVoucher 54 = .ok (.iaload, 1) := by decide +kernel
theorem dX11_addVoucher_55 : decode cX11_addVoucher 55 = .ok (.istore_n 3, 1) := by decide +kernel
theorem dX11_addVoucher_56 : decode cX11_addVoucher 56 = .ok (.aload_n 0, 1) := by decide +kernel
theorem dX11_addVoucher_57 : decode cX11_addVoucher 57 = .ok (.getfield 7, 3) := by decide +kernel
theorem dX11_addVoucher_60 : decode cX11_addVoucher 60 = .ok (.bipush 102, 2) := by decide +kernel
theorem dX11_addVoucher_62 : decode cX11_addVoucher 62 = .ok (.iconst 3, 1) := by decide +kernel
theorem dX11_addVoucher_63 : decode cX11_addVoucher 63 = .ok (.iload_n 3, 1) := by decide +kernel
theorem dX11_addVoucher_64 : decode cX11_addVoucher 64 = .ok (.imul, 1) := by decide +kernel
theorem dX11_addVoucher_65 : decode cX11_addVoucher 65 = .ok (.iadd, 1) := by decide +kernel
theorem dX11_addVoucher_66 : decode cX11_addVoucher 66 = .ok (.iload_n 1, 1) := by decide +kernel
theorem dX11_addVoucher_67 : decode cX11_addVoucher 67 = .ok (.iastore, 1) := by decide +kernel
theorem dX11_addVoucher_68 : decode cX11_addVoucher 68 = .ok (.aload_n 0, 1) := by decide +kernel
theorem dX11_addVoucher_69 : decode cX11_addVoucher 69 = .ok (.getfield 7, 3) := by decide +kernel
theorem dX11_addVoucher_72 : decode cX11_addVoucher 72 = .ok (.bipush 102, 2) := by decide +kernel
theorem dX11_addVoucher_74 : decode cX11_addVoucher 74 = .ok (.iconst 3, 1) := by decide +kernel
theorem dX11_addVoucher_75 : decode cX11_addVoucher 75 = .ok (.iload_n 3, 1) := by decide +kernel
theorem dX11_addVoucher_76 : decode cX11_addVoucher 76 = .ok (.imul, 1) := by decide +kernel
theorem dX11_addVoucher_77 : decode cX11_addVoucher 77 = .ok (.iadd, 1) := by decide +kernel
theorem dX11_addVoucher_78 : decode cX11_addVoucher 78 = .ok (.iconst 1, 1) := by decide +kernel
theorem dX11_addVoucher_79 : decode cX11_addVoucher 79 = .ok (.iadd, 1) := by decide +kernel
theorem dX11_addVoucher_80 : decode cX11_addVoucher 80 = .ok (.iload_n 2, 1) := by decide +kernel
theorem dX11_addVoucher_81 : decode cX11_addVoucher 81 = .ok (.iastore, 1) := by decide +kernel
theorem dX11_addVoucher_82 : decode cX11_addVoucher 82 = .ok (.aload_n 0, 1) := by decide +kernel
theorem dX11_addVoucher_83 : decode cX11_addVoucher 83 = .ok (.getfield 7, 3) := by decide +kernel
theorem dX11_addVoucher_86 : decode cX11_addVoucher 86 = .ok (.bipush 102, 2) := by decide +kernel
theorem dX11_addVoucher_88 : decode cX11_addVoucher 88 = .ok (.iconst 3, 1) := by decide +kernel
theorem dX11_addVoucher_89 : decode cX11_addVoucher 89 = .ok (.iload_n 3, 1) := by decide +kernel
theorem dX11_addVoucher_90 : decode cX11_addVoucher 90 = .ok (.imul, 1) := by decide +kernel
theorem dX11_addVoucher_91 : decode cX11_addVoucher 91 = .ok (.iadd, 1) := by decide +kernel
theorem dX11_addVoucher_92 : decode cX11_addVoucher 92 = .ok (.iconst 2, 1) := by decide +kernel
theorem dX11_addVoucher_93 : decode cX11_addVoucher 93 = .ok (.iadd, 1) := by decide +kernel
theorem dX11_addVoucher_94 : decode cX11_addVoucher 94 = .ok (.iconst 0, 1) := by decide +kernel
theorem dX11_addVoucher_95 : decode cX11_addVoucher 95 = .ok (.iastore, 1) := by decide +kernel
theorem dX11_addVoucher_96 : decode cX11_addVoucher 96 = .ok (.aload_n 0, 1) := by decide +kernel
theorem dX11_addVoucher_97 : decode cX11_addVoucher 97 = .ok (.getfield 7, 3) := by decide +kernel
theorem dX11_addVoucher_100 : decode cX11_addVoucher 100 = .ok (.bipush 9, 2) := by decide +kernel
theorem dX11_addVoucher_102 : decode cX11_addVoucher 102 = .ok (.dup2, 1) := by decide +kernel
theorem dX11_addVoucher_103 : decode cX11_addVoucher 103 = .ok (.iaload, 1) := by decide +kernel
theorem dX11_addVoucher_104 : decode cX11_addVoucher 104 = .ok (.iconst 1, 1) := by decide +kernel
theorem dX11_addVoucher_105 : decode cX11_addVoucher 105 = .ok (.iadd, 1) := by decide +kernel
theorem dX11_addVoucher_106 : decode cX11_addVoucher 106 = .ok (.iastore, 1) := by decide +kernel
theorem dX11_addVoucher_107 : decode cX11_addVoucher 107 = .ok (.iload_n 3, 1) := by decide +kernel
theorem dX11_addVoucher_108 : decode cX11_addVoucher 108 = .ok (.ireturn, 1) := by decide +kernel
theorem dX11_voucher_0 : decode cX11_voucher 0 = .ok (.aload_n 0, 1) := by decide +kernel
theorem dX11_voucher_1 : decode cX11_voucher 1 = .ok (.iload_n 1, 1) := by decide +kernel
theorem dX11_voucher_2 : decode cX11_voucher 2 = .ok (.invokevirtual 153, 3) := by decide +kernel
theorem dX11_voucher_5 : decode cX11_voucher 5 = .ok (.ifCond .ne 7, 3) := by decide +kernel
theorem dX11_voucher_8 : decode cX11_voucher 8 = .ok (.iconst (-1), 1) := by decide +kernel
theorem dX11_voucher_9 : decode cX11_voucher 9 = .ok (.goto 30, 3) := by decide +kernel
theorem dX11_voucher_12 : decode cX11_voucher 12 = .ok (.iload_n 2, 1) := by decide +kernel
theorem dX11_voucher_13 : decode cX11_voucher 13 = .ok (.iconst 0, 1) := by decide +kernel
theorem dX11_voucher_14 : decode cX11_voucher 14 = .ok (.iconst 2, 1) := by decide +kernel
theorem dX11_voucher_15 : decode cX11_voucher 15 = .ok (.invokestatic 39, 3) := by decide +kernel
theorem dX11_voucher_18 : decode cX11_voucher 18 = .ok (.ifCond .eq 19, 3) := by decide +kernel
theorem dX11_voucher_21 : decode cX11_voucher 21 = .ok (.aload_n 0, 1) := by decide +kernel
theorem dX11_voucher_22 : decode cX11_voucher 22 = .ok (.getfield 7, 3) := by decide +kernel
theorem dX11_voucher_25 : decode cX11_voucher 25 = .ok (.bipush 102, 2) := by decide +kernel
theorem dX11_voucher_27 : decode cX11_voucher 27 = .ok (.iconst 3, 1) := by decide +kernel
theorem dX11_voucher_28 : decode cX11_voucher 28 = .ok (.iload_n 1, 1) := by decide +kernel
theorem dX11_voucher_29 : decode cX11_voucher 29 = .ok (.imul, 1) := by decide +kernel
theorem dX11_voucher_30 : decode cX11_voucher 30 = .ok (.iadd, 1) := by decide +kernel
theorem dX11_voucher_31 : decode cX11_voucher 31 = .ok (.iload_n 2, 1) := by decide +kernel
theorem dX11_voucher_32 : decode cX11_voucher 32 = .ok (.iadd, 1) := by decide +kernel
theorem dX11_voucher_33 : decode cX11_voucher 33 = .ok (.iaload, 1) := by decide +kernel
theorem dX11_voucher_34 : decode cX11_voucher 34 = .ok (.goto 5, 3) := by decide +kernel
theorem dX11_voucher_37 : decode cX11_voucher 37 = .ok (.bipush (-2), 2) := by decide +kernel
theorem dX11_voucher_39 : decode cX11_voucher 39 = .ok (.ireturn, 1) := by decide +kernel
theorem dX11_makeFolder_0 : decode cX11_makeFolder 0 = .ok (.iload_n 1, 1) := by decide +kernel
theorem dX11_makeFolder_1 : decode cX11_makeFolder 1 = .ok (.iconst 0, 1) := by decide +kernel
theorem dX11_makeFolder_2 : decode cX11_makeFolder 2 = .ok (.iconst 2, 1) := by decide +kernel
theorem dX11_makeFolder_3 : decode cX11_makeFolder 3 = .ok (.invokestatic 39, 3) := by decide +kernel
theorem dX11_makeFolder_6 : decode cX11_makeFolder 6 = .ok (.ifCond .eq 21, 3) := by decide +kernel
theorem dX11_makeFolder_9 : decode cX11_makeFolder 9 = .ok (.iload_n 2, 1) := by decide +kernel
theorem dX11_makeFolder_10 : decode cX11_makeFolder 10 = .ok (.iconst (-1), 1) := by decide +kernel
theorem dX11_makeFolder_11 : decode cX11_makeFolder 11 = .ok (.iconst 3, 1) := by decide +kernel
theorem dX11_makeFolder_12 : decode cX11_makeFolder 12 = .ok (.invokestatic 39, 3) := by decide +kernel
theorem dX11_makeFolder_15 : decode cX11_makeFolder 15 = .ok (.ifCond .eq 12, 3) := by decide +kernel
theorem dX11_makeFolder_18 : decode cX11_makeFolder 18 = .ok (.iload_n 3, 1) := by decide +kernel
theorem dX11_makeFolder_19 : decode cX11_makeFolder 19 = .ok (.iconst 1, 1) := by decide +kernel
theorem dX11_makeFolder_20 : decode cX11_makeFolder 20 = .ok (.iconst 5, 1) := by decide +kernel
theorem dX11_makeFolder_21 : decode cX11_makeFolder 21 = .ok (.invokestatic 39, 3) := by decide +kernel
theorem dX11_makeFolder_24 : decode cX11_makeFolder 24 = .ok (.ifCond .ne 6, 3) := by decide +kernel
theorem dX11_makeFolder_27 : decode cX11_makeFolder 27 = .ok (.bipush (-2), 2) := by decide +kernel
theorem dX11_makeFolder_29 : decode cX11_makeFolder 29 = .ok (.ireturn, 1) := by decide +kernel
theorem dX11_makeFolder_30 : decode cX11_makeFolder 30 = .ok (.sipush 132, 3) := by decide +kernel
theorem dX11_makeFolder_33 : decode cX11_makeFolder 33 = .ok (.bipush 7, 2) := by decide +kernel
theorem dX11_makeFolder_35 : decode cX11_makeFolder 35 = .ok (.iload_n 1, 1) := by decide +kernel
theorem dX11_makeFolder_36 : decode cX11_makeFolder 36 = .ok (.imul, 1) := by decide +kernel
theorem dX11_makeFolder_37 : decode cX11_makeFolder 37 = .ok (.iadd, 1) := by decide +kernel
theorem dX11_makeFolder_38 : decode cX11_makeFolder 38 = .ok (.istore 4, 2) := by decide +kernel
theorem dX11_makeFolder_40 : decode cX11_makeFolder 40 = .ok (.aload_n 0, 1) := by decide +kernel
theorem dX11_makeFolder_41 : decode cX11_makeFolder 41 = .ok (.getfield 7, 3) := by decide +kernel
theorem dX11_makeFolder_44 : decode cX11_makeFolder 44 = .ok (.iload 4, 2) := by decide +kernel
theorem dX11_makeFolder_46 : decode cX11_makeFolder 46 = .ok (.iload_n 3, 1) := by decide +kernel
theorem dX11_makeFolder_47 : decode cX11_makeFolder 47 = .ok (.iastore, 1) := by decide +kernel
theorem dX11_makeFolder_48 : decode cX11_makeFolder 48 = .ok (.aload_n 0, 1) := by decide +kernel
theorem dX11_makeFolder_49 : decode cX11_makeFolder 49 = .ok (.getfield 7, 3) := by decide +kernel
theorem dX11_makeFolder_52 : decode cX11_makeFolder 52 = .ok (.iload 4, 2) := by decide +kernel
theorem dX11_makeFolder_54 : decode cX11_makeFolder 54 = .ok (.iconst 1, 1) := by decide +kernel
theorem dX11_makeFolder_55 : decode cX11_makeFolder 55 = .ok (.iadd, 1) := by decide +kernel
theorem dX11_makeFolder_56 : decode cX11_makeFolder 56 = .ok (.iload_n 2, 1) := by decide +kernel
theorem dX11_makeFolder_57 : decode cX11_makeFolder 57 = .ok (.iastore, 1) := by decide +kernel
theorem dX11_makeFolder_58 : decode cX11_makeFolder 58 = .ok (.iconst 0, 1) := by decide +kernel
theorem dX11_makeFolder_59 : decode cX11_makeFolder 59 = .ok (.istore 5, 2) := by decide +kernel
theorem dX11_makeFolder_61 : decode cX11_makeFolder 61 = .ok (.iload 5, 2) := by decide +kernel
theorem dX11_makeFolder_63 : decode cX11_makeFolder 63 = .ok (.iconst 5, 1) := by decide +kernel
theorem dX11_makeFolder_64 : decode cX11_makeFolder 64 = .ok (.if_icmp .ge 22, 3) := by decide +kernel
theorem dX11_makeFolder_67 : decode cX11_makeFolder 67 = .ok (.aload_n 0, 1) := by decide +kernel
theorem dX11_makeFolder_68 : decode cX11_makeFolder 68 = .ok (.getfield 7, 3) := by decide +kernel
theorem dX11_makeFolder_71 : decode cX11_makeFolder 71 = .ok (.iload 4, 2) := by decide +kernel
theorem dX11_makeFolder_73 : decode cX11_makeFolder 73 = .ok (.iconst 2, 1) := by decide +kernel
theorem dX11_makeFolder_74 : decode cX11_makeFolder 74 = .ok (.iadd, 1) := by decide +kernel
theorem dX11_makeFolder_75 : decode cX11_makeFolder 75 = .ok (.iload 5, 2) := by decide +kernel
theorem dX11_makeFolder_77 : decode cX11_makeFolder 77 = .ok (.iadd, 1) := by decide +kernel
theorem dX11_makeFolder_78 : decode cX11_makeFolder 78 = .ok (.iconst 0, 1) := by decide +kernel
theorem dX11_makeFolder_79 : decode cX11_makeFolder 79 = .ok (.iastore, 1) := by decide +kernel
theorem dX11_makeFolder_80 : decode cX11_makeFolder 80 = .ok (.iinc 5 1, 3) := by decide +kernel
theorem dX11_makeFolder_83 : decode cX11_makeFolder 83 = .ok (.goto (-22), 3) := by decide +kernel
theorem dX11_makeFolder_86 : decode cX11_makeFolder 86 = .ok (.iload_n 3, 1) := by decide +kernel
theorem dX11_makeFolder_87 : decode cX11_makeFolder 87 = .ok (.ireturn, 1) := by decide +kernel
theorem dX11_isPlace_0 : decode cX11_isPlace 0 = .ok (.iload_n 1, 1) := by decide +kernel
theorem dX11_isPlace_1 : decode cX11_isPlace 1 = .ok (.iconst 0, 1) := by decide +kernel
theorem dX11_isPlace_2 : decode cX11_isPlace 2 = .ok (.iconst 2, 1) := by decide +kernel
theorem dX11_isPlace_3 : decode cX11_isPlace 3 = .ok (.invokestatic 39, 3) := by decide +kernel
theorem dX11_isPlace_6 : decode cX11_isPlace 6 = .ok (.ifCond .eq 30, 3) := by decide +kernel
theorem dX11_isPlace_9 : decode cX11_isPlace 9 = .ok (.iload_n 2, 1) := by decide +kernel
theorem dX11_isPlace_10 : decode cX11_isPlace 10 = .ok (.iconst 0, 1) := by decide +kernel
theorem dX11_isPlace_11 : decode cX11_isPlace 11 = .ok (.aload_n 0, 1) := by decide +kernel
theorem dX11_isPlace_12 : decode cX11_isPlace 12 = .ok (.getfield 7, 3) := by decide +kernel
theorem dX11_isPlace_15 : decode cX11_isPlace 15 = .ok (.sipush 132, 3) := by decide +kernel
theorem dX11_isPlace_18 : decode cX11_isPlace 18 = .ok (.bipush 7, 2) := by decide +kernel
theorem dX11_isPlace_20 : decode cX11_isPlace 20 = .ok (.iload_n 1, 1) := by decide +kernel
theorem dX11_isPlace_21 : decode cX11_isPlace 21 = .ok (.imul, 1) := by decide +kernel
theorem dX11_isPlace_22 : decode cX11_isPlace 22 = .ok (.iadd, 1) := by decide +kernel
theorem dX11_isPlace_23 : decode cX11_isPlace 23 = .ok (.iaload, 1) := by decide +kernel
theorem dX11_isPlace_24 : decode cX11_isPlace 24 = .ok (.iconst 1, 1) := by decide +kernel
theorem dX11_isPlace_25 : decode cX11_isPlace 25 = .ok (.isub, 1) := by decide +kernel
theorem dX11_isPlace_26 : decode cX11_isPlace 26 = .ok (.invokestatic 39, 3) := by decide +kernel
theorem dX11_isPlace_29 : decode cX11_isPlace 29 = .ok (.ifCond .eq 7, 3) := by decide +kernel
theorem dX11_isPlace_32 : decode cX11_isPlace 32 = .ok (.iconst 1, 1) := by decide +kernel
theorem dX11_isPlace_33 : decode cX11_isPlace 33 = .ok (.goto 4, 3) := by decide +kernel
theorem dX11_isPlace_36 : decode cX11_isPlace 36 = .ok (.iconst 0, 1) := by decide +kernel
theorem dX11_isPlace_37 : decode cX11_isPlace 37 = .ok (.ireturn, 1) := by decide +kernel
theorem dX11_put_0 : decode cX11_put 0 = .ok (.aload_n 0, 1) := by decide +kernel
theorem dX11_put_1 : decode cX11_put 1 = .ok (.iload_n 1, 1) := by decide +kernel
theorem dX11_put_2 : decode cX11_put 2 = .ok (.iload_n 2, 1) := by decide +kernel
theorem dX11_put_3 : decode cX11_put 3 = .ok (.invokevirtual 156, 3) := by decide +kernel
theorem dX11_put_6 : decode cX11_put 6 = .ok (.ifCond .eq 11, 3) := by decide +kernel
theorem dX11_put_9 : decode cX11_put 9 = .ok (.aload_n 0, 1) := by decide +kernel
theorem dX11_put_10 : decode cX11_put 10 = .ok (.iload_n 3, 1) := by decide +kernel
theorem dX11_put_11 : decode cX11_put 11 = .ok (.invokevirtual 153, 3) := by decide +kernel
theorem dX11_put_14 : decode cX11_put 14 = .ok (.ifCond .ne 5, 3) := by decide +kernel
theorem dX11_put_17 : decode cX11_put 17 = .ok (.iconst (-1), 1) := by decide +kernel
theorem dX11_put_18 : decode cX11_put 18 = .ok (.ireturn, 1) := by decide +kernel
theorem dX11_put_19 : decode cX11_put 19 = .ok (.sipush 132, 3) := by decide +kernel
theorem dX11_put_22 : decode cX11_put 22 = .ok (.bipush 7, 2) := by decide +kernel
theorem dX11_put_24 : decode cX11_put 24 = .ok (.iload_n 1, 1) := by decide +kernel
theorem dX11_put_25 : decode cX11_put 25 = .ok (.imul, 1) := by decide +kernel
theorem dX11_put_26 : decode cX11_put 26 = .ok (.iadd, 1) := by decide +kernel
theorem dX11_put_27 : decode cX11_put 27 = .ok (.istore 4, 2) := by decide +kernel
theorem dX11_put_29 : decode cX11_put 29 = .ok (.aload_n 0, 1) := by decide +kernel
theorem dX11_put_30 : decode cX11_put 30 = .ok (.getfield 7, 3) := by decide +kernel
theorem dX11_put_33 : decode cX11_put 33 = .ok (.iload 4, 2) := by decide +kernel
theorem dX11_put_35 : decode cX11_put 35 = .ok (.iconst 1, 1) := by decide +kernel
theorem dX11_put_36 : decode cX11_put 36 = .ok (.iadd, 1) := by decide +kernel
theorem dX11_put_37 : decode cX11_put 37 = .ok (.iaload, 1) := by decide +kernel
theorem dX11_put_38 : decode cX11_put 38 = .ok (.iconst (-1), 1) := by decide +kernel
theorem dX11_put_39 : decode cX11_put 39 = .ok (.if_icmp .eq 23, 3) := by decide +kernel
theorem dX11_put_42 : decode cX11_put 42 = .ok (.aload_n 0, 1) := by decide +kernel
theorem dX11_put_43 : decode cX11_put 43 = .ok (.getfield 7, 3) := by decide +kernel
theorem dX11_put_46 : decode cX11_put 46 = .ok (.iload 4, 2) := by decide +kernel
theorem dX11_put_48 : decode cX11_put 48 = .ok (.iconst 1, 1) := by decide +kernel
theorem dX11_put_49 : decode cX11_put 49 = .ok (.iadd, 1) := by decide +kernel
theorem dX11_put_50 : decode cX11_put 50 = .ok (.iaload, 1) := by decide +kernel
theorem dX11_put_51 : decode cX11_put 51 = .ok (.aload_n 0, 1) := by decide +kernel
theorem dX11_put_52 : decode cX11_put 52 = .ok (.iload_n 3, 1) := by decide +kernel
theorem dX11_put_53 : decode cX11_put 53 = .ok (.invokevirtual 160, 3) := by decide +kernel
theorem dX11_put_56 : decode cX11_put 56 = .ok (.if_icmp .eq 6, 3) := by decide +kernel
theorem dX11_put_59 : decode cX11_put 59 = .ok (.bipush (-6), 2) := by decide +kernel
theorem dX11_put_61 : decode cX11_put 61 = .ok (.ireturn, 1) := by decide +kernel
theorem dX11_put_62 : decode cX11_put 62 = .ok (.aload_n 0, 1) := by decide +kernel
theorem dX11_put_63 : decode cX11_put 63 = .ok (.getfield 7, 3) := by decide +kernel
theorem dX11_put_66 : decode cX11_put 66 = .ok (.iload 4, 2) := by decide +kernel
theorem dX11_put_68 : decode cX11_put 68 = .ok (.iconst 2, 1) := by decide +kernel
theorem dX11_put_69 : decode cX11_put 69 = .ok (.iadd, 1) := by decide +kernel
theorem dX11_put_70 : decode cX11_put 70 = .ok (.iload_n 2, 1) := by decide +kernel
theorem dX11_put_71 : decode cX11_put 71 = .ok (.iadd, 1) := by decide +kernel
theorem dX11_put_72 : decode cX11_put 72 = .ok (.iload_n 3, 1) := by decide +kernel
theorem dX11_put_73 : decode cX11_put 73 = .ok (.iconst 1, 1) := by decide +kernel
theorem dX11_put_74 : decode cX11_put 74 = .ok (.iadd, 1) := by decide +kernel
theorem dX11_put_75 : decode cX11_put 75 = .ok (.iastore, 1) := by decide +kernel
theorem dX11_put_76 : decode cX11_put 76 = .ok (.iconst 0, 1) := by decide +kernel
theorem dX11_put_77 : decode cX11_put 77 = .ok (.istore 5, 2) := by decide +kernel
theorem dX11_put_79 : decode cX11_put 79 = .ok (.iconst 0, 1) := by decide +kernel
theorem dX11_put_80 : decode cX11_put 80 = .ok (.istore 6, 2) := by decide +kernel
theorem dX11_put_82 : decode cX11_put 82 = .ok (.iload 6, 2) := by decide +kernel
theorem dX11_put_84 : decode cX11_put 84 = .ok (.iconst 5, 1) := by decide +kernel
theorem dX11_put_85 : decode cX11_put 85 = .ok (.if_icmp .ge 34, 3) := by decide +kernel
theorem dX11_put_88 : decode cX11_put 88 = .ok (.iload 5, 2) := by decide +kernel
theorem dX11_put_90 : decode cX11_put 90 = .ok (.aload_n 0, 1) := by decide +kernel
theorem dX11_put_91 : decode cX11_put 91 = .ok (.getfield 7, 3) := by decide +kernel
theorem dX11_put_94 : decode cX11_put 94 = .ok (.iload 4, 2) := by decide +kernel
theorem dX11_put_96 : decode cX11_put 96 = .ok (.iconst 2, 1) := by decide +kernel
theorem dX11_put_97 : decode cX11_put 97 = .ok (.iadd, 1) := by decide +kernel
theorem dX11_put_98 : decode cX11_put 98 = .ok (.iload 6, 2) := by decide +kernel
theorem dX11_put_100 : decode cX11_put 100 = .ok (.iadd, 1) := by decide +kernel
theorem dX11_put_101 : decode cX11_put 101 = .ok (.iaload, 1) := by decide +kernel
theorem dX11_put_102 : decode cX11_put 102 = .ok (.ifCond .le 7, 3) := by decide +kernel
theorem dX11_put_105 : decode cX11_put 105 = .ok (.iconst 1, 1) := by decide +kernel
theorem dX11_put_106 : decode cX11_put 106 = .ok (.goto 4, 3) := by decide +kernel
theorem dX11_put_109 : decode cX11_put 109 = .ok (.iconst 0, 1) := by decide +kernel
theorem dX11_put_110 : decode cX11_put 110 = .ok (.iadd, 1) := by decide +kernel
theorem dX11_put_111 : decode cX11_put 111 = .ok (.istore 5, 2) := by decide +kernel
theorem dX11_put_113 : decode cX11_put 113 = .ok (.iinc 6 1, 3) := by decide +kernel
theorem dX11_put_116 : decode cX11_put 116 = .ok (.goto (-34), 3) := by decide +kernel
theorem dX11_put_119 : decode cX11_put 119 = .ok (.iload 5, 2) := by decide +kernel
theorem dX11_put_121 : decode cX11_put 121 = .ok (.ireturn, 1) := by decide +kernel
theorem dX11_inFolder_0 : decode cX11_inFolder 0 = .ok (.aload_n 0, 1) := by decide +kernel
theorem dX11_inFolder_1 : decode cX11_inFolder 1 = .ok (.iload_n 1, 1) := by decide +kernel
theorem dX11_inFolder_2 : decode cX11_inFolder 2 = .ok (.iload_n 2, 1) := by decide +kernel
theorem dX11_inFolder_3 : decode cX11_inFolder 3 = .ok (.invokevirtual 156, 3) := by decide +kernel
theorem dX11_inFolder_6 : decode cX11_inFolder 6 = .ok (.ifCond .eq 25, 3) := by decide +kernel
theorem dX11_inFolder_9 : decode cX11_inFolder 9 = .ok (.aload_n 0, 1) := by decide +kernel
theorem dX11_inFolder_10 : decode cX11_inFolder 10 = .ok (.getfield 7, 3) := by decide +kernel
theorem dX11_inFolder_13 : decode cX11_inFolder 13 = .ok (.sipush 132, 3) := by decide +kernel
theorem dX11_inFolder_16 : decode cX11_inFolder 16 = .ok (.bipush 7, 2) := by decide +kernel
theorem dX11_inFolder_18 : decode cX11_inFolder 18 = .ok (.iload_n 1, 1) := by decide +kernel
theorem dX11_inFolder_19 : decode cX11_inFolder 19 = .ok (.imul, 1) := by decide +kernel
theorem dX11_inFolder_20 : decode cX11_inFolder 20 = .ok (.iadd, 1) := by decide +kernel
theorem dX11_inFolder_21 : decode cX11_inFolder 21 = .ok (.iconst 2, 1) := by decide +kernel
theorem dX11_inFolder_22 : decode cX11_inFolder 22 = .ok (.iadd, 1) := by decide +kernel
theorem dX11_inFolder_23 : decode cX11_inFolder 23 = .ok (.iload_n 2, 1) := by decide +kernel
theorem dX11_inFolder_24 : decode cX11_inFolder 24 = .ok (.iadd, 1) := by decide +kernel
theorem dX11_inFolder_25 : decode cX11_inFolder 25 = .ok (.iaload, 1) := by decide +kernel
theorem dX11_inFolder_26 : decode cX11_inFolder 26 = .ok (.iconst 1, 1) := by decide +kernel
theorem dX11_inFolder_27 : decode cX11_inFolder 27 = .ok (.isub, 1) := by decide +kernel
theorem dX11_inFolder_28 : decode cX11_inFolder 28 = .ok (.goto 4, 3) := by decide +kernel
theorem dX11_inFolder_31 : decode cX11_inFolder 31 = .ok (.iconst (-1), 1) := by decide +kernel
theorem dX11_inFolder_32 : decode cX11_inFolder 32 = .ok (.ireturn, 1) := by decide +kernel
theorem dX11_levelPart_0 : decode cX11_levelPart 0 = .ok (.aload_n 0, 1) := by decide +kernel
theorem dX11_levelPart_1 : decode cX11_levelPart 1 = .ok (.getfield 7, 3) := by decide +kernel
theorem dX11_levelPart_4 : decode cX11_levelPart 4 = .ok (.sipush 153, 3) := by decide +kernel
theorem dX11_levelPart_7 : decode cX11_levelPart 7 = .ok (.iconst 4, 1) := by decide +kernel
theorem dX11_levelPart_8 : decode cX11_levelPart 8 = .ok (.iload_n 1, 1) := by decide +kernel
theorem dX11_levelPart_9 : decode cX11_levelPart 9 = .ok (.imul, 1) := by decide +kernel
theorem dX11_levelPart_10 : decode cX11_levelPart 10 = .ok (.iadd, 1) := by decide +kernel
theorem dX11_levelPart_11 : decode cX11_levelPart 11 = .ok (.iload_n 2, 1) := by decide +kernel
theorem dX11_levelPart_12 : decode cX11_levelPart 12 = .ok (.iadd, 1) := by decide +kernel
theorem dX11_levelPart_13 : decode cX11_levelPart 13 = .ok (.iaload, 1) := by decide +kernel
theorem dX11_levelPart_14 : decode cX11_levelPart 14 = .ok (.ireturn, 1) := by decide +kernel
theorem dX11_score_0 : decode cX11_score 0 = .ok (.aload_n 0, 1) := by decide +kernel
theorem dX11_score_1 : decode cX11_score 1 = .ok (.iload_n 1, 1) := by decide +kernel
theorem dX11_score_2 : decode cX11_score 2 = .ok (.iconst 0, 1) := by decide +kernel
theorem dX11_score_3 : decode cX11_score 3 = .ok (.invokevirtual 164, 3) := by decide +kernel
theorem dX11_score_6 : decode cX11_score 6 = .ok (.aload_n 0, 1) := by decide +kernel
theorem dX11_score_7 : decode cX11_score 7 = .ok (.iload_n 1, 1) := by decide +kernel
theorem dX11_score_8 : decode cX11_score 8 = .ok (.iconst 1, 1) := by decide +kernel
theorem dX11_score_9 : decode cX11_score 9 = .ok (.invokevirtual 164, 3) := by decide +kernel
theorem dX11_score_12 : decode cX11_score 12 = .ok (.isub, 1) := by decide +kernel
theorem dX11_score_13 : decode cX11_score 13 = .ok (.i2f, 1) := by decide +kernel
theorem dX11_score_14 : decode cX11_score 14 = .ok (.aload_n 0, 1) := by decide +kernel
theorem dX11_score_15 : decode cX11_score 15 = .ok (.getfield 16, 3) := by decide +kernel
theorem dX11_score_18 : decode cX11_score 18 = .ok (.iload_n 1, 1) := by decide +kernel
theorem dX11_score_19 : decode cX11_score 19 = .ok (.faload, 1) := by decide +kernel
theorem dX11_score_20 : decode cX11_score 20 = .ok (.ldc 167, 2) := by decide +kernel
theorem dX11_score_22 : decode cX11_score 22 = .ok (.fmul, 1) := by decide +kernel
theorem dX11_score_23 : decode cX11_score 23 = .ok (.fadd, 1) := by decide +kernel
theorem dX11_score_24 : decode cX11_score 24 = .ok (.aload_n 0, 1) := by decide +kernel
theorem dX11_score_25 : decode cX11_score 25 = .ok (.iload_n 1, 1) := by decide +kernel
theorem dX11_score_26 : decode cX11_score 26 = .ok (.iconst 0, 1) := by decide +kernel
theorem dX11_score_27 : decode cX11_score 27 = .ok (.invokevirtual 164, 3) := by decide +kernel
theorem dX11_score_30 : decode cX11_score 30 = .ok (.i2f, 1) := by decide +kernel
theorem dX11_score_31 : decode cX11_score 31 = .ok (.fdiv, 1) := by decide +kernel
theorem dX11_score_32 : decode cX11_score 32 = .ok (.freturn, 1) := by decide +kernel
theorem dX11_bestLevel_0 : decode cX11_bestLevel 0 = .ok (.iconst (-1), 1) := by decide +kernel
theorem dX11_bestLevel_1 : decode cX11_bestLevel 1 = .ok (.istore_n 1, 1) := by decide +kernel
theorem dX11_bestLevel_2 : decode cX11_bestLevel 2 = .ok (.iconst 0, 1) := by decide +kernel
theorem dX11_bestLevel_3 : decode cX11_bestLevel 3 = .ok (.istore_n 2, 1) := by decide +kernel
theorem dX11_bestLevel_4 : decode cX11_bestLevel 4 = .ok (.iload_n 2, 1) := by decide +kernel
theorem dX11_bestLevel_5 : decode cX11_bestLevel 5 = .ok (.iconst 4, 1) := by decide +kernel
theorem dX11_bestLevel_6 : decode cX11_bestLevel 6 = .ok (.if_icmp .ge 45, 3) := by decide +kernel
theorem dX11_bestLevel_9 : decode cX11_bestLevel 9 = .ok (.aload_n 0, 1) := by decide +kernel
theorem dX11_bestLevel_10 : decode cX11_bestLevel 10 = .ok (.iload_n 2, 1) := by decide +kernel
theorem dX11_bestLevel_11 : decode cX11_bestLevel 11 = .ok (.iconst 1, 1) := by decide +kernel
theorem dX11_bestLevel_12 : decode cX11_bestLevel 12 = .ok (.invokevirtual 164, 3) := by decide +kernel
theorem dX11_bestLevel_15 : decode cX11_bestLevel 15 = .ok (.aload_n 0, 1) := by decide +kernel
theorem dX11_bestLevel_16 : decode cX11_bestLevel 16 = .ok (.iload_n 2, 1) := by decide +kernel
theorem dX11_bestLevel_17 : decode cX11_bestLevel 17 = .ok (.iconst 0, 1) := by decide +kernel
theorem dX11_bestLevel_18 : decode cX11_bestLevel 18 = .ok (.invokevirtual 164, 3) := by decide +kernel
theorem dX11_bestLevel_21 : decode cX11_bestLevel 21 = .ok (.if_icmp .ge 24, 3) := by decide +kernel
theorem dX11_bestLevel_24 : decode cX11_bestLevel 24 = .ok (.iload_n 1, 1) := by decide +kernel
theorem dX11_bestLevel_25 : decode cX11_bestLevel 25 = .ok (.iconst (-1), 1) := by decide +kernel
theorem dX11_bestLevel_26 : decode cX11_bestLevel 26 = .ok (.if_icmp .eq 17, 3) := by decide +kernel
theorem dX11_bestLevel_29 : decode cX11_bestLevel 29 = .ok (.aload_n 0, 1) := by decide +kernel
theorem dX11_bestLevel_30 : decode cX11_bestLevel 30 = .ok (.iload_n 2, 1) := by decide +kernel
theorem dX11_bestLevel_31 : decode cX11_bestLevel 31 = .ok (.invokevirtual 168, 3) := by decide +kernel
theorem dX11_bestLevel_34 : decode cX11_bestLevel 34 = .ok (.aload_n 0, 1) := by decide +kernel
theorem dX11_bestLevel_35 : decode cX11_bestLevel 35 = .ok (.iload_n 1, 1) := by decide +kernel
theorem dX11_bestLevel_36 : decode cX11_bestLevel 36 = .ok (.invokevirtual 168, 3) := by decide +kernel
theorem dX11_bestLevel_39 : decode cX11_bestLevel 39 = .ok (.fcmp .l, 1) := by decide +kernel
theorem dX11_bestLevel_40 : decode cX11_bestLevel 40 = .ok (.ifCond .le 5, 3) := by decide +kernel
theorem dX11_bestLevel_43 : decode cX11_bestLevel 43 = .ok (.iload_n 2, 1) := by decide +kernel
theorem dX11_bestLevel_44 : decode cX11_bestLevel 44 = .ok (.istore_n 1, 1) := by decide +kernel
theorem dX11_bestLevel_45 : decode cX11_bestLevel 45 = .ok (.iinc 2 1, 3) := by decide +kernel
theorem dX11_bestLevel_48 : decode cX11_bestLevel 48 = .ok (.goto (-44), 3) := by decide +kernel
theorem dX11_bestLevel_51 : decode cX11_bestLevel 51 = .ok (.iload_n 1, 1) := by decide +kernel
theorem dX11_bestLevel_52 : decode cX11_bestLevel 52 = .ok (.ireturn, 1) := by decide +kernel
theorem dX11_setCapacity_0 : decode cX11_setCapacity 0 = .ok (.iload_n 1, 1) := by decide +kernel
theorem dX11_setCapacity_1 : decode cX11_setCapacity 1 = .ok (.iconst 0, 1) := by decide +kernel
theorem dX11_setCapacity_2 : decode cX11_setCapacity 2 = .ok (.iconst 3, 1) := by decide +kernel
theorem dX11_setCapacity_3 : decode cX11_setCapacity 3 = .ok (.invokestatic 39, 3) := by decide +kernel
theorem dX11_setCapacity_6 : decode cX11_setCapacity 6 = .ok (.ifCond .eq 13, 3) := by decide +kernel
theorem dX11_setCapacity_9 : decode cX11_setCapacity 9 = .ok (.iload_n 2, 1) := by decide +kernel
theorem dX11_setCapacity_10 : decode cX11_setCapacity 10 = .ok (.iconst 0, 1) := by decide +kernel
theorem dX11_setCapacity_11 : decode cX11_setCapacity 11 = .ok (.bipush 40, 2) := by decide +kernel
theorem dX11_setCapacity_13 : decode cX11_setCapacity 13 = .ok (.invokestatic 39, 3) := by decide +kernel
theorem dX11_setCapacity_16 : decode cX11_setCapacity 16 = .ok (.ifCond .ne 6, 3) := by decide +kernel
theorem dX11_setCapacity_19 : decode cX11_setCapacity 19 = .ok (.bipush (-2), 2) := by decide +kernel
theorem dX11_setCapacity_21 : decode cX11_setCapacity 21 = .ok (.ireturn, 1) := by decide +kernel
theorem dX11_setCapacity_22 : decode cX11_setCapacity 22 = .ok (.aload_n 0, 1) := by decide +kernel
theorem dX11_setCapacity_23 : decode cX11_setCapacity 23 = .ok (.iload_n 1, 1) := by decide +kernel
theorem dX11_setCapacity_24 : decode cX11_setCapacity 24 = .ok (.iconst 1, 1) := by decide +kernel
theorem dX11_setCapacity_25 : decode cX11_setCapacity 25 = .ok (.invokevirtual 164, 3) := by decide +kernel
theorem dX11_setCapacity_28 : decode cX11_setCapacity 28 = .ok (.iload_n 2, 1) := by decide +kernel
theorem dX11_setCapacity_29 : decode cX11_setCapacity 29 = .ok (.if_icmp .le 6, 3) := by decide +kernel
theorem dX11_setCapacity_32 : decode cX11_setCapacity 32 = .ok (.bipush (-3), 2) := by decide +kernel
theorem dX11_setCapacity_34 : decode cX11_setCapacity 34 = .ok (.ireturn, 1) := by decide +kernel
theorem dX11_setCapacity_35 : decode cX11_setCapacity 35 = .ok (.aload_n 0, 1) := by decide +kernel
theorem dX11_setCapacity_36 : decode cX11_setCapacity 36 = .ok (.iload_n 1, 1) := by decide +kernel
theorem dX11_setCapacity_37 : decode cX11_setCapacity 37 = .ok (.iconst 0, 1) := by decide +kernel
theorem dX11_setCapacity_38 : decode cX11_setCapacity 38 = .ok (.invokevirtual 164, 3) := by decide +kernel
theorem dX11_setCapacity_41 : decode cX11_setCapacity 41 = .ok (.istore_n 3, 1) := by decide +kernel
theorem dX11_setCapacity_42 : decode cX11_setCapacity 42 = .ok (.aload_n 0, 1) := by decide +kernel
theorem dX11_setCapacity_43 : decode cX11_setCapacity 43 = .ok (.getfield 7, 3) := by decide +kernel
theorem dX11_setCapacity_46 : decode cX11_setCapacity 46 = .ok (.sipush 153, 3) := by decide +kernel
theorem dX11_setCapacity_49 : decode cX11_setCapacity 49 = .ok (.iconst 4, 1) := by decide +kernel
theorem dX11_setCapacity_50 : decode cX11_setCapacity 50 = .ok (.iload_n 1, 1) := by decide +kernel
theorem dX11_setCapacity_51 : decode cX11_setCapacity 51 = .ok (.imul, 1) := by decide +kernel
theorem dX11_setCapacity_52 : decode cX11_setCapacity 52 = .ok (.iadd, 1) := by decide +kernel
theorem dX11_setCapacity_53 : decode cX11_setCapacity 53 = .ok (.iconst 0, 1) := by decide +kernel
theorem dX11_setCapacity_54 : decode cX11_setCapacity 54 = .ok (.iadd, 1) := by decide +kernel
theorem dX11_setCapacity_55 : decode cX11_setCapacity 55 = .ok (.iload_n 2, 1) := by decide +kernel
theorem dX11_setCapacity_56 : decode cX11_setCapacity 56 = .ok (.iastore, 1) := by decide +kernel
theorem dX11_setCapacity_57 : decode cX11_setCapacity 57 = .ok (.iload_n 3, 1) := by decide +kernel
theorem dX11_setCapacity_58 : decode cX11_setCapacity 58 = .ok (.ireturn, 1) := by decide +kernel
theorem dX11_level_0 : decode cX11_level 0 = .ok (.iload_n 1, 1) := by decide +kernel
theorem dX11_level_1 : decode cX11_level 1 = .ok (.iconst 0, 1) := by decide +kernel
theorem dX11_level_2 : decode cX11_level 2 = .ok (.iconst 3, 1) := by decide +kernel
theorem dX11_level_3 : decode cX11_level 3 = .ok (.invokestatic 39, 3) := by decide +kernel
theorem dX11_level_6 : decode cX11_level 6 = .ok (.ifCond .ne 6, 3) := by decide +kernel
theorem dX11_level_9 : decode cX11_level 9 = .ok (.bipush (-2), 2) := by decide +kernel
theorem dX11_level_11 : decode cX11_level 11 = .ok (.ireturn, 1) := by decide +kernel
theorem dX11_level_12 : decode cX11_level 12 = .ok (.iload_n 2, 1) := by decide +kernel
theorem dX11_level_13 : decode cX11_level 13 = .ok (.tableswitch 99 0 5 #[39, 46, 53, 63, 85, 92], 39) := by decide +kernel
theorem dX11_level_52 : decode cX11_level 52 = .ok (.aload_n 0, 1) := by decide +kernel
theorem dX11_level_53 : decode cX11_level 53 = .ok (.iload_n 1, 1) := by decide +kernel
theorem dX11_level_54 : decode cX11_level 54 = .ok (.iconst 0, 1) := by decide +kernel
theorem dX11_level_55 : decode cX11_level 55 = .ok (.invokevirtual 164, 3) := by decide +kernel
theorem dX11_level_58 : decode cX11_level 58 = .ok (.ireturn, 1) := by decide +kernel
theorem dX11_level_59 : decode cX11_level 59 = .ok (.aload_n 0, 1) := by decide +kernel
theorem dX11_level_60 : decode cX11_level 60 = .ok (.iload_n 1, 1) := by decide +kernel
theorem dX11_level_61 : decode cX11_level 61 = .ok (.iconst 1, 1) := by decide +kernel
theorem dX11_level_62 : decode cX11_level 62 = .ok (.invokevirtual 164, 3) := by decide +kernel
theorem dX11_level_65 : decode cX11_level 65 = .ok (.ireturn, 1) := by decide +kernel
theorem dX11_level_66 : decode cX11_level 66 = .ok (.aload_n 0, 1) := by decide +kernel
theorem dX11_level_67 : decode cX11_level 67 = .ok (.getfield 16, 3) := by decide +kernel
theorem dX11_level_70 : decode cX11_level 70 = .ok (.iload_n 1, 1) := by decide +kernel
theorem dX11_level_71 : decode cX11_level 71 = .ok (.faload, 1) := by decide +kernel
theorem dX11_level_72 : decode cX11_level 72 = .ok (.invokestatic 172, 3) := by decide +kernel
theorem dX11_level_75 : decode cX11_level 75 = .ok (.ireturn, 1) := by decide +kernel
theorem dX11_level_76 : decode cX11_level 76 = .ok (.aload_n 0, 1) := by decide +kernel
theorem dX11_level_77 : decode cX11_level 77 = .ok (.iload_n 1, 1) := by decide +kernel
theorem dX11_level_78 : decode cX11_level 78 = .ok (.iconst 0, 1) := by decide +kernel
theorem dX11_level_79 : decode cX11_level 79 = .ok (.invokevirtual 164, 3) := by decide +kernel
theorem dX11_level_82 : decode cX11_level 82 = .ok (.ifCond .ne 7, 3) := by decide +kernel
theorem dX11_level_85 : decode cX11_level 85 = .ok (.iconst 0, 1) := by decide +kernel
theorem dX11_level_86 : decode cX11_level 86 = .ok (.goto 11, 3) := by decide +kernel
theorem dX11_level_89 : decode cX11_level 89 = .ok (.aload_n 0, 1) := by decide +kernel
theorem dX11_level_90 : decode cX11_level 90 = .ok (.iload_n 1, 1) := by decide +kernel
theorem dX11_level_91 : decode cX11_level 91 = .ok (.invokevirtual 168, 3) := by decide +kernel
theorem dX11_level_94 : decode cX11_level 94 = .ok (.invokestatic 172, 3) := by decide +kernel
theorem dX11_level_97 : decode cX11_level 97 = .ok (.ireturn, 1) := by decide +kernel
theorem dX11_level_98 : decode cX11_level 98 = .ok (.aload_n 0, 1) := by decide +kernel
theorem dX11_level_99 : decode cX11_level 99 = .ok (.iload_n 1, 1) := by decide +kernel
theorem dX11_level_100 : decode cX11_level 100 = .ok (.iconst 2, 1) := by decide +kernel
theorem dX11_level_101 : decode cX11_level 101 = .ok (.invokevirtual 164, 3) := by decide +kernel
theorem dX11_level_104 : decode cX11_level 104 = .ok (.ireturn, 1) := by decide +kernel
theorem dX11_level_105 : decode cX11_level 105 = .ok (.aload_n 0, 1) := by decide +kernel
theorem dX11_level_106 : decode cX11_level 106 = .ok (.iload_n 1, 1) := by decide +kernel
theorem dX11_level_107 : decode cX11_level 107 = .ok (.iconst 3, 1) := by decide +kernel
theorem dX11_level_108 : decode cX11_level 108 = .ok (.invokevirtual 164, 3) := by decide +kernel
theorem dX11_level_111 : decode cX11_level 111 = .ok (.ireturn, 1) := by decide +kernel
theorem dX11_level_112 : decode cX11_level 112 = .ok (.bipush (-2), 2) := by decide +kernel
theorem dX11_level_114 : decode cX11_level 114 = .ok (.ireturn, 1) := by decide +kernel
theorem dX11_forecast_0 : decode cX11_forecast 0 = .ok (.iload_n 1, 1) := by decide +kernel
theorem dX11_forecast_1 : decode cX11_forecast 1 = .ok (.iconst 0, 1) := by decide +kernel
theorem dX11_forecast_2 : decode cX11_forecast 2 = .ok (.iconst 3, 1) := by decide +kernel
theorem dX11_forecast_3 : decode cX11_forecast 3 = .ok (.invokestatic 39, 3) := by decide +kernel
theorem dX11_forecast_6 : decode cX11_forecast 6 = .ok (.ifCond .eq 14, 3) := by decide +kernel
theorem dX11_forecast_9 : decode cX11_forecast 9 = .ok (.iload_n 2, 1) := by decide +kernel
theorem dX11_forecast_10 : decode cX11_forecast 10 = .ok (.iconst 0, 1) := by decide +kernel
theorem dX11_forecast_11 : decode cX11_forecast 11 = .ok (.sipush 600, 3) := by decide +kernel
theorem dX11_forecast_14 : decode cX11_forecast 14 = .ok (.invokestatic 39, 3) := by decide +kernel
theorem dX11_forecast_17 : decode cX11_forecast 17 = .ok (.ifCond .ne 6, 3) := by decide +kernel
theorem dX11_forecast_20 : decode cX11_forecast 20 = .ok (.bipush (-2), 2) := by decide +kernel
theorem dX11_forecast_22 : decode cX11_forecast 22 = .ok (.ireturn, 1) := by decide +kernel
theorem dX11_forecast_23 : decode cX11_forecast 23 = .ok (.aload_n 0, 1) := by decide +kernel
theorem dX11_forecast_24 : decode cX11_forecast 24 = .ok (.iload_n 1, 1) := by decide +kernel
theorem dX11_forecast_25 : decode cX11_forecast 25 = .ok (.iconst 1, 1) := by decide +kernel
theorem dX11_forecast_26 : decode cX11_forecast 26 = .ok (.invokevirtual 164, 3) := by decide +kernel
theorem dX11_forecast_29 : decode cX11_forecast 29 = .ok (.i2f, 1) := by decide +kernel
theorem dX11_forecast_30 : decode cX11_forecast 30 = .ok (.aload_n 0, 1) := by decide +kernel
theorem dX11_forecast_31 : decode cX11_forecast 31 = .ok (.getfield 16, 3) := by decide +kernel
theorem dX11_forecast_34 : decode cX11_forecast 34 = .ok (.iload_n 1, 1) := by decide +kernel
theorem dX11_forecast_35 : decode cX11_forecast 35 = .ok (.faload, 1) := by decide +kernel
theorem dX11_forecast_36 : decode cX11_forecast 36 = .ok (.iload_n 2, 1) := by decide +kernel
theorem dX11_forecast_37 : decode cX11_forecast 37 = .ok (.i2f, 1) := by decide +kernel
theorem dX11_forecast_38 : decode cX11_forecast 38 = .ok (.fmul, 1) := by decide +kernel
theorem dX11_forecast_39 : decode cX11_forecast 39 = .ok (.ldc 178, 2) := by decide +kernel
theorem dX11_forecast_41 : decode cX11_forecast 41 = .ok (.fdiv, 1) := by decide +kernel
theorem dX11_forecast_42 : decode cX11_forecast 42 = .ok (.fsub, 1) := by decide +kernel
theorem dX11_forecast_43 : decode cX11_forecast 43 = .ok (.f2i, 1) := by decide +kernel
theorem dX11_forecast_44 : decode cX11_forecast 44 = .ok (.istore_n 3, 1) := by decide +kernel
theorem dX11_forecast_45 : decode cX11_forecast 45 = .ok (.iload_n 3, 1) := by decide +kernel
theorem dX11_forecast_46 : decode cX11_forecast 46 = .ok (.ifCond .ge 7, 3) := by decide +kernel
theorem dX11_forecast_49 : decode cX11_forecast 49 = .ok (.iconst 0, 1) := by decide +kernel
theorem dX11_forecast_50 : decode cX11_forecast 50 = .ok (.goto 4, 3) := by decide +kernel
theorem dX11_forecast_53 : decode cX11_forecast 53 = .ok (.iload_n 3, 1) := by decide +kernel
theorem dX11_forecast_54 : decode cX11_forecast 54 = .ok (.ireturn, 1) := by decide +kernel
theorem dX11_item_0 : decode cX11_item 0 = .ok (.aload_n 0, 1) := by decide +kernel
theorem dX11_item_1 : decode cX11_item 1 = .ok (.getfield 7, 3) := by decide +kernel
theorem dX11_item_4 : decode cX11_item 4 = .ok (.sipush 169, 3) := by decide +kernel
theorem dX11_item_7 : decode cX11_item 7 = .ok (.bipush 12, 2) := by decide +kernel
theorem dX11_item_9 : decode cX11_item 9 = .ok (.iload_n 1, 1) := by decide +kernel
theorem dX11_item_10 : decode cX11_item 10 = .ok (.imul, 1) := by decide +kernel
theorem dX11_item_11 : decode cX11_item 11 = .ok (.iadd, 1) := by decide +kernel
theorem dX11_item_12 : decode cX11_item 12 = .ok (.iload_n 2, 1) := by decide +kernel
theorem dX11_item_13 : decode cX11_item 13 = .ok (.iadd, 1) := by decide +kernel
theorem dX11_item_14 : decode cX11_item 14 = .ok (.iaload, 1) := by decide +kernel
theorem dX11_item_15 : decode cX11_item 15 = .ok (.ireturn, 1) := by decide +kernel
theorem dX11_set_0 : decode cX11_set 0 = .ok (.aload_n 0, 1) := by decide +kernel
theorem dX11_set_1 : decode cX11_set 1 = .ok (.getfield 7, 3) := by decide +kernel
theorem dX11_set_4 : decode cX11_set 4 = .ok (.sipush 169, 3) := by decide +kernel
theorem dX11_set_7 : decode cX11_set 7 = .ok (.bipush 12, 2) := by decide +kernel
theorem dX11_set_9 : decode cX11_set 9 = .ok (.iload_n 1, 1) := by decide +kernel
theorem dX11_set_10 : decode cX11_set 10 = .ok (.imul, 1) := by decide +kernel
theorem dX11_set_11 : decode cX11_set 11 = .ok (.iadd, 1) := by decide +kernel
theorem dX11_set_12 : decode cX11_set 12 = .ok (.iload_n 2, 1) := by decide +kernel
theorem dX11_set_13 : decode cX11_set 13 = .ok (.iadd, 1) := by decide +kernel
theorem dX11_set_14 : decode cX11_set 14 = .ok (.iload_n 3, 1) := by decide +kernel
theorem dX11_set_15 : decode cX11_set 15 = .ok (.iastore, 1) := by decide +kernel
theorem dX11_set_16 : decode cX11_set 16 = .ok (.return_, 1) := by decide +kernel
theorem dX11_isInside_0 : decode cX11_isInside 0 = .ok (.iload_n 1, 1) := by decide +kernel
theorem dX11_isInside_1 : decode cX11_isInside 1 = .ok (.iconst 0, 1) := by decide +kernel
theorem dX11_isInside_2 : decode cX11_isInside 2 = .ok (.aload_n 0, 1) := by decide +kernel
theorem dX11_isInside_3 : decode cX11_isInside 3 = .ok (.getfield 7, 3) := by decide +kernel
theorem dX11_isInside_6 : decode cX11_isInside 6 = .ok (.iconst 1, 1) := by decide +kernel
theorem dX11_isInside_7 : decode cX11_isInside 7 = .ok (.iaload, 1) := by decide +kernel
theorem dX11_isInside_8 : decode cX11_isInside 8 = .ok (.iconst 1, 1) := by decide +kernel
theorem dX11_isInside_9 : decode cX11_isInside 9 = .ok (.isub, 1) := by decide +kernel
theorem dX11_isInside_10 : decode cX11_isInside 10 = .ok (.invokestatic 39, 3) := by decide +kernel
theorem dX11_isInside_13 : decode cX11_isInside 13 = .ok (.ifCond .eq 16, 3) := by decide +kernel
theorem dX11_isInside_16 : decode cX11_isInside 16 = .ok (.aload_n 0, 1) := by decide +kernel
theorem dX11_isInside_17 : decode cX11_isInside 17 = .ok (.iload_n 1, 1) := by decide +kernel
theorem dX11_isInside_18 : decode cX11_isInside 18 = .ok (.iconst 5, 1) := by decide +kernel
theorem dX11_isInside_19 : decode cX11_isInside 19 = .ok (.invokevirtual 179, 3) := by decide +kernel
theorem dX11_isInside_22 : decode cX11_isInside 22 = .ok (.ifCond .ne 7, 3) := by decide +kernel
theorem dX11_isInside_25 : decode cX11_isInside 25 = .ok (.iconst 1, 1) := by decide +kernel
theorem dX11_isInside_26 : decode cX11_isInside 26 = .ok (.goto 4, 3) := by decide +kernel
theorem dX11_isInside_29 : decode cX11_isInside 29 = .ok (.iconst 0, 1) := by decide +kernel
theorem dX11_isInside_30 : decode cX11_isInside 30 = .ok (.ireturn, 1) := by decide +kernel
theorem dX11_inside_0 : decode cX11_inside 0 = .ok (.aload_n 0, 1) := by decide +kernel
theorem dX11_inside_1 : decode cX11_inside 1 = .ok (.getfield 7, 3) := by decide +kernel
theorem dX11_inside_4 : decode cX11_inside 4 = .ok (.iconst 1, 1) := by decide +kernel
theorem dX11_inside_5 : decode cX11_inside 5 = .ok (.iaload, 1) := by decide +kernel
theorem dX11_inside_6 : decode cX11_inside 6 = .ok (.aload_n 0, 1) := by decide +kernel
theorem dX11_inside_7 : decode cX11_inside 7 = .ok (.getfield 7, 3) := by decide +kernel
theorem dX11_inside_10 : decode cX11_inside 10 = .ok (.iconst 2, 1) := by decide +kernel
theorem dX11_inside_11 : decode cX11_inside 11 = .ok (.iaload, 1) := by decide +kernel
theorem dX11_inside_12 : decode cX11_inside 12 = .ok (.isub, 1) := by decide +kernel
theorem dX11_inside_13 : decode cX11_inside 13 = .ok (.ireturn, 1) := by decide +kernel
theorem dX11_enter_0 : decode cX11_enter 0 = .ok (.iload_n 1, 1) := by decide +kernel
theorem dX11_enter_1 : decode cX11_enter 1 = .ok (.invokestatic 84, 3) := by decide +kernel
theorem dX11_enter_4 : decode cX11_enter 4 = .ok (.ifCond .ne 6, 3) := by decide +kernel
theorem dX11_enter_7 : decode cX11_enter 7 = .ok (.bipush (-2), 2) := by decide +kernel
theorem dX11_enter_9 : decode cX11_enter 9 = .ok (.ireturn, 1) := by decide +kernel
theorem dX11_enter_10 : decode cX11_enter 10 = .ok (.aload_n 0, 1) := by decide +kernel
theorem dX11_enter_11 : decode cX11_enter 11 = .ok (.invokevirtual 182, 3) := by decide +kernel
theorem dX11_enter_14 : decode cX11_enter 14 = .ok (.istore_n 2, 1) := by decide +kernel
theorem dX11_enter_15 : decode cX11_enter 15 = .ok (.aload_n 0, 1) := by decide +kernel
theorem dX11_enter_16 : decode cX11_enter 16 = .ok (.invokevirtual 185, 3) := by decide +kernel
theorem dX11_enter_19 : decode cX11_enter 19 = .ok (.bipush 40, 2) := by decide +kernel
theorem dX11_enter_21 : decode cX11_enter 21 = .ok (.if_icmp .eq 8, 3) := by decide +kernel
theorem dX11_enter_24 : decode cX11_enter 24 = .ok (.iload_n 2, 1) := by decide +kernel
theorem dX11_enter_25 : decode cX11_enter 25 = .ok (.iconst (-1), 1) := by decide +kernel
theorem dX11_enter_26 : decode cX11_enter 26 = .ok (.if_icmp .ne 6, 3) := by decide +kernel
theorem dX11_enter_29 : decode cX11_enter 29 = .ok (.bipush (-3), 2) := by decide +kernel
theorem dX11_enter_31 : decode cX11_enter 31 = .ok (.ireturn, 1) := by decide +kernel
theorem dX11_enter_32 : decode cX11_enter 32 = .ok (.aload_n 0, 1) := by decide +kernel
theorem dX11_enter_33 : decode cX11_enter 33 = .ok (.getfield 7, 3) := by decide +kernel
theorem dX11_enter_36 : decode cX11_enter 36 = .ok (.iconst 1, 1) := by decide +kernel
theorem dX11_enter_37 : decode cX11_enter 37 = .ok (.iaload, 1) := by decide +kernel
theorem dX11_enter_38 : decode cX11_enter 38 = .ok (.istore_n 3, 1) := by decide +kernel
theorem dX11_enter_39 : decode cX11_enter 39 = .ok (.iconst 0, 1) := by decide +kernel
theorem dX11_enter_40 : decode cX11_enter 40 = .ok (.istore 4, 2) := by decide +kernel
theorem dX11_enter_42 : decode cX11_enter 42 = .ok (.iload 4, 2) := by decide +kernel
theorem dX11_enter_44 : decode cX11_enter 44 = .ok (.bipush 12, 2) := by decide +kernel
theorem dX11_enter_46 : decode cX11_enter 46 = .ok (.if_icmp .ge 17, 3) := by decide +kernel
theorem dX11_enter_49 : decode cX11_enter 49 = .ok (.aload_n 0, 1) := by decide +kernel
theorem dX11_enter_50 : decode cX11_enter 50 = .ok (.iload_n 3, 1) := by decide +kernel
theorem dX11_enter_51 : decode cX11_enter 51 = .ok (.iload 4, 2) := by decide +kernel
theorem dX11_enter_53 : decode cX11_enter 53 = .ok (.iconst 0, 1) := by decide +kernel
theorem dX11_enter_54 : decode cX11_enter 54 = .ok (.invokevirtual 188, 3) := by decide +kernel
theorem dX11_enter_57 : decode cX11_enter 57 = .ok (.iinc 4 1, 3) := by decide +kernel
theorem dX11_enter_60 : decode cX11_enter 60 = .ok (.goto (-18), 3) := by decide +kernel
theorem dX11_enter_63 : decode cX11_enter 63 = .ok (.aload_n 0, 1) := by decide +kernel
theorem dX11_enter_64 : decode cX11_enter 64 = .ok (.iload_n 3, 1) := by decide +kernel
theorem dX11_enter_65 : decode cX11_enter 65 = .ok (.iconst 0, 1) := by decide +kernel
theorem dX11_enter_66 : decode cX11_enter 66 = .ok (.iload_n 1, 1) := by decide +kernel
theorem dX11_enter_67 : decode cX11_enter 67 = .ok (.invokevirtual 188, 3) := by decide +kernel
theorem dX11_enter_70 : decode cX11_enter 70 = .ok (.aload_n 0, 1) := by decide +kernel
theorem dX11_enter_71 : decode cX11_enter 71 = .ok (.iload_n 3, 1) := by decide +kernel
theorem dX11_enter_72 : decode cX11_enter 72 = .ok (.iconst 1, 1) := by decide +kernel
theorem dX11_enter_73 : decode cX11_enter 73 = .ok (.aload_n 0, 1) := by decide +kernel
theorem dX11_enter_74 : decode cX11_enter 74 = .ok (.getfield 7, 3) := by decide +kernel
theorem dX11_enter_77 : decode cX11_enter 77 = .ok (.iconst 0, 1) := by decide +kernel
theorem dX11_enter_78 : decode cX11_enter 78 = .ok (.iaload, 1) := by decide +kernel
theorem dX11_enter_79 : decode cX11_enter 79 = .ok (.invokevirtual 188, 3) := by decide +kernel
theorem dX11_enter_82 : decode cX11_enter 82 = .ok (.aload_n 0, 1) := by decide +kernel
theorem dX11_enter_83 : decode cX11_enter 83 = .ok (.iload_n 3, 1) := by decide +kernel
theorem dX11_enter_84 : decode cX11_enter 84 = .ok (.iconst 2, 1) := by decide +kernel
theorem dX11_enter_85 : decode cX11_enter 85 = .ok (.iload_n 2, 1) := by decide +kernel
theorem dX11_enter_86 : decode cX11_enter 86 = .ok (.invokevirtual 188, 3) := by decide +kernel
theorem dX11_enter_89 : decode cX11_enter 89 = .ok (.aload_n 0, 1) := by decide +kernel
theorem dX11_enter_90 : decode cX11_enter 90 = .ok (.iload_n 3, 1) := by decide +kernel
theorem dX11_enter_91 : decode cX11_enter 91 = .ok (.bipush 7, 2) := by decide +kernel
theorem dX11_enter_93 : decode cX11_enter 93 = .ok (.iconst (-1), 1) := by decide +kernel
theorem dX11_enter_94 : decode cX11_enter 94 = .ok (.invokevirtual 188, 3) := by decide +kernel
theorem dX11_enter_97 : decode cX11_enter 97 = .ok (.aload_n 0, 1) := by decide +kernel
theorem dX11_enter_98 : decode cX11_enter 98 = .ok (.getfield 7, 3) := by decide +kernel
theorem dX11_enter_101 : decode cX11_enter 101 = .ok (.iconst 1, 1) := by decide +kernel
theorem dX11_enter_102 : decode cX11_enter 102 = .ok (.dup2, 1) := by decide +kernel
theorem dX11_enter_103 : decode cX11_enter 103 = .ok (.iaload, 1) := by decide +kernel
theorem dX11_enter_104 : decode cX11_enter 104 = .ok (.iconst 1, 1) := by decide +kernel
theorem dX11_enter_105 : decode cX11_enter 105 = .ok (.iadd, 1) := by decide +kernel
theorem dX11_enter_106 : decode cX11_enter 106 = .ok (.iastore, 1) := by decide +kernel
theorem dX11_enter_107 : decode cX11_enter 107 = .ok (.aload_n 0, 1) := by decide +kernel
theorem dX11_enter_108 : decode cX11_enter 108 = .ok (.getfield 7, 3) := by decide +kernel
theorem dX11_enter_111 : decode cX11_enter 111 = .ok (.sipush 153, 3) := by decide +kernel
theorem dX11_enter_114 : decode cX11_enter 114 = .ok (.iconst 4, 1) := by decide +kernel
theorem dX11_enter_115 : decode cX11_enter 115 = .ok (.iload_n 2, 1) := by decide +kernel
theorem dX11_enter_116 : decode cX11_enter 116 = .ok (.imul, 1) := by decide +kernel
theorem dX11_enter_117 : decode cX11_enter 117 = .ok (.iadd, 1) := by decide +kernel
theorem dX11_enter_118 : decode cX11_enter 118 = .ok (.iconst 1, 1) := by decide +kernel
theorem dX11_enter_119 : decode cX11_enter 119 = .ok (.iadd, 1) := by decide +kernel
theorem dX11_enter_120 : decode cX11_enter 120 = .ok (.dup2, 1) := by decide +kernel
theorem dX11_enter_121 : decode cX11_enter 121 = .ok (.iaload, 1) := by decide +kernel
theorem dX11_enter_122 : decode cX11_enter 122 = .ok (.iconst 1, 1) := by decide +kernel
theorem dX11_enter_123 : decode cX11_enter 123 = .ok (.iadd, 1) := by decide +kernel
theorem dX11_enter_124 : decode cX11_enter 124 = .ok (.iastore, 1) := by decide +kernel
theorem dX11_enter_125 : decode cX11_enter 125 = .ok (.aload_n 0, 1) := by decide +kernel
theorem dX11_enter_126 : decode cX11_enter 126 = .ok (.getfield 7, 3) := by decide +kernel
theorem dX11_enter_129 : decode cX11_enter 129 = .ok (.sipush 153, 3) := by decide +kernel
theorem dX11_enter_132 : decode cX11_enter 132 = .ok (.iconst 4, 1) := by decide +kernel
theorem dX11_enter_133 : decode cX11_enter 133 = .ok (.iload_n 2, 1) := by decide +kernel
theorem dX11_enter_134 : decode cX11_enter 134 = .ok (.imul, 1) := by decide +kernel
theorem dX11_enter_135 : decode cX11_enter 135 = .ok (.iadd, 1) := by decide +kernel
theorem dX11_enter_136 : decode cX11_enter 136 = .ok (.iconst 3, 1) := by decide +kernel
theorem dX11_enter_137 : decode cX11_enter 137 = .ok (.iadd, 1) := by decide +kernel
theorem dX11_enter_138 : decode cX11_enter 138 = .ok (.dup2, 1) := by decide +kernel
theorem dX11_enter_139 : decode cX11_enter 139 = .ok (.iaload, 1) := by decide +kernel
theorem dX11_enter_140 : decode cX11_enter 140 = .ok (.iconst 1, 1) := by decide +kernel
theorem dX11_enter_141 : decode cX11_enter 141 = .ok (.iadd, 1) := by decide +kernel
theorem dX11_enter_142 : decode cX11_enter 142 = .ok (.iastore, 1) := by decide +kernel
theorem dX11_enter_143 : decode cX11_enter 143 = .ok (.iload_n 3, 1) := by decide +kernel
theorem dX11_enter_144 : decode cX11_enter 144 = .ok (.ireturn, 1) := by decide +kernel
theorem dX11_give_0 : decode cX11_give 0 = .ok (.aload_n 0, 1) := by decide +kernel
theorem dX11_give_1 : decode cX11_give 1 = .ok (.iload_n 1, 1) := by decide +kernel
theorem dX11_give_2 : decode cX11_give 2 = .ok (.invokevirtual 191, 3) := by decide +kernel
theorem dX11_give_5 : decode cX11_give 5 = .ok (.ifCond .eq 13, 3) := by decide +kernel
theorem dX11_give_8 : decode cX11_give 8 = .ok (.aload_n 0, 1) := by decide +kernel
theorem dX11_give_9 : decode cX11_give 9 = .ok (.iload_n 2, 1) := by decide +kernel
theorem dX11_give_10 : decode cX11_give 10 = .ok (.iload_n 3, 1) := by decide +kernel
theorem dX11_give_11 : decode cX11_give 11 = .ok (.invokevirtual 194, 3) := by decide +kernel
theorem dX11_give_14 : decode cX11_give 14 = .ok (.iconst (-1), 1) := by decide +kernel
theorem dX11_give_15 : decode cX11_give 15 = .ok (.if_icmp .ne 5, 3) := by decide +kernel
theorem dX11_give_18 : decode cX11_give 18 = .ok (.iconst (-1), 1) := by decide +kernel
theorem dX11_give_19 : decode cX11_give 19 = .ok (.ireturn, 1) := by decide +kernel
theorem dX11_give_20 : decode cX11_give 20 = .ok (.aload_n 0, 1) := by decide +kernel
theorem dX11_give_21 : decode cX11_give 21 = .ok (.iload_n 1, 1) := by decide +kernel
theorem dX11_give_22 : decode cX11_give 22 = .ok (.bipush 6, 2) := by decide +kernel
theorem dX11_give_24 : decode cX11_give 24 = .ok (.invokevirtual 179, 3) := by decide +kernel
theorem dX11_give_27 : decode cX11_give 27 = .ok (.iconst 1, 1) := by decide +kernel
theorem dX11_give_28 : decode cX11_give 28 = .ok (.if_icmp .ne 6, 3) := by decide +kernel
theorem dX11_give_31 : decode cX11_give 31 = .ok (.bipush (-4), 2) := by decide +kernel
theorem dX11_give_33 : decode cX11_give 33 = .ok (.ireturn, 1) := by decide +kernel
theorem dX11_give_34 : decode cX11_give 34 = .ok (.aload_n 0, 1) := by decide +kernel
theorem dX11_give_35 : decode cX11_give 35 = .ok (.iload_n 1, 1) := by decide +kernel
theorem dX11_give_36 : decode cX11_give 36 = .ok (.iconst 4, 1) := by decide +kernel
theorem dX11_give_37 : decode cX11_give 37 = .ok (.invokevirtual 179, 3) := by decide +kernel
theorem dX11_give_40 : decode cX11_give 40 = .ok (.istore 4, 2) := by decide +kernel
theorem dX11_give_42 : decode cX11_give 42 = .ok (.iload 4, 2) := by decide +kernel
theorem dX11_give_44 : decode cX11_give 44 = .ok (.iconst 4, 1) := by decide +kernel
theorem dX11_give_45 : decode cX11_give 45 = .ok (.if_icmp .ne 6, 3) := by decide +kernel
theorem dX11_give_48 : decode cX11_give 48 = .ok (.bipush (-3), 2) := by decide +kernel
theorem dX11_give_50 : decode cX11_give 50 = .ok (.ireturn, 1) := by decide +kernel
theorem dX11_give_51 : decode cX11_give 51 = .ok (.aload_n 0, 1) := by decide +kernel
theorem dX11_give_52 : decode cX11_give 52 = .ok (.iload_n 2, 1) := by decide +kernel
theorem dX11_give_53 : decode cX11_give 53 = .ok (.iload_n 3, 1) := by decide +kernel
theorem dX11_give_54 : decode cX11_give 54 = .ok (.invokevirtual 194, 3) := by decide +kernel
theorem dX11_give_57 : decode cX11_give 57 = .ok (.istore 5, 2) := by decide +kernel
theorem dX11_give_59 : decode cX11_give 59 = .ok (.aload_n 0, 1) := by decide +kernel
theorem dX11_give_60 : decode cX11_give 60 = .ok (.iload_n 1, 1) := by decide +kernel
theorem dX11_give_61 : decode cX11_give 61 = .ok (.bipush 8, 2) := by decide +kernel
theorem dX11_give_63 : decode cX11_give 63 = .ok (.iload 4, 2) := by decide +kernel
theorem dX11_give_65 : decode cX11_give 65 = .ok (.iadd, 1) := by decide +kernel
theorem dX11_give_66 : decode cX11_give 66 = .ok (.iload 5, 2) := by decide +kernel
theorem dX11_give_68 : decode cX11_give 68 = .ok (.invokevirtual 188, 3) := by decide +kernel
theorem dX11_give_71 : decode cX11_give 71 = .ok (.aload_n 0, 1) := by decide +kernel
theorem dX11_give_72 : decode cX11_give 72 = .ok (.iload_n 1, 1) := by decide +kernel
theorem dX11_give_73 : decode cX11_give 73 = .ok (.iconst 4, 1) := by decide +kernel
theorem dX11_give_74 : decode cX11_give 74 = .ok (.iload 4, 2) := by decide +kernel
theorem dX11_give_76 : decode cX11_give 76 = .ok (.iconst 1, 1) := by decide +kernel
theorem dX11_give_77 : decode cX11_give 77 = .ok (.iadd, 1) := by decide +kernel
theorem dX11_give_78 : decode cX11_give 78 = .ok (.invokevirtual 188, 3) := by decide +kernel
theorem dX11_give_81 : decode cX11_give 81 = .ok (.aload_n 0, 1) := by decide +kernel
theorem dX11_give_82 : decode cX11_give 82 = .ok (.getfield 7, 3) := by decide +kernel
theorem dX11_give_85 : decode cX11_give 85 = .ok (.bipush 102, 2) := by decide +kernel
theorem dX11_give_87 : decode cX11_give 87 = .ok (.iconst 3, 1) := by decide +kernel
theorem dX11_give_88 : decode cX11_give 88 = .ok (.iload 5, 2) := by decide +kernel
theorem dX11_give_90 : decode cX11_give 90 = .ok (.imul, 1) := by decide +kernel
theorem dX11_give_91 : decode cX11_give 91 = .ok (.iadd, 1) := by decide +kernel
theorem dX11_give_92 : decode cX11_give 92 = .ok (.iconst 2, 1) := by decide +kernel
theorem dX11_give_93 : decode cX11_give 93 = .ok (.iadd, 1) := by decide +kernel
theorem dX11_give_94 : decode cX11_give 94 = .ok (.dup2, 1) := by decide +kernel
theorem dX11_give_95 : decode cX11_give 95 = .ok (.iaload, 1) := by decide +kernel
theorem dX11_give_96 : decode cX11_give 96 = .ok (.iconst 1, 1) := by decide +kernel
theorem dX11_give_97 : decode cX11_give 97 = .ok (.iadd, 1) := by decide +kernel
theorem dX11_give_98 : decode cX11_give 98 = .ok (.iastore, 1) := by decide +kernel
theorem dX11_give_99 : decode cX11_give 99 = .ok (.iload 4, 2) := by decide +kernel
theorem dX11_give_101 : decode cX11_give 101 = .ok (.iconst 1, 1) := by decide +kernel
theorem dX11_give_102 : decode cX11_give 102 = .ok (.iadd, 1) := by decide +kernel
theorem dX11_give_103 : decode cX11_give 103 = .ok (.ireturn, 1) := by decide +kernel
theorem dX11_base_0 : decode cX11_base 0 = .ok (.aload_n 0, 1) := by decide +kernel
theorem dX11_base_1 : decode cX11_base 1 = .ok (.iload_n 1, 1) := by decide +kernel
theorem dX11_base_2 : decode cX11_base 2 = .ok (.iconst 1, 1) := by decide +kernel
theorem dX11_base_3 : decode cX11_base 3 = .ok (.invokevirtual 179, 3) := by decide +kernel
theorem dX11_base_6 : decode cX11_base 6 = .ok (.istore_n 3, 1) := by decide +kernel
theorem dX11_base_7 : decode cX11_base 7 = .ok (.iconst 0, 1) := by decide +kernel
theorem dX11_base_8 : decode cX11_base 8 = .ok (.istore 4, 2) := by decide +kernel
theorem dX11_base_10 : decode cX11_base 10 = .ok (.iload 4, 2) := by decide +kernel
theorem dX11_base_12 : decode cX11_base 12 = .ok (.aload_n 0, 1) := by decide +kernel
theorem dX11_base_13 : decode cX11_base 13 = .ok (.iload_n 1, 1) := by decide +kernel
theorem dX11_base_14 : decode cX11_base 14 = .ok (.iconst 4, 1) := by decide +kernel
theorem dX11_base_15 : decode cX11_base 15 = .ok (.invokevirtual 179, 3) := by decide +kernel
theorem dX11_base_18 : decode cX11_base 18 = .ok (.if_icmp .ge 47, 3) := by decide +kernel
theorem dX11_base_21 : decode cX11_base 21 = .ok (.iload_n 3, 1) := by decide +kernel
theorem dX11_base_22 : decode cX11_base 22 = .ok (.aload_n 0, 1) := by decide +kernel
theorem dX11_base_23 : decode cX11_base 23 = .ok (.aload_n 0, 1) := by decide +kernel
theorem dX11_base_24 : decode cX11_base 24 = .ok (.iload_n 1, 1) := by decide +kernel
theorem dX11_base_25 : decode cX11_base 25 = .ok (.bipush 8, 2) := by decide +kernel
theorem dX11_base_27 : decode cX11_base 27 = .ok (.iload 4, 2) := by decide +kernel
theorem dX11_base_29 : decode cX11_base 29 = .ok (.iadd, 1) := by decide +kernel
theorem dX11_base_30 : decode cX11_base 30 = .ok (.invokevirtual 179, 3) := by decide +kernel
theorem dX11_base_33 : decode cX11_base 33 = .ok (.invokevirtual 160, 3) := by decide +kernel
theorem dX11_base_36 : decode cX11_base 36 = .ok (.ifCond .ne 20, 3) := by decide +kernel
theorem dX11_base_39 : decode cX11_base 39 = .ok (.aload_n 0, 1) := by decide +kernel
theorem dX11_base_40 : decode cX11_base 40 = .ok (.aload_n 0, 1) := by decide +kernel
theorem dX11_base_41 : decode cX11_base 41 = .ok (.iload_n 1, 1) := by decide +kernel
theorem dX11_base_42 : decode cX11_base 42 = .ok (.bipush 8, 2) := by decide +kernel
theorem dX11_base_44 : decode cX11_base 44 = .ok (.iload 4, 2) := by decide +kernel
theorem dX11_base_46 : decode cX11_base 46 = .ok (.iadd, 1) := by decide +kernel
theorem dX11_base_47 : decode cX11_base 47 = .ok (.invokevirtual 179, 3) := by decide +kernel
theorem dX11_base_50 : decode cX11_base 50 = .ok (.invokevirtual 197, 3) := by decide +kernel
theorem dX11_base_53 : decode cX11_base 53 = .ok (.goto 4, 3) := by decide +kernel
theorem dX11_base_56 : decode cX11_base 56 = .ok (.iconst 0, 1) := by decide +kernel
theorem dX11_base_57 : decode cX11_base 57 = .ok (.iadd, 1) := by decide +kernel
theorem dX11_base_58 : decode cX11_base 58 = .ok (.istore_n 3, 1) := by decide +kernel
theorem dX11_base_59 : decode cX11_base 59 = .ok (.iinc 4 1, 3) := by decide +kernel
theorem dX11_base_62 : decode cX11_base 62 = .ok (.goto (-52), 3) := by decide +kernel
theorem dX11_base_65 : decode cX11_base 65 = .ok (.iload_n 3, 1) := by decide +kernel
theorem dX11_base_66 : decode cX11_base 66 = .ok (.iload_n 2, 1) := by decide +kernel
theorem dX11_base_67 : decode cX11_base 67 = .ok (.if_icmp .ge 18, 3) := by decide +kernel
theorem dX11_base_70 : decode cX11_base 70 = .ok (.aload_n 0, 1) := by decide +kernel
theorem dX11_base_71 : decode cX11_base 71 = .ok (.aload_n 0, 1) := by decide +kernel
theorem dX11_base_72 : decode cX11_base 72 = .ok (.iload_n 1, 1) := by decide +kernel
theorem dX11_base_73 : decode cX11_base 73 = .ok (.iconst 0, 1) := by decide +kernel
theorem dX11_base_74 : decode cX11_base 74 = .ok (.invokevirtual 179, 3) := by decide +kernel
theorem dX11_base_77 : decode cX11_base 77 = .ok (.iload_n 3, 1) := by decide +kernel
theorem dX11_base_78 : decode cX11_base 78 = .ok (.iload_n 2, 1) := by decide +kernel
theorem dX11_base_79 : decode cX11_base 79 = .ok (.invokevirtual 94, 3) := by decide +kernel
theorem dX11_base_82 : decode cX11_base 82 = .ok (.goto 4, 3) := by decide +kernel
theorem dX11_base_85 : decode cX11_base 85 = .ok (.iconst 0, 1) := by decide +kernel
theorem dX11_base_86 : decode cX11_base 86 = .ok (.ireturn, 1) := by decide +kernel
theorem dX11_lowered_0 : decode cX11_lowered 0 = .ok (.iload_n 1, 1) := by decide +kernel
theorem dX11_lowered_1 : decode cX11_lowered 1 = .ok (.tableswitch 60 1 3 #[27, 36, 49], 27) := by decide +kernel
theorem dX11_lowered_28 : decode cX11_lowered 28 = .ok (.iload_n 0, 1) := by decide +kernel
theorem dX11_lowered_29 : decode cX11_lowered 29 = .ok (.iload_n 0, 1) := by decide +kernel
theorem dX11_lowered_30 : decode cX11_lowered 30 = .ok (.iload_n 2, 1) := by decide +kernel
theorem dX11_lowered_31 : decode cX11_lowered 31 = .ok (.imul, 1) := by decide +kernel
theorem dX11_lowered_32 : decode cX11_lowered 32 = .ok (.bipush 100, 2) := by decide +kernel
theorem dX11_lowered_34 : decode cX11_lowered 34 = .ok (.idiv, 1) := by decide +kernel
theorem dX11_lowered_35 : decode cX11_lowered 35 = .ok (.isub, 1) := by decide +kernel
theorem dX11_lowered_36 : decode cX11_lowered 36 = .ok (.ireturn, 1) := by decide +kernel
theorem dX11_lowered_37 : decode cX11_lowered 37 = .ok (.iload_n 0, 1) := by decide +kernel
theorem dX11_lowered_38 : decode cX11_lowered 38 = .ok (.iload_n 2, 1) := by decide +kernel
theorem dX11_lowered_39 : decode cX11_lowered 39 = .ok (.if_icmp .le 9, 3) := by decide +kernel
theorem dX11_lowered_42 : decode cX11_lowered 42 = .ok (.iload_n 0, 1) := by decide +kernel
theorem dX11_lowered_43 : decode cX11_lowered 43 = .ok (.iload_n 2, 1) := by decide +kernel
theorem dX11_lowered_44 : decode cX11_lowered 44 = .ok (.isub, 1) := by decide +kernel
theorem dX11_lowered_45 : decode cX11_lowered 45 = .ok (.goto 4, 3) := by decide +kernel
theorem dX11_lowered_48 : decode cX11_lowered 48 = .ok (.iconst 0, 1) := by decide +kernel
theorem dX11_lowered_49 : decode cX11_lowered 49 = .ok (.ireturn, 1) := by decide +kernel
theorem dX11_lowered_50 : decode cX11_lowered 50 = .ok (.iload_n 0, 1) := by decide +kernel
theorem dX11_lowered_51 : decode cX11_lowered 51 = .ok (.iload_n 2, 1) := by decide +kernel
theorem dX11_lowered_52 : decode cX11_lowered 52 = .ok (.if_icmp .ge 7, 3) := by decide +kernel
theorem dX11_lowered_55 : decode cX11_lowered 55 = .ok (.iload_n 0, 1) := by decide +kernel
theorem dX11_lowered_56 : decode cX11_lowered 56 = .ok (.goto 4, 3) := by decide +kernel
theorem dX11_lowered_59 : decode cX11_lowered 59 = .ok (.iload_n 2, 1) := by decide +kernel
theorem dX11_lowered_60 : decode cX11_lowered 60 = .ok (.ireturn, 1) := by decide +kernel
theorem dX11_lowered_61 : decode cX11_lowered 61 = .ok (.iload_n 0, 1) := by decide +kernel
theorem dX11_lowered_62 : decode cX11_lowered 62 = .ok (.ireturn, 1) := by decide +kernel
theorem dX11_vouchered_0 : decode cX11_vouchered 0 = .ok (.aload_n 0, 1) := by decide +kernel
theorem dX11_vouchered_1 : decode cX11_vouchered 1 = .ok (.iload_n 1, 1) := by decide +kernel
theorem dX11_vouchered_2 : decode cX11_vouchered 2 = .ok (.iload_n 2, 1) := by decide +kernel
theorem dX11_vouchered_3 : decode cX11_vouchered 3 = .ok (.invokevirtual 200, 3) := by decide +kernel
theorem dX11_vouchered_6 : decode cX11_vouchered 6 = .ok (.istore 4, 2) := by decide +kernel
theorem dX11_vouchered_8 : decode cX11_vouchered 8 = .ok (.iload_n 3, 1) := by decide +kernel
theorem dX11_vouchered_9 : decode cX11_vouchered 9 = .ok (.istore 5, 2) := by decide +kernel
theorem dX11_vouchered_11 : decode cX11_vouchered 11 = .ok (.iconst 0, 1) := by decide +kernel
theorem dX11_vouchered_12 : decode cX11_vouchered 12 = .ok (.istore 6, 2) := by decide +kernel
theorem dX11_vouchered_14 : decode cX11_vouchered 14 = .ok (.iload 6, 2) := by decide +kernel
theorem dX11_vouchered_16 : decode cX11_vouchered 16 = .ok (.aload_n 0, 1) := by decide +kernel
theorem dX11_vouchered_17 : decode cX11_vouchered 17 = .ok (.iload_n 1, 1) := by decide +kernel
theorem dX11_vouchered_18 : decode cX11_vouchered 18 = .ok (.iconst 4, 1) := by decide +kernel
theorem dX11_vouchered_19 : decode cX11_vouchered 19 = .ok (.invokevirtual 179, 3) := by decide +kernel
theorem dX11_vouchered_22 : decode cX11_vouchered 22 = .ok (.if_icmp .ge 64, 3) := by decide +kernel
theorem dX11_vouchered_25 : decode cX11_vouchered 25 = .ok (.iload 5, 2) := by decide +kernel
theorem dX11_vouchered_27 : decode cX11_vouchered 27 = .ok (.ifCond .le 59, 3) := by decide +kernel
theorem dX11_vouchered_30 : decode cX11_vouchered 30 = .ok (.aload_n 0, 1) := by decide +kernel
theorem dX11_vouchered_31 : decode cX11_vouchered 31 = .ok (.iload_n 1, 1) := by decide +kernel
theorem dX11_vouchered_32 : decode cX11_vouchered 32 = .ok (.bipush 8, 2) := by decide +kernel
theorem dX11_vouchered_34 : decode cX11_vouchered 34 = .ok (.iload 6, 2) := by decide +kernel
theorem dX11_vouchered_36 : decode cX11_vouchered 36 = .ok (.iadd, 1) := by decide +kernel
theorem dX11_vouchered_37 : decode cX11_vouchered 37 = .ok (.invokevirtual 179, 3) := by decide +kernel
theorem dX11_vouchered_40 : decode cX11_vouchered 40 = .ok (.istore 7, 2) := by decide +kernel
theorem dX11_vouchered_42 : decode cX11_vouchered 42 = .ok (.iload 4, 2) := by decide +kernel
theorem dX11_vouchered_44 : decode cX11_vouchered 44 = .ok (.aload_n 0, 1) := by decide +kernel
theorem dX11_vouchered_45 : decode cX11_vouchered 45 = .ok (.iload 7, 2) := by decide +kernel
theorem dX11_vouchered_47 : decode cX11_vouchered 47 = .ok (.invokevirtual 160, 3) := by decide +kernel
theorem dX11_vouchered_50 : decode cX11_vouchered 50 = .ok (.aload_n 0, 1) := by decide +kernel
theorem dX11_vouchered_51 : decode cX11_vouchered 51 = .ok (.iload 7, 2) := by decide +kernel
theorem dX11_vouchered_53 : decode cX11_vouchered 53 = .ok (.invokevirtual 197, 3) := by decide +kernel
theorem dX11_vouchered_56 : decode cX11_vouchered 56 = .ok (.invokestatic 203, 3) := by decide +kernel
theorem dX11_vouchered_59 : decode cX11_vouchered 59 = .ok (.istore 4, 2) := by decide +kernel
theorem dX11_vouchered_61 : decode cX11_vouchered 61 = .ok (.iload 5, 2) := by decide +kernel
theorem dX11_vouchered_63 : decode cX11_vouchered 63 = .ok (.aload_n 0, 1) := by decide +kernel
theorem dX11_vouchered_64 : decode cX11_vouchered 64 = .ok (.iload 7, 2) := by decide +kernel
theorem dX11_vouchered_66 : decode cX11_vouchered 66 = .ok (.invokevirtual 160, 3) := by decide +kernel
theorem dX11_vouchered_69 : decode cX11_vouchered 69 = .ok (.ifCond .le 7, 3) := by decide +kernel
theorem dX11_vouchered_72 : decode cX11_vouchered 72 = .ok (.iconst 1, 1) := by decide +kernel
theorem dX11_vouchered_73 : decode cX11_vouchered 73 = .ok (.goto 4, 3) := by decide +kernel
theorem dX11_vouchered_76 : decode cX11_vouchered 76 = .ok (.iconst 0, 1) := by decide +kernel
theorem dX11_vouchered_77 : decode cX11_vouchered 77 = .ok (.isub, 1) := by decide +kernel
theorem dX11_vouchered_78 : decode cX11_vouchered 78 = .ok (.istore 5, 2) := by decide +kernel
theorem dX11_vouchered_80 : decode cX11_vouchered 80 = .ok (.iinc 6 1, 3) := by decide +kernel
theorem dX11_vouchered_83 : decode cX11_vouchered 83 = .ok (.goto (-69), 3) := by decide +kernel
theorem dX11_vouchered_86 : decode cX11_vouchered 86 = .ok (.iload 4, 2) := by decide +kernel
theorem dX11_vouchered_88 : decode cX11_vouchered 88 = .ok (.ireturn, 1) := by decide +kernel
theorem dX11_lostFee_0 : decode cX11_lostFee 0 = .ok (.aload_n 0, 1) := by decide +kernel
theorem dX11_lostFee_1 : decode cX11_lostFee 1 = .ok (.aload_n 0, 1) := by decide +kernel
theorem dX11_lostFee_2 : decode cX11_lostFee 2 = .ok (.iload_n 1, 1) := by decide +kernel
theorem dX11_lostFee_3 : decode cX11_lostFee 3 = .ok (.iconst 0, 1) := by decide +kernel
theorem dX11_lostFee_4 : decode cX11_lostFee 4 = .ok (.invokevirtual 179, 3) := by decide +kernel
theorem dX11_lostFee_7 : decode cX11_lostFee 7 = .ok (.aload_n 0, 1) := by decide +kernel
theorem dX11_lostFee_8 : decode cX11_lostFee 8 = .ok (.iload_n 1, 1) := by decide +kernel
theorem dX11_lostFee_9 : decode cX11_lostFee 9 = .ok (.iconst 1, 1) := by decide +kernel
theorem dX11_lostFee_10 : decode cX11_lostFee 10 = .ok (.invokevirtual 179, 3) := by decide +kernel
theorem dX11_lostFee_13 : decode cX11_lostFee 13 = .ok (.iload_n 2, 1) := by decide +kernel
theorem dX11_lostFee_14 : decode cX11_lostFee 14 = .ok (.invokevirtual 94, 3) := by decide +kernel
theorem dX11_lostFee_17 : decode cX11_lostFee 17 = .ok (.istore_n 3, 1) := by decide +kernel
theorem dX11_lostFee_18 : decode cX11_lostFee 18 = .ok (.iload_n 3, 1) := by decide +kernel
theorem dX11_lostFee_19 : decode cX11_lostFee 19 = .ok (.aload_n 0, 1) := by decide +kernel
theorem dX11_lostFee_20 : decode cX11_lostFee 20 = .ok (.aload_n 0, 1) := by decide +kernel
theorem dX11_lostFee_21 : decode cX11_lostFee 21 = .ok (.iload_n 1, 1) := by decide +kernel
theorem dX11_lostFee_22 : decode cX11_lostFee 22 = .ok (.iconst 0, 1) := by decide +kernel
theorem dX11_lostFee_23 : decode cX11_lostFee 23 = .ok (.invokevirtual 179, 3) := by decide +kernel
theorem dX11_lostFee_26 : decode cX11_lostFee 26 = .ok (.iconst 3, 1) := by decide +kernel
theorem dX11_lostFee_27 : decode cX11_lostFee 27 = .ok (.invokevirtual 44, 3) := by decide +kernel
theorem dX11_lostFee_30 : decode cX11_lostFee 30 = .ok (.if_icmp .le 7, 3) := by decide +kernel
theorem dX11_lostFee_33 : decode cX11_lostFee 33 = .ok (.iload_n 3, 1) := by decide +kernel
theorem dX11_lostFee_34 : decode cX11_lostFee 34 = .ok (.goto 14, 3) := by decide +kernel
theorem dX11_lostFee_37 : decode cX11_lostFee 37 = .ok (.aload_n 0, 1) := by decide +kernel
theorem dX11_lostFee_38 : decode cX11_lostFee 38 = .ok (.aload_n 0, 1) := by decide +kernel
theorem dX11_lostFee_39 : decode cX11_lostFee 39 = .ok (.iload_n 1, 1) := by decide +kernel
theorem dX11_lostFee_40 : decode cX11_lostFee 40 = .ok (.iconst 0, 1) := by decide +kernel
theorem dX11_lostFee_41 : decode cX11_lostFee 41 = .ok (.invokevirtual 179, 3) := by decide +kernel
theorem dX11_lostFee_44 : decode cX11_lostFee 44 = .ok (.iconst 3, 1) := by decide +kernel
theorem dX11_lostFee_45 : decode cX11_lostFee 45 = .ok (.invokevirtual 44, 3) := by decide +kernel
theorem dX11_lostFee_48 : decode cX11_lostFee 48 = .ok (.ireturn, 1) := by decide +kernel
theorem dX11_dueAt_0 : decode cX11_dueAt 0 = .ok (.aload_n 0, 1) := by decide +kernel
theorem dX11_dueAt_1 : decode cX11_dueAt 1 = .ok (.iload_n 1, 1) := by decide +kernel
theorem dX11_dueAt_2 : decode cX11_dueAt 2 = .ok (.bipush 6, 2) := by decide +kernel
theorem dX11_dueAt_4 : decode cX11_dueAt 4 = .ok (.invokevirtual 179, 3) := by decide +kernel
theorem dX11_dueAt_7 : decode cX11_dueAt 7 = .ok (.iconst 1, 1) := by decide +kernel
theorem dX11_dueAt_8 : decode cX11_dueAt 8 = .ok (.if_icmp .ne 12, 3) := by decide +kernel
theorem dX11_dueAt_11 : decode cX11_dueAt 11 = .ok (.aload_n 0, 1) := by decide +kernel
theorem dX11_dueAt_12 : decode cX11_dueAt 12 = .ok (.iload_n 1, 1) := by decide +kernel
theorem dX11_dueAt_13 : decode cX11_dueAt 13 = .ok (.iload_n 2, 1) := by decide +kernel
theorem dX11_dueAt_14 : decode cX11_dueAt 14 = .ok (.invokevirtual 206, 3) := by decide +kernel
theorem dX11_dueAt_17 : decode cX11_dueAt 17 = .ok (.goto 10, 3) := by decide +kernel
theorem dX11_dueAt_20 : decode cX11_dueAt 20 = .ok (.aload_n 0, 1) := by decide +kernel
theorem dX11_dueAt_21 : decode cX11_dueAt 21 = .ok (.iload_n 1, 1) := by decide +kernel
theorem dX11_dueAt_22 : decode cX11_dueAt 22 = .ok (.iload_n 2, 1) := by decide +kernel
theorem dX11_dueAt_23 : decode cX11_dueAt 23 = .ok (.iconst 5, 1) := by decide +kernel
theorem dX11_dueAt_24 : decode cX11_dueAt 24 = .ok (.invokevirtual 209, 3) := by decide +kernel
theorem dX11_dueAt_27 : decode cX11_dueAt 27 = .ok (.istore_n 3, 1) := by decide +kernel
theorem dX11_dueAt_28 : decode cX11_dueAt 28 = .ok (.iload_n 3, 1) := by decide +kernel
theorem dX11_dueAt_29 : decode cX11_dueAt 29 = .ok (.aload_n 0, 1) := by decide +kernel
theorem dX11_dueAt_30 : decode cX11_dueAt 30 = .ok (.iload_n 1, 1) := by decide +kernel
theorem dX11_dueAt_31 : decode cX11_dueAt 31 = .ok (.iconst 3, 1) := by decide +kernel
theorem dX11_dueAt_32 : decode cX11_dueAt 32 = .ok (.invokevirtual 179, 3) := by decide +kernel
theorem dX11_dueAt_35 : decode cX11_dueAt 35 = .ok (.if_icmp .le 14, 3) := by decide +kernel
theorem dX11_dueAt_38 : decode cX11_dueAt 38 = .ok (.iload_n 3, 1) := by decide +kernel
theorem dX11_dueAt_39 : decode cX11_dueAt 39 = .ok (.aload_n 0, 1) := by decide +kernel
theorem dX11_dueAt_40 : decode cX11_dueAt 40 = .ok (.iload_n 1, 1) := by decide +kernel
theorem dX11_dueAt_41 : decode cX11_dueAt 41 = .ok (.iconst 3, 1) := by decide +kernel
theorem dX11_dueAt_42 : decode cX11_dueAt 42 = .ok (.invokevirtual 179, 3) := by decide +kernel
theorem dX11_dueAt_45 : decode cX11_dueAt 45 = .ok (.isub, 1) := by decide +kernel
theorem dX11_dueAt_46 : decode cX11_dueAt 46 = .ok (.goto 4, 3) := by decide +kernel
theorem dX11_dueAt_49 : decode cX11_dueAt 49 = .ok (.iconst 0, 1) := by decide +kernel
theorem dX11_dueAt_50 : decode cX11_dueAt 50 = .ok (.ireturn, 1) := by decide +kernel
theorem dX11_lose_0 : decode cX11_lose 0 = .ok (.aload_n 0, 1) := by decide +kernel
theorem dX11_lose_1 : decode cX11_lose 1 = .ok (.iload_n 1, 1) := by decide +kernel
theorem dX11_lose_2 : decode cX11_lose 2 = .ok (.invokevirtual 191, 3) := by decide +kernel
theorem dX11_lose_5 : decode cX11_lose 5 = .ok (.ifCond .ne 5, 3) := by decide +kernel
theorem dX11_lose_8 : decode cX11_lose 8 = .ok (.iconst (-1), 1) := by decide +kernel
theorem dX11_lose_9 : decode cX11_lose 9 = .ok (.ireturn, 1) := by decide +kernel
theorem dX11_lose_10 : decode cX11_lose 10 = .ok (.aload_n 0, 1) := by decide +kernel
theorem dX11_lose_11 : decode cX11_lose 11 = .ok (.iload_n 1, 1) := by decide +kernel
theorem dX11_lose_12 : decode cX11_lose 12 = .ok (.bipush 6, 2) := by decide +kernel
theorem dX11_lose_14 : decode cX11_lose 14 = .ok (.invokevirtual 179, 3) := by decide +kernel
theorem dX11_lose_17 : decode cX11_lose 17 = .ok (.iconst 1, 1) := by decide +kernel
theorem dX11_lose_18 : decode cX11_lose 18 = .ok (.if_icmp .ne 6, 3) := by decide +kernel
theorem dX11_lose_21 : decode cX11_lose 21 = .ok (.bipush (-4), 2) := by decide +kernel
theorem dX11_lose_23 : decode cX11_lose 23 = .ok (.ireturn, 1) := by decide +kernel
theorem dX11_lose_24 : decode cX11_lose 24 = .ok (.aload_n 0, 1) := by decide +kernel
theorem dX11_lose_25 : decode cX11_lose 25 = .ok (.iload_n 1, 1) := by decide +kernel
theorem dX11_lose_26 : decode cX11_lose 26 = .ok (.bipush 6, 2) := by decide +kernel
theorem dX11_lose_28 : decode cX11_lose 28 = .ok (.iconst 1, 1) := by decide +kernel
theorem dX11_lose_29 : decode cX11_lose 29 = .ok (.invokevirtual 188, 3) := by decide +kernel
theorem dX11_lose_32 : decode cX11_lose 32 = .ok (.aload_n 0, 1) := by decide +kernel
theorem dX11_lose_33 : decode cX11_lose 33 = .ok (.getfield 7, 3) := by decide +kernel
theorem dX11_lose_36 : decode cX11_lose 36 = .ok (.bipush 8, 2) := by decide +kernel
theorem dX11_lose_38 : decode cX11_lose 38 = .ok (.dup2, 1) := by decide +kernel
theorem dX11_lose_39 : decode cX11_lose 39 = .ok (.iaload, 1) := by decide +kernel
theorem dX11_lose_40 : decode cX11_lose 40 = .ok (.iconst 1, 1) := by decide +kernel
theorem dX11_lose_41 : decode cX11_lose 41 = .ok (.iadd, 1) := by decide +kernel
theorem dX11_lose_42 : decode cX11_lose 42 = .ok (.iastore, 1) := by decide +kernel
theorem dX11_lose_43 : decode cX11_lose 43 = .ok (.aload_n 0, 1) := by decide +kernel
theorem dX11_lose_44 : decode cX11_lose 44 = .ok (.iload_n 1, 1) := by decide +kernel
theorem dX11_lose_45 : decode cX11_lose 45 = .ok (.aload_n 0, 1) := by decide +kernel
theorem dX11_lose_46 : decode cX11_lose 46 = .ok (.getfield 7, 3) := by decide +kernel
theorem dX11_lose_49 : decode cX11_lose 49 = .ok (.iconst 0, 1) := by decide +kernel
theorem dX11_lose_50 : decode cX11_lose 50 = .ok (.iaload, 1) := by decide +kernel
theorem dX11_lose_51 : decode cX11_lose 51 = .ok (.invokevirtual 212, 3) := by decide +kernel
theorem dX11_lose_54 : decode cX11_lose 54 = .ok (.ireturn, 1) := by decide +kernel
theorem dX11_due_0 : decode cX11_due 0 = .ok (.aload_n 0, 1) := by decide +kernel
theorem dX11_due_1 : decode cX11_due 1 = .ok (.iload_n 1, 1) := by decide +kernel
theorem dX11_due_2 : decode cX11_due 2 = .ok (.invokevirtual 191, 3) := by decide +kernel
theorem dX11_due_5 : decode cX11_due 5 = .ok (.ifCond .ne 5, 3) := by decide +kernel
theorem dX11_due_8 : decode cX11_due 8 = .ok (.iconst (-1), 1) := by decide +kernel
theorem dX11_due_9 : decode cX11_due 9 = .ok (.ireturn, 1) := by decide +kernel
theorem dX11_due_10 : decode cX11_due 10 = .ok (.iload_n 2, 1) := by decide +kernel
theorem dX11_due_11 : decode cX11_due 11 = .ok (.aload_n 0, 1) := by decide +kernel
theorem dX11_due_12 : decode cX11_due 12 = .ok (.getfield 7, 3) := by decide +kernel
theorem dX11_due_15 : decode cX11_due 15 = .ok (.iconst 0, 1) := by decide +kernel
theorem dX11_due_16 : decode cX11_due 16 = .ok (.iaload, 1) := by decide +kernel
theorem dX11_due_17 : decode cX11_due 17 = .ok (.ldc 43, 2) := by decide +kernel
theorem dX11_due_19 : decode cX11_due 19 = .ok (.invokestatic 39, 3) := by decide +kernel
theorem dX11_due_22 : decode cX11_due 22 = .ok (.ifCond .eq 12, 3) := by decide +kernel
theorem dX11_due_25 : decode cX11_due 25 = .ok (.aload_n 0, 1) := by decide +kernel
theorem dX11_due_26 : decode cX11_due 26 = .ok (.iload_n 1, 1) := by decide +kernel
theorem dX11_due_27 : decode cX11_due 27 = .ok (.iload_n 2, 1) := by decide +kernel
theorem dX11_due_28 : decode cX11_due 28 = .ok (.invokevirtual 212, 3) := by decide +kernel
theorem dX11_due_31 : decode cX11_due 31 = .ok (.goto 5, 3) := by decide +kernel
theorem dX11_due_34 : decode cX11_due 34 = .ok (.bipush (-2), 2) := by decide +kernel
theorem dX11_due_36 : decode cX11_due 36 = .ok (.ireturn, 1) := by decide +kernel
theorem dX11_pay_0 : decode cX11_pay 0 = .ok (.aload_n 0, 1) := by decide +kernel
theorem dX11_pay_1 : decode cX11_pay 1 = .ok (.iload_n 1, 1) := by decide +kernel
theorem dX11_pay_2 : decode cX11_pay 2 = .ok (.invokevirtual 191, 3) := by decide +kernel
theorem dX11_pay_5 : decode cX11_pay 5 = .ok (.ifCond .ne 5, 3) := by decide +kernel
theorem dX11_pay_8 : decode cX11_pay 8 = .ok (.iconst (-1), 1) := by decide +kernel
theorem dX11_pay_9 : decode cX11_pay 9 = .ok (.ireturn, 1) := by decide +kernel
theorem dX11_pay_10 : decode cX11_pay 10 = .ok (.aload_n 0, 1) := by decide +kernel
theorem dX11_pay_11 : decode cX11_pay 11 = .ok (.iload_n 1, 1) := by decide +kernel
theorem dX11_pay_12 : decode cX11_pay 12 = .ok (.aload_n 0, 1) := by decide +kernel
theorem dX11_pay_13 : decode cX11_pay 13 = .ok (.getfield 7, 3) := by decide +kernel
theorem dX11_pay_16 : decode cX11_pay 16 = .ok (.iconst 0, 1) := by decide +kernel
theorem dX11_pay_17 : decode cX11_pay 17 = .ok (.iaload, 1) := by decide +kernel
theorem dX11_pay_18 : decode cX11_pay 18 = .ok (.invokevirtual 212, 3) := by decide +kernel
theorem dX11_pay_21 : decode cX11_pay 21 = .ok (.istore_n 2, 1) := by decide +kernel
theorem dX11_pay_22 : decode cX11_pay 22 = .ok (.aload_n 0, 1) := by decide +kernel
theorem dX11_pay_23 : decode cX11_pay 23 = .ok (.iload_n 1, 1) := by decide +kernel
theorem dX11_pay_24 : decode cX11_pay 24 = .ok (.iconst 3, 1) := by decide +kernel
theorem dX11_pay_25 : decode cX11_pay 25 = .ok (.aload_n 0, 1) := by decide +kernel
theorem dX11_pay_26 : decode cX11_pay 26 = .ok (.iload_n 1, 1) := by decide +kernel
theorem dX11_pay_27 : decode cX11_pay 27 = .ok (.iconst 3, 1) := by decide +kernel
theorem dX11_pay_28 : decode cX11_pay 28 = .ok (.invokevirtual 179, 3) := by decide +kernel
theorem dX11_pay_31 : decode cX11_pay 31 = .ok (.iload_n 2, 1) := by decide +kernel
theorem dX11_pay_32 : decode cX11_pay 32 = .ok (.iadd, 1) := by decide +kernel
theorem dX11_pay_33 : decode cX11_pay 33 = .ok (.invokevirtual 188, 3) := by decide +kernel
theorem dX11_pay_36 : decode cX11_pay 36 = .ok (.iload_n 2, 1) := by decide +kernel
theorem dX11_pay_37 : decode cX11_pay 37 = .ok (.ifCond .le 16, 3) := by decide +kernel
theorem dX11_pay_40 : decode cX11_pay 40 = .ok (.aload_n 0, 1) := by decide +kernel
theorem dX11_pay_41 : decode cX11_pay 41 = .ok (.iload_n 1, 1) := by decide +kernel
theorem dX11_pay_42 : decode cX11_pay 42 = .ok (.bipush 7, 2) := by decide +kernel
theorem dX11_pay_44 : decode cX11_pay 44 = .ok (.aload_n 0, 1) := by decide +kernel
theorem dX11_pay_45 : decode cX11_pay 45 = .ok (.getfield 7, 3) := by decide +kernel
theorem dX11_pay_48 : decode cX11_pay 48 = .ok (.iconst 0, 1) := by decide +kernel
theorem dX11_pay_49 : decode cX11_pay 49 = .ok (.iaload, 1) := by decide +kernel
theorem dX11_pay_50 : decode cX11_pay 50 = .ok (.invokevirtual 188, 3) := by decide +kernel
theorem dX11_pay_53 : decode cX11_pay 53 = .ok (.aload_n 0, 1) := by decide +kernel
theorem dX11_pay_54 : decode cX11_pay 54 = .ok (.getfield 7, 3) := by decide +kernel
theorem dX11_pay_57 : decode cX11_pay 57 = .ok (.iconst 3, 1) := by decide +kernel
theorem dX11_pay_58 : decode cX11_pay 58 = .ok (.dup2, 1) := by decide +kernel
theorem dX11_pay_59 : decode cX11_pay 59 = .ok (.iaload, 1) := by decide +kernel
theorem dX11_pay_60 : decode cX11_pay 60 = .ok (.iload_n 2, 1) := by decide +kernel
theorem dX11_pay_61 : decode cX11_pay 61 = .ok (.iadd, 1) := by decide +kernel
theorem dX11_pay_62 : decode cX11_pay 62 = .ok (.iastore, 1) := by decide +kernel
theorem dX11_pay_63 : decode cX11_pay 63 = .ok (.aload_n 0, 1) := by decide +kernel
theorem dX11_pay_64 : decode cX11_pay 64 = .ok (.getfield 7, 3) := by decide +kernel
theorem dX11_pay_67 : decode cX11_pay 67 = .ok (.iconst 4, 1) := by decide +kernel
theorem dX11_pay_68 : decode cX11_pay 68 = .ok (.aload_n 0, 1) := by decide +kernel
theorem dX11_pay_69 : decode cX11_pay 69 = .ok (.iload_n 1, 1) := by decide +kernel
theorem dX11_pay_70 : decode cX11_pay 70 = .ok (.iconst 0, 1) := by decide +kernel
theorem dX11_pay_71 : decode cX11_pay 71 = .ok (.invokevirtual 179, 3) := by decide +kernel
theorem dX11_pay_74 : decode cX11_pay 74 = .ok (.iadd, 1) := by decide +kernel
theorem dX11_pay_75 : decode cX11_pay 75 = .ok (.dup2, 1) := by decide +kernel
theorem dX11_pay_76 : decode cX11_pay 76 = .ok (.iaload, 1) := by decide +kernel
theorem dX11_pay_77 : decode cX11_pay 77 = .ok (.iload_n 2, 1) := by decide +kernel
theorem dX11_pay_78 : decode cX11_pay 78 = .ok (.iadd, 1) := by decide +kernel
theorem dX11_pay_79 : decode cX11_pay 79 = .ok (.iastore, 1) := by decide +kernel
theorem dX11_pay_80 : decode cX11_pay 80 = .ok (.iload_n 2, 1) := by decide +kernel
theorem dX11_pay_81 : decode cX11_pay 81 = .ok (.ireturn, 1) := by decide +kernel
theorem dX11_leave_0 : decode cX11_leave 0 = .ok (.aload_n 0, 1) := by decide +kernel
theorem dX11_leave_1 : decode cX11_leave 1 = .ok (.iload_n 1, 1) := by decide +kernel
theorem dX11_leave_2 : decode cX11_leave 2 = .ok (.invokevirtual 191, 3) := by decide +kernel
theorem dX11_leave_5 : decode cX11_leave 5 = .ok (.ifCond .ne 5, 3) := by decide +kernel
theorem dX11_leave_8 : decode cX11_leave 8 = .ok (.iconst (-1), 1) := by decide +kernel
theorem dX11_leave_9 : decode cX11_leave 9 = .ok (.ireturn, 1) := by decide +kernel
theorem dX11_leave_10 : decode cX11_leave 10 = .ok (.aload_n 0, 1) := by decide +kernel
theorem dX11_leave_11 : decode cX11_leave 11 = .ok (.iload_n 1, 1) := by decide +kernel
theorem dX11_leave_12 : decode cX11_leave 12 = .ok (.bipush 7, 2) := by decide +kernel
theorem dX11_leave_14 : decode cX11_leave 14 = .ok (.invokevirtual 179, 3) := by decide +kernel
theorem dX11_leave_17 : decode cX11_leave 17 = .ok (.ifCond .lt 26, 3) := by decide +kernel
theorem dX11_leave_20 : decode cX11_leave 20 = .ok (.aload_n 0, 1) := by decide +kernel
theorem dX11_leave_21 : decode cX11_leave 21 = .ok (.getfield 7, 3) := by decide +kernel
theorem dX11_leave_24 : decode cX11_leave 24 = .ok (.iconst 0, 1) := by decide +kernel
theorem dX11_leave_25 : decode cX11_leave 25 = .ok (.iaload, 1) := by decide +kernel
theorem dX11_leave_26 : decode cX11_leave 26 = .ok (.aload_n 0, 1) := by decide +kernel
theorem dX11_leave_27 : decode cX11_leave 27 = .ok (.iload_n 1, 1) := by decide +kernel
theorem dX11_leave_28 : decode cX11_leave 28 = .ok (.bipush 7, 2) := by decide +kernel
theorem dX11_leave_30 : decode cX11_leave 30 = .ok (.invokevirtual 179, 3) := by decide +kernel
theorem dX11_leave_33 : decode cX11_leave 33 = .ok (.isub, 1) := by decide +kernel
theorem dX11_leave_34 : decode cX11_leave 34 = .ok (.bipush 15, 2) := by decide +kernel
theorem dX11_leave_36 : decode cX11_leave 36 = .ok (.if_icmp .gt 7, 3) := by decide +kernel
theorem dX11_leave_39 : decode cX11_leave 39 = .ok (.iconst 1, 1) := by decide +kernel
theorem dX11_leave_40 : decode cX11_leave 40 = .ok (.goto 4, 3) := by decide +kernel
theorem dX11_leave_43 : decode cX11_leave 43 = .ok (.iconst 0, 1) := by decide +kernel
theorem dX11_leave_44 : decode cX11_leave 44 = .ok (.istore_n 2, 1) := by decide +kernel
theorem dX11_leave_45 : decode cX11_leave 45 = .ok (.iload_n 2, 1) := by decide +kernel
theorem dX11_leave_46 : decode cX11_leave 46 = .ok (.ifCond .ne 20, 3) := by decide +kernel
theorem dX11_leave_49 : decode cX11_leave 49 = .ok (.aload_n 0, 1) := by decide +kernel
theorem dX11_leave_50 : decode cX11_leave 50 = .ok (.iload_n 1, 1) := by decide +kernel
theorem dX11_leave_51 : decode cX11_leave 51 = .ok (.aload_n 0, 1) := by decide +kernel
theorem dX11_leave_52 : decode cX11_leave 52 = .ok (.getfield 7, 3) := by decide +kernel
theorem dX11_leave_55 : decode cX11_leave 55 = .ok (.iconst 0, 1) := by decide +kernel
theorem dX11_leave_56 : decode cX11_leave 56 = .ok (.iaload, 1) := by decide +kernel
theorem dX11_leave_57 : decode cX11_leave 57 = .ok (.invokevirtual 212, 3) := by decide +kernel
theorem dX11_leave_60 : decode cX11_leave 60 = .ok (.ifCond .le 6, 3) := by decide +kernel
theorem dX11_leave_63 : decode cX11_leave 63 = .ok (.bipush (-7), 2) := by decide +kernel
theorem dX11_leave_65 : decode cX11_leave 65 = .ok (.ireturn, 1) := by decide +kernel
theorem dX11_leave_66 : decode cX11_leave 66 = .ok (.aload_n 0, 1) := by decide +kernel
theorem dX11_leave_67 : decode cX11_leave 67 = .ok (.iload_n 1, 1) := by decide +kernel
theorem dX11_leave_68 : decode cX11_leave 68 = .ok (.iconst 5, 1) := by decide +kernel
theorem dX11_leave_69 : decode cX11_leave 69 = .ok (.iconst 1, 1) := by decide +kernel
theorem dX11_leave_70 : decode cX11_leave 70 = .ok (.invokevirtual 188, 3) := by decide +kernel
theorem dX11_leave_73 : decode cX11_leave 73 = .ok (.aload_n 0, 1) := by decide +kernel
theorem dX11_leave_74 : decode cX11_leave 74 = .ok (.getfield 7, 3) := by decide +kernel
theorem dX11_leave_77 : decode cX11_leave 77 = .ok (.iconst 2, 1) := by decide +kernel
theorem dX11_leave_78 : decode cX11_leave 78 = .ok (.dup2, 1) := by decide +kernel
theorem dX11_leave_79 : decode cX11_leave 79 = .ok (.iaload, 1) := by decide +kernel
theorem dX11_leave_80 : decode cX11_leave 80 = .ok (.iconst 1, 1) := by decide +kernel
theorem dX11_leave_81 : decode cX11_leave 81 = .ok (.iadd, 1) := by decide +kernel
theorem dX11_leave_82 : decode cX11_leave 82 = .ok (.iastore, 1) := by decide +kernel
theorem dX11_leave_83 : decode cX11_leave 83 = .ok (.aload_n 0, 1) := by decide +kernel
theorem dX11_leave_84 : decode cX11_leave 84 = .ok (.getfield 7, 3) := by decide +kernel
theorem dX11_leave_87 : decode cX11_leave 87 = .ok (.sipush 153, 3) := by decide +kernel
theorem dX11_leave_90 : decode cX11_leave 90 = .ok (.iconst 4, 1) := by decide +kernel
theorem dX11_leave_91 : decode cX11_leave 91 = .ok (.aload_n 0, 1) := by decide +kernel
theorem dX11_leave_92 : decode cX11_leave 92 = .ok (.iload_n 1, 1) := by decide +kernel
theorem dX11_leave_93 : decode cX11_leave 93 = .ok (.iconst 2, 1) := by decide +kernel
theorem dX11_leave_94 : decode cX11_leave 94 = .ok (.invokevirtual 179, 3) := by decide +kernel
theorem dX11_leave_97 : decode cX11_leave 97 = .ok (.imul, 1) := by decide +kernel
theorem dX11_leave_98 : decode cX11_leave 98 = .ok (.iadd, 1) := by decide +kernel
theorem dX11_leave_99 : decode cX11_leave 99 = .ok (.iconst 1, 1) := by decide +kernel
theorem dX11_leave_100 : decode cX11_leave 100 = .ok (.iadd, 1) := by decide +kernel
theorem dX11_leave_101 : decode cX11_leave 101 = .ok (.dup2, 1) := by decide +kernel
theorem dX11_leave_102 : decode cX11_leave 102 = .ok (.iaload, 1) := by decide +kernel
theorem dX11_leave_103 : decode cX11_leave 103 = .ok (.iconst 1, 1) := by decide +kernel
theorem dX11_leave_104 : decode cX11_leave 104 = .ok (.isub, 1) := by decide +kernel
theorem dX11_leave_105 : decode cX11_leave 105 = .ok (.iastore, 1) := by decide +kernel
theorem dX11_leave_106 : decode cX11_leave 106 = .ok (.aload_n 0, 1) := by decide +kernel
theorem dX11_leave_107 : decode cX11_leave 107 = .ok (.getfield 7, 3) := by decide +kernel
theorem dX11_leave_110 : decode cX11_leave 110 = .ok (.sipush 153, 3) := by decide +kernel
theorem dX11_leave_113 : decode cX11_leave 113 = .ok (.iconst 4, 1) := by decide +kernel
theorem dX11_leave_114 : decode cX11_leave 114 = .ok (.aload_n 0, 1) := by decide +kernel
theorem dX11_leave_115 : decode cX11_leave 115 = .ok (.iload_n 1, 1) := by decide +kernel
theorem dX11_leave_116 : decode cX11_leave 116 = .ok (.iconst 2, 1) := by decide +kernel
theorem dX11_leave_117 : decode cX11_leave 117 = .ok (.invokevirtual 179, 3) := by decide +kernel
theorem dX11_leave_120 : decode cX11_leave 120 = .ok (.imul, 1) := by decide +kernel
theorem dX11_leave_121 : decode cX11_leave 121 = .ok (.iadd, 1) := by decide +kernel
theorem dX11_leave_122 : decode cX11_leave 122 = .ok (.iconst 2, 1) := by decide +kernel
theorem dX11_leave_123 : decode cX11_leave 123 = .ok (.iadd, 1) := by decide +kernel
theorem dX11_leave_124 : decode cX11_leave 124 = .ok (.dup2, 1) := by decide +kernel
theorem dX11_leave_125 : decode cX11_leave 125 = .ok (.iaload, 1) := by decide +kernel
theorem dX11_leave_126 : decode cX11_leave 126 = .ok (.iconst 1, 1) := by decide +kernel
theorem dX11_leave_127 : decode cX11_leave 127 = .ok (.iadd, 1) := by decide +kernel
theorem dX11_leave_128 : decode cX11_leave 128 = .ok (.iastore, 1) := by decide +kernel
theorem dX11_leave_129 : decode cX11_leave 129 = .ok (.aload_n 0, 1) := by decide +kernel
theorem dX11_leave_130 : decode cX11_leave 130 = .ok (.iload_n 1, 1) := by decide +kernel
theorem dX11_leave_131 : decode cX11_leave 131 = .ok (.iconst 3, 1) := by decide +kernel
theorem dX11_leave_132 : decode cX11_leave 132 = .ok (.invokevirtual 179, 3) := by decide +kernel
theorem dX11_leave_135 : decode cX11_leave 135 = .ok (.ireturn, 1) := by decide +kernel
theorem dX11_ticket_0 : decode cX11_ticket 0 = .ok (.iload_n 1, 1) := by decide +kernel
theorem dX11_ticket_1 : decode cX11_ticket 1 = .ok (.iconst 0, 1) := by decide +kernel
theorem dX11_ticket_2 : decode cX11_ticket 2 = .ok (.aload_n 0, 1) := by decide +kernel
theorem dX11_ticket_3 : decode cX11_ticket 3 = .ok (.getfield 7, 3) := by decide +kernel
theorem dX11_ticket_6 : decode cX11_ticket 6 = .ok (.iconst 1, 1) := by decide +kernel
theorem dX11_ticket_7 : decode cX11_ticket 7 = .ok (.iaload, 1) := by decide +kernel
theorem dX11_ticket_8 : decode cX11_ticket 8 = .ok (.iconst 1, 1) := by decide +kernel
theorem dX11_ticket_9 : decode cX11_ticket 9 = .ok (.isub, 1) := by decide +kernel
theorem dX11_ticket_10 : decode cX11_ticket 10 = .ok (.invokestatic 39, 3) := by decide +kernel
theorem dX11_ticket_13 : decode cX11_ticket 13 = .ok (.ifCond .ne 5, 3) := by decide +kernel
theorem dX11_ticket_16 : decode cX11_ticket 16 = .ok (.iconst (-1), 1) := by decide +kernel
theorem dX11_ticket_17 : decode cX11_ticket 17 = .ok (.ireturn, 1) := by decide +kernel
theorem dX11_ticket_18 : decode cX11_ticket 18 = .ok (.iload_n 2, 1) := by decide +kernel
theorem dX11_ticket_19 : decode cX11_ticket 19 = .ok (.iconst 0, 1) := by decide +kernel
theorem dX11_ticket_20 : decode cX11_ticket 20 = .ok (.bipush 7, 2) := by decide +kernel
theorem dX11_ticket_22 : decode cX11_ticket 22 = .ok (.invokestatic 39, 3) := by decide +kernel
theorem dX11_ticket_25 : decode cX11_ticket 25 = .ok (.ifCond .eq 12, 3) := by decide +kernel
theorem dX11_ticket_28 : decode cX11_ticket 28 = .ok (.aload_n 0, 1) := by decide +kernel
theorem dX11_ticket_29 : decode cX11_ticket 29 = .ok (.iload_n 1, 1) := by decide +kernel
theorem dX11_ticket_30 : decode cX11_ticket 30 = .ok (.iload_n 2, 1) := by decide +kernel
theorem dX11_ticket_31 : decode cX11_ticket 31 = .ok (.invokevirtual 179, 3) := by decide +kernel
theorem dX11_ticket_34 : decode cX11_ticket 34 = .ok (.goto 5, 3) := by decide +kernel
theorem dX11_ticket_37 : decode cX11_ticket 37 = .ok (.bipush (-2), 2) := by decide +kernel
theorem dX11_ticket_39 : decode cX11_ticket 39 = .ok (.ireturn, 1) := by decide +kernel
theorem dX11_stepsOf_0 : decode cX11_stepsOf 0 = .ok (.iconst 0, 1) := by decide +kernel
theorem dX11_stepsOf_1 : decode cX11_stepsOf 1 = .ok (.istore_n 2, 1) := by decide +kernel
theorem dX11_stepsOf_2 : decode cX11_stepsOf 2 = .ok (.iconst 0, 1) := by decide +kernel
theorem dX11_stepsOf_3 : decode cX11_stepsOf 3 = .ok (.istore_n 3, 1) := by decide +kernel
theorem dX11_stepsOf_4 : decode cX11_stepsOf 4 = .ok (.iload_n 3, 1) := by decide +kernel
theorem dX11_stepsOf_5 : decode cX11_stepsOf 5 = .ok (.aload_n 0, 1) := by decide +kernel
theorem dX11_stepsOf_6 : decode cX11_stepsOf 6 = .ok (.iload_n 1, 1) := by decide +kernel
theorem dX11_stepsOf_7 : decode cX11_stepsOf 7 = .ok (.iconst 4, 1) := by decide +kernel
theorem dX11_stepsOf_8 : decode cX11_stepsOf 8 = .ok (.invokevirtual 179, 3) := by decide +kernel
theorem dX11_stepsOf_11 : decode cX11_stepsOf 11 = .ok (.if_icmp .ge 33, 3) := by decide +kernel
theorem dX11_stepsOf_14 : decode cX11_stepsOf 14 = .ok (.iload_n 2, 1) := by decide +kernel
theorem dX11_stepsOf_15 : decode cX11_stepsOf 15 = .ok (.aload_n 0, 1) := by decide +kernel
theorem dX11_stepsOf_16 : decode cX11_stepsOf 16 = .ok (.aload_n 0, 1) := by decide +kernel
theorem dX11_stepsOf_17 : decode cX11_stepsOf 17 = .ok (.iload_n 1, 1) := by decide +kernel
theorem dX11_stepsOf_18 : decode cX11_stepsOf 18 = .ok (.bipush 8, 2) := by decide +kernel
theorem dX11_stepsOf_20 : decode cX11_stepsOf 20 = .ok (.iload_n 3, 1) := by decide +kernel
theorem dX11_stepsOf_21 : decode cX11_stepsOf 21 = .ok (.iadd, 1) := by decide +kernel
theorem dX11_stepsOf_22 : decode cX11_stepsOf 22 = .ok (.invokevirtual 179, 3) := by decide +kernel
theorem dX11_stepsOf_25 : decode cX11_stepsOf 25 = .ok (.invokevirtual 160, 3) := by decide +kernel
theorem dX11_stepsOf_28 : decode cX11_stepsOf 28 = .ok (.ifCond .le 7, 3) := by decide +kernel
theorem dX11_stepsOf_31 : decode cX11_stepsOf 31 = .ok (.iconst 1, 1) := by decide +kernel
theorem dX11_stepsOf_32 : decode cX11_stepsOf 32 = .ok (.goto 4, 3) := by decide +kernel
theorem dX11_stepsOf_35 : decode cX11_stepsOf 35 = .ok (.iconst 0, 1) := by decide +kernel
theorem dX11_stepsOf_36 : decode cX11_stepsOf 36 = .ok (.iadd, 1) := by decide +kernel
theorem dX11_stepsOf_37 : decode cX11_stepsOf 37 = .ok (.istore_n 2, 1) := by decide +kernel
theorem dX11_stepsOf_38 : decode cX11_stepsOf 38 = .ok (.iinc 3 1, 3) := by decide +kernel
theorem dX11_stepsOf_41 : decode cX11_stepsOf 41 = .ok (.goto (-37), 3) := by decide +kernel
theorem dX11_stepsOf_44 : decode cX11_stepsOf 44 = .ok (.iload_n 2, 1) := by decide +kernel
theorem dX11_stepsOf_45 : decode cX11_stepsOf 45 = .ok (.ireturn, 1) := by decide +kernel
theorem dX11_step_0 : decode cX11_step 0 = .ok (.aload_n 0, 1) := by decide +kernel
theorem dX11_step_1 : decode cX11_step 1 = .ok (.iload_n 1, 1) := by decide +kernel
theorem dX11_step_2 : decode cX11_step 2 = .ok (.invokevirtual 191, 3) := by decide +kernel
theorem dX11_step_5 : decode cX11_step 5 = .ok (.ifCond .eq 16, 3) := by decide +kernel
theorem dX11_step_8 : decode cX11_step 8 = .ok (.iload_n 2, 1) := by decide +kernel
theorem dX11_step_9 : decode cX11_step 9 = .ok (.iconst 0, 1) := by decide +kernel
theorem dX11_step_10 : decode cX11_step 10 = .ok (.aload_n 0, 1) := by decide +kernel
theorem dX11_step_11 : decode cX11_step 11 = .ok (.iload_n 1, 1) := by decide +kernel
theorem dX11_step_12 : decode cX11_step 12 = .ok (.invokevirtual 215, 3) := by decide +kernel
theorem dX11_step_15 : decode cX11_step 15 = .ok (.invokestatic 39, 3) := by decide +kernel
theorem dX11_step_18 : decode cX11_step 18 = .ok (.ifCond .ne 5, 3) := by decide +kernel
theorem dX11_step_21 : decode cX11_step 21 = .ok (.iconst (-1), 1) := by decide +kernel
theorem dX11_step_22 : decode cX11_step 22 = .ok (.ireturn, 1) := by decide +kernel
theorem dX11_step_23 : decode cX11_step 23 = .ok (.aload_n 0, 1) := by decide +kernel
theorem dX11_step_24 : decode cX11_step 24 = .ok (.iload_n 1, 1) := by decide +kernel
theorem dX11_step_25 : decode cX11_step 25 = .ok (.bipush 6, 2) := by decide +kernel
theorem dX11_step_27 : decode cX11_step 27 = .ok (.invokevirtual 179, 3) := by decide +kernel
theorem dX11_step_30 : decode cX11_step 30 = .ok (.iconst 1, 1) := by decide +kernel
theorem dX11_step_31 : decode cX11_step 31 = .ok (.if_icmp .ne 8, 3) := by decide +kernel
theorem dX11_step_34 : decode cX11_step 34 = .ok (.bipush (-4), 2) := by decide +kernel
theorem dX11_step_36 : decode cX11_step 36 = .ok (.goto 15, 3) := by decide +kernel
theorem dX11_step_39 : decode cX11_step 39 = .ok (.aload_n 0, 1) := by decide +kernel
theorem dX11_step_40 : decode cX11_step 40 = .ok (.iload_n 1, 1) := by decide +kernel
theorem dX11_step_41 : decode cX11_step 41 = .ok (.aload_n 0, 1) := by decide +kernel
theorem dX11_step_42 : decode cX11_step 42 = .ok (.getfield 7, 3) := by decide +kernel
theorem dX11_step_45 : decode cX11_step 45 = .ok (.iconst 0, 1) := by decide +kernel
theorem dX11_step_46 : decode cX11_step 46 = .ok (.iaload, 1) := by decide +kernel
theorem dX11_step_47 : decode cX11_step 47 = .ok (.iload_n 2, 1) := by decide +kernel
theorem dX11_step_48 : decode cX11_step 48 = .ok (.invokevirtual 209, 3) := by decide +kernel
theorem dX11_step_51 : decode cX11_step 51 = .ok (.ireturn, 1) := by decide +kernel
theorem dX11_advance_0 : decode cX11_advance 0 = .ok (.iload_n 1, 1) := by decide +kernel
theorem dX11_advance_1 : decode cX11_advance 1 = .ok (.iconst 1, 1) := by decide +kernel
theorem dX11_advance_2 : decode cX11_advance 2 = .ok (.sipush 3000, 3) := by decide +kernel
theorem dX11_advance_5 : decode cX11_advance 5 = .ok (.invokestatic 39, 3) := by decide +kernel
theorem dX11_advance_8 : decode cX11_advance 8 = .ok (.ifCond .ne 6, 3) := by decide +kernel
theorem dX11_advance_11 : decode cX11_advance 11 = .ok (.bipush (-2), 2) := by decide +kernel
theorem dX11_advance_13 : decode cX11_advance 13 = .ok (.ireturn, 1) := by decide +kernel
theorem dX11_advance_14 : decode cX11_advance 14 = .ok (.aload_n 0, 1) := by decide +kernel
theorem dX11_advance_15 : decode cX11_advance 15 = .ok (.getfield 7, 3) := by decide +kernel
theorem dX11_advance_18 : decode cX11_advance 18 = .ok (.iconst 0, 1) := by decide +kernel
theorem dX11_advance_19 : decode cX11_advance 19 = .ok (.iaload, 1) := by decide +kernel
theorem dX11_advance_20 : decode cX11_advance 20 = .ok (.iload_n 1, 1) := by decide +kernel
theorem dX11_advance_21 : decode cX11_advance 21 = .ok (.iadd, 1) := by decide +kernel
theorem dX11_advance_22 : decode cX11_advance 22 = .ok (.ldc 43, 2) := by decide +kernel
theorem dX11_advance_24 : decode cX11_advance 24 = .ok (.if_icmp .le 6, 3) := by decide +kernel
theorem dX11_advance_27 : decode cX11_advance 27 = .ok (.bipush (-3), 2) := by decide +kernel
theorem dX11_advance_29 : decode cX11_advance 29 = .ok (.ireturn, 1) := by decide +kernel
theorem dX11_advance_30 : decode cX11_advance 30 = .ok (.aload_n 0, 1) := by decide +kernel
theorem dX11_advance_31 : decode cX11_advance 31 = .ok (.getfield 7, 3) := by decide +kernel
theorem dX11_advance_34 : decode cX11_advance 34 = .ok (.iconst 0, 1) := by decide +kernel
theorem dX11_advance_35 : decode cX11_advance 35 = .ok (.iaload, 1) := by decide +kernel
theorem dX11_advance_36 : decode cX11_advance 36 = .ok (.iload_n 1, 1) := by decide +kernel
theorem dX11_advance_37 : decode cX11_advance 37 = .ok (.iadd, 1) := by decide +kernel
theorem dX11_advance_38 : decode cX11_advance 38 = .ok (.bipush 60, 2) := by decide +kernel
theorem dX11_advance_40 : decode cX11_advance 40 = .ok (.idiv, 1) := by decide +kernel
theorem dX11_advance_41 : decode cX11_advance 41 = .ok (.aload_n 0, 1) := by decide +kernel
theorem dX11_advance_42 : decode cX11_advance 42 = .ok (.getfield 7, 3) := by decide +kernel
theorem dX11_advance_45 : decode cX11_advance 45 = .ok (.iconst 0, 1) := by decide +kernel
theorem dX11_advance_46 : decode cX11_advance 46 = .ok (.iaload, 1) := by decide +kernel
theorem dX11_advance_47 : decode cX11_advance 47 = .ok (.bipush 60, 2) := by decide +kernel
theorem dX11_advance_49 : decode cX11_advance 49 = .ok (.idiv, 1) := by decide +kernel
theorem dX11_advance_50 : decode cX11_advance 50 = .ok (.isub, 1) := by decide +kernel
theorem dX11_advance_51 : decode cX11_advance 51 = .ok (.istore_n 2, 1) := by decide +kernel
theorem dX11_advance_52 : decode cX11_advance 52 = .ok (.iconst 0, 1) := by decide +kernel
theorem dX11_advance_53 : decode cX11_advance 53 = .ok (.istore_n 3, 1) := by decide +kernel
theorem dX11_advance_54 : decode cX11_advance 54 = .ok (.iload_n 3, 1) := by decide +kernel
theorem dX11_advance_55 : decode cX11_advance 55 = .ok (.iload_n 2, 1) := by decide +kernel
theorem dX11_advance_56 : decode cX11_advance 56 = .ok (.if_icmp .ge 69, 3) := by decide +kernel
theorem dX11_advance_59 : decode cX11_advance 59 = .ok (.iconst 0, 1) := by decide +kernel
theorem dX11_advance_60 : decode cX11_advance 60 = .ok (.istore 4, 2) := by decide +kernel
theorem dX11_advance_62 : decode cX11_advance 62 = .ok (.iload 4, 2) := by decide +kernel
theorem dX11_advance_64 : decode cX11_advance 64 = .ok (.iconst 4, 1) := by decide +kernel
theorem dX11_advance_65 : decode cX11_advance 65 = .ok (.if_icmp .ge 54, 3) := by decide +kernel
theorem dX11_advance_68 : decode cX11_advance 68 = .ok (.aload_n 0, 1) := by decide +kernel
theorem dX11_advance_69 : decode cX11_advance 69 = .ok (.getfield 16, 3) := by decide +kernel
theorem dX11_advance_72 : decode cX11_advance 72 = .ok (.iload 4, 2) := by decide +kernel
theorem dX11_advance_74 : decode cX11_advance 74 = .ok (.aload_n 0, 1) := by decide +kernel
theorem dX11_advance_75 : decode cX11_advance 75 = .ok (.getfield 16, 3) := by decide +kernel
theorem dX11_advance_78 : decode cX11_advance 78 = .ok (.iload 4, 2) := by decide +kernel
theorem dX11_advance_80 : decode cX11_advance 80 = .ok (.faload, 1) := by decide +kernel
theorem dX11_advance_81 : decode cX11_advance 81 = .ok (.ldc 218, 2) := by decide +kernel
theorem dX11_advance_83 : decode cX11_advance 83 = .ok (.fmul, 1) := by decide +kernel
theorem dX11_advance_84 : decode cX11_advance 84 = .ok (.aload_n 0, 1) := by decide +kernel
theorem dX11_advance_85 : decode cX11_advance 85 = .ok (.iload 4, 2) := by decide +kernel
theorem dX11_advance_87 : decode cX11_advance 87 = .ok (.iconst 2, 1) := by decide +kernel
theorem dX11_advance_88 : decode cX11_advance 88 = .ok (.invokevirtual 164, 3) := by decide +kernel
theorem dX11_advance_91 : decode cX11_advance 91 = .ok (.i2f, 1) := by decide +kernel
theorem dX11_advance_92 : decode cX11_advance 92 = .ok (.ldc 219, 2) := by decide +kernel
theorem dX11_advance_94 : decode cX11_advance 94 = .ok (.fmul, 1) := by decide +kernel
theorem dX11_advance_95 : decode cX11_advance 95 = .ok (.fadd, 1) := by decide +kernel
theorem dX11_advance_96 : decode cX11_advance 96 = .ok (.fastore, 1) := by decide +kernel
theorem dX11_advance_97 : decode cX11_advance 97 = .ok (.aload_n 0, 1) := by decide +kernel
theorem dX11_advance_98 : decode cX11_advance 98 = .ok (.getfield 7, 3) := by decide +kernel
theorem dX11_advance_101 : decode cX11_advance 101 = .ok (.sipush 153, 3) := by decide +kernel
theorem dX11_advance_104 : decode cX11_advance 104 = .ok (.iconst 4, 1) := by decide +kernel
theorem dX11_advance_105 : decode cX11_advance 105 = .ok (.iload 4, 2) := by decide +kernel
theorem dX11_advance_107 : decode cX11_advance 107 = .ok (.imul, 1) := by decide +kernel
theorem dX11_advance_108 : decode cX11_advance 108 = .ok (.iadd, 1) := by decide +kernel
theorem dX11_advance_109 : decode cX11_advance 109 = .ok (.iconst 2, 1) := by decide +kernel
theorem dX11_advance_110 : decode cX11_advance 110 = .ok (.iadd, 1) := by decide +kernel
theorem dX11_advance_111 : decode cX11_advance 111 = .ok (.iconst 0, 1) := by decide +kernel
theorem dX11_advance_112 : decode cX11_advance 112 = .ok (.iastore, 1) := by decide +kernel
theorem dX11_advance_113 : decode cX11_advance 113 = .ok (.iinc 4 1, 3) := by decide +kernel
theorem dX11_advance_116 : decode cX11_advance 116 = .ok (.goto (-54), 3) := by decide +kernel
theorem dX11_advance_119 : decode cX11_advance 119 = .ok (.iinc 3 1, 3) := by decide +kernel
theorem dX11_advance_122 : decode cX11_advance 122 = .ok (.goto (-68), 3) := by decide +kernel
theorem dX11_advance_125 : decode cX11_advance 125 = .ok (.aload_n 0, 1) := by decide +kernel
theorem dX11_advance_126 : decode cX11_advance 126 = .ok (.getfield 7, 3) := by decide +kernel
theorem dX11_advance_129 : decode cX11_advance 129 = .ok (.iconst 0, 1) := by decide +kernel
theorem dX11_advance_130 : decode cX11_advance 130 = .ok (.dup2, 1) := by decide +kernel
theorem dX11_advance_131 : decode cX11_advance 131 = .ok (.iaload, 1) := by decide +kernel
theorem dX11_advance_132 : decode cX11_advance 132 = .ok (.iload_n 1, 1) := by decide +kernel
theorem dX11_advance_133 : decode cX11_advance 133 = .ok (.iadd, 1) := by decide +kernel
theorem dX11_advance_134 : decode cX11_advance 134 = .ok (.iastore, 1) := by decide +kernel
theorem dX11_advance_135 : decode cX11_advance 135 = .ok (.aload_n 0, 1) := by decide +kernel
theorem dX11_advance_136 : decode cX11_advance 136 = .ok (.getfield 7, 3) := by decide +kernel
theorem dX11_advance_139 : decode cX11_advance 139 = .ok (.iconst 0, 1) := by decide +kernel
theorem dX11_advance_140 : decode cX11_advance 140 = .ok (.iaload, 1) := by decide +kernel
theorem dX11_advance_141 : decode cX11_advance 141 = .ok (.ireturn, 1) := by decide +kernel
theorem dX11_count_0 : decode cX11_count 0 = .ok (.iload_n 1, 1) := by decide +kernel
theorem dX11_count_1 : decode cX11_count 1 = .ok (.iconst 0, 1) := by decide +kernel
theorem dX11_count_2 : decode cX11_count 2 = .ok (.bipush 11, 2) := by decide +kernel
theorem dX11_count_4 : decode cX11_count 4 = .ok (.invokestatic 39, 3) := by decide +kernel
theorem dX11_count_7 : decode cX11_count 7 = .ok (.ifCond .ne 6, 3) := by decide +kernel
theorem dX11_count_10 : decode cX11_count 10 = .ok (.bipush (-2), 2) := by decide +kernel
theorem dX11_count_12 : decode cX11_count 12 = .ok (.ireturn, 1) := by decide +kernel
theorem dX11_count_13 : decode cX11_count 13 = .ok (.iload_n 1, 1) := by decide +kernel
theorem dX11_count_14 : decode cX11_count 14 = .ok (.tableswitch 109 0 11 #[62, 69, 76, 83, 109, 109, 109, 109, 109, 88, 96, 104], 62) := by decide +kernel
theorem dX11_count_76 : decode cX11_count 76 = .ok (.aload_n 0, 1) := by decide +kernel
theorem dX11_count_77 : decode cX11_count 77 = .ok (.getfield 7, 3) := by decide +kernel
theorem dX11_count_80 : decode cX11_count 80 = .ok (.iconst 0, 1) := by decide +kernel
theorem dX11_count_81 : decode cX11_count 81 = .ok (.iaload, 1) := by decide +kernel
theorem dX11_count_82 : decode cX11_count 82 = .ok (.ireturn, 1) := by decide +kernel
theorem dX11_count_83 : decode cX11_count 83 = .ok (.aload_n 0, 1) := by decide +kernel
theorem dX11_count_84 : decode cX11_count 84 = .ok (.getfield 7, 3) := by decide +kernel
theorem dX11_count_87 : decode cX11_count 87 = .ok (.iconst 1, 1) := by decide +kernel
theorem dX11_count_88 : decode cX11_count 88 = .ok (.iaload, 1) := by decide +kernel
theorem dX11_count_89 : decode cX11_count 89 = .ok (.ireturn, 1) := by decide +kernel
theorem dX11_count_90 : decode cX11_count 90 = .ok (.aload_n 0, 1) := by decide +kernel
theorem dX11_count_91 : decode cX11_count 91 = .ok (.getfield 7, 3) := by decide +kernel
theorem dX11_count_94 : decode cX11_count 94 = .ok (.iconst 2, 1) := by decide +kernel
theorem dX11_count_95 : decode cX11_count 95 = .ok (.iaload, 1) := by decide +kernel
theorem dX11_count_96 : decode cX11_count 96 = .ok (.ireturn, 1) := by decide +kernel
theorem dX11_count_97 : decode cX11_count 97 = .ok (.aload_n 0, 1) := by decide +kernel
theorem dX11_count_98 : decode cX11_count 98 = .ok (.invokevirtual 185, 3) := by decide +kernel
theorem dX11_count_101 : decode cX11_count 101 = .ok (.ireturn, 1) := by decide +kernel
theorem dX11_count_102 : decode cX11_count 102 = .ok (.aload_n 0, 1) := by decide +kernel
theorem dX11_count_103 : decode cX11_count 103 = .ok (.getfield 7, 3) := by decide +kernel
theorem dX11_count_106 : decode cX11_count 106 = .ok (.bipush 8, 2) := by decide +kernel
theorem dX11_count_108 : decode cX11_count 108 = .ok (.iaload, 1) := by decide +kernel
theorem dX11_count_109 : decode cX11_count 109 = .ok (.ireturn, 1) := by decide +kernel
theorem dX11_count_110 : decode cX11_count 110 = .ok (.aload_n 0, 1) := by decide +kernel
theorem dX11_count_111 : decode cX11_count 111 = .ok (.getfield 7, 3) := by decide +kernel
theorem dX11_count_114 : decode cX11_count 114 = .ok (.bipush 9, 2) := by decide +kernel
theorem dX11_count_116 : decode cX11_count 116 = .ok (.iaload, 1) := by decide +kernel
theorem dX11_count_117 : decode cX11_count 117 = .ok (.ireturn, 1) := by decide +kernel
theorem dX11_count_118 : decode cX11_count 118 = .ok (.aload_n 0, 1) := by decide +kernel
theorem dX11_count_119 : decode cX11_count 119 = .ok (.getfield 97, 3) := by decide +kernel
theorem dX11_count_122 : decode cX11_count 122 = .ok (.ireturn, 1) := by decide +kernel
theorem dX11_count_123 : decode cX11_count 123 = .ok (.aload_n 0, 1) := by decide +kernel
theorem dX11_count_124 : decode cX11_count 124 = .ok (.getfield 7, 3) := by decide +kernel
theorem dX11_count_127 : decode cX11_count 127 = .ok (.iconst 3, 1) := by decide +kernel
theorem dX11_count_128 : decode cX11_count 128 = .ok (.iload_n 1, 1) := by decide +kernel
theorem dX11_count_129 : decode cX11_count 129 = .ok (.iadd, 1) := by decide +kernel
theorem dX11_count_130 : decode cX11_count 130 = .ok (.iconst 4, 1) := by decide +kernel
theorem dX11_count_131 : decode cX11_count 131 = .ok (.isub, 1) := by decide +kernel
theorem dX11_count_132 : decode cX11_count 132 = .ok (.iaload, 1) := by decide +kernel
theorem dX11_count_133 : decode cX11_count 133 = .ok (.ireturn, 1) := by decide +kernel
theorem dX11_reportLevels_0 : decode cX11_reportLevels 0 = .ok (.aload_n 0, 1) := by decide +kernel
theorem dX11_reportLevels_1 : decode cX11_reportLevels 1 = .ok (.getfield 144, 3) := by decide +kernel
theorem dX11_reportLevels_4 : decode cX11_reportLevels 4 = .ok (.ireturn, 1) := by decide +kernel
theorem dX11_reportCode_0 : decode cX11_reportCode 0 = .ok (.iload_n 1, 1) := by decide +kernel
theorem dX11_reportCode_1 : decode cX11_reportCode 1 = .ok (.iconst 0, 1) := by decide +kernel
theorem dX11_reportCode_2 : decode cX11_reportCode 2 = .ok (.aload_n 0, 1) := by decide +kernel
theorem dX11_reportCode_3 : decode cX11_reportCode 3 = .ok (.getfield 144, 3) := by decide +kernel
theorem dX11_reportCode_6 : decode cX11_reportCode 6 = .ok (.iconst 1, 1) := by decide +kernel
theorem dX11_reportCode_7 : decode cX11_reportCode 7 = .ok (.isub, 1) := by decide +kernel
theorem dX11_reportCode_8 : decode cX11_reportCode 8 = .ok (.invokestatic 39, 3) := by decide +kernel
theorem dX11_reportCode_11 : decode cX11_reportCode 11 = .ok (.ifCond .eq 14, 3) := by decide +kernel
theorem dX11_reportCode_14 : decode cX11_reportCode 14 = .ok (.aload_n 0, 1) := by decide +kernel
theorem dX11_reportCode_15 : decode cX11_reportCode 15 = .ok (.getfield 26, 3) := by decide +kernel
theorem dX11_reportCode_18 : decode cX11_reportCode 18 = .ok (.iconst 2, 1) := by decide +kernel
theorem dX11_reportCode_19 : decode cX11_reportCode 19 = .ok (.iload_n 1, 1) := by decide +kernel
theorem dX11_reportCode_20 : decode cX11_reportCode 20 = .ok (.imul, 1) := by decide +kernel
theorem dX11_reportCode_21 : decode cX11_reportCode 21 = .ok (.iaload, 1) := by decide +kernel
theorem dX11_reportCode_22 : decode cX11_reportCode 22 = .ok (.goto 4, 3) := by decide +kernel
theorem dX11_reportCode_25 : decode cX11_reportCode 25 = .ok (.iconst (-1), 1) := by decide +kernel
theorem dX11_reportCode_26 : decode cX11_reportCode 26 = .ok (.ireturn, 1) := by decide +kernel
theorem dX11_reportNumber_0 : decode cX11_reportNumber 0 = .ok (.iload_n 1, 1) := by decide +kernel
theorem dX11_reportNumber_1 : decode cX11_reportNumber 1 = .ok (.iconst 0, 1) := by decide +kernel
theorem dX11_reportNumber_2 : decode cX11_reportNumber 2 = .ok (.aload_n 0, 1) := by decide +kernel
theorem dX11_reportNumber_3 : decode cX11_reportNumber 3 = .ok (.getfield 144, 3) := by decide +kernel
theorem dX11_reportNumber_6 : decode cX11_reportNumber 6 = .ok (.iconst 1, 1) := by decide +kernel
theorem dX11_reportNumber_7 : decode cX11_reportNumber 7 = .ok (.isub, 1) := by decide +kernel
theorem dX11_reportNumber_8 : decode cX11_reportNumber 8 = .ok (.invokestatic 39, 3) := by decide +kernel
theorem dX11_reportNumber_11 : decode cX11_reportNumber 11 = .ok (.ifCond .eq 16, 3) := by decide +kernel
theorem dX11_reportNumber_14 : decode cX11_reportNumber 14 = .ok (.aload_n 0, 1) := by decide +kernel
theorem dX11_reportNumber_15 : decode cX11_reportNumber 15 = .ok (.getfield 26, 3) := by decide +kernel
theorem dX11_reportNumber_18 : decode cX11_reportNumber 18 = .ok (.iconst 2, 1) := by decide +kernel
theorem dX11_reportNumber_19 : decode cX11_reportNumber 19 = .ok (.iload_n 1, 1) := by decide +kernel
theorem dX11_reportNumber_20 : decode cX11_reportNumber 20 = .ok (.imul, 1) := by decide +kernel
theorem dX11_reportNumber_21 : decode cX11_reportNumber 21 = .ok (.iconst 1, 1) := by decide +kernel
theorem dX11_reportNumber_22 : decode cX11_reportNumber 22 = .ok (.iadd, 1) := by decide +kernel
theorem dX11_reportNumber_23 : decode cX11_reportNumber 23 = .ok (.iaload, 1) := by decide +kernel
theorem dX11_reportNumber_24 : decode cX11_reportNumber 24 = .ok (.goto 4, 3) := by decide +kernel
theorem dX11_reportNumber_27 : decode cX11_reportNumber 27 = .ok (.iconst (-1), 1) := by decide +kernel
theorem dX11_reportNumber_28 : decode cX11_reportNumber 28 = .ok (.ireturn, 1) := by decide +kernel
theorem dX11_save_0 : decode cX11_save 0 = .ok (.iconst 0, 1) := by decide +kernel
theorem dX11_save_1 : decode cX11_save 1 = .ok (.istore_n 1, 1) := by decide +kernel
theorem dX11_save_2 : decode cX11_save 2 = .ok (.iload_n 1, 1) := by decide +kernel
theorem dX11_save_3 : decode cX11_save 3 = .ok (.sipush 6889, 3) := by decide +kernel
theorem dX11_save_6 : decode cX11_save 6 = .ok (.if_icmp .ge 21, 3) := by decide +kernel
theorem dX11_save_9 : decode cX11_save 9 = .ok (.aload_n 0, 1) := by decide +kernel
theorem dX11_save_10 : decode cX11_save 10 = .ok (.getfield 13, 3) := by decide +kernel
theorem dX11_save_13 : decode cX11_save 13 = .ok (.iload_n 1, 1) := by decide +kernel
theorem dX11_save_14 : decode cX11_save 14 = .ok (.aload_n 0, 1) := by decide +kernel
theorem dX11_save_15 : decode cX11_save 15 = .ok (.getfield 7, 3) := by decide +kernel
theorem dX11_save_18 : decode cX11_save 18 = .ok (.iload_n 1, 1) := by decide +kernel
theorem dX11_save_19 : decode cX11_save 19 = .ok (.iaload, 1) := by decide +kernel
theorem dX11_save_20 : decode cX11_save 20 = .ok (.iastore, 1) := by decide +kernel
theorem dX11_save_21 : decode cX11_save 21 = .ok (.iinc 1 1, 3) := by decide +kernel
theorem dX11_save_24 : decode cX11_save 24 = .ok (.goto (-22), 3) := by decide +kernel
theorem dX11_save_27 : decode cX11_save 27 = .ok (.iconst 0, 1) := by decide +kernel
theorem dX11_save_28 : decode cX11_save 28 = .ok (.istore_n 1, 1) := by decide +kernel
theorem dX11_save_29 : decode cX11_save 29 = .ok (.iload_n 1, 1) := by decide +kernel
theorem dX11_save_30 : decode cX11_save 30 = .ok (.iconst 4, 1) := by decide +kernel
theorem dX11_save_31 : decode cX11_save 31 = .ok (.if_icmp .ge 21, 3) := by decide +kernel
theorem dX11_save_34 : decode cX11_save 34 = .ok (.aload_n 0, 1) := by decide +kernel
theorem dX11_save_35 : decode cX11_save 35 = .ok (.getfield 20, 3) := by decide +kernel
theorem dX11_save_38 : decode cX11_save 38 = .ok (.iload_n 1, 1) := by decide +kernel
theorem dX11_save_39 : decode cX11_save 39 = .ok (.aload_n 0, 1) := by decide +kernel
theorem dX11_save_40 : decode cX11_save 40 = .ok (.getfield 16, 3) := by decide +kernel
theorem dX11_save_43 : decode cX11_save 43 = .ok (.iload_n 1, 1) := by decide +kernel
theorem dX11_save_44 : decode cX11_save 44 = .ok (.faload, 1) := by decide +kernel
theorem dX11_save_45 : decode cX11_save 45 = .ok (.fastore, 1) := by decide +kernel
theorem dX11_save_46 : decode cX11_save 46 = .ok (.iinc 1 1, 3) := by decide +kernel
theorem dX11_save_49 : decode cX11_save 49 = .ok (.goto (-20), 3) := by decide +kernel
theorem dX11_save_52 : decode cX11_save 52 = .ok (.aload_n 0, 1) := by decide +kernel
theorem dX11_save_53 : decode cX11_save 53 = .ok (.iconst 1, 1) := by decide +kernel
theorem dX11_save_54 : decode cX11_save 54 = .ok (.putfield 220, 3) := by decide +kernel
theorem dX11_save_57 : decode cX11_save 57 = .ok (.aload_n 0, 1) := by decide +kernel
theorem dX11_save_58 : decode cX11_save 58 = .ok (.getfield 7, 3) := by decide +kernel
theorem dX11_save_61 : decode cX11_save 61 = .ok (.iconst 0, 1) := by decide +kernel
theorem dX11_save_62 : decode cX11_save 62 = .ok (.iaload, 1) := by decide +kernel
theorem dX11_save_63 : decode cX11_save 63 = .ok (.ireturn, 1) := by decide +kernel
theorem dX11_restore_0 : decode cX11_restore 0 = .ok (.aload_n 0, 1) := by decide +kernel
theorem dX11_restore_1 : decode cX11_restore 1 = .ok (.getfield 220, 3) := by decide +kernel
theorem dX11_restore_4 : decode cX11_restore 4 = .ok (.ifCond .ne 5, 3) := by decide +kernel
theorem dX11_restore_7 : decode cX11_restore 7 = .ok (.iconst (-1), 1) := by decide +kernel
theorem dX11_restore_8 : decode cX11_restore 8 = .ok (.ireturn, 1) := by decide +kernel
theorem dX11_restore_9 : decode cX11_restore 9 = .ok (.iconst 0, 1) := by decide +kernel
theorem dX11_restore_10 : decode cX11_restore 10 = .ok (.istore_n 1, 1) := by decide +kernel
theorem dX11_restore_11 : decode cX11_restore 11 = .ok (.iload_n 1, 1) := by decide +kernel
theorem dX11_restore_12 : decode cX11_restore 12 = .ok (.sipush 6889, 3) := by decide +kernel
theorem dX11_restore_15 : decode cX11_restore 15 = .ok (.if_icmp .ge 21, 3) := by decide +kernel
theorem dX11_restore_18 : decode cX11_restore 18 = .ok (.aload_n 0, 1) := by decide +kernel
theorem dX11_restore_19 : decode cX11_restore 19 = .ok (.getfield 7, 3) := by decide +kernel
theorem dX11_restore_22 : decode cX11_restore 22 = .ok (.iload_n 1, 1) := by decide +kernel
theorem dX11_restore_23 : decode cX11_restore 23 = .ok (.aload_n 0, 1) := by decide +kernel
theorem dX11_restore_24 : decode cX11_restore 24 = .ok (.getfield 13, 3) := by decide +kernel
theorem dX11_restore_27 : decode cX11_restore 27 = .ok (.iload_n 1, 1) := by decide +kernel
theorem dX11_restore_28 : decode cX11_restore 28 = .ok (.iaload, 1) := by decide +kernel
theorem dX11_restore_29 : decode cX11_restore 29 = .ok (.iastore, 1) := by decide +kernel
theorem dX11_restore_30 : decode cX11_restore 30 = .ok (.iinc 1 1, 3) := by decide +kernel
theorem dX11_restore_33 : decode cX11_restore 33 = .ok (.goto (-22), 3) := by decide +kernel
theorem dX11_restore_36 : decode cX11_restore 36 = .ok (.iconst 0, 1) := by decide +kernel
theorem dX11_restore_37 : decode cX11_restore 37 = .ok (.istore_n 1, 1) := by decide +kernel
theorem dX11_restore_38 : decode cX11_restore 38 = .ok (.iload_n 1, 1) := by decide +kernel
theorem dX11_restore_39 : decode cX11_restore 39 = .ok (.iconst 4, 1) := by decide +kernel
theorem dX11_restore_40 : decode cX11_restore 40 = .ok (.if_icmp .ge 21, 3) := by decide +kernel
theorem dX11_restore_43 : decode cX11_restore 43 = .ok (.aload_n 0, 1) := by decide +kernel
theorem dX11_restore_44 : decode cX11_restore 44 = .ok (.getfield 16, 3) := by decide +kernel
theorem dX11_restore_47 : decode cX11_restore 47 = .ok (.iload_n 1, 1) := by decide +kernel
theorem dX11_restore_48 : decode cX11_restore 48 = .ok (.aload_n 0, 1) := by decide +kernel
theorem dX11_restore_49 : decode cX11_restore 49 = .ok (.getfield 20, 3) := by decide +kernel
theorem dX11_restore_52 : decode cX11_restore 52 = .ok (.iload_n 1, 1) := by decide +kernel
theorem dX11_restore_53 : decode cX11_restore 53 = .ok (.faload, 1) := by decide +kernel
theorem dX11_restore_54 : decode cX11_restore 54 = .ok (.fastore, 1) := by decide +kernel
theorem dX11_restore_55 : decode cX11_restore 55 = .ok (.iinc 1 1, 3) := by decide +kernel
theorem dX11_restore_58 : decode cX11_restore 58 = .ok (.goto (-20), 3) := by decide +kernel
theorem dX11_restore_61 : decode cX11_restore 61 = .ok (.aload_n 0, 1) := by decide +kernel
theorem dX11_restore_62 : decode cX11_restore 62 = .ok (.getfield 7, 3) := by decide +kernel
theorem dX11_restore_65 : decode cX11_restore 65 = .ok (.iconst 0, 1) := by decide +kernel
theorem dX11_restore_66 : decode cX11_restore 66 = .ok (.iaload, 1) := by decide +kernel
theorem dX11_restore_67 : decode cX11_restore 67 = .ok (.ireturn, 1) := by decide +kernel
