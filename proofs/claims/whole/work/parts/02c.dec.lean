theorem dX10_init_0 : decode cX10_init 0 = .ok (.aload_n 0, 1) := by decide +kernel
theorem dX10_init_1 : decode cX10_init 1 = .ok (.invokespecial 3, 3) := by decide +kernel
theorem dX10_init_4 : decode cX10_init 4 = .ok (.aload_n 0, 1) := by decide +kernel
theorem dX10_init_5 : decode cX10_init 5 = .ok (.new 9, 3) := by decide +kernel
theorem dX10_init_8 : decode cX10_init 8 = .ok (.dup, 1) := by decide +kernel
theorem dX10_init_9 : decode cX10_init 9 = .ok (.invokespecial 11, 3) := by decide +kernel
theorem dX10_init_12 : decode cX10_init 12 = .ok (.putfield 12, 3) := by decide +kernel
theorem dX10_init_15 : decode cX10_init 15 = .ok (.aload_n 0, 1) := by decide +kernel
theorem dX10_init_16 : decode cX10_init 16 = .ok (.new 9, 3) := by decide +kernel
theorem dX10_init_19 : decode cX10_init 19 = .ok (.dup, 1) := by decide +kernel
theorem dX10_init_20 : decode cX10_init 20 = .ok (.invokespecial 11, 3) := by decide +kernel
theorem dX10_init_23 : decode cX10_init 23 = .ok (.putfield 16, 3) := by decide +kernel
theorem dX10_init_26 : decode cX10_init 26 = .ok (.aload_n 0, 1) := by decide +kernel
theorem dX10_init_27 : decode cX10_init 27 = .ok (.new 19, 3) := by decide +kernel
theorem dX10_init_30 : decode cX10_init 30 = .ok (.dup, 1) := by decide +kernel
theorem dX10_init_31 : decode cX10_init 31 = .ok (.invokespecial 21, 3) := by decide +kernel
theorem dX10_init_34 : decode cX10_init 34 = .ok (.putfield 22, 3) := by decide +kernel
theorem dX10_init_37 : decode cX10_init 37 = .ok (.aload_n 0, 1) := by decide +kernel
theorem dX10_init_38 : decode cX10_init 38 = .ok (.new 26, 3) := by decide +kernel
theorem dX10_init_41 : decode cX10_init 41 = .ok (.dup, 1) := by decide +kernel
theorem dX10_init_42 : decode cX10_init 42 = .ok (.invokespecial 28, 3) := by decide +kernel
theorem dX10_init_45 : decode cX10_init 45 = .ok (.putfield 29, 3) := by decide +kernel
theorem dX10_init_48 : decode cX10_init 48 = .ok (.return_, 1) := by decide +kernel
theorem dX10_append_0 : decode cX10_append 0 = .ok (.iload_n 1, 1) := by decide +kernel
theorem dX10_append_1 : decode cX10_append 1 = .ok (.iconst 0, 1) := by decide +kernel
theorem dX10_append_2 : decode cX10_append 2 = .ok (.bipush 127, 2) := by decide +kernel
theorem dX10_append_4 : decode cX10_append 4 = .ok (.invokestatic 33, 3) := by decide +kernel
theorem dX10_append_7 : decode cX10_append 7 = .ok (.ifCond .eq 13, 3) := by decide +kernel
theorem dX10_append_10 : decode cX10_append 10 = .ok (.iload_n 2, 1) := by decide +kernel
theorem dX10_append_11 : decode cX10_append 11 = .ok (.iconst 1, 1) := by decide +kernel
theorem dX10_append_12 : decode cX10_append 12 = .ok (.bipush 90, 2) := by decide +kernel
theorem dX10_append_14 : decode cX10_append 14 = .ok (.invokestatic 33, 3) := by decide +kernel
theorem dX10_append_17 : decode cX10_append 17 = .ok (.ifCond .ne 6, 3) := by decide +kernel
theorem dX10_append_20 : decode cX10_append 20 = .ok (.bipush (-2), 2) := by decide +kernel
theorem dX10_append_22 : decode cX10_append 22 = .ok (.ireturn, 1) := by decide +kernel
theorem dX10_append_23 : decode cX10_append 23 = .ok (.aload_n 0, 1) := by decide +kernel
theorem dX10_append_24 : decode cX10_append 24 = .ok (.getfield 22, 3) := by decide +kernel
theorem dX10_append_27 : decode cX10_append 27 = .ok (.iload_n 2, 1) := by decide +kernel
theorem dX10_append_28 : decode cX10_append 28 = .ok (.invokevirtual 37, 3) := by decide +kernel
theorem dX10_append_31 : decode cX10_append 31 = .ok (.ifCond .ne 6, 3) := by decide +kernel
theorem dX10_append_34 : decode cX10_append 34 = .ok (.bipush (-3), 2) := by decide +kernel
theorem dX10_append_36 : decode cX10_append 36 = .ok (.ireturn, 1) := by decide +kernel
theorem dX10_append_37 : decode cX10_append 37 = .ok (.aload_n 0, 1) := by decide +kernel
theorem dX10_append_38 : decode cX10_append 38 = .ok (.getfield 22, 3) := by decide +kernel
theorem dX10_append_41 : decode cX10_append 41 = .ok (.iload_n 1, 1) := by decide +kernel
theorem dX10_append_42 : decode cX10_append 42 = .ok (.i2c, 1) := by decide +kernel
theorem dX10_append_43 : decode cX10_append 43 = .ok (.iload_n 2, 1) := by decide +kernel
theorem dX10_append_44 : decode cX10_append 44 = .ok (.invokevirtual 41, 3) := by decide +kernel
theorem dX10_append_47 : decode cX10_append 47 = .ok (.aload_n 0, 1) := by decide +kernel
theorem dX10_append_48 : decode cX10_append 48 = .ok (.getfield 22, 3) := by decide +kernel
theorem dX10_append_51 : decode cX10_append 51 = .ok (.getfield 45, 3) := by decide +kernel
theorem dX10_append_54 : decode cX10_append 54 = .ok (.ireturn, 1) := by decide +kernel
theorem dX10_readPlan_0 : decode cX10_readPlan 0 = .ok (.aload_n 0, 1) := by decide +kernel
theorem dX10_readPlan_1 : decode cX10_readPlan 1 = .ok (.getfield 12, 3) := by decide +kernel
theorem dX10_readPlan_4 : decode cX10_readPlan 4 = .ok (.iload_n 1, 1) := by decide +kernel
theorem dX10_readPlan_5 : decode cX10_readPlan 5 = .ok (.invokevirtual 49, 3) := by decide +kernel
theorem dX10_readPlan_8 : decode cX10_readPlan 8 = .ok (.astore_n 2, 1) := by decide +kernel
theorem dX10_readPlan_9 : decode cX10_readPlan 9 = .ok (.aload_n 2, 1) := by decide +kernel
theorem dX10_readPlan_10 : decode cX10_readPlan 10 = .ok (.ifnull 17, 3) := by decide +kernel
theorem dX10_readPlan_13 : decode cX10_readPlan 13 = .ok (.aload_n 0, 1) := by decide +kernel
theorem dX10_readPlan_14 : decode cX10_readPlan 14 = .ok (.getfield 22, 3) := by decide +kernel
theorem dX10_readPlan_17 : decode cX10_readPlan 17 = .ok (.invokevirtual 53, 3) := by decide +kernel
theorem dX10_readPlan_20 : decode cX10_readPlan 20 = .ok (.ifCond .eq 7, 3) := by decide +kernel
theorem dX10_readPlan_23 : decode cX10_readPlan 23 = .ok (.iconst 1, 1) := by decide +kernel
theorem dX10_readPlan_24 : decode cX10_readPlan 24 = .ok (.goto 4, 3) := by decide +kernel
theorem dX10_readPlan_27 : decode cX10_readPlan 27 = .ok (.iconst 0, 1) := by decide +kernel
theorem dX10_readPlan_28 : decode cX10_readPlan 28 = .ok (.istore_n 3, 1) := by decide +kernel
theorem dX10_readPlan_29 : decode cX10_readPlan 29 = .ok (.aload_n 0, 1) := by decide +kernel
theorem dX10_readPlan_30 : decode cX10_readPlan 30 = .ok (.getfield 22, 3) := by decide +kernel
theorem dX10_readPlan_33 : decode cX10_readPlan 33 = .ok (.invokevirtual 57, 3) := by decide +kernel
theorem dX10_readPlan_36 : decode cX10_readPlan 36 = .ok (.aload_n 2, 1) := by decide +kernel
theorem dX10_readPlan_37 : decode cX10_readPlan 37 = .ok (.ifnonnull 6, 3) := by decide +kernel
theorem dX10_readPlan_40 : decode cX10_readPlan 40 = .ok (.bipush (-2), 2) := by decide +kernel
theorem dX10_readPlan_42 : decode cX10_readPlan 42 = .ok (.ireturn, 1) := by decide +kernel
theorem dX10_readPlan_43 : decode cX10_readPlan 43 = .ok (.iload_n 3, 1) := by decide +kernel
theorem dX10_readPlan_44 : decode cX10_readPlan 44 = .ok (.ifCond .ne 35, 3) := by decide +kernel
theorem dX10_readPlan_47 : decode cX10_readPlan 47 = .ok (.aload_n 0, 1) := by decide +kernel
theorem dX10_readPlan_48 : decode cX10_readPlan 48 = .ok (.getfield 29, 3) := by decide +kernel
theorem dX10_readPlan_51 : decode cX10_readPlan 51 = .ok (.iload_n 1, 1) := by decide +kernel
theorem dX10_readPlan_52 : decode cX10_readPlan 52 = .ok (.aload_n 0, 1) := by decide +kernel
theorem dX10_readPlan_53 : decode cX10_readPlan 53 = .ok (.getfield 22, 3) := by decide +kernel
theorem dX10_readPlan_56 : decode cX10_readPlan 56 = .ok (.getfield 60, 3) := by decide +kernel
theorem dX10_readPlan_59 : decode cX10_readPlan 59 = .ok (.aload_n 0, 1) := by decide +kernel
theorem dX10_readPlan_60 : decode cX10_readPlan 60 = .ok (.getfield 22, 3) := by decide +kernel
theorem dX10_readPlan_63 : decode cX10_readPlan 63 = .ok (.getfield 63, 3) := by decide +kernel
theorem dX10_readPlan_66 : decode cX10_readPlan 66 = .ok (.aload_n 0, 1) := by decide +kernel
theorem dX10_readPlan_67 : decode cX10_readPlan 67 = .ok (.getfield 22, 3) := by decide +kernel
theorem dX10_readPlan_70 : decode cX10_readPlan 70 = .ok (.getfield 66, 3) := by decide +kernel
theorem dX10_readPlan_73 : decode cX10_readPlan 73 = .ok (.invokevirtual 69, 3) := by decide +kernel
theorem dX10_readPlan_76 : decode cX10_readPlan 76 = .ok (.bipush (-5), 2) := by decide +kernel
theorem dX10_readPlan_78 : decode cX10_readPlan 78 = .ok (.ireturn, 1) := by decide +kernel
theorem dX10_readPlan_79 : decode cX10_readPlan 79 = .ok (.aload_n 2, 1) := by decide +kernel
theorem dX10_readPlan_80 : decode cX10_readPlan 80 = .ok (.aload_n 0, 1) := by decide +kernel
theorem dX10_readPlan_81 : decode cX10_readPlan 81 = .ok (.getfield 22, 3) := by decide +kernel
theorem dX10_readPlan_84 : decode cX10_readPlan 84 = .ok (.getfield 73, 3) := by decide +kernel
theorem dX10_readPlan_87 : decode cX10_readPlan 87 = .ok (.invokevirtual 77, 3) := by decide +kernel
theorem dX10_readPlan_90 : decode cX10_readPlan 90 = .ok (.aload_n 2, 1) := by decide +kernel
theorem dX10_readPlan_91 : decode cX10_readPlan 91 = .ok (.getfield 83, 3) := by decide +kernel
theorem dX10_readPlan_94 : decode cX10_readPlan 94 = .ok (.ireturn, 1) := by decide +kernel
theorem dX10_plan_0 : decode cX10_plan 0 = .ok (.aload_n 0, 1) := by decide +kernel
theorem dX10_plan_1 : decode cX10_plan 1 = .ok (.getfield 12, 3) := by decide +kernel
theorem dX10_plan_4 : decode cX10_plan 4 = .ok (.iload_n 1, 1) := by decide +kernel
theorem dX10_plan_5 : decode cX10_plan 5 = .ok (.invokevirtual 49, 3) := by decide +kernel
theorem dX10_plan_8 : decode cX10_plan 8 = .ok (.astore_n 3, 1) := by decide +kernel
theorem dX10_plan_9 : decode cX10_plan 9 = .ok (.aload_n 3, 1) := by decide +kernel
theorem dX10_plan_10 : decode cX10_plan 10 = .ok (.ifnull 12, 3) := by decide +kernel
theorem dX10_plan_13 : decode cX10_plan 13 = .ok (.iload_n 2, 1) := by decide +kernel
theorem dX10_plan_14 : decode cX10_plan 14 = .ok (.iconst 0, 1) := by decide +kernel
theorem dX10_plan_15 : decode cX10_plan 15 = .ok (.iconst 4, 1) := by decide +kernel
theorem dX10_plan_16 : decode cX10_plan 16 = .ok (.invokestatic 33, 3) := by decide +kernel
theorem dX10_plan_19 : decode cX10_plan 19 = .ok (.ifCond .ne 6, 3) := by decide +kernel
theorem dX10_plan_22 : decode cX10_plan 22 = .ok (.bipush (-2), 2) := by decide +kernel
theorem dX10_plan_24 : decode cX10_plan 24 = .ok (.ireturn, 1) := by decide +kernel
theorem dX10_plan_25 : decode cX10_plan 25 = .ok (.aload_n 3, 1) := by decide +kernel
theorem dX10_plan_26 : decode cX10_plan 26 = .ok (.iload_n 2, 1) := by decide +kernel
theorem dX10_plan_27 : decode cX10_plan 27 = .ok (.invokevirtual 86, 3) := by decide +kernel
theorem dX10_plan_30 : decode cX10_plan 30 = .ok (.ireturn, 1) := by decide +kernel
theorem dX10_band_0 : decode cX10_band 0 = .ok (.aload_n 0, 1) := by decide +kernel
theorem dX10_band_1 : decode cX10_band 1 = .ok (.getfield 12, 3) := by decide +kernel
theorem dX10_band_4 : decode cX10_band 4 = .ok (.iload_n 1, 1) := by decide +kernel
theorem dX10_band_5 : decode cX10_band 5 = .ok (.invokevirtual 49, 3) := by decide +kernel
theorem dX10_band_8 : decode cX10_band 8 = .ok (.astore 4, 2) := by decide +kernel
theorem dX10_band_10 : decode cX10_band 10 = .ok (.aload 4, 2) := by decide +kernel
theorem dX10_band_12 : decode cX10_band 12 = .ok (.ifnull 12, 3) := by decide +kernel
theorem dX10_band_15 : decode cX10_band 15 = .ok (.iload_n 3, 1) := by decide +kernel
theorem dX10_band_16 : decode cX10_band 16 = .ok (.iconst 0, 1) := by decide +kernel
theorem dX10_band_17 : decode cX10_band 17 = .ok (.iconst 2, 1) := by decide +kernel
theorem dX10_band_18 : decode cX10_band 18 = .ok (.invokestatic 33, 3) := by decide +kernel
theorem dX10_band_21 : decode cX10_band 21 = .ok (.ifCond .ne 6, 3) := by decide +kernel
theorem dX10_band_24 : decode cX10_band 24 = .ok (.bipush (-2), 2) := by decide +kernel
theorem dX10_band_26 : decode cX10_band 26 = .ok (.ireturn, 1) := by decide +kernel
theorem dX10_band_27 : decode cX10_band 27 = .ok (.aload 4, 2) := by decide +kernel
theorem dX10_band_29 : decode cX10_band 29 = .ok (.iload_n 2, 1) := by decide +kernel
theorem dX10_band_30 : decode cX10_band 30 = .ok (.invokevirtual 90, 3) := by decide +kernel
theorem dX10_band_33 : decode cX10_band 33 = .ok (.astore 5, 2) := by decide +kernel
theorem dX10_band_35 : decode cX10_band 35 = .ok (.aload 5, 2) := by decide +kernel
theorem dX10_band_37 : decode cX10_band 37 = .ok (.ifnonnull 7, 3) := by decide +kernel
theorem dX10_band_40 : decode cX10_band 40 = .ok (.iconst (-1), 1) := by decide +kernel
theorem dX10_band_41 : decode cX10_band 41 = .ok (.goto 9, 3) := by decide +kernel
theorem dX10_band_44 : decode cX10_band 44 = .ok (.aload 5, 2) := by decide +kernel
theorem dX10_band_46 : decode cX10_band 46 = .ok (.iload_n 3, 1) := by decide +kernel
theorem dX10_band_47 : decode cX10_band 47 = .ok (.invokevirtual 94, 3) := by decide +kernel
theorem dX10_band_50 : decode cX10_band 50 = .ok (.ireturn, 1) := by decide +kernel
theorem dX10_fee_0 : decode cX10_fee 0 = .ok (.aload_n 0, 1) := by decide +kernel
theorem dX10_fee_1 : decode cX10_fee 1 = .ok (.getfield 12, 3) := by decide +kernel
theorem dX10_fee_4 : decode cX10_fee 4 = .ok (.iload_n 1, 1) := by decide +kernel
theorem dX10_fee_5 : decode cX10_fee 5 = .ok (.invokevirtual 49, 3) := by decide +kernel
theorem dX10_fee_8 : decode cX10_fee 8 = .ok (.astore 4, 2) := by decide +kernel
theorem dX10_fee_10 : decode cX10_fee 10 = .ok (.aload 4, 2) := by decide +kernel
theorem dX10_fee_12 : decode cX10_fee 12 = .ok (.ifnull 11, 3) := by decide +kernel
theorem dX10_fee_15 : decode cX10_fee 15 = .ok (.iload_n 2, 1) := by decide +kernel
theorem dX10_fee_16 : decode cX10_fee 16 = .ok (.iload_n 3, 1) := by decide +kernel
theorem dX10_fee_17 : decode cX10_fee 17 = .ok (.invokestatic 97, 3) := by decide +kernel
theorem dX10_fee_20 : decode cX10_fee 20 = .ok (.ifCond .ne 6, 3) := by decide +kernel
theorem dX10_fee_23 : decode cX10_fee 23 = .ok (.bipush (-2), 2) := by decide +kernel
theorem dX10_fee_25 : decode cX10_fee 25 = .ok (.ireturn, 1) := by decide +kernel
theorem dX10_fee_26 : decode cX10_fee 26 = .ok (.aload 4, 2) := by decide +kernel
theorem dX10_fee_28 : decode cX10_fee 28 = .ok (.iload_n 2, 1) := by decide +kernel
theorem dX10_fee_29 : decode cX10_fee 29 = .ok (.iload_n 3, 1) := by decide +kernel
theorem dX10_fee_30 : decode cX10_fee 30 = .ok (.invokevirtual 101, 3) := by decide +kernel
theorem dX10_fee_33 : decode cX10_fee 33 = .ok (.ireturn, 1) := by decide +kernel
theorem dX10_unit_0 : decode cX10_unit 0 = .ok (.aload_n 0, 1) := by decide +kernel
theorem dX10_unit_1 : decode cX10_unit 1 = .ok (.getfield 12, 3) := by decide +kernel
theorem dX10_unit_4 : decode cX10_unit 4 = .ok (.iload_n 1, 1) := by decide +kernel
theorem dX10_unit_5 : decode cX10_unit 5 = .ok (.invokevirtual 49, 3) := by decide +kernel
theorem dX10_unit_8 : decode cX10_unit 8 = .ok (.astore 5, 2) := by decide +kernel
theorem dX10_unit_10 : decode cX10_unit 10 = .ok (.aload 5, 2) := by decide +kernel
theorem dX10_unit_12 : decode cX10_unit 12 = .ok (.ifnull 13, 3) := by decide +kernel
theorem dX10_unit_15 : decode cX10_unit 15 = .ok (.iload_n 2, 1) := by decide +kernel
theorem dX10_unit_16 : decode cX10_unit 16 = .ok (.iconst 0, 1) := by decide +kernel
theorem dX10_unit_17 : decode cX10_unit 17 = .ok (.ldc 105, 2) := by decide +kernel
theorem dX10_unit_19 : decode cX10_unit 19 = .ok (.invokestatic 33, 3) := by decide +kernel
theorem dX10_unit_22 : decode cX10_unit 22 = .ok (.ifCond .ne 6, 3) := by decide +kernel
theorem dX10_unit_25 : decode cX10_unit 25 = .ok (.bipush (-2), 2) := by decide +kernel
theorem dX10_unit_27 : decode cX10_unit 27 = .ok (.ireturn, 1) := by decide +kernel
theorem dX10_unit_28 : decode cX10_unit 28 = .ok (.iload_n 3, 1) := by decide +kernel
theorem dX10_unit_29 : decode cX10_unit 29 = .ok (.iconst 0, 1) := by decide +kernel
theorem dX10_unit_30 : decode cX10_unit 30 = .ok (.bipush 99, 2) := by decide +kernel
theorem dX10_unit_32 : decode cX10_unit 32 = .ok (.invokestatic 33, 3) := by decide +kernel
theorem dX10_unit_35 : decode cX10_unit 35 = .ok (.ifCond .eq 13, 3) := by decide +kernel
theorem dX10_unit_38 : decode cX10_unit 38 = .ok (.iload 4, 2) := by decide +kernel
theorem dX10_unit_40 : decode cX10_unit 40 = .ok (.iconst 0, 1) := by decide +kernel
theorem dX10_unit_41 : decode cX10_unit 41 = .ok (.iconst 2, 1) := by decide +kernel
theorem dX10_unit_42 : decode cX10_unit 42 = .ok (.invokestatic 33, 3) := by decide +kernel
theorem dX10_unit_45 : decode cX10_unit 45 = .ok (.ifCond .ne 6, 3) := by decide +kernel
theorem dX10_unit_48 : decode cX10_unit 48 = .ok (.bipush (-2), 2) := by decide +kernel
theorem dX10_unit_50 : decode cX10_unit 50 = .ok (.ireturn, 1) := by decide +kernel
theorem dX10_unit_51 : decode cX10_unit 51 = .ok (.aload 5, 2) := by decide +kernel
theorem dX10_unit_53 : decode cX10_unit 53 = .ok (.iload_n 2, 1) := by decide +kernel
theorem dX10_unit_54 : decode cX10_unit 54 = .ok (.iload_n 3, 1) := by decide +kernel
theorem dX10_unit_55 : decode cX10_unit 55 = .ok (.iload 4, 2) := by decide +kernel
theorem dX10_unit_57 : decode cX10_unit 57 = .ok (.invokevirtual 106, 3) := by decide +kernel
theorem dX10_unit_60 : decode cX10_unit 60 = .ok (.ireturn, 1) := by decide +kernel
theorem dX10_extend_0 : decode cX10_extend 0 = .ok (.aload_n 0, 1) := by decide +kernel
theorem dX10_extend_1 : decode cX10_extend 1 = .ok (.getfield 12, 3) := by decide +kernel
theorem dX10_extend_4 : decode cX10_extend 4 = .ok (.iload_n 1, 1) := by decide +kernel
theorem dX10_extend_5 : decode cX10_extend 5 = .ok (.invokevirtual 49, 3) := by decide +kernel
theorem dX10_extend_8 : decode cX10_extend 8 = .ok (.astore 4, 2) := by decide +kernel
theorem dX10_extend_10 : decode cX10_extend 10 = .ok (.aload 4, 2) := by decide +kernel
theorem dX10_extend_12 : decode cX10_extend 12 = .ok (.ifnull 11, 3) := by decide +kernel
theorem dX10_extend_15 : decode cX10_extend 15 = .ok (.iload_n 2, 1) := by decide +kernel
theorem dX10_extend_16 : decode cX10_extend 16 = .ok (.iload_n 3, 1) := by decide +kernel
theorem dX10_extend_17 : decode cX10_extend 17 = .ok (.invokestatic 97, 3) := by decide +kernel
theorem dX10_extend_20 : decode cX10_extend 20 = .ok (.ifCond .ne 6, 3) := by decide +kernel
theorem dX10_extend_23 : decode cX10_extend 23 = .ok (.bipush (-2), 2) := by decide +kernel
theorem dX10_extend_25 : decode cX10_extend 25 = .ok (.ireturn, 1) := by decide +kernel
theorem dX10_extend_26 : decode cX10_extend 26 = .ok (.aload 4, 2) := by decide +kernel
theorem dX10_extend_28 : decode cX10_extend 28 = .ok (.iload_n 2, 1) := by decide +kernel
theorem dX10_extend_29 : decode cX10_extend 29 = .ok (.iload_n 3, 1) := by decide +kernel
theorem dX10_extend_30 : decode cX10_extend 30 = .ok (.invokevirtual 110, 3) := by decide +kernel
theorem dX10_extend_33 : decode cX10_extend 33 = .ok (.ireturn, 1) := by decide +kernel
theorem dX10_addVoucher_0 : decode cX10_addVoucher 0 = .ok (.iload_n 1, 1) := by decide +kernel
theorem dX10_addVoucher_1 : decode cX10_addVoucher 1 = .ok (.iconst 0, 1) := by decide +kernel
theorem dX10_addVoucher_2 : decode cX10_addVoucher 2 = .ok (.iconst 3, 1) := by decide +kernel
theorem dX10_addVoucher_3 : decode cX10_addVoucher 3 = .ok (.invokestatic 33, 3) := by decide +kernel
theorem dX10_addVoucher_6 : decode cX10_addVoucher 6 = .ok (.ifCond .ne 6, 3) := by decide +kernel
theorem dX10_addVoucher_9 : decode cX10_addVoucher 9 = .ok (.bipush (-2), 2) := by decide +kernel
theorem dX10_addVoucher_11 : decode cX10_addVoucher 11 = .ok (.ireturn, 1) := by decide +kernel
theorem dX10_addVoucher_12 : decode cX10_addVoucher 12 = .ok (.iload_n 2, 1) := by decide +kernel
theorem dX10_addVoucher_13 : decode cX10_addVoucher 13 = .ok (.iconst 0, 1) := by decide +kernel
theorem dX10_addVoucher_14 : decode cX10_addVoucher 14 = .ok (.iload_n 1, 1) := by decide +kernel
theorem dX10_addVoucher_15 : decode cX10_addVoucher 15 = .ok (.iconst 1, 1) := by decide +kernel
theorem dX10_addVoucher_16 : decode cX10_addVoucher 16 = .ok (.if_icmp .ne 8, 3) := by decide +kernel
theorem dX10_addVoucher_19 : decode cX10_addVoucher 19 = .ok (.bipush 100, 2) := by decide +kernel
theorem dX10_addVoucher_21 : decode cX10_addVoucher 21 = .ok (.goto 6, 3) := by decide +kernel
theorem dX10_addVoucher_24 : decode cX10_addVoucher 24 = .ok (.sipush 999, 3) := by decide +kernel
theorem dX10_addVoucher_27 : decode cX10_addVoucher 27 = .ok (.invokestatic 33, 3) := by decide +kernel
theorem dX10_addVoucher_30 : decode cX10_addVoucher 30 = .ok (.ifCond .ne 6, 3) := by decide +kernel
theorem dX10_addVoucher_33 : decode cX10_addVoucher 33 = .ok (.bipush (-2), 2) := by decide +kernel
theorem dX10_addVoucher_35 : decode cX10_addVoucher 35 = .ok (.ireturn, 1) := by decide +kernel
theorem dX10_addVoucher_36 : decode cX10_addVoucher 36 = .ok (.aload_n 0, 1) := by decide +kernel
theorem dX10_addVoucher_37 : decode cX10_addVoucher 37 = .ok (.getfield 12, 3) := by decide +kernel
theorem dX10_addVoucher_40 : decode cX10_addVoucher 40 = .ok (.iload_n 1, 1) := by decide +kernel
theorem dX10_addVoucher_41 : decode cX10_addVoucher 41 = .ok (.iload_n 2, 1) := by decide +kernel
theorem dX10_addVoucher_42 : decode cX10_addVoucher 42 = .ok (.invokevirtual 113, 3) := by decide +kernel
theorem dX10_addVoucher_45 : decode cX10_addVoucher 45 = .ok (.ireturn, 1) := by decide +kernel
theorem dX10_voucher_0 : decode cX10_voucher 0 = .ok (.aload_n 0, 1) := by decide +kernel
theorem dX10_voucher_1 : decode cX10_voucher 1 = .ok (.getfield 12, 3) := by decide +kernel
theorem dX10_voucher_4 : decode cX10_voucher 4 = .ok (.iload_n 1, 1) := by decide +kernel
theorem dX10_voucher_5 : decode cX10_voucher 5 = .ok (.invokevirtual 116, 3) := by decide +kernel
theorem dX10_voucher_8 : decode cX10_voucher 8 = .ok (.astore_n 3, 1) := by decide +kernel
theorem dX10_voucher_9 : decode cX10_voucher 9 = .ok (.aload_n 3, 1) := by decide +kernel
theorem dX10_voucher_10 : decode cX10_voucher 10 = .ok (.ifnonnull 5, 3) := by decide +kernel
theorem dX10_voucher_13 : decode cX10_voucher 13 = .ok (.iconst (-1), 1) := by decide +kernel
theorem dX10_voucher_14 : decode cX10_voucher 14 = .ok (.ireturn, 1) := by decide +kernel
theorem dX10_voucher_15 : decode cX10_voucher 15 = .ok (.iload_n 2, 1) := by decide +kernel
theorem dX10_voucher_16 : decode cX10_voucher 16 = .ok (.iconst 0, 1) := by decide +kernel
theorem dX10_voucher_17 : decode cX10_voucher 17 = .ok (.iconst 2, 1) := by decide +kernel
theorem dX10_voucher_18 : decode cX10_voucher 18 = .ok (.invokestatic 33, 3) := by decide +kernel
theorem dX10_voucher_21 : decode cX10_voucher 21 = .ok (.ifCond .eq 11, 3) := by decide +kernel
theorem dX10_voucher_24 : decode cX10_voucher 24 = .ok (.aload_n 3, 1) := by decide +kernel
theorem dX10_voucher_25 : decode cX10_voucher 25 = .ok (.iload_n 2, 1) := by decide +kernel
theorem dX10_voucher_26 : decode cX10_voucher 26 = .ok (.invokevirtual 120, 3) := by decide +kernel
theorem dX10_voucher_29 : decode cX10_voucher 29 = .ok (.goto 5, 3) := by decide +kernel
theorem dX10_voucher_32 : decode cX10_voucher 32 = .ok (.bipush (-2), 2) := by decide +kernel
theorem dX10_voucher_34 : decode cX10_voucher 34 = .ok (.ireturn, 1) := by decide +kernel
theorem dX10_makeFolder_0 : decode cX10_makeFolder 0 = .ok (.iload_n 1, 1) := by decide +kernel
theorem dX10_makeFolder_1 : decode cX10_makeFolder 1 = .ok (.iconst 0, 1) := by decide +kernel
theorem dX10_makeFolder_2 : decode cX10_makeFolder 2 = .ok (.iconst 2, 1) := by decide +kernel
theorem dX10_makeFolder_3 : decode cX10_makeFolder 3 = .ok (.invokestatic 33, 3) := by decide +kernel
theorem dX10_makeFolder_6 : decode cX10_makeFolder 6 = .ok (.ifCond .eq 12, 3) := by decide +kernel
theorem dX10_makeFolder_9 : decode cX10_makeFolder 9 = .ok (.iload_n 2, 1) := by decide +kernel
theorem dX10_makeFolder_10 : decode cX10_makeFolder 10 = .ok (.iconst (-1), 1) := by decide +kernel
theorem dX10_makeFolder_11 : decode cX10_makeFolder 11 = .ok (.iconst 3, 1) := by decide +kernel
theorem dX10_makeFolder_12 : decode cX10_makeFolder 12 = .ok (.invokestatic 33, 3) := by decide +kernel
theorem dX10_makeFolder_15 : decode cX10_makeFolder 15 = .ok (.ifCond .ne 6, 3) := by decide +kernel
theorem dX10_makeFolder_18 : decode cX10_makeFolder 18 = .ok (.bipush (-2), 2) := by decide +kernel
theorem dX10_makeFolder_20 : decode cX10_makeFolder 20 = .ok (.ireturn, 1) := by decide +kernel
theorem dX10_makeFolder_21 : decode cX10_makeFolder 21 = .ok (.iload_n 3, 1) := by decide +kernel
theorem dX10_makeFolder_22 : decode cX10_makeFolder 22 = .ok (.iconst 1, 1) := by decide +kernel
theorem dX10_makeFolder_23 : decode cX10_makeFolder 23 = .ok (.iconst 5, 1) := by decide +kernel
theorem dX10_makeFolder_24 : decode cX10_makeFolder 24 = .ok (.invokestatic 33, 3) := by decide +kernel
theorem dX10_makeFolder_27 : decode cX10_makeFolder 27 = .ok (.ifCond .ne 6, 3) := by decide +kernel
theorem dX10_makeFolder_30 : decode cX10_makeFolder 30 = .ok (.bipush (-2), 2) := by decide +kernel
theorem dX10_makeFolder_32 : decode cX10_makeFolder 32 = .ok (.ireturn, 1) := by decide +kernel
theorem dX10_makeFolder_33 : decode cX10_makeFolder 33 = .ok (.aload_n 0, 1) := by decide +kernel
theorem dX10_makeFolder_34 : decode cX10_makeFolder 34 = .ok (.getfield 12, 3) := by decide +kernel
theorem dX10_makeFolder_37 : decode cX10_makeFolder 37 = .ok (.getfield 123, 3) := by decide +kernel
theorem dX10_makeFolder_40 : decode cX10_makeFolder 40 = .ok (.iload_n 1, 1) := by decide +kernel
theorem dX10_makeFolder_41 : decode cX10_makeFolder 41 = .ok (.aaload, 1) := by decide +kernel
theorem dX10_makeFolder_42 : decode cX10_makeFolder 42 = .ok (.iload_n 2, 1) := by decide +kernel
theorem dX10_makeFolder_43 : decode cX10_makeFolder 43 = .ok (.iload_n 3, 1) := by decide +kernel
theorem dX10_makeFolder_44 : decode cX10_makeFolder 44 = .ok (.invokevirtual 127, 3) := by decide +kernel
theorem dX10_makeFolder_47 : decode cX10_makeFolder 47 = .ok (.iload_n 3, 1) := by decide +kernel
theorem dX10_makeFolder_48 : decode cX10_makeFolder 48 = .ok (.ireturn, 1) := by decide +kernel
theorem dX10_put_0 : decode cX10_put 0 = .ok (.aload_n 0, 1) := by decide +kernel
theorem dX10_put_1 : decode cX10_put 1 = .ok (.getfield 12, 3) := by decide +kernel
theorem dX10_put_4 : decode cX10_put 4 = .ok (.iload_n 1, 1) := by decide +kernel
theorem dX10_put_5 : decode cX10_put 5 = .ok (.invokevirtual 133, 3) := by decide +kernel
theorem dX10_put_8 : decode cX10_put 8 = .ok (.astore 4, 2) := by decide +kernel
theorem dX10_put_10 : decode cX10_put 10 = .ok (.aload_n 0, 1) := by decide +kernel
theorem dX10_put_11 : decode cX10_put 11 = .ok (.getfield 12, 3) := by decide +kernel
theorem dX10_put_14 : decode cX10_put 14 = .ok (.iload_n 3, 1) := by decide +kernel
theorem dX10_put_15 : decode cX10_put 15 = .ok (.invokevirtual 116, 3) := by decide +kernel
theorem dX10_put_18 : decode cX10_put 18 = .ok (.astore 5, 2) := by decide +kernel
theorem dX10_put_20 : decode cX10_put 20 = .ok (.aload 4, 2) := by decide +kernel
theorem dX10_put_22 : decode cX10_put 22 = .ok (.ifnull 17, 3) := by decide +kernel
theorem dX10_put_25 : decode cX10_put 25 = .ok (.aload 5, 2) := by decide +kernel
theorem dX10_put_27 : decode cX10_put 27 = .ok (.ifnull 12, 3) := by decide +kernel
theorem dX10_put_30 : decode cX10_put 30 = .ok (.aload 4, 2) := by decide +kernel
theorem dX10_put_32 : decode cX10_put 32 = .ok (.iload_n 2, 1) := by decide +kernel
theorem dX10_put_33 : decode cX10_put 33 = .ok (.invokevirtual 137, 3) := by decide +kernel
theorem dX10_put_36 : decode cX10_put 36 = .ok (.ifCond .ne 5, 3) := by decide +kernel
theorem dX10_put_39 : decode cX10_put 39 = .ok (.iconst (-1), 1) := by decide +kernel
theorem dX10_put_40 : decode cX10_put 40 = .ok (.ireturn, 1) := by decide +kernel
theorem dX10_put_41 : decode cX10_put 41 = .ok (.aload 4, 2) := by decide +kernel
theorem dX10_put_43 : decode cX10_put 43 = .ok (.aload 5, 2) := by decide +kernel
theorem dX10_put_45 : decode cX10_put 45 = .ok (.getfield 140, 3) := by decide +kernel
theorem dX10_put_48 : decode cX10_put 48 = .ok (.invokevirtual 143, 3) := by decide +kernel
theorem dX10_put_51 : decode cX10_put 51 = .ok (.ifCond .ne 6, 3) := by decide +kernel
theorem dX10_put_54 : decode cX10_put 54 = .ok (.bipush (-6), 2) := by decide +kernel
theorem dX10_put_56 : decode cX10_put 56 = .ok (.ireturn, 1) := by decide +kernel
theorem dX10_put_57 : decode cX10_put 57 = .ok (.aload 4, 2) := by decide +kernel
theorem dX10_put_59 : decode cX10_put 59 = .ok (.iload_n 2, 1) := by decide +kernel
theorem dX10_put_60 : decode cX10_put 60 = .ok (.iload_n 3, 1) := by decide +kernel
theorem dX10_put_61 : decode cX10_put 61 = .ok (.invokevirtual 146, 3) := by decide +kernel
theorem dX10_put_64 : decode cX10_put 64 = .ok (.aload 4, 2) := by decide +kernel
theorem dX10_put_66 : decode cX10_put 66 = .ok (.invokevirtual 149, 3) := by decide +kernel
theorem dX10_put_69 : decode cX10_put 69 = .ok (.ireturn, 1) := by decide +kernel
theorem dX10_inFolder_0 : decode cX10_inFolder 0 = .ok (.aload_n 0, 1) := by decide +kernel
theorem dX10_inFolder_1 : decode cX10_inFolder 1 = .ok (.getfield 12, 3) := by decide +kernel
theorem dX10_inFolder_4 : decode cX10_inFolder 4 = .ok (.iload_n 1, 1) := by decide +kernel
theorem dX10_inFolder_5 : decode cX10_inFolder 5 = .ok (.iload_n 2, 1) := by decide +kernel
theorem dX10_inFolder_6 : decode cX10_inFolder 6 = .ok (.invokevirtual 153, 3) := by decide +kernel
theorem dX10_inFolder_9 : decode cX10_inFolder 9 = .ok (.ireturn, 1) := by decide +kernel
theorem dX10_enter_0 : decode cX10_enter 0 = .ok (.aload_n 0, 1) := by decide +kernel
theorem dX10_enter_1 : decode cX10_enter 1 = .ok (.getfield 12, 3) := by decide +kernel
theorem dX10_enter_4 : decode cX10_enter 4 = .ok (.iload_n 1, 1) := by decide +kernel
theorem dX10_enter_5 : decode cX10_enter 5 = .ok (.invokevirtual 49, 3) := by decide +kernel
theorem dX10_enter_8 : decode cX10_enter 8 = .ok (.ifnonnull 6, 3) := by decide +kernel
theorem dX10_enter_11 : decode cX10_enter 11 = .ok (.bipush (-2), 2) := by decide +kernel
theorem dX10_enter_13 : decode cX10_enter 13 = .ok (.ireturn, 1) := by decide +kernel
theorem dX10_enter_14 : decode cX10_enter 14 = .ok (.aload_n 0, 1) := by decide +kernel
theorem dX10_enter_15 : decode cX10_enter 15 = .ok (.getfield 12, 3) := by decide +kernel
theorem dX10_enter_18 : decode cX10_enter 18 = .ok (.iload_n 1, 1) := by decide +kernel
theorem dX10_enter_19 : decode cX10_enter 19 = .ok (.invokevirtual 156, 3) := by decide +kernel
theorem dX10_enter_22 : decode cX10_enter 22 = .ok (.ireturn, 1) := by decide +kernel
theorem dX10_give_0 : decode cX10_give 0 = .ok (.aload_n 0, 1) := by decide +kernel
theorem dX10_give_1 : decode cX10_give 1 = .ok (.getfield 12, 3) := by decide +kernel
theorem dX10_give_4 : decode cX10_give 4 = .ok (.iload_n 1, 1) := by decide +kernel
theorem dX10_give_5 : decode cX10_give 5 = .ok (.invokevirtual 159, 3) := by decide +kernel
theorem dX10_give_8 : decode cX10_give 8 = .ok (.astore 4, 2) := by decide +kernel
theorem dX10_give_10 : decode cX10_give 10 = .ok (.aload_n 0, 1) := by decide +kernel
theorem dX10_give_11 : decode cX10_give 11 = .ok (.getfield 12, 3) := by decide +kernel
theorem dX10_give_14 : decode cX10_give 14 = .ok (.iload_n 2, 1) := by decide +kernel
theorem dX10_give_15 : decode cX10_give 15 = .ok (.iload_n 3, 1) := by decide +kernel
theorem dX10_give_16 : decode cX10_give 16 = .ok (.invokevirtual 153, 3) := by decide +kernel
theorem dX10_give_19 : decode cX10_give 19 = .ok (.istore 5, 2) := by decide +kernel
theorem dX10_give_21 : decode cX10_give 21 = .ok (.aload_n 0, 1) := by decide +kernel
theorem dX10_give_22 : decode cX10_give 22 = .ok (.getfield 12, 3) := by decide +kernel
theorem dX10_give_25 : decode cX10_give 25 = .ok (.iload 5, 2) := by decide +kernel
theorem dX10_give_27 : decode cX10_give 27 = .ok (.invokevirtual 116, 3) := by decide +kernel
theorem dX10_give_30 : decode cX10_give 30 = .ok (.astore 6, 2) := by decide +kernel
theorem dX10_give_32 : decode cX10_give 32 = .ok (.aload 4, 2) := by decide +kernel
theorem dX10_give_34 : decode cX10_give 34 = .ok (.ifnull 8, 3) := by decide +kernel
theorem dX10_give_37 : decode cX10_give 37 = .ok (.aload 6, 2) := by decide +kernel
theorem dX10_give_39 : decode cX10_give 39 = .ok (.ifnonnull 5, 3) := by decide +kernel
theorem dX10_give_42 : decode cX10_give 42 = .ok (.iconst (-1), 1) := by decide +kernel
theorem dX10_give_43 : decode cX10_give 43 = .ok (.ireturn, 1) := by decide +kernel
theorem dX10_give_44 : decode cX10_give 44 = .ok (.aload 4, 2) := by decide +kernel
theorem dX10_give_46 : decode cX10_give 46 = .ok (.getfield 163, 3) := by decide +kernel
theorem dX10_give_49 : decode cX10_give 49 = .ok (.ifCond .eq 6, 3) := by decide +kernel
theorem dX10_give_52 : decode cX10_give 52 = .ok (.bipush (-4), 2) := by decide +kernel
theorem dX10_give_54 : decode cX10_give 54 = .ok (.ireturn, 1) := by decide +kernel
theorem dX10_give_55 : decode cX10_give 55 = .ok (.aload 4, 2) := by decide +kernel
theorem dX10_give_57 : decode cX10_give 57 = .ok (.invokevirtual 169, 3) := by decide +kernel
theorem dX10_give_60 : decode cX10_give 60 = .ok (.ifCond .ne 6, 3) := by decide +kernel
theorem dX10_give_63 : decode cX10_give 63 = .ok (.bipush (-3), 2) := by decide +kernel
theorem dX10_give_65 : decode cX10_give 65 = .ok (.ireturn, 1) := by decide +kernel
theorem dX10_give_66 : decode cX10_give 66 = .ok (.aload 4, 2) := by decide +kernel
theorem dX10_give_68 : decode cX10_give 68 = .ok (.iload 5, 2) := by decide +kernel
theorem dX10_give_70 : decode cX10_give 70 = .ok (.invokevirtual 172, 3) := by decide +kernel
theorem dX10_give_73 : decode cX10_give 73 = .ok (.aload 6, 2) := by decide +kernel
theorem dX10_give_75 : decode cX10_give 75 = .ok (.dup, 1) := by decide +kernel
theorem dX10_give_76 : decode cX10_give 76 = .ok (.getfield 176, 3) := by decide +kernel
theorem dX10_give_79 : decode cX10_give 79 = .ok (.iconst 1, 1) := by decide +kernel
theorem dX10_give_80 : decode cX10_give 80 = .ok (.iadd, 1) := by decide +kernel
theorem dX10_give_81 : decode cX10_give 81 = .ok (.putfield 176, 3) := by decide +kernel
theorem dX10_give_84 : decode cX10_give 84 = .ok (.aload 4, 2) := by decide +kernel
theorem dX10_give_86 : decode cX10_give 86 = .ok (.getfield 179, 3) := by decide +kernel
theorem dX10_give_89 : decode cX10_give 89 = .ok (.ireturn, 1) := by decide +kernel
theorem dX10_lose_0 : decode cX10_lose 0 = .ok (.aload_n 0, 1) := by decide +kernel
theorem dX10_lose_1 : decode cX10_lose 1 = .ok (.getfield 12, 3) := by decide +kernel
theorem dX10_lose_4 : decode cX10_lose 4 = .ok (.iload_n 1, 1) := by decide +kernel
theorem dX10_lose_5 : decode cX10_lose 5 = .ok (.invokevirtual 159, 3) := by decide +kernel
theorem dX10_lose_8 : decode cX10_lose 8 = .ok (.astore_n 2, 1) := by decide +kernel
theorem dX10_lose_9 : decode cX10_lose 9 = .ok (.aload_n 2, 1) := by decide +kernel
theorem dX10_lose_10 : decode cX10_lose 10 = .ok (.ifnonnull 5, 3) := by decide +kernel
theorem dX10_lose_13 : decode cX10_lose 13 = .ok (.iconst (-1), 1) := by decide +kernel
theorem dX10_lose_14 : decode cX10_lose 14 = .ok (.ireturn, 1) := by decide +kernel
theorem dX10_lose_15 : decode cX10_lose 15 = .ok (.aload_n 2, 1) := by decide +kernel
theorem dX10_lose_16 : decode cX10_lose 16 = .ok (.getfield 163, 3) := by decide +kernel
theorem dX10_lose_19 : decode cX10_lose 19 = .ok (.ifCond .eq 6, 3) := by decide +kernel
theorem dX10_lose_22 : decode cX10_lose 22 = .ok (.bipush (-4), 2) := by decide +kernel
theorem dX10_lose_24 : decode cX10_lose 24 = .ok (.ireturn, 1) := by decide +kernel
theorem dX10_lose_25 : decode cX10_lose 25 = .ok (.aload_n 2, 1) := by decide +kernel
theorem dX10_lose_26 : decode cX10_lose 26 = .ok (.iconst 1, 1) := by decide +kernel
theorem dX10_lose_27 : decode cX10_lose 27 = .ok (.putfield 163, 3) := by decide +kernel
theorem dX10_lose_30 : decode cX10_lose 30 = .ok (.aload_n 0, 1) := by decide +kernel
theorem dX10_lose_31 : decode cX10_lose 31 = .ok (.getfield 12, 3) := by decide +kernel
theorem dX10_lose_34 : decode cX10_lose 34 = .ok (.aload_n 2, 1) := by decide +kernel
theorem dX10_lose_35 : decode cX10_lose 35 = .ok (.aload_n 0, 1) := by decide +kernel
theorem dX10_lose_36 : decode cX10_lose 36 = .ok (.getfield 12, 3) := by decide +kernel
theorem dX10_lose_39 : decode cX10_lose 39 = .ok (.getfield 182, 3) := by decide +kernel
theorem dX10_lose_42 : decode cX10_lose 42 = .ok (.invokevirtual 185, 3) := by decide +kernel
theorem dX10_lose_45 : decode cX10_lose 45 = .ok (.ireturn, 1) := by decide +kernel
theorem dX10_due_0 : decode cX10_due 0 = .ok (.aload_n 0, 1) := by decide +kernel
theorem dX10_due_1 : decode cX10_due 1 = .ok (.getfield 12, 3) := by decide +kernel
theorem dX10_due_4 : decode cX10_due 4 = .ok (.iload_n 1, 1) := by decide +kernel
theorem dX10_due_5 : decode cX10_due 5 = .ok (.invokevirtual 159, 3) := by decide +kernel
theorem dX10_due_8 : decode cX10_due 8 = .ok (.astore_n 3, 1) := by decide +kernel
theorem dX10_due_9 : decode cX10_due 9 = .ok (.aload_n 3, 1) := by decide +kernel
theorem dX10_due_10 : decode cX10_due 10 = .ok (.ifnonnull 5, 3) := by decide +kernel
theorem dX10_due_13 : decode cX10_due 13 = .ok (.iconst (-1), 1) := by decide +kernel
theorem dX10_due_14 : decode cX10_due 14 = .ok (.ireturn, 1) := by decide +kernel
theorem dX10_due_15 : decode cX10_due 15 = .ok (.iload_n 2, 1) := by decide +kernel
theorem dX10_due_16 : decode cX10_due 16 = .ok (.aload_n 0, 1) := by decide +kernel
theorem dX10_due_17 : decode cX10_due 17 = .ok (.getfield 12, 3) := by decide +kernel
theorem dX10_due_20 : decode cX10_due 20 = .ok (.getfield 182, 3) := by decide +kernel
theorem dX10_due_23 : decode cX10_due 23 = .ok (.ldc 105, 2) := by decide +kernel
theorem dX10_due_25 : decode cX10_due 25 = .ok (.invokestatic 33, 3) := by decide +kernel
theorem dX10_due_28 : decode cX10_due 28 = .ok (.ifCond .ne 6, 3) := by decide +kernel
theorem dX10_due_31 : decode cX10_due 31 = .ok (.bipush (-2), 2) := by decide +kernel
theorem dX10_due_33 : decode cX10_due 33 = .ok (.ireturn, 1) := by decide +kernel
theorem dX10_due_34 : decode cX10_due 34 = .ok (.aload_n 0, 1) := by decide +kernel
theorem dX10_due_35 : decode cX10_due 35 = .ok (.getfield 12, 3) := by decide +kernel
theorem dX10_due_38 : decode cX10_due 38 = .ok (.aload_n 3, 1) := by decide +kernel
theorem dX10_due_39 : decode cX10_due 39 = .ok (.iload_n 2, 1) := by decide +kernel
theorem dX10_due_40 : decode cX10_due 40 = .ok (.invokevirtual 185, 3) := by decide +kernel
theorem dX10_due_43 : decode cX10_due 43 = .ok (.ireturn, 1) := by decide +kernel
theorem dX10_pay_0 : decode cX10_pay 0 = .ok (.aload_n 0, 1) := by decide +kernel
theorem dX10_pay_1 : decode cX10_pay 1 = .ok (.getfield 12, 3) := by decide +kernel
theorem dX10_pay_4 : decode cX10_pay 4 = .ok (.iload_n 1, 1) := by decide +kernel
theorem dX10_pay_5 : decode cX10_pay 5 = .ok (.invokevirtual 159, 3) := by decide +kernel
theorem dX10_pay_8 : decode cX10_pay 8 = .ok (.astore_n 2, 1) := by decide +kernel
theorem dX10_pay_9 : decode cX10_pay 9 = .ok (.aload_n 2, 1) := by decide +kernel
theorem dX10_pay_10 : decode cX10_pay 10 = .ok (.ifnonnull 5, 3) := by decide +kernel
theorem dX10_pay_13 : decode cX10_pay 13 = .ok (.iconst (-1), 1) := by decide +kernel
theorem dX10_pay_14 : decode cX10_pay 14 = .ok (.ireturn, 1) := by decide +kernel
theorem dX10_pay_15 : decode cX10_pay 15 = .ok (.aload_n 0, 1) := by decide +kernel
theorem dX10_pay_16 : decode cX10_pay 16 = .ok (.getfield 12, 3) := by decide +kernel
theorem dX10_pay_19 : decode cX10_pay 19 = .ok (.aload_n 2, 1) := by decide +kernel
theorem dX10_pay_20 : decode cX10_pay 20 = .ok (.aload_n 0, 1) := by decide +kernel
theorem dX10_pay_21 : decode cX10_pay 21 = .ok (.getfield 12, 3) := by decide +kernel
theorem dX10_pay_24 : decode cX10_pay 24 = .ok (.getfield 182, 3) := by decide +kernel
theorem dX10_pay_27 : decode cX10_pay 27 = .ok (.invokevirtual 185, 3) := by decide +kernel
theorem dX10_pay_30 : decode cX10_pay 30 = .ok (.istore_n 3, 1) := by decide +kernel
theorem dX10_pay_31 : decode cX10_pay 31 = .ok (.aload_n 2, 1) := by decide +kernel
theorem dX10_pay_32 : decode cX10_pay 32 = .ok (.iload_n 3, 1) := by decide +kernel
theorem dX10_pay_33 : decode cX10_pay 33 = .ok (.aload_n 0, 1) := by decide +kernel
theorem dX10_pay_34 : decode cX10_pay 34 = .ok (.getfield 12, 3) := by decide +kernel
theorem dX10_pay_37 : decode cX10_pay 37 = .ok (.getfield 182, 3) := by decide +kernel
theorem dX10_pay_40 : decode cX10_pay 40 = .ok (.invokevirtual 189, 3) := by decide +kernel
theorem dX10_pay_43 : decode cX10_pay 43 = .ok (.iload_n 3, 1) := by decide +kernel
theorem dX10_pay_44 : decode cX10_pay 44 = .ok (.ireturn, 1) := by decide +kernel
theorem dX10_leave_0 : decode cX10_leave 0 = .ok (.aload_n 0, 1) := by decide +kernel
theorem dX10_leave_1 : decode cX10_leave 1 = .ok (.getfield 12, 3) := by decide +kernel
theorem dX10_leave_4 : decode cX10_leave 4 = .ok (.iload_n 1, 1) := by decide +kernel
theorem dX10_leave_5 : decode cX10_leave 5 = .ok (.invokevirtual 159, 3) := by decide +kernel
theorem dX10_leave_8 : decode cX10_leave 8 = .ok (.astore_n 2, 1) := by decide +kernel
theorem dX10_leave_9 : decode cX10_leave 9 = .ok (.aload_n 2, 1) := by decide +kernel
theorem dX10_leave_10 : decode cX10_leave 10 = .ok (.ifnonnull 5, 3) := by decide +kernel
theorem dX10_leave_13 : decode cX10_leave 13 = .ok (.iconst (-1), 1) := by decide +kernel
theorem dX10_leave_14 : decode cX10_leave 14 = .ok (.ireturn, 1) := by decide +kernel
theorem dX10_leave_15 : decode cX10_leave 15 = .ok (.aload_n 2, 1) := by decide +kernel
theorem dX10_leave_16 : decode cX10_leave 16 = .ok (.bipush 15, 2) := by decide +kernel
theorem dX10_leave_18 : decode cX10_leave 18 = .ok (.aload_n 0, 1) := by decide +kernel
theorem dX10_leave_19 : decode cX10_leave 19 = .ok (.getfield 12, 3) := by decide +kernel
theorem dX10_leave_22 : decode cX10_leave 22 = .ok (.getfield 182, 3) := by decide +kernel
theorem dX10_leave_25 : decode cX10_leave 25 = .ok (.invokevirtual 192, 3) := by decide +kernel
theorem dX10_leave_28 : decode cX10_leave 28 = .ok (.istore_n 3, 1) := by decide +kernel
theorem dX10_leave_29 : decode cX10_leave 29 = .ok (.iload_n 3, 1) := by decide +kernel
theorem dX10_leave_30 : decode cX10_leave 30 = .ok (.ifCond .ne 24, 3) := by decide +kernel
theorem dX10_leave_33 : decode cX10_leave 33 = .ok (.aload_n 0, 1) := by decide +kernel
theorem dX10_leave_34 : decode cX10_leave 34 = .ok (.getfield 12, 3) := by decide +kernel
theorem dX10_leave_37 : decode cX10_leave 37 = .ok (.aload_n 2, 1) := by decide +kernel
theorem dX10_leave_38 : decode cX10_leave 38 = .ok (.aload_n 0, 1) := by decide +kernel
theorem dX10_leave_39 : decode cX10_leave 39 = .ok (.getfield 12, 3) := by decide +kernel
theorem dX10_leave_42 : decode cX10_leave 42 = .ok (.getfield 182, 3) := by decide +kernel
theorem dX10_leave_45 : decode cX10_leave 45 = .ok (.invokevirtual 185, 3) := by decide +kernel
theorem dX10_leave_48 : decode cX10_leave 48 = .ok (.ifCond .le 6, 3) := by decide +kernel
theorem dX10_leave_51 : decode cX10_leave 51 = .ok (.bipush (-7), 2) := by decide +kernel
theorem dX10_leave_53 : decode cX10_leave 53 = .ok (.ireturn, 1) := by decide +kernel
theorem dX10_leave_54 : decode cX10_leave 54 = .ok (.aload_n 0, 1) := by decide +kernel
theorem dX10_leave_55 : decode cX10_leave 55 = .ok (.getfield 12, 3) := by decide +kernel
theorem dX10_leave_58 : decode cX10_leave 58 = .ok (.aload_n 2, 1) := by decide +kernel
theorem dX10_leave_59 : decode cX10_leave 59 = .ok (.invokevirtual 195, 3) := by decide +kernel
theorem dX10_leave_62 : decode cX10_leave 62 = .ok (.aload_n 2, 1) := by decide +kernel
theorem dX10_leave_63 : decode cX10_leave 63 = .ok (.getfield 199, 3) := by decide +kernel
theorem dX10_leave_66 : decode cX10_leave 66 = .ok (.ireturn, 1) := by decide +kernel
theorem dX10_ticket_0 : decode cX10_ticket 0 = .ok (.aload_n 0, 1) := by decide +kernel
theorem dX10_ticket_1 : decode cX10_ticket 1 = .ok (.getfield 12, 3) := by decide +kernel
theorem dX10_ticket_4 : decode cX10_ticket 4 = .ok (.iload_n 1, 1) := by decide +kernel
theorem dX10_ticket_5 : decode cX10_ticket 5 = .ok (.invokevirtual 202, 3) := by decide +kernel
theorem dX10_ticket_8 : decode cX10_ticket 8 = .ok (.astore_n 3, 1) := by decide +kernel
theorem dX10_ticket_9 : decode cX10_ticket 9 = .ok (.aload_n 3, 1) := by decide +kernel
theorem dX10_ticket_10 : decode cX10_ticket 10 = .ok (.ifnonnull 5, 3) := by decide +kernel
theorem dX10_ticket_13 : decode cX10_ticket 13 = .ok (.iconst (-1), 1) := by decide +kernel
theorem dX10_ticket_14 : decode cX10_ticket 14 = .ok (.ireturn, 1) := by decide +kernel
theorem dX10_ticket_15 : decode cX10_ticket 15 = .ok (.iload_n 2, 1) := by decide +kernel
theorem dX10_ticket_16 : decode cX10_ticket 16 = .ok (.iconst 0, 1) := by decide +kernel
theorem dX10_ticket_17 : decode cX10_ticket 17 = .ok (.bipush 7, 2) := by decide +kernel
theorem dX10_ticket_19 : decode cX10_ticket 19 = .ok (.invokestatic 33, 3) := by decide +kernel
theorem dX10_ticket_22 : decode cX10_ticket 22 = .ok (.ifCond .eq 11, 3) := by decide +kernel
theorem dX10_ticket_25 : decode cX10_ticket 25 = .ok (.aload_n 3, 1) := by decide +kernel
theorem dX10_ticket_26 : decode cX10_ticket 26 = .ok (.iload_n 2, 1) := by decide +kernel
theorem dX10_ticket_27 : decode cX10_ticket 27 = .ok (.invokevirtual 205, 3) := by decide +kernel
theorem dX10_ticket_30 : decode cX10_ticket 30 = .ok (.goto 5, 3) := by decide +kernel
theorem dX10_ticket_33 : decode cX10_ticket 33 = .ok (.bipush (-2), 2) := by decide +kernel
theorem dX10_ticket_35 : decode cX10_ticket 35 = .ok (.ireturn, 1) := by decide +kernel
theorem dX10_step_0 : decode cX10_step 0 = .ok (.aload_n 0, 1) := by decide +kernel
theorem dX10_step_1 : decode cX10_step 1 = .ok (.getfield 12, 3) := by decide +kernel
theorem dX10_step_4 : decode cX10_step 4 = .ok (.iload_n 1, 1) := by decide +kernel
theorem dX10_step_5 : decode cX10_step 5 = .ok (.invokevirtual 159, 3) := by decide +kernel
theorem dX10_step_8 : decode cX10_step 8 = .ok (.astore_n 3, 1) := by decide +kernel
theorem dX10_step_9 : decode cX10_step 9 = .ok (.aload_n 3, 1) := by decide +kernel
theorem dX10_step_10 : decode cX10_step 10 = .ok (.ifnull 19, 3) := by decide +kernel
theorem dX10_step_13 : decode cX10_step 13 = .ok (.iload_n 2, 1) := by decide +kernel
theorem dX10_step_14 : decode cX10_step 14 = .ok (.iconst 0, 1) := by decide +kernel
theorem dX10_step_15 : decode cX10_step 15 = .ok (.aload_n 0, 1) := by decide +kernel
theorem dX10_step_16 : decode cX10_step 16 = .ok (.getfield 12, 3) := by decide +kernel
theorem dX10_step_19 : decode cX10_step 19 = .ok (.aload_n 3, 1) := by decide +kernel
theorem dX10_step_20 : decode cX10_step 20 = .ok (.invokevirtual 206, 3) := by decide +kernel
theorem dX10_step_23 : decode cX10_step 23 = .ok (.invokestatic 33, 3) := by decide +kernel
theorem dX10_step_26 : decode cX10_step 26 = .ok (.ifCond .ne 5, 3) := by decide +kernel
theorem dX10_step_29 : decode cX10_step 29 = .ok (.iconst (-1), 1) := by decide +kernel
theorem dX10_step_30 : decode cX10_step 30 = .ok (.ireturn, 1) := by decide +kernel
theorem dX10_step_31 : decode cX10_step 31 = .ok (.aload_n 3, 1) := by decide +kernel
theorem dX10_step_32 : decode cX10_step 32 = .ok (.getfield 163, 3) := by decide +kernel
theorem dX10_step_35 : decode cX10_step 35 = .ok (.ifCond .eq 8, 3) := by decide +kernel
theorem dX10_step_38 : decode cX10_step 38 = .ok (.bipush (-4), 2) := by decide +kernel
theorem dX10_step_40 : decode cX10_step 40 = .ok (.goto 19, 3) := by decide +kernel
theorem dX10_step_43 : decode cX10_step 43 = .ok (.aload_n 0, 1) := by decide +kernel
theorem dX10_step_44 : decode cX10_step 44 = .ok (.getfield 12, 3) := by decide +kernel
theorem dX10_step_47 : decode cX10_step 47 = .ok (.aload_n 3, 1) := by decide +kernel
theorem dX10_step_48 : decode cX10_step 48 = .ok (.aload_n 0, 1) := by decide +kernel
theorem dX10_step_49 : decode cX10_step 49 = .ok (.getfield 12, 3) := by decide +kernel
theorem dX10_step_52 : decode cX10_step 52 = .ok (.getfield 182, 3) := by decide +kernel
theorem dX10_step_55 : decode cX10_step 55 = .ok (.iload_n 2, 1) := by decide +kernel
theorem dX10_step_56 : decode cX10_step 56 = .ok (.invokevirtual 210, 3) := by decide +kernel
theorem dX10_step_59 : decode cX10_step 59 = .ok (.ireturn, 1) := by decide +kernel
theorem dX10_advance_0 : decode cX10_advance 0 = .ok (.iload_n 1, 1) := by decide +kernel
theorem dX10_advance_1 : decode cX10_advance 1 = .ok (.iconst 1, 1) := by decide +kernel
theorem dX10_advance_2 : decode cX10_advance 2 = .ok (.sipush 3000, 3) := by decide +kernel
theorem dX10_advance_5 : decode cX10_advance 5 = .ok (.invokestatic 33, 3) := by decide +kernel
theorem dX10_advance_8 : decode cX10_advance 8 = .ok (.ifCond .ne 6, 3) := by decide +kernel
theorem dX10_advance_11 : decode cX10_advance 11 = .ok (.bipush (-2), 2) := by decide +kernel
theorem dX10_advance_13 : decode cX10_advance 13 = .ok (.ireturn, 1) := by decide +kernel
theorem dX10_advance_14 : decode cX10_advance 14 = .ok (.aload_n 0, 1) := by decide +kernel
theorem dX10_advance_15 : decode cX10_advance 15 = .ok (.getfield 12, 3) := by decide +kernel
theorem dX10_advance_18 : decode cX10_advance 18 = .ok (.getfield 182, 3) := by decide +kernel
theorem dX10_advance_21 : decode cX10_advance 21 = .ok (.iload_n 1, 1) := by decide +kernel
theorem dX10_advance_22 : decode cX10_advance 22 = .ok (.iadd, 1) := by decide +kernel
theorem dX10_advance_23 : decode cX10_advance 23 = .ok (.ldc 105, 2) := by decide +kernel
theorem dX10_advance_25 : decode cX10_advance 25 = .ok (.if_icmp .le 6, 3) := by decide +kernel
theorem dX10_advance_28 : decode cX10_advance 28 = .ok (.bipush (-3), 2) := by decide +kernel
theorem dX10_advance_30 : decode cX10_advance 30 = .ok (.ireturn, 1) := by decide +kernel
theorem dX10_advance_31 : decode cX10_advance 31 = .ok (.aload_n 0, 1) := by decide +kernel
theorem dX10_advance_32 : decode cX10_advance 32 = .ok (.getfield 12, 3) := by decide +kernel
theorem dX10_advance_35 : decode cX10_advance 35 = .ok (.iload_n 1, 1) := by decide +kernel
theorem dX10_advance_36 : decode cX10_advance 36 = .ok (.invokevirtual 214, 3) := by decide +kernel
theorem dX10_advance_39 : decode cX10_advance 39 = .ok (.aload_n 0, 1) := by decide +kernel
theorem dX10_advance_40 : decode cX10_advance 40 = .ok (.getfield 12, 3) := by decide +kernel
theorem dX10_advance_43 : decode cX10_advance 43 = .ok (.getfield 182, 3) := by decide +kernel
theorem dX10_advance_46 : decode cX10_advance 46 = .ok (.ireturn, 1) := by decide +kernel
theorem dX10_setCapacity_0 : decode cX10_setCapacity 0 = .ok (.aload_n 0, 1) := by decide +kernel
theorem dX10_setCapacity_1 : decode cX10_setCapacity 1 = .ok (.getfield 12, 3) := by decide +kernel
theorem dX10_setCapacity_4 : decode cX10_setCapacity 4 = .ok (.iload_n 1, 1) := by decide +kernel
theorem dX10_setCapacity_5 : decode cX10_setCapacity 5 = .ok (.invokevirtual 217, 3) := by decide +kernel
theorem dX10_setCapacity_8 : decode cX10_setCapacity 8 = .ok (.astore_n 3, 1) := by decide +kernel
theorem dX10_setCapacity_9 : decode cX10_setCapacity 9 = .ok (.aload_n 3, 1) := by decide +kernel
theorem dX10_setCapacity_10 : decode cX10_setCapacity 10 = .ok (.ifnull 13, 3) := by decide +kernel
theorem dX10_setCapacity_13 : decode cX10_setCapacity 13 = .ok (.iload_n 2, 1) := by decide +kernel
theorem dX10_setCapacity_14 : decode cX10_setCapacity 14 = .ok (.iconst 0, 1) := by decide +kernel
theorem dX10_setCapacity_15 : decode cX10_setCapacity 15 = .ok (.bipush 40, 2) := by decide +kernel
theorem dX10_setCapacity_17 : decode cX10_setCapacity 17 = .ok (.invokestatic 33, 3) := by decide +kernel
theorem dX10_setCapacity_20 : decode cX10_setCapacity 20 = .ok (.ifCond .ne 6, 3) := by decide +kernel
theorem dX10_setCapacity_23 : decode cX10_setCapacity 23 = .ok (.bipush (-2), 2) := by decide +kernel
theorem dX10_setCapacity_25 : decode cX10_setCapacity 25 = .ok (.ireturn, 1) := by decide +kernel
theorem dX10_setCapacity_26 : decode cX10_setCapacity 26 = .ok (.aload_n 3, 1) := by decide +kernel
theorem dX10_setCapacity_27 : decode cX10_setCapacity 27 = .ok (.getfield 221, 3) := by decide +kernel
theorem dX10_setCapacity_30 : decode cX10_setCapacity 30 = .ok (.iload_n 2, 1) := by decide +kernel
theorem dX10_setCapacity_31 : decode cX10_setCapacity 31 = .ok (.if_icmp .le 6, 3) := by decide +kernel
theorem dX10_setCapacity_34 : decode cX10_setCapacity 34 = .ok (.bipush (-3), 2) := by decide +kernel
theorem dX10_setCapacity_36 : decode cX10_setCapacity 36 = .ok (.ireturn, 1) := by decide +kernel
theorem dX10_setCapacity_37 : decode cX10_setCapacity 37 = .ok (.aload_n 3, 1) := by decide +kernel
theorem dX10_setCapacity_38 : decode cX10_setCapacity 38 = .ok (.getfield 226, 3) := by decide +kernel
theorem dX10_setCapacity_41 : decode cX10_setCapacity 41 = .ok (.istore 4, 2) := by decide +kernel
theorem dX10_setCapacity_43 : decode cX10_setCapacity 43 = .ok (.aload_n 3, 1) := by decide +kernel
theorem dX10_setCapacity_44 : decode cX10_setCapacity 44 = .ok (.iload_n 2, 1) := by decide +kernel
theorem dX10_setCapacity_45 : decode cX10_setCapacity 45 = .ok (.putfield 226, 3) := by decide +kernel
theorem dX10_setCapacity_48 : decode cX10_setCapacity 48 = .ok (.iload 4, 2) := by decide +kernel
theorem dX10_setCapacity_50 : decode cX10_setCapacity 50 = .ok (.ireturn, 1) := by decide +kernel
theorem dX10_level_0 : decode cX10_level 0 = .ok (.aload_n 0, 1) := by decide +kernel
theorem dX10_level_1 : decode cX10_level 1 = .ok (.getfield 12, 3) := by decide +kernel
theorem dX10_level_4 : decode cX10_level 4 = .ok (.iload_n 1, 1) := by decide +kernel
theorem dX10_level_5 : decode cX10_level 5 = .ok (.invokevirtual 217, 3) := by decide +kernel
theorem dX10_level_8 : decode cX10_level 8 = .ok (.astore_n 3, 1) := by decide +kernel
theorem dX10_level_9 : decode cX10_level 9 = .ok (.aload_n 3, 1) := by decide +kernel
theorem dX10_level_10 : decode cX10_level 10 = .ok (.ifnull 12, 3) := by decide +kernel
theorem dX10_level_13 : decode cX10_level 13 = .ok (.iload_n 2, 1) := by decide +kernel
theorem dX10_level_14 : decode cX10_level 14 = .ok (.iconst 0, 1) := by decide +kernel
theorem dX10_level_15 : decode cX10_level 15 = .ok (.iconst 5, 1) := by decide +kernel
theorem dX10_level_16 : decode cX10_level 16 = .ok (.invokestatic 33, 3) := by decide +kernel
theorem dX10_level_19 : decode cX10_level 19 = .ok (.ifCond .ne 6, 3) := by decide +kernel
theorem dX10_level_22 : decode cX10_level 22 = .ok (.bipush (-2), 2) := by decide +kernel
theorem dX10_level_24 : decode cX10_level 24 = .ok (.ireturn, 1) := by decide +kernel
theorem dX10_level_25 : decode cX10_level 25 = .ok (.aload_n 3, 1) := by decide +kernel
theorem dX10_level_26 : decode cX10_level 26 = .ok (.iload_n 2, 1) := by decide +kernel
theorem dX10_level_27 : decode cX10_level 27 = .ok (.invokevirtual 229, 3) := by decide +kernel
theorem dX10_level_30 : decode cX10_level 30 = .ok (.ireturn, 1) := by decide +kernel
theorem dX10_forecast_0 : decode cX10_forecast 0 = .ok (.aload_n 0, 1) := by decide +kernel
theorem dX10_forecast_1 : decode cX10_forecast 1 = .ok (.getfield 12, 3) := by decide +kernel
theorem dX10_forecast_4 : decode cX10_forecast 4 = .ok (.iload_n 1, 1) := by decide +kernel
theorem dX10_forecast_5 : decode cX10_forecast 5 = .ok (.invokevirtual 217, 3) := by decide +kernel
theorem dX10_forecast_8 : decode cX10_forecast 8 = .ok (.astore_n 3, 1) := by decide +kernel
theorem dX10_forecast_9 : decode cX10_forecast 9 = .ok (.aload_n 3, 1) := by decide +kernel
theorem dX10_forecast_10 : decode cX10_forecast 10 = .ok (.ifnull 14, 3) := by decide +kernel
theorem dX10_forecast_13 : decode cX10_forecast 13 = .ok (.iload_n 2, 1) := by decide +kernel
theorem dX10_forecast_14 : decode cX10_forecast 14 = .ok (.iconst 0, 1) := by decide +kernel
theorem dX10_forecast_15 : decode cX10_forecast 15 = .ok (.sipush 600, 3) := by decide +kernel
theorem dX10_forecast_18 : decode cX10_forecast 18 = .ok (.invokestatic 33, 3) := by decide +kernel
theorem dX10_forecast_21 : decode cX10_forecast 21 = .ok (.ifCond .ne 6, 3) := by decide +kernel
theorem dX10_forecast_24 : decode cX10_forecast 24 = .ok (.bipush (-2), 2) := by decide +kernel
theorem dX10_forecast_26 : decode cX10_forecast 26 = .ok (.ireturn, 1) := by decide +kernel
theorem dX10_forecast_27 : decode cX10_forecast 27 = .ok (.aload_n 3, 1) := by decide +kernel
theorem dX10_forecast_28 : decode cX10_forecast 28 = .ok (.iload_n 2, 1) := by decide +kernel
theorem dX10_forecast_29 : decode cX10_forecast 29 = .ok (.invokevirtual 230, 3) := by decide +kernel
theorem dX10_forecast_32 : decode cX10_forecast 32 = .ok (.ireturn, 1) := by decide +kernel
theorem dX10_count_0 : decode cX10_count 0 = .ok (.iload_n 1, 1) := by decide +kernel
theorem dX10_count_1 : decode cX10_count 1 = .ok (.tableswitch 163 0 11 #[63, 71, 79, 87, 95, 103, 112, 121, 130, 139, 147, 155], 63) := by decide +kernel
theorem dX10_count_64 : decode cX10_count 64 = .ok (.aload_n 0, 1) := by decide +kernel
theorem dX10_count_65 : decode cX10_count 65 = .ok (.getfield 12, 3) := by decide +kernel
theorem dX10_count_68 : decode cX10_count 68 = .ok (.getfield 182, 3) := by decide +kernel
theorem dX10_count_71 : decode cX10_count 71 = .ok (.ireturn, 1) := by decide +kernel
theorem dX10_count_72 : decode cX10_count 72 = .ok (.aload_n 0, 1) := by decide +kernel
theorem dX10_count_73 : decode cX10_count 73 = .ok (.getfield 12, 3) := by decide +kernel
theorem dX10_count_76 : decode cX10_count 76 = .ok (.getfield 233, 3) := by decide +kernel
theorem dX10_count_79 : decode cX10_count 79 = .ok (.ireturn, 1) := by decide +kernel
theorem dX10_count_80 : decode cX10_count 80 = .ok (.aload_n 0, 1) := by decide +kernel
theorem dX10_count_81 : decode cX10_count 81 = .ok (.getfield 12, 3) := by decide +kernel
theorem dX10_count_84 : decode cX10_count 84 = .ok (.invokevirtual 236, 3) := by decide +kernel
theorem dX10_count_87 : decode cX10_count 87 = .ok (.ireturn, 1) := by decide +kernel
theorem dX10_count_88 : decode cX10_count 88 = .ok (.aload_n 0, 1) := by decide +kernel
theorem dX10_count_89 : decode cX10_count 89 = .ok (.getfield 12, 3) := by decide +kernel
theorem dX10_count_92 : decode cX10_count 92 = .ok (.invokevirtual 239, 3) := by decide +kernel
theorem dX10_count_95 : decode cX10_count 95 = .ok (.ireturn, 1) := by decide +kernel
theorem dX10_count_96 : decode cX10_count 96 = .ok (.aload_n 0, 1) := by decide +kernel
theorem dX10_count_97 : decode cX10_count 97 = .ok (.getfield 12, 3) := by decide +kernel
theorem dX10_count_100 : decode cX10_count 100 = .ok (.invokevirtual 242, 3) := by decide +kernel
theorem dX10_count_103 : decode cX10_count 103 = .ok (.ireturn, 1) := by decide +kernel
theorem dX10_count_104 : decode cX10_count 104 = .ok (.aload_n 0, 1) := by decide +kernel
theorem dX10_count_105 : decode cX10_count 105 = .ok (.getfield 12, 3) := by decide +kernel
theorem dX10_count_108 : decode cX10_count 108 = .ok (.iconst 0, 1) := by decide +kernel
theorem dX10_count_109 : decode cX10_count 109 = .ok (.invokevirtual 245, 3) := by decide +kernel
theorem dX10_count_112 : decode cX10_count 112 = .ok (.ireturn, 1) := by decide +kernel
theorem dX10_count_113 : decode cX10_count 113 = .ok (.aload_n 0, 1) := by decide +kernel
theorem dX10_count_114 : decode cX10_count 114 = .ok (.getfield 12, 3) := by decide +kernel
theorem dX10_count_117 : decode cX10_count 117 = .ok (.iconst 1, 1) := by decide +kernel
theorem dX10_count_118 : decode cX10_count 118 = .ok (.invokevirtual 245, 3) := by decide +kernel
theorem dX10_count_121 : decode cX10_count 121 = .ok (.ireturn, 1) := by decide +kernel
theorem dX10_count_122 : decode cX10_count 122 = .ok (.aload_n 0, 1) := by decide +kernel
theorem dX10_count_123 : decode cX10_count 123 = .ok (.getfield 12, 3) := by decide +kernel
theorem dX10_count_126 : decode cX10_count 126 = .ok (.iconst 2, 1) := by decide +kernel
theorem dX10_count_127 : decode cX10_count 127 = .ok (.invokevirtual 245, 3) := by decide +kernel
theorem dX10_count_130 : decode cX10_count 130 = .ok (.ireturn, 1) := by decide +kernel
theorem dX10_count_131 : decode cX10_count 131 = .ok (.aload_n 0, 1) := by decide +kernel
theorem dX10_count_132 : decode cX10_count 132 = .ok (.getfield 12, 3) := by decide +kernel
theorem dX10_count_135 : decode cX10_count 135 = .ok (.iconst 3, 1) := by decide +kernel
theorem dX10_count_136 : decode cX10_count 136 = .ok (.invokevirtual 245, 3) := by decide +kernel
theorem dX10_count_139 : decode cX10_count 139 = .ok (.ireturn, 1) := by decide +kernel
theorem dX10_count_140 : decode cX10_count 140 = .ok (.aload_n 0, 1) := by decide +kernel
theorem dX10_count_141 : decode cX10_count 141 = .ok (.getfield 12, 3) := by decide +kernel
theorem dX10_count_144 : decode cX10_count 144 = .ok (.invokevirtual 248, 3) := by decide +kernel
theorem dX10_count_147 : decode cX10_count 147 = .ok (.ireturn, 1) := by decide +kernel
theorem dX10_count_148 : decode cX10_count 148 = .ok (.aload_n 0, 1) := by decide +kernel
theorem dX10_count_149 : decode cX10_count 149 = .ok (.getfield 12, 3) := by decide +kernel
theorem dX10_count_152 : decode cX10_count 152 = .ok (.getfield 251, 3) := by decide +kernel
theorem dX10_count_155 : decode cX10_count 155 = .ok (.ireturn, 1) := by decide +kernel
theorem dX10_count_156 : decode cX10_count 156 = .ok (.aload_n 0, 1) := by decide +kernel
theorem dX10_count_157 : decode cX10_count 157 = .ok (.getfield 22, 3) := by decide +kernel
theorem dX10_count_160 : decode cX10_count 160 = .ok (.getfield 45, 3) := by decide +kernel
theorem dX10_count_163 : decode cX10_count 163 = .ok (.ireturn, 1) := by decide +kernel
theorem dX10_count_164 : decode cX10_count 164 = .ok (.bipush (-2), 2) := by decide +kernel
theorem dX10_count_166 : decode cX10_count 166 = .ok (.ireturn, 1) := by decide +kernel
theorem dX10_reportLevels_0 : decode cX10_reportLevels 0 = .ok (.aload_n 0, 1) := by decide +kernel
theorem dX10_reportLevels_1 : decode cX10_reportLevels 1 = .ok (.getfield 29, 3) := by decide +kernel
theorem dX10_reportLevels_4 : decode cX10_reportLevels 4 = .ok (.getfield 252, 3) := by decide +kernel
theorem dX10_reportLevels_7 : decode cX10_reportLevels 7 = .ok (.ireturn, 1) := by decide +kernel
theorem dX10_reportCode_0 : decode cX10_reportCode 0 = .ok (.aload_n 0, 1) := by decide +kernel
theorem dX10_reportCode_1 : decode cX10_reportCode 1 = .ok (.getfield 29, 3) := by decide +kernel
theorem dX10_reportCode_4 : decode cX10_reportCode 4 = .ok (.iload_n 1, 1) := by decide +kernel
theorem dX10_reportCode_5 : decode cX10_reportCode 5 = .ok (.invokevirtual 255, 3) := by decide +kernel
theorem dX10_reportCode_8 : decode cX10_reportCode 8 = .ok (.ifCond .eq 15, 3) := by decide +kernel
theorem dX10_reportCode_11 : decode cX10_reportCode 11 = .ok (.aload_n 0, 1) := by decide +kernel
theorem dX10_reportCode_12 : decode cX10_reportCode 12 = .ok (.getfield 29, 3) := by decide +kernel
theorem dX10_reportCode_15 : decode cX10_reportCode 15 = .ok (.getfield 258, 3) := by decide +kernel
theorem dX10_reportCode_18 : decode cX10_reportCode 18 = .ok (.iload_n 1, 1) := by decide +kernel
theorem dX10_reportCode_19 : decode cX10_reportCode 19 = .ok (.iaload, 1) := by decide +kernel
theorem dX10_reportCode_20 : decode cX10_reportCode 20 = .ok (.goto 4, 3) := by decide +kernel
theorem dX10_reportCode_23 : decode cX10_reportCode 23 = .ok (.iconst (-1), 1) := by decide +kernel
theorem dX10_reportCode_24 : decode cX10_reportCode 24 = .ok (.ireturn, 1) := by decide +kernel
theorem dX10_reportNumber_0 : decode cX10_reportNumber 0 = .ok (.aload_n 0, 1) := by decide +kernel
theorem dX10_reportNumber_1 : decode cX10_reportNumber 1 = .ok (.getfield 29, 3) := by decide +kernel
theorem dX10_reportNumber_4 : decode cX10_reportNumber 4 = .ok (.iload_n 1, 1) := by decide +kernel
theorem dX10_reportNumber_5 : decode cX10_reportNumber 5 = .ok (.invokevirtual 255, 3) := by decide +kernel
theorem dX10_reportNumber_8 : decode cX10_reportNumber 8 = .ok (.ifCond .eq 15, 3) := by decide +kernel
theorem dX10_reportNumber_11 : decode cX10_reportNumber 11 = .ok (.aload_n 0, 1) := by decide +kernel
theorem dX10_reportNumber_12 : decode cX10_reportNumber 12 = .ok (.getfield 29, 3) := by decide +kernel
theorem dX10_reportNumber_15 : decode cX10_reportNumber 15 = .ok (.getfield 262, 3) := by decide +kernel
theorem dX10_reportNumber_18 : decode cX10_reportNumber 18 = .ok (.iload_n 1, 1) := by decide +kernel
theorem dX10_reportNumber_19 : decode cX10_reportNumber 19 = .ok (.iaload, 1) := by decide +kernel
theorem dX10_reportNumber_20 : decode cX10_reportNumber 20 = .ok (.goto 4, 3) := by decide +kernel
theorem dX10_reportNumber_23 : decode cX10_reportNumber 23 = .ok (.iconst (-1), 1) := by decide +kernel
theorem dX10_reportNumber_24 : decode cX10_reportNumber 24 = .ok (.ireturn, 1) := by decide +kernel
theorem dX10_save_0 : decode cX10_save 0 = .ok (.aload_n 0, 1) := by decide +kernel
theorem dX10_save_1 : decode cX10_save 1 = .ok (.getfield 16, 3) := by decide +kernel
theorem dX10_save_4 : decode cX10_save 4 = .ok (.aload_n 0, 1) := by decide +kernel
theorem dX10_save_5 : decode cX10_save 5 = .ok (.getfield 12, 3) := by decide +kernel
theorem dX10_save_8 : decode cX10_save 8 = .ok (.invokevirtual 265, 3) := by decide +kernel
theorem dX10_save_11 : decode cX10_save 11 = .ok (.aload_n 0, 1) := by decide +kernel
theorem dX10_save_12 : decode cX10_save 12 = .ok (.iconst 1, 1) := by decide +kernel
theorem dX10_save_13 : decode cX10_save 13 = .ok (.putfield 268, 3) := by decide +kernel
theorem dX10_save_16 : decode cX10_save 16 = .ok (.aload_n 0, 1) := by decide +kernel
theorem dX10_save_17 : decode cX10_save 17 = .ok (.getfield 12, 3) := by decide +kernel
theorem dX10_save_20 : decode cX10_save 20 = .ok (.getfield 182, 3) := by decide +kernel
theorem dX10_save_23 : decode cX10_save 23 = .ok (.ireturn, 1) := by decide +kernel
theorem dX10_restore_0 : decode cX10_restore 0 = .ok (.aload_n 0, 1) := by decide +kernel
theorem dX10_restore_1 : decode cX10_restore 1 = .ok (.getfield 268, 3) := by decide +kernel
theorem dX10_restore_4 : decode cX10_restore 4 = .ok (.ifCond .ne 5, 3) := by decide +kernel
theorem dX10_restore_7 : decode cX10_restore 7 = .ok (.iconst (-1), 1) := by decide +kernel
theorem dX10_restore_8 : decode cX10_restore 8 = .ok (.ireturn, 1) := by decide +kernel
theorem dX10_restore_9 : decode cX10_restore 9 = .ok (.aload_n 0, 1) := by decide +kernel
theorem dX10_restore_10 : decode cX10_restore 10 = .ok (.getfield 12, 3) := by decide +kernel
theorem dX10_restore_13 : decode cX10_restore 13 = .ok (.aload_n 0, 1) := by decide +kernel
theorem dX10_restore_14 : decode cX10_restore 14 = .ok (.getfield 16, 3) := by decide +kernel
theorem dX10_restore_17 : decode cX10_restore 17 = .ok (.invokevirtual 265, 3) := by decide +kernel
theorem dX10_restore_20 : decode cX10_restore 20 = .ok (.aload_n 0, 1) := by decide +kernel
theorem dX10_restore_21 : decode cX10_restore 21 = .ok (.getfield 12, 3) := by decide +kernel
theorem dX10_restore_24 : decode cX10_restore 24 = .ok (.getfield 182, 3) := by decide +kernel
theorem dX10_restore_27 : decode cX10_restore 27 = .ok (.ireturn, 1) := by decide +kernel
theorem dX10_isStay_0 : decode cX10_isStay 0 = .ok (.iload_n 0, 1) := by decide +kernel
theorem dX10_isStay_1 : decode cX10_isStay 1 = .ok (.iconst 0, 1) := by decide +kernel
theorem dX10_isStay_2 : decode cX10_isStay 2 = .ok (.ldc 105, 2) := by decide +kernel
theorem dX10_isStay_4 : decode cX10_isStay 4 = .ok (.invokestatic 33, 3) := by decide +kernel
theorem dX10_isStay_7 : decode cX10_isStay 7 = .ok (.ifCond .eq 17, 3) := by decide +kernel
theorem dX10_isStay_10 : decode cX10_isStay 10 = .ok (.iload_n 1, 1) := by decide +kernel
theorem dX10_isStay_11 : decode cX10_isStay 11 = .ok (.iload_n 0, 1) := by decide +kernel
theorem dX10_isStay_12 : decode cX10_isStay 12 = .ok (.ldc 105, 2) := by decide +kernel
theorem dX10_isStay_14 : decode cX10_isStay 14 = .ok (.invokestatic 33, 3) := by decide +kernel
theorem dX10_isStay_17 : decode cX10_isStay 17 = .ok (.ifCond .eq 7, 3) := by decide +kernel
theorem dX10_isStay_20 : decode cX10_isStay 20 = .ok (.iconst 1, 1) := by decide +kernel
theorem dX10_isStay_21 : decode cX10_isStay 21 = .ok (.goto 4, 3) := by decide +kernel
theorem dX10_isStay_24 : decode cX10_isStay 24 = .ok (.iconst 0, 1) := by decide +kernel
theorem dX10_isStay_25 : decode cX10_isStay 25 = .ok (.ireturn, 1) := by decide +kernel
theorem dX10_within_0 : decode cX10_within 0 = .ok (.iload_n 0, 1) := by decide +kernel
theorem dX10_within_1 : decode cX10_within 1 = .ok (.iload_n 1, 1) := by decide +kernel
theorem dX10_within_2 : decode cX10_within 2 = .ok (.if_icmp .lt 12, 3) := by decide +kernel
theorem dX10_within_5 : decode cX10_within 5 = .ok (.iload_n 0, 1) := by decide +kernel
theorem dX10_within_6 : decode cX10_within 6 = .ok (.iload_n 2, 1) := by decide +kernel
theorem dX10_within_7 : decode cX10_within 7 = .ok (.if_icmp .gt 7, 3) := by decide +kernel
theorem dX10_within_10 : decode cX10_within 10 = .ok (.iconst 1, 1) := by decide +kernel
theorem dX10_within_11 : decode cX10_within 11 = .ok (.goto 4, 3) := by decide +kernel
theorem dX10_within_14 : decode cX10_within 14 = .ok (.iconst 0, 1) := by decide +kernel
theorem dX10_within_15 : decode cX10_within 15 = .ok (.ireturn, 1) := by decide +kernel
theorem dX10_bitsOf_0 : decode cX10_bitsOf 0 = .ok (.fload_n 0, 1) := by decide +kernel
theorem dX10_bitsOf_1 : decode cX10_bitsOf 1 = .ok (.fstore_n 1, 1) := by decide +kernel
theorem dX10_bitsOf_2 : decode cX10_bitsOf 2 = .ok (.bipush 127, 2) := by decide +kernel
theorem dX10_bitsOf_4 : decode cX10_bitsOf 4 = .ok (.istore_n 2, 1) := by decide +kernel
theorem dX10_bitsOf_5 : decode cX10_bitsOf 5 = .ok (.fload_n 1, 1) := by decide +kernel
theorem dX10_bitsOf_6 : decode cX10_bitsOf 6 = .ok (.fconst 2, 1) := by decide +kernel
theorem dX10_bitsOf_7 : decode cX10_bitsOf 7 = .ok (.fcmp .l, 1) := by decide +kernel
theorem dX10_bitsOf_8 : decode cX10_bitsOf 8 = .ok (.ifCond .lt 22, 3) := by decide +kernel
theorem dX10_bitsOf_11 : decode cX10_bitsOf 11 = .ok (.iload_n 2, 1) := by decide +kernel
theorem dX10_bitsOf_12 : decode cX10_bitsOf 12 = .ok (.sipush 254, 3) := by decide +kernel
theorem dX10_bitsOf_15 : decode cX10_bitsOf 15 = .ok (.if_icmp .ge 15, 3) := by decide +kernel
theorem dX10_bitsOf_18 : decode cX10_bitsOf 18 = .ok (.fload_n 1, 1) := by decide +kernel
theorem dX10_bitsOf_19 : decode cX10_bitsOf 19 = .ok (.ldc_w 271, 3) := by decide +kernel
theorem dX10_bitsOf_22 : decode cX10_bitsOf 22 = .ok (.fmul, 1) := by decide +kernel
theorem dX10_bitsOf_23 : decode cX10_bitsOf 23 = .ok (.fstore_n 1, 1) := by decide +kernel
theorem dX10_bitsOf_24 : decode cX10_bitsOf 24 = .ok (.iinc 2 1, 3) := by decide +kernel
theorem dX10_bitsOf_27 : decode cX10_bitsOf 27 = .ok (.goto (-22), 3) := by decide +kernel
theorem dX10_bitsOf_30 : decode cX10_bitsOf 30 = .ok (.fload_n 1, 1) := by decide +kernel
theorem dX10_bitsOf_31 : decode cX10_bitsOf 31 = .ok (.fconst 1, 1) := by decide +kernel
theorem dX10_bitsOf_32 : decode cX10_bitsOf 32 = .ok (.fcmp .g, 1) := by decide +kernel
theorem dX10_bitsOf_33 : decode cX10_bitsOf 33 = .ok (.ifCond .ge 18, 3) := by decide +kernel
theorem dX10_bitsOf_36 : decode cX10_bitsOf 36 = .ok (.iload_n 2, 1) := by decide +kernel
theorem dX10_bitsOf_37 : decode cX10_bitsOf 37 = .ok (.iconst 1, 1) := by decide +kernel
theorem dX10_bitsOf_38 : decode cX10_bitsOf 38 = .ok (.if_icmp .le 13, 3) := by decide +kernel
theorem dX10_bitsOf_41 : decode cX10_bitsOf 41 = .ok (.fload_n 1, 1) := by decide +kernel
theorem dX10_bitsOf_42 : decode cX10_bitsOf 42 = .ok (.fconst 2, 1) := by decide +kernel
theorem dX10_bitsOf_43 : decode cX10_bitsOf 43 = .ok (.fmul, 1) := by decide +kernel
theorem dX10_bitsOf_44 : decode cX10_bitsOf 44 = .ok (.fstore_n 1, 1) := by decide +kernel
theorem dX10_bitsOf_45 : decode cX10_bitsOf 45 = .ok (.iinc 2 (-1), 3) := by decide +kernel
theorem dX10_bitsOf_48 : decode cX10_bitsOf 48 = .ok (.goto (-18), 3) := by decide +kernel
theorem dX10_bitsOf_51 : decode cX10_bitsOf 51 = .ok (.iload_n 2, 1) := by decide +kernel
theorem dX10_bitsOf_52 : decode cX10_bitsOf 52 = .ok (.iconst 1, 1) := by decide +kernel
theorem dX10_bitsOf_53 : decode cX10_bitsOf 53 = .ok (.isub, 1) := by decide +kernel
theorem dX10_bitsOf_54 : decode cX10_bitsOf 54 = .ok (.bipush 23, 2) := by decide +kernel
theorem dX10_bitsOf_56 : decode cX10_bitsOf 56 = .ok (.ishl, 1) := by decide +kernel
theorem dX10_bitsOf_57 : decode cX10_bitsOf 57 = .ok (.fload_n 1, 1) := by decide +kernel
theorem dX10_bitsOf_58 : decode cX10_bitsOf 58 = .ok (.ldc_w 272, 3) := by decide +kernel
theorem dX10_bitsOf_61 : decode cX10_bitsOf 61 = .ok (.fmul, 1) := by decide +kernel
theorem dX10_bitsOf_62 : decode cX10_bitsOf 62 = .ok (.f2i, 1) := by decide +kernel
theorem dX10_bitsOf_63 : decode cX10_bitsOf 63 = .ok (.iadd, 1) := by decide +kernel
theorem dX10_bitsOf_64 : decode cX10_bitsOf 64 = .ok (.ireturn, 1) := by decide +kernel
theorem dJxf58ca_isNaN_12338_0 : decode cJxf58ca_isNaN_12338 0 = .ok (.fload_n 0, 1) := by decide +kernel
theorem dJxf58ca_isNaN_12338_1 : decode cJxf58ca_isNaN_12338 1 = .ok (.fload_n 0, 1) := by decide +kernel
theorem dJxf58ca_isNaN_12338_2 : decode cJxf58ca_isNaN_12338 2 = .ok (.fcmp .l, 1) := by decide +kernel
theorem dJxf58ca_isNaN_12338_3 : decode cJxf58ca_isNaN_12338 3 = .ok (.ifCond .eq 7, 3) := by decide +kernel
theorem dJxf58ca_isNaN_12338_6 : decode cJxf58ca_isNaN_12338 6 = .ok (.iconst 1, 1) := by decide +kernel
theorem dJxf58ca_isNaN_12338_7 : decode cJxf58ca_isNaN_12338 7 = .ok (.goto 4, 3) := by decide +kernel
theorem dJxf58ca_isNaN_12338_10 : decode cJxf58ca_isNaN_12338 10 = .ok (.iconst 0, 1) := by decide +kernel
theorem dJxf58ca_isNaN_12338_11 : decode cJxf58ca_isNaN_12338 11 = .ok (.ireturn, 1) := by decide +kernel
theorem dJxf58ca_floatToIntBits_5c35a_0 : decode cJxf58ca_floatToIntBits_5c35a 0 = .ok (.fload_n 0, 1) := by decide +kernel
theorem dJxf58ca_floatToIntBits_5c35a_1 : decode cJxf58ca_floatToIntBits_5c35a 1 = .ok (.invokestatic 59, 3) := by decide +kernel
theorem dJxf58ca_floatToIntBits_5c35a_4 : decode cJxf58ca_floatToIntBits_5c35a 4 = .ok (.ifCond .ne 8, 3) := by decide +kernel
theorem dJxf58ca_floatToIntBits_5c35a_7 : decode cJxf58ca_floatToIntBits_5c35a 7 = .ok (.fload_n 0, 1) := by decide +kernel
theorem dJxf58ca_floatToIntBits_5c35a_8 : decode cJxf58ca_floatToIntBits_5c35a 8 = .ok (.invokestatic 74, 3) := by decide +kernel
theorem dJxf58ca_floatToIntBits_5c35a_11 : decode cJxf58ca_floatToIntBits_5c35a 11 = .ok (.ireturn, 1) := by decide +kernel
theorem dJxf58ca_floatToIntBits_5c35a_12 : decode cJxf58ca_floatToIntBits_5c35a 12 = .ok (.ldc 77, 2) := by decide +kernel
theorem dJxf58ca_floatToIntBits_5c35a_14 : decode cJxf58ca_floatToIntBits_5c35a 14 = .ok (.ireturn, 1) := by decide +kernel
theorem dJ9_max_7cf53_0 : decode cJ9_max_7cf53 0 = .ok (.iload_n 0, 1) := by decide +kernel
theorem dJ9_max_7cf53_1 : decode cJ9_max_7cf53 1 = .ok (.iload_n 1, 1) := by decide +kernel
theorem dJ9_max_7cf53_2 : decode cJ9_max_7cf53 2 = .ok (.if_icmp .lt 7, 3) := by decide +kernel
theorem dJ9_max_7cf53_5 : decode cJ9_max_7cf53 5 = .ok (.iload_n 0, 1) := by decide +kernel
theorem dJ9_max_7cf53_6 : decode cJ9_max_7cf53 6 = .ok (.goto 4, 3) := by decide +kernel
theorem dJ9_max_7cf53_9 : decode cJ9_max_7cf53 9 = .ok (.iload_n 1, 1) := by decide +kernel
theorem dJ9_max_7cf53_10 : decode cJ9_max_7cf53 10 = .ok (.ireturn, 1) := by decide +kernel
theorem dJ9_min_7cf53_0 : decode cJ9_min_7cf53 0 = .ok (.iload_n 0, 1) := by decide +kernel
theorem dJ9_min_7cf53_1 : decode cJ9_min_7cf53 1 = .ok (.iload_n 1, 1) := by decide +kernel
theorem dJ9_min_7cf53_2 : decode cJ9_min_7cf53 2 = .ok (.if_icmp .gt 7, 3) := by decide +kernel
theorem dJ9_min_7cf53_5 : decode cJ9_min_7cf53 5 = .ok (.iload_n 0, 1) := by decide +kernel
theorem dJ9_min_7cf53_6 : decode cJ9_min_7cf53 6 = .ok (.goto 4, 3) := by decide +kernel
theorem dJ9_min_7cf53_9 : decode cJ9_min_7cf53 9 = .ok (.iload_n 1, 1) := by decide +kernel
theorem dJ9_min_7cf53_10 : decode cJ9_min_7cf53 10 = .ok (.ireturn, 1) := by decide +kernel
theorem dJ0_length_8abf5_0 : decode cJ0_length_8abf5 0 = .ok (.aload_n 0, 1) := by decide +kernel
theorem dJ0_length_8abf5_1 : decode cJ0_length_8abf5 1 = .ok (.getfield 9, 3) := by decide +kernel
theorem dJ0_length_8abf5_4 : decode cJ0_length_8abf5 4 = .ok (.arraylength, 1) := by decide +kernel
theorem dJ0_length_8abf5_5 : decode cJ0_length_8abf5 5 = .ok (.aload_n 0, 1) := by decide +kernel
theorem dJ0_length_8abf5_6 : decode cJ0_length_8abf5 6 = .ok (.invokevirtual 335, 3) := by decide +kernel
theorem dJ0_length_8abf5_9 : decode cJ0_length_8abf5 9 = .ok (.ishr, 1) := by decide +kernel
theorem dJ0_length_8abf5_10 : decode cJ0_length_8abf5 10 = .ok (.ireturn, 1) := by decide +kernel
theorem dJ0_charAt_5068e_0 : decode cJ0_charAt_5068e 0 = .ok (.aload_n 0, 1) := by decide +kernel
theorem dJ0_charAt_5068e_1 : decode cJ0_charAt_5068e 1 = .ok (.invokevirtual 492, 3) := by decide +kernel
theorem dJ0_charAt_5068e_4 : decode cJ0_charAt_5068e 4 = .ok (.ifCond .eq 12, 3) := by decide +kernel
theorem dJ0_charAt_5068e_7 : decode cJ0_charAt_5068e 7 = .ok (.aload_n 0, 1) := by decide +kernel
theorem dJ0_charAt_5068e_8 : decode cJ0_charAt_5068e 8 = .ok (.getfield 9, 3) := by decide +kernel
theorem dJ0_charAt_5068e_11 : decode cJ0_charAt_5068e 11 = .ok (.iload_n 1, 1) := by decide +kernel
theorem dJ0_charAt_5068e_12 : decode cJ0_charAt_5068e 12 = .ok (.invokestatic 495, 3) := by decide +kernel
theorem dJ0_charAt_5068e_15 : decode cJ0_charAt_5068e 15 = .ok (.ireturn, 1) := by decide +kernel
theorem dJ0_charAt_5068e_16 : decode cJ0_charAt_5068e 16 = .ok (.aload_n 0, 1) := by decide +kernel
theorem dJ0_charAt_5068e_17 : decode cJ0_charAt_5068e 17 = .ok (.getfield 9, 3) := by decide +kernel
theorem dJ0_charAt_5068e_20 : decode cJ0_charAt_5068e 20 = .ok (.iload_n 1, 1) := by decide +kernel
theorem dJ0_charAt_5068e_21 : decode cJ0_charAt_5068e 21 = .ok (.invokestatic 498, 3) := by decide +kernel
theorem dJ0_charAt_5068e_24 : decode cJ0_charAt_5068e 24 = .ok (.ireturn, 1) := by decide +kernel
theorem dJ0_coder_7d493_0 : decode cJ0_coder_7d493 0 = .ok (.getstatic 38, 3) := by decide +kernel
theorem dJ0_coder_7d493_3 : decode cJ0_coder_7d493 3 = .ok (.ifCond .eq 10, 3) := by decide +kernel
theorem dJ0_coder_7d493_6 : decode cJ0_coder_7d493 6 = .ok (.aload_n 0, 1) := by decide +kernel
theorem dJ0_coder_7d493_7 : decode cJ0_coder_7d493 7 = .ok (.getfield 15, 3) := by decide +kernel
theorem dJ0_coder_7d493_10 : decode cJ0_coder_7d493 10 = .ok (.goto 4, 3) := by decide +kernel
theorem dJ0_coder_7d493_13 : decode cJ0_coder_7d493 13 = .ok (.iconst 1, 1) := by decide +kernel
theorem dJ0_coder_7d493_14 : decode cJ0_coder_7d493 14 = .ok (.ireturn, 1) := by decide +kernel
theorem dJ0_isLatin1_aae02_0 : decode cJ0_isLatin1_aae02 0 = .ok (.getstatic 38, 3) := by decide +kernel
theorem dJ0_isLatin1_aae02_3 : decode cJ0_isLatin1_aae02 3 = .ok (.ifCond .eq 14, 3) := by decide +kernel
theorem dJ0_isLatin1_aae02_6 : decode cJ0_isLatin1_aae02 6 = .ok (.aload_n 0, 1) := by decide +kernel
theorem dJ0_isLatin1_aae02_7 : decode cJ0_isLatin1_aae02 7 = .ok (.getfield 15, 3) := by decide +kernel
theorem dJ0_isLatin1_aae02_10 : decode cJ0_isLatin1_aae02 10 = .ok (.ifCond .ne 7, 3) := by decide +kernel
theorem dJ0_isLatin1_aae02_13 : decode cJ0_isLatin1_aae02 13 = .ok (.iconst 1, 1) := by decide +kernel
theorem dJ0_isLatin1_aae02_14 : decode cJ0_isLatin1_aae02 14 = .ok (.goto 4, 3) := by decide +kernel
theorem dJ0_isLatin1_aae02_17 : decode cJ0_isLatin1_aae02 17 = .ok (.iconst 0, 1) := by decide +kernel
theorem dJ0_isLatin1_aae02_18 : decode cJ0_isLatin1_aae02 18 = .ok (.ireturn, 1) := by decide +kernel
theorem dJ0_checkIndex_df160_0 : decode cJ0_checkIndex_df160 0 = .ok (.iload_n 0, 1) := by decide +kernel
theorem dJ0_checkIndex_df160_1 : decode cJ0_checkIndex_df160 1 = .ok (.iload_n 1, 1) := by decide +kernel
theorem dJ0_checkIndex_df160_2 : decode cJ0_checkIndex_df160 2 = .ok (.getstatic 1053, 3) := by decide +kernel
theorem dJ0_checkIndex_df160_5 : decode cJ0_checkIndex_df160 5 = .ok (.invokestatic 1059, 3) := by decide +kernel
theorem dJ0_checkIndex_df160_8 : decode cJ0_checkIndex_df160 8 = .ok (.pop, 1) := by decide +kernel
theorem dJ0_checkIndex_df160_9 : decode cJ0_checkIndex_df160 9 = .ok (.return_, 1) := by decide +kernel
theorem dJ1_charAt_3b067_0 : decode cJ1_charAt_3b067 0 = .ok (.iload_n 1, 1) := by decide +kernel
theorem dJ1_charAt_3b067_1 : decode cJ1_charAt_3b067 1 = .ok (.aload_n 0, 1) := by decide +kernel
theorem dJ1_charAt_3b067_2 : decode cJ1_charAt_3b067 2 = .ok (.arraylength, 1) := by decide +kernel
theorem dJ1_charAt_3b067_3 : decode cJ1_charAt_3b067 3 = .ok (.invokestatic 9, 3) := by decide +kernel
theorem dJ1_charAt_3b067_6 : decode cJ1_charAt_3b067 6 = .ok (.aload_n 0, 1) := by decide +kernel
theorem dJ1_charAt_3b067_7 : decode cJ1_charAt_3b067 7 = .ok (.iload_n 1, 1) := by decide +kernel
theorem dJ1_charAt_3b067_8 : decode cJ1_charAt_3b067 8 = .ok (.baload, 1) := by decide +kernel
theorem dJ1_charAt_3b067_9 : decode cJ1_charAt_3b067 9 = .ok (.sipush 255, 3) := by decide +kernel
theorem dJ1_charAt_3b067_12 : decode cJ1_charAt_3b067 12 = .ok (.iand, 1) := by decide +kernel
theorem dJ1_charAt_3b067_13 : decode cJ1_charAt_3b067 13 = .ok (.i2c, 1) := by decide +kernel
theorem dJ1_charAt_3b067_14 : decode cJ1_charAt_3b067 14 = .ok (.ireturn, 1) := by decide +kernel
theorem dJ2_getChar_3b067_0 : decode cJ2_getChar_3b067 0 = .ok (.getstatic 44, 3) := by decide +kernel
theorem dJ2_getChar_3b067_3 : decode cJ2_getChar_3b067 3 = .ok (.ifCond .ne 25, 3) := by decide +kernel
theorem dJ2_getChar_3b067_6 : decode cJ2_getChar_3b067 6 = .ok (.iload_n 1, 1) := by decide +kernel
theorem dJ2_getChar_3b067_7 : decode cJ2_getChar_3b067 7 = .ok (.ifCond .lt 11, 3) := by decide +kernel
theorem dJ2_getChar_3b067_10 : decode cJ2_getChar_3b067 10 = .ok (.iload_n 1, 1) := by decide +kernel
theorem dJ2_getChar_3b067_11 : decode cJ2_getChar_3b067 11 = .ok (.aload_n 0, 1) := by decide +kernel
theorem dJ2_getChar_3b067_12 : decode cJ2_getChar_3b067 12 = .ok (.invokestatic 48, 3) := by decide +kernel
theorem dJ2_getChar_3b067_15 : decode cJ2_getChar_3b067 15 = .ok (.if_icmp .lt 13, 3) := by decide +kernel
theorem dJ2_getChar_3b067_18 : decode cJ2_getChar_3b067 18 = .ok (.new 52, 3) := by decide +kernel
theorem dJ2_getChar_3b067_21 : decode cJ2_getChar_3b067 21 = .ok (.dup, 1) := by decide +kernel
theorem dJ2_getChar_3b067_22 : decode cJ2_getChar_3b067 22 = .ok (.ldc 54, 2) := by decide +kernel
theorem dJ2_getChar_3b067_24 : decode cJ2_getChar_3b067 24 = .ok (.invokespecial 56, 3) := by decide +kernel
theorem dJ2_getChar_3b067_27 : decode cJ2_getChar_3b067 27 = .ok (.athrow, 1) := by decide +kernel
theorem dJ2_getChar_3b067_28 : decode cJ2_getChar_3b067 28 = .ok (.iload_n 1, 1) := by decide +kernel
theorem dJ2_getChar_3b067_29 : decode cJ2_getChar_3b067 29 = .ok (.iconst 1, 1) := by decide +kernel
theorem dJ2_getChar_3b067_30 : decode cJ2_getChar_3b067 30 = .ok (.ishl, 1) := by decide +kernel
theorem dJ2_getChar_3b067_31 : decode cJ2_getChar_3b067 31 = .ok (.istore_n 1, 1) := by decide +kernel
theorem dJ2_getChar_3b067_32 : decode cJ2_getChar_3b067 32 = .ok (.aload_n 0, 1) := by decide +kernel
theorem dJ2_getChar_3b067_33 : decode cJ2_getChar_3b067 33 = .ok (.iload_n 1, 1) := by decide +kernel
theorem dJ2_getChar_3b067_34 : decode cJ2_getChar_3b067 34 = .ok (.iinc 1 1, 3) := by decide +kernel
theorem dJ2_getChar_3b067_37 : decode cJ2_getChar_3b067 37 = .ok (.baload, 1) := by decide +kernel
theorem dJ2_getChar_3b067_38 : decode cJ2_getChar_3b067 38 = .ok (.sipush 255, 3) := by decide +kernel
theorem dJ2_getChar_3b067_41 : decode cJ2_getChar_3b067 41 = .ok (.iand, 1) := by decide +kernel
theorem dJ2_getChar_3b067_42 : decode cJ2_getChar_3b067 42 = .ok (.getstatic 59, 3) := by decide +kernel
theorem dJ2_getChar_3b067_45 : decode cJ2_getChar_3b067 45 = .ok (.ishl, 1) := by decide +kernel
theorem dJ2_getChar_3b067_46 : decode cJ2_getChar_3b067 46 = .ok (.aload_n 0, 1) := by decide +kernel
theorem dJ2_getChar_3b067_47 : decode cJ2_getChar_3b067 47 = .ok (.iload_n 1, 1) := by decide +kernel
theorem dJ2_getChar_3b067_48 : decode cJ2_getChar_3b067 48 = .ok (.baload, 1) := by decide +kernel
theorem dJ2_getChar_3b067_49 : decode cJ2_getChar_3b067 49 = .ok (.sipush 255, 3) := by decide +kernel
theorem dJ2_getChar_3b067_52 : decode cJ2_getChar_3b067 52 = .ok (.iand, 1) := by decide +kernel
theorem dJ2_getChar_3b067_53 : decode cJ2_getChar_3b067 53 = .ok (.getstatic 63, 3) := by decide +kernel
theorem dJ2_getChar_3b067_56 : decode cJ2_getChar_3b067 56 = .ok (.ishl, 1) := by decide +kernel
theorem dJ2_getChar_3b067_57 : decode cJ2_getChar_3b067 57 = .ok (.ior, 1) := by decide +kernel
theorem dJ2_getChar_3b067_58 : decode cJ2_getChar_3b067 58 = .ok (.i2c, 1) := by decide +kernel
theorem dJ2_getChar_3b067_59 : decode cJ2_getChar_3b067 59 = .ok (.ireturn, 1) := by decide +kernel
theorem dJ2_length_9d52b_0 : decode cJ2_length_9d52b 0 = .ok (.aload_n 0, 1) := by decide +kernel
theorem dJ2_length_9d52b_1 : decode cJ2_length_9d52b 1 = .ok (.arraylength, 1) := by decide +kernel
theorem dJ2_length_9d52b_2 : decode cJ2_length_9d52b 2 = .ok (.iconst 1, 1) := by decide +kernel
theorem dJ2_length_9d52b_3 : decode cJ2_length_9d52b 3 = .ok (.ishr, 1) := by decide +kernel
theorem dJ2_length_9d52b_4 : decode cJ2_length_9d52b 4 = .ok (.ireturn, 1) := by decide +kernel
theorem dJ2_charAt_3b067_0 : decode cJ2_charAt_3b067 0 = .ok (.iload_n 1, 1) := by decide +kernel
theorem dJ2_charAt_3b067_1 : decode cJ2_charAt_3b067 1 = .ok (.aload_n 0, 1) := by decide +kernel
theorem dJ2_charAt_3b067_2 : decode cJ2_charAt_3b067 2 = .ok (.invokestatic 67, 3) := by decide +kernel
theorem dJ2_charAt_3b067_5 : decode cJ2_charAt_3b067 5 = .ok (.aload_n 0, 1) := by decide +kernel
theorem dJ2_charAt_3b067_6 : decode cJ2_charAt_3b067 6 = .ok (.iload_n 1, 1) := by decide +kernel
theorem dJ2_charAt_3b067_7 : decode cJ2_charAt_3b067 7 = .ok (.invokestatic 71, 3) := by decide +kernel
theorem dJ2_charAt_3b067_10 : decode cJ2_charAt_3b067 10 = .ok (.ireturn, 1) := by decide +kernel
theorem dJ2_checkIndex_2214a_0 : decode cJ2_checkIndex_2214a 0 = .ok (.iload_n 0, 1) := by decide +kernel
theorem dJ2_checkIndex_2214a_1 : decode cJ2_checkIndex_2214a 1 = .ok (.aload_n 1, 1) := by decide +kernel
theorem dJ2_checkIndex_2214a_2 : decode cJ2_checkIndex_2214a 2 = .ok (.invokestatic 48, 3) := by decide +kernel
theorem dJ2_checkIndex_2214a_5 : decode cJ2_checkIndex_2214a 5 = .ok (.invokestatic 414, 3) := by decide +kernel
theorem dJ2_checkIndex_2214a_8 : decode cJ2_checkIndex_2214a 8 = .ok (.return_, 1) := by decide +kernel
theorem dJ3_checkIndex_8e157_0 : decode cJ3_checkIndex_8e157 0 = .ok (.iload_n 0, 1) := by decide +kernel
theorem dJ3_checkIndex_8e157_1 : decode cJ3_checkIndex_8e157 1 = .ok (.ifCond .lt 8, 3) := by decide +kernel
theorem dJ3_checkIndex_8e157_4 : decode cJ3_checkIndex_8e157 4 = .ok (.iload_n 0, 1) := by decide +kernel
theorem dJ3_checkIndex_8e157_5 : decode cJ3_checkIndex_8e157 5 = .ok (.iload_n 1, 1) := by decide +kernel
theorem dJ3_checkIndex_8e157_6 : decode cJ3_checkIndex_8e157 6 = .ok (.if_icmp .lt 10, 3) := by decide +kernel
theorem dJ3_checkIndex_8e157_9 : decode cJ3_checkIndex_8e157 9 = .ok (.aload_n 2, 1) := by decide +kernel
theorem dJ3_checkIndex_8e157_10 : decode cJ3_checkIndex_8e157 10 = .ok (.iload_n 0, 1) := by decide +kernel
theorem dJ3_checkIndex_8e157_11 : decode cJ3_checkIndex_8e157 11 = .ok (.iload_n 1, 1) := by decide +kernel
theorem dJ3_checkIndex_8e157_12 : decode cJ3_checkIndex_8e157 12 = .ok (.invokestatic 95, 3) := by decide +kernel
theorem dJ3_checkIndex_8e157_15 : decode cJ3_checkIndex_8e157 15 = .ok (.athrow, 1) := by decide +kernel
theorem dJ3_checkIndex_8e157_16 : decode cJ3_checkIndex_8e157 16 = .ok (.iload_n 0, 1) := by decide +kernel
theorem dJ3_checkIndex_8e157_17 : decode cJ3_checkIndex_8e157 17 = .ok (.ireturn, 1) := by decide +kernel
