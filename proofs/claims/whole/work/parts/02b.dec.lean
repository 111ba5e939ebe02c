theorem dX4_init_0 : decode cX4_init 0 = .ok (.aload_n 0, 1) := by decide +kernel
theorem dX4_init_1 : decode cX4_init 1 = .ok (.invokespecial 1, 3) := by decide +kernel
theorem dX4_init_4 : decode cX4_init 4 = .ok (.aload_n 0, 1) := by decide +kernel
theorem dX4_init_5 : decode cX4_init 5 = .ok (.aload_n 1, 1) := by decide +kernel
theorem dX4_init_6 : decode cX4_init 6 = .ok (.putfield 7, 3) := by decide +kernel
theorem dX4_init_9 : decode cX4_init 9 = .ok (.aload_n 0, 1) := by decide +kernel
theorem dX4_init_10 : decode cX4_init 10 = .ok (.iload_n 2, 1) := by decide +kernel
theorem dX4_init_11 : decode cX4_init 11 = .ok (.putfield 13, 3) := by decide +kernel
theorem dX4_init_14 : decode cX4_init 14 = .ok (.aload_n 0, 1) := by decide +kernel
theorem dX4_init_15 : decode cX4_init 15 = .ok (.iload_n 2, 1) := by decide +kernel
theorem dX4_init_16 : decode cX4_init 16 = .ok (.putfield 17, 3) := by decide +kernel
theorem dX4_init_19 : decode cX4_init 19 = .ok (.aload_n 0, 1) := by decide +kernel
theorem dX4_init_20 : decode cX4_init 20 = .ok (.aload_n 1, 1) := by decide +kernel
theorem dX4_init_21 : decode cX4_init 21 = .ok (.iload_n 2, 1) := by decide +kernel
theorem dX4_init_22 : decode cX4_init 22 = .ok (.iload_n 2, 1) := by decide +kernel
theorem dX4_init_23 : decode cX4_init 23 = .ok (.invokevirtual 20, 3) := by decide +kernel
theorem dX4_init_26 : decode cX4_init 26 = .ok (.putfield 26, 3) := by decide +kernel
theorem dX4_init_29 : decode cX4_init 29 = .ok (.return_, 1) := by decide +kernel
theorem dX4_addUnit_0 : decode cX4_addUnit 0 = .ok (.aload_n 0, 1) := by decide +kernel
theorem dX4_addUnit_1 : decode cX4_addUnit 1 = .ok (.getfield 7, 3) := by decide +kernel
theorem dX4_addUnit_4 : decode cX4_addUnit 4 = .ok (.aload_n 0, 1) := by decide +kernel
theorem dX4_addUnit_5 : decode cX4_addUnit 5 = .ok (.getfield 13, 3) := by decide +kernel
theorem dX4_addUnit_8 : decode cX4_addUnit 8 = .ok (.aload_n 0, 1) := by decide +kernel
theorem dX4_addUnit_9 : decode cX4_addUnit 9 = .ok (.getfield 17, 3) := by decide +kernel
theorem dX4_addUnit_12 : decode cX4_addUnit 12 = .ok (.invokevirtual 20, 3) := by decide +kernel
theorem dX4_addUnit_15 : decode cX4_addUnit 15 = .ok (.istore_n 1, 1) := by decide +kernel
theorem dX4_addUnit_16 : decode cX4_addUnit 16 = .ok (.iload_n 1, 1) := by decide +kernel
theorem dX4_addUnit_17 : decode cX4_addUnit 17 = .ok (.aload_n 0, 1) := by decide +kernel
theorem dX4_addUnit_18 : decode cX4_addUnit 18 = .ok (.getfield 26, 3) := by decide +kernel
theorem dX4_addUnit_21 : decode cX4_addUnit 21 = .ok (.if_icmp .eq 33, 3) := by decide +kernel
theorem dX4_addUnit_24 : decode cX4_addUnit 24 = .ok (.aload_n 0, 1) := by decide +kernel
theorem dX4_addUnit_25 : decode cX4_addUnit 25 = .ok (.dup, 1) := by decide +kernel
theorem dX4_addUnit_26 : decode cX4_addUnit 26 = .ok (.getfield 29, 3) := by decide +kernel
theorem dX4_addUnit_29 : decode cX4_addUnit 29 = .ok (.aload_n 0, 1) := by decide +kernel
theorem dX4_addUnit_30 : decode cX4_addUnit 30 = .ok (.getfield 7, 3) := by decide +kernel
theorem dX4_addUnit_33 : decode cX4_addUnit 33 = .ok (.aload_n 0, 1) := by decide +kernel
theorem dX4_addUnit_34 : decode cX4_addUnit 34 = .ok (.getfield 32, 3) := by decide +kernel
theorem dX4_addUnit_37 : decode cX4_addUnit 37 = .ok (.invokevirtual 35, 3) := by decide +kernel
theorem dX4_addUnit_40 : decode cX4_addUnit 40 = .ok (.iadd, 1) := by decide +kernel
theorem dX4_addUnit_41 : decode cX4_addUnit 41 = .ok (.putfield 29, 3) := by decide +kernel
theorem dX4_addUnit_44 : decode cX4_addUnit 44 = .ok (.aload_n 0, 1) := by decide +kernel
theorem dX4_addUnit_45 : decode cX4_addUnit 45 = .ok (.iconst 0, 1) := by decide +kernel
theorem dX4_addUnit_46 : decode cX4_addUnit 46 = .ok (.putfield 32, 3) := by decide +kernel
theorem dX4_addUnit_49 : decode cX4_addUnit 49 = .ok (.aload_n 0, 1) := by decide +kernel
theorem dX4_addUnit_50 : decode cX4_addUnit 50 = .ok (.iload_n 1, 1) := by decide +kernel
theorem dX4_addUnit_51 : decode cX4_addUnit 51 = .ok (.putfield 26, 3) := by decide +kernel
theorem dX4_addUnit_54 : decode cX4_addUnit 54 = .ok (.aload_n 0, 1) := by decide +kernel
theorem dX4_addUnit_55 : decode cX4_addUnit 55 = .ok (.getfield 7, 3) := by decide +kernel
theorem dX4_addUnit_58 : decode cX4_addUnit 58 = .ok (.aload_n 0, 1) := by decide +kernel
theorem dX4_addUnit_59 : decode cX4_addUnit 59 = .ok (.getfield 17, 3) := by decide +kernel
theorem dX4_addUnit_62 : decode cX4_addUnit 62 = .ok (.invokevirtual 39, 3) := by decide +kernel
theorem dX4_addUnit_65 : decode cX4_addUnit 65 = .ok (.astore_n 2, 1) := by decide +kernel
theorem dX4_addUnit_66 : decode cX4_addUnit 66 = .ok (.aload_n 0, 1) := by decide +kernel
theorem dX4_addUnit_67 : decode cX4_addUnit 67 = .ok (.dup, 1) := by decide +kernel
theorem dX4_addUnit_68 : decode cX4_addUnit 68 = .ok (.getfield 32, 3) := by decide +kernel
theorem dX4_addUnit_71 : decode cX4_addUnit 71 = .ok (.aload_n 2, 1) := by decide +kernel
theorem dX4_addUnit_72 : decode cX4_addUnit 72 = .ok (.getfield 43, 3) := by decide +kernel
theorem dX4_addUnit_75 : decode cX4_addUnit 75 = .ok (.iadd, 1) := by decide +kernel
theorem dX4_addUnit_76 : decode cX4_addUnit 76 = .ok (.putfield 32, 3) := by decide +kernel
theorem dX4_addUnit_79 : decode cX4_addUnit 79 = .ok (.aload_n 0, 1) := by decide +kernel
theorem dX4_addUnit_80 : decode cX4_addUnit 80 = .ok (.dup, 1) := by decide +kernel
theorem dX4_addUnit_81 : decode cX4_addUnit 81 = .ok (.getfield 17, 3) := by decide +kernel
theorem dX4_addUnit_84 : decode cX4_addUnit 84 = .ok (.aload_n 2, 1) := by decide +kernel
theorem dX4_addUnit_85 : decode cX4_addUnit 85 = .ok (.getfield 48, 3) := by decide +kernel
theorem dX4_addUnit_88 : decode cX4_addUnit 88 = .ok (.iadd, 1) := by decide +kernel
theorem dX4_addUnit_89 : decode cX4_addUnit 89 = .ok (.putfield 17, 3) := by decide +kernel
theorem dX4_addUnit_92 : decode cX4_addUnit 92 = .ok (.return_, 1) := by decide +kernel
theorem dX4_amount_0 : decode cX4_amount 0 = .ok (.aload_n 0, 1) := by decide +kernel
theorem dX4_amount_1 : decode cX4_amount 1 = .ok (.getfield 29, 3) := by decide +kernel
theorem dX4_amount_4 : decode cX4_amount 4 = .ok (.aload_n 0, 1) := by decide +kernel
theorem dX4_amount_5 : decode cX4_amount 5 = .ok (.getfield 7, 3) := by decide +kernel
theorem dX4_amount_8 : decode cX4_amount 8 = .ok (.aload_n 0, 1) := by decide +kernel
theorem dX4_amount_9 : decode cX4_amount 9 = .ok (.getfield 32, 3) := by decide +kernel
theorem dX4_amount_12 : decode cX4_amount 12 = .ok (.invokevirtual 35, 3) := by decide +kernel
theorem dX4_amount_15 : decode cX4_amount 15 = .ok (.iadd, 1) := by decide +kernel
theorem dX4_amount_16 : decode cX4_amount 16 = .ok (.ireturn, 1) := by decide +kernel
theorem dX5_init_0 : decode cX5_init 0 = .ok (.aload_n 0, 1) := by decide +kernel
theorem dX5_init_1 : decode cX5_init 1 = .ok (.invokespecial 3, 3) := by decide +kernel
theorem dX5_init_4 : decode cX5_init 4 = .ok (.aload_n 0, 1) := by decide +kernel
theorem dX5_init_5 : decode cX5_init 5 = .ok (.bipush 6, 2) := by decide +kernel
theorem dX5_init_7 : decode cX5_init 7 = .ok (.anewarray 9, 3) := by decide +kernel
theorem dX5_init_10 : decode cX5_init 10 = .ok (.putfield 11, 3) := by decide +kernel
theorem dX5_init_13 : decode cX5_init 13 = .ok (.iconst 0, 1) := by decide +kernel
theorem dX5_init_14 : decode cX5_init 14 = .ok (.istore_n 1, 1) := by decide +kernel
theorem dX5_init_15 : decode cX5_init 15 = .ok (.iload_n 1, 1) := by decide +kernel
theorem dX5_init_16 : decode cX5_init 16 = .ok (.bipush 6, 2) := by decide +kernel
theorem dX5_init_18 : decode cX5_init 18 = .ok (.if_icmp .ge 23, 3) := by decide +kernel
theorem dX5_init_21 : decode cX5_init 21 = .ok (.aload_n 0, 1) := by decide +kernel
theorem dX5_init_22 : decode cX5_init 22 = .ok (.getfield 11, 3) := by decide +kernel
theorem dX5_init_25 : decode cX5_init 25 = .ok (.iload_n 1, 1) := by decide +kernel
theorem dX5_init_26 : decode cX5_init 26 = .ok (.new 9, 3) := by decide +kernel
theorem dX5_init_29 : decode cX5_init 29 = .ok (.dup, 1) := by decide +kernel
theorem dX5_init_30 : decode cX5_init 30 = .ok (.iload_n 1, 1) := by decide +kernel
theorem dX5_init_31 : decode cX5_init 31 = .ok (.invokespecial 17, 3) := by decide +kernel
theorem dX5_init_34 : decode cX5_init 34 = .ok (.aastore, 1) := by decide +kernel
theorem dX5_init_35 : decode cX5_init 35 = .ok (.iinc 1 1, 3) := by decide +kernel
theorem dX5_init_38 : decode cX5_init 38 = .ok (.goto (-23), 3) := by decide +kernel
theorem dX5_init_41 : decode cX5_init 41 = .ok (.aload_n 0, 1) := by decide +kernel
theorem dX5_init_42 : decode cX5_init 42 = .ok (.invokevirtual 20, 3) := by decide +kernel
theorem dX5_init_45 : decode cX5_init 45 = .ok (.return_, 1) := by decide +kernel
theorem dX5_reset_0 : decode cX5_reset 0 = .ok (.aload_n 0, 1) := by decide +kernel
theorem dX5_reset_1 : decode cX5_reset 1 = .ok (.iconst 0, 1) := by decide +kernel
theorem dX5_reset_2 : decode cX5_reset 2 = .ok (.putfield 23, 3) := by decide +kernel
theorem dX5_reset_5 : decode cX5_reset 5 = .ok (.aload_n 0, 1) := by decide +kernel
theorem dX5_reset_6 : decode cX5_reset 6 = .ok (.iconst 0, 1) := by decide +kernel
theorem dX5_reset_7 : decode cX5_reset 7 = .ok (.putfield 27, 3) := by decide +kernel
theorem dX5_reset_10 : decode cX5_reset 10 = .ok (.aload_n 0, 1) := by decide +kernel
theorem dX5_reset_11 : decode cX5_reset 11 = .ok (.iconst 0, 1) := by decide +kernel
theorem dX5_reset_12 : decode cX5_reset 12 = .ok (.putfield 30, 3) := by decide +kernel
theorem dX5_reset_15 : decode cX5_reset 15 = .ok (.aload_n 0, 1) := by decide +kernel
theorem dX5_reset_16 : decode cX5_reset 16 = .ok (.sipush 2000, 3) := by decide +kernel
theorem dX5_reset_19 : decode cX5_reset 19 = .ok (.putfield 33, 3) := by decide +kernel
theorem dX5_reset_22 : decode cX5_reset 22 = .ok (.aload_n 0, 1) := by decide +kernel
theorem dX5_reset_23 : decode cX5_reset 23 = .ok (.getfield 11, 3) := by decide +kernel
theorem dX5_reset_26 : decode cX5_reset 26 = .ok (.iconst 0, 1) := by decide +kernel
theorem dX5_reset_27 : decode cX5_reset 27 = .ok (.aaload, 1) := by decide +kernel
theorem dX5_reset_28 : decode cX5_reset 28 = .ok (.iconst 0, 1) := by decide +kernel
theorem dX5_reset_29 : decode cX5_reset 29 = .ok (.bipush 100, 2) := by decide +kernel
theorem dX5_reset_31 : decode cX5_reset 31 = .ok (.bipush 60, 2) := by decide +kernel
theorem dX5_reset_33 : decode cX5_reset 33 = .ok (.invokevirtual 36, 3) := by decide +kernel
theorem dX5_reset_36 : decode cX5_reset 36 = .ok (.aload_n 0, 1) := by decide +kernel
theorem dX5_reset_37 : decode cX5_reset 37 = .ok (.iconst 1, 1) := by decide +kernel
theorem dX5_reset_38 : decode cX5_reset 38 = .ok (.putfield 40, 3) := by decide +kernel
theorem dX5_reset_41 : decode cX5_reset 41 = .ok (.return_, 1) := by decide +kernel
theorem dX5_copyFrom_0 : decode cX5_copyFrom 0 = .ok (.aload_n 0, 1) := by decide +kernel
theorem dX5_copyFrom_1 : decode cX5_copyFrom 1 = .ok (.aload_n 1, 1) := by decide +kernel
theorem dX5_copyFrom_2 : decode cX5_copyFrom 2 = .ok (.getfield 23, 3) := by decide +kernel
theorem dX5_copyFrom_5 : decode cX5_copyFrom 5 = .ok (.putfield 23, 3) := by decide +kernel
theorem dX5_copyFrom_8 : decode cX5_copyFrom 8 = .ok (.aload_n 0, 1) := by decide +kernel
theorem dX5_copyFrom_9 : decode cX5_copyFrom 9 = .ok (.aload_n 1, 1) := by decide +kernel
theorem dX5_copyFrom_10 : decode cX5_copyFrom 10 = .ok (.getfield 27, 3) := by decide +kernel
theorem dX5_copyFrom_13 : decode cX5_copyFrom 13 = .ok (.putfield 27, 3) := by decide +kernel
theorem dX5_copyFrom_16 : decode cX5_copyFrom 16 = .ok (.aload_n 0, 1) := by decide +kernel
theorem dX5_copyFrom_17 : decode cX5_copyFrom 17 = .ok (.aload_n 1, 1) := by decide +kernel
theorem dX5_copyFrom_18 : decode cX5_copyFrom 18 = .ok (.getfield 30, 3) := by decide +kernel
theorem dX5_copyFrom_21 : decode cX5_copyFrom 21 = .ok (.putfield 30, 3) := by decide +kernel
theorem dX5_copyFrom_24 : decode cX5_copyFrom 24 = .ok (.aload_n 0, 1) := by decide +kernel
theorem dX5_copyFrom_25 : decode cX5_copyFrom 25 = .ok (.aload_n 1, 1) := by decide +kernel
theorem dX5_copyFrom_26 : decode cX5_copyFrom 26 = .ok (.getfield 33, 3) := by decide +kernel
theorem dX5_copyFrom_29 : decode cX5_copyFrom 29 = .ok (.putfield 33, 3) := by decide +kernel
theorem dX5_copyFrom_32 : decode cX5_copyFrom 32 = .ok (.iconst 0, 1) := by decide +kernel
theorem dX5_copyFrom_33 : decode cX5_copyFrom 33 = .ok (.istore_n 2, 1) := by decide +kernel
theorem dX5_copyFrom_34 : decode cX5_copyFrom 34 = .ok (.iload_n 2, 1) := by decide +kernel
theorem dX5_copyFrom_35 : decode cX5_copyFrom 35 = .ok (.bipush 6, 2) := by decide +kernel
theorem dX5_copyFrom_37 : decode cX5_copyFrom 37 = .ok (.if_icmp .ge 24, 3) := by decide +kernel
theorem dX5_copyFrom_40 : decode cX5_copyFrom 40 = .ok (.aload_n 0, 1) := by decide +kernel
theorem dX5_copyFrom_41 : decode cX5_copyFrom 41 = .ok (.getfield 11, 3) := by decide +kernel
theorem dX5_copyFrom_44 : decode cX5_copyFrom 44 = .ok (.iload_n 2, 1) := by decide +kernel
theorem dX5_copyFrom_45 : decode cX5_copyFrom 45 = .ok (.aaload, 1) := by decide +kernel
theorem dX5_copyFrom_46 : decode cX5_copyFrom 46 = .ok (.aload_n 1, 1) := by decide +kernel
theorem dX5_copyFrom_47 : decode cX5_copyFrom 47 = .ok (.getfield 11, 3) := by decide +kernel
theorem dX5_copyFrom_50 : decode cX5_copyFrom 50 = .ok (.iload_n 2, 1) := by decide +kernel
theorem dX5_copyFrom_51 : decode cX5_copyFrom 51 = .ok (.aaload, 1) := by decide +kernel
theorem dX5_copyFrom_52 : decode cX5_copyFrom 52 = .ok (.invokevirtual 43, 3) := by decide +kernel
theorem dX5_copyFrom_55 : decode cX5_copyFrom 55 = .ok (.iinc 2 1, 3) := by decide +kernel
theorem dX5_copyFrom_58 : decode cX5_copyFrom 58 = .ok (.goto (-24), 3) := by decide +kernel
theorem dX5_copyFrom_61 : decode cX5_copyFrom 61 = .ok (.aload_n 0, 1) := by decide +kernel
theorem dX5_copyFrom_62 : decode cX5_copyFrom 62 = .ok (.aload_n 1, 1) := by decide +kernel
theorem dX5_copyFrom_63 : decode cX5_copyFrom 63 = .ok (.getfield 40, 3) := by decide +kernel
theorem dX5_copyFrom_66 : decode cX5_copyFrom 66 = .ok (.putfield 40, 3) := by decide +kernel
theorem dX5_copyFrom_69 : decode cX5_copyFrom 69 = .ok (.return_, 1) := by decide +kernel
theorem dX5_property_0 : decode cX5_property 0 = .ok (.iload_n 1, 1) := by decide +kernel
theorem dX5_property_1 : decode cX5_property 1 = .ok (.tableswitch 51 0 3 #[31, 36, 41, 46], 31) := by decide +kernel
theorem dX5_property_32 : decode cX5_property 32 = .ok (.aload_n 0, 1) := by decide +kernel
theorem dX5_property_33 : decode cX5_property 33 = .ok (.getfield 23, 3) := by decide +kernel
theorem dX5_property_36 : decode cX5_property 36 = .ok (.ireturn, 1) := by decide +kernel
theorem dX5_property_37 : decode cX5_property 37 = .ok (.aload_n 0, 1) := by decide +kernel
theorem dX5_property_38 : decode cX5_property 38 = .ok (.getfield 27, 3) := by decide +kernel
theorem dX5_property_41 : decode cX5_property 41 = .ok (.ireturn, 1) := by decide +kernel
theorem dX5_property_42 : decode cX5_property 42 = .ok (.aload_n 0, 1) := by decide +kernel
theorem dX5_property_43 : decode cX5_property 43 = .ok (.getfield 30, 3) := by decide +kernel
theorem dX5_property_46 : decode cX5_property 46 = .ok (.ireturn, 1) := by decide +kernel
theorem dX5_property_47 : decode cX5_property 47 = .ok (.aload_n 0, 1) := by decide +kernel
theorem dX5_property_48 : decode cX5_property 48 = .ok (.getfield 33, 3) := by decide +kernel
theorem dX5_property_51 : decode cX5_property 51 = .ok (.ireturn, 1) := by decide +kernel
theorem dX5_property_52 : decode cX5_property 52 = .ok (.aload_n 0, 1) := by decide +kernel
theorem dX5_property_53 : decode cX5_property 53 = .ok (.getfield 40, 3) := by decide +kernel
theorem dX5_property_56 : decode cX5_property 56 = .ok (.ireturn, 1) := by decide +kernel
theorem dX5_bandAt_0 : decode cX5_bandAt 0 = .ok (.iload_n 1, 1) := by decide +kernel
theorem dX5_bandAt_1 : decode cX5_bandAt 1 = .ok (.iconst 0, 1) := by decide +kernel
theorem dX5_bandAt_2 : decode cX5_bandAt 2 = .ok (.iconst 5, 1) := by decide +kernel
theorem dX5_bandAt_3 : decode cX5_bandAt 3 = .ok (.invokestatic 47, 3) := by decide +kernel
theorem dX5_bandAt_6 : decode cX5_bandAt 6 = .ok (.ifCond .eq 15, 3) := by decide +kernel
theorem dX5_bandAt_9 : decode cX5_bandAt 9 = .ok (.iload_n 1, 1) := by decide +kernel
theorem dX5_bandAt_10 : decode cX5_bandAt 10 = .ok (.aload_n 0, 1) := by decide +kernel
theorem dX5_bandAt_11 : decode cX5_bandAt 11 = .ok (.getfield 40, 3) := by decide +kernel
theorem dX5_bandAt_14 : decode cX5_bandAt 14 = .ok (.if_icmp .ge 7, 3) := by decide +kernel
theorem dX5_bandAt_17 : decode cX5_bandAt 17 = .ok (.iconst 1, 1) := by decide +kernel
theorem dX5_bandAt_18 : decode cX5_bandAt 18 = .ok (.goto 4, 3) := by decide +kernel
theorem dX5_bandAt_21 : decode cX5_bandAt 21 = .ok (.iconst 0, 1) := by decide +kernel
theorem dX5_bandAt_22 : decode cX5_bandAt 22 = .ok (.istore_n 2, 1) := by decide +kernel
theorem dX5_bandAt_23 : decode cX5_bandAt 23 = .ok (.iload_n 2, 1) := by decide +kernel
theorem dX5_bandAt_24 : decode cX5_bandAt 24 = .ok (.ifCond .eq 12, 3) := by decide +kernel
theorem dX5_bandAt_27 : decode cX5_bandAt 27 = .ok (.aload_n 0, 1) := by decide +kernel
theorem dX5_bandAt_28 : decode cX5_bandAt 28 = .ok (.getfield 11, 3) := by decide +kernel
theorem dX5_bandAt_31 : decode cX5_bandAt 31 = .ok (.iload_n 1, 1) := by decide +kernel
theorem dX5_bandAt_32 : decode cX5_bandAt 32 = .ok (.aaload, 1) := by decide +kernel
theorem dX5_bandAt_33 : decode cX5_bandAt 33 = .ok (.goto 4, 3) := by decide +kernel
theorem dX5_bandAt_36 : decode cX5_bandAt 36 = .ok (.aconst_null, 1) := by decide +kernel
theorem dX5_bandAt_37 : decode cX5_bandAt 37 = .ok (.areturn, 1) := by decide +kernel
theorem dX5_bandOfMinute_0 : decode cX5_bandOfMinute 0 = .ok (.iload_n 1, 1) := by decide +kernel
theorem dX5_bandOfMinute_1 : decode cX5_bandOfMinute 1 = .ok (.sipush 1440, 3) := by decide +kernel
theorem dX5_bandOfMinute_4 : decode cX5_bandOfMinute 4 = .ok (.irem, 1) := by decide +kernel
theorem dX5_bandOfMinute_5 : decode cX5_bandOfMinute 5 = .ok (.istore_n 2, 1) := by decide +kernel
theorem dX5_bandOfMinute_6 : decode cX5_bandOfMinute 6 = .ok (.aload_n 0, 1) := by decide +kernel
theorem dX5_bandOfMinute_7 : decode cX5_bandOfMinute 7 = .ok (.getfield 11, 3) := by decide +kernel
theorem dX5_bandOfMinute_10 : decode cX5_bandOfMinute 10 = .ok (.iconst 0, 1) := by decide +kernel
theorem dX5_bandOfMinute_11 : decode cX5_bandOfMinute 11 = .ok (.aaload, 1) := by decide +kernel
theorem dX5_bandOfMinute_12 : decode cX5_bandOfMinute 12 = .ok (.astore_n 3, 1) := by decide +kernel
theorem dX5_bandOfMinute_13 : decode cX5_bandOfMinute 13 = .ok (.iconst 1, 1) := by decide +kernel
theorem dX5_bandOfMinute_14 : decode cX5_bandOfMinute 14 = .ok (.istore 4, 2) := by decide +kernel
theorem dX5_bandOfMinute_16 : decode cX5_bandOfMinute 16 = .ok (.iload 4, 2) := by decide +kernel
theorem dX5_bandOfMinute_18 : decode cX5_bandOfMinute 18 = .ok (.bipush 6, 2) := by decide +kernel
theorem dX5_bandOfMinute_20 : decode cX5_bandOfMinute 20 = .ok (.if_icmp .ge 40, 3) := by decide +kernel
theorem dX5_bandOfMinute_23 : decode cX5_bandOfMinute 23 = .ok (.iload 4, 2) := by decide +kernel
theorem dX5_bandOfMinute_25 : decode cX5_bandOfMinute 25 = .ok (.aload_n 0, 1) := by decide +kernel
theorem dX5_bandOfMinute_26 : decode cX5_bandOfMinute 26 = .ok (.getfield 40, 3) := by decide +kernel
theorem dX5_bandOfMinute_29 : decode cX5_bandOfMinute 29 = .ok (.if_icmp .ge 31, 3) := by decide +kernel
theorem dX5_bandOfMinute_32 : decode cX5_bandOfMinute 32 = .ok (.aload_n 0, 1) := by decide +kernel
theorem dX5_bandOfMinute_33 : decode cX5_bandOfMinute 33 = .ok (.getfield 11, 3) := by decide +kernel
theorem dX5_bandOfMinute_36 : decode cX5_bandOfMinute 36 = .ok (.iload 4, 2) := by decide +kernel
theorem dX5_bandOfMinute_38 : decode cX5_bandOfMinute 38 = .ok (.aaload, 1) := by decide +kernel
theorem dX5_bandOfMinute_39 : decode cX5_bandOfMinute 39 = .ok (.getfield 51, 3) := by decide +kernel
theorem dX5_bandOfMinute_42 : decode cX5_bandOfMinute 42 = .ok (.iload_n 2, 1) := by decide +kernel
theorem dX5_bandOfMinute_43 : decode cX5_bandOfMinute 43 = .ok (.if_icmp .gt 11, 3) := by decide +kernel
theorem dX5_bandOfMinute_46 : decode cX5_bandOfMinute 46 = .ok (.aload_n 0, 1) := by decide +kernel
theorem dX5_bandOfMinute_47 : decode cX5_bandOfMinute 47 = .ok (.getfield 11, 3) := by decide +kernel
theorem dX5_bandOfMinute_50 : decode cX5_bandOfMinute 50 = .ok (.iload 4, 2) := by decide +kernel
theorem dX5_bandOfMinute_52 : decode cX5_bandOfMinute 52 = .ok (.aaload, 1) := by decide +kernel
theorem dX5_bandOfMinute_53 : decode cX5_bandOfMinute 53 = .ok (.astore_n 3, 1) := by decide +kernel
theorem dX5_bandOfMinute_54 : decode cX5_bandOfMinute 54 = .ok (.iinc 4 1, 3) := by decide +kernel
theorem dX5_bandOfMinute_57 : decode cX5_bandOfMinute 57 = .ok (.goto (-41), 3) := by decide +kernel
theorem dX5_bandOfMinute_60 : decode cX5_bandOfMinute 60 = .ok (.aload_n 3, 1) := by decide +kernel
theorem dX5_bandOfMinute_61 : decode cX5_bandOfMinute 61 = .ok (.areturn, 1) := by decide +kernel
theorem dX5_groupOf_0 : decode cX5_groupOf 0 = .ok (.aload_n 0, 1) := by decide +kernel
theorem dX5_groupOf_1 : decode cX5_groupOf 1 = .ok (.getfield 30, 3) := by decide +kernel
theorem dX5_groupOf_4 : decode cX5_groupOf 4 = .ok (.iconst 1, 1) := by decide +kernel
theorem dX5_groupOf_5 : decode cX5_groupOf 5 = .ok (.if_icmp .ne 11, 3) := by decide +kernel
theorem dX5_groupOf_8 : decode cX5_groupOf 8 = .ok (.iload_n 2, 1) := by decide +kernel
theorem dX5_groupOf_9 : decode cX5_groupOf 9 = .ok (.sipush 1440, 3) := by decide +kernel
theorem dX5_groupOf_12 : decode cX5_groupOf 12 = .ok (.idiv, 1) := by decide +kernel
theorem dX5_groupOf_13 : decode cX5_groupOf 13 = .ok (.goto 10, 3) := by decide +kernel
theorem dX5_groupOf_16 : decode cX5_groupOf 16 = .ok (.iload_n 2, 1) := by decide +kernel
theorem dX5_groupOf_17 : decode cX5_groupOf 17 = .ok (.iload_n 1, 1) := by decide +kernel
theorem dX5_groupOf_18 : decode cX5_groupOf 18 = .ok (.isub, 1) := by decide +kernel
theorem dX5_groupOf_19 : decode cX5_groupOf 19 = .ok (.sipush 1440, 3) := by decide +kernel
theorem dX5_groupOf_22 : decode cX5_groupOf 22 = .ok (.idiv, 1) := by decide +kernel
theorem dX5_groupOf_23 : decode cX5_groupOf 23 = .ok (.ireturn, 1) := by decide +kernel
theorem dX5_capped_0 : decode cX5_capped 0 = .ok (.aload_n 0, 1) := by decide +kernel
theorem dX5_capped_1 : decode cX5_capped 1 = .ok (.getfield 27, 3) := by decide +kernel
theorem dX5_capped_4 : decode cX5_capped 4 = .ok (.ifCond .ne 7, 3) := by decide +kernel
theorem dX5_capped_7 : decode cX5_capped 7 = .ok (.iload_n 1, 1) := by decide +kernel
theorem dX5_capped_8 : decode cX5_capped 8 = .ok (.goto 11, 3) := by decide +kernel
theorem dX5_capped_11 : decode cX5_capped 11 = .ok (.iload_n 1, 1) := by decide +kernel
theorem dX5_capped_12 : decode cX5_capped 12 = .ok (.aload_n 0, 1) := by decide +kernel
theorem dX5_capped_13 : decode cX5_capped 13 = .ok (.getfield 27, 3) := by decide +kernel
theorem dX5_capped_16 : decode cX5_capped 16 = .ok (.invokestatic 54, 3) := by decide +kernel
theorem dX5_capped_19 : decode cX5_capped 19 = .ok (.ireturn, 1) := by decide +kernel
theorem dX5_feeOfStay_0 : decode cX5_feeOfStay 0 = .ok (.iload_n 2, 1) := by decide +kernel
theorem dX5_feeOfStay_1 : decode cX5_feeOfStay 1 = .ok (.iload_n 1, 1) := by decide +kernel
theorem dX5_feeOfStay_2 : decode cX5_feeOfStay 2 = .ok (.isub, 1) := by decide +kernel
theorem dX5_feeOfStay_3 : decode cX5_feeOfStay 3 = .ok (.aload_n 0, 1) := by decide +kernel
theorem dX5_feeOfStay_4 : decode cX5_feeOfStay 4 = .ok (.getfield 23, 3) := by decide +kernel
theorem dX5_feeOfStay_7 : decode cX5_feeOfStay 7 = .ok (.if_icmp .gt 5, 3) := by decide +kernel
theorem dX5_feeOfStay_10 : decode cX5_feeOfStay 10 = .ok (.iconst 0, 1) := by decide +kernel
theorem dX5_feeOfStay_11 : decode cX5_feeOfStay 11 = .ok (.ireturn, 1) := by decide +kernel
theorem dX5_feeOfStay_12 : decode cX5_feeOfStay 12 = .ok (.new 60, 3) := by decide +kernel
theorem dX5_feeOfStay_15 : decode cX5_feeOfStay 15 = .ok (.dup, 1) := by decide +kernel
theorem dX5_feeOfStay_16 : decode cX5_feeOfStay 16 = .ok (.aload_n 0, 1) := by decide +kernel
theorem dX5_feeOfStay_17 : decode cX5_feeOfStay 17 = .ok (.iload_n 1, 1) := by decide +kernel
theorem dX5_feeOfStay_18 : decode cX5_feeOfStay 18 = .ok (.invokespecial 62, 3) := by decide +kernel
theorem dX5_feeOfStay_21 : decode cX5_feeOfStay 21 = .ok (.astore_n 3, 1) := by decide +kernel
theorem dX5_feeOfStay_22 : decode cX5_feeOfStay 22 = .ok (.iconst 0, 1) := by decide +kernel
theorem dX5_feeOfStay_23 : decode cX5_feeOfStay 23 = .ok (.istore 4, 2) := by decide +kernel
theorem dX5_feeOfStay_25 : decode cX5_feeOfStay 25 = .ok (.iload 4, 2) := by decide +kernel
theorem dX5_feeOfStay_27 : decode cX5_feeOfStay 27 = .ok (.sipush 20000, 3) := by decide +kernel
theorem dX5_feeOfStay_30 : decode cX5_feeOfStay 30 = .ok (.if_icmp .ge 21, 3) := by decide +kernel
theorem dX5_feeOfStay_33 : decode cX5_feeOfStay 33 = .ok (.aload_n 3, 1) := by decide +kernel
theorem dX5_feeOfStay_34 : decode cX5_feeOfStay 34 = .ok (.getfield 65, 3) := by decide +kernel
theorem dX5_feeOfStay_37 : decode cX5_feeOfStay 37 = .ok (.iload_n 2, 1) := by decide +kernel
theorem dX5_feeOfStay_38 : decode cX5_feeOfStay 38 = .ok (.if_icmp .ge 13, 3) := by decide +kernel
theorem dX5_feeOfStay_41 : decode cX5_feeOfStay 41 = .ok (.aload_n 3, 1) := by decide +kernel
theorem dX5_feeOfStay_42 : decode cX5_feeOfStay 42 = .ok (.invokevirtual 68, 3) := by decide +kernel
theorem dX5_feeOfStay_45 : decode cX5_feeOfStay 45 = .ok (.iinc 4 1, 3) := by decide +kernel
theorem dX5_feeOfStay_48 : decode cX5_feeOfStay 48 = .ok (.goto (-23), 3) := by decide +kernel
theorem dX5_feeOfStay_51 : decode cX5_feeOfStay 51 = .ok (.aload_n 3, 1) := by decide +kernel
theorem dX5_feeOfStay_52 : decode cX5_feeOfStay 52 = .ok (.invokevirtual 71, 3) := by decide +kernel
theorem dX5_feeOfStay_55 : decode cX5_feeOfStay 55 = .ok (.ireturn, 1) := by decide +kernel
theorem dX5_latestEnd_0 : decode cX5_latestEnd 0 = .ok (.aload_n 0, 1) := by decide +kernel
theorem dX5_latestEnd_1 : decode cX5_latestEnd 1 = .ok (.iload_n 1, 1) := by decide +kernel
theorem dX5_latestEnd_2 : decode cX5_latestEnd 2 = .ok (.iload_n 2, 1) := by decide +kernel
theorem dX5_latestEnd_3 : decode cX5_latestEnd 3 = .ok (.invokevirtual 75, 3) := by decide +kernel
theorem dX5_latestEnd_6 : decode cX5_latestEnd 6 = .ok (.istore_n 3, 1) := by decide +kernel
theorem dX5_latestEnd_7 : decode cX5_latestEnd 7 = .ok (.iload_n 1, 1) := by decide +kernel
theorem dX5_latestEnd_8 : decode cX5_latestEnd 8 = .ok (.aload_n 0, 1) := by decide +kernel
theorem dX5_latestEnd_9 : decode cX5_latestEnd 9 = .ok (.getfield 23, 3) := by decide +kernel
theorem dX5_latestEnd_12 : decode cX5_latestEnd 12 = .ok (.iadd, 1) := by decide +kernel
theorem dX5_latestEnd_13 : decode cX5_latestEnd 13 = .ok (.ldc 78, 2) := by decide +kernel
theorem dX5_latestEnd_15 : decode cX5_latestEnd 15 = .ok (.invokestatic 54, 3) := by decide +kernel
theorem dX5_latestEnd_18 : decode cX5_latestEnd 18 = .ok (.istore 4, 2) := by decide +kernel
theorem dX5_latestEnd_20 : decode cX5_latestEnd 20 = .ok (.new 60, 3) := by decide +kernel
theorem dX5_latestEnd_23 : decode cX5_latestEnd 23 = .ok (.dup, 1) := by decide +kernel
theorem dX5_latestEnd_24 : decode cX5_latestEnd 24 = .ok (.aload_n 0, 1) := by decide +kernel
theorem dX5_latestEnd_25 : decode cX5_latestEnd 25 = .ok (.iload_n 1, 1) := by decide +kernel
theorem dX5_latestEnd_26 : decode cX5_latestEnd 26 = .ok (.invokespecial 62, 3) := by decide +kernel
theorem dX5_latestEnd_29 : decode cX5_latestEnd 29 = .ok (.astore 5, 2) := by decide +kernel
theorem dX5_latestEnd_31 : decode cX5_latestEnd 31 = .ok (.iconst 0, 1) := by decide +kernel
theorem dX5_latestEnd_32 : decode cX5_latestEnd 32 = .ok (.istore 6, 2) := by decide +kernel
theorem dX5_latestEnd_34 : decode cX5_latestEnd 34 = .ok (.iload 6, 2) := by decide +kernel
theorem dX5_latestEnd_36 : decode cX5_latestEnd 36 = .ok (.sipush 20000, 3) := by decide +kernel
theorem dX5_latestEnd_39 : decode cX5_latestEnd 39 = .ok (.if_icmp .ge 48, 3) := by decide +kernel
theorem dX5_latestEnd_42 : decode cX5_latestEnd 42 = .ok (.aload 5, 2) := by decide +kernel
theorem dX5_latestEnd_44 : decode cX5_latestEnd 44 = .ok (.getfield 65, 3) := by decide +kernel
theorem dX5_latestEnd_47 : decode cX5_latestEnd 47 = .ok (.ldc 78, 2) := by decide +kernel
theorem dX5_latestEnd_49 : decode cX5_latestEnd 49 = .ok (.if_icmp .ge 38, 3) := by decide +kernel
theorem dX5_latestEnd_52 : decode cX5_latestEnd 52 = .ok (.aload 5, 2) := by decide +kernel
theorem dX5_latestEnd_54 : decode cX5_latestEnd 54 = .ok (.getfield 65, 3) := by decide +kernel
theorem dX5_latestEnd_57 : decode cX5_latestEnd 57 = .ok (.istore 7, 2) := by decide +kernel
theorem dX5_latestEnd_59 : decode cX5_latestEnd 59 = .ok (.aload 5, 2) := by decide +kernel
theorem dX5_latestEnd_61 : decode cX5_latestEnd 61 = .ok (.invokevirtual 68, 3) := by decide +kernel
theorem dX5_latestEnd_64 : decode cX5_latestEnd 64 = .ok (.aload 5, 2) := by decide +kernel
theorem dX5_latestEnd_66 : decode cX5_latestEnd 66 = .ok (.invokevirtual 71, 3) := by decide +kernel
theorem dX5_latestEnd_69 : decode cX5_latestEnd 69 = .ok (.iload_n 3, 1) := by decide +kernel
theorem dX5_latestEnd_70 : decode cX5_latestEnd 70 = .ok (.if_icmp .le 11, 3) := by decide +kernel
theorem dX5_latestEnd_73 : decode cX5_latestEnd 73 = .ok (.iload 7, 2) := by decide +kernel
theorem dX5_latestEnd_75 : decode cX5_latestEnd 75 = .ok (.iload 4, 2) := by decide +kernel
theorem dX5_latestEnd_77 : decode cX5_latestEnd 77 = .ok (.invokestatic 79, 3) := by decide +kernel
theorem dX5_latestEnd_80 : decode cX5_latestEnd 80 = .ok (.ireturn, 1) := by decide +kernel
theorem dX5_latestEnd_81 : decode cX5_latestEnd 81 = .ok (.iinc 6 1, 3) := by decide +kernel
theorem dX5_latestEnd_84 : decode cX5_latestEnd 84 = .ok (.goto (-50), 3) := by decide +kernel
theorem dX5_latestEnd_87 : decode cX5_latestEnd 87 = .ok (.ldc 78, 2) := by decide +kernel
theorem dX5_latestEnd_89 : decode cX5_latestEnd 89 = .ok (.ireturn, 1) := by decide +kernel
theorem dX5_partOfUnit_0 : decode cX5_partOfUnit 0 = .ok (.new 60, 3) := by decide +kernel
theorem dX5_partOfUnit_3 : decode cX5_partOfUnit 3 = .ok (.dup, 1) := by decide +kernel
theorem dX5_partOfUnit_4 : decode cX5_partOfUnit 4 = .ok (.aload_n 0, 1) := by decide +kernel
theorem dX5_partOfUnit_5 : decode cX5_partOfUnit 5 = .ok (.iload_n 1, 1) := by decide +kernel
theorem dX5_partOfUnit_6 : decode cX5_partOfUnit 6 = .ok (.invokespecial 62, 3) := by decide +kernel
theorem dX5_partOfUnit_9 : decode cX5_partOfUnit 9 = .ok (.astore 4, 2) := by decide +kernel
theorem dX5_partOfUnit_11 : decode cX5_partOfUnit 11 = .ok (.iconst 0, 1) := by decide +kernel
theorem dX5_partOfUnit_12 : decode cX5_partOfUnit 12 = .ok (.istore 5, 2) := by decide +kernel
theorem dX5_partOfUnit_14 : decode cX5_partOfUnit 14 = .ok (.iload 5, 2) := by decide +kernel
theorem dX5_partOfUnit_16 : decode cX5_partOfUnit 16 = .ok (.iload_n 2, 1) := by decide +kernel
theorem dX5_partOfUnit_17 : decode cX5_partOfUnit 17 = .ok (.if_icmp .ge 14, 3) := by decide +kernel
theorem dX5_partOfUnit_20 : decode cX5_partOfUnit 20 = .ok (.aload 4, 2) := by decide +kernel
theorem dX5_partOfUnit_22 : decode cX5_partOfUnit 22 = .ok (.invokevirtual 68, 3) := by decide +kernel
theorem dX5_partOfUnit_25 : decode cX5_partOfUnit 25 = .ok (.iinc 5 1, 3) := by decide +kernel
theorem dX5_partOfUnit_28 : decode cX5_partOfUnit 28 = .ok (.goto (-14), 3) := by decide +kernel
theorem dX5_partOfUnit_31 : decode cX5_partOfUnit 31 = .ok (.iload_n 3, 1) := by decide +kernel
theorem dX5_partOfUnit_32 : decode cX5_partOfUnit 32 = .ok (.lookupswitch 47 #[(0, 28), (1, 34)], 28) := by decide +kernel
theorem dX5_partOfUnit_60 : decode cX5_partOfUnit 60 = .ok (.aload 4, 2) := by decide +kernel
theorem dX5_partOfUnit_62 : decode cX5_partOfUnit 62 = .ok (.getfield 65, 3) := by decide +kernel
theorem dX5_partOfUnit_65 : decode cX5_partOfUnit 65 = .ok (.ireturn, 1) := by decide +kernel
theorem dX5_partOfUnit_66 : decode cX5_partOfUnit 66 = .ok (.aload_n 0, 1) := by decide +kernel
theorem dX5_partOfUnit_67 : decode cX5_partOfUnit 67 = .ok (.aload 4, 2) := by decide +kernel
theorem dX5_partOfUnit_69 : decode cX5_partOfUnit 69 = .ok (.getfield 65, 3) := by decide +kernel
theorem dX5_partOfUnit_72 : decode cX5_partOfUnit 72 = .ok (.invokevirtual 82, 3) := by decide +kernel
theorem dX5_partOfUnit_75 : decode cX5_partOfUnit 75 = .ok (.getfield 86, 3) := by decide +kernel
theorem dX5_partOfUnit_78 : decode cX5_partOfUnit 78 = .ok (.ireturn, 1) := by decide +kernel
theorem dX5_partOfUnit_79 : decode cX5_partOfUnit 79 = .ok (.aload_n 0, 1) := by decide +kernel
theorem dX5_partOfUnit_80 : decode cX5_partOfUnit 80 = .ok (.iload_n 1, 1) := by decide +kernel
theorem dX5_partOfUnit_81 : decode cX5_partOfUnit 81 = .ok (.aload 4, 2) := by decide +kernel
theorem dX5_partOfUnit_83 : decode cX5_partOfUnit 83 = .ok (.getfield 65, 3) := by decide +kernel
theorem dX5_partOfUnit_86 : decode cX5_partOfUnit 86 = .ok (.invokevirtual 89, 3) := by decide +kernel
theorem dX5_partOfUnit_89 : decode cX5_partOfUnit 89 = .ok (.ireturn, 1) := by decide +kernel
theorem dX6_init_0 : decode cX6_init 0 = .ok (.aload_n 0, 1) := by decide +kernel
theorem dX6_init_1 : decode cX6_init 1 = .ok (.invokespecial 3, 3) := by decide +kernel
theorem dX6_init_4 : decode cX6_init 4 = .ok (.aload_n 0, 1) := by decide +kernel
theorem dX6_init_5 : decode cX6_init 5 = .ok (.bipush 90, 2) := by decide +kernel
theorem dX6_init_7 : decode cX6_init 7 = .ok (.newarray .char, 2) := by decide +kernel
theorem dX6_init_9 : decode cX6_init 9 = .ok (.putfield 9, 3) := by decide +kernel
theorem dX6_init_12 : decode cX6_init 12 = .ok (.aload_n 0, 1) := by decide +kernel
theorem dX6_init_13 : decode cX6_init 13 = .ok (.iconst 3, 1) := by decide +kernel
theorem dX6_init_14 : decode cX6_init 14 = .ok (.newarray .int, 2) := by decide +kernel
theorem dX6_init_16 : decode cX6_init 16 = .ok (.putfield 15, 3) := by decide +kernel
theorem dX6_init_19 : decode cX6_init 19 = .ok (.aload_n 0, 1) := by decide +kernel
theorem dX6_init_20 : decode cX6_init 20 = .ok (.new 19, 3) := by decide +kernel
theorem dX6_init_23 : decode cX6_init 23 = .ok (.dup, 1) := by decide +kernel
theorem dX6_init_24 : decode cX6_init 24 = .ok (.invokespecial 21, 3) := by decide +kernel
theorem dX6_init_27 : decode cX6_init 27 = .ok (.putfield 22, 3) := by decide +kernel
theorem dX6_init_30 : decode cX6_init 30 = .ok (.return_, 1) := by decide +kernel
theorem dX6_hasRoomFor_0 : decode cX6_hasRoomFor 0 = .ok (.aload_n 0, 1) := by decide +kernel
theorem dX6_hasRoomFor_1 : decode cX6_hasRoomFor 1 = .ok (.getfield 26, 3) := by decide +kernel
theorem dX6_hasRoomFor_4 : decode cX6_hasRoomFor 4 = .ok (.iload_n 1, 1) := by decide +kernel
theorem dX6_hasRoomFor_5 : decode cX6_hasRoomFor 5 = .ok (.iadd, 1) := by decide +kernel
theorem dX6_hasRoomFor_6 : decode cX6_hasRoomFor 6 = .ok (.bipush 90, 2) := by decide +kernel
theorem dX6_hasRoomFor_8 : decode cX6_hasRoomFor 8 = .ok (.if_icmp .gt 7, 3) := by decide +kernel
theorem dX6_hasRoomFor_11 : decode cX6_hasRoomFor 11 = .ok (.iconst 1, 1) := by decide +kernel
theorem dX6_hasRoomFor_12 : decode cX6_hasRoomFor 12 = .ok (.goto 4, 3) := by decide +kernel
theorem dX6_hasRoomFor_15 : decode cX6_hasRoomFor 15 = .ok (.iconst 0, 1) := by decide +kernel
theorem dX6_hasRoomFor_16 : decode cX6_hasRoomFor 16 = .ok (.ireturn, 1) := by decide +kernel
theorem dX6_add_0 : decode cX6_add 0 = .ok (.iconst 0, 1) := by decide +kernel
theorem dX6_add_1 : decode cX6_add 1 = .ok (.istore_n 3, 1) := by decide +kernel
theorem dX6_add_2 : decode cX6_add 2 = .ok (.iload_n 3, 1) := by decide +kernel
theorem dX6_add_3 : decode cX6_add 3 = .ok (.iload_n 2, 1) := by decide +kernel
theorem dX6_add_4 : decode cX6_add 4 = .ok (.if_icmp .ge 38, 3) := by decide +kernel
theorem dX6_add_7 : decode cX6_add 7 = .ok (.aload_n 0, 1) := by decide +kernel
theorem dX6_add_8 : decode cX6_add 8 = .ok (.getfield 26, 3) := by decide +kernel
theorem dX6_add_11 : decode cX6_add 11 = .ok (.bipush 90, 2) := by decide +kernel
theorem dX6_add_13 : decode cX6_add 13 = .ok (.if_icmp .ge 29, 3) := by decide +kernel
theorem dX6_add_16 : decode cX6_add 16 = .ok (.aload_n 0, 1) := by decide +kernel
theorem dX6_add_17 : decode cX6_add 17 = .ok (.getfield 9, 3) := by decide +kernel
theorem dX6_add_20 : decode cX6_add 20 = .ok (.aload_n 0, 1) := by decide +kernel
theorem dX6_add_21 : decode cX6_add 21 = .ok (.getfield 26, 3) := by decide +kernel
theorem dX6_add_24 : decode cX6_add 24 = .ok (.iload_n 1, 1) := by decide +kernel
theorem dX6_add_25 : decode cX6_add 25 = .ok (.castore, 1) := by decide +kernel
theorem dX6_add_26 : decode cX6_add 26 = .ok (.aload_n 0, 1) := by decide +kernel
theorem dX6_add_27 : decode cX6_add 27 = .ok (.dup, 1) := by decide +kernel
theorem dX6_add_28 : decode cX6_add 28 = .ok (.getfield 26, 3) := by decide +kernel
theorem dX6_add_31 : decode cX6_add 31 = .ok (.iconst 1, 1) := by decide +kernel
theorem dX6_add_32 : decode cX6_add 32 = .ok (.iadd, 1) := by decide +kernel
theorem dX6_add_33 : decode cX6_add 33 = .ok (.putfield 26, 3) := by decide +kernel
theorem dX6_add_36 : decode cX6_add 36 = .ok (.iinc 3 1, 3) := by decide +kernel
theorem dX6_add_39 : decode cX6_add 39 = .ok (.goto (-37), 3) := by decide +kernel
theorem dX6_add_42 : decode cX6_add 42 = .ok (.return_, 1) := by decide +kernel
theorem dX6_clear_0 : decode cX6_clear 0 = .ok (.aload_n 0, 1) := by decide +kernel
theorem dX6_clear_1 : decode cX6_clear 1 = .ok (.iconst 0, 1) := by decide +kernel
theorem dX6_clear_2 : decode cX6_clear 2 = .ok (.putfield 26, 3) := by decide +kernel
theorem dX6_clear_5 : decode cX6_clear 5 = .ok (.return_, 1) := by decide +kernel
theorem dX6_describesPlan_0 : decode cX6_describesPlan 0 = .ok (.aload_n 0, 1) := by decide +kernel
theorem dX6_describesPlan_1 : decode cX6_describesPlan 1 = .ok (.getfield 22, 3) := by decide +kernel
theorem dX6_describesPlan_4 : decode cX6_describesPlan 4 = .ok (.invokevirtual 30, 3) := by decide +kernel
theorem dX6_describesPlan_7 : decode cX6_describesPlan 7 = .ok (.aload_n 0, 1) := by decide +kernel
theorem dX6_describesPlan_8 : decode cX6_describesPlan 8 = .ok (.iconst 0, 1) := by decide +kernel
theorem dX6_describesPlan_9 : decode cX6_describesPlan 9 = .ok (.putfield 33, 3) := by decide +kernel
theorem dX6_describesPlan_12 : decode cX6_describesPlan 12 = .ok (.aload_n 0, 1) := by decide +kernel
theorem dX6_describesPlan_13 : decode cX6_describesPlan 13 = .ok (.iconst 0, 1) := by decide +kernel
theorem dX6_describesPlan_14 : decode cX6_describesPlan 14 = .ok (.putfield 36, 3) := by decide +kernel
theorem dX6_describesPlan_17 : decode cX6_describesPlan 17 = .ok (.aload_n 0, 1) := by decide +kernel
theorem dX6_describesPlan_18 : decode cX6_describesPlan 18 = .ok (.iconst 0, 1) := by decide +kernel
theorem dX6_describesPlan_19 : decode cX6_describesPlan 19 = .ok (.putfield 39, 3) := by decide +kernel
theorem dX6_describesPlan_22 : decode cX6_describesPlan 22 = .ok (.aload_n 0, 1) := by decide +kernel
theorem dX6_describesPlan_23 : decode cX6_describesPlan 23 = .ok (.getfield 39, 3) := by decide +kernel
theorem dX6_describesPlan_26 : decode cX6_describesPlan 26 = .ok (.bipush 90, 2) := by decide +kernel
theorem dX6_describesPlan_28 : decode cX6_describesPlan 28 = .ok (.if_icmp .ge 49, 3) := by decide +kernel
theorem dX6_describesPlan_31 : decode cX6_describesPlan 31 = .ok (.aload_n 0, 1) := by decide +kernel
theorem dX6_describesPlan_32 : decode cX6_describesPlan 32 = .ok (.invokevirtual 42, 3) := by decide +kernel
theorem dX6_describesPlan_35 : decode cX6_describesPlan 35 = .ok (.ifCond .ne 5, 3) := by decide +kernel
theorem dX6_describesPlan_38 : decode cX6_describesPlan 38 = .ok (.iconst 0, 1) := by decide +kernel
theorem dX6_describesPlan_39 : decode cX6_describesPlan 39 = .ok (.ireturn, 1) := by decide +kernel
theorem dX6_describesPlan_40 : decode cX6_describesPlan 40 = .ok (.aload_n 0, 1) := by decide +kernel
theorem dX6_describesPlan_41 : decode cX6_describesPlan 41 = .ok (.getfield 36, 3) := by decide +kernel
theorem dX6_describesPlan_44 : decode cX6_describesPlan 44 = .ok (.aload_n 0, 1) := by decide +kernel
theorem dX6_describesPlan_45 : decode cX6_describesPlan 45 = .ok (.getfield 26, 3) := by decide +kernel
theorem dX6_describesPlan_48 : decode cX6_describesPlan 48 = .ok (.if_icmp .lt 5, 3) := by decide +kernel
theorem dX6_describesPlan_51 : decode cX6_describesPlan 51 = .ok (.iconst 1, 1) := by decide +kernel
theorem dX6_describesPlan_52 : decode cX6_describesPlan 52 = .ok (.ireturn, 1) := by decide +kernel
theorem dX6_describesPlan_53 : decode cX6_describesPlan 53 = .ok (.aload_n 0, 1) := by decide +kernel
theorem dX6_describesPlan_54 : decode cX6_describesPlan 54 = .ok (.bipush 59, 2) := by decide +kernel
theorem dX6_describesPlan_56 : decode cX6_describesPlan 56 = .ok (.invokevirtual 46, 3) := by decide +kernel
theorem dX6_describesPlan_59 : decode cX6_describesPlan 59 = .ok (.ifCond .ne 5, 3) := by decide +kernel
theorem dX6_describesPlan_62 : decode cX6_describesPlan 62 = .ok (.iconst 0, 1) := by decide +kernel
theorem dX6_describesPlan_63 : decode cX6_describesPlan 63 = .ok (.ireturn, 1) := by decide +kernel
theorem dX6_describesPlan_64 : decode cX6_describesPlan 64 = .ok (.aload_n 0, 1) := by decide +kernel
theorem dX6_describesPlan_65 : decode cX6_describesPlan 65 = .ok (.dup, 1) := by decide +kernel
theorem dX6_describesPlan_66 : decode cX6_describesPlan 66 = .ok (.getfield 39, 3) := by decide +kernel
theorem dX6_describesPlan_69 : decode cX6_describesPlan 69 = .ok (.iconst 1, 1) := by decide +kernel
theorem dX6_describesPlan_70 : decode cX6_describesPlan 70 = .ok (.iadd, 1) := by decide +kernel
theorem dX6_describesPlan_71 : decode cX6_describesPlan 71 = .ok (.putfield 39, 3) := by decide +kernel
theorem dX6_describesPlan_74 : decode cX6_describesPlan 74 = .ok (.goto (-52), 3) := by decide +kernel
theorem dX6_describesPlan_77 : decode cX6_describesPlan 77 = .ok (.aload_n 0, 1) := by decide +kernel
theorem dX6_describesPlan_78 : decode cX6_describesPlan 78 = .ok (.iconst 3, 1) := by decide +kernel
theorem dX6_describesPlan_79 : decode cX6_describesPlan 79 = .ok (.aload_n 0, 1) := by decide +kernel
theorem dX6_describesPlan_80 : decode cX6_describesPlan 80 = .ok (.getfield 36, 3) := by decide +kernel
theorem dX6_describesPlan_83 : decode cX6_describesPlan 83 = .ok (.invokevirtual 50, 3) := by decide +kernel
theorem dX6_describesPlan_86 : decode cX6_describesPlan 86 = .ok (.ireturn, 1) := by decide +kernel
theorem dX6_readClause_0 : decode cX6_readClause 0 = .ok (.aload_n 0, 1) := by decide +kernel
theorem dX6_readClause_1 : decode cX6_readClause 1 = .ok (.getfield 36, 3) := by decide +kernel
theorem dX6_readClause_4 : decode cX6_readClause 4 = .ok (.istore_n 1, 1) := by decide +kernel
theorem dX6_readClause_5 : decode cX6_readClause 5 = .ok (.aload_n 0, 1) := by decide +kernel
theorem dX6_readClause_6 : decode cX6_readClause 6 = .ok (.invokevirtual 54, 3) := by decide +kernel
theorem dX6_readClause_9 : decode cX6_readClause 9 = .ok (.aload_n 0, 1) := by decide +kernel
theorem dX6_readClause_10 : decode cX6_readClause 10 = .ok (.iload_n 1, 1) := by decide +kernel
theorem dX6_readClause_11 : decode cX6_readClause 11 = .ok (.ldc 57, 2) := by decide +kernel
theorem dX6_readClause_13 : decode cX6_readClause 13 = .ok (.invokevirtual 59, 3) := by decide +kernel
theorem dX6_readClause_16 : decode cX6_readClause 16 = .ok (.ifCond .eq 25, 3) := by decide +kernel
theorem dX6_readClause_19 : decode cX6_readClause 19 = .ok (.aload_n 0, 1) := by decide +kernel
theorem dX6_readClause_20 : decode cX6_readClause 20 = .ok (.bipush 60, 2) := by decide +kernel
theorem dX6_readClause_22 : decode cX6_readClause 22 = .ok (.invokevirtual 63, 3) := by decide +kernel
theorem dX6_readClause_25 : decode cX6_readClause 25 = .ok (.istore_n 2, 1) := by decide +kernel
theorem dX6_readClause_26 : decode cX6_readClause 26 = .ok (.aload_n 0, 1) := by decide +kernel
theorem dX6_readClause_27 : decode cX6_readClause 27 = .ok (.getfield 22, 3) := by decide +kernel
theorem dX6_readClause_30 : decode cX6_readClause 30 = .ok (.aload_n 0, 1) := by decide +kernel
theorem dX6_readClause_31 : decode cX6_readClause 31 = .ok (.getfield 15, 3) := by decide +kernel
theorem dX6_readClause_34 : decode cX6_readClause 34 = .ok (.iconst 0, 1) := by decide +kernel
theorem dX6_readClause_35 : decode cX6_readClause 35 = .ok (.iaload, 1) := by decide +kernel
theorem dX6_readClause_36 : decode cX6_readClause 36 = .ok (.putfield 67, 3) := by decide +kernel
theorem dX6_readClause_39 : decode cX6_readClause 39 = .ok (.iload_n 2, 1) := by decide +kernel
theorem dX6_readClause_40 : decode cX6_readClause 40 = .ok (.ireturn, 1) := by decide +kernel
theorem dX6_readClause_41 : decode cX6_readClause 41 = .ok (.aload_n 0, 1) := by decide +kernel
theorem dX6_readClause_42 : decode cX6_readClause 42 = .ok (.iload_n 1, 1) := by decide +kernel
theorem dX6_readClause_43 : decode cX6_readClause 43 = .ok (.ldc 70, 2) := by decide +kernel
theorem dX6_readClause_45 : decode cX6_readClause 45 = .ok (.invokevirtual 59, 3) := by decide +kernel
theorem dX6_readClause_48 : decode cX6_readClause 48 = .ok (.ifCond .eq 26, 3) := by decide +kernel
theorem dX6_readClause_51 : decode cX6_readClause 51 = .ok (.aload_n 0, 1) := by decide +kernel
theorem dX6_readClause_52 : decode cX6_readClause 52 = .ok (.sipush 9999, 3) := by decide +kernel
theorem dX6_readClause_55 : decode cX6_readClause 55 = .ok (.invokevirtual 63, 3) := by decide +kernel
theorem dX6_readClause_58 : decode cX6_readClause 58 = .ok (.istore_n 2, 1) := by decide +kernel
theorem dX6_readClause_59 : decode cX6_readClause 59 = .ok (.aload_n 0, 1) := by decide +kernel
theorem dX6_readClause_60 : decode cX6_readClause 60 = .ok (.getfield 22, 3) := by decide +kernel
theorem dX6_readClause_63 : decode cX6_readClause 63 = .ok (.aload_n 0, 1) := by decide +kernel
theorem dX6_readClause_64 : decode cX6_readClause 64 = .ok (.getfield 15, 3) := by decide +kernel
theorem dX6_readClause_67 : decode cX6_readClause 67 = .ok (.iconst 0, 1) := by decide +kernel
theorem dX6_readClause_68 : decode cX6_readClause 68 = .ok (.iaload, 1) := by decide +kernel
theorem dX6_readClause_69 : decode cX6_readClause 69 = .ok (.putfield 72, 3) := by decide +kernel
theorem dX6_readClause_72 : decode cX6_readClause 72 = .ok (.iload_n 2, 1) := by decide +kernel
theorem dX6_readClause_73 : decode cX6_readClause 73 = .ok (.ireturn, 1) := by decide +kernel
theorem dX6_readClause_74 : decode cX6_readClause 74 = .ok (.aload_n 0, 1) := by decide +kernel
theorem dX6_readClause_75 : decode cX6_readClause 75 = .ok (.iload_n 1, 1) := by decide +kernel
theorem dX6_readClause_76 : decode cX6_readClause 76 = .ok (.ldc 74, 2) := by decide +kernel
theorem dX6_readClause_78 : decode cX6_readClause 78 = .ok (.invokevirtual 59, 3) := by decide +kernel
theorem dX6_readClause_81 : decode cX6_readClause 81 = .ok (.ifCond .eq 26, 3) := by decide +kernel
theorem dX6_readClause_84 : decode cX6_readClause 84 = .ok (.aload_n 0, 1) := by decide +kernel
theorem dX6_readClause_85 : decode cX6_readClause 85 = .ok (.sipush 9999, 3) := by decide +kernel
theorem dX6_readClause_88 : decode cX6_readClause 88 = .ok (.invokevirtual 63, 3) := by decide +kernel
theorem dX6_readClause_91 : decode cX6_readClause 91 = .ok (.istore_n 2, 1) := by decide +kernel
theorem dX6_readClause_92 : decode cX6_readClause 92 = .ok (.aload_n 0, 1) := by decide +kernel
theorem dX6_readClause_93 : decode cX6_readClause 93 = .ok (.getfield 22, 3) := by decide +kernel
theorem dX6_readClause_96 : decode cX6_readClause 96 = .ok (.aload_n 0, 1) := by decide +kernel
theorem dX6_readClause_97 : decode cX6_readClause 97 = .ok (.getfield 15, 3) := by decide +kernel
theorem dX6_readClause_100 : decode cX6_readClause 100 = .ok (.iconst 0, 1) := by decide +kernel
theorem dX6_readClause_101 : decode cX6_readClause 101 = .ok (.iaload, 1) := by decide +kernel
theorem dX6_readClause_102 : decode cX6_readClause 102 = .ok (.putfield 76, 3) := by decide +kernel
theorem dX6_readClause_105 : decode cX6_readClause 105 = .ok (.iload_n 2, 1) := by decide +kernel
theorem dX6_readClause_106 : decode cX6_readClause 106 = .ok (.ireturn, 1) := by decide +kernel
theorem dX6_readClause_107 : decode cX6_readClause 107 = .ok (.aload_n 0, 1) := by decide +kernel
theorem dX6_readClause_108 : decode cX6_readClause 108 = .ok (.iload_n 1, 1) := by decide +kernel
theorem dX6_readClause_109 : decode cX6_readClause 109 = .ok (.ldc 79, 2) := by decide +kernel
theorem dX6_readClause_111 : decode cX6_readClause 111 = .ok (.invokevirtual 59, 3) := by decide +kernel
theorem dX6_readClause_114 : decode cX6_readClause 114 = .ok (.ifCond .eq 13, 3) := by decide +kernel
theorem dX6_readClause_117 : decode cX6_readClause 117 = .ok (.aload_n 0, 1) := by decide +kernel
theorem dX6_readClause_118 : decode cX6_readClause 118 = .ok (.getfield 22, 3) := by decide +kernel
theorem dX6_readClause_121 : decode cX6_readClause 121 = .ok (.iconst 1, 1) := by decide +kernel
theorem dX6_readClause_122 : decode cX6_readClause 122 = .ok (.putfield 81, 3) := by decide +kernel
theorem dX6_readClause_125 : decode cX6_readClause 125 = .ok (.iconst 1, 1) := by decide +kernel
theorem dX6_readClause_126 : decode cX6_readClause 126 = .ok (.ireturn, 1) := by decide +kernel
theorem dX6_readClause_127 : decode cX6_readClause 127 = .ok (.aload_n 0, 1) := by decide +kernel
theorem dX6_readClause_128 : decode cX6_readClause 128 = .ok (.iload_n 1, 1) := by decide +kernel
theorem dX6_readClause_129 : decode cX6_readClause 129 = .ok (.ldc 84, 2) := by decide +kernel
theorem dX6_readClause_131 : decode cX6_readClause 131 = .ok (.invokevirtual 59, 3) := by decide +kernel
theorem dX6_readClause_134 : decode cX6_readClause 134 = .ok (.ifCond .eq 8, 3) := by decide +kernel
theorem dX6_readClause_137 : decode cX6_readClause 137 = .ok (.aload_n 0, 1) := by decide +kernel
theorem dX6_readClause_138 : decode cX6_readClause 138 = .ok (.invokevirtual 86, 3) := by decide +kernel
theorem dX6_readClause_141 : decode cX6_readClause 141 = .ok (.ireturn, 1) := by decide +kernel
theorem dX6_readClause_142 : decode cX6_readClause 142 = .ok (.aload_n 0, 1) := by decide +kernel
theorem dX6_readClause_143 : decode cX6_readClause 143 = .ok (.iconst 3, 1) := by decide +kernel
theorem dX6_readClause_144 : decode cX6_readClause 144 = .ok (.iload_n 1, 1) := by decide +kernel
theorem dX6_readClause_145 : decode cX6_readClause 145 = .ok (.invokevirtual 50, 3) := by decide +kernel
theorem dX6_readClause_148 : decode cX6_readClause 148 = .ok (.ireturn, 1) := by decide +kernel
theorem dX6_readSetting_0 : decode cX6_readSetting 0 = .ok (.aload_n 0, 1) := by decide +kernel
theorem dX6_readSetting_1 : decode cX6_readSetting 1 = .ok (.iconst 1, 1) := by decide +kernel
theorem dX6_readSetting_2 : decode cX6_readSetting 2 = .ok (.invokevirtual 89, 3) := by decide +kernel
theorem dX6_readSetting_5 : decode cX6_readSetting 5 = .ok (.ifCond .eq 17, 3) := by decide +kernel
theorem dX6_readSetting_8 : decode cX6_readSetting 8 = .ok (.aload_n 0, 1) := by decide +kernel
theorem dX6_readSetting_9 : decode cX6_readSetting 9 = .ok (.iconst 0, 1) := by decide +kernel
theorem dX6_readSetting_10 : decode cX6_readSetting 10 = .ok (.iconst 0, 1) := by decide +kernel
theorem dX6_readSetting_11 : decode cX6_readSetting 11 = .ok (.iload_n 1, 1) := by decide +kernel
theorem dX6_readSetting_12 : decode cX6_readSetting 12 = .ok (.invokevirtual 92, 3) := by decide +kernel
theorem dX6_readSetting_15 : decode cX6_readSetting 15 = .ok (.ifCond .eq 7, 3) := by decide +kernel
theorem dX6_readSetting_18 : decode cX6_readSetting 18 = .ok (.iconst 1, 1) := by decide +kernel
theorem dX6_readSetting_19 : decode cX6_readSetting 19 = .ok (.goto 4, 3) := by decide +kernel
theorem dX6_readSetting_22 : decode cX6_readSetting 22 = .ok (.iconst 0, 1) := by decide +kernel
theorem dX6_readSetting_23 : decode cX6_readSetting 23 = .ok (.ireturn, 1) := by decide +kernel
theorem dX6_readBand_0 : decode cX6_readBand 0 = .ok (.aload_n 0, 1) := by decide +kernel
theorem dX6_readBand_1 : decode cX6_readBand 1 = .ok (.iconst 3, 1) := by decide +kernel
theorem dX6_readBand_2 : decode cX6_readBand 2 = .ok (.invokevirtual 89, 3) := by decide +kernel
theorem dX6_readBand_5 : decode cX6_readBand 5 = .ok (.ifCond .ne 5, 3) := by decide +kernel
theorem dX6_readBand_8 : decode cX6_readBand 8 = .ok (.iconst 0, 1) := by decide +kernel
theorem dX6_readBand_9 : decode cX6_readBand 9 = .ok (.ireturn, 1) := by decide +kernel
theorem dX6_readBand_10 : decode cX6_readBand 10 = .ok (.aload_n 0, 1) := by decide +kernel
theorem dX6_readBand_11 : decode cX6_readBand 11 = .ok (.iconst 0, 1) := by decide +kernel
theorem dX6_readBand_12 : decode cX6_readBand 12 = .ok (.iconst 0, 1) := by decide +kernel
theorem dX6_readBand_13 : decode cX6_readBand 13 = .ok (.sipush 1439, 3) := by decide +kernel
theorem dX6_readBand_16 : decode cX6_readBand 16 = .ok (.invokevirtual 92, 3) := by decide +kernel
theorem dX6_readBand_19 : decode cX6_readBand 19 = .ok (.ifCond .eq 27, 3) := by decide +kernel
theorem dX6_readBand_22 : decode cX6_readBand 22 = .ok (.aload_n 0, 1) := by decide +kernel
theorem dX6_readBand_23 : decode cX6_readBand 23 = .ok (.iconst 1, 1) := by decide +kernel
theorem dX6_readBand_24 : decode cX6_readBand 24 = .ok (.iconst 0, 1) := by decide +kernel
theorem dX6_readBand_25 : decode cX6_readBand 25 = .ok (.sipush 999, 3) := by decide +kernel
theorem dX6_readBand_28 : decode cX6_readBand 28 = .ok (.invokevirtual 92, 3) := by decide +kernel
theorem dX6_readBand_31 : decode cX6_readBand 31 = .ok (.ifCond .eq 15, 3) := by decide +kernel
theorem dX6_readBand_34 : decode cX6_readBand 34 = .ok (.aload_n 0, 1) := by decide +kernel
theorem dX6_readBand_35 : decode cX6_readBand 35 = .ok (.iconst 2, 1) := by decide +kernel
theorem dX6_readBand_36 : decode cX6_readBand 36 = .ok (.iconst 5, 1) := by decide +kernel
theorem dX6_readBand_37 : decode cX6_readBand 37 = .ok (.sipush 240, 3) := by decide +kernel
theorem dX6_readBand_40 : decode cX6_readBand 40 = .ok (.invokevirtual 92, 3) := by decide +kernel
theorem dX6_readBand_43 : decode cX6_readBand 43 = .ok (.ifCond .ne 5, 3) := by decide +kernel
theorem dX6_readBand_46 : decode cX6_readBand 46 = .ok (.iconst 0, 1) := by decide +kernel
theorem dX6_readBand_47 : decode cX6_readBand 47 = .ok (.ireturn, 1) := by decide +kernel
theorem dX6_readBand_48 : decode cX6_readBand 48 = .ok (.aload_n 0, 1) := by decide +kernel
theorem dX6_readBand_49 : decode cX6_readBand 49 = .ok (.getfield 15, 3) := by decide +kernel
theorem dX6_readBand_52 : decode cX6_readBand 52 = .ok (.iconst 0, 1) := by decide +kernel
theorem dX6_readBand_53 : decode cX6_readBand 53 = .ok (.iaload, 1) := by decide +kernel
theorem dX6_readBand_54 : decode cX6_readBand 54 = .ok (.istore_n 1, 1) := by decide +kernel
theorem dX6_readBand_55 : decode cX6_readBand 55 = .ok (.aload_n 0, 1) := by decide +kernel
theorem dX6_readBand_56 : decode cX6_readBand 56 = .ok (.getfield 33, 3) := by decide +kernel
theorem dX6_readBand_59 : decode cX6_readBand 59 = .ok (.bipush 6, 2) := by decide +kernel
theorem dX6_readBand_61 : decode cX6_readBand 61 = .ok (.if_icmp .ge 11, 3) := by decide +kernel
theorem dX6_readBand_64 : decode cX6_readBand 64 = .ok (.aload_n 0, 1) := by decide +kernel
theorem dX6_readBand_65 : decode cX6_readBand 65 = .ok (.iload_n 1, 1) := by decide +kernel
theorem dX6_readBand_66 : decode cX6_readBand 66 = .ok (.invokevirtual 96, 3) := by decide +kernel
theorem dX6_readBand_69 : decode cX6_readBand 69 = .ok (.ifCond .ne 10, 3) := by decide +kernel
theorem dX6_readBand_72 : decode cX6_readBand 72 = .ok (.aload_n 0, 1) := by decide +kernel
theorem dX6_readBand_73 : decode cX6_readBand 73 = .ok (.iconst 4, 1) := by decide +kernel
theorem dX6_readBand_74 : decode cX6_readBand 74 = .ok (.iload_n 1, 1) := by decide +kernel
theorem dX6_readBand_75 : decode cX6_readBand 75 = .ok (.invokevirtual 50, 3) := by decide +kernel
theorem dX6_readBand_78 : decode cX6_readBand 78 = .ok (.ireturn, 1) := by decide +kernel
theorem dX6_readBand_79 : decode cX6_readBand 79 = .ok (.aload_n 0, 1) := by decide +kernel
theorem dX6_readBand_80 : decode cX6_readBand 80 = .ok (.getfield 22, 3) := by decide +kernel
theorem dX6_readBand_83 : decode cX6_readBand 83 = .ok (.getfield 99, 3) := by decide +kernel
theorem dX6_readBand_86 : decode cX6_readBand 86 = .ok (.aload_n 0, 1) := by decide +kernel
theorem dX6_readBand_87 : decode cX6_readBand 87 = .ok (.getfield 33, 3) := by decide +kernel
theorem dX6_readBand_90 : decode cX6_readBand 90 = .ok (.aaload, 1) := by decide +kernel
theorem dX6_readBand_91 : decode cX6_readBand 91 = .ok (.iload_n 1, 1) := by decide +kernel
theorem dX6_readBand_92 : decode cX6_readBand 92 = .ok (.aload_n 0, 1) := by decide +kernel
theorem dX6_readBand_93 : decode cX6_readBand 93 = .ok (.getfield 15, 3) := by decide +kernel
theorem dX6_readBand_96 : decode cX6_readBand 96 = .ok (.iconst 1, 1) := by decide +kernel
theorem dX6_readBand_97 : decode cX6_readBand 97 = .ok (.iaload, 1) := by decide +kernel
theorem dX6_readBand_98 : decode cX6_readBand 98 = .ok (.aload_n 0, 1) := by decide +kernel
theorem dX6_readBand_99 : decode cX6_readBand 99 = .ok (.getfield 15, 3) := by decide +kernel
theorem dX6_readBand_102 : decode cX6_readBand 102 = .ok (.iconst 2, 1) := by decide +kernel
theorem dX6_readBand_103 : decode cX6_readBand 103 = .ok (.iaload, 1) := by decide +kernel
theorem dX6_readBand_104 : decode cX6_readBand 104 = .ok (.invokevirtual 103, 3) := by decide +kernel
theorem dX6_readBand_107 : decode cX6_readBand 107 = .ok (.aload_n 0, 1) := by decide +kernel
theorem dX6_readBand_108 : decode cX6_readBand 108 = .ok (.dup, 1) := by decide +kernel
theorem dX6_readBand_109 : decode cX6_readBand 109 = .ok (.getfield 33, 3) := by decide +kernel
theorem dX6_readBand_112 : decode cX6_readBand 112 = .ok (.iconst 1, 1) := by decide +kernel
theorem dX6_readBand_113 : decode cX6_readBand 113 = .ok (.iadd, 1) := by decide +kernel
theorem dX6_readBand_114 : decode cX6_readBand 114 = .ok (.putfield 33, 3) := by decide +kernel
theorem dX6_readBand_117 : decode cX6_readBand 117 = .ok (.aload_n 0, 1) := by decide +kernel
theorem dX6_readBand_118 : decode cX6_readBand 118 = .ok (.getfield 22, 3) := by decide +kernel
theorem dX6_readBand_121 : decode cX6_readBand 121 = .ok (.aload_n 0, 1) := by decide +kernel
theorem dX6_readBand_122 : decode cX6_readBand 122 = .ok (.getfield 33, 3) := by decide +kernel
theorem dX6_readBand_125 : decode cX6_readBand 125 = .ok (.putfield 109, 3) := by decide +kernel
theorem dX6_readBand_128 : decode cX6_readBand 128 = .ok (.iconst 1, 1) := by decide +kernel
theorem dX6_readBand_129 : decode cX6_readBand 129 = .ok (.ireturn, 1) := by decide +kernel
theorem dX6_isInOrder_0 : decode cX6_isInOrder 0 = .ok (.aload_n 0, 1) := by decide +kernel
theorem dX6_isInOrder_1 : decode cX6_isInOrder 1 = .ok (.getfield 22, 3) := by decide +kernel
theorem dX6_isInOrder_4 : decode cX6_isInOrder 4 = .ok (.aload_n 0, 1) := by decide +kernel
theorem dX6_isInOrder_5 : decode cX6_isInOrder 5 = .ok (.getfield 33, 3) := by decide +kernel
theorem dX6_isInOrder_8 : decode cX6_isInOrder 8 = .ok (.iconst 1, 1) := by decide +kernel
theorem dX6_isInOrder_9 : decode cX6_isInOrder 9 = .ok (.isub, 1) := by decide +kernel
theorem dX6_isInOrder_10 : decode cX6_isInOrder 10 = .ok (.invokevirtual 112, 3) := by decide +kernel
theorem dX6_isInOrder_13 : decode cX6_isInOrder 13 = .ok (.astore_n 2, 1) := by decide +kernel
theorem dX6_isInOrder_14 : decode cX6_isInOrder 14 = .ok (.aload_n 2, 1) := by decide +kernel
theorem dX6_isInOrder_15 : decode cX6_isInOrder 15 = .ok (.ifnonnull 15, 3) := by decide +kernel
theorem dX6_isInOrder_18 : decode cX6_isInOrder 18 = .ok (.iload_n 1, 1) := by decide +kernel
theorem dX6_isInOrder_19 : decode cX6_isInOrder 19 = .ok (.ifCond .ne 7, 3) := by decide +kernel
theorem dX6_isInOrder_22 : decode cX6_isInOrder 22 = .ok (.iconst 1, 1) := by decide +kernel
theorem dX6_isInOrder_23 : decode cX6_isInOrder 23 = .ok (.goto 20, 3) := by decide +kernel
theorem dX6_isInOrder_26 : decode cX6_isInOrder 26 = .ok (.iconst 0, 1) := by decide +kernel
theorem dX6_isInOrder_27 : decode cX6_isInOrder 27 = .ok (.goto 16, 3) := by decide +kernel
theorem dX6_isInOrder_30 : decode cX6_isInOrder 30 = .ok (.iload_n 1, 1) := by decide +kernel
theorem dX6_isInOrder_31 : decode cX6_isInOrder 31 = .ok (.aload_n 2, 1) := by decide +kernel
theorem dX6_isInOrder_32 : decode cX6_isInOrder 32 = .ok (.getfield 116, 3) := by decide +kernel
theorem dX6_isInOrder_35 : decode cX6_isInOrder 35 = .ok (.if_icmp .le 7, 3) := by decide +kernel
theorem dX6_isInOrder_38 : decode cX6_isInOrder 38 = .ok (.iconst 1, 1) := by decide +kernel
theorem dX6_isInOrder_39 : decode cX6_isInOrder 39 = .ok (.goto 4, 3) := by decide +kernel
theorem dX6_isInOrder_42 : decode cX6_isInOrder 42 = .ok (.iconst 0, 1) := by decide +kernel
theorem dX6_isInOrder_43 : decode cX6_isInOrder 43 = .ok (.ireturn, 1) := by decide +kernel
theorem dX6_skipWord_0 : decode cX6_skipWord 0 = .ok (.aload_n 0, 1) := by decide +kernel
theorem dX6_skipWord_1 : decode cX6_skipWord 1 = .ok (.getfield 36, 3) := by decide +kernel
theorem dX6_skipWord_4 : decode cX6_skipWord 4 = .ok (.aload_n 0, 1) := by decide +kernel
theorem dX6_skipWord_5 : decode cX6_skipWord 5 = .ok (.getfield 26, 3) := by decide +kernel
theorem dX6_skipWord_8 : decode cX6_skipWord 8 = .ok (.if_icmp .ge 32, 3) := by decide +kernel
theorem dX6_skipWord_11 : decode cX6_skipWord 11 = .ok (.aload_n 0, 1) := by decide +kernel
theorem dX6_skipWord_12 : decode cX6_skipWord 12 = .ok (.aload_n 0, 1) := by decide +kernel
theorem dX6_skipWord_13 : decode cX6_skipWord 13 = .ok (.getfield 9, 3) := by decide +kernel
theorem dX6_skipWord_16 : decode cX6_skipWord 16 = .ok (.aload_n 0, 1) := by decide +kernel
theorem dX6_skipWord_17 : decode cX6_skipWord 17 = .ok (.getfield 36, 3) := by decide +kernel
theorem dX6_skipWord_20 : decode cX6_skipWord 20 = .ok (.caload, 1) := by decide +kernel
theorem dX6_skipWord_21 : decode cX6_skipWord 21 = .ok (.invokevirtual 119, 3) := by decide +kernel
theorem dX6_skipWord_24 : decode cX6_skipWord 24 = .ok (.ifCond .eq 16, 3) := by decide +kernel
theorem dX6_skipWord_27 : decode cX6_skipWord 27 = .ok (.aload_n 0, 1) := by decide +kernel
theorem dX6_skipWord_28 : decode cX6_skipWord 28 = .ok (.dup, 1) := by decide +kernel
theorem dX6_skipWord_29 : decode cX6_skipWord 29 = .ok (.getfield 36, 3) := by decide +kernel
theorem dX6_skipWord_32 : decode cX6_skipWord 32 = .ok (.iconst 1, 1) := by decide +kernel
theorem dX6_skipWord_33 : decode cX6_skipWord 33 = .ok (.iadd, 1) := by decide +kernel
theorem dX6_skipWord_34 : decode cX6_skipWord 34 = .ok (.putfield 36, 3) := by decide +kernel
theorem dX6_skipWord_37 : decode cX6_skipWord 37 = .ok (.goto (-37), 3) := by decide +kernel
theorem dX6_skipWord_40 : decode cX6_skipWord 40 = .ok (.return_, 1) := by decide +kernel
theorem dX6_isSmallLetter_0 : decode cX6_isSmallLetter 0 = .ok (.iload_n 1, 1) := by decide +kernel
theorem dX6_isSmallLetter_1 : decode cX6_isSmallLetter 1 = .ok (.bipush 97, 2) := by decide +kernel
theorem dX6_isSmallLetter_3 : decode cX6_isSmallLetter 3 = .ok (.if_icmp .lt 13, 3) := by decide +kernel
theorem dX6_isSmallLetter_6 : decode cX6_isSmallLetter 6 = .ok (.iload_n 1, 1) := by decide +kernel
theorem dX6_isSmallLetter_7 : decode cX6_isSmallLetter 7 = .ok (.bipush 122, 2) := by decide +kernel
theorem dX6_isSmallLetter_9 : decode cX6_isSmallLetter 9 = .ok (.if_icmp .gt 7, 3) := by decide +kernel
theorem dX6_isSmallLetter_12 : decode cX6_isSmallLetter 12 = .ok (.iconst 1, 1) := by decide +kernel
theorem dX6_isSmallLetter_13 : decode cX6_isSmallLetter 13 = .ok (.goto 4, 3) := by decide +kernel
theorem dX6_isSmallLetter_16 : decode cX6_isSmallLetter 16 = .ok (.iconst 0, 1) := by decide +kernel
theorem dX6_isSmallLetter_17 : decode cX6_isSmallLetter 17 = .ok (.ireturn, 1) := by decide +kernel
theorem dX6_isWord_0 : decode cX6_isWord 0 = .ok (.aload_n 0, 1) := by decide +kernel
theorem dX6_isWord_1 : decode cX6_isWord 1 = .ok (.getfield 36, 3) := by decide +kernel
theorem dX6_isWord_4 : decode cX6_isWord 4 = .ok (.iload_n 1, 1) := by decide +kernel
theorem dX6_isWord_5 : decode cX6_isWord 5 = .ok (.isub, 1) := by decide +kernel
theorem dX6_isWord_6 : decode cX6_isWord 6 = .ok (.aload_n 2, 1) := by decide +kernel
theorem dX6_isWord_7 : decode cX6_isWord 7 = .ok (.invokevirtual 122, 3) := by decide +kernel
theorem dX6_isWord_10 : decode cX6_isWord 10 = .ok (.if_icmp .eq 5, 3) := by decide +kernel
theorem dX6_isWord_13 : decode cX6_isWord 13 = .ok (.iconst 0, 1) := by decide +kernel
theorem dX6_isWord_14 : decode cX6_isWord 14 = .ok (.ireturn, 1) := by decide +kernel
theorem dX6_isWord_15 : decode cX6_isWord 15 = .ok (.iconst 0, 1) := by decide +kernel
theorem dX6_isWord_16 : decode cX6_isWord 16 = .ok (.istore_n 3, 1) := by decide +kernel
theorem dX6_isWord_17 : decode cX6_isWord 17 = .ok (.iload_n 3, 1) := by decide +kernel
theorem dX6_isWord_18 : decode cX6_isWord 18 = .ok (.aload_n 2, 1) := by decide +kernel
theorem dX6_isWord_19 : decode cX6_isWord 19 = .ok (.invokevirtual 122, 3) := by decide +kernel
theorem dX6_isWord_22 : decode cX6_isWord 22 = .ok (.if_icmp .ge 27, 3) := by decide +kernel
theorem dX6_isWord_25 : decode cX6_isWord 25 = .ok (.aload_n 0, 1) := by decide +kernel
theorem dX6_isWord_26 : decode cX6_isWord 26 = .ok (.getfield 9, 3) := by decide +kernel
theorem dX6_isWord_29 : decode cX6_isWord 29 = .ok (.iload_n 1, 1) := by decide +kernel
theorem dX6_isWord_30 : decode cX6_isWord 30 = .ok (.iload_n 3, 1) := by decide +kernel
theorem dX6_isWord_31 : decode cX6_isWord 31 = .ok (.iadd, 1) := by decide +kernel
theorem dX6_isWord_32 : decode cX6_isWord 32 = .ok (.caload, 1) := by decide +kernel
theorem dX6_isWord_33 : decode cX6_isWord 33 = .ok (.aload_n 2, 1) := by decide +kernel
theorem dX6_isWord_34 : decode cX6_isWord 34 = .ok (.iload_n 3, 1) := by decide +kernel
theorem dX6_isWord_35 : decode cX6_isWord 35 = .ok (.invokevirtual 127, 3) := by decide +kernel
theorem dX6_isWord_38 : decode cX6_isWord 38 = .ok (.if_icmp .eq 5, 3) := by decide +kernel
theorem dX6_isWord_41 : decode cX6_isWord 41 = .ok (.iconst 0, 1) := by decide +kernel
theorem dX6_isWord_42 : decode cX6_isWord 42 = .ok (.ireturn, 1) := by decide +kernel
theorem dX6_isWord_43 : decode cX6_isWord 43 = .ok (.iinc 3 1, 3) := by decide +kernel
theorem dX6_isWord_46 : decode cX6_isWord 46 = .ok (.goto (-29), 3) := by decide +kernel
theorem dX6_isWord_49 : decode cX6_isWord 49 = .ok (.iconst 1, 1) := by decide +kernel
theorem dX6_isWord_50 : decode cX6_isWord 50 = .ok (.ireturn, 1) := by decide +kernel
theorem dX6_readNumbers_0 : decode cX6_readNumbers 0 = .ok (.iconst 0, 1) := by decide +kernel
theorem dX6_readNumbers_1 : decode cX6_readNumbers 1 = .ok (.istore_n 2, 1) := by decide +kernel
theorem dX6_readNumbers_2 : decode cX6_readNumbers 2 = .ok (.iload_n 2, 1) := by decide +kernel
theorem dX6_readNumbers_3 : decode cX6_readNumbers 3 = .ok (.iload_n 1, 1) := by decide +kernel
theorem dX6_readNumbers_4 : decode cX6_readNumbers 4 = .ok (.if_icmp .ge 42, 3) := by decide +kernel
theorem dX6_readNumbers_7 : decode cX6_readNumbers 7 = .ok (.iload_n 2, 1) := by decide +kernel
theorem dX6_readNumbers_8 : decode cX6_readNumbers 8 = .ok (.iconst 3, 1) := by decide +kernel
theorem dX6_readNumbers_9 : decode cX6_readNumbers 9 = .ok (.if_icmp .ge 37, 3) := by decide +kernel
theorem dX6_readNumbers_12 : decode cX6_readNumbers 12 = .ok (.aload_n 0, 1) := by decide +kernel
theorem dX6_readNumbers_13 : decode cX6_readNumbers 13 = .ok (.iload_n 2, 1) := by decide +kernel
theorem dX6_readNumbers_14 : decode cX6_readNumbers 14 = .ok (.ifCond .ne 8, 3) := by decide +kernel
theorem dX6_readNumbers_17 : decode cX6_readNumbers 17 = .ok (.bipush 32, 2) := by decide +kernel
theorem dX6_readNumbers_19 : decode cX6_readNumbers 19 = .ok (.goto 5, 3) := by decide +kernel
theorem dX6_readNumbers_22 : decode cX6_readNumbers 22 = .ok (.bipush 44, 2) := by decide +kernel
theorem dX6_readNumbers_24 : decode cX6_readNumbers 24 = .ok (.invokevirtual 46, 3) := by decide +kernel
theorem dX6_readNumbers_27 : decode cX6_readNumbers 27 = .ok (.ifCond .eq 11, 3) := by decide +kernel
theorem dX6_readNumbers_30 : decode cX6_readNumbers 30 = .ok (.aload_n 0, 1) := by decide +kernel
theorem dX6_readNumbers_31 : decode cX6_readNumbers 31 = .ok (.iload_n 2, 1) := by decide +kernel
theorem dX6_readNumbers_32 : decode cX6_readNumbers 32 = .ok (.invokevirtual 131, 3) := by decide +kernel
theorem dX6_readNumbers_35 : decode cX6_readNumbers 35 = .ok (.ifCond .ne 5, 3) := by decide +kernel
theorem dX6_readNumbers_38 : decode cX6_readNumbers 38 = .ok (.iconst 0, 1) := by decide +kernel
theorem dX6_readNumbers_39 : decode cX6_readNumbers 39 = .ok (.ireturn, 1) := by decide +kernel
theorem dX6_readNumbers_40 : decode cX6_readNumbers 40 = .ok (.iinc 2 1, 3) := by decide +kernel
theorem dX6_readNumbers_43 : decode cX6_readNumbers 43 = .ok (.goto (-41), 3) := by decide +kernel
theorem dX6_readNumbers_46 : decode cX6_readNumbers 46 = .ok (.iconst 1, 1) := by decide +kernel
theorem dX6_readNumbers_47 : decode cX6_readNumbers 47 = .ok (.ireturn, 1) := by decide +kernel
theorem dX6_readSign_0 : decode cX6_readSign 0 = .ok (.aload_n 0, 1) := by decide +kernel
theorem dX6_readSign_1 : decode cX6_readSign 1 = .ok (.getfield 36, 3) := by decide +kernel
theorem dX6_readSign_4 : decode cX6_readSign 4 = .ok (.aload_n 0, 1) := by decide +kernel
theorem dX6_readSign_5 : decode cX6_readSign 5 = .ok (.getfield 26, 3) := by decide +kernel
theorem dX6_readSign_8 : decode cX6_readSign 8 = .ok (.if_icmp .ge 16, 3) := by decide +kernel
theorem dX6_readSign_11 : decode cX6_readSign 11 = .ok (.aload_n 0, 1) := by decide +kernel
theorem dX6_readSign_12 : decode cX6_readSign 12 = .ok (.getfield 9, 3) := by decide +kernel
theorem dX6_readSign_15 : decode cX6_readSign 15 = .ok (.aload_n 0, 1) := by decide +kernel
theorem dX6_readSign_16 : decode cX6_readSign 16 = .ok (.getfield 36, 3) := by decide +kernel
theorem dX6_readSign_19 : decode cX6_readSign 19 = .ok (.caload, 1) := by decide +kernel
theorem dX6_readSign_20 : decode cX6_readSign 20 = .ok (.iload_n 1, 1) := by decide +kernel
theorem dX6_readSign_21 : decode cX6_readSign 21 = .ok (.if_icmp .eq 13, 3) := by decide +kernel
theorem dX6_readSign_24 : decode cX6_readSign 24 = .ok (.aload_n 0, 1) := by decide +kernel
theorem dX6_readSign_25 : decode cX6_readSign 25 = .ok (.iconst 3, 1) := by decide +kernel
theorem dX6_readSign_26 : decode cX6_readSign 26 = .ok (.aload_n 0, 1) := by decide +kernel
theorem dX6_readSign_27 : decode cX6_readSign 27 = .ok (.getfield 36, 3) := by decide +kernel
theorem dX6_readSign_30 : decode cX6_readSign 30 = .ok (.invokevirtual 50, 3) := by decide +kernel
theorem dX6_readSign_33 : decode cX6_readSign 33 = .ok (.ireturn, 1) := by decide +kernel
theorem dX6_readSign_34 : decode cX6_readSign 34 = .ok (.aload_n 0, 1) := by decide +kernel
theorem dX6_readSign_35 : decode cX6_readSign 35 = .ok (.dup, 1) := by decide +kernel
theorem dX6_readSign_36 : decode cX6_readSign 36 = .ok (.getfield 36, 3) := by decide +kernel
theorem dX6_readSign_39 : decode cX6_readSign 39 = .ok (.iconst 1, 1) := by decide +kernel
theorem dX6_readSign_40 : decode cX6_readSign 40 = .ok (.iadd, 1) := by decide +kernel
theorem dX6_readSign_41 : decode cX6_readSign 41 = .ok (.putfield 36, 3) := by decide +kernel
theorem dX6_readSign_44 : decode cX6_readSign 44 = .ok (.iconst 1, 1) := by decide +kernel
theorem dX6_readSign_45 : decode cX6_readSign 45 = .ok (.ireturn, 1) := by decide +kernel
theorem dX6_readNumber_0 : decode cX6_readNumber 0 = .ok (.iconst 0, 1) := by decide +kernel
theorem dX6_readNumber_1 : decode cX6_readNumber 1 = .ok (.istore_n 2, 1) := by decide +kernel
theorem dX6_readNumber_2 : decode cX6_readNumber 2 = .ok (.iconst 0, 1) := by decide +kernel
theorem dX6_readNumber_3 : decode cX6_readNumber 3 = .ok (.istore_n 3, 1) := by decide +kernel
theorem dX6_readNumber_4 : decode cX6_readNumber 4 = .ok (.iload_n 3, 1) := by decide +kernel
theorem dX6_readNumber_5 : decode cX6_readNumber 5 = .ok (.iconst 4, 1) := by decide +kernel
theorem dX6_readNumber_6 : decode cX6_readNumber 6 = .ok (.if_icmp .ge 64, 3) := by decide +kernel
theorem dX6_readNumber_9 : decode cX6_readNumber 9 = .ok (.aload_n 0, 1) := by decide +kernel
theorem dX6_readNumber_10 : decode cX6_readNumber 10 = .ok (.getfield 36, 3) := by decide +kernel
theorem dX6_readNumber_13 : decode cX6_readNumber 13 = .ok (.aload_n 0, 1) := by decide +kernel
theorem dX6_readNumber_14 : decode cX6_readNumber 14 = .ok (.getfield 26, 3) := by decide +kernel
theorem dX6_readNumber_17 : decode cX6_readNumber 17 = .ok (.if_icmp .ge 53, 3) := by decide +kernel
theorem dX6_readNumber_20 : decode cX6_readNumber 20 = .ok (.aload_n 0, 1) := by decide +kernel
theorem dX6_readNumber_21 : decode cX6_readNumber 21 = .ok (.aload_n 0, 1) := by decide +kernel
theorem dX6_readNumber_22 : decode cX6_readNumber 22 = .ok (.getfield 9, 3) := by decide +kernel
theorem dX6_readNumber_25 : decode cX6_readNumber 25 = .ok (.aload_n 0, 1) := by decide +kernel
theorem dX6_readNumber_26 : decode cX6_readNumber 26 = .ok (.getfield 36, 3) := by decide +kernel
theorem dX6_readNumber_29 : decode cX6_readNumber 29 = .ok (.caload, 1) := by decide +kernel
theorem dX6_readNumber_30 : decode cX6_readNumber 30 = .ok (.invokevirtual 134, 3) := by decide +kernel
theorem dX6_readNumber_33 : decode cX6_readNumber 33 = .ok (.ifCond .eq 37, 3) := by decide +kernel
theorem dX6_readNumber_36 : decode cX6_readNumber 36 = .ok (.iload_n 2, 1) := by decide +kernel
theorem dX6_readNumber_37 : decode cX6_readNumber 37 = .ok (.bipush 10, 2) := by decide +kernel
theorem dX6_readNumber_39 : decode cX6_readNumber 39 = .ok (.imul, 1) := by decide +kernel
theorem dX6_readNumber_40 : decode cX6_readNumber 40 = .ok (.aload_n 0, 1) := by decide +kernel
theorem dX6_readNumber_41 : decode cX6_readNumber 41 = .ok (.getfield 9, 3) := by decide +kernel
theorem dX6_readNumber_44 : decode cX6_readNumber 44 = .ok (.aload_n 0, 1) := by decide +kernel
theorem dX6_readNumber_45 : decode cX6_readNumber 45 = .ok (.getfield 36, 3) := by decide +kernel
theorem dX6_readNumber_48 : decode cX6_readNumber 48 = .ok (.caload, 1) := by decide +kernel
theorem dX6_readNumber_49 : decode cX6_readNumber 49 = .ok (.bipush 48, 2) := by decide +kernel
theorem dX6_readNumber_51 : decode cX6_readNumber 51 = .ok (.isub, 1) := by decide +kernel
theorem dX6_readNumber_52 : decode cX6_readNumber 52 = .ok (.iadd, 1) := by decide +kernel
theorem dX6_readNumber_53 : decode cX6_readNumber 53 = .ok (.istore_n 2, 1) := by decide +kernel
theorem dX6_readNumber_54 : decode cX6_readNumber 54 = .ok (.aload_n 0, 1) := by decide +kernel
theorem dX6_readNumber_55 : decode cX6_readNumber 55 = .ok (.dup, 1) := by decide +kernel
theorem dX6_readNumber_56 : decode cX6_readNumber 56 = .ok (.getfield 36, 3) := by decide +kernel
theorem dX6_readNumber_59 : decode cX6_readNumber 59 = .ok (.iconst 1, 1) := by decide +kernel
theorem dX6_readNumber_60 : decode cX6_readNumber 60 = .ok (.iadd, 1) := by decide +kernel
theorem dX6_readNumber_61 : decode cX6_readNumber 61 = .ok (.putfield 36, 3) := by decide +kernel
theorem dX6_readNumber_64 : decode cX6_readNumber 64 = .ok (.iinc 3 1, 3) := by decide +kernel
theorem dX6_readNumber_67 : decode cX6_readNumber 67 = .ok (.goto (-63), 3) := by decide +kernel
theorem dX6_readNumber_70 : decode cX6_readNumber 70 = .ok (.iload_n 3, 1) := by decide +kernel
theorem dX6_readNumber_71 : decode cX6_readNumber 71 = .ok (.ifCond .ne 13, 3) := by decide +kernel
theorem dX6_readNumber_74 : decode cX6_readNumber 74 = .ok (.aload_n 0, 1) := by decide +kernel
theorem dX6_readNumber_75 : decode cX6_readNumber 75 = .ok (.iconst 3, 1) := by decide +kernel
theorem dX6_readNumber_76 : decode cX6_readNumber 76 = .ok (.aload_n 0, 1) := by decide +kernel
theorem dX6_readNumber_77 : decode cX6_readNumber 77 = .ok (.getfield 36, 3) := by decide +kernel
theorem dX6_readNumber_80 : decode cX6_readNumber 80 = .ok (.invokevirtual 50, 3) := by decide +kernel
theorem dX6_readNumber_83 : decode cX6_readNumber 83 = .ok (.ireturn, 1) := by decide +kernel
theorem dX6_readNumber_84 : decode cX6_readNumber 84 = .ok (.aload_n 0, 1) := by decide +kernel
theorem dX6_readNumber_85 : decode cX6_readNumber 85 = .ok (.getfield 15, 3) := by decide +kernel
theorem dX6_readNumber_88 : decode cX6_readNumber 88 = .ok (.iload_n 1, 1) := by decide +kernel
theorem dX6_readNumber_89 : decode cX6_readNumber 89 = .ok (.iload_n 2, 1) := by decide +kernel
theorem dX6_readNumber_90 : decode cX6_readNumber 90 = .ok (.iastore, 1) := by decide +kernel
theorem dX6_readNumber_91 : decode cX6_readNumber 91 = .ok (.iconst 1, 1) := by decide +kernel
theorem dX6_readNumber_92 : decode cX6_readNumber 92 = .ok (.ireturn, 1) := by decide +kernel
theorem dX6_isDigit_0 : decode cX6_isDigit 0 = .ok (.iload_n 1, 1) := by decide +kernel
theorem dX6_isDigit_1 : decode cX6_isDigit 1 = .ok (.bipush 48, 2) := by decide +kernel
theorem dX6_isDigit_3 : decode cX6_isDigit 3 = .ok (.if_icmp .lt 13, 3) := by decide +kernel
theorem dX6_isDigit_6 : decode cX6_isDigit 6 = .ok (.iload_n 1, 1) := by decide +kernel
theorem dX6_isDigit_7 : decode cX6_isDigit 7 = .ok (.bipush 57, 2) := by decide +kernel
theorem dX6_isDigit_9 : decode cX6_isDigit 9 = .ok (.if_icmp .gt 7, 3) := by decide +kernel
theorem dX6_isDigit_12 : decode cX6_isDigit 12 = .ok (.iconst 1, 1) := by decide +kernel
theorem dX6_isDigit_13 : decode cX6_isDigit 13 = .ok (.goto 4, 3) := by decide +kernel
theorem dX6_isDigit_16 : decode cX6_isDigit 16 = .ok (.iconst 0, 1) := by decide +kernel
theorem dX6_isDigit_17 : decode cX6_isDigit 17 = .ok (.ireturn, 1) := by decide +kernel
theorem dX6_inRange_0 : decode cX6_inRange 0 = .ok (.aload_n 0, 1) := by decide +kernel
theorem dX6_inRange_1 : decode cX6_inRange 1 = .ok (.getfield 15, 3) := by decide +kernel
theorem dX6_inRange_4 : decode cX6_inRange 4 = .ok (.iload_n 1, 1) := by decide +kernel
theorem dX6_inRange_5 : decode cX6_inRange 5 = .ok (.iaload, 1) := by decide +kernel
theorem dX6_inRange_6 : decode cX6_inRange 6 = .ok (.iload_n 2, 1) := by decide +kernel
theorem dX6_inRange_7 : decode cX6_inRange 7 = .ok (.iload_n 3, 1) := by decide +kernel
theorem dX6_inRange_8 : decode cX6_inRange 8 = .ok (.invokestatic 137, 3) := by decide +kernel
theorem dX6_inRange_11 : decode cX6_inRange 11 = .ok (.ifCond .ne 17, 3) := by decide +kernel
theorem dX6_inRange_14 : decode cX6_inRange 14 = .ok (.aload_n 0, 1) := by decide +kernel
theorem dX6_inRange_15 : decode cX6_inRange 15 = .ok (.iconst 4, 1) := by decide +kernel
theorem dX6_inRange_16 : decode cX6_inRange 16 = .ok (.aload_n 0, 1) := by decide +kernel
theorem dX6_inRange_17 : decode cX6_inRange 17 = .ok (.getfield 15, 3) := by decide +kernel
theorem dX6_inRange_20 : decode cX6_inRange 20 = .ok (.iload_n 1, 1) := by decide +kernel
theorem dX6_inRange_21 : decode cX6_inRange 21 = .ok (.iaload, 1) := by decide +kernel
theorem dX6_inRange_22 : decode cX6_inRange 22 = .ok (.invokevirtual 50, 3) := by decide +kernel
theorem dX6_inRange_25 : decode cX6_inRange 25 = .ok (.ifCond .eq 7, 3) := by decide +kernel
theorem dX6_inRange_28 : decode cX6_inRange 28 = .ok (.iconst 1, 1) := by decide +kernel
theorem dX6_inRange_29 : decode cX6_inRange 29 = .ok (.goto 4, 3) := by decide +kernel
theorem dX6_inRange_32 : decode cX6_inRange 32 = .ok (.iconst 0, 1) := by decide +kernel
theorem dX6_inRange_33 : decode cX6_inRange 33 = .ok (.ireturn, 1) := by decide +kernel
theorem dX6_fault_0 : decode cX6_fault 0 = .ok (.aload_n 0, 1) := by decide +kernel
theorem dX6_fault_1 : decode cX6_fault 1 = .ok (.iload_n 1, 1) := by decide +kernel
theorem dX6_fault_2 : decode cX6_fault 2 = .ok (.putfield 140, 3) := by decide +kernel
theorem dX6_fault_5 : decode cX6_fault 5 = .ok (.aload_n 0, 1) := by decide +kernel
theorem dX6_fault_6 : decode cX6_fault 6 = .ok (.iload_n 2, 1) := by decide +kernel
theorem dX6_fault_7 : decode cX6_fault 7 = .ok (.putfield 143, 3) := by decide +kernel
theorem dX6_fault_10 : decode cX6_fault 10 = .ok (.iconst 0, 1) := by decide +kernel
theorem dX6_fault_11 : decode cX6_fault 11 = .ok (.ireturn, 1) := by decide +kernel
theorem dX7_init_0 : decode cX7_init 0 = .ok (.aload_n 0, 1) := by decide +kernel
theorem dX7_init_1 : decode cX7_init 1 = .ok (.invokespecial 3, 3) := by decide +kernel
theorem dX7_init_4 : decode cX7_init 4 = .ok (.aload_n 0, 1) := by decide +kernel
theorem dX7_init_5 : decode cX7_init 5 = .ok (.iconst 3, 1) := by decide +kernel
theorem dX7_init_6 : decode cX7_init 6 = .ok (.newarray .int, 2) := by decide +kernel
theorem dX7_init_8 : decode cX7_init 8 = .ok (.putfield 9, 3) := by decide +kernel
theorem dX7_init_11 : decode cX7_init 11 = .ok (.aload_n 0, 1) := by decide +kernel
theorem dX7_init_12 : decode cX7_init 12 = .ok (.iconst 3, 1) := by decide +kernel
theorem dX7_init_13 : decode cX7_init 13 = .ok (.newarray .int, 2) := by decide +kernel
theorem dX7_init_15 : decode cX7_init 15 = .ok (.putfield 15, 3) := by decide +kernel
theorem dX7_init_18 : decode cX7_init 18 = .ok (.return_, 1) := by decide +kernel
theorem dX7_hasLevel_0 : decode cX7_hasLevel 0 = .ok (.iload_n 1, 1) := by decide +kernel
theorem dX7_hasLevel_1 : decode cX7_hasLevel 1 = .ok (.iconst 0, 1) := by decide +kernel
theorem dX7_hasLevel_2 : decode cX7_hasLevel 2 = .ok (.iconst 2, 1) := by decide +kernel
theorem dX7_hasLevel_3 : decode cX7_hasLevel 3 = .ok (.invokestatic 18, 3) := by decide +kernel
theorem dX7_hasLevel_6 : decode cX7_hasLevel 6 = .ok (.ifCond .eq 15, 3) := by decide +kernel
theorem dX7_hasLevel_9 : decode cX7_hasLevel 9 = .ok (.iload_n 1, 1) := by decide +kernel
theorem dX7_hasLevel_10 : decode cX7_hasLevel 10 = .ok (.aload_n 0, 1) := by decide +kernel
theorem dX7_hasLevel_11 : decode cX7_hasLevel 11 = .ok (.getfield 22, 3) := by decide +kernel
theorem dX7_hasLevel_14 : decode cX7_hasLevel 14 = .ok (.if_icmp .ge 7, 3) := by decide +kernel
theorem dX7_hasLevel_17 : decode cX7_hasLevel 17 = .ok (.iconst 1, 1) := by decide +kernel
theorem dX7_hasLevel_18 : decode cX7_hasLevel 18 = .ok (.goto 4, 3) := by decide +kernel
theorem dX7_hasLevel_21 : decode cX7_hasLevel 21 = .ok (.iconst 0, 1) := by decide +kernel
theorem dX7_hasLevel_22 : decode cX7_hasLevel 22 = .ok (.ireturn, 1) := by decide +kernel
theorem dX7_tell_0 : decode cX7_tell 0 = .ok (.aload_n 0, 1) := by decide +kernel
theorem dX7_tell_1 : decode cX7_tell 1 = .ok (.getfield 9, 3) := by decide +kernel
theorem dX7_tell_4 : decode cX7_tell 4 = .ok (.iconst 0, 1) := by decide +kernel
theorem dX7_tell_5 : decode cX7_tell 5 = .ok (.iconst 1, 1) := by decide +kernel
theorem dX7_tell_6 : decode cX7_tell 6 = .ok (.iastore, 1) := by decide +kernel
theorem dX7_tell_7 : decode cX7_tell 7 = .ok (.aload_n 0, 1) := by decide +kernel
theorem dX7_tell_8 : decode cX7_tell 8 = .ok (.getfield 15, 3) := by decide +kernel
theorem dX7_tell_11 : decode cX7_tell 11 = .ok (.iconst 0, 1) := by decide +kernel
theorem dX7_tell_12 : decode cX7_tell 12 = .ok (.iload_n 1, 1) := by decide +kernel
theorem dX7_tell_13 : decode cX7_tell 13 = .ok (.iastore, 1) := by decide +kernel
theorem dX7_tell_14 : decode cX7_tell 14 = .ok (.aload_n 0, 1) := by decide +kernel
theorem dX7_tell_15 : decode cX7_tell 15 = .ok (.getfield 9, 3) := by decide +kernel
theorem dX7_tell_18 : decode cX7_tell 18 = .ok (.iconst 1, 1) := by decide +kernel
theorem dX7_tell_19 : decode cX7_tell 19 = .ok (.iconst 2, 1) := by decide +kernel
theorem dX7_tell_20 : decode cX7_tell 20 = .ok (.iastore, 1) := by decide +kernel
theorem dX7_tell_21 : decode cX7_tell 21 = .ok (.aload_n 0, 1) := by decide +kernel
theorem dX7_tell_22 : decode cX7_tell 22 = .ok (.getfield 15, 3) := by decide +kernel
theorem dX7_tell_25 : decode cX7_tell 25 = .ok (.iconst 1, 1) := by decide +kernel
theorem dX7_tell_26 : decode cX7_tell 26 = .ok (.iload_n 2, 1) := by decide +kernel
theorem dX7_tell_27 : decode cX7_tell 27 = .ok (.iastore, 1) := by decide +kernel
theorem dX7_tell_28 : decode cX7_tell 28 = .ok (.aload_n 0, 1) := by decide +kernel
theorem dX7_tell_29 : decode cX7_tell 29 = .ok (.getfield 9, 3) := by decide +kernel
theorem dX7_tell_32 : decode cX7_tell 32 = .ok (.iconst 2, 1) := by decide +kernel
theorem dX7_tell_33 : decode cX7_tell 33 = .ok (.iload_n 3, 1) := by decide +kernel
theorem dX7_tell_34 : decode cX7_tell 34 = .ok (.iastore, 1) := by decide +kernel
theorem dX7_tell_35 : decode cX7_tell 35 = .ok (.aload_n 0, 1) := by decide +kernel
theorem dX7_tell_36 : decode cX7_tell 36 = .ok (.getfield 15, 3) := by decide +kernel
theorem dX7_tell_39 : decode cX7_tell 39 = .ok (.iconst 2, 1) := by decide +kernel
theorem dX7_tell_40 : decode cX7_tell 40 = .ok (.iload 4, 2) := by decide +kernel
theorem dX7_tell_42 : decode cX7_tell 42 = .ok (.iastore, 1) := by decide +kernel
theorem dX7_tell_43 : decode cX7_tell 43 = .ok (.aload_n 0, 1) := by decide +kernel
theorem dX7_tell_44 : decode cX7_tell 44 = .ok (.iconst 3, 1) := by decide +kernel
theorem dX7_tell_45 : decode cX7_tell 45 = .ok (.putfield 22, 3) := by decide +kernel
theorem dX7_tell_48 : decode cX7_tell 48 = .ok (.return_, 1) := by decide +kernel
theorem dX8_init_0 : decode cX8_init 0 = .ok (.aload_n 0, 1) := by decide +kernel
theorem dX8_init_1 : decode cX8_init 1 = .ok (.invokespecial 3, 3) := by decide +kernel
theorem dX8_init_4 : decode cX8_init 4 = .ok (.aload_n 0, 1) := by decide +kernel
theorem dX8_init_5 : decode cX8_init 5 = .ok (.iconst 4, 1) := by decide +kernel
theorem dX8_init_6 : decode cX8_init 6 = .ok (.newarray .int, 2) := by decide +kernel
theorem dX8_init_8 : decode cX8_init 8 = .ok (.putfield 9, 3) := by decide +kernel
theorem dX8_init_11 : decode cX8_init 11 = .ok (.return_, 1) := by decide +kernel
theorem dX8_begin_0 : decode cX8_begin 0 = .ok (.aload_n 0, 1) := by decide +kernel
theorem dX8_begin_1 : decode cX8_begin 1 = .ok (.iload_n 1, 1) := by decide +kernel
theorem dX8_begin_2 : decode cX8_begin 2 = .ok (.putfield 15, 3) := by decide +kernel
theorem dX8_begin_5 : decode cX8_begin 5 = .ok (.aload_n 0, 1) := by decide +kernel
theorem dX8_begin_6 : decode cX8_begin 6 = .ok (.iload_n 2, 1) := by decide +kernel
theorem dX8_begin_7 : decode cX8_begin 7 = .ok (.putfield 19, 3) := by decide +kernel
theorem dX8_begin_10 : decode cX8_begin 10 = .ok (.aload_n 0, 1) := by decide +kernel
theorem dX8_begin_11 : decode cX8_begin 11 = .ok (.iload_n 3, 1) := by decide +kernel
theorem dX8_begin_12 : decode cX8_begin 12 = .ok (.putfield 22, 3) := by decide +kernel
theorem dX8_begin_15 : decode cX8_begin 15 = .ok (.aload_n 0, 1) := by decide +kernel
theorem dX8_begin_16 : decode cX8_begin 16 = .ok (.iconst 0, 1) := by decide +kernel
theorem dX8_begin_17 : decode cX8_begin 17 = .ok (.putfield 25, 3) := by decide +kernel
theorem dX8_begin_20 : decode cX8_begin 20 = .ok (.aload_n 0, 1) := by decide +kernel
theorem dX8_begin_21 : decode cX8_begin 21 = .ok (.iconst 0, 1) := by decide +kernel
theorem dX8_begin_22 : decode cX8_begin 22 = .ok (.putfield 28, 3) := by decide +kernel
theorem dX8_begin_25 : decode cX8_begin 25 = .ok (.aload_n 0, 1) := by decide +kernel
theorem dX8_begin_26 : decode cX8_begin 26 = .ok (.iconst (-1), 1) := by decide +kernel
theorem dX8_begin_27 : decode cX8_begin 27 = .ok (.putfield 31, 3) := by decide +kernel
theorem dX8_begin_30 : decode cX8_begin 30 = .ok (.aload_n 0, 1) := by decide +kernel
theorem dX8_begin_31 : decode cX8_begin 31 = .ok (.iconst 0, 1) := by decide +kernel
theorem dX8_begin_32 : decode cX8_begin 32 = .ok (.putfield 34, 3) := by decide +kernel
theorem dX8_begin_35 : decode cX8_begin 35 = .ok (.aload_n 0, 1) := by decide +kernel
theorem dX8_begin_36 : decode cX8_begin 36 = .ok (.iconst 0, 1) := by decide +kernel
theorem dX8_begin_37 : decode cX8_begin 37 = .ok (.putfield 38, 3) := by decide +kernel
theorem dX8_begin_40 : decode cX8_begin 40 = .ok (.return_, 1) := by decide +kernel
theorem dX8_copyFrom_0 : decode cX8_copyFrom 0 = .ok (.aload_n 0, 1) := by decide +kernel
theorem dX8_copyFrom_1 : decode cX8_copyFrom 1 = .ok (.aload_n 1, 1) := by decide +kernel
theorem dX8_copyFrom_2 : decode cX8_copyFrom 2 = .ok (.getfield 15, 3) := by decide +kernel
theorem dX8_copyFrom_5 : decode cX8_copyFrom 5 = .ok (.aload_n 1, 1) := by decide +kernel
theorem dX8_copyFrom_6 : decode cX8_copyFrom 6 = .ok (.getfield 19, 3) := by decide +kernel
theorem dX8_copyFrom_9 : decode cX8_copyFrom 9 = .ok (.aload_n 1, 1) := by decide +kernel
theorem dX8_copyFrom_10 : decode cX8_copyFrom 10 = .ok (.getfield 22, 3) := by decide +kernel
theorem dX8_copyFrom_13 : decode cX8_copyFrom 13 = .ok (.invokevirtual 41, 3) := by decide +kernel
theorem dX8_copyFrom_16 : decode cX8_copyFrom 16 = .ok (.iconst 0, 1) := by decide +kernel
theorem dX8_copyFrom_17 : decode cX8_copyFrom 17 = .ok (.istore_n 2, 1) := by decide +kernel
theorem dX8_copyFrom_18 : decode cX8_copyFrom 18 = .ok (.iload_n 2, 1) := by decide +kernel
theorem dX8_copyFrom_19 : decode cX8_copyFrom 19 = .ok (.iconst 4, 1) := by decide +kernel
theorem dX8_copyFrom_20 : decode cX8_copyFrom 20 = .ok (.if_icmp .ge 21, 3) := by decide +kernel
theorem dX8_copyFrom_23 : decode cX8_copyFrom 23 = .ok (.aload_n 0, 1) := by decide +kernel
theorem dX8_copyFrom_24 : decode cX8_copyFrom 24 = .ok (.getfield 9, 3) := by decide +kernel
theorem dX8_copyFrom_27 : decode cX8_copyFrom 27 = .ok (.iload_n 2, 1) := by decide +kernel
theorem dX8_copyFrom_28 : decode cX8_copyFrom 28 = .ok (.aload_n 1, 1) := by decide +kernel
theorem dX8_copyFrom_29 : decode cX8_copyFrom 29 = .ok (.getfield 9, 3) := by decide +kernel
theorem dX8_copyFrom_32 : decode cX8_copyFrom 32 = .ok (.iload_n 2, 1) := by decide +kernel
theorem dX8_copyFrom_33 : decode cX8_copyFrom 33 = .ok (.iaload, 1) := by decide +kernel
theorem dX8_copyFrom_34 : decode cX8_copyFrom 34 = .ok (.iastore, 1) := by decide +kernel
theorem dX8_copyFrom_35 : decode cX8_copyFrom 35 = .ok (.iinc 2 1, 3) := by decide +kernel
theorem dX8_copyFrom_38 : decode cX8_copyFrom 38 = .ok (.goto (-20), 3) := by decide +kernel
theorem dX8_copyFrom_41 : decode cX8_copyFrom 41 = .ok (.aload_n 0, 1) := by decide +kernel
theorem dX8_copyFrom_42 : decode cX8_copyFrom 42 = .ok (.aload_n 1, 1) := by decide +kernel
theorem dX8_copyFrom_43 : decode cX8_copyFrom 43 = .ok (.getfield 25, 3) := by decide +kernel
theorem dX8_copyFrom_46 : decode cX8_copyFrom 46 = .ok (.putfield 25, 3) := by decide +kernel
theorem dX8_copyFrom_49 : decode cX8_copyFrom 49 = .ok (.aload_n 0, 1) := by decide +kernel
theorem dX8_copyFrom_50 : decode cX8_copyFrom 50 = .ok (.aload_n 1, 1) := by decide +kernel
theorem dX8_copyFrom_51 : decode cX8_copyFrom 51 = .ok (.getfield 28, 3) := by decide +kernel
theorem dX8_copyFrom_54 : decode cX8_copyFrom 54 = .ok (.putfield 28, 3) := by decide +kernel
theorem dX8_copyFrom_57 : decode cX8_copyFrom 57 = .ok (.aload_n 0, 1) := by decide +kernel
theorem dX8_copyFrom_58 : decode cX8_copyFrom 58 = .ok (.aload_n 1, 1) := by decide +kernel
theorem dX8_copyFrom_59 : decode cX8_copyFrom 59 = .ok (.getfield 31, 3) := by decide +kernel
theorem dX8_copyFrom_62 : decode cX8_copyFrom 62 = .ok (.putfield 31, 3) := by decide +kernel
theorem dX8_copyFrom_65 : decode cX8_copyFrom 65 = .ok (.aload_n 0, 1) := by decide +kernel
theorem dX8_copyFrom_66 : decode cX8_copyFrom 66 = .ok (.aload_n 1, 1) := by decide +kernel
theorem dX8_copyFrom_67 : decode cX8_copyFrom 67 = .ok (.getfield 34, 3) := by decide +kernel
theorem dX8_copyFrom_70 : decode cX8_copyFrom 70 = .ok (.putfield 34, 3) := by decide +kernel
theorem dX8_copyFrom_73 : decode cX8_copyFrom 73 = .ok (.aload_n 0, 1) := by decide +kernel
theorem dX8_copyFrom_74 : decode cX8_copyFrom 74 = .ok (.aload_n 1, 1) := by decide +kernel
theorem dX8_copyFrom_75 : decode cX8_copyFrom 75 = .ok (.getfield 38, 3) := by decide +kernel
theorem dX8_copyFrom_78 : decode cX8_copyFrom 78 = .ok (.putfield 38, 3) := by decide +kernel
theorem dX8_copyFrom_81 : decode cX8_copyFrom 81 = .ok (.return_, 1) := by decide +kernel
theorem dX8_property_0 : decode cX8_property 0 = .ok (.iload_n 1, 1) := by decide +kernel
theorem dX8_property_1 : decode cX8_property 1 = .ok (.tableswitch 94 0 6 #[43, 48, 53, 58, 63, 68, 81], 43) := by decide +kernel
theorem dX8_property_44 : decode cX8_property 44 = .ok (.aload_n 0, 1) := by decide +kernel
theorem dX8_property_45 : decode cX8_property 45 = .ok (.getfield 15, 3) := by decide +kernel
theorem dX8_property_48 : decode cX8_property 48 = .ok (.ireturn, 1) := by decide +kernel
theorem dX8_property_49 : decode cX8_property 49 = .ok (.aload_n 0, 1) := by decide +kernel
theorem dX8_property_50 : decode cX8_property 50 = .ok (.getfield 19, 3) := by decide +kernel
theorem dX8_property_53 : decode cX8_property 53 = .ok (.ireturn, 1) := by decide +kernel
theorem dX8_property_54 : decode cX8_property 54 = .ok (.aload_n 0, 1) := by decide +kernel
theorem dX8_property_55 : decode cX8_property 55 = .ok (.getfield 22, 3) := by decide +kernel
theorem dX8_property_58 : decode cX8_property 58 = .ok (.ireturn, 1) := by decide +kernel
theorem dX8_property_59 : decode cX8_property 59 = .ok (.aload_n 0, 1) := by decide +kernel
theorem dX8_property_60 : decode cX8_property 60 = .ok (.getfield 28, 3) := by decide +kernel
theorem dX8_property_63 : decode cX8_property 63 = .ok (.ireturn, 1) := by decide +kernel
theorem dX8_property_64 : decode cX8_property 64 = .ok (.aload_n 0, 1) := by decide +kernel
theorem dX8_property_65 : decode cX8_property 65 = .ok (.getfield 25, 3) := by decide +kernel
theorem dX8_property_68 : decode cX8_property 68 = .ok (.ireturn, 1) := by decide +kernel
theorem dX8_property_69 : decode cX8_property 69 = .ok (.aload_n 0, 1) := by decide +kernel
theorem dX8_property_70 : decode cX8_property 70 = .ok (.getfield 34, 3) := by decide +kernel
theorem dX8_property_73 : decode cX8_property 73 = .ok (.ifCond .eq 7, 3) := by decide +kernel
theorem dX8_property_76 : decode cX8_property 76 = .ok (.iconst 1, 1) := by decide +kernel
theorem dX8_property_77 : decode cX8_property 77 = .ok (.goto 4, 3) := by decide +kernel
theorem dX8_property_80 : decode cX8_property 80 = .ok (.iconst 0, 1) := by decide +kernel
theorem dX8_property_81 : decode cX8_property 81 = .ok (.ireturn, 1) := by decide +kernel
theorem dX8_property_82 : decode cX8_property 82 = .ok (.aload_n 0, 1) := by decide +kernel
theorem dX8_property_83 : decode cX8_property 83 = .ok (.getfield 38, 3) := by decide +kernel
theorem dX8_property_86 : decode cX8_property 86 = .ok (.ifCond .eq 7, 3) := by decide +kernel
theorem dX8_property_89 : decode cX8_property 89 = .ok (.iconst 1, 1) := by decide +kernel
theorem dX8_property_90 : decode cX8_property 90 = .ok (.goto 4, 3) := by decide +kernel
theorem dX8_property_93 : decode cX8_property 93 = .ok (.iconst 0, 1) := by decide +kernel
theorem dX8_property_94 : decode cX8_property 94 = .ok (.ireturn, 1) := by decide +kernel
theorem dX8_property_95 : decode cX8_property 95 = .ok (.aload_n 0, 1) := by decide +kernel
theorem dX8_property_96 : decode cX8_property 96 = .ok (.getfield 31, 3) := by decide +kernel
theorem dX8_property_99 : decode cX8_property 99 = .ok (.ireturn, 1) := by decide +kernel
theorem dX8_hasRoomForVoucher_0 : decode cX8_hasRoomForVoucher 0 = .ok (.aload_n 0, 1) := by decide +kernel
theorem dX8_hasRoomForVoucher_1 : decode cX8_hasRoomForVoucher 1 = .ok (.getfield 25, 3) := by decide +kernel
theorem dX8_hasRoomForVoucher_4 : decode cX8_hasRoomForVoucher 4 = .ok (.iconst 4, 1) := by decide +kernel
theorem dX8_hasRoomForVoucher_5 : decode cX8_hasRoomForVoucher 5 = .ok (.if_icmp .ge 7, 3) := by decide +kernel
theorem dX8_hasRoomForVoucher_8 : decode cX8_hasRoomForVoucher 8 = .ok (.iconst 1, 1) := by decide +kernel
theorem dX8_hasRoomForVoucher_9 : decode cX8_hasRoomForVoucher 9 = .ok (.goto 4, 3) := by decide +kernel
theorem dX8_hasRoomForVoucher_12 : decode cX8_hasRoomForVoucher 12 = .ok (.iconst 0, 1) := by decide +kernel
theorem dX8_hasRoomForVoucher_13 : decode cX8_hasRoomForVoucher 13 = .ok (.ireturn, 1) := by decide +kernel
theorem dX8_addVoucherNumber_0 : decode cX8_addVoucherNumber 0 = .ok (.aload_n 0, 1) := by decide +kernel
theorem dX8_addVoucherNumber_1 : decode cX8_addVoucherNumber 1 = .ok (.invokevirtual 45, 3) := by decide +kernel
theorem dX8_addVoucherNumber_4 : decode cX8_addVoucherNumber 4 = .ok (.ifCond .eq 23, 3) := by decide +kernel
theorem dX8_addVoucherNumber_7 : decode cX8_addVoucherNumber 7 = .ok (.aload_n 0, 1) := by decide +kernel
theorem dX8_addVoucherNumber_8 : decode cX8_addVoucherNumber 8 = .ok (.getfield 9, 3) := by decide +kernel
theorem dX8_addVoucherNumber_11 : decode cX8_addVoucherNumber 11 = .ok (.aload_n 0, 1) := by decide +kernel
theorem dX8_addVoucherNumber_12 : decode cX8_addVoucherNumber 12 = .ok (.getfield 25, 3) := by decide +kernel
theorem dX8_addVoucherNumber_15 : decode cX8_addVoucherNumber 15 = .ok (.iload_n 1, 1) := by decide +kernel
theorem dX8_addVoucherNumber_16 : decode cX8_addVoucherNumber 16 = .ok (.iastore, 1) := by decide +kernel
theorem dX8_addVoucherNumber_17 : decode cX8_addVoucherNumber 17 = .ok (.aload_n 0, 1) := by decide +kernel
theorem dX8_addVoucherNumber_18 : decode cX8_addVoucherNumber 18 = .ok (.dup, 1) := by decide +kernel
theorem dX8_addVoucherNumber_19 : decode cX8_addVoucherNumber 19 = .ok (.getfield 25, 3) := by decide +kernel
theorem dX8_addVoucherNumber_22 : decode cX8_addVoucherNumber 22 = .ok (.iconst 1, 1) := by decide +kernel
theorem dX8_addVoucherNumber_23 : decode cX8_addVoucherNumber 23 = .ok (.iadd, 1) := by decide +kernel
theorem dX8_addVoucherNumber_24 : decode cX8_addVoucherNumber 24 = .ok (.putfield 25, 3) := by decide +kernel
theorem dX8_addVoucherNumber_27 : decode cX8_addVoucherNumber 27 = .ok (.return_, 1) := by decide +kernel
theorem dX8_voucherNumber_0 : decode cX8_voucherNumber 0 = .ok (.iload_n 1, 1) := by decide +kernel
theorem dX8_voucherNumber_1 : decode cX8_voucherNumber 1 = .ok (.iconst 0, 1) := by decide +kernel
theorem dX8_voucherNumber_2 : decode cX8_voucherNumber 2 = .ok (.iconst 3, 1) := by decide +kernel
theorem dX8_voucherNumber_3 : decode cX8_voucherNumber 3 = .ok (.invokestatic 49, 3) := by decide +kernel
theorem dX8_voucherNumber_6 : decode cX8_voucherNumber 6 = .ok (.ifCond .eq 12, 3) := by decide +kernel
theorem dX8_voucherNumber_9 : decode cX8_voucherNumber 9 = .ok (.aload_n 0, 1) := by decide +kernel
theorem dX8_voucherNumber_10 : decode cX8_voucherNumber 10 = .ok (.getfield 9, 3) := by decide +kernel
theorem dX8_voucherNumber_13 : decode cX8_voucherNumber 13 = .ok (.iload_n 1, 1) := by decide +kernel
theorem dX8_voucherNumber_14 : decode cX8_voucherNumber 14 = .ok (.iaload, 1) := by decide +kernel
theorem dX8_voucherNumber_15 : decode cX8_voucherNumber 15 = .ok (.goto 4, 3) := by decide +kernel
theorem dX8_voucherNumber_18 : decode cX8_voucherNumber 18 = .ok (.iconst (-1), 1) := by decide +kernel
theorem dX8_voucherNumber_19 : decode cX8_voucherNumber 19 = .ok (.ireturn, 1) := by decide +kernel
theorem dX8_takePayment_0 : decode cX8_takePayment 0 = .ok (.iload_n 1, 1) := by decide +kernel
theorem dX8_takePayment_1 : decode cX8_takePayment 1 = .ok (.ifCond .le 18, 3) := by decide +kernel
theorem dX8_takePayment_4 : decode cX8_takePayment 4 = .ok (.aload_n 0, 1) := by decide +kernel
theorem dX8_takePayment_5 : decode cX8_takePayment 5 = .ok (.dup, 1) := by decide +kernel
theorem dX8_takePayment_6 : decode cX8_takePayment 6 = .ok (.getfield 28, 3) := by decide +kernel
theorem dX8_takePayment_9 : decode cX8_takePayment 9 = .ok (.iload_n 1, 1) := by decide +kernel
theorem dX8_takePayment_10 : decode cX8_takePayment 10 = .ok (.iadd, 1) := by decide +kernel
theorem dX8_takePayment_11 : decode cX8_takePayment 11 = .ok (.putfield 28, 3) := by decide +kernel
theorem dX8_takePayment_14 : decode cX8_takePayment 14 = .ok (.aload_n 0, 1) := by decide +kernel
theorem dX8_takePayment_15 : decode cX8_takePayment 15 = .ok (.iload_n 2, 1) := by decide +kernel
theorem dX8_takePayment_16 : decode cX8_takePayment 16 = .ok (.putfield 31, 3) := by decide +kernel
theorem dX8_takePayment_19 : decode cX8_takePayment 19 = .ok (.return_, 1) := by decide +kernel
theorem dX8_paidWithin_0 : decode cX8_paidWithin 0 = .ok (.aload_n 0, 1) := by decide +kernel
theorem dX8_paidWithin_1 : decode cX8_paidWithin 1 = .ok (.getfield 31, 3) := by decide +kernel
theorem dX8_paidWithin_4 : decode cX8_paidWithin 4 = .ok (.iconst (-1), 1) := by decide +kernel
theorem dX8_paidWithin_5 : decode cX8_paidWithin 5 = .ok (.if_icmp .eq 17, 3) := by decide +kernel
theorem dX8_paidWithin_8 : decode cX8_paidWithin 8 = .ok (.iload_n 2, 1) := by decide +kernel
theorem dX8_paidWithin_9 : decode cX8_paidWithin 9 = .ok (.aload_n 0, 1) := by decide +kernel
theorem dX8_paidWithin_10 : decode cX8_paidWithin 10 = .ok (.getfield 31, 3) := by decide +kernel
theorem dX8_paidWithin_13 : decode cX8_paidWithin 13 = .ok (.isub, 1) := by decide +kernel
theorem dX8_paidWithin_14 : decode cX8_paidWithin 14 = .ok (.iload_n 1, 1) := by decide +kernel
theorem dX8_paidWithin_15 : decode cX8_paidWithin 15 = .ok (.if_icmp .gt 7, 3) := by decide +kernel
theorem dX8_paidWithin_18 : decode cX8_paidWithin 18 = .ok (.iconst 1, 1) := by decide +kernel
theorem dX8_paidWithin_19 : decode cX8_paidWithin 19 = .ok (.goto 4, 3) := by decide +kernel
theorem dX8_paidWithin_22 : decode cX8_paidWithin 22 = .ok (.iconst 0, 1) := by decide +kernel
theorem dX8_paidWithin_23 : decode cX8_paidWithin 23 = .ok (.ireturn, 1) := by decide +kernel
theorem dX9_init_0 : decode cX9_init 0 = .ok (.aload_n 0, 1) := by decide +kernel
theorem dX9_init_1 : decode cX9_init 1 = .ok (.invokespecial 3, 3) := by decide +kernel
theorem dX9_init_4 : decode cX9_init 4 = .ok (.return_, 1) := by decide +kernel
theorem dX9_begin_0 : decode cX9_begin 0 = .ok (.aload_n 0, 1) := by decide +kernel
theorem dX9_begin_1 : decode cX9_begin 1 = .ok (.iload_n 1, 1) := by decide +kernel
theorem dX9_begin_2 : decode cX9_begin 2 = .ok (.putfield 9, 3) := by decide +kernel
theorem dX9_begin_5 : decode cX9_begin 5 = .ok (.aload_n 0, 1) := by decide +kernel
theorem dX9_begin_6 : decode cX9_begin 6 = .ok (.iload_n 2, 1) := by decide +kernel
theorem dX9_begin_7 : decode cX9_begin 7 = .ok (.putfield 15, 3) := by decide +kernel
theorem dX9_begin_10 : decode cX9_begin 10 = .ok (.aload_n 0, 1) := by decide +kernel
theorem dX9_begin_11 : decode cX9_begin 11 = .ok (.iconst 0, 1) := by decide +kernel
theorem dX9_begin_12 : decode cX9_begin 12 = .ok (.putfield 18, 3) := by decide +kernel
theorem dX9_begin_15 : decode cX9_begin 15 = .ok (.return_, 1) := by decide +kernel
theorem dX9_copyFrom_0 : decode cX9_copyFrom 0 = .ok (.aload_n 0, 1) := by decide +kernel
theorem dX9_copyFrom_1 : decode cX9_copyFrom 1 = .ok (.aload_n 1, 1) := by decide +kernel
theorem dX9_copyFrom_2 : decode cX9_copyFrom 2 = .ok (.getfield 9, 3) := by decide +kernel
theorem dX9_copyFrom_5 : decode cX9_copyFrom 5 = .ok (.putfield 9, 3) := by decide +kernel
theorem dX9_copyFrom_8 : decode cX9_copyFrom 8 = .ok (.aload_n 0, 1) := by decide +kernel
theorem dX9_copyFrom_9 : decode cX9_copyFrom 9 = .ok (.aload_n 1, 1) := by decide +kernel
theorem dX9_copyFrom_10 : decode cX9_copyFrom 10 = .ok (.getfield 15, 3) := by decide +kernel
theorem dX9_copyFrom_13 : decode cX9_copyFrom 13 = .ok (.putfield 15, 3) := by decide +kernel
theorem dX9_copyFrom_16 : decode cX9_copyFrom 16 = .ok (.aload_n 0, 1) := by decide +kernel
theorem dX9_copyFrom_17 : decode cX9_copyFrom 17 = .ok (.aload_n 1, 1) := by decide +kernel
theorem dX9_copyFrom_18 : decode cX9_copyFrom 18 = .ok (.getfield 18, 3) := by decide +kernel
theorem dX9_copyFrom_21 : decode cX9_copyFrom 21 = .ok (.putfield 18, 3) := by decide +kernel
theorem dX9_copyFrom_24 : decode cX9_copyFrom 24 = .ok (.return_, 1) := by decide +kernel
theorem dX9_property_0 : decode cX9_property 0 = .ok (.iload_n 1, 1) := by decide +kernel
theorem dX9_property_1 : decode cX9_property 1 = .ok (.lookupswitch 37 #[(0, 27), (1, 32)], 27) := by decide +kernel
theorem dX9_property_28 : decode cX9_property 28 = .ok (.aload_n 0, 1) := by decide +kernel
theorem dX9_property_29 : decode cX9_property 29 = .ok (.getfield 9, 3) := by decide +kernel
theorem dX9_property_32 : decode cX9_property 32 = .ok (.ireturn, 1) := by decide +kernel
theorem dX9_property_33 : decode cX9_property 33 = .ok (.aload_n 0, 1) := by decide +kernel
theorem dX9_property_34 : decode cX9_property 34 = .ok (.getfield 15, 3) := by decide +kernel
theorem dX9_property_37 : decode cX9_property 37 = .ok (.ireturn, 1) := by decide +kernel
theorem dX9_property_38 : decode cX9_property 38 = .ok (.aload_n 0, 1) := by decide +kernel
theorem dX9_property_39 : decode cX9_property 39 = .ok (.getfield 18, 3) := by decide +kernel
theorem dX9_property_42 : decode cX9_property 42 = .ok (.ireturn, 1) := by decide +kernel
theorem dX9_reduce_0 : decode cX9_reduce 0 = .ok (.aload_n 0, 1) := by decide +kernel
theorem dX9_reduce_1 : decode cX9_reduce 1 = .ok (.getfield 9, 3) := by decide +kernel
theorem dX9_reduce_4 : decode cX9_reduce 4 = .ok (.tableswitch 60 1 3 #[28, 40, 51], 28) := by decide +kernel
theorem dX9_reduce_32 : decode cX9_reduce 32 = .ok (.iload_n 1, 1) := by decide +kernel
theorem dX9_reduce_33 : decode cX9_reduce 33 = .ok (.iload_n 1, 1) := by decide +kernel
theorem dX9_reduce_34 : decode cX9_reduce 34 = .ok (.aload_n 0, 1) := by decide +kernel
theorem dX9_reduce_35 : decode cX9_reduce 35 = .ok (.getfield 15, 3) := by decide +kernel
theorem dX9_reduce_38 : decode cX9_reduce 38 = .ok (.imul, 1) := by decide +kernel
theorem dX9_reduce_39 : decode cX9_reduce 39 = .ok (.bipush 100, 2) := by decide +kernel
theorem dX9_reduce_41 : decode cX9_reduce 41 = .ok (.idiv, 1) := by decide +kernel
theorem dX9_reduce_42 : decode cX9_reduce 42 = .ok (.isub, 1) := by decide +kernel
theorem dX9_reduce_43 : decode cX9_reduce 43 = .ok (.ireturn, 1) := by decide +kernel
theorem dX9_reduce_44 : decode cX9_reduce 44 = .ok (.iconst 0, 1) := by decide +kernel
theorem dX9_reduce_45 : decode cX9_reduce 45 = .ok (.iload_n 1, 1) := by decide +kernel
theorem dX9_reduce_46 : decode cX9_reduce 46 = .ok (.aload_n 0, 1) := by decide +kernel
theorem dX9_reduce_47 : decode cX9_reduce 47 = .ok (.getfield 15, 3) := by decide +kernel
theorem dX9_reduce_50 : decode cX9_reduce 50 = .ok (.isub, 1) := by decide +kernel
theorem dX9_reduce_51 : decode cX9_reduce 51 = .ok (.invokestatic 21, 3) := by decide +kernel
theorem dX9_reduce_54 : decode cX9_reduce 54 = .ok (.ireturn, 1) := by decide +kernel
theorem dX9_reduce_55 : decode cX9_reduce 55 = .ok (.iload_n 1, 1) := by decide +kernel
theorem dX9_reduce_56 : decode cX9_reduce 56 = .ok (.aload_n 0, 1) := by decide +kernel
theorem dX9_reduce_57 : decode cX9_reduce 57 = .ok (.getfield 15, 3) := by decide +kernel
theorem dX9_reduce_60 : decode cX9_reduce 60 = .ok (.invokestatic 27, 3) := by decide +kernel
theorem dX9_reduce_63 : decode cX9_reduce 63 = .ok (.ireturn, 1) := by decide +kernel
theorem dX9_reduce_64 : decode cX9_reduce 64 = .ok (.iload_n 1, 1) := by decide +kernel
theorem dX9_reduce_65 : decode cX9_reduce 65 = .ok (.ireturn, 1) := by decide +kernel
