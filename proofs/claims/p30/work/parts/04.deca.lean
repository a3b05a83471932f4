theorem dX0_init_0 : decode cX0_init 0 = .ok (.aload_n 0, 1) := by decide +kernel
theorem dX0_init_1 : decode cX0_init 1 = .ok (.invokespecial 3, 3) := by decide +kernel
theorem dX0_init_4 : decode cX0_init 4 = .ok (.aload_n 0, 1) := by decide +kernel
theorem dX0_init_5 : decode cX0_init 5 = .ok (.iconst (-1), 1) := by decide +kernel
theorem dX0_init_6 : decode cX0_init 6 = .ok (.putfield 9, 3) := by decide +kernel
theorem dX0_init_9 : decode cX0_init 9 = .ok (.aload_n 0, 1) := by decide +kernel
theorem dX0_init_10 : decode cX0_init 10 = .ok (.iconst 0, 1) := by decide +kernel
theorem dX0_init_11 : decode cX0_init 11 = .ok (.putfield 15, 3) := by decide +kernel
theorem dX0_init_14 : decode cX0_init 14 = .ok (.aload_n 0, 1) := by decide +kernel
theorem dX0_init_15 : decode cX0_init 15 = .ok (.iconst 0, 1) := by decide +kernel
theorem dX0_init_16 : decode cX0_init 16 = .ok (.putfield 18, 3) := by decide +kernel
theorem dX0_init_19 : decode cX0_init 19 = .ok (.aload_n 0, 1) := by decide +kernel
theorem dX0_init_20 : decode cX0_init 20 = .ok (.iconst 0, 1) := by decide +kernel
theorem dX0_init_21 : decode cX0_init 21 = .ok (.putfield 21, 3) := by decide +kernel
theorem dX0_init_24 : decode cX0_init 24 = .ok (.aload_n 0, 1) := by decide +kernel
theorem dX0_init_25 : decode cX0_init 25 = .ok (.iconst (-1), 1) := by decide +kernel
theorem dX0_init_26 : decode cX0_init 26 = .ok (.putfield 24, 3) := by decide +kernel
theorem dX0_init_29 : decode cX0_init 29 = .ok (.aload_n 0, 1) := by decide +kernel
theorem dX0_init_30 : decode cX0_init 30 = .ok (.iconst 0, 1) := by decide +kernel
theorem dX0_init_31 : decode cX0_init 31 = .ok (.putfield 27, 3) := by decide +kernel
theorem dX0_init_34 : decode cX0_init 34 = .ok (.aload_n 0, 1) := by decide +kernel
theorem dX0_init_35 : decode cX0_init 35 = .ok (.iconst 0, 1) := by decide +kernel
theorem dX0_init_36 : decode cX0_init 36 = .ok (.putfield 30, 3) := by decide +kernel
theorem dX0_init_39 : decode cX0_init 39 = .ok (.aload_n 0, 1) := by decide +kernel
theorem dX0_init_40 : decode cX0_init 40 = .ok (.iconst 0, 1) := by decide +kernel
theorem dX0_init_41 : decode cX0_init 41 = .ok (.putfield 33, 3) := by decide +kernel
theorem dX0_init_44 : decode cX0_init 44 = .ok (.aload_n 0, 1) := by decide +kernel
theorem dX0_init_45 : decode cX0_init 45 = .ok (.iconst 0, 1) := by decide +kernel
theorem dX0_init_46 : decode cX0_init 46 = .ok (.putfield 36, 3) := by decide +kernel
theorem dX0_init_49 : decode cX0_init 49 = .ok (.aload_n 0, 1) := by decide +kernel
theorem dX0_init_50 : decode cX0_init 50 = .ok (.iconst 0, 1) := by decide +kernel
theorem dX0_init_51 : decode cX0_init 51 = .ok (.putfield 39, 3) := by decide +kernel
theorem dX0_init_54 : decode cX0_init 54 = .ok (.aload_n 0, 1) := by decide +kernel
theorem dX0_init_55 : decode cX0_init 55 = .ok (.iconst 0, 1) := by decide +kernel
theorem dX0_init_56 : decode cX0_init 56 = .ok (.putfield 43, 3) := by decide +kernel
theorem dX0_init_59 : decode cX0_init 59 = .ok (.aload_n 0, 1) := by decide +kernel
theorem dX0_init_60 : decode cX0_init 60 = .ok (.iconst 0, 1) := by decide +kernel
theorem dX0_init_61 : decode cX0_init 61 = .ok (.putfield 46, 3) := by decide +kernel
theorem dX0_init_64 : decode cX0_init 64 = .ok (.return_, 1) := by decide +kernel
theorem dX1_init_0 : decode cX1_init 0 = .ok (.aload_n 0, 1) := by decide +kernel
theorem dX1_init_1 : decode cX1_init 1 = .ok (.invokespecial 3, 3) := by decide +kernel
theorem dX1_init_4 : decode cX1_init 4 = .ok (.aload_n 0, 1) := by decide +kernel
theorem dX1_init_5 : decode cX1_init 5 = .ok (.iconst (-1), 1) := by decide +kernel
theorem dX1_init_6 : decode cX1_init 6 = .ok (.putfield 9, 3) := by decide +kernel
theorem dX1_init_9 : decode cX1_init 9 = .ok (.aload_n 0, 1) := by decide +kernel
theorem dX1_init_10 : decode cX1_init 10 = .ok (.new 15, 3) := by decide +kernel
theorem dX1_init_13 : decode cX1_init 13 = .ok (.dup, 1) := by decide +kernel
theorem dX1_init_14 : decode cX1_init 14 = .ok (.invokespecial 17, 3) := by decide +kernel
theorem dX1_init_17 : decode cX1_init 17 = .ok (.putfield 18, 3) := by decide +kernel
theorem dX1_init_20 : decode cX1_init 20 = .ok (.return_, 1) := by decide +kernel
theorem dX2_init_0 : decode cX2_init 0 = .ok (.aload_n 0, 1) := by decide +kernel
theorem dX2_init_1 : decode cX2_init 1 = .ok (.invokespecial 3, 3) := by decide +kernel
theorem dX2_init_4 : decode cX2_init 4 = .ok (.aload_n 0, 1) := by decide +kernel
theorem dX2_init_5 : decode cX2_init 5 = .ok (.iconst 4, 1) := by decide +kernel
theorem dX2_init_6 : decode cX2_init 6 = .ok (.newarray .int, 2) := by decide +kernel
theorem dX2_init_8 : decode cX2_init 8 = .ok (.putfield 9, 3) := by decide +kernel
theorem dX2_init_11 : decode cX2_init 11 = .ok (.aload_n 0, 1) := by decide +kernel
theorem dX2_init_12 : decode cX2_init 12 = .ok (.iconst 4, 1) := by decide +kernel
theorem dX2_init_13 : decode cX2_init 13 = .ok (.newarray .boolean, 2) := by decide +kernel
theorem dX2_init_15 : decode cX2_init 15 = .ok (.putfield 15, 3) := by decide +kernel
theorem dX2_init_18 : decode cX2_init 18 = .ok (.aload_n 0, 1) := by decide +kernel
theorem dX2_init_19 : decode cX2_init 19 = .ok (.iconst 0, 1) := by decide +kernel
theorem dX2_init_20 : decode cX2_init 20 = .ok (.putfield 19, 3) := by decide +kernel
theorem dX2_init_23 : decode cX2_init 23 = .ok (.aload_n 0, 1) := by decide +kernel
theorem dX2_init_24 : decode cX2_init 24 = .ok (.iconst 0, 1) := by decide +kernel
theorem dX2_init_25 : decode cX2_init 25 = .ok (.putfield 23, 3) := by decide +kernel
theorem dX2_init_28 : decode cX2_init 28 = .ok (.aload_n 0, 1) := by decide +kernel
theorem dX2_init_29 : decode cX2_init 29 = .ok (.iconst 0, 1) := by decide +kernel
theorem dX2_init_30 : decode cX2_init 30 = .ok (.putfield 26, 3) := by decide +kernel
theorem dX2_init_33 : decode cX2_init 33 = .ok (.aload_n 0, 1) := by decide +kernel
theorem dX2_init_34 : decode cX2_init 34 = .ok (.iconst 0, 1) := by decide +kernel
theorem dX2_init_35 : decode cX2_init 35 = .ok (.putfield 29, 3) := by decide +kernel
theorem dX2_init_38 : decode cX2_init 38 = .ok (.aload_n 0, 1) := by decide +kernel
theorem dX2_init_39 : decode cX2_init 39 = .ok (.iconst 0, 1) := by decide +kernel
theorem dX2_init_40 : decode cX2_init 40 = .ok (.putfield 32, 3) := by decide +kernel
theorem dX2_init_43 : decode cX2_init 43 = .ok (.aload_n 0, 1) := by decide +kernel
theorem dX2_init_44 : decode cX2_init 44 = .ok (.iconst 0, 1) := by decide +kernel
theorem dX2_init_45 : decode cX2_init 45 = .ok (.putfield 35, 3) := by decide +kernel
theorem dX2_init_48 : decode cX2_init 48 = .ok (.aload_n 0, 1) := by decide +kernel
theorem dX2_init_49 : decode cX2_init 49 = .ok (.iconst 0, 1) := by decide +kernel
theorem dX2_init_50 : decode cX2_init 50 = .ok (.putfield 38, 3) := by decide +kernel
theorem dX2_init_53 : decode cX2_init 53 = .ok (.return_, 1) := by decide +kernel
theorem dX2_clear_0 : decode cX2_clear 0 = .ok (.aload_n 0, 1) := by decide +kernel
theorem dX2_clear_1 : decode cX2_clear 1 = .ok (.aload_n 1, 1) := by decide +kernel
theorem dX2_clear_2 : decode cX2_clear 2 = .ok (.getfield 41, 3) := by decide +kernel
theorem dX2_clear_5 : decode cX2_clear 5 = .ok (.putfield 19, 3) := by decide +kernel
theorem dX2_clear_8 : decode cX2_clear 8 = .ok (.aload_n 0, 1) := by decide +kernel
theorem dX2_clear_9 : decode cX2_clear 9 = .ok (.aload_n 1, 1) := by decide +kernel
theorem dX2_clear_10 : decode cX2_clear 10 = .ok (.getfield 44, 3) := by decide +kernel
theorem dX2_clear_13 : decode cX2_clear 13 = .ok (.putfield 23, 3) := by decide +kernel
theorem dX2_clear_16 : decode cX2_clear 16 = .ok (.aload_n 0, 1) := by decide +kernel
theorem dX2_clear_17 : decode cX2_clear 17 = .ok (.aload_n 1, 1) := by decide +kernel
theorem dX2_clear_18 : decode cX2_clear 18 = .ok (.getfield 45, 3) := by decide +kernel
theorem dX2_clear_21 : decode cX2_clear 21 = .ok (.putfield 26, 3) := by decide +kernel
theorem dX2_clear_24 : decode cX2_clear 24 = .ok (.aload_n 0, 1) := by decide +kernel
theorem dX2_clear_25 : decode cX2_clear 25 = .ok (.iconst 0, 1) := by decide +kernel
theorem dX2_clear_26 : decode cX2_clear 26 = .ok (.putfield 29, 3) := by decide +kernel
theorem dX2_clear_29 : decode cX2_clear 29 = .ok (.aload_n 0, 1) := by decide +kernel
theorem dX2_clear_30 : decode cX2_clear 30 = .ok (.iconst 0, 1) := by decide +kernel
theorem dX2_clear_31 : decode cX2_clear 31 = .ok (.putfield 32, 3) := by decide +kernel
theorem dX2_clear_34 : decode cX2_clear 34 = .ok (.aload_n 0, 1) := by decide +kernel
theorem dX2_clear_35 : decode cX2_clear 35 = .ok (.iconst 0, 1) := by decide +kernel
theorem dX2_clear_36 : decode cX2_clear 36 = .ok (.putfield 35, 3) := by decide +kernel
theorem dX2_clear_39 : decode cX2_clear 39 = .ok (.aload_n 0, 1) := by decide +kernel
theorem dX2_clear_40 : decode cX2_clear 40 = .ok (.iconst 0, 1) := by decide +kernel
theorem dX2_clear_41 : decode cX2_clear 41 = .ok (.putfield 38, 3) := by decide +kernel
theorem dX2_clear_44 : decode cX2_clear 44 = .ok (.iconst 0, 1) := by decide +kernel
theorem dX2_clear_45 : decode cX2_clear 45 = .ok (.istore_n 2, 1) := by decide +kernel
theorem dX2_clear_46 : decode cX2_clear 46 = .ok (.iload_n 2, 1) := by decide +kernel
theorem dX2_clear_47 : decode cX2_clear 47 = .ok (.iconst 4, 1) := by decide +kernel
theorem dX2_clear_48 : decode cX2_clear 48 = .ok (.if_icmp .ge 23, 3) := by decide +kernel
theorem dX2_clear_51 : decode cX2_clear 51 = .ok (.aload_n 0, 1) := by decide +kernel
theorem dX2_clear_52 : decode cX2_clear 52 = .ok (.getfield 9, 3) := by decide +kernel
theorem dX2_clear_55 : decode cX2_clear 55 = .ok (.iload_n 2, 1) := by decide +kernel
theorem dX2_clear_56 : decode cX2_clear 56 = .ok (.iconst 0, 1) := by decide +kernel
theorem dX2_clear_57 : decode cX2_clear 57 = .ok (.iastore, 1) := by decide +kernel
theorem dX2_clear_58 : decode cX2_clear 58 = .ok (.aload_n 0, 1) := by decide +kernel
theorem dX2_clear_59 : decode cX2_clear 59 = .ok (.getfield 15, 3) := by decide +kernel
theorem dX2_clear_62 : decode cX2_clear 62 = .ok (.iload_n 2, 1) := by decide +kernel
theorem dX2_clear_63 : decode cX2_clear 63 = .ok (.iconst 0, 1) := by decide +kernel
theorem dX2_clear_64 : decode cX2_clear 64 = .ok (.bastore, 1) := by decide +kernel
theorem dX2_clear_65 : decode cX2_clear 65 = .ok (.iinc 2 1, 3) := by decide +kernel
theorem dX2_clear_68 : decode cX2_clear 68 = .ok (.goto (-22), 3) := by decide +kernel
theorem dX2_clear_71 : decode cX2_clear 71 = .ok (.return_, 1) := by decide +kernel
theorem dX2_take_0 : decode cX2_take 0 = .ok (.aload_n 1, 1) := by decide +kernel
theorem dX2_take_1 : decode cX2_take 1 = .ok (.getfield 46, 3) := by decide +kernel
theorem dX2_take_4 : decode cX2_take 4 = .ok (.ifCond .ne 9, 3) := by decide +kernel
theorem dX2_take_7 : decode cX2_take 7 = .ok (.aload_n 1, 1) := by decide +kernel
theorem dX2_take_8 : decode cX2_take 8 = .ok (.iconst 1, 1) := by decide +kernel
theorem dX2_take_9 : decode cX2_take 9 = .ok (.putfield 51, 3) := by decide +kernel
theorem dX2_take_12 : decode cX2_take 12 = .ok (.return_, 1) := by decide +kernel
theorem dX2_take_13 : decode cX2_take 13 = .ok (.aload_n 0, 1) := by decide +kernel
theorem dX2_take_14 : decode cX2_take 14 = .ok (.aload_n 1, 1) := by decide +kernel
theorem dX2_take_15 : decode cX2_take 15 = .ok (.invokevirtual 55, 3) := by decide +kernel
theorem dX2_take_18 : decode cX2_take 18 = .ok (.istore_n 2, 1) := by decide +kernel
theorem dX2_take_19 : decode cX2_take 19 = .ok (.iload_n 2, 1) := by decide +kernel
theorem dX2_take_20 : decode cX2_take 20 = .ok (.ifCond .lt 14, 3) := by decide +kernel
theorem dX2_take_23 : decode cX2_take 23 = .ok (.iload_n 2, 1) := by decide +kernel
theorem dX2_take_24 : decode cX2_take 24 = .ok (.iconst 4, 1) := by decide +kernel
theorem dX2_take_25 : decode cX2_take 25 = .ok (.if_icmp .ge 9, 3) := by decide +kernel
theorem dX2_take_28 : decode cX2_take 28 = .ok (.aload_n 0, 1) := by decide +kernel
theorem dX2_take_29 : decode cX2_take 29 = .ok (.aload_n 1, 1) := by decide +kernel
theorem dX2_take_30 : decode cX2_take 30 = .ok (.iload_n 2, 1) := by decide +kernel
theorem dX2_take_31 : decode cX2_take 31 = .ok (.invokevirtual 59, 3) := by decide +kernel
theorem dX2_take_34 : decode cX2_take 34 = .ok (.return_, 1) := by decide +kernel
theorem dX2_bestLane_0 : decode cX2_bestLane 0 = .ok (.iconst (-1), 1) := by decide +kernel
theorem dX2_bestLane_1 : decode cX2_bestLane 1 = .ok (.istore_n 2, 1) := by decide +kernel
theorem dX2_bestLane_2 : decode cX2_bestLane 2 = .ok (.iconst 0, 1) := by decide +kernel
theorem dX2_bestLane_3 : decode cX2_bestLane 3 = .ok (.istore_n 3, 1) := by decide +kernel
theorem dX2_bestLane_4 : decode cX2_bestLane 4 = .ok (.aload_n 0, 1) := by decide +kernel
theorem dX2_bestLane_5 : decode cX2_bestLane 5 = .ok (.getfield 29, 3) := by decide +kernel
theorem dX2_bestLane_8 : decode cX2_bestLane 8 = .ok (.aload_n 1, 1) := by decide +kernel
theorem dX2_bestLane_9 : decode cX2_bestLane 9 = .ok (.getfield 63, 3) := by decide +kernel
theorem dX2_bestLane_12 : decode cX2_bestLane 12 = .ok (.iadd, 1) := by decide +kernel
theorem dX2_bestLane_13 : decode cX2_bestLane 13 = .ok (.aload_n 0, 1) := by decide +kernel
theorem dX2_bestLane_14 : decode cX2_bestLane 14 = .ok (.getfield 26, 3) := by decide +kernel
theorem dX2_bestLane_17 : decode cX2_bestLane 17 = .ok (.if_icmp .gt 18, 3) := by decide +kernel
theorem dX2_bestLane_20 : decode cX2_bestLane 20 = .ok (.aload_n 1, 1) := by decide +kernel
theorem dX2_bestLane_21 : decode cX2_bestLane 21 = .ok (.getfield 64, 3) := by decide +kernel
theorem dX2_bestLane_24 : decode cX2_bestLane 24 = .ok (.ifCond .eq 13, 3) := by decide +kernel
theorem dX2_bestLane_27 : decode cX2_bestLane 27 = .ok (.aload_n 0, 1) := by decide +kernel
theorem dX2_bestLane_28 : decode cX2_bestLane 28 = .ok (.getfield 32, 3) := by decide +kernel
theorem dX2_bestLane_31 : decode cX2_bestLane 31 = .ok (.iconst 2, 1) := by decide +kernel
theorem dX2_bestLane_32 : decode cX2_bestLane 32 = .ok (.if_icmp .lt 5, 3) := by decide +kernel
theorem dX2_bestLane_35 : decode cX2_bestLane 35 = .ok (.iconst (-1), 1) := by decide +kernel
theorem dX2_bestLane_36 : decode cX2_bestLane 36 = .ok (.ireturn, 1) := by decide +kernel
theorem dX2_bestLane_37 : decode cX2_bestLane 37 = .ok (.iconst 0, 1) := by decide +kernel
theorem dX2_bestLane_38 : decode cX2_bestLane 38 = .ok (.istore 4, 2) := by decide +kernel
theorem dX2_bestLane_40 : decode cX2_bestLane 40 = .ok (.iload 4, 2) := by decide +kernel
theorem dX2_bestLane_42 : decode cX2_bestLane 42 = .ok (.aload_n 0, 1) := by decide +kernel
theorem dX2_bestLane_43 : decode cX2_bestLane 43 = .ok (.getfield 19, 3) := by decide +kernel
theorem dX2_bestLane_46 : decode cX2_bestLane 46 = .ok (.if_icmp .ge 111, 3) := by decide +kernel
theorem dX2_bestLane_49 : decode cX2_bestLane 49 = .ok (.iload 4, 2) := by decide +kernel
theorem dX2_bestLane_51 : decode cX2_bestLane 51 = .ok (.iconst 4, 1) := by decide +kernel
theorem dX2_bestLane_52 : decode cX2_bestLane 52 = .ok (.if_icmp .ge 105, 3) := by decide +kernel
theorem dX2_bestLane_55 : decode cX2_bestLane 55 = .ok (.aload_n 0, 1) := by decide +kernel
theorem dX2_bestLane_56 : decode cX2_bestLane 56 = .ok (.getfield 38, 3) := by decide +kernel
theorem dX2_bestLane_59 : decode cX2_bestLane 59 = .ok (.aload_n 0, 1) := by decide +kernel
theorem dX2_bestLane_60 : decode cX2_bestLane 60 = .ok (.iload 4, 2) := by decide +kernel
theorem dX2_bestLane_62 : decode cX2_bestLane 62 = .ok (.aload_n 1, 1) := by decide +kernel
theorem dX2_bestLane_63 : decode cX2_bestLane 63 = .ok (.getfield 63, 3) := by decide +kernel
theorem dX2_bestLane_66 : decode cX2_bestLane 66 = .ok (.invokevirtual 67, 3) := by decide +kernel
theorem dX2_bestLane_69 : decode cX2_bestLane 69 = .ok (.iadd, 1) := by decide +kernel
theorem dX2_bestLane_70 : decode cX2_bestLane 70 = .ok (.invokestatic 71, 3) := by decide +kernel
theorem dX2_bestLane_73 : decode cX2_bestLane 73 = .ok (.istore 5, 2) := by decide +kernel
theorem dX2_bestLane_75 : decode cX2_bestLane 75 = .ok (.aload_n 0, 1) := by decide +kernel
theorem dX2_bestLane_76 : decode cX2_bestLane 76 = .ok (.getfield 9, 3) := by decide +kernel
theorem dX2_bestLane_79 : decode cX2_bestLane 79 = .ok (.iload 4, 2) := by decide +kernel
theorem dX2_bestLane_81 : decode cX2_bestLane 81 = .ok (.iaload, 1) := by decide +kernel
theorem dX2_bestLane_82 : decode cX2_bestLane 82 = .ok (.aload_n 1, 1) := by decide +kernel
theorem dX2_bestLane_83 : decode cX2_bestLane 83 = .ok (.getfield 77, 3) := by decide +kernel
theorem dX2_bestLane_86 : decode cX2_bestLane 86 = .ok (.iadd, 1) := by decide +kernel
theorem dX2_bestLane_87 : decode cX2_bestLane 87 = .ok (.aload_n 0, 1) := by decide +kernel
theorem dX2_bestLane_88 : decode cX2_bestLane 88 = .ok (.getfield 23, 3) := by decide +kernel
theorem dX2_bestLane_91 : decode cX2_bestLane 91 = .ok (.if_icmp .gt 7, 3) := by decide +kernel
theorem dX2_bestLane_94 : decode cX2_bestLane 94 = .ok (.iconst 1, 1) := by decide +kernel
theorem dX2_bestLane_95 : decode cX2_bestLane 95 = .ok (.goto 4, 3) := by decide +kernel
theorem dX2_bestLane_98 : decode cX2_bestLane 98 = .ok (.iconst 0, 1) := by decide +kernel
theorem dX2_bestLane_99 : decode cX2_bestLane 99 = .ok (.istore 6, 2) := by decide +kernel
theorem dX2_bestLane_101 : decode cX2_bestLane 101 = .ok (.aload_n 1, 1) := by decide +kernel
theorem dX2_bestLane_102 : decode cX2_bestLane 102 = .ok (.getfield 64, 3) := by decide +kernel
theorem dX2_bestLane_105 : decode cX2_bestLane 105 = .ok (.ifCond .eq 12, 3) := by decide +kernel
theorem dX2_bestLane_108 : decode cX2_bestLane 108 = .ok (.aload_n 0, 1) := by decide +kernel
theorem dX2_bestLane_109 : decode cX2_bestLane 109 = .ok (.iload 4, 2) := by decide +kernel
theorem dX2_bestLane_111 : decode cX2_bestLane 111 = .ok (.invokevirtual 80, 3) := by decide +kernel
theorem dX2_bestLane_114 : decode cX2_bestLane 114 = .ok (.ifCond .ne 7, 3) := by decide +kernel
theorem dX2_bestLane_117 : decode cX2_bestLane 117 = .ok (.iconst 1, 1) := by decide +kernel
theorem dX2_bestLane_118 : decode cX2_bestLane 118 = .ok (.goto 4, 3) := by decide +kernel
theorem dX2_bestLane_121 : decode cX2_bestLane 121 = .ok (.iconst 0, 1) := by decide +kernel
theorem dX2_bestLane_122 : decode cX2_bestLane 122 = .ok (.istore 7, 2) := by decide +kernel
theorem dX2_bestLane_124 : decode cX2_bestLane 124 = .ok (.iload 6, 2) := by decide +kernel
theorem dX2_bestLane_126 : decode cX2_bestLane 126 = .ok (.ifCond .eq 25, 3) := by decide +kernel
theorem dX2_bestLane_129 : decode cX2_bestLane 129 = .ok (.iload 7, 2) := by decide +kernel
theorem dX2_bestLane_131 : decode cX2_bestLane 131 = .ok (.ifCond .eq 20, 3) := by decide +kernel
theorem dX2_bestLane_134 : decode cX2_bestLane 134 = .ok (.iload_n 2, 1) := by decide +kernel
theorem dX2_bestLane_135 : decode cX2_bestLane 135 = .ok (.iconst (-1), 1) := by decide +kernel
theorem dX2_bestLane_136 : decode cX2_bestLane 136 = .ok (.if_icmp .eq 9, 3) := by decide +kernel
theorem dX2_bestLane_139 : decode cX2_bestLane 139 = .ok (.iload 5, 2) := by decide +kernel
theorem dX2_bestLane_141 : decode cX2_bestLane 141 = .ok (.iload_n 3, 1) := by decide +kernel
theorem dX2_bestLane_142 : decode cX2_bestLane 142 = .ok (.if_icmp .ge 9, 3) := by decide +kernel
theorem dX2_bestLane_145 : decode cX2_bestLane 145 = .ok (.iload 4, 2) := by decide +kernel
theorem dX2_bestLane_147 : decode cX2_bestLane 147 = .ok (.istore_n 2, 1) := by decide +kernel
theorem dX2_bestLane_148 : decode cX2_bestLane 148 = .ok (.iload 5, 2) := by decide +kernel
theorem dX2_bestLane_150 : decode cX2_bestLane 150 = .ok (.istore_n 3, 1) := by decide +kernel
theorem dX2_bestLane_151 : decode cX2_bestLane 151 = .ok (.iinc 4 1, 3) := by decide +kernel
theorem dX2_bestLane_154 : decode cX2_bestLane 154 = .ok (.goto (-114), 3) := by decide +kernel
theorem dX2_bestLane_157 : decode cX2_bestLane 157 = .ok (.iload_n 2, 1) := by decide +kernel
theorem dX2_bestLane_158 : decode cX2_bestLane 158 = .ok (.ireturn, 1) := by decide +kernel
theorem dX2_isNearDangerous_0 : decode cX2_isNearDangerous 0 = .ok (.iload_n 1, 1) := by decide +kernel
theorem dX2_isNearDangerous_1 : decode cX2_isNearDangerous 1 = .ok (.iconst 1, 1) := by decide +kernel
theorem dX2_isNearDangerous_2 : decode cX2_isNearDangerous 2 = .ok (.isub, 1) := by decide +kernel
theorem dX2_isNearDangerous_3 : decode cX2_isNearDangerous 3 = .ok (.iconst 0, 1) := by decide +kernel
theorem dX2_isNearDangerous_4 : decode cX2_isNearDangerous 4 = .ok (.invokestatic 84, 3) := by decide +kernel
theorem dX2_isNearDangerous_7 : decode cX2_isNearDangerous 7 = .ok (.istore_n 2, 1) := by decide +kernel
theorem dX2_isNearDangerous_8 : decode cX2_isNearDangerous 8 = .ok (.iload_n 2, 1) := by decide +kernel
theorem dX2_isNearDangerous_9 : decode cX2_isNearDangerous 9 = .ok (.iload_n 1, 1) := by decide +kernel
theorem dX2_isNearDangerous_10 : decode cX2_isNearDangerous 10 = .ok (.iconst 1, 1) := by decide +kernel
theorem dX2_isNearDangerous_11 : decode cX2_isNearDangerous 11 = .ok (.iadd, 1) := by decide +kernel
theorem dX2_isNearDangerous_12 : decode cX2_isNearDangerous 12 = .ok (.if_icmp .gt 25, 3) := by decide +kernel
theorem dX2_isNearDangerous_15 : decode cX2_isNearDangerous 15 = .ok (.iload_n 2, 1) := by decide +kernel
theorem dX2_isNearDangerous_16 : decode cX2_isNearDangerous 16 = .ok (.iconst 4, 1) := by decide +kernel
theorem dX2_isNearDangerous_17 : decode cX2_isNearDangerous 17 = .ok (.if_icmp .ge 20, 3) := by decide +kernel
theorem dX2_isNearDangerous_20 : decode cX2_isNearDangerous 20 = .ok (.aload_n 0, 1) := by decide +kernel
theorem dX2_isNearDangerous_21 : decode cX2_isNearDangerous 21 = .ok (.getfield 15, 3) := by decide +kernel
theorem dX2_isNearDangerous_24 : decode cX2_isNearDangerous 24 = .ok (.iload_n 2, 1) := by decide +kernel
theorem dX2_isNearDangerous_25 : decode cX2_isNearDangerous 25 = .ok (.baload, 1) := by decide +kernel
theorem dX2_isNearDangerous_26 : decode cX2_isNearDangerous 26 = .ok (.ifCond .eq 5, 3) := by decide +kernel
theorem dX2_isNearDangerous_29 : decode cX2_isNearDangerous 29 = .ok (.iconst 1, 1) := by decide +kernel
theorem dX2_isNearDangerous_30 : decode cX2_isNearDangerous 30 = .ok (.ireturn, 1) := by decide +kernel
theorem dX2_isNearDangerous_31 : decode cX2_isNearDangerous 31 = .ok (.iinc 2 1, 3) := by decide +kernel
theorem dX2_isNearDangerous_34 : decode cX2_isNearDangerous 34 = .ok (.goto (-26), 3) := by decide +kernel
theorem dX2_isNearDangerous_37 : decode cX2_isNearDangerous 37 = .ok (.iconst 0, 1) := by decide +kernel
theorem dX2_isNearDangerous_38 : decode cX2_isNearDangerous 38 = .ok (.ireturn, 1) := by decide +kernel
theorem dX2_put_0 : decode cX2_put 0 = .ok (.iload_n 2, 1) := by decide +kernel
theorem dX2_put_1 : decode cX2_put 1 = .ok (.ifCond .lt 8, 3) := by decide +kernel
theorem dX2_put_4 : decode cX2_put 4 = .ok (.iload_n 2, 1) := by decide +kernel
theorem dX2_put_5 : decode cX2_put 5 = .ok (.iconst 4, 1) := by decide +kernel
theorem dX2_put_6 : decode cX2_put 6 = .ok (.if_icmp .lt 4, 3) := by decide +kernel
theorem dX2_put_9 : decode cX2_put 9 = .ok (.return_, 1) := by decide +kernel
theorem dX2_put_10 : decode cX2_put 10 = .ok (.aload_n 1, 1) := by decide +kernel
theorem dX2_put_11 : decode cX2_put 11 = .ok (.iconst 1, 1) := by decide +kernel
theorem dX2_put_12 : decode cX2_put 12 = .ok (.putfield 51, 3) := by decide +kernel
theorem dX2_put_15 : decode cX2_put 15 = .ok (.aload_n 1, 1) := by decide +kernel
theorem dX2_put_16 : decode cX2_put 16 = .ok (.iload_n 2, 1) := by decide +kernel
theorem dX2_put_17 : decode cX2_put 17 = .ok (.putfield 87, 3) := by decide +kernel
theorem dX2_put_20 : decode cX2_put 20 = .ok (.aload_n 1, 1) := by decide +kernel
theorem dX2_put_21 : decode cX2_put 21 = .ok (.aload_n 0, 1) := by decide +kernel
theorem dX2_put_22 : decode cX2_put 22 = .ok (.getfield 35, 3) := by decide +kernel
theorem dX2_put_25 : decode cX2_put 25 = .ok (.putfield 90, 3) := by decide +kernel
theorem dX2_put_28 : decode cX2_put 28 = .ok (.aload_n 0, 1) := by decide +kernel
theorem dX2_put_29 : decode cX2_put 29 = .ok (.dup, 1) := by decide +kernel
theorem dX2_put_30 : decode cX2_put 30 = .ok (.getfield 35, 3) := by decide +kernel
theorem dX2_put_33 : decode cX2_put 33 = .ok (.iconst 1, 1) := by decide +kernel
theorem dX2_put_34 : decode cX2_put 34 = .ok (.iadd, 1) := by decide +kernel
theorem dX2_put_35 : decode cX2_put 35 = .ok (.putfield 35, 3) := by decide +kernel
theorem dX2_put_38 : decode cX2_put 38 = .ok (.aload_n 0, 1) := by decide +kernel
theorem dX2_put_39 : decode cX2_put 39 = .ok (.getfield 9, 3) := by decide +kernel
theorem dX2_put_42 : decode cX2_put 42 = .ok (.iload_n 2, 1) := by decide +kernel
theorem dX2_put_43 : decode cX2_put 43 = .ok (.dup2, 1) := by decide +kernel
theorem dX2_put_44 : decode cX2_put 44 = .ok (.iaload, 1) := by decide +kernel
theorem dX2_put_45 : decode cX2_put 45 = .ok (.aload_n 1, 1) := by decide +kernel
theorem dX2_put_46 : decode cX2_put 46 = .ok (.getfield 77, 3) := by decide +kernel
theorem dX2_put_49 : decode cX2_put 49 = .ok (.iadd, 1) := by decide +kernel
theorem dX2_put_50 : decode cX2_put 50 = .ok (.iastore, 1) := by decide +kernel
theorem dX2_put_51 : decode cX2_put 51 = .ok (.aload_n 0, 1) := by decide +kernel
theorem dX2_put_52 : decode cX2_put 52 = .ok (.dup, 1) := by decide +kernel
theorem dX2_put_53 : decode cX2_put 53 = .ok (.getfield 29, 3) := by decide +kernel
theorem dX2_put_56 : decode cX2_put 56 = .ok (.aload_n 1, 1) := by decide +kernel
theorem dX2_put_57 : decode cX2_put 57 = .ok (.getfield 63, 3) := by decide +kernel
theorem dX2_put_60 : decode cX2_put 60 = .ok (.iadd, 1) := by decide +kernel
theorem dX2_put_61 : decode cX2_put 61 = .ok (.putfield 29, 3) := by decide +kernel
theorem dX2_put_64 : decode cX2_put 64 = .ok (.aload_n 0, 1) := by decide +kernel
theorem dX2_put_65 : decode cX2_put 65 = .ok (.dup, 1) := by decide +kernel
theorem dX2_put_66 : decode cX2_put 66 = .ok (.getfield 38, 3) := by decide +kernel
theorem dX2_put_69 : decode cX2_put 69 = .ok (.aload_n 0, 1) := by decide +kernel
theorem dX2_put_70 : decode cX2_put 70 = .ok (.iload_n 2, 1) := by decide +kernel
theorem dX2_put_71 : decode cX2_put 71 = .ok (.aload_n 1, 1) := by decide +kernel
theorem dX2_put_72 : decode cX2_put 72 = .ok (.getfield 63, 3) := by decide +kernel
theorem dX2_put_75 : decode cX2_put 75 = .ok (.invokevirtual 67, 3) := by decide +kernel
theorem dX2_put_78 : decode cX2_put 78 = .ok (.iadd, 1) := by decide +kernel
theorem dX2_put_79 : decode cX2_put 79 = .ok (.putfield 38, 3) := by decide +kernel
theorem dX2_put_82 : decode cX2_put 82 = .ok (.aload_n 1, 1) := by decide +kernel
theorem dX2_put_83 : decode cX2_put 83 = .ok (.getfield 64, 3) := by decide +kernel
theorem dX2_put_86 : decode cX2_put 86 = .ok (.ifCond .eq 20, 3) := by decide +kernel
theorem dX2_put_89 : decode cX2_put 89 = .ok (.aload_n 0, 1) := by decide +kernel
theorem dX2_put_90 : decode cX2_put 90 = .ok (.getfield 15, 3) := by decide +kernel
theorem dX2_put_93 : decode cX2_put 93 = .ok (.iload_n 2, 1) := by decide +kernel
theorem dX2_put_94 : decode cX2_put 94 = .ok (.iconst 1, 1) := by decide +kernel
theorem dX2_put_95 : decode cX2_put 95 = .ok (.bastore, 1) := by decide +kernel
theorem dX2_put_96 : decode cX2_put 96 = .ok (.aload_n 0, 1) := by decide +kernel
theorem dX2_put_97 : decode cX2_put 97 = .ok (.dup, 1) := by decide +kernel
theorem dX2_put_98 : decode cX2_put 98 = .ok (.getfield 32, 3) := by decide +kernel
theorem dX2_put_101 : decode cX2_put 101 = .ok (.iconst 1, 1) := by decide +kernel
theorem dX2_put_102 : decode cX2_put 102 = .ok (.iadd, 1) := by decide +kernel
theorem dX2_put_103 : decode cX2_put 103 = .ok (.putfield 32, 3) := by decide +kernel
theorem dX2_put_106 : decode cX2_put 106 = .ok (.return_, 1) := by decide +kernel
theorem dX2_putOff_0 : decode cX2_putOff 0 = .ok (.aload_n 0, 1) := by decide +kernel
theorem dX2_putOff_1 : decode cX2_putOff 1 = .ok (.dup, 1) := by decide +kernel
theorem dX2_putOff_2 : decode cX2_putOff 2 = .ok (.getfield 38, 3) := by decide +kernel
theorem dX2_putOff_5 : decode cX2_putOff 5 = .ok (.aload_n 0, 1) := by decide +kernel
theorem dX2_putOff_6 : decode cX2_putOff 6 = .ok (.aload_n 1, 1) := by decide +kernel
theorem dX2_putOff_7 : decode cX2_putOff 7 = .ok (.getfield 87, 3) := by decide +kernel
theorem dX2_putOff_10 : decode cX2_putOff 10 = .ok (.aload_n 1, 1) := by decide +kernel
theorem dX2_putOff_11 : decode cX2_putOff 11 = .ok (.getfield 63, 3) := by decide +kernel
theorem dX2_putOff_14 : decode cX2_putOff 14 = .ok (.invokevirtual 67, 3) := by decide +kernel
theorem dX2_putOff_17 : decode cX2_putOff 17 = .ok (.isub, 1) := by decide +kernel
theorem dX2_putOff_18 : decode cX2_putOff 18 = .ok (.putfield 38, 3) := by decide +kernel
theorem dX2_putOff_21 : decode cX2_putOff 21 = .ok (.aload_n 1, 1) := by decide +kernel
theorem dX2_putOff_22 : decode cX2_putOff 22 = .ok (.iconst 0, 1) := by decide +kernel
theorem dX2_putOff_23 : decode cX2_putOff 23 = .ok (.putfield 51, 3) := by decide +kernel
theorem dX2_putOff_26 : decode cX2_putOff 26 = .ok (.aload_n 1, 1) := by decide +kernel
theorem dX2_putOff_27 : decode cX2_putOff 27 = .ok (.iconst (-1), 1) := by decide +kernel
theorem dX2_putOff_28 : decode cX2_putOff 28 = .ok (.putfield 87, 3) := by decide +kernel
theorem dX2_putOff_31 : decode cX2_putOff 31 = .ok (.return_, 1) := by decide +kernel
theorem dX2_isOnHeavierSide_0 : decode cX2_isOnHeavierSide 0 = .ok (.aload_n 1, 1) := by decide +kernel
theorem dX2_isOnHeavierSide_1 : decode cX2_isOnHeavierSide 1 = .ok (.getfield 87, 3) := by decide +kernel
theorem dX2_isOnHeavierSide_4 : decode cX2_isOnHeavierSide 4 = .ok (.iconst (-1), 1) := by decide +kernel
theorem dX2_isOnHeavierSide_5 : decode cX2_isOnHeavierSide 5 = .ok (.if_icmp .ne 7, 3) := by decide +kernel
theorem dX2_isOnHeavierSide_8 : decode cX2_isOnHeavierSide 8 = .ok (.iconst 0, 1) := by decide +kernel
theorem dX2_isOnHeavierSide_9 : decode cX2_isOnHeavierSide 9 = .ok (.goto 15, 3) := by decide +kernel
theorem dX2_isOnHeavierSide_12 : decode cX2_isOnHeavierSide 12 = .ok (.aload_n 0, 1) := by decide +kernel
theorem dX2_isOnHeavierSide_13 : decode cX2_isOnHeavierSide 13 = .ok (.aload_n 1, 1) := by decide +kernel
theorem dX2_isOnHeavierSide_14 : decode cX2_isOnHeavierSide 14 = .ok (.getfield 87, 3) := by decide +kernel
theorem dX2_isOnHeavierSide_17 : decode cX2_isOnHeavierSide 17 = .ok (.aload_n 1, 1) := by decide +kernel
theorem dX2_isOnHeavierSide_18 : decode cX2_isOnHeavierSide 18 = .ok (.getfield 63, 3) := by decide +kernel
theorem dX2_isOnHeavierSide_21 : decode cX2_isOnHeavierSide 21 = .ok (.invokevirtual 67, 3) := by decide +kernel
theorem dX2_isOnHeavierSide_24 : decode cX2_isOnHeavierSide 24 = .ok (.istore_n 2, 1) := by decide +kernel
theorem dX2_isOnHeavierSide_25 : decode cX2_isOnHeavierSide 25 = .ok (.iload_n 2, 1) := by decide +kernel
theorem dX2_isOnHeavierSide_26 : decode cX2_isOnHeavierSide 26 = .ok (.ifCond .le 10, 3) := by decide +kernel
theorem dX2_isOnHeavierSide_29 : decode cX2_isOnHeavierSide 29 = .ok (.aload_n 0, 1) := by decide +kernel
theorem dX2_isOnHeavierSide_30 : decode cX2_isOnHeavierSide 30 = .ok (.getfield 38, 3) := by decide +kernel
theorem dX2_isOnHeavierSide_33 : decode cX2_isOnHeavierSide 33 = .ok (.ifCond .gt 14, 3) := by decide +kernel
theorem dX2_isOnHeavierSide_36 : decode cX2_isOnHeavierSide 36 = .ok (.iload_n 2, 1) := by decide +kernel
theorem dX2_isOnHeavierSide_37 : decode cX2_isOnHeavierSide 37 = .ok (.ifCond .ge 14, 3) := by decide +kernel
theorem dX2_isOnHeavierSide_40 : decode cX2_isOnHeavierSide 40 = .ok (.aload_n 0, 1) := by decide +kernel
theorem dX2_isOnHeavierSide_41 : decode cX2_isOnHeavierSide 41 = .ok (.getfield 38, 3) := by decide +kernel
theorem dX2_isOnHeavierSide_44 : decode cX2_isOnHeavierSide 44 = .ok (.ifCond .ge 7, 3) := by decide +kernel
theorem dX2_isOnHeavierSide_47 : decode cX2_isOnHeavierSide 47 = .ok (.iconst 1, 1) := by decide +kernel
theorem dX2_isOnHeavierSide_48 : decode cX2_isOnHeavierSide 48 = .ok (.goto 4, 3) := by decide +kernel
theorem dX2_isOnHeavierSide_51 : decode cX2_isOnHeavierSide 51 = .ok (.iconst 0, 1) := by decide +kernel
theorem dX2_isOnHeavierSide_52 : decode cX2_isOnHeavierSide 52 = .ok (.ireturn, 1) := by decide +kernel
theorem dX2_leanOf_0 : decode cX2_leanOf 0 = .ok (.iconst 2, 1) := by decide +kernel
theorem dX2_leanOf_1 : decode cX2_leanOf 1 = .ok (.iload_n 1, 1) := by decide +kernel
theorem dX2_leanOf_2 : decode cX2_leanOf 2 = .ok (.imul, 1) := by decide +kernel
theorem dX2_leanOf_3 : decode cX2_leanOf 3 = .ok (.aload_n 0, 1) := by decide +kernel
theorem dX2_leanOf_4 : decode cX2_leanOf 4 = .ok (.getfield 19, 3) := by decide +kernel
theorem dX2_leanOf_7 : decode cX2_leanOf 7 = .ok (.iconst 1, 1) := by decide +kernel
theorem dX2_leanOf_8 : decode cX2_leanOf 8 = .ok (.isub, 1) := by decide +kernel
theorem dX2_leanOf_9 : decode cX2_leanOf 9 = .ok (.if_icmp .ge 5, 3) := by decide +kernel
theorem dX2_leanOf_12 : decode cX2_leanOf 12 = .ok (.iload_n 2, 1) := by decide +kernel
theorem dX2_leanOf_13 : decode cX2_leanOf 13 = .ok (.ireturn, 1) := by decide +kernel
theorem dX2_leanOf_14 : decode cX2_leanOf 14 = .ok (.iconst 2, 1) := by decide +kernel
theorem dX2_leanOf_15 : decode cX2_leanOf 15 = .ok (.iload_n 1, 1) := by decide +kernel
theorem dX2_leanOf_16 : decode cX2_leanOf 16 = .ok (.imul, 1) := by decide +kernel
theorem dX2_leanOf_17 : decode cX2_leanOf 17 = .ok (.aload_n 0, 1) := by decide +kernel
theorem dX2_leanOf_18 : decode cX2_leanOf 18 = .ok (.getfield 19, 3) := by decide +kernel
theorem dX2_leanOf_21 : decode cX2_leanOf 21 = .ok (.iconst 1, 1) := by decide +kernel
theorem dX2_leanOf_22 : decode cX2_leanOf 22 = .ok (.isub, 1) := by decide +kernel
theorem dX2_leanOf_23 : decode cX2_leanOf 23 = .ok (.if_icmp .le 8, 3) := by decide +kernel
theorem dX2_leanOf_26 : decode cX2_leanOf 26 = .ok (.iload_n 2, 1) := by decide +kernel
theorem dX2_leanOf_27 : decode cX2_leanOf 27 = .ok (.ineg, 1) := by decide +kernel
theorem dX2_leanOf_28 : decode cX2_leanOf 28 = .ok (.goto 4, 3) := by decide +kernel
theorem dX2_leanOf_31 : decode cX2_leanOf 31 = .ok (.iconst 0, 1) := by decide +kernel
theorem dX2_leanOf_32 : decode cX2_leanOf 32 = .ok (.ireturn, 1) := by decide +kernel
theorem dX3_init_0 : decode cX3_init 0 = .ok (.aload_n 0, 1) := by decide +kernel
theorem dX3_init_1 : decode cX3_init 1 = .ok (.invokespecial 3, 3) := by decide +kernel
theorem dX3_init_4 : decode cX3_init 4 = .ok (.aload_n 0, 1) := by decide +kernel
theorem dX3_init_5 : decode cX3_init 5 = .ok (.iconst (-1), 1) := by decide +kernel
theorem dX3_init_6 : decode cX3_init 6 = .ok (.putfield 9, 3) := by decide +kernel
theorem dX3_init_9 : decode cX3_init 9 = .ok (.aload_n 0, 1) := by decide +kernel
theorem dX3_init_10 : decode cX3_init 10 = .ok (.iconst 0, 1) := by decide +kernel
theorem dX3_init_11 : decode cX3_init 11 = .ok (.putfield 15, 3) := by decide +kernel
theorem dX3_init_14 : decode cX3_init 14 = .ok (.aload_n 0, 1) := by decide +kernel
theorem dX3_init_15 : decode cX3_init 15 = .ok (.iconst 0, 1) := by decide +kernel
theorem dX3_init_16 : decode cX3_init 16 = .ok (.putfield 18, 3) := by decide +kernel
theorem dX3_init_19 : decode cX3_init 19 = .ok (.aload_n 0, 1) := by decide +kernel
theorem dX3_init_20 : decode cX3_init 20 = .ok (.iconst 0, 1) := by decide +kernel
theorem dX3_init_21 : decode cX3_init 21 = .ok (.putfield 21, 3) := by decide +kernel
theorem dX3_init_24 : decode cX3_init 24 = .ok (.aload_n 0, 1) := by decide +kernel
theorem dX3_init_25 : decode cX3_init 25 = .ok (.iconst 0, 1) := by decide +kernel
theorem dX3_init_26 : decode cX3_init 26 = .ok (.putfield 24, 3) := by decide +kernel
theorem dX3_init_29 : decode cX3_init 29 = .ok (.aload_n 0, 1) := by decide +kernel
theorem dX3_init_30 : decode cX3_init 30 = .ok (.iconst 0, 1) := by decide +kernel
theorem dX3_init_31 : decode cX3_init 31 = .ok (.putfield 27, 3) := by decide +kernel
theorem dX3_init_34 : decode cX3_init 34 = .ok (.aload_n 0, 1) := by decide +kernel
theorem dX3_init_35 : decode cX3_init 35 = .ok (.iconst 0, 1) := by decide +kernel
theorem dX3_init_36 : decode cX3_init 36 = .ok (.putfield 30, 3) := by decide +kernel
theorem dX3_init_39 : decode cX3_init 39 = .ok (.aload_n 0, 1) := by decide +kernel
theorem dX3_init_40 : decode cX3_init 40 = .ok (.iconst 0, 1) := by decide +kernel
theorem dX3_init_41 : decode cX3_init 41 = .ok (.putfield 33, 3) := by decide +kernel
theorem dX3_init_44 : decode cX3_init 44 = .ok (.aload_n 0, 1) := by decide +kernel
theorem dX3_init_45 : decode cX3_init 45 = .ok (.iconst (-1), 1) := by decide +kernel
theorem dX3_init_46 : decode cX3_init 46 = .ok (.putfield 36, 3) := by decide +kernel
theorem dX3_init_49 : decode cX3_init 49 = .ok (.aload_n 0, 1) := by decide +kernel
theorem dX3_init_50 : decode cX3_init 50 = .ok (.iconst 0, 1) := by decide +kernel
theorem dX3_init_51 : decode cX3_init 51 = .ok (.putfield 39, 3) := by decide +kernel
theorem dX3_init_54 : decode cX3_init 54 = .ok (.aload_n 0, 1) := by decide +kernel
theorem dX3_init_55 : decode cX3_init 55 = .ok (.iconst 0, 1) := by decide +kernel
theorem dX3_init_56 : decode cX3_init 56 = .ok (.putfield 42, 3) := by decide +kernel
theorem dX3_init_59 : decode cX3_init 59 = .ok (.return_, 1) := by decide +kernel
theorem dX4_init_0 : decode cX4_init 0 = .ok (.aload_n 0, 1) := by decide +kernel
theorem dX4_init_1 : decode cX4_init 1 = .ok (.invokespecial 1, 3) := by decide +kernel
theorem dX4_init_4 : decode cX4_init 4 = .ok (.aload_n 0, 1) := by decide +kernel
theorem dX4_init_5 : decode cX4_init 5 = .ok (.iconst 0, 1) := by decide +kernel
theorem dX4_init_6 : decode cX4_init 6 = .ok (.putfield 7, 3) := by decide +kernel
theorem dX4_init_9 : decode cX4_init 9 = .ok (.aload_n 0, 1) := by decide +kernel
theorem dX4_init_10 : decode cX4_init 10 = .ok (.iconst 0, 1) := by decide +kernel
theorem dX4_init_11 : decode cX4_init 11 = .ok (.putfield 13, 3) := by decide +kernel
theorem dX4_init_14 : decode cX4_init 14 = .ok (.aload_n 0, 1) := by decide +kernel
theorem dX4_init_15 : decode cX4_init 15 = .ok (.iconst 0, 1) := by decide +kernel
theorem dX4_init_16 : decode cX4_init 16 = .ok (.putfield 16, 3) := by decide +kernel
theorem dX4_init_19 : decode cX4_init 19 = .ok (.aload_n 0, 1) := by decide +kernel
theorem dX4_init_20 : decode cX4_init 20 = .ok (.iconst 0, 1) := by decide +kernel
theorem dX4_init_21 : decode cX4_init 21 = .ok (.putfield 19, 3) := by decide +kernel
theorem dX4_init_24 : decode cX4_init 24 = .ok (.aload_n 0, 1) := by decide +kernel
theorem dX4_init_25 : decode cX4_init 25 = .ok (.iconst 0, 1) := by decide +kernel
theorem dX4_init_26 : decode cX4_init 26 = .ok (.putfield 22, 3) := by decide +kernel
theorem dX4_init_29 : decode cX4_init 29 = .ok (.aload_n 0, 1) := by decide +kernel
theorem dX4_init_30 : decode cX4_init 30 = .ok (.iconst 0, 1) := by decide +kernel
theorem dX4_init_31 : decode cX4_init 31 = .ok (.putfield 25, 3) := by decide +kernel
theorem dX4_init_34 : decode cX4_init 34 = .ok (.aload_n 0, 1) := by decide +kernel
theorem dX4_init_35 : decode cX4_init 35 = .ok (.iconst 0, 1) := by decide +kernel
theorem dX4_init_36 : decode cX4_init 36 = .ok (.putfield 28, 3) := by decide +kernel
theorem dX4_init_39 : decode cX4_init 39 = .ok (.aload_n 0, 1) := by decide +kernel
theorem dX4_init_40 : decode cX4_init 40 = .ok (.new 31, 3) := by decide +kernel
theorem dX4_init_43 : decode cX4_init 43 = .ok (.dup, 1) := by decide +kernel
theorem dX4_init_44 : decode cX4_init 44 = .ok (.invokespecial 33, 3) := by decide +kernel
theorem dX4_init_47 : decode cX4_init 47 = .ok (.putfield 34, 3) := by decide +kernel
theorem dX4_init_50 : decode cX4_init 50 = .ok (.return_, 1) := by decide +kernel
theorem dX4_hoursFor_0 : decode cX4_hoursFor 0 = .ok (.aload_n 0, 1) := by decide +kernel
theorem dX4_hoursFor_1 : decode cX4_hoursFor 1 = .ok (.getfield 25, 3) := by decide +kernel
theorem dX4_hoursFor_4 : decode cX4_hoursFor 4 = .ok (.iconst 1, 1) := by decide +kernel
theorem dX4_hoursFor_5 : decode cX4_hoursFor 5 = .ok (.if_icmp .ge 7, 3) := by decide +kernel
theorem dX4_hoursFor_8 : decode cX4_hoursFor 8 = .ok (.iconst 0, 1) := by decide +kernel
theorem dX4_hoursFor_9 : decode cX4_hoursFor 9 = .ok (.goto 16, 3) := by decide +kernel
theorem dX4_hoursFor_12 : decode cX4_hoursFor 12 = .ok (.iload_n 1, 1) := by decide +kernel
theorem dX4_hoursFor_13 : decode cX4_hoursFor 13 = .ok (.aload_n 0, 1) := by decide +kernel
theorem dX4_hoursFor_14 : decode cX4_hoursFor 14 = .ok (.getfield 25, 3) := by decide +kernel
theorem dX4_hoursFor_17 : decode cX4_hoursFor 17 = .ok (.iadd, 1) := by decide +kernel
theorem dX4_hoursFor_18 : decode cX4_hoursFor 18 = .ok (.iconst 1, 1) := by decide +kernel
theorem dX4_hoursFor_19 : decode cX4_hoursFor 19 = .ok (.isub, 1) := by decide +kernel
theorem dX4_hoursFor_20 : decode cX4_hoursFor 20 = .ok (.aload_n 0, 1) := by decide +kernel
theorem dX4_hoursFor_21 : decode cX4_hoursFor 21 = .ok (.getfield 25, 3) := by decide +kernel
theorem dX4_hoursFor_24 : decode cX4_hoursFor 24 = .ok (.idiv, 1) := by decide +kernel
theorem dX4_hoursFor_25 : decode cX4_hoursFor 25 = .ok (.ireturn, 1) := by decide +kernel
theorem dX4_burns_0 : decode cX4_burns 0 = .ok (.iload_n 1, 1) := by decide +kernel
theorem dX4_burns_1 : decode cX4_burns 1 = .ok (.i2f, 1) := by decide +kernel
theorem dX4_burns_2 : decode cX4_burns 2 = .ok (.aload_n 0, 1) := by decide +kernel
theorem dX4_burns_3 : decode cX4_burns 3 = .ok (.getfield 25, 3) := by decide +kernel
theorem dX4_burns_6 : decode cX4_burns 6 = .ok (.i2f, 1) := by decide +kernel
theorem dX4_burns_7 : decode cX4_burns 7 = .ok (.fmul, 1) := by decide +kernel
theorem dX4_burns_8 : decode cX4_burns 8 = .ok (.aload_n 0, 1) := by decide +kernel
theorem dX4_burns_9 : decode cX4_burns 9 = .ok (.getfield 25, 3) := by decide +kernel
theorem dX4_burns_12 : decode cX4_burns 12 = .ok (.i2f, 1) := by decide +kernel
theorem dX4_burns_13 : decode cX4_burns 13 = .ok (.fmul, 1) := by decide +kernel
theorem dX4_burns_14 : decode cX4_burns 14 = .ok (.ldc 38, 2) := by decide +kernel
theorem dX4_burns_16 : decode cX4_burns 16 = .ok (.fdiv, 1) := by decide +kernel
theorem dX4_burns_17 : decode cX4_burns 17 = .ok (.f2i, 1) := by decide +kernel
theorem dX4_burns_18 : decode cX4_burns 18 = .ok (.ireturn, 1) := by decide +kernel
theorem dX5_init_0 : decode cX5_init 0 = .ok (.aload_n 0, 1) := by decide +kernel
theorem dX5_init_1 : decode cX5_init 1 = .ok (.invokespecial 3, 3) := by decide +kernel
theorem dX5_init_4 : decode cX5_init 4 = .ok (.aload_n 0, 1) := by decide +kernel
theorem dX5_init_5 : decode cX5_init 5 = .ok (.iconst 0, 1) := by decide +kernel
theorem dX5_init_6 : decode cX5_init 6 = .ok (.putfield 9, 3) := by decide +kernel
theorem dX5_init_9 : decode cX5_init 9 = .ok (.aload_n 0, 1) := by decide +kernel
theorem dX5_init_10 : decode cX5_init 10 = .ok (.iconst (-1), 1) := by decide +kernel
theorem dX5_init_11 : decode cX5_init 11 = .ok (.putfield 15, 3) := by decide +kernel
theorem dX5_init_14 : decode cX5_init 14 = .ok (.return_, 1) := by decide +kernel
theorem dX5_tell_0 : decode cX5_tell 0 = .ok (.aload_n 0, 1) := by decide +kernel
theorem dX5_tell_1 : decode cX5_tell 1 = .ok (.iload_n 1, 1) := by decide +kernel
theorem dX5_tell_2 : decode cX5_tell 2 = .ok (.putfield 9, 3) := by decide +kernel
theorem dX5_tell_5 : decode cX5_tell 5 = .ok (.aload_n 0, 1) := by decide +kernel
theorem dX5_tell_6 : decode cX5_tell 6 = .ok (.iload_n 2, 1) := by decide +kernel
theorem dX5_tell_7 : decode cX5_tell 7 = .ok (.putfield 15, 3) := by decide +kernel
theorem dX5_tell_10 : decode cX5_tell 10 = .ok (.return_, 1) := by decide +kernel
theorem dX5_has_0 : decode cX5_has 0 = .ok (.aload_n 0, 1) := by decide +kernel
theorem dX5_has_1 : decode cX5_has 1 = .ok (.getfield 9, 3) := by decide +kernel
theorem dX5_has_4 : decode cX5_has 4 = .ok (.iload_n 1, 1) := by decide +kernel
theorem dX5_has_5 : decode cX5_has 5 = .ok (.if_icmp .gt 15, 3) := by decide +kernel
theorem dX5_has_8 : decode cX5_has 8 = .ok (.iload_n 1, 1) := by decide +kernel
theorem dX5_has_9 : decode cX5_has 9 = .ok (.aload_n 0, 1) := by decide +kernel
theorem dX5_has_10 : decode cX5_has 10 = .ok (.getfield 15, 3) := by decide +kernel
theorem dX5_has_13 : decode cX5_has 13 = .ok (.if_icmp .gt 7, 3) := by decide +kernel
theorem dX5_has_16 : decode cX5_has 16 = .ok (.iconst 1, 1) := by decide +kernel
theorem dX5_has_17 : decode cX5_has 17 = .ok (.goto 4, 3) := by decide +kernel
theorem dX5_has_20 : decode cX5_has 20 = .ok (.iconst 0, 1) := by decide +kernel
theorem dX5_has_21 : decode cX5_has 21 = .ok (.ireturn, 1) := by decide +kernel
theorem dX6_init_0 : decode cX6_init 0 = .ok (.aload_n 0, 1) := by decide +kernel
theorem dX6_init_1 : decode cX6_init 1 = .ok (.invokespecial 1, 3) := by decide +kernel
theorem dX6_init_4 : decode cX6_init 4 = .ok (.aload_n 0, 1) := by decide +kernel
theorem dX6_init_5 : decode cX6_init 5 = .ok (.iconst 4, 1) := by decide +kernel
theorem dX6_init_6 : decode cX6_init 6 = .ok (.anewarray 9, 3) := by decide +kernel
theorem dX6_init_9 : decode cX6_init 9 = .ok (.putfield 11, 3) := by decide +kernel
theorem dX6_init_12 : decode cX6_init 12 = .ok (.aload_n 0, 1) := by decide +kernel
theorem dX6_init_13 : decode cX6_init 13 = .ok (.bipush 6, 2) := by decide +kernel
theorem dX6_init_15 : decode cX6_init 15 = .ok (.anewarray 15, 3) := by decide +kernel
theorem dX6_init_18 : decode cX6_init 18 = .ok (.putfield 17, 3) := by decide +kernel
theorem dX6_init_21 : decode cX6_init 21 = .ok (.aload_n 0, 1) := by decide +kernel
theorem dX6_init_22 : decode cX6_init 22 = .ok (.bipush 24, 2) := by decide +kernel
theorem dX6_init_24 : decode cX6_init 24 = .ok (.anewarray 21, 3) := by decide +kernel
theorem dX6_init_27 : decode cX6_init 27 = .ok (.putfield 23, 3) := by decide +kernel
theorem dX6_init_30 : decode cX6_init 30 = .ok (.aload_n 0, 1) := by decide +kernel
theorem dX6_init_31 : decode cX6_init 31 = .ok (.bipush 40, 2) := by decide +kernel
theorem dX6_init_33 : decode cX6_init 33 = .ok (.anewarray 27, 3) := by decide +kernel
theorem dX6_init_36 : decode cX6_init 36 = .ok (.putfield 29, 3) := by decide +kernel
theorem dX6_init_39 : decode cX6_init 39 = .ok (.aload_n 0, 1) := by decide +kernel
theorem dX6_init_40 : decode cX6_init 40 = .ok (.bipush 10, 2) := by decide +kernel
theorem dX6_init_42 : decode cX6_init 42 = .ok (.newarray .int, 2) := by decide +kernel
theorem dX6_init_44 : decode cX6_init 44 = .ok (.putfield 33, 3) := by decide +kernel
theorem dX6_init_47 : decode cX6_init 47 = .ok (.aload_n 0, 1) := by decide +kernel
theorem dX6_init_48 : decode cX6_init 48 = .ok (.bipush 6, 2) := by decide +kernel
theorem dX6_init_50 : decode cX6_init 50 = .ok (.newarray .int, 2) := by decide +kernel
theorem dX6_init_52 : decode cX6_init 52 = .ok (.putfield 37, 3) := by decide +kernel
theorem dX6_init_55 : decode cX6_init 55 = .ok (.aload_n 0, 1) := by decide +kernel
theorem dX6_init_56 : decode cX6_init 56 = .ok (.bipush 6, 2) := by decide +kernel
theorem dX6_init_58 : decode cX6_init 58 = .ok (.newarray .int, 2) := by decide +kernel
theorem dX6_init_60 : decode cX6_init 60 = .ok (.putfield 40, 3) := by decide +kernel
theorem dX6_init_63 : decode cX6_init 63 = .ok (.aload_n 0, 1) := by decide +kernel
theorem dX6_init_64 : decode cX6_init 64 = .ok (.iconst 3, 1) := by decide +kernel
theorem dX6_init_65 : decode cX6_init 65 = .ok (.newarray .long, 2) := by decide +kernel
theorem dX6_init_67 : decode cX6_init 67 = .ok (.putfield 43, 3) := by decide +kernel
theorem dX6_init_70 : decode cX6_init 70 = .ok (.aload_n 0, 1) := by decide +kernel
theorem dX6_init_71 : decode cX6_init 71 = .ok (.new 47, 3) := by decide +kernel
theorem dX6_init_74 : decode cX6_init 74 = .ok (.dup, 1) := by decide +kernel
theorem dX6_init_75 : decode cX6_init 75 = .ok (.invokespecial 49, 3) := by decide +kernel
theorem dX6_init_78 : decode cX6_init 78 = .ok (.putfield 50, 3) := by decide +kernel
theorem dX6_init_81 : decode cX6_init 81 = .ok (.aload_n 0, 1) := by decide +kernel
theorem dX6_init_82 : decode cX6_init 82 = .ok (.new 47, 3) := by decide +kernel
theorem dX6_init_85 : decode cX6_init 85 = .ok (.dup, 1) := by decide +kernel
theorem dX6_init_86 : decode cX6_init 86 = .ok (.invokespecial 49, 3) := by decide +kernel
theorem dX6_init_89 : decode cX6_init 89 = .ok (.putfield 54, 3) := by decide +kernel
theorem dX6_init_92 : decode cX6_init 92 = .ok (.aload_n 0, 1) := by decide +kernel
theorem dX6_init_93 : decode cX6_init 93 = .ok (.new 57, 3) := by decide +kernel
theorem dX6_init_96 : decode cX6_init 96 = .ok (.dup, 1) := by decide +kernel
theorem dX6_init_97 : decode cX6_init 97 = .ok (.invokespecial 59, 3) := by decide +kernel
theorem dX6_init_100 : decode cX6_init 100 = .ok (.putfield 60, 3) := by decide +kernel
theorem dX6_init_103 : decode cX6_init 103 = .ok (.aload_n 0, 1) := by decide +kernel
theorem dX6_init_104 : decode cX6_init 104 = .ok (.iconst 0, 1) := by decide +kernel
theorem dX6_init_105 : decode cX6_init 105 = .ok (.putfield 64, 3) := by decide +kernel
theorem dX6_init_108 : decode cX6_init 108 = .ok (.aload_n 0, 1) := by decide +kernel
theorem dX6_init_109 : decode cX6_init 109 = .ok (.iconst 0, 1) := by decide +kernel
theorem dX6_init_110 : decode cX6_init 110 = .ok (.putfield 68, 3) := by decide +kernel
theorem dX6_init_113 : decode cX6_init 113 = .ok (.aload_n 0, 1) := by decide +kernel
theorem dX6_init_114 : decode cX6_init 114 = .ok (.iconst 0, 1) := by decide +kernel
theorem dX6_init_115 : decode cX6_init 115 = .ok (.putfield 71, 3) := by decide +kernel
theorem dX6_init_118 : decode cX6_init 118 = .ok (.aload_n 0, 1) := by decide +kernel
theorem dX6_init_119 : decode cX6_init 119 = .ok (.iconst 0, 1) := by decide +kernel
theorem dX6_init_120 : decode cX6_init 120 = .ok (.putfield 74, 3) := by decide +kernel
theorem dX6_init_123 : decode cX6_init 123 = .ok (.aload_n 0, 1) := by decide +kernel
theorem dX6_init_124 : decode cX6_init 124 = .ok (.iconst 0, 1) := by decide +kernel
theorem dX6_init_125 : decode cX6_init 125 = .ok (.putfield 77, 3) := by decide +kernel
theorem dX6_init_128 : decode cX6_init 128 = .ok (.iconst 0, 1) := by decide +kernel
theorem dX6_init_129 : decode cX6_init 129 = .ok (.istore_n 1, 1) := by decide +kernel
theorem dX6_init_130 : decode cX6_init 130 = .ok (.iload_n 1, 1) := by decide +kernel
theorem dX6_init_131 : decode cX6_init 131 = .ok (.iconst 4, 1) := by decide +kernel
theorem dX6_init_132 : decode cX6_init 132 = .ok (.if_icmp .ge 22, 3) := by decide +kernel
theorem dX6_init_135 : decode cX6_init 135 = .ok (.aload_n 0, 1) := by decide +kernel
theorem dX6_init_136 : decode cX6_init 136 = .ok (.getfield 11, 3) := by decide +kernel
theorem dX6_init_139 : decode cX6_init 139 = .ok (.iload_n 1, 1) := by decide +kernel
theorem dX6_init_140 : decode cX6_init 140 = .ok (.new 9, 3) := by decide +kernel
theorem dX6_init_143 : decode cX6_init 143 = .ok (.dup, 1) := by decide +kernel
theorem dX6_init_144 : decode cX6_init 144 = .ok (.invokespecial 80, 3) := by decide +kernel
theorem dX6_init_147 : decode cX6_init 147 = .ok (.aastore, 1) := by decide +kernel
theorem dX6_init_148 : decode cX6_init 148 = .ok (.iinc 1 1, 3) := by decide +kernel
theorem dX6_init_151 : decode cX6_init 151 = .ok (.goto (-21), 3) := by decide +kernel
theorem dX6_init_154 : decode cX6_init 154 = .ok (.iconst 0, 1) := by decide +kernel
theorem dX6_init_155 : decode cX6_init 155 = .ok (.istore_n 1, 1) := by decide +kernel
theorem dX6_init_156 : decode cX6_init 156 = .ok (.iload_n 1, 1) := by decide +kernel
theorem dX6_init_157 : decode cX6_init 157 = .ok (.bipush 6, 2) := by decide +kernel
theorem dX6_init_159 : decode cX6_init 159 = .ok (.if_icmp .ge 22, 3) := by decide +kernel
theorem dX6_init_162 : decode cX6_init 162 = .ok (.aload_n 0, 1) := by decide +kernel
theorem dX6_init_163 : decode cX6_init 163 = .ok (.getfield 17, 3) := by decide +kernel
theorem dX6_init_166 : decode cX6_init 166 = .ok (.iload_n 1, 1) := by decide +kernel
theorem dX6_init_167 : decode cX6_init 167 = .ok (.new 15, 3) := by decide +kernel
theorem dX6_init_170 : decode cX6_init 170 = .ok (.dup, 1) := by decide +kernel
theorem dX6_init_171 : decode cX6_init 171 = .ok (.invokespecial 81, 3) := by decide +kernel
theorem dX6_init_174 : decode cX6_init 174 = .ok (.aastore, 1) := by decide +kernel
theorem dX6_init_175 : decode cX6_init 175 = .ok (.iinc 1 1, 3) := by decide +kernel
theorem dX6_init_178 : decode cX6_init 178 = .ok (.goto (-22), 3) := by decide +kernel
theorem dX6_init_181 : decode cX6_init 181 = .ok (.iconst 0, 1) := by decide +kernel
theorem dX6_init_182 : decode cX6_init 182 = .ok (.istore_n 1, 1) := by decide +kernel
theorem dX6_init_183 : decode cX6_init 183 = .ok (.iload_n 1, 1) := by decide +kernel
theorem dX6_init_184 : decode cX6_init 184 = .ok (.bipush 24, 2) := by decide +kernel
theorem dX6_init_186 : decode cX6_init 186 = .ok (.if_icmp .ge 22, 3) := by decide +kernel
theorem dX6_init_189 : decode cX6_init 189 = .ok (.aload_n 0, 1) := by decide +kernel
theorem dX6_init_190 : decode cX6_init 190 = .ok (.getfield 23, 3) := by decide +kernel
theorem dX6_init_193 : decode cX6_init 193 = .ok (.iload_n 1, 1) := by decide +kernel
theorem dX6_init_194 : decode cX6_init 194 = .ok (.new 21, 3) := by decide +kernel
theorem dX6_init_197 : decode cX6_init 197 = .ok (.dup, 1) := by decide +kernel
theorem dX6_init_198 : decode cX6_init 198 = .ok (.invokespecial 82, 3) := by decide +kernel
theorem dX6_init_201 : decode cX6_init 201 = .ok (.aastore, 1) := by decide +kernel
theorem dX6_init_202 : decode cX6_init 202 = .ok (.iinc 1 1, 3) := by decide +kernel
theorem dX6_init_205 : decode cX6_init 205 = .ok (.goto (-22), 3) := by decide +kernel
theorem dX6_init_208 : decode cX6_init 208 = .ok (.iconst 0, 1) := by decide +kernel
theorem dX6_init_209 : decode cX6_init 209 = .ok (.istore_n 1, 1) := by decide +kernel
theorem dX6_init_210 : decode cX6_init 210 = .ok (.iload_n 1, 1) := by decide +kernel
theorem dX6_init_211 : decode cX6_init 211 = .ok (.bipush 40, 2) := by decide +kernel
theorem dX6_init_213 : decode cX6_init 213 = .ok (.if_icmp .ge 22, 3) := by decide +kernel
theorem dX6_init_216 : decode cX6_init 216 = .ok (.aload_n 0, 1) := by decide +kernel
theorem dX6_init_217 : decode cX6_init 217 = .ok (.getfield 29, 3) := by decide +kernel
theorem dX6_init_220 : decode cX6_init 220 = .ok (.iload_n 1, 1) := by decide +kernel
theorem dX6_init_221 : decode cX6_init 221 = .ok (.new 27, 3) := by decide +kernel
theorem dX6_init_224 : decode cX6_init 224 = .ok (.dup, 1) := by decide +kernel
theorem dX6_init_225 : decode cX6_init 225 = .ok (.invokespecial 83, 3) := by decide +kernel
theorem dX6_init_228 : decode cX6_init 228 = .ok (.aastore, 1) := by decide +kernel
theorem dX6_init_229 : decode cX6_init 229 = .ok (.iinc 1 1, 3) := by decide +kernel
theorem dX6_init_232 : decode cX6_init 232 = .ok (.goto (-22), 3) := by decide +kernel
theorem dX6_init_235 : decode cX6_init 235 = .ok (.iconst 0, 1) := by decide +kernel
theorem dX6_init_236 : decode cX6_init 236 = .ok (.istore_n 1, 1) := by decide +kernel
theorem dX6_init_237 : decode cX6_init 237 = .ok (.iload_n 1, 1) := by decide +kernel
theorem dX6_init_238 : decode cX6_init 238 = .ok (.bipush 10, 2) := by decide +kernel
theorem dX6_init_240 : decode cX6_init 240 = .ok (.if_icmp .ge 16, 3) := by decide +kernel
theorem dX6_init_243 : decode cX6_init 243 = .ok (.aload_n 0, 1) := by decide +kernel
theorem dX6_init_244 : decode cX6_init 244 = .ok (.getfield 33, 3) := by decide +kernel
theorem dX6_init_247 : decode cX6_init 247 = .ok (.iload_n 1, 1) := by decide +kernel
theorem dX6_init_248 : decode cX6_init 248 = .ok (.iconst (-1), 1) := by decide +kernel
theorem dX6_init_249 : decode cX6_init 249 = .ok (.iastore, 1) := by decide +kernel
theorem dX6_init_250 : decode cX6_init 250 = .ok (.iinc 1 1, 3) := by decide +kernel
theorem dX6_init_253 : decode cX6_init 253 = .ok (.goto (-16), 3) := by decide +kernel
theorem dX6_init_256 : decode cX6_init 256 = .ok (.return_, 1) := by decide +kernel
theorem dX6_ship_0 : decode cX6_ship 0 = .ok (.iload_n 1, 1) := by decide +kernel
theorem dX6_ship_1 : decode cX6_ship 1 = .ok (.bipush 6, 2) := by decide +kernel
theorem dX6_ship_3 : decode cX6_ship 3 = .ok (.invokestatic 84, 3) := by decide +kernel
theorem dX6_ship_6 : decode cX6_ship 6 = .ok (.iload_n 2, 1) := by decide +kernel
theorem dX6_ship_7 : decode cX6_ship 7 = .ok (.iconst 1, 1) := by decide +kernel
theorem dX6_ship_8 : decode cX6_ship 8 = .ok (.iconst 4, 1) := by decide +kernel
theorem dX6_ship_9 : decode cX6_ship 9 = .ok (.invokestatic 88, 3) := by decide +kernel
theorem dX6_ship_12 : decode cX6_ship 12 = .ok (.ifCond .eq 52, 3) := by decide +kernel
theorem dX6_ship_15 : decode cX6_ship 15 = .ok (.iload_n 3, 1) := by decide +kernel
theorem dX6_ship_16 : decode cX6_ship 16 = .ok (.bipush 10, 2) := by decide +kernel
theorem dX6_ship_18 : decode cX6_ship 18 = .ok (.bipush 100, 2) := by decide +kernel
theorem dX6_ship_20 : decode cX6_ship 20 = .ok (.invokestatic 88, 3) := by decide +kernel
theorem dX6_ship_23 : decode cX6_ship 23 = .ok (.ifCond .eq 41, 3) := by decide +kernel
theorem dX6_ship_26 : decode cX6_ship 26 = .ok (.iload 4, 2) := by decide +kernel
theorem dX6_ship_28 : decode cX6_ship 28 = .ok (.iconst 1, 1) := by decide +kernel
theorem dX6_ship_29 : decode cX6_ship 29 = .ok (.sipush 1000, 3) := by decide +kernel
theorem dX6_ship_32 : decode cX6_ship 32 = .ok (.invokestatic 88, 3) := by decide +kernel
theorem dX6_ship_35 : decode cX6_ship 35 = .ok (.ifCond .eq 29, 3) := by decide +kernel
theorem dX6_ship_38 : decode cX6_ship 38 = .ok (.iload 5, 2) := by decide +kernel
theorem dX6_ship_40 : decode cX6_ship 40 = .ok (.iconst 1, 1) := by decide +kernel
theorem dX6_ship_41 : decode cX6_ship 41 = .ok (.bipush 9, 2) := by decide +kernel
theorem dX6_ship_43 : decode cX6_ship 43 = .ok (.invokestatic 88, 3) := by decide +kernel
theorem dX6_ship_46 : decode cX6_ship 46 = .ok (.ifCond .eq 18, 3) := by decide +kernel
theorem dX6_ship_49 : decode cX6_ship 49 = .ok (.iload 6, 2) := by decide +kernel
theorem dX6_ship_51 : decode cX6_ship 51 = .ok (.iconst 1, 1) := by decide +kernel
theorem dX6_ship_52 : decode cX6_ship 52 = .ok (.bipush 40, 2) := by decide +kernel
theorem dX6_ship_54 : decode cX6_ship 54 = .ok (.invokestatic 88, 3) := by decide +kernel
theorem dX6_ship_57 : decode cX6_ship 57 = .ok (.ifCond .eq 7, 3) := by decide +kernel
theorem dX6_ship_60 : decode cX6_ship 60 = .ok (.iconst 1, 1) := by decide +kernel
theorem dX6_ship_61 : decode cX6_ship 61 = .ok (.goto 4, 3) := by decide +kernel
theorem dX6_ship_64 : decode cX6_ship 64 = .ok (.iconst 0, 1) := by decide +kernel
theorem dX6_ship_65 : decode cX6_ship 65 = .ok (.invokestatic 92, 3) := by decide +kernel
theorem dX6_ship_68 : decode cX6_ship 68 = .ok (.aload_n 0, 1) := by decide +kernel
theorem dX6_ship_69 : decode cX6_ship 69 = .ok (.getfield 64, 3) := by decide +kernel
theorem dX6_ship_72 : decode cX6_ship 72 = .ok (.iconst 4, 1) := by decide +kernel
theorem dX6_ship_73 : decode cX6_ship 73 = .ok (.if_icmp .ge 7, 3) := by decide +kernel
theorem dX6_ship_76 : decode cX6_ship 76 = .ok (.iconst 1, 1) := by decide +kernel
theorem dX6_ship_77 : decode cX6_ship 77 = .ok (.goto 4, 3) := by decide +kernel
theorem dX6_ship_80 : decode cX6_ship 80 = .ok (.iconst 0, 1) := by decide +kernel
theorem dX6_ship_81 : decode cX6_ship 81 = .ok (.invokestatic 96, 3) := by decide +kernel
theorem dX6_ship_84 : decode cX6_ship 84 = .ok (.aload_n 0, 1) := by decide +kernel
theorem dX6_ship_85 : decode cX6_ship 85 = .ok (.getfield 64, 3) := by decide +kernel
theorem dX6_ship_88 : decode cX6_ship 88 = .ok (.istore 7, 2) := by decide +kernel
theorem dX6_ship_90 : decode cX6_ship 90 = .ok (.aload_n 0, 1) := by decide +kernel
theorem dX6_ship_91 : decode cX6_ship 91 = .ok (.dup, 1) := by decide +kernel
theorem dX6_ship_92 : decode cX6_ship 92 = .ok (.getfield 64, 3) := by decide +kernel
theorem dX6_ship_95 : decode cX6_ship 95 = .ok (.iconst 1, 1) := by decide +kernel
theorem dX6_ship_96 : decode cX6_ship 96 = .ok (.iadd, 1) := by decide +kernel
theorem dX6_ship_97 : decode cX6_ship 97 = .ok (.putfield 64, 3) := by decide +kernel
theorem dX6_ship_100 : decode cX6_ship 100 = .ok (.aload_n 0, 1) := by decide +kernel
theorem dX6_ship_101 : decode cX6_ship 101 = .ok (.iload 7, 2) := by decide +kernel
theorem dX6_ship_103 : decode cX6_ship 103 = .ok (.invokevirtual 99, 3) := by decide +kernel
theorem dX6_ship_106 : decode cX6_ship 106 = .ok (.astore 8, 2) := by decide +kernel
theorem dX6_ship_108 : decode cX6_ship 108 = .ok (.aload 8, 2) := by decide +kernel
theorem dX6_ship_110 : decode cX6_ship 110 = .ok (.iload_n 1, 1) := by decide +kernel
theorem dX6_ship_111 : decode cX6_ship 111 = .ok (.putfield 103, 3) := by decide +kernel
theorem dX6_ship_114 : decode cX6_ship 114 = .ok (.aload 8, 2) := by decide +kernel
theorem dX6_ship_116 : decode cX6_ship 116 = .ok (.iload_n 2, 1) := by decide +kernel
theorem dX6_ship_117 : decode cX6_ship 117 = .ok (.putfield 106, 3) := by decide +kernel
theorem dX6_ship_120 : decode cX6_ship 120 = .ok (.aload 8, 2) := by decide +kernel
theorem dX6_ship_122 : decode cX6_ship 122 = .ok (.iload_n 3, 1) := by decide +kernel
theorem dX6_ship_123 : decode cX6_ship 123 = .ok (.putfield 109, 3) := by decide +kernel
theorem dX6_ship_126 : decode cX6_ship 126 = .ok (.aload 8, 2) := by decide +kernel
theorem dX6_ship_128 : decode cX6_ship 128 = .ok (.iload 4, 2) := by decide +kernel
theorem dX6_ship_130 : decode cX6_ship 130 = .ok (.putfield 112, 3) := by decide +kernel
theorem dX6_ship_133 : decode cX6_ship 133 = .ok (.aload 8, 2) := by decide +kernel
theorem dX6_ship_135 : decode cX6_ship 135 = .ok (.iload 5, 2) := by decide +kernel
theorem dX6_ship_137 : decode cX6_ship 137 = .ok (.putfield 115, 3) := by decide +kernel
theorem dX6_ship_140 : decode cX6_ship 140 = .ok (.aload 8, 2) := by decide +kernel
theorem dX6_ship_142 : decode cX6_ship 142 = .ok (.iload 6, 2) := by decide +kernel
theorem dX6_ship_144 : decode cX6_ship 144 = .ok (.putfield 118, 3) := by decide +kernel
theorem dX6_ship_147 : decode cX6_ship 147 = .ok (.iload 7, 2) := by decide +kernel
theorem dX6_ship_149 : decode cX6_ship 149 = .ok (.ireturn, 1) := by decide +kernel
theorem dX6_fill_0 : decode cX6_fill 0 = .ok (.aload_n 0, 1) := by decide +kernel
theorem dX6_fill_1 : decode cX6_fill 1 = .ok (.iload_n 1, 1) := by decide +kernel
theorem dX6_fill_2 : decode cX6_fill 2 = .ok (.invokevirtual 99, 3) := by decide +kernel
theorem dX6_fill_5 : decode cX6_fill 5 = .ok (.astore_n 3, 1) := by decide +kernel
theorem dX6_fill_6 : decode cX6_fill 6 = .ok (.iload_n 2, 1) := by decide +kernel
theorem dX6_fill_7 : decode cX6_fill 7 = .ok (.iconst 1, 1) := by decide +kernel
theorem dX6_fill_8 : decode cX6_fill 8 = .ok (.sipush 1000, 3) := by decide +kernel
theorem dX6_fill_11 : decode cX6_fill 11 = .ok (.invokestatic 88, 3) := by decide +kernel
theorem dX6_fill_14 : decode cX6_fill 14 = .ok (.invokestatic 92, 3) := by decide +kernel
theorem dX6_fill_17 : decode cX6_fill 17 = .ok (.aload_n 3, 1) := by decide +kernel
theorem dX6_fill_18 : decode cX6_fill 18 = .ok (.getfield 121, 3) := by decide +kernel
theorem dX6_fill_21 : decode cX6_fill 21 = .ok (.iload_n 2, 1) := by decide +kernel
theorem dX6_fill_22 : decode cX6_fill 22 = .ok (.iadd, 1) := by decide +kernel
theorem dX6_fill_23 : decode cX6_fill 23 = .ok (.sipush 1000, 3) := by decide +kernel
theorem dX6_fill_26 : decode cX6_fill 26 = .ok (.if_icmp .gt 7, 3) := by decide +kernel
theorem dX6_fill_29 : decode cX6_fill 29 = .ok (.iconst 1, 1) := by decide +kernel
theorem dX6_fill_30 : decode cX6_fill 30 = .ok (.goto 4, 3) := by decide +kernel
theorem dX6_fill_33 : decode cX6_fill 33 = .ok (.iconst 0, 1) := by decide +kernel
theorem dX6_fill_34 : decode cX6_fill 34 = .ok (.invokestatic 96, 3) := by decide +kernel
theorem dX6_fill_37 : decode cX6_fill 37 = .ok (.aload_n 3, 1) := by decide +kernel
theorem dX6_fill_38 : decode cX6_fill 38 = .ok (.dup, 1) := by decide +kernel
theorem dX6_fill_39 : decode cX6_fill 39 = .ok (.getfield 121, 3) := by decide +kernel
theorem dX6_fill_42 : decode cX6_fill 42 = .ok (.iload_n 2, 1) := by decide +kernel
theorem dX6_fill_43 : decode cX6_fill 43 = .ok (.iadd, 1) := by decide +kernel
theorem dX6_fill_44 : decode cX6_fill 44 = .ok (.putfield 121, 3) := by decide +kernel
theorem dX6_fill_47 : decode cX6_fill 47 = .ok (.aload_n 0, 1) := by decide +kernel
theorem dX6_fill_48 : decode cX6_fill 48 = .ok (.getfield 43, 3) := by decide +kernel
theorem dX6_fill_51 : decode cX6_fill 51 = .ok (.iconst 2, 1) := by decide +kernel
theorem dX6_fill_52 : decode cX6_fill 52 = .ok (.dup2, 1) := by decide +kernel
theorem dX6_fill_53 : decode cX6_fill 53 = .ok (.laload, 1) := by decide +kernel
theorem dX6_fill_54 : decode cX6_fill 54 = .ok (.iconst 3, 1) := by decide +kernel
theorem dX6_fill_55 : decode cX6_fill 55 = .ok (.iload_n 2, 1) := by decide +kernel
theorem dX6_fill_56 : decode cX6_fill 56 = .ok (.imul, 1) := by decide +kernel
theorem dX6_fill_57 : decode cX6_fill 57 = .ok (.i2l, 1) := by decide +kernel
theorem dX6_fill_58 : decode cX6_fill 58 = .ok (.lsub, 1) := by decide +kernel
theorem dX6_fill_59 : decode cX6_fill 59 = .ok (.lastore, 1) := by decide +kernel
theorem dX6_fill_60 : decode cX6_fill 60 = .ok (.aload_n 3, 1) := by decide +kernel
theorem dX6_fill_61 : decode cX6_fill 61 = .ok (.getfield 121, 3) := by decide +kernel
theorem dX6_fill_64 : decode cX6_fill 64 = .ok (.ireturn, 1) := by decide +kernel
theorem dX6_crew_0 : decode cX6_crew 0 = .ok (.iload_n 1, 1) := by decide +kernel
theorem dX6_crew_1 : decode cX6_crew 1 = .ok (.aload_n 0, 1) := by decide +kernel
theorem dX6_crew_2 : decode cX6_crew 2 = .ok (.getfield 64, 3) := by decide +kernel
theorem dX6_crew_5 : decode cX6_crew 5 = .ok (.invokestatic 84, 3) := by decide +kernel
theorem dX6_crew_8 : decode cX6_crew 8 = .ok (.iload_n 2, 1) := by decide +kernel
theorem dX6_crew_9 : decode cX6_crew 9 = .ok (.iconst 0, 1) := by decide +kernel
theorem dX6_crew_10 : decode cX6_crew 10 = .ok (.sipush 500, 3) := by decide +kernel
theorem dX6_crew_13 : decode cX6_crew 13 = .ok (.invokestatic 88, 3) := by decide +kernel
theorem dX6_crew_16 : decode cX6_crew 16 = .ok (.ifCond .eq 18, 3) := by decide +kernel
theorem dX6_crew_19 : decode cX6_crew 19 = .ok (.iload_n 3, 1) := by decide +kernel
theorem dX6_crew_20 : decode cX6_crew 20 = .ok (.iload_n 2, 1) := by decide +kernel
theorem dX6_crew_21 : decode cX6_crew 21 = .ok (.sipush 500, 3) := by decide +kernel
theorem dX6_crew_24 : decode cX6_crew 24 = .ok (.invokestatic 88, 3) := by decide +kernel
theorem dX6_crew_27 : decode cX6_crew 27 = .ok (.ifCond .eq 7, 3) := by decide +kernel
theorem dX6_crew_30 : decode cX6_crew 30 = .ok (.iconst 1, 1) := by decide +kernel
theorem dX6_crew_31 : decode cX6_crew 31 = .ok (.goto 4, 3) := by decide +kernel
theorem dX6_crew_34 : decode cX6_crew 34 = .ok (.iconst 0, 1) := by decide +kernel
theorem dX6_crew_35 : decode cX6_crew 35 = .ok (.invokestatic 92, 3) := by decide +kernel
theorem dX6_crew_38 : decode cX6_crew 38 = .ok (.aload_n 0, 1) := by decide +kernel
theorem dX6_crew_39 : decode cX6_crew 39 = .ok (.getfield 68, 3) := by decide +kernel
theorem dX6_crew_42 : decode cX6_crew 42 = .ok (.bipush 6, 2) := by decide +kernel
theorem dX6_crew_44 : decode cX6_crew 44 = .ok (.if_icmp .ge 7, 3) := by decide +kernel
theorem dX6_crew_47 : decode cX6_crew 47 = .ok (.iconst 1, 1) := by decide +kernel
theorem dX6_crew_48 : decode cX6_crew 48 = .ok (.goto 4, 3) := by decide +kernel
theorem dX6_crew_51 : decode cX6_crew 51 = .ok (.iconst 0, 1) := by decide +kernel
theorem dX6_crew_52 : decode cX6_crew 52 = .ok (.invokestatic 96, 3) := by decide +kernel
theorem dX6_crew_55 : decode cX6_crew 55 = .ok (.aload_n 0, 1) := by decide +kernel
theorem dX6_crew_56 : decode cX6_crew 56 = .ok (.getfield 68, 3) := by decide +kernel
theorem dX6_crew_59 : decode cX6_crew 59 = .ok (.istore 4, 2) := by decide +kernel
theorem dX6_crew_61 : decode cX6_crew 61 = .ok (.aload_n 0, 1) := by decide +kernel
theorem dX6_crew_62 : decode cX6_crew 62 = .ok (.dup, 1) := by decide +kernel
theorem dX6_crew_63 : decode cX6_crew 63 = .ok (.getfield 68, 3) := by decide +kernel
theorem dX6_crew_66 : decode cX6_crew 66 = .ok (.iconst 1, 1) := by decide +kernel
theorem dX6_crew_67 : decode cX6_crew 67 = .ok (.iadd, 1) := by decide +kernel
theorem dX6_crew_68 : decode cX6_crew 68 = .ok (.putfield 68, 3) := by decide +kernel
theorem dX6_crew_71 : decode cX6_crew 71 = .ok (.aload_n 0, 1) := by decide +kernel
theorem dX6_crew_72 : decode cX6_crew 72 = .ok (.iload 4, 2) := by decide +kernel
theorem dX6_crew_74 : decode cX6_crew 74 = .ok (.invokevirtual 124, 3) := by decide +kernel
theorem dX6_crew_77 : decode cX6_crew 77 = .ok (.astore 5, 2) := by decide +kernel
theorem dX6_crew_79 : decode cX6_crew 79 = .ok (.aload 5, 2) := by decide +kernel
theorem dX6_crew_81 : decode cX6_crew 81 = .ok (.iload_n 1, 1) := by decide +kernel
theorem dX6_crew_82 : decode cX6_crew 82 = .ok (.putfield 128, 3) := by decide +kernel
theorem dX6_crew_85 : decode cX6_crew 85 = .ok (.aload 5, 2) := by decide +kernel
theorem dX6_crew_87 : decode cX6_crew 87 = .ok (.getfield 131, 3) := by decide +kernel
theorem dX6_crew_90 : decode cX6_crew 90 = .ok (.iload_n 2, 1) := by decide +kernel
theorem dX6_crew_91 : decode cX6_crew 91 = .ok (.iload_n 3, 1) := by decide +kernel
theorem dX6_crew_92 : decode cX6_crew 92 = .ok (.invokevirtual 134, 3) := by decide +kernel
theorem dX6_crew_95 : decode cX6_crew 95 = .ok (.iload 4, 2) := by decide +kernel
theorem dX6_crew_97 : decode cX6_crew 97 = .ok (.ireturn, 1) := by decide +kernel
theorem dX6_hinder_0 : decode cX6_hinder 0 = .ok (.aload_n 0, 1) := by decide +kernel
theorem dX6_hinder_1 : decode cX6_hinder 1 = .ok (.iload_n 1, 1) := by decide +kernel
theorem dX6_hinder_2 : decode cX6_hinder 2 = .ok (.iload_n 2, 1) := by decide +kernel
theorem dX6_hinder_3 : decode cX6_hinder 3 = .ok (.invokevirtual 144, 3) := by decide +kernel
theorem dX6_hinder_6 : decode cX6_hinder 6 = .ok (.astore 5, 2) := by decide +kernel
theorem dX6_hinder_8 : decode cX6_hinder 8 = .ok (.iload_n 3, 1) := by decide +kernel
theorem dX6_hinder_9 : decode cX6_hinder 9 = .ok (.iconst 0, 1) := by decide +kernel
theorem dX6_hinder_10 : decode cX6_hinder 10 = .ok (.sipush 10000, 3) := by decide +kernel
theorem dX6_hinder_13 : decode cX6_hinder 13 = .ok (.invokestatic 88, 3) := by decide +kernel
theorem dX6_hinder_16 : decode cX6_hinder 16 = .ok (.ifCond .eq 19, 3) := by decide +kernel
theorem dX6_hinder_19 : decode cX6_hinder 19 = .ok (.iload 4, 2) := by decide +kernel
theorem dX6_hinder_21 : decode cX6_hinder 21 = .ok (.iload_n 3, 1) := by decide +kernel
theorem dX6_hinder_22 : decode cX6_hinder 22 = .ok (.sipush 10000, 3) := by decide +kernel
theorem dX6_hinder_25 : decode cX6_hinder 25 = .ok (.invokestatic 88, 3) := by decide +kernel
theorem dX6_hinder_28 : decode cX6_hinder 28 = .ok (.ifCond .eq 7, 3) := by decide +kernel
theorem dX6_hinder_31 : decode cX6_hinder 31 = .ok (.iconst 1, 1) := by decide +kernel
theorem dX6_hinder_32 : decode cX6_hinder 32 = .ok (.goto 4, 3) := by decide +kernel
theorem dX6_hinder_35 : decode cX6_hinder 35 = .ok (.iconst 0, 1) := by decide +kernel
theorem dX6_hinder_36 : decode cX6_hinder 36 = .ok (.invokestatic 92, 3) := by decide +kernel
theorem dX6_hinder_39 : decode cX6_hinder 39 = .ok (.aload 5, 2) := by decide +kernel
theorem dX6_hinder_41 : decode cX6_hinder 41 = .ok (.iload_n 3, 1) := by decide +kernel
theorem dX6_hinder_42 : decode cX6_hinder 42 = .ok (.iload 4, 2) := by decide +kernel
theorem dX6_hinder_44 : decode cX6_hinder 44 = .ok (.invokevirtual 134, 3) := by decide +kernel
theorem dX6_hinder_47 : decode cX6_hinder 47 = .ok (.return_, 1) := by decide +kernel
theorem dX6_bus_0 : decode cX6_bus 0 = .ok (.iload_n 1, 1) := by decide +kernel
theorem dX6_bus_1 : decode cX6_bus 1 = .ok (.bipush 6, 2) := by decide +kernel
theorem dX6_bus_3 : decode cX6_bus 3 = .ok (.invokestatic 84, 3) := by decide +kernel
theorem dX6_bus_6 : decode cX6_bus 6 = .ok (.iload_n 2, 1) := by decide +kernel
theorem dX6_bus_7 : decode cX6_bus 7 = .ok (.iconst 1, 1) := by decide +kernel
theorem dX6_bus_8 : decode cX6_bus 8 = .ok (.bipush 12, 2) := by decide +kernel
theorem dX6_bus_10 : decode cX6_bus 10 = .ok (.invokestatic 88, 3) := by decide +kernel
theorem dX6_bus_13 : decode cX6_bus 13 = .ok (.ifCond .eq 18, 3) := by decide +kernel
theorem dX6_bus_16 : decode cX6_bus 16 = .ok (.iload_n 3, 1) := by decide +kernel
theorem dX6_bus_17 : decode cX6_bus 17 = .ok (.iconst 0, 1) := by decide +kernel
theorem dX6_bus_18 : decode cX6_bus 18 = .ok (.iload_n 2, 1) := by decide +kernel
theorem dX6_bus_19 : decode cX6_bus 19 = .ok (.iconst 1, 1) := by decide +kernel
theorem dX6_bus_20 : decode cX6_bus 20 = .ok (.isub, 1) := by decide +kernel
theorem dX6_bus_21 : decode cX6_bus 21 = .ok (.invokestatic 88, 3) := by decide +kernel
theorem dX6_bus_24 : decode cX6_bus 24 = .ok (.ifCond .eq 7, 3) := by decide +kernel
theorem dX6_bus_27 : decode cX6_bus 27 = .ok (.iconst 1, 1) := by decide +kernel
theorem dX6_bus_28 : decode cX6_bus 28 = .ok (.goto 4, 3) := by decide +kernel
theorem dX6_bus_31 : decode cX6_bus 31 = .ok (.iconst 0, 1) := by decide +kernel
theorem dX6_bus_32 : decode cX6_bus 32 = .ok (.invokestatic 92, 3) := by decide +kernel
theorem dX6_bus_35 : decode cX6_bus 35 = .ok (.aload_n 0, 1) := by decide +kernel
theorem dX6_bus_36 : decode cX6_bus 36 = .ok (.getfield 37, 3) := by decide +kernel
theorem dX6_bus_39 : decode cX6_bus 39 = .ok (.iload_n 1, 1) := by decide +kernel
theorem dX6_bus_40 : decode cX6_bus 40 = .ok (.iload_n 2, 1) := by decide +kernel
theorem dX6_bus_41 : decode cX6_bus 41 = .ok (.iastore, 1) := by decide +kernel
theorem dX6_bus_42 : decode cX6_bus 42 = .ok (.aload_n 0, 1) := by decide +kernel
theorem dX6_bus_43 : decode cX6_bus 43 = .ok (.getfield 40, 3) := by decide +kernel
theorem dX6_bus_46 : decode cX6_bus 46 = .ok (.iload_n 1, 1) := by decide +kernel
theorem dX6_bus_47 : decode cX6_bus 47 = .ok (.iload_n 3, 1) := by decide +kernel
theorem dX6_bus_48 : decode cX6_bus 48 = .ok (.iastore, 1) := by decide +kernel
theorem dX6_bus_49 : decode cX6_bus 49 = .ok (.return_, 1) := by decide +kernel
theorem dX6_reside_0 : decode cX6_reside 0 = .ok (.iload_n 1, 1) := by decide +kernel
theorem dX6_reside_1 : decode cX6_reside 1 = .ok (.bipush 10, 2) := by decide +kernel
theorem dX6_reside_3 : decode cX6_reside 3 = .ok (.invokestatic 84, 3) := by decide +kernel
theorem dX6_reside_6 : decode cX6_reside 6 = .ok (.iload_n 2, 1) := by decide +kernel
theorem dX6_reside_7 : decode cX6_reside 7 = .ok (.iconst (-1), 1) := by decide +kernel
theorem dX6_reside_8 : decode cX6_reside 8 = .ok (.if_icmp .eq 9, 3) := by decide +kernel
theorem dX6_reside_11 : decode cX6_reside 11 = .ok (.iload_n 2, 1) := by decide +kernel
theorem dX6_reside_12 : decode cX6_reside 12 = .ok (.bipush 6, 2) := by decide +kernel
theorem dX6_reside_14 : decode cX6_reside 14 = .ok (.invokestatic 84, 3) := by decide +kernel
theorem dX6_reside_17 : decode cX6_reside 17 = .ok (.aload_n 0, 1) := by decide +kernel
theorem dX6_reside_18 : decode cX6_reside 18 = .ok (.getfield 33, 3) := by decide +kernel
theorem dX6_reside_21 : decode cX6_reside 21 = .ok (.iload_n 1, 1) := by decide +kernel
theorem dX6_reside_22 : decode cX6_reside 22 = .ok (.iaload, 1) := by decide +kernel
theorem dX6_reside_23 : decode cX6_reside 23 = .ok (.istore_n 3, 1) := by decide +kernel
theorem dX6_reside_24 : decode cX6_reside 24 = .ok (.aload_n 0, 1) := by decide +kernel
theorem dX6_reside_25 : decode cX6_reside 25 = .ok (.getfield 33, 3) := by decide +kernel
theorem dX6_reside_28 : decode cX6_reside 28 = .ok (.iload_n 1, 1) := by decide +kernel
theorem dX6_reside_29 : decode cX6_reside 29 = .ok (.iload_n 2, 1) := by decide +kernel
theorem dX6_reside_30 : decode cX6_reside 30 = .ok (.iastore, 1) := by decide +kernel
theorem dX6_reside_31 : decode cX6_reside 31 = .ok (.iload_n 3, 1) := by decide +kernel
theorem dX6_reside_32 : decode cX6_reside 32 = .ok (.ireturn, 1) := by decide +kernel
theorem dX6_plan_0 : decode cX6_plan 0 = .ok (.aload_n 0, 1) := by decide +kernel
theorem dX6_plan_1 : decode cX6_plan 1 = .ok (.iload_n 1, 1) := by decide +kernel
theorem dX6_plan_2 : decode cX6_plan 2 = .ok (.invokevirtual 99, 3) := by decide +kernel
theorem dX6_plan_5 : decode cX6_plan 5 = .ok (.astore 5, 2) := by decide +kernel
theorem dX6_plan_7 : decode cX6_plan 7 = .ok (.iload_n 2, 1) := by decide +kernel
theorem dX6_plan_8 : decode cX6_plan 8 = .ok (.bipush 6, 2) := by decide +kernel
theorem dX6_plan_10 : decode cX6_plan 10 = .ok (.invokestatic 84, 3) := by decide +kernel
theorem dX6_plan_13 : decode cX6_plan 13 = .ok (.aload_n 0, 1) := by decide +kernel
theorem dX6_plan_14 : decode cX6_plan 14 = .ok (.iload_n 1, 1) := by decide +kernel
theorem dX6_plan_15 : decode cX6_plan 15 = .ok (.invokevirtual 148, 3) := by decide +kernel
theorem dX6_plan_18 : decode cX6_plan 18 = .ok (.istore 6, 2) := by decide +kernel
theorem dX6_plan_20 : decode cX6_plan 20 = .ok (.iload 6, 2) := by decide +kernel
theorem dX6_plan_22 : decode cX6_plan 22 = .ok (.iconst (-1), 1) := by decide +kernel
theorem dX6_plan_23 : decode cX6_plan 23 = .ok (.if_icmp .ne 11, 3) := by decide +kernel
theorem dX6_plan_26 : decode cX6_plan 26 = .ok (.aload 5, 2) := by decide +kernel
theorem dX6_plan_28 : decode cX6_plan 28 = .ok (.getfield 103, 3) := by decide +kernel
theorem dX6_plan_31 : decode cX6_plan 31 = .ok (.goto 12, 3) := by decide +kernel
theorem dX6_plan_34 : decode cX6_plan 34 = .ok (.aload_n 0, 1) := by decide +kernel
theorem dX6_plan_35 : decode cX6_plan 35 = .ok (.iload 6, 2) := by decide +kernel
theorem dX6_plan_37 : decode cX6_plan 37 = .ok (.invokevirtual 152, 3) := by decide +kernel
theorem dX6_plan_40 : decode cX6_plan 40 = .ok (.getfield 156, 3) := by decide +kernel
theorem dX6_plan_43 : decode cX6_plan 43 = .ok (.istore 7, 2) := by decide +kernel
theorem dX6_plan_45 : decode cX6_plan 45 = .ok (.iload 6, 2) := by decide +kernel
theorem dX6_plan_47 : decode cX6_plan 47 = .ok (.iconst (-1), 1) := by decide +kernel
theorem dX6_plan_48 : decode cX6_plan 48 = .ok (.if_icmp .ne 7, 3) := by decide +kernel
theorem dX6_plan_51 : decode cX6_plan 51 = .ok (.iconst 0, 1) := by decide +kernel
theorem dX6_plan_52 : decode cX6_plan 52 = .ok (.goto 12, 3) := by decide +kernel
theorem dX6_plan_55 : decode cX6_plan 55 = .ok (.aload_n 0, 1) := by decide +kernel
theorem dX6_plan_56 : decode cX6_plan 56 = .ok (.iload 6, 2) := by decide +kernel
theorem dX6_plan_58 : decode cX6_plan 58 = .ok (.invokevirtual 152, 3) := by decide +kernel
theorem dX6_plan_61 : decode cX6_plan 61 = .ok (.getfield 159, 3) := by decide +kernel
theorem dX6_plan_64 : decode cX6_plan 64 = .ok (.istore 8, 2) := by decide +kernel
theorem dX6_plan_66 : decode cX6_plan 66 = .ok (.iload_n 3, 1) := by decide +kernel
theorem dX6_plan_67 : decode cX6_plan 67 = .ok (.aload_n 0, 1) := by decide +kernel
theorem dX6_plan_68 : decode cX6_plan 68 = .ok (.getfield 77, 3) := by decide +kernel
theorem dX6_plan_71 : decode cX6_plan 71 = .ok (.sipush 10000, 3) := by decide +kernel
theorem dX6_plan_74 : decode cX6_plan 74 = .ok (.invokestatic 88, 3) := by decide +kernel
theorem dX6_plan_77 : decode cX6_plan 77 = .ok (.ifCond .eq 25, 3) := by decide +kernel
theorem dX6_plan_80 : decode cX6_plan 80 = .ok (.iload 4, 2) := by decide +kernel
theorem dX6_plan_82 : decode cX6_plan 82 = .ok (.iconst 1, 1) := by decide +kernel
theorem dX6_plan_83 : decode cX6_plan 83 = .ok (.sipush 400, 3) := by decide +kernel
theorem dX6_plan_86 : decode cX6_plan 86 = .ok (.invokestatic 88, 3) := by decide +kernel
theorem dX6_plan_89 : decode cX6_plan 89 = .ok (.ifCond .eq 13, 3) := by decide +kernel
theorem dX6_plan_92 : decode cX6_plan 92 = .ok (.iload_n 2, 1) := by decide +kernel
theorem dX6_plan_93 : decode cX6_plan 93 = .ok (.iload 7, 2) := by decide +kernel
theorem dX6_plan_95 : decode cX6_plan 95 = .ok (.if_icmp .eq 7, 3) := by decide +kernel
theorem dX6_plan_98 : decode cX6_plan 98 = .ok (.iconst 1, 1) := by decide +kernel
theorem dX6_plan_99 : decode cX6_plan 99 = .ok (.goto 4, 3) := by decide +kernel
theorem dX6_plan_102 : decode cX6_plan 102 = .ok (.iconst 0, 1) := by decide +kernel
theorem dX6_plan_103 : decode cX6_plan 103 = .ok (.invokestatic 92, 3) := by decide +kernel
theorem dX6_plan_106 : decode cX6_plan 106 = .ok (.iload 8, 2) := by decide +kernel
theorem dX6_plan_108 : decode cX6_plan 108 = .ok (.iload_n 3, 1) := by decide +kernel
theorem dX6_plan_109 : decode cX6_plan 109 = .ok (.if_icmp .gt 16, 3) := by decide +kernel
theorem dX6_plan_112 : decode cX6_plan 112 = .ok (.aload_n 0, 1) := by decide +kernel
theorem dX6_plan_113 : decode cX6_plan 113 = .ok (.getfield 71, 3) := by decide +kernel
theorem dX6_plan_116 : decode cX6_plan 116 = .ok (.bipush 24, 2) := by decide +kernel
theorem dX6_plan_118 : decode cX6_plan 118 = .ok (.if_icmp .ge 7, 3) := by decide +kernel
theorem dX6_plan_121 : decode cX6_plan 121 = .ok (.iconst 1, 1) := by decide +kernel
theorem dX6_plan_122 : decode cX6_plan 122 = .ok (.goto 4, 3) := by decide +kernel
theorem dX6_plan_125 : decode cX6_plan 125 = .ok (.iconst 0, 1) := by decide +kernel
theorem dX6_plan_126 : decode cX6_plan 126 = .ok (.invokestatic 96, 3) := by decide +kernel
theorem dX6_plan_129 : decode cX6_plan 129 = .ok (.aload_n 0, 1) := by decide +kernel
theorem dX6_plan_130 : decode cX6_plan 130 = .ok (.iload_n 1, 1) := by decide +kernel
theorem dX6_plan_131 : decode cX6_plan 131 = .ok (.iload 7, 2) := by decide +kernel
theorem dX6_plan_133 : decode cX6_plan 133 = .ok (.iload_n 2, 1) := by decide +kernel
theorem dX6_plan_134 : decode cX6_plan 134 = .ok (.iload_n 3, 1) := by decide +kernel
theorem dX6_plan_135 : decode cX6_plan 135 = .ok (.iload 4, 2) := by decide +kernel
theorem dX6_plan_137 : decode cX6_plan 137 = .ok (.invokevirtual 162, 3) := by decide +kernel
theorem dX6_plan_140 : decode cX6_plan 140 = .ok (.ireturn, 1) := by decide +kernel
theorem dX6_cancel_0 : decode cX6_cancel 0 = .ok (.aload_n 0, 1) := by decide +kernel
theorem dX6_cancel_1 : decode cX6_cancel 1 = .ok (.iload_n 1, 1) := by decide +kernel
theorem dX6_cancel_2 : decode cX6_cancel 2 = .ok (.invokevirtual 152, 3) := by decide +kernel
theorem dX6_cancel_5 : decode cX6_cancel 5 = .ok (.astore_n 2, 1) := by decide +kernel
theorem dX6_cancel_6 : decode cX6_cancel 6 = .ok (.aload_n 2, 1) := by decide +kernel
theorem dX6_cancel_7 : decode cX6_cancel 7 = .ok (.getfield 166, 3) := by decide +kernel
theorem dX6_cancel_10 : decode cX6_cancel 10 = .ok (.ifCond .ne 7, 3) := by decide +kernel
theorem dX6_cancel_13 : decode cX6_cancel 13 = .ok (.iconst 1, 1) := by decide +kernel
theorem dX6_cancel_14 : decode cX6_cancel 14 = .ok (.goto 4, 3) := by decide +kernel
theorem dX6_cancel_17 : decode cX6_cancel 17 = .ok (.iconst 0, 1) := by decide +kernel
theorem dX6_cancel_18 : decode cX6_cancel 18 = .ok (.invokestatic 96, 3) := by decide +kernel
theorem dX6_cancel_21 : decode cX6_cancel 21 = .ok (.aload_n 0, 1) := by decide +kernel
theorem dX6_cancel_22 : decode cX6_cancel 22 = .ok (.iload_n 1, 1) := by decide +kernel
theorem dX6_cancel_23 : decode cX6_cancel 23 = .ok (.bipush 7, 2) := by decide +kernel
theorem dX6_cancel_25 : decode cX6_cancel 25 = .ok (.invokevirtual 169, 3) := by decide +kernel
theorem dX6_cancel_28 : decode cX6_cancel 28 = .ok (.ireturn, 1) := by decide +kernel
theorem dX6_replace_0 : decode cX6_replace 0 = .ok (.aload_n 0, 1) := by decide +kernel
theorem dX6_replace_1 : decode cX6_replace 1 = .ok (.iload_n 1, 1) := by decide +kernel
theorem dX6_replace_2 : decode cX6_replace 2 = .ok (.invokevirtual 152, 3) := by decide +kernel
theorem dX6_replace_5 : decode cX6_replace 5 = .ok (.astore_n 3, 1) := by decide +kernel
theorem dX6_replace_6 : decode cX6_replace 6 = .ok (.aload_n 0, 1) := by decide +kernel
theorem dX6_replace_7 : decode cX6_replace 7 = .ok (.iload_n 2, 1) := by decide +kernel
theorem dX6_replace_8 : decode cX6_replace 8 = .ok (.invokevirtual 99, 3) := by decide +kernel
theorem dX6_replace_11 : decode cX6_replace 11 = .ok (.astore 4, 2) := by decide +kernel
theorem dX6_replace_13 : decode cX6_replace 13 = .ok (.aload_n 3, 1) := by decide +kernel
theorem dX6_replace_14 : decode cX6_replace 14 = .ok (.getfield 166, 3) := by decide +kernel
theorem dX6_replace_17 : decode cX6_replace 17 = .ok (.iconst 1, 1) := by decide +kernel
theorem dX6_replace_18 : decode cX6_replace 18 = .ok (.if_icmp .ne 62, 3) := by decide +kernel
theorem dX6_replace_21 : decode cX6_replace 21 = .ok (.aload_n 3, 1) := by decide +kernel
theorem dX6_replace_22 : decode cX6_replace 22 = .ok (.getfield 172, 3) := by decide +kernel
theorem dX6_replace_25 : decode cX6_replace 25 = .ok (.ifCond .ne 55, 3) := by decide +kernel
theorem dX6_replace_28 : decode cX6_replace 28 = .ok (.aload_n 0, 1) := by decide +kernel
theorem dX6_replace_29 : decode cX6_replace 29 = .ok (.iload_n 2, 1) := by decide +kernel
