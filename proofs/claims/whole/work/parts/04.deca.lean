theorem dX0_init_0 : decode cX0_init 0 = .ok (.aload_n 0, 1) := by decide +kernel
theorem dX0_init_1 : decode cX0_init 1 = .ok (.invokespecial 3, 3) := by decide +kernel
theorem dX0_init_4 : decode cX0_init 4 = .ok (.aload_n 0, 1) := by decide +kernel
theorem dX0_init_5 : decode cX0_init 5 = .ok (.iconst (-1), 1) := by decide +kernel
theorem dX0_init_6 : decode cX0_init 6 = .ok (.putfield 9, 3) := by decide +kernel
theorem dX0_init_9 : decode cX0_init 9 = .ok (.aload_n 0, 1) := by decide +kernel
theorem dX0_init_10 : decode cX0_init 10 = .ok (.iconst 0, 1) := by decide +kernel
theorem dX0_init_11 : decode cX0_init 11 = .ok (.putfield 15, 3) := by decide +kernel
theorem dX0_init_14 : decode cX0_init 14 = .ok (.aload_n 0, 1) := by decide +kernel
theorem dX0_init_15 : decode cX0_init 15 = .ok (.iconst 0, 1) := by decide +kernel
theorem dX0_init_16 : decode cX0_init 16 = .ok (.putfield 18, 3) := by decide +kernel
theorem dX0_init_19 : decode cX0_init 19 = .ok (.aload_n 0, 1) := by decide +kernel
theorem dX0_init_20 : decode cX0_init 20 = .ok (.iconst 0, 1) := by decide +kernel
theorem dX0_init_21 : decode cX0_init 21 = .ok (.putfield 21, 3) := by decide +kernel
theorem dX0_init_24 : decode cX0_init 24 = .ok (.aload_n 0, 1) := by decide +kernel
theorem dX0_init_25 : decode cX0_init 25 = .ok (.iconst (-1), 1) := by decide +kernel
theorem dX0_init_26 : decode cX0_init 26 = .ok (.putfield 24, 3) := by decide +kernel
theorem dX0_init_29 : decode cX0_init 29 = .ok (.aload_n 0, 1) := by decide +kernel
theorem dX0_init_30 : decode cX0_init 30 = .ok (.iconst 0, 1) := by decide +kernel
theorem dX0_init_31 : decode cX0_init 31 = .ok (.putfield 27, 3) := by decide +kernel
theorem dX0_init_34 : decode cX0_init 34 = .ok (.aload_n 0, 1) := by decide +kernel
theorem dX0_init_35 : decode cX0_init 35 = .ok (.iconst 0, 1) := by decide +kernel
theorem dX0_init_36 : decode cX0_init 36 = .ok (.putfield 30, 3) := by decide +kernel
theorem dX0_init_39 : decode cX0_init 39 = .ok (.aload_n 0, 1) := by decide +kernel
theorem dX0_init_40 : decode cX0_init 40 = .ok (.iconst 0, 1) := by decide +kernel
theorem dX0_init_41 : decode cX0_init 41 = .ok (.putfield 33, 3) := by decide +kernel
theorem dX0_init_44 : decode cX0_init 44 = .ok (.aload_n 0, 1) := by decide +kernel
theorem dX0_init_45 : decode cX0_init 45 = .ok (.iconst 0, 1) := by decide +kernel
theorem dX0_init_46 : decode cX0_init 46 = .ok (.putfield 36, 3) := by decide +kernel
theorem dX0_init_49 : decode cX0_init 49 = .ok (.aload_n 0, 1) := by decide +kernel
theorem dX0_init_50 : decode cX0_init 50 = .ok (.iconst 0, 1) := by decide +kernel
theorem dX0_init_51 : decode cX0_init 51 = .ok (.putfield 39, 3) := by decide +kernel
theorem dX0_init_54 : decode cX0_init 54 = .ok (.aload_n 0, 1) := by decide +kernel
theorem dX0_init_55 : decode cX0_init 55 = .ok (.iconst 0, 1) := by decide +kernel
theorem dX0_init_56 : decode cX0_init 56 = .ok (.putfield 43, 3) := by decide +kernel
theorem dX0_init_59 : decode cX0_init 59 = .ok (.aload_n 0, 1) := by decide +kernel
theorem dX0_init_60 : decode cX0_init 60 = .ok (.iconst 0, 1) := by decide +kernel
theorem dX0_init_61 : decode cX0_init 61 = .ok (.putfield 46, 3) := by decide +kernel
theorem dX0_init_64 : decode cX0_init 64 = .ok (.return_, 1) := by decide +kernel
theorem dX1_init_0 : decode cX1_init 0 = .ok (.aload_n 0, 1) := by decide +kernel
theorem dX1_init_1 : decode cX1_init 1 = .ok (.invokespecial 3, 3) := by decide +kernel
theorem dX1_init_4 : decode cX1_init 4 = .ok (.aload_n 0, 1) := by decide +kernel
theorem dX1_init_5 : decode cX1_init 5 = .ok (.iconst (-1), 1) := by decide +kernel
theorem dX1_init_6 : decode cX1_init 6 = .ok (.putfield 9, 3) := by decide +kernel
theorem dX1_init_9 : decode cX1_init 9 = .ok (.aload_n 0, 1) := by decide +kernel
theorem dX1_init_10 : decode cX1_init 10 = .ok (.new 15, 3) := by decide +kernel
theorem dX1_init_13 : decode cX1_init 13 = .ok (.dup, 1) := by decide +kernel
theorem dX1_init_14 : decode cX1_init 14 = .ok (.invokespecial 17, 3) := by decide +kernel
theorem dX1_init_17 : decode cX1_init 17 = .ok (.putfield 18, 3) := by decide +kernel
theorem dX1_init_20 : decode cX1_init 20 = .ok (.return_, 1) := by decide +kernel
theorem dX2_init_0 : decode cX2_init 0 = .ok (.aload_n 0, 1) := by decide +kernel
theorem dX2_init_1 : decode cX2_init 1 = .ok (.invokespecial 3, 3) := by decide +kernel
theorem dX2_init_4 : decode cX2_init 4 = .ok (.aload_n 0, 1) := by decide +kernel
theorem dX2_init_5 : decode cX2_init 5 = .ok (.iconst 4, 1) := by decide +kernel
theorem dX2_init_6 : decode cX2_init 6 = .ok (.newarray .int, 2) := by decide +kernel
theorem dX2_init_8 : decode cX2_init 8 = .ok (.putfield 9, 3) := by decide +kernel
theorem dX2_init_11 : decode cX2_init 11 = .ok (.aload_n 0, 1) := by decide +kernel
theorem dX2_init_12 : decode cX2_init 12 = .ok (.iconst 4, 1) := by decide +kernel
theorem dX2_init_13 : decode cX2_init 13 = .ok (.newarray .boolean, 2) := by decide +kernel
theorem dX2_init_15 : decode cX2_init 15 = .ok (.putfield 15, 3) := by decide +kernel
theorem dX2_init_18 : decode cX2_init 18 = .ok (.aload_n 0, 1) := by decide +kernel
theorem dX2_init_19 : decode cX2_init 19 = .ok (.iconst 0, 1) := by decide +kernel
theorem dX2_init_20 : decode cX2_init 20 = .ok (.putfield 19, 3) := by decide +kernel
theorem dX2_init_23 : decode cX2_init 23 = .ok (.aload_n 0, 1) := by decide +kernel
theorem dX2_init_24 : decode cX2_init 24 = .ok (.iconst 0, 1) := by decide +kernel
theorem dX2_init_25 : decode cX2_init 25 = .ok (.putfield 23, 3) := by decide +kernel
theorem dX2_init_28 : decode cX2_init 28 = .ok (.aload_n 0, 1) := by decide +kernel
theorem dX2_init_29 : decode cX2_init 29 = .ok (.iconst 0, 1) := by decide +kernel
theorem dX2_init_30 : decode cX2_init 30 = .ok (.putfield 26, 3) := by decide +kernel
theorem dX2_init_33 : decode cX2_init 33 = .ok (.aload_n 0, 1) := by decide +kernel
theorem dX2_init_34 : decode cX2_init 34 = .ok (.iconst 0, 1) := by decide +kernel
theorem dX2_init_35 : decode cX2_init 35 = .ok (.putfield 29, 3) := by decide +kernel
theorem dX2_init_38 : decode cX2_init 38 = .ok (.aload_n 0, 1) := by decide +kernel
theorem dX2_init_39 : decode cX2_init 39 = .ok (.iconst 0, 1) := by decide +kernel
theorem dX2_init_40 : decode cX2_init 40 = .ok (.putfield 32, 3) := by decide +kernel
theorem dX2_init_43 : decode cX2_init 43 = .ok (.aload_n 0, 1) := by decide +kernel
theorem dX2_init_44 : decode cX2_init 44 = .ok (.iconst 0, 1) := by decide +kernel
theorem dX2_init_45 : decode cX2_init 45 = .ok (.putfield 35, 3) := by decide +kernel
theorem dX2_init_48 : decode cX2_init 48 = .ok (.aload_n 0, 1) := by decide +kernel
theorem dX2_init_49 : decode cX2_init 49 = .ok (.iconst 0, 1) := by decide +kernel
theorem dX2_init_50 : decode cX2_init 50 = .ok (.putfield 38, 3) := by decide +kernel
theorem dX2_init_53 : decode cX2_init 53 = .ok (.return_, 1) := by decide +kernel
theorem dX2_clear_0 : decode cX2_clear 0 = .ok (.aload_n 0, 1) := by decide +kernel
theorem dX2_clear_1 : decode cX2_clear 1 = .ok (.aload_n 1, 1) := by decide +kernel
theorem dX2_clear_2 : decode cX2_clear 2 = .ok (.getfield 41, 3) := by decide +kernel
theorem dX2_clear_5 : decode cX2_clear 5 = .ok (.putfield 19, 3) := by decide +kernel
theorem dX2_clear_8 : decode cX2_clear 8 = .ok (.aload_n 0, 1) := by decide +kernel
theorem dX2_clear_9 : decode cX2_clear 9 = .ok (.aload_n 1, 1) := by decide +kernel
theorem dX2_clear_10 : decode cX2_clear 10 = .ok (.getfield 44, 3) := by decide +kernel
theorem dX2_clear_13 : decode cX2_clear 13 = .ok (.putfield 23, 3) := by decide +kernel
theorem dX2_clear_16 : decode cX2_clear 16 = .ok (.aload_n 0, 1) := by decide +kernel
theorem dX2_clear_17 : decode cX2_clear 17 = .ok (.aload_n 1, 1) := by decide +kernel
theorem dX2_clear_18 : decode cX2_clear 18 = .ok (.getfield 45, 3) := by decide +kernel
theorem dX2_clear_21 : decode cX2_clear 21 = .ok (.putfield 26, 3) := by decide +kernel
theorem dX2_clear_24 : decode cX2_clear 24 = .ok (.aload_n 0, 1) := by decide +kernel
theorem dX2_clear_25 : decode cX2_clear 25 = .ok (.iconst 0, 1) := by decide +kernel
theorem dX2_clear_26 : decode cX2_clear 26 = .ok (.putfield 29, 3) := by decide +kernel
theorem dX2_clear_29 : decode cX2_clear 29 = .ok (.aload_n 0, 1) := by decide +kernel
theorem dX2_clear_30 : decode cX2_clear 30 = .ok (.iconst 0, 1) := by decide +kernel
theorem dX2_clear_31 : decode cX2_clear 31 = .ok (.putfield 32, 3) := by decide +kernel
theorem dX2_clear_34 : decode cX2_clear 34 = .ok (.aload_n 0, 1) := by decide +kernel
theorem dX2_clear_35 : decode cX2_clear 35 = .ok (.iconst 0, 1) := by decide +kernel
theorem dX2_clear_36 : decode cX2_clear 36 = .ok (.putfield 35, 3) := by decide +kernel
theorem dX2_clear_39 : decode cX2_clear 39 = .ok (.aload_n 0, 1) := by decide +kernel
theorem dX2_clear_40 : decode cX2_clear 40 = .ok (.iconst 0, 1) := by decide +kernel
theorem dX2_clear_41 : decode cX2_clear 41 = .ok (.putfield 38, 3) := by decide +kernel
theorem dX2_clear_44 : decode cX2_clear 44 = .ok (.iconst 0, 1) := by decide +kernel
theorem dX2_clear_45 : decode cX2_clear 45 = .ok (.istore_n 2, 1) := by decide +kernel
theorem dX2_clear_46 : decode cX2_clear 46 = .ok (.iload_n 2, 1) := by decide +kernel
theorem dX2_clear_47 : decode cX2_clear 47 = .ok (.iconst 4, 1) := by decide +kernel
theorem dX2_clear_48 : decode cX2_clear 48 = .ok (.if_icmp .ge 23, 3) := by decide +kernel
theorem dX2_clear_51 : decode cX2_clear 51 = .ok (.aload_n 0, 1) := by decide +kernel
theorem dX2_clear_52 : decode cX2_clear 52 = .ok (.getfield 9, 3) := by decide +kernel
theorem dX2_clear_55 : decode cX2_clear 55 = .ok (.iload_n 2, 1) := by decide +kernel
theorem dX2_clear_56 : decode cX2_clear 56 = .ok (.iconst 0, 1) := by decide +kernel
theorem dX2_clear_57 : decode cX2_clear 57 = .ok (.iastore, 1) := by decide +kernel
theorem dX2_clear_58 : decode cX2_clear 58 = .ok (.aload_n 0, 1) := by decide +kernel
theorem dX2_clear_59 : decode cX2_clear 59 = .ok (.getfield 15, 3) := by decide +kernel
theorem dX2_clear_62 : decode cX2_clear 62 = .ok (.iload_n 2, 1) := by decide +kernel
theorem dX2_clear_63 : decode cX2_clear 63 = .ok (.iconst 0, 1) := by decide +kernel
theorem dX2_clear_64 : decode cX2_clear 64 = .ok (.bastore, 1) := by decide +kernel
theorem dX2_clear_65 : decode cX2_clear 65 = .ok (.iinc 2 1, 3) := by decide +kernel
theorem dX2_clear_68 : decode cX2_clear 68 = .ok (.goto (-22), 3) := by decide +kernel
theorem dX2_clear_71 : decode cX2_clear 71 = .ok (.return_, 1) := by decide +kernel
theorem dX2_take_0 : decode cX2_take 0 = .ok (.aload_n 1, 1) := by decide +kernel
theorem dX2_take_1 : decode cX2_take 1 = .ok (.getfield 46, 3) := by decide +kernel
theorem dX2_take_4 : decode cX2_take 4 = .ok (.ifCond .ne 9, 3) := by decide +kernel
theorem dX2_take_7 : decode cX2_take 7 = .ok (.aload_n 1, 1) := by decide +kernel
theorem dX2_take_8 : decode cX2_take 8 = .ok (.iconst 1, 1) := by decide +kernel
theorem dX2_take_9 : decode cX2_take 9 = .ok (.putfield 51, 3) := by decide +kernel
theorem dX2_take_12 : decode cX2_take 12 = .ok (.return_, 1) := by decide +kernel
theorem dX2_take_13 : decode cX2_take 13 = .ok (.aload_n 0, 1) := by decide +kernel
theorem dX2_take_14 : decode cX2_take 14 = .ok (.aload_n 1, 1) := by decide +kernel
theorem dX2_take_15 : decode cX2_take 15 = .ok (.invokevirtual 55, 3) := by decide +kernel
theorem dX2_take_18 : decode cX2_take 18 = .ok (.istore_n 2, 1) := by decide +kernel
theorem dX2_take_19 : decode cX2_take 19 = .ok (.iload_n 2, 1) := by decide +kernel
theorem dX2_take_20 : decode cX2_take 20 = .ok (.ifCond .lt 14, 3) := by decide +kernel
theorem dX2_take_23 : decode cX2_take 23 = .ok (.iload_n 2, 1) := by decide +kernel
theorem dX2_take_24 : decode cX2_take 24 = .ok (.iconst 4, 1) := by decide +kernel
theorem dX2_take_25 : decode cX2_take 25 = .ok (.if_icmp .ge 9, 3) := by decide +kernel
theorem dX2_take_28 : decode cX2_take 28 = .ok (.aload_n 0, 1) := by decide +kernel
theorem dX2_take_29 : decode cX2_take 29 = .ok (.aload_n 1, 1) := by decide +kernel
theorem dX2_take_30 : decode cX2_take 30 = .ok (.iload_n 2, 1) := by decide +kernel
theorem dX2_take_31 : decode cX2_take 31 = .ok (.invokevirtual 59, 3) := by decide +kernel
theorem dX2_take_34 : decode cX2_take 34 = .ok (.return_, 1) := by decide +kernel
theorem dX2_bestLane_0 : decode cX2_bestLane 0 = .ok (.iconst (-1), 1) := by decide +kernel
theorem dX2_bestLane_1 : decode cX2_bestLane 1 = .ok (.istore_n 2, 1) := by decide +kernel
theorem dX2_bestLane_2 : decode cX2_bestLane 2 = .ok (.iconst 0, 1) := by decide +kernel
theorem dX2_bestLane_3 : decode cX2_bestLane 3 = .ok (.istore_n 3, 1) := by decide +kernel
theorem dX2_bestLane_4 : decode cX2_bestLane 4 = .ok (.aload_n 0, 1) := by decide +kernel
theorem dX2_bestLane_5 : decode cX2_bestLane 5 = .ok (.getfield 29, 3) := by decide +kernel
theorem dX2_bestLane_8 : decode cX2_bestLane 8 = .ok (.aload_n 1, 1) := by decide +kernel
theorem dX2_bestLane_9 : decode cX2_bestLane 9 = .ok (.getfield 63, 3) := by decide +kernel
theorem dX2_bestLane_12 : decode cX2_bestLane 12 = .ok (.iadd, 1) := by decide +kernel
theorem dX2_bestLane_13 : decode cX2_bestLane 13 = .ok (.aload_n 0, 1) := by decide +kernel
theorem dX2_bestLane_14 : decode cX2_bestLane 14 = .ok (.getfield 26, 3) := by decide +kernel
theorem dX2_bestLane_17 : decode cX2_bestLane 17 = .ok (.if_icmp .gt 18, 3) := by decide +kernel
theorem dX2_bestLane_20 : decode cX2_bestLane 20 = .ok (.aload_n 1, 1) := by decide +kernel
theorem dX2_bestLane_21 : decode cX2_bestLane 21 = .ok (.getfield 64, 3) := by decide +kernel
theorem dX2_bestLane_24 : decode cX2_bestLane 24 = .ok (.ifCond .eq 13, 3) := by decide +kernel
theorem dX2_bestLane_27 : decode cX2_bestLane 27 = .ok (.aload_n 0, 1) := by decide +kernel
theorem dX2_bestLane_28 : decode cX2_bestLane 28 = .ok (.getfield 32, 3) := by decide +kernel
theorem dX2_bestLane_31 : decode cX2_bestLane 31 = .ok (.iconst 2, 1) := by decide +kernel
theorem dX2_bestLane_32 : decode cX2_bestLane 32 = .ok (.if_icmp .lt 5, 3) := by decide +kernel
theorem dX2_bestLane_35 : decode cX2_bestLane 35 = .ok (.iconst (-1), 1) := by decide +kernel
theorem dX2_bestLane_36 : decode cX2_bestLane 36 = .ok (.ireturn, 1) := by decide +kernel
theorem dX2_bestLane_37 : decode cX2_bestLane 37 = .ok (.iconst 0, 1) := by decide +kernel
theorem dX2_bestLane_38 : decode cX2_bestLane 38 = .ok (.istore 4, 2) := by decide +kernel
theorem dX2_bestLane_40 : decode cX2_bestLane 40 = .ok (.iload 4, 2) := by decide +kernel
theorem dX2_bestLane_42 : decode cX2_bestLane 42 = .ok (.aload_n 0, 1) := by decide +kernel
theorem dX2_bestLane_43 : decode cX2_bestLane 43 = .ok (.getfield 19, 3) := by decide +kernel
theorem dX2_bestLane_46 : decode cX2_bestLane 46 = .ok (.if_icmp .ge 111, 3) := by decide +kernel
theorem dX2_bestLane_49 : decode cX2_bestLane 49 = .ok (.iload 4, 2) := by decide +kernel
theorem dX2_bestLane_51 : decode cX2_bestLane 51 = .ok (.iconst 4, 1) := by decide +kernel
theorem dX2_bestLane_52 : decode cX2_bestLane 52 = .ok (.if_icmp .ge 105, 3) := by decide +kernel
theorem dX2_bestLane_55 : decode cX2_bestLane 55 = .ok (.aload_n 0, 1) := by decide +kernel
theorem dX2_bestLane_56 : decode cX2_bestLane 56 = .ok (.getfield 38, 3) := by decide +kernel
theorem dX2_bestLane_59 : decode cX2_bestLane 59 = .ok (.aload_n 0, 1) := by decide +kernel
theorem dX2_bestLane_60 : decode cX2_bestLane 60 = .ok (.iload 4, 2) := by decide +kernel
theorem dX2_bestLane_62 : decode cX2_bestLane 62 = .ok (.aload_n 1, 1) := by decide +kernel
theorem dX2_bestLane_63 : decode cX2_bestLane 63 = .ok (.getfield 63, 3) := by decide +kernel
theorem dX2_bestLane_66 : decode cX2_bestLane 66 = .ok (.invokevirtual 67, 3) := by decide +kernel
theorem dX2_bestLane_69 : decode cX2_bestLane 69 = .ok (.iadd, 1) := by decide +kernel
theorem dX2_bestLane_70 : decode cX2_bestLane 70 = .ok (.invokestatic 71, 3) := by decide +kernel
theorem dX2_bestLane_73 : decode cX2_bestLane 73 = .ok (.istore 5, 2) := by decide +kernel
theorem dX2_bestLane_75 : decode cX2_bestLane 75 = .ok (.aload_n 0, 1) := by decide +kernel
theorem dX2_bestLane_76 : decode cX2_bestLane 76 = .ok (.getfield 9, 3) := by decide +kernel
theorem dX2_bestLane_79 : decode cX2_bestLane 79 = .ok (.iload 4, 2) := by decide +kernel
theorem dX2_bestLane_81 : decode cX2_bestLane 81 = .ok (.iaload, 1) := by decide +kernel
theorem dX2_bestLane_82 : decode cX2_bestLane 82 = .ok (.aload_n 1, 1) := by decide +kernel
theorem dX2_bestLane_83 : decode cX2_bestLane 83 = .ok (.getfield 77, 3) := by decide +kernel
theorem dX2_bestLane_86 : decode cX2_bestLane 86 = .ok (.iadd, 1) := by decide +kernel
theorem dX2_bestLane_87 : decode cX2_bestLane 87 = .ok (.aload_n 0, 1) := by decide +kernel
theorem dX2_bestLane_88 : decode cX2_bestLane 88 = .ok (.getfield 23, 3) := by decide +kernel
theorem dX2_bestLane_91 : decode cX2_bestLane 91 = .ok (.if_icmp .gt 7, 3) := by decide +kernel
theorem dX2_bestLane_94 : decode cX2_bestLane 94 = .ok (.iconst 1, 1) := by decide +kernel
theorem dX2_bestLane_95 : decode cX2_bestLane 95 = .ok (.goto 4, 3) := by decide +kernel
theorem dX2_bestLane_98 : decode cX2_bestLane 98 = .ok (.iconst 0, 1) := by decide +kernel
theorem dX2_bestLane_99 : decode cX2_bestLane 99 = .ok (.istore 6, 2) := by decide +kernel
theorem dX2_bestLane_101 : decode cX2_bestLane 101 = .ok (.aload_n 1, 1) := by decide +kernel
theorem dX2_bestLane_102 : decode cX2_bestLane 102 = .ok (.getfield 64, 3) := by decide +kernel
theorem dX2_bestLane_105 : decode cX2_bestLane 105 = .ok (.ifCond .eq 12, 3) := by decide +kernel
theorem dX2_bestLane_108 : decode cX2_bestLane 108 = .ok (.aload_n 0, 1) := by decide +kernel
theorem dX2_bestLane_109 : decode cX2_bestLane 109 = .ok (.iload 4, 2) := by decide +kernel
theorem dX2_bestLane_111 : decode cX2_bestLane 111 = .ok (.invokevirtual 80, 3) := by decide +kernel
theorem dX2_bestLane_114 : decode cX2_bestLane 114 = .ok (.ifCond .ne 7, 3) := by decide +kernel
theorem dX2_bestLane_117 : decode cX2_bestLane 117 = .ok (.iconst 1, 1) := by decide +kernel
theorem dX2_bestLane_118 : decode cX2_bestLane 118 = .ok (.goto 4, 3) := by decide +kernel
theorem dX2_bestLane_121 : decode cX2_bestLane 121 = .ok (.iconst 0, 1) := by decide +kernel
theorem dX2_bestLane_122 : decode cX2_bestLane 122 = .ok (.istore 7, 2) := by decide +kernel
theorem dX2_bestLane_124 : decode cX2_bestLane 124 = .ok (.iload 6, 2) := by decide +kernel
theorem dX2_bestLane_126 : decode cX2_bestLane 126 = .ok (.ifCond .eq 25, 3) := by decide +kernel
theorem dX2_bestLane_129 : decode cX2_bestLane 129 = .ok (.iload 7, 2) := by decide +kernel
theorem dX2_bestLane_131 : decode cX2_bestLane 131 = .ok (.ifCond .eq 20, 3) := by decide +kernel
theorem dX2_bestLane_134 : decode cX2_bestLane 134 = .ok (.iload_n 2, 1) := by decide +kernel
theorem dX2_bestLane_135 : decode cX2_bestLane 135 = .ok (.iconst (-1), 1) := by decide +kernel
theorem dX2_bestLane_136 : decode cX2_bestLane 136 = .ok (.if_icmp .eq 9, 3) := by decide +kernel
theorem dX2_bestLane_139 : decode cX2_bestLane 139 = .ok (.iload 5, 2) := by decide +kernel
theorem dX2_bestLane_141 : decode cX2_bestLane 141 = .ok (.iload_n 3, 1) := by decide +kernel
theorem dX2_bestLane_142 : decode cX2_bestLane 142 = .ok (.if_icmp .ge 9, 3) := by decide +kernel
theorem dX2_bestLane_145 : decode cX2_bestLane 145 = .ok (.iload 4, 2) := by decide +kernel
theorem dX2_bestLane_147 : decode cX2_bestLane 147 = .ok (.istore_n 2, 1) := by decide +kernel
theorem dX2_bestLane_148 : decode cX2_bestLane 148 = .ok (.iload 5, 2) := by decide +kernel
theorem dX2_bestLane_150 : decode cX2_bestLane 150 = .ok (.istore_n 3, 1) := by decide +kernel
theorem dX2_bestLane_151 : decode cX2_bestLane 151 = .ok (.iinc 4 1, 3) := by decide +kernel
theorem dX2_bestLane_154 : decode cX2_bestLane 154 = .ok (.goto (-114), 3) := by decide +kernel
theorem dX2_bestLane_157 : decode cX2_bestLane 157 = .ok (.iload_n 2, 1) := by decide +kernel
theorem dX2_bestLane_158 : decode cX2_bestLane 158 = .ok (.ireturn, 1) := by decide +kernel
theorem dX2_isNearDangerous_0 : decode cX2_isNearDangerous 0 = .ok (.iload_n 1, 1) := by decide +kernel
theorem dX2_isNearDangerous_1 : decode cX2_isNearDangerous 1 = .ok (.iconst 1, 1) := by decide +kernel
theorem dX2_isNearDangerous_2 : decode cX2_isNearDangerous 2 = .ok (.isub, 1) := by decide +kernel
theorem dX2_isNearDangerous_3 : decode cX2_isNearDangerous 3 = .ok (.iconst 0, 1) := by decide +kernel
theorem dX2_isNearDangerous_4 : decode cX2_isNearDangerous 4 = .ok (.invokestatic 84, 3) := by decide +kernel
theorem dX2_isNearDangerous_7 : decode cX2_isNearDangerous 7 = .ok (.istore_n 2, 1) := by decide +kernel
theorem dX2_isNearDangerous_8 : decode cX2_isNearDangerous 8 = .ok (.iload_n 2, 1) := by decide +kernel
theorem dX2_isNearDangerous_9 : decode cX2_isNearDangerous 9 = .ok (.iload_n 1, 1) := by decide +kernel
theorem dX2_isNearDangerous_10 : decode cX2_isNearDangerous 10 = .ok (.iconst 1, 1) := by decide +kernel
theorem dX2_isNearDangerous_11 : decode cX2_isNearDangerous 11 = .ok (.iadd, 1) := by decide +kernel
theorem dX2_isNearDangerous_12 : decode cX2_isNearDangerous 12 = .ok (.if_icmp .gt 25, 3) := by decide +kernel
theorem dX2_isNearDangerous_15 : decode cX2_isNearDangerous 15 = .ok (.iload_n 2, 1) := by decide +kernel
theorem dX2_isNearDangerous_16 : decode cX2_isNearDangerous 16 = .ok (.iconst 4, 1) := by decide +kernel
theorem dX2_isNearDangerous_17 : decode cX2_isNearDangerous 17 = .ok (.if_icmp .ge 20, 3) := by decide +kernel
theorem dX2_isNearDangerous_20 : decode cX2_isNearDangerous 20 = .ok (.aload_n 0, 1) := by decide +kernel
theorem dX2_isNearDangerous_21 : decode cX2_isNearDangerous 21 = .ok (.getfield 15, 3) := by decide +kernel
theorem dX2_isNearDangerous_24 : decode cX2_isNearDangerous 24 = .ok (.iload_n 2, 1) := by decide +kernel
theorem dX2_isNearDangerous_25 : decode cX2_isNearDangerous 25 = .ok (.baload, 1) := by decide +kernel
theorem dX2_isNearDangerous_26 : decode cX2_isNearDangerous 26 = .ok (.ifCond .eq 5, 3) := by decide +kernel
theorem dX2_isNearDangerous_29 : decode cX2_isNearDangerous 29 = .ok (.iconst 1, 1) := by decide +kernel
theorem dX2_isNearDangerous_30 : decode cX2_isNearDangerous 30 = .ok (.ireturn, 1) := by decide +kernel
theorem dX2_isNearDangerous_31 : decode cX2_isNearDangerous 31 = .ok (.iinc 2 1, 3) := by decide +kernel
theorem dX2_isNearDangerous_34 : decode cX2_isNearDangerous 34 = .ok (.goto (-26), 3) := by decide +kernel
theorem dX2_isNearDangerous_37 : decode cX2_isNearDangerous 37 = .ok (.iconst 0, 1) := by decide +kernel
theorem dX2_isNearDangerous_38 : decode cX2_isNearDangerous 38 = .ok (.ireturn, 1) := by decide +kernel
theorem dX2_put_0 : decode cX2_put 0 = .ok (.iload_n 2, 1) := by decide +kernel
theorem dX2_put_1 : decode cX2_put 1 = .ok (.ifCond .lt 8, 3) := by decide +kernel
theorem dX2_put_4 : decode cX2_put 4 = .ok (.iload_n 2, 1) := by decide +kernel
theorem dX2_put_5 : decode cX2_put 5 = .ok (.iconst 4, 1) := by decide +kernel
theorem dX2_put_6 : decode cX2_put 6 = .ok (.if_icmp .lt 4, 3) := by decide +kernel
theorem dX2_put_9 : decode cX2_put 9 = .ok (.return_, 1) := by decide +kernel
theorem dX2_put_10 : decode cX2_put 10 = .ok (.aload_n 1, 1) := by decide +kernel
theorem dX2_put_11 : decode cX2_put 11 = .ok (.iconst 1, 1) := by decide +kernel
theorem dX2_put_12 : decode cX2_put 12 = .ok (.putfield 51, 3) := by decide +kernel
theorem dX2_put_15 : decode cX2_put 15 = .ok (.aload_n 1, 1) := by decide +kernel
theorem dX2_put_16 : decode cX2_put 16 = .ok (.iload_n 2, 1) := by decide +kernel
theorem dX2_put_17 : decode cX2_put 17 = .ok (.putfield 87, 3) := by decide +kernel
theorem dX2_put_20 : decode cX2_put 20 = .ok (.aload_n 1, 1) := by decide +kernel
theorem dX2_put_21 : decode cX2_put 21 = .ok (.aload_n 0, 1) := by decide +kernel
theorem dX2_put_22 : decode cX2_put 22 = .ok (.getfield 35, 3) := by decide +kernel
theorem dX2_put_25 : decode cX2_put 25 = .ok (.putfield 90, 3) := by decide +kernel
theorem dX2_put_28 : decode cX2_put 28 = .ok (.aload_n 0, 1) := by decide +kernel
theorem dX2_put_29 : decode cX2_put 29 = .ok (.dup, 1) := by decide +kernel
theorem dX2_put_30 : decode cX2_put 30 = .ok (.getfield 35, 3) := by decide +kernel
theorem dX2_put_33 : decode cX2_put 33 = .ok (.iconst 1, 1) := by decide +kernel
theorem dX2_put_34 : decode cX2_put 34 = .ok (.iadd, 1) := by decide +kernel
theorem dX2_put_35 : decode cX2_put 35 = .ok (.putfield 35, 3) := by decide +kernel
theorem dX2_put_38 : decode cX2_put 38 = .ok (.aload_n 0, 1) := by decide +kernel
theorem dX2_put_39 : decode cX2_put 39 = .ok (.getfield 9, 3) := by decide +kernel
theorem dX2_put_42 : decode cX2_put 42 = .ok (.iload_n 2, 1) := by decide +kernel
theorem dX2_put_43 : decode cX2_put 43 = .ok (.dup2, 1) := by decide +kernel
theorem dX2_put_44 : decode cX2_put 44 = .ok (.iaload, 1) := by decide +kernel
theorem dX2_put_45 : decode cX2_put 45 = .ok (.aload_n 1, 1) := by decide +kernel
theorem dX2_put_46 : decode cX2_put 46 = .ok (.getfield 77, 3) := by decide +kernel
theorem dX2_put_49 : decode cX2_put 49 = .ok (.iadd, 1) := by decide +kernel
theorem dX2_put_50 : decode cX2_put 50 = .ok (.iastore, 1) := by decide +kernel
theorem dX2_put_51 : decode cX2_put 51 = .ok (.aload_n 0, 1) := by decide +kernel
theorem dX2_put_52 : decode cX2_put 52 = .ok (.dup, 1) := by decide +kernel
theorem dX2_put_53 : decode cX2_put 53 = .ok (.getfield 29, 3) := by decide +kernel
theorem dX2_put_56 : decode cX2_put 56 = .ok (.aload_n 1, 1) := by decide +kernel
theorem dX2_put_57 : decode cX2_put 57 = .ok (.getfield 63, 3) := by decide +kernel
theorem dX2_put_60 : decode cX2_put 60 = .ok (.iadd, 1) := by decide +kernel
theorem dX2_put_61 : decode cX2_put 61 = .ok (.putfield 29, 3) := by decide +kernel
theorem dX2_put_64 : decode cX2_put 64 = .ok (.aload_n 0, 1) := by decide +kernel
theorem dX2_put_65 : decode cX2_put 65 = .ok (.dup, 1) := by decide +kernel
theorem dX2_put_66 : decode cX2_put 66 = .ok (.getfield 38, 3) := by decide +kernel
theorem dX2_put_69 : decode cX2_put 69 = .ok (.aload_n 0, 1) := by decide +kernel
theorem dX2_put_70 : decode cX2_put 70 = .ok (.iload_n 2, 1) := by decide +kernel
theorem dX2_put_71 : decode cX2_put 71 = .ok (.aload_n 1, 1) := by decide +kernel
theorem dX2_put_72 : decode cX2_put 72 = .ok (.getfield 63, 3) := by decide +kernel
theorem dX2_put_75 : decode cX2_put 75 = .ok (.invokevirtual 67, 3) := by decide +kernel
theorem dX2_put_78 : decode cX2_put 78 = .ok (.iadd, 1) := by decide +kernel
theorem dX2_put_79 : decode cX2_put 79 = .ok (.putfield 38, 3) := by decide +kernel
theorem dX2_put_82 : decode cX2_put 82 = .ok (.aload_n 1, 1) := by decide +kernel
theorem dX2_put_83 : decode cX2_put 83 = .ok (.getfield 64, 3) := by decide +kernel
theorem dX2_put_86 : decode cX2_put 86 = .ok (.ifCond .eq 20, 3) := by decide +kernel
theorem dX2_put_89 : decode cX2_put 89 = .ok (.aload_n 0, 1) := by decide +kernel
theorem dX2_put_90 : decode cX2_put 90 = .ok (.getfield 15, 3) := by decide +kernel
theorem dX2_put_93 : decode cX2_put 93 = .ok (.iload_n 2, 1) := by decide +kernel
theorem dX2_put_94 : decode cX2_put 94 = .ok (.iconst 1, 1) := by decide +kernel
theorem dX2_put_95 : decode cX2_put 95 = .ok (.bastore, 1) := by decide +kernel
theorem dX2_put_96 : decode cX2_put 96 = .ok (.aload_n 0, 1) := by decide +kernel
theorem dX2_put_97 : decode cX2_put 97 = .ok (.dup, 1) := by decide +kernel
theorem dX2_put_98 : decode cX2_put 98 = .ok (.getfield 32, 3) := by decide +kernel
theorem dX2_put_101 : decode cX2_put 101 = .ok (.iconst 1, 1) := by decide +kernel
theorem dX2_put_102 : decode cX2_put 102 = .ok (.iadd, 1) := by decide +kernel
theorem dX2_put_103 : decode cX2_put 103 = .ok (.putfield 32, 3) := by decide +kernel
theorem dX2_put_106 : decode cX2_put 106 = .ok (.return_, 1) := by decide +kernel
theorem dX2_putOff_0 : decode cX2_putOff 0 = .ok (.aload_n 0, 1) := by decide +kernel
theorem dX2_putOff_1 : decode cX2_putOff 1 = .ok (.dup, 1) := by decide +kernel
theorem dX2_putOff_2 : decode cX2_putOff 2 = .ok (.getfield 38, 3) := by decide +kernel
theorem dX2_putOff_5 : decode cX2_putOff 5 = .ok (.aload_n 0, 1) := by decide +kernel
theorem dX2_putOff_6 : decode cX2_putOff 6 = .ok (.aload_n 1, 1) := by decide +kernel
theorem dX2_putOff_7 : decode cX2_putOff 7 = .ok (.getfield 87, 3) := by decide +kernel
theorem dX2_putOff_10 : decode cX2_putOff 10 = .ok (.aload_n 1, 1) := by decide +kernel
theorem dX2_putOff_11 : decode cX2_putOff 11 = .ok (.getfield 63, 3) := by decide +kernel
theorem dX2_putOff_14 : decode cX2_putOff 14 = .ok (.invokevirtual 67, 3) := by decide +kernel
theorem dX2_putOff_17 : decode cX2_putOff 17 = .ok (.isub, 1) := by decide +kernel
theorem dX2_putOff_18 : decode cX2_putOff 18 = .ok (.putfield 38, 3) := by decide +kernel
theorem dX2_putOff_21 : decode cX2_putOff 21 = .ok (.aload_n 1, 1) := by decide +kernel
theorem dX2_putOff_22 : decode cX2_putOff 22 = .ok (.iconst 0, 1) := by decide +kernel
theorem dX2_putOff_23 : decode cX2_putOff 23 = .ok (.putfield 51, 3) := by decide +kernel
theorem dX2_putOff_26 : decode cX2_putOff 26 = .ok (.aload_n 1, 1) := by decide +kernel
theorem dX2_putOff_27 : decode cX2_putOff 27 = .ok (.iconst (-1), 1) := by decide +kernel
theorem dX2_putOff_28 : decode cX2_putOff 28 = .ok (.putfield 87, 3) := by decide +kernel
theorem dX2_putOff_31 : decode cX2_putOff 31 = .ok (.return_, 1) := by decide +kernel
theorem dX2_isOnHeavierSide_0 : decode cX2_isOnHeavierSide 0 = .ok (.aload_n 1, 1) := by decide +kernel
theorem dX2_isOnHeavierSide_1 : decode cX2_isOnHeavierSide 1 = .ok (.getfield 87, 3) := by decide +kernel
theorem dX2_isOnHeavierSide_4 : decode cX2_isOnHeavierSide 4 = .ok (.iconst (-1), 1) := by decide +kernel
theorem dX2_isOnHeavierSide_5 : decode cX2_isOnHeavierSide 5 = .ok (.if_icmp .ne 7, 3) := by decide +kernel
theorem dX2_isOnHeavierSide_8 : decode cX2_isOnHeavierSide 8 = .ok (.iconst 0, 1) := by decide +kernel
theorem dX2_isOnHeavierSide_9 : decode cX2_isOnHeavierSide 9 = .ok (.goto 15, 3) := by decide +kernel
theorem dX2_isOnHeavierSide_12 : decode cX2_isOnHeavierSide 12 = .ok (.aload_n 0, 1) := by decide +kernel
theorem dX2_isOnHeavierSide_13 : decode cX2_isOnHeavierSide 13 = .ok (.aload_n 1, 1) := by decide +kernel
theorem dX2_isOnHeavierSide_14 : decode cX2_isOnHeavierSide 14 = .ok (.getfield 87, 3) := by decide +kernel
theorem dX2_isOnHeavierSide_17 : decode cX2_isOnHeavierSide 17 = .ok (.aload_n 1, 1) := by decide +kernel
theorem dX2_isOnHeavierSide_18 : decode cX2_isOnHeavierSide 18 = .ok (.getfield 63, 3) := by decide +kernel
theorem dX2_isOnHeavierSide_21 : decode cX2_isOnHeavierSide 21 = .ok (.invokevirtual 67, 3) := by decide +kernel
theorem dX2_isOnHeavierSide_24 : decode cX2_isOnHeavierSide 24 = .ok (.istore_n 2, 1) := by decide +kernel
theorem dX2_isOnHeavierSide_25 : decode cX2_isOnHeavierSide 25 = .ok (.iload_n 2, 1) := by decide +kernel
theorem dX2_isOnHeavierSide_26 : decode cX2_isOnHeavierSide 26 = .ok (.ifCond .le 10, 3) := by decide +kernel
theorem dX2_isOnHeavierSide_29 : decode cX2_isOnHeavierSide 29 = .ok (.aload_n 0, 1) := by decide +kernel
theorem dX2_isOnHeavierSide_30 : decode cX2_isOnHeavierSide 30 = .ok (.getfield 38, 3) := by decide +kernel
theorem dX2_isOnHeavierSide_33 : decode cX2_isOnHeavierSide 33 = .ok (.ifCond .gt 14, 3) := by decide +kernel
theorem dX2_isOnHeavierSide_36 : decode cX2_isOnHeavierSide 36 = .ok (.iload_n 2, 1) := by decide +kernel
theorem dX2_isOnHeavierSide_37 : decode cX2_isOnHeavierSide 37 = .ok (.ifCond .ge 14, 3) := by decide +kernel
theorem dX2_isOnHeavierSide_40 : decode cX2_isOnHeavierSide 40 = .ok (.aload_n 0, 1) := by decide +kernel
theorem dX2_isOnHeavierSide_41 : decode cX2_isOnHeavierSide 41 = .ok (.getfield 38, 3) := by decide +kernel
theorem dX2_isOnHeavierSide_44 : decode cX2_isOnHeavierSide 44 = .ok (.ifCond .ge 7, 3) := by decide +kernel
theorem dX2_isOnHeavierSide_47 : decode cX2_isOnHeavierSide 47 = .ok (.iconst 1, 1) := by decide +kernel
theorem dX2_isOnHeavierSide_48 : decode cX2_isOnHeavierSide 48 = .ok (.goto 4, 3) := by decide +kernel
theorem dX2_isOnHeavierSide_51 : decode cX2_isOnHeavierSide 51 = .ok (.iconst 0, 1) := by decide +kernel
theorem dX2_isOnHeavierSide_52 : decode cX2_isOnHeavierSide 52 = .ok (.ireturn, 1) := by decide +kernel
theorem dX2_leanOf_0 : decode cX2_leanOf 0 = .ok (.iconst 2, 1) := by decide +kernel
theorem dX2_leanOf_1 : decode cX2_leanOf 1 = .ok (.iload_n 1, 1) := by decide +kernel
theorem dX2_leanOf_2 : decode cX2_leanOf 2 = .ok (.imul, 1) := by decide +kernel
theorem dX2_leanOf_3 : decode cX2_leanOf 3 = .ok (.aload_n 0, 1) := by decide +kernel
theorem dX2_leanOf_4 : decode cX2_leanOf 4 = .ok (.getfield 19, 3) := by decide +kernel
theorem dX2_leanOf_7 : decode cX2_leanOf 7 = .ok (.iconst 1, 1) := by decide +kernel
theorem dX2_leanOf_8 : decode cX2_leanOf 8 = .ok (.isub, 1) := by decide +kernel
theorem dX2_leanOf_9 : decode cX2_leanOf 9 = .ok (.if_icmp .ge 5, 3) := by decide +kernel
theorem dX2_leanOf_12 : decode cX2_leanOf 12 = .ok (.iload_n 2, 1) := by decide +kernel
theorem dX2_leanOf_13 : decode cX2_leanOf 13 = .ok (.ireturn, 1) := by decide +kernel
theorem dX2_leanOf_14 : decode cX2_leanOf 14 = .ok (.iconst 2, 1) := by decide +kernel
theorem dX2_leanOf_15 : decode cX2_leanOf 15 = .ok (.iload_n 1, 1) := by decide +kernel
theorem dX2_leanOf_16 : decode cX2_leanOf 16 = .ok (.imul, 1) := by decide +kernel
theorem dX2_leanOf_17 : decode cX2_leanOf 17 = .ok (.aload_n 0, 1) := by decide +kernel
theorem dX2_leanOf_18 : decode cX2_leanOf 18 = .ok (.getfield 19, 3) := by decide +kernel
theorem dX2_leanOf_21 : decode cX2_leanOf 21 = .ok (.iconst 1, 1) := by decide +kernel
theorem dX2_leanOf_22 : decode cX2_leanOf 22 = .ok (.isub, 1) := by decide +kernel
theorem dX2_leanOf_23 : decode cX2_leanOf 23 = .ok (.if_icmp .le 8, 3) := by decide +kernel
theorem dX2_leanOf_26 : decode cX2_leanOf 26 = .ok (.iload_n 2, 1) := by decide +kernel
theorem dX2_leanOf_27 : decode cX2_leanOf 27 = .ok (.ineg, 1) := by decide +kernel
theorem dX2_leanOf_28 : decode cX2_leanOf 28 = .ok (.goto 4, 3) := by decide +kernel
theorem dX2_leanOf_31 : decode cX2_leanOf 31 = .ok (.iconst 0, 1) := by decide +kernel
theorem dX2_leanOf_32 : decode cX2_leanOf 32 = .ok (.ireturn, 1) := by decide +kernel
theorem dX3_init_0 : decode cX3_init 0 = .ok (.aload_n 0, 1) := by decide +kernel
theorem dX3_init_1 : decode cX3_init 1 = .ok (.invokespecial 3, 3) := by decide +kernel
theorem dX3_init_4 : decode cX3_init 4 = .ok (.aload_n 0, 1) := by decide +kernel
theorem dX3_init_5 : decode cX3_init 5 = .ok (.iconst (-1), 1) := by decide +kernel
theorem dX3_init_6 : decode cX3_init 6 = .ok (.putfield 9, 3) := by decide +kernel
theorem dX3_init_9 : decode cX3_init 9 = .ok (.aload_n 0, 1) := by decide +kernel
theorem dX3_init_10 : decode cX3_init 10 = .ok (.iconst 0, 1) := by decide +kernel
theorem dX3_init_11 : decode cX3_init 11 = .ok (.putfield 15, 3) := by decide +kernel
theorem dX3_init_14 : decode cX3_init 14 = .ok (.aload_n 0, 1) := by decide +kernel
theorem dX3_init_15 : decode cX3_init 15 = .ok (.iconst 0, 1) := by decide +kernel
theorem dX3_init_16 : decode cX3_init 16 = .ok (.putfield 18, 3) := by decide +kernel
theorem dX3_init_19 : decode cX3_init 19 = .ok (.aload_n 0, 1) := by decide +kernel
theorem dX3_init_20 : decode cX3_init 20 = .ok (.iconst 0, 1) := by decide +kernel
theorem dX3_init_21 : decode cX3_init 21 = .ok (.putfield 21, 3) := by decide +kernel
theorem dX3_init_24 : decode cX3_init 24 = .ok (.aload_n 0, 1) := by decide +kernel
theorem dX3_init_25 : decode cX3_init 25 = .ok (.iconst 0, 1) := by decide +kernel
theorem dX3_init_26 : decode cX3_init 26 = .ok (.putfield 24, 3) := by decide +kernel
theorem dX3_init_29 : decode cX3_init 29 = .ok (.aload_n 0, 1) := by decide +kernel
theorem dX3_init_30 : decode cX3_init 30 = .ok (.iconst 0, 1) := by decide +kernel
theorem dX3_init_31 : decode cX3_init 31 = .ok (.putfield 27, 3) := by decide +kernel
theorem dX3_init_34 : decode cX3_init 34 = .ok (.aload_n 0, 1) := by decide +kernel
theorem dX3_init_35 : decode cX3_init 35 = .ok (.iconst 0, 1) := by decide +kernel
theorem dX3_init_36 : decode cX3_init 36 = .ok (.putfield 30, 3) := by decide +kernel
theorem dX3_init_39 : decode cX3_init 39 = .ok (.aload_n 0, 1) := by decide +kernel
theorem dX3_init_40 : decode cX3_init 40 = .ok (.iconst 0, 1) := by decide +kernel
theorem dX3_init_41 : decode cX3_init 41 = .ok (.putfield 33, 3) := by decide +kernel
theorem dX3_init_44 : decode cX3_init 44 = .ok (.aload_n 0, 1) := by decide +kernel
theorem dX3_init_45 : decode cX3_init 45 = .ok (.iconst (-1), 1) := by decide +kernel
theorem dX3_init_46 : decode cX3_init 46 = .ok (.putfield 36, 3) := by decide +kernel
theorem dX3_init_49 : decode cX3_init 49 = .ok (.aload_n 0, 1) := by decide +kernel
theorem dX3_init_50 : decode cX3_init 50 = .ok (.iconst 0, 1) := by decide +kernel
theorem dX3_init_51 : decode cX3_init 51 = .ok (.putfield 39, 3) := by decide +kernel
theorem dX3_init_54 : decode cX3_init 54 = .ok (.aload_n 0, 1) := by decide +kernel
theorem dX3_init_55 : decode cX3_init 55 = .ok (.iconst 0, 1) := by decide +kernel
theorem dX3_init_56 : decode cX3_init 56 = .ok (.putfield 42, 3) := by decide +kernel
theorem dX3_init_59 : decode cX3_init 59 = .ok (.return_, 1) := by decide +kernel
theorem dX4_init_0 : decode cX4_init 0 = .ok (.aload_n 0, 1) := by decide +kernel
theorem dX4_init_1 : decode cX4_init 1 = .ok (.invokespecial 1, 3) := by decide +kernel
theorem dX4_init_4 : decode cX4_init 4 = .ok (.aload_n 0, 1) := by decide +kernel
theorem dX4_init_5 : decode cX4_init 5 = .ok (.iconst 0, 1) := by decide +kernel
theorem dX4_init_6 : decode cX4_init 6 = .ok (.putfield 7, 3) := by decide +kernel
theorem dX4_init_9 : decode cX4_init 9 = .ok (.aload_n 0, 1) := by decide +kernel
theorem dX4_init_10 : decode cX4_init 10 = .ok (.iconst 0, 1) := by decide +kernel
theorem dX4_init_11 : decode cX4_init 11 = .ok (.putfield 13, 3) := by decide +kernel
theorem dX4_init_14 : decode cX4_init 14 = .ok (.aload_n 0, 1) := by decide +kernel
theorem dX4_init_15 : decode cX4_init 15 = .ok (.iconst 0, 1) := by decide +kernel
theorem dX4_init_16 : decode cX4_init 16 = .ok (.putfield 16, 3) := by decide +kernel
theorem dX4_init_19 : decode cX4_init 19 = .ok (.aload_n 0, 1) := by decide +kernel
theorem dX4_init_20 : decode cX4_init 20 = .ok (.iconst 0, 1) := by decide +kernel
theorem dX4_init_21 : decode cX4_init 21 = .ok (.putfield 19, 3) := by decide +kernel
theorem dX4_init_24 : decode cX4_init 24 = .ok (.aload_n 0, 1) := by decide +kernel
theorem dX4_init_25 : decode cX4_init 25 = .ok (.iconst 0, 1) := by decide +kernel
theorem dX4_init_26 : decode cX4_init 26 = .ok (.putfield 22, 3) := by decide +kernel
theorem dX4_init_29 : decode cX4_init 29 = .ok (.aload_n 0, 1) := by decide +kernel
theorem dX4_init_30 : decode cX4_init 30 = .ok (.iconst 0, 1) := by decide +kernel
theorem dX4_init_31 : decode cX4_init 31 = .ok (.putfield 25, 3) := by decide +kernel
theorem dX4_init_34 : decode cX4_init 34 = .ok (.aload_n 0, 1) := by decide +kernel
theorem dX4_init_35 : decode cX4_init 35 = .ok (.iconst 0, 1) := by decide +kernel
theorem dX4_init_36 : decode cX4_init 36 = .ok (.putfield 28, 3) := by decide +kernel
theorem dX4_init_39 : decode cX4_init 39 = .ok (.aload_n 0, 1) := by decide +kernel
theorem dX4_init_40 : decode cX4_init 40 = .ok (.new 31, 3) := by decide +kernel
theorem dX4_init_43 : decode cX4_init 43 = .ok (.dup, 1) := by decide +kernel
theorem dX4_init_44 : decode cX4_init 44 = .ok (.invokespecial 33, 3) := by decide +kernel
theorem dX4_init_47 : decode cX4_init 47 = .ok (.putfield 34, 3) := by decide +kernel
theorem dX4_init_50 : decode cX4_init 50 = .ok (.return_, 1) := by decide +kernel
theorem dX4_hoursFor_0 : decode cX4_hoursFor 0 = .ok (.aload_n 0, 1) := by decide +kernel
theorem dX4_hoursFor_1 : decode cX4_hoursFor 1 = .ok (.getfield 25, 3) := by decide +kernel
theorem dX4_hoursFor_4 : decode cX4_hoursFor 4 = .ok (.iconst 1, 1) := by decide +kernel
theorem dX4_hoursFor_5 : decode cX4_hoursFor 5 = .ok (.if_icmp .ge 7, 3) := by decide +kernel
theorem dX4_hoursFor_8 : decode cX4_hoursFor 8 = .ok (.iconst 0, 1) := by decide +kernel
theorem dX4_hoursFor_9 : decode cX4_hoursFor 9 = .ok (.goto 16, 3) := by decide +kernel
theorem dX4_hoursFor_12 : decode cX4_hoursFor 12 = .ok (.iload_n 1, 1) := by decide +kernel
theorem dX4_hoursFor_13 : decode cX4_hoursFor 13 = .ok (.aload_n 0, 1) := by decide +kernel
theorem dX4_hoursFor_14 : decode cX4_hoursFor 14 = .ok (.getfield 25, 3) := by decide +kernel
theorem dX4_hoursFor_17 : decode cX4_hoursFor 17 = .ok (.iadd, 1) := by decide +kernel
theorem dX4_hoursFor_18 : decode cX4_hoursFor 18 = .ok (.iconst 1, 1) := by decide +kernel
theorem dX4_hoursFor_19 : decode cX4_hoursFor 19 = .ok (.isub, 1) := by decide +kernel
theorem dX4_hoursFor_20 : decode cX4_hoursFor 20 = .ok (.aload_n 0, 1) := by decide +kernel
theorem dX4_hoursFor_21 : decode cX4_hoursFor 21 = .ok (.getfield 25, 3) := by decide +kernel
theorem dX4_hoursFor_24 : decode cX4_hoursFor 24 = .ok (.idiv, 1) := by decide +kernel
theorem dX4_hoursFor_25 : decode cX4_hoursFor 25 = .ok (.ireturn, 1) := by decide +kernel
theorem dX4_burns_0 : decode cX4_burns 0 = .ok (.iload_n 1, 1) := by decide +kernel
theorem dX4_burns_1 : decode cX4_burns 1 = .ok (.i2f, 1) := by decide +kernel
theorem dX4_burns_2 : decode cX4_burns 2 = .ok (.aload_n 0, 1) := by decide +kernel
theorem dX4_burns_3 : decode cX4_burns 3 = .ok (.getfield 25, 3) := by decide +kernel
theorem dX4_burns_6 : decode cX4_burns 6 = .ok (.i2f, 1) := by decide +kernel
theorem dX4_burns_7 : decode cX4_burns 7 = .ok (.fmul, 1) := by decide +kernel
theorem dX4_burns_8 : decode cX4_burns 8 = .ok (.aload_n 0, 1) := by decide +kernel
theorem dX4_burns_9 : decode cX4_burns 9 = .ok (.getfield 25, 3) := by decide +kernel
theorem dX4_burns_12 : decode cX4_burns 12 = .ok (.i2f, 1) := by decide +kernel
theorem dX4_burns_13 : decode cX4_burns 13 = .ok (.fmul, 1) := by decide +kernel
theorem dX4_burns_14 : decode cX4_burns 14 = .ok (.ldc 38, 2) := by decide +kernel
theorem dX4_burns_16 : decode cX4_burns 16 = .ok (.fdiv, 1) := by decide +kernel
theorem dX4_burns_17 : decode cX4_burns 17 = .ok (.f2i, 1) := by decide +kernel
theorem dX4_burns_18 : decode cX4_burns 18 = .ok (.ireturn, 1) := by decide +kernel
theorem dX5_init_0 : decode cX5_init 0 = .ok (.aload_n 0, 1) := by decide +kernel
theorem dX5_init_1 : decode cX5_init 1 = .ok (.invokespecial 3, 3) := by decide +kernel
theorem dX5_init_4 : decode cX5_init 4 = .ok (.aload_n 0, 1) := by decide +kernel
theorem dX5_init_5 : decode cX5_init 5 = .ok (.iconst 0, 1) := by decide +kernel
theorem dX5_init_6 : decode cX5_init 6 = .ok (.putfield 9, 3) := by decide +kernel
theorem dX5_init_9 : decode cX5_init 9 = .ok (.aload_n 0, 1) := by decide +kernel
theorem dX5_init_10 : decode cX5_init 10 = .ok (.iconst (-1), 1) := by decide +kernel
theorem dX5_init_11 : decode cX5_init 11 = .ok (.putfield 15, 3) := by decide +kernel
theorem dX5_init_14 : decode cX5_init 14 = .ok (.return_, 1) := by decide +kernel
theorem dX5_tell_0 : decode cX5_tell 0 = .ok (.aload_n 0, 1) := by decide +kernel
theorem dX5_tell_1 : decode cX5_tell 1 = .ok (.iload_n 1, 1) := by decide +kernel
theorem dX5_tell_2 : decode cX5_tell 2 = .ok (.putfield 9, 3) := by decide +kernel
theorem dX5_tell_5 : decode cX5_tell 5 = .ok (.aload_n 0, 1) := by decide +kernel
theorem dX5_tell_6 : decode cX5_tell 6 = .ok (.iload_n 2, 1) := by decide +kernel
theorem dX5_tell_7 : decode cX5_tell 7 = .ok (.putfield 15, 3) := by decide +kernel
theorem dX5_tell_10 : decode cX5_tell 10 = .ok (.return_, 1) := by decide +kernel
theorem dX5_has_0 : decode cX5_has 0 = .ok (.aload_n 0, 1) := by decide +kernel
theorem dX5_has_1 : decode cX5_has 1 = .ok (.getfield 9, 3) := by decide +kernel
theorem dX5_has_4 : decode cX5_has 4 = .ok (.iload_n 1, 1) := by decide +kernel
theorem dX5_has_5 : decode cX5_has 5 = .ok (.if_icmp .gt 15, 3) := by decide +kernel
theorem dX5_has_8 : decode cX5_has 8 = .ok (.iload_n 1, 1) := by decide +kernel
theorem dX5_has_9 : decode cX5_has 9 = .ok (.aload_n 0, 1) := by decide +kernel
theorem dX5_has_10 : decode cX5_has 10 = .ok (.getfield 15, 3) := by decide +kernel
theorem dX5_has_13 : decode cX5_has 13 = .ok (.if_icmp .gt 7, 3) := by decide +kernel
theorem dX5_has_16 : decode cX5_has 16 = .ok (.iconst 1, 1) := by decide +kernel
theorem dX5_has_17 : decode cX5_has 17 = .ok (.goto 4, 3) := by decide +kernel
theorem dX5_has_20 : decode cX5_has 20 = .ok (.iconst 0, 1) := by decide +kernel
theorem dX5_has_21 : decode cX5_has 21 = .ok (.ireturn, 1) := by decide +kernel
theorem dX6_init_0 : decode cX6_init 0 = .ok (.aload_n 0, 1) := by decide +kernel
theorem dX6_init_1 : decode cX6_init 1 = .ok (.invokespecial 1, 3) := by decide +kernel
theorem dX6_init_4 : decode cX6_init 4 = .ok (.aload_n 0, 1) := by decide +kernel
theorem dX6_init_5 : decode cX6_init 5 = .ok (.iconst 4, 1) := by decide +kernel
theorem dX6_init_6 : decode cX6_init 6 = .ok (.anewarray 9, 3) := by decide +kernel
theorem dX6_init_9 : decode cX6_init 9 = .ok (.putfield 11, 3) := by decide +kernel
theorem dX6_init_12 : decode cX6_init 12 = .ok (.aload_n 0, 1) := by decide +kernel
theorem dX6_init_13 : decode cX6_init 13 = .ok (.bipush 6, 2) := by decide +kernel
theorem dX6_init_15 : decode cX6_init 15 = .ok (.anewarray 15, 3) := by decide +kernel
theorem dX6_init_18 : decode cX6_init 18 = .ok (.putfield 17, 3) := by decide +kernel
theorem dX6_init_21 : decode cX6_init 21 = .ok (.aload_n 0, 1) := by decide +kernel
theorem dX6_init_22 : decode cX6_init 22 = .ok (.bipush 24, 2) := by decide +kernel
theorem dX6_init_24 : decode cX6_init 24 = .ok (.anewarray 21, 3) := by decide +kernel
theorem dX6_init_27 : decode cX6_init 27 = .ok (.putfield 23, 3) := by decide +kernel
theorem dX6_init_30 : decode cX6_init 30 = .ok (.aload_n 0, 1) := by decide +kernel
theorem dX6_init_31 : decode cX6_init 31 = .ok (.bipush 40, 2) := by decide +kernel
theorem dX6_init_33 : decode cX6_init 33 = .ok (.anewarray 27, 3) := by decide +kernel
theorem dX6_init_36 : decode cX6_init 36 = .ok (.putfield 29, 3) := by decide +kernel
theorem dX6_init_39 : decode cX6_init 39 = .ok (.aload_n 0, 1) := by decide +kernel
theorem dX6_init_40 : decode cX6_init 40 = .ok (.bipush 10, 2) := by decide +kernel
theorem dX6_init_42 : decode cX6_init 42 = .ok (.newarray .int, 2) := by decide +kernel
theorem dX6_init_44 : decode cX6_init 44 = .ok (.putfield 33, 3) := by decide +kernel
theorem dX6_init_47 : decode cX6_init 47 = .ok (.aload_n 0, 1) := by decide +kernel
theorem dX6_init_48 : decode cX6_init 48 = .ok (.bipush 6, 2) := by decide +kernel
theorem dX6_init_50 : decode cX6_init 50 = .ok (.newarray .int, 2) := by decide +kernel
theorem dX6_init_52 : decode cX6_init 52 = .ok (.putfield 37, 3) := by decide +kernel
theorem dX6_init_55 : decode cX6_init 55 = .ok (.aload_n 0, 1) := by decide +kernel
theorem dX6_init_56 : decode cX6_init 56 = .ok (.bipush 6, 2) := by decide +kernel
theorem dX6_init_58 : decode cX6_init 58 = .ok (.newarray .int, 2) := by decide +kernel
theorem dX6_init_60 : decode cX6_init 60 = .ok (.putfield 40, 3) := by decide +kernel
theorem dX6_init_63 : decode cX6_init 63 = .ok (.aload_n 0, 1) := by decide +kernel
theorem dX6_init_64 : decode cX6_init 64 = .ok (.iconst 3, 1) := by decide +kernel
theorem dX6_init_65 : decode cX6_init 65 = .ok (.newarray .long, 2) := by decide +kernel
theorem dX6_init_67 : decode cX6_init 67 = .ok (.putfield 43, 3) := by decide +kernel
theorem dX6_init_70 : decode cX6_init 70 = .ok (.aload_n 0, 1) := by decide +kernel
theorem dX6_init_71 : decode cX6_init 71 = .ok (.new 47, 3) := by decide +kernel
theorem dX6_init_74 : decode cX6_init 74 = .ok (.dup, 1) := by decide +kernel
theorem dX6_init_75 : decode cX6_init 75 = .ok (.invokespecial 49, 3) := by decide +kernel
theorem dX6_init_78 : decode cX6_init 78 = .ok (.putfield 50, 3) := by decide +kernel
theorem dX6_init_81 : decode cX6_init 81 = .ok (.aload_n 0, 1) := by decide +kernel
theorem dX6_init_82 : decode cX6_init 82 = .ok (.new 47, 3) := by decide +kernel
theorem dX6_init_85 : decode cX6_init 85 = .ok (.dup, 1) := by decide +kernel
theorem dX6_init_86 : decode cX6_init 86 = .ok (.invokespecial 49, 3) := by decide +kernel
theorem dX6_init_89 : decode cX6_init 89 = .ok (.putfield 54, 3) := by decide +kernel
theorem dX6_init_92 : decode cX6_init 92 = .ok (.aload_n 0, 1) := by decide +kernel
theorem dX6_init_93 : decode cX6_init 93 = .ok (.new 57, 3) := by decide +kernel
theorem dX6_init_96 : decode cX6_init 96 = .ok (.dup, 1) := by decide +kernel
theorem dX6_init_97 : decode cX6_init 97 = .ok (.invokespecial 59, 3) := by decide +kernel
theorem dX6_init_100 : decode cX6_init 100 = .ok (.putfield 60, 3) := by decide +kernel
theorem dX6_init_103 : decode cX6_init 103 = .ok (.aload_n 0, 1) := by decide +kernel
theorem dX6_init_104 : decode cX6_init 104 = .ok (.iconst 0, 1) := by decide +kernel
theorem dX6_init_105 : decode cX6_init 105 = .ok (.putfield 64, 3) := by decide +kernel
theorem dX6_init_108 : decode cX6_init 108 = .ok (.aload_n 0, 1) := by decide +kernel
theorem dX6_init_109 : decode cX6_init 109 = .ok (.iconst 0, 1) := by decide +kernel
theorem dX6_init_110 : decode cX6_init 110 = .ok (.putfield 68, 3) := by decide +kernel
theorem dX6_init_113 : decode cX6_init 113 = .ok (.aload_n 0, 1) := by decide +kernel
theorem dX6_init_114 : decode cX6_init 114 = .ok (.iconst 0, 1) := by decide +kernel
theorem dX6_init_115 : decode cX6_init 115 = .ok (.putfield 71, 3) := by decide +kernel
theorem dX6_init_118 : decode cX6_init 118 = .ok (.aload_n 0, 1) := by decide +kernel
theorem dX6_init_119 : decode cX6_init 119 = .ok (.iconst 0, 1) := by decide +kernel
theorem dX6_init_120 : decode cX6_init 120 = .ok (.putfield 74, 3) := by decide +kernel
theorem dX6_init_123 : decode cX6_init 123 = .ok (.aload_n 0, 1) := by decide +kernel
theorem dX6_init_124 : decode cX6_init 124 = .ok (.iconst 0, 1) := by decide +kernel
theorem dX6_init_125 : decode cX6_init 125 = .ok (.putfield 77, 3) := by decide +kernel
theorem dX6_init_128 : decode cX6_init 128 = .ok (.iconst 0, 1) := by decide +kernel
theorem dX6_init_129 : decode cX6_init 129 = .ok (.istore_n 1, 1) := by decide +kernel
theorem dX6_init_130 : decode cX6_init 130 = .ok (.iload_n 1, 1) := by decide +kernel
theorem dX6_init_131 : decode cX6_init 131 = .ok (.iconst 4, 1) := by decide +kernel
theorem dX6_init_132 : decode cX6_init 132 = .ok (.if_icmp .ge 22, 3) := by decide +kernel
theorem dX6_init_135 : decode cX6_init 135 = .ok (.aload_n 0, 1) := by decide +kernel
theorem dX6_init_136 : decode cX6_init 136 = .ok (.getfield 11, 3) := by decide +kernel
theorem dX6_init_139 : decode cX6_init 139 = .ok (.iload_n 1, 1) := by decide +kernel
theorem dX6_init_140 : decode cX6_init 140 = .ok (.new 9, 3) := by decide +kernel
theorem dX6_init_143 : decode cX6_init 143 = .ok (.dup, 1) := by decide +kernel
theorem dX6_init_144 : decode cX6_init 144 = .ok (.invokespecial 80, 3) := by decide +kernel
theorem dX6_init_147 : decode cX6_init 147 = .ok (.aastore, 1) := by decide +kernel
theorem dX6_init_148 : decode cX6_init 148 = .ok (.iinc 1 1, 3) := by decide +kernel
theorem dX6_init_151 : decode cX6_init 151 = .ok (.goto (-21), 3) := by decide +kernel
theorem dX6_init_154 : decode cX6_init 154 = .ok (.iconst 0, 1) := by decide +kernel
theorem dX6_init_155 : decode cX6_init 155 = .ok (.istore_n 1, 1) := by decide +kernel
theorem dX6_init_156 : decode cX6_init 156 = .ok (.iload_n 1, 1) := by decide +kernel
theorem dX6_init_157 : decode cX6_init 157 = .ok (.bipush 6, 2) := by decide +kernel
theorem dX6_init_159 : decode cX6_init 159 = .ok (.if_icmp .ge 22, 3) := by decide +kernel
theorem dX6_init_162 : decode cX6_init 162 = .ok (.aload_n 0, 1) := by decide +kernel
theorem dX6_init_163 : decode cX6_init 163 = .ok (.getfield 17, 3) := by decide +kernel
theorem dX6_init_166 : decode cX6_init 166 = .ok (.iload_n 1, 1) := by decide +kernel
theorem dX6_init_167 : decode cX6_init 167 = .ok (.new 15, 3) := by decide +kernel
theorem dX6_init_170 : decode cX6_init 170 = .ok (.dup, 1) := by decide +kernel
theorem dX6_init_171 : decode cX6_init 171 = .ok (.invokespecial 81, 3) := by decide +kernel
theorem dX6_init_174 : decode cX6_init 174 = .ok (.aastore, 1) := by decide +kernel
theorem dX6_init_175 : decode cX6_init 175 = .ok (.iinc 1 1, 3) := by decide +kernel
theorem dX6_init_178 : decode cX6_init 178 = .ok (.goto (-22), 3) := by decide +kernel
theorem dX6_init_181 : decode cX6_init 181 = .ok (.iconst 0, 1) := by decide +kernel
theorem dX6_init_182 : decode cX6_init 182 = .ok (.istore_n 1, 1) := by decide +kernel
theorem dX6_init_183 : decode cX6_init 183 = .ok (.iload_n 1, 1) := by decide +kernel
theorem dX6_init_184 : decode cX6_init 184 = .ok (.bipush 24, 2) := by decide +kernel
theorem dX6_init_186 : decode cX6_init 186 = .ok (.if_icmp .ge 22, 3) := by decide +kernel
theorem dX6_init_189 : decode cX6_init 189 = .ok (.aload_n 0, 1) := by decide +kernel
theorem dX6_init_190 : decode cX6_init 190 = .ok (.getfield 23, 3) := by decide +kernel
theorem dX6_init_193 : decode cX6_init 193 = .ok (.iload_n 1, 1) := by decide +kernel
theorem dX6_init_194 : decode cX6_init 194 = .ok (.new 21, 3) := by decide +kernel
theorem dX6_init_197 : decode cX6_init 197 = .ok (.dup, 1) := by decide +kernel
theorem dX6_init_198 : decode cX6_init 198 = .ok (.invokespecial 82, 3) := by decide +kernel
theorem dX6_init_201 : decode cX6_init 201 = .ok (.aastore, 1) := by decide +kernel
theorem dX6_init_202 : decode cX6_init 202 = .ok (.iinc 1 1, 3) := by decide +kernel
theorem dX6_init_205 : decode cX6_init 205 = .ok (.goto (-22), 3) := by decide +kernel
theorem dX6_init_208 : decode cX6_init 208 = .ok (.iconst 0, 1) := by decide +kernel
theorem dX6_init_209 : decode cX6_init 209 = .ok (.istore_n 1, 1) := by decide +kernel
theorem dX6_init_210 : decode cX6_init 210 = .ok (.iload_n 1, 1) := by decide +kernel
theorem dX6_init_211 : decode cX6_init 211 = .ok (.bipush 40, 2) := by decide +kernel
theorem dX6_init_213 : decode cX6_init 213 = .ok (.if_icmp .ge 22, 3) := by decide +kernel
theorem dX6_init_216 : decode cX6_init 216 = .ok (.aload_n 0, 1) := by decide +kernel
theorem dX6_init_217 : decode cX6_init 217 = .ok (.getfield 29, 3) := by decide +kernel
theorem dX6_init_220 : decode cX6_init 220 = .ok (.iload_n 1, 1) := by decide +kernel
theorem dX6_init_221 : decode cX6_init 221 = .ok (.new 27, 3) := by decide +kernel
theorem dX6_init_224 : decode cX6_init 224 = .ok (.dup, 1) := by decide +kernel
theorem dX6_init_225 : decode cX6_init 225 = .ok (.invokespecial 83, 3) := by decide +kernel
theorem dX6_init_228 : decode cX6_init 228 = .ok (.aastore, 1) := by decide +kernel
theorem dX6_init_229 : decode cX6_init 229 = .ok (.iinc 1 1, 3) := by decide +kernel
theorem dX6_init_232 : decode cX6_init 232 = .ok (.goto (-22), 3) := by decide +kernel
theorem dX6_init_235 : decode cX6_init 235 = .ok (.iconst 0, 1) := by decide +kernel
theorem dX6_init_236 : decode cX6_init 236 = .ok (.istore_n 1, 1) := by decide +kernel
theorem dX6_init_237 : decode cX6_init 237 = .ok (.iload_n 1, 1) := by decide +kernel
theorem dX6_init_238 : decode cX6_init 238 = .ok (.bipush 10, 2) := by decide +kernel
theorem dX6_init_240 : decode cX6_init 240 = .ok (.if_icmp .ge 16, 3) := by decide +kernel
theorem dX6_init_243 : decode cX6_init 243 = .ok (.aload_n 0, 1) := by decide +kernel
theorem dX6_init_244 : decode cX6_init 244 = .ok (.getfield 33, 3) := by decide +kernel
theorem dX6_init_247 : decode cX6_init 247 = .ok (.iload_n 1, 1) := by decide +kernel
theorem dX6_init_248 : decode cX6_init 248 = .ok (.iconst (-1), 1) := by decide +kernel
theorem dX6_init_249 : decode cX6_init 249 = .ok (.iastore, 1) := by decide +kernel
theorem dX6_init_250 : decode cX6_init 250 = .ok (.iinc 1 1, 3) := by decide +kernel
theorem dX6_init_253 : decode cX6_init 253 = .ok (.goto (-16), 3) := by decide +kernel
theorem dX6_init_256 : decode cX6_init 256 = .ok (.return_, 1) := by decide +kernel
theorem dX6_ship_0 : decode cX6_ship 0 = .ok (.iload_n 1, 1) := by decide +kernel
theorem dX6_ship_1 : decode cX6_ship 1 = .ok (.bipush 6, 2) := by decide +kernel
theorem dX6_ship_3 : decode cX6_ship 3 = .ok (.invokestatic 84, 3) := by decide +kernel
theorem dX6_ship_6 : decode cX6_ship 6 = .ok (.iload_n 2, 1) := by decide +kernel
theorem dX6_ship_7 : decode cX6_ship 7 = .ok (.iconst 1, 1) := by decide +kernel
theorem dX6_ship_8 : decode cX6_ship 8 = .ok (.iconst 4, 1) := by decide +kernel
theorem dX6_ship_9 : decode cX6_ship 9 = .ok (.invokestatic 88, 3) := by decide +kernel
theorem dX6_ship_12 : decode cX6_ship 12 = .ok (.ifCond .eq 52, 3) := by decide +kernel
theorem dX6_ship_15 : decode cX6_ship 15 = .ok (.iload_n 3, 1) := by decide +kernel
theorem dX6_ship_16 : decode cX6_ship 16 = .ok (.bipush 10, 2) := by decide +kernel
theorem dX6_ship_18 : decode cX6_ship 18 = .ok (.bipush 100, 2) := by decide +kernel
theorem dX6_ship_20 : decode cX6_ship 20 = .ok (.invokestatic 88, 3) := by decide +kernel
theorem dX6_ship_23 : decode cX6_ship 23 = .ok (.ifCond .eq 41, 3) := by decide +kernel
theorem dX6_ship_26 : decode cX6_ship 26 = .ok (.iload 4, 2) := by decide +kernel
theorem dX6_ship_28 : decode cX6_ship 28 = .ok (.iconst 1, 1) := by decide +kernel
theorem dX6_ship_29 : decode cX6_ship 29 = .ok (.sipush 1000, 3) := by decide +kernel
theorem dX6_ship_32 : decode cX6_ship 32 = .ok (.invokestatic 88, 3) := by decide +kernel
theorem dX6_ship_35 : decode cX6_ship 35 = .ok (.ifCond .eq 29, 3) := by decide +kernel
theorem dX6_ship_38 : decode cX6_ship 38 = .ok (.iload 5, 2) := by decide +kernel
theorem dX6_ship_40 : decode cX6_ship 40 = .ok (.iconst 1, 1) := by decide +kernel
theorem dX6_ship_41 : decode cX6_ship 41 = .ok (.bipush 9, 2) := by decide +kernel
theorem dX6_ship_43 : decode cX6_ship 43 = .ok (.invokestatic 88, 3) := by decide +kernel
theorem dX6_ship_46 : decode cX6_ship 46 = .ok (.ifCond .eq 18, 3) := by decide +kernel
theorem dX6_ship_49 : decode cX6_ship 49 = .ok (.iload 6, 2) := by decide +kernel
theorem dX6_ship_51 : decode cX6_ship 51 = .ok (.iconst 1, 1) := by decide +kernel
theorem dX6_ship_52 : decode cX6_ship 52 = .ok (.bipush 40, 2) := by decide +kernel
theorem dX6_ship_54 : decode cX6_ship 54 = .ok (.invokestatic 88, 3) := by decide +kernel
theorem dX6_ship_57 : decode cX6_ship 57 = .ok (.ifCond .eq 7, 3) := by decide +kernel
theorem dX6_ship_60 : decode cX6_ship 60 = .ok (.iconst 1, 1) := by decide +kernel
theorem dX6_ship_61 : decode cX6_ship 61 = .ok (.goto 4, 3) := by decide +kernel
theorem dX6_ship_64 : decode cX6_ship 64 = .ok (.iconst 0, 1) := by decide +kernel
theorem dX6_ship_65 : decode cX6_ship 65 = .ok (.invokestatic 92, 3) := by decide +kernel
theorem dX6_ship_68 : decode cX6_ship 68 = .ok (.aload_n 0, 1) := by decide +kernel
theorem dX6_ship_69 : decode cX6_ship 69 = .ok (.getfield 64, 3) := by decide +kernel
theorem dX6_ship_72 : decode cX6_ship 72 = .ok (.iconst 4, 1) := by decide +kernel
theorem dX6_ship_73 : decode cX6_ship 73 = .ok (.if_icmp .ge 7, 3) := by decide +kernel
theorem dX6_ship_76 : decode cX6_ship 76 = .ok (.iconst 1, 1) := by decide +kernel
theorem dX6_ship_77 : decode cX6_ship 77 = .ok (.goto 4, 3) := by decide +kernel
theorem dX6_ship_80 : decode cX6_ship 80 = .ok (.iconst 0, 1) := by decide +kernel
theorem dX6_ship_81 : decode cX6_ship 81 = .ok (.invokestatic 96, 3) := by decide +kernel
theorem dX6_ship_84 : decode cX6_ship 84 = .ok (.aload_n 0, 1) := by decide +kernel
theorem dX6_ship_85 : decode cX6_ship 85 = .ok (.getfield 64, 3) := by decide +kernel
theorem dX6_ship_88 : decode cX6_ship 88 = .ok (.istore 7, 2) := by decide +kernel
theorem dX6_ship_90 : decode cX6_ship 90 = .ok (.aload_n 0, 1) := by decide +kernel
theorem dX6_ship_91 : decode cX6_ship 91 = .ok (.dup, 1) := by decide +kernel
theorem dX6_ship_92 : decode cX6_ship 92 = .ok (.getfield 64, 3) := by decide +kernel
theorem dX6_ship_95 : decode cX6_ship 95 = .ok (.iconst 1, 1) := by decide +kernel
theorem dX6_ship_96 : decode cX6_ship 96 = .ok (.iadd, 1) := by decide +kernel
theorem dX6_ship_97 : decode cX6_ship 97 = .ok (.putfield 64, 3) := by decide +kernel
theorem dX6_ship_100 : decode cX6_ship 100 = .ok (.aload_n 0, 1) := by decide +kernel
theorem dX6_ship_101 : decode cX6_ship 101 = .ok (.iload 7, 2) := by decide +kernel
theorem dX6_ship_103 : decode cX6_ship 103 = .ok (.invokevirtual 99, 3) := by decide +kernel
theorem dX6_ship_106 : decode cX6_ship 106 = .ok (.astore 8, 2) := by decide +kernel
theorem dX6_ship_108 : decode cX6_ship 108 = .ok (.aload 8, 2) := by decide +kernel
theorem dX6_ship_110 : decode cX6_ship 110 = .ok (.iload_n 1, 1) := by decide +kernel
theorem dX6_ship_111 : decode cX6_ship 111 = .ok (.putfield 103, 3) := by decide +kernel
theorem dX6_ship_114 : decode cX6_ship 114 = .ok (.aload 8, 2) := by decide +kernel
theorem dX6_ship_116 : decode cX6_ship 116 = .ok (.iload_n 2, 1) := by decide +kernel
theorem dX6_ship_117 : decode cX6_ship 117 = .ok (.putfield 106, 3) := by decide +kernel
theorem dX6_ship_120 : decode cX6_ship 120 = .ok (.aload 8, 2) := by decide +kernel
theorem dX6_ship_122 : decode cX6_ship 122 = .ok (.iload_n 3, 1) := by decide +kernel
theorem dX6_ship_123 : decode cX6_ship 123 = .ok (.putfield 109, 3) := by decide +kernel
theorem dX6_ship_126 : decode cX6_ship 126 = .ok (.aload 8, 2) := by decide +kernel
theorem dX6_ship_128 : decode cX6_ship 128 = .ok (.iload 4, 2) := by decide +kernel
theorem dX6_ship_130 : decode cX6_ship 130 = .ok (.putfield 112, 3) := by decide +kernel
theorem dX6_ship_133 : decode cX6_ship 133 = .ok (.aload 8, 2) := by decide +kernel
theorem dX6_ship_135 : decode cX6_ship 135 = .ok (.iload 5, 2) := by decide +kernel
theorem dX6_ship_137 : decode cX6_ship 137 = .ok (.putfield 115, 3) := by decide +kernel
theorem dX6_ship_140 : decode cX6_ship 140 = .ok (.aload 8, 2) := by decide +kernel
theorem dX6_ship_142 : decode cX6_ship 142 = .ok (.iload 6, 2) := by decide +kernel
theorem dX6_ship_144 : decode cX6_ship 144 = .ok (.putfield 118, 3) := by decide +kernel
theorem dX6_ship_147 : decode cX6_ship 147 = .ok (.iload 7, 2) := by decide +kernel
theorem dX6_ship_149 : decode cX6_ship 149 = .ok (.ireturn, 1) := by decide +kernel
theorem dX6_fill_0 : decode cX6_fill 0 = .ok (.aload_n 0, 1) := by decide +kernel
theorem dX6_fill_1 : decode cX6_fill 1 = .ok (.iload_n 1, 1) := by decide +kernel
theorem dX6_fill_2 : decode cX6_fill 2 = .ok (.invokevirtual 99, 3) := by decide +kernel
theorem dX6_fill_5 : decode cX6_fill 5 = .ok (.astore_n 3, 1) := by decide +kernel
theorem dX6_fill_6 : decode cX6_fill 6 = .ok (.iload_n 2, 1) := by decide +kernel
theorem dX6_fill_7 : decode cX6_fill 7 = .ok (.iconst 1, 1) := by decide +kernel
theorem dX6_fill_8 : decode cX6_fill 8 = .ok (.sipush 1000, 3) := by decide +kernel
theorem dX6_fill_11 : decode cX6_fill 11 = .ok (.invokestatic 88, 3) := by decide +kernel
theorem dX6_fill_14 : decode cX6_fill 14 = .ok (.invokestatic 92, 3) := by decide +kernel
theorem dX6_fill_17 : decode cX6_fill 17 = .ok (.aload_n 3, 1) := by decide +kernel
theorem dX6_fill_18 : decode cX6_fill 18 = .ok (.getfield 121, 3) := by decide +kernel
theorem dX6_fill_21 : decode cX6_fill 21 = .ok (.iload_n 2, 1) := by decide +kernel
theorem dX6_fill_22 : decode cX6_fill 22 = .ok (.iadd, 1) := by decide +kernel
theorem dX6_fill_23 : decode cX6_fill 23 = .ok (.sipush 1000, 3) := by decide +kernel
theorem dX6_fill_26 : decode cX6_fill 26 = .ok (.if_icmp .gt 7, 3) := by decide +kernel
theorem dX6_fill_29 : decode cX6_fill 29 = .ok (.iconst 1, 1) := by decide +kernel
theorem dX6_fill_30 : decode cX6_fill 30 = .ok (.goto 4, 3) := by decide +kernel
theorem dX6_fill_33 : decode cX6_fill 33 = .ok (.iconst 0, 1) := by decide +kernel
theorem dX6_fill_34 : decode cX6_fill 34 = .ok (.invokestatic 96, 3) := by decide +kernel
theorem dX6_fill_37 : decode cX6_fill 37 = .ok (.aload_n 3, 1) := by decide +kernel
theorem dX6_fill_38 : decode cX6_fill 38 = .ok (.dup, 1) := by decide +kernel
theorem dX6_fill_39 : decode cX6_fill 39 = .ok (.getfield 121, 3) := by decide +kernel
theorem dX6_fill_42 : decode cX6_fill 42 = .ok (.iload_n 2, 1) := by decide +kernel
theorem dX6_fill_43 : decode cX6_fill 43 = .ok (.iadd, 1) := by decide +kernel
theorem dX6_fill_44 : decode cX6_fill 44 = .ok (.putfield 121, 3) := by decide +kernel
theorem dX6_fill_47 : decode cX6_fill 47 = .ok (.aload_n 0, 1) := by decide +kernel
theorem dX6_fill_48 : decode cX6_fill 48 = .ok (.getfield 43, 3) := by decide +kernel
theorem dX6_fill_51 : decode cX6_fill 51 = .ok (.iconst 2, 1) := by decide +kernel
theorem dX6_fill_52 : decode cX6_fill 52 = .ok (.dup2, 1) := by decide +kernel
theorem dX6_fill_53 : decode cX6_fill 53 = .ok (.laload, 1) := by decide +kernel
theorem dX6_fill_54 : decode cX6_fill 54 = .ok (.iconst 3, 1) := by decide +kernel
theorem dX6_fill_55 : decode cX6_fill 55 = .ok (.iload_n 2, 1) := by decide +kernel
theorem dX6_fill_56 : decode cX6_fill 56 = .ok (.imul, 1) := by decide +kernel
theorem dX6_fill_57 : decode cX6_fill 57 = .ok (.i2l, 1) := by decide +kernel
theorem dX6_fill_58 : decode cX6_fill 58 = .ok (.lsub, 1) := by decide +kernel
theorem dX6_fill_59 : decode cX6_fill 59 = .ok (.lastore, 1) := by decide +kernel
theorem dX6_fill_60 : decode cX6_fill 60 = .ok (.aload_n 3, 1) := by decide +kernel
theorem dX6_fill_61 : decode cX6_fill 61 = .ok (.getfield 121, 3) := by decide +kernel
theorem dX6_fill_64 : decode cX6_fill 64 = .ok (.ireturn, 1) := by decide +kernel
theorem dX6_crew_0 : decode cX6_crew 0 = .ok (.iload_n 1, 1) := by decide +kernel
theorem dX6_crew_1 : decode cX6_crew 1 = .ok (.aload_n 0, 1) := by decide +kernel
theorem dX6_crew_2 : decode cX6_crew 2 = .ok (.getfield 64, 3) := by decide +kernel
theorem dX6_crew_5 : decode cX6_crew 5 = .ok (.invokestatic 84, 3) := by decide +kernel
theorem dX6_crew_8 : decode cX6_crew 8 = .ok (.iload_n 2, 1) := by decide +kernel
theorem dX6_crew_9 : decode cX6_crew 9 = .ok (.iconst 0, 1) := by decide +kernel
theorem dX6_crew_10 : decode cX6_crew 10 = .ok (.sipush 500, 3) := by decide +kernel
theorem dX6_crew_13 : decode cX6_crew 13 = .ok (.invokestatic 88, 3) := by decide +kernel
theorem dX6_crew_16 : decode cX6_crew 16 = .ok (.ifCond .eq 18, 3) := by decide +kernel
theorem dX6_crew_19 : decode cX6_crew 19 = .ok (.iload_n 3, 1) := by decide +kernel
theorem dX6_crew_20 : decode cX6_crew 20 = .ok (.iload_n 2, 1) := by decide +kernel
theorem dX6_crew_21 : decode cX6_crew 21 = .ok (.sipush 500, 3) := by decide +kernel
theorem dX6_crew_24 : decode cX6_crew 24 = .ok (.invokestatic 88, 3) := by decide +kernel
theorem dX6_crew_27 : decode cX6_crew 27 = .ok (.ifCond .eq 7, 3) := by decide +kernel
theorem dX6_crew_30 : decode cX6_crew 30 = .ok (.iconst 1, 1) := by decide +kernel
theorem dX6_crew_31 : decode cX6_crew 31 = .ok (.goto 4, 3) := by decide +kernel
theorem dX6_crew_34 : decode cX6_crew 34 = .ok (.iconst 0, 1) := by decide +kernel
theorem dX6_crew_35 : decode cX6_crew 35 = .ok (.invokestatic 92, 3) := by decide +kernel
theorem dX6_crew_38 : decode cX6_crew 38 = .ok (.aload_n 0, 1) := by decide +kernel
theorem dX6_crew_39 : decode cX6_crew 39 = .ok (.getfield 68, 3) := by decide +kernel
theorem dX6_crew_42 : decode cX6_crew 42 = .ok (.bipush 6, 2) := by decide +kernel
theorem dX6_crew_44 : decode cX6_crew 44 = .ok (.if_icmp .ge 7, 3) := by decide +kernel
theorem dX6_crew_47 : decode cX6_crew 47 = .ok (.iconst 1, 1) := by decide +kernel
theorem dX6_crew_48 : decode cX6_crew 48 = .ok (.goto 4, 3) := by decide +kernel
theorem dX6_crew_51 : decode cX6_crew 51 = .ok (.iconst 0, 1) := by decide +kernel
theorem dX6_crew_52 : decode cX6_crew 52 = .ok (.invokestatic 96, 3) := by decide +kernel
theorem dX6_crew_55 : decode cX6_crew 55 = .ok (.aload_n 0, 1) := by decide +kernel
theorem dX6_crew_56 : decode cX6_crew 56 = .ok (.getfield 68, 3) := by decide +kernel
theorem dX6_crew_59 : decode cX6_crew 59 = .ok (.istore 4, 2) := by decide +kernel
theorem dX6_crew_61 : decode cX6_crew 61 = .ok (.aload_n 0, 1) := by decide +kernel
theorem dX6_crew_62 : decode cX6_crew 62 = .ok (.dup, 1) := by decide +kernel
theorem dX6_crew_63 : decode cX6_crew 63 = .ok (.getfield 68, 3) := by decide +kernel
theorem dX6_crew_66 : decode cX6_crew 66 = .ok (.iconst 1, 1) := by decide +kernel
theorem dX6_crew_67 : decode cX6_crew 67 = .ok (.iadd, 1) := by decide +kernel
theorem dX6_crew_68 : decode cX6_crew 68 = .ok (.putfield 68, 3) := by decide +kernel
theorem dX6_crew_71 : decode cX6_crew 71 = .ok (.aload_n 0, 1) := by decide +kernel
theorem dX6_crew_72 : decode cX6_crew 72 = .ok (.iload 4, 2) := by decide +kernel
theorem dX6_crew_74 : decode cX6_crew 74 = .ok (.invokevirtual 124, 3) := by decide +kernel
theorem dX6_crew_77 : decode cX6_crew 77 = .ok (.astore 5, 2) := by decide +kernel
theorem dX6_crew_79 : decode cX6_crew 79 = .ok (.aload 5, 2) := by decide +kernel
theorem dX6_crew_81 : decode cX6_crew 81 = .ok (.iload_n 1, 1) := by decide +kernel
theorem dX6_crew_82 : decode cX6_crew 82 = .ok (.putfield 128, 3) := by decide +kernel
theorem dX6_crew_85 : decode cX6_crew 85 = .ok (.aload 5, 2) := by decide +kernel
theorem dX6_crew_87 : decode cX6_crew 87 = .ok (.getfield 131, 3) := by decide +kernel
theorem dX6_crew_90 : decode cX6_crew 90 = .ok (.iload_n 2, 1) := by decide +kernel
theorem dX6_crew_91 : decode cX6_crew 91 = .ok (.iload_n 3, 1) := by decide +kernel
theorem dX6_crew_92 : decode cX6_crew 92 = .ok (.invokevirtual 134, 3) := by decide +kernel
theorem dX6_crew_95 : decode cX6_crew 95 = .ok (.iload 4, 2) := by decide +kernel
theorem dX6_crew_97 : decode cX6_crew 97 = .ok (.ireturn, 1) := by decide +kernel
theorem dX6_hours_0 : decode cX6_hours 0 = .ok (.iload_n 1, 1) := by decide +kernel
theorem dX6_hours_1 : decode cX6_hours 1 = .ok (.aload_n 0, 1) := by decide +kernel
theorem dX6_hours_2 : decode cX6_hours 2 = .ok (.getfield 68, 3) := by decide +kernel
theorem dX6_hours_5 : decode cX6_hours 5 = .ok (.invokestatic 84, 3) := by decide +kernel
theorem dX6_hours_8 : decode cX6_hours 8 = .ok (.iload_n 2, 1) := by decide +kernel
theorem dX6_hours_9 : decode cX6_hours 9 = .ok (.iconst 0, 1) := by decide +kernel
theorem dX6_hours_10 : decode cX6_hours 10 = .ok (.sipush 500, 3) := by decide +kernel
theorem dX6_hours_13 : decode cX6_hours 13 = .ok (.invokestatic 88, 3) := by decide +kernel
theorem dX6_hours_16 : decode cX6_hours 16 = .ok (.invokestatic 92, 3) := by decide +kernel
theorem dX6_hours_19 : decode cX6_hours 19 = .ok (.aload_n 0, 1) := by decide +kernel
theorem dX6_hours_20 : decode cX6_hours 20 = .ok (.iload_n 1, 1) := by decide +kernel
theorem dX6_hours_21 : decode cX6_hours 21 = .ok (.iload_n 2, 1) := by decide +kernel
theorem dX6_hours_22 : decode cX6_hours 22 = .ok (.invokevirtual 137, 3) := by decide +kernel
theorem dX6_hours_25 : decode cX6_hours 25 = .ok (.ireturn, 1) := by decide +kernel
theorem dX6_depth_0 : decode cX6_depth 0 = .ok (.iload_n 1, 1) := by decide +kernel
theorem dX6_depth_1 : decode cX6_depth 1 = .ok (.bipush 6, 2) := by decide +kernel
theorem dX6_depth_3 : decode cX6_depth 3 = .ok (.invokestatic 84, 3) := by decide +kernel
theorem dX6_depth_6 : decode cX6_depth 6 = .ok (.iload_n 2, 1) := by decide +kernel
theorem dX6_depth_7 : decode cX6_depth 7 = .ok (.iconst 0, 1) := by decide +kernel
theorem dX6_depth_8 : decode cX6_depth 8 = .ok (.sipush 10000, 3) := by decide +kernel
theorem dX6_depth_11 : decode cX6_depth 11 = .ok (.invokestatic 88, 3) := by decide +kernel
theorem dX6_depth_14 : decode cX6_depth 14 = .ok (.invokestatic 92, 3) := by decide +kernel
theorem dX6_depth_17 : decode cX6_depth 17 = .ok (.iload_n 1, 1) := by decide +kernel
theorem dX6_depth_18 : decode cX6_depth 18 = .ok (.iload_n 2, 1) := by decide +kernel
theorem dX6_depth_19 : decode cX6_depth 19 = .ok (.invokestatic 141, 3) := by decide +kernel
theorem dX6_depth_22 : decode cX6_depth 22 = .ok (.ireturn, 1) := by decide +kernel
theorem dX6_hinder_0 : decode cX6_hinder 0 = .ok (.aload_n 0, 1) := by decide +kernel
theorem dX6_hinder_1 : decode cX6_hinder 1 = .ok (.iload_n 1, 1) := by decide +kernel
theorem dX6_hinder_2 : decode cX6_hinder 2 = .ok (.iload_n 2, 1) := by decide +kernel
theorem dX6_hinder_3 : decode cX6_hinder 3 = .ok (.invokevirtual 144, 3) := by decide +kernel
theorem dX6_hinder_6 : decode cX6_hinder 6 = .ok (.astore 5, 2) := by decide +kernel
theorem dX6_hinder_8 : decode cX6_hinder 8 = .ok (.iload_n 3, 1) := by decide +kernel
theorem dX6_hinder_9 : decode cX6_hinder 9 = .ok (.iconst 0, 1) := by decide +kernel
theorem dX6_hinder_10 : decode cX6_hinder 10 = .ok (.sipush 10000, 3) := by decide +kernel
theorem dX6_hinder_13 : decode cX6_hinder 13 = .ok (.invokestatic 88, 3) := by decide +kernel
theorem dX6_hinder_16 : decode cX6_hinder 16 = .ok (.ifCond .eq 19, 3) := by decide +kernel
theorem dX6_hinder_19 : decode cX6_hinder 19 = .ok (.iload 4, 2) := by decide +kernel
theorem dX6_hinder_21 : decode cX6_hinder 21 = .ok (.iload_n 3, 1) := by decide +kernel
theorem dX6_hinder_22 : decode cX6_hinder 22 = .ok (.sipush 10000, 3) := by decide +kernel
theorem dX6_hinder_25 : decode cX6_hinder 25 = .ok (.invokestatic 88, 3) := by decide +kernel
theorem dX6_hinder_28 : decode cX6_hinder 28 = .ok (.ifCond .eq 7, 3) := by decide +kernel
theorem dX6_hinder_31 : decode cX6_hinder 31 = .ok (.iconst 1, 1) := by decide +kernel
theorem dX6_hinder_32 : decode cX6_hinder 32 = .ok (.goto 4, 3) := by decide +kernel
theorem dX6_hinder_35 : decode cX6_hinder 35 = .ok (.iconst 0, 1) := by decide +kernel
theorem dX6_hinder_36 : decode cX6_hinder 36 = .ok (.invokestatic 92, 3) := by decide +kernel
theorem dX6_hinder_39 : decode cX6_hinder 39 = .ok (.aload 5, 2) := by decide +kernel
theorem dX6_hinder_41 : decode cX6_hinder 41 = .ok (.iload_n 3, 1) := by decide +kernel
theorem dX6_hinder_42 : decode cX6_hinder 42 = .ok (.iload 4, 2) := by decide +kernel
theorem dX6_hinder_44 : decode cX6_hinder 44 = .ok (.invokevirtual 134, 3) := by decide +kernel
theorem dX6_hinder_47 : decode cX6_hinder 47 = .ok (.return_, 1) := by decide +kernel
theorem dX6_bus_0 : decode cX6_bus 0 = .ok (.iload_n 1, 1) := by decide +kernel
theorem dX6_bus_1 : decode cX6_bus 1 = .ok (.bipush 6, 2) := by decide +kernel
theorem dX6_bus_3 : decode cX6_bus 3 = .ok (.invokestatic 84, 3) := by decide +kernel
theorem dX6_bus_6 : decode cX6_bus 6 = .ok (.iload_n 2, 1) := by decide +kernel
theorem dX6_bus_7 : decode cX6_bus 7 = .ok (.iconst 1, 1) := by decide +kernel
theorem dX6_bus_8 : decode cX6_bus 8 = .ok (.bipush 12, 2) := by decide +kernel
theorem dX6_bus_10 : decode cX6_bus 10 = .ok (.invokestatic 88, 3) := by decide +kernel
theorem dX6_bus_13 : decode cX6_bus 13 = .ok (.ifCond .eq 18, 3) := by decide +kernel
theorem dX6_bus_16 : decode cX6_bus 16 = .ok (.iload_n 3, 1) := by decide +kernel
theorem dX6_bus_17 : decode cX6_bus 17 = .ok (.iconst 0, 1) := by decide +kernel
theorem dX6_bus_18 : decode cX6_bus 18 = .ok (.iload_n 2, 1) := by decide +kernel
theorem dX6_bus_19 : decode cX6_bus 19 = .ok (.iconst 1, 1) := by decide +kernel
theorem dX6_bus_20 : decode cX6_bus 20 = .ok (.isub, 1) := by decide +kernel
theorem dX6_bus_21 : decode cX6_bus 21 = .ok (.invokestatic 88, 3) := by decide +kernel
theorem dX6_bus_24 : decode cX6_bus 24 = .ok (.ifCond .eq 7, 3) := by decide +kernel
theorem dX6_bus_27 : decode cX6_bus 27 = .ok (.iconst 1, 1) := by decide +kernel
theorem dX6_bus_28 : decode cX6_bus 28 = .ok (.goto 4, 3) := by decide +kernel
theorem dX6_bus_31 : decode cX6_bus 31 = .ok (.iconst 0, 1) := by decide +kernel
theorem dX6_bus_32 : decode cX6_bus 32 = .ok (.invokestatic 92, 3) := by decide +kernel
theorem dX6_bus_35 : decode cX6_bus 35 = .ok (.aload_n 0, 1) := by decide +kernel
theorem dX6_bus_36 : decode cX6_bus 36 = .ok (.getfield 37, 3) := by decide +kernel
theorem dX6_bus_39 : decode cX6_bus 39 = .ok (.iload_n 1, 1) := by decide +kernel
theorem dX6_bus_40 : decode cX6_bus 40 = .ok (.iload_n 2, 1) := by decide +kernel
theorem dX6_bus_41 : decode cX6_bus 41 = .ok (.iastore, 1) := by decide +kernel
theorem dX6_bus_42 : decode cX6_bus 42 = .ok (.aload_n 0, 1) := by decide +kernel
theorem dX6_bus_43 : decode cX6_bus 43 = .ok (.getfield 40, 3) := by decide +kernel
theorem dX6_bus_46 : decode cX6_bus 46 = .ok (.iload_n 1, 1) := by decide +kernel
theorem dX6_bus_47 : decode cX6_bus 47 = .ok (.iload_n 3, 1) := by decide +kernel
theorem dX6_bus_48 : decode cX6_bus 48 = .ok (.iastore, 1) := by decide +kernel
theorem dX6_bus_49 : decode cX6_bus 49 = .ok (.return_, 1) := by decide +kernel
theorem dX6_reside_0 : decode cX6_reside 0 = .ok (.iload_n 1, 1) := by decide +kernel
theorem dX6_reside_1 : decode cX6_reside 1 = .ok (.bipush 10, 2) := by decide +kernel
theorem dX6_reside_3 : decode cX6_reside 3 = .ok (.invokestatic 84, 3) := by decide +kernel
theorem dX6_reside_6 : decode cX6_reside 6 = .ok (.iload_n 2, 1) := by decide +kernel
theorem dX6_reside_7 : decode cX6_reside 7 = .ok (.iconst (-1), 1) := by decide +kernel
theorem dX6_reside_8 : decode cX6_reside 8 = .ok (.if_icmp .eq 9, 3) := by decide +kernel
theorem dX6_reside_11 : decode cX6_reside 11 = .ok (.iload_n 2, 1) := by decide +kernel
theorem dX6_reside_12 : decode cX6_reside 12 = .ok (.bipush 6, 2) := by decide +kernel
theorem dX6_reside_14 : decode cX6_reside 14 = .ok (.invokestatic 84, 3) := by decide +kernel
theorem dX6_reside_17 : decode cX6_reside 17 = .ok (.aload_n 0, 1) := by decide +kernel
theorem dX6_reside_18 : decode cX6_reside 18 = .ok (.getfield 33, 3) := by decide +kernel
theorem dX6_reside_21 : decode cX6_reside 21 = .ok (.iload_n 1, 1) := by decide +kernel
theorem dX6_reside_22 : decode cX6_reside 22 = .ok (.iaload, 1) := by decide +kernel
theorem dX6_reside_23 : decode cX6_reside 23 = .ok (.istore_n 3, 1) := by decide +kernel
theorem dX6_reside_24 : decode cX6_reside 24 = .ok (.aload_n 0, 1) := by decide +kernel
theorem dX6_reside_25 : decode cX6_reside 25 = .ok (.getfield 33, 3) := by decide +kernel
theorem dX6_reside_28 : decode cX6_reside 28 = .ok (.iload_n 1, 1) := by decide +kernel
theorem dX6_reside_29 : decode cX6_reside 29 = .ok (.iload_n 2, 1) := by decide +kernel
theorem dX6_reside_30 : decode cX6_reside 30 = .ok (.iastore, 1) := by decide +kernel
theorem dX6_reside_31 : decode cX6_reside 31 = .ok (.iload_n 3, 1) := by decide +kernel
theorem dX6_reside_32 : decode cX6_reside 32 = .ok (.ireturn, 1) := by decide +kernel
theorem dX6_plan_0 : decode cX6_plan 0 = .ok (.aload_n 0, 1) := by decide +kernel
theorem dX6_plan_1 : decode cX6_plan 1 = .ok (.iload_n 1, 1) := by decide +kernel
theorem dX6_plan_2 : decode cX6_plan 2 = .ok (.invokevirtual 99, 3) := by decide +kernel
theorem dX6_plan_5 : decode cX6_plan 5 = .ok (.astore 5, 2) := by decide +kernel
theorem dX6_plan_7 : decode cX6_plan 7 = .ok (.iload_n 2, 1) := by decide +kernel
theorem dX6_plan_8 : decode cX6_plan 8 = .ok (.bipush 6, 2) := by decide +kernel
theorem dX6_plan_10 : decode cX6_plan 10 = .ok (.invokestatic 84, 3) := by decide +kernel
theorem dX6_plan_13 : decode cX6_plan 13 = .ok (.aload_n 0, 1) := by decide +kernel
theorem dX6_plan_14 : decode cX6_plan 14 = .ok (.iload_n 1, 1) := by decide +kernel
theorem dX6_plan_15 : decode cX6_plan 15 = .ok (.invokevirtual 148, 3) := by decide +kernel
theorem dX6_plan_18 : decode cX6_plan 18 = .ok (.istore 6, 2) := by decide +kernel
theorem dX6_plan_20 : decode cX6_plan 20 = .ok (.iload 6, 2) := by decide +kernel
theorem dX6_plan_22 : decode cX6_plan 22 = .ok (.iconst (-1), 1) := by decide +kernel
theorem dX6_plan_23 : decode cX6_plan 23 = .ok (.if_icmp .ne 11, 3) := by decide +kernel
theorem dX6_plan_26 : decode cX6_plan 26 = .ok (.aload 5, 2) := by decide +kernel
theorem dX6_plan_28 : decode cX6_plan 28 = .ok (.getfield 103, 3) := by decide +kernel
theorem dX6_plan_31 : decode cX6_plan 31 = .ok (.goto 12, 3) := by decide +kernel
theorem dX6_plan_34 : decode cX6_plan 34 = .ok (.aload_n 0, 1) := by decide +kernel
theorem dX6_plan_35 : decode cX6_plan 35 = .ok (.iload 6, 2) := by decide +kernel
theorem dX6_plan_37 : decode cX6_plan 37 = .ok (.invokevirtual 152, 3) := by decide +kernel
theorem dX6_plan_40 : decode cX6_plan 40 = .ok (.getfield 156, 3) := by decide +kernel
theorem dX6_plan_43 : decode cX6_plan 43 = .ok (.istore 7, 2) := by decide +kernel
theorem dX6_plan_45 : decode cX6_plan 45 = .ok (.iload 6, 2) := by decide +kernel
theorem dX6_plan_47 : decode cX6_plan 47 = .ok (.iconst (-1), 1) := by decide +kernel
theorem dX6_plan_48 : decode cX6_plan 48 = .ok (.if_icmp .ne 7, 3) := by decide +kernel
theorem dX6_plan_51 : decode cX6_plan 51 = .ok (.iconst 0, 1) := by decide +kernel
theorem dX6_plan_52 : decode cX6_plan 52 = .ok (.goto 12, 3) := by decide +kernel
theorem dX6_plan_55 : decode cX6_plan 55 = .ok (.aload_n 0, 1) := by decide +kernel
theorem dX6_plan_56 : decode cX6_plan 56 = .ok (.iload 6, 2) := by decide +kernel
theorem dX6_plan_58 : decode cX6_plan 58 = .ok (.invokevirtual 152, 3) := by decide +kernel
theorem dX6_plan_61 : decode cX6_plan 61 = .ok (.getfield 159, 3) := by decide +kernel
theorem dX6_plan_64 : decode cX6_plan 64 = .ok (.istore 8, 2) := by decide +kernel
theorem dX6_plan_66 : decode cX6_plan 66 = .ok (.iload_n 3, 1) := by decide +kernel
theorem dX6_plan_67 : decode cX6_plan 67 = .ok (.aload_n 0, 1) := by decide +kernel
theorem dX6_plan_68 : decode cX6_plan 68 = .ok (.getfield 77, 3) := by decide +kernel
theorem dX6_plan_71 : decode cX6_plan 71 = .ok (.sipush 10000, 3) := by decide +kernel
theorem dX6_plan_74 : decode cX6_plan 74 = .ok (.invokestatic 88, 3) := by decide +kernel
theorem dX6_plan_77 : decode cX6_plan 77 = .ok (.ifCond .eq 25, 3) := by decide +kernel
theorem dX6_plan_80 : decode cX6_plan 80 = .ok (.iload 4, 2) := by decide +kernel
theorem dX6_plan_82 : decode cX6_plan 82 = .ok (.iconst 1, 1) := by decide +kernel
theorem dX6_plan_83 : decode cX6_plan 83 = .ok (.sipush 400, 3) := by decide +kernel
theorem dX6_plan_86 : decode cX6_plan 86 = .ok (.invokestatic 88, 3) := by decide +kernel
theorem dX6_plan_89 : decode cX6_plan 89 = .ok (.ifCond .eq 13, 3) := by decide +kernel
theorem dX6_plan_92 : decode cX6_plan 92 = .ok (.iload_n 2, 1) := by decide +kernel
theorem dX6_plan_93 : decode cX6_plan 93 = .ok (.iload 7, 2) := by decide +kernel
theorem dX6_plan_95 : decode cX6_plan 95 = .ok (.if_icmp .eq 7, 3) := by decide +kernel
theorem dX6_plan_98 : decode cX6_plan 98 = .ok (.iconst 1, 1) := by decide +kernel
theorem dX6_plan_99 : decode cX6_plan 99 = .ok (.goto 4, 3) := by decide +kernel
theorem dX6_plan_102 : decode cX6_plan 102 = .ok (.iconst 0, 1) := by decide +kernel
theorem dX6_plan_103 : decode cX6_plan 103 = .ok (.invokestatic 92, 3) := by decide +kernel
theorem dX6_plan_106 : decode cX6_plan 106 = .ok (.iload 8, 2) := by decide +kernel
theorem dX6_plan_108 : decode cX6_plan 108 = .ok (.iload_n 3, 1) := by decide +kernel
theorem dX6_plan_109 : decode cX6_plan 109 = .ok (.if_icmp .gt 16, 3) := by decide +kernel
theorem dX6_plan_112 : decode cX6_plan 112 = .ok (.aload_n 0, 1) := by decide +kernel
theorem dX6_plan_113 : decode cX6_plan 113 = .ok (.getfield 71, 3) := by decide +kernel
theorem dX6_plan_116 : decode cX6_plan 116 = .ok (.bipush 24, 2) := by decide +kernel
theorem dX6_plan_118 : decode cX6_plan 118 = .ok (.if_icmp .ge 7, 3) := by decide +kernel
theorem dX6_plan_121 : decode cX6_plan 121 = .ok (.iconst 1, 1) := by decide +kernel
theorem dX6_plan_122 : decode cX6_plan 122 = .ok (.goto 4, 3) := by decide +kernel
theorem dX6_plan_125 : decode cX6_plan 125 = .ok (.iconst 0, 1) := by decide +kernel
theorem dX6_plan_126 : decode cX6_plan 126 = .ok (.invokestatic 96, 3) := by decide +kernel
theorem dX6_plan_129 : decode cX6_plan 129 = .ok (.aload_n 0, 1) := by decide +kernel
theorem dX6_plan_130 : decode cX6_plan 130 = .ok (.iload_n 1, 1) := by decide +kernel
theorem dX6_plan_131 : decode cX6_plan 131 = .ok (.iload 7, 2) := by decide +kernel
theorem dX6_plan_133 : decode cX6_plan 133 = .ok (.iload_n 2, 1) := by decide +kernel
theorem dX6_plan_134 : decode cX6_plan 134 = .ok (.iload_n 3, 1) := by decide +kernel
theorem dX6_plan_135 : decode cX6_plan 135 = .ok (.iload 4, 2) := by decide +kernel
theorem dX6_plan_137 : decode cX6_plan 137 = .ok (.invokevirtual 162, 3) := by decide +kernel
theorem dX6_plan_140 : decode cX6_plan 140 = .ok (.ireturn, 1) := by decide +kernel
theorem dX6_cancel_0 : decode cX6_cancel 0 = .ok (.aload_n 0, 1) := by decide +kernel
theorem dX6_cancel_1 : decode cX6_cancel 1 = .ok (.iload_n 1, 1) := by decide +kernel
theorem dX6_cancel_2 : decode cX6_cancel 2 = .ok (.invokevirtual 152, 3) := by decide +kernel
theorem dX6_cancel_5 : decode cX6_cancel 5 = .ok (.astore_n 2, 1) := by decide +kernel
theorem dX6_cancel_6 : decode cX6_cancel 6 = .ok (.aload_n 2, 1) := by decide +kernel
theorem dX6_cancel_7 : decode cX6_cancel 7 = .ok (.getfield 166, 3) := by decide +kernel
theorem dX6_cancel_10 : decode cX6_cancel 10 = .ok (.ifCond .ne 7, 3) := by decide +kernel
theorem dX6_cancel_13 : decode cX6_cancel 13 = .ok (.iconst 1, 1) := by decide +kernel
theorem dX6_cancel_14 : decode cX6_cancel 14 = .ok (.goto 4, 3) := by decide +kernel
theorem dX6_cancel_17 : decode cX6_cancel 17 = .ok (.iconst 0, 1) := by decide +kernel
theorem dX6_cancel_18 : decode cX6_cancel 18 = .ok (.invokestatic 96, 3) := by decide +kernel
theorem dX6_cancel_21 : decode cX6_cancel 21 = .ok (.aload_n 0, 1) := by decide +kernel
theorem dX6_cancel_22 : decode cX6_cancel 22 = .ok (.iload_n 1, 1) := by decide +kernel
theorem dX6_cancel_23 : decode cX6_cancel 23 = .ok (.bipush 7, 2) := by decide +kernel
theorem dX6_cancel_25 : decode cX6_cancel 25 = .ok (.invokevirtual 169, 3) := by decide +kernel
theorem dX6_cancel_28 : decode cX6_cancel 28 = .ok (.ireturn, 1) := by decide +kernel
theorem dX6_replace_0 : decode cX6_replace 0 = .ok (.aload_n 0, 1) := by decide +kernel
theorem dX6_replace_1 : decode cX6_replace 1 = .ok (.iload_n 1, 1) := by decide +kernel
theorem dX6_replace_2 : decode cX6_replace 2 = .ok (.invokevirtual 152, 3) := by decide +kernel
theorem dX6_replace_5 : decode cX6_replace 5 = .ok (.astore_n 3, 1) := by decide +kernel
theorem dX6_replace_6 : decode cX6_replace 6 = .ok (.aload_n 0, 1) := by decide +kernel
theorem dX6_replace_7 : decode cX6_replace 7 = .ok (.iload_n 2, 1) := by decide +kernel
theorem dX6_replace_8 : decode cX6_replace 8 = .ok (.invokevirtual 99, 3) := by decide +kernel
theorem dX6_replace_11 : decode cX6_replace 11 = .ok (.astore 4, 2) := by decide +kernel
theorem dX6_replace_13 : decode cX6_replace 13 = .ok (.aload_n 3, 1) := by decide +kernel
theorem dX6_replace_14 : decode cX6_replace 14 = .ok (.getfield 166, 3) := by decide +kernel
theorem dX6_replace_17 : decode cX6_replace 17 = .ok (.iconst 1, 1) := by decide +kernel
theorem dX6_replace_18 : decode cX6_replace 18 = .ok (.if_icmp .ne 62, 3) := by decide +kernel
theorem dX6_replace_21 : decode cX6_replace 21 = .ok (.aload_n 3, 1) := by decide +kernel
theorem dX6_replace_22 : decode cX6_replace 22 = .ok (.getfield 172, 3) := by decide +kernel
theorem dX6_replace_25 : decode cX6_replace 25 = .ok (.ifCond .ne 55, 3) := by decide +kernel
theorem dX6_replace_28 : decode cX6_replace 28 = .ok (.aload_n 0, 1) := by decide +kernel
theorem dX6_replace_29 : decode cX6_replace 29 = .ok (.iload_n 2, 1) := by decide +kernel
theorem dX6_replace_30 : decode cX6_replace 30 = .ok (.invokevirtual 176, 3) := by decide +kernel
theorem dX6_replace_33 : decode cX6_replace 33 = .ok (.ifCond .eq 47, 3) := by decide +kernel
theorem dX6_replace_36 : decode cX6_replace 36 = .ok (.aload_n 0, 1) := by decide +kernel
theorem dX6_replace_37 : decode cX6_replace 37 = .ok (.iload_n 2, 1) := by decide +kernel
theorem dX6_replace_38 : decode cX6_replace 38 = .ok (.aload_n 0, 1) := by decide +kernel
theorem dX6_replace_39 : decode cX6_replace 39 = .ok (.getfield 77, 3) := by decide +kernel
theorem dX6_replace_42 : decode cX6_replace 42 = .ok (.invokevirtual 180, 3) := by decide +kernel
theorem dX6_replace_45 : decode cX6_replace 45 = .ok (.aload_n 3, 1) := by decide +kernel
theorem dX6_replace_46 : decode cX6_replace 46 = .ok (.getfield 183, 3) := by decide +kernel
theorem dX6_replace_49 : decode cX6_replace 49 = .ok (.if_icmp .ne 31, 3) := by decide +kernel
theorem dX6_replace_52 : decode cX6_replace 52 = .ok (.aload 4, 2) := by decide +kernel
theorem dX6_replace_54 : decode cX6_replace 54 = .ok (.getfield 186, 3) := by decide +kernel
theorem dX6_replace_57 : decode cX6_replace 57 = .ok (.aload_n 0, 1) := by decide +kernel
theorem dX6_replace_58 : decode cX6_replace 58 = .ok (.getfield 77, 3) := by decide +kernel
theorem dX6_replace_61 : decode cX6_replace 61 = .ok (.invokevirtual 189, 3) := by decide +kernel
theorem dX6_replace_64 : decode cX6_replace 64 = .ok (.ifCond .ne 16, 3) := by decide +kernel
theorem dX6_replace_67 : decode cX6_replace 67 = .ok (.aload_n 0, 1) := by decide +kernel
theorem dX6_replace_68 : decode cX6_replace 68 = .ok (.getfield 71, 3) := by decide +kernel
theorem dX6_replace_71 : decode cX6_replace 71 = .ok (.bipush 24, 2) := by decide +kernel
theorem dX6_replace_73 : decode cX6_replace 73 = .ok (.if_icmp .ge 7, 3) := by decide +kernel
theorem dX6_replace_76 : decode cX6_replace 76 = .ok (.iconst 1, 1) := by decide +kernel
theorem dX6_replace_77 : decode cX6_replace 77 = .ok (.goto 4, 3) := by decide +kernel
theorem dX6_replace_80 : decode cX6_replace 80 = .ok (.iconst 0, 1) := by decide +kernel
theorem dX6_replace_81 : decode cX6_replace 81 = .ok (.invokestatic 96, 3) := by decide +kernel
theorem dX6_replace_84 : decode cX6_replace 84 = .ok (.aload_n 3, 1) := by decide +kernel
theorem dX6_replace_85 : decode cX6_replace 85 = .ok (.iconst 1, 1) := by decide +kernel
theorem dX6_replace_86 : decode cX6_replace 86 = .ok (.putfield 172, 3) := by decide +kernel
theorem dX6_replace_89 : decode cX6_replace 89 = .ok (.aload_n 0, 1) := by decide +kernel
theorem dX6_replace_90 : decode cX6_replace 90 = .ok (.iload_n 2, 1) := by decide +kernel
theorem dX6_replace_91 : decode cX6_replace 91 = .ok (.aload_n 3, 1) := by decide +kernel
theorem dX6_replace_92 : decode cX6_replace 92 = .ok (.getfield 183, 3) := by decide +kernel
theorem dX6_replace_95 : decode cX6_replace 95 = .ok (.aload_n 3, 1) := by decide +kernel
theorem dX6_replace_96 : decode cX6_replace 96 = .ok (.getfield 156, 3) := by decide +kernel
theorem dX6_replace_99 : decode cX6_replace 99 = .ok (.aload_n 0, 1) := by decide +kernel
theorem dX6_replace_100 : decode cX6_replace 100 = .ok (.getfield 77, 3) := by decide +kernel
theorem dX6_replace_103 : decode cX6_replace 103 = .ok (.aload_n 3, 1) := by decide +kernel
theorem dX6_replace_104 : decode cX6_replace 104 = .ok (.getfield 192, 3) := by decide +kernel
theorem dX6_replace_107 : decode cX6_replace 107 = .ok (.invokevirtual 162, 3) := by decide +kernel
theorem dX6_replace_110 : decode cX6_replace 110 = .ok (.ireturn, 1) := by decide +kernel
theorem dX6_pass_0 : decode cX6_pass 0 = .ok (.iload_n 1, 1) := by decide +kernel
theorem dX6_pass_1 : decode cX6_pass 1 = .ok (.iconst 1, 1) := by decide +kernel
theorem dX6_pass_2 : decode cX6_pass 2 = .ok (.bipush 48, 2) := by decide +kernel
theorem dX6_pass_4 : decode cX6_pass 4 = .ok (.invokestatic 88, 3) := by decide +kernel
theorem dX6_pass_7 : decode cX6_pass 7 = .ok (.invokestatic 92, 3) := by decide +kernel
theorem dX6_pass_10 : decode cX6_pass 10 = .ok (.aload_n 0, 1) := by decide +kernel
theorem dX6_pass_11 : decode cX6_pass 11 = .ok (.getfield 77, 3) := by decide +kernel
theorem dX6_pass_14 : decode cX6_pass 14 = .ok (.iload_n 1, 1) := by decide +kernel
theorem dX6_pass_15 : decode cX6_pass 15 = .ok (.iadd, 1) := by decide +kernel
theorem dX6_pass_16 : decode cX6_pass 16 = .ok (.sipush 9000, 3) := by decide +kernel
theorem dX6_pass_19 : decode cX6_pass 19 = .ok (.if_icmp .gt 7, 3) := by decide +kernel
theorem dX6_pass_22 : decode cX6_pass 22 = .ok (.iconst 1, 1) := by decide +kernel
theorem dX6_pass_23 : decode cX6_pass 23 = .ok (.goto 4, 3) := by decide +kernel
theorem dX6_pass_26 : decode cX6_pass 26 = .ok (.iconst 0, 1) := by decide +kernel
theorem dX6_pass_27 : decode cX6_pass 27 = .ok (.invokestatic 96, 3) := by decide +kernel
theorem dX6_pass_30 : decode cX6_pass 30 = .ok (.iconst 0, 1) := by decide +kernel
theorem dX6_pass_31 : decode cX6_pass 31 = .ok (.istore_n 2, 1) := by decide +kernel
theorem dX6_pass_32 : decode cX6_pass 32 = .ok (.iload_n 2, 1) := by decide +kernel
theorem dX6_pass_33 : decode cX6_pass 33 = .ok (.iload_n 1, 1) := by decide +kernel
theorem dX6_pass_34 : decode cX6_pass 34 = .ok (.if_icmp .ge 40, 3) := by decide +kernel
theorem dX6_pass_37 : decode cX6_pass 37 = .ok (.iconst 0, 1) := by decide +kernel
theorem dX6_pass_38 : decode cX6_pass 38 = .ok (.istore_n 3, 1) := by decide +kernel
theorem dX6_pass_39 : decode cX6_pass 39 = .ok (.iload_n 3, 1) := by decide +kernel
theorem dX6_pass_40 : decode cX6_pass 40 = .ok (.aload_n 0, 1) := by decide +kernel
theorem dX6_pass_41 : decode cX6_pass 41 = .ok (.getfield 71, 3) := by decide +kernel
theorem dX6_pass_44 : decode cX6_pass 44 = .ok (.if_icmp .ge 14, 3) := by decide +kernel
theorem dX6_pass_47 : decode cX6_pass 47 = .ok (.aload_n 0, 1) := by decide +kernel
theorem dX6_pass_48 : decode cX6_pass 48 = .ok (.iload_n 3, 1) := by decide +kernel
theorem dX6_pass_49 : decode cX6_pass 49 = .ok (.invokevirtual 195, 3) := by decide +kernel
theorem dX6_pass_52 : decode cX6_pass 52 = .ok (.iinc 3 1, 3) := by decide +kernel
theorem dX6_pass_55 : decode cX6_pass 55 = .ok (.goto (-16), 3) := by decide +kernel
theorem dX6_pass_58 : decode cX6_pass 58 = .ok (.aload_n 0, 1) := by decide +kernel
theorem dX6_pass_59 : decode cX6_pass 59 = .ok (.dup, 1) := by decide +kernel
theorem dX6_pass_60 : decode cX6_pass 60 = .ok (.getfield 77, 3) := by decide +kernel
theorem dX6_pass_63 : decode cX6_pass 63 = .ok (.iconst 1, 1) := by decide +kernel
theorem dX6_pass_64 : decode cX6_pass 64 = .ok (.iadd, 1) := by decide +kernel
theorem dX6_pass_65 : decode cX6_pass 65 = .ok (.putfield 77, 3) := by decide +kernel
theorem dX6_pass_68 : decode cX6_pass 68 = .ok (.iinc 2 1, 3) := by decide +kernel
theorem dX6_pass_71 : decode cX6_pass 71 = .ok (.goto (-39), 3) := by decide +kernel
theorem dX6_pass_74 : decode cX6_pass 74 = .ok (.aload_n 0, 1) := by decide +kernel
theorem dX6_pass_75 : decode cX6_pass 75 = .ok (.getfield 77, 3) := by decide +kernel
theorem dX6_pass_78 : decode cX6_pass 78 = .ok (.ireturn, 1) := by decide +kernel
theorem dX6_now_0 : decode cX6_now 0 = .ok (.aload_n 0, 1) := by decide +kernel
theorem dX6_now_1 : decode cX6_now 1 = .ok (.getfield 77, 3) := by decide +kernel
theorem dX6_now_4 : decode cX6_now 4 = .ok (.ireturn, 1) := by decide +kernel
theorem dX6_state_0 : decode cX6_state 0 = .ok (.aload_n 0, 1) := by decide +kernel
theorem dX6_state_1 : decode cX6_state 1 = .ok (.iload_n 1, 1) := by decide +kernel
theorem dX6_state_2 : decode cX6_state 2 = .ok (.invokevirtual 152, 3) := by decide +kernel
theorem dX6_state_5 : decode cX6_state 5 = .ok (.astore_n 2, 1) := by decide +kernel
theorem dX6_state_6 : decode cX6_state 6 = .ok (.aload_n 2, 1) := by decide +kernel
theorem dX6_state_7 : decode cX6_state 7 = .ok (.getfield 166, 3) := by decide +kernel
theorem dX6_state_10 : decode cX6_state 10 = .ok (.bipush 10, 2) := by decide +kernel
theorem dX6_state_12 : decode cX6_state 12 = .ok (.aload_n 2, 1) := by decide +kernel
theorem dX6_state_13 : decode cX6_state 13 = .ok (.getfield 199, 3) := by decide +kernel
theorem dX6_state_16 : decode cX6_state 16 = .ok (.imul, 1) := by decide +kernel
theorem dX6_state_17 : decode cX6_state 17 = .ok (.iadd, 1) := by decide +kernel
theorem dX6_state_18 : decode cX6_state 18 = .ok (.ireturn, 1) := by decide +kernel
theorem dX6_ends_0 : decode cX6_ends 0 = .ok (.aload_n 0, 1) := by decide +kernel
theorem dX6_ends_1 : decode cX6_ends 1 = .ok (.iload_n 1, 1) := by decide +kernel
theorem dX6_ends_2 : decode cX6_ends 2 = .ok (.invokevirtual 152, 3) := by decide +kernel
theorem dX6_ends_5 : decode cX6_ends 5 = .ok (.getfield 159, 3) := by decide +kernel
theorem dX6_ends_8 : decode cX6_ends 8 = .ok (.ireturn, 1) := by decide +kernel
theorem dX6_busAfter_0 : decode cX6_busAfter 0 = .ok (.aload_n 0, 1) := by decide +kernel
theorem dX6_busAfter_1 : decode cX6_busAfter 1 = .ok (.iload_n 1, 1) := by decide +kernel
theorem dX6_busAfter_2 : decode cX6_busAfter 2 = .ok (.invokevirtual 152, 3) := by decide +kernel
theorem dX6_busAfter_5 : decode cX6_busAfter 5 = .ok (.astore_n 2, 1) := by decide +kernel
theorem dX6_busAfter_6 : decode cX6_busAfter 6 = .ok (.aload_n 2, 1) := by decide +kernel
theorem dX6_busAfter_7 : decode cX6_busAfter 7 = .ok (.getfield 156, 3) := by decide +kernel
theorem dX6_busAfter_10 : decode cX6_busAfter 10 = .ok (.bipush 6, 2) := by decide +kernel
theorem dX6_busAfter_12 : decode cX6_busAfter 12 = .ok (.invokestatic 84, 3) := by decide +kernel
theorem dX6_busAfter_15 : decode cX6_busAfter 15 = .ok (.aload_n 0, 1) := by decide +kernel
theorem dX6_busAfter_16 : decode cX6_busAfter 16 = .ok (.getfield 37, 3) := by decide +kernel
theorem dX6_busAfter_19 : decode cX6_busAfter 19 = .ok (.aload_n 2, 1) := by decide +kernel
theorem dX6_busAfter_20 : decode cX6_busAfter 20 = .ok (.getfield 156, 3) := by decide +kernel
theorem dX6_busAfter_23 : decode cX6_busAfter 23 = .ok (.iaload, 1) := by decide +kernel
theorem dX6_busAfter_24 : decode cX6_busAfter 24 = .ok (.istore_n 3, 1) := by decide +kernel
theorem dX6_busAfter_25 : decode cX6_busAfter 25 = .ok (.aload_n 2, 1) := by decide +kernel
theorem dX6_busAfter_26 : decode cX6_busAfter 26 = .ok (.getfield 166, 3) := by decide +kernel
theorem dX6_busAfter_29 : decode cX6_busAfter 29 = .ok (.iconst 2, 1) := by decide +kernel
theorem dX6_busAfter_30 : decode cX6_busAfter 30 = .ok (.if_icmp .ne 8, 3) := by decide +kernel
theorem dX6_busAfter_33 : decode cX6_busAfter 33 = .ok (.iload_n 3, 1) := by decide +kernel
theorem dX6_busAfter_34 : decode cX6_busAfter 34 = .ok (.iconst 1, 1) := by decide +kernel
theorem dX6_busAfter_35 : decode cX6_busAfter 35 = .ok (.if_icmp .ge 5, 3) := by decide +kernel
theorem dX6_busAfter_38 : decode cX6_busAfter 38 = .ok (.iconst (-1), 1) := by decide +kernel
theorem dX6_busAfter_39 : decode cX6_busAfter 39 = .ok (.ireturn, 1) := by decide +kernel
theorem dX6_busAfter_40 : decode cX6_busAfter 40 = .ok (.aload_n 0, 1) := by decide +kernel
theorem dX6_busAfter_41 : decode cX6_busAfter 41 = .ok (.getfield 40, 3) := by decide +kernel
theorem dX6_busAfter_44 : decode cX6_busAfter 44 = .ok (.aload_n 2, 1) := by decide +kernel
theorem dX6_busAfter_45 : decode cX6_busAfter 45 = .ok (.getfield 156, 3) := by decide +kernel
theorem dX6_busAfter_48 : decode cX6_busAfter 48 = .ok (.iaload, 1) := by decide +kernel
theorem dX6_busAfter_49 : decode cX6_busAfter 49 = .ok (.aload_n 2, 1) := by decide +kernel
theorem dX6_busAfter_50 : decode cX6_busAfter 50 = .ok (.getfield 159, 3) := by decide +kernel
theorem dX6_busAfter_53 : decode cX6_busAfter 53 = .ok (.isub, 1) := by decide +kernel
theorem dX6_busAfter_54 : decode cX6_busAfter 54 = .ok (.iload_n 3, 1) := by decide +kernel
theorem dX6_busAfter_55 : decode cX6_busAfter 55 = .ok (.invokestatic 202, 3) := by decide +kernel
theorem dX6_busAfter_58 : decode cX6_busAfter 58 = .ok (.ireturn, 1) := by decide +kernel
theorem dX6_place_0 : decode cX6_place 0 = .ok (.iload_n 1, 1) := by decide +kernel
theorem dX6_place_1 : decode cX6_place 1 = .ok (.aload_n 0, 1) := by decide +kernel
theorem dX6_place_2 : decode cX6_place 2 = .ok (.getfield 64, 3) := by decide +kernel
theorem dX6_place_5 : decode cX6_place 5 = .ok (.invokestatic 84, 3) := by decide +kernel
theorem dX6_place_8 : decode cX6_place 8 = .ok (.aload_n 0, 1) := by decide +kernel
theorem dX6_place_9 : decode cX6_place 9 = .ok (.iload_n 1, 1) := by decide +kernel
theorem dX6_place_10 : decode cX6_place 10 = .ok (.aload_n 0, 1) := by decide +kernel
theorem dX6_place_11 : decode cX6_place 11 = .ok (.getfield 77, 3) := by decide +kernel
theorem dX6_place_14 : decode cX6_place 14 = .ok (.invokevirtual 180, 3) := by decide +kernel
theorem dX6_place_17 : decode cX6_place 17 = .ok (.ireturn, 1) := by decide +kernel
theorem dX6_placeByLine_0 : decode cX6_placeByLine 0 = .ok (.iload_n 1, 1) := by decide +kernel
theorem dX6_placeByLine_1 : decode cX6_placeByLine 1 = .ok (.aload_n 0, 1) := by decide +kernel
theorem dX6_placeByLine_2 : decode cX6_placeByLine 2 = .ok (.getfield 64, 3) := by decide +kernel
theorem dX6_placeByLine_5 : decode cX6_placeByLine 5 = .ok (.invokestatic 84, 3) := by decide +kernel
theorem dX6_placeByLine_8 : decode cX6_placeByLine 8 = .ok (.iload_n 2, 1) := by decide +kernel
theorem dX6_placeByLine_9 : decode cX6_placeByLine 9 = .ok (.iconst 0, 1) := by decide +kernel
theorem dX6_placeByLine_10 : decode cX6_placeByLine 10 = .ok (.aload_n 0, 1) := by decide +kernel
theorem dX6_placeByLine_11 : decode cX6_placeByLine 11 = .ok (.getfield 77, 3) := by decide +kernel
theorem dX6_placeByLine_14 : decode cX6_placeByLine 14 = .ok (.invokestatic 88, 3) := by decide +kernel
theorem dX6_placeByLine_17 : decode cX6_placeByLine 17 = .ok (.invokestatic 92, 3) := by decide +kernel
theorem dX6_placeByLine_20 : decode cX6_placeByLine 20 = .ok (.aload_n 0, 1) := by decide +kernel
theorem dX6_placeByLine_21 : decode cX6_placeByLine 21 = .ok (.iload_n 1, 1) := by decide +kernel
theorem dX6_placeByLine_22 : decode cX6_placeByLine 22 = .ok (.iload_n 2, 1) := by decide +kernel
theorem dX6_placeByLine_23 : decode cX6_placeByLine 23 = .ok (.invokevirtual 180, 3) := by decide +kernel
theorem dX6_placeByLine_26 : decode cX6_placeByLine 26 = .ok (.ireturn, 1) := by decide +kernel
theorem dX6_fuel_0 : decode cX6_fuel 0 = .ok (.aload_n 0, 1) := by decide +kernel
theorem dX6_fuel_1 : decode cX6_fuel 1 = .ok (.iload_n 1, 1) := by decide +kernel
theorem dX6_fuel_2 : decode cX6_fuel 2 = .ok (.invokevirtual 99, 3) := by decide +kernel
theorem dX6_fuel_5 : decode cX6_fuel 5 = .ok (.getfield 121, 3) := by decide +kernel
theorem dX6_fuel_8 : decode cX6_fuel 8 = .ok (.ireturn, 1) := by decide +kernel
theorem dX6_book_0 : decode cX6_book 0 = .ok (.iload_n 1, 1) := by decide +kernel
theorem dX6_book_1 : decode cX6_book 1 = .ok (.bipush 10, 2) := by decide +kernel
theorem dX6_book_3 : decode cX6_book 3 = .ok (.invokestatic 84, 3) := by decide +kernel
theorem dX6_book_6 : decode cX6_book 6 = .ok (.aload_n 0, 1) := by decide +kernel
theorem dX6_book_7 : decode cX6_book 7 = .ok (.iload_n 2, 1) := by decide +kernel
theorem dX6_book_8 : decode cX6_book 8 = .ok (.invokevirtual 152, 3) := by decide +kernel
theorem dX6_book_11 : decode cX6_book 11 = .ok (.astore 7, 2) := by decide +kernel
theorem dX6_book_13 : decode cX6_book 13 = .ok (.iload_n 3, 1) := by decide +kernel
theorem dX6_book_14 : decode cX6_book 14 = .ok (.iload 4, 2) := by decide +kernel
theorem dX6_book_16 : decode cX6_book 16 = .ok (.iload 5, 2) := by decide +kernel
theorem dX6_book_18 : decode cX6_book 18 = .ok (.iload 6, 2) := by decide +kernel
theorem dX6_book_20 : decode cX6_book 20 = .ok (.invokestatic 207, 3) := by decide +kernel
theorem dX6_book_23 : decode cX6_book 23 = .ok (.invokestatic 92, 3) := by decide +kernel
theorem dX6_book_26 : decode cX6_book 26 = .ok (.aload 7, 2) := by decide +kernel
theorem dX6_book_28 : decode cX6_book 28 = .ok (.getfield 166, 3) := by decide +kernel
theorem dX6_book_31 : decode cX6_book 31 = .ok (.ifCond .ne 16, 3) := by decide +kernel
theorem dX6_book_34 : decode cX6_book 34 = .ok (.aload_n 0, 1) := by decide +kernel
theorem dX6_book_35 : decode cX6_book 35 = .ok (.getfield 74, 3) := by decide +kernel
theorem dX6_book_38 : decode cX6_book 38 = .ok (.bipush 40, 2) := by decide +kernel
theorem dX6_book_40 : decode cX6_book 40 = .ok (.if_icmp .ge 7, 3) := by decide +kernel
theorem dX6_book_43 : decode cX6_book 43 = .ok (.iconst 1, 1) := by decide +kernel
theorem dX6_book_44 : decode cX6_book 44 = .ok (.goto 4, 3) := by decide +kernel
theorem dX6_book_47 : decode cX6_book 47 = .ok (.iconst 0, 1) := by decide +kernel
theorem dX6_book_48 : decode cX6_book 48 = .ok (.invokestatic 96, 3) := by decide +kernel
theorem dX6_book_51 : decode cX6_book 51 = .ok (.aload_n 0, 1) := by decide +kernel
theorem dX6_book_52 : decode cX6_book 52 = .ok (.getfield 74, 3) := by decide +kernel
theorem dX6_book_55 : decode cX6_book 55 = .ok (.istore 8, 2) := by decide +kernel
theorem dX6_book_57 : decode cX6_book 57 = .ok (.aload_n 0, 1) := by decide +kernel
theorem dX6_book_58 : decode cX6_book 58 = .ok (.dup, 1) := by decide +kernel
theorem dX6_book_59 : decode cX6_book 59 = .ok (.getfield 74, 3) := by decide +kernel
theorem dX6_book_62 : decode cX6_book 62 = .ok (.iconst 1, 1) := by decide +kernel
theorem dX6_book_63 : decode cX6_book 63 = .ok (.iadd, 1) := by decide +kernel
theorem dX6_book_64 : decode cX6_book 64 = .ok (.putfield 74, 3) := by decide +kernel
theorem dX6_book_67 : decode cX6_book 67 = .ok (.aload_n 0, 1) := by decide +kernel
theorem dX6_book_68 : decode cX6_book 68 = .ok (.iload 8, 2) := by decide +kernel
theorem dX6_book_70 : decode cX6_book 70 = .ok (.invokevirtual 211, 3) := by decide +kernel
theorem dX6_book_73 : decode cX6_book 73 = .ok (.astore 9, 2) := by decide +kernel
theorem dX6_book_75 : decode cX6_book 75 = .ok (.aload 9, 2) := by decide +kernel
theorem dX6_book_77 : decode cX6_book 77 = .ok (.iload_n 2, 1) := by decide +kernel
theorem dX6_book_78 : decode cX6_book 78 = .ok (.putfield 215, 3) := by decide +kernel
theorem dX6_book_81 : decode cX6_book 81 = .ok (.aload 9, 2) := by decide +kernel
theorem dX6_book_83 : decode cX6_book 83 = .ok (.iload_n 3, 1) := by decide +kernel
theorem dX6_book_84 : decode cX6_book 84 = .ok (.putfield 218, 3) := by decide +kernel
theorem dX6_book_87 : decode cX6_book 87 = .ok (.aload 9, 2) := by decide +kernel
theorem dX6_book_89 : decode cX6_book 89 = .ok (.iload 4, 2) := by decide +kernel
theorem dX6_book_91 : decode cX6_book 91 = .ok (.putfield 221, 3) := by decide +kernel
theorem dX6_book_94 : decode cX6_book 94 = .ok (.aload 9, 2) := by decide +kernel
theorem dX6_book_96 : decode cX6_book 96 = .ok (.iload 5, 2) := by decide +kernel
theorem dX6_book_98 : decode cX6_book 98 = .ok (.putfield 224, 3) := by decide +kernel
theorem dX6_book_101 : decode cX6_book 101 = .ok (.aload 9, 2) := by decide +kernel
theorem dX6_book_103 : decode cX6_book 103 = .ok (.iload 6, 2) := by decide +kernel
theorem dX6_book_105 : decode cX6_book 105 = .ok (.putfield 227, 3) := by decide +kernel
theorem dX6_book_108 : decode cX6_book 108 = .ok (.aload 9, 2) := by decide +kernel
theorem dX6_book_110 : decode cX6_book 110 = .ok (.aload_n 0, 1) := by decide +kernel
theorem dX6_book_111 : decode cX6_book 111 = .ok (.getfield 33, 3) := by decide +kernel
theorem dX6_book_114 : decode cX6_book 114 = .ok (.iload_n 1, 1) := by decide +kernel
theorem dX6_book_115 : decode cX6_book 115 = .ok (.iaload, 1) := by decide +kernel
theorem dX6_book_116 : decode cX6_book 116 = .ok (.aload 7, 2) := by decide +kernel
theorem dX6_book_118 : decode cX6_book 118 = .ok (.getfield 183, 3) := by decide +kernel
theorem dX6_book_121 : decode cX6_book 121 = .ok (.if_icmp .eq 17, 3) := by decide +kernel
theorem dX6_book_124 : decode cX6_book 124 = .ok (.aload_n 0, 1) := by decide +kernel
theorem dX6_book_125 : decode cX6_book 125 = .ok (.getfield 33, 3) := by decide +kernel
theorem dX6_book_128 : decode cX6_book 128 = .ok (.iload_n 1, 1) := by decide +kernel
theorem dX6_book_129 : decode cX6_book 129 = .ok (.iaload, 1) := by decide +kernel
theorem dX6_book_130 : decode cX6_book 130 = .ok (.aload 7, 2) := by decide +kernel
theorem dX6_book_132 : decode cX6_book 132 = .ok (.getfield 156, 3) := by decide +kernel
theorem dX6_book_135 : decode cX6_book 135 = .ok (.if_icmp .ne 7, 3) := by decide +kernel
theorem dX6_book_138 : decode cX6_book 138 = .ok (.iconst 1, 1) := by decide +kernel
theorem dX6_book_139 : decode cX6_book 139 = .ok (.goto 4, 3) := by decide +kernel
theorem dX6_book_142 : decode cX6_book 142 = .ok (.iconst 0, 1) := by decide +kernel
theorem dX6_book_143 : decode cX6_book 143 = .ok (.putfield 230, 3) := by decide +kernel
theorem dX6_book_146 : decode cX6_book 146 = .ok (.aload_n 0, 1) := by decide +kernel
theorem dX6_book_147 : decode cX6_book 147 = .ok (.aload 9, 2) := by decide +kernel
theorem dX6_book_149 : decode cX6_book 149 = .ok (.iload_n 3, 1) := by decide +kernel
theorem dX6_book_150 : decode cX6_book 150 = .ok (.invokestatic 233, 3) := by decide +kernel
theorem dX6_book_153 : decode cX6_book 153 = .ok (.aload 7, 2) := by decide +kernel
theorem dX6_book_155 : decode cX6_book 155 = .ok (.getfield 192, 3) := by decide +kernel
theorem dX6_book_158 : decode cX6_book 158 = .ok (.imul, 1) := by decide +kernel
theorem dX6_book_159 : decode cX6_book 159 = .ok (.invokevirtual 236, 3) := by decide +kernel
theorem dX6_book_162 : decode cX6_book 162 = .ok (.iload 8, 2) := by decide +kernel
theorem dX6_book_164 : decode cX6_book 164 = .ok (.ireturn, 1) := by decide +kernel
theorem dX6_sailingOf_0 : decode cX6_sailingOf 0 = .ok (.aload_n 0, 1) := by decide +kernel
theorem dX6_sailingOf_1 : decode cX6_sailingOf 1 = .ok (.iload_n 1, 1) := by decide +kernel
theorem dX6_sailingOf_2 : decode cX6_sailingOf 2 = .ok (.invokevirtual 211, 3) := by decide +kernel
theorem dX6_sailingOf_5 : decode cX6_sailingOf 5 = .ok (.getfield 215, 3) := by decide +kernel
theorem dX6_sailingOf_8 : decode cX6_sailingOf 8 = .ok (.ireturn, 1) := by decide +kernel
theorem dX6_lane_0 : decode cX6_lane 0 = .ok (.aload_n 0, 1) := by decide +kernel
theorem dX6_lane_1 : decode cX6_lane 1 = .ok (.iload_n 1, 1) := by decide +kernel
theorem dX6_lane_2 : decode cX6_lane 2 = .ok (.invokevirtual 211, 3) := by decide +kernel
theorem dX6_lane_5 : decode cX6_lane 5 = .ok (.getfield 240, 3) := by decide +kernel
theorem dX6_lane_8 : decode cX6_lane 8 = .ok (.ireturn, 1) := by decide +kernel
theorem dX6_paid_0 : decode cX6_paid 0 = .ok (.aload_n 0, 1) := by decide +kernel
theorem dX6_paid_1 : decode cX6_paid 1 = .ok (.iload_n 1, 1) := by decide +kernel
theorem dX6_paid_2 : decode cX6_paid 2 = .ok (.invokevirtual 211, 3) := by decide +kernel
theorem dX6_paid_5 : decode cX6_paid 5 = .ok (.getfield 243, 3) := by decide +kernel
theorem dX6_paid_8 : decode cX6_paid 8 = .ok (.ireturn, 1) := by decide +kernel
theorem dX6_taken_0 : decode cX6_taken 0 = .ok (.iload_n 1, 1) := by decide +kernel
theorem dX6_taken_1 : decode cX6_taken 1 = .ok (.aload_n 0, 1) := by decide +kernel
theorem dX6_taken_2 : decode cX6_taken 2 = .ok (.getfield 71, 3) := by decide +kernel
theorem dX6_taken_5 : decode cX6_taken 5 = .ok (.invokestatic 84, 3) := by decide +kernel
theorem dX6_taken_8 : decode cX6_taken 8 = .ok (.iconst 0, 1) := by decide +kernel
theorem dX6_taken_9 : decode cX6_taken 9 = .ok (.istore_n 2, 1) := by decide +kernel
theorem dX6_taken_10 : decode cX6_taken 10 = .ok (.iconst 0, 1) := by decide +kernel
theorem dX6_taken_11 : decode cX6_taken 11 = .ok (.istore_n 3, 1) := by decide +kernel
theorem dX6_taken_12 : decode cX6_taken 12 = .ok (.iload_n 3, 1) := by decide +kernel
theorem dX6_taken_13 : decode cX6_taken 13 = .ok (.aload_n 0, 1) := by decide +kernel
theorem dX6_taken_14 : decode cX6_taken 14 = .ok (.getfield 74, 3) := by decide +kernel
theorem dX6_taken_17 : decode cX6_taken 17 = .ok (.if_icmp .ge 36, 3) := by decide +kernel
theorem dX6_taken_20 : decode cX6_taken 20 = .ok (.aload_n 0, 1) := by decide +kernel
theorem dX6_taken_21 : decode cX6_taken 21 = .ok (.iload_n 3, 1) := by decide +kernel
theorem dX6_taken_22 : decode cX6_taken 22 = .ok (.invokevirtual 211, 3) := by decide +kernel
theorem dX6_taken_25 : decode cX6_taken 25 = .ok (.astore 4, 2) := by decide +kernel
theorem dX6_taken_27 : decode cX6_taken 27 = .ok (.aload 4, 2) := by decide +kernel
theorem dX6_taken_29 : decode cX6_taken 29 = .ok (.getfield 215, 3) := by decide +kernel
theorem dX6_taken_32 : decode cX6_taken 32 = .ok (.iload_n 1, 1) := by decide +kernel
theorem dX6_taken_33 : decode cX6_taken 33 = .ok (.if_icmp .ne 14, 3) := by decide +kernel
theorem dX6_taken_36 : decode cX6_taken 36 = .ok (.aload 4, 2) := by decide +kernel
theorem dX6_taken_38 : decode cX6_taken 38 = .ok (.getfield 246, 3) := by decide +kernel
theorem dX6_taken_41 : decode cX6_taken 41 = .ok (.ifCond .eq 6, 3) := by decide +kernel
theorem dX6_taken_44 : decode cX6_taken 44 = .ok (.iinc 2 1, 3) := by decide +kernel
theorem dX6_taken_47 : decode cX6_taken 47 = .ok (.iinc 3 1, 3) := by decide +kernel
theorem dX6_taken_50 : decode cX6_taken 50 = .ok (.goto (-38), 3) := by decide +kernel
theorem dX6_taken_53 : decode cX6_taken 53 = .ok (.iload_n 2, 1) := by decide +kernel
theorem dX6_taken_54 : decode cX6_taken 54 = .ok (.ireturn, 1) := by decide +kernel
theorem dX6_list_0 : decode cX6_list 0 = .ok (.aload_n 0, 1) := by decide +kernel
theorem dX6_list_1 : decode cX6_list 1 = .ok (.iload_n 1, 1) := by decide +kernel
theorem dX6_list_2 : decode cX6_list 2 = .ok (.invokevirtual 152, 3) := by decide +kernel
theorem dX6_list_5 : decode cX6_list 5 = .ok (.astore_n 2, 1) := by decide +kernel
theorem dX6_list_6 : decode cX6_list 6 = .ok (.aload_n 2, 1) := by decide +kernel
theorem dX6_list_7 : decode cX6_list 7 = .ok (.getfield 166, 3) := by decide +kernel
theorem dX6_list_10 : decode cX6_list 10 = .ok (.iconst 2, 1) := by decide +kernel
theorem dX6_list_11 : decode cX6_list 11 = .ok (.if_icmp .eq 11, 3) := by decide +kernel
theorem dX6_list_14 : decode cX6_list 14 = .ok (.new 249, 3) := by decide +kernel
theorem dX6_list_17 : decode cX6_list 17 = .ok (.dup, 1) := by decide +kernel
theorem dX6_list_18 : decode cX6_list 18 = .ok (.invokespecial 251, 3) := by decide +kernel
theorem dX6_list_21 : decode cX6_list 21 = .ok (.athrow, 1) := by decide +kernel
theorem dX6_list_22 : decode cX6_list 22 = .ok (.aload_n 2, 1) := by decide +kernel
theorem dX6_list_23 : decode cX6_list 23 = .ok (.getfield 252, 3) := by decide +kernel
theorem dX6_list_26 : decode cX6_list 26 = .ok (.ireturn, 1) := by decide +kernel
theorem dX6_account_0 : decode cX6_account 0 = .ok (.iload_n 1, 1) := by decide +kernel
theorem dX6_account_1 : decode cX6_account 1 = .ok (.iconst 0, 1) := by decide +kernel
theorem dX6_account_2 : decode cX6_account 2 = .ok (.iconst 2, 1) := by decide +kernel
theorem dX6_account_3 : decode cX6_account 3 = .ok (.invokestatic 88, 3) := by decide +kernel
theorem dX6_account_6 : decode cX6_account 6 = .ok (.invokestatic 92, 3) := by decide +kernel
theorem dX6_account_9 : decode cX6_account 9 = .ok (.aload_n 0, 1) := by decide +kernel
theorem dX6_account_10 : decode cX6_account 10 = .ok (.getfield 43, 3) := by decide +kernel
theorem dX6_account_13 : decode cX6_account 13 = .ok (.iload_n 1, 1) := by decide +kernel
theorem dX6_account_14 : decode cX6_account 14 = .ok (.laload, 1) := by decide +kernel
theorem dX6_account_15 : decode cX6_account 15 = .ok (.lreturn, 1) := by decide +kernel
theorem dX6_accountAnew_0 : decode cX6_accountAnew 0 = .ok (.iload_n 1, 1) := by decide +kernel
theorem dX6_accountAnew_1 : decode cX6_accountAnew 1 = .ok (.ifCond .eq 8, 3) := by decide +kernel
theorem dX6_accountAnew_4 : decode cX6_accountAnew 4 = .ok (.iload_n 1, 1) := by decide +kernel
theorem dX6_accountAnew_5 : decode cX6_accountAnew 5 = .ok (.iconst 1, 1) := by decide +kernel
theorem dX6_accountAnew_6 : decode cX6_accountAnew 6 = .ok (.if_icmp .ne 7, 3) := by decide +kernel
theorem dX6_accountAnew_9 : decode cX6_accountAnew 9 = .ok (.iconst 1, 1) := by decide +kernel
theorem dX6_accountAnew_10 : decode cX6_accountAnew 10 = .ok (.goto 4, 3) := by decide +kernel
theorem dX6_accountAnew_13 : decode cX6_accountAnew 13 = .ok (.iconst 0, 1) := by decide +kernel
theorem dX6_accountAnew_14 : decode cX6_accountAnew 14 = .ok (.invokestatic 92, 3) := by decide +kernel
theorem dX6_accountAnew_17 : decode cX6_accountAnew 17 = .ok (.lconst 0, 1) := by decide +kernel
theorem dX6_accountAnew_18 : decode cX6_accountAnew 18 = .ok (.lstore_n 2, 1) := by decide +kernel
theorem dX6_accountAnew_19 : decode cX6_accountAnew 19 = .ok (.iconst 0, 1) := by decide +kernel
theorem dX6_accountAnew_20 : decode cX6_accountAnew 20 = .ok (.istore 4, 2) := by decide +kernel
theorem dX6_accountAnew_22 : decode cX6_accountAnew 22 = .ok (.iload 4, 2) := by decide +kernel
theorem dX6_accountAnew_24 : decode cX6_accountAnew 24 = .ok (.aload_n 0, 1) := by decide +kernel
theorem dX6_accountAnew_25 : decode cX6_accountAnew 25 = .ok (.getfield 74, 3) := by decide +kernel
theorem dX6_accountAnew_28 : decode cX6_accountAnew 28 = .ok (.if_icmp .ge 48, 3) := by decide +kernel
theorem dX6_accountAnew_31 : decode cX6_accountAnew 31 = .ok (.aload_n 0, 1) := by decide +kernel
theorem dX6_accountAnew_32 : decode cX6_accountAnew 32 = .ok (.iload 4, 2) := by decide +kernel
theorem dX6_accountAnew_34 : decode cX6_accountAnew 34 = .ok (.invokevirtual 211, 3) := by decide +kernel
theorem dX6_accountAnew_37 : decode cX6_accountAnew 37 = .ok (.astore 5, 2) := by decide +kernel
theorem dX6_accountAnew_39 : decode cX6_accountAnew 39 = .ok (.aload 5, 2) := by decide +kernel
theorem dX6_accountAnew_41 : decode cX6_accountAnew 41 = .ok (.getfield 215, 3) := by decide +kernel
theorem dX6_accountAnew_44 : decode cX6_accountAnew 44 = .ok (.iconst (-1), 1) := by decide +kernel
theorem dX6_accountAnew_45 : decode cX6_accountAnew 45 = .ok (.if_icmp .eq 25, 3) := by decide +kernel
theorem dX6_accountAnew_48 : decode cX6_accountAnew 48 = .ok (.lload_n 2, 1) := by decide +kernel
theorem dX6_accountAnew_49 : decode cX6_accountAnew 49 = .ok (.iload_n 1, 1) := by decide +kernel
theorem dX6_accountAnew_50 : decode cX6_accountAnew 50 = .ok (.ifCond .ne 12, 3) := by decide +kernel
theorem dX6_accountAnew_53 : decode cX6_accountAnew 53 = .ok (.aload 5, 2) := by decide +kernel
theorem dX6_accountAnew_55 : decode cX6_accountAnew 55 = .ok (.getfield 243, 3) := by decide +kernel
theorem dX6_accountAnew_58 : decode cX6_accountAnew 58 = .ok (.i2l, 1) := by decide +kernel
theorem dX6_accountAnew_59 : decode cX6_accountAnew 59 = .ok (.goto 9, 3) := by decide +kernel
theorem dX6_accountAnew_62 : decode cX6_accountAnew 62 = .ok (.aload 5, 2) := by decide +kernel
theorem dX6_accountAnew_64 : decode cX6_accountAnew 64 = .ok (.getfield 255, 3) := by decide +kernel
theorem dX6_accountAnew_67 : decode cX6_accountAnew 67 = .ok (.i2l, 1) := by decide +kernel
theorem dX6_accountAnew_68 : decode cX6_accountAnew 68 = .ok (.ladd, 1) := by decide +kernel
theorem dX6_accountAnew_69 : decode cX6_accountAnew 69 = .ok (.lstore_n 2, 1) := by decide +kernel
theorem dX6_accountAnew_70 : decode cX6_accountAnew 70 = .ok (.iinc 4 1, 3) := by decide +kernel
theorem dX6_accountAnew_73 : decode cX6_accountAnew 73 = .ok (.goto (-51), 3) := by decide +kernel
theorem dX6_accountAnew_76 : decode cX6_accountAnew 76 = .ok (.lload_n 2, 1) := by decide +kernel
theorem dX6_accountAnew_77 : decode cX6_accountAnew 77 = .ok (.lreturn, 1) := by decide +kernel
theorem dX6_isWithin_0 : decode cX6_isWithin 0 = .ok (.iload_n 1, 1) := by decide +kernel
theorem dX6_isWithin_1 : decode cX6_isWithin 1 = .ok (.iload_n 0, 1) := by decide +kernel
theorem dX6_isWithin_2 : decode cX6_isWithin 2 = .ok (.if_icmp .gt 12, 3) := by decide +kernel
theorem dX6_isWithin_5 : decode cX6_isWithin 5 = .ok (.iload_n 0, 1) := by decide +kernel
theorem dX6_isWithin_6 : decode cX6_isWithin 6 = .ok (.iload_n 2, 1) := by decide +kernel
theorem dX6_isWithin_7 : decode cX6_isWithin 7 = .ok (.if_icmp .gt 7, 3) := by decide +kernel
theorem dX6_isWithin_10 : decode cX6_isWithin 10 = .ok (.iconst 1, 1) := by decide +kernel
theorem dX6_isWithin_11 : decode cX6_isWithin 11 = .ok (.goto 4, 3) := by decide +kernel
theorem dX6_isWithin_14 : decode cX6_isWithin 14 = .ok (.iconst 0, 1) := by decide +kernel
theorem dX6_isWithin_15 : decode cX6_isWithin 15 = .ok (.ireturn, 1) := by decide +kernel
theorem dX6_demandIndex_0 : decode cX6_demandIndex 0 = .ok (.iload_n 0, 1) := by decide +kernel
theorem dX6_demandIndex_1 : decode cX6_demandIndex 1 = .ok (.ifCond .lt 8, 3) := by decide +kernel
theorem dX6_demandIndex_4 : decode cX6_demandIndex 4 = .ok (.iload_n 0, 1) := by decide +kernel
theorem dX6_demandIndex_5 : decode cX6_demandIndex 5 = .ok (.iload_n 1, 1) := by decide +kernel
theorem dX6_demandIndex_6 : decode cX6_demandIndex 6 = .ok (.if_icmp .lt 11, 3) := by decide +kernel
theorem dX6_demandIndex_9 : decode cX6_demandIndex 9 = .ok (.new 258, 3) := by decide +kernel
theorem dX6_demandIndex_12 : decode cX6_demandIndex 12 = .ok (.dup, 1) := by decide +kernel
theorem dX6_demandIndex_13 : decode cX6_demandIndex 13 = .ok (.invokespecial 260, 3) := by decide +kernel
theorem dX6_demandIndex_16 : decode cX6_demandIndex 16 = .ok (.athrow, 1) := by decide +kernel
theorem dX6_demandIndex_17 : decode cX6_demandIndex 17 = .ok (.return_, 1) := by decide +kernel
theorem dX6_demandArgument_0 : decode cX6_demandArgument 0 = .ok (.iload_n 0, 1) := by decide +kernel
theorem dX6_demandArgument_1 : decode cX6_demandArgument 1 = .ok (.ifCond .ne 11, 3) := by decide +kernel
theorem dX6_demandArgument_4 : decode cX6_demandArgument 4 = .ok (.new 261, 3) := by decide +kernel
theorem dX6_demandArgument_7 : decode cX6_demandArgument 7 = .ok (.dup, 1) := by decide +kernel
theorem dX6_demandArgument_8 : decode cX6_demandArgument 8 = .ok (.invokespecial 263, 3) := by decide +kernel
theorem dX6_demandArgument_11 : decode cX6_demandArgument 11 = .ok (.athrow, 1) := by decide +kernel
theorem dX6_demandArgument_12 : decode cX6_demandArgument 12 = .ok (.return_, 1) := by decide +kernel
theorem dX6_demandState_0 : decode cX6_demandState 0 = .ok (.iload_n 0, 1) := by decide +kernel
theorem dX6_demandState_1 : decode cX6_demandState 1 = .ok (.ifCond .ne 11, 3) := by decide +kernel
theorem dX6_demandState_4 : decode cX6_demandState 4 = .ok (.new 264, 3) := by decide +kernel
theorem dX6_demandState_7 : decode cX6_demandState 7 = .ok (.dup, 1) := by decide +kernel
theorem dX6_demandState_8 : decode cX6_demandState 8 = .ok (.invokespecial 266, 3) := by decide +kernel
theorem dX6_demandState_11 : decode cX6_demandState 11 = .ok (.athrow, 1) := by decide +kernel
theorem dX6_demandState_12 : decode cX6_demandState 12 = .ok (.return_, 1) := by decide +kernel
theorem dX6_knownShip_0 : decode cX6_knownShip 0 = .ok (.iload_n 1, 1) := by decide +kernel
theorem dX6_knownShip_1 : decode cX6_knownShip 1 = .ok (.aload_n 0, 1) := by decide +kernel
theorem dX6_knownShip_2 : decode cX6_knownShip 2 = .ok (.getfield 64, 3) := by decide +kernel
theorem dX6_knownShip_5 : decode cX6_knownShip 5 = .ok (.invokestatic 84, 3) := by decide +kernel
theorem dX6_knownShip_8 : decode cX6_knownShip 8 = .ok (.aload_n 0, 1) := by decide +kernel
theorem dX6_knownShip_9 : decode cX6_knownShip 9 = .ok (.getfield 11, 3) := by decide +kernel
theorem dX6_knownShip_12 : decode cX6_knownShip 12 = .ok (.iload_n 1, 1) := by decide +kernel
theorem dX6_knownShip_13 : decode cX6_knownShip 13 = .ok (.aaload, 1) := by decide +kernel
theorem dX6_knownShip_14 : decode cX6_knownShip 14 = .ok (.areturn, 1) := by decide +kernel
theorem dX6_knownCrew_0 : decode cX6_knownCrew 0 = .ok (.iload_n 1, 1) := by decide +kernel
theorem dX6_knownCrew_1 : decode cX6_knownCrew 1 = .ok (.aload_n 0, 1) := by decide +kernel
theorem dX6_knownCrew_2 : decode cX6_knownCrew 2 = .ok (.getfield 68, 3) := by decide +kernel
theorem dX6_knownCrew_5 : decode cX6_knownCrew 5 = .ok (.invokestatic 84, 3) := by decide +kernel
theorem dX6_knownCrew_8 : decode cX6_knownCrew 8 = .ok (.aload_n 0, 1) := by decide +kernel
theorem dX6_knownCrew_9 : decode cX6_knownCrew 9 = .ok (.getfield 17, 3) := by decide +kernel
theorem dX6_knownCrew_12 : decode cX6_knownCrew 12 = .ok (.iload_n 1, 1) := by decide +kernel
theorem dX6_knownCrew_13 : decode cX6_knownCrew 13 = .ok (.aaload, 1) := by decide +kernel
theorem dX6_knownCrew_14 : decode cX6_knownCrew 14 = .ok (.areturn, 1) := by decide +kernel
theorem dX6_knownSailing_0 : decode cX6_knownSailing 0 = .ok (.iload_n 1, 1) := by decide +kernel
theorem dX6_knownSailing_1 : decode cX6_knownSailing 1 = .ok (.aload_n 0, 1) := by decide +kernel
theorem dX6_knownSailing_2 : decode cX6_knownSailing 2 = .ok (.getfield 71, 3) := by decide +kernel
theorem dX6_knownSailing_5 : decode cX6_knownSailing 5 = .ok (.invokestatic 84, 3) := by decide +kernel
theorem dX6_knownSailing_8 : decode cX6_knownSailing 8 = .ok (.aload_n 0, 1) := by decide +kernel
theorem dX6_knownSailing_9 : decode cX6_knownSailing 9 = .ok (.getfield 23, 3) := by decide +kernel
theorem dX6_knownSailing_12 : decode cX6_knownSailing 12 = .ok (.iload_n 1, 1) := by decide +kernel
theorem dX6_knownSailing_13 : decode cX6_knownSailing 13 = .ok (.aaload, 1) := by decide +kernel
theorem dX6_knownSailing_14 : decode cX6_knownSailing 14 = .ok (.areturn, 1) := by decide +kernel
theorem dX6_knownBooking_0 : decode cX6_knownBooking 0 = .ok (.iload_n 1, 1) := by decide +kernel
theorem dX6_knownBooking_1 : decode cX6_knownBooking 1 = .ok (.aload_n 0, 1) := by decide +kernel
theorem dX6_knownBooking_2 : decode cX6_knownBooking 2 = .ok (.getfield 74, 3) := by decide +kernel
theorem dX6_knownBooking_5 : decode cX6_knownBooking 5 = .ok (.invokestatic 84, 3) := by decide +kernel
theorem dX6_knownBooking_8 : decode cX6_knownBooking 8 = .ok (.aload_n 0, 1) := by decide +kernel
theorem dX6_knownBooking_9 : decode cX6_knownBooking 9 = .ok (.getfield 29, 3) := by decide +kernel
theorem dX6_knownBooking_12 : decode cX6_knownBooking 12 = .ok (.iload_n 1, 1) := by decide +kernel
theorem dX6_knownBooking_13 : decode cX6_knownBooking 13 = .ok (.aaload, 1) := by decide +kernel
theorem dX6_knownBooking_14 : decode cX6_knownBooking 14 = .ok (.areturn, 1) := by decide +kernel
theorem dX6_isBookable_0 : decode cX6_isBookable 0 = .ok (.iload_n 0, 1) := by decide +kernel
theorem dX6_isBookable_1 : decode cX6_isBookable 1 = .ok (.ifCond .ne 21, 3) := by decide +kernel
theorem dX6_isBookable_4 : decode cX6_isBookable 4 = .ok (.iload_n 1, 1) := by decide +kernel
theorem dX6_isBookable_5 : decode cX6_isBookable 5 = .ok (.ifCond .ne 15, 3) := by decide +kernel
theorem dX6_isBookable_8 : decode cX6_isBookable 8 = .ok (.iload_n 2, 1) := by decide +kernel
theorem dX6_isBookable_9 : decode cX6_isBookable 9 = .ok (.ifCond .ne 11, 3) := by decide +kernel
theorem dX6_isBookable_12 : decode cX6_isBookable 12 = .ok (.iload_n 3, 1) := by decide +kernel
theorem dX6_isBookable_13 : decode cX6_isBookable 13 = .ok (.ifCond .ne 7, 3) := by decide +kernel
theorem dX6_isBookable_16 : decode cX6_isBookable 16 = .ok (.iconst 1, 1) := by decide +kernel
theorem dX6_isBookable_17 : decode cX6_isBookable 17 = .ok (.goto 4, 3) := by decide +kernel
theorem dX6_isBookable_20 : decode cX6_isBookable 20 = .ok (.iconst 0, 1) := by decide +kernel
theorem dX6_isBookable_21 : decode cX6_isBookable 21 = .ok (.ireturn, 1) := by decide +kernel
theorem dX6_isBookable_22 : decode cX6_isBookable 22 = .ok (.iload_n 0, 1) := by decide +kernel
theorem dX6_isBookable_23 : decode cX6_isBookable 23 = .ok (.iconst 1, 1) := by decide +kernel
theorem dX6_isBookable_24 : decode cX6_isBookable 24 = .ok (.iconst 3, 1) := by decide +kernel
theorem dX6_isBookable_25 : decode cX6_isBookable 25 = .ok (.invokestatic 88, 3) := by decide +kernel
theorem dX6_isBookable_28 : decode cX6_isBookable 28 = .ok (.ifCond .eq 28, 3) := by decide +kernel
theorem dX6_isBookable_31 : decode cX6_isBookable 31 = .ok (.iload_n 1, 1) := by decide +kernel
theorem dX6_isBookable_32 : decode cX6_isBookable 32 = .ok (.iconst 1, 1) := by decide +kernel
theorem dX6_isBookable_33 : decode cX6_isBookable 33 = .ok (.bipush 40, 2) := by decide +kernel
theorem dX6_isBookable_35 : decode cX6_isBookable 35 = .ok (.invokestatic 88, 3) := by decide +kernel
theorem dX6_isBookable_38 : decode cX6_isBookable 38 = .ok (.ifCond .eq 18, 3) := by decide +kernel
theorem dX6_isBookable_41 : decode cX6_isBookable 41 = .ok (.iload_n 2, 1) := by decide +kernel
theorem dX6_isBookable_42 : decode cX6_isBookable 42 = .ok (.iconst 1, 1) := by decide +kernel
theorem dX6_isBookable_43 : decode cX6_isBookable 43 = .ok (.sipush 200, 3) := by decide +kernel
theorem dX6_isBookable_46 : decode cX6_isBookable 46 = .ok (.invokestatic 88, 3) := by decide +kernel
theorem dX6_isBookable_49 : decode cX6_isBookable 49 = .ok (.ifCond .eq 7, 3) := by decide +kernel
theorem dX6_isBookable_52 : decode cX6_isBookable 52 = .ok (.iconst 1, 1) := by decide +kernel
theorem dX6_isBookable_53 : decode cX6_isBookable 53 = .ok (.goto 4, 3) := by decide +kernel
theorem dX6_isBookable_56 : decode cX6_isBookable 56 = .ok (.iconst 0, 1) := by decide +kernel
theorem dX6_isBookable_57 : decode cX6_isBookable 57 = .ok (.ireturn, 1) := by decide +kernel
theorem dX6_spanFor_0 : decode cX6_spanFor 0 = .ok (.iload_n 1, 1) := by decide +kernel
theorem dX6_spanFor_1 : decode cX6_spanFor 1 = .ok (.iconst 2, 1) := by decide +kernel
theorem dX6_spanFor_2 : decode cX6_spanFor 2 = .ok (.if_icmp .ne 12, 3) := by decide +kernel
theorem dX6_spanFor_5 : decode cX6_spanFor 5 = .ok (.aload_n 0, 1) := by decide +kernel
theorem dX6_spanFor_6 : decode cX6_spanFor 6 = .ok (.iload_n 2, 1) := by decide +kernel
theorem dX6_spanFor_7 : decode cX6_spanFor 7 = .ok (.invokevirtual 99, 3) := by decide +kernel
theorem dX6_spanFor_10 : decode cX6_spanFor 10 = .ok (.getfield 186, 3) := by decide +kernel
theorem dX6_spanFor_13 : decode cX6_spanFor 13 = .ok (.areturn, 1) := by decide +kernel
theorem dX6_spanFor_14 : decode cX6_spanFor 14 = .ok (.iload_n 1, 1) := by decide +kernel
theorem dX6_spanFor_15 : decode cX6_spanFor 15 = .ok (.ifCond .eq 8, 3) := by decide +kernel
theorem dX6_spanFor_18 : decode cX6_spanFor 18 = .ok (.iload_n 1, 1) := by decide +kernel
theorem dX6_spanFor_19 : decode cX6_spanFor 19 = .ok (.iconst 1, 1) := by decide +kernel
theorem dX6_spanFor_20 : decode cX6_spanFor 20 = .ok (.if_icmp .ne 7, 3) := by decide +kernel
theorem dX6_spanFor_23 : decode cX6_spanFor 23 = .ok (.iconst 1, 1) := by decide +kernel
theorem dX6_spanFor_24 : decode cX6_spanFor 24 = .ok (.goto 4, 3) := by decide +kernel
theorem dX6_spanFor_27 : decode cX6_spanFor 27 = .ok (.iconst 0, 1) := by decide +kernel
theorem dX6_spanFor_28 : decode cX6_spanFor 28 = .ok (.invokestatic 92, 3) := by decide +kernel
theorem dX6_spanFor_31 : decode cX6_spanFor 31 = .ok (.iload_n 1, 1) := by decide +kernel
theorem dX6_spanFor_32 : decode cX6_spanFor 32 = .ok (.ifCond .ne 10, 3) := by decide +kernel
theorem dX6_spanFor_35 : decode cX6_spanFor 35 = .ok (.aload_n 0, 1) := by decide +kernel
theorem dX6_spanFor_36 : decode cX6_spanFor 36 = .ok (.getfield 50, 3) := by decide +kernel
theorem dX6_spanFor_39 : decode cX6_spanFor 39 = .ok (.goto 7, 3) := by decide +kernel
theorem dX6_spanFor_42 : decode cX6_spanFor 42 = .ok (.aload_n 0, 1) := by decide +kernel
theorem dX6_spanFor_43 : decode cX6_spanFor 43 = .ok (.getfield 54, 3) := by decide +kernel
theorem dX6_spanFor_46 : decode cX6_spanFor 46 = .ok (.areturn, 1) := by decide +kernel
theorem dX6_depthAt_0 : decode cX6_depthAt 0 = .ok (.iconst 3, 1) := by decide +kernel
theorem dX6_depthAt_1 : decode cX6_depthAt 1 = .ok (.iload_n 1, 1) := by decide +kernel
theorem dX6_depthAt_2 : decode cX6_depthAt 2 = .ok (.iconst 2, 1) := by decide +kernel
theorem dX6_depthAt_3 : decode cX6_depthAt 3 = .ok (.iload_n 0, 1) := by decide +kernel
theorem dX6_depthAt_4 : decode cX6_depthAt 4 = .ok (.imul, 1) := by decide +kernel
theorem dX6_depthAt_5 : decode cX6_depthAt 5 = .ok (.iadd, 1) := by decide +kernel
theorem dX6_depthAt_6 : decode cX6_depthAt 6 = .ok (.bipush 12, 2) := by decide +kernel
theorem dX6_depthAt_8 : decode cX6_depthAt 8 = .ok (.irem, 1) := by decide +kernel
theorem dX6_depthAt_9 : decode cX6_depthAt 9 = .ok (.bipush 6, 2) := by decide +kernel
theorem dX6_depthAt_11 : decode cX6_depthAt 11 = .ok (.isub, 1) := by decide +kernel
theorem dX6_depthAt_12 : decode cX6_depthAt 12 = .ok (.invokestatic 267, 3) := by decide +kernel
theorem dX6_depthAt_15 : decode cX6_depthAt 15 = .ok (.iadd, 1) := by decide +kernel
theorem dX6_depthAt_16 : decode cX6_depthAt 16 = .ok (.ireturn, 1) := by decide +kernel
theorem dX6_lastSailing_0 : decode cX6_lastSailing 0 = .ok (.iconst (-1), 1) := by decide +kernel
theorem dX6_lastSailing_1 : decode cX6_lastSailing 1 = .ok (.istore_n 2, 1) := by decide +kernel
theorem dX6_lastSailing_2 : decode cX6_lastSailing 2 = .ok (.iconst 0, 1) := by decide +kernel
theorem dX6_lastSailing_3 : decode cX6_lastSailing 3 = .ok (.istore_n 3, 1) := by decide +kernel
theorem dX6_lastSailing_4 : decode cX6_lastSailing 4 = .ok (.iload_n 3, 1) := by decide +kernel
theorem dX6_lastSailing_5 : decode cX6_lastSailing 5 = .ok (.aload_n 0, 1) := by decide +kernel
theorem dX6_lastSailing_6 : decode cX6_lastSailing 6 = .ok (.getfield 71, 3) := by decide +kernel
theorem dX6_lastSailing_9 : decode cX6_lastSailing 9 = .ok (.if_icmp .ge 36, 3) := by decide +kernel
theorem dX6_lastSailing_12 : decode cX6_lastSailing 12 = .ok (.aload_n 0, 1) := by decide +kernel
theorem dX6_lastSailing_13 : decode cX6_lastSailing 13 = .ok (.iload_n 3, 1) := by decide +kernel
theorem dX6_lastSailing_14 : decode cX6_lastSailing 14 = .ok (.invokevirtual 152, 3) := by decide +kernel
theorem dX6_lastSailing_17 : decode cX6_lastSailing 17 = .ok (.astore 4, 2) := by decide +kernel
theorem dX6_lastSailing_19 : decode cX6_lastSailing 19 = .ok (.aload 4, 2) := by decide +kernel
theorem dX6_lastSailing_21 : decode cX6_lastSailing 21 = .ok (.getfield 270, 3) := by decide +kernel
theorem dX6_lastSailing_24 : decode cX6_lastSailing 24 = .ok (.iload_n 1, 1) := by decide +kernel
theorem dX6_lastSailing_25 : decode cX6_lastSailing 25 = .ok (.if_icmp .ne 14, 3) := by decide +kernel
theorem dX6_lastSailing_28 : decode cX6_lastSailing 28 = .ok (.aload 4, 2) := by decide +kernel
theorem dX6_lastSailing_30 : decode cX6_lastSailing 30 = .ok (.getfield 166, 3) := by decide +kernel
theorem dX6_lastSailing_33 : decode cX6_lastSailing 33 = .ok (.iconst 1, 1) := by decide +kernel
theorem dX6_lastSailing_34 : decode cX6_lastSailing 34 = .ok (.if_icmp .eq 5, 3) := by decide +kernel
theorem dX6_lastSailing_37 : decode cX6_lastSailing 37 = .ok (.iload_n 3, 1) := by decide +kernel
theorem dX6_lastSailing_38 : decode cX6_lastSailing 38 = .ok (.istore_n 2, 1) := by decide +kernel
theorem dX6_lastSailing_39 : decode cX6_lastSailing 39 = .ok (.iinc 3 1, 3) := by decide +kernel
theorem dX6_lastSailing_42 : decode cX6_lastSailing 42 = .ok (.goto (-38), 3) := by decide +kernel
theorem dX6_lastSailing_45 : decode cX6_lastSailing 45 = .ok (.iload_n 2, 1) := by decide +kernel
theorem dX6_lastSailing_46 : decode cX6_lastSailing 46 = .ok (.ireturn, 1) := by decide +kernel
theorem dX6_whereWas_0 : decode cX6_whereWas 0 = .ok (.aload_n 0, 1) := by decide +kernel
theorem dX6_whereWas_1 : decode cX6_whereWas 1 = .ok (.iload_n 1, 1) := by decide +kernel
theorem dX6_whereWas_2 : decode cX6_whereWas 2 = .ok (.invokevirtual 99, 3) := by decide +kernel
theorem dX6_whereWas_5 : decode cX6_whereWas 5 = .ok (.getfield 103, 3) := by decide +kernel
theorem dX6_whereWas_8 : decode cX6_whereWas 8 = .ok (.istore_n 3, 1) := by decide +kernel
theorem dX6_whereWas_9 : decode cX6_whereWas 9 = .ok (.iconst 0, 1) := by decide +kernel
theorem dX6_whereWas_10 : decode cX6_whereWas 10 = .ok (.istore 4, 2) := by decide +kernel
theorem dX6_whereWas_12 : decode cX6_whereWas 12 = .ok (.iload 4, 2) := by decide +kernel
theorem dX6_whereWas_14 : decode cX6_whereWas 14 = .ok (.aload_n 0, 1) := by decide +kernel
theorem dX6_whereWas_15 : decode cX6_whereWas 15 = .ok (.getfield 71, 3) := by decide +kernel
theorem dX6_whereWas_18 : decode cX6_whereWas 18 = .ok (.if_icmp .ge 63, 3) := by decide +kernel
theorem dX6_whereWas_21 : decode cX6_whereWas 21 = .ok (.aload_n 0, 1) := by decide +kernel
theorem dX6_whereWas_22 : decode cX6_whereWas 22 = .ok (.iload 4, 2) := by decide +kernel
theorem dX6_whereWas_24 : decode cX6_whereWas 24 = .ok (.invokevirtual 152, 3) := by decide +kernel
theorem dX6_whereWas_27 : decode cX6_whereWas 27 = .ok (.astore 5, 2) := by decide +kernel
theorem dX6_whereWas_29 : decode cX6_whereWas 29 = .ok (.aload 5, 2) := by decide +kernel
theorem dX6_whereWas_31 : decode cX6_whereWas 31 = .ok (.getfield 270, 3) := by decide +kernel
theorem dX6_whereWas_34 : decode cX6_whereWas 34 = .ok (.iload_n 1, 1) := by decide +kernel
theorem dX6_whereWas_35 : decode cX6_whereWas 35 = .ok (.if_icmp .ne 40, 3) := by decide +kernel
theorem dX6_whereWas_38 : decode cX6_whereWas 38 = .ok (.aload 5, 2) := by decide +kernel
theorem dX6_whereWas_40 : decode cX6_whereWas 40 = .ok (.getfield 166, 3) := by decide +kernel
theorem dX6_whereWas_43 : decode cX6_whereWas 43 = .ok (.iconst 2, 1) := by decide +kernel
theorem dX6_whereWas_44 : decode cX6_whereWas 44 = .ok (.if_icmp .ne 31, 3) := by decide +kernel
theorem dX6_whereWas_47 : decode cX6_whereWas 47 = .ok (.aload 5, 2) := by decide +kernel
theorem dX6_whereWas_49 : decode cX6_whereWas 49 = .ok (.getfield 271, 3) := by decide +kernel
theorem dX6_whereWas_52 : decode cX6_whereWas 52 = .ok (.iload_n 2, 1) := by decide +kernel
theorem dX6_whereWas_53 : decode cX6_whereWas 53 = .ok (.if_icmp .gt 22, 3) := by decide +kernel
theorem dX6_whereWas_56 : decode cX6_whereWas 56 = .ok (.iload_n 2, 1) := by decide +kernel
theorem dX6_whereWas_57 : decode cX6_whereWas 57 = .ok (.aload 5, 2) := by decide +kernel
theorem dX6_whereWas_59 : decode cX6_whereWas 59 = .ok (.getfield 159, 3) := by decide +kernel
theorem dX6_whereWas_62 : decode cX6_whereWas 62 = .ok (.if_icmp .ge 7, 3) := by decide +kernel
theorem dX6_whereWas_65 : decode cX6_whereWas 65 = .ok (.iconst (-1), 1) := by decide +kernel
theorem dX6_whereWas_66 : decode cX6_whereWas 66 = .ok (.goto 8, 3) := by decide +kernel
theorem dX6_whereWas_69 : decode cX6_whereWas 69 = .ok (.aload 5, 2) := by decide +kernel
theorem dX6_whereWas_71 : decode cX6_whereWas 71 = .ok (.getfield 156, 3) := by decide +kernel
theorem dX6_whereWas_74 : decode cX6_whereWas 74 = .ok (.istore_n 3, 1) := by decide +kernel
theorem dX6_whereWas_75 : decode cX6_whereWas 75 = .ok (.iinc 4 1, 3) := by decide +kernel
theorem dX6_whereWas_78 : decode cX6_whereWas 78 = .ok (.goto (-66), 3) := by decide +kernel
theorem dX6_whereWas_81 : decode cX6_whereWas 81 = .ok (.iload_n 3, 1) := by decide +kernel
theorem dX6_whereWas_82 : decode cX6_whereWas 82 = .ok (.ireturn, 1) := by decide +kernel
theorem dX6_isFree_0 : decode cX6_isFree 0 = .ok (.aload_n 0, 1) := by decide +kernel
theorem dX6_isFree_1 : decode cX6_isFree 1 = .ok (.iload_n 1, 1) := by decide +kernel
theorem dX6_isFree_2 : decode cX6_isFree 2 = .ok (.invokevirtual 148, 3) := by decide +kernel
theorem dX6_isFree_5 : decode cX6_isFree 5 = .ok (.istore_n 2, 1) := by decide +kernel
theorem dX6_isFree_6 : decode cX6_isFree 6 = .ok (.iload_n 2, 1) := by decide +kernel
theorem dX6_isFree_7 : decode cX6_isFree 7 = .ok (.iconst (-1), 1) := by decide +kernel
theorem dX6_isFree_8 : decode cX6_isFree 8 = .ok (.if_icmp .eq 30, 3) := by decide +kernel
theorem dX6_isFree_11 : decode cX6_isFree 11 = .ok (.aload_n 0, 1) := by decide +kernel
theorem dX6_isFree_12 : decode cX6_isFree 12 = .ok (.iload_n 2, 1) := by decide +kernel
theorem dX6_isFree_13 : decode cX6_isFree 13 = .ok (.invokevirtual 152, 3) := by decide +kernel
theorem dX6_isFree_16 : decode cX6_isFree 16 = .ok (.getfield 166, 3) := by decide +kernel
theorem dX6_isFree_19 : decode cX6_isFree 19 = .ok (.iconst 2, 1) := by decide +kernel
theorem dX6_isFree_20 : decode cX6_isFree 20 = .ok (.if_icmp .ne 22, 3) := by decide +kernel
theorem dX6_isFree_23 : decode cX6_isFree 23 = .ok (.aload_n 0, 1) := by decide +kernel
theorem dX6_isFree_24 : decode cX6_isFree 24 = .ok (.iload_n 2, 1) := by decide +kernel
theorem dX6_isFree_25 : decode cX6_isFree 25 = .ok (.invokevirtual 152, 3) := by decide +kernel
theorem dX6_isFree_28 : decode cX6_isFree 28 = .ok (.getfield 159, 3) := by decide +kernel
theorem dX6_isFree_31 : decode cX6_isFree 31 = .ok (.aload_n 0, 1) := by decide +kernel
theorem dX6_isFree_32 : decode cX6_isFree 32 = .ok (.getfield 77, 3) := by decide +kernel
theorem dX6_isFree_35 : decode cX6_isFree 35 = .ok (.if_icmp .gt 7, 3) := by decide +kernel
theorem dX6_isFree_38 : decode cX6_isFree 38 = .ok (.iconst 1, 1) := by decide +kernel
theorem dX6_isFree_39 : decode cX6_isFree 39 = .ok (.goto 4, 3) := by decide +kernel
theorem dX6_isFree_42 : decode cX6_isFree 42 = .ok (.iconst 0, 1) := by decide +kernel
theorem dX6_isFree_43 : decode cX6_isFree 43 = .ok (.ireturn, 1) := by decide +kernel
theorem dX6_addSailing_0 : decode cX6_addSailing 0 = .ok (.aload_n 0, 1) := by decide +kernel
theorem dX6_addSailing_1 : decode cX6_addSailing 1 = .ok (.getfield 71, 3) := by decide +kernel
theorem dX6_addSailing_4 : decode cX6_addSailing 4 = .ok (.istore 6, 2) := by decide +kernel
theorem dX6_addSailing_6 : decode cX6_addSailing 6 = .ok (.aload_n 0, 1) := by decide +kernel
theorem dX6_addSailing_7 : decode cX6_addSailing 7 = .ok (.dup, 1) := by decide +kernel
theorem dX6_addSailing_8 : decode cX6_addSailing 8 = .ok (.getfield 71, 3) := by decide +kernel
theorem dX6_addSailing_11 : decode cX6_addSailing 11 = .ok (.iconst 1, 1) := by decide +kernel
theorem dX6_addSailing_12 : decode cX6_addSailing 12 = .ok (.iadd, 1) := by decide +kernel
theorem dX6_addSailing_13 : decode cX6_addSailing 13 = .ok (.putfield 71, 3) := by decide +kernel
theorem dX6_addSailing_16 : decode cX6_addSailing 16 = .ok (.aload_n 0, 1) := by decide +kernel
theorem dX6_addSailing_17 : decode cX6_addSailing 17 = .ok (.iload 6, 2) := by decide +kernel
theorem dX6_addSailing_19 : decode cX6_addSailing 19 = .ok (.invokevirtual 152, 3) := by decide +kernel
theorem dX6_addSailing_22 : decode cX6_addSailing 22 = .ok (.astore 7, 2) := by decide +kernel
theorem dX6_addSailing_24 : decode cX6_addSailing 24 = .ok (.aload 7, 2) := by decide +kernel
theorem dX6_addSailing_26 : decode cX6_addSailing 26 = .ok (.iload_n 1, 1) := by decide +kernel
theorem dX6_addSailing_27 : decode cX6_addSailing 27 = .ok (.putfield 270, 3) := by decide +kernel
theorem dX6_addSailing_30 : decode cX6_addSailing 30 = .ok (.aload 7, 2) := by decide +kernel
theorem dX6_addSailing_32 : decode cX6_addSailing 32 = .ok (.iload_n 2, 1) := by decide +kernel
theorem dX6_addSailing_33 : decode cX6_addSailing 33 = .ok (.putfield 183, 3) := by decide +kernel
theorem dX6_addSailing_36 : decode cX6_addSailing 36 = .ok (.aload 7, 2) := by decide +kernel
theorem dX6_addSailing_38 : decode cX6_addSailing 38 = .ok (.iload_n 3, 1) := by decide +kernel
theorem dX6_addSailing_39 : decode cX6_addSailing 39 = .ok (.putfield 156, 3) := by decide +kernel
theorem dX6_addSailing_42 : decode cX6_addSailing 42 = .ok (.aload 7, 2) := by decide +kernel
theorem dX6_addSailing_44 : decode cX6_addSailing 44 = .ok (.iload 4, 2) := by decide +kernel
theorem dX6_addSailing_46 : decode cX6_addSailing 46 = .ok (.putfield 271, 3) := by decide +kernel
theorem dX6_addSailing_49 : decode cX6_addSailing 49 = .ok (.aload 7, 2) := by decide +kernel
theorem dX6_addSailing_51 : decode cX6_addSailing 51 = .ok (.iload 5, 2) := by decide +kernel
theorem dX6_addSailing_53 : decode cX6_addSailing 53 = .ok (.putfield 192, 3) := by decide +kernel
theorem dX6_addSailing_56 : decode cX6_addSailing 56 = .ok (.aload 7, 2) := by decide +kernel
theorem dX6_addSailing_58 : decode cX6_addSailing 58 = .ok (.iload 4, 2) := by decide +kernel
theorem dX6_addSailing_60 : decode cX6_addSailing 60 = .ok (.aload_n 0, 1) := by decide +kernel
theorem dX6_addSailing_61 : decode cX6_addSailing 61 = .ok (.iload_n 1, 1) := by decide +kernel
theorem dX6_addSailing_62 : decode cX6_addSailing 62 = .ok (.invokevirtual 99, 3) := by decide +kernel
theorem dX6_addSailing_65 : decode cX6_addSailing 65 = .ok (.iload 5, 2) := by decide +kernel
theorem dX6_addSailing_67 : decode cX6_addSailing 67 = .ok (.invokevirtual 274, 3) := by decide +kernel
theorem dX6_addSailing_70 : decode cX6_addSailing 70 = .ok (.iadd, 1) := by decide +kernel
theorem dX6_addSailing_71 : decode cX6_addSailing 71 = .ok (.putfield 159, 3) := by decide +kernel
theorem dX6_addSailing_74 : decode cX6_addSailing 74 = .ok (.iload 6, 2) := by decide +kernel
theorem dX6_addSailing_76 : decode cX6_addSailing 76 = .ok (.ireturn, 1) := by decide +kernel
theorem dX6_lookAt_0 : decode cX6_lookAt 0 = .ok (.aload_n 0, 1) := by decide +kernel
theorem dX6_lookAt_1 : decode cX6_lookAt 1 = .ok (.iload_n 1, 1) := by decide +kernel
theorem dX6_lookAt_2 : decode cX6_lookAt 2 = .ok (.invokevirtual 152, 3) := by decide +kernel
theorem dX6_lookAt_5 : decode cX6_lookAt 5 = .ok (.astore_n 2, 1) := by decide +kernel
theorem dX6_lookAt_6 : decode cX6_lookAt 6 = .ok (.aload_n 2, 1) := by decide +kernel
theorem dX6_lookAt_7 : decode cX6_lookAt 7 = .ok (.getfield 166, 3) := by decide +kernel
theorem dX6_lookAt_10 : decode cX6_lookAt 10 = .ok (.ifCond .ne 14, 3) := by decide +kernel
theorem dX6_lookAt_13 : decode cX6_lookAt 13 = .ok (.aload_n 2, 1) := by decide +kernel
theorem dX6_lookAt_14 : decode cX6_lookAt 14 = .ok (.getfield 271, 3) := by decide +kernel
theorem dX6_lookAt_17 : decode cX6_lookAt 17 = .ok (.aload_n 0, 1) := by decide +kernel
theorem dX6_lookAt_18 : decode cX6_lookAt 18 = .ok (.getfield 77, 3) := by decide +kernel
theorem dX6_lookAt_21 : decode cX6_lookAt 21 = .ok (.if_icmp .eq 4, 3) := by decide +kernel
theorem dX6_lookAt_24 : decode cX6_lookAt 24 = .ok (.return_, 1) := by decide +kernel
theorem dX6_lookAt_25 : decode cX6_lookAt 25 = .ok (.aload_n 0, 1) := by decide +kernel
theorem dX6_lookAt_26 : decode cX6_lookAt 26 = .ok (.iload_n 1, 1) := by decide +kernel
theorem dX6_lookAt_27 : decode cX6_lookAt 27 = .ok (.invokevirtual 277, 3) := by decide +kernel
theorem dX6_lookAt_30 : decode cX6_lookAt 30 = .ok (.istore_n 3, 1) := by decide +kernel
theorem dX6_lookAt_31 : decode cX6_lookAt 31 = .ok (.iload_n 3, 1) := by decide +kernel
theorem dX6_lookAt_32 : decode cX6_lookAt 32 = .ok (.ifCond .ne 11, 3) := by decide +kernel
theorem dX6_lookAt_35 : decode cX6_lookAt 35 = .ok (.aload_n 0, 1) := by decide +kernel
theorem dX6_lookAt_36 : decode cX6_lookAt 36 = .ok (.iload_n 1, 1) := by decide +kernel
theorem dX6_lookAt_37 : decode cX6_lookAt 37 = .ok (.invokevirtual 280, 3) := by decide +kernel
theorem dX6_lookAt_40 : decode cX6_lookAt 40 = .ok (.goto 10, 3) := by decide +kernel
theorem dX6_lookAt_43 : decode cX6_lookAt 43 = .ok (.aload_n 0, 1) := by decide +kernel
theorem dX6_lookAt_44 : decode cX6_lookAt 44 = .ok (.iload_n 1, 1) := by decide +kernel
theorem dX6_lookAt_45 : decode cX6_lookAt 45 = .ok (.iload_n 3, 1) := by decide +kernel
theorem dX6_lookAt_46 : decode cX6_lookAt 46 = .ok (.invokevirtual 169, 3) := by decide +kernel
theorem dX6_lookAt_49 : decode cX6_lookAt 49 = .ok (.pop, 1) := by decide +kernel
theorem dX6_lookAt_50 : decode cX6_lookAt 50 = .ok (.return_, 1) := by decide +kernel
theorem dX6_reasonAgainst_0 : decode cX6_reasonAgainst 0 = .ok (.aload_n 0, 1) := by decide +kernel
theorem dX6_reasonAgainst_1 : decode cX6_reasonAgainst 1 = .ok (.iload_n 1, 1) := by decide +kernel
theorem dX6_reasonAgainst_2 : decode cX6_reasonAgainst 2 = .ok (.invokevirtual 152, 3) := by decide +kernel
theorem dX6_reasonAgainst_5 : decode cX6_reasonAgainst 5 = .ok (.astore_n 2, 1) := by decide +kernel
theorem dX6_reasonAgainst_6 : decode cX6_reasonAgainst 6 = .ok (.aload_n 0, 1) := by decide +kernel
theorem dX6_reasonAgainst_7 : decode cX6_reasonAgainst 7 = .ok (.aload_n 2, 1) := by decide +kernel
theorem dX6_reasonAgainst_8 : decode cX6_reasonAgainst 8 = .ok (.getfield 270, 3) := by decide +kernel
theorem dX6_reasonAgainst_11 : decode cX6_reasonAgainst 11 = .ok (.invokevirtual 99, 3) := by decide +kernel
theorem dX6_reasonAgainst_14 : decode cX6_reasonAgainst 14 = .ok (.astore_n 3, 1) := by decide +kernel
theorem dX6_reasonAgainst_15 : decode cX6_reasonAgainst 15 = .ok (.aload_n 0, 1) := by decide +kernel
theorem dX6_reasonAgainst_16 : decode cX6_reasonAgainst 16 = .ok (.aload_n 2, 1) := by decide +kernel
theorem dX6_reasonAgainst_17 : decode cX6_reasonAgainst 17 = .ok (.getfield 270, 3) := by decide +kernel
theorem dX6_reasonAgainst_20 : decode cX6_reasonAgainst 20 = .ok (.aload_n 2, 1) := by decide +kernel
theorem dX6_reasonAgainst_21 : decode cX6_reasonAgainst 21 = .ok (.getfield 271, 3) := by decide +kernel
theorem dX6_reasonAgainst_24 : decode cX6_reasonAgainst 24 = .ok (.invokevirtual 180, 3) := by decide +kernel
theorem dX6_reasonAgainst_27 : decode cX6_reasonAgainst 27 = .ok (.aload_n 2, 1) := by decide +kernel
theorem dX6_reasonAgainst_28 : decode cX6_reasonAgainst 28 = .ok (.getfield 183, 3) := by decide +kernel
theorem dX6_reasonAgainst_31 : decode cX6_reasonAgainst 31 = .ok (.if_icmp .ne 17, 3) := by decide +kernel
theorem dX6_reasonAgainst_34 : decode cX6_reasonAgainst 34 = .ok (.aload_n 3, 1) := by decide +kernel
theorem dX6_reasonAgainst_35 : decode cX6_reasonAgainst 35 = .ok (.getfield 186, 3) := by decide +kernel
theorem dX6_reasonAgainst_38 : decode cX6_reasonAgainst 38 = .ok (.aload_n 2, 1) := by decide +kernel
theorem dX6_reasonAgainst_39 : decode cX6_reasonAgainst 39 = .ok (.getfield 271, 3) := by decide +kernel
theorem dX6_reasonAgainst_42 : decode cX6_reasonAgainst 42 = .ok (.invokevirtual 189, 3) := by decide +kernel
theorem dX6_reasonAgainst_45 : decode cX6_reasonAgainst 45 = .ok (.ifCond .eq 5, 3) := by decide +kernel
theorem dX6_reasonAgainst_48 : decode cX6_reasonAgainst 48 = .ok (.iconst 1, 1) := by decide +kernel
theorem dX6_reasonAgainst_49 : decode cX6_reasonAgainst 49 = .ok (.ireturn, 1) := by decide +kernel
theorem dX6_reasonAgainst_50 : decode cX6_reasonAgainst 50 = .ok (.aload_n 2, 1) := by decide +kernel
theorem dX6_reasonAgainst_51 : decode cX6_reasonAgainst 51 = .ok (.getfield 183, 3) := by decide +kernel
theorem dX6_reasonAgainst_54 : decode cX6_reasonAgainst 54 = .ok (.aload_n 2, 1) := by decide +kernel
theorem dX6_reasonAgainst_55 : decode cX6_reasonAgainst 55 = .ok (.getfield 271, 3) := by decide +kernel
theorem dX6_reasonAgainst_58 : decode cX6_reasonAgainst 58 = .ok (.invokestatic 141, 3) := by decide +kernel
theorem dX6_reasonAgainst_61 : decode cX6_reasonAgainst 61 = .ok (.aload_n 3, 1) := by decide +kernel
theorem dX6_reasonAgainst_62 : decode cX6_reasonAgainst 62 = .ok (.getfield 115, 3) := by decide +kernel
theorem dX6_reasonAgainst_65 : decode cX6_reasonAgainst 65 = .ok (.if_icmp .lt 21, 3) := by decide +kernel
theorem dX6_reasonAgainst_68 : decode cX6_reasonAgainst 68 = .ok (.aload_n 2, 1) := by decide +kernel
theorem dX6_reasonAgainst_69 : decode cX6_reasonAgainst 69 = .ok (.getfield 156, 3) := by decide +kernel
theorem dX6_reasonAgainst_72 : decode cX6_reasonAgainst 72 = .ok (.aload_n 2, 1) := by decide +kernel
theorem dX6_reasonAgainst_73 : decode cX6_reasonAgainst 73 = .ok (.getfield 159, 3) := by decide +kernel
theorem dX6_reasonAgainst_76 : decode cX6_reasonAgainst 76 = .ok (.invokestatic 141, 3) := by decide +kernel
theorem dX6_reasonAgainst_79 : decode cX6_reasonAgainst 79 = .ok (.aload_n 3, 1) := by decide +kernel
theorem dX6_reasonAgainst_80 : decode cX6_reasonAgainst 80 = .ok (.getfield 115, 3) := by decide +kernel
theorem dX6_reasonAgainst_83 : decode cX6_reasonAgainst 83 = .ok (.if_icmp .ge 5, 3) := by decide +kernel
theorem dX6_reasonAgainst_86 : decode cX6_reasonAgainst 86 = .ok (.iconst 2, 1) := by decide +kernel
theorem dX6_reasonAgainst_87 : decode cX6_reasonAgainst 87 = .ok (.ireturn, 1) := by decide +kernel
theorem dX6_reasonAgainst_88 : decode cX6_reasonAgainst 88 = .ok (.aload_n 0, 1) := by decide +kernel
theorem dX6_reasonAgainst_89 : decode cX6_reasonAgainst 89 = .ok (.getfield 50, 3) := by decide +kernel
theorem dX6_reasonAgainst_92 : decode cX6_reasonAgainst 92 = .ok (.aload_n 2, 1) := by decide +kernel
theorem dX6_reasonAgainst_93 : decode cX6_reasonAgainst 93 = .ok (.getfield 271, 3) := by decide +kernel
theorem dX6_reasonAgainst_96 : decode cX6_reasonAgainst 96 = .ok (.invokevirtual 189, 3) := by decide +kernel
theorem dX6_reasonAgainst_99 : decode cX6_reasonAgainst 99 = .ok (.ifCond .eq 5, 3) := by decide +kernel
theorem dX6_reasonAgainst_102 : decode cX6_reasonAgainst 102 = .ok (.iconst 3, 1) := by decide +kernel
theorem dX6_reasonAgainst_103 : decode cX6_reasonAgainst 103 = .ok (.ireturn, 1) := by decide +kernel
theorem dX6_reasonAgainst_104 : decode cX6_reasonAgainst 104 = .ok (.aload_n 0, 1) := by decide +kernel
theorem dX6_reasonAgainst_105 : decode cX6_reasonAgainst 105 = .ok (.getfield 54, 3) := by decide +kernel
theorem dX6_reasonAgainst_108 : decode cX6_reasonAgainst 108 = .ok (.aload_n 2, 1) := by decide +kernel
theorem dX6_reasonAgainst_109 : decode cX6_reasonAgainst 109 = .ok (.getfield 271, 3) := by decide +kernel
theorem dX6_reasonAgainst_112 : decode cX6_reasonAgainst 112 = .ok (.invokevirtual 189, 3) := by decide +kernel
theorem dX6_reasonAgainst_115 : decode cX6_reasonAgainst 115 = .ok (.ifCond .eq 12, 3) := by decide +kernel
theorem dX6_reasonAgainst_118 : decode cX6_reasonAgainst 118 = .ok (.iload_n 1, 1) := by decide +kernel
theorem dX6_reasonAgainst_119 : decode cX6_reasonAgainst 119 = .ok (.iconst 2, 1) := by decide +kernel
theorem dX6_reasonAgainst_120 : decode cX6_reasonAgainst 120 = .ok (.irem, 1) := by decide +kernel
theorem dX6_reasonAgainst_121 : decode cX6_reasonAgainst 121 = .ok (.iconst 1, 1) := by decide +kernel
theorem dX6_reasonAgainst_122 : decode cX6_reasonAgainst 122 = .ok (.if_icmp .ne 5, 3) := by decide +kernel
theorem dX6_reasonAgainst_125 : decode cX6_reasonAgainst 125 = .ok (.iconst 4, 1) := by decide +kernel
theorem dX6_reasonAgainst_126 : decode cX6_reasonAgainst 126 = .ok (.ireturn, 1) := by decide +kernel
theorem dX6_reasonAgainst_127 : decode cX6_reasonAgainst 127 = .ok (.aload_n 0, 1) := by decide +kernel
theorem dX6_reasonAgainst_128 : decode cX6_reasonAgainst 128 = .ok (.aload_n 2, 1) := by decide +kernel
theorem dX6_reasonAgainst_129 : decode cX6_reasonAgainst 129 = .ok (.invokevirtual 283, 3) := by decide +kernel
theorem dX6_reasonAgainst_132 : decode cX6_reasonAgainst 132 = .ok (.iconst (-1), 1) := by decide +kernel
theorem dX6_reasonAgainst_133 : decode cX6_reasonAgainst 133 = .ok (.if_icmp .ne 5, 3) := by decide +kernel
theorem dX6_reasonAgainst_136 : decode cX6_reasonAgainst 136 = .ok (.iconst 5, 1) := by decide +kernel
theorem dX6_reasonAgainst_137 : decode cX6_reasonAgainst 137 = .ok (.ireturn, 1) := by decide +kernel
theorem dX6_reasonAgainst_138 : decode cX6_reasonAgainst 138 = .ok (.aload_n 3, 1) := by decide +kernel
theorem dX6_reasonAgainst_139 : decode cX6_reasonAgainst 139 = .ok (.getfield 121, 3) := by decide +kernel
theorem dX6_reasonAgainst_142 : decode cX6_reasonAgainst 142 = .ok (.aload_n 3, 1) := by decide +kernel
theorem dX6_reasonAgainst_143 : decode cX6_reasonAgainst 143 = .ok (.aload_n 2, 1) := by decide +kernel
theorem dX6_reasonAgainst_144 : decode cX6_reasonAgainst 144 = .ok (.getfield 159, 3) := by decide +kernel
theorem dX6_reasonAgainst_147 : decode cX6_reasonAgainst 147 = .ok (.aload_n 2, 1) := by decide +kernel
theorem dX6_reasonAgainst_148 : decode cX6_reasonAgainst 148 = .ok (.getfield 271, 3) := by decide +kernel
theorem dX6_reasonAgainst_151 : decode cX6_reasonAgainst 151 = .ok (.isub, 1) := by decide +kernel
theorem dX6_reasonAgainst_152 : decode cX6_reasonAgainst 152 = .ok (.invokevirtual 287, 3) := by decide +kernel
theorem dX6_reasonAgainst_155 : decode cX6_reasonAgainst 155 = .ok (.if_icmp .ge 8, 3) := by decide +kernel
theorem dX6_reasonAgainst_158 : decode cX6_reasonAgainst 158 = .ok (.bipush 6, 2) := by decide +kernel
theorem dX6_reasonAgainst_160 : decode cX6_reasonAgainst 160 = .ok (.goto 4, 3) := by decide +kernel
theorem dX6_reasonAgainst_163 : decode cX6_reasonAgainst 163 = .ok (.iconst 0, 1) := by decide +kernel
theorem dX6_reasonAgainst_164 : decode cX6_reasonAgainst 164 = .ok (.ireturn, 1) := by decide +kernel
theorem dX6_crewFor_0 : decode cX6_crewFor 0 = .ok (.aload_n 1, 1) := by decide +kernel
theorem dX6_crewFor_1 : decode cX6_crewFor 1 = .ok (.getfield 271, 3) := by decide +kernel
theorem dX6_crewFor_4 : decode cX6_crewFor 4 = .ok (.bipush 24, 2) := by decide +kernel
theorem dX6_crewFor_6 : decode cX6_crewFor 6 = .ok (.idiv, 1) := by decide +kernel
theorem dX6_crewFor_7 : decode cX6_crewFor 7 = .ok (.istore_n 2, 1) := by decide +kernel
theorem dX6_crewFor_8 : decode cX6_crewFor 8 = .ok (.bipush 12, 2) := by decide +kernel
theorem dX6_crewFor_10 : decode cX6_crewFor 10 = .ok (.aload_n 1, 1) := by decide +kernel
theorem dX6_crewFor_11 : decode cX6_crewFor 11 = .ok (.getfield 159, 3) := by decide +kernel
theorem dX6_crewFor_14 : decode cX6_crewFor 14 = .ok (.aload_n 1, 1) := by decide +kernel
theorem dX6_crewFor_15 : decode cX6_crewFor 15 = .ok (.getfield 271, 3) := by decide +kernel
theorem dX6_crewFor_18 : decode cX6_crewFor 18 = .ok (.isub, 1) := by decide +kernel
theorem dX6_crewFor_19 : decode cX6_crewFor 19 = .ok (.isub, 1) := by decide +kernel
theorem dX6_crewFor_20 : decode cX6_crewFor 20 = .ok (.istore_n 3, 1) := by decide +kernel
theorem dX6_crewFor_21 : decode cX6_crewFor 21 = .ok (.iconst 0, 1) := by decide +kernel
theorem dX6_crewFor_22 : decode cX6_crewFor 22 = .ok (.istore 4, 2) := by decide +kernel
theorem dX6_crewFor_24 : decode cX6_crewFor 24 = .ok (.iload 4, 2) := by decide +kernel
theorem dX6_crewFor_26 : decode cX6_crewFor 26 = .ok (.aload_n 0, 1) := by decide +kernel
theorem dX6_crewFor_27 : decode cX6_crewFor 27 = .ok (.getfield 68, 3) := by decide +kernel
theorem dX6_crewFor_30 : decode cX6_crewFor 30 = .ok (.if_icmp .ge 55, 3) := by decide +kernel
theorem dX6_crewFor_33 : decode cX6_crewFor 33 = .ok (.aload_n 0, 1) := by decide +kernel
theorem dX6_crewFor_34 : decode cX6_crewFor 34 = .ok (.iload 4, 2) := by decide +kernel
theorem dX6_crewFor_36 : decode cX6_crewFor 36 = .ok (.invokevirtual 124, 3) := by decide +kernel
theorem dX6_crewFor_39 : decode cX6_crewFor 39 = .ok (.astore 5, 2) := by decide +kernel
theorem dX6_crewFor_41 : decode cX6_crewFor 41 = .ok (.aload 5, 2) := by decide +kernel
theorem dX6_crewFor_43 : decode cX6_crewFor 43 = .ok (.getfield 128, 3) := by decide +kernel
theorem dX6_crewFor_46 : decode cX6_crewFor 46 = .ok (.aload_n 1, 1) := by decide +kernel
theorem dX6_crewFor_47 : decode cX6_crewFor 47 = .ok (.getfield 270, 3) := by decide +kernel
theorem dX6_crewFor_50 : decode cX6_crewFor 50 = .ok (.if_icmp .ne 29, 3) := by decide +kernel
theorem dX6_crewFor_53 : decode cX6_crewFor 53 = .ok (.aload 5, 2) := by decide +kernel
theorem dX6_crewFor_55 : decode cX6_crewFor 55 = .ok (.getfield 131, 3) := by decide +kernel
theorem dX6_crewFor_58 : decode cX6_crewFor 58 = .ok (.iload_n 2, 1) := by decide +kernel
theorem dX6_crewFor_59 : decode cX6_crewFor 59 = .ok (.invokevirtual 189, 3) := by decide +kernel
theorem dX6_crewFor_62 : decode cX6_crewFor 62 = .ok (.ifCond .eq 17, 3) := by decide +kernel
theorem dX6_crewFor_65 : decode cX6_crewFor 65 = .ok (.aload_n 0, 1) := by decide +kernel
theorem dX6_crewFor_66 : decode cX6_crewFor 66 = .ok (.iload 4, 2) := by decide +kernel
theorem dX6_crewFor_68 : decode cX6_crewFor 68 = .ok (.iload_n 2, 1) := by decide +kernel
theorem dX6_crewFor_69 : decode cX6_crewFor 69 = .ok (.invokevirtual 137, 3) := by decide +kernel
theorem dX6_crewFor_72 : decode cX6_crewFor 72 = .ok (.iload_n 3, 1) := by decide +kernel
theorem dX6_crewFor_73 : decode cX6_crewFor 73 = .ok (.if_icmp .gt 6, 3) := by decide +kernel
theorem dX6_crewFor_76 : decode cX6_crewFor 76 = .ok (.iload 4, 2) := by decide +kernel
theorem dX6_crewFor_78 : decode cX6_crewFor 78 = .ok (.ireturn, 1) := by decide +kernel
theorem dX6_crewFor_79 : decode cX6_crewFor 79 = .ok (.iinc 4 1, 3) := by decide +kernel
theorem dX6_crewFor_82 : decode cX6_crewFor 82 = .ok (.goto (-58), 3) := by decide +kernel
theorem dX6_crewFor_85 : decode cX6_crewFor 85 = .ok (.iconst (-1), 1) := by decide +kernel
theorem dX6_crewFor_86 : decode cX6_crewFor 86 = .ok (.ireturn, 1) := by decide +kernel
theorem dX6_hoursSailed_0 : decode cX6_hoursSailed 0 = .ok (.iconst 0, 1) := by decide +kernel
theorem dX6_hoursSailed_1 : decode cX6_hoursSailed 1 = .ok (.istore_n 3, 1) := by decide +kernel
theorem dX6_hoursSailed_2 : decode cX6_hoursSailed 2 = .ok (.iconst 0, 1) := by decide +kernel
theorem dX6_hoursSailed_3 : decode cX6_hoursSailed 3 = .ok (.istore 4, 2) := by decide +kernel
theorem dX6_hoursSailed_5 : decode cX6_hoursSailed 5 = .ok (.iload 4, 2) := by decide +kernel
theorem dX6_hoursSailed_7 : decode cX6_hoursSailed 7 = .ok (.aload_n 0, 1) := by decide +kernel
theorem dX6_hoursSailed_8 : decode cX6_hoursSailed 8 = .ok (.getfield 71, 3) := by decide +kernel
theorem dX6_hoursSailed_11 : decode cX6_hoursSailed 11 = .ok (.if_icmp .ge 52, 3) := by decide +kernel
theorem dX6_hoursSailed_14 : decode cX6_hoursSailed 14 = .ok (.aload_n 0, 1) := by decide +kernel
theorem dX6_hoursSailed_15 : decode cX6_hoursSailed 15 = .ok (.iload 4, 2) := by decide +kernel
theorem dX6_hoursSailed_17 : decode cX6_hoursSailed 17 = .ok (.invokevirtual 152, 3) := by decide +kernel
theorem dX6_hoursSailed_20 : decode cX6_hoursSailed 20 = .ok (.astore 5, 2) := by decide +kernel
theorem dX6_hoursSailed_22 : decode cX6_hoursSailed 22 = .ok (.aload 5, 2) := by decide +kernel
theorem dX6_hoursSailed_24 : decode cX6_hoursSailed 24 = .ok (.getfield 290, 3) := by decide +kernel
theorem dX6_hoursSailed_27 : decode cX6_hoursSailed 27 = .ok (.iload_n 1, 1) := by decide +kernel
theorem dX6_hoursSailed_28 : decode cX6_hoursSailed 28 = .ok (.if_icmp .ne 29, 3) := by decide +kernel
theorem dX6_hoursSailed_31 : decode cX6_hoursSailed 31 = .ok (.aload 5, 2) := by decide +kernel
theorem dX6_hoursSailed_33 : decode cX6_hoursSailed 33 = .ok (.getfield 271, 3) := by decide +kernel
theorem dX6_hoursSailed_36 : decode cX6_hoursSailed 36 = .ok (.bipush 24, 2) := by decide +kernel
theorem dX6_hoursSailed_38 : decode cX6_hoursSailed 38 = .ok (.idiv, 1) := by decide +kernel
theorem dX6_hoursSailed_39 : decode cX6_hoursSailed 39 = .ok (.iload_n 2, 1) := by decide +kernel
theorem dX6_hoursSailed_40 : decode cX6_hoursSailed 40 = .ok (.if_icmp .ne 17, 3) := by decide +kernel
theorem dX6_hoursSailed_43 : decode cX6_hoursSailed 43 = .ok (.iload_n 3, 1) := by decide +kernel
theorem dX6_hoursSailed_44 : decode cX6_hoursSailed 44 = .ok (.aload 5, 2) := by decide +kernel
theorem dX6_hoursSailed_46 : decode cX6_hoursSailed 46 = .ok (.getfield 159, 3) := by decide +kernel
theorem dX6_hoursSailed_49 : decode cX6_hoursSailed 49 = .ok (.aload 5, 2) := by decide +kernel
theorem dX6_hoursSailed_51 : decode cX6_hoursSailed 51 = .ok (.getfield 271, 3) := by decide +kernel
theorem dX6_hoursSailed_54 : decode cX6_hoursSailed 54 = .ok (.isub, 1) := by decide +kernel
theorem dX6_hoursSailed_55 : decode cX6_hoursSailed 55 = .ok (.iadd, 1) := by decide +kernel
theorem dX6_hoursSailed_56 : decode cX6_hoursSailed 56 = .ok (.istore_n 3, 1) := by decide +kernel
theorem dX6_hoursSailed_57 : decode cX6_hoursSailed 57 = .ok (.iinc 4 1, 3) := by decide +kernel
theorem dX6_hoursSailed_60 : decode cX6_hoursSailed 60 = .ok (.goto (-55), 3) := by decide +kernel
theorem dX6_hoursSailed_63 : decode cX6_hoursSailed 63 = .ok (.iload_n 3, 1) := by decide +kernel
theorem dX6_hoursSailed_64 : decode cX6_hoursSailed 64 = .ok (.ireturn, 1) := by decide +kernel
theorem dX6_callOff_0 : decode cX6_callOff 0 = .ok (.aload_n 0, 1) := by decide +kernel
theorem dX6_callOff_1 : decode cX6_callOff 1 = .ok (.iload_n 1, 1) := by decide +kernel
theorem dX6_callOff_2 : decode cX6_callOff 2 = .ok (.invokevirtual 152, 3) := by decide +kernel
theorem dX6_callOff_5 : decode cX6_callOff 5 = .ok (.astore_n 3, 1) := by decide +kernel
theorem dX6_callOff_6 : decode cX6_callOff 6 = .ok (.aload_n 3, 1) := by decide +kernel
theorem dX6_callOff_7 : decode cX6_callOff 7 = .ok (.iconst 1, 1) := by decide +kernel
theorem dX6_callOff_8 : decode cX6_callOff 8 = .ok (.putfield 166, 3) := by decide +kernel
theorem dX6_callOff_11 : decode cX6_callOff 11 = .ok (.aload_n 3, 1) := by decide +kernel
theorem dX6_callOff_12 : decode cX6_callOff 12 = .ok (.iload_n 2, 1) := by decide +kernel
theorem dX6_callOff_13 : decode cX6_callOff 13 = .ok (.putfield 199, 3) := by decide +kernel
theorem dX6_callOff_16 : decode cX6_callOff 16 = .ok (.aload_n 0, 1) := by decide +kernel
theorem dX6_callOff_17 : decode cX6_callOff 17 = .ok (.iload_n 1, 1) := by decide +kernel
theorem dX6_callOff_18 : decode cX6_callOff 18 = .ok (.invokevirtual 293, 3) := by decide +kernel
theorem dX6_callOff_21 : decode cX6_callOff 21 = .ok (.ireturn, 1) := by decide +kernel
theorem dX6_setSail_0 : decode cX6_setSail 0 = .ok (.aload_n 0, 1) := by decide +kernel
theorem dX6_setSail_1 : decode cX6_setSail 1 = .ok (.iload_n 1, 1) := by decide +kernel
theorem dX6_setSail_2 : decode cX6_setSail 2 = .ok (.invokevirtual 152, 3) := by decide +kernel
theorem dX6_setSail_5 : decode cX6_setSail 5 = .ok (.astore_n 2, 1) := by decide +kernel
theorem dX6_setSail_6 : decode cX6_setSail 6 = .ok (.aload_n 0, 1) := by decide +kernel
theorem dX6_setSail_7 : decode cX6_setSail 7 = .ok (.aload_n 2, 1) := by decide +kernel
theorem dX6_setSail_8 : decode cX6_setSail 8 = .ok (.getfield 270, 3) := by decide +kernel
theorem dX6_setSail_11 : decode cX6_setSail 11 = .ok (.invokevirtual 99, 3) := by decide +kernel
theorem dX6_setSail_14 : decode cX6_setSail 14 = .ok (.astore_n 3, 1) := by decide +kernel
theorem dX6_setSail_15 : decode cX6_setSail 15 = .ok (.aload_n 2, 1) := by decide +kernel
theorem dX6_setSail_16 : decode cX6_setSail 16 = .ok (.aload_n 0, 1) := by decide +kernel
theorem dX6_setSail_17 : decode cX6_setSail 17 = .ok (.aload_n 2, 1) := by decide +kernel
theorem dX6_setSail_18 : decode cX6_setSail 18 = .ok (.invokevirtual 283, 3) := by decide +kernel
theorem dX6_setSail_21 : decode cX6_setSail 21 = .ok (.putfield 290, 3) := by decide +kernel
theorem dX6_setSail_24 : decode cX6_setSail 24 = .ok (.aload_n 2, 1) := by decide +kernel
theorem dX6_setSail_25 : decode cX6_setSail 25 = .ok (.iconst 2, 1) := by decide +kernel
theorem dX6_setSail_26 : decode cX6_setSail 26 = .ok (.putfield 166, 3) := by decide +kernel
theorem dX6_setSail_29 : decode cX6_setSail 29 = .ok (.aload_n 3, 1) := by decide +kernel
theorem dX6_setSail_30 : decode cX6_setSail 30 = .ok (.dup, 1) := by decide +kernel
theorem dX6_setSail_31 : decode cX6_setSail 31 = .ok (.getfield 121, 3) := by decide +kernel
theorem dX6_setSail_34 : decode cX6_setSail 34 = .ok (.aload_n 3, 1) := by decide +kernel
theorem dX6_setSail_35 : decode cX6_setSail 35 = .ok (.aload_n 2, 1) := by decide +kernel
theorem dX6_setSail_36 : decode cX6_setSail 36 = .ok (.getfield 159, 3) := by decide +kernel
theorem dX6_setSail_39 : decode cX6_setSail 39 = .ok (.aload_n 2, 1) := by decide +kernel
theorem dX6_setSail_40 : decode cX6_setSail 40 = .ok (.getfield 271, 3) := by decide +kernel
theorem dX6_setSail_43 : decode cX6_setSail 43 = .ok (.isub, 1) := by decide +kernel
theorem dX6_setSail_44 : decode cX6_setSail 44 = .ok (.invokevirtual 287, 3) := by decide +kernel
theorem dX6_setSail_47 : decode cX6_setSail 47 = .ok (.isub, 1) := by decide +kernel
theorem dX6_setSail_48 : decode cX6_setSail 48 = .ok (.putfield 121, 3) := by decide +kernel
theorem dX6_setSail_51 : decode cX6_setSail 51 = .ok (.aload_n 0, 1) := by decide +kernel
theorem dX6_setSail_52 : decode cX6_setSail 52 = .ok (.getfield 60, 3) := by decide +kernel
theorem dX6_setSail_55 : decode cX6_setSail 55 = .ok (.aload_n 3, 1) := by decide +kernel
theorem dX6_setSail_56 : decode cX6_setSail 56 = .ok (.invokevirtual 296, 3) := by decide +kernel
theorem dX6_setSail_59 : decode cX6_setSail 59 = .ok (.aload_n 0, 1) := by decide +kernel
theorem dX6_setSail_60 : decode cX6_setSail 60 = .ok (.iload_n 1, 1) := by decide +kernel
theorem dX6_setSail_61 : decode cX6_setSail 61 = .ok (.iconst 1, 1) := by decide +kernel
theorem dX6_setSail_62 : decode cX6_setSail 62 = .ok (.invokevirtual 300, 3) := by decide +kernel
theorem dX6_setSail_65 : decode cX6_setSail 65 = .ok (.aload_n 0, 1) := by decide +kernel
theorem dX6_setSail_66 : decode cX6_setSail 66 = .ok (.iload_n 1, 1) := by decide +kernel
theorem dX6_setSail_67 : decode cX6_setSail 67 = .ok (.iconst 0, 1) := by decide +kernel
theorem dX6_setSail_68 : decode cX6_setSail 68 = .ok (.invokevirtual 300, 3) := by decide +kernel
theorem dX6_setSail_71 : decode cX6_setSail 71 = .ok (.aload_n 0, 1) := by decide +kernel
theorem dX6_setSail_72 : decode cX6_setSail 72 = .ok (.iload_n 1, 1) := by decide +kernel
theorem dX6_setSail_73 : decode cX6_setSail 73 = .ok (.invokevirtual 304, 3) := by decide +kernel
theorem dX6_setSail_76 : decode cX6_setSail 76 = .ok (.aload_n 2, 1) := by decide +kernel
theorem dX6_setSail_77 : decode cX6_setSail 77 = .ok (.aload_n 0, 1) := by decide +kernel
theorem dX6_setSail_78 : decode cX6_setSail 78 = .ok (.getfield 60, 3) := by decide +kernel
theorem dX6_setSail_81 : decode cX6_setSail 81 = .ok (.getfield 307, 3) := by decide +kernel
theorem dX6_setSail_84 : decode cX6_setSail 84 = .ok (.putfield 252, 3) := by decide +kernel
theorem dX6_setSail_87 : decode cX6_setSail 87 = .ok (.aload_n 0, 1) := by decide +kernel
theorem dX6_setSail_88 : decode cX6_setSail 88 = .ok (.iload_n 1, 1) := by decide +kernel
theorem dX6_setSail_89 : decode cX6_setSail 89 = .ok (.invokevirtual 293, 3) := by decide +kernel
theorem dX6_setSail_92 : decode cX6_setSail 92 = .ok (.pop, 1) := by decide +kernel
theorem dX6_setSail_93 : decode cX6_setSail 93 = .ok (.return_, 1) := by decide +kernel
theorem dX6_takeThose_0 : decode cX6_takeThose 0 = .ok (.iconst 0, 1) := by decide +kernel
theorem dX6_takeThose_1 : decode cX6_takeThose 1 = .ok (.istore_n 3, 1) := by decide +kernel
theorem dX6_takeThose_2 : decode cX6_takeThose 2 = .ok (.iload_n 3, 1) := by decide +kernel
theorem dX6_takeThose_3 : decode cX6_takeThose 3 = .ok (.aload_n 0, 1) := by decide +kernel
theorem dX6_takeThose_4 : decode cX6_takeThose 4 = .ok (.getfield 74, 3) := by decide +kernel
theorem dX6_takeThose_7 : decode cX6_takeThose 7 = .ok (.if_icmp .ge 43, 3) := by decide +kernel
theorem dX6_takeThose_10 : decode cX6_takeThose 10 = .ok (.aload_n 0, 1) := by decide +kernel
theorem dX6_takeThose_11 : decode cX6_takeThose 11 = .ok (.iload_n 3, 1) := by decide +kernel
theorem dX6_takeThose_12 : decode cX6_takeThose 12 = .ok (.invokevirtual 211, 3) := by decide +kernel
theorem dX6_takeThose_15 : decode cX6_takeThose 15 = .ok (.astore 4, 2) := by decide +kernel
theorem dX6_takeThose_17 : decode cX6_takeThose 17 = .ok (.aload 4, 2) := by decide +kernel
theorem dX6_takeThose_19 : decode cX6_takeThose 19 = .ok (.getfield 215, 3) := by decide +kernel
theorem dX6_takeThose_22 : decode cX6_takeThose 22 = .ok (.iload_n 1, 1) := by decide +kernel
theorem dX6_takeThose_23 : decode cX6_takeThose 23 = .ok (.if_icmp .ne 21, 3) := by decide +kernel
theorem dX6_takeThose_26 : decode cX6_takeThose 26 = .ok (.aload 4, 2) := by decide +kernel
theorem dX6_takeThose_28 : decode cX6_takeThose 28 = .ok (.getfield 230, 3) := by decide +kernel
theorem dX6_takeThose_31 : decode cX6_takeThose 31 = .ok (.iload_n 2, 1) := by decide +kernel
theorem dX6_takeThose_32 : decode cX6_takeThose 32 = .ok (.if_icmp .ne 12, 3) := by decide +kernel
theorem dX6_takeThose_35 : decode cX6_takeThose 35 = .ok (.aload_n 0, 1) := by decide +kernel
theorem dX6_takeThose_36 : decode cX6_takeThose 36 = .ok (.getfield 60, 3) := by decide +kernel
theorem dX6_takeThose_39 : decode cX6_takeThose 39 = .ok (.aload 4, 2) := by decide +kernel
theorem dX6_takeThose_41 : decode cX6_takeThose 41 = .ok (.invokevirtual 308, 3) := by decide +kernel
theorem dX6_takeThose_44 : decode cX6_takeThose 44 = .ok (.iinc 3 1, 3) := by decide +kernel
theorem dX6_takeThose_47 : decode cX6_takeThose 47 = .ok (.goto (-45), 3) := by decide +kernel
theorem dX6_takeThose_50 : decode cX6_takeThose 50 = .ok (.return_, 1) := by decide +kernel
theorem dX6_evenOut_0 : decode cX6_evenOut 0 = .ok (.iconst 0, 1) := by decide +kernel
theorem dX6_evenOut_1 : decode cX6_evenOut 1 = .ok (.istore_n 2, 1) := by decide +kernel
theorem dX6_evenOut_2 : decode cX6_evenOut 2 = .ok (.iload_n 2, 1) := by decide +kernel
theorem dX6_evenOut_3 : decode cX6_evenOut 3 = .ok (.aload_n 0, 1) := by decide +kernel
theorem dX6_evenOut_4 : decode cX6_evenOut 4 = .ok (.getfield 74, 3) := by decide +kernel
theorem dX6_evenOut_7 : decode cX6_evenOut 7 = .ok (.if_icmp .ge 29, 3) := by decide +kernel
theorem dX6_evenOut_10 : decode cX6_evenOut 10 = .ok (.aload_n 0, 1) := by decide +kernel
theorem dX6_evenOut_11 : decode cX6_evenOut 11 = .ok (.getfield 60, 3) := by decide +kernel
theorem dX6_evenOut_14 : decode cX6_evenOut 14 = .ok (.getfield 307, 3) := by decide +kernel
theorem dX6_evenOut_17 : decode cX6_evenOut 17 = .ok (.invokestatic 267, 3) := by decide +kernel
theorem dX6_evenOut_20 : decode cX6_evenOut 20 = .ok (.bipush 20, 2) := by decide +kernel
theorem dX6_evenOut_22 : decode cX6_evenOut 22 = .ok (.if_icmp .le 14, 3) := by decide +kernel
theorem dX6_evenOut_25 : decode cX6_evenOut 25 = .ok (.aload_n 0, 1) := by decide +kernel
theorem dX6_evenOut_26 : decode cX6_evenOut 26 = .ok (.iload_n 1, 1) := by decide +kernel
theorem dX6_evenOut_27 : decode cX6_evenOut 27 = .ok (.invokevirtual 312, 3) := by decide +kernel
theorem dX6_evenOut_30 : decode cX6_evenOut 30 = .ok (.iinc 2 1, 3) := by decide +kernel
theorem dX6_evenOut_33 : decode cX6_evenOut 33 = .ok (.goto (-31), 3) := by decide +kernel
theorem dX6_evenOut_36 : decode cX6_evenOut 36 = .ok (.return_, 1) := by decide +kernel
theorem dX6_putOffLast_0 : decode cX6_putOffLast 0 = .ok (.iconst (-1), 1) := by decide +kernel
theorem dX6_putOffLast_1 : decode cX6_putOffLast 1 = .ok (.istore_n 2, 1) := by decide +kernel
theorem dX6_putOffLast_2 : decode cX6_putOffLast 2 = .ok (.iconst (-1), 1) := by decide +kernel
theorem dX6_putOffLast_3 : decode cX6_putOffLast 3 = .ok (.istore_n 3, 1) := by decide +kernel
theorem dX6_putOffLast_4 : decode cX6_putOffLast 4 = .ok (.iconst 0, 1) := by decide +kernel
theorem dX6_putOffLast_5 : decode cX6_putOffLast 5 = .ok (.istore 4, 2) := by decide +kernel
theorem dX6_putOffLast_7 : decode cX6_putOffLast 7 = .ok (.iload 4, 2) := by decide +kernel
theorem dX6_putOffLast_9 : decode cX6_putOffLast 9 = .ok (.aload_n 0, 1) := by decide +kernel
theorem dX6_putOffLast_10 : decode cX6_putOffLast 10 = .ok (.getfield 74, 3) := by decide +kernel
theorem dX6_putOffLast_13 : decode cX6_putOffLast 13 = .ok (.if_icmp .ge 56, 3) := by decide +kernel
theorem dX6_putOffLast_16 : decode cX6_putOffLast 16 = .ok (.aload_n 0, 1) := by decide +kernel
theorem dX6_putOffLast_17 : decode cX6_putOffLast 17 = .ok (.iload 4, 2) := by decide +kernel
theorem dX6_putOffLast_19 : decode cX6_putOffLast 19 = .ok (.invokevirtual 211, 3) := by decide +kernel
theorem dX6_putOffLast_22 : decode cX6_putOffLast 22 = .ok (.astore 5, 2) := by decide +kernel
theorem dX6_putOffLast_24 : decode cX6_putOffLast 24 = .ok (.aload 5, 2) := by decide +kernel
theorem dX6_putOffLast_26 : decode cX6_putOffLast 26 = .ok (.getfield 215, 3) := by decide +kernel
theorem dX6_putOffLast_29 : decode cX6_putOffLast 29 = .ok (.iload_n 1, 1) := by decide +kernel
theorem dX6_putOffLast_30 : decode cX6_putOffLast 30 = .ok (.if_icmp .ne 33, 3) := by decide +kernel
theorem dX6_putOffLast_33 : decode cX6_putOffLast 33 = .ok (.aload_n 0, 1) := by decide +kernel
theorem dX6_putOffLast_34 : decode cX6_putOffLast 34 = .ok (.getfield 60, 3) := by decide +kernel
theorem dX6_putOffLast_37 : decode cX6_putOffLast 37 = .ok (.aload 5, 2) := by decide +kernel
theorem dX6_putOffLast_39 : decode cX6_putOffLast 39 = .ok (.invokevirtual 315, 3) := by decide +kernel
theorem dX6_putOffLast_42 : decode cX6_putOffLast 42 = .ok (.ifCond .eq 21, 3) := by decide +kernel
theorem dX6_putOffLast_45 : decode cX6_putOffLast 45 = .ok (.aload 5, 2) := by decide +kernel
theorem dX6_putOffLast_47 : decode cX6_putOffLast 47 = .ok (.getfield 319, 3) := by decide +kernel
theorem dX6_putOffLast_50 : decode cX6_putOffLast 50 = .ok (.iload_n 3, 1) := by decide +kernel
theorem dX6_putOffLast_51 : decode cX6_putOffLast 51 = .ok (.if_icmp .le 12, 3) := by decide +kernel
theorem dX6_putOffLast_54 : decode cX6_putOffLast 54 = .ok (.iload 4, 2) := by decide +kernel
theorem dX6_putOffLast_56 : decode cX6_putOffLast 56 = .ok (.istore_n 2, 1) := by decide +kernel
theorem dX6_putOffLast_57 : decode cX6_putOffLast 57 = .ok (.aload 5, 2) := by decide +kernel
theorem dX6_putOffLast_59 : decode cX6_putOffLast 59 = .ok (.getfield 319, 3) := by decide +kernel
theorem dX6_putOffLast_62 : decode cX6_putOffLast 62 = .ok (.istore_n 3, 1) := by decide +kernel
theorem dX6_putOffLast_63 : decode cX6_putOffLast 63 = .ok (.iinc 4 1, 3) := by decide +kernel
theorem dX6_putOffLast_66 : decode cX6_putOffLast 66 = .ok (.goto (-59), 3) := by decide +kernel
theorem dX6_putOffLast_69 : decode cX6_putOffLast 69 = .ok (.iload_n 2, 1) := by decide +kernel
theorem dX6_putOffLast_70 : decode cX6_putOffLast 70 = .ok (.iconst (-1), 1) := by decide +kernel
theorem dX6_putOffLast_71 : decode cX6_putOffLast 71 = .ok (.if_icmp .eq 15, 3) := by decide +kernel
theorem dX6_putOffLast_74 : decode cX6_putOffLast 74 = .ok (.aload_n 0, 1) := by decide +kernel
theorem dX6_putOffLast_75 : decode cX6_putOffLast 75 = .ok (.getfield 60, 3) := by decide +kernel
theorem dX6_putOffLast_78 : decode cX6_putOffLast 78 = .ok (.aload_n 0, 1) := by decide +kernel
theorem dX6_putOffLast_79 : decode cX6_putOffLast 79 = .ok (.iload_n 2, 1) := by decide +kernel
theorem dX6_putOffLast_80 : decode cX6_putOffLast 80 = .ok (.invokevirtual 211, 3) := by decide +kernel
theorem dX6_putOffLast_83 : decode cX6_putOffLast 83 = .ok (.invokevirtual 322, 3) := by decide +kernel
theorem dX6_putOffLast_86 : decode cX6_putOffLast 86 = .ok (.return_, 1) := by decide +kernel
theorem dX6_sendOver_0 : decode cX6_sendOver 0 = .ok (.iconst 0, 1) := by decide +kernel
theorem dX6_sendOver_1 : decode cX6_sendOver 1 = .ok (.istore_n 2, 1) := by decide +kernel
theorem dX6_sendOver_2 : decode cX6_sendOver 2 = .ok (.iconst 0, 1) := by decide +kernel
theorem dX6_sendOver_3 : decode cX6_sendOver 3 = .ok (.istore_n 3, 1) := by decide +kernel
theorem dX6_sendOver_4 : decode cX6_sendOver 4 = .ok (.iload_n 3, 1) := by decide +kernel
theorem dX6_sendOver_5 : decode cX6_sendOver 5 = .ok (.aload_n 0, 1) := by decide +kernel
theorem dX6_sendOver_6 : decode cX6_sendOver 6 = .ok (.getfield 74, 3) := by decide +kernel
theorem dX6_sendOver_9 : decode cX6_sendOver 9 = .ok (.if_icmp .ge 47, 3) := by decide +kernel
theorem dX6_sendOver_12 : decode cX6_sendOver 12 = .ok (.aload_n 0, 1) := by decide +kernel
theorem dX6_sendOver_13 : decode cX6_sendOver 13 = .ok (.iload_n 3, 1) := by decide +kernel
theorem dX6_sendOver_14 : decode cX6_sendOver 14 = .ok (.invokevirtual 211, 3) := by decide +kernel
theorem dX6_sendOver_17 : decode cX6_sendOver 17 = .ok (.astore 4, 2) := by decide +kernel
theorem dX6_sendOver_19 : decode cX6_sendOver 19 = .ok (.aload 4, 2) := by decide +kernel
theorem dX6_sendOver_21 : decode cX6_sendOver 21 = .ok (.getfield 215, 3) := by decide +kernel
theorem dX6_sendOver_24 : decode cX6_sendOver 24 = .ok (.iload_n 1, 1) := by decide +kernel
theorem dX6_sendOver_25 : decode cX6_sendOver 25 = .ok (.if_icmp .ne 25, 3) := by decide +kernel
theorem dX6_sendOver_28 : decode cX6_sendOver 28 = .ok (.aload 4, 2) := by decide +kernel
theorem dX6_sendOver_30 : decode cX6_sendOver 30 = .ok (.getfield 246, 3) := by decide +kernel
theorem dX6_sendOver_33 : decode cX6_sendOver 33 = .ok (.ifCond .ne 17, 3) := by decide +kernel
theorem dX6_sendOver_36 : decode cX6_sendOver 36 = .ok (.aload_n 0, 1) := by decide +kernel
theorem dX6_sendOver_37 : decode cX6_sendOver 37 = .ok (.aload 4, 2) := by decide +kernel
theorem dX6_sendOver_39 : decode cX6_sendOver 39 = .ok (.aload_n 0, 1) := by decide +kernel
theorem dX6_sendOver_40 : decode cX6_sendOver 40 = .ok (.iload_n 1, 1) := by decide +kernel
theorem dX6_sendOver_41 : decode cX6_sendOver 41 = .ok (.invokevirtual 325, 3) := by decide +kernel
theorem dX6_sendOver_44 : decode cX6_sendOver 44 = .ok (.invokevirtual 328, 3) := by decide +kernel
theorem dX6_sendOver_47 : decode cX6_sendOver 47 = .ok (.iinc 2 1, 3) := by decide +kernel
theorem dX6_sendOver_50 : decode cX6_sendOver 50 = .ok (.iinc 3 1, 3) := by decide +kernel
theorem dX6_sendOver_53 : decode cX6_sendOver 53 = .ok (.goto (-49), 3) := by decide +kernel
theorem dX6_sendOver_56 : decode cX6_sendOver 56 = .ok (.iload_n 2, 1) := by decide +kernel
theorem dX6_sendOver_57 : decode cX6_sendOver 57 = .ok (.ireturn, 1) := by decide +kernel
theorem dX6_nextLike_0 : decode cX6_nextLike 0 = .ok (.aload_n 0, 1) := by decide +kernel
theorem dX6_nextLike_1 : decode cX6_nextLike 1 = .ok (.iload_n 1, 1) := by decide +kernel
theorem dX6_nextLike_2 : decode cX6_nextLike 2 = .ok (.invokevirtual 152, 3) := by decide +kernel
theorem dX6_nextLike_5 : decode cX6_nextLike 5 = .ok (.astore_n 2, 1) := by decide +kernel
theorem dX6_nextLike_6 : decode cX6_nextLike 6 = .ok (.iconst (-1), 1) := by decide +kernel
theorem dX6_nextLike_7 : decode cX6_nextLike 7 = .ok (.istore_n 3, 1) := by decide +kernel
theorem dX6_nextLike_8 : decode cX6_nextLike 8 = .ok (.sipush 10001, 3) := by decide +kernel
theorem dX6_nextLike_11 : decode cX6_nextLike 11 = .ok (.istore 4, 2) := by decide +kernel
theorem dX6_nextLike_13 : decode cX6_nextLike 13 = .ok (.iconst 0, 1) := by decide +kernel
theorem dX6_nextLike_14 : decode cX6_nextLike 14 = .ok (.istore 5, 2) := by decide +kernel
theorem dX6_nextLike_16 : decode cX6_nextLike 16 = .ok (.iload 5, 2) := by decide +kernel
theorem dX6_nextLike_18 : decode cX6_nextLike 18 = .ok (.aload_n 0, 1) := by decide +kernel
theorem dX6_nextLike_19 : decode cX6_nextLike 19 = .ok (.getfield 71, 3) := by decide +kernel
theorem dX6_nextLike_22 : decode cX6_nextLike 22 = .ok (.if_icmp .ge 69, 3) := by decide +kernel
theorem dX6_nextLike_25 : decode cX6_nextLike 25 = .ok (.aload_n 0, 1) := by decide +kernel
theorem dX6_nextLike_26 : decode cX6_nextLike 26 = .ok (.iload 5, 2) := by decide +kernel
theorem dX6_nextLike_28 : decode cX6_nextLike 28 = .ok (.invokevirtual 152, 3) := by decide +kernel
theorem dX6_nextLike_31 : decode cX6_nextLike 31 = .ok (.astore 6, 2) := by decide +kernel
theorem dX6_nextLike_33 : decode cX6_nextLike 33 = .ok (.aload 6, 2) := by decide +kernel
theorem dX6_nextLike_35 : decode cX6_nextLike 35 = .ok (.getfield 166, 3) := by decide +kernel
theorem dX6_nextLike_38 : decode cX6_nextLike 38 = .ok (.ifCond .ne 47, 3) := by decide +kernel
theorem dX6_nextLike_41 : decode cX6_nextLike 41 = .ok (.aload 6, 2) := by decide +kernel
theorem dX6_nextLike_43 : decode cX6_nextLike 43 = .ok (.getfield 183, 3) := by decide +kernel
theorem dX6_nextLike_46 : decode cX6_nextLike 46 = .ok (.aload_n 2, 1) := by decide +kernel
theorem dX6_nextLike_47 : decode cX6_nextLike 47 = .ok (.getfield 183, 3) := by decide +kernel
theorem dX6_nextLike_50 : decode cX6_nextLike 50 = .ok (.if_icmp .ne 35, 3) := by decide +kernel
theorem dX6_nextLike_53 : decode cX6_nextLike 53 = .ok (.aload 6, 2) := by decide +kernel
theorem dX6_nextLike_55 : decode cX6_nextLike 55 = .ok (.getfield 156, 3) := by decide +kernel
theorem dX6_nextLike_58 : decode cX6_nextLike 58 = .ok (.aload_n 2, 1) := by decide +kernel
theorem dX6_nextLike_59 : decode cX6_nextLike 59 = .ok (.getfield 156, 3) := by decide +kernel
theorem dX6_nextLike_62 : decode cX6_nextLike 62 = .ok (.if_icmp .ne 23, 3) := by decide +kernel
theorem dX6_nextLike_65 : decode cX6_nextLike 65 = .ok (.aload 6, 2) := by decide +kernel
theorem dX6_nextLike_67 : decode cX6_nextLike 67 = .ok (.getfield 271, 3) := by decide +kernel
theorem dX6_nextLike_70 : decode cX6_nextLike 70 = .ok (.iload 4, 2) := by decide +kernel
theorem dX6_nextLike_72 : decode cX6_nextLike 72 = .ok (.if_icmp .ge 13, 3) := by decide +kernel
theorem dX6_nextLike_75 : decode cX6_nextLike 75 = .ok (.iload 5, 2) := by decide +kernel
theorem dX6_nextLike_77 : decode cX6_nextLike 77 = .ok (.istore_n 3, 1) := by decide +kernel
theorem dX6_nextLike_78 : decode cX6_nextLike 78 = .ok (.aload 6, 2) := by decide +kernel
theorem dX6_nextLike_80 : decode cX6_nextLike 80 = .ok (.getfield 271, 3) := by decide +kernel
theorem dX6_nextLike_83 : decode cX6_nextLike 83 = .ok (.istore 4, 2) := by decide +kernel
theorem dX6_nextLike_85 : decode cX6_nextLike 85 = .ok (.iinc 5 1, 3) := by decide +kernel
theorem dX6_nextLike_88 : decode cX6_nextLike 88 = .ok (.goto (-72), 3) := by decide +kernel
theorem dX6_nextLike_91 : decode cX6_nextLike 91 = .ok (.iload_n 3, 1) := by decide +kernel
theorem dX6_nextLike_92 : decode cX6_nextLike 92 = .ok (.ireturn, 1) := by decide +kernel
theorem dX6_goOver_0 : decode cX6_goOver 0 = .ok (.iload_n 2, 1) := by decide +kernel
theorem dX6_goOver_1 : decode cX6_goOver 1 = .ok (.iconst (-1), 1) := by decide +kernel
theorem dX6_goOver_2 : decode cX6_goOver 2 = .ok (.if_icmp .eq 11, 3) := by decide +kernel
theorem dX6_goOver_5 : decode cX6_goOver 5 = .ok (.aload_n 1, 1) := by decide +kernel
theorem dX6_goOver_6 : decode cX6_goOver 6 = .ok (.getfield 331, 3) := by decide +kernel
theorem dX6_goOver_9 : decode cX6_goOver 9 = .ok (.iconst 2, 1) := by decide +kernel
theorem dX6_goOver_10 : decode cX6_goOver 10 = .ok (.if_icmp .lt 11, 3) := by decide +kernel
theorem dX6_goOver_13 : decode cX6_goOver 13 = .ok (.aload_n 0, 1) := by decide +kernel
theorem dX6_goOver_14 : decode cX6_goOver 14 = .ok (.aload_n 1, 1) := by decide +kernel
theorem dX6_goOver_15 : decode cX6_goOver 15 = .ok (.invokevirtual 334, 3) := by decide +kernel
theorem dX6_goOver_18 : decode cX6_goOver 18 = .ok (.goto 18, 3) := by decide +kernel
theorem dX6_goOver_21 : decode cX6_goOver 21 = .ok (.aload_n 1, 1) := by decide +kernel
theorem dX6_goOver_22 : decode cX6_goOver 22 = .ok (.iload_n 2, 1) := by decide +kernel
theorem dX6_goOver_23 : decode cX6_goOver 23 = .ok (.putfield 215, 3) := by decide +kernel
theorem dX6_goOver_26 : decode cX6_goOver 26 = .ok (.aload_n 1, 1) := by decide +kernel
theorem dX6_goOver_27 : decode cX6_goOver 27 = .ok (.dup, 1) := by decide +kernel
theorem dX6_goOver_28 : decode cX6_goOver 28 = .ok (.getfield 331, 3) := by decide +kernel
theorem dX6_goOver_31 : decode cX6_goOver 31 = .ok (.iconst 1, 1) := by decide +kernel
theorem dX6_goOver_32 : decode cX6_goOver 32 = .ok (.iadd, 1) := by decide +kernel
theorem dX6_goOver_33 : decode cX6_goOver 33 = .ok (.putfield 331, 3) := by decide +kernel
theorem dX6_goOver_36 : decode cX6_goOver 36 = .ok (.return_, 1) := by decide +kernel
theorem dX6_fareFor_0 : decode cX6_fareFor 0 = .ok (.iload_n 0, 1) := by decide +kernel
theorem dX6_fareFor_1 : decode cX6_fareFor 1 = .ok (.tableswitch 34 0 2 #[27, 29, 31], 27) := by decide +kernel
theorem dX6_fareFor_28 : decode cX6_fareFor 28 = .ok (.iconst 2, 1) := by decide +kernel
theorem dX6_fareFor_29 : decode cX6_fareFor 29 = .ok (.ireturn, 1) := by decide +kernel
theorem dX6_fareFor_30 : decode cX6_fareFor 30 = .ok (.iconst 5, 1) := by decide +kernel
theorem dX6_fareFor_31 : decode cX6_fareFor 31 = .ok (.ireturn, 1) := by decide +kernel
theorem dX6_fareFor_32 : decode cX6_fareFor 32 = .ok (.bipush 8, 2) := by decide +kernel
theorem dX6_fareFor_34 : decode cX6_fareFor 34 = .ok (.ireturn, 1) := by decide +kernel
theorem dX6_fareFor_35 : decode cX6_fareFor 35 = .ok (.bipush 20, 2) := by decide +kernel
theorem dX6_fareFor_37 : decode cX6_fareFor 37 = .ok (.ireturn, 1) := by decide +kernel
theorem dX6_payFor_0 : decode cX6_payFor 0 = .ok (.aload_n 1, 1) := by decide +kernel
theorem dX6_payFor_1 : decode cX6_payFor 1 = .ok (.aload_n 1, 1) := by decide +kernel
theorem dX6_payFor_2 : decode cX6_payFor 2 = .ok (.getfield 230, 3) := by decide +kernel
theorem dX6_payFor_5 : decode cX6_payFor 5 = .ok (.ifCond .eq 9, 3) := by decide +kernel
theorem dX6_payFor_8 : decode cX6_payFor 8 = .ok (.iload_n 2, 1) := by decide +kernel
theorem dX6_payFor_9 : decode cX6_payFor 9 = .ok (.iconst 2, 1) := by decide +kernel
theorem dX6_payFor_10 : decode cX6_payFor 10 = .ok (.idiv, 1) := by decide +kernel
theorem dX6_payFor_11 : decode cX6_payFor 11 = .ok (.goto 4, 3) := by decide +kernel
theorem dX6_payFor_14 : decode cX6_payFor 14 = .ok (.iload_n 2, 1) := by decide +kernel
theorem dX6_payFor_15 : decode cX6_payFor 15 = .ok (.putfield 243, 3) := by decide +kernel
theorem dX6_payFor_18 : decode cX6_payFor 18 = .ok (.aload_n 1, 1) := by decide +kernel
theorem dX6_payFor_19 : decode cX6_payFor 19 = .ok (.iload_n 2, 1) := by decide +kernel
theorem dX6_payFor_20 : decode cX6_payFor 20 = .ok (.aload_n 1, 1) := by decide +kernel
theorem dX6_payFor_21 : decode cX6_payFor 21 = .ok (.getfield 243, 3) := by decide +kernel
theorem dX6_payFor_24 : decode cX6_payFor 24 = .ok (.isub, 1) := by decide +kernel
theorem dX6_payFor_25 : decode cX6_payFor 25 = .ok (.putfield 255, 3) := by decide +kernel
theorem dX6_payFor_28 : decode cX6_payFor 28 = .ok (.aload_n 0, 1) := by decide +kernel
theorem dX6_payFor_29 : decode cX6_payFor 29 = .ok (.getfield 43, 3) := by decide +kernel
theorem dX6_payFor_32 : decode cX6_payFor 32 = .ok (.iconst 0, 1) := by decide +kernel
theorem dX6_payFor_33 : decode cX6_payFor 33 = .ok (.dup2, 1) := by decide +kernel
theorem dX6_payFor_34 : decode cX6_payFor 34 = .ok (.laload, 1) := by decide +kernel
theorem dX6_payFor_35 : decode cX6_payFor 35 = .ok (.aload_n 1, 1) := by decide +kernel
theorem dX6_payFor_36 : decode cX6_payFor 36 = .ok (.getfield 243, 3) := by decide +kernel
theorem dX6_payFor_39 : decode cX6_payFor 39 = .ok (.i2l, 1) := by decide +kernel
theorem dX6_payFor_40 : decode cX6_payFor 40 = .ok (.ladd, 1) := by decide +kernel
theorem dX6_payFor_41 : decode cX6_payFor 41 = .ok (.lastore, 1) := by decide +kernel
theorem dX6_payFor_42 : decode cX6_payFor 42 = .ok (.aload_n 0, 1) := by decide +kernel
theorem dX6_payFor_43 : decode cX6_payFor 43 = .ok (.getfield 43, 3) := by decide +kernel
theorem dX6_payFor_46 : decode cX6_payFor 46 = .ok (.iconst 1, 1) := by decide +kernel
theorem dX6_payFor_47 : decode cX6_payFor 47 = .ok (.dup2, 1) := by decide +kernel
theorem dX6_payFor_48 : decode cX6_payFor 48 = .ok (.laload, 1) := by decide +kernel
theorem dX6_payFor_49 : decode cX6_payFor 49 = .ok (.aload_n 1, 1) := by decide +kernel
theorem dX6_payFor_50 : decode cX6_payFor 50 = .ok (.getfield 255, 3) := by decide +kernel
theorem dX6_payFor_53 : decode cX6_payFor 53 = .ok (.i2l, 1) := by decide +kernel
theorem dX6_payFor_54 : decode cX6_payFor 54 = .ok (.ladd, 1) := by decide +kernel
theorem dX6_payFor_55 : decode cX6_payFor 55 = .ok (.lastore, 1) := by decide +kernel
theorem dX6_payFor_56 : decode cX6_payFor 56 = .ok (.return_, 1) := by decide +kernel
theorem dX6_payBack_0 : decode cX6_payBack 0 = .ok (.aload_n 0, 1) := by decide +kernel
theorem dX6_payBack_1 : decode cX6_payBack 1 = .ok (.getfield 43, 3) := by decide +kernel
theorem dX6_payBack_4 : decode cX6_payBack 4 = .ok (.iconst 0, 1) := by decide +kernel
theorem dX6_payBack_5 : decode cX6_payBack 5 = .ok (.dup2, 1) := by decide +kernel
theorem dX6_payBack_6 : decode cX6_payBack 6 = .ok (.laload, 1) := by decide +kernel
theorem dX6_payBack_7 : decode cX6_payBack 7 = .ok (.aload_n 1, 1) := by decide +kernel
theorem dX6_payBack_8 : decode cX6_payBack 8 = .ok (.getfield 243, 3) := by decide +kernel
theorem dX6_payBack_11 : decode cX6_payBack 11 = .ok (.i2l, 1) := by decide +kernel
theorem dX6_payBack_12 : decode cX6_payBack 12 = .ok (.lsub, 1) := by decide +kernel
theorem dX6_payBack_13 : decode cX6_payBack 13 = .ok (.lastore, 1) := by decide +kernel
theorem dX6_payBack_14 : decode cX6_payBack 14 = .ok (.aload_n 0, 1) := by decide +kernel
theorem dX6_payBack_15 : decode cX6_payBack 15 = .ok (.getfield 43, 3) := by decide +kernel
theorem dX6_payBack_18 : decode cX6_payBack 18 = .ok (.iconst 1, 1) := by decide +kernel
theorem dX6_payBack_19 : decode cX6_payBack 19 = .ok (.dup2, 1) := by decide +kernel
theorem dX6_payBack_20 : decode cX6_payBack 20 = .ok (.laload, 1) := by decide +kernel
theorem dX6_payBack_21 : decode cX6_payBack 21 = .ok (.aload_n 1, 1) := by decide +kernel
theorem dX6_payBack_22 : decode cX6_payBack 22 = .ok (.getfield 255, 3) := by decide +kernel
theorem dX6_payBack_25 : decode cX6_payBack 25 = .ok (.i2l, 1) := by decide +kernel
theorem dX6_payBack_26 : decode cX6_payBack 26 = .ok (.lsub, 1) := by decide +kernel
theorem dX6_payBack_27 : decode cX6_payBack 27 = .ok (.lastore, 1) := by decide +kernel
theorem dX6_payBack_28 : decode cX6_payBack 28 = .ok (.aload_n 1, 1) := by decide +kernel
theorem dX6_payBack_29 : decode cX6_payBack 29 = .ok (.iconst 0, 1) := by decide +kernel
theorem dX6_payBack_30 : decode cX6_payBack 30 = .ok (.putfield 243, 3) := by decide +kernel
theorem dX6_payBack_33 : decode cX6_payBack 33 = .ok (.aload_n 1, 1) := by decide +kernel
theorem dX6_payBack_34 : decode cX6_payBack 34 = .ok (.iconst 0, 1) := by decide +kernel
theorem dX6_payBack_35 : decode cX6_payBack 35 = .ok (.putfield 255, 3) := by decide +kernel
theorem dX6_payBack_38 : decode cX6_payBack 38 = .ok (.aload_n 1, 1) := by decide +kernel
theorem dX6_payBack_39 : decode cX6_payBack 39 = .ok (.iconst (-1), 1) := by decide +kernel
theorem dX6_payBack_40 : decode cX6_payBack 40 = .ok (.putfield 215, 3) := by decide +kernel
theorem dX6_payBack_43 : decode cX6_payBack 43 = .ok (.return_, 1) := by decide +kernel
