theorem dX6_sendOver_6 : decode cX6_sendOver 6 = .ok (.getfield 74, 3) := by decide +kernel
theorem dX6_sendOver_9 : decode cX6_sendOver 9 = .ok (.if_icmp .ge 47, 3) := by decide +kernel
theorem dX6_sendOver_12 : decode cX6_sendOver 12 = .ok (.aload_n 0, 1) := by decide +kernel
theorem dX6_sendOver_13 : decode cX6_sendOver 13 = .ok (.iload_n 3, 1) := by decide +kernel
theorem dX6_sendOver_14 : decode cX6_sendOver 14 = .ok (.invokevirtual 211, 3) := by decide +kernel
theorem dX6_sendOver_17 : decode cX6_sendOver 17 = .ok (.astore 4, 2) := by decide +kernel
theorem dX6_sendOver_19 : decode cX6_sendOver 19 = .ok (.aload 4, 2) := by decide +kernel
theorem dX6_sendOver_21 : decode cX6_sendOver 21 = .ok (.getfield 215, 3) := by decide +kernel
theorem dX6_sendOver_24 : decode cX6_sendOver 24 = .ok (.iload_n 1, 1) := by decide +kernel
theorem dX6_sendOver_25 : decode cX6_sendOver 25 = .ok (.if_icmp .ne 25, 3) := by decide +kernel
theorem dX6_sendOver_28 : decode cX6_sendOver 28 = .ok (.aload 4, 2) := by decide +kernel
theorem dX6_sendOver_30 : decode cX6_sendOver 30 = .ok (.getfield 246, 3) := by decide +kernel
theorem dX6_sendOver_33 : decode cX6_sendOver 33 = .ok (.ifCond .ne 17, 3) := by decide +kernel
theorem dX6_sendOver_36 : decode cX6_sendOver 36 = .ok (.aload_n 0, 1) := by decide +kernel
theorem dX6_sendOver_37 : decode cX6_sendOver 37 = .ok (.aload 4, 2) := by decide +kernel
theorem dX6_sendOver_39 : decode cX6_sendOver 39 = .ok (.aload_n 0, 1) := by decide +kernel
theorem dX6_sendOver_40 : decode cX6_sendOver 40 = .ok (.iload_n 1, 1) := by decide +kernel
theorem dX6_sendOver_41 : decode cX6_sendOver 41 = .ok (.invokevirtual 325, 3) := by decide +kernel
theorem dX6_sendOver_44 : decode cX6_sendOver 44 = .ok (.invokevirtual 328, 3) := by decide +kernel
theorem dX6_sendOver_47 : decode cX6_sendOver 47 = .ok (.iinc 2 1, 3) := by decide +kernel
theorem dX6_sendOver_50 : decode cX6_sendOver 50 = .ok (.iinc 3 1, 3) := by decide +kernel
theorem dX6_sendOver_53 : decode cX6_sendOver 53 = .ok (.goto (-49), 3) := by decide +kernel
theorem dX6_sendOver_56 : decode cX6_sendOver 56 = .ok (.iload_n 2, 1) := by decide +kernel
theorem dX6_sendOver_57 : decode cX6_sendOver 57 = .ok (.ireturn, 1) := by decide +kernel
theorem dX6_nextLike_0 : decode cX6_nextLike 0 = .ok (.aload_n 0, 1) := by decide +kernel
theorem dX6_nextLike_1 : decode cX6_nextLike 1 = .ok (.iload_n 1, 1) := by decide +kernel
theorem dX6_nextLike_2 : decode cX6_nextLike 2 = .ok (.invokevirtual 152, 3) := by decide +kernel
theorem dX6_nextLike_5 : decode cX6_nextLike 5 = .ok (.astore_n 2, 1) := by decide +kernel
theorem dX6_nextLike_6 : decode cX6_nextLike 6 = .ok (.iconst (-1), 1) := by decide +kernel
theorem dX6_nextLike_7 : decode cX6_nextLike 7 = .ok (.istore_n 3, 1) := by decide +kernel
theorem dX6_nextLike_8 : decode cX6_nextLike 8 = .ok (.sipush 10001, 3) := by decide +kernel
theorem dX6_nextLike_11 : decode cX6_nextLike 11 = .ok (.istore 4, 2) := by decide +kernel
theorem dX6_nextLike_13 : decode cX6_nextLike 13 = .ok (.iconst 0, 1) := by decide +kernel
theorem dX6_nextLike_14 : decode cX6_nextLike 14 = .ok (.istore 5, 2) := by decide +kernel
theorem dX6_nextLike_16 : decode cX6_nextLike 16 = .ok (.iload 5, 2) := by decide +kernel
theorem dX6_nextLike_18 : decode cX6_nextLike 18 = .ok (.aload_n 0, 1) := by decide +kernel
theorem dX6_nextLike_19 : decode cX6_nextLike 19 = .ok (.getfield 71, 3) := by decide +kernel
theorem dX6_nextLike_22 : decode cX6_nextLike 22 = .ok (.if_icmp .ge 69, 3) := by decide +kernel
theorem dX6_nextLike_25 : decode cX6_nextLike 25 = .ok (.aload_n 0, 1) := by decide +kernel
theorem dX6_nextLike_26 : decode cX6_nextLike 26 = .ok (.iload 5, 2) := by decide +kernel
theorem dX6_nextLike_28 : decode cX6_nextLike 28 = .ok (.invokevirtual 152, 3) := by decide +kernel
theorem dX6_nextLike_31 : decode cX6_nextLike 31 = .ok (.astore 6, 2) := by decide +kernel
theorem dX6_nextLike_33 : decode cX6_nextLike 33 = .ok (.aload 6, 2) := by decide +kernel
theorem dX6_nextLike_35 : decode cX6_nextLike 35 = .ok (.getfield 166, 3) := by decide +kernel
theorem dX6_nextLike_38 : decode cX6_nextLike 38 = .ok (.ifCond .ne 47, 3) := by decide +kernel
theorem dX6_nextLike_41 : decode cX6_nextLike 41 = .ok (.aload 6, 2) := by decide +kernel
theorem dX6_nextLike_43 : decode cX6_nextLike 43 = .ok (.getfield 183, 3) := by decide +kernel
theorem dX6_nextLike_46 : decode cX6_nextLike 46 = .ok (.aload_n 2, 1) := by decide +kernel
theorem dX6_nextLike_47 : decode cX6_nextLike 47 = .ok (.getfield 183, 3) := by decide +kernel
theorem dX6_nextLike_50 : decode cX6_nextLike 50 = .ok (.if_icmp .ne 35, 3) := by decide +kernel
theorem dX6_nextLike_53 : decode cX6_nextLike 53 = .ok (.aload 6, 2) := by decide +kernel
theorem dX6_nextLike_55 : decode cX6_nextLike 55 = .ok (.getfield 156, 3) := by decide +kernel
theorem dX6_nextLike_58 : decode cX6_nextLike 58 = .ok (.aload_n 2, 1) := by decide +kernel
theorem dX6_nextLike_59 : decode cX6_nextLike 59 = .ok (.getfield 156, 3) := by decide +kernel
theorem dX6_nextLike_62 : decode cX6_nextLike 62 = .ok (.if_icmp .ne 23, 3) := by decide +kernel
theorem dX6_nextLike_65 : decode cX6_nextLike 65 = .ok (.aload 6, 2) := by decide +kernel
theorem dX6_nextLike_67 : decode cX6_nextLike 67 = .ok (.getfield 271, 3) := by decide +kernel
theorem dX6_nextLike_70 : decode cX6_nextLike 70 = .ok (.iload 4, 2) := by decide +kernel
theorem dX6_nextLike_72 : decode cX6_nextLike 72 = .ok (.if_icmp .ge 13, 3) := by decide +kernel
theorem dX6_nextLike_75 : decode cX6_nextLike 75 = .ok (.iload 5, 2) := by decide +kernel
theorem dX6_nextLike_77 : decode cX6_nextLike 77 = .ok (.istore_n 3, 1) := by decide +kernel
theorem dX6_nextLike_78 : decode cX6_nextLike 78 = .ok (.aload 6, 2) := by decide +kernel
theorem dX6_nextLike_80 : decode cX6_nextLike 80 = .ok (.getfield 271, 3) := by decide +kernel
theorem dX6_nextLike_83 : decode cX6_nextLike 83 = .ok (.istore 4, 2) := by decide +kernel
theorem dX6_nextLike_85 : decode cX6_nextLike 85 = .ok (.iinc 5 1, 3) := by decide +kernel
theorem dX6_nextLike_88 : decode cX6_nextLike 88 = .ok (.goto (-72), 3) := by decide +kernel
theorem dX6_nextLike_91 : decode cX6_nextLike 91 = .ok (.iload_n 3, 1) := by decide +kernel
theorem dX6_nextLike_92 : decode cX6_nextLike 92 = .ok (.ireturn, 1) := by decide +kernel
theorem dX6_goOver_0 : decode cX6_goOver 0 = .ok (.iload_n 2, 1) := by decide +kernel
theorem dX6_goOver_1 : decode cX6_goOver 1 = .ok (.iconst (-1), 1) := by decide +kernel
theorem dX6_goOver_2 : decode cX6_goOver 2 = .ok (.if_icmp .eq 11, 3) := by decide +kernel
theorem dX6_goOver_5 : decode cX6_goOver 5 = .ok (.aload_n 1, 1) := by decide +kernel
theorem dX6_goOver_6 : decode cX6_goOver 6 = .ok (.getfield 331, 3) := by decide +kernel
theorem dX6_goOver_9 : decode cX6_goOver 9 = .ok (.iconst 2, 1) := by decide +kernel
theorem dX6_goOver_10 : decode cX6_goOver 10 = .ok (.if_icmp .lt 11, 3) := by decide +kernel
theorem dX6_goOver_13 : decode cX6_goOver 13 = .ok (.aload_n 0, 1) := by decide +kernel
theorem dX6_goOver_14 : decode cX6_goOver 14 = .ok (.aload_n 1, 1) := by decide +kernel
theorem dX6_goOver_15 : decode cX6_goOver 15 = .ok (.invokevirtual 334, 3) := by decide +kernel
theorem dX6_goOver_18 : decode cX6_goOver 18 = .ok (.goto 18, 3) := by decide +kernel
theorem dX6_goOver_21 : decode cX6_goOver 21 = .ok (.aload_n 1, 1) := by decide +kernel
theorem dX6_goOver_22 : decode cX6_goOver 22 = .ok (.iload_n 2, 1) := by decide +kernel
theorem dX6_goOver_23 : decode cX6_goOver 23 = .ok (.putfield 215, 3) := by decide +kernel
theorem dX6_goOver_26 : decode cX6_goOver 26 = .ok (.aload_n 1, 1) := by decide +kernel
theorem dX6_goOver_27 : decode cX6_goOver 27 = .ok (.dup, 1) := by decide +kernel
theorem dX6_goOver_28 : decode cX6_goOver 28 = .ok (.getfield 331, 3) := by decide +kernel
theorem dX6_goOver_31 : decode cX6_goOver 31 = .ok (.iconst 1, 1) := by decide +kernel
theorem dX6_goOver_32 : decode cX6_goOver 32 = .ok (.iadd, 1) := by decide +kernel
theorem dX6_goOver_33 : decode cX6_goOver 33 = .ok (.putfield 331, 3) := by decide +kernel
theorem dX6_goOver_36 : decode cX6_goOver 36 = .ok (.return_, 1) := by decide +kernel
theorem dX6_fareFor_0 : decode cX6_fareFor 0 = .ok (.iload_n 0, 1) := by decide +kernel
theorem dX6_fareFor_1 : decode cX6_fareFor 1 = .ok (.tableswitch 34 0 2 #[27, 29, 31], 27) := by decide +kernel
theorem dX6_fareFor_28 : decode cX6_fareFor 28 = .ok (.iconst 2, 1) := by decide +kernel
theorem dX6_fareFor_29 : decode cX6_fareFor 29 = .ok (.ireturn, 1) := by decide +kernel
theorem dX6_fareFor_30 : decode cX6_fareFor 30 = .ok (.iconst 5, 1) := by decide +kernel
theorem dX6_fareFor_31 : decode cX6_fareFor 31 = .ok (.ireturn, 1) := by decide +kernel
theorem dX6_fareFor_32 : decode cX6_fareFor 32 = .ok (.bipush 8, 2) := by decide +kernel
theorem dX6_fareFor_34 : decode cX6_fareFor 34 = .ok (.ireturn, 1) := by decide +kernel
theorem dX6_fareFor_35 : decode cX6_fareFor 35 = .ok (.bipush 20, 2) := by decide +kernel
theorem dX6_fareFor_37 : decode cX6_fareFor 37 = .ok (.ireturn, 1) := by decide +kernel
theorem dX6_payFor_0 : decode cX6_payFor 0 = .ok (.aload_n 1, 1) := by decide +kernel
theorem dX6_payFor_1 : decode cX6_payFor 1 = .ok (.aload_n 1, 1) := by decide +kernel
theorem dX6_payFor_2 : decode cX6_payFor 2 = .ok (.getfield 230, 3) := by decide +kernel
theorem dX6_payFor_5 : decode cX6_payFor 5 = .ok (.ifCond .eq 9, 3) := by decide +kernel
theorem dX6_payFor_8 : decode cX6_payFor 8 = .ok (.iload_n 2, 1) := by decide +kernel
theorem dX6_payFor_9 : decode cX6_payFor 9 = .ok (.iconst 2, 1) := by decide +kernel
theorem dX6_payFor_10 : decode cX6_payFor 10 = .ok (.idiv, 1) := by decide +kernel
theorem dX6_payFor_11 : decode cX6_payFor 11 = .ok (.goto 4, 3) := by decide +kernel
theorem dX6_payFor_14 : decode cX6_payFor 14 = .ok (.iload_n 2, 1) := by decide +kernel
theorem dX6_payFor_15 : decode cX6_payFor 15 = .ok (.putfield 243, 3) := by decide +kernel
theorem dX6_payFor_18 : decode cX6_payFor 18 = .ok (.aload_n 1, 1) := by decide +kernel
theorem dX6_payFor_19 : decode cX6_payFor 19 = .ok (.iload_n 2, 1) := by decide +kernel
theorem dX6_payFor_20 : decode cX6_payFor 20 = .ok (.aload_n 1, 1) := by decide +kernel
theorem dX6_payFor_21 : decode cX6_payFor 21 = .ok (.getfield 243, 3) := by decide +kernel
theorem dX6_payFor_24 : decode cX6_payFor 24 = .ok (.isub, 1) := by decide +kernel
theorem dX6_payFor_25 : decode cX6_payFor 25 = .ok (.putfield 255, 3) := by decide +kernel
theorem dX6_payFor_28 : decode cX6_payFor 28 = .ok (.aload_n 0, 1) := by decide +kernel
theorem dX6_payFor_29 : decode cX6_payFor 29 = .ok (.getfield 43, 3) := by decide +kernel
theorem dX6_payFor_32 : decode cX6_payFor 32 = .ok (.iconst 0, 1) := by decide +kernel
theorem dX6_payFor_33 : decode cX6_payFor 33 = .ok (.dup2, 1) := by decide +kernel
theorem dX6_payFor_34 : decode cX6_payFor 34 = .ok (.laload, 1) := by decide +kernel
theorem dX6_payFor_35 : decode cX6_payFor 35 = .ok (.aload_n 1, 1) := by decide +kernel
theorem dX6_payFor_36 : decode cX6_payFor 36 = .ok (.getfield 243, 3) := by decide +kernel
theorem dX6_payFor_39 : decode cX6_payFor 39 = .ok (.i2l, 1) := by decide +kernel
theorem dX6_payFor_40 : decode cX6_payFor 40 = .ok (.ladd, 1) := by decide +kernel
theorem dX6_payFor_41 : decode cX6_payFor 41 = .ok (.lastore, 1) := by decide +kernel
theorem dX6_payFor_42 : decode cX6_payFor 42 = .ok (.aload_n 0, 1) := by decide +kernel
theorem dX6_payFor_43 : decode cX6_payFor 43 = .ok (.getfield 43, 3) := by decide +kernel
theorem dX6_payFor_46 : decode cX6_payFor 46 = .ok (.iconst 1, 1) := by decide +kernel
theorem dX6_payFor_47 : decode cX6_payFor 47 = .ok (.dup2, 1) := by decide +kernel
theorem dX6_payFor_48 : decode cX6_payFor 48 = .ok (.laload, 1) := by decide +kernel
theorem dX6_payFor_49 : decode cX6_payFor 49 = .ok (.aload_n 1, 1) := by decide +kernel
theorem dX6_payFor_50 : decode cX6_payFor 50 = .ok (.getfield 255, 3) := by decide +kernel
theorem dX6_payFor_53 : decode cX6_payFor 53 = .ok (.i2l, 1) := by decide +kernel
theorem dX6_payFor_54 : decode cX6_payFor 54 = .ok (.ladd, 1) := by decide +kernel
theorem dX6_payFor_55 : decode cX6_payFor 55 = .ok (.lastore, 1) := by decide +kernel
theorem dX6_payFor_56 : decode cX6_payFor 56 = .ok (.return_, 1) := by decide +kernel
theorem dX6_payBack_0 : decode cX6_payBack 0 = .ok (.aload_n 0, 1) := by decide +kernel
theorem dX6_payBack_1 : decode cX6_payBack 1 = .ok (.getfield 43, 3) := by decide +kernel
theorem dX6_payBack_4 : decode cX6_payBack 4 = .ok (.iconst 0, 1) := by decide +kernel
theorem dX6_payBack_5 : decode cX6_payBack 5 = .ok (.dup2, 1) := by decide +kernel
theorem dX6_payBack_6 : decode cX6_payBack 6 = .ok (.laload, 1) := by decide +kernel
theorem dX6_payBack_7 : decode cX6_payBack 7 = .ok (.aload_n 1, 1) := by decide +kernel
theorem dX6_payBack_8 : decode cX6_payBack 8 = .ok (.getfield 243, 3) := by decide +kernel
theorem dX6_payBack_11 : decode cX6_payBack 11 = .ok (.i2l, 1) := by decide +kernel
theorem dX6_payBack_12 : decode cX6_payBack 12 = .ok (.lsub, 1) := by decide +kernel
theorem dX6_payBack_13 : decode cX6_payBack 13 = .ok (.lastore, 1) := by decide +kernel
theorem dX6_payBack_14 : decode cX6_payBack 14 = .ok (.aload_n 0, 1) := by decide +kernel
theorem dX6_payBack_15 : decode cX6_payBack 15 = .ok (.getfield 43, 3) := by decide +kernel
theorem dX6_payBack_18 : decode cX6_payBack 18 = .ok (.iconst 1, 1) := by decide +kernel
theorem dX6_payBack_19 : decode cX6_payBack 19 = .ok (.dup2, 1) := by decide +kernel
theorem dX6_payBack_20 : decode cX6_payBack 20 = .ok (.laload, 1) := by decide +kernel
theorem dX6_payBack_21 : decode cX6_payBack 21 = .ok (.aload_n 1, 1) := by decide +kernel
theorem dX6_payBack_22 : decode cX6_payBack 22 = .ok (.getfield 255, 3) := by decide +kernel
theorem dX6_payBack_25 : decode cX6_payBack 25 = .ok (.i2l, 1) := by decide +kernel
theorem dX6_payBack_26 : decode cX6_payBack 26 = .ok (.lsub, 1) := by decide +kernel
theorem dX6_payBack_27 : decode cX6_payBack 27 = .ok (.lastore, 1) := by decide +kernel
theorem dX6_payBack_28 : decode cX6_payBack 28 = .ok (.aload_n 1, 1) := by decide +kernel
theorem dX6_payBack_29 : decode cX6_payBack 29 = .ok (.iconst 0, 1) := by decide +kernel
theorem dX6_payBack_30 : decode cX6_payBack 30 = .ok (.putfield 243, 3) := by decide +kernel
theorem dX6_payBack_33 : decode cX6_payBack 33 = .ok (.aload_n 1, 1) := by decide +kernel
theorem dX6_payBack_34 : decode cX6_payBack 34 = .ok (.iconst 0, 1) := by decide +kernel
theorem dX6_payBack_35 : decode cX6_payBack 35 = .ok (.putfield 255, 3) := by decide +kernel
theorem dX6_payBack_38 : decode cX6_payBack 38 = .ok (.aload_n 1, 1) := by decide +kernel
theorem dX6_payBack_39 : decode cX6_payBack 39 = .ok (.iconst (-1), 1) := by decide +kernel
theorem dX6_payBack_40 : decode cX6_payBack 40 = .ok (.putfield 215, 3) := by decide +kernel
theorem dX6_payBack_43 : decode cX6_payBack 43 = .ok (.return_, 1) := by decide +kernel
theorem dJ9_floorMod_7cf53_0 : decode cJ9_floorMod_7cf53 0 = .ok (.iload_n 0, 1) := by decide +kernel
theorem dJ9_floorMod_7cf53_1 : decode cJ9_floorMod_7cf53 1 = .ok (.iload_n 1, 1) := by decide +kernel
theorem dJ9_floorMod_7cf53_2 : decode cJ9_floorMod_7cf53 2 = .ok (.irem, 1) := by decide +kernel
theorem dJ9_floorMod_7cf53_3 : decode cJ9_floorMod_7cf53 3 = .ok (.istore_n 2, 1) := by decide +kernel
theorem dJ9_floorMod_7cf53_4 : decode cJ9_floorMod_7cf53 4 = .ok (.iload_n 0, 1) := by decide +kernel
theorem dJ9_floorMod_7cf53_5 : decode cJ9_floorMod_7cf53 5 = .ok (.iload_n 1, 1) := by decide +kernel
theorem dJ9_floorMod_7cf53_6 : decode cJ9_floorMod_7cf53 6 = .ok (.ixor, 1) := by decide +kernel
theorem dJ9_floorMod_7cf53_7 : decode cJ9_floorMod_7cf53 7 = .ok (.ifCond .ge 11, 3) := by decide +kernel
theorem dJ9_floorMod_7cf53_10 : decode cJ9_floorMod_7cf53 10 = .ok (.iload_n 2, 1) := by decide +kernel
theorem dJ9_floorMod_7cf53_11 : decode cJ9_floorMod_7cf53 11 = .ok (.ifCond .eq 7, 3) := by decide +kernel
theorem dJ9_floorMod_7cf53_14 : decode cJ9_floorMod_7cf53 14 = .ok (.iload_n 2, 1) := by decide +kernel
theorem dJ9_floorMod_7cf53_15 : decode cJ9_floorMod_7cf53 15 = .ok (.iload_n 1, 1) := by decide +kernel
theorem dJ9_floorMod_7cf53_16 : decode cJ9_floorMod_7cf53 16 = .ok (.iadd, 1) := by decide +kernel
theorem dJ9_floorMod_7cf53_17 : decode cJ9_floorMod_7cf53 17 = .ok (.ireturn, 1) := by decide +kernel
theorem dJ9_floorMod_7cf53_18 : decode cJ9_floorMod_7cf53 18 = .ok (.iload_n 2, 1) := by decide +kernel
theorem dJ9_floorMod_7cf53_19 : decode cJ9_floorMod_7cf53 19 = .ok (.ireturn, 1) := by decide +kernel
theorem dJ9_abs_0f7a4_0 : decode cJ9_abs_0f7a4 0 = .ok (.iload_n 0, 1) := by decide +kernel
theorem dJ9_abs_0f7a4_1 : decode cJ9_abs_0f7a4 1 = .ok (.ifCond .ge 8, 3) := by decide +kernel
theorem dJ9_abs_0f7a4_4 : decode cJ9_abs_0f7a4 4 = .ok (.iload_n 0, 1) := by decide +kernel
theorem dJ9_abs_0f7a4_5 : decode cJ9_abs_0f7a4 5 = .ok (.ineg, 1) := by decide +kernel
theorem dJ9_abs_0f7a4_6 : decode cJ9_abs_0f7a4 6 = .ok (.goto 4, 3) := by decide +kernel
theorem dJ9_abs_0f7a4_9 : decode cJ9_abs_0f7a4 9 = .ok (.iload_n 0, 1) := by decide +kernel
theorem dJ9_abs_0f7a4_10 : decode cJ9_abs_0f7a4 10 = .ok (.ireturn, 1) := by decide +kernel
theorem dJ9_max_7cf53_0 : decode cJ9_max_7cf53 0 = .ok (.iload_n 0, 1) := by decide +kernel
theorem dJ9_max_7cf53_1 : decode cJ9_max_7cf53 1 = .ok (.iload_n 1, 1) := by decide +kernel
theorem dJ9_max_7cf53_2 : decode cJ9_max_7cf53 2 = .ok (.if_icmp .lt 7, 3) := by decide +kernel
theorem dJ9_max_7cf53_5 : decode cJ9_max_7cf53 5 = .ok (.iload_n 0, 1) := by decide +kernel
theorem dJ9_max_7cf53_6 : decode cJ9_max_7cf53 6 = .ok (.goto 4, 3) := by decide +kernel
theorem dJ9_max_7cf53_9 : decode cJ9_max_7cf53 9 = .ok (.iload_n 1, 1) := by decide +kernel
theorem dJ9_max_7cf53_10 : decode cJ9_max_7cf53 10 = .ok (.ireturn, 1) := by decide +kernel
theorem dL_low_0 : decode cL_low 0 = .ok (.iload_n 0, 1) := by decide +kernel
theorem dL_low_1 : decode cL_low 1 = .ok (.ldc 7, 2) := by decide +kernel
theorem dL_low_3 : decode cL_low 3 = .ok (.iand, 1) := by decide +kernel
theorem dL_low_4 : decode cL_low 4 = .ok (.iload_n 1, 1) := by decide +kernel
theorem dL_low_5 : decode cL_low 5 = .ok (.irem, 1) := by decide +kernel
theorem dL_low_6 : decode cL_low 6 = .ok (.ireturn, 1) := by decide +kernel
theorem dL_cell_0 : decode cL_cell 0 = .ok (.iload_n 1, 1) := by decide +kernel
theorem dL_cell_1 : decode cL_cell 1 = .ok (.aload_n 0, 1) := by decide +kernel
theorem dL_cell_2 : decode cL_cell 2 = .ok (.arraylength, 1) := by decide +kernel
theorem dL_cell_3 : decode cL_cell 3 = .ok (.if_icmp .ge 9, 3) := by decide +kernel
theorem dL_cell_6 : decode cL_cell 6 = .ok (.aload_n 0, 1) := by decide +kernel
theorem dL_cell_7 : decode cL_cell 7 = .ok (.iload_n 1, 1) := by decide +kernel
theorem dL_cell_8 : decode cL_cell 8 = .ok (.iaload, 1) := by decide +kernel
theorem dL_cell_9 : decode cL_cell 9 = .ok (.goto 11, 3) := by decide +kernel
theorem dL_cell_12 : decode cL_cell 12 = .ok (.ldc 8, 2) := by decide +kernel
theorem dL_cell_14 : decode cL_cell 14 = .ok (.iload_n 1, 1) := by decide +kernel
theorem dL_cell_15 : decode cL_cell 15 = .ok (.imul, 1) := by decide +kernel
theorem dL_cell_16 : decode cL_cell 16 = .ok (.sipush 977, 3) := by decide +kernel
theorem dL_cell_19 : decode cL_cell 19 = .ok (.iadd, 1) := by decide +kernel
theorem dL_cell_20 : decode cL_cell 20 = .ok (.ireturn, 1) := by decide +kernel
theorem dL_plan_0 : decode cL_plan 0 = .ok (.aload_n 0, 1) := by decide +kernel
theorem dL_plan_1 : decode cL_plan 1 = .ok (.iload_n 1, 1) := by decide +kernel
theorem dL_plan_2 : decode cL_plan 2 = .ok (.iload_n 2, 1) := by decide +kernel
theorem dL_plan_3 : decode cL_plan 3 = .ok (.iload_n 3, 1) := by decide +kernel
theorem dL_plan_4 : decode cL_plan 4 = .ok (.iload 4, 2) := by decide +kernel
theorem dL_plan_6 : decode cL_plan 6 = .ok (.invokevirtual 9, 3) := by decide +kernel
theorem dL_plan_9 : decode cL_plan 9 = .ok (.ireturn, 1) := by decide +kernel
theorem dL_plan_10 : decode cL_plan 10 = .ok (.astore 5, 2) := by decide +kernel
theorem dL_plan_12 : decode cL_plan 12 = .ok (.bipush (-8), 2) := by decide +kernel
theorem dL_plan_14 : decode cL_plan 14 = .ok (.ireturn, 1) := by decide +kernel
theorem dL_plan_15 : decode cL_plan 15 = .ok (.astore 5, 2) := by decide +kernel
theorem dL_plan_17 : decode cL_plan 17 = .ok (.bipush (-9), 2) := by decide +kernel
theorem dL_plan_19 : decode cL_plan 19 = .ok (.ireturn, 1) := by decide +kernel
theorem dL_acts_0 : decode cL_acts 0 = .ok (.iload_n 1, 1) := by decide +kernel
theorem dL_acts_1 : decode cL_acts 1 = .ok (.ifCond .ne 11, 3) := by decide +kernel
theorem dL_acts_4 : decode cL_acts 4 = .ok (.aload_n 0, 1) := by decide +kernel
theorem dL_acts_5 : decode cL_acts 5 = .ok (.iload_n 2, 1) := by decide +kernel
theorem dL_acts_6 : decode cL_acts 6 = .ok (.invokevirtual 19, 3) := by decide +kernel
theorem dL_acts_9 : decode cL_acts 9 = .ok (.goto 23, 3) := by decide +kernel
theorem dL_acts_12 : decode cL_acts 12 = .ok (.iload_n 1, 1) := by decide +kernel
theorem dL_acts_13 : decode cL_acts 13 = .ok (.iconst 1, 1) := by decide +kernel
theorem dL_acts_14 : decode cL_acts 14 = .ok (.if_icmp .ne 12, 3) := by decide +kernel
theorem dL_acts_17 : decode cL_acts 17 = .ok (.aload_n 0, 1) := by decide +kernel
theorem dL_acts_18 : decode cL_acts 18 = .ok (.iload_n 2, 1) := by decide +kernel
theorem dL_acts_19 : decode cL_acts 19 = .ok (.iload_n 3, 1) := by decide +kernel
theorem dL_acts_20 : decode cL_acts 20 = .ok (.invokevirtual 23, 3) := by decide +kernel
theorem dL_acts_23 : decode cL_acts 23 = .ok (.goto 9, 3) := by decide +kernel
theorem dL_acts_26 : decode cL_acts 26 = .ok (.aload_n 0, 1) := by decide +kernel
theorem dL_acts_27 : decode cL_acts 27 = .ok (.iload_n 2, 1) := by decide +kernel
theorem dL_acts_28 : decode cL_acts 28 = .ok (.iload_n 3, 1) := by decide +kernel
theorem dL_acts_29 : decode cL_acts 29 = .ok (.invokevirtual 27, 3) := by decide +kernel
theorem dL_acts_32 : decode cL_acts 32 = .ok (.ireturn, 1) := by decide +kernel
theorem dL_acts_33 : decode cL_acts 33 = .ok (.astore 4, 2) := by decide +kernel
theorem dL_acts_35 : decode cL_acts 35 = .ok (.bipush (-9), 2) := by decide +kernel
theorem dL_acts_37 : decode cL_acts 37 = .ok (.ireturn, 1) := by decide +kernel
theorem dL_book_0 : decode cL_book 0 = .ok (.aload_n 0, 1) := by decide +kernel
theorem dL_book_1 : decode cL_book 1 = .ok (.iload_n 1, 1) := by decide +kernel
theorem dL_book_2 : decode cL_book 2 = .ok (.iload_n 2, 1) := by decide +kernel
theorem dL_book_3 : decode cL_book 3 = .ok (.iload_n 3, 1) := by decide +kernel
theorem dL_book_4 : decode cL_book 4 = .ok (.iload 4, 2) := by decide +kernel
theorem dL_book_6 : decode cL_book 6 = .ok (.iload 5, 2) := by decide +kernel
theorem dL_book_8 : decode cL_book 8 = .ok (.iload 6, 2) := by decide +kernel
theorem dL_book_10 : decode cL_book 10 = .ok (.invokevirtual 30, 3) := by decide +kernel
theorem dL_book_13 : decode cL_book 13 = .ok (.ireturn, 1) := by decide +kernel
theorem dL_book_14 : decode cL_book 14 = .ok (.astore 7, 2) := by decide +kernel
theorem dL_book_16 : decode cL_book 16 = .ok (.bipush (-9), 2) := by decide +kernel
theorem dL_book_18 : decode cL_book 18 = .ok (.ireturn, 1) := by decide +kernel
theorem dL_sailing_0 : decode cL_sailing 0 = .ok (.aload_n 0, 1) := by decide +kernel
theorem dL_sailing_1 : decode cL_sailing 1 = .ok (.iload_n 1, 1) := by decide +kernel
theorem dL_sailing_2 : decode cL_sailing 2 = .ok (.invokevirtual 34, 3) := by decide +kernel
theorem dL_sailing_5 : decode cL_sailing 5 = .ok (.istore_n 2, 1) := by decide +kernel
theorem dL_sailing_6 : decode cL_sailing 6 = .ok (.aload_n 0, 1) := by decide +kernel
theorem dL_sailing_7 : decode cL_sailing 7 = .ok (.iload_n 1, 1) := by decide +kernel
theorem dL_sailing_8 : decode cL_sailing 8 = .ok (.invokevirtual 37, 3) := by decide +kernel
theorem dL_sailing_11 : decode cL_sailing 11 = .ok (.istore_n 3, 1) := by decide +kernel
theorem dL_sailing_12 : decode cL_sailing 12 = .ok (.iload_n 2, 1) := by decide +kernel
theorem dL_sailing_13 : decode cL_sailing 13 = .ok (.ifCond .eq 28, 3) := by decide +kernel
theorem dL_sailing_16 : decode cL_sailing 16 = .ok (.iload_n 2, 1) := by decide +kernel
theorem dL_sailing_17 : decode cL_sailing 17 = .ok (.iconst 2, 1) := by decide +kernel
theorem dL_sailing_18 : decode cL_sailing 18 = .ok (.if_icmp .eq 23, 3) := by decide +kernel
theorem dL_sailing_21 : decode cL_sailing 21 = .ok (.iload_n 2, 1) := by decide +kernel
theorem dL_sailing_22 : decode cL_sailing 22 = .ok (.bipush 10, 2) := by decide +kernel
theorem dL_sailing_24 : decode cL_sailing 24 = .ok (.irem, 1) := by decide +kernel
theorem dL_sailing_25 : decode cL_sailing 25 = .ok (.iconst 1, 1) := by decide +kernel
theorem dL_sailing_26 : decode cL_sailing 26 = .ok (.if_icmp .ne 19, 3) := by decide +kernel
theorem dL_sailing_29 : decode cL_sailing 29 = .ok (.iload_n 2, 1) := by decide +kernel
theorem dL_sailing_30 : decode cL_sailing 30 = .ok (.bipush 11, 2) := by decide +kernel
theorem dL_sailing_32 : decode cL_sailing 32 = .ok (.if_icmp .lt 13, 3) := by decide +kernel
theorem dL_sailing_35 : decode cL_sailing 35 = .ok (.iload_n 2, 1) := by decide +kernel
theorem dL_sailing_36 : decode cL_sailing 36 = .ok (.bipush 71, 2) := by decide +kernel
theorem dL_sailing_38 : decode cL_sailing 38 = .ok (.if_icmp .gt 7, 3) := by decide +kernel
theorem dL_sailing_41 : decode cL_sailing 41 = .ok (.iconst 1, 1) := by decide +kernel
theorem dL_sailing_42 : decode cL_sailing 42 = .ok (.goto 4, 3) := by decide +kernel
theorem dL_sailing_45 : decode cL_sailing 45 = .ok (.iconst 0, 1) := by decide +kernel
theorem dL_sailing_46 : decode cL_sailing 46 = .ok (.istore 4, 2) := by decide +kernel
theorem dL_sailing_48 : decode cL_sailing 48 = .ok (.iload_n 2, 1) := by decide +kernel
theorem dL_sailing_49 : decode cL_sailing 49 = .ok (.iconst 2, 1) := by decide +kernel
theorem dL_sailing_50 : decode cL_sailing 50 = .ok (.if_icmp .eq 27, 3) := by decide +kernel
theorem dL_sailing_53 : decode cL_sailing 53 = .ok (.iload 4, 2) := by decide +kernel
theorem dL_sailing_55 : decode cL_sailing 55 = .ok (.ifCond .eq 20, 3) := by decide +kernel
theorem dL_sailing_58 : decode cL_sailing 58 = .ok (.aload_n 0, 1) := by decide +kernel
theorem dL_sailing_59 : decode cL_sailing 59 = .ok (.iload_n 1, 1) := by decide +kernel
theorem dL_sailing_60 : decode cL_sailing 60 = .ok (.invokevirtual 40, 3) := by decide +kernel
theorem dL_sailing_63 : decode cL_sailing 63 = .ok (.ifCond .ne 12, 3) := by decide +kernel
theorem dL_sailing_66 : decode cL_sailing 66 = .ok (.iload_n 3, 1) := by decide +kernel
theorem dL_sailing_67 : decode cL_sailing 67 = .ok (.iconst (-1), 1) := by decide +kernel
theorem dL_sailing_68 : decode cL_sailing 68 = .ok (.if_icmp .ne 7, 3) := by decide +kernel
theorem dL_sailing_71 : decode cL_sailing 71 = .ok (.iconst 1, 1) := by decide +kernel
theorem dL_sailing_72 : decode cL_sailing 72 = .ok (.goto 4, 3) := by decide +kernel
theorem dL_sailing_75 : decode cL_sailing 75 = .ok (.iconst 0, 1) := by decide +kernel
theorem dL_sailing_76 : decode cL_sailing 76 = .ok (.ireturn, 1) := by decide +kernel
theorem dL_sailing_77 : decode cL_sailing 77 = .ok (.aload_n 0, 1) := by decide +kernel
theorem dL_sailing_78 : decode cL_sailing 78 = .ok (.iload_n 1, 1) := by decide +kernel
theorem dL_sailing_79 : decode cL_sailing 79 = .ok (.invokevirtual 43, 3) := by decide +kernel
theorem dL_sailing_82 : decode cL_sailing 82 = .ok (.istore 5, 2) := by decide +kernel
theorem dL_sailing_84 : decode cL_sailing 84 = .ok (.iload 4, 2) := by decide +kernel
theorem dL_sailing_86 : decode cL_sailing 86 = .ok (.ifCond .eq 32, 3) := by decide +kernel
theorem dL_sailing_89 : decode cL_sailing 89 = .ok (.iload 5, 2) := by decide +kernel
theorem dL_sailing_91 : decode cL_sailing 91 = .ok (.bipush (-20), 2) := by decide +kernel
theorem dL_sailing_93 : decode cL_sailing 93 = .ok (.if_icmp .lt 25, 3) := by decide +kernel
theorem dL_sailing_96 : decode cL_sailing 96 = .ok (.iload 5, 2) := by decide +kernel
theorem dL_sailing_98 : decode cL_sailing 98 = .ok (.bipush 20, 2) := by decide +kernel
theorem dL_sailing_100 : decode cL_sailing 100 = .ok (.if_icmp .gt 18, 3) := by decide +kernel
theorem dL_sailing_103 : decode cL_sailing 103 = .ok (.iload_n 3, 1) := by decide +kernel
theorem dL_sailing_104 : decode cL_sailing 104 = .ok (.iconst (-1), 1) := by decide +kernel
theorem dL_sailing_105 : decode cL_sailing 105 = .ok (.if_icmp .lt 13, 3) := by decide +kernel
theorem dL_sailing_108 : decode cL_sailing 108 = .ok (.iload_n 3, 1) := by decide +kernel
theorem dL_sailing_109 : decode cL_sailing 109 = .ok (.bipush 12, 2) := by decide +kernel
theorem dL_sailing_111 : decode cL_sailing 111 = .ok (.if_icmp .ge 7, 3) := by decide +kernel
theorem dL_sailing_114 : decode cL_sailing 114 = .ok (.iconst 1, 1) := by decide +kernel
theorem dL_sailing_115 : decode cL_sailing 115 = .ok (.goto 4, 3) := by decide +kernel
theorem dL_sailing_118 : decode cL_sailing 118 = .ok (.iconst 0, 1) := by decide +kernel
theorem dL_sailing_119 : decode cL_sailing 119 = .ok (.ireturn, 1) := by decide +kernel
theorem dL_booking_0 : decode cL_booking 0 = .ok (.aload_n 0, 1) := by decide +kernel
theorem dL_booking_1 : decode cL_booking 1 = .ok (.iload_n 1, 1) := by decide +kernel
theorem dL_booking_2 : decode cL_booking 2 = .ok (.invokevirtual 46, 3) := by decide +kernel
theorem dL_booking_5 : decode cL_booking 5 = .ok (.istore_n 2, 1) := by decide +kernel
theorem dL_booking_6 : decode cL_booking 6 = .ok (.aload_n 0, 1) := by decide +kernel
theorem dL_booking_7 : decode cL_booking 7 = .ok (.iload_n 1, 1) := by decide +kernel
theorem dL_booking_8 : decode cL_booking 8 = .ok (.invokevirtual 49, 3) := by decide +kernel
theorem dL_booking_11 : decode cL_booking 11 = .ok (.istore_n 3, 1) := by decide +kernel
theorem dL_booking_12 : decode cL_booking 12 = .ok (.aload_n 0, 1) := by decide +kernel
theorem dL_booking_13 : decode cL_booking 13 = .ok (.iload_n 1, 1) := by decide +kernel
theorem dL_booking_14 : decode cL_booking 14 = .ok (.invokevirtual 52, 3) := by decide +kernel
theorem dL_booking_17 : decode cL_booking 17 = .ok (.istore 4, 2) := by decide +kernel
theorem dL_booking_19 : decode cL_booking 19 = .ok (.iload_n 2, 1) := by decide +kernel
theorem dL_booking_20 : decode cL_booking 20 = .ok (.iconst (-1), 1) := by decide +kernel
theorem dL_booking_21 : decode cL_booking 21 = .ok (.if_icmp .ne 7, 3) := by decide +kernel
theorem dL_booking_24 : decode cL_booking 24 = .ok (.iconst 1, 1) := by decide +kernel
theorem dL_booking_25 : decode cL_booking 25 = .ok (.goto 4, 3) := by decide +kernel
theorem dL_booking_28 : decode cL_booking 28 = .ok (.iconst 0, 1) := by decide +kernel
theorem dL_booking_29 : decode cL_booking 29 = .ok (.iload 4, 2) := by decide +kernel
theorem dL_booking_31 : decode cL_booking 31 = .ok (.ifCond .ne 7, 3) := by decide +kernel
theorem dL_booking_34 : decode cL_booking 34 = .ok (.iconst 1, 1) := by decide +kernel
theorem dL_booking_35 : decode cL_booking 35 = .ok (.goto 4, 3) := by decide +kernel
theorem dL_booking_38 : decode cL_booking 38 = .ok (.iconst 0, 1) := by decide +kernel
theorem dL_booking_39 : decode cL_booking 39 = .ok (.if_icmp .ne 17, 3) := by decide +kernel
theorem dL_booking_42 : decode cL_booking 42 = .ok (.iload_n 3, 1) := by decide +kernel
theorem dL_booking_43 : decode cL_booking 43 = .ok (.iconst (-1), 1) := by decide +kernel
theorem dL_booking_44 : decode cL_booking 44 = .ok (.if_icmp .lt 12, 3) := by decide +kernel
theorem dL_booking_47 : decode cL_booking 47 = .ok (.iload_n 3, 1) := by decide +kernel
theorem dL_booking_48 : decode cL_booking 48 = .ok (.iconst 4, 1) := by decide +kernel
theorem dL_booking_49 : decode cL_booking 49 = .ok (.if_icmp .ge 7, 3) := by decide +kernel
theorem dL_booking_52 : decode cL_booking 52 = .ok (.iconst 1, 1) := by decide +kernel
theorem dL_booking_53 : decode cL_booking 53 = .ok (.goto 4, 3) := by decide +kernel
theorem dL_booking_56 : decode cL_booking 56 = .ok (.iconst 0, 1) := by decide +kernel
theorem dL_booking_57 : decode cL_booking 57 = .ok (.istore 5, 2) := by decide +kernel
theorem dL_booking_59 : decode cL_booking 59 = .ok (.iload 5, 2) := by decide +kernel
theorem dL_booking_61 : decode cL_booking 61 = .ok (.ifCond .eq 43, 3) := by decide +kernel
theorem dL_booking_64 : decode cL_booking 64 = .ok (.iload_n 3, 1) := by decide +kernel
theorem dL_booking_65 : decode cL_booking 65 = .ok (.iconst (-1), 1) := by decide +kernel
theorem dL_booking_66 : decode cL_booking 66 = .ok (.if_icmp .eq 12, 3) := by decide +kernel
theorem dL_booking_69 : decode cL_booking 69 = .ok (.aload_n 0, 1) := by decide +kernel
theorem dL_booking_70 : decode cL_booking 70 = .ok (.iload_n 2, 1) := by decide +kernel
theorem dL_booking_71 : decode cL_booking 71 = .ok (.invokevirtual 34, 3) := by decide +kernel
theorem dL_booking_74 : decode cL_booking 74 = .ok (.iconst 2, 1) := by decide +kernel
theorem dL_booking_75 : decode cL_booking 75 = .ok (.if_icmp .ne 29, 3) := by decide +kernel
theorem dL_booking_78 : decode cL_booking 78 = .ok (.iload_n 2, 1) := by decide +kernel
theorem dL_booking_79 : decode cL_booking 79 = .ok (.iconst (-1), 1) := by decide +kernel
theorem dL_booking_80 : decode cL_booking 80 = .ok (.if_icmp .eq 20, 3) := by decide +kernel
theorem dL_booking_83 : decode cL_booking 83 = .ok (.aload_n 0, 1) := by decide +kernel
theorem dL_booking_84 : decode cL_booking 84 = .ok (.iload_n 2, 1) := by decide +kernel
theorem dL_booking_85 : decode cL_booking 85 = .ok (.invokevirtual 34, 3) := by decide +kernel
theorem dL_booking_88 : decode cL_booking 88 = .ok (.ifCond .eq 12, 3) := by decide +kernel
theorem dL_booking_91 : decode cL_booking 91 = .ok (.aload_n 0, 1) := by decide +kernel
theorem dL_booking_92 : decode cL_booking 92 = .ok (.iload_n 2, 1) := by decide +kernel
theorem dL_booking_93 : decode cL_booking 93 = .ok (.invokevirtual 34, 3) := by decide +kernel
theorem dL_booking_96 : decode cL_booking 96 = .ok (.iconst 2, 1) := by decide +kernel
theorem dL_booking_97 : decode cL_booking 97 = .ok (.if_icmp .ne 7, 3) := by decide +kernel
theorem dL_booking_100 : decode cL_booking 100 = .ok (.iconst 1, 1) := by decide +kernel
theorem dL_booking_101 : decode cL_booking 101 = .ok (.goto 4, 3) := by decide +kernel
theorem dL_booking_104 : decode cL_booking 104 = .ok (.iconst 0, 1) := by decide +kernel
theorem dL_booking_105 : decode cL_booking 105 = .ok (.ireturn, 1) := by decide +kernel
theorem dL_all_0 : decode cL_all 0 = .ok (.aload_n 0, 1) := by decide +kernel
theorem dL_all_1 : decode cL_all 1 = .ok (.iconst 0, 1) := by decide +kernel
theorem dL_all_2 : decode cL_all 2 = .ok (.invokevirtual 55, 3) := by decide +kernel
theorem dL_all_5 : decode cL_all 5 = .ok (.aload_n 0, 1) := by decide +kernel
theorem dL_all_6 : decode cL_all 6 = .ok (.iconst 0, 1) := by decide +kernel
theorem dL_all_7 : decode cL_all 7 = .ok (.invokevirtual 59, 3) := by decide +kernel
theorem dL_all_10 : decode cL_all 10 = .ok (.lcmp, 1) := by decide +kernel
theorem dL_all_11 : decode cL_all 11 = .ok (.ifCond .ne 31, 3) := by decide +kernel
theorem dL_all_14 : decode cL_all 14 = .ok (.aload_n 0, 1) := by decide +kernel
theorem dL_all_15 : decode cL_all 15 = .ok (.iconst 1, 1) := by decide +kernel
theorem dL_all_16 : decode cL_all 16 = .ok (.invokevirtual 55, 3) := by decide +kernel
theorem dL_all_19 : decode cL_all 19 = .ok (.aload_n 0, 1) := by decide +kernel
theorem dL_all_20 : decode cL_all 20 = .ok (.iconst 1, 1) := by decide +kernel
theorem dL_all_21 : decode cL_all 21 = .ok (.invokevirtual 59, 3) := by decide +kernel
theorem dL_all_24 : decode cL_all 24 = .ok (.lcmp, 1) := by decide +kernel
theorem dL_all_25 : decode cL_all 25 = .ok (.ifCond .ne 17, 3) := by decide +kernel
theorem dL_all_28 : decode cL_all 28 = .ok (.aload_n 0, 1) := by decide +kernel
theorem dL_all_29 : decode cL_all 29 = .ok (.iconst 2, 1) := by decide +kernel
theorem dL_all_30 : decode cL_all 30 = .ok (.invokevirtual 59, 3) := by decide +kernel
theorem dL_all_33 : decode cL_all 33 = .ok (.lconst 0, 1) := by decide +kernel
theorem dL_all_34 : decode cL_all 34 = .ok (.lcmp, 1) := by decide +kernel
theorem dL_all_35 : decode cL_all 35 = .ok (.ifCond .gt 7, 3) := by decide +kernel
theorem dL_all_38 : decode cL_all 38 = .ok (.iconst 1, 1) := by decide +kernel
theorem dL_all_39 : decode cL_all 39 = .ok (.goto 4, 3) := by decide +kernel
theorem dL_all_42 : decode cL_all 42 = .ok (.iconst 0, 1) := by decide +kernel
theorem dL_all_43 : decode cL_all 43 = .ok (.istore_n 3, 1) := by decide +kernel
theorem dL_all_44 : decode cL_all 44 = .ok (.iconst 0, 1) := by decide +kernel
theorem dL_all_45 : decode cL_all 45 = .ok (.istore 4, 2) := by decide +kernel
theorem dL_all_47 : decode cL_all 47 = .ok (.iload 4, 2) := by decide +kernel
theorem dL_all_49 : decode cL_all 49 = .ok (.iconst 2, 1) := by decide +kernel
theorem dL_all_50 : decode cL_all 50 = .ok (.if_icmp .ge 59, 3) := by decide +kernel
theorem dL_all_53 : decode cL_all 53 = .ok (.iload_n 3, 1) := by decide +kernel
theorem dL_all_54 : decode cL_all 54 = .ok (.ifCond .eq 55, 3) := by decide +kernel
theorem dL_all_57 : decode cL_all 57 = .ok (.aload_n 0, 1) := by decide +kernel
theorem dL_all_58 : decode cL_all 58 = .ok (.iload 4, 2) := by decide +kernel
theorem dL_all_60 : decode cL_all 60 = .ok (.invokevirtual 62, 3) := by decide +kernel
theorem dL_all_63 : decode cL_all 63 = .ok (.aload_n 0, 1) := by decide +kernel
theorem dL_all_64 : decode cL_all 64 = .ok (.iload 4, 2) := by decide +kernel
theorem dL_all_66 : decode cL_all 66 = .ok (.aload_n 0, 1) := by decide +kernel
theorem dL_all_67 : decode cL_all 67 = .ok (.invokevirtual 65, 3) := by decide +kernel
theorem dL_all_70 : decode cL_all 70 = .ok (.invokevirtual 69, 3) := by decide +kernel
theorem dL_all_73 : decode cL_all 73 = .ok (.if_icmp .ne 28, 3) := by decide +kernel
theorem dL_all_76 : decode cL_all 76 = .ok (.aload_n 0, 1) := by decide +kernel
theorem dL_all_77 : decode cL_all 77 = .ok (.iload 4, 2) := by decide +kernel
theorem dL_all_79 : decode cL_all 79 = .ok (.invokevirtual 72, 3) := by decide +kernel
theorem dL_all_82 : decode cL_all 82 = .ok (.ifCond .lt 19, 3) := by decide +kernel
theorem dL_all_85 : decode cL_all 85 = .ok (.aload_n 0, 1) := by decide +kernel
theorem dL_all_86 : decode cL_all 86 = .ok (.iload 4, 2) := by decide +kernel
theorem dL_all_88 : decode cL_all 88 = .ok (.invokevirtual 72, 3) := by decide +kernel
theorem dL_all_91 : decode cL_all 91 = .ok (.sipush 1000, 3) := by decide +kernel
theorem dL_all_94 : decode cL_all 94 = .ok (.if_icmp .gt 7, 3) := by decide +kernel
theorem dL_all_97 : decode cL_all 97 = .ok (.iconst 1, 1) := by decide +kernel
theorem dL_all_98 : decode cL_all 98 = .ok (.goto 4, 3) := by decide +kernel
theorem dL_all_101 : decode cL_all 101 = .ok (.iconst 0, 1) := by decide +kernel
theorem dL_all_102 : decode cL_all 102 = .ok (.istore_n 3, 1) := by decide +kernel
theorem dL_all_103 : decode cL_all 103 = .ok (.iinc 4 1, 3) := by decide +kernel
theorem dL_all_106 : decode cL_all 106 = .ok (.goto (-59), 3) := by decide +kernel
theorem dL_all_109 : decode cL_all 109 = .ok (.iconst 0, 1) := by decide +kernel
theorem dL_all_110 : decode cL_all 110 = .ok (.istore 4, 2) := by decide +kernel
theorem dL_all_112 : decode cL_all 112 = .ok (.iload 4, 2) := by decide +kernel
theorem dL_all_114 : decode cL_all 114 = .ok (.iload_n 1, 1) := by decide +kernel
theorem dL_all_115 : decode cL_all 115 = .ok (.if_icmp .ge 20, 3) := by decide +kernel
theorem dL_all_118 : decode cL_all 118 = .ok (.iload_n 3, 1) := by decide +kernel
theorem dL_all_119 : decode cL_all 119 = .ok (.ifCond .eq 16, 3) := by decide +kernel
theorem dL_all_122 : decode cL_all 122 = .ok (.aload_n 0, 1) := by decide +kernel
theorem dL_all_123 : decode cL_all 123 = .ok (.iload 4, 2) := by decide +kernel
theorem dL_all_125 : decode cL_all 125 = .ok (.invokestatic 75, 3) := by decide +kernel
theorem dL_all_128 : decode cL_all 128 = .ok (.istore_n 3, 1) := by decide +kernel
theorem dL_all_129 : decode cL_all 129 = .ok (.iinc 4 1, 3) := by decide +kernel
theorem dL_all_132 : decode cL_all 132 = .ok (.goto (-20), 3) := by decide +kernel
theorem dL_all_135 : decode cL_all 135 = .ok (.iconst 0, 1) := by decide +kernel
theorem dL_all_136 : decode cL_all 136 = .ok (.istore 4, 2) := by decide +kernel
theorem dL_all_138 : decode cL_all 138 = .ok (.iload 4, 2) := by decide +kernel
theorem dL_all_140 : decode cL_all 140 = .ok (.iload_n 2, 1) := by decide +kernel
theorem dL_all_141 : decode cL_all 141 = .ok (.if_icmp .ge 20, 3) := by decide +kernel
theorem dL_all_144 : decode cL_all 144 = .ok (.iload_n 3, 1) := by decide +kernel
theorem dL_all_145 : decode cL_all 145 = .ok (.ifCond .eq 16, 3) := by decide +kernel
theorem dL_all_148 : decode cL_all 148 = .ok (.aload_n 0, 1) := by decide +kernel
theorem dL_all_149 : decode cL_all 149 = .ok (.iload 4, 2) := by decide +kernel
theorem dL_all_151 : decode cL_all 151 = .ok (.invokestatic 81, 3) := by decide +kernel
theorem dL_all_154 : decode cL_all 154 = .ok (.istore_n 3, 1) := by decide +kernel
theorem dL_all_155 : decode cL_all 155 = .ok (.iinc 4 1, 3) := by decide +kernel
theorem dL_all_158 : decode cL_all 158 = .ok (.goto (-20), 3) := by decide +kernel
theorem dL_all_161 : decode cL_all 161 = .ok (.iload_n 3, 1) := by decide +kernel
theorem dL_all_162 : decode cL_all 162 = .ok (.ireturn, 1) := by decide +kernel
theorem dL_law_0 : decode cL_law 0 = .ok (.new 10, 3) := by decide +kernel
theorem dL_law_3 : decode cL_law 3 = .ok (.dup, 1) := by decide +kernel
theorem dL_law_4 : decode cL_law 4 = .ok (.invokespecial 84, 3) := by decide +kernel
theorem dL_law_7 : decode cL_law 7 = .ok (.astore_n 1, 1) := by decide +kernel
theorem dL_law_8 : decode cL_law 8 = .ok (.iconst 0, 1) := by decide +kernel
theorem dL_law_9 : decode cL_law 9 = .ok (.istore_n 2, 1) := by decide +kernel
theorem dL_law_10 : decode cL_law 10 = .ok (.iconst 0, 1) := by decide +kernel
theorem dL_law_11 : decode cL_law 11 = .ok (.istore_n 3, 1) := by decide +kernel
theorem dL_law_12 : decode cL_law 12 = .ok (.iconst 1, 1) := by decide +kernel
theorem dL_law_13 : decode cL_law 13 = .ok (.istore 4, 2) := by decide +kernel
theorem dL_law_15 : decode cL_law 15 = .ok (.iconst 0, 1) := by decide +kernel
theorem dL_law_16 : decode cL_law 16 = .ok (.istore 5, 2) := by decide +kernel
theorem dL_law_18 : decode cL_law 18 = .ok (.iload 5, 2) := by decide +kernel
theorem dL_law_20 : decode cL_law 20 = .ok (.iconst 2, 1) := by decide +kernel
theorem dL_law_21 : decode cL_law 21 = .ok (.if_icmp .ge 146, 3) := by decide +kernel
theorem dL_law_24 : decode cL_law 24 = .ok (.aload_n 0, 1) := by decide +kernel
theorem dL_law_25 : decode cL_law 25 = .ok (.iconst 1, 1) := by decide +kernel
theorem dL_law_26 : decode cL_law 26 = .ok (.iload 5, 2) := by decide +kernel
theorem dL_law_28 : decode cL_law 28 = .ok (.iadd, 1) := by decide +kernel
theorem dL_law_29 : decode cL_law 29 = .ok (.invokestatic 85, 3) := by decide +kernel
theorem dL_law_32 : decode cL_law 32 = .ok (.istore 6, 2) := by decide +kernel
theorem dL_law_34 : decode cL_law 34 = .ok (.iload 4, 2) := by decide +kernel
theorem dL_law_36 : decode cL_law 36 = .ok (.ifCond .eq 73, 3) := by decide +kernel
theorem dL_law_39 : decode cL_law 39 = .ok (.aload_n 1, 1) := by decide +kernel
theorem dL_law_40 : decode cL_law 40 = .ok (.iload 5, 2) := by decide +kernel
theorem dL_law_42 : decode cL_law 42 = .ok (.iconst 1, 1) := by decide +kernel
theorem dL_law_43 : decode cL_law 43 = .ok (.iload 6, 2) := by decide +kernel
theorem dL_law_45 : decode cL_law 45 = .ok (.iconst 4, 1) := by decide +kernel
theorem dL_law_46 : decode cL_law 46 = .ok (.invokestatic 89, 3) := by decide +kernel
theorem dL_law_49 : decode cL_law 49 = .ok (.iadd, 1) := by decide +kernel
theorem dL_law_50 : decode cL_law 50 = .ok (.bipush 10, 2) := by decide +kernel
theorem dL_law_52 : decode cL_law 52 = .ok (.iload 6, 2) := by decide +kernel
theorem dL_law_54 : decode cL_law 54 = .ok (.iconst 3, 1) := by decide +kernel
theorem dL_law_55 : decode cL_law 55 = .ok (.ishr, 1) := by decide +kernel
theorem dL_law_56 : decode cL_law 56 = .ok (.bipush 40, 2) := by decide +kernel
theorem dL_law_58 : decode cL_law 58 = .ok (.invokestatic 89, 3) := by decide +kernel
theorem dL_law_61 : decode cL_law 61 = .ok (.iadd, 1) := by decide +kernel
theorem dL_law_62 : decode cL_law 62 = .ok (.iconst 1, 1) := by decide +kernel
theorem dL_law_63 : decode cL_law 63 = .ok (.iload 6, 2) := by decide +kernel
theorem dL_law_65 : decode cL_law 65 = .ok (.iconst 5, 1) := by decide +kernel
theorem dL_law_66 : decode cL_law 66 = .ok (.ishr, 1) := by decide +kernel
theorem dL_law_67 : decode cL_law 67 = .ok (.sipush 400, 3) := by decide +kernel
theorem dL_law_70 : decode cL_law 70 = .ok (.invokestatic 89, 3) := by decide +kernel
theorem dL_law_73 : decode cL_law 73 = .ok (.iadd, 1) := by decide +kernel
theorem dL_law_74 : decode cL_law 74 = .ok (.iconst 1, 1) := by decide +kernel
theorem dL_law_75 : decode cL_law 75 = .ok (.iload 6, 2) := by decide +kernel
theorem dL_law_77 : decode cL_law 77 = .ok (.bipush 7, 2) := by decide +kernel
theorem dL_law_79 : decode cL_law 79 = .ok (.ishr, 1) := by decide +kernel
theorem dL_law_80 : decode cL_law 80 = .ok (.iconst 5, 1) := by decide +kernel
theorem dL_law_81 : decode cL_law 81 = .ok (.invokestatic 89, 3) := by decide +kernel
theorem dL_law_84 : decode cL_law 84 = .ok (.iadd, 1) := by decide +kernel
theorem dL_law_85 : decode cL_law 85 = .ok (.iconst 5, 1) := by decide +kernel
theorem dL_law_86 : decode cL_law 86 = .ok (.iload 6, 2) := by decide +kernel
theorem dL_law_88 : decode cL_law 88 = .ok (.bipush 9, 2) := by decide +kernel
theorem dL_law_90 : decode cL_law 90 = .ok (.ishr, 1) := by decide +kernel
theorem dL_law_91 : decode cL_law 91 = .ok (.bipush 20, 2) := by decide +kernel
theorem dL_law_93 : decode cL_law 93 = .ok (.invokestatic 89, 3) := by decide +kernel
theorem dL_law_96 : decode cL_law 96 = .ok (.iadd, 1) := by decide +kernel
theorem dL_law_97 : decode cL_law 97 = .ok (.invokevirtual 92, 3) := by decide +kernel
theorem dL_law_100 : decode cL_law 100 = .ok (.iload 5, 2) := by decide +kernel
theorem dL_law_102 : decode cL_law 102 = .ok (.if_icmp .ne 7, 3) := by decide +kernel
theorem dL_law_105 : decode cL_law 105 = .ok (.iconst 1, 1) := by decide +kernel
theorem dL_law_106 : decode cL_law 106 = .ok (.goto 4, 3) := by decide +kernel
theorem dL_law_109 : decode cL_law 109 = .ok (.iconst 0, 1) := by decide +kernel
theorem dL_law_110 : decode cL_law 110 = .ok (.istore 4, 2) := by decide +kernel
theorem dL_law_112 : decode cL_law 112 = .ok (.iload 4, 2) := by decide +kernel
theorem dL_law_114 : decode cL_law 114 = .ok (.ifCond .eq 44, 3) := by decide +kernel
theorem dL_law_117 : decode cL_law 117 = .ok (.aload_n 1, 1) := by decide +kernel
theorem dL_law_118 : decode cL_law 118 = .ok (.iload 5, 2) := by decide +kernel
theorem dL_law_120 : decode cL_law 120 = .ok (.iconst 1, 1) := by decide +kernel
theorem dL_law_121 : decode cL_law 121 = .ok (.iload 6, 2) := by decide +kernel
theorem dL_law_123 : decode cL_law 123 = .ok (.iconst 4, 1) := by decide +kernel
theorem dL_law_124 : decode cL_law 124 = .ok (.ishr, 1) := by decide +kernel
theorem dL_law_125 : decode cL_law 125 = .ok (.sipush 1000, 3) := by decide +kernel
theorem dL_law_128 : decode cL_law 128 = .ok (.invokestatic 89, 3) := by decide +kernel
theorem dL_law_131 : decode cL_law 131 = .ok (.iadd, 1) := by decide +kernel
theorem dL_law_132 : decode cL_law 132 = .ok (.invokevirtual 27, 3) := by decide +kernel
theorem dL_law_135 : decode cL_law 135 = .ok (.iconst 1, 1) := by decide +kernel
theorem dL_law_136 : decode cL_law 136 = .ok (.if_icmp .lt 22, 3) := by decide +kernel
theorem dL_law_139 : decode cL_law 139 = .ok (.aload_n 1, 1) := by decide +kernel
theorem dL_law_140 : decode cL_law 140 = .ok (.iload 5, 2) := by decide +kernel
theorem dL_law_142 : decode cL_law 142 = .ok (.iconst 0, 1) := by decide +kernel
theorem dL_law_143 : decode cL_law 143 = .ok (.sipush 200, 3) := by decide +kernel
theorem dL_law_146 : decode cL_law 146 = .ok (.invokevirtual 96, 3) := by decide +kernel
theorem dL_law_149 : decode cL_law 149 = .ok (.iload 5, 2) := by decide +kernel
theorem dL_law_151 : decode cL_law 151 = .ok (.if_icmp .ne 7, 3) := by decide +kernel
theorem dL_law_154 : decode cL_law 154 = .ok (.iconst 1, 1) := by decide +kernel
theorem dL_law_155 : decode cL_law 155 = .ok (.goto 4, 3) := by decide +kernel
theorem dL_law_158 : decode cL_law 158 = .ok (.iconst 0, 1) := by decide +kernel
theorem dL_law_159 : decode cL_law 159 = .ok (.istore 4, 2) := by decide +kernel
theorem dL_law_161 : decode cL_law 161 = .ok (.iinc 5 1, 3) := by decide +kernel
theorem dL_law_164 : decode cL_law 164 = .ok (.goto (-146), 3) := by decide +kernel
theorem dL_law_167 : decode cL_law 167 = .ok (.iconst 0, 1) := by decide +kernel
theorem dL_law_168 : decode cL_law 168 = .ok (.istore 5, 2) := by decide +kernel
theorem dL_law_170 : decode cL_law 170 = .ok (.iload 5, 2) := by decide +kernel
theorem dL_law_172 : decode cL_law 172 = .ok (.iconst 4, 1) := by decide +kernel
theorem dL_law_173 : decode cL_law 173 = .ok (.if_icmp .ge 46, 3) := by decide +kernel
theorem dL_law_176 : decode cL_law 176 = .ok (.iload 4, 2) := by decide +kernel
theorem dL_law_178 : decode cL_law 178 = .ok (.ifCond .eq 32, 3) := by decide +kernel
theorem dL_law_181 : decode cL_law 181 = .ok (.aload_n 1, 1) := by decide +kernel
theorem dL_law_182 : decode cL_law 182 = .ok (.iload 5, 2) := by decide +kernel
theorem dL_law_184 : decode cL_law 184 = .ok (.aload_n 0, 1) := by decide +kernel
theorem dL_law_185 : decode cL_law 185 = .ok (.iconst 3, 1) := by decide +kernel
theorem dL_law_186 : decode cL_law 186 = .ok (.iload 5, 2) := by decide +kernel
theorem dL_law_188 : decode cL_law 188 = .ok (.iadd, 1) := by decide +kernel
theorem dL_law_189 : decode cL_law 189 = .ok (.invokestatic 85, 3) := by decide +kernel
theorem dL_law_192 : decode cL_law 192 = .ok (.bipush 7, 2) := by decide +kernel
theorem dL_law_194 : decode cL_law 194 = .ok (.invokestatic 89, 3) := by decide +kernel
theorem dL_law_197 : decode cL_law 197 = .ok (.iconst 1, 1) := by decide +kernel
theorem dL_law_198 : decode cL_law 198 = .ok (.isub, 1) := by decide +kernel
theorem dL_law_199 : decode cL_law 199 = .ok (.invokevirtual 100, 3) := by decide +kernel
theorem dL_law_202 : decode cL_law 202 = .ok (.iconst (-1), 1) := by decide +kernel
theorem dL_law_203 : decode cL_law 203 = .ok (.if_icmp .ne 7, 3) := by decide +kernel
theorem dL_law_206 : decode cL_law 206 = .ok (.iconst 1, 1) := by decide +kernel
theorem dL_law_207 : decode cL_law 207 = .ok (.goto 4, 3) := by decide +kernel
theorem dL_law_210 : decode cL_law 210 = .ok (.iconst 0, 1) := by decide +kernel
theorem dL_law_211 : decode cL_law 211 = .ok (.istore 4, 2) := by decide +kernel
theorem dL_law_213 : decode cL_law 213 = .ok (.iinc 5 1, 3) := by decide +kernel
theorem dL_law_216 : decode cL_law 216 = .ok (.goto (-46), 3) := by decide +kernel
theorem dL_law_219 : decode cL_law 219 = .ok (.aload_n 1, 1) := by decide +kernel
theorem dL_law_220 : decode cL_law 220 = .ok (.iconst 0, 1) := by decide +kernel
theorem dL_law_221 : decode cL_law 221 = .ok (.iconst 5, 1) := by decide +kernel
theorem dL_law_222 : decode cL_law 222 = .ok (.iconst 2, 1) := by decide +kernel
theorem dL_law_223 : decode cL_law 223 = .ok (.invokevirtual 103, 3) := by decide +kernel
theorem dL_law_226 : decode cL_law 226 = .ok (.bipush 8, 2) := by decide +kernel
theorem dL_law_228 : decode cL_law 228 = .ok (.aload_n 0, 1) := by decide +kernel
theorem dL_law_229 : decode cL_law 229 = .ok (.iconst 0, 1) := by decide +kernel
theorem dL_law_230 : decode cL_law 230 = .ok (.invokestatic 85, 3) := by decide +kernel
theorem dL_law_233 : decode cL_law 233 = .ok (.bipush 50, 2) := by decide +kernel
theorem dL_law_235 : decode cL_law 235 = .ok (.invokestatic 89, 3) := by decide +kernel
theorem dL_law_238 : decode cL_law 238 = .ok (.iadd, 1) := by decide +kernel
theorem dL_law_239 : decode cL_law 239 = .ok (.istore 5, 2) := by decide +kernel
theorem dL_law_241 : decode cL_law 241 = .ok (.iconst 0, 1) := by decide +kernel
theorem dL_law_242 : decode cL_law 242 = .ok (.istore 6, 2) := by decide +kernel
theorem dL_law_244 : decode cL_law 244 = .ok (.iload 6, 2) := by decide +kernel
theorem dL_law_246 : decode cL_law 246 = .ok (.iload 5, 2) := by decide +kernel
theorem dL_law_248 : decode cL_law 248 = .ok (.if_icmp .ge 726, 3) := by decide +kernel
theorem dL_law_251 : decode cL_law 251 = .ok (.iload 4, 2) := by decide +kernel
theorem dL_law_253 : decode cL_law 253 = .ok (.ifCond .eq 721, 3) := by decide +kernel
theorem dL_law_256 : decode cL_law 256 = .ok (.aload_n 0, 1) := by decide +kernel
theorem dL_law_257 : decode cL_law 257 = .ok (.bipush 7, 2) := by decide +kernel
theorem dL_law_259 : decode cL_law 259 = .ok (.iload 6, 2) := by decide +kernel
theorem dL_law_261 : decode cL_law 261 = .ok (.iadd, 1) := by decide +kernel
theorem dL_law_262 : decode cL_law 262 = .ok (.invokestatic 85, 3) := by decide +kernel
theorem dL_law_265 : decode cL_law 265 = .ok (.istore 7, 2) := by decide +kernel
theorem dL_law_267 : decode cL_law 267 = .ok (.iload 7, 2) := by decide +kernel
theorem dL_law_269 : decode cL_law 269 = .ok (.bipush 20, 2) := by decide +kernel
theorem dL_law_271 : decode cL_law 271 = .ok (.ishr, 1) := by decide +kernel
theorem dL_law_272 : decode cL_law 272 = .ok (.bipush 22, 2) := by decide +kernel
theorem dL_law_274 : decode cL_law 274 = .ok (.invokestatic 89, 3) := by decide +kernel
theorem dL_law_277 : decode cL_law 277 = .ok (.istore 8, 2) := by decide +kernel
theorem dL_law_279 : decode cL_law 279 = .ok (.aload_n 1, 1) := by decide +kernel
theorem dL_law_280 : decode cL_law 280 = .ok (.invokevirtual 65, 3) := by decide +kernel
theorem dL_law_283 : decode cL_law 283 = .ok (.istore 9, 2) := by decide +kernel
theorem dL_law_285 : decode cL_law 285 = .ok (.iload_n 2, 1) := by decide +kernel
theorem dL_law_286 : decode cL_law 286 = .ok (.ifCond .ne 7, 3) := by decide +kernel
theorem dL_law_289 : decode cL_law 289 = .ok (.iconst 0, 1) := by decide +kernel
theorem dL_law_290 : decode cL_law 290 = .ok (.goto 11, 3) := by decide +kernel
theorem dL_law_293 : decode cL_law 293 = .ok (.iload 7, 2) := by decide +kernel
theorem dL_law_295 : decode cL_law 295 = .ok (.iconst 5, 1) := by decide +kernel
theorem dL_law_296 : decode cL_law 296 = .ok (.ishr, 1) := by decide +kernel
theorem dL_law_297 : decode cL_law 297 = .ok (.iload_n 2, 1) := by decide +kernel
theorem dL_law_298 : decode cL_law 298 = .ok (.invokestatic 89, 3) := by decide +kernel
theorem dL_law_301 : decode cL_law 301 = .ok (.istore 10, 2) := by decide +kernel
theorem dL_law_303 : decode cL_law 303 = .ok (.iload_n 2, 1) := by decide +kernel
theorem dL_law_304 : decode cL_law 304 = .ok (.ifCond .eq 9, 3) := by decide +kernel
theorem dL_law_307 : decode cL_law 307 = .ok (.iload 8, 2) := by decide +kernel
theorem dL_law_309 : decode cL_law 309 = .ok (.iconst 5, 1) := by decide +kernel
theorem dL_law_310 : decode cL_law 310 = .ok (.if_icmp .ge 111, 3) := by decide +kernel
theorem dL_law_313 : decode cL_law 313 = .ok (.aload_n 1, 1) := by decide +kernel
theorem dL_law_314 : decode cL_law 314 = .ok (.iload 7, 2) := by decide +kernel
theorem dL_law_316 : decode cL_law 316 = .ok (.iconst 2, 1) := by decide +kernel
theorem dL_law_317 : decode cL_law 317 = .ok (.invokestatic 89, 3) := by decide +kernel
theorem dL_law_320 : decode cL_law 320 = .ok (.iload 7, 2) := by decide +kernel
theorem dL_law_322 : decode cL_law 322 = .ok (.iconst 3, 1) := by decide +kernel
theorem dL_law_323 : decode cL_law 323 = .ok (.ishr, 1) := by decide +kernel
theorem dL_law_324 : decode cL_law 324 = .ok (.iconst 3, 1) := by decide +kernel
theorem dL_law_325 : decode cL_law 325 = .ok (.invokestatic 89, 3) := by decide +kernel
theorem dL_law_328 : decode cL_law 328 = .ok (.iload 9, 2) := by decide +kernel
theorem dL_law_330 : decode cL_law 330 = .ok (.iload 7, 2) := by decide +kernel
theorem dL_law_332 : decode cL_law 332 = .ok (.bipush 6, 2) := by decide +kernel
theorem dL_law_334 : decode cL_law 334 = .ok (.ishr, 1) := by decide +kernel
theorem dL_law_335 : decode cL_law 335 = .ok (.bipush 12, 2) := by decide +kernel
theorem dL_law_337 : decode cL_law 337 = .ok (.invokestatic 89, 3) := by decide +kernel
theorem dL_law_340 : decode cL_law 340 = .ok (.iadd, 1) := by decide +kernel
theorem dL_law_341 : decode cL_law 341 = .ok (.iconst 1, 1) := by decide +kernel
theorem dL_law_342 : decode cL_law 342 = .ok (.iload 7, 2) := by decide +kernel
theorem dL_law_344 : decode cL_law 344 = .ok (.bipush 8, 2) := by decide +kernel
theorem dL_law_346 : decode cL_law 346 = .ok (.ishr, 1) := by decide +kernel
theorem dL_law_347 : decode cL_law 347 = .ok (.bipush 90, 2) := by decide +kernel
theorem dL_law_349 : decode cL_law 349 = .ok (.invokestatic 89, 3) := by decide +kernel
theorem dL_law_352 : decode cL_law 352 = .ok (.iadd, 1) := by decide +kernel
theorem dL_law_353 : decode cL_law 353 = .ok (.invokestatic 107, 3) := by decide +kernel
theorem dL_law_356 : decode cL_law 356 = .ok (.istore 11, 2) := by decide +kernel
theorem dL_law_358 : decode cL_law 358 = .ok (.iload 11, 2) := by decide +kernel
theorem dL_law_360 : decode cL_law 360 = .ok (.bipush (-8), 2) := by decide +kernel
theorem dL_law_362 : decode cL_law 362 = .ok (.if_icmp .eq 36, 3) := by decide +kernel
theorem dL_law_365 : decode cL_law 365 = .ok (.iload 11, 2) := by decide +kernel
theorem dL_law_367 : decode cL_law 367 = .ok (.bipush (-9), 2) := by decide +kernel
theorem dL_law_369 : decode cL_law 369 = .ok (.if_icmp .eq 29, 3) := by decide +kernel
theorem dL_law_372 : decode cL_law 372 = .ok (.iload 11, 2) := by decide +kernel
theorem dL_law_374 : decode cL_law 374 = .ok (.iload_n 2, 1) := by decide +kernel
theorem dL_law_375 : decode cL_law 375 = .ok (.if_icmp .ne 27, 3) := by decide +kernel
theorem dL_law_378 : decode cL_law 378 = .ok (.aload_n 1, 1) := by decide +kernel
theorem dL_law_379 : decode cL_law 379 = .ok (.iload 11, 2) := by decide +kernel
theorem dL_law_381 : decode cL_law 381 = .ok (.invokevirtual 34, 3) := by decide +kernel
theorem dL_law_384 : decode cL_law 384 = .ok (.ifCond .ne 18, 3) := by decide +kernel
theorem dL_law_387 : decode cL_law 387 = .ok (.aload_n 1, 1) := by decide +kernel
theorem dL_law_388 : decode cL_law 388 = .ok (.iload 11, 2) := by decide +kernel
theorem dL_law_390 : decode cL_law 390 = .ok (.invokevirtual 110, 3) := by decide +kernel
theorem dL_law_393 : decode cL_law 393 = .ok (.iload 9, 2) := by decide +kernel
theorem dL_law_395 : decode cL_law 395 = .ok (.if_icmp .le 7, 3) := by decide +kernel
theorem dL_law_398 : decode cL_law 398 = .ok (.iconst 1, 1) := by decide +kernel
theorem dL_law_399 : decode cL_law 399 = .ok (.goto 4, 3) := by decide +kernel
theorem dL_law_402 : decode cL_law 402 = .ok (.iconst 0, 1) := by decide +kernel
theorem dL_law_403 : decode cL_law 403 = .ok (.istore 4, 2) := by decide +kernel
theorem dL_law_405 : decode cL_law 405 = .ok (.iload_n 2, 1) := by decide +kernel
theorem dL_law_406 : decode cL_law 406 = .ok (.iload 11, 2) := by decide +kernel
theorem dL_law_408 : decode cL_law 408 = .ok (.ifCond .lt 7, 3) := by decide +kernel
theorem dL_law_411 : decode cL_law 411 = .ok (.iconst 1, 1) := by decide +kernel
theorem dL_law_412 : decode cL_law 412 = .ok (.goto 4, 3) := by decide +kernel
theorem dL_law_415 : decode cL_law 415 = .ok (.iconst 0, 1) := by decide +kernel
theorem dL_law_416 : decode cL_law 416 = .ok (.iadd, 1) := by decide +kernel
theorem dL_law_417 : decode cL_law 417 = .ok (.istore_n 2, 1) := by decide +kernel
theorem dL_law_418 : decode cL_law 418 = .ok (.goto 529, 3) := by decide +kernel
theorem dL_law_421 : decode cL_law 421 = .ok (.iload 8, 2) := by decide +kernel
theorem dL_law_423 : decode cL_law 423 = .ok (.bipush 12, 2) := by decide +kernel
theorem dL_law_425 : decode cL_law 425 = .ok (.if_icmp .ge 176, 3) := by decide +kernel
theorem dL_law_428 : decode cL_law 428 = .ok (.iload 7, 2) := by decide +kernel
theorem dL_law_430 : decode cL_law 430 = .ok (.iconst 4, 1) := by decide +kernel
theorem dL_law_431 : decode cL_law 431 = .ok (.invokestatic 89, 3) := by decide +kernel
theorem dL_law_434 : decode cL_law 434 = .ok (.istore 11, 2) := by decide +kernel
theorem dL_law_436 : decode cL_law 436 = .ok (.iload 11, 2) := by decide +kernel
theorem dL_law_438 : decode cL_law 438 = .ok (.ifCond .le 18, 3) := by decide +kernel
theorem dL_law_441 : decode cL_law 441 = .ok (.iload 7, 2) := by decide +kernel
theorem dL_law_443 : decode cL_law 443 = .ok (.iconst 4, 1) := by decide +kernel
theorem dL_law_444 : decode cL_law 444 = .ok (.ishr, 1) := by decide +kernel
theorem dL_law_445 : decode cL_law 445 = .ok (.iconst 5, 1) := by decide +kernel
theorem dL_law_446 : decode cL_law 446 = .ok (.invokestatic 89, 3) := by decide +kernel
theorem dL_law_449 : decode cL_law 449 = .ok (.ifCond .ne 7, 3) := by decide +kernel
theorem dL_law_452 : decode cL_law 452 = .ok (.iconst 1, 1) := by decide +kernel
theorem dL_law_453 : decode cL_law 453 = .ok (.goto 4, 3) := by decide +kernel
theorem dL_law_456 : decode cL_law 456 = .ok (.iconst 0, 1) := by decide +kernel
theorem dL_law_457 : decode cL_law 457 = .ok (.istore 12, 2) := by decide +kernel
theorem dL_law_459 : decode cL_law 459 = .ok (.aload_n 1, 1) := by decide +kernel
theorem dL_law_460 : decode cL_law 460 = .ok (.iload 7, 2) := by decide +kernel
theorem dL_law_462 : decode cL_law 462 = .ok (.iconst 3, 1) := by decide +kernel
theorem dL_law_463 : decode cL_law 463 = .ok (.ishr, 1) := by decide +kernel
theorem dL_law_464 : decode cL_law 464 = .ok (.bipush 10, 2) := by decide +kernel
theorem dL_law_466 : decode cL_law 466 = .ok (.invokestatic 89, 3) := by decide +kernel
theorem dL_law_469 : decode cL_law 469 = .ok (.iload 10, 2) := by decide +kernel
theorem dL_law_471 : decode cL_law 471 = .ok (.iload 11, 2) := by decide +kernel
theorem dL_law_473 : decode cL_law 473 = .ok (.iload 11, 2) := by decide +kernel
theorem dL_law_475 : decode cL_law 475 = .ok (.ifCond .ne 7, 3) := by decide +kernel
theorem dL_law_478 : decode cL_law 478 = .ok (.iconst 0, 1) := by decide +kernel
theorem dL_law_479 : decode cL_law 479 = .ok (.goto 15, 3) := by decide +kernel
theorem dL_law_482 : decode cL_law 482 = .ok (.iconst 1, 1) := by decide +kernel
theorem dL_law_483 : decode cL_law 483 = .ok (.iload 7, 2) := by decide +kernel
theorem dL_law_485 : decode cL_law 485 = .ok (.bipush 7, 2) := by decide +kernel
theorem dL_law_487 : decode cL_law 487 = .ok (.ishr, 1) := by decide +kernel
theorem dL_law_488 : decode cL_law 488 = .ok (.bipush 20, 2) := by decide +kernel
theorem dL_law_490 : decode cL_law 490 = .ok (.invokestatic 89, 3) := by decide +kernel
theorem dL_law_493 : decode cL_law 493 = .ok (.iadd, 1) := by decide +kernel
theorem dL_law_494 : decode cL_law 494 = .ok (.iload 11, 2) := by decide +kernel
theorem dL_law_496 : decode cL_law 496 = .ok (.ifCond .ne 7, 3) := by decide +kernel
theorem dL_law_499 : decode cL_law 499 = .ok (.iconst 0, 1) := by decide +kernel
theorem dL_law_500 : decode cL_law 500 = .ok (.goto 15, 3) := by decide +kernel
theorem dL_law_503 : decode cL_law 503 = .ok (.iconst 1, 1) := by decide +kernel
theorem dL_law_504 : decode cL_law 504 = .ok (.iload 7, 2) := by decide +kernel
theorem dL_law_506 : decode cL_law 506 = .ok (.bipush 9, 2) := by decide +kernel
theorem dL_law_508 : decode cL_law 508 = .ok (.ishr, 1) := by decide +kernel
theorem dL_law_509 : decode cL_law 509 = .ok (.bipush 60, 2) := by decide +kernel
theorem dL_law_511 : decode cL_law 511 = .ok (.invokestatic 89, 3) := by decide +kernel
theorem dL_law_514 : decode cL_law 514 = .ok (.iadd, 1) := by decide +kernel
theorem dL_law_515 : decode cL_law 515 = .ok (.iload 12, 2) := by decide +kernel
theorem dL_law_517 : decode cL_law 517 = .ok (.invokestatic 113, 3) := by decide +kernel
theorem dL_law_520 : decode cL_law 520 = .ok (.istore 13, 2) := by decide +kernel
theorem dL_law_522 : decode cL_law 522 = .ok (.iload 13, 2) := by decide +kernel
theorem dL_law_524 : decode cL_law 524 = .ok (.bipush (-9), 2) := by decide +kernel
theorem dL_law_526 : decode cL_law 526 = .ok (.if_icmp .ne 26, 3) := by decide +kernel
theorem dL_law_529 : decode cL_law 529 = .ok (.iload_n 3, 1) := by decide +kernel
theorem dL_law_530 : decode cL_law 530 = .ok (.bipush 40, 2) := by decide +kernel
theorem dL_law_532 : decode cL_law 532 = .ok (.if_icmp .eq 12, 3) := by decide +kernel
theorem dL_law_535 : decode cL_law 535 = .ok (.aload_n 1, 1) := by decide +kernel
theorem dL_law_536 : decode cL_law 536 = .ok (.iload 10, 2) := by decide +kernel
theorem dL_law_538 : decode cL_law 538 = .ok (.invokevirtual 34, 3) := by decide +kernel
theorem dL_law_541 : decode cL_law 541 = .ok (.ifCond .eq 7, 3) := by decide +kernel
theorem dL_law_544 : decode cL_law 544 = .ok (.iconst 1, 1) := by decide +kernel
theorem dL_law_545 : decode cL_law 545 = .ok (.goto 38, 3) := by decide +kernel
theorem dL_law_548 : decode cL_law 548 = .ok (.iconst 0, 1) := by decide +kernel
theorem dL_law_549 : decode cL_law 549 = .ok (.goto 34, 3) := by decide +kernel
theorem dL_law_552 : decode cL_law 552 = .ok (.iload 13, 2) := by decide +kernel
theorem dL_law_554 : decode cL_law 554 = .ok (.iload_n 3, 1) := by decide +kernel
theorem dL_law_555 : decode cL_law 555 = .ok (.if_icmp .ne 27, 3) := by decide +kernel
theorem dL_law_558 : decode cL_law 558 = .ok (.aload_n 1, 1) := by decide +kernel
theorem dL_law_559 : decode cL_law 559 = .ok (.iload 13, 2) := by decide +kernel
theorem dL_law_561 : decode cL_law 561 = .ok (.invokevirtual 46, 3) := by decide +kernel
theorem dL_law_564 : decode cL_law 564 = .ok (.iload 10, 2) := by decide +kernel
theorem dL_law_566 : decode cL_law 566 = .ok (.if_icmp .ne 16, 3) := by decide +kernel
theorem dL_law_569 : decode cL_law 569 = .ok (.aload_n 1, 1) := by decide +kernel
theorem dL_law_570 : decode cL_law 570 = .ok (.iload 13, 2) := by decide +kernel
theorem dL_law_572 : decode cL_law 572 = .ok (.invokevirtual 52, 3) := by decide +kernel
theorem dL_law_575 : decode cL_law 575 = .ok (.ifCond .le 7, 3) := by decide +kernel
theorem dL_law_578 : decode cL_law 578 = .ok (.iconst 1, 1) := by decide +kernel
theorem dL_law_579 : decode cL_law 579 = .ok (.goto 4, 3) := by decide +kernel
theorem dL_law_582 : decode cL_law 582 = .ok (.iconst 0, 1) := by decide +kernel
theorem dL_law_583 : decode cL_law 583 = .ok (.istore 4, 2) := by decide +kernel
theorem dL_law_585 : decode cL_law 585 = .ok (.iload_n 3, 1) := by decide +kernel
theorem dL_law_586 : decode cL_law 586 = .ok (.iload 13, 2) := by decide +kernel
theorem dL_law_588 : decode cL_law 588 = .ok (.ifCond .lt 7, 3) := by decide +kernel
theorem dL_law_591 : decode cL_law 591 = .ok (.iconst 1, 1) := by decide +kernel
theorem dL_law_592 : decode cL_law 592 = .ok (.goto 4, 3) := by decide +kernel
theorem dL_law_595 : decode cL_law 595 = .ok (.iconst 0, 1) := by decide +kernel
theorem dL_law_596 : decode cL_law 596 = .ok (.iadd, 1) := by decide +kernel
theorem dL_law_597 : decode cL_law 597 = .ok (.istore_n 3, 1) := by decide +kernel
theorem dL_law_598 : decode cL_law 598 = .ok (.goto 349, 3) := by decide +kernel
theorem dL_law_601 : decode cL_law 601 = .ok (.iload 8, 2) := by decide +kernel
theorem dL_law_603 : decode cL_law 603 = .ok (.bipush 17, 2) := by decide +kernel
theorem dL_law_605 : decode cL_law 605 = .ok (.if_icmp .ge 56, 3) := by decide +kernel
theorem dL_law_608 : decode cL_law 608 = .ok (.iload 9, 2) := by decide +kernel
theorem dL_law_610 : decode cL_law 610 = .ok (.sipush 8000, 3) := by decide +kernel
theorem dL_law_613 : decode cL_law 613 = .ok (.if_icmp .gt 38, 3) := by decide +kernel
theorem dL_law_616 : decode cL_law 616 = .ok (.aload_n 1, 1) := by decide +kernel
theorem dL_law_617 : decode cL_law 617 = .ok (.iconst 1, 1) := by decide +kernel
theorem dL_law_618 : decode cL_law 618 = .ok (.iload 7, 2) := by decide +kernel
theorem dL_law_620 : decode cL_law 620 = .ok (.iload 7, 2) := by decide +kernel
theorem dL_law_622 : decode cL_law 622 = .ok (.bipush 8, 2) := by decide +kernel
theorem dL_law_624 : decode cL_law 624 = .ok (.ishr, 1) := by decide +kernel
theorem dL_law_625 : decode cL_law 625 = .ok (.iconst 2, 1) := by decide +kernel
theorem dL_law_626 : decode cL_law 626 = .ok (.invokestatic 89, 3) := by decide +kernel
theorem dL_law_629 : decode cL_law 629 = .ok (.ifCond .ne 8, 3) := by decide +kernel
theorem dL_law_632 : decode cL_law 632 = .ok (.bipush 6, 2) := by decide +kernel
theorem dL_law_634 : decode cL_law 634 = .ok (.goto 5, 3) := by decide +kernel
theorem dL_law_637 : decode cL_law 637 = .ok (.bipush 40, 2) := by decide +kernel
theorem dL_law_639 : decode cL_law 639 = .ok (.invokestatic 89, 3) := by decide +kernel
theorem dL_law_642 : decode cL_law 642 = .ok (.iadd, 1) := by decide +kernel
theorem dL_law_643 : decode cL_law 643 = .ok (.invokevirtual 116, 3) := by decide +kernel
theorem dL_law_646 : decode cL_law 646 = .ok (.iload 9, 2) := by decide +kernel
theorem dL_law_648 : decode cL_law 648 = .ok (.if_icmp .le 7, 3) := by decide +kernel
theorem dL_law_651 : decode cL_law 651 = .ok (.iconst 1, 1) := by decide +kernel
theorem dL_law_652 : decode cL_law 652 = .ok (.goto 4, 3) := by decide +kernel
theorem dL_law_655 : decode cL_law 655 = .ok (.iconst 0, 1) := by decide +kernel
theorem dL_law_656 : decode cL_law 656 = .ok (.istore 4, 2) := by decide +kernel
theorem dL_law_658 : decode cL_law 658 = .ok (.goto 289, 3) := by decide +kernel
theorem dL_law_661 : decode cL_law 661 = .ok (.iload 8, 2) := by decide +kernel
theorem dL_law_663 : decode cL_law 663 = .ok (.bipush 18, 2) := by decide +kernel
theorem dL_law_665 : decode cL_law 665 = .ok (.if_icmp .ge 75, 3) := by decide +kernel
theorem dL_law_668 : decode cL_law 668 = .ok (.aload_n 1, 1) := by decide +kernel
theorem dL_law_669 : decode cL_law 669 = .ok (.iload 10, 2) := by decide +kernel
theorem dL_law_671 : decode cL_law 671 = .ok (.invokevirtual 34, 3) := by decide +kernel
theorem dL_law_674 : decode cL_law 674 = .ok (.ifCond .ne 7, 3) := by decide +kernel
theorem dL_law_677 : decode cL_law 677 = .ok (.iconst 1, 1) := by decide +kernel
theorem dL_law_678 : decode cL_law 678 = .ok (.goto 4, 3) := by decide +kernel
theorem dL_law_681 : decode cL_law 681 = .ok (.iconst 0, 1) := by decide +kernel
theorem dL_law_682 : decode cL_law 682 = .ok (.istore 11, 2) := by decide +kernel
theorem dL_law_684 : decode cL_law 684 = .ok (.aload_n 1, 1) := by decide +kernel
theorem dL_law_685 : decode cL_law 685 = .ok (.iconst 0, 1) := by decide +kernel
theorem dL_law_686 : decode cL_law 686 = .ok (.iload 10, 2) := by decide +kernel
theorem dL_law_688 : decode cL_law 688 = .ok (.iconst 0, 1) := by decide +kernel
theorem dL_law_689 : decode cL_law 689 = .ok (.invokestatic 119, 3) := by decide +kernel
theorem dL_law_692 : decode cL_law 692 = .ok (.istore 12, 2) := by decide +kernel
theorem dL_law_694 : decode cL_law 694 = .ok (.iload 11, 2) := by decide +kernel
theorem dL_law_696 : decode cL_law 696 = .ok (.ifCond .eq 27, 3) := by decide +kernel
theorem dL_law_699 : decode cL_law 699 = .ok (.iload 12, 2) := by decide +kernel
theorem dL_law_701 : decode cL_law 701 = .ok (.ifCond .lt 18, 3) := by decide +kernel
theorem dL_law_704 : decode cL_law 704 = .ok (.aload_n 1, 1) := by decide +kernel
theorem dL_law_705 : decode cL_law 705 = .ok (.iload 10, 2) := by decide +kernel
theorem dL_law_707 : decode cL_law 707 = .ok (.invokevirtual 34, 3) := by decide +kernel
theorem dL_law_710 : decode cL_law 710 = .ok (.bipush 71, 2) := by decide +kernel
theorem dL_law_712 : decode cL_law 712 = .ok (.if_icmp .ne 7, 3) := by decide +kernel
theorem dL_law_715 : decode cL_law 715 = .ok (.iconst 1, 1) := by decide +kernel
theorem dL_law_716 : decode cL_law 716 = .ok (.goto 19, 3) := by decide +kernel
theorem dL_law_719 : decode cL_law 719 = .ok (.iconst 0, 1) := by decide +kernel
theorem dL_law_720 : decode cL_law 720 = .ok (.goto 15, 3) := by decide +kernel
theorem dL_law_723 : decode cL_law 723 = .ok (.iload 12, 2) := by decide +kernel
theorem dL_law_725 : decode cL_law 725 = .ok (.bipush (-9), 2) := by decide +kernel
theorem dL_law_727 : decode cL_law 727 = .ok (.if_icmp .ne 7, 3) := by decide +kernel
theorem dL_law_730 : decode cL_law 730 = .ok (.iconst 1, 1) := by decide +kernel
theorem dL_law_731 : decode cL_law 731 = .ok (.goto 4, 3) := by decide +kernel
theorem dL_law_734 : decode cL_law 734 = .ok (.iconst 0, 1) := by decide +kernel
theorem dL_law_735 : decode cL_law 735 = .ok (.istore 4, 2) := by decide +kernel
theorem dL_law_737 : decode cL_law 737 = .ok (.goto 210, 3) := by decide +kernel
theorem dL_law_740 : decode cL_law 740 = .ok (.iload 8, 2) := by decide +kernel
theorem dL_law_742 : decode cL_law 742 = .ok (.bipush 19, 2) := by decide +kernel
theorem dL_law_744 : decode cL_law 744 = .ok (.if_icmp .ge 76, 3) := by decide +kernel
theorem dL_law_747 : decode cL_law 747 = .ok (.aload_n 1, 1) := by decide +kernel
theorem dL_law_748 : decode cL_law 748 = .ok (.iconst 1, 1) := by decide +kernel
theorem dL_law_749 : decode cL_law 749 = .ok (.iload 10, 2) := by decide +kernel
theorem dL_law_751 : decode cL_law 751 = .ok (.iload 7, 2) := by decide +kernel
theorem dL_law_753 : decode cL_law 753 = .ok (.iconst 2, 1) := by decide +kernel
theorem dL_law_754 : decode cL_law 754 = .ok (.invokestatic 89, 3) := by decide +kernel
theorem dL_law_757 : decode cL_law 757 = .ok (.invokestatic 119, 3) := by decide +kernel
theorem dL_law_760 : decode cL_law 760 = .ok (.istore 11, 2) := by decide +kernel
theorem dL_law_762 : decode cL_law 762 = .ok (.iload 11, 2) := by decide +kernel
theorem dL_law_764 : decode cL_law 764 = .ok (.bipush (-9), 2) := by decide +kernel
theorem dL_law_766 : decode cL_law 766 = .ok (.if_icmp .eq 31, 3) := by decide +kernel
theorem dL_law_769 : decode cL_law 769 = .ok (.iload 11, 2) := by decide +kernel
theorem dL_law_771 : decode cL_law 771 = .ok (.iload_n 2, 1) := by decide +kernel
theorem dL_law_772 : decode cL_law 772 = .ok (.if_icmp .ne 29, 3) := by decide +kernel
theorem dL_law_775 : decode cL_law 775 = .ok (.aload_n 1, 1) := by decide +kernel
theorem dL_law_776 : decode cL_law 776 = .ok (.iload 11, 2) := by decide +kernel
theorem dL_law_778 : decode cL_law 778 = .ok (.invokevirtual 34, 3) := by decide +kernel
theorem dL_law_781 : decode cL_law 781 = .ok (.ifCond .ne 20, 3) := by decide +kernel
theorem dL_law_784 : decode cL_law 784 = .ok (.aload_n 1, 1) := by decide +kernel
theorem dL_law_785 : decode cL_law 785 = .ok (.iconst 1, 1) := by decide +kernel
theorem dL_law_786 : decode cL_law 786 = .ok (.iload 10, 2) := by decide +kernel
theorem dL_law_788 : decode cL_law 788 = .ok (.iconst 0, 1) := by decide +kernel
theorem dL_law_789 : decode cL_law 789 = .ok (.invokestatic 119, 3) := by decide +kernel
theorem dL_law_792 : decode cL_law 792 = .ok (.bipush (-9), 2) := by decide +kernel
theorem dL_law_794 : decode cL_law 794 = .ok (.if_icmp .ne 7, 3) := by decide +kernel
theorem dL_law_797 : decode cL_law 797 = .ok (.iconst 1, 1) := by decide +kernel
theorem dL_law_798 : decode cL_law 798 = .ok (.goto 4, 3) := by decide +kernel
theorem dL_law_801 : decode cL_law 801 = .ok (.iconst 0, 1) := by decide +kernel
theorem dL_law_802 : decode cL_law 802 = .ok (.istore 4, 2) := by decide +kernel
theorem dL_law_804 : decode cL_law 804 = .ok (.iload_n 2, 1) := by decide +kernel
theorem dL_law_805 : decode cL_law 805 = .ok (.iload 11, 2) := by decide +kernel
theorem dL_law_807 : decode cL_law 807 = .ok (.ifCond .lt 7, 3) := by decide +kernel
theorem dL_law_810 : decode cL_law 810 = .ok (.iconst 1, 1) := by decide +kernel
theorem dL_law_811 : decode cL_law 811 = .ok (.goto 4, 3) := by decide +kernel
theorem dL_law_814 : decode cL_law 814 = .ok (.iconst 0, 1) := by decide +kernel
theorem dL_law_815 : decode cL_law 815 = .ok (.iadd, 1) := by decide +kernel
theorem dL_law_816 : decode cL_law 816 = .ok (.istore_n 2, 1) := by decide +kernel
theorem dL_law_817 : decode cL_law 817 = .ok (.goto 130, 3) := by decide +kernel
theorem dL_law_820 : decode cL_law 820 = .ok (.iload 8, 2) := by decide +kernel
theorem dL_law_822 : decode cL_law 822 = .ok (.bipush 21, 2) := by decide +kernel
theorem dL_law_824 : decode cL_law 824 = .ok (.if_icmp .ge 76, 3) := by decide +kernel
theorem dL_law_827 : decode cL_law 827 = .ok (.iload 7, 2) := by decide +kernel
theorem dL_law_829 : decode cL_law 829 = .ok (.iconst 2, 1) := by decide +kernel
theorem dL_law_830 : decode cL_law 830 = .ok (.invokestatic 89, 3) := by decide +kernel
theorem dL_law_833 : decode cL_law 833 = .ok (.istore 11, 2) := by decide +kernel
theorem dL_law_835 : decode cL_law 835 = .ok (.iconst 1, 1) := by decide +kernel
theorem dL_law_836 : decode cL_law 836 = .ok (.iload 7, 2) := by decide +kernel
theorem dL_law_838 : decode cL_law 838 = .ok (.iconst 3, 1) := by decide +kernel
theorem dL_law_839 : decode cL_law 839 = .ok (.ishr, 1) := by decide +kernel
theorem dL_law_840 : decode cL_law 840 = .ok (.sipush 500, 3) := by decide +kernel
theorem dL_law_843 : decode cL_law 843 = .ok (.invokestatic 89, 3) := by decide +kernel
theorem dL_law_846 : decode cL_law 846 = .ok (.iadd, 1) := by decide +kernel
theorem dL_law_847 : decode cL_law 847 = .ok (.istore 12, 2) := by decide +kernel
theorem dL_law_849 : decode cL_law 849 = .ok (.aload_n 1, 1) := by decide +kernel
theorem dL_law_850 : decode cL_law 850 = .ok (.iload 11, 2) := by decide +kernel
theorem dL_law_852 : decode cL_law 852 = .ok (.invokevirtual 72, 3) := by decide +kernel
theorem dL_law_855 : decode cL_law 855 = .ok (.istore 13, 2) := by decide +kernel
theorem dL_law_857 : decode cL_law 857 = .ok (.aload_n 1, 1) := by decide +kernel
theorem dL_law_858 : decode cL_law 858 = .ok (.iconst 2, 1) := by decide +kernel
theorem dL_law_859 : decode cL_law 859 = .ok (.iload 11, 2) := by decide +kernel
theorem dL_law_861 : decode cL_law 861 = .ok (.iload 12, 2) := by decide +kernel
theorem dL_law_863 : decode cL_law 863 = .ok (.invokestatic 119, 3) := by decide +kernel
theorem dL_law_866 : decode cL_law 866 = .ok (.iload 13, 2) := by decide +kernel
theorem dL_law_868 : decode cL_law 868 = .ok (.iload 12, 2) := by decide +kernel
theorem dL_law_870 : decode cL_law 870 = .ok (.iadd, 1) := by decide +kernel
theorem dL_law_871 : decode cL_law 871 = .ok (.sipush 1000, 3) := by decide +kernel
theorem dL_law_874 : decode cL_law 874 = .ok (.if_icmp .le 8, 3) := by decide +kernel
theorem dL_law_877 : decode cL_law 877 = .ok (.bipush (-9), 2) := by decide +kernel
theorem dL_law_879 : decode cL_law 879 = .ok (.goto 8, 3) := by decide +kernel
theorem dL_law_882 : decode cL_law 882 = .ok (.iload 13, 2) := by decide +kernel
theorem dL_law_884 : decode cL_law 884 = .ok (.iload 12, 2) := by decide +kernel
theorem dL_law_886 : decode cL_law 886 = .ok (.iadd, 1) := by decide +kernel
theorem dL_law_887 : decode cL_law 887 = .ok (.if_icmp .ne 7, 3) := by decide +kernel
theorem dL_law_890 : decode cL_law 890 = .ok (.iconst 1, 1) := by decide +kernel
theorem dL_law_891 : decode cL_law 891 = .ok (.goto 4, 3) := by decide +kernel
theorem dL_law_894 : decode cL_law 894 = .ok (.iconst 0, 1) := by decide +kernel
theorem dL_law_895 : decode cL_law 895 = .ok (.istore 4, 2) := by decide +kernel
theorem dL_law_897 : decode cL_law 897 = .ok (.goto 50, 3) := by decide +kernel
theorem dL_law_900 : decode cL_law 900 = .ok (.iload 9, 2) := by decide +kernel
theorem dL_law_902 : decode cL_law 902 = .ok (.iload 7, 2) := by decide +kernel
theorem dL_law_904 : decode cL_law 904 = .ok (.iconst 4, 1) := by decide +kernel
theorem dL_law_905 : decode cL_law 905 = .ok (.ishr, 1) := by decide +kernel
theorem dL_law_906 : decode cL_law 906 = .ok (.bipush 20, 2) := by decide +kernel
theorem dL_law_908 : decode cL_law 908 = .ok (.invokestatic 89, 3) := by decide +kernel
theorem dL_law_911 : decode cL_law 911 = .ok (.iadd, 1) := by decide +kernel
theorem dL_law_912 : decode cL_law 912 = .ok (.istore 11, 2) := by decide +kernel
theorem dL_law_914 : decode cL_law 914 = .ok (.aload_n 1, 1) := by decide +kernel
theorem dL_law_915 : decode cL_law 915 = .ok (.iload 7, 2) := by decide +kernel
theorem dL_law_917 : decode cL_law 917 = .ok (.iconst 3, 1) := by decide +kernel
theorem dL_law_918 : decode cL_law 918 = .ok (.invokestatic 89, 3) := by decide +kernel
theorem dL_law_921 : decode cL_law 921 = .ok (.iload 7, 2) := by decide +kernel
theorem dL_law_923 : decode cL_law 923 = .ok (.iconst 2, 1) := by decide +kernel
theorem dL_law_924 : decode cL_law 924 = .ok (.ishr, 1) := by decide +kernel
theorem dL_law_925 : decode cL_law 925 = .ok (.iconst 2, 1) := by decide +kernel
theorem dL_law_926 : decode cL_law 926 = .ok (.invokestatic 89, 3) := by decide +kernel
theorem dL_law_929 : decode cL_law 929 = .ok (.iload 11, 2) := by decide +kernel
theorem dL_law_931 : decode cL_law 931 = .ok (.iload 11, 2) := by decide +kernel
theorem dL_law_933 : decode cL_law 933 = .ok (.iload 7, 2) := by decide +kernel
theorem dL_law_935 : decode cL_law 935 = .ok (.bipush 6, 2) := by decide +kernel
theorem dL_law_937 : decode cL_law 937 = .ok (.ishr, 1) := by decide +kernel
theorem dL_law_938 : decode cL_law 938 = .ok (.bipush 10, 2) := by decide +kernel
theorem dL_law_940 : decode cL_law 940 = .ok (.invokestatic 89, 3) := by decide +kernel
theorem dL_law_943 : decode cL_law 943 = .ok (.iadd, 1) := by decide +kernel
theorem dL_law_944 : decode cL_law 944 = .ok (.invokevirtual 123, 3) := by decide +kernel
theorem dL_law_947 : decode cL_law 947 = .ok (.iload 4, 2) := by decide +kernel
theorem dL_law_949 : decode cL_law 949 = .ok (.ifCond .eq 16, 3) := by decide +kernel
theorem dL_law_952 : decode cL_law 952 = .ok (.aload_n 1, 1) := by decide +kernel
theorem dL_law_953 : decode cL_law 953 = .ok (.iload_n 2, 1) := by decide +kernel
theorem dL_law_954 : decode cL_law 954 = .ok (.iload_n 3, 1) := by decide +kernel
theorem dL_law_955 : decode cL_law 955 = .ok (.invokestatic 127, 3) := by decide +kernel
theorem dL_law_958 : decode cL_law 958 = .ok (.ifCond .eq 7, 3) := by decide +kernel
theorem dL_law_961 : decode cL_law 961 = .ok (.iconst 1, 1) := by decide +kernel
theorem dL_law_962 : decode cL_law 962 = .ok (.goto 4, 3) := by decide +kernel
theorem dL_law_965 : decode cL_law 965 = .ok (.iconst 0, 1) := by decide +kernel
theorem dL_law_966 : decode cL_law 966 = .ok (.istore 4, 2) := by decide +kernel
theorem dL_law_968 : decode cL_law 968 = .ok (.iinc 6 1, 3) := by decide +kernel
theorem dL_law_971 : decode cL_law 971 = .ok (.goto (-727), 3) := by decide +kernel
theorem dL_law_974 : decode cL_law 974 = .ok (.iload 4, 2) := by decide +kernel
theorem dL_law_976 : decode cL_law 976 = .ok (.ireturn, 1) := by decide +kernel
