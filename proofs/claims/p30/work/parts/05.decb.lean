theorem dX6_replace_30 : decode cX6_replace 30 = .ok (.invokevirtual 176, 3) := by decide +kernel
theorem dX6_replace_33 : decode cX6_replace 33 = .ok (.ifCond .eq 47, 3) := by decide +kernel
theorem dX6_replace_36 : decode cX6_replace 36 = .ok (.aload_n 0, 1) := by decide +kernel
theorem dX6_replace_37 : decode cX6_replace 37 = .ok (.iload_n 2, 1) := by decide +kernel
theorem dX6_replace_38 : decode cX6_replace 38 = .ok (.aload_n 0, 1) := by decide +kernel
theorem dX6_replace_39 : decode cX6_replace 39 = .ok (.getfield 77, 3) := by decide +kernel
theorem dX6_replace_42 : decode cX6_replace 42 = .ok (.invokevirtual 180, 3) := by decide +kernel
theorem dX6_replace_45 : decode cX6_replace 45 = .ok (.aload_n 3, 1) := by decide +kernel
theorem dX6_replace_46 : decode cX6_replace 46 = .ok (.getfield 183, 3) := by decide +kernel
theorem dX6_replace_49 : decode cX6_replace 49 = .ok (.if_icmp .ne 31, 3) := by decide +kernel
theorem dX6_replace_52 : decode cX6_replace 52 = .ok (.aload 4, 2) := by decide +kernel
theorem dX6_replace_54 : decode cX6_replace 54 = .ok (.getfield 186, 3) := by decide +kernel
theorem dX6_replace_57 : decode cX6_replace 57 = .ok (.aload_n 0, 1) := by decide +kernel
theorem dX6_replace_58 : decode cX6_replace 58 = .ok (.getfield 77, 3) := by decide +kernel
theorem dX6_replace_61 : decode cX6_replace 61 = .ok (.invokevirtual 189, 3) := by decide +kernel
theorem dX6_replace_64 : decode cX6_replace 64 = .ok (.ifCond .ne 16, 3) := by decide +kernel
theorem dX6_replace_67 : decode cX6_replace 67 = .ok (.aload_n 0, 1) := by decide +kernel
theorem dX6_replace_68 : decode cX6_replace 68 = .ok (.getfield 71, 3) := by decide +kernel
theorem dX6_replace_71 : decode cX6_replace 71 = .ok (.bipush 24, 2) := by decide +kernel
theorem dX6_replace_73 : decode cX6_replace 73 = .ok (.if_icmp .ge 7, 3) := by decide +kernel
theorem dX6_replace_76 : decode cX6_replace 76 = .ok (.iconst 1, 1) := by decide +kernel
theorem dX6_replace_77 : decode cX6_replace 77 = .ok (.goto 4, 3) := by decide +kernel
theorem dX6_replace_80 : decode cX6_replace 80 = .ok (.iconst 0, 1) := by decide +kernel
theorem dX6_replace_81 : decode cX6_replace 81 = .ok (.invokestatic 96, 3) := by decide +kernel
theorem dX6_replace_84 : decode cX6_replace 84 = .ok (.aload_n 3, 1) := by decide +kernel
theorem dX6_replace_85 : decode cX6_replace 85 = .ok (.iconst 1, 1) := by decide +kernel
theorem dX6_replace_86 : decode cX6_replace 86 = .ok (.putfield 172, 3) := by decide +kernel
theorem dX6_replace_89 : decode cX6_replace 89 = .ok (.aload_n 0, 1) := by decide +kernel
theorem dX6_replace_90 : decode cX6_replace 90 = .ok (.iload_n 2, 1) := by decide +kernel
theorem dX6_replace_91 : decode cX6_replace 91 = .ok (.aload_n 3, 1) := by decide +kernel
theorem dX6_replace_92 : decode cX6_replace 92 = .ok (.getfield 183, 3) := by decide +kernel
theorem dX6_replace_95 : decode cX6_replace 95 = .ok (.aload_n 3, 1) := by decide +kernel
theorem dX6_replace_96 : decode cX6_replace 96 = .ok (.getfield 156, 3) := by decide +kernel
theorem dX6_replace_99 : decode cX6_replace 99 = .ok (.aload_n 0, 1) := by decide +kernel
theorem dX6_replace_100 : decode cX6_replace 100 = .ok (.getfield 77, 3) := by decide +kernel
theorem dX6_replace_103 : decode cX6_replace 103 = .ok (.aload_n 3, 1) := by decide +kernel
theorem dX6_replace_104 : decode cX6_replace 104 = .ok (.getfield 192, 3) := by decide +kernel
theorem dX6_replace_107 : decode cX6_replace 107 = .ok (.invokevirtual 162, 3) := by decide +kernel
theorem dX6_replace_110 : decode cX6_replace 110 = .ok (.ireturn, 1) := by decide +kernel
theorem dX6_pass_0 : decode cX6_pass 0 = .ok (.iload_n 1, 1) := by decide +kernel
theorem dX6_pass_1 : decode cX6_pass 1 = .ok (.iconst 1, 1) := by decide +kernel
theorem dX6_pass_2 : decode cX6_pass 2 = .ok (.bipush 48, 2) := by decide +kernel
theorem dX6_pass_4 : decode cX6_pass 4 = .ok (.invokestatic 88, 3) := by decide +kernel
theorem dX6_pass_7 : decode cX6_pass 7 = .ok (.invokestatic 92, 3) := by decide +kernel
theorem dX6_pass_10 : decode cX6_pass 10 = .ok (.aload_n 0, 1) := by decide +kernel
theorem dX6_pass_11 : decode cX6_pass 11 = .ok (.getfield 77, 3) := by decide +kernel
theorem dX6_pass_14 : decode cX6_pass 14 = .ok (.iload_n 1, 1) := by decide +kernel
theorem dX6_pass_15 : decode cX6_pass 15 = .ok (.iadd, 1) := by decide +kernel
theorem dX6_pass_16 : decode cX6_pass 16 = .ok (.sipush 9000, 3) := by decide +kernel
theorem dX6_pass_19 : decode cX6_pass 19 = .ok (.if_icmp .gt 7, 3) := by decide +kernel
theorem dX6_pass_22 : decode cX6_pass 22 = .ok (.iconst 1, 1) := by decide +kernel
theorem dX6_pass_23 : decode cX6_pass 23 = .ok (.goto 4, 3) := by decide +kernel
theorem dX6_pass_26 : decode cX6_pass 26 = .ok (.iconst 0, 1) := by decide +kernel
theorem dX6_pass_27 : decode cX6_pass 27 = .ok (.invokestatic 96, 3) := by decide +kernel
theorem dX6_pass_30 : decode cX6_pass 30 = .ok (.iconst 0, 1) := by decide +kernel
theorem dX6_pass_31 : decode cX6_pass 31 = .ok (.istore_n 2, 1) := by decide +kernel
theorem dX6_pass_32 : decode cX6_pass 32 = .ok (.iload_n 2, 1) := by decide +kernel
theorem dX6_pass_33 : decode cX6_pass 33 = .ok (.iload_n 1, 1) := by decide +kernel
theorem dX6_pass_34 : decode cX6_pass 34 = .ok (.if_icmp .ge 40, 3) := by decide +kernel
theorem dX6_pass_37 : decode cX6_pass 37 = .ok (.iconst 0, 1) := by decide +kernel
theorem dX6_pass_38 : decode cX6_pass 38 = .ok (.istore_n 3, 1) := by decide +kernel
theorem dX6_pass_39 : decode cX6_pass 39 = .ok (.iload_n 3, 1) := by decide +kernel
theorem dX6_pass_40 : decode cX6_pass 40 = .ok (.aload_n 0, 1) := by decide +kernel
theorem dX6_pass_41 : decode cX6_pass 41 = .ok (.getfield 71, 3) := by decide +kernel
theorem dX6_pass_44 : decode cX6_pass 44 = .ok (.if_icmp .ge 14, 3) := by decide +kernel
theorem dX6_pass_47 : decode cX6_pass 47 = .ok (.aload_n 0, 1) := by decide +kernel
theorem dX6_pass_48 : decode cX6_pass 48 = .ok (.iload_n 3, 1) := by decide +kernel
theorem dX6_pass_49 : decode cX6_pass 49 = .ok (.invokevirtual 195, 3) := by decide +kernel
theorem dX6_pass_52 : decode cX6_pass 52 = .ok (.iinc 3 1, 3) := by decide +kernel
theorem dX6_pass_55 : decode cX6_pass 55 = .ok (.goto (-16), 3) := by decide +kernel
theorem dX6_pass_58 : decode cX6_pass 58 = .ok (.aload_n 0, 1) := by decide +kernel
theorem dX6_pass_59 : decode cX6_pass 59 = .ok (.dup, 1) := by decide +kernel
theorem dX6_pass_60 : decode cX6_pass 60 = .ok (.getfield 77, 3) := by decide +kernel
theorem dX6_pass_63 : decode cX6_pass 63 = .ok (.iconst 1, 1) := by decide +kernel
theorem dX6_pass_64 : decode cX6_pass 64 = .ok (.iadd, 1) := by decide +kernel
theorem dX6_pass_65 : decode cX6_pass 65 = .ok (.putfield 77, 3) := by decide +kernel
theorem dX6_pass_68 : decode cX6_pass 68 = .ok (.iinc 2 1, 3) := by decide +kernel
theorem dX6_pass_71 : decode cX6_pass 71 = .ok (.goto (-39), 3) := by decide +kernel
theorem dX6_pass_74 : decode cX6_pass 74 = .ok (.aload_n 0, 1) := by decide +kernel
theorem dX6_pass_75 : decode cX6_pass 75 = .ok (.getfield 77, 3) := by decide +kernel
theorem dX6_pass_78 : decode cX6_pass 78 = .ok (.ireturn, 1) := by decide +kernel
theorem dX6_now_0 : decode cX6_now 0 = .ok (.aload_n 0, 1) := by decide +kernel
theorem dX6_now_1 : decode cX6_now 1 = .ok (.getfield 77, 3) := by decide +kernel
theorem dX6_now_4 : decode cX6_now 4 = .ok (.ireturn, 1) := by decide +kernel
theorem dX6_state_0 : decode cX6_state 0 = .ok (.aload_n 0, 1) := by decide +kernel
theorem dX6_state_1 : decode cX6_state 1 = .ok (.iload_n 1, 1) := by decide +kernel
theorem dX6_state_2 : decode cX6_state 2 = .ok (.invokevirtual 152, 3) := by decide +kernel
theorem dX6_state_5 : decode cX6_state 5 = .ok (.astore_n 2, 1) := by decide +kernel
theorem dX6_state_6 : decode cX6_state 6 = .ok (.aload_n 2, 1) := by decide +kernel
theorem dX6_state_7 : decode cX6_state 7 = .ok (.getfield 166, 3) := by decide +kernel
theorem dX6_state_10 : decode cX6_state 10 = .ok (.bipush 10, 2) := by decide +kernel
theorem dX6_state_12 : decode cX6_state 12 = .ok (.aload_n 2, 1) := by decide +kernel
theorem dX6_state_13 : decode cX6_state 13 = .ok (.getfield 199, 3) := by decide +kernel
theorem dX6_state_16 : decode cX6_state 16 = .ok (.imul, 1) := by decide +kernel
theorem dX6_state_17 : decode cX6_state 17 = .ok (.iadd, 1) := by decide +kernel
theorem dX6_state_18 : decode cX6_state 18 = .ok (.ireturn, 1) := by decide +kernel
theorem dX6_ends_0 : decode cX6_ends 0 = .ok (.aload_n 0, 1) := by decide +kernel
theorem dX6_ends_1 : decode cX6_ends 1 = .ok (.iload_n 1, 1) := by decide +kernel
theorem dX6_ends_2 : decode cX6_ends 2 = .ok (.invokevirtual 152, 3) := by decide +kernel
theorem dX6_ends_5 : decode cX6_ends 5 = .ok (.getfield 159, 3) := by decide +kernel
theorem dX6_ends_8 : decode cX6_ends 8 = .ok (.ireturn, 1) := by decide +kernel
theorem dX6_busAfter_0 : decode cX6_busAfter 0 = .ok (.aload_n 0, 1) := by decide +kernel
theorem dX6_busAfter_1 : decode cX6_busAfter 1 = .ok (.iload_n 1, 1) := by decide +kernel
theorem dX6_busAfter_2 : decode cX6_busAfter 2 = .ok (.invokevirtual 152, 3) := by decide +kernel
theorem dX6_busAfter_5 : decode cX6_busAfter 5 = .ok (.astore_n 2, 1) := by decide +kernel
theorem dX6_busAfter_6 : decode cX6_busAfter 6 = .ok (.aload_n 2, 1) := by decide +kernel
theorem dX6_busAfter_7 : decode cX6_busAfter 7 = .ok (.getfield 156, 3) := by decide +kernel
theorem dX6_busAfter_10 : decode cX6_busAfter 10 = .ok (.bipush 6, 2) := by decide +kernel
theorem dX6_busAfter_12 : decode cX6_busAfter 12 = .ok (.invokestatic 84, 3) := by decide +kernel
theorem dX6_busAfter_15 : decode cX6_busAfter 15 = .ok (.aload_n 0, 1) := by decide +kernel
theorem dX6_busAfter_16 : decode cX6_busAfter 16 = .ok (.getfield 37, 3) := by decide +kernel
theorem dX6_busAfter_19 : decode cX6_busAfter 19 = .ok (.aload_n 2, 1) := by decide +kernel
theorem dX6_busAfter_20 : decode cX6_busAfter 20 = .ok (.getfield 156, 3) := by decide +kernel
theorem dX6_busAfter_23 : decode cX6_busAfter 23 = .ok (.iaload, 1) := by decide +kernel
theorem dX6_busAfter_24 : decode cX6_busAfter 24 = .ok (.istore_n 3, 1) := by decide +kernel
theorem dX6_busAfter_25 : decode cX6_busAfter 25 = .ok (.aload_n 2, 1) := by decide +kernel
theorem dX6_busAfter_26 : decode cX6_busAfter 26 = .ok (.getfield 166, 3) := by decide +kernel
theorem dX6_busAfter_29 : decode cX6_busAfter 29 = .ok (.iconst 2, 1) := by decide +kernel
theorem dX6_busAfter_30 : decode cX6_busAfter 30 = .ok (.if_icmp .ne 8, 3) := by decide +kernel
theorem dX6_busAfter_33 : decode cX6_busAfter 33 = .ok (.iload_n 3, 1) := by decide +kernel
theorem dX6_busAfter_34 : decode cX6_busAfter 34 = .ok (.iconst 1, 1) := by decide +kernel
theorem dX6_busAfter_35 : decode cX6_busAfter 35 = .ok (.if_icmp .ge 5, 3) := by decide +kernel
theorem dX6_busAfter_38 : decode cX6_busAfter 38 = .ok (.iconst (-1), 1) := by decide +kernel
theorem dX6_busAfter_39 : decode cX6_busAfter 39 = .ok (.ireturn, 1) := by decide +kernel
theorem dX6_busAfter_40 : decode cX6_busAfter 40 = .ok (.aload_n 0, 1) := by decide +kernel
theorem dX6_busAfter_41 : decode cX6_busAfter 41 = .ok (.getfield 40, 3) := by decide +kernel
theorem dX6_busAfter_44 : decode cX6_busAfter 44 = .ok (.aload_n 2, 1) := by decide +kernel
theorem dX6_busAfter_45 : decode cX6_busAfter 45 = .ok (.getfield 156, 3) := by decide +kernel
theorem dX6_busAfter_48 : decode cX6_busAfter 48 = .ok (.iaload, 1) := by decide +kernel
theorem dX6_busAfter_49 : decode cX6_busAfter 49 = .ok (.aload_n 2, 1) := by decide +kernel
theorem dX6_busAfter_50 : decode cX6_busAfter 50 = .ok (.getfield 159, 3) := by decide +kernel
theorem dX6_busAfter_53 : decode cX6_busAfter 53 = .ok (.isub, 1) := by decide +kernel
theorem dX6_busAfter_54 : decode cX6_busAfter 54 = .ok (.iload_n 3, 1) := by decide +kernel
theorem dX6_busAfter_55 : decode cX6_busAfter 55 = .ok (.invokestatic 202, 3) := by decide +kernel
theorem dX6_busAfter_58 : decode cX6_busAfter 58 = .ok (.ireturn, 1) := by decide +kernel
theorem dX6_place_0 : decode cX6_place 0 = .ok (.iload_n 1, 1) := by decide +kernel
theorem dX6_place_1 : decode cX6_place 1 = .ok (.aload_n 0, 1) := by decide +kernel
theorem dX6_place_2 : decode cX6_place 2 = .ok (.getfield 64, 3) := by decide +kernel
theorem dX6_place_5 : decode cX6_place 5 = .ok (.invokestatic 84, 3) := by decide +kernel
theorem dX6_place_8 : decode cX6_place 8 = .ok (.aload_n 0, 1) := by decide +kernel
theorem dX6_place_9 : decode cX6_place 9 = .ok (.iload_n 1, 1) := by decide +kernel
theorem dX6_place_10 : decode cX6_place 10 = .ok (.aload_n 0, 1) := by decide +kernel
theorem dX6_place_11 : decode cX6_place 11 = .ok (.getfield 77, 3) := by decide +kernel
theorem dX6_place_14 : decode cX6_place 14 = .ok (.invokevirtual 180, 3) := by decide +kernel
theorem dX6_place_17 : decode cX6_place 17 = .ok (.ireturn, 1) := by decide +kernel
theorem dX6_placeByLine_0 : decode cX6_placeByLine 0 = .ok (.iload_n 1, 1) := by decide +kernel
theorem dX6_placeByLine_1 : decode cX6_placeByLine 1 = .ok (.aload_n 0, 1) := by decide +kernel
theorem dX6_placeByLine_2 : decode cX6_placeByLine 2 = .ok (.getfield 64, 3) := by decide +kernel
theorem dX6_placeByLine_5 : decode cX6_placeByLine 5 = .ok (.invokestatic 84, 3) := by decide +kernel
theorem dX6_placeByLine_8 : decode cX6_placeByLine 8 = .ok (.iload_n 2, 1) := by decide +kernel
theorem dX6_placeByLine_9 : decode cX6_placeByLine 9 = .ok (.iconst 0, 1) := by decide +kernel
theorem dX6_placeByLine_10 : decode cX6_placeByLine 10 = .ok (.aload_n 0, 1) := by decide +kernel
theorem dX6_placeByLine_11 : decode cX6_placeByLine 11 = .ok (.getfield 77, 3) := by decide +kernel
theorem dX6_placeByLine_14 : decode cX6_placeByLine 14 = .ok (.invokestatic 88, 3) := by decide +kernel
theorem dX6_placeByLine_17 : decode cX6_placeByLine 17 = .ok (.invokestatic 92, 3) := by decide +kernel
theorem dX6_placeByLine_20 : decode cX6_placeByLine 20 = .ok (.aload_n 0, 1) := by decide +kernel
theorem dX6_placeByLine_21 : decode cX6_placeByLine 21 = .ok (.iload_n 1, 1) := by decide +kernel
theorem dX6_placeByLine_22 : decode cX6_placeByLine 22 = .ok (.iload_n 2, 1) := by decide +kernel
theorem dX6_placeByLine_23 : decode cX6_placeByLine 23 = .ok (.invokevirtual 180, 3) := by decide +kernel
theorem dX6_placeByLine_26 : decode cX6_placeByLine 26 = .ok (.ireturn, 1) := by decide +kernel
theorem dX6_fuel_0 : decode cX6_fuel 0 = .ok (.aload_n 0, 1) := by decide +kernel
theorem dX6_fuel_1 : decode cX6_fuel 1 = .ok (.iload_n 1, 1) := by decide +kernel
theorem dX6_fuel_2 : decode cX6_fuel 2 = .ok (.invokevirtual 99, 3) := by decide +kernel
theorem dX6_fuel_5 : decode cX6_fuel 5 = .ok (.getfield 121, 3) := by decide +kernel
theorem dX6_fuel_8 : decode cX6_fuel 8 = .ok (.ireturn, 1) := by decide +kernel
theorem dX6_book_0 : decode cX6_book 0 = .ok (.iload_n 1, 1) := by decide +kernel
theorem dX6_book_1 : decode cX6_book 1 = .ok (.bipush 10, 2) := by decide +kernel
theorem dX6_book_3 : decode cX6_book 3 = .ok (.invokestatic 84, 3) := by decide +kernel
theorem dX6_book_6 : decode cX6_book 6 = .ok (.aload_n 0, 1) := by decide +kernel
theorem dX6_book_7 : decode cX6_book 7 = .ok (.iload_n 2, 1) := by decide +kernel
theorem dX6_book_8 : decode cX6_book 8 = .ok (.invokevirtual 152, 3) := by decide +kernel
theorem dX6_book_11 : decode cX6_book 11 = .ok (.astore 7, 2) := by decide +kernel
theorem dX6_book_13 : decode cX6_book 13 = .ok (.iload_n 3, 1) := by decide +kernel
theorem dX6_book_14 : decode cX6_book 14 = .ok (.iload 4, 2) := by decide +kernel
theorem dX6_book_16 : decode cX6_book 16 = .ok (.iload 5, 2) := by decide +kernel
theorem dX6_book_18 : decode cX6_book 18 = .ok (.iload 6, 2) := by decide +kernel
theorem dX6_book_20 : decode cX6_book 20 = .ok (.invokestatic 207, 3) := by decide +kernel
theorem dX6_book_23 : decode cX6_book 23 = .ok (.invokestatic 92, 3) := by decide +kernel
theorem dX6_book_26 : decode cX6_book 26 = .ok (.aload 7, 2) := by decide +kernel
theorem dX6_book_28 : decode cX6_book 28 = .ok (.getfield 166, 3) := by decide +kernel
theorem dX6_book_31 : decode cX6_book 31 = .ok (.ifCond .ne 16, 3) := by decide +kernel
theorem dX6_book_34 : decode cX6_book 34 = .ok (.aload_n 0, 1) := by decide +kernel
theorem dX6_book_35 : decode cX6_book 35 = .ok (.getfield 74, 3) := by decide +kernel
theorem dX6_book_38 : decode cX6_book 38 = .ok (.bipush 40, 2) := by decide +kernel
theorem dX6_book_40 : decode cX6_book 40 = .ok (.if_icmp .ge 7, 3) := by decide +kernel
theorem dX6_book_43 : decode cX6_book 43 = .ok (.iconst 1, 1) := by decide +kernel
theorem dX6_book_44 : decode cX6_book 44 = .ok (.goto 4, 3) := by decide +kernel
theorem dX6_book_47 : decode cX6_book 47 = .ok (.iconst 0, 1) := by decide +kernel
theorem dX6_book_48 : decode cX6_book 48 = .ok (.invokestatic 96, 3) := by decide +kernel
theorem dX6_book_51 : decode cX6_book 51 = .ok (.aload_n 0, 1) := by decide +kernel
theorem dX6_book_52 : decode cX6_book 52 = .ok (.getfield 74, 3) := by decide +kernel
theorem dX6_book_55 : decode cX6_book 55 = .ok (.istore 8, 2) := by decide +kernel
theorem dX6_book_57 : decode cX6_book 57 = .ok (.aload_n 0, 1) := by decide +kernel
theorem dX6_book_58 : decode cX6_book 58 = .ok (.dup, 1) := by decide +kernel
theorem dX6_book_59 : decode cX6_book 59 = .ok (.getfield 74, 3) := by decide +kernel
theorem dX6_book_62 : decode cX6_book 62 = .ok (.iconst 1, 1) := by decide +kernel
theorem dX6_book_63 : decode cX6_book 63 = .ok (.iadd, 1) := by decide +kernel
theorem dX6_book_64 : decode cX6_book 64 = .ok (.putfield 74, 3) := by decide +kernel
theorem dX6_book_67 : decode cX6_book 67 = .ok (.aload_n 0, 1) := by decide +kernel
theorem dX6_book_68 : decode cX6_book 68 = .ok (.iload 8, 2) := by decide +kernel
theorem dX6_book_70 : decode cX6_book 70 = .ok (.invokevirtual 211, 3) := by decide +kernel
theorem dX6_book_73 : decode cX6_book 73 = .ok (.astore 9, 2) := by decide +kernel
theorem dX6_book_75 : decode cX6_book 75 = .ok (.aload 9, 2) := by decide +kernel
theorem dX6_book_77 : decode cX6_book 77 = .ok (.iload_n 2, 1) := by decide +kernel
theorem dX6_book_78 : decode cX6_book 78 = .ok (.putfield 215, 3) := by decide +kernel
theorem dX6_book_81 : decode cX6_book 81 = .ok (.aload 9, 2) := by decide +kernel
theorem dX6_book_83 : decode cX6_book 83 = .ok (.iload_n 3, 1) := by decide +kernel
theorem dX6_book_84 : decode cX6_book 84 = .ok (.putfield 218, 3) := by decide +kernel
theorem dX6_book_87 : decode cX6_book 87 = .ok (.aload 9, 2) := by decide +kernel
theorem dX6_book_89 : decode cX6_book 89 = .ok (.iload 4, 2) := by decide +kernel
theorem dX6_book_91 : decode cX6_book 91 = .ok (.putfield 221, 3) := by decide +kernel
theorem dX6_book_94 : decode cX6_book 94 = .ok (.aload 9, 2) := by decide +kernel
theorem dX6_book_96 : decode cX6_book 96 = .ok (.iload 5, 2) := by decide +kernel
theorem dX6_book_98 : decode cX6_book 98 = .ok (.putfield 224, 3) := by decide +kernel
theorem dX6_book_101 : decode cX6_book 101 = .ok (.aload 9, 2) := by decide +kernel
theorem dX6_book_103 : decode cX6_book 103 = .ok (.iload 6, 2) := by decide +kernel
theorem dX6_book_105 : decode cX6_book 105 = .ok (.putfield 227, 3) := by decide +kernel
theorem dX6_book_108 : decode cX6_book 108 = .ok (.aload 9, 2) := by decide +kernel
theorem dX6_book_110 : decode cX6_book 110 = .ok (.aload_n 0, 1) := by decide +kernel
theorem dX6_book_111 : decode cX6_book 111 = .ok (.getfield 33, 3) := by decide +kernel
theorem dX6_book_114 : decode cX6_book 114 = .ok (.iload_n 1, 1) := by decide +kernel
theorem dX6_book_115 : decode cX6_book 115 = .ok (.iaload, 1) := by decide +kernel
theorem dX6_book_116 : decode cX6_book 116 = .ok (.aload 7, 2) := by decide +kernel
theorem dX6_book_118 : decode cX6_book 118 = .ok (.getfield 183, 3) := by decide +kernel
theorem dX6_book_121 : decode cX6_book 121 = .ok (.if_icmp .eq 17, 3) := by decide +kernel
theorem dX6_book_124 : decode cX6_book 124 = .ok (.aload_n 0, 1) := by decide +kernel
theorem dX6_book_125 : decode cX6_book 125 = .ok (.getfield 33, 3) := by decide +kernel
theorem dX6_book_128 : decode cX6_book 128 = .ok (.iload_n 1, 1) := by decide +kernel
theorem dX6_book_129 : decode cX6_book 129 = .ok (.iaload, 1) := by decide +kernel
theorem dX6_book_130 : decode cX6_book 130 = .ok (.aload 7, 2) := by decide +kernel
theorem dX6_book_132 : decode cX6_book 132 = .ok (.getfield 156, 3) := by decide +kernel
theorem dX6_book_135 : decode cX6_book 135 = .ok (.if_icmp .ne 7, 3) := by decide +kernel
theorem dX6_book_138 : decode cX6_book 138 = .ok (.iconst 1, 1) := by decide +kernel
theorem dX6_book_139 : decode cX6_book 139 = .ok (.goto 4, 3) := by decide +kernel
theorem dX6_book_142 : decode cX6_book 142 = .ok (.iconst 0, 1) := by decide +kernel
theorem dX6_book_143 : decode cX6_book 143 = .ok (.putfield 230, 3) := by decide +kernel
theorem dX6_book_146 : decode cX6_book 146 = .ok (.aload_n 0, 1) := by decide +kernel
theorem dX6_book_147 : decode cX6_book 147 = .ok (.aload 9, 2) := by decide +kernel
theorem dX6_book_149 : decode cX6_book 149 = .ok (.iload_n 3, 1) := by decide +kernel
theorem dX6_book_150 : decode cX6_book 150 = .ok (.invokestatic 233, 3) := by decide +kernel
theorem dX6_book_153 : decode cX6_book 153 = .ok (.aload 7, 2) := by decide +kernel
theorem dX6_book_155 : decode cX6_book 155 = .ok (.getfield 192, 3) := by decide +kernel
theorem dX6_book_158 : decode cX6_book 158 = .ok (.imul, 1) := by decide +kernel
theorem dX6_book_159 : decode cX6_book 159 = .ok (.invokevirtual 236, 3) := by decide +kernel
theorem dX6_book_162 : decode cX6_book 162 = .ok (.iload 8, 2) := by decide +kernel
theorem dX6_book_164 : decode cX6_book 164 = .ok (.ireturn, 1) := by decide +kernel
theorem dX6_sailingOf_0 : decode cX6_sailingOf 0 = .ok (.aload_n 0, 1) := by decide +kernel
theorem dX6_sailingOf_1 : decode cX6_sailingOf 1 = .ok (.iload_n 1, 1) := by decide +kernel
theorem dX6_sailingOf_2 : decode cX6_sailingOf 2 = .ok (.invokevirtual 211, 3) := by decide +kernel
theorem dX6_sailingOf_5 : decode cX6_sailingOf 5 = .ok (.getfield 215, 3) := by decide +kernel
theorem dX6_sailingOf_8 : decode cX6_sailingOf 8 = .ok (.ireturn, 1) := by decide +kernel
theorem dX6_lane_0 : decode cX6_lane 0 = .ok (.aload_n 0, 1) := by decide +kernel
theorem dX6_lane_1 : decode cX6_lane 1 = .ok (.iload_n 1, 1) := by decide +kernel
theorem dX6_lane_2 : decode cX6_lane 2 = .ok (.invokevirtual 211, 3) := by decide +kernel
theorem dX6_lane_5 : decode cX6_lane 5 = .ok (.getfield 240, 3) := by decide +kernel
theorem dX6_lane_8 : decode cX6_lane 8 = .ok (.ireturn, 1) := by decide +kernel
theorem dX6_paid_0 : decode cX6_paid 0 = .ok (.aload_n 0, 1) := by decide +kernel
theorem dX6_paid_1 : decode cX6_paid 1 = .ok (.iload_n 1, 1) := by decide +kernel
theorem dX6_paid_2 : decode cX6_paid 2 = .ok (.invokevirtual 211, 3) := by decide +kernel
theorem dX6_paid_5 : decode cX6_paid 5 = .ok (.getfield 243, 3) := by decide +kernel
theorem dX6_paid_8 : decode cX6_paid 8 = .ok (.ireturn, 1) := by decide +kernel
theorem dX6_taken_0 : decode cX6_taken 0 = .ok (.iload_n 1, 1) := by decide +kernel
theorem dX6_taken_1 : decode cX6_taken 1 = .ok (.aload_n 0, 1) := by decide +kernel
theorem dX6_taken_2 : decode cX6_taken 2 = .ok (.getfield 71, 3) := by decide +kernel
theorem dX6_taken_5 : decode cX6_taken 5 = .ok (.invokestatic 84, 3) := by decide +kernel
theorem dX6_taken_8 : decode cX6_taken 8 = .ok (.iconst 0, 1) := by decide +kernel
theorem dX6_taken_9 : decode cX6_taken 9 = .ok (.istore_n 2, 1) := by decide +kernel
theorem dX6_taken_10 : decode cX6_taken 10 = .ok (.iconst 0, 1) := by decide +kernel
theorem dX6_taken_11 : decode cX6_taken 11 = .ok (.istore_n 3, 1) := by decide +kernel
theorem dX6_taken_12 : decode cX6_taken 12 = .ok (.iload_n 3, 1) := by decide +kernel
theorem dX6_taken_13 : decode cX6_taken 13 = .ok (.aload_n 0, 1) := by decide +kernel
theorem dX6_taken_14 : decode cX6_taken 14 = .ok (.getfield 74, 3) := by decide +kernel
theorem dX6_taken_17 : decode cX6_taken 17 = .ok (.if_icmp .ge 36, 3) := by decide +kernel
theorem dX6_taken_20 : decode cX6_taken 20 = .ok (.aload_n 0, 1) := by decide +kernel
theorem dX6_taken_21 : decode cX6_taken 21 = .ok (.iload_n 3, 1) := by decide +kernel
theorem dX6_taken_22 : decode cX6_taken 22 = .ok (.invokevirtual 211, 3) := by decide +kernel
theorem dX6_taken_25 : decode cX6_taken 25 = .ok (.astore 4, 2) := by decide +kernel
theorem dX6_taken_27 : decode cX6_taken 27 = .ok (.aload 4, 2) := by decide +kernel
theorem dX6_taken_29 : decode cX6_taken 29 = .ok (.getfield 215, 3) := by decide +kernel
theorem dX6_taken_32 : decode cX6_taken 32 = .ok (.iload_n 1, 1) := by decide +kernel
theorem dX6_taken_33 : decode cX6_taken 33 = .ok (.if_icmp .ne 14, 3) := by decide +kernel
theorem dX6_taken_36 : decode cX6_taken 36 = .ok (.aload 4, 2) := by decide +kernel
theorem dX6_taken_38 : decode cX6_taken 38 = .ok (.getfield 246, 3) := by decide +kernel
theorem dX6_taken_41 : decode cX6_taken 41 = .ok (.ifCond .eq 6, 3) := by decide +kernel
theorem dX6_taken_44 : decode cX6_taken 44 = .ok (.iinc 2 1, 3) := by decide +kernel
theorem dX6_taken_47 : decode cX6_taken 47 = .ok (.iinc 3 1, 3) := by decide +kernel
theorem dX6_taken_50 : decode cX6_taken 50 = .ok (.goto (-38), 3) := by decide +kernel
theorem dX6_taken_53 : decode cX6_taken 53 = .ok (.iload_n 2, 1) := by decide +kernel
theorem dX6_taken_54 : decode cX6_taken 54 = .ok (.ireturn, 1) := by decide +kernel
theorem dX6_list_0 : decode cX6_list 0 = .ok (.aload_n 0, 1) := by decide +kernel
theorem dX6_list_1 : decode cX6_list 1 = .ok (.iload_n 1, 1) := by decide +kernel
theorem dX6_list_2 : decode cX6_list 2 = .ok (.invokevirtual 152, 3) := by decide +kernel
theorem dX6_list_5 : decode cX6_list 5 = .ok (.astore_n 2, 1) := by decide +kernel
theorem dX6_list_6 : decode cX6_list 6 = .ok (.aload_n 2, 1) := by decide +kernel
theorem dX6_list_7 : decode cX6_list 7 = .ok (.getfield 166, 3) := by decide +kernel
theorem dX6_list_10 : decode cX6_list 10 = .ok (.iconst 2, 1) := by decide +kernel
theorem dX6_list_11 : decode cX6_list 11 = .ok (.if_icmp .eq 11, 3) := by decide +kernel
theorem dX6_list_14 : decode cX6_list 14 = .ok (.new 249, 3) := by decide +kernel
theorem dX6_list_17 : decode cX6_list 17 = .ok (.dup, 1) := by decide +kernel
theorem dX6_list_18 : decode cX6_list 18 = .ok (.invokespecial 251, 3) := by decide +kernel
theorem dX6_list_21 : decode cX6_list 21 = .ok (.athrow, 1) := by decide +kernel
theorem dX6_list_22 : decode cX6_list 22 = .ok (.aload_n 2, 1) := by decide +kernel
theorem dX6_list_23 : decode cX6_list 23 = .ok (.getfield 252, 3) := by decide +kernel
theorem dX6_list_26 : decode cX6_list 26 = .ok (.ireturn, 1) := by decide +kernel
theorem dX6_account_0 : decode cX6_account 0 = .ok (.iload_n 1, 1) := by decide +kernel
theorem dX6_account_1 : decode cX6_account 1 = .ok (.iconst 0, 1) := by decide +kernel
theorem dX6_account_2 : decode cX6_account 2 = .ok (.iconst 2, 1) := by decide +kernel
theorem dX6_account_3 : decode cX6_account 3 = .ok (.invokestatic 88, 3) := by decide +kernel
theorem dX6_account_6 : decode cX6_account 6 = .ok (.invokestatic 92, 3) := by decide +kernel
theorem dX6_account_9 : decode cX6_account 9 = .ok (.aload_n 0, 1) := by decide +kernel
theorem dX6_account_10 : decode cX6_account 10 = .ok (.getfield 43, 3) := by decide +kernel
theorem dX6_account_13 : decode cX6_account 13 = .ok (.iload_n 1, 1) := by decide +kernel
theorem dX6_account_14 : decode cX6_account 14 = .ok (.laload, 1) := by decide +kernel
theorem dX6_account_15 : decode cX6_account 15 = .ok (.lreturn, 1) := by decide +kernel
theorem dX6_accountAnew_0 : decode cX6_accountAnew 0 = .ok (.iload_n 1, 1) := by decide +kernel
theorem dX6_accountAnew_1 : decode cX6_accountAnew 1 = .ok (.ifCond .eq 8, 3) := by decide +kernel
theorem dX6_accountAnew_4 : decode cX6_accountAnew 4 = .ok (.iload_n 1, 1) := by decide +kernel
theorem dX6_accountAnew_5 : decode cX6_accountAnew 5 = .ok (.iconst 1, 1) := by decide +kernel
theorem dX6_accountAnew_6 : decode cX6_accountAnew 6 = .ok (.if_icmp .ne 7, 3) := by decide +kernel
theorem dX6_accountAnew_9 : decode cX6_accountAnew 9 = .ok (.iconst 1, 1) := by decide +kernel
theorem dX6_accountAnew_10 : decode cX6_accountAnew 10 = .ok (.goto 4, 3) := by decide +kernel
theorem dX6_accountAnew_13 : decode cX6_accountAnew 13 = .ok (.iconst 0, 1) := by decide +kernel
theorem dX6_accountAnew_14 : decode cX6_accountAnew 14 = .ok (.invokestatic 92, 3) := by decide +kernel
theorem dX6_accountAnew_17 : decode cX6_accountAnew 17 = .ok (.lconst 0, 1) := by decide +kernel
theorem dX6_accountAnew_18 : decode cX6_accountAnew 18 = .ok (.lstore_n 2, 1) := by decide +kernel
theorem dX6_accountAnew_19 : decode cX6_accountAnew 19 = .ok (.iconst 0, 1) := by decide +kernel
theorem dX6_accountAnew_20 : decode cX6_accountAnew 20 = .ok (.istore 4, 2) := by decide +kernel
theorem dX6_accountAnew_22 : decode cX6_accountAnew 22 = .ok (.iload 4, 2) := by decide +kernel
theorem dX6_accountAnew_24 : decode cX6_accountAnew 24 = .ok (.aload_n 0, 1) := by decide +kernel
theorem dX6_accountAnew_25 : decode cX6_accountAnew 25 = .ok (.getfield 74, 3) := by decide +kernel
theorem dX6_accountAnew_28 : decode cX6_accountAnew 28 = .ok (.if_icmp .ge 48, 3) := by decide +kernel
theorem dX6_accountAnew_31 : decode cX6_accountAnew 31 = .ok (.aload_n 0, 1) := by decide +kernel
theorem dX6_accountAnew_32 : decode cX6_accountAnew 32 = .ok (.iload 4, 2) := by decide +kernel
theorem dX6_accountAnew_34 : decode cX6_accountAnew 34 = .ok (.invokevirtual 211, 3) := by decide +kernel
theorem dX6_accountAnew_37 : decode cX6_accountAnew 37 = .ok (.astore 5, 2) := by decide +kernel
theorem dX6_accountAnew_39 : decode cX6_accountAnew 39 = .ok (.aload 5, 2) := by decide +kernel
theorem dX6_accountAnew_41 : decode cX6_accountAnew 41 = .ok (.getfield 215, 3) := by decide +kernel
theorem dX6_accountAnew_44 : decode cX6_accountAnew 44 = .ok (.iconst (-1), 1) := by decide +kernel
theorem dX6_accountAnew_45 : decode cX6_accountAnew 45 = .ok (.if_icmp .eq 25, 3) := by decide +kernel
theorem dX6_accountAnew_48 : decode cX6_accountAnew 48 = .ok (.lload_n 2, 1) := by decide +kernel
theorem dX6_accountAnew_49 : decode cX6_accountAnew 49 = .ok (.iload_n 1, 1) := by decide +kernel
theorem dX6_accountAnew_50 : decode cX6_accountAnew 50 = .ok (.ifCond .ne 12, 3) := by decide +kernel
theorem dX6_accountAnew_53 : decode cX6_accountAnew 53 = .ok (.aload 5, 2) := by decide +kernel
theorem dX6_accountAnew_55 : decode cX6_accountAnew 55 = .ok (.getfield 243, 3) := by decide +kernel
theorem dX6_accountAnew_58 : decode cX6_accountAnew 58 = .ok (.i2l, 1) := by decide +kernel
theorem dX6_accountAnew_59 : decode cX6_accountAnew 59 = .ok (.goto 9, 3) := by decide +kernel
theorem dX6_accountAnew_62 : decode cX6_accountAnew 62 = .ok (.aload 5, 2) := by decide +kernel
theorem dX6_accountAnew_64 : decode cX6_accountAnew 64 = .ok (.getfield 255, 3) := by decide +kernel
theorem dX6_accountAnew_67 : decode cX6_accountAnew 67 = .ok (.i2l, 1) := by decide +kernel
theorem dX6_accountAnew_68 : decode cX6_accountAnew 68 = .ok (.ladd, 1) := by decide +kernel
theorem dX6_accountAnew_69 : decode cX6_accountAnew 69 = .ok (.lstore_n 2, 1) := by decide +kernel
theorem dX6_accountAnew_70 : decode cX6_accountAnew 70 = .ok (.iinc 4 1, 3) := by decide +kernel
theorem dX6_accountAnew_73 : decode cX6_accountAnew 73 = .ok (.goto (-51), 3) := by decide +kernel
theorem dX6_accountAnew_76 : decode cX6_accountAnew 76 = .ok (.lload_n 2, 1) := by decide +kernel
theorem dX6_accountAnew_77 : decode cX6_accountAnew 77 = .ok (.lreturn, 1) := by decide +kernel
theorem dX6_isWithin_0 : decode cX6_isWithin 0 = .ok (.iload_n 1, 1) := by decide +kernel
theorem dX6_isWithin_1 : decode cX6_isWithin 1 = .ok (.iload_n 0, 1) := by decide +kernel
theorem dX6_isWithin_2 : decode cX6_isWithin 2 = .ok (.if_icmp .gt 12, 3) := by decide +kernel
theorem dX6_isWithin_5 : decode cX6_isWithin 5 = .ok (.iload_n 0, 1) := by decide +kernel
theorem dX6_isWithin_6 : decode cX6_isWithin 6 = .ok (.iload_n 2, 1) := by decide +kernel
theorem dX6_isWithin_7 : decode cX6_isWithin 7 = .ok (.if_icmp .gt 7, 3) := by decide +kernel
theorem dX6_isWithin_10 : decode cX6_isWithin 10 = .ok (.iconst 1, 1) := by decide +kernel
theorem dX6_isWithin_11 : decode cX6_isWithin 11 = .ok (.goto 4, 3) := by decide +kernel
theorem dX6_isWithin_14 : decode cX6_isWithin 14 = .ok (.iconst 0, 1) := by decide +kernel
theorem dX6_isWithin_15 : decode cX6_isWithin 15 = .ok (.ireturn, 1) := by decide +kernel
theorem dX6_demandIndex_0 : decode cX6_demandIndex 0 = .ok (.iload_n 0, 1) := by decide +kernel
theorem dX6_demandIndex_1 : decode cX6_demandIndex 1 = .ok (.ifCond .lt 8, 3) := by decide +kernel
theorem dX6_demandIndex_4 : decode cX6_demandIndex 4 = .ok (.iload_n 0, 1) := by decide +kernel
theorem dX6_demandIndex_5 : decode cX6_demandIndex 5 = .ok (.iload_n 1, 1) := by decide +kernel
theorem dX6_demandIndex_6 : decode cX6_demandIndex 6 = .ok (.if_icmp .lt 11, 3) := by decide +kernel
theorem dX6_demandIndex_9 : decode cX6_demandIndex 9 = .ok (.new 258, 3) := by decide +kernel
theorem dX6_demandIndex_12 : decode cX6_demandIndex 12 = .ok (.dup, 1) := by decide +kernel
theorem dX6_demandIndex_13 : decode cX6_demandIndex 13 = .ok (.invokespecial 260, 3) := by decide +kernel
theorem dX6_demandIndex_16 : decode cX6_demandIndex 16 = .ok (.athrow, 1) := by decide +kernel
theorem dX6_demandIndex_17 : decode cX6_demandIndex 17 = .ok (.return_, 1) := by decide +kernel
theorem dX6_demandArgument_0 : decode cX6_demandArgument 0 = .ok (.iload_n 0, 1) := by decide +kernel
theorem dX6_demandArgument_1 : decode cX6_demandArgument 1 = .ok (.ifCond .ne 11, 3) := by decide +kernel
theorem dX6_demandArgument_4 : decode cX6_demandArgument 4 = .ok (.new 261, 3) := by decide +kernel
theorem dX6_demandArgument_7 : decode cX6_demandArgument 7 = .ok (.dup, 1) := by decide +kernel
theorem dX6_demandArgument_8 : decode cX6_demandArgument 8 = .ok (.invokespecial 263, 3) := by decide +kernel
theorem dX6_demandArgument_11 : decode cX6_demandArgument 11 = .ok (.athrow, 1) := by decide +kernel
theorem dX6_demandArgument_12 : decode cX6_demandArgument 12 = .ok (.return_, 1) := by decide +kernel
theorem dX6_demandState_0 : decode cX6_demandState 0 = .ok (.iload_n 0, 1) := by decide +kernel
theorem dX6_demandState_1 : decode cX6_demandState 1 = .ok (.ifCond .ne 11, 3) := by decide +kernel
theorem dX6_demandState_4 : decode cX6_demandState 4 = .ok (.new 264, 3) := by decide +kernel
theorem dX6_demandState_7 : decode cX6_demandState 7 = .ok (.dup, 1) := by decide +kernel
theorem dX6_demandState_8 : decode cX6_demandState 8 = .ok (.invokespecial 266, 3) := by decide +kernel
theorem dX6_demandState_11 : decode cX6_demandState 11 = .ok (.athrow, 1) := by decide +kernel
theorem dX6_demandState_12 : decode cX6_demandState 12 = .ok (.return_, 1) := by decide +kernel
theorem dX6_knownShip_0 : decode cX6_knownShip 0 = .ok (.iload_n 1, 1) := by decide +kernel
theorem dX6_knownShip_1 : decode cX6_knownShip 1 = .ok (.aload_n 0, 1) := by decide +kernel
theorem dX6_knownShip_2 : decode cX6_knownShip 2 = .ok (.getfield 64, 3) := by decide +kernel
theorem dX6_knownShip_5 : decode cX6_knownShip 5 = .ok (.invokestatic 84, 3) := by decide +kernel
theorem dX6_knownShip_8 : decode cX6_knownShip 8 = .ok (.aload_n 0, 1) := by decide +kernel
theorem dX6_knownShip_9 : decode cX6_knownShip 9 = .ok (.getfield 11, 3) := by decide +kernel
theorem dX6_knownShip_12 : decode cX6_knownShip 12 = .ok (.iload_n 1, 1) := by decide +kernel
theorem dX6_knownShip_13 : decode cX6_knownShip 13 = .ok (.aaload, 1) := by decide +kernel
theorem dX6_knownShip_14 : decode cX6_knownShip 14 = .ok (.areturn, 1) := by decide +kernel
theorem dX6_knownCrew_0 : decode cX6_knownCrew 0 = .ok (.iload_n 1, 1) := by decide +kernel
theorem dX6_knownCrew_1 : decode cX6_knownCrew 1 = .ok (.aload_n 0, 1) := by decide +kernel
theorem dX6_knownCrew_2 : decode cX6_knownCrew 2 = .ok (.getfield 68, 3) := by decide +kernel
theorem dX6_knownCrew_5 : decode cX6_knownCrew 5 = .ok (.invokestatic 84, 3) := by decide +kernel
theorem dX6_knownCrew_8 : decode cX6_knownCrew 8 = .ok (.aload_n 0, 1) := by decide +kernel
theorem dX6_knownCrew_9 : decode cX6_knownCrew 9 = .ok (.getfield 17, 3) := by decide +kernel
theorem dX6_knownCrew_12 : decode cX6_knownCrew 12 = .ok (.iload_n 1, 1) := by decide +kernel
theorem dX6_knownCrew_13 : decode cX6_knownCrew 13 = .ok (.aaload, 1) := by decide +kernel
theorem dX6_knownCrew_14 : decode cX6_knownCrew 14 = .ok (.areturn, 1) := by decide +kernel
theorem dX6_knownSailing_0 : decode cX6_knownSailing 0 = .ok (.iload_n 1, 1) := by decide +kernel
theorem dX6_knownSailing_1 : decode cX6_knownSailing 1 = .ok (.aload_n 0, 1) := by decide +kernel
theorem dX6_knownSailing_2 : decode cX6_knownSailing 2 = .ok (.getfield 71, 3) := by decide +kernel
theorem dX6_knownSailing_5 : decode cX6_knownSailing 5 = .ok (.invokestatic 84, 3) := by decide +kernel
theorem dX6_knownSailing_8 : decode cX6_knownSailing 8 = .ok (.aload_n 0, 1) := by decide +kernel
theorem dX6_knownSailing_9 : decode cX6_knownSailing 9 = .ok (.getfield 23, 3) := by decide +kernel
theorem dX6_knownSailing_12 : decode cX6_knownSailing 12 = .ok (.iload_n 1, 1) := by decide +kernel
theorem dX6_knownSailing_13 : decode cX6_knownSailing 13 = .ok (.aaload, 1) := by decide +kernel
theorem dX6_knownSailing_14 : decode cX6_knownSailing 14 = .ok (.areturn, 1) := by decide +kernel
theorem dX6_knownBooking_0 : decode cX6_knownBooking 0 = .ok (.iload_n 1, 1) := by decide +kernel
theorem dX6_knownBooking_1 : decode cX6_knownBooking 1 = .ok (.aload_n 0, 1) := by decide +kernel
theorem dX6_knownBooking_2 : decode cX6_knownBooking 2 = .ok (.getfield 74, 3) := by decide +kernel
theorem dX6_knownBooking_5 : decode cX6_knownBooking 5 = .ok (.invokestatic 84, 3) := by decide +kernel
theorem dX6_knownBooking_8 : decode cX6_knownBooking 8 = .ok (.aload_n 0, 1) := by decide +kernel
theorem dX6_knownBooking_9 : decode cX6_knownBooking 9 = .ok (.getfield 29, 3) := by decide +kernel
theorem dX6_knownBooking_12 : decode cX6_knownBooking 12 = .ok (.iload_n 1, 1) := by decide +kernel
theorem dX6_knownBooking_13 : decode cX6_knownBooking 13 = .ok (.aaload, 1) := by decide +kernel
theorem dX6_knownBooking_14 : decode cX6_knownBooking 14 = .ok (.areturn, 1) := by decide +kernel
theorem dX6_isBookable_0 : decode cX6_isBookable 0 = .ok (.iload_n 0, 1) := by decide +kernel
theorem dX6_isBookable_1 : decode cX6_isBookable 1 = .ok (.ifCond .ne 21, 3) := by decide +kernel
theorem dX6_isBookable_4 : decode cX6_isBookable 4 = .ok (.iload_n 1, 1) := by decide +kernel
theorem dX6_isBookable_5 : decode cX6_isBookable 5 = .ok (.ifCond .ne 15, 3) := by decide +kernel
theorem dX6_isBookable_8 : decode cX6_isBookable 8 = .ok (.iload_n 2, 1) := by decide +kernel
theorem dX6_isBookable_9 : decode cX6_isBookable 9 = .ok (.ifCond .ne 11, 3) := by decide +kernel
theorem dX6_isBookable_12 : decode cX6_isBookable 12 = .ok (.iload_n 3, 1) := by decide +kernel
theorem dX6_isBookable_13 : decode cX6_isBookable 13 = .ok (.ifCond .ne 7, 3) := by decide +kernel
theorem dX6_isBookable_16 : decode cX6_isBookable 16 = .ok (.iconst 1, 1) := by decide +kernel
theorem dX6_isBookable_17 : decode cX6_isBookable 17 = .ok (.goto 4, 3) := by decide +kernel
theorem dX6_isBookable_20 : decode cX6_isBookable 20 = .ok (.iconst 0, 1) := by decide +kernel
theorem dX6_isBookable_21 : decode cX6_isBookable 21 = .ok (.ireturn, 1) := by decide +kernel
theorem dX6_isBookable_22 : decode cX6_isBookable 22 = .ok (.iload_n 0, 1) := by decide +kernel
theorem dX6_isBookable_23 : decode cX6_isBookable 23 = .ok (.iconst 1, 1) := by decide +kernel
theorem dX6_isBookable_24 : decode cX6_isBookable 24 = .ok (.iconst 3, 1) := by decide +kernel
theorem dX6_isBookable_25 : decode cX6_isBookable 25 = .ok (.invokestatic 88, 3) := by decide +kernel
theorem dX6_isBookable_28 : decode cX6_isBookable 28 = .ok (.ifCond .eq 28, 3) := by decide +kernel
theorem dX6_isBookable_31 : decode cX6_isBookable 31 = .ok (.iload_n 1, 1) := by decide +kernel
theorem dX6_isBookable_32 : decode cX6_isBookable 32 = .ok (.iconst 1, 1) := by decide +kernel
theorem dX6_isBookable_33 : decode cX6_isBookable 33 = .ok (.bipush 40, 2) := by decide +kernel
theorem dX6_isBookable_35 : decode cX6_isBookable 35 = .ok (.invokestatic 88, 3) := by decide +kernel
theorem dX6_isBookable_38 : decode cX6_isBookable 38 = .ok (.ifCond .eq 18, 3) := by decide +kernel
theorem dX6_isBookable_41 : decode cX6_isBookable 41 = .ok (.iload_n 2, 1) := by decide +kernel
theorem dX6_isBookable_42 : decode cX6_isBookable 42 = .ok (.iconst 1, 1) := by decide +kernel
theorem dX6_isBookable_43 : decode cX6_isBookable 43 = .ok (.sipush 200, 3) := by decide +kernel
theorem dX6_isBookable_46 : decode cX6_isBookable 46 = .ok (.invokestatic 88, 3) := by decide +kernel
theorem dX6_isBookable_49 : decode cX6_isBookable 49 = .ok (.ifCond .eq 7, 3) := by decide +kernel
theorem dX6_isBookable_52 : decode cX6_isBookable 52 = .ok (.iconst 1, 1) := by decide +kernel
theorem dX6_isBookable_53 : decode cX6_isBookable 53 = .ok (.goto 4, 3) := by decide +kernel
theorem dX6_isBookable_56 : decode cX6_isBookable 56 = .ok (.iconst 0, 1) := by decide +kernel
theorem dX6_isBookable_57 : decode cX6_isBookable 57 = .ok (.ireturn, 1) := by decide +kernel
theorem dX6_spanFor_0 : decode cX6_spanFor 0 = .ok (.iload_n 1, 1) := by decide +kernel
theorem dX6_spanFor_1 : decode cX6_spanFor 1 = .ok (.iconst 2, 1) := by decide +kernel
theorem dX6_spanFor_2 : decode cX6_spanFor 2 = .ok (.if_icmp .ne 12, 3) := by decide +kernel
theorem dX6_spanFor_5 : decode cX6_spanFor 5 = .ok (.aload_n 0, 1) := by decide +kernel
theorem dX6_spanFor_6 : decode cX6_spanFor 6 = .ok (.iload_n 2, 1) := by decide +kernel
theorem dX6_spanFor_7 : decode cX6_spanFor 7 = .ok (.invokevirtual 99, 3) := by decide +kernel
theorem dX6_spanFor_10 : decode cX6_spanFor 10 = .ok (.getfield 186, 3) := by decide +kernel
theorem dX6_spanFor_13 : decode cX6_spanFor 13 = .ok (.areturn, 1) := by decide +kernel
theorem dX6_spanFor_14 : decode cX6_spanFor 14 = .ok (.iload_n 1, 1) := by decide +kernel
theorem dX6_spanFor_15 : decode cX6_spanFor 15 = .ok (.ifCond .eq 8, 3) := by decide +kernel
theorem dX6_spanFor_18 : decode cX6_spanFor 18 = .ok (.iload_n 1, 1) := by decide +kernel
theorem dX6_spanFor_19 : decode cX6_spanFor 19 = .ok (.iconst 1, 1) := by decide +kernel
theorem dX6_spanFor_20 : decode cX6_spanFor 20 = .ok (.if_icmp .ne 7, 3) := by decide +kernel
theorem dX6_spanFor_23 : decode cX6_spanFor 23 = .ok (.iconst 1, 1) := by decide +kernel
theorem dX6_spanFor_24 : decode cX6_spanFor 24 = .ok (.goto 4, 3) := by decide +kernel
theorem dX6_spanFor_27 : decode cX6_spanFor 27 = .ok (.iconst 0, 1) := by decide +kernel
theorem dX6_spanFor_28 : decode cX6_spanFor 28 = .ok (.invokestatic 92, 3) := by decide +kernel
theorem dX6_spanFor_31 : decode cX6_spanFor 31 = .ok (.iload_n 1, 1) := by decide +kernel
theorem dX6_spanFor_32 : decode cX6_spanFor 32 = .ok (.ifCond .ne 10, 3) := by decide +kernel
theorem dX6_spanFor_35 : decode cX6_spanFor 35 = .ok (.aload_n 0, 1) := by decide +kernel
theorem dX6_spanFor_36 : decode cX6_spanFor 36 = .ok (.getfield 50, 3) := by decide +kernel
theorem dX6_spanFor_39 : decode cX6_spanFor 39 = .ok (.goto 7, 3) := by decide +kernel
theorem dX6_spanFor_42 : decode cX6_spanFor 42 = .ok (.aload_n 0, 1) := by decide +kernel
theorem dX6_spanFor_43 : decode cX6_spanFor 43 = .ok (.getfield 54, 3) := by decide +kernel
theorem dX6_spanFor_46 : decode cX6_spanFor 46 = .ok (.areturn, 1) := by decide +kernel
theorem dX6_depthAt_0 : decode cX6_depthAt 0 = .ok (.iconst 3, 1) := by decide +kernel
theorem dX6_depthAt_1 : decode cX6_depthAt 1 = .ok (.iload_n 1, 1) := by decide +kernel
theorem dX6_depthAt_2 : decode cX6_depthAt 2 = .ok (.iconst 2, 1) := by decide +kernel
theorem dX6_depthAt_3 : decode cX6_depthAt 3 = .ok (.iload_n 0, 1) := by decide +kernel
theorem dX6_depthAt_4 : decode cX6_depthAt 4 = .ok (.imul, 1) := by decide +kernel
theorem dX6_depthAt_5 : decode cX6_depthAt 5 = .ok (.iadd, 1) := by decide +kernel
theorem dX6_depthAt_6 : decode cX6_depthAt 6 = .ok (.bipush 12, 2) := by decide +kernel
theorem dX6_depthAt_8 : decode cX6_depthAt 8 = .ok (.irem, 1) := by decide +kernel
theorem dX6_depthAt_9 : decode cX6_depthAt 9 = .ok (.bipush 6, 2) := by decide +kernel
theorem dX6_depthAt_11 : decode cX6_depthAt 11 = .ok (.isub, 1) := by decide +kernel
theorem dX6_depthAt_12 : decode cX6_depthAt 12 = .ok (.invokestatic 267, 3) := by decide +kernel
theorem dX6_depthAt_15 : decode cX6_depthAt 15 = .ok (.iadd, 1) := by decide +kernel
theorem dX6_depthAt_16 : decode cX6_depthAt 16 = .ok (.ireturn, 1) := by decide +kernel
theorem dX6_lastSailing_0 : decode cX6_lastSailing 0 = .ok (.iconst (-1), 1) := by decide +kernel
theorem dX6_lastSailing_1 : decode cX6_lastSailing 1 = .ok (.istore_n 2, 1) := by decide +kernel
theorem dX6_lastSailing_2 : decode cX6_lastSailing 2 = .ok (.iconst 0, 1) := by decide +kernel
theorem dX6_lastSailing_3 : decode cX6_lastSailing 3 = .ok (.istore_n 3, 1) := by decide +kernel
theorem dX6_lastSailing_4 : decode cX6_lastSailing 4 = .ok (.iload_n 3, 1) := by decide +kernel
theorem dX6_lastSailing_5 : decode cX6_lastSailing 5 = .ok (.aload_n 0, 1) := by decide +kernel
theorem dX6_lastSailing_6 : decode cX6_lastSailing 6 = .ok (.getfield 71, 3) := by decide +kernel
theorem dX6_lastSailing_9 : decode cX6_lastSailing 9 = .ok (.if_icmp .ge 36, 3) := by decide +kernel
theorem dX6_lastSailing_12 : decode cX6_lastSailing 12 = .ok (.aload_n 0, 1) := by decide +kernel
theorem dX6_lastSailing_13 : decode cX6_lastSailing 13 = .ok (.iload_n 3, 1) := by decide +kernel
theorem dX6_lastSailing_14 : decode cX6_lastSailing 14 = .ok (.invokevirtual 152, 3) := by decide +kernel
theorem dX6_lastSailing_17 : decode cX6_lastSailing 17 = .ok (.astore 4, 2) := by decide +kernel
theorem dX6_lastSailing_19 : decode cX6_lastSailing 19 = .ok (.aload 4, 2) := by decide +kernel
theorem dX6_lastSailing_21 : decode cX6_lastSailing 21 = .ok (.getfield 270, 3) := by decide +kernel
theorem dX6_lastSailing_24 : decode cX6_lastSailing 24 = .ok (.iload_n 1, 1) := by decide +kernel
theorem dX6_lastSailing_25 : decode cX6_lastSailing 25 = .ok (.if_icmp .ne 14, 3) := by decide +kernel
theorem dX6_lastSailing_28 : decode cX6_lastSailing 28 = .ok (.aload 4, 2) := by decide +kernel
theorem dX6_lastSailing_30 : decode cX6_lastSailing 30 = .ok (.getfield 166, 3) := by decide +kernel
theorem dX6_lastSailing_33 : decode cX6_lastSailing 33 = .ok (.iconst 1, 1) := by decide +kernel
theorem dX6_lastSailing_34 : decode cX6_lastSailing 34 = .ok (.if_icmp .eq 5, 3) := by decide +kernel
theorem dX6_lastSailing_37 : decode cX6_lastSailing 37 = .ok (.iload_n 3, 1) := by decide +kernel
theorem dX6_lastSailing_38 : decode cX6_lastSailing 38 = .ok (.istore_n 2, 1) := by decide +kernel
theorem dX6_lastSailing_39 : decode cX6_lastSailing 39 = .ok (.iinc 3 1, 3) := by decide +kernel
theorem dX6_lastSailing_42 : decode cX6_lastSailing 42 = .ok (.goto (-38), 3) := by decide +kernel
theorem dX6_lastSailing_45 : decode cX6_lastSailing 45 = .ok (.iload_n 2, 1) := by decide +kernel
theorem dX6_lastSailing_46 : decode cX6_lastSailing 46 = .ok (.ireturn, 1) := by decide +kernel
theorem dX6_whereWas_0 : decode cX6_whereWas 0 = .ok (.aload_n 0, 1) := by decide +kernel
theorem dX6_whereWas_1 : decode cX6_whereWas 1 = .ok (.iload_n 1, 1) := by decide +kernel
theorem dX6_whereWas_2 : decode cX6_whereWas 2 = .ok (.invokevirtual 99, 3) := by decide +kernel
theorem dX6_whereWas_5 : decode cX6_whereWas 5 = .ok (.getfield 103, 3) := by decide +kernel
theorem dX6_whereWas_8 : decode cX6_whereWas 8 = .ok (.istore_n 3, 1) := by decide +kernel
theorem dX6_whereWas_9 : decode cX6_whereWas 9 = .ok (.iconst 0, 1) := by decide +kernel
theorem dX6_whereWas_10 : decode cX6_whereWas 10 = .ok (.istore 4, 2) := by decide +kernel
theorem dX6_whereWas_12 : decode cX6_whereWas 12 = .ok (.iload 4, 2) := by decide +kernel
theorem dX6_whereWas_14 : decode cX6_whereWas 14 = .ok (.aload_n 0, 1) := by decide +kernel
theorem dX6_whereWas_15 : decode cX6_whereWas 15 = .ok (.getfield 71, 3) := by decide +kernel
theorem dX6_whereWas_18 : decode cX6_whereWas 18 = .ok (.if_icmp .ge 63, 3) := by decide +kernel
theorem dX6_whereWas_21 : decode cX6_whereWas 21 = .ok (.aload_n 0, 1) := by decide +kernel
theorem dX6_whereWas_22 : decode cX6_whereWas 22 = .ok (.iload 4, 2) := by decide +kernel
theorem dX6_whereWas_24 : decode cX6_whereWas 24 = .ok (.invokevirtual 152, 3) := by decide +kernel
theorem dX6_whereWas_27 : decode cX6_whereWas 27 = .ok (.astore 5, 2) := by decide +kernel
theorem dX6_whereWas_29 : decode cX6_whereWas 29 = .ok (.aload 5, 2) := by decide +kernel
theorem dX6_whereWas_31 : decode cX6_whereWas 31 = .ok (.getfield 270, 3) := by decide +kernel
theorem dX6_whereWas_34 : decode cX6_whereWas 34 = .ok (.iload_n 1, 1) := by decide +kernel
theorem dX6_whereWas_35 : decode cX6_whereWas 35 = .ok (.if_icmp .ne 40, 3) := by decide +kernel
theorem dX6_whereWas_38 : decode cX6_whereWas 38 = .ok (.aload 5, 2) := by decide +kernel
theorem dX6_whereWas_40 : decode cX6_whereWas 40 = .ok (.getfield 166, 3) := by decide +kernel
theorem dX6_whereWas_43 : decode cX6_whereWas 43 = .ok (.iconst 2, 1) := by decide +kernel
theorem dX6_whereWas_44 : decode cX6_whereWas 44 = .ok (.if_icmp .ne 31, 3) := by decide +kernel
theorem dX6_whereWas_47 : decode cX6_whereWas 47 = .ok (.aload 5, 2) := by decide +kernel
theorem dX6_whereWas_49 : decode cX6_whereWas 49 = .ok (.getfield 271, 3) := by decide +kernel
theorem dX6_whereWas_52 : decode cX6_whereWas 52 = .ok (.iload_n 2, 1) := by decide +kernel
theorem dX6_whereWas_53 : decode cX6_whereWas 53 = .ok (.if_icmp .gt 22, 3) := by decide +kernel
theorem dX6_whereWas_56 : decode cX6_whereWas 56 = .ok (.iload_n 2, 1) := by decide +kernel
theorem dX6_whereWas_57 : decode cX6_whereWas 57 = .ok (.aload 5, 2) := by decide +kernel
theorem dX6_whereWas_59 : decode cX6_whereWas 59 = .ok (.getfield 159, 3) := by decide +kernel
theorem dX6_whereWas_62 : decode cX6_whereWas 62 = .ok (.if_icmp .ge 7, 3) := by decide +kernel
theorem dX6_whereWas_65 : decode cX6_whereWas 65 = .ok (.iconst (-1), 1) := by decide +kernel
theorem dX6_whereWas_66 : decode cX6_whereWas 66 = .ok (.goto 8, 3) := by decide +kernel
theorem dX6_whereWas_69 : decode cX6_whereWas 69 = .ok (.aload 5, 2) := by decide +kernel
theorem dX6_whereWas_71 : decode cX6_whereWas 71 = .ok (.getfield 156, 3) := by decide +kernel
theorem dX6_whereWas_74 : decode cX6_whereWas 74 = .ok (.istore_n 3, 1) := by decide +kernel
theorem dX6_whereWas_75 : decode cX6_whereWas 75 = .ok (.iinc 4 1, 3) := by decide +kernel
theorem dX6_whereWas_78 : decode cX6_whereWas 78 = .ok (.goto (-66), 3) := by decide +kernel
theorem dX6_whereWas_81 : decode cX6_whereWas 81 = .ok (.iload_n 3, 1) := by decide +kernel
theorem dX6_whereWas_82 : decode cX6_whereWas 82 = .ok (.ireturn, 1) := by decide +kernel
theorem dX6_isFree_0 : decode cX6_isFree 0 = .ok (.aload_n 0, 1) := by decide +kernel
theorem dX6_isFree_1 : decode cX6_isFree 1 = .ok (.iload_n 1, 1) := by decide +kernel
theorem dX6_isFree_2 : decode cX6_isFree 2 = .ok (.invokevirtual 148, 3) := by decide +kernel
theorem dX6_isFree_5 : decode cX6_isFree 5 = .ok (.istore_n 2, 1) := by decide +kernel
theorem dX6_isFree_6 : decode cX6_isFree 6 = .ok (.iload_n 2, 1) := by decide +kernel
theorem dX6_isFree_7 : decode cX6_isFree 7 = .ok (.iconst (-1), 1) := by decide +kernel
theorem dX6_isFree_8 : decode cX6_isFree 8 = .ok (.if_icmp .eq 30, 3) := by decide +kernel
theorem dX6_isFree_11 : decode cX6_isFree 11 = .ok (.aload_n 0, 1) := by decide +kernel
theorem dX6_isFree_12 : decode cX6_isFree 12 = .ok (.iload_n 2, 1) := by decide +kernel
theorem dX6_isFree_13 : decode cX6_isFree 13 = .ok (.invokevirtual 152, 3) := by decide +kernel
theorem dX6_isFree_16 : decode cX6_isFree 16 = .ok (.getfield 166, 3) := by decide +kernel
theorem dX6_isFree_19 : decode cX6_isFree 19 = .ok (.iconst 2, 1) := by decide +kernel
theorem dX6_isFree_20 : decode cX6_isFree 20 = .ok (.if_icmp .ne 22, 3) := by decide +kernel
theorem dX6_isFree_23 : decode cX6_isFree 23 = .ok (.aload_n 0, 1) := by decide +kernel
theorem dX6_isFree_24 : decode cX6_isFree 24 = .ok (.iload_n 2, 1) := by decide +kernel
theorem dX6_isFree_25 : decode cX6_isFree 25 = .ok (.invokevirtual 152, 3) := by decide +kernel
theorem dX6_isFree_28 : decode cX6_isFree 28 = .ok (.getfield 159, 3) := by decide +kernel
theorem dX6_isFree_31 : decode cX6_isFree 31 = .ok (.aload_n 0, 1) := by decide +kernel
theorem dX6_isFree_32 : decode cX6_isFree 32 = .ok (.getfield 77, 3) := by decide +kernel
theorem dX6_isFree_35 : decode cX6_isFree 35 = .ok (.if_icmp .gt 7, 3) := by decide +kernel
theorem dX6_isFree_38 : decode cX6_isFree 38 = .ok (.iconst 1, 1) := by decide +kernel
theorem dX6_isFree_39 : decode cX6_isFree 39 = .ok (.goto 4, 3) := by decide +kernel
theorem dX6_isFree_42 : decode cX6_isFree 42 = .ok (.iconst 0, 1) := by decide +kernel
theorem dX6_isFree_43 : decode cX6_isFree 43 = .ok (.ireturn, 1) := by decide +kernel
theorem dX6_addSailing_0 : decode cX6_addSailing 0 = .ok (.aload_n 0, 1) := by decide +kernel
theorem dX6_addSailing_1 : decode cX6_addSailing 1 = .ok (.getfield 71, 3) := by decide +kernel
theorem dX6_addSailing_4 : decode cX6_addSailing 4 = .ok (.istore 6, 2) := by decide +kernel
theorem dX6_addSailing_6 : decode cX6_addSailing 6 = .ok (.aload_n 0, 1) := by decide +kernel
theorem dX6_addSailing_7 : decode cX6_addSailing 7 = .ok (.dup, 1) := by decide +kernel
theorem dX6_addSailing_8 : decode cX6_addSailing 8 = .ok (.getfield 71, 3) := by decide +kernel
theorem dX6_addSailing_11 : decode cX6_addSailing 11 = .ok (.iconst 1, 1) := by decide +kernel
theorem dX6_addSailing_12 : decode cX6_addSailing 12 = .ok (.iadd, 1) := by decide +kernel
theorem dX6_addSailing_13 : decode cX6_addSailing 13 = .ok (.putfield 71, 3) := by decide +kernel
theorem dX6_addSailing_16 : decode cX6_addSailing 16 = .ok (.aload_n 0, 1) := by decide +kernel
theorem dX6_addSailing_17 : decode cX6_addSailing 17 = .ok (.iload 6, 2) := by decide +kernel
theorem dX6_addSailing_19 : decode cX6_addSailing 19 = .ok (.invokevirtual 152, 3) := by decide +kernel
theorem dX6_addSailing_22 : decode cX6_addSailing 22 = .ok (.astore 7, 2) := by decide +kernel
theorem dX6_addSailing_24 : decode cX6_addSailing 24 = .ok (.aload 7, 2) := by decide +kernel
theorem dX6_addSailing_26 : decode cX6_addSailing 26 = .ok (.iload_n 1, 1) := by decide +kernel
theorem dX6_addSailing_27 : decode cX6_addSailing 27 = .ok (.putfield 270, 3) := by decide +kernel
theorem dX6_addSailing_30 : decode cX6_addSailing 30 = .ok (.aload 7, 2) := by decide +kernel
theorem dX6_addSailing_32 : decode cX6_addSailing 32 = .ok (.iload_n 2, 1) := by decide +kernel
theorem dX6_addSailing_33 : decode cX6_addSailing 33 = .ok (.putfield 183, 3) := by decide +kernel
theorem dX6_addSailing_36 : decode cX6_addSailing 36 = .ok (.aload 7, 2) := by decide +kernel
theorem dX6_addSailing_38 : decode cX6_addSailing 38 = .ok (.iload_n 3, 1) := by decide +kernel
theorem dX6_addSailing_39 : decode cX6_addSailing 39 = .ok (.putfield 156, 3) := by decide +kernel
theorem dX6_addSailing_42 : decode cX6_addSailing 42 = .ok (.aload 7, 2) := by decide +kernel
theorem dX6_addSailing_44 : decode cX6_addSailing 44 = .ok (.iload 4, 2) := by decide +kernel
theorem dX6_addSailing_46 : decode cX6_addSailing 46 = .ok (.putfield 271, 3) := by decide +kernel
theorem dX6_addSailing_49 : decode cX6_addSailing 49 = .ok (.aload 7, 2) := by decide +kernel
theorem dX6_addSailing_51 : decode cX6_addSailing 51 = .ok (.iload 5, 2) := by decide +kernel
theorem dX6_addSailing_53 : decode cX6_addSailing 53 = .ok (.putfield 192, 3) := by decide +kernel
theorem dX6_addSailing_56 : decode cX6_addSailing 56 = .ok (.aload 7, 2) := by decide +kernel
theorem dX6_addSailing_58 : decode cX6_addSailing 58 = .ok (.iload 4, 2) := by decide +kernel
theorem dX6_addSailing_60 : decode cX6_addSailing 60 = .ok (.aload_n 0, 1) := by decide +kernel
theorem dX6_addSailing_61 : decode cX6_addSailing 61 = .ok (.iload_n 1, 1) := by decide +kernel
theorem dX6_addSailing_62 : decode cX6_addSailing 62 = .ok (.invokevirtual 99, 3) := by decide +kernel
theorem dX6_addSailing_65 : decode cX6_addSailing 65 = .ok (.iload 5, 2) := by decide +kernel
theorem dX6_addSailing_67 : decode cX6_addSailing 67 = .ok (.invokevirtual 274, 3) := by decide +kernel
theorem dX6_addSailing_70 : decode cX6_addSailing 70 = .ok (.iadd, 1) := by decide +kernel
theorem dX6_addSailing_71 : decode cX6_addSailing 71 = .ok (.putfield 159, 3) := by decide +kernel
theorem dX6_addSailing_74 : decode cX6_addSailing 74 = .ok (.iload 6, 2) := by decide +kernel
theorem dX6_addSailing_76 : decode cX6_addSailing 76 = .ok (.ireturn, 1) := by decide +kernel
theorem dX6_lookAt_0 : decode cX6_lookAt 0 = .ok (.aload_n 0, 1) := by decide +kernel
theorem dX6_lookAt_1 : decode cX6_lookAt 1 = .ok (.iload_n 1, 1) := by decide +kernel
theorem dX6_lookAt_2 : decode cX6_lookAt 2 = .ok (.invokevirtual 152, 3) := by decide +kernel
theorem dX6_lookAt_5 : decode cX6_lookAt 5 = .ok (.astore_n 2, 1) := by decide +kernel
theorem dX6_lookAt_6 : decode cX6_lookAt 6 = .ok (.aload_n 2, 1) := by decide +kernel
theorem dX6_lookAt_7 : decode cX6_lookAt 7 = .ok (.getfield 166, 3) := by decide +kernel
theorem dX6_lookAt_10 : decode cX6_lookAt 10 = .ok (.ifCond .ne 14, 3) := by decide +kernel
theorem dX6_lookAt_13 : decode cX6_lookAt 13 = .ok (.aload_n 2, 1) := by decide +kernel
theorem dX6_lookAt_14 : decode cX6_lookAt 14 = .ok (.getfield 271, 3) := by decide +kernel
theorem dX6_lookAt_17 : decode cX6_lookAt 17 = .ok (.aload_n 0, 1) := by decide +kernel
theorem dX6_lookAt_18 : decode cX6_lookAt 18 = .ok (.getfield 77, 3) := by decide +kernel
theorem dX6_lookAt_21 : decode cX6_lookAt 21 = .ok (.if_icmp .eq 4, 3) := by decide +kernel
theorem dX6_lookAt_24 : decode cX6_lookAt 24 = .ok (.return_, 1) := by decide +kernel
theorem dX6_lookAt_25 : decode cX6_lookAt 25 = .ok (.aload_n 0, 1) := by decide +kernel
theorem dX6_lookAt_26 : decode cX6_lookAt 26 = .ok (.iload_n 1, 1) := by decide +kernel
theorem dX6_lookAt_27 : decode cX6_lookAt 27 = .ok (.invokevirtual 277, 3) := by decide +kernel
theorem dX6_lookAt_30 : decode cX6_lookAt 30 = .ok (.istore_n 3, 1) := by decide +kernel
theorem dX6_lookAt_31 : decode cX6_lookAt 31 = .ok (.iload_n 3, 1) := by decide +kernel
theorem dX6_lookAt_32 : decode cX6_lookAt 32 = .ok (.ifCond .ne 11, 3) := by decide +kernel
theorem dX6_lookAt_35 : decode cX6_lookAt 35 = .ok (.aload_n 0, 1) := by decide +kernel
theorem dX6_lookAt_36 : decode cX6_lookAt 36 = .ok (.iload_n 1, 1) := by decide +kernel
theorem dX6_lookAt_37 : decode cX6_lookAt 37 = .ok (.invokevirtual 280, 3) := by decide +kernel
theorem dX6_lookAt_40 : decode cX6_lookAt 40 = .ok (.goto 10, 3) := by decide +kernel
theorem dX6_lookAt_43 : decode cX6_lookAt 43 = .ok (.aload_n 0, 1) := by decide +kernel
theorem dX6_lookAt_44 : decode cX6_lookAt 44 = .ok (.iload_n 1, 1) := by decide +kernel
theorem dX6_lookAt_45 : decode cX6_lookAt 45 = .ok (.iload_n 3, 1) := by decide +kernel
theorem dX6_lookAt_46 : decode cX6_lookAt 46 = .ok (.invokevirtual 169, 3) := by decide +kernel
theorem dX6_lookAt_49 : decode cX6_lookAt 49 = .ok (.pop, 1) := by decide +kernel
theorem dX6_lookAt_50 : decode cX6_lookAt 50 = .ok (.return_, 1) := by decide +kernel
theorem dX6_reasonAgainst_0 : decode cX6_reasonAgainst 0 = .ok (.aload_n 0, 1) := by decide +kernel
theorem dX6_reasonAgainst_1 : decode cX6_reasonAgainst 1 = .ok (.iload_n 1, 1) := by decide +kernel
theorem dX6_reasonAgainst_2 : decode cX6_reasonAgainst 2 = .ok (.invokevirtual 152, 3) := by decide +kernel
theorem dX6_reasonAgainst_5 : decode cX6_reasonAgainst 5 = .ok (.astore_n 2, 1) := by decide +kernel
theorem dX6_reasonAgainst_6 : decode cX6_reasonAgainst 6 = .ok (.aload_n 0, 1) := by decide +kernel
theorem dX6_reasonAgainst_7 : decode cX6_reasonAgainst 7 = .ok (.aload_n 2, 1) := by decide +kernel
theorem dX6_reasonAgainst_8 : decode cX6_reasonAgainst 8 = .ok (.getfield 270, 3) := by decide +kernel
theorem dX6_reasonAgainst_11 : decode cX6_reasonAgainst 11 = .ok (.invokevirtual 99, 3) := by decide +kernel
theorem dX6_reasonAgainst_14 : decode cX6_reasonAgainst 14 = .ok (.astore_n 3, 1) := by decide +kernel
theorem dX6_reasonAgainst_15 : decode cX6_reasonAgainst 15 = .ok (.aload_n 0, 1) := by decide +kernel
theorem dX6_reasonAgainst_16 : decode cX6_reasonAgainst 16 = .ok (.aload_n 2, 1) := by decide +kernel
theorem dX6_reasonAgainst_17 : decode cX6_reasonAgainst 17 = .ok (.getfield 270, 3) := by decide +kernel
theorem dX6_reasonAgainst_20 : decode cX6_reasonAgainst 20 = .ok (.aload_n 2, 1) := by decide +kernel
theorem dX6_reasonAgainst_21 : decode cX6_reasonAgainst 21 = .ok (.getfield 271, 3) := by decide +kernel
theorem dX6_reasonAgainst_24 : decode cX6_reasonAgainst 24 = .ok (.invokevirtual 180, 3) := by decide +kernel
theorem dX6_reasonAgainst_27 : decode cX6_reasonAgainst 27 = .ok (.aload_n 2, 1) := by decide +kernel
theorem dX6_reasonAgainst_28 : decode cX6_reasonAgainst 28 = .ok (.getfield 183, 3) := by decide +kernel
theorem dX6_reasonAgainst_31 : decode cX6_reasonAgainst 31 = .ok (.if_icmp .ne 17, 3) := by decide +kernel
theorem dX6_reasonAgainst_34 : decode cX6_reasonAgainst 34 = .ok (.aload_n 3, 1) := by decide +kernel
theorem dX6_reasonAgainst_35 : decode cX6_reasonAgainst 35 = .ok (.getfield 186, 3) := by decide +kernel
theorem dX6_reasonAgainst_38 : decode cX6_reasonAgainst 38 = .ok (.aload_n 2, 1) := by decide +kernel
theorem dX6_reasonAgainst_39 : decode cX6_reasonAgainst 39 = .ok (.getfield 271, 3) := by decide +kernel
theorem dX6_reasonAgainst_42 : decode cX6_reasonAgainst 42 = .ok (.invokevirtual 189, 3) := by decide +kernel
theorem dX6_reasonAgainst_45 : decode cX6_reasonAgainst 45 = .ok (.ifCond .eq 5, 3) := by decide +kernel
theorem dX6_reasonAgainst_48 : decode cX6_reasonAgainst 48 = .ok (.iconst 1, 1) := by decide +kernel
theorem dX6_reasonAgainst_49 : decode cX6_reasonAgainst 49 = .ok (.ireturn, 1) := by decide +kernel
theorem dX6_reasonAgainst_50 : decode cX6_reasonAgainst 50 = .ok (.aload_n 2, 1) := by decide +kernel
theorem dX6_reasonAgainst_51 : decode cX6_reasonAgainst 51 = .ok (.getfield 183, 3) := by decide +kernel
theorem dX6_reasonAgainst_54 : decode cX6_reasonAgainst 54 = .ok (.aload_n 2, 1) := by decide +kernel
theorem dX6_reasonAgainst_55 : decode cX6_reasonAgainst 55 = .ok (.getfield 271, 3) := by decide +kernel
theorem dX6_reasonAgainst_58 : decode cX6_reasonAgainst 58 = .ok (.invokestatic 141, 3) := by decide +kernel
theorem dX6_reasonAgainst_61 : decode cX6_reasonAgainst 61 = .ok (.aload_n 3, 1) := by decide +kernel
theorem dX6_reasonAgainst_62 : decode cX6_reasonAgainst 62 = .ok (.getfield 115, 3) := by decide +kernel
theorem dX6_reasonAgainst_65 : decode cX6_reasonAgainst 65 = .ok (.if_icmp .lt 21, 3) := by decide +kernel
theorem dX6_reasonAgainst_68 : decode cX6_reasonAgainst 68 = .ok (.aload_n 2, 1) := by decide +kernel
theorem dX6_reasonAgainst_69 : decode cX6_reasonAgainst 69 = .ok (.getfield 156, 3) := by decide +kernel
theorem dX6_reasonAgainst_72 : decode cX6_reasonAgainst 72 = .ok (.aload_n 2, 1) := by decide +kernel
theorem dX6_reasonAgainst_73 : decode cX6_reasonAgainst 73 = .ok (.getfield 159, 3) := by decide +kernel
theorem dX6_reasonAgainst_76 : decode cX6_reasonAgainst 76 = .ok (.invokestatic 141, 3) := by decide +kernel
theorem dX6_reasonAgainst_79 : decode cX6_reasonAgainst 79 = .ok (.aload_n 3, 1) := by decide +kernel
theorem dX6_reasonAgainst_80 : decode cX6_reasonAgainst 80 = .ok (.getfield 115, 3) := by decide +kernel
theorem dX6_reasonAgainst_83 : decode cX6_reasonAgainst 83 = .ok (.if_icmp .ge 5, 3) := by decide +kernel
theorem dX6_reasonAgainst_86 : decode cX6_reasonAgainst 86 = .ok (.iconst 2, 1) := by decide +kernel
theorem dX6_reasonAgainst_87 : decode cX6_reasonAgainst 87 = .ok (.ireturn, 1) := by decide +kernel
theorem dX6_reasonAgainst_88 : decode cX6_reasonAgainst 88 = .ok (.aload_n 0, 1) := by decide +kernel
theorem dX6_reasonAgainst_89 : decode cX6_reasonAgainst 89 = .ok (.getfield 50, 3) := by decide +kernel
theorem dX6_reasonAgainst_92 : decode cX6_reasonAgainst 92 = .ok (.aload_n 2, 1) := by decide +kernel
theorem dX6_reasonAgainst_93 : decode cX6_reasonAgainst 93 = .ok (.getfield 271, 3) := by decide +kernel
theorem dX6_reasonAgainst_96 : decode cX6_reasonAgainst 96 = .ok (.invokevirtual 189, 3) := by decide +kernel
theorem dX6_reasonAgainst_99 : decode cX6_reasonAgainst 99 = .ok (.ifCond .eq 5, 3) := by decide +kernel
theorem dX6_reasonAgainst_102 : decode cX6_reasonAgainst 102 = .ok (.iconst 3, 1) := by decide +kernel
theorem dX6_reasonAgainst_103 : decode cX6_reasonAgainst 103 = .ok (.ireturn, 1) := by decide +kernel
theorem dX6_reasonAgainst_104 : decode cX6_reasonAgainst 104 = .ok (.aload_n 0, 1) := by decide +kernel
theorem dX6_reasonAgainst_105 : decode cX6_reasonAgainst 105 = .ok (.getfield 54, 3) := by decide +kernel
theorem dX6_reasonAgainst_108 : decode cX6_reasonAgainst 108 = .ok (.aload_n 2, 1) := by decide +kernel
theorem dX6_reasonAgainst_109 : decode cX6_reasonAgainst 109 = .ok (.getfield 271, 3) := by decide +kernel
theorem dX6_reasonAgainst_112 : decode cX6_reasonAgainst 112 = .ok (.invokevirtual 189, 3) := by decide +kernel
theorem dX6_reasonAgainst_115 : decode cX6_reasonAgainst 115 = .ok (.ifCond .eq 12, 3) := by decide +kernel
theorem dX6_reasonAgainst_118 : decode cX6_reasonAgainst 118 = .ok (.iload_n 1, 1) := by decide +kernel
theorem dX6_reasonAgainst_119 : decode cX6_reasonAgainst 119 = .ok (.iconst 2, 1) := by decide +kernel
theorem dX6_reasonAgainst_120 : decode cX6_reasonAgainst 120 = .ok (.irem, 1) := by decide +kernel
theorem dX6_reasonAgainst_121 : decode cX6_reasonAgainst 121 = .ok (.iconst 1, 1) := by decide +kernel
theorem dX6_reasonAgainst_122 : decode cX6_reasonAgainst 122 = .ok (.if_icmp .ne 5, 3) := by decide +kernel
theorem dX6_reasonAgainst_125 : decode cX6_reasonAgainst 125 = .ok (.iconst 4, 1) := by decide +kernel
theorem dX6_reasonAgainst_126 : decode cX6_reasonAgainst 126 = .ok (.ireturn, 1) := by decide +kernel
theorem dX6_reasonAgainst_127 : decode cX6_reasonAgainst 127 = .ok (.aload_n 0, 1) := by decide +kernel
theorem dX6_reasonAgainst_128 : decode cX6_reasonAgainst 128 = .ok (.aload_n 2, 1) := by decide +kernel
theorem dX6_reasonAgainst_129 : decode cX6_reasonAgainst 129 = .ok (.invokevirtual 283, 3) := by decide +kernel
theorem dX6_reasonAgainst_132 : decode cX6_reasonAgainst 132 = .ok (.iconst (-1), 1) := by decide +kernel
theorem dX6_reasonAgainst_133 : decode cX6_reasonAgainst 133 = .ok (.if_icmp .ne 5, 3) := by decide +kernel
theorem dX6_reasonAgainst_136 : decode cX6_reasonAgainst 136 = .ok (.iconst 5, 1) := by decide +kernel
theorem dX6_reasonAgainst_137 : decode cX6_reasonAgainst 137 = .ok (.ireturn, 1) := by decide +kernel
theorem dX6_reasonAgainst_138 : decode cX6_reasonAgainst 138 = .ok (.aload_n 3, 1) := by decide +kernel
theorem dX6_reasonAgainst_139 : decode cX6_reasonAgainst 139 = .ok (.getfield 121, 3) := by decide +kernel
theorem dX6_reasonAgainst_142 : decode cX6_reasonAgainst 142 = .ok (.aload_n 3, 1) := by decide +kernel
theorem dX6_reasonAgainst_143 : decode cX6_reasonAgainst 143 = .ok (.aload_n 2, 1) := by decide +kernel
theorem dX6_reasonAgainst_144 : decode cX6_reasonAgainst 144 = .ok (.getfield 159, 3) := by decide +kernel
theorem dX6_reasonAgainst_147 : decode cX6_reasonAgainst 147 = .ok (.aload_n 2, 1) := by decide +kernel
theorem dX6_reasonAgainst_148 : decode cX6_reasonAgainst 148 = .ok (.getfield 271, 3) := by decide +kernel
theorem dX6_reasonAgainst_151 : decode cX6_reasonAgainst 151 = .ok (.isub, 1) := by decide +kernel
theorem dX6_reasonAgainst_152 : decode cX6_reasonAgainst 152 = .ok (.invokevirtual 287, 3) := by decide +kernel
theorem dX6_reasonAgainst_155 : decode cX6_reasonAgainst 155 = .ok (.if_icmp .ge 8, 3) := by decide +kernel
theorem dX6_reasonAgainst_158 : decode cX6_reasonAgainst 158 = .ok (.bipush 6, 2) := by decide +kernel
theorem dX6_reasonAgainst_160 : decode cX6_reasonAgainst 160 = .ok (.goto 4, 3) := by decide +kernel
theorem dX6_reasonAgainst_163 : decode cX6_reasonAgainst 163 = .ok (.iconst 0, 1) := by decide +kernel
theorem dX6_reasonAgainst_164 : decode cX6_reasonAgainst 164 = .ok (.ireturn, 1) := by decide +kernel
theorem dX6_crewFor_0 : decode cX6_crewFor 0 = .ok (.aload_n 1, 1) := by decide +kernel
theorem dX6_crewFor_1 : decode cX6_crewFor 1 = .ok (.getfield 271, 3) := by decide +kernel
theorem dX6_crewFor_4 : decode cX6_crewFor 4 = .ok (.bipush 24, 2) := by decide +kernel
theorem dX6_crewFor_6 : decode cX6_crewFor 6 = .ok (.idiv, 1) := by decide +kernel
theorem dX6_crewFor_7 : decode cX6_crewFor 7 = .ok (.istore_n 2, 1) := by decide +kernel
theorem dX6_crewFor_8 : decode cX6_crewFor 8 = .ok (.bipush 12, 2) := by decide +kernel
theorem dX6_crewFor_10 : decode cX6_crewFor 10 = .ok (.aload_n 1, 1) := by decide +kernel
theorem dX6_crewFor_11 : decode cX6_crewFor 11 = .ok (.getfield 159, 3) := by decide +kernel
theorem dX6_crewFor_14 : decode cX6_crewFor 14 = .ok (.aload_n 1, 1) := by decide +kernel
theorem dX6_crewFor_15 : decode cX6_crewFor 15 = .ok (.getfield 271, 3) := by decide +kernel
theorem dX6_crewFor_18 : decode cX6_crewFor 18 = .ok (.isub, 1) := by decide +kernel
theorem dX6_crewFor_19 : decode cX6_crewFor 19 = .ok (.isub, 1) := by decide +kernel
theorem dX6_crewFor_20 : decode cX6_crewFor 20 = .ok (.istore_n 3, 1) := by decide +kernel
theorem dX6_crewFor_21 : decode cX6_crewFor 21 = .ok (.iconst 0, 1) := by decide +kernel
theorem dX6_crewFor_22 : decode cX6_crewFor 22 = .ok (.istore 4, 2) := by decide +kernel
theorem dX6_crewFor_24 : decode cX6_crewFor 24 = .ok (.iload 4, 2) := by decide +kernel
theorem dX6_crewFor_26 : decode cX6_crewFor 26 = .ok (.aload_n 0, 1) := by decide +kernel
theorem dX6_crewFor_27 : decode cX6_crewFor 27 = .ok (.getfield 68, 3) := by decide +kernel
theorem dX6_crewFor_30 : decode cX6_crewFor 30 = .ok (.if_icmp .ge 55, 3) := by decide +kernel
theorem dX6_crewFor_33 : decode cX6_crewFor 33 = .ok (.aload_n 0, 1) := by decide +kernel
theorem dX6_crewFor_34 : decode cX6_crewFor 34 = .ok (.iload 4, 2) := by decide +kernel
theorem dX6_crewFor_36 : decode cX6_crewFor 36 = .ok (.invokevirtual 124, 3) := by decide +kernel
theorem dX6_crewFor_39 : decode cX6_crewFor 39 = .ok (.astore 5, 2) := by decide +kernel
theorem dX6_crewFor_41 : decode cX6_crewFor 41 = .ok (.aload 5, 2) := by decide +kernel
theorem dX6_crewFor_43 : decode cX6_crewFor 43 = .ok (.getfield 128, 3) := by decide +kernel
theorem dX6_crewFor_46 : decode cX6_crewFor 46 = .ok (.aload_n 1, 1) := by decide +kernel
theorem dX6_crewFor_47 : decode cX6_crewFor 47 = .ok (.getfield 270, 3) := by decide +kernel
theorem dX6_crewFor_50 : decode cX6_crewFor 50 = .ok (.if_icmp .ne 29, 3) := by decide +kernel
theorem dX6_crewFor_53 : decode cX6_crewFor 53 = .ok (.aload 5, 2) := by decide +kernel
theorem dX6_crewFor_55 : decode cX6_crewFor 55 = .ok (.getfield 131, 3) := by decide +kernel
theorem dX6_crewFor_58 : decode cX6_crewFor 58 = .ok (.iload_n 2, 1) := by decide +kernel
theorem dX6_crewFor_59 : decode cX6_crewFor 59 = .ok (.invokevirtual 189, 3) := by decide +kernel
theorem dX6_crewFor_62 : decode cX6_crewFor 62 = .ok (.ifCond .eq 17, 3) := by decide +kernel
theorem dX6_crewFor_65 : decode cX6_crewFor 65 = .ok (.aload_n 0, 1) := by decide +kernel
theorem dX6_crewFor_66 : decode cX6_crewFor 66 = .ok (.iload 4, 2) := by decide +kernel
theorem dX6_crewFor_68 : decode cX6_crewFor 68 = .ok (.iload_n 2, 1) := by decide +kernel
theorem dX6_crewFor_69 : decode cX6_crewFor 69 = .ok (.invokevirtual 137, 3) := by decide +kernel
theorem dX6_crewFor_72 : decode cX6_crewFor 72 = .ok (.iload_n 3, 1) := by decide +kernel
theorem dX6_crewFor_73 : decode cX6_crewFor 73 = .ok (.if_icmp .gt 6, 3) := by decide +kernel
theorem dX6_crewFor_76 : decode cX6_crewFor 76 = .ok (.iload 4, 2) := by decide +kernel
theorem dX6_crewFor_78 : decode cX6_crewFor 78 = .ok (.ireturn, 1) := by decide +kernel
theorem dX6_crewFor_79 : decode cX6_crewFor 79 = .ok (.iinc 4 1, 3) := by decide +kernel
theorem dX6_crewFor_82 : decode cX6_crewFor 82 = .ok (.goto (-58), 3) := by decide +kernel
theorem dX6_crewFor_85 : decode cX6_crewFor 85 = .ok (.iconst (-1), 1) := by decide +kernel
theorem dX6_crewFor_86 : decode cX6_crewFor 86 = .ok (.ireturn, 1) := by decide +kernel
theorem dX6_hoursSailed_0 : decode cX6_hoursSailed 0 = .ok (.iconst 0, 1) := by decide +kernel
theorem dX6_hoursSailed_1 : decode cX6_hoursSailed 1 = .ok (.istore_n 3, 1) := by decide +kernel
theorem dX6_hoursSailed_2 : decode cX6_hoursSailed 2 = .ok (.iconst 0, 1) := by decide +kernel
theorem dX6_hoursSailed_3 : decode cX6_hoursSailed 3 = .ok (.istore 4, 2) := by decide +kernel
theorem dX6_hoursSailed_5 : decode cX6_hoursSailed 5 = .ok (.iload 4, 2) := by decide +kernel
theorem dX6_hoursSailed_7 : decode cX6_hoursSailed 7 = .ok (.aload_n 0, 1) := by decide +kernel
theorem dX6_hoursSailed_8 : decode cX6_hoursSailed 8 = .ok (.getfield 71, 3) := by decide +kernel
theorem dX6_hoursSailed_11 : decode cX6_hoursSailed 11 = .ok (.if_icmp .ge 52, 3) := by decide +kernel
theorem dX6_hoursSailed_14 : decode cX6_hoursSailed 14 = .ok (.aload_n 0, 1) := by decide +kernel
theorem dX6_hoursSailed_15 : decode cX6_hoursSailed 15 = .ok (.iload 4, 2) := by decide +kernel
theorem dX6_hoursSailed_17 : decode cX6_hoursSailed 17 = .ok (.invokevirtual 152, 3) := by decide +kernel
theorem dX6_hoursSailed_20 : decode cX6_hoursSailed 20 = .ok (.astore 5, 2) := by decide +kernel
theorem dX6_hoursSailed_22 : decode cX6_hoursSailed 22 = .ok (.aload 5, 2) := by decide +kernel
theorem dX6_hoursSailed_24 : decode cX6_hoursSailed 24 = .ok (.getfield 290, 3) := by decide +kernel
theorem dX6_hoursSailed_27 : decode cX6_hoursSailed 27 = .ok (.iload_n 1, 1) := by decide +kernel
theorem dX6_hoursSailed_28 : decode cX6_hoursSailed 28 = .ok (.if_icmp .ne 29, 3) := by decide +kernel
theorem dX6_hoursSailed_31 : decode cX6_hoursSailed 31 = .ok (.aload 5, 2) := by decide +kernel
theorem dX6_hoursSailed_33 : decode cX6_hoursSailed 33 = .ok (.getfield 271, 3) := by decide +kernel
theorem dX6_hoursSailed_36 : decode cX6_hoursSailed 36 = .ok (.bipush 24, 2) := by decide +kernel
theorem dX6_hoursSailed_38 : decode cX6_hoursSailed 38 = .ok (.idiv, 1) := by decide +kernel
theorem dX6_hoursSailed_39 : decode cX6_hoursSailed 39 = .ok (.iload_n 2, 1) := by decide +kernel
theorem dX6_hoursSailed_40 : decode cX6_hoursSailed 40 = .ok (.if_icmp .ne 17, 3) := by decide +kernel
theorem dX6_hoursSailed_43 : decode cX6_hoursSailed 43 = .ok (.iload_n 3, 1) := by decide +kernel
theorem dX6_hoursSailed_44 : decode cX6_hoursSailed 44 = .ok (.aload 5, 2) := by decide +kernel
theorem dX6_hoursSailed_46 : decode cX6_hoursSailed 46 = .ok (.getfield 159, 3) := by decide +kernel
theorem dX6_hoursSailed_49 : decode cX6_hoursSailed 49 = .ok (.aload 5, 2) := by decide +kernel
theorem dX6_hoursSailed_51 : decode cX6_hoursSailed 51 = .ok (.getfield 271, 3) := by decide +kernel
theorem dX6_hoursSailed_54 : decode cX6_hoursSailed 54 = .ok (.isub, 1) := by decide +kernel
theorem dX6_hoursSailed_55 : decode cX6_hoursSailed 55 = .ok (.iadd, 1) := by decide +kernel
theorem dX6_hoursSailed_56 : decode cX6_hoursSailed 56 = .ok (.istore_n 3, 1) := by decide +kernel
theorem dX6_hoursSailed_57 : decode cX6_hoursSailed 57 = .ok (.iinc 4 1, 3) := by decide +kernel
theorem dX6_hoursSailed_60 : decode cX6_hoursSailed 60 = .ok (.goto (-55), 3) := by decide +kernel
theorem dX6_hoursSailed_63 : decode cX6_hoursSailed 63 = .ok (.iload_n 3, 1) := by decide +kernel
theorem dX6_hoursSailed_64 : decode cX6_hoursSailed 64 = .ok (.ireturn, 1) := by decide +kernel
theorem dX6_callOff_0 : decode cX6_callOff 0 = .ok (.aload_n 0, 1) := by decide +kernel
theorem dX6_callOff_1 : decode cX6_callOff 1 = .ok (.iload_n 1, 1) := by decide +kernel
theorem dX6_callOff_2 : decode cX6_callOff 2 = .ok (.invokevirtual 152, 3) := by decide +kernel
theorem dX6_callOff_5 : decode cX6_callOff 5 = .ok (.astore_n 3, 1) := by decide +kernel
theorem dX6_callOff_6 : decode cX6_callOff 6 = .ok (.aload_n 3, 1) := by decide +kernel
theorem dX6_callOff_7 : decode cX6_callOff 7 = .ok (.iconst 1, 1) := by decide +kernel
theorem dX6_callOff_8 : decode cX6_callOff 8 = .ok (.putfield 166, 3) := by decide +kernel
theorem dX6_callOff_11 : decode cX6_callOff 11 = .ok (.aload_n 3, 1) := by decide +kernel
theorem dX6_callOff_12 : decode cX6_callOff 12 = .ok (.iload_n 2, 1) := by decide +kernel
theorem dX6_callOff_13 : decode cX6_callOff 13 = .ok (.putfield 199, 3) := by decide +kernel
theorem dX6_callOff_16 : decode cX6_callOff 16 = .ok (.aload_n 0, 1) := by decide +kernel
theorem dX6_callOff_17 : decode cX6_callOff 17 = .ok (.iload_n 1, 1) := by decide +kernel
theorem dX6_callOff_18 : decode cX6_callOff 18 = .ok (.invokevirtual 293, 3) := by decide +kernel
theorem dX6_callOff_21 : decode cX6_callOff 21 = .ok (.ireturn, 1) := by decide +kernel
theorem dX6_setSail_0 : decode cX6_setSail 0 = .ok (.aload_n 0, 1) := by decide +kernel
theorem dX6_setSail_1 : decode cX6_setSail 1 = .ok (.iload_n 1, 1) := by decide +kernel
theorem dX6_setSail_2 : decode cX6_setSail 2 = .ok (.invokevirtual 152, 3) := by decide +kernel
theorem dX6_setSail_5 : decode cX6_setSail 5 = .ok (.astore_n 2, 1) := by decide +kernel
theorem dX6_setSail_6 : decode cX6_setSail 6 = .ok (.aload_n 0, 1) := by decide +kernel
theorem dX6_setSail_7 : decode cX6_setSail 7 = .ok (.aload_n 2, 1) := by decide +kernel
theorem dX6_setSail_8 : decode cX6_setSail 8 = .ok (.getfield 270, 3) := by decide +kernel
theorem dX6_setSail_11 : decode cX6_setSail 11 = .ok (.invokevirtual 99, 3) := by decide +kernel
theorem dX6_setSail_14 : decode cX6_setSail 14 = .ok (.astore_n 3, 1) := by decide +kernel
theorem dX6_setSail_15 : decode cX6_setSail 15 = .ok (.aload_n 2, 1) := by decide +kernel
theorem dX6_setSail_16 : decode cX6_setSail 16 = .ok (.aload_n 0, 1) := by decide +kernel
theorem dX6_setSail_17 : decode cX6_setSail 17 = .ok (.aload_n 2, 1) := by decide +kernel
theorem dX6_setSail_18 : decode cX6_setSail 18 = .ok (.invokevirtual 283, 3) := by decide +kernel
theorem dX6_setSail_21 : decode cX6_setSail 21 = .ok (.putfield 290, 3) := by decide +kernel
theorem dX6_setSail_24 : decode cX6_setSail 24 = .ok (.aload_n 2, 1) := by decide +kernel
theorem dX6_setSail_25 : decode cX6_setSail 25 = .ok (.iconst 2, 1) := by decide +kernel
theorem dX6_setSail_26 : decode cX6_setSail 26 = .ok (.putfield 166, 3) := by decide +kernel
theorem dX6_setSail_29 : decode cX6_setSail 29 = .ok (.aload_n 3, 1) := by decide +kernel
theorem dX6_setSail_30 : decode cX6_setSail 30 = .ok (.dup, 1) := by decide +kernel
theorem dX6_setSail_31 : decode cX6_setSail 31 = .ok (.getfield 121, 3) := by decide +kernel
theorem dX6_setSail_34 : decode cX6_setSail 34 = .ok (.aload_n 3, 1) := by decide +kernel
theorem dX6_setSail_35 : decode cX6_setSail 35 = .ok (.aload_n 2, 1) := by decide +kernel
theorem dX6_setSail_36 : decode cX6_setSail 36 = .ok (.getfield 159, 3) := by decide +kernel
theorem dX6_setSail_39 : decode cX6_setSail 39 = .ok (.aload_n 2, 1) := by decide +kernel
theorem dX6_setSail_40 : decode cX6_setSail 40 = .ok (.getfield 271, 3) := by decide +kernel
theorem dX6_setSail_43 : decode cX6_setSail 43 = .ok (.isub, 1) := by decide +kernel
theorem dX6_setSail_44 : decode cX6_setSail 44 = .ok (.invokevirtual 287, 3) := by decide +kernel
theorem dX6_setSail_47 : decode cX6_setSail 47 = .ok (.isub, 1) := by decide +kernel
theorem dX6_setSail_48 : decode cX6_setSail 48 = .ok (.putfield 121, 3) := by decide +kernel
theorem dX6_setSail_51 : decode cX6_setSail 51 = .ok (.aload_n 0, 1) := by decide +kernel
theorem dX6_setSail_52 : decode cX6_setSail 52 = .ok (.getfield 60, 3) := by decide +kernel
theorem dX6_setSail_55 : decode cX6_setSail 55 = .ok (.aload_n 3, 1) := by decide +kernel
theorem dX6_setSail_56 : decode cX6_setSail 56 = .ok (.invokevirtual 296, 3) := by decide +kernel
theorem dX6_setSail_59 : decode cX6_setSail 59 = .ok (.aload_n 0, 1) := by decide +kernel
theorem dX6_setSail_60 : decode cX6_setSail 60 = .ok (.iload_n 1, 1) := by decide +kernel
theorem dX6_setSail_61 : decode cX6_setSail 61 = .ok (.iconst 1, 1) := by decide +kernel
theorem dX6_setSail_62 : decode cX6_setSail 62 = .ok (.invokevirtual 300, 3) := by decide +kernel
theorem dX6_setSail_65 : decode cX6_setSail 65 = .ok (.aload_n 0, 1) := by decide +kernel
theorem dX6_setSail_66 : decode cX6_setSail 66 = .ok (.iload_n 1, 1) := by decide +kernel
theorem dX6_setSail_67 : decode cX6_setSail 67 = .ok (.iconst 0, 1) := by decide +kernel
theorem dX6_setSail_68 : decode cX6_setSail 68 = .ok (.invokevirtual 300, 3) := by decide +kernel
theorem dX6_setSail_71 : decode cX6_setSail 71 = .ok (.aload_n 0, 1) := by decide +kernel
theorem dX6_setSail_72 : decode cX6_setSail 72 = .ok (.iload_n 1, 1) := by decide +kernel
theorem dX6_setSail_73 : decode cX6_setSail 73 = .ok (.invokevirtual 304, 3) := by decide +kernel
theorem dX6_setSail_76 : decode cX6_setSail 76 = .ok (.aload_n 2, 1) := by decide +kernel
theorem dX6_setSail_77 : decode cX6_setSail 77 = .ok (.aload_n 0, 1) := by decide +kernel
theorem dX6_setSail_78 : decode cX6_setSail 78 = .ok (.getfield 60, 3) := by decide +kernel
theorem dX6_setSail_81 : decode cX6_setSail 81 = .ok (.getfield 307, 3) := by decide +kernel
theorem dX6_setSail_84 : decode cX6_setSail 84 = .ok (.putfield 252, 3) := by decide +kernel
theorem dX6_setSail_87 : decode cX6_setSail 87 = .ok (.aload_n 0, 1) := by decide +kernel
theorem dX6_setSail_88 : decode cX6_setSail 88 = .ok (.iload_n 1, 1) := by decide +kernel
theorem dX6_setSail_89 : decode cX6_setSail 89 = .ok (.invokevirtual 293, 3) := by decide +kernel
theorem dX6_setSail_92 : decode cX6_setSail 92 = .ok (.pop, 1) := by decide +kernel
theorem dX6_setSail_93 : decode cX6_setSail 93 = .ok (.return_, 1) := by decide +kernel
theorem dX6_takeThose_0 : decode cX6_takeThose 0 = .ok (.iconst 0, 1) := by decide +kernel
theorem dX6_takeThose_1 : decode cX6_takeThose 1 = .ok (.istore_n 3, 1) := by decide +kernel
theorem dX6_takeThose_2 : decode cX6_takeThose 2 = .ok (.iload_n 3, 1) := by decide +kernel
theorem dX6_takeThose_3 : decode cX6_takeThose 3 = .ok (.aload_n 0, 1) := by decide +kernel
theorem dX6_takeThose_4 : decode cX6_takeThose 4 = .ok (.getfield 74, 3) := by decide +kernel
theorem dX6_takeThose_7 : decode cX6_takeThose 7 = .ok (.if_icmp .ge 43, 3) := by decide +kernel
theorem dX6_takeThose_10 : decode cX6_takeThose 10 = .ok (.aload_n 0, 1) := by decide +kernel
theorem dX6_takeThose_11 : decode cX6_takeThose 11 = .ok (.iload_n 3, 1) := by decide +kernel
theorem dX6_takeThose_12 : decode cX6_takeThose 12 = .ok (.invokevirtual 211, 3) := by decide +kernel
theorem dX6_takeThose_15 : decode cX6_takeThose 15 = .ok (.astore 4, 2) := by decide +kernel
theorem dX6_takeThose_17 : decode cX6_takeThose 17 = .ok (.aload 4, 2) := by decide +kernel
theorem dX6_takeThose_19 : decode cX6_takeThose 19 = .ok (.getfield 215, 3) := by decide +kernel
theorem dX6_takeThose_22 : decode cX6_takeThose 22 = .ok (.iload_n 1, 1) := by decide +kernel
theorem dX6_takeThose_23 : decode cX6_takeThose 23 = .ok (.if_icmp .ne 21, 3) := by decide +kernel
theorem dX6_takeThose_26 : decode cX6_takeThose 26 = .ok (.aload 4, 2) := by decide +kernel
theorem dX6_takeThose_28 : decode cX6_takeThose 28 = .ok (.getfield 230, 3) := by decide +kernel
theorem dX6_takeThose_31 : decode cX6_takeThose 31 = .ok (.iload_n 2, 1) := by decide +kernel
theorem dX6_takeThose_32 : decode cX6_takeThose 32 = .ok (.if_icmp .ne 12, 3) := by decide +kernel
theorem dX6_takeThose_35 : decode cX6_takeThose 35 = .ok (.aload_n 0, 1) := by decide +kernel
theorem dX6_takeThose_36 : decode cX6_takeThose 36 = .ok (.getfield 60, 3) := by decide +kernel
theorem dX6_takeThose_39 : decode cX6_takeThose 39 = .ok (.aload 4, 2) := by decide +kernel
theorem dX6_takeThose_41 : decode cX6_takeThose 41 = .ok (.invokevirtual 308, 3) := by decide +kernel
theorem dX6_takeThose_44 : decode cX6_takeThose 44 = .ok (.iinc 3 1, 3) := by decide +kernel
theorem dX6_takeThose_47 : decode cX6_takeThose 47 = .ok (.goto (-45), 3) := by decide +kernel
theorem dX6_takeThose_50 : decode cX6_takeThose 50 = .ok (.return_, 1) := by decide +kernel
theorem dX6_evenOut_0 : decode cX6_evenOut 0 = .ok (.iconst 0, 1) := by decide +kernel
theorem dX6_evenOut_1 : decode cX6_evenOut 1 = .ok (.istore_n 2, 1) := by decide +kernel
theorem dX6_evenOut_2 : decode cX6_evenOut 2 = .ok (.iload_n 2, 1) := by decide +kernel
theorem dX6_evenOut_3 : decode cX6_evenOut 3 = .ok (.aload_n 0, 1) := by decide +kernel
theorem dX6_evenOut_4 : decode cX6_evenOut 4 = .ok (.getfield 74, 3) := by decide +kernel
theorem dX6_evenOut_7 : decode cX6_evenOut 7 = .ok (.if_icmp .ge 29, 3) := by decide +kernel
theorem dX6_evenOut_10 : decode cX6_evenOut 10 = .ok (.aload_n 0, 1) := by decide +kernel
theorem dX6_evenOut_11 : decode cX6_evenOut 11 = .ok (.getfield 60, 3) := by decide +kernel
theorem dX6_evenOut_14 : decode cX6_evenOut 14 = .ok (.getfield 307, 3) := by decide +kernel
theorem dX6_evenOut_17 : decode cX6_evenOut 17 = .ok (.invokestatic 267, 3) := by decide +kernel
theorem dX6_evenOut_20 : decode cX6_evenOut 20 = .ok (.bipush 20, 2) := by decide +kernel
theorem dX6_evenOut_22 : decode cX6_evenOut 22 = .ok (.if_icmp .le 14, 3) := by decide +kernel
theorem dX6_evenOut_25 : decode cX6_evenOut 25 = .ok (.aload_n 0, 1) := by decide +kernel
theorem dX6_evenOut_26 : decode cX6_evenOut 26 = .ok (.iload_n 1, 1) := by decide +kernel
theorem dX6_evenOut_27 : decode cX6_evenOut 27 = .ok (.invokevirtual 312, 3) := by decide +kernel
theorem dX6_evenOut_30 : decode cX6_evenOut 30 = .ok (.iinc 2 1, 3) := by decide +kernel
theorem dX6_evenOut_33 : decode cX6_evenOut 33 = .ok (.goto (-31), 3) := by decide +kernel
theorem dX6_evenOut_36 : decode cX6_evenOut 36 = .ok (.return_, 1) := by decide +kernel
theorem dX6_putOffLast_0 : decode cX6_putOffLast 0 = .ok (.iconst (-1), 1) := by decide +kernel
theorem dX6_putOffLast_1 : decode cX6_putOffLast 1 = .ok (.istore_n 2, 1) := by decide +kernel
theorem dX6_putOffLast_2 : decode cX6_putOffLast 2 = .ok (.iconst (-1), 1) := by decide +kernel
theorem dX6_putOffLast_3 : decode cX6_putOffLast 3 = .ok (.istore_n 3, 1) := by decide +kernel
theorem dX6_putOffLast_4 : decode cX6_putOffLast 4 = .ok (.iconst 0, 1) := by decide +kernel
theorem dX6_putOffLast_5 : decode cX6_putOffLast 5 = .ok (.istore 4, 2) := by decide +kernel
theorem dX6_putOffLast_7 : decode cX6_putOffLast 7 = .ok (.iload 4, 2) := by decide +kernel
theorem dX6_putOffLast_9 : decode cX6_putOffLast 9 = .ok (.aload_n 0, 1) := by decide +kernel
theorem dX6_putOffLast_10 : decode cX6_putOffLast 10 = .ok (.getfield 74, 3) := by decide +kernel
theorem dX6_putOffLast_13 : decode cX6_putOffLast 13 = .ok (.if_icmp .ge 56, 3) := by decide +kernel
theorem dX6_putOffLast_16 : decode cX6_putOffLast 16 = .ok (.aload_n 0, 1) := by decide +kernel
theorem dX6_putOffLast_17 : decode cX6_putOffLast 17 = .ok (.iload 4, 2) := by decide +kernel
theorem dX6_putOffLast_19 : decode cX6_putOffLast 19 = .ok (.invokevirtual 211, 3) := by decide +kernel
theorem dX6_putOffLast_22 : decode cX6_putOffLast 22 = .ok (.astore 5, 2) := by decide +kernel
theorem dX6_putOffLast_24 : decode cX6_putOffLast 24 = .ok (.aload 5, 2) := by decide +kernel
theorem dX6_putOffLast_26 : decode cX6_putOffLast 26 = .ok (.getfield 215, 3) := by decide +kernel
theorem dX6_putOffLast_29 : decode cX6_putOffLast 29 = .ok (.iload_n 1, 1) := by decide +kernel
theorem dX6_putOffLast_30 : decode cX6_putOffLast 30 = .ok (.if_icmp .ne 33, 3) := by decide +kernel
theorem dX6_putOffLast_33 : decode cX6_putOffLast 33 = .ok (.aload_n 0, 1) := by decide +kernel
theorem dX6_putOffLast_34 : decode cX6_putOffLast 34 = .ok (.getfield 60, 3) := by decide +kernel
theorem dX6_putOffLast_37 : decode cX6_putOffLast 37 = .ok (.aload 5, 2) := by decide +kernel
theorem dX6_putOffLast_39 : decode cX6_putOffLast 39 = .ok (.invokevirtual 315, 3) := by decide +kernel
theorem dX6_putOffLast_42 : decode cX6_putOffLast 42 = .ok (.ifCond .eq 21, 3) := by decide +kernel
theorem dX6_putOffLast_45 : decode cX6_putOffLast 45 = .ok (.aload 5, 2) := by decide +kernel
theorem dX6_putOffLast_47 : decode cX6_putOffLast 47 = .ok (.getfield 319, 3) := by decide +kernel
theorem dX6_putOffLast_50 : decode cX6_putOffLast 50 = .ok (.iload_n 3, 1) := by decide +kernel
theorem dX6_putOffLast_51 : decode cX6_putOffLast 51 = .ok (.if_icmp .le 12, 3) := by decide +kernel
theorem dX6_putOffLast_54 : decode cX6_putOffLast 54 = .ok (.iload 4, 2) := by decide +kernel
theorem dX6_putOffLast_56 : decode cX6_putOffLast 56 = .ok (.istore_n 2, 1) := by decide +kernel
theorem dX6_putOffLast_57 : decode cX6_putOffLast 57 = .ok (.aload 5, 2) := by decide +kernel
theorem dX6_putOffLast_59 : decode cX6_putOffLast 59 = .ok (.getfield 319, 3) := by decide +kernel
theorem dX6_putOffLast_62 : decode cX6_putOffLast 62 = .ok (.istore_n 3, 1) := by decide +kernel
theorem dX6_putOffLast_63 : decode cX6_putOffLast 63 = .ok (.iinc 4 1, 3) := by decide +kernel
theorem dX6_putOffLast_66 : decode cX6_putOffLast 66 = .ok (.goto (-59), 3) := by decide +kernel
theorem dX6_putOffLast_69 : decode cX6_putOffLast 69 = .ok (.iload_n 2, 1) := by decide +kernel
theorem dX6_putOffLast_70 : decode cX6_putOffLast 70 = .ok (.iconst (-1), 1) := by decide +kernel
theorem dX6_putOffLast_71 : decode cX6_putOffLast 71 = .ok (.if_icmp .eq 15, 3) := by decide +kernel
theorem dX6_putOffLast_74 : decode cX6_putOffLast 74 = .ok (.aload_n 0, 1) := by decide +kernel
theorem dX6_putOffLast_75 : decode cX6_putOffLast 75 = .ok (.getfield 60, 3) := by decide +kernel
theorem dX6_putOffLast_78 : decode cX6_putOffLast 78 = .ok (.aload_n 0, 1) := by decide +kernel
theorem dX6_putOffLast_79 : decode cX6_putOffLast 79 = .ok (.iload_n 2, 1) := by decide +kernel
theorem dX6_putOffLast_80 : decode cX6_putOffLast 80 = .ok (.invokevirtual 211, 3) := by decide +kernel
theorem dX6_putOffLast_83 : decode cX6_putOffLast 83 = .ok (.invokevirtual 322, 3) := by decide +kernel
theorem dX6_putOffLast_86 : decode cX6_putOffLast 86 = .ok (.return_, 1) := by decide +kernel
theorem dX6_sendOver_0 : decode cX6_sendOver 0 = .ok (.iconst 0, 1) := by decide +kernel
theorem dX6_sendOver_1 : decode cX6_sendOver 1 = .ok (.istore_n 2, 1) := by decide +kernel
theorem dX6_sendOver_2 : decode cX6_sendOver 2 = .ok (.iconst 0, 1) := by decide +kernel
theorem dX6_sendOver_3 : decode cX6_sendOver 3 = .ok (.istore_n 3, 1) := by decide +kernel
theorem dX6_sendOver_4 : decode cX6_sendOver 4 = .ok (.iload_n 3, 1) := by decide +kernel
theorem dX6_sendOver_5 : decode cX6_sendOver 5 = .ok (.aload_n 0, 1) := by decide +kernel
