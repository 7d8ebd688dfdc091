theorem dX7_kindOfWord_91 : decode cX7_kindOfWord 91 = .ok (.istore 5, 2) := by decide +kernel
theorem dX7_kindOfWord_93 : decode cX7_kindOfWord 93 = .ok (.iinc 6 1, 3) := by decide +kernel
theorem dX7_kindOfWord_96 : decode cX7_kindOfWord 96 = .ok (.goto (-83), 3) := by decide +kernel
theorem dX7_kindOfWord_99 : decode cX7_kindOfWord 99 = .ok (.iconst 2, 1) := by decide +kernel
theorem dX7_kindOfWord_100 : decode cX7_kindOfWord 100 = .ok (.ireturn, 1) := by decide +kernel
theorem dX7_isBlank_0 : decode cX7_isBlank 0 = .ok (.iload_n 0, 1) := by decide +kernel
theorem dX7_isBlank_1 : decode cX7_isBlank 1 = .ok (.bipush 32, 2) := by decide +kernel
theorem dX7_isBlank_3 : decode cX7_isBlank 3 = .ok (.if_icmp .eq 9, 3) := by decide +kernel
theorem dX7_isBlank_6 : decode cX7_isBlank 6 = .ok (.iload_n 0, 1) := by decide +kernel
theorem dX7_isBlank_7 : decode cX7_isBlank 7 = .ok (.bipush 10, 2) := by decide +kernel
theorem dX7_isBlank_9 : decode cX7_isBlank 9 = .ok (.if_icmp .ne 7, 3) := by decide +kernel
theorem dX7_isBlank_12 : decode cX7_isBlank 12 = .ok (.iconst 1, 1) := by decide +kernel
theorem dX7_isBlank_13 : decode cX7_isBlank 13 = .ok (.goto 4, 3) := by decide +kernel
theorem dX7_isBlank_16 : decode cX7_isBlank 16 = .ok (.iconst 0, 1) := by decide +kernel
theorem dX7_isBlank_17 : decode cX7_isBlank 17 = .ok (.ireturn, 1) := by decide +kernel
theorem dX7_isLetter_0 : decode cX7_isLetter 0 = .ok (.iload_n 0, 1) := by decide +kernel
theorem dX7_isLetter_1 : decode cX7_isLetter 1 = .ok (.bipush 97, 2) := by decide +kernel
theorem dX7_isLetter_3 : decode cX7_isLetter 3 = .ok (.if_icmp .lt 13, 3) := by decide +kernel
theorem dX7_isLetter_6 : decode cX7_isLetter 6 = .ok (.iload_n 0, 1) := by decide +kernel
theorem dX7_isLetter_7 : decode cX7_isLetter 7 = .ok (.bipush 122, 2) := by decide +kernel
theorem dX7_isLetter_9 : decode cX7_isLetter 9 = .ok (.if_icmp .gt 7, 3) := by decide +kernel
theorem dX7_isLetter_12 : decode cX7_isLetter 12 = .ok (.iconst 1, 1) := by decide +kernel
theorem dX7_isLetter_13 : decode cX7_isLetter 13 = .ok (.goto 4, 3) := by decide +kernel
theorem dX7_isLetter_16 : decode cX7_isLetter 16 = .ok (.iconst 0, 1) := by decide +kernel
theorem dX7_isLetter_17 : decode cX7_isLetter 17 = .ok (.ireturn, 1) := by decide +kernel
theorem dX7_isDigit_0 : decode cX7_isDigit 0 = .ok (.iload_n 0, 1) := by decide +kernel
theorem dX7_isDigit_1 : decode cX7_isDigit 1 = .ok (.bipush 48, 2) := by decide +kernel
theorem dX7_isDigit_3 : decode cX7_isDigit 3 = .ok (.if_icmp .lt 13, 3) := by decide +kernel
theorem dX7_isDigit_6 : decode cX7_isDigit 6 = .ok (.iload_n 0, 1) := by decide +kernel
theorem dX7_isDigit_7 : decode cX7_isDigit 7 = .ok (.bipush 57, 2) := by decide +kernel
theorem dX7_isDigit_9 : decode cX7_isDigit 9 = .ok (.if_icmp .gt 7, 3) := by decide +kernel
theorem dX7_isDigit_12 : decode cX7_isDigit 12 = .ok (.iconst 1, 1) := by decide +kernel
theorem dX7_isDigit_13 : decode cX7_isDigit 13 = .ok (.goto 4, 3) := by decide +kernel
theorem dX7_isDigit_16 : decode cX7_isDigit 16 = .ok (.iconst 0, 1) := by decide +kernel
theorem dX7_isDigit_17 : decode cX7_isDigit 17 = .ok (.ireturn, 1) := by decide +kernel
theorem dX7_isSign_0 : decode cX7_isSign 0 = .ok (.iload_n 0, 1) := by decide +kernel
theorem dX7_isSign_1 : decode cX7_isSign 1 = .ok (.bipush 59, 2) := by decide +kernel
theorem dX7_isSign_3 : decode cX7_isSign 3 = .ok (.if_icmp .eq 33, 3) := by decide +kernel
theorem dX7_isSign_6 : decode cX7_isSign 6 = .ok (.iload_n 0, 1) := by decide +kernel
theorem dX7_isSign_7 : decode cX7_isSign 7 = .ok (.bipush 40, 2) := by decide +kernel
theorem dX7_isSign_9 : decode cX7_isSign 9 = .ok (.if_icmp .eq 27, 3) := by decide +kernel
theorem dX7_isSign_12 : decode cX7_isSign 12 = .ok (.iload_n 0, 1) := by decide +kernel
theorem dX7_isSign_13 : decode cX7_isSign 13 = .ok (.bipush 41, 2) := by decide +kernel
theorem dX7_isSign_15 : decode cX7_isSign 15 = .ok (.if_icmp .eq 21, 3) := by decide +kernel
theorem dX7_isSign_18 : decode cX7_isSign 18 = .ok (.iload_n 0, 1) := by decide +kernel
theorem dX7_isSign_19 : decode cX7_isSign 19 = .ok (.bipush 60, 2) := by decide +kernel
theorem dX7_isSign_21 : decode cX7_isSign 21 = .ok (.if_icmp .eq 15, 3) := by decide +kernel
theorem dX7_isSign_24 : decode cX7_isSign 24 = .ok (.iload_n 0, 1) := by decide +kernel
theorem dX7_isSign_25 : decode cX7_isSign 25 = .ok (.bipush 61, 2) := by decide +kernel
theorem dX7_isSign_27 : decode cX7_isSign 27 = .ok (.if_icmp .eq 9, 3) := by decide +kernel
theorem dX7_isSign_30 : decode cX7_isSign 30 = .ok (.iload_n 0, 1) := by decide +kernel
theorem dX7_isSign_31 : decode cX7_isSign 31 = .ok (.bipush 62, 2) := by decide +kernel
theorem dX7_isSign_33 : decode cX7_isSign 33 = .ok (.if_icmp .ne 7, 3) := by decide +kernel
theorem dX7_isSign_36 : decode cX7_isSign 36 = .ok (.iconst 1, 1) := by decide +kernel
theorem dX7_isSign_37 : decode cX7_isSign 37 = .ok (.goto 4, 3) := by decide +kernel
theorem dX7_isSign_40 : decode cX7_isSign 40 = .ok (.iconst 0, 1) := by decide +kernel
theorem dX7_isSign_41 : decode cX7_isSign 41 = .ok (.ireturn, 1) := by decide +kernel
theorem dX8_init_0 : decode cX8_init 0 = .ok (.aload_n 0, 1) := by decide +kernel
theorem dX8_init_1 : decode cX8_init 1 = .ok (.invokespecial 3, 3) := by decide +kernel
theorem dX8_init_4 : decode cX8_init 4 = .ok (.aload_n 0, 1) := by decide +kernel
theorem dX8_init_5 : decode cX8_init 5 = .ok (.new 9, 3) := by decide +kernel
theorem dX8_init_8 : decode cX8_init 8 = .ok (.dup, 1) := by decide +kernel
theorem dX8_init_9 : decode cX8_init 9 = .ok (.iconst 2, 1) := by decide +kernel
theorem dX8_init_10 : decode cX8_init 10 = .ok (.bipush 16, 2) := by decide +kernel
theorem dX8_init_12 : decode cX8_init 12 = .ok (.invokespecial 11, 3) := by decide +kernel
theorem dX8_init_15 : decode cX8_init 15 = .ok (.putfield 14, 3) := by decide +kernel
theorem dX8_init_18 : decode cX8_init 18 = .ok (.aload_n 0, 1) := by decide +kernel
theorem dX8_init_19 : decode cX8_init 19 = .ok (.new 9, 3) := by decide +kernel
theorem dX8_init_22 : decode cX8_init 22 = .ok (.dup, 1) := by decide +kernel
theorem dX8_init_23 : decode cX8_init 23 = .ok (.iconst 3, 1) := by decide +kernel
theorem dX8_init_24 : decode cX8_init 24 = .ok (.bipush 16, 2) := by decide +kernel
theorem dX8_init_26 : decode cX8_init 26 = .ok (.invokespecial 11, 3) := by decide +kernel
theorem dX8_init_29 : decode cX8_init 29 = .ok (.putfield 20, 3) := by decide +kernel
theorem dX8_init_32 : decode cX8_init 32 = .ok (.aload_n 0, 1) := by decide +kernel
theorem dX8_init_33 : decode cX8_init 33 = .ok (.new 9, 3) := by decide +kernel
theorem dX8_init_36 : decode cX8_init 36 = .ok (.dup, 1) := by decide +kernel
theorem dX8_init_37 : decode cX8_init 37 = .ok (.iconst 5, 1) := by decide +kernel
theorem dX8_init_38 : decode cX8_init 38 = .ok (.sipush 200, 3) := by decide +kernel
theorem dX8_init_41 : decode cX8_init 41 = .ok (.invokespecial 11, 3) := by decide +kernel
theorem dX8_init_44 : decode cX8_init 44 = .ok (.putfield 23, 3) := by decide +kernel
theorem dX8_init_47 : decode cX8_init 47 = .ok (.aload_n 0, 1) := by decide +kernel
theorem dX8_init_48 : decode cX8_init 48 = .ok (.iconst 4, 1) := by decide +kernel
theorem dX8_init_49 : decode cX8_init 49 = .ok (.anewarray 26, 3) := by decide +kernel
theorem dX8_init_52 : decode cX8_init 52 = .ok (.putfield 28, 3) := by decide +kernel
theorem dX8_init_55 : decode cX8_init 55 = .ok (.new 26, 3) := by decide +kernel
theorem dX8_init_58 : decode cX8_init 58 = .ok (.dup, 1) := by decide +kernel
theorem dX8_init_59 : decode cX8_init 59 = .ok (.iconst 0, 1) := by decide +kernel
theorem dX8_init_60 : decode cX8_init 60 = .ok (.iconst 0, 1) := by decide +kernel
theorem dX8_init_61 : decode cX8_init 61 = .ok (.anewarray 32, 3) := by decide +kernel
theorem dX8_init_64 : decode cX8_init 64 = .ok (.invokespecial 34, 3) := by decide +kernel
theorem dX8_init_67 : decode cX8_init 67 = .ok (.astore_n 1, 1) := by decide +kernel
theorem dX8_init_68 : decode cX8_init 68 = .ok (.iconst 0, 1) := by decide +kernel
theorem dX8_init_69 : decode cX8_init 69 = .ok (.istore_n 2, 1) := by decide +kernel
theorem dX8_init_70 : decode cX8_init 70 = .ok (.iload_n 2, 1) := by decide +kernel
theorem dX8_init_71 : decode cX8_init 71 = .ok (.iconst 4, 1) := by decide +kernel
theorem dX8_init_72 : decode cX8_init 72 = .ok (.if_icmp .ge 16, 3) := by decide +kernel
theorem dX8_init_75 : decode cX8_init 75 = .ok (.aload_n 0, 1) := by decide +kernel
theorem dX8_init_76 : decode cX8_init 76 = .ok (.getfield 28, 3) := by decide +kernel
theorem dX8_init_79 : decode cX8_init 79 = .ok (.iload_n 2, 1) := by decide +kernel
theorem dX8_init_80 : decode cX8_init 80 = .ok (.aload_n 1, 1) := by decide +kernel
theorem dX8_init_81 : decode cX8_init 81 = .ok (.aastore, 1) := by decide +kernel
theorem dX8_init_82 : decode cX8_init 82 = .ok (.iinc 2 1, 3) := by decide +kernel
theorem dX8_init_85 : decode cX8_init 85 = .ok (.goto (-15), 3) := by decide +kernel
theorem dX8_init_88 : decode cX8_init 88 = .ok (.return_, 1) := by decide +kernel
theorem dX8_copyFrom_0 : decode cX8_copyFrom 0 = .ok (.aload_n 0, 1) := by decide +kernel
theorem dX8_copyFrom_1 : decode cX8_copyFrom 1 = .ok (.getfield 14, 3) := by decide +kernel
theorem dX8_copyFrom_4 : decode cX8_copyFrom 4 = .ok (.aload_n 1, 1) := by decide +kernel
theorem dX8_copyFrom_5 : decode cX8_copyFrom 5 = .ok (.getfield 14, 3) := by decide +kernel
theorem dX8_copyFrom_8 : decode cX8_copyFrom 8 = .ok (.invokevirtual 37, 3) := by decide +kernel
theorem dX8_copyFrom_11 : decode cX8_copyFrom 11 = .ok (.aload_n 0, 1) := by decide +kernel
theorem dX8_copyFrom_12 : decode cX8_copyFrom 12 = .ok (.getfield 20, 3) := by decide +kernel
theorem dX8_copyFrom_15 : decode cX8_copyFrom 15 = .ok (.aload_n 1, 1) := by decide +kernel
theorem dX8_copyFrom_16 : decode cX8_copyFrom 16 = .ok (.getfield 20, 3) := by decide +kernel
theorem dX8_copyFrom_19 : decode cX8_copyFrom 19 = .ok (.invokevirtual 37, 3) := by decide +kernel
theorem dX8_copyFrom_22 : decode cX8_copyFrom 22 = .ok (.aload_n 0, 1) := by decide +kernel
theorem dX8_copyFrom_23 : decode cX8_copyFrom 23 = .ok (.getfield 23, 3) := by decide +kernel
theorem dX8_copyFrom_26 : decode cX8_copyFrom 26 = .ok (.aload_n 1, 1) := by decide +kernel
theorem dX8_copyFrom_27 : decode cX8_copyFrom 27 = .ok (.getfield 23, 3) := by decide +kernel
theorem dX8_copyFrom_30 : decode cX8_copyFrom 30 = .ok (.invokevirtual 37, 3) := by decide +kernel
theorem dX8_copyFrom_33 : decode cX8_copyFrom 33 = .ok (.iconst 0, 1) := by decide +kernel
theorem dX8_copyFrom_34 : decode cX8_copyFrom 34 = .ok (.istore_n 2, 1) := by decide +kernel
theorem dX8_copyFrom_35 : decode cX8_copyFrom 35 = .ok (.iload_n 2, 1) := by decide +kernel
theorem dX8_copyFrom_36 : decode cX8_copyFrom 36 = .ok (.iconst 4, 1) := by decide +kernel
theorem dX8_copyFrom_37 : decode cX8_copyFrom 37 = .ok (.if_icmp .ge 21, 3) := by decide +kernel
theorem dX8_copyFrom_40 : decode cX8_copyFrom 40 = .ok (.aload_n 0, 1) := by decide +kernel
theorem dX8_copyFrom_41 : decode cX8_copyFrom 41 = .ok (.getfield 28, 3) := by decide +kernel
theorem dX8_copyFrom_44 : decode cX8_copyFrom 44 = .ok (.iload_n 2, 1) := by decide +kernel
theorem dX8_copyFrom_45 : decode cX8_copyFrom 45 = .ok (.aload_n 1, 1) := by decide +kernel
theorem dX8_copyFrom_46 : decode cX8_copyFrom 46 = .ok (.getfield 28, 3) := by decide +kernel
theorem dX8_copyFrom_49 : decode cX8_copyFrom 49 = .ok (.iload_n 2, 1) := by decide +kernel
theorem dX8_copyFrom_50 : decode cX8_copyFrom 50 = .ok (.aaload, 1) := by decide +kernel
theorem dX8_copyFrom_51 : decode cX8_copyFrom 51 = .ok (.aastore, 1) := by decide +kernel
theorem dX8_copyFrom_52 : decode cX8_copyFrom 52 = .ok (.iinc 2 1, 3) := by decide +kernel
theorem dX8_copyFrom_55 : decode cX8_copyFrom 55 = .ok (.goto (-20), 3) := by decide +kernel
theorem dX8_copyFrom_58 : decode cX8_copyFrom 58 = .ok (.return_, 1) := by decide +kernel
theorem dX8_canBeAsked_0 : decode cX8_canBeAsked 0 = .ok (.aload_n 0, 1) := by decide +kernel
theorem dX8_canBeAsked_1 : decode cX8_canBeAsked 1 = .ok (.getfield 14, 3) := by decide +kernel
theorem dX8_canBeAsked_4 : decode cX8_canBeAsked 4 = .ok (.iload_n 1, 1) := by decide +kernel
theorem dX8_canBeAsked_5 : decode cX8_canBeAsked 5 = .ok (.invokevirtual 41, 3) := by decide +kernel
theorem dX8_canBeAsked_8 : decode cX8_canBeAsked 8 = .ok (.ifCond .eq 36, 3) := by decide +kernel
theorem dX8_canBeAsked_11 : decode cX8_canBeAsked 11 = .ok (.iload_n 2, 1) := by decide +kernel
theorem dX8_canBeAsked_12 : decode cX8_canBeAsked 12 = .ok (.iconst 4, 1) := by decide +kernel
theorem dX8_canBeAsked_13 : decode cX8_canBeAsked 13 = .ok (.invokestatic 45, 3) := by decide +kernel
theorem dX8_canBeAsked_16 : decode cX8_canBeAsked 16 = .ok (.ifCond .eq 28, 3) := by decide +kernel
theorem dX8_canBeAsked_19 : decode cX8_canBeAsked 19 = .ok (.aload_n 0, 1) := by decide +kernel
theorem dX8_canBeAsked_20 : decode cX8_canBeAsked 20 = .ok (.getfield 20, 3) := by decide +kernel
theorem dX8_canBeAsked_23 : decode cX8_canBeAsked 23 = .ok (.iload_n 3, 1) := by decide +kernel
theorem dX8_canBeAsked_24 : decode cX8_canBeAsked 24 = .ok (.invokevirtual 41, 3) := by decide +kernel
theorem dX8_canBeAsked_27 : decode cX8_canBeAsked 27 = .ok (.ifCond .eq 17, 3) := by decide +kernel
theorem dX8_canBeAsked_30 : decode cX8_canBeAsked 30 = .ok (.iload 4, 2) := by decide +kernel
theorem dX8_canBeAsked_32 : decode cX8_canBeAsked 32 = .ok (.bipush 24, 2) := by decide +kernel
theorem dX8_canBeAsked_34 : decode cX8_canBeAsked 34 = .ok (.invokestatic 45, 3) := by decide +kernel
theorem dX8_canBeAsked_37 : decode cX8_canBeAsked 37 = .ok (.ifCond .eq 7, 3) := by decide +kernel
theorem dX8_canBeAsked_40 : decode cX8_canBeAsked 40 = .ok (.iconst 1, 1) := by decide +kernel
theorem dX8_canBeAsked_41 : decode cX8_canBeAsked 41 = .ok (.goto 4, 3) := by decide +kernel
theorem dX8_canBeAsked_44 : decode cX8_canBeAsked 44 = .ok (.iconst 0, 1) := by decide +kernel
theorem dX8_canBeAsked_45 : decode cX8_canBeAsked 45 = .ok (.ireturn, 1) := by decide +kernel
theorem dX8_marked_0 : decode cX8_marked 0 = .ok (.iconst 0, 1) := by decide +kernel
theorem dX8_marked_1 : decode cX8_marked 1 = .ok (.istore_n 1, 1) := by decide +kernel
theorem dX8_marked_2 : decode cX8_marked 2 = .ok (.iconst 0, 1) := by decide +kernel
theorem dX8_marked_3 : decode cX8_marked 3 = .ok (.istore_n 2, 1) := by decide +kernel
theorem dX8_marked_4 : decode cX8_marked 4 = .ok (.iload_n 2, 1) := by decide +kernel
theorem dX8_marked_5 : decode cX8_marked 5 = .ok (.aload_n 0, 1) := by decide +kernel
theorem dX8_marked_6 : decode cX8_marked 6 = .ok (.getfield 23, 3) := by decide +kernel
theorem dX8_marked_9 : decode cX8_marked 9 = .ok (.getfield 49, 3) := by decide +kernel
theorem dX8_marked_12 : decode cX8_marked 12 = .ok (.if_icmp .ge 25, 3) := by decide +kernel
theorem dX8_marked_15 : decode cX8_marked 15 = .ok (.aload_n 0, 1) := by decide +kernel
theorem dX8_marked_16 : decode cX8_marked 16 = .ok (.getfield 23, 3) := by decide +kernel
theorem dX8_marked_19 : decode cX8_marked 19 = .ok (.iload_n 2, 1) := by decide +kernel
theorem dX8_marked_20 : decode cX8_marked 20 = .ok (.iconst 4, 1) := by decide +kernel
theorem dX8_marked_21 : decode cX8_marked 21 = .ok (.invokevirtual 53, 3) := by decide +kernel
theorem dX8_marked_24 : decode cX8_marked 24 = .ok (.iconst (-1), 1) := by decide +kernel
theorem dX8_marked_25 : decode cX8_marked 25 = .ok (.if_icmp .eq 6, 3) := by decide +kernel
theorem dX8_marked_28 : decode cX8_marked 28 = .ok (.iinc 1 1, 3) := by decide +kernel
theorem dX8_marked_31 : decode cX8_marked 31 = .ok (.iinc 2 1, 3) := by decide +kernel
theorem dX8_marked_34 : decode cX8_marked 34 = .ok (.goto (-30), 3) := by decide +kernel
theorem dX8_marked_37 : decode cX8_marked 37 = .ok (.iload_n 1, 1) := by decide +kernel
theorem dX8_marked_38 : decode cX8_marked 38 = .ok (.ireturn, 1) := by decide +kernel
theorem dX8_cases_0 : decode cX8_cases 0 = .ok (.aload_n 0, 1) := by decide +kernel
theorem dX8_cases_1 : decode cX8_cases 1 = .ok (.getfield 14, 3) := by decide +kernel
theorem dX8_cases_4 : decode cX8_cases 4 = .ok (.getfield 49, 3) := by decide +kernel
theorem dX8_cases_7 : decode cX8_cases 7 = .ok (.iconst 4, 1) := by decide +kernel
theorem dX8_cases_8 : decode cX8_cases 8 = .ok (.imul, 1) := by decide +kernel
theorem dX8_cases_9 : decode cX8_cases 9 = .ok (.aload_n 0, 1) := by decide +kernel
theorem dX8_cases_10 : decode cX8_cases 10 = .ok (.getfield 20, 3) := by decide +kernel
theorem dX8_cases_13 : decode cX8_cases 13 = .ok (.getfield 49, 3) := by decide +kernel
theorem dX8_cases_16 : decode cX8_cases 16 = .ok (.imul, 1) := by decide +kernel
theorem dX8_cases_17 : decode cX8_cases 17 = .ok (.ireturn, 1) := by decide +kernel
theorem dX9_init_0 : decode cX9_init 0 = .ok (.aload_n 0, 1) := by decide +kernel
theorem dX9_init_1 : decode cX9_init 1 = .ok (.invokespecial 3, 3) := by decide +kernel
theorem dX9_init_4 : decode cX9_init 4 = .ok (.aload_n 0, 1) := by decide +kernel
theorem dX9_init_5 : decode cX9_init 5 = .ok (.bipush 16, 2) := by decide +kernel
theorem dX9_init_7 : decode cX9_init 7 = .ok (.newarray .int, 2) := by decide +kernel
theorem dX9_init_9 : decode cX9_init 9 = .ok (.putfield 11, 3) := by decide +kernel
theorem dX9_init_12 : decode cX9_init 12 = .ok (.return_, 1) := by decide +kernel
theorem dX9_stand_0 : decode cX9_stand 0 = .ok (.aload_n 0, 1) := by decide +kernel
theorem dX9_stand_1 : decode cX9_stand 1 = .ok (.iload_n 2, 1) := by decide +kernel
theorem dX9_stand_2 : decode cX9_stand 2 = .ok (.putfield 15, 3) := by decide +kernel
theorem dX9_stand_5 : decode cX9_stand 5 = .ok (.aload_n 0, 1) := by decide +kernel
theorem dX9_stand_6 : decode cX9_stand 6 = .ok (.iload_n 3, 1) := by decide +kernel
theorem dX9_stand_7 : decode cX9_stand 7 = .ok (.putfield 19, 3) := by decide +kernel
theorem dX9_stand_10 : decode cX9_stand 10 = .ok (.aload_n 0, 1) := by decide +kernel
theorem dX9_stand_11 : decode cX9_stand 11 = .ok (.iload 4, 2) := by decide +kernel
theorem dX9_stand_13 : decode cX9_stand 13 = .ok (.putfield 22, 3) := by decide +kernel
theorem dX9_stand_16 : decode cX9_stand 16 = .ok (.aload_n 0, 1) := by decide +kernel
theorem dX9_stand_17 : decode cX9_stand 17 = .ok (.iload 5, 2) := by decide +kernel
theorem dX9_stand_19 : decode cX9_stand 19 = .ok (.putfield 25, 3) := by decide +kernel
theorem dX9_stand_22 : decode cX9_stand 22 = .ok (.aload_n 0, 1) := by decide +kernel
theorem dX9_stand_23 : decode cX9_stand 23 = .ok (.aload_n 1, 1) := by decide +kernel
theorem dX9_stand_24 : decode cX9_stand 24 = .ok (.getfield 28, 3) := by decide +kernel
theorem dX9_stand_27 : decode cX9_stand 27 = .ok (.iload_n 2, 1) := by decide +kernel
theorem dX9_stand_28 : decode cX9_stand 28 = .ok (.iconst 0, 1) := by decide +kernel
theorem dX9_stand_29 : decode cX9_stand 29 = .ok (.invokevirtual 34, 3) := by decide +kernel
theorem dX9_stand_32 : decode cX9_stand 32 = .ok (.putfield 40, 3) := by decide +kernel
theorem dX9_stand_35 : decode cX9_stand 35 = .ok (.aload_n 0, 1) := by decide +kernel
theorem dX9_stand_36 : decode cX9_stand 36 = .ok (.aload_n 0, 1) := by decide +kernel
theorem dX9_stand_37 : decode cX9_stand 37 = .ok (.getfield 40, 3) := by decide +kernel
theorem dX9_stand_40 : decode cX9_stand 40 = .ok (.invokestatic 43, 3) := by decide +kernel
theorem dX9_stand_43 : decode cX9_stand 43 = .ok (.putfield 49, 3) := by decide +kernel
theorem dX9_stand_46 : decode cX9_stand 46 = .ok (.aload_n 0, 1) := by decide +kernel
theorem dX9_stand_47 : decode cX9_stand 47 = .ok (.aload_n 1, 1) := by decide +kernel
theorem dX9_stand_48 : decode cX9_stand 48 = .ok (.getfield 28, 3) := by decide +kernel
theorem dX9_stand_51 : decode cX9_stand 51 = .ok (.iload_n 2, 1) := by decide +kernel
theorem dX9_stand_52 : decode cX9_stand 52 = .ok (.iconst 1, 1) := by decide +kernel
theorem dX9_stand_53 : decode cX9_stand 53 = .ok (.invokevirtual 34, 3) := by decide +kernel
theorem dX9_stand_56 : decode cX9_stand 56 = .ok (.putfield 52, 3) := by decide +kernel
theorem dX9_stand_59 : decode cX9_stand 59 = .ok (.aload_n 0, 1) := by decide +kernel
theorem dX9_stand_60 : decode cX9_stand 60 = .ok (.aload_n 1, 1) := by decide +kernel
theorem dX9_stand_61 : decode cX9_stand 61 = .ok (.getfield 55, 3) := by decide +kernel
theorem dX9_stand_64 : decode cX9_stand 64 = .ok (.iload 4, 2) := by decide +kernel
theorem dX9_stand_66 : decode cX9_stand 66 = .ok (.iconst 0, 1) := by decide +kernel
theorem dX9_stand_67 : decode cX9_stand 67 = .ok (.invokevirtual 34, 3) := by decide +kernel
theorem dX9_stand_70 : decode cX9_stand 70 = .ok (.putfield 58, 3) := by decide +kernel
theorem dX9_stand_73 : decode cX9_stand 73 = .ok (.aload_n 0, 1) := by decide +kernel
theorem dX9_stand_74 : decode cX9_stand 74 = .ok (.aload_n 1, 1) := by decide +kernel
theorem dX9_stand_75 : decode cX9_stand 75 = .ok (.getfield 55, 3) := by decide +kernel
theorem dX9_stand_78 : decode cX9_stand 78 = .ok (.iload 4, 2) := by decide +kernel
theorem dX9_stand_80 : decode cX9_stand 80 = .ok (.iconst 1, 1) := by decide +kernel
theorem dX9_stand_81 : decode cX9_stand 81 = .ok (.invokevirtual 34, 3) := by decide +kernel
theorem dX9_stand_84 : decode cX9_stand 84 = .ok (.putfield 61, 3) := by decide +kernel
theorem dX9_stand_87 : decode cX9_stand 87 = .ok (.aload_n 0, 1) := by decide +kernel
theorem dX9_stand_88 : decode cX9_stand 88 = .ok (.aload_n 1, 1) := by decide +kernel
theorem dX9_stand_89 : decode cX9_stand 89 = .ok (.getfield 55, 3) := by decide +kernel
theorem dX9_stand_92 : decode cX9_stand 92 = .ok (.iload 4, 2) := by decide +kernel
theorem dX9_stand_94 : decode cX9_stand 94 = .ok (.iconst 2, 1) := by decide +kernel
theorem dX9_stand_95 : decode cX9_stand 95 = .ok (.invokevirtual 34, 3) := by decide +kernel
theorem dX9_stand_98 : decode cX9_stand 98 = .ok (.iload_n 2, 1) := by decide +kernel
theorem dX9_stand_99 : decode cX9_stand 99 = .ok (.if_icmp .ne 7, 3) := by decide +kernel
theorem dX9_stand_102 : decode cX9_stand 102 = .ok (.iconst 1, 1) := by decide +kernel
theorem dX9_stand_103 : decode cX9_stand 103 = .ok (.goto 4, 3) := by decide +kernel
theorem dX9_stand_106 : decode cX9_stand 106 = .ok (.iconst 0, 1) := by decide +kernel
theorem dX9_stand_107 : decode cX9_stand 107 = .ok (.putfield 64, 3) := by decide +kernel
theorem dX9_stand_110 : decode cX9_stand 110 = .ok (.return_, 1) := by decide +kernel
theorem dX9_standAtAsk_0 : decode cX9_standAtAsk 0 = .ok (.aload_n 1, 1) := by decide +kernel
theorem dX9_standAtAsk_1 : decode cX9_standAtAsk 1 = .ok (.getfield 68, 3) := by decide +kernel
theorem dX9_standAtAsk_4 : decode cX9_standAtAsk 4 = .ok (.astore_n 3, 1) := by decide +kernel
theorem dX9_standAtAsk_5 : decode cX9_standAtAsk 5 = .ok (.aload_n 0, 1) := by decide +kernel
theorem dX9_standAtAsk_6 : decode cX9_standAtAsk 6 = .ok (.aload_n 1, 1) := by decide +kernel
theorem dX9_standAtAsk_7 : decode cX9_standAtAsk 7 = .ok (.aload_n 3, 1) := by decide +kernel
theorem dX9_standAtAsk_8 : decode cX9_standAtAsk 8 = .ok (.iload_n 2, 1) := by decide +kernel
theorem dX9_standAtAsk_9 : decode cX9_standAtAsk 9 = .ok (.iconst 0, 1) := by decide +kernel
theorem dX9_standAtAsk_10 : decode cX9_standAtAsk 10 = .ok (.invokevirtual 34, 3) := by decide +kernel
theorem dX9_standAtAsk_13 : decode cX9_standAtAsk 13 = .ok (.aload_n 3, 1) := by decide +kernel
theorem dX9_standAtAsk_14 : decode cX9_standAtAsk 14 = .ok (.iload_n 2, 1) := by decide +kernel
theorem dX9_standAtAsk_15 : decode cX9_standAtAsk 15 = .ok (.iconst 1, 1) := by decide +kernel
theorem dX9_standAtAsk_16 : decode cX9_standAtAsk 16 = .ok (.invokevirtual 34, 3) := by decide +kernel
theorem dX9_standAtAsk_19 : decode cX9_standAtAsk 19 = .ok (.aload_n 3, 1) := by decide +kernel
theorem dX9_standAtAsk_20 : decode cX9_standAtAsk 20 = .ok (.iload_n 2, 1) := by decide +kernel
theorem dX9_standAtAsk_21 : decode cX9_standAtAsk 21 = .ok (.iconst 2, 1) := by decide +kernel
theorem dX9_standAtAsk_22 : decode cX9_standAtAsk 22 = .ok (.invokevirtual 34, 3) := by decide +kernel
theorem dX9_standAtAsk_25 : decode cX9_standAtAsk 25 = .ok (.aload_n 3, 1) := by decide +kernel
theorem dX9_standAtAsk_26 : decode cX9_standAtAsk 26 = .ok (.iload_n 2, 1) := by decide +kernel
theorem dX9_standAtAsk_27 : decode cX9_standAtAsk 27 = .ok (.iconst 3, 1) := by decide +kernel
theorem dX9_standAtAsk_28 : decode cX9_standAtAsk 28 = .ok (.invokevirtual 34, 3) := by decide +kernel
theorem dX9_standAtAsk_31 : decode cX9_standAtAsk 31 = .ok (.invokevirtual 71, 3) := by decide +kernel
theorem dX9_standAtAsk_34 : decode cX9_standAtAsk 34 = .ok (.return_, 1) := by decide +kernel
theorem dX9_standAtCase_0 : decode cX9_standAtCase 0 = .ok (.aload_n 1, 1) := by decide +kernel
theorem dX9_standAtCase_1 : decode cX9_standAtCase 1 = .ok (.getfield 55, 3) := by decide +kernel
theorem dX9_standAtCase_4 : decode cX9_standAtCase 4 = .ok (.getfield 75, 3) := by decide +kernel
theorem dX9_standAtCase_7 : decode cX9_standAtCase 7 = .ok (.istore_n 3, 1) := by decide +kernel
theorem dX9_standAtCase_8 : decode cX9_standAtCase 8 = .ok (.iload_n 3, 1) := by decide +kernel
theorem dX9_standAtCase_9 : decode cX9_standAtCase 9 = .ok (.ifCond .le 22, 3) := by decide +kernel
theorem dX9_standAtCase_12 : decode cX9_standAtCase 12 = .ok (.aload_n 0, 1) := by decide +kernel
theorem dX9_standAtCase_13 : decode cX9_standAtCase 13 = .ok (.aload_n 1, 1) := by decide +kernel
theorem dX9_standAtCase_14 : decode cX9_standAtCase 14 = .ok (.iload_n 2, 1) := by decide +kernel
theorem dX9_standAtCase_15 : decode cX9_standAtCase 15 = .ok (.iload_n 3, 1) := by decide +kernel
theorem dX9_standAtCase_16 : decode cX9_standAtCase 16 = .ok (.idiv, 1) := by decide +kernel
theorem dX9_standAtCase_17 : decode cX9_standAtCase 17 = .ok (.iconst 4, 1) := by decide +kernel
theorem dX9_standAtCase_18 : decode cX9_standAtCase 18 = .ok (.idiv, 1) := by decide +kernel
theorem dX9_standAtCase_19 : decode cX9_standAtCase 19 = .ok (.iload_n 2, 1) := by decide +kernel
theorem dX9_standAtCase_20 : decode cX9_standAtCase 20 = .ok (.iload_n 3, 1) := by decide +kernel
theorem dX9_standAtCase_21 : decode cX9_standAtCase 21 = .ok (.idiv, 1) := by decide +kernel
theorem dX9_standAtCase_22 : decode cX9_standAtCase 22 = .ok (.iconst 4, 1) := by decide +kernel
theorem dX9_standAtCase_23 : decode cX9_standAtCase 23 = .ok (.irem, 1) := by decide +kernel
theorem dX9_standAtCase_24 : decode cX9_standAtCase 24 = .ok (.iload_n 2, 1) := by decide +kernel
theorem dX9_standAtCase_25 : decode cX9_standAtCase 25 = .ok (.iload_n 3, 1) := by decide +kernel
theorem dX9_standAtCase_26 : decode cX9_standAtCase 26 = .ok (.irem, 1) := by decide +kernel
theorem dX9_standAtCase_27 : decode cX9_standAtCase 27 = .ok (.iconst 0, 1) := by decide +kernel
theorem dX9_standAtCase_28 : decode cX9_standAtCase 28 = .ok (.invokevirtual 71, 3) := by decide +kernel
theorem dX9_standAtCase_31 : decode cX9_standAtCase 31 = .ok (.return_, 1) := by decide +kernel
theorem dX9_toldAt_0 : decode cX9_toldAt 0 = .ok (.iload_n 2, 1) := by decide +kernel
theorem dX9_toldAt_1 : decode cX9_toldAt 1 = .ok (.tableswitch 48 0 3 #[31, 36, 41, 46], 31) := by decide +kernel
theorem dX9_toldAt_32 : decode cX9_toldAt 32 = .ok (.aload_n 0, 1) := by decide +kernel
theorem dX9_toldAt_33 : decode cX9_toldAt 33 = .ok (.getfield 15, 3) := by decide +kernel
theorem dX9_toldAt_36 : decode cX9_toldAt 36 = .ok (.ireturn, 1) := by decide +kernel
theorem dX9_toldAt_37 : decode cX9_toldAt 37 = .ok (.aload_n 0, 1) := by decide +kernel
theorem dX9_toldAt_38 : decode cX9_toldAt 38 = .ok (.getfield 19, 3) := by decide +kernel
theorem dX9_toldAt_41 : decode cX9_toldAt 41 = .ok (.ireturn, 1) := by decide +kernel
theorem dX9_toldAt_42 : decode cX9_toldAt 42 = .ok (.aload_n 0, 1) := by decide +kernel
theorem dX9_toldAt_43 : decode cX9_toldAt 43 = .ok (.getfield 22, 3) := by decide +kernel
theorem dX9_toldAt_46 : decode cX9_toldAt 46 = .ok (.ireturn, 1) := by decide +kernel
theorem dX9_toldAt_47 : decode cX9_toldAt 47 = .ok (.iload_n 1, 1) := by decide +kernel
theorem dX9_toldAt_48 : decode cX9_toldAt 48 = .ok (.ireturn, 1) := by decide +kernel
theorem dX9_toldAt_49 : decode cX9_toldAt 49 = .ok (.iconst (-1), 1) := by decide +kernel
theorem dX9_toldAt_50 : decode cX9_toldAt 50 = .ok (.ireturn, 1) := by decide +kernel
theorem dX9_decider_0 : decode cX9_decider 0 = .ok (.iconst 0, 1) := by decide +kernel
theorem dX9_decider_1 : decode cX9_decider 1 = .ok (.istore_n 2, 1) := by decide +kernel
theorem dX9_decider_2 : decode cX9_decider 2 = .ok (.iload_n 2, 1) := by decide +kernel
theorem dX9_decider_3 : decode cX9_decider 3 = .ok (.aload_n 1, 1) := by decide +kernel
theorem dX9_decider_4 : decode cX9_decider 4 = .ok (.getfield 78, 3) := by decide +kernel
theorem dX9_decider_7 : decode cX9_decider 7 = .ok (.arraylength, 1) := by decide +kernel
theorem dX9_decider_8 : decode cX9_decider 8 = .ok (.if_icmp .ge 40, 3) := by decide +kernel
theorem dX9_decider_11 : decode cX9_decider 11 = .ok (.aload_n 0, 1) := by decide +kernel
theorem dX9_decider_12 : decode cX9_decider 12 = .ok (.aload_n 1, 1) := by decide +kernel
theorem dX9_decider_13 : decode cX9_decider 13 = .ok (.aload_n 1, 1) := by decide +kernel
theorem dX9_decider_14 : decode cX9_decider 14 = .ok (.getfield 78, 3) := by decide +kernel
theorem dX9_decider_17 : decode cX9_decider 17 = .ok (.iload_n 2, 1) := by decide +kernel
theorem dX9_decider_18 : decode cX9_decider 18 = .ok (.iaload, 1) := by decide +kernel
theorem dX9_decider_19 : decode cX9_decider 19 = .ok (.invokevirtual 83, 3) := by decide +kernel
theorem dX9_decider_22 : decode cX9_decider 22 = .ok (.invokevirtual 87, 3) := by decide +kernel
theorem dX9_decider_25 : decode cX9_decider 25 = .ok (.aload_n 0, 1) := by decide +kernel
theorem dX9_decider_26 : decode cX9_decider 26 = .ok (.getfield 25, 3) := by decide +kernel
theorem dX9_decider_29 : decode cX9_decider 29 = .ok (.invokestatic 91, 3) := by decide +kernel
theorem dX9_decider_32 : decode cX9_decider 32 = .ok (.ifCond .eq 10, 3) := by decide +kernel
theorem dX9_decider_35 : decode cX9_decider 35 = .ok (.aload_n 1, 1) := by decide +kernel
theorem dX9_decider_36 : decode cX9_decider 36 = .ok (.getfield 78, 3) := by decide +kernel
theorem dX9_decider_39 : decode cX9_decider 39 = .ok (.iload_n 2, 1) := by decide +kernel
theorem dX9_decider_40 : decode cX9_decider 40 = .ok (.iaload, 1) := by decide +kernel
theorem dX9_decider_41 : decode cX9_decider 41 = .ok (.ireturn, 1) := by decide +kernel
theorem dX9_decider_42 : decode cX9_decider 42 = .ok (.iinc 2 1, 3) := by decide +kernel
theorem dX9_decider_45 : decode cX9_decider 45 = .ok (.goto (-43), 3) := by decide +kernel
theorem dX9_decider_48 : decode cX9_decider 48 = .ok (.iconst (-1), 1) := by decide +kernel
theorem dX9_decider_49 : decode cX9_decider 49 = .ok (.ireturn, 1) := by decide +kernel
theorem dX9_lets_0 : decode cX9_lets 0 = .ok (.aload_n 1, 1) := by decide +kernel
theorem dX9_lets_1 : decode cX9_lets 1 = .ok (.aload_n 0, 1) := by decide +kernel
theorem dX9_lets_2 : decode cX9_lets 2 = .ok (.aload_n 1, 1) := by decide +kernel
theorem dX9_lets_3 : decode cX9_lets 3 = .ok (.invokevirtual 95, 3) := by decide +kernel
theorem dX9_lets_6 : decode cX9_lets 6 = .ok (.invokevirtual 83, 3) := by decide +kernel
theorem dX9_lets_9 : decode cX9_lets 9 = .ok (.astore_n 2, 1) := by decide +kernel
theorem dX9_lets_10 : decode cX9_lets 10 = .ok (.aload_n 2, 1) := by decide +kernel
theorem dX9_lets_11 : decode cX9_lets 11 = .ok (.ifnull 14, 3) := by decide +kernel
theorem dX9_lets_14 : decode cX9_lets 14 = .ok (.aload_n 2, 1) := by decide +kernel
theorem dX9_lets_15 : decode cX9_lets 15 = .ok (.getfield 99, 3) := by decide +kernel
theorem dX9_lets_18 : decode cX9_lets 18 = .ok (.ifCond .eq 7, 3) := by decide +kernel
theorem dX9_lets_21 : decode cX9_lets 21 = .ok (.iconst 1, 1) := by decide +kernel
theorem dX9_lets_22 : decode cX9_lets 22 = .ok (.goto 4, 3) := by decide +kernel
theorem dX9_lets_25 : decode cX9_lets 25 = .ok (.iconst 0, 1) := by decide +kernel
theorem dX9_lets_26 : decode cX9_lets 26 = .ok (.ireturn, 1) := by decide +kernel
theorem dX9_linesHeld_0 : decode cX9_linesHeld 0 = .ok (.iconst 0, 1) := by decide +kernel
theorem dX9_linesHeld_1 : decode cX9_linesHeld 1 = .ok (.istore_n 2, 1) := by decide +kernel
theorem dX9_linesHeld_2 : decode cX9_linesHeld 2 = .ok (.iconst 0, 1) := by decide +kernel
theorem dX9_linesHeld_3 : decode cX9_linesHeld 3 = .ok (.istore_n 3, 1) := by decide +kernel
theorem dX9_linesHeld_4 : decode cX9_linesHeld 4 = .ok (.iload_n 3, 1) := by decide +kernel
theorem dX9_linesHeld_5 : decode cX9_linesHeld 5 = .ok (.aload_n 1, 1) := by decide +kernel
theorem dX9_linesHeld_6 : decode cX9_linesHeld 6 = .ok (.getfield 104, 3) := by decide +kernel
theorem dX9_linesHeld_9 : decode cX9_linesHeld 9 = .ok (.arraylength, 1) := by decide +kernel
theorem dX9_linesHeld_10 : decode cX9_linesHeld 10 = .ok (.if_icmp .ge 35, 3) := by decide +kernel
theorem dX9_linesHeld_13 : decode cX9_linesHeld 13 = .ok (.aload_n 0, 1) := by decide +kernel
theorem dX9_linesHeld_14 : decode cX9_linesHeld 14 = .ok (.aload_n 1, 1) := by decide +kernel
theorem dX9_linesHeld_15 : decode cX9_linesHeld 15 = .ok (.getfield 104, 3) := by decide +kernel
theorem dX9_linesHeld_18 : decode cX9_linesHeld 18 = .ok (.iload_n 3, 1) := by decide +kernel
theorem dX9_linesHeld_19 : decode cX9_linesHeld 19 = .ok (.aaload, 1) := by decide +kernel
theorem dX9_linesHeld_20 : decode cX9_linesHeld 20 = .ok (.invokevirtual 87, 3) := by decide +kernel
theorem dX9_linesHeld_23 : decode cX9_linesHeld 23 = .ok (.aload_n 0, 1) := by decide +kernel
theorem dX9_linesHeld_24 : decode cX9_linesHeld 24 = .ok (.getfield 25, 3) := by decide +kernel
theorem dX9_linesHeld_27 : decode cX9_linesHeld 27 = .ok (.invokestatic 91, 3) := by decide +kernel
theorem dX9_linesHeld_30 : decode cX9_linesHeld 30 = .ok (.ifCond .eq 9, 3) := by decide +kernel
theorem dX9_linesHeld_33 : decode cX9_linesHeld 33 = .ok (.iload_n 2, 1) := by decide +kernel
theorem dX9_linesHeld_34 : decode cX9_linesHeld 34 = .ok (.iconst 1, 1) := by decide +kernel
theorem dX9_linesHeld_35 : decode cX9_linesHeld 35 = .ok (.iload_n 3, 1) := by decide +kernel
theorem dX9_linesHeld_36 : decode cX9_linesHeld 36 = .ok (.ishl, 1) := by decide +kernel
theorem dX9_linesHeld_37 : decode cX9_linesHeld 37 = .ok (.ior, 1) := by decide +kernel
theorem dX9_linesHeld_38 : decode cX9_linesHeld 38 = .ok (.istore_n 2, 1) := by decide +kernel
theorem dX9_linesHeld_39 : decode cX9_linesHeld 39 = .ok (.iinc 3 1, 3) := by decide +kernel
theorem dX9_linesHeld_42 : decode cX9_linesHeld 42 = .ok (.goto (-38), 3) := by decide +kernel
theorem dX9_linesHeld_45 : decode cX9_linesHeld 45 = .ok (.iload_n 2, 1) := by decide +kernel
theorem dX9_linesHeld_46 : decode cX9_linesHeld 46 = .ok (.ireturn, 1) := by decide +kernel
theorem dX9_hoursLet_0 : decode cX9_hoursLet 0 = .ok (.ldc 108, 2) := by decide +kernel
theorem dX9_hoursLet_2 : decode cX9_hoursLet 2 = .ok (.istore_n 2, 1) := by decide +kernel
theorem dX9_hoursLet_3 : decode cX9_hoursLet 3 = .ok (.iconst 0, 1) := by decide +kernel
theorem dX9_hoursLet_4 : decode cX9_hoursLet 4 = .ok (.istore_n 3, 1) := by decide +kernel
theorem dX9_hoursLet_5 : decode cX9_hoursLet 5 = .ok (.iconst 0, 1) := by decide +kernel
theorem dX9_hoursLet_6 : decode cX9_hoursLet 6 = .ok (.istore 4, 2) := by decide +kernel
theorem dX9_hoursLet_8 : decode cX9_hoursLet 8 = .ok (.iload 4, 2) := by decide +kernel
theorem dX9_hoursLet_10 : decode cX9_hoursLet 10 = .ok (.aload_n 1, 1) := by decide +kernel
theorem dX9_hoursLet_11 : decode cX9_hoursLet 11 = .ok (.getfield 78, 3) := by decide +kernel
theorem dX9_hoursLet_14 : decode cX9_hoursLet 14 = .ok (.arraylength, 1) := by decide +kernel
theorem dX9_hoursLet_15 : decode cX9_hoursLet 15 = .ok (.if_icmp .ge 61, 3) := by decide +kernel
theorem dX9_hoursLet_18 : decode cX9_hoursLet 18 = .ok (.iload_n 2, 1) := by decide +kernel
theorem dX9_hoursLet_19 : decode cX9_hoursLet 19 = .ok (.ifCond .eq 57, 3) := by decide +kernel
theorem dX9_hoursLet_22 : decode cX9_hoursLet 22 = .ok (.aload_n 1, 1) := by decide +kernel
theorem dX9_hoursLet_23 : decode cX9_hoursLet 23 = .ok (.aload_n 1, 1) := by decide +kernel
theorem dX9_hoursLet_24 : decode cX9_hoursLet 24 = .ok (.getfield 78, 3) := by decide +kernel
theorem dX9_hoursLet_27 : decode cX9_hoursLet 27 = .ok (.iload 4, 2) := by decide +kernel
theorem dX9_hoursLet_29 : decode cX9_hoursLet 29 = .ok (.iaload, 1) := by decide +kernel
theorem dX9_hoursLet_30 : decode cX9_hoursLet 30 = .ok (.invokevirtual 83, 3) := by decide +kernel
theorem dX9_hoursLet_33 : decode cX9_hoursLet 33 = .ok (.astore 5, 2) := by decide +kernel
theorem dX9_hoursLet_35 : decode cX9_hoursLet 35 = .ok (.aload_n 0, 1) := by decide +kernel
theorem dX9_hoursLet_36 : decode cX9_hoursLet 36 = .ok (.aload 5, 2) := by decide +kernel
theorem dX9_hoursLet_38 : decode cX9_hoursLet 38 = .ok (.invokevirtual 87, 3) := by decide +kernel
theorem dX9_hoursLet_41 : decode cX9_hoursLet 41 = .ok (.istore 6, 2) := by decide +kernel
theorem dX9_hoursLet_43 : decode cX9_hoursLet 43 = .ok (.aload 5, 2) := by decide +kernel
theorem dX9_hoursLet_45 : decode cX9_hoursLet 45 = .ok (.ifnull 18, 3) := by decide +kernel
theorem dX9_hoursLet_48 : decode cX9_hoursLet 48 = .ok (.aload 5, 2) := by decide +kernel
theorem dX9_hoursLet_50 : decode cX9_hoursLet 50 = .ok (.getfield 99, 3) := by decide +kernel
theorem dX9_hoursLet_53 : decode cX9_hoursLet 53 = .ok (.ifCond .eq 10, 3) := by decide +kernel
theorem dX9_hoursLet_56 : decode cX9_hoursLet 56 = .ok (.iload_n 3, 1) := by decide +kernel
theorem dX9_hoursLet_57 : decode cX9_hoursLet 57 = .ok (.iload_n 2, 1) := by decide +kernel
theorem dX9_hoursLet_58 : decode cX9_hoursLet 58 = .ok (.iload 6, 2) := by decide +kernel
theorem dX9_hoursLet_60 : decode cX9_hoursLet 60 = .ok (.iand, 1) := by decide +kernel
theorem dX9_hoursLet_61 : decode cX9_hoursLet 61 = .ok (.ior, 1) := by decide +kernel
theorem dX9_hoursLet_62 : decode cX9_hoursLet 62 = .ok (.istore_n 3, 1) := by decide +kernel
theorem dX9_hoursLet_63 : decode cX9_hoursLet 63 = .ok (.iload_n 2, 1) := by decide +kernel
theorem dX9_hoursLet_64 : decode cX9_hoursLet 64 = .ok (.iload 6, 2) := by decide +kernel
theorem dX9_hoursLet_66 : decode cX9_hoursLet 66 = .ok (.iconst (-1), 1) := by decide +kernel
theorem dX9_hoursLet_67 : decode cX9_hoursLet 67 = .ok (.ixor, 1) := by decide +kernel
theorem dX9_hoursLet_68 : decode cX9_hoursLet 68 = .ok (.iand, 1) := by decide +kernel
theorem dX9_hoursLet_69 : decode cX9_hoursLet 69 = .ok (.istore_n 2, 1) := by decide +kernel
theorem dX9_hoursLet_70 : decode cX9_hoursLet 70 = .ok (.iinc 4 1, 3) := by decide +kernel
theorem dX9_hoursLet_73 : decode cX9_hoursLet 73 = .ok (.goto (-65), 3) := by decide +kernel
theorem dX9_hoursLet_76 : decode cX9_hoursLet 76 = .ok (.iload_n 3, 1) := by decide +kernel
theorem dX9_hoursLet_77 : decode cX9_hoursLet 77 = .ok (.ireturn, 1) := by decide +kernel
theorem dX9_hoursDecided_0 : decode cX9_hoursDecided 0 = .ok (.ldc 108, 2) := by decide +kernel
theorem dX9_hoursDecided_2 : decode cX9_hoursDecided 2 = .ok (.istore_n 3, 1) := by decide +kernel
theorem dX9_hoursDecided_3 : decode cX9_hoursDecided 3 = .ok (.iconst 0, 1) := by decide +kernel
theorem dX9_hoursDecided_4 : decode cX9_hoursDecided 4 = .ok (.istore 4, 2) := by decide +kernel
theorem dX9_hoursDecided_6 : decode cX9_hoursDecided 6 = .ok (.iload 4, 2) := by decide +kernel
theorem dX9_hoursDecided_8 : decode cX9_hoursDecided 8 = .ok (.aload_n 1, 1) := by decide +kernel
theorem dX9_hoursDecided_9 : decode cX9_hoursDecided 9 = .ok (.getfield 78, 3) := by decide +kernel
theorem dX9_hoursDecided_12 : decode cX9_hoursDecided 12 = .ok (.arraylength, 1) := by decide +kernel
theorem dX9_hoursDecided_13 : decode cX9_hoursDecided 13 = .ok (.if_icmp .ge 53, 3) := by decide +kernel
theorem dX9_hoursDecided_16 : decode cX9_hoursDecided 16 = .ok (.iload_n 3, 1) := by decide +kernel
theorem dX9_hoursDecided_17 : decode cX9_hoursDecided 17 = .ok (.ifCond .eq 49, 3) := by decide +kernel
theorem dX9_hoursDecided_20 : decode cX9_hoursDecided 20 = .ok (.aload_n 0, 1) := by decide +kernel
theorem dX9_hoursDecided_21 : decode cX9_hoursDecided 21 = .ok (.aload_n 1, 1) := by decide +kernel
theorem dX9_hoursDecided_22 : decode cX9_hoursDecided 22 = .ok (.aload_n 1, 1) := by decide +kernel
theorem dX9_hoursDecided_23 : decode cX9_hoursDecided 23 = .ok (.getfield 78, 3) := by decide +kernel
theorem dX9_hoursDecided_26 : decode cX9_hoursDecided 26 = .ok (.iload 4, 2) := by decide +kernel
theorem dX9_hoursDecided_28 : decode cX9_hoursDecided 28 = .ok (.iaload, 1) := by decide +kernel
theorem dX9_hoursDecided_29 : decode cX9_hoursDecided 29 = .ok (.invokevirtual 83, 3) := by decide +kernel
theorem dX9_hoursDecided_32 : decode cX9_hoursDecided 32 = .ok (.invokevirtual 87, 3) := by decide +kernel
theorem dX9_hoursDecided_35 : decode cX9_hoursDecided 35 = .ok (.istore 5, 2) := by decide +kernel
theorem dX9_hoursDecided_37 : decode cX9_hoursDecided 37 = .ok (.aload_n 1, 1) := by decide +kernel
theorem dX9_hoursDecided_38 : decode cX9_hoursDecided 38 = .ok (.getfield 78, 3) := by decide +kernel
theorem dX9_hoursDecided_41 : decode cX9_hoursDecided 41 = .ok (.iload 4, 2) := by decide +kernel
theorem dX9_hoursDecided_43 : decode cX9_hoursDecided 43 = .ok (.iaload, 1) := by decide +kernel
theorem dX9_hoursDecided_44 : decode cX9_hoursDecided 44 = .ok (.iload_n 2, 1) := by decide +kernel
theorem dX9_hoursDecided_45 : decode cX9_hoursDecided 45 = .ok (.if_icmp .ne 8, 3) := by decide +kernel
theorem dX9_hoursDecided_48 : decode cX9_hoursDecided 48 = .ok (.iload_n 3, 1) := by decide +kernel
theorem dX9_hoursDecided_49 : decode cX9_hoursDecided 49 = .ok (.iload 5, 2) := by decide +kernel
theorem dX9_hoursDecided_51 : decode cX9_hoursDecided 51 = .ok (.iand, 1) := by decide +kernel
theorem dX9_hoursDecided_52 : decode cX9_hoursDecided 52 = .ok (.ireturn, 1) := by decide +kernel
theorem dX9_hoursDecided_53 : decode cX9_hoursDecided 53 = .ok (.iload_n 3, 1) := by decide +kernel
theorem dX9_hoursDecided_54 : decode cX9_hoursDecided 54 = .ok (.iload 5, 2) := by decide +kernel
theorem dX9_hoursDecided_56 : decode cX9_hoursDecided 56 = .ok (.iconst (-1), 1) := by decide +kernel
theorem dX9_hoursDecided_57 : decode cX9_hoursDecided 57 = .ok (.ixor, 1) := by decide +kernel
theorem dX9_hoursDecided_58 : decode cX9_hoursDecided 58 = .ok (.iand, 1) := by decide +kernel
theorem dX9_hoursDecided_59 : decode cX9_hoursDecided 59 = .ok (.istore_n 3, 1) := by decide +kernel
theorem dX9_hoursDecided_60 : decode cX9_hoursDecided 60 = .ok (.iinc 4 1, 3) := by decide +kernel
theorem dX9_hoursDecided_63 : decode cX9_hoursDecided 63 = .ok (.goto (-57), 3) := by decide +kernel
theorem dX9_hoursDecided_66 : decode cX9_hoursDecided 66 = .ok (.iconst 0, 1) := by decide +kernel
theorem dX9_hoursDecided_67 : decode cX9_hoursDecided 67 = .ok (.ireturn, 1) := by decide +kernel
theorem dX9_hoursHeld_0 : decode cX9_hoursHeld 0 = .ok (.aload_n 1, 1) := by decide +kernel
theorem dX9_hoursHeld_1 : decode cX9_hoursHeld 1 = .ok (.ifnull 27, 3) := by decide +kernel
theorem dX9_hoursHeld_4 : decode cX9_hoursHeld 4 = .ok (.aload_n 0, 1) := by decide +kernel
theorem dX9_hoursHeld_5 : decode cX9_hoursHeld 5 = .ok (.aload_n 1, 1) := by decide +kernel
theorem dX9_hoursHeld_6 : decode cX9_hoursHeld 6 = .ok (.invokevirtual 109, 3) := by decide +kernel
theorem dX9_hoursHeld_9 : decode cX9_hoursHeld 9 = .ok (.ifCond .eq 19, 3) := by decide +kernel
theorem dX9_hoursHeld_12 : decode cX9_hoursHeld 12 = .ok (.aload_n 0, 1) := by decide +kernel
theorem dX9_hoursHeld_13 : decode cX9_hoursHeld 13 = .ok (.aload_n 1, 1) := by decide +kernel
theorem dX9_hoursHeld_14 : decode cX9_hoursHeld 14 = .ok (.invokevirtual 113, 3) := by decide +kernel
theorem dX9_hoursHeld_17 : decode cX9_hoursHeld 17 = .ok (.ifCond .eq 11, 3) := by decide +kernel
theorem dX9_hoursHeld_20 : decode cX9_hoursHeld 20 = .ok (.aload_n 0, 1) := by decide +kernel
theorem dX9_hoursHeld_21 : decode cX9_hoursHeld 21 = .ok (.aload_n 1, 1) := by decide +kernel
theorem dX9_hoursHeld_22 : decode cX9_hoursHeld 22 = .ok (.invokevirtual 116, 3) := by decide +kernel
theorem dX9_hoursHeld_25 : decode cX9_hoursHeld 25 = .ok (.ifCond .ne 5, 3) := by decide +kernel
theorem dX9_hoursHeld_28 : decode cX9_hoursHeld 28 = .ok (.iconst 0, 1) := by decide +kernel
theorem dX9_hoursHeld_29 : decode cX9_hoursHeld 29 = .ok (.ireturn, 1) := by decide +kernel
theorem dX9_hoursHeld_30 : decode cX9_hoursHeld 30 = .ok (.aload_n 1, 1) := by decide +kernel
theorem dX9_hoursHeld_31 : decode cX9_hoursHeld 31 = .ok (.getfield 119, 3) := by decide +kernel
theorem dX9_hoursHeld_34 : decode cX9_hoursHeld 34 = .ok (.arraylength, 1) := by decide +kernel
theorem dX9_hoursHeld_35 : decode cX9_hoursHeld 35 = .ok (.ifCond .ne 8, 3) := by decide +kernel
theorem dX9_hoursHeld_38 : decode cX9_hoursHeld 38 = .ok (.ldc 108, 2) := by decide +kernel
theorem dX9_hoursHeld_40 : decode cX9_hoursHeld 40 = .ok (.goto 11, 3) := by decide +kernel
theorem dX9_hoursHeld_43 : decode cX9_hoursHeld 43 = .ok (.aload_n 0, 1) := by decide +kernel
theorem dX9_hoursHeld_44 : decode cX9_hoursHeld 44 = .ok (.aload_n 1, 1) := by decide +kernel
theorem dX9_hoursHeld_45 : decode cX9_hoursHeld 45 = .ok (.getfield 119, 3) := by decide +kernel
theorem dX9_hoursHeld_48 : decode cX9_hoursHeld 48 = .ok (.invokevirtual 122, 3) := by decide +kernel
theorem dX9_hoursHeld_51 : decode cX9_hoursHeld 51 = .ok (.ireturn, 1) := by decide +kernel
theorem dX9_holdsAct_0 : decode cX9_holdsAct 0 = .ok (.aload_n 1, 1) := by decide +kernel
theorem dX9_holdsAct_1 : decode cX9_holdsAct 1 = .ok (.getfield 126, 3) := by decide +kernel
theorem dX9_holdsAct_4 : decode cX9_holdsAct 4 = .ok (.iconst 4, 1) := by decide +kernel
theorem dX9_holdsAct_5 : decode cX9_holdsAct 5 = .ok (.if_icmp .eq 14, 3) := by decide +kernel
theorem dX9_holdsAct_8 : decode cX9_holdsAct 8 = .ok (.aload_n 1, 1) := by decide +kernel
theorem dX9_holdsAct_9 : decode cX9_holdsAct 9 = .ok (.getfield 126, 3) := by decide +kernel
theorem dX9_holdsAct_12 : decode cX9_holdsAct 12 = .ok (.aload_n 0, 1) := by decide +kernel
theorem dX9_holdsAct_13 : decode cX9_holdsAct 13 = .ok (.getfield 19, 3) := by decide +kernel
theorem dX9_holdsAct_16 : decode cX9_holdsAct 16 = .ok (.if_icmp .ne 7, 3) := by decide +kernel
theorem dX9_holdsAct_19 : decode cX9_holdsAct 19 = .ok (.iconst 1, 1) := by decide +kernel
theorem dX9_holdsAct_20 : decode cX9_holdsAct 20 = .ok (.goto 4, 3) := by decide +kernel
theorem dX9_holdsAct_23 : decode cX9_holdsAct 23 = .ok (.iconst 0, 1) := by decide +kernel
theorem dX9_holdsAct_24 : decode cX9_holdsAct 24 = .ok (.ireturn, 1) := by decide +kernel
theorem dX9_holdsWho_0 : decode cX9_holdsWho 0 = .ok (.aload_n 1, 1) := by decide +kernel
theorem dX9_holdsWho_1 : decode cX9_holdsWho 1 = .ok (.getfield 127, 3) := by decide +kernel
theorem dX9_holdsWho_4 : decode cX9_holdsWho 4 = .ok (.tableswitch 68 0 3 #[32, 34, 46, 63], 32) := by decide +kernel
theorem dX9_holdsWho_36 : decode cX9_holdsWho 36 = .ok (.iconst 1, 1) := by decide +kernel
theorem dX9_holdsWho_37 : decode cX9_holdsWho 37 = .ok (.ireturn, 1) := by decide +kernel
theorem dX9_holdsWho_38 : decode cX9_holdsWho 38 = .ok (.aload_n 0, 1) := by decide +kernel
theorem dX9_holdsWho_39 : decode cX9_holdsWho 39 = .ok (.getfield 40, 3) := by decide +kernel
theorem dX9_holdsWho_42 : decode cX9_holdsWho 42 = .ok (.aload_n 1, 1) := by decide +kernel
theorem dX9_holdsWho_43 : decode cX9_holdsWho 43 = .ok (.getfield 130, 3) := by decide +kernel
theorem dX9_holdsWho_46 : decode cX9_holdsWho 46 = .ok (.invokestatic 91, 3) := by decide +kernel
theorem dX9_holdsWho_49 : decode cX9_holdsWho 49 = .ok (.ireturn, 1) := by decide +kernel
theorem dX9_holdsWho_50 : decode cX9_holdsWho 50 = .ok (.aload_n 0, 1) := by decide +kernel
theorem dX9_holdsWho_51 : decode cX9_holdsWho 51 = .ok (.getfield 15, 3) := by decide +kernel
theorem dX9_holdsWho_54 : decode cX9_holdsWho 54 = .ok (.aload_n 1, 1) := by decide +kernel
theorem dX9_holdsWho_55 : decode cX9_holdsWho 55 = .ok (.getfield 130, 3) := by decide +kernel
theorem dX9_holdsWho_58 : decode cX9_holdsWho 58 = .ok (.if_icmp .ne 7, 3) := by decide +kernel
theorem dX9_holdsWho_61 : decode cX9_holdsWho 61 = .ok (.iconst 1, 1) := by decide +kernel
theorem dX9_holdsWho_62 : decode cX9_holdsWho 62 = .ok (.goto 4, 3) := by decide +kernel
theorem dX9_holdsWho_65 : decode cX9_holdsWho 65 = .ok (.iconst 0, 1) := by decide +kernel
theorem dX9_holdsWho_66 : decode cX9_holdsWho 66 = .ok (.ireturn, 1) := by decide +kernel
theorem dX9_holdsWho_67 : decode cX9_holdsWho 67 = .ok (.aload_n 0, 1) := by decide +kernel
theorem dX9_holdsWho_68 : decode cX9_holdsWho 68 = .ok (.getfield 64, 3) := by decide +kernel
theorem dX9_holdsWho_71 : decode cX9_holdsWho 71 = .ok (.ireturn, 1) := by decide +kernel
theorem dX9_holdsWho_72 : decode cX9_holdsWho 72 = .ok (.aload_n 0, 1) := by decide +kernel
theorem dX9_holdsWho_73 : decode cX9_holdsWho 73 = .ok (.getfield 52, 3) := by decide +kernel
theorem dX9_holdsWho_76 : decode cX9_holdsWho 76 = .ok (.aload_n 1, 1) := by decide +kernel
theorem dX9_holdsWho_77 : decode cX9_holdsWho 77 = .ok (.getfield 130, 3) := by decide +kernel
theorem dX9_holdsWho_80 : decode cX9_holdsWho 80 = .ok (.if_icmp .lt 7, 3) := by decide +kernel
theorem dX9_holdsWho_83 : decode cX9_holdsWho 83 = .ok (.iconst 1, 1) := by decide +kernel
theorem dX9_holdsWho_84 : decode cX9_holdsWho 84 = .ok (.goto 4, 3) := by decide +kernel
theorem dX9_holdsWho_87 : decode cX9_holdsWho 87 = .ok (.iconst 0, 1) := by decide +kernel
theorem dX9_holdsWho_88 : decode cX9_holdsWho 88 = .ok (.ireturn, 1) := by decide +kernel
theorem dX9_holdsWhat_0 : decode cX9_holdsWhat 0 = .ok (.aload_n 1, 1) := by decide +kernel
theorem dX9_holdsWhat_1 : decode cX9_holdsWhat 1 = .ok (.getfield 133, 3) := by decide +kernel
theorem dX9_holdsWhat_4 : decode cX9_holdsWhat 4 = .ok (.tableswitch 64 0 2 #[28, 30, 47], 28) := by decide +kernel
theorem dX9_holdsWhat_32 : decode cX9_holdsWhat 32 = .ok (.iconst 1, 1) := by decide +kernel
theorem dX9_holdsWhat_33 : decode cX9_holdsWhat 33 = .ok (.ireturn, 1) := by decide +kernel
theorem dX9_holdsWhat_34 : decode cX9_holdsWhat 34 = .ok (.aload_n 0, 1) := by decide +kernel
theorem dX9_holdsWhat_35 : decode cX9_holdsWhat 35 = .ok (.getfield 58, 3) := by decide +kernel
theorem dX9_holdsWhat_38 : decode cX9_holdsWhat 38 = .ok (.aload_n 1, 1) := by decide +kernel
theorem dX9_holdsWhat_39 : decode cX9_holdsWhat 39 = .ok (.getfield 136, 3) := by decide +kernel
theorem dX9_holdsWhat_42 : decode cX9_holdsWhat 42 = .ok (.if_icmp .ne 7, 3) := by decide +kernel
theorem dX9_holdsWhat_45 : decode cX9_holdsWhat 45 = .ok (.iconst 1, 1) := by decide +kernel
theorem dX9_holdsWhat_46 : decode cX9_holdsWhat 46 = .ok (.goto 4, 3) := by decide +kernel
theorem dX9_holdsWhat_49 : decode cX9_holdsWhat 49 = .ok (.iconst 0, 1) := by decide +kernel
theorem dX9_holdsWhat_50 : decode cX9_holdsWhat 50 = .ok (.ireturn, 1) := by decide +kernel
theorem dX9_holdsWhat_51 : decode cX9_holdsWhat 51 = .ok (.aload_n 0, 1) := by decide +kernel
theorem dX9_holdsWhat_52 : decode cX9_holdsWhat 52 = .ok (.getfield 22, 3) := by decide +kernel
theorem dX9_holdsWhat_55 : decode cX9_holdsWhat 55 = .ok (.aload_n 1, 1) := by decide +kernel
theorem dX9_holdsWhat_56 : decode cX9_holdsWhat 56 = .ok (.getfield 136, 3) := by decide +kernel
theorem dX9_holdsWhat_59 : decode cX9_holdsWhat 59 = .ok (.if_icmp .ne 7, 3) := by decide +kernel
theorem dX9_holdsWhat_62 : decode cX9_holdsWhat 62 = .ok (.iconst 1, 1) := by decide +kernel
theorem dX9_holdsWhat_63 : decode cX9_holdsWhat 63 = .ok (.goto 4, 3) := by decide +kernel
theorem dX9_holdsWhat_66 : decode cX9_holdsWhat 66 = .ok (.iconst 0, 1) := by decide +kernel
theorem dX9_holdsWhat_67 : decode cX9_holdsWhat 67 = .ok (.ireturn, 1) := by decide +kernel
theorem dX9_holdsWhat_68 : decode cX9_holdsWhat 68 = .ok (.aload_n 0, 1) := by decide +kernel
theorem dX9_holdsWhat_69 : decode cX9_holdsWhat 69 = .ok (.getfield 61, 3) := by decide +kernel
theorem dX9_holdsWhat_72 : decode cX9_holdsWhat 72 = .ok (.aload_n 1, 1) := by decide +kernel
theorem dX9_holdsWhat_73 : decode cX9_holdsWhat 73 = .ok (.getfield 136, 3) := by decide +kernel
theorem dX9_holdsWhat_76 : decode cX9_holdsWhat 76 = .ok (.if_icmp .lt 7, 3) := by decide +kernel
theorem dX9_holdsWhat_79 : decode cX9_holdsWhat 79 = .ok (.iconst 1, 1) := by decide +kernel
theorem dX9_holdsWhat_80 : decode cX9_holdsWhat 80 = .ok (.goto 4, 3) := by decide +kernel
theorem dX9_holdsWhat_83 : decode cX9_holdsWhat 83 = .ok (.iconst 0, 1) := by decide +kernel
theorem dX9_holdsWhat_84 : decode cX9_holdsWhat 84 = .ok (.ireturn, 1) := by decide +kernel
theorem dX9_hoursOf_0 : decode cX9_hoursOf 0 = .ok (.aload_n 0, 1) := by decide +kernel
theorem dX9_hoursOf_1 : decode cX9_hoursOf 1 = .ok (.iconst 0, 1) := by decide +kernel
theorem dX9_hoursOf_2 : decode cX9_hoursOf 2 = .ok (.putfield 139, 3) := by decide +kernel
theorem dX9_hoursOf_5 : decode cX9_hoursOf 5 = .ok (.iconst 0, 1) := by decide +kernel
theorem dX9_hoursOf_6 : decode cX9_hoursOf 6 = .ok (.istore_n 2, 1) := by decide +kernel
theorem dX9_hoursOf_7 : decode cX9_hoursOf 7 = .ok (.iload_n 2, 1) := by decide +kernel
theorem dX9_hoursOf_8 : decode cX9_hoursOf 8 = .ok (.aload_n 1, 1) := by decide +kernel
theorem dX9_hoursOf_9 : decode cX9_hoursOf 9 = .ok (.arraylength, 1) := by decide +kernel
theorem dX9_hoursOf_10 : decode cX9_hoursOf 10 = .ok (.if_icmp .ge 20, 3) := by decide +kernel
theorem dX9_hoursOf_13 : decode cX9_hoursOf 13 = .ok (.aload_n 0, 1) := by decide +kernel
theorem dX9_hoursOf_14 : decode cX9_hoursOf 14 = .ok (.aload_n 0, 1) := by decide +kernel
theorem dX9_hoursOf_15 : decode cX9_hoursOf 15 = .ok (.aload_n 1, 1) := by decide +kernel
theorem dX9_hoursOf_16 : decode cX9_hoursOf 16 = .ok (.iload_n 2, 1) := by decide +kernel
theorem dX9_hoursOf_17 : decode cX9_hoursOf 17 = .ok (.iaload, 1) := by decide +kernel
theorem dX9_hoursOf_18 : decode cX9_hoursOf 18 = .ok (.invokevirtual 142, 3) := by decide +kernel
theorem dX9_hoursOf_21 : decode cX9_hoursOf 21 = .ok (.invokevirtual 145, 3) := by decide +kernel
theorem dX9_hoursOf_24 : decode cX9_hoursOf 24 = .ok (.iinc 2 1, 3) := by decide +kernel
theorem dX9_hoursOf_27 : decode cX9_hoursOf 27 = .ok (.goto (-20), 3) := by decide +kernel
theorem dX9_hoursOf_30 : decode cX9_hoursOf 30 = .ok (.aload_n 0, 1) := by decide +kernel
theorem dX9_hoursOf_31 : decode cX9_hoursOf 31 = .ok (.invokevirtual 149, 3) := by decide +kernel
theorem dX9_hoursOf_34 : decode cX9_hoursOf 34 = .ok (.ireturn, 1) := by decide +kernel
theorem dX9_hoursAfter_0 : decode cX9_hoursAfter 0 = .ok (.iload_n 1, 1) := by decide +kernel
theorem dX9_hoursAfter_1 : decode cX9_hoursAfter 1 = .ok (.invokestatic 153, 3) := by decide +kernel
theorem dX9_hoursAfter_4 : decode cX9_hoursAfter 4 = .ok (.istore_n 2, 1) := by decide +kernel
theorem dX9_hoursAfter_5 : decode cX9_hoursAfter 5 = .ok (.iload_n 1, 1) := by decide +kernel
theorem dX9_hoursAfter_6 : decode cX9_hoursAfter 6 = .ok (.invokestatic 156, 3) := by decide +kernel
theorem dX9_hoursAfter_9 : decode cX9_hoursAfter 9 = .ok (.istore_n 3, 1) := by decide +kernel
theorem dX9_hoursAfter_10 : decode cX9_hoursAfter 10 = .ok (.iload_n 1, 1) := by decide +kernel
theorem dX9_hoursAfter_11 : decode cX9_hoursAfter 11 = .ok (.invokestatic 159, 3) := by decide +kernel
theorem dX9_hoursAfter_14 : decode cX9_hoursAfter 14 = .ok (.tableswitch 107 0 5 #[38, 45, 66, 73, 87, 97], 38) := by decide +kernel
theorem dX9_hoursAfter_52 : decode cX9_hoursAfter 52 = .ok (.aload_n 0, 1) := by decide +kernel
theorem dX9_hoursAfter_53 : decode cX9_hoursAfter 53 = .ok (.iload_n 2, 1) := by decide +kernel
theorem dX9_hoursAfter_54 : decode cX9_hoursAfter 54 = .ok (.iload_n 3, 1) := by decide +kernel
theorem dX9_hoursAfter_55 : decode cX9_hoursAfter 55 = .ok (.invokevirtual 162, 3) := by decide +kernel
theorem dX9_hoursAfter_58 : decode cX9_hoursAfter 58 = .ok (.ireturn, 1) := by decide +kernel
theorem dX9_hoursAfter_59 : decode cX9_hoursAfter 59 = .ok (.ldc 108, 2) := by decide +kernel
theorem dX9_hoursAfter_61 : decode cX9_hoursAfter 61 = .ok (.aload_n 0, 1) := by decide +kernel
theorem dX9_hoursAfter_62 : decode cX9_hoursAfter 62 = .ok (.iload_n 2, 1) := by decide +kernel
theorem dX9_hoursAfter_63 : decode cX9_hoursAfter 63 = .ok (.iload_n 3, 1) := by decide +kernel
theorem dX9_hoursAfter_64 : decode cX9_hoursAfter 64 = .ok (.invokevirtual 162, 3) := by decide +kernel
theorem dX9_hoursAfter_67 : decode cX9_hoursAfter 67 = .ok (.iconst (-1), 1) := by decide +kernel
theorem dX9_hoursAfter_68 : decode cX9_hoursAfter 68 = .ok (.ixor, 1) := by decide +kernel
theorem dX9_hoursAfter_69 : decode cX9_hoursAfter 69 = .ok (.iand, 1) := by decide +kernel
theorem dX9_hoursAfter_70 : decode cX9_hoursAfter 70 = .ok (.aload_n 0, 1) := by decide +kernel
theorem dX9_hoursAfter_71 : decode cX9_hoursAfter 71 = .ok (.iload_n 3, 1) := by decide +kernel
theorem dX9_hoursAfter_72 : decode cX9_hoursAfter 72 = .ok (.iload_n 2, 1) := by decide +kernel
theorem dX9_hoursAfter_73 : decode cX9_hoursAfter 73 = .ok (.invokevirtual 162, 3) := by decide +kernel
theorem dX9_hoursAfter_76 : decode cX9_hoursAfter 76 = .ok (.iconst (-1), 1) := by decide +kernel
theorem dX9_hoursAfter_77 : decode cX9_hoursAfter 77 = .ok (.ixor, 1) := by decide +kernel
theorem dX9_hoursAfter_78 : decode cX9_hoursAfter 78 = .ok (.iand, 1) := by decide +kernel
theorem dX9_hoursAfter_79 : decode cX9_hoursAfter 79 = .ok (.ireturn, 1) := by decide +kernel
theorem dX9_hoursAfter_80 : decode cX9_hoursAfter 80 = .ok (.aload_n 0, 1) := by decide +kernel
theorem dX9_hoursAfter_81 : decode cX9_hoursAfter 81 = .ok (.iload_n 3, 1) := by decide +kernel
theorem dX9_hoursAfter_82 : decode cX9_hoursAfter 82 = .ok (.iload_n 2, 1) := by decide +kernel
theorem dX9_hoursAfter_83 : decode cX9_hoursAfter 83 = .ok (.invokevirtual 162, 3) := by decide +kernel
theorem dX9_hoursAfter_86 : decode cX9_hoursAfter 86 = .ok (.ireturn, 1) := by decide +kernel
theorem dX9_hoursAfter_87 : decode cX9_hoursAfter 87 = .ok (.aload_n 0, 1) := by decide +kernel
theorem dX9_hoursAfter_88 : decode cX9_hoursAfter 88 = .ok (.getfield 64, 3) := by decide +kernel
theorem dX9_hoursAfter_91 : decode cX9_hoursAfter 91 = .ok (.ifCond .eq 8, 3) := by decide +kernel
theorem dX9_hoursAfter_94 : decode cX9_hoursAfter 94 = .ok (.ldc 108, 2) := by decide +kernel
theorem dX9_hoursAfter_96 : decode cX9_hoursAfter 96 = .ok (.goto 4, 3) := by decide +kernel
theorem dX9_hoursAfter_99 : decode cX9_hoursAfter 99 = .ok (.iconst 0, 1) := by decide +kernel
theorem dX9_hoursAfter_100 : decode cX9_hoursAfter 100 = .ok (.ireturn, 1) := by decide +kernel
theorem dX9_hoursAfter_101 : decode cX9_hoursAfter 101 = .ok (.ldc 108, 2) := by decide +kernel
theorem dX9_hoursAfter_103 : decode cX9_hoursAfter 103 = .ok (.aload_n 0, 1) := by decide +kernel
theorem dX9_hoursAfter_104 : decode cX9_hoursAfter 104 = .ok (.invokevirtual 149, 3) := by decide +kernel
theorem dX9_hoursAfter_107 : decode cX9_hoursAfter 107 = .ok (.iconst (-1), 1) := by decide +kernel
theorem dX9_hoursAfter_108 : decode cX9_hoursAfter 108 = .ok (.ixor, 1) := by decide +kernel
theorem dX9_hoursAfter_109 : decode cX9_hoursAfter 109 = .ok (.iand, 1) := by decide +kernel
theorem dX9_hoursAfter_110 : decode cX9_hoursAfter 110 = .ok (.ireturn, 1) := by decide +kernel
theorem dX9_hoursAfter_111 : decode cX9_hoursAfter 111 = .ok (.aload_n 0, 1) := by decide +kernel
theorem dX9_hoursAfter_112 : decode cX9_hoursAfter 112 = .ok (.invokevirtual 149, 3) := by decide +kernel
theorem dX9_hoursAfter_115 : decode cX9_hoursAfter 115 = .ok (.aload_n 0, 1) := by decide +kernel
theorem dX9_hoursAfter_116 : decode cX9_hoursAfter 116 = .ok (.invokevirtual 149, 3) := by decide +kernel
theorem dX9_hoursAfter_119 : decode cX9_hoursAfter 119 = .ok (.iand, 1) := by decide +kernel
theorem dX9_hoursAfter_120 : decode cX9_hoursAfter 120 = .ok (.ireturn, 1) := by decide +kernel
theorem dX9_hoursAfter_121 : decode cX9_hoursAfter 121 = .ok (.aload_n 0, 1) := by decide +kernel
theorem dX9_hoursAfter_122 : decode cX9_hoursAfter 122 = .ok (.invokevirtual 149, 3) := by decide +kernel
theorem dX9_hoursAfter_125 : decode cX9_hoursAfter 125 = .ok (.aload_n 0, 1) := by decide +kernel
theorem dX9_hoursAfter_126 : decode cX9_hoursAfter 126 = .ok (.invokevirtual 149, 3) := by decide +kernel
theorem dX9_hoursAfter_129 : decode cX9_hoursAfter 129 = .ok (.ior, 1) := by decide +kernel
theorem dX9_hoursAfter_130 : decode cX9_hoursAfter 130 = .ok (.ireturn, 1) := by decide +kernel
theorem dX9_hoursLess_0 : decode cX9_hoursLess 0 = .ok (.iload_n 1, 1) := by decide +kernel
theorem dX9_hoursLess_1 : decode cX9_hoursLess 1 = .ok (.sipush 1000, 3) := by decide +kernel
theorem dX9_hoursLess_4 : decode cX9_hoursLess 4 = .ok (.if_icmp .ne 23, 3) := by decide +kernel
theorem dX9_hoursLess_7 : decode cX9_hoursLess 7 = .ok (.iload_n 2, 1) := by decide +kernel
theorem dX9_hoursLess_8 : decode cX9_hoursLess 8 = .ok (.sipush 1000, 3) := by decide +kernel
theorem dX9_hoursLess_11 : decode cX9_hoursLess 11 = .ok (.if_icmp .ne 7, 3) := by decide +kernel
theorem dX9_hoursLess_14 : decode cX9_hoursLess 14 = .ok (.iconst 0, 1) := by decide +kernel
theorem dX9_hoursLess_15 : decode cX9_hoursLess 15 = .ok (.goto 11, 3) := by decide +kernel
theorem dX9_hoursLess_18 : decode cX9_hoursLess 18 = .ok (.aload_n 0, 1) := by decide +kernel
theorem dX9_hoursLess_19 : decode cX9_hoursLess 19 = .ok (.iload_n 2, 1) := by decide +kernel
theorem dX9_hoursLess_20 : decode cX9_hoursLess 20 = .ok (.invokevirtual 165, 3) := by decide +kernel
theorem dX9_hoursLess_23 : decode cX9_hoursLess 23 = .ok (.invokestatic 168, 3) := by decide +kernel
theorem dX9_hoursLess_26 : decode cX9_hoursLess 26 = .ok (.ireturn, 1) := by decide +kernel
theorem dX9_hoursLess_27 : decode cX9_hoursLess 27 = .ok (.iload_n 2, 1) := by decide +kernel
theorem dX9_hoursLess_28 : decode cX9_hoursLess 28 = .ok (.sipush 1000, 3) := by decide +kernel
theorem dX9_hoursLess_31 : decode cX9_hoursLess 31 = .ok (.if_icmp .ne 19, 3) := by decide +kernel
theorem dX9_hoursLess_34 : decode cX9_hoursLess 34 = .ok (.ldc 108, 2) := by decide +kernel
theorem dX9_hoursLess_36 : decode cX9_hoursLess 36 = .ok (.aload_n 0, 1) := by decide +kernel
theorem dX9_hoursLess_37 : decode cX9_hoursLess 37 = .ok (.iload_n 1, 1) := by decide +kernel
theorem dX9_hoursLess_38 : decode cX9_hoursLess 38 = .ok (.invokevirtual 165, 3) := by decide +kernel
theorem dX9_hoursLess_41 : decode cX9_hoursLess 41 = .ok (.iconst 1, 1) := by decide +kernel
theorem dX9_hoursLess_42 : decode cX9_hoursLess 42 = .ok (.iadd, 1) := by decide +kernel
theorem dX9_hoursLess_43 : decode cX9_hoursLess 43 = .ok (.invokestatic 168, 3) := by decide +kernel
theorem dX9_hoursLess_46 : decode cX9_hoursLess 46 = .ok (.iconst (-1), 1) := by decide +kernel
theorem dX9_hoursLess_47 : decode cX9_hoursLess 47 = .ok (.ixor, 1) := by decide +kernel
theorem dX9_hoursLess_48 : decode cX9_hoursLess 48 = .ok (.iand, 1) := by decide +kernel
theorem dX9_hoursLess_49 : decode cX9_hoursLess 49 = .ok (.ireturn, 1) := by decide +kernel
theorem dX9_hoursLess_50 : decode cX9_hoursLess 50 = .ok (.aload_n 0, 1) := by decide +kernel
theorem dX9_hoursLess_51 : decode cX9_hoursLess 51 = .ok (.iload_n 1, 1) := by decide +kernel
theorem dX9_hoursLess_52 : decode cX9_hoursLess 52 = .ok (.invokevirtual 165, 3) := by decide +kernel
theorem dX9_hoursLess_55 : decode cX9_hoursLess 55 = .ok (.aload_n 0, 1) := by decide +kernel
theorem dX9_hoursLess_56 : decode cX9_hoursLess 56 = .ok (.iload_n 2, 1) := by decide +kernel
theorem dX9_hoursLess_57 : decode cX9_hoursLess 57 = .ok (.invokevirtual 165, 3) := by decide +kernel
theorem dX9_hoursLess_60 : decode cX9_hoursLess 60 = .ok (.if_icmp .ge 8, 3) := by decide +kernel
theorem dX9_hoursLess_63 : decode cX9_hoursLess 63 = .ok (.ldc 108, 2) := by decide +kernel
theorem dX9_hoursLess_65 : decode cX9_hoursLess 65 = .ok (.goto 4, 3) := by decide +kernel
theorem dX9_hoursLess_68 : decode cX9_hoursLess 68 = .ok (.iconst 0, 1) := by decide +kernel
theorem dX9_hoursLess_69 : decode cX9_hoursLess 69 = .ok (.ireturn, 1) := by decide +kernel
theorem dX9_hoursBelow_0 : decode cX9_hoursBelow 0 = .ok (.iload_n 0, 1) := by decide +kernel
theorem dX9_hoursBelow_1 : decode cX9_hoursBelow 1 = .ok (.bipush 24, 2) := by decide +kernel
theorem dX9_hoursBelow_3 : decode cX9_hoursBelow 3 = .ok (.if_icmp .lt 8, 3) := by decide +kernel
theorem dX9_hoursBelow_6 : decode cX9_hoursBelow 6 = .ok (.ldc 108, 2) := by decide +kernel
theorem dX9_hoursBelow_8 : decode cX9_hoursBelow 8 = .ok (.goto 8, 3) := by decide +kernel
theorem dX9_hoursBelow_11 : decode cX9_hoursBelow 11 = .ok (.iconst 1, 1) := by decide +kernel
theorem dX9_hoursBelow_12 : decode cX9_hoursBelow 12 = .ok (.iload_n 0, 1) := by decide +kernel
theorem dX9_hoursBelow_13 : decode cX9_hoursBelow 13 = .ok (.ishl, 1) := by decide +kernel
theorem dX9_hoursBelow_14 : decode cX9_hoursBelow 14 = .ok (.iconst 1, 1) := by decide +kernel
theorem dX9_hoursBelow_15 : decode cX9_hoursBelow 15 = .ok (.isub, 1) := by decide +kernel
theorem dX9_hoursBelow_16 : decode cX9_hoursBelow 16 = .ok (.ireturn, 1) := by decide +kernel
theorem dX9_value_0 : decode cX9_value 0 = .ok (.iload_n 1, 1) := by decide +kernel
theorem dX9_value_1 : decode cX9_value 1 = .ok (.tableswitch 51 1001 1004 #[31, 36, 41, 46], 31) := by decide +kernel
theorem dX9_value_32 : decode cX9_value 32 = .ok (.aload_n 0, 1) := by decide +kernel
theorem dX9_value_33 : decode cX9_value 33 = .ok (.getfield 52, 3) := by decide +kernel
theorem dX9_value_36 : decode cX9_value 36 = .ok (.ireturn, 1) := by decide +kernel
theorem dX9_value_37 : decode cX9_value 37 = .ok (.aload_n 0, 1) := by decide +kernel
theorem dX9_value_38 : decode cX9_value 38 = .ok (.getfield 61, 3) := by decide +kernel
theorem dX9_value_41 : decode cX9_value 41 = .ok (.ireturn, 1) := by decide +kernel
theorem dX9_value_42 : decode cX9_value 42 = .ok (.aload_n 0, 1) := by decide +kernel
theorem dX9_value_43 : decode cX9_value 43 = .ok (.getfield 58, 3) := by decide +kernel
theorem dX9_value_46 : decode cX9_value 46 = .ok (.ireturn, 1) := by decide +kernel
theorem dX9_value_47 : decode cX9_value 47 = .ok (.aload_n 0, 1) := by decide +kernel
theorem dX9_value_48 : decode cX9_value 48 = .ok (.getfield 49, 3) := by decide +kernel
theorem dX9_value_51 : decode cX9_value 51 = .ok (.ireturn, 1) := by decide +kernel
theorem dX9_value_52 : decode cX9_value 52 = .ok (.iload_n 1, 1) := by decide +kernel
theorem dX9_value_53 : decode cX9_value 53 = .ok (.ireturn, 1) := by decide +kernel
theorem dX9_push_0 : decode cX9_push 0 = .ok (.aload_n 0, 1) := by decide +kernel
theorem dX9_push_1 : decode cX9_push 1 = .ok (.getfield 139, 3) := by decide +kernel
theorem dX9_push_4 : decode cX9_push 4 = .ok (.aload_n 0, 1) := by decide +kernel
theorem dX9_push_5 : decode cX9_push 5 = .ok (.getfield 11, 3) := by decide +kernel
theorem dX9_push_8 : decode cX9_push 8 = .ok (.arraylength, 1) := by decide +kernel
theorem dX9_push_9 : decode cX9_push 9 = .ok (.if_icmp .ge 23, 3) := by decide +kernel
theorem dX9_push_12 : decode cX9_push 12 = .ok (.aload_n 0, 1) := by decide +kernel
theorem dX9_push_13 : decode cX9_push 13 = .ok (.getfield 11, 3) := by decide +kernel
theorem dX9_push_16 : decode cX9_push 16 = .ok (.aload_n 0, 1) := by decide +kernel
theorem dX9_push_17 : decode cX9_push 17 = .ok (.getfield 139, 3) := by decide +kernel
theorem dX9_push_20 : decode cX9_push 20 = .ok (.iload_n 1, 1) := by decide +kernel
theorem dX9_push_21 : decode cX9_push 21 = .ok (.iastore, 1) := by decide +kernel
theorem dX9_push_22 : decode cX9_push 22 = .ok (.aload_n 0, 1) := by decide +kernel
theorem dX9_push_23 : decode cX9_push 23 = .ok (.dup, 1) := by decide +kernel
theorem dX9_push_24 : decode cX9_push 24 = .ok (.getfield 139, 3) := by decide +kernel
theorem dX9_push_27 : decode cX9_push 27 = .ok (.iconst 1, 1) := by decide +kernel
theorem dX9_push_28 : decode cX9_push 28 = .ok (.iadd, 1) := by decide +kernel
theorem dX9_push_29 : decode cX9_push 29 = .ok (.putfield 139, 3) := by decide +kernel
theorem dX9_push_32 : decode cX9_push 32 = .ok (.return_, 1) := by decide +kernel
theorem dX9_pop_0 : decode cX9_pop 0 = .ok (.aload_n 0, 1) := by decide +kernel
theorem dX9_pop_1 : decode cX9_pop 1 = .ok (.getfield 139, 3) := by decide +kernel
theorem dX9_pop_4 : decode cX9_pop 4 = .ok (.iconst 1, 1) := by decide +kernel
theorem dX9_pop_5 : decode cX9_pop 5 = .ok (.if_icmp .ge 5, 3) := by decide +kernel
theorem dX9_pop_8 : decode cX9_pop 8 = .ok (.iconst 0, 1) := by decide +kernel
theorem dX9_pop_9 : decode cX9_pop 9 = .ok (.ireturn, 1) := by decide +kernel
theorem dX9_pop_10 : decode cX9_pop 10 = .ok (.aload_n 0, 1) := by decide +kernel
theorem dX9_pop_11 : decode cX9_pop 11 = .ok (.dup, 1) := by decide +kernel
theorem dX9_pop_12 : decode cX9_pop 12 = .ok (.getfield 139, 3) := by decide +kernel
theorem dX9_pop_15 : decode cX9_pop 15 = .ok (.iconst 1, 1) := by decide +kernel
theorem dX9_pop_16 : decode cX9_pop 16 = .ok (.isub, 1) := by decide +kernel
theorem dX9_pop_17 : decode cX9_pop 17 = .ok (.putfield 139, 3) := by decide +kernel
theorem dX9_pop_20 : decode cX9_pop 20 = .ok (.aload_n 0, 1) := by decide +kernel
theorem dX9_pop_21 : decode cX9_pop 21 = .ok (.getfield 11, 3) := by decide +kernel
theorem dX9_pop_24 : decode cX9_pop 24 = .ok (.aload_n 0, 1) := by decide +kernel
theorem dX9_pop_25 : decode cX9_pop 25 = .ok (.getfield 139, 3) := by decide +kernel
theorem dX9_pop_28 : decode cX9_pop 28 = .ok (.iaload, 1) := by decide +kernel
theorem dX9_pop_29 : decode cX9_pop 29 = .ok (.ireturn, 1) := by decide +kernel
theorem dX10_init_0 : decode cX10_init 0 = .ok (.aload_n 0, 1) := by decide +kernel
theorem dX10_init_1 : decode cX10_init 1 = .ok (.invokespecial 1, 3) := by decide +kernel
theorem dX10_init_4 : decode cX10_init 4 = .ok (.aload_n 0, 1) := by decide +kernel
theorem dX10_init_5 : decode cX10_init 5 = .ok (.new 7, 3) := by decide +kernel
theorem dX10_init_8 : decode cX10_init 8 = .ok (.dup, 1) := by decide +kernel
theorem dX10_init_9 : decode cX10_init 9 = .ok (.invokespecial 9, 3) := by decide +kernel
theorem dX10_init_12 : decode cX10_init 12 = .ok (.putfield 10, 3) := by decide +kernel
theorem dX10_init_15 : decode cX10_init 15 = .ok (.aload_n 0, 1) := by decide +kernel
theorem dX10_init_16 : decode cX10_init 16 = .ok (.new 16, 3) := by decide +kernel
theorem dX10_init_19 : decode cX10_init 19 = .ok (.dup, 1) := by decide +kernel
theorem dX10_init_20 : decode cX10_init 20 = .ok (.aload_n 0, 1) := by decide +kernel
theorem dX10_init_21 : decode cX10_init 21 = .ok (.getfield 10, 3) := by decide +kernel
theorem dX10_init_24 : decode cX10_init 24 = .ok (.invokespecial 18, 3) := by decide +kernel
theorem dX10_init_27 : decode cX10_init 27 = .ok (.putfield 21, 3) := by decide +kernel
theorem dX10_init_30 : decode cX10_init 30 = .ok (.aload_n 0, 1) := by decide +kernel
theorem dX10_init_31 : decode cX10_init 31 = .ok (.new 25, 3) := by decide +kernel
theorem dX10_init_34 : decode cX10_init 34 = .ok (.dup, 1) := by decide +kernel
theorem dX10_init_35 : decode cX10_init 35 = .ok (.invokespecial 27, 3) := by decide +kernel
theorem dX10_init_38 : decode cX10_init 38 = .ok (.putfield 28, 3) := by decide +kernel
theorem dX10_init_41 : decode cX10_init 41 = .ok (.aload_n 0, 1) := by decide +kernel
theorem dX10_init_42 : decode cX10_init 42 = .ok (.iconst 3, 1) := by decide +kernel
theorem dX10_init_43 : decode cX10_init 43 = .ok (.anewarray 25, 3) := by decide +kernel
theorem dX10_init_46 : decode cX10_init 46 = .ok (.putfield 32, 3) := by decide +kernel
theorem dX10_init_49 : decode cX10_init 49 = .ok (.aload_n 0, 1) := by decide +kernel
theorem dX10_init_50 : decode cX10_init 50 = .ok (.new 36, 3) := by decide +kernel
theorem dX10_init_53 : decode cX10_init 53 = .ok (.dup, 1) := by decide +kernel
theorem dX10_init_54 : decode cX10_init 54 = .ok (.invokespecial 38, 3) := by decide +kernel
theorem dX10_init_57 : decode cX10_init 57 = .ok (.putfield 39, 3) := by decide +kernel
theorem dX10_init_60 : decode cX10_init 60 = .ok (.aload_n 0, 1) := by decide +kernel
theorem dX10_init_61 : decode cX10_init 61 = .ok (.new 43, 3) := by decide +kernel
theorem dX10_init_64 : decode cX10_init 64 = .ok (.dup, 1) := by decide +kernel
theorem dX10_init_65 : decode cX10_init 65 = .ok (.invokespecial 45, 3) := by decide +kernel
theorem dX10_init_68 : decode cX10_init 68 = .ok (.putfield 46, 3) := by decide +kernel
theorem dX10_init_71 : decode cX10_init 71 = .ok (.aload_n 0, 1) := by decide +kernel
theorem dX10_init_72 : decode cX10_init 72 = .ok (.aconst_null, 1) := by decide +kernel
theorem dX10_init_73 : decode cX10_init 73 = .ok (.putfield 50, 3) := by decide +kernel
theorem dX10_init_76 : decode cX10_init 76 = .ok (.aload_n 0, 1) := by decide +kernel
theorem dX10_init_77 : decode cX10_init 77 = .ok (.iconst 0, 1) := by decide +kernel
theorem dX10_init_78 : decode cX10_init 78 = .ok (.putfield 54, 3) := by decide +kernel
theorem dX10_init_81 : decode cX10_init 81 = .ok (.aload_n 0, 1) := by decide +kernel
theorem dX10_init_82 : decode cX10_init 82 = .ok (.iconst (-1), 1) := by decide +kernel
theorem dX10_init_83 : decode cX10_init 83 = .ok (.putfield 58, 3) := by decide +kernel
theorem dX10_init_86 : decode cX10_init 86 = .ok (.return_, 1) := by decide +kernel
theorem dX10_feed_0 : decode cX10_feed 0 = .ok (.aload_n 0, 1) := by decide +kernel
theorem dX10_feed_1 : decode cX10_feed 1 = .ok (.getfield 10, 3) := by decide +kernel
theorem dX10_feed_4 : decode cX10_feed 4 = .ok (.getfield 61, 3) := by decide +kernel
theorem dX10_feed_7 : decode cX10_feed 7 = .ok (.sipush 580, 3) := by decide +kernel
theorem dX10_feed_10 : decode cX10_feed 10 = .ok (.if_icmp .le 5, 3) := by decide +kernel
theorem dX10_feed_13 : decode cX10_feed 13 = .ok (.iconst (-1), 1) := by decide +kernel
theorem dX10_feed_14 : decode cX10_feed 14 = .ok (.ireturn, 1) := by decide +kernel
theorem dX10_feed_15 : decode cX10_feed 15 = .ok (.aload_n 0, 1) := by decide +kernel
theorem dX10_feed_16 : decode cX10_feed 16 = .ok (.getfield 10, 3) := by decide +kernel
theorem dX10_feed_19 : decode cX10_feed 19 = .ok (.iload_n 1, 1) := by decide +kernel
theorem dX10_feed_20 : decode cX10_feed 20 = .ok (.invokevirtual 64, 3) := by decide +kernel
theorem dX10_feed_23 : decode cX10_feed 23 = .ok (.aload_n 0, 1) := by decide +kernel
theorem dX10_feed_24 : decode cX10_feed 24 = .ok (.getfield 10, 3) := by decide +kernel
theorem dX10_feed_27 : decode cX10_feed 27 = .ok (.iload_n 2, 1) := by decide +kernel
theorem dX10_feed_28 : decode cX10_feed 28 = .ok (.invokevirtual 64, 3) := by decide +kernel
theorem dX10_feed_31 : decode cX10_feed 31 = .ok (.aload_n 0, 1) := by decide +kernel
theorem dX10_feed_32 : decode cX10_feed 32 = .ok (.getfield 10, 3) := by decide +kernel
theorem dX10_feed_35 : decode cX10_feed 35 = .ok (.iload_n 3, 1) := by decide +kernel
theorem dX10_feed_36 : decode cX10_feed 36 = .ok (.invokevirtual 64, 3) := by decide +kernel
theorem dX10_feed_39 : decode cX10_feed 39 = .ok (.aload_n 0, 1) := by decide +kernel
theorem dX10_feed_40 : decode cX10_feed 40 = .ok (.getfield 10, 3) := by decide +kernel
theorem dX10_feed_43 : decode cX10_feed 43 = .ok (.iload 4, 2) := by decide +kernel
theorem dX10_feed_45 : decode cX10_feed 45 = .ok (.invokevirtual 64, 3) := by decide +kernel
theorem dX10_feed_48 : decode cX10_feed 48 = .ok (.aload_n 0, 1) := by decide +kernel
theorem dX10_feed_49 : decode cX10_feed 49 = .ok (.getfield 10, 3) := by decide +kernel
theorem dX10_feed_52 : decode cX10_feed 52 = .ok (.iload 5, 2) := by decide +kernel
theorem dX10_feed_54 : decode cX10_feed 54 = .ok (.invokevirtual 64, 3) := by decide +kernel
theorem dX10_feed_57 : decode cX10_feed 57 = .ok (.aload_n 0, 1) := by decide +kernel
theorem dX10_feed_58 : decode cX10_feed 58 = .ok (.getfield 10, 3) := by decide +kernel
theorem dX10_feed_61 : decode cX10_feed 61 = .ok (.getfield 61, 3) := by decide +kernel
theorem dX10_feed_64 : decode cX10_feed 64 = .ok (.ireturn, 1) := by decide +kernel
theorem dX10_end_0 : decode cX10_end 0 = .ok (.iload_n 1, 1) := by decide +kernel
theorem dX10_end_1 : decode cX10_end 1 = .ok (.ifCond .lt 14, 3) := by decide +kernel
theorem dX10_end_4 : decode cX10_end 4 = .ok (.iload_n 1, 1) := by decide +kernel
theorem dX10_end_5 : decode cX10_end 5 = .ok (.aload_n 0, 1) := by decide +kernel
theorem dX10_end_6 : decode cX10_end 6 = .ok (.getfield 10, 3) := by decide +kernel
theorem dX10_end_9 : decode cX10_end 9 = .ok (.getfield 61, 3) := by decide +kernel
theorem dX10_end_12 : decode cX10_end 12 = .ok (.if_icmp .le 5, 3) := by decide +kernel
theorem dX10_end_15 : decode cX10_end 15 = .ok (.iconst (-1), 1) := by decide +kernel
theorem dX10_end_16 : decode cX10_end 16 = .ok (.ireturn, 1) := by decide +kernel
theorem dX10_end_17 : decode cX10_end 17 = .ok (.aload_n 0, 1) := by decide +kernel
theorem dX10_end_18 : decode cX10_end 18 = .ok (.getfield 10, 3) := by decide +kernel
theorem dX10_end_21 : decode cX10_end 21 = .ok (.iload_n 1, 1) := by decide +kernel
theorem dX10_end_22 : decode cX10_end 22 = .ok (.putfield 61, 3) := by decide +kernel
theorem dX10_end_25 : decode cX10_end 25 = .ok (.iload_n 1, 1) := by decide +kernel
theorem dX10_end_26 : decode cX10_end 26 = .ok (.ireturn, 1) := by decide +kernel
theorem dX10_rules_0 : decode cX10_rules 0 = .ok (.iload_n 1, 1) := by decide +kernel
theorem dX10_rules_1 : decode cX10_rules 1 = .ok (.iconst 4, 1) := by decide +kernel
theorem dX10_rules_2 : decode cX10_rules 2 = .ok (.invokestatic 68, 3) := by decide +kernel
theorem dX10_rules_5 : decode cX10_rules 5 = .ok (.ifCond .ne 6, 3) := by decide +kernel
theorem dX10_rules_8 : decode cX10_rules 8 = .ok (.bipush (-2), 2) := by decide +kernel
theorem dX10_rules_10 : decode cX10_rules 10 = .ok (.ireturn, 1) := by decide +kernel
theorem dX10_rules_11 : decode cX10_rules 11 = .ok (.aload_n 0, 1) := by decide +kernel
theorem dX10_rules_12 : decode cX10_rules 12 = .ok (.getfield 21, 3) := by decide +kernel
theorem dX10_rules_15 : decode cX10_rules 15 = .ok (.invokevirtual 72, 3) := by decide +kernel
theorem dX10_rules_18 : decode cX10_rules 18 = .ok (.astore_n 2, 1) := by decide +kernel
theorem dX10_rules_19 : decode cX10_rules 19 = .ok (.aload_n 0, 1) := by decide +kernel
theorem dX10_rules_20 : decode cX10_rules 20 = .ok (.getfield 10, 3) := by decide +kernel
theorem dX10_rules_23 : decode cX10_rules 23 = .ok (.iconst 0, 1) := by decide +kernel
theorem dX10_rules_24 : decode cX10_rules 24 = .ok (.putfield 61, 3) := by decide +kernel
theorem dX10_rules_27 : decode cX10_rules 27 = .ok (.aload_n 0, 1) := by decide +kernel
theorem dX10_rules_28 : decode cX10_rules 28 = .ok (.aload_n 0, 1) := by decide +kernel
theorem dX10_rules_29 : decode cX10_rules 29 = .ok (.getfield 21, 3) := by decide +kernel
theorem dX10_rules_32 : decode cX10_rules 32 = .ok (.getfield 76, 3) := by decide +kernel
theorem dX10_rules_35 : decode cX10_rules 35 = .ok (.putfield 54, 3) := by decide +kernel
theorem dX10_rules_38 : decode cX10_rules 38 = .ok (.aload_n 0, 1) := by decide +kernel
theorem dX10_rules_39 : decode cX10_rules 39 = .ok (.aload_n 0, 1) := by decide +kernel
theorem dX10_rules_40 : decode cX10_rules 40 = .ok (.getfield 21, 3) := by decide +kernel
theorem dX10_rules_43 : decode cX10_rules 43 = .ok (.getfield 79, 3) := by decide +kernel
theorem dX10_rules_46 : decode cX10_rules 46 = .ok (.putfield 58, 3) := by decide +kernel
theorem dX10_rules_49 : decode cX10_rules 49 = .ok (.aload_n 2, 1) := by decide +kernel
theorem dX10_rules_50 : decode cX10_rules 50 = .ok (.ifnonnull 5, 3) := by decide +kernel
theorem dX10_rules_53 : decode cX10_rules 53 = .ok (.iconst (-1), 1) := by decide +kernel
theorem dX10_rules_54 : decode cX10_rules 54 = .ok (.ireturn, 1) := by decide +kernel
theorem dX10_rules_55 : decode cX10_rules 55 = .ok (.aload_n 0, 1) := by decide +kernel
theorem dX10_rules_56 : decode cX10_rules 56 = .ok (.iload_n 1, 1) := by decide +kernel
theorem dX10_rules_57 : decode cX10_rules 57 = .ok (.aload_n 2, 1) := by decide +kernel
theorem dX10_rules_58 : decode cX10_rules 58 = .ok (.invokevirtual 80, 3) := by decide +kernel
theorem dX10_rules_61 : decode cX10_rules 61 = .ok (.aload_n 2, 1) := by decide +kernel
theorem dX10_rules_62 : decode cX10_rules 62 = .ok (.getfield 84, 3) := by decide +kernel
theorem dX10_rules_65 : decode cX10_rules 65 = .ok (.arraylength, 1) := by decide +kernel
theorem dX10_rules_66 : decode cX10_rules 66 = .ok (.ireturn, 1) := by decide +kernel
theorem dX10_fault_0 : decode cX10_fault 0 = .ok (.iload_n 1, 1) := by decide +kernel
theorem dX10_fault_1 : decode cX10_fault 1 = .ok (.ifCond .ne 8, 3) := by decide +kernel
theorem dX10_fault_4 : decode cX10_fault 4 = .ok (.aload_n 0, 1) := by decide +kernel
theorem dX10_fault_5 : decode cX10_fault 5 = .ok (.getfield 54, 3) := by decide +kernel
theorem dX10_fault_8 : decode cX10_fault 8 = .ok (.ireturn, 1) := by decide +kernel
theorem dX10_fault_9 : decode cX10_fault 9 = .ok (.iload_n 1, 1) := by decide +kernel
theorem dX10_fault_10 : decode cX10_fault 10 = .ok (.iconst 1, 1) := by decide +kernel
theorem dX10_fault_11 : decode cX10_fault 11 = .ok (.if_icmp .ne 10, 3) := by decide +kernel
theorem dX10_fault_14 : decode cX10_fault 14 = .ok (.aload_n 0, 1) := by decide +kernel
theorem dX10_fault_15 : decode cX10_fault 15 = .ok (.getfield 58, 3) := by decide +kernel
theorem dX10_fault_18 : decode cX10_fault 18 = .ok (.goto 4, 3) := by decide +kernel
theorem dX10_fault_21 : decode cX10_fault 21 = .ok (.iconst (-1), 1) := by decide +kernel
theorem dX10_fault_22 : decode cX10_fault 22 = .ok (.ireturn, 1) := by decide +kernel
theorem dX10_person_0 : decode cX10_person 0 = .ok (.iload_n 1, 1) := by decide +kernel
theorem dX10_person_1 : decode cX10_person 1 = .ok (.iload_n 2, 1) := by decide +kernel
theorem dX10_person_2 : decode cX10_person 2 = .ok (.invokestatic 90, 3) := by decide +kernel
theorem dX10_person_5 : decode cX10_person 5 = .ok (.ifCond .ne 5, 3) := by decide +kernel
theorem dX10_person_8 : decode cX10_person 8 = .ok (.iconst (-1), 1) := by decide +kernel
theorem dX10_person_9 : decode cX10_person 9 = .ok (.ireturn, 1) := by decide +kernel
theorem dX10_person_10 : decode cX10_person 10 = .ok (.aload_n 0, 1) := by decide +kernel
theorem dX10_person_11 : decode cX10_person 11 = .ok (.getfield 28, 3) := by decide +kernel
theorem dX10_person_14 : decode cX10_person 14 = .ok (.getfield 93, 3) := by decide +kernel
theorem dX10_person_17 : decode cX10_person 17 = .ok (.invokevirtual 97, 3) := by decide +kernel
theorem dX10_person_20 : decode cX10_person 20 = .ok (.istore_n 3, 1) := by decide +kernel
theorem dX10_person_21 : decode cX10_person 21 = .ok (.aload_n 0, 1) := by decide +kernel
theorem dX10_person_22 : decode cX10_person 22 = .ok (.getfield 28, 3) := by decide +kernel
theorem dX10_person_25 : decode cX10_person 25 = .ok (.getfield 93, 3) := by decide +kernel
theorem dX10_person_28 : decode cX10_person 28 = .ok (.iload_n 3, 1) := by decide +kernel
theorem dX10_person_29 : decode cX10_person 29 = .ok (.iconst 0, 1) := by decide +kernel
theorem dX10_person_30 : decode cX10_person 30 = .ok (.iload_n 1, 1) := by decide +kernel
theorem dX10_person_31 : decode cX10_person 31 = .ok (.invokevirtual 103, 3) := by decide +kernel
theorem dX10_person_34 : decode cX10_person 34 = .ok (.aload_n 0, 1) := by decide +kernel
theorem dX10_person_35 : decode cX10_person 35 = .ok (.getfield 28, 3) := by decide +kernel
theorem dX10_person_38 : decode cX10_person 38 = .ok (.getfield 93, 3) := by decide +kernel
theorem dX10_person_41 : decode cX10_person 41 = .ok (.iload_n 3, 1) := by decide +kernel
theorem dX10_person_42 : decode cX10_person 42 = .ok (.iconst 1, 1) := by decide +kernel
theorem dX10_person_43 : decode cX10_person 43 = .ok (.iload_n 2, 1) := by decide +kernel
theorem dX10_person_44 : decode cX10_person 44 = .ok (.invokevirtual 103, 3) := by decide +kernel
theorem dX10_person_47 : decode cX10_person 47 = .ok (.iload_n 3, 1) := by decide +kernel
theorem dX10_person_48 : decode cX10_person 48 = .ok (.ireturn, 1) := by decide +kernel
theorem dX10_thing_0 : decode cX10_thing 0 = .ok (.iload_n 1, 1) := by decide +kernel
theorem dX10_thing_1 : decode cX10_thing 1 = .ok (.bipush 7, 2) := by decide +kernel
theorem dX10_thing_3 : decode cX10_thing 3 = .ok (.invokestatic 107, 3) := by decide +kernel
theorem dX10_thing_6 : decode cX10_thing 6 = .ok (.ifCond .eq 25, 3) := by decide +kernel
theorem dX10_thing_9 : decode cX10_thing 9 = .ok (.iload_n 2, 1) := by decide +kernel
theorem dX10_thing_10 : decode cX10_thing 10 = .ok (.iconst 5, 1) := by decide +kernel
theorem dX10_thing_11 : decode cX10_thing 11 = .ok (.invokestatic 107, 3) := by decide +kernel
theorem dX10_thing_14 : decode cX10_thing 14 = .ok (.ifCond .eq 17, 3) := by decide +kernel
theorem dX10_thing_17 : decode cX10_thing 17 = .ok (.aload_n 0, 1) := by decide +kernel
theorem dX10_thing_18 : decode cX10_thing 18 = .ok (.getfield 28, 3) := by decide +kernel
theorem dX10_thing_21 : decode cX10_thing 21 = .ok (.getfield 93, 3) := by decide +kernel
theorem dX10_thing_24 : decode cX10_thing 24 = .ok (.iload_n 3, 1) := by decide +kernel
theorem dX10_thing_25 : decode cX10_thing 25 = .ok (.invokevirtual 110, 3) := by decide +kernel
theorem dX10_thing_28 : decode cX10_thing 28 = .ok (.ifCond .ne 5, 3) := by decide +kernel
theorem dX10_thing_31 : decode cX10_thing 31 = .ok (.iconst (-1), 1) := by decide +kernel
theorem dX10_thing_32 : decode cX10_thing 32 = .ok (.ireturn, 1) := by decide +kernel
theorem dX10_thing_33 : decode cX10_thing 33 = .ok (.aload_n 0, 1) := by decide +kernel
theorem dX10_thing_34 : decode cX10_thing 34 = .ok (.getfield 28, 3) := by decide +kernel
theorem dX10_thing_37 : decode cX10_thing 37 = .ok (.getfield 114, 3) := by decide +kernel
theorem dX10_thing_40 : decode cX10_thing 40 = .ok (.invokevirtual 97, 3) := by decide +kernel
theorem dX10_thing_43 : decode cX10_thing 43 = .ok (.istore 4, 2) := by decide +kernel
theorem dX10_thing_45 : decode cX10_thing 45 = .ok (.aload_n 0, 1) := by decide +kernel
theorem dX10_thing_46 : decode cX10_thing 46 = .ok (.getfield 28, 3) := by decide +kernel
theorem dX10_thing_49 : decode cX10_thing 49 = .ok (.getfield 114, 3) := by decide +kernel
theorem dX10_thing_52 : decode cX10_thing 52 = .ok (.iload 4, 2) := by decide +kernel
theorem dX10_thing_54 : decode cX10_thing 54 = .ok (.iconst 0, 1) := by decide +kernel
theorem dX10_thing_55 : decode cX10_thing 55 = .ok (.iload_n 1, 1) := by decide +kernel
theorem dX10_thing_56 : decode cX10_thing 56 = .ok (.invokevirtual 103, 3) := by decide +kernel
theorem dX10_thing_59 : decode cX10_thing 59 = .ok (.aload_n 0, 1) := by decide +kernel
theorem dX10_thing_60 : decode cX10_thing 60 = .ok (.getfield 28, 3) := by decide +kernel
theorem dX10_thing_63 : decode cX10_thing 63 = .ok (.getfield 114, 3) := by decide +kernel
theorem dX10_thing_66 : decode cX10_thing 66 = .ok (.iload 4, 2) := by decide +kernel
theorem dX10_thing_68 : decode cX10_thing 68 = .ok (.iconst 1, 1) := by decide +kernel
theorem dX10_thing_69 : decode cX10_thing 69 = .ok (.iload_n 2, 1) := by decide +kernel
theorem dX10_thing_70 : decode cX10_thing 70 = .ok (.invokevirtual 103, 3) := by decide +kernel
theorem dX10_thing_73 : decode cX10_thing 73 = .ok (.aload_n 0, 1) := by decide +kernel
theorem dX10_thing_74 : decode cX10_thing 74 = .ok (.getfield 28, 3) := by decide +kernel
theorem dX10_thing_77 : decode cX10_thing 77 = .ok (.getfield 114, 3) := by decide +kernel
theorem dX10_thing_80 : decode cX10_thing 80 = .ok (.iload 4, 2) := by decide +kernel
theorem dX10_thing_82 : decode cX10_thing 82 = .ok (.iconst 2, 1) := by decide +kernel
theorem dX10_thing_83 : decode cX10_thing 83 = .ok (.iload_n 3, 1) := by decide +kernel
theorem dX10_thing_84 : decode cX10_thing 84 = .ok (.invokevirtual 103, 3) := by decide +kernel
theorem dX10_thing_87 : decode cX10_thing 87 = .ok (.iload 4, 2) := by decide +kernel
theorem dX10_thing_89 : decode cX10_thing 89 = .ok (.ireturn, 1) := by decide +kernel
theorem dX10_moves_0 : decode cX10_moves 0 = .ok (.aload_n 0, 1) := by decide +kernel
theorem dX10_moves_1 : decode cX10_moves 1 = .ok (.getfield 28, 3) := by decide +kernel
theorem dX10_moves_4 : decode cX10_moves 4 = .ok (.getfield 93, 3) := by decide +kernel
theorem dX10_moves_7 : decode cX10_moves 7 = .ok (.iload_n 1, 1) := by decide +kernel
theorem dX10_moves_8 : decode cX10_moves 8 = .ok (.invokevirtual 110, 3) := by decide +kernel
theorem dX10_moves_11 : decode cX10_moves 11 = .ok (.ifCond .eq 11, 3) := by decide +kernel
theorem dX10_moves_14 : decode cX10_moves 14 = .ok (.iload_n 2, 1) := by decide +kernel
theorem dX10_moves_15 : decode cX10_moves 15 = .ok (.iload_n 3, 1) := by decide +kernel
theorem dX10_moves_16 : decode cX10_moves 16 = .ok (.invokestatic 90, 3) := by decide +kernel
theorem dX10_moves_19 : decode cX10_moves 19 = .ok (.ifCond .ne 5, 3) := by decide +kernel
theorem dX10_moves_22 : decode cX10_moves 22 = .ok (.iconst 0, 1) := by decide +kernel
theorem dX10_moves_23 : decode cX10_moves 23 = .ok (.ireturn, 1) := by decide +kernel
theorem dX10_moves_24 : decode cX10_moves 24 = .ok (.aload_n 0, 1) := by decide +kernel
theorem dX10_moves_25 : decode cX10_moves 25 = .ok (.getfield 28, 3) := by decide +kernel
theorem dX10_moves_28 : decode cX10_moves 28 = .ok (.getfield 93, 3) := by decide +kernel
theorem dX10_moves_31 : decode cX10_moves 31 = .ok (.iload_n 1, 1) := by decide +kernel
theorem dX10_moves_32 : decode cX10_moves 32 = .ok (.iconst 0, 1) := by decide +kernel
theorem dX10_moves_33 : decode cX10_moves 33 = .ok (.iload_n 2, 1) := by decide +kernel
theorem dX10_moves_34 : decode cX10_moves 34 = .ok (.invokevirtual 103, 3) := by decide +kernel
theorem dX10_moves_37 : decode cX10_moves 37 = .ok (.aload_n 0, 1) := by decide +kernel
theorem dX10_moves_38 : decode cX10_moves 38 = .ok (.getfield 28, 3) := by decide +kernel
theorem dX10_moves_41 : decode cX10_moves 41 = .ok (.getfield 93, 3) := by decide +kernel
theorem dX10_moves_44 : decode cX10_moves 44 = .ok (.iload_n 1, 1) := by decide +kernel
theorem dX10_moves_45 : decode cX10_moves 45 = .ok (.iconst 1, 1) := by decide +kernel
theorem dX10_moves_46 : decode cX10_moves 46 = .ok (.iload_n 3, 1) := by decide +kernel
theorem dX10_moves_47 : decode cX10_moves 47 = .ok (.invokevirtual 103, 3) := by decide +kernel
theorem dX10_moves_50 : decode cX10_moves 50 = .ok (.iconst 1, 1) := by decide +kernel
theorem dX10_moves_51 : decode cX10_moves 51 = .ok (.ireturn, 1) := by decide +kernel
theorem dX10_gives_0 : decode cX10_gives 0 = .ok (.aload_n 0, 1) := by decide +kernel
theorem dX10_gives_1 : decode cX10_gives 1 = .ok (.getfield 28, 3) := by decide +kernel
theorem dX10_gives_4 : decode cX10_gives 4 = .ok (.getfield 114, 3) := by decide +kernel
theorem dX10_gives_7 : decode cX10_gives 7 = .ok (.iload_n 1, 1) := by decide +kernel
theorem dX10_gives_8 : decode cX10_gives 8 = .ok (.invokevirtual 110, 3) := by decide +kernel
theorem dX10_gives_11 : decode cX10_gives 11 = .ok (.ifCond .eq 25, 3) := by decide +kernel
theorem dX10_gives_14 : decode cX10_gives 14 = .ok (.aload_n 0, 1) := by decide +kernel
theorem dX10_gives_15 : decode cX10_gives 15 = .ok (.getfield 28, 3) := by decide +kernel
theorem dX10_gives_18 : decode cX10_gives 18 = .ok (.getfield 93, 3) := by decide +kernel
theorem dX10_gives_21 : decode cX10_gives 21 = .ok (.iload_n 2, 1) := by decide +kernel
theorem dX10_gives_22 : decode cX10_gives 22 = .ok (.invokevirtual 110, 3) := by decide +kernel
theorem dX10_gives_25 : decode cX10_gives 25 = .ok (.ifCond .eq 11, 3) := by decide +kernel
theorem dX10_gives_28 : decode cX10_gives 28 = .ok (.iload_n 3, 1) := by decide +kernel
theorem dX10_gives_29 : decode cX10_gives 29 = .ok (.iconst 5, 1) := by decide +kernel
theorem dX10_gives_30 : decode cX10_gives 30 = .ok (.invokestatic 107, 3) := by decide +kernel
theorem dX10_gives_33 : decode cX10_gives 33 = .ok (.ifCond .ne 5, 3) := by decide +kernel
theorem dX10_gives_36 : decode cX10_gives 36 = .ok (.iconst 0, 1) := by decide +kernel
theorem dX10_gives_37 : decode cX10_gives 37 = .ok (.ireturn, 1) := by decide +kernel
theorem dX10_gives_38 : decode cX10_gives 38 = .ok (.aload_n 0, 1) := by decide +kernel
theorem dX10_gives_39 : decode cX10_gives 39 = .ok (.getfield 28, 3) := by decide +kernel
theorem dX10_gives_42 : decode cX10_gives 42 = .ok (.getfield 114, 3) := by decide +kernel
theorem dX10_gives_45 : decode cX10_gives 45 = .ok (.iload_n 1, 1) := by decide +kernel
theorem dX10_gives_46 : decode cX10_gives 46 = .ok (.iconst 2, 1) := by decide +kernel
theorem dX10_gives_47 : decode cX10_gives 47 = .ok (.iload_n 2, 1) := by decide +kernel
theorem dX10_gives_48 : decode cX10_gives 48 = .ok (.invokevirtual 103, 3) := by decide +kernel
theorem dX10_gives_51 : decode cX10_gives 51 = .ok (.aload_n 0, 1) := by decide +kernel
theorem dX10_gives_52 : decode cX10_gives 52 = .ok (.getfield 28, 3) := by decide +kernel
theorem dX10_gives_55 : decode cX10_gives 55 = .ok (.getfield 114, 3) := by decide +kernel
theorem dX10_gives_58 : decode cX10_gives 58 = .ok (.iload_n 1, 1) := by decide +kernel
theorem dX10_gives_59 : decode cX10_gives 59 = .ok (.iconst 1, 1) := by decide +kernel
theorem dX10_gives_60 : decode cX10_gives 60 = .ok (.iload_n 3, 1) := by decide +kernel
theorem dX10_gives_61 : decode cX10_gives 61 = .ok (.invokevirtual 103, 3) := by decide +kernel
theorem dX10_gives_64 : decode cX10_gives 64 = .ok (.iconst 1, 1) := by decide +kernel
theorem dX10_gives_65 : decode cX10_gives 65 = .ok (.ireturn, 1) := by decide +kernel
theorem dX10_tell_0 : decode cX10_tell 0 = .ok (.iload_n 2, 1) := by decide +kernel
theorem dX10_tell_1 : decode cX10_tell 1 = .ok (.ifCond .eq 8, 3) := by decide +kernel
theorem dX10_tell_4 : decode cX10_tell 4 = .ok (.iload_n 2, 1) := by decide +kernel
theorem dX10_tell_5 : decode cX10_tell 5 = .ok (.iconst 1, 1) := by decide +kernel
theorem dX10_tell_6 : decode cX10_tell 6 = .ok (.if_icmp .ne 16, 3) := by decide +kernel
theorem dX10_tell_9 : decode cX10_tell 9 = .ok (.aload_n 0, 1) := by decide +kernel
theorem dX10_tell_10 : decode cX10_tell 10 = .ok (.getfield 28, 3) := by decide +kernel
theorem dX10_tell_13 : decode cX10_tell 13 = .ok (.getfield 93, 3) := by decide +kernel
theorem dX10_tell_16 : decode cX10_tell 16 = .ok (.iload_n 1, 1) := by decide +kernel
theorem dX10_tell_17 : decode cX10_tell 17 = .ok (.iload_n 2, 1) := by decide +kernel
theorem dX10_tell_18 : decode cX10_tell 18 = .ok (.invokevirtual 117, 3) := by decide +kernel
theorem dX10_tell_21 : decode cX10_tell 21 = .ok (.ireturn, 1) := by decide +kernel
theorem dX10_tell_22 : decode cX10_tell 22 = .ok (.iload_n 2, 1) := by decide +kernel
theorem dX10_tell_23 : decode cX10_tell 23 = .ok (.iconst 2, 1) := by decide +kernel
theorem dX10_tell_24 : decode cX10_tell 24 = .ok (.if_icmp .lt 25, 3) := by decide +kernel
theorem dX10_tell_27 : decode cX10_tell 27 = .ok (.iload_n 2, 1) := by decide +kernel
theorem dX10_tell_28 : decode cX10_tell 28 = .ok (.iconst 4, 1) := by decide +kernel
theorem dX10_tell_29 : decode cX10_tell 29 = .ok (.if_icmp .gt 20, 3) := by decide +kernel
theorem dX10_tell_32 : decode cX10_tell 32 = .ok (.aload_n 0, 1) := by decide +kernel
theorem dX10_tell_33 : decode cX10_tell 33 = .ok (.getfield 28, 3) := by decide +kernel
theorem dX10_tell_36 : decode cX10_tell 36 = .ok (.getfield 114, 3) := by decide +kernel
theorem dX10_tell_39 : decode cX10_tell 39 = .ok (.iload_n 1, 1) := by decide +kernel
theorem dX10_tell_40 : decode cX10_tell 40 = .ok (.iload_n 2, 1) := by decide +kernel
theorem dX10_tell_41 : decode cX10_tell 41 = .ok (.iconst 2, 1) := by decide +kernel
theorem dX10_tell_42 : decode cX10_tell 42 = .ok (.isub, 1) := by decide +kernel
theorem dX10_tell_43 : decode cX10_tell 43 = .ok (.invokevirtual 117, 3) := by decide +kernel
theorem dX10_tell_46 : decode cX10_tell 46 = .ok (.goto 4, 3) := by decide +kernel
theorem dX10_tell_49 : decode cX10_tell 49 = .ok (.iconst (-1), 1) := by decide +kernel
theorem dX10_tell_50 : decode cX10_tell 50 = .ok (.ireturn, 1) := by decide +kernel
theorem dX10_decide_0 : decode cX10_decide 0 = .ok (.aload_n 0, 1) := by decide +kernel
theorem dX10_decide_1 : decode cX10_decide 1 = .ok (.iload_n 1, 1) := by decide +kernel
theorem dX10_decide_2 : decode cX10_decide 2 = .ok (.invokevirtual 121, 3) := by decide +kernel
theorem dX10_decide_5 : decode cX10_decide 5 = .ok (.astore 7, 2) := by decide +kernel
theorem dX10_decide_7 : decode cX10_decide 7 = .ok (.aload 7, 2) := by decide +kernel
theorem dX10_decide_9 : decode cX10_decide 9 = .ok (.ifnull 19, 3) := by decide +kernel
theorem dX10_decide_12 : decode cX10_decide 12 = .ok (.aload_n 0, 1) := by decide +kernel
theorem dX10_decide_13 : decode cX10_decide 13 = .ok (.getfield 28, 3) := by decide +kernel
theorem dX10_decide_16 : decode cX10_decide 16 = .ok (.iload_n 2, 1) := by decide +kernel
theorem dX10_decide_17 : decode cX10_decide 17 = .ok (.iload_n 3, 1) := by decide +kernel
theorem dX10_decide_18 : decode cX10_decide 18 = .ok (.iload 4, 2) := by decide +kernel
theorem dX10_decide_20 : decode cX10_decide 20 = .ok (.iload 5, 2) := by decide +kernel
theorem dX10_decide_22 : decode cX10_decide 22 = .ok (.invokevirtual 125, 3) := by decide +kernel
theorem dX10_decide_25 : decode cX10_decide 25 = .ok (.ifCond .ne 6, 3) := by decide +kernel
theorem dX10_decide_28 : decode cX10_decide 28 = .ok (.bipush (-2), 2) := by decide +kernel
theorem dX10_decide_30 : decode cX10_decide 30 = .ok (.ireturn, 1) := by decide +kernel
theorem dX10_decide_31 : decode cX10_decide 31 = .ok (.aload_n 0, 1) := by decide +kernel
theorem dX10_decide_32 : decode cX10_decide 32 = .ok (.getfield 39, 3) := by decide +kernel
theorem dX10_decide_35 : decode cX10_decide 35 = .ok (.aload_n 0, 1) := by decide +kernel
theorem dX10_decide_36 : decode cX10_decide 36 = .ok (.getfield 28, 3) := by decide +kernel
theorem dX10_decide_39 : decode cX10_decide 39 = .ok (.iload_n 2, 1) := by decide +kernel
theorem dX10_decide_40 : decode cX10_decide 40 = .ok (.iload_n 3, 1) := by decide +kernel
theorem dX10_decide_41 : decode cX10_decide 41 = .ok (.iload 4, 2) := by decide +kernel
theorem dX10_decide_43 : decode cX10_decide 43 = .ok (.iload 5, 2) := by decide +kernel
theorem dX10_decide_45 : decode cX10_decide 45 = .ok (.invokevirtual 129, 3) := by decide +kernel
theorem dX10_decide_48 : decode cX10_decide 48 = .ok (.iload 6, 2) := by decide +kernel
theorem dX10_decide_50 : decode cX10_decide 50 = .ok (.ifCond .eq 13, 3) := by decide +kernel
theorem dX10_decide_53 : decode cX10_decide 53 = .ok (.aload_n 0, 1) := by decide +kernel
theorem dX10_decide_54 : decode cX10_decide 54 = .ok (.getfield 39, 3) := by decide +kernel
theorem dX10_decide_57 : decode cX10_decide 57 = .ok (.aload 7, 2) := by decide +kernel
theorem dX10_decide_59 : decode cX10_decide 59 = .ok (.invokevirtual 133, 3) := by decide +kernel
theorem dX10_decide_62 : decode cX10_decide 62 = .ok (.ireturn, 1) := by decide +kernel
theorem dX10_decide_63 : decode cX10_decide 63 = .ok (.aload_n 0, 1) := by decide +kernel
theorem dX10_decide_64 : decode cX10_decide 64 = .ok (.getfield 39, 3) := by decide +kernel
theorem dX10_decide_67 : decode cX10_decide 67 = .ok (.aload 7, 2) := by decide +kernel
theorem dX10_decide_69 : decode cX10_decide 69 = .ok (.invokevirtual 137, 3) := by decide +kernel
theorem dX10_decide_72 : decode cX10_decide 72 = .ok (.ifCond .eq 7, 3) := by decide +kernel
theorem dX10_decide_75 : decode cX10_decide 75 = .ok (.iconst 1, 1) := by decide +kernel
theorem dX10_decide_76 : decode cX10_decide 76 = .ok (.goto 4, 3) := by decide +kernel
theorem dX10_decide_79 : decode cX10_decide 79 = .ok (.iconst 0, 1) := by decide +kernel
theorem dX10_decide_80 : decode cX10_decide 80 = .ok (.ireturn, 1) := by decide +kernel
theorem dX10_ask_0 : decode cX10_ask 0 = .ok (.aload_n 0, 1) := by decide +kernel
theorem dX10_ask_1 : decode cX10_ask 1 = .ok (.getfield 28, 3) := by decide +kernel
theorem dX10_ask_4 : decode cX10_ask 4 = .ok (.iload_n 1, 1) := by decide +kernel
theorem dX10_ask_5 : decode cX10_ask 5 = .ok (.iload_n 2, 1) := by decide +kernel
theorem dX10_ask_6 : decode cX10_ask 6 = .ok (.iload_n 3, 1) := by decide +kernel
theorem dX10_ask_7 : decode cX10_ask 7 = .ok (.iload 4, 2) := by decide +kernel
theorem dX10_ask_9 : decode cX10_ask 9 = .ok (.invokevirtual 125, 3) := by decide +kernel
theorem dX10_ask_12 : decode cX10_ask 12 = .ok (.ifCond .ne 5, 3) := by decide +kernel
theorem dX10_ask_15 : decode cX10_ask 15 = .ok (.iconst (-1), 1) := by decide +kernel
theorem dX10_ask_16 : decode cX10_ask 16 = .ok (.ireturn, 1) := by decide +kernel
theorem dX10_ask_17 : decode cX10_ask 17 = .ok (.aload_n 0, 1) := by decide +kernel
theorem dX10_ask_18 : decode cX10_ask 18 = .ok (.getfield 28, 3) := by decide +kernel
theorem dX10_ask_21 : decode cX10_ask 21 = .ok (.getfield 141, 3) := by decide +kernel
theorem dX10_ask_24 : decode cX10_ask 24 = .ok (.invokevirtual 97, 3) := by decide +kernel
theorem dX10_ask_27 : decode cX10_ask 27 = .ok (.istore 5, 2) := by decide +kernel
theorem dX10_ask_29 : decode cX10_ask 29 = .ok (.aload_n 0, 1) := by decide +kernel
theorem dX10_ask_30 : decode cX10_ask 30 = .ok (.getfield 28, 3) := by decide +kernel
theorem dX10_ask_33 : decode cX10_ask 33 = .ok (.getfield 141, 3) := by decide +kernel
theorem dX10_ask_36 : decode cX10_ask 36 = .ok (.iload 5, 2) := by decide +kernel
theorem dX10_ask_38 : decode cX10_ask 38 = .ok (.iconst 0, 1) := by decide +kernel
theorem dX10_ask_39 : decode cX10_ask 39 = .ok (.iload_n 1, 1) := by decide +kernel
theorem dX10_ask_40 : decode cX10_ask 40 = .ok (.invokevirtual 103, 3) := by decide +kernel
theorem dX10_ask_43 : decode cX10_ask 43 = .ok (.aload_n 0, 1) := by decide +kernel
theorem dX10_ask_44 : decode cX10_ask 44 = .ok (.getfield 28, 3) := by decide +kernel
theorem dX10_ask_47 : decode cX10_ask 47 = .ok (.getfield 141, 3) := by decide +kernel
theorem dX10_ask_50 : decode cX10_ask 50 = .ok (.iload 5, 2) := by decide +kernel
theorem dX10_ask_52 : decode cX10_ask 52 = .ok (.iconst 1, 1) := by decide +kernel
theorem dX10_ask_53 : decode cX10_ask 53 = .ok (.iload_n 2, 1) := by decide +kernel
theorem dX10_ask_54 : decode cX10_ask 54 = .ok (.invokevirtual 103, 3) := by decide +kernel
theorem dX10_ask_57 : decode cX10_ask 57 = .ok (.aload_n 0, 1) := by decide +kernel
theorem dX10_ask_58 : decode cX10_ask 58 = .ok (.getfield 28, 3) := by decide +kernel
theorem dX10_ask_61 : decode cX10_ask 61 = .ok (.getfield 141, 3) := by decide +kernel
theorem dX10_ask_64 : decode cX10_ask 64 = .ok (.iload 5, 2) := by decide +kernel
theorem dX10_ask_66 : decode cX10_ask 66 = .ok (.iconst 2, 1) := by decide +kernel
theorem dX10_ask_67 : decode cX10_ask 67 = .ok (.iload_n 3, 1) := by decide +kernel
theorem dX10_ask_68 : decode cX10_ask 68 = .ok (.invokevirtual 103, 3) := by decide +kernel
theorem dX10_ask_71 : decode cX10_ask 71 = .ok (.aload_n 0, 1) := by decide +kernel
theorem dX10_ask_72 : decode cX10_ask 72 = .ok (.getfield 28, 3) := by decide +kernel
theorem dX10_ask_75 : decode cX10_ask 75 = .ok (.getfield 141, 3) := by decide +kernel
theorem dX10_ask_78 : decode cX10_ask 78 = .ok (.iload 5, 2) := by decide +kernel
theorem dX10_ask_80 : decode cX10_ask 80 = .ok (.iconst 3, 1) := by decide +kernel
theorem dX10_ask_81 : decode cX10_ask 81 = .ok (.iload 4, 2) := by decide +kernel
theorem dX10_ask_83 : decode cX10_ask 83 = .ok (.invokevirtual 103, 3) := by decide +kernel
theorem dX10_ask_86 : decode cX10_ask 86 = .ok (.aload_n 0, 1) := by decide +kernel
theorem dX10_ask_87 : decode cX10_ask 87 = .ok (.getfield 28, 3) := by decide +kernel
theorem dX10_ask_90 : decode cX10_ask 90 = .ok (.getfield 141, 3) := by decide +kernel
theorem dX10_ask_93 : decode cX10_ask 93 = .ok (.iload 5, 2) := by decide +kernel
theorem dX10_ask_95 : decode cX10_ask 95 = .ok (.iconst 4, 1) := by decide +kernel
theorem dX10_ask_96 : decode cX10_ask 96 = .ok (.iconst (-1), 1) := by decide +kernel
theorem dX10_ask_97 : decode cX10_ask 97 = .ok (.invokevirtual 103, 3) := by decide +kernel
theorem dX10_ask_100 : decode cX10_ask 100 = .ok (.iload 5, 2) := by decide +kernel
theorem dX10_ask_102 : decode cX10_ask 102 = .ok (.ireturn, 1) := by decide +kernel
theorem dX10_mark_0 : decode cX10_mark 0 = .ok (.aload_n 0, 1) := by decide +kernel
theorem dX10_mark_1 : decode cX10_mark 1 = .ok (.getfield 28, 3) := by decide +kernel
theorem dX10_mark_4 : decode cX10_mark 4 = .ok (.getfield 141, 3) := by decide +kernel
theorem dX10_mark_7 : decode cX10_mark 7 = .ok (.iload_n 1, 1) := by decide +kernel
theorem dX10_mark_8 : decode cX10_mark 8 = .ok (.invokevirtual 110, 3) := by decide +kernel
theorem dX10_mark_11 : decode cX10_mark 11 = .ok (.ifCond .eq 13, 3) := by decide +kernel
theorem dX10_mark_14 : decode cX10_mark 14 = .ok (.iload_n 2, 1) := by decide +kernel
theorem dX10_mark_15 : decode cX10_mark 15 = .ok (.iconst (-1), 1) := by decide +kernel
theorem dX10_mark_16 : decode cX10_mark 16 = .ok (.if_icmp .lt 8, 3) := by decide +kernel
theorem dX10_mark_19 : decode cX10_mark 19 = .ok (.iload_n 2, 1) := by decide +kernel
theorem dX10_mark_20 : decode cX10_mark 20 = .ok (.iconst 1, 1) := by decide +kernel
theorem dX10_mark_21 : decode cX10_mark 21 = .ok (.if_icmp .le 5, 3) := by decide +kernel
theorem dX10_mark_24 : decode cX10_mark 24 = .ok (.iconst 0, 1) := by decide +kernel
theorem dX10_mark_25 : decode cX10_mark 25 = .ok (.ireturn, 1) := by decide +kernel
theorem dX10_mark_26 : decode cX10_mark 26 = .ok (.aload_n 0, 1) := by decide +kernel
theorem dX10_mark_27 : decode cX10_mark 27 = .ok (.getfield 28, 3) := by decide +kernel
theorem dX10_mark_30 : decode cX10_mark 30 = .ok (.getfield 141, 3) := by decide +kernel
theorem dX10_mark_33 : decode cX10_mark 33 = .ok (.iload_n 1, 1) := by decide +kernel
theorem dX10_mark_34 : decode cX10_mark 34 = .ok (.iconst 4, 1) := by decide +kernel
theorem dX10_mark_35 : decode cX10_mark 35 = .ok (.iload_n 2, 1) := by decide +kernel
theorem dX10_mark_36 : decode cX10_mark 36 = .ok (.invokevirtual 103, 3) := by decide +kernel
theorem dX10_mark_39 : decode cX10_mark 39 = .ok (.iconst 1, 1) := by decide +kernel
theorem dX10_mark_40 : decode cX10_mark 40 = .ok (.ireturn, 1) := by decide +kernel
theorem dX10_book_0 : decode cX10_book 0 = .ok (.aload_n 0, 1) := by decide +kernel
theorem dX10_book_1 : decode cX10_book 1 = .ok (.getfield 28, 3) := by decide +kernel
theorem dX10_book_4 : decode cX10_book 4 = .ok (.getfield 141, 3) := by decide +kernel
theorem dX10_book_7 : decode cX10_book 7 = .ok (.iload_n 1, 1) := by decide +kernel
theorem dX10_book_8 : decode cX10_book 8 = .ok (.iload_n 2, 1) := by decide +kernel
theorem dX10_book_9 : decode cX10_book 9 = .ok (.invokevirtual 117, 3) := by decide +kernel
theorem dX10_book_12 : decode cX10_book 12 = .ok (.ireturn, 1) := by decide +kernel
theorem dX10_tried_0 : decode cX10_tried 0 = .ok (.aload_n 0, 1) := by decide +kernel
theorem dX10_tried_1 : decode cX10_tried 1 = .ok (.iload_n 1, 1) := by decide +kernel
theorem dX10_tried_2 : decode cX10_tried 2 = .ok (.invokevirtual 121, 3) := by decide +kernel
theorem dX10_tried_5 : decode cX10_tried 5 = .ok (.astore_n 2, 1) := by decide +kernel
theorem dX10_tried_6 : decode cX10_tried 6 = .ok (.aload_n 2, 1) := by decide +kernel
theorem dX10_tried_7 : decode cX10_tried 7 = .ok (.ifnonnull 5, 3) := by decide +kernel
theorem dX10_tried_10 : decode cX10_tried 10 = .ok (.iconst (-1), 1) := by decide +kernel
theorem dX10_tried_11 : decode cX10_tried 11 = .ok (.ireturn, 1) := by decide +kernel
theorem dX10_tried_12 : decode cX10_tried 12 = .ok (.iconst 0, 1) := by decide +kernel
theorem dX10_tried_13 : decode cX10_tried 13 = .ok (.istore_n 3, 1) := by decide +kernel
theorem dX10_tried_14 : decode cX10_tried 14 = .ok (.iconst 0, 1) := by decide +kernel
theorem dX10_tried_15 : decode cX10_tried 15 = .ok (.istore 4, 2) := by decide +kernel
theorem dX10_tried_17 : decode cX10_tried 17 = .ok (.iload 4, 2) := by decide +kernel
theorem dX10_tried_19 : decode cX10_tried 19 = .ok (.aload_n 0, 1) := by decide +kernel
theorem dX10_tried_20 : decode cX10_tried 20 = .ok (.getfield 28, 3) := by decide +kernel
theorem dX10_tried_23 : decode cX10_tried 23 = .ok (.getfield 141, 3) := by decide +kernel
theorem dX10_tried_26 : decode cX10_tried 26 = .ok (.getfield 144, 3) := by decide +kernel
theorem dX10_tried_29 : decode cX10_tried 29 = .ok (.if_icmp .ge 36, 3) := by decide +kernel
theorem dX10_tried_32 : decode cX10_tried 32 = .ok (.aload_n 0, 1) := by decide +kernel
theorem dX10_tried_33 : decode cX10_tried 33 = .ok (.getfield 39, 3) := by decide +kernel
theorem dX10_tried_36 : decode cX10_tried 36 = .ok (.aload_n 0, 1) := by decide +kernel
theorem dX10_tried_37 : decode cX10_tried 37 = .ok (.getfield 28, 3) := by decide +kernel
theorem dX10_tried_40 : decode cX10_tried 40 = .ok (.iload 4, 2) := by decide +kernel
theorem dX10_tried_42 : decode cX10_tried 42 = .ok (.invokevirtual 147, 3) := by decide +kernel
theorem dX10_tried_45 : decode cX10_tried 45 = .ok (.aload_n 0, 1) := by decide +kernel
theorem dX10_tried_46 : decode cX10_tried 46 = .ok (.getfield 39, 3) := by decide +kernel
theorem dX10_tried_49 : decode cX10_tried 49 = .ok (.aload_n 2, 1) := by decide +kernel
theorem dX10_tried_50 : decode cX10_tried 50 = .ok (.invokevirtual 137, 3) := by decide +kernel
theorem dX10_tried_53 : decode cX10_tried 53 = .ok (.ifCond .eq 6, 3) := by decide +kernel
theorem dX10_tried_56 : decode cX10_tried 56 = .ok (.iinc 3 1, 3) := by decide +kernel
theorem dX10_tried_59 : decode cX10_tried 59 = .ok (.iinc 4 1, 3) := by decide +kernel
theorem dX10_tried_62 : decode cX10_tried 62 = .ok (.goto (-45), 3) := by decide +kernel
theorem dX10_tried_65 : decode cX10_tried 65 = .ok (.iload_n 3, 1) := by decide +kernel
theorem dX10_tried_66 : decode cX10_tried 66 = .ok (.ireturn, 1) := by decide +kernel
theorem dX10_decides_0 : decode cX10_decides 0 = .ok (.aload_n 0, 1) := by decide +kernel
theorem dX10_decides_1 : decode cX10_decides 1 = .ok (.iload_n 1, 1) := by decide +kernel
theorem dX10_decides_2 : decode cX10_decides 2 = .ok (.invokevirtual 121, 3) := by decide +kernel
theorem dX10_decides_5 : decode cX10_decides 5 = .ok (.astore_n 3, 1) := by decide +kernel
theorem dX10_decides_6 : decode cX10_decides 6 = .ok (.aload_n 3, 1) := by decide +kernel
theorem dX10_decides_7 : decode cX10_decides 7 = .ok (.ifnull 11, 3) := by decide +kernel
theorem dX10_decides_10 : decode cX10_decides 10 = .ok (.aload_n 3, 1) := by decide +kernel
theorem dX10_decides_11 : decode cX10_decides 11 = .ok (.iload_n 2, 1) := by decide +kernel
theorem dX10_decides_12 : decode cX10_decides 12 = .ok (.invokevirtual 151, 3) := by decide +kernel
theorem dX10_decides_15 : decode cX10_decides 15 = .ok (.ifnonnull 5, 3) := by decide +kernel
theorem dX10_decides_18 : decode cX10_decides 18 = .ok (.iconst (-1), 1) := by decide +kernel
theorem dX10_decides_19 : decode cX10_decides 19 = .ok (.ireturn, 1) := by decide +kernel
theorem dX10_decides_20 : decode cX10_decides 20 = .ok (.iconst 0, 1) := by decide +kernel
theorem dX10_decides_21 : decode cX10_decides 21 = .ok (.istore 4, 2) := by decide +kernel
theorem dX10_decides_23 : decode cX10_decides 23 = .ok (.iconst 0, 1) := by decide +kernel
theorem dX10_decides_24 : decode cX10_decides 24 = .ok (.istore 5, 2) := by decide +kernel
theorem dX10_decides_26 : decode cX10_decides 26 = .ok (.iload 5, 2) := by decide +kernel
theorem dX10_decides_28 : decode cX10_decides 28 = .ok (.aload_n 0, 1) := by decide +kernel
theorem dX10_decides_29 : decode cX10_decides 29 = .ok (.getfield 28, 3) := by decide +kernel
theorem dX10_decides_32 : decode cX10_decides 32 = .ok (.getfield 141, 3) := by decide +kernel
theorem dX10_decides_35 : decode cX10_decides 35 = .ok (.getfield 144, 3) := by decide +kernel
theorem dX10_decides_38 : decode cX10_decides 38 = .ok (.if_icmp .ge 37, 3) := by decide +kernel
theorem dX10_decides_41 : decode cX10_decides 41 = .ok (.aload_n 0, 1) := by decide +kernel
theorem dX10_decides_42 : decode cX10_decides 42 = .ok (.getfield 39, 3) := by decide +kernel
theorem dX10_decides_45 : decode cX10_decides 45 = .ok (.aload_n 0, 1) := by decide +kernel
theorem dX10_decides_46 : decode cX10_decides 46 = .ok (.getfield 28, 3) := by decide +kernel
theorem dX10_decides_49 : decode cX10_decides 49 = .ok (.iload 5, 2) := by decide +kernel
theorem dX10_decides_51 : decode cX10_decides 51 = .ok (.invokevirtual 147, 3) := by decide +kernel
theorem dX10_decides_54 : decode cX10_decides 54 = .ok (.aload_n 0, 1) := by decide +kernel
theorem dX10_decides_55 : decode cX10_decides 55 = .ok (.getfield 39, 3) := by decide +kernel
theorem dX10_decides_58 : decode cX10_decides 58 = .ok (.aload_n 3, 1) := by decide +kernel
theorem dX10_decides_59 : decode cX10_decides 59 = .ok (.invokevirtual 133, 3) := by decide +kernel
theorem dX10_decides_62 : decode cX10_decides 62 = .ok (.iload_n 2, 1) := by decide +kernel
theorem dX10_decides_63 : decode cX10_decides 63 = .ok (.if_icmp .ne 6, 3) := by decide +kernel
theorem dX10_decides_66 : decode cX10_decides 66 = .ok (.iinc 4 1, 3) := by decide +kernel
theorem dX10_decides_69 : decode cX10_decides 69 = .ok (.iinc 5 1, 3) := by decide +kernel
theorem dX10_decides_72 : decode cX10_decides 72 = .ok (.goto (-46), 3) := by decide +kernel
theorem dX10_decides_75 : decode cX10_decides 75 = .ok (.iload 4, 2) := by decide +kernel
theorem dX10_decides_77 : decode cX10_decides 77 = .ok (.ireturn, 1) := by decide +kernel
theorem dX10_lost_0 : decode cX10_lost 0 = .ok (.aload_n 0, 1) := by decide +kernel
theorem dX10_lost_1 : decode cX10_lost 1 = .ok (.iload_n 1, 1) := by decide +kernel
theorem dX10_lost_2 : decode cX10_lost 2 = .ok (.invokevirtual 121, 3) := by decide +kernel
theorem dX10_lost_5 : decode cX10_lost 5 = .ok (.astore 4, 2) := by decide +kernel
theorem dX10_lost_7 : decode cX10_lost 7 = .ok (.aload_n 0, 1) := by decide +kernel
theorem dX10_lost_8 : decode cX10_lost 8 = .ok (.iload_n 2, 1) := by decide +kernel
theorem dX10_lost_9 : decode cX10_lost 9 = .ok (.invokevirtual 121, 3) := by decide +kernel
theorem dX10_lost_12 : decode cX10_lost 12 = .ok (.astore 5, 2) := by decide +kernel
theorem dX10_lost_14 : decode cX10_lost 14 = .ok (.aload 4, 2) := by decide +kernel
theorem dX10_lost_16 : decode cX10_lost 16 = .ok (.ifnull 12, 3) := by decide +kernel
theorem dX10_lost_19 : decode cX10_lost 19 = .ok (.aload 5, 2) := by decide +kernel
theorem dX10_lost_21 : decode cX10_lost 21 = .ok (.ifnull 7, 3) := by decide +kernel
theorem dX10_lost_24 : decode cX10_lost 24 = .ok (.iload_n 3, 1) := by decide +kernel
theorem dX10_lost_25 : decode cX10_lost 25 = .ok (.ifCond .ge 5, 3) := by decide +kernel
theorem dX10_lost_28 : decode cX10_lost 28 = .ok (.iconst (-1), 1) := by decide +kernel
theorem dX10_lost_29 : decode cX10_lost 29 = .ok (.ireturn, 1) := by decide +kernel
theorem dX10_lost_30 : decode cX10_lost 30 = .ok (.iconst 0, 1) := by decide +kernel
theorem dX10_lost_31 : decode cX10_lost 31 = .ok (.istore 6, 2) := by decide +kernel
theorem dX10_lost_33 : decode cX10_lost 33 = .ok (.iconst 0, 1) := by decide +kernel
theorem dX10_lost_34 : decode cX10_lost 34 = .ok (.istore 7, 2) := by decide +kernel
theorem dX10_lost_36 : decode cX10_lost 36 = .ok (.iload 7, 2) := by decide +kernel
theorem dX10_lost_38 : decode cX10_lost 38 = .ok (.aload_n 0, 1) := by decide +kernel
theorem dX10_lost_39 : decode cX10_lost 39 = .ok (.getfield 28, 3) := by decide +kernel
theorem dX10_lost_42 : decode cX10_lost 42 = .ok (.getfield 141, 3) := by decide +kernel
theorem dX10_lost_45 : decode cX10_lost 45 = .ok (.getfield 144, 3) := by decide +kernel
theorem dX10_lost_48 : decode cX10_lost 48 = .ok (.if_icmp .ge 58, 3) := by decide +kernel
theorem dX10_lost_51 : decode cX10_lost 51 = .ok (.aload_n 0, 1) := by decide +kernel
theorem dX10_lost_52 : decode cX10_lost 52 = .ok (.getfield 39, 3) := by decide +kernel
theorem dX10_lost_55 : decode cX10_lost 55 = .ok (.aload_n 0, 1) := by decide +kernel
theorem dX10_lost_56 : decode cX10_lost 56 = .ok (.getfield 28, 3) := by decide +kernel
theorem dX10_lost_59 : decode cX10_lost 59 = .ok (.iload 7, 2) := by decide +kernel
theorem dX10_lost_61 : decode cX10_lost 61 = .ok (.invokevirtual 147, 3) := by decide +kernel
theorem dX10_lost_64 : decode cX10_lost 64 = .ok (.aload_n 0, 1) := by decide +kernel
theorem dX10_lost_65 : decode cX10_lost 65 = .ok (.getfield 39, 3) := by decide +kernel
theorem dX10_lost_68 : decode cX10_lost 68 = .ok (.aload 4, 2) := by decide +kernel
theorem dX10_lost_70 : decode cX10_lost 70 = .ok (.invokevirtual 137, 3) := by decide +kernel
theorem dX10_lost_73 : decode cX10_lost 73 = .ok (.ifCond .eq 27, 3) := by decide +kernel
theorem dX10_lost_76 : decode cX10_lost 76 = .ok (.aload_n 0, 1) := by decide +kernel
theorem dX10_lost_77 : decode cX10_lost 77 = .ok (.getfield 39, 3) := by decide +kernel
theorem dX10_lost_80 : decode cX10_lost 80 = .ok (.aload 5, 2) := by decide +kernel
theorem dX10_lost_82 : decode cX10_lost 82 = .ok (.invokevirtual 137, 3) := by decide +kernel
theorem dX10_lost_85 : decode cX10_lost 85 = .ok (.ifCond .ne 15, 3) := by decide +kernel
theorem dX10_lost_88 : decode cX10_lost 88 = .ok (.iload 6, 2) := by decide +kernel
theorem dX10_lost_90 : decode cX10_lost 90 = .ok (.iload_n 3, 1) := by decide +kernel
theorem dX10_lost_91 : decode cX10_lost 91 = .ok (.if_icmp .ne 6, 3) := by decide +kernel
theorem dX10_lost_94 : decode cX10_lost 94 = .ok (.iload 7, 2) := by decide +kernel
theorem dX10_lost_96 : decode cX10_lost 96 = .ok (.ireturn, 1) := by decide +kernel
theorem dX10_lost_97 : decode cX10_lost 97 = .ok (.iinc 6 1, 3) := by decide +kernel
theorem dX10_lost_100 : decode cX10_lost 100 = .ok (.iinc 7 1, 3) := by decide +kernel
theorem dX10_lost_103 : decode cX10_lost 103 = .ok (.goto (-67), 3) := by decide +kernel
theorem dX10_lost_106 : decode cX10_lost 106 = .ok (.iconst (-1), 1) := by decide +kernel
theorem dX10_lost_107 : decode cX10_lost 107 = .ok (.ireturn, 1) := by decide +kernel
theorem dX10_idle_0 : decode cX10_idle 0 = .ok (.aload_n 0, 1) := by decide +kernel
theorem dX10_idle_1 : decode cX10_idle 1 = .ok (.iload_n 1, 1) := by decide +kernel
theorem dX10_idle_2 : decode cX10_idle 2 = .ok (.invokevirtual 121, 3) := by decide +kernel
theorem dX10_idle_5 : decode cX10_idle 5 = .ok (.astore_n 3, 1) := by decide +kernel
theorem dX10_idle_6 : decode cX10_idle 6 = .ok (.aload_n 3, 1) := by decide +kernel
theorem dX10_idle_7 : decode cX10_idle 7 = .ok (.ifnull 11, 3) := by decide +kernel
theorem dX10_idle_10 : decode cX10_idle 10 = .ok (.aload_n 3, 1) := by decide +kernel
theorem dX10_idle_11 : decode cX10_idle 11 = .ok (.iload_n 2, 1) := by decide +kernel
theorem dX10_idle_12 : decode cX10_idle 12 = .ok (.invokevirtual 151, 3) := by decide +kernel
theorem dX10_idle_15 : decode cX10_idle 15 = .ok (.ifnonnull 5, 3) := by decide +kernel
theorem dX10_idle_18 : decode cX10_idle 18 = .ok (.iconst 0, 1) := by decide +kernel
theorem dX10_idle_19 : decode cX10_idle 19 = .ok (.ireturn, 1) := by decide +kernel
theorem dX10_idle_20 : decode cX10_idle 20 = .ok (.aload_n 0, 1) := by decide +kernel
theorem dX10_idle_21 : decode cX10_idle 21 = .ok (.getfield 28, 3) := by decide +kernel
theorem dX10_idle_24 : decode cX10_idle 24 = .ok (.invokevirtual 155, 3) := by decide +kernel
theorem dX10_idle_27 : decode cX10_idle 27 = .ok (.istore 4, 2) := by decide +kernel
theorem dX10_idle_29 : decode cX10_idle 29 = .ok (.iconst 0, 1) := by decide +kernel
theorem dX10_idle_30 : decode cX10_idle 30 = .ok (.istore 5, 2) := by decide +kernel
theorem dX10_idle_32 : decode cX10_idle 32 = .ok (.iload 5, 2) := by decide +kernel
theorem dX10_idle_34 : decode cX10_idle 34 = .ok (.iload 4, 2) := by decide +kernel
theorem dX10_idle_36 : decode cX10_idle 36 = .ok (.if_icmp .ge 36, 3) := by decide +kernel
theorem dX10_idle_39 : decode cX10_idle 39 = .ok (.aload_n 0, 1) := by decide +kernel
theorem dX10_idle_40 : decode cX10_idle 40 = .ok (.getfield 39, 3) := by decide +kernel
theorem dX10_idle_43 : decode cX10_idle 43 = .ok (.aload_n 0, 1) := by decide +kernel
theorem dX10_idle_44 : decode cX10_idle 44 = .ok (.getfield 28, 3) := by decide +kernel
theorem dX10_idle_47 : decode cX10_idle 47 = .ok (.iload 5, 2) := by decide +kernel
theorem dX10_idle_49 : decode cX10_idle 49 = .ok (.invokevirtual 158, 3) := by decide +kernel
theorem dX10_idle_52 : decode cX10_idle 52 = .ok (.aload_n 0, 1) := by decide +kernel
theorem dX10_idle_53 : decode cX10_idle 53 = .ok (.getfield 39, 3) := by decide +kernel
theorem dX10_idle_56 : decode cX10_idle 56 = .ok (.aload_n 3, 1) := by decide +kernel
theorem dX10_idle_57 : decode cX10_idle 57 = .ok (.iload_n 2, 1) := by decide +kernel
theorem dX10_idle_58 : decode cX10_idle 58 = .ok (.invokevirtual 161, 3) := by decide +kernel
theorem dX10_idle_61 : decode cX10_idle 61 = .ok (.ifCond .eq 5, 3) := by decide +kernel
theorem dX10_idle_64 : decode cX10_idle 64 = .ok (.iconst 0, 1) := by decide +kernel
theorem dX10_idle_65 : decode cX10_idle 65 = .ok (.ireturn, 1) := by decide +kernel
theorem dX10_idle_66 : decode cX10_idle 66 = .ok (.iinc 5 1, 3) := by decide +kernel
theorem dX10_idle_69 : decode cX10_idle 69 = .ok (.goto (-37), 3) := by decide +kernel
theorem dX10_idle_72 : decode cX10_idle 72 = .ok (.iconst 1, 1) := by decide +kernel
theorem dX10_idle_73 : decode cX10_idle 73 = .ok (.ireturn, 1) := by decide +kernel
theorem dX10_more_0 : decode cX10_more 0 = .ok (.aload_n 0, 1) := by decide +kernel
theorem dX10_more_1 : decode cX10_more 1 = .ok (.iload_n 1, 1) := by decide +kernel
theorem dX10_more_2 : decode cX10_more 2 = .ok (.invokevirtual 121, 3) := by decide +kernel
theorem dX10_more_5 : decode cX10_more 5 = .ok (.astore_n 3, 1) := by decide +kernel
theorem dX10_more_6 : decode cX10_more 6 = .ok (.aload_n 0, 1) := by decide +kernel
theorem dX10_more_7 : decode cX10_more 7 = .ok (.iload_n 2, 1) := by decide +kernel
theorem dX10_more_8 : decode cX10_more 8 = .ok (.invokevirtual 121, 3) := by decide +kernel
theorem dX10_more_11 : decode cX10_more 11 = .ok (.astore 4, 2) := by decide +kernel
theorem dX10_more_13 : decode cX10_more 13 = .ok (.aload_n 3, 1) := by decide +kernel
theorem dX10_more_14 : decode cX10_more 14 = .ok (.ifnull 8, 3) := by decide +kernel
theorem dX10_more_17 : decode cX10_more 17 = .ok (.aload 4, 2) := by decide +kernel
theorem dX10_more_19 : decode cX10_more 19 = .ok (.ifnonnull 5, 3) := by decide +kernel
theorem dX10_more_22 : decode cX10_more 22 = .ok (.iconst (-1), 1) := by decide +kernel
theorem dX10_more_23 : decode cX10_more 23 = .ok (.ireturn, 1) := by decide +kernel
theorem dX10_more_24 : decode cX10_more 24 = .ok (.iconst 0, 1) := by decide +kernel
theorem dX10_more_25 : decode cX10_more 25 = .ok (.istore 5, 2) := by decide +kernel
theorem dX10_more_27 : decode cX10_more 27 = .ok (.aload_n 0, 1) := by decide +kernel
theorem dX10_more_28 : decode cX10_more 28 = .ok (.getfield 28, 3) := by decide +kernel
theorem dX10_more_31 : decode cX10_more 31 = .ok (.invokevirtual 155, 3) := by decide +kernel
theorem dX10_more_34 : decode cX10_more 34 = .ok (.istore 6, 2) := by decide +kernel
theorem dX10_more_36 : decode cX10_more 36 = .ok (.iconst 0, 1) := by decide +kernel
theorem dX10_more_37 : decode cX10_more 37 = .ok (.istore 7, 2) := by decide +kernel
theorem dX10_more_39 : decode cX10_more 39 = .ok (.iload 7, 2) := by decide +kernel
theorem dX10_more_41 : decode cX10_more 41 = .ok (.iload 6, 2) := by decide +kernel
theorem dX10_more_43 : decode cX10_more 43 = .ok (.if_icmp .ge 50, 3) := by decide +kernel
theorem dX10_more_46 : decode cX10_more 46 = .ok (.aload_n 0, 1) := by decide +kernel
theorem dX10_more_47 : decode cX10_more 47 = .ok (.getfield 39, 3) := by decide +kernel
theorem dX10_more_50 : decode cX10_more 50 = .ok (.aload_n 0, 1) := by decide +kernel
theorem dX10_more_51 : decode cX10_more 51 = .ok (.getfield 28, 3) := by decide +kernel
theorem dX10_more_54 : decode cX10_more 54 = .ok (.iload 7, 2) := by decide +kernel
theorem dX10_more_56 : decode cX10_more 56 = .ok (.invokevirtual 158, 3) := by decide +kernel
theorem dX10_more_59 : decode cX10_more 59 = .ok (.iload 5, 2) := by decide +kernel
theorem dX10_more_61 : decode cX10_more 61 = .ok (.aload_n 0, 1) := by decide +kernel
theorem dX10_more_62 : decode cX10_more 62 = .ok (.getfield 39, 3) := by decide +kernel
theorem dX10_more_65 : decode cX10_more 65 = .ok (.aload_n 3, 1) := by decide +kernel
theorem dX10_more_66 : decode cX10_more 66 = .ok (.invokevirtual 165, 3) := by decide +kernel
theorem dX10_more_69 : decode cX10_more 69 = .ok (.aload_n 0, 1) := by decide +kernel
theorem dX10_more_70 : decode cX10_more 70 = .ok (.getfield 39, 3) := by decide +kernel
theorem dX10_more_73 : decode cX10_more 73 = .ok (.aload 4, 2) := by decide +kernel
theorem dX10_more_75 : decode cX10_more 75 = .ok (.invokevirtual 165, 3) := by decide +kernel
theorem dX10_more_78 : decode cX10_more 78 = .ok (.iconst (-1), 1) := by decide +kernel
theorem dX10_more_79 : decode cX10_more 79 = .ok (.ixor, 1) := by decide +kernel
theorem dX10_more_80 : decode cX10_more 80 = .ok (.iand, 1) := by decide +kernel
theorem dX10_more_81 : decode cX10_more 81 = .ok (.invokestatic 168, 3) := by decide +kernel
theorem dX10_more_84 : decode cX10_more 84 = .ok (.iadd, 1) := by decide +kernel
theorem dX10_more_85 : decode cX10_more 85 = .ok (.istore 5, 2) := by decide +kernel
theorem dX10_more_87 : decode cX10_more 87 = .ok (.iinc 7 1, 3) := by decide +kernel
theorem dX10_more_90 : decode cX10_more 90 = .ok (.goto (-51), 3) := by decide +kernel
theorem dX10_more_93 : decode cX10_more 93 = .ok (.iload 5, 2) := by decide +kernel
theorem dX10_more_95 : decode cX10_more 95 = .ok (.ireturn, 1) := by decide +kernel
theorem dX10_unlike_0 : decode cX10_unlike 0 = .ok (.aload_n 0, 1) := by decide +kernel
theorem dX10_unlike_1 : decode cX10_unlike 1 = .ok (.iload_n 1, 1) := by decide +kernel
theorem dX10_unlike_2 : decode cX10_unlike 2 = .ok (.invokevirtual 121, 3) := by decide +kernel
theorem dX10_unlike_5 : decode cX10_unlike 5 = .ok (.astore 4, 2) := by decide +kernel
theorem dX10_unlike_7 : decode cX10_unlike 7 = .ok (.aload_n 0, 1) := by decide +kernel
theorem dX10_unlike_8 : decode cX10_unlike 8 = .ok (.iload_n 2, 1) := by decide +kernel
theorem dX10_unlike_9 : decode cX10_unlike 9 = .ok (.invokevirtual 121, 3) := by decide +kernel
theorem dX10_unlike_12 : decode cX10_unlike 12 = .ok (.astore 5, 2) := by decide +kernel
theorem dX10_unlike_14 : decode cX10_unlike 14 = .ok (.aload 4, 2) := by decide +kernel
theorem dX10_unlike_16 : decode cX10_unlike 16 = .ok (.ifnull 8, 3) := by decide +kernel
theorem dX10_unlike_19 : decode cX10_unlike 19 = .ok (.aload 5, 2) := by decide +kernel
theorem dX10_unlike_21 : decode cX10_unlike 21 = .ok (.ifnonnull 5, 3) := by decide +kernel
theorem dX10_unlike_24 : decode cX10_unlike 24 = .ok (.iconst (-1), 1) := by decide +kernel
theorem dX10_unlike_25 : decode cX10_unlike 25 = .ok (.ireturn, 1) := by decide +kernel
theorem dX10_unlike_26 : decode cX10_unlike 26 = .ok (.aload_n 0, 1) := by decide +kernel
theorem dX10_unlike_27 : decode cX10_unlike 27 = .ok (.getfield 28, 3) := by decide +kernel
theorem dX10_unlike_30 : decode cX10_unlike 30 = .ok (.invokevirtual 155, 3) := by decide +kernel
theorem dX10_unlike_33 : decode cX10_unlike 33 = .ok (.istore 6, 2) := by decide +kernel
theorem dX10_unlike_35 : decode cX10_unlike 35 = .ok (.iconst 0, 1) := by decide +kernel
theorem dX10_unlike_36 : decode cX10_unlike 36 = .ok (.istore 7, 2) := by decide +kernel
theorem dX10_unlike_38 : decode cX10_unlike 38 = .ok (.iload 7, 2) := by decide +kernel
theorem dX10_unlike_40 : decode cX10_unlike 40 = .ok (.iload 6, 2) := by decide +kernel
theorem dX10_unlike_42 : decode cX10_unlike 42 = .ok (.if_icmp .ge 62, 3) := by decide +kernel
theorem dX10_unlike_45 : decode cX10_unlike 45 = .ok (.aload_n 0, 1) := by decide +kernel
theorem dX10_unlike_46 : decode cX10_unlike 46 = .ok (.getfield 39, 3) := by decide +kernel
theorem dX10_unlike_49 : decode cX10_unlike 49 = .ok (.aload_n 0, 1) := by decide +kernel
theorem dX10_unlike_50 : decode cX10_unlike 50 = .ok (.getfield 28, 3) := by decide +kernel
theorem dX10_unlike_53 : decode cX10_unlike 53 = .ok (.iload 7, 2) := by decide +kernel
theorem dX10_unlike_55 : decode cX10_unlike 55 = .ok (.invokevirtual 158, 3) := by decide +kernel
theorem dX10_unlike_58 : decode cX10_unlike 58 = .ok (.aload_n 0, 1) := by decide +kernel
theorem dX10_unlike_59 : decode cX10_unlike 59 = .ok (.getfield 39, 3) := by decide +kernel
theorem dX10_unlike_62 : decode cX10_unlike 62 = .ok (.aload 4, 2) := by decide +kernel
theorem dX10_unlike_64 : decode cX10_unlike 64 = .ok (.invokevirtual 165, 3) := by decide +kernel
theorem dX10_unlike_67 : decode cX10_unlike 67 = .ok (.aload_n 0, 1) := by decide +kernel
theorem dX10_unlike_68 : decode cX10_unlike 68 = .ok (.getfield 39, 3) := by decide +kernel
theorem dX10_unlike_71 : decode cX10_unlike 71 = .ok (.aload 5, 2) := by decide +kernel
theorem dX10_unlike_73 : decode cX10_unlike 73 = .ok (.invokevirtual 165, 3) := by decide +kernel
theorem dX10_unlike_76 : decode cX10_unlike 76 = .ok (.ixor, 1) := by decide +kernel
theorem dX10_unlike_77 : decode cX10_unlike 77 = .ok (.istore 8, 2) := by decide +kernel
theorem dX10_unlike_79 : decode cX10_unlike 79 = .ok (.iload 8, 2) := by decide +kernel
theorem dX10_unlike_81 : decode cX10_unlike 81 = .ok (.ifCond .eq 17, 3) := by decide +kernel
theorem dX10_unlike_84 : decode cX10_unlike 84 = .ok (.aload_n 0, 1) := by decide +kernel
theorem dX10_unlike_85 : decode cX10_unlike 85 = .ok (.getfield 39, 3) := by decide +kernel
theorem dX10_unlike_88 : decode cX10_unlike 88 = .ok (.iload 8, 2) := by decide +kernel
theorem dX10_unlike_90 : decode cX10_unlike 90 = .ok (.invokestatic 174, 3) := by decide +kernel
theorem dX10_unlike_93 : decode cX10_unlike 93 = .ok (.iload_n 3, 1) := by decide +kernel
theorem dX10_unlike_94 : decode cX10_unlike 94 = .ok (.invokevirtual 177, 3) := by decide +kernel
theorem dX10_unlike_97 : decode cX10_unlike 97 = .ok (.ireturn, 1) := by decide +kernel
theorem dX10_unlike_98 : decode cX10_unlike 98 = .ok (.iinc 7 1, 3) := by decide +kernel
theorem dX10_unlike_101 : decode cX10_unlike 101 = .ok (.goto (-63), 3) := by decide +kernel
theorem dX10_unlike_104 : decode cX10_unlike 104 = .ok (.iconst (-1), 1) := by decide +kernel
theorem dX10_unlike_105 : decode cX10_unlike 105 = .ok (.ireturn, 1) := by decide +kernel
theorem dX10_mend_0 : decode cX10_mend 0 = .ok (.aload_n 0, 1) := by decide +kernel
theorem dX10_mend_1 : decode cX10_mend 1 = .ok (.iload_n 1, 1) := by decide +kernel
theorem dX10_mend_2 : decode cX10_mend 2 = .ok (.invokevirtual 121, 3) := by decide +kernel
theorem dX10_mend_5 : decode cX10_mend 5 = .ok (.astore_n 2, 1) := by decide +kernel
theorem dX10_mend_6 : decode cX10_mend 6 = .ok (.aload_n 2, 1) := by decide +kernel
theorem dX10_mend_7 : decode cX10_mend 7 = .ok (.ifnonnull 5, 3) := by decide +kernel
theorem dX10_mend_10 : decode cX10_mend 10 = .ok (.iconst (-1), 1) := by decide +kernel
theorem dX10_mend_11 : decode cX10_mend 11 = .ok (.ireturn, 1) := by decide +kernel
theorem dX10_mend_12 : decode cX10_mend 12 = .ok (.aload_n 0, 1) := by decide +kernel
theorem dX10_mend_13 : decode cX10_mend 13 = .ok (.getfield 46, 3) := by decide +kernel
theorem dX10_mend_16 : decode cX10_mend 16 = .ok (.aload_n 2, 1) := by decide +kernel
theorem dX10_mend_17 : decode cX10_mend 17 = .ok (.invokevirtual 180, 3) := by decide +kernel
theorem dX10_mend_20 : decode cX10_mend 20 = .ok (.iconst 0, 1) := by decide +kernel
theorem dX10_mend_21 : decode cX10_mend 21 = .ok (.istore_n 3, 1) := by decide +kernel
theorem dX10_mend_22 : decode cX10_mend 22 = .ok (.iload_n 3, 1) := by decide +kernel
theorem dX10_mend_23 : decode cX10_mend 23 = .ok (.aload_n 0, 1) := by decide +kernel
theorem dX10_mend_24 : decode cX10_mend 24 = .ok (.getfield 28, 3) := by decide +kernel
theorem dX10_mend_27 : decode cX10_mend 27 = .ok (.getfield 141, 3) := by decide +kernel
theorem dX10_mend_30 : decode cX10_mend 30 = .ok (.getfield 144, 3) := by decide +kernel
theorem dX10_mend_33 : decode cX10_mend 33 = .ok (.if_icmp .ge 58, 3) := by decide +kernel
theorem dX10_mend_36 : decode cX10_mend 36 = .ok (.aload_n 0, 1) := by decide +kernel
theorem dX10_mend_37 : decode cX10_mend 37 = .ok (.getfield 28, 3) := by decide +kernel
theorem dX10_mend_40 : decode cX10_mend 40 = .ok (.getfield 141, 3) := by decide +kernel
theorem dX10_mend_43 : decode cX10_mend 43 = .ok (.iload_n 3, 1) := by decide +kernel
theorem dX10_mend_44 : decode cX10_mend 44 = .ok (.iconst 4, 1) := by decide +kernel
theorem dX10_mend_45 : decode cX10_mend 45 = .ok (.invokevirtual 117, 3) := by decide +kernel
theorem dX10_mend_48 : decode cX10_mend 48 = .ok (.istore 4, 2) := by decide +kernel
theorem dX10_mend_50 : decode cX10_mend 50 = .ok (.iload 4, 2) := by decide +kernel
theorem dX10_mend_52 : decode cX10_mend 52 = .ok (.iconst (-1), 1) := by decide +kernel
theorem dX10_mend_53 : decode cX10_mend 53 = .ok (.if_icmp .eq 32, 3) := by decide +kernel
theorem dX10_mend_56 : decode cX10_mend 56 = .ok (.aload_n 0, 1) := by decide +kernel
theorem dX10_mend_57 : decode cX10_mend 57 = .ok (.getfield 39, 3) := by decide +kernel
theorem dX10_mend_60 : decode cX10_mend 60 = .ok (.aload_n 0, 1) := by decide +kernel
theorem dX10_mend_61 : decode cX10_mend 61 = .ok (.getfield 28, 3) := by decide +kernel
theorem dX10_mend_64 : decode cX10_mend 64 = .ok (.iload_n 3, 1) := by decide +kernel
theorem dX10_mend_65 : decode cX10_mend 65 = .ok (.invokevirtual 147, 3) := by decide +kernel
theorem dX10_mend_68 : decode cX10_mend 68 = .ok (.aload_n 0, 1) := by decide +kernel
theorem dX10_mend_69 : decode cX10_mend 69 = .ok (.getfield 46, 3) := by decide +kernel
theorem dX10_mend_72 : decode cX10_mend 72 = .ok (.aload_n 0, 1) := by decide +kernel
theorem dX10_mend_73 : decode cX10_mend 73 = .ok (.getfield 39, 3) := by decide +kernel
theorem dX10_mend_76 : decode cX10_mend 76 = .ok (.aload_n 2, 1) := by decide +kernel
theorem dX10_mend_77 : decode cX10_mend 77 = .ok (.invokevirtual 184, 3) := by decide +kernel
theorem dX10_mend_80 : decode cX10_mend 80 = .ok (.iload 4, 2) := by decide +kernel
theorem dX10_mend_82 : decode cX10_mend 82 = .ok (.invokevirtual 187, 3) := by decide +kernel
theorem dX10_mend_85 : decode cX10_mend 85 = .ok (.iinc 3 1, 3) := by decide +kernel
theorem dX10_mend_88 : decode cX10_mend 88 = .ok (.goto (-66), 3) := by decide +kernel
theorem dX10_mend_91 : decode cX10_mend 91 = .ok (.aload_n 0, 1) := by decide +kernel
theorem dX10_mend_92 : decode cX10_mend 92 = .ok (.getfield 46, 3) := by decide +kernel
theorem dX10_mend_95 : decode cX10_mend 95 = .ok (.invokevirtual 191, 3) := by decide +kernel
theorem dX10_mend_98 : decode cX10_mend 98 = .ok (.istore_n 3, 1) := by decide +kernel
theorem dX10_mend_99 : decode cX10_mend 99 = .ok (.iload_n 3, 1) := by decide +kernel
theorem dX10_mend_100 : decode cX10_mend 100 = .ok (.iconst (-1), 1) := by decide +kernel
theorem dX10_mend_101 : decode cX10_mend 101 = .ok (.if_icmp .eq 29, 3) := by decide +kernel
theorem dX10_mend_104 : decode cX10_mend 104 = .ok (.aload_n 0, 1) := by decide +kernel
theorem dX10_mend_105 : decode cX10_mend 105 = .ok (.new 194, 3) := by decide +kernel
theorem dX10_mend_108 : decode cX10_mend 108 = .ok (.dup, 1) := by decide +kernel
theorem dX10_mend_109 : decode cX10_mend 109 = .ok (.iload_n 1, 1) := by decide +kernel
theorem dX10_mend_110 : decode cX10_mend 110 = .ok (.aload_n 0, 1) := by decide +kernel
theorem dX10_mend_111 : decode cX10_mend 111 = .ok (.getfield 46, 3) := by decide +kernel
theorem dX10_mend_114 : decode cX10_mend 114 = .ok (.getfield 196, 3) := by decide +kernel
theorem dX10_mend_117 : decode cX10_mend 117 = .ok (.aload_n 0, 1) := by decide +kernel
theorem dX10_mend_118 : decode cX10_mend 118 = .ok (.getfield 46, 3) := by decide +kernel
theorem dX10_mend_121 : decode cX10_mend 121 = .ok (.getfield 199, 3) := by decide +kernel
theorem dX10_mend_124 : decode cX10_mend 124 = .ok (.invokespecial 202, 3) := by decide +kernel
theorem dX10_mend_127 : decode cX10_mend 127 = .ok (.putfield 50, 3) := by decide +kernel
theorem dX10_mend_130 : decode cX10_mend 130 = .ok (.iload_n 3, 1) := by decide +kernel
theorem dX10_mend_131 : decode cX10_mend 131 = .ok (.ireturn, 1) := by decide +kernel
theorem dX10_change_0 : decode cX10_change 0 = .ok (.aload_n 0, 1) := by decide +kernel
theorem dX10_change_1 : decode cX10_change 1 = .ok (.getfield 50, 3) := by decide +kernel
theorem dX10_change_4 : decode cX10_change 4 = .ok (.ifnonnull 7, 3) := by decide +kernel
theorem dX10_change_7 : decode cX10_change 7 = .ok (.iconst (-1), 1) := by decide +kernel
theorem dX10_change_8 : decode cX10_change 8 = .ok (.goto 12, 3) := by decide +kernel
theorem dX10_change_11 : decode cX10_change 11 = .ok (.aload_n 0, 1) := by decide +kernel
theorem dX10_change_12 : decode cX10_change 12 = .ok (.getfield 50, 3) := by decide +kernel
theorem dX10_change_15 : decode cX10_change 15 = .ok (.iload_n 1, 1) := by decide +kernel
theorem dX10_change_16 : decode cX10_change 16 = .ok (.iload_n 2, 1) := by decide +kernel
theorem dX10_change_17 : decode cX10_change 17 = .ok (.invokevirtual 204, 3) := by decide +kernel
theorem dX10_change_20 : decode cX10_change 20 = .ok (.ireturn, 1) := by decide +kernel
theorem dX10_apply_0 : decode cX10_apply 0 = .ok (.aload_n 0, 1) := by decide +kernel
theorem dX10_apply_1 : decode cX10_apply 1 = .ok (.getfield 50, 3) := by decide +kernel
theorem dX10_apply_4 : decode cX10_apply 4 = .ok (.ifnull 13, 3) := by decide +kernel
theorem dX10_apply_7 : decode cX10_apply 7 = .ok (.aload_n 0, 1) := by decide +kernel
theorem dX10_apply_8 : decode cX10_apply 8 = .ok (.getfield 50, 3) := by decide +kernel
theorem dX10_apply_11 : decode cX10_apply 11 = .ok (.getfield 207, 3) := by decide +kernel
theorem dX10_apply_14 : decode cX10_apply 14 = .ok (.ifCond .ne 5, 3) := by decide +kernel
theorem dX10_apply_17 : decode cX10_apply 17 = .ok (.iconst (-1), 1) := by decide +kernel
theorem dX10_apply_18 : decode cX10_apply 18 = .ok (.ireturn, 1) := by decide +kernel
theorem dX10_apply_19 : decode cX10_apply 19 = .ok (.aload_n 0, 1) := by decide +kernel
theorem dX10_apply_20 : decode cX10_apply 20 = .ok (.aload_n 0, 1) := by decide +kernel
theorem dX10_apply_21 : decode cX10_apply 21 = .ok (.getfield 50, 3) := by decide +kernel
theorem dX10_apply_24 : decode cX10_apply 24 = .ok (.getfield 211, 3) := by decide +kernel
theorem dX10_apply_27 : decode cX10_apply 27 = .ok (.invokevirtual 121, 3) := by decide +kernel
theorem dX10_apply_30 : decode cX10_apply 30 = .ok (.astore_n 1, 1) := by decide +kernel
theorem dX10_apply_31 : decode cX10_apply 31 = .ok (.aload_n 1, 1) := by decide +kernel
theorem dX10_apply_32 : decode cX10_apply 32 = .ok (.ifnonnull 5, 3) := by decide +kernel
theorem dX10_apply_35 : decode cX10_apply 35 = .ok (.iconst (-1), 1) := by decide +kernel
theorem dX10_apply_36 : decode cX10_apply 36 = .ok (.ireturn, 1) := by decide +kernel
theorem dX10_apply_37 : decode cX10_apply 37 = .ok (.aload_n 1, 1) := by decide +kernel
theorem dX10_apply_38 : decode cX10_apply 38 = .ok (.aload_n 0, 1) := by decide +kernel
theorem dX10_apply_39 : decode cX10_apply 39 = .ok (.getfield 50, 3) := by decide +kernel
theorem dX10_apply_42 : decode cX10_apply 42 = .ok (.getfield 214, 3) := by decide +kernel
theorem dX10_apply_45 : decode cX10_apply 45 = .ok (.aload_n 0, 1) := by decide +kernel
theorem dX10_apply_46 : decode cX10_apply 46 = .ok (.getfield 50, 3) := by decide +kernel
theorem dX10_apply_49 : decode cX10_apply 49 = .ok (.getfield 215, 3) := by decide +kernel
theorem dX10_apply_52 : decode cX10_apply 52 = .ok (.invokevirtual 216, 3) := by decide +kernel
theorem dX10_apply_55 : decode cX10_apply 55 = .ok (.astore_n 2, 1) := by decide +kernel
theorem dX10_apply_56 : decode cX10_apply 56 = .ok (.aload_n 0, 1) := by decide +kernel
theorem dX10_apply_57 : decode cX10_apply 57 = .ok (.aload_n 0, 1) := by decide +kernel
theorem dX10_apply_58 : decode cX10_apply 58 = .ok (.getfield 50, 3) := by decide +kernel
theorem dX10_apply_61 : decode cX10_apply 61 = .ok (.getfield 211, 3) := by decide +kernel
theorem dX10_apply_64 : decode cX10_apply 64 = .ok (.aload_n 2, 1) := by decide +kernel
theorem dX10_apply_65 : decode cX10_apply 65 = .ok (.invokevirtual 80, 3) := by decide +kernel
theorem dX10_apply_68 : decode cX10_apply 68 = .ok (.aload_n 2, 1) := by decide +kernel
theorem dX10_apply_69 : decode cX10_apply 69 = .ok (.getfield 84, 3) := by decide +kernel
theorem dX10_apply_72 : decode cX10_apply 72 = .ok (.arraylength, 1) := by decide +kernel
theorem dX10_apply_73 : decode cX10_apply 73 = .ok (.ireturn, 1) := by decide +kernel
theorem dX10_line_0 : decode cX10_line 0 = .ok (.aload_n 0, 1) := by decide +kernel
theorem dX10_line_1 : decode cX10_line 1 = .ok (.iload_n 1, 1) := by decide +kernel
theorem dX10_line_2 : decode cX10_line 2 = .ok (.invokevirtual 121, 3) := by decide +kernel
theorem dX10_line_5 : decode cX10_line 5 = .ok (.astore 4, 2) := by decide +kernel
theorem dX10_line_7 : decode cX10_line 7 = .ok (.aload 4, 2) := by decide +kernel
theorem dX10_line_9 : decode cX10_line 9 = .ok (.ifnonnull 7, 3) := by decide +kernel
theorem dX10_line_12 : decode cX10_line 12 = .ok (.aconst_null, 1) := by decide +kernel
theorem dX10_line_13 : decode cX10_line 13 = .ok (.goto 9, 3) := by decide +kernel
theorem dX10_line_16 : decode cX10_line 16 = .ok (.aload 4, 2) := by decide +kernel
theorem dX10_line_18 : decode cX10_line 18 = .ok (.iload_n 2, 1) := by decide +kernel
theorem dX10_line_19 : decode cX10_line 19 = .ok (.invokevirtual 151, 3) := by decide +kernel
theorem dX10_line_22 : decode cX10_line 22 = .ok (.astore 5, 2) := by decide +kernel
theorem dX10_line_24 : decode cX10_line 24 = .ok (.aload 5, 2) := by decide +kernel
theorem dX10_line_26 : decode cX10_line 26 = .ok (.ifnonnull 7, 3) := by decide +kernel
theorem dX10_line_29 : decode cX10_line 29 = .ok (.iconst (-1), 1) := by decide +kernel
theorem dX10_line_30 : decode cX10_line 30 = .ok (.goto 9, 3) := by decide +kernel
theorem dX10_line_33 : decode cX10_line 33 = .ok (.aload 5, 2) := by decide +kernel
theorem dX10_line_35 : decode cX10_line 35 = .ok (.iload_n 3, 1) := by decide +kernel
theorem dX10_line_36 : decode cX10_line 36 = .ok (.invokevirtual 220, 3) := by decide +kernel
theorem dX10_line_39 : decode cX10_line 39 = .ok (.ireturn, 1) := by decide +kernel
theorem dX10_count_0 : decode cX10_count 0 = .ok (.iload_n 1, 1) := by decide +kernel
theorem dX10_count_1 : decode cX10_count 1 = .ok (.tableswitch 72 0 3 #[31, 42, 53, 64], 31) := by decide +kernel
theorem dX10_count_32 : decode cX10_count 32 = .ok (.aload_n 0, 1) := by decide +kernel
theorem dX10_count_33 : decode cX10_count 33 = .ok (.getfield 28, 3) := by decide +kernel
theorem dX10_count_36 : decode cX10_count 36 = .ok (.getfield 93, 3) := by decide +kernel
theorem dX10_count_39 : decode cX10_count 39 = .ok (.getfield 144, 3) := by decide +kernel
theorem dX10_count_42 : decode cX10_count 42 = .ok (.ireturn, 1) := by decide +kernel
theorem dX10_count_43 : decode cX10_count 43 = .ok (.aload_n 0, 1) := by decide +kernel
theorem dX10_count_44 : decode cX10_count 44 = .ok (.getfield 28, 3) := by decide +kernel
theorem dX10_count_47 : decode cX10_count 47 = .ok (.getfield 114, 3) := by decide +kernel
theorem dX10_count_50 : decode cX10_count 50 = .ok (.getfield 144, 3) := by decide +kernel
theorem dX10_count_53 : decode cX10_count 53 = .ok (.ireturn, 1) := by decide +kernel
theorem dX10_count_54 : decode cX10_count 54 = .ok (.aload_n 0, 1) := by decide +kernel
theorem dX10_count_55 : decode cX10_count 55 = .ok (.getfield 28, 3) := by decide +kernel
theorem dX10_count_58 : decode cX10_count 58 = .ok (.getfield 141, 3) := by decide +kernel
