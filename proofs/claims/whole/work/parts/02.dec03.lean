theorem dX11_thing_16 : decode cX11_thing 16 = .ok (.iload_n 1, 1) := by decide +kernel
theorem dX11_thing_17 : decode cX11_thing 17 = .ok (.iconst 0, 1) := by decide +kernel
theorem dX11_thing_18 : decode cX11_thing 18 = .ok (.bipush 7, 2) := by decide +kernel
theorem dX11_thing_20 : decode cX11_thing 20 = .ok (.invokestatic 108, 3) := by decide +kernel
theorem dX11_thing_23 : decode cX11_thing 23 = .ok (.ifCond .eq 20, 3) := by decide +kernel
theorem dX11_thing_26 : decode cX11_thing 26 = .ok (.iload_n 2, 1) := by decide +kernel
theorem dX11_thing_27 : decode cX11_thing 27 = .ok (.iconst 0, 1) := by decide +kernel
theorem dX11_thing_28 : decode cX11_thing 28 = .ok (.iconst 5, 1) := by decide +kernel
theorem dX11_thing_29 : decode cX11_thing 29 = .ok (.invokestatic 108, 3) := by decide +kernel
theorem dX11_thing_32 : decode cX11_thing 32 = .ok (.ifCond .eq 11, 3) := by decide +kernel
theorem dX11_thing_35 : decode cX11_thing 35 = .ok (.aload_n 0, 1) := by decide +kernel
theorem dX11_thing_36 : decode cX11_thing 36 = .ok (.iload_n 3, 1) := by decide +kernel
theorem dX11_thing_37 : decode cX11_thing 37 = .ok (.invokevirtual 271, 3) := by decide +kernel
theorem dX11_thing_40 : decode cX11_thing 40 = .ok (.ifCond .ne 5, 3) := by decide +kernel
theorem dX11_thing_43 : decode cX11_thing 43 = .ok (.iconst (-1), 1) := by decide +kernel
theorem dX11_thing_44 : decode cX11_thing 44 = .ok (.ireturn, 1) := by decide +kernel
theorem dX11_thing_45 : decode cX11_thing 45 = .ok (.aload_n 0, 1) := by decide +kernel
theorem dX11_thing_46 : decode cX11_thing 46 = .ok (.getfield 26, 3) := by decide +kernel
theorem dX11_thing_49 : decode cX11_thing 49 = .ok (.aload_n 0, 1) := by decide +kernel
theorem dX11_thing_50 : decode cX11_thing 50 = .ok (.getfield 23, 3) := by decide +kernel
theorem dX11_thing_53 : decode cX11_thing 53 = .ok (.iconst 0, 1) := by decide +kernel
theorem dX11_thing_54 : decode cX11_thing 54 = .ok (.iaload, 1) := by decide +kernel
theorem dX11_thing_55 : decode cX11_thing 55 = .ok (.iload_n 1, 1) := by decide +kernel
theorem dX11_thing_56 : decode cX11_thing 56 = .ok (.iastore, 1) := by decide +kernel
theorem dX11_thing_57 : decode cX11_thing 57 = .ok (.aload_n 0, 1) := by decide +kernel
theorem dX11_thing_58 : decode cX11_thing 58 = .ok (.getfield 29, 3) := by decide +kernel
theorem dX11_thing_61 : decode cX11_thing 61 = .ok (.aload_n 0, 1) := by decide +kernel
theorem dX11_thing_62 : decode cX11_thing 62 = .ok (.getfield 23, 3) := by decide +kernel
theorem dX11_thing_65 : decode cX11_thing 65 = .ok (.iconst 0, 1) := by decide +kernel
theorem dX11_thing_66 : decode cX11_thing 66 = .ok (.iaload, 1) := by decide +kernel
theorem dX11_thing_67 : decode cX11_thing 67 = .ok (.iload_n 2, 1) := by decide +kernel
theorem dX11_thing_68 : decode cX11_thing 68 = .ok (.iastore, 1) := by decide +kernel
theorem dX11_thing_69 : decode cX11_thing 69 = .ok (.aload_n 0, 1) := by decide +kernel
theorem dX11_thing_70 : decode cX11_thing 70 = .ok (.getfield 32, 3) := by decide +kernel
theorem dX11_thing_73 : decode cX11_thing 73 = .ok (.aload_n 0, 1) := by decide +kernel
theorem dX11_thing_74 : decode cX11_thing 74 = .ok (.getfield 23, 3) := by decide +kernel
theorem dX11_thing_77 : decode cX11_thing 77 = .ok (.iconst 0, 1) := by decide +kernel
theorem dX11_thing_78 : decode cX11_thing 78 = .ok (.iaload, 1) := by decide +kernel
theorem dX11_thing_79 : decode cX11_thing 79 = .ok (.iload_n 3, 1) := by decide +kernel
theorem dX11_thing_80 : decode cX11_thing 80 = .ok (.iastore, 1) := by decide +kernel
theorem dX11_thing_81 : decode cX11_thing 81 = .ok (.aload_n 0, 1) := by decide +kernel
theorem dX11_thing_82 : decode cX11_thing 82 = .ok (.getfield 23, 3) := by decide +kernel
theorem dX11_thing_85 : decode cX11_thing 85 = .ok (.iconst 0, 1) := by decide +kernel
theorem dX11_thing_86 : decode cX11_thing 86 = .ok (.dup2, 1) := by decide +kernel
theorem dX11_thing_87 : decode cX11_thing 87 = .ok (.iaload, 1) := by decide +kernel
theorem dX11_thing_88 : decode cX11_thing 88 = .ok (.iconst 1, 1) := by decide +kernel
theorem dX11_thing_89 : decode cX11_thing 89 = .ok (.iadd, 1) := by decide +kernel
theorem dX11_thing_90 : decode cX11_thing 90 = .ok (.iastore, 1) := by decide +kernel
theorem dX11_thing_91 : decode cX11_thing 91 = .ok (.aload_n 0, 1) := by decide +kernel
theorem dX11_thing_92 : decode cX11_thing 92 = .ok (.getfield 23, 3) := by decide +kernel
theorem dX11_thing_95 : decode cX11_thing 95 = .ok (.iconst 0, 1) := by decide +kernel
theorem dX11_thing_96 : decode cX11_thing 96 = .ok (.iaload, 1) := by decide +kernel
theorem dX11_thing_97 : decode cX11_thing 97 = .ok (.iconst 1, 1) := by decide +kernel
theorem dX11_thing_98 : decode cX11_thing 98 = .ok (.isub, 1) := by decide +kernel
theorem dX11_thing_99 : decode cX11_thing 99 = .ok (.ireturn, 1) := by decide +kernel
theorem dX11_moves_0 : decode cX11_moves 0 = .ok (.aload_n 0, 1) := by decide +kernel
theorem dX11_moves_1 : decode cX11_moves 1 = .ok (.iconst 0, 1) := by decide +kernel
theorem dX11_moves_2 : decode cX11_moves 2 = .ok (.putfield 94, 3) := by decide +kernel
theorem dX11_moves_5 : decode cX11_moves 5 = .ok (.aload_n 0, 1) := by decide +kernel
theorem dX11_moves_6 : decode cX11_moves 6 = .ok (.iload_n 1, 1) := by decide +kernel
theorem dX11_moves_7 : decode cX11_moves 7 = .ok (.invokevirtual 271, 3) := by decide +kernel
theorem dX11_moves_10 : decode cX11_moves 10 = .ok (.ifCond .eq 23, 3) := by decide +kernel
theorem dX11_moves_13 : decode cX11_moves 13 = .ok (.iload_n 2, 1) := by decide +kernel
theorem dX11_moves_14 : decode cX11_moves 14 = .ok (.iconst 0, 1) := by decide +kernel
theorem dX11_moves_15 : decode cX11_moves 15 = .ok (.sipush 255, 3) := by decide +kernel
theorem dX11_moves_18 : decode cX11_moves 18 = .ok (.invokestatic 108, 3) := by decide +kernel
theorem dX11_moves_21 : decode cX11_moves 21 = .ok (.ifCond .eq 12, 3) := by decide +kernel
theorem dX11_moves_24 : decode cX11_moves 24 = .ok (.iload_n 3, 1) := by decide +kernel
theorem dX11_moves_25 : decode cX11_moves 25 = .ok (.iconst 0, 1) := by decide +kernel
theorem dX11_moves_26 : decode cX11_moves 26 = .ok (.iconst 5, 1) := by decide +kernel
theorem dX11_moves_27 : decode cX11_moves 27 = .ok (.invokestatic 108, 3) := by decide +kernel
theorem dX11_moves_30 : decode cX11_moves 30 = .ok (.ifCond .ne 5, 3) := by decide +kernel
theorem dX11_moves_33 : decode cX11_moves 33 = .ok (.iconst 0, 1) := by decide +kernel
theorem dX11_moves_34 : decode cX11_moves 34 = .ok (.ireturn, 1) := by decide +kernel
theorem dX11_moves_35 : decode cX11_moves 35 = .ok (.aload_n 0, 1) := by decide +kernel
theorem dX11_moves_36 : decode cX11_moves 36 = .ok (.getfield 17, 3) := by decide +kernel
theorem dX11_moves_39 : decode cX11_moves 39 = .ok (.iload_n 1, 1) := by decide +kernel
theorem dX11_moves_40 : decode cX11_moves 40 = .ok (.iload_n 2, 1) := by decide +kernel
theorem dX11_moves_41 : decode cX11_moves 41 = .ok (.iastore, 1) := by decide +kernel
theorem dX11_moves_42 : decode cX11_moves 42 = .ok (.aload_n 0, 1) := by decide +kernel
theorem dX11_moves_43 : decode cX11_moves 43 = .ok (.getfield 20, 3) := by decide +kernel
theorem dX11_moves_46 : decode cX11_moves 46 = .ok (.iload_n 1, 1) := by decide +kernel
theorem dX11_moves_47 : decode cX11_moves 47 = .ok (.iload_n 3, 1) := by decide +kernel
theorem dX11_moves_48 : decode cX11_moves 48 = .ok (.iastore, 1) := by decide +kernel
theorem dX11_moves_49 : decode cX11_moves 49 = .ok (.iconst 1, 1) := by decide +kernel
theorem dX11_moves_50 : decode cX11_moves 50 = .ok (.ireturn, 1) := by decide +kernel
theorem dX11_gives_0 : decode cX11_gives 0 = .ok (.aload_n 0, 1) := by decide +kernel
theorem dX11_gives_1 : decode cX11_gives 1 = .ok (.iconst 0, 1) := by decide +kernel
theorem dX11_gives_2 : decode cX11_gives 2 = .ok (.putfield 94, 3) := by decide +kernel
theorem dX11_gives_5 : decode cX11_gives 5 = .ok (.aload_n 0, 1) := by decide +kernel
theorem dX11_gives_6 : decode cX11_gives 6 = .ok (.iload_n 1, 1) := by decide +kernel
theorem dX11_gives_7 : decode cX11_gives 7 = .ok (.invokevirtual 274, 3) := by decide +kernel
theorem dX11_gives_10 : decode cX11_gives 10 = .ok (.ifCond .eq 20, 3) := by decide +kernel
theorem dX11_gives_13 : decode cX11_gives 13 = .ok (.aload_n 0, 1) := by decide +kernel
theorem dX11_gives_14 : decode cX11_gives 14 = .ok (.iload_n 2, 1) := by decide +kernel
theorem dX11_gives_15 : decode cX11_gives 15 = .ok (.invokevirtual 271, 3) := by decide +kernel
theorem dX11_gives_18 : decode cX11_gives 18 = .ok (.ifCond .eq 12, 3) := by decide +kernel
theorem dX11_gives_21 : decode cX11_gives 21 = .ok (.iload_n 3, 1) := by decide +kernel
theorem dX11_gives_22 : decode cX11_gives 22 = .ok (.iconst 0, 1) := by decide +kernel
theorem dX11_gives_23 : decode cX11_gives 23 = .ok (.iconst 5, 1) := by decide +kernel
theorem dX11_gives_24 : decode cX11_gives 24 = .ok (.invokestatic 108, 3) := by decide +kernel
theorem dX11_gives_27 : decode cX11_gives 27 = .ok (.ifCond .ne 5, 3) := by decide +kernel
theorem dX11_gives_30 : decode cX11_gives 30 = .ok (.iconst 0, 1) := by decide +kernel
theorem dX11_gives_31 : decode cX11_gives 31 = .ok (.ireturn, 1) := by decide +kernel
theorem dX11_gives_32 : decode cX11_gives 32 = .ok (.aload_n 0, 1) := by decide +kernel
theorem dX11_gives_33 : decode cX11_gives 33 = .ok (.getfield 32, 3) := by decide +kernel
theorem dX11_gives_36 : decode cX11_gives 36 = .ok (.iload_n 1, 1) := by decide +kernel
theorem dX11_gives_37 : decode cX11_gives 37 = .ok (.iload_n 2, 1) := by decide +kernel
theorem dX11_gives_38 : decode cX11_gives 38 = .ok (.iastore, 1) := by decide +kernel
theorem dX11_gives_39 : decode cX11_gives 39 = .ok (.aload_n 0, 1) := by decide +kernel
theorem dX11_gives_40 : decode cX11_gives 40 = .ok (.getfield 29, 3) := by decide +kernel
theorem dX11_gives_43 : decode cX11_gives 43 = .ok (.iload_n 1, 1) := by decide +kernel
theorem dX11_gives_44 : decode cX11_gives 44 = .ok (.iload_n 3, 1) := by decide +kernel
theorem dX11_gives_45 : decode cX11_gives 45 = .ok (.iastore, 1) := by decide +kernel
theorem dX11_gives_46 : decode cX11_gives 46 = .ok (.iconst 1, 1) := by decide +kernel
theorem dX11_gives_47 : decode cX11_gives 47 = .ok (.ireturn, 1) := by decide +kernel
theorem dX11_tell_0 : decode cX11_tell 0 = .ok (.aload_n 0, 1) := by decide +kernel
theorem dX11_tell_1 : decode cX11_tell 1 = .ok (.iconst 0, 1) := by decide +kernel
theorem dX11_tell_2 : decode cX11_tell 2 = .ok (.putfield 94, 3) := by decide +kernel
theorem dX11_tell_5 : decode cX11_tell 5 = .ok (.iload_n 2, 1) := by decide +kernel
theorem dX11_tell_6 : decode cX11_tell 6 = .ok (.ifCond .eq 8, 3) := by decide +kernel
theorem dX11_tell_9 : decode cX11_tell 9 = .ok (.iload_n 2, 1) := by decide +kernel
theorem dX11_tell_10 : decode cX11_tell 10 = .ok (.iconst 1, 1) := by decide +kernel
theorem dX11_tell_11 : decode cX11_tell 11 = .ok (.if_icmp .ne 35, 3) := by decide +kernel
theorem dX11_tell_14 : decode cX11_tell 14 = .ok (.aload_n 0, 1) := by decide +kernel
theorem dX11_tell_15 : decode cX11_tell 15 = .ok (.iload_n 1, 1) := by decide +kernel
theorem dX11_tell_16 : decode cX11_tell 16 = .ok (.invokevirtual 271, 3) := by decide +kernel
theorem dX11_tell_19 : decode cX11_tell 19 = .ok (.ifCond .ne 7, 3) := by decide +kernel
theorem dX11_tell_22 : decode cX11_tell 22 = .ok (.iconst (-1), 1) := by decide +kernel
theorem dX11_tell_23 : decode cX11_tell 23 = .ok (.goto 22, 3) := by decide +kernel
theorem dX11_tell_26 : decode cX11_tell 26 = .ok (.iload_n 2, 1) := by decide +kernel
theorem dX11_tell_27 : decode cX11_tell 27 = .ok (.ifCond .ne 12, 3) := by decide +kernel
theorem dX11_tell_30 : decode cX11_tell 30 = .ok (.aload_n 0, 1) := by decide +kernel
theorem dX11_tell_31 : decode cX11_tell 31 = .ok (.getfield 17, 3) := by decide +kernel
theorem dX11_tell_34 : decode cX11_tell 34 = .ok (.iload_n 1, 1) := by decide +kernel
theorem dX11_tell_35 : decode cX11_tell 35 = .ok (.iaload, 1) := by decide +kernel
theorem dX11_tell_36 : decode cX11_tell 36 = .ok (.goto 9, 3) := by decide +kernel
theorem dX11_tell_39 : decode cX11_tell 39 = .ok (.aload_n 0, 1) := by decide +kernel
theorem dX11_tell_40 : decode cX11_tell 40 = .ok (.getfield 20, 3) := by decide +kernel
theorem dX11_tell_43 : decode cX11_tell 43 = .ok (.iload_n 1, 1) := by decide +kernel
theorem dX11_tell_44 : decode cX11_tell 44 = .ok (.iaload, 1) := by decide +kernel
theorem dX11_tell_45 : decode cX11_tell 45 = .ok (.ireturn, 1) := by decide +kernel
theorem dX11_tell_46 : decode cX11_tell 46 = .ok (.aload_n 0, 1) := by decide +kernel
theorem dX11_tell_47 : decode cX11_tell 47 = .ok (.iload_n 1, 1) := by decide +kernel
theorem dX11_tell_48 : decode cX11_tell 48 = .ok (.invokevirtual 274, 3) := by decide +kernel
theorem dX11_tell_51 : decode cX11_tell 51 = .ok (.ifCond .ne 5, 3) := by decide +kernel
theorem dX11_tell_54 : decode cX11_tell 54 = .ok (.iconst (-1), 1) := by decide +kernel
theorem dX11_tell_55 : decode cX11_tell 55 = .ok (.ireturn, 1) := by decide +kernel
theorem dX11_tell_56 : decode cX11_tell 56 = .ok (.iload_n 2, 1) := by decide +kernel
theorem dX11_tell_57 : decode cX11_tell 57 = .ok (.iconst 2, 1) := by decide +kernel
theorem dX11_tell_58 : decode cX11_tell 58 = .ok (.if_icmp .ne 12, 3) := by decide +kernel
theorem dX11_tell_61 : decode cX11_tell 61 = .ok (.aload_n 0, 1) := by decide +kernel
theorem dX11_tell_62 : decode cX11_tell 62 = .ok (.getfield 26, 3) := by decide +kernel
theorem dX11_tell_65 : decode cX11_tell 65 = .ok (.iload_n 1, 1) := by decide +kernel
theorem dX11_tell_66 : decode cX11_tell 66 = .ok (.iaload, 1) := by decide +kernel
theorem dX11_tell_67 : decode cX11_tell 67 = .ok (.goto 32, 3) := by decide +kernel
theorem dX11_tell_70 : decode cX11_tell 70 = .ok (.iload_n 2, 1) := by decide +kernel
theorem dX11_tell_71 : decode cX11_tell 71 = .ok (.iconst 3, 1) := by decide +kernel
theorem dX11_tell_72 : decode cX11_tell 72 = .ok (.if_icmp .ne 12, 3) := by decide +kernel
theorem dX11_tell_75 : decode cX11_tell 75 = .ok (.aload_n 0, 1) := by decide +kernel
theorem dX11_tell_76 : decode cX11_tell 76 = .ok (.getfield 29, 3) := by decide +kernel
theorem dX11_tell_79 : decode cX11_tell 79 = .ok (.iload_n 1, 1) := by decide +kernel
theorem dX11_tell_80 : decode cX11_tell 80 = .ok (.iaload, 1) := by decide +kernel
theorem dX11_tell_81 : decode cX11_tell 81 = .ok (.goto 18, 3) := by decide +kernel
theorem dX11_tell_84 : decode cX11_tell 84 = .ok (.iload_n 2, 1) := by decide +kernel
theorem dX11_tell_85 : decode cX11_tell 85 = .ok (.iconst 4, 1) := by decide +kernel
theorem dX11_tell_86 : decode cX11_tell 86 = .ok (.if_icmp .ne 12, 3) := by decide +kernel
theorem dX11_tell_89 : decode cX11_tell 89 = .ok (.aload_n 0, 1) := by decide +kernel
theorem dX11_tell_90 : decode cX11_tell 90 = .ok (.getfield 32, 3) := by decide +kernel
theorem dX11_tell_93 : decode cX11_tell 93 = .ok (.iload_n 1, 1) := by decide +kernel
theorem dX11_tell_94 : decode cX11_tell 94 = .ok (.iaload, 1) := by decide +kernel
theorem dX11_tell_95 : decode cX11_tell 95 = .ok (.goto 4, 3) := by decide +kernel
theorem dX11_tell_98 : decode cX11_tell 98 = .ok (.iconst (-1), 1) := by decide +kernel
theorem dX11_tell_99 : decode cX11_tell 99 = .ok (.ireturn, 1) := by decide +kernel
theorem dX11_ones_0 : decode cX11_ones 0 = .ok (.iconst 0, 1) := by decide +kernel
theorem dX11_ones_1 : decode cX11_ones 1 = .ok (.istore_n 1, 1) := by decide +kernel
theorem dX11_ones_2 : decode cX11_ones 2 = .ok (.iload_n 0, 1) := by decide +kernel
theorem dX11_ones_3 : decode cX11_ones 3 = .ok (.istore_n 2, 1) := by decide +kernel
theorem dX11_ones_4 : decode cX11_ones 4 = .ok (.iload_n 2, 1) := by decide +kernel
theorem dX11_ones_5 : decode cX11_ones 5 = .ok (.ifCond .eq 15, 3) := by decide +kernel
theorem dX11_ones_8 : decode cX11_ones 8 = .ok (.iinc 1 1, 3) := by decide +kernel
theorem dX11_ones_11 : decode cX11_ones 11 = .ok (.iload_n 2, 1) := by decide +kernel
theorem dX11_ones_12 : decode cX11_ones 12 = .ok (.iload_n 2, 1) := by decide +kernel
theorem dX11_ones_13 : decode cX11_ones 13 = .ok (.iconst 1, 1) := by decide +kernel
theorem dX11_ones_14 : decode cX11_ones 14 = .ok (.isub, 1) := by decide +kernel
theorem dX11_ones_15 : decode cX11_ones 15 = .ok (.iand, 1) := by decide +kernel
theorem dX11_ones_16 : decode cX11_ones 16 = .ok (.istore_n 2, 1) := by decide +kernel
theorem dX11_ones_17 : decode cX11_ones 17 = .ok (.goto (-13), 3) := by decide +kernel
theorem dX11_ones_20 : decode cX11_ones 20 = .ok (.iload_n 1, 1) := by decide +kernel
theorem dX11_ones_21 : decode cX11_ones 21 = .ok (.ireturn, 1) := by decide +kernel
theorem dX11_tested_0 : decode cX11_tested 0 = .ok (.iconst 0, 1) := by decide +kernel
theorem dX11_tested_1 : decode cX11_tested 1 = .ok (.istore 6, 2) := by decide +kernel
theorem dX11_tested_3 : decode cX11_tested 3 = .ok (.sipush 900, 3) := by decide +kernel
theorem dX11_tested_6 : decode cX11_tested 6 = .ok (.iload_n 1, 1) := by decide +kernel
theorem dX11_tested_7 : decode cX11_tested 7 = .ok (.imul, 1) := by decide +kernel
theorem dX11_tested_8 : decode cX11_tested 8 = .ok (.iload_n 2, 1) := by decide +kernel
theorem dX11_tested_9 : decode cX11_tested 9 = .ok (.iadd, 1) := by decide +kernel
theorem dX11_tested_10 : decode cX11_tested 10 = .ok (.istore 7, 2) := by decide +kernel
theorem dX11_tested_12 : decode cX11_tested 12 = .ok (.aload_n 0, 1) := by decide +kernel
theorem dX11_tested_13 : decode cX11_tested 13 = .ok (.getfield 53, 3) := by decide +kernel
theorem dX11_tested_16 : decode cX11_tested 16 = .ok (.iload 7, 2) := by decide +kernel
theorem dX11_tested_18 : decode cX11_tested 18 = .ok (.baload, 1) := by decide +kernel
theorem dX11_tested_19 : decode cX11_tested 19 = .ok (.bipush 13, 2) := by decide +kernel
theorem dX11_tested_21 : decode cX11_tested 21 = .ok (.if_icmp .eq 322, 3) := by decide +kernel
theorem dX11_tested_24 : decode cX11_tested 24 = .ok (.aload_n 0, 1) := by decide +kernel
theorem dX11_tested_25 : decode cX11_tested 25 = .ok (.getfield 53, 3) := by decide +kernel
theorem dX11_tested_28 : decode cX11_tested 28 = .ok (.iload 7, 2) := by decide +kernel
theorem dX11_tested_30 : decode cX11_tested 30 = .ok (.baload, 1) := by decide +kernel
theorem dX11_tested_31 : decode cX11_tested 31 = .ok (.istore 8, 2) := by decide +kernel
theorem dX11_tested_33 : decode cX11_tested 33 = .ok (.iload 8, 2) := by decide +kernel
theorem dX11_tested_35 : decode cX11_tested 35 = .ok (.bipush 6, 2) := by decide +kernel
theorem dX11_tested_37 : decode cX11_tested 37 = .ok (.if_icmp .gt 123, 3) := by decide +kernel
theorem dX11_tested_40 : decode cX11_tested 40 = .ok (.aload_n 0, 1) := by decide +kernel
theorem dX11_tested_41 : decode cX11_tested 41 = .ok (.getfield 75, 3) := by decide +kernel
theorem dX11_tested_44 : decode cX11_tested 44 = .ok (.iload 6, 2) := by decide +kernel
theorem dX11_tested_46 : decode cX11_tested 46 = .ok (.iload 8, 2) := by decide +kernel
theorem dX11_tested_48 : decode cX11_tested 48 = .ok (.ifCond .ne 13, 3) := by decide +kernel
theorem dX11_tested_51 : decode cX11_tested 51 = .ok (.aload_n 0, 1) := by decide +kernel
theorem dX11_tested_52 : decode cX11_tested 52 = .ok (.getfield 56, 3) := by decide +kernel
theorem dX11_tested_55 : decode cX11_tested 55 = .ok (.iload 7, 2) := by decide +kernel
theorem dX11_tested_57 : decode cX11_tested 57 = .ok (.iaload, 1) := by decide +kernel
theorem dX11_tested_58 : decode cX11_tested 58 = .ok (.goto 95, 3) := by decide +kernel
theorem dX11_tested_61 : decode cX11_tested 61 = .ok (.iload 8, 2) := by decide +kernel
theorem dX11_tested_63 : decode cX11_tested 63 = .ok (.iconst 1, 1) := by decide +kernel
theorem dX11_tested_64 : decode cX11_tested 64 = .ok (.if_icmp .ne 8, 3) := by decide +kernel
theorem dX11_tested_67 : decode cX11_tested 67 = .ok (.iload 5, 2) := by decide +kernel
theorem dX11_tested_69 : decode cX11_tested 69 = .ok (.goto 84, 3) := by decide +kernel
theorem dX11_tested_72 : decode cX11_tested 72 = .ok (.iload 8, 2) := by decide +kernel
theorem dX11_tested_74 : decode cX11_tested 74 = .ok (.iconst 2, 1) := by decide +kernel
theorem dX11_tested_75 : decode cX11_tested 75 = .ok (.if_icmp .ne 12, 3) := by decide +kernel
theorem dX11_tested_78 : decode cX11_tested 78 = .ok (.aload_n 0, 1) := by decide +kernel
theorem dX11_tested_79 : decode cX11_tested 79 = .ok (.getfield 20, 3) := by decide +kernel
theorem dX11_tested_82 : decode cX11_tested 82 = .ok (.iload_n 3, 1) := by decide +kernel
theorem dX11_tested_83 : decode cX11_tested 83 = .ok (.iaload, 1) := by decide +kernel
theorem dX11_tested_84 : decode cX11_tested 84 = .ok (.goto 69, 3) := by decide +kernel
theorem dX11_tested_87 : decode cX11_tested 87 = .ok (.iload 8, 2) := by decide +kernel
theorem dX11_tested_89 : decode cX11_tested 89 = .ok (.iconst 3, 1) := by decide +kernel
theorem dX11_tested_90 : decode cX11_tested 90 = .ok (.if_icmp .ne 13, 3) := by decide +kernel
theorem dX11_tested_93 : decode cX11_tested 93 = .ok (.aload_n 0, 1) := by decide +kernel
theorem dX11_tested_94 : decode cX11_tested 94 = .ok (.getfield 29, 3) := by decide +kernel
theorem dX11_tested_97 : decode cX11_tested 97 = .ok (.iload 4, 2) := by decide +kernel
theorem dX11_tested_99 : decode cX11_tested 99 = .ok (.iaload, 1) := by decide +kernel
theorem dX11_tested_100 : decode cX11_tested 100 = .ok (.goto 53, 3) := by decide +kernel
theorem dX11_tested_103 : decode cX11_tested 103 = .ok (.iload 8, 2) := by decide +kernel
theorem dX11_tested_105 : decode cX11_tested 105 = .ok (.iconst 4, 1) := by decide +kernel
theorem dX11_tested_106 : decode cX11_tested 106 = .ok (.if_icmp .ne 13, 3) := by decide +kernel
theorem dX11_tested_109 : decode cX11_tested 109 = .ok (.aload_n 0, 1) := by decide +kernel
theorem dX11_tested_110 : decode cX11_tested 110 = .ok (.getfield 26, 3) := by decide +kernel
theorem dX11_tested_113 : decode cX11_tested 113 = .ok (.iload 4, 2) := by decide +kernel
theorem dX11_tested_115 : decode cX11_tested 115 = .ok (.iaload, 1) := by decide +kernel
theorem dX11_tested_116 : decode cX11_tested 116 = .ok (.goto 37, 3) := by decide +kernel
theorem dX11_tested_119 : decode cX11_tested 119 = .ok (.iload 8, 2) := by decide +kernel
theorem dX11_tested_121 : decode cX11_tested 121 = .ok (.iconst 5, 1) := by decide +kernel
theorem dX11_tested_122 : decode cX11_tested 122 = .ok (.if_icmp .ne 15, 3) := by decide +kernel
theorem dX11_tested_125 : decode cX11_tested 125 = .ok (.aload_n 0, 1) := by decide +kernel
theorem dX11_tested_126 : decode cX11_tested 126 = .ok (.getfield 17, 3) := by decide +kernel
theorem dX11_tested_129 : decode cX11_tested 129 = .ok (.iload_n 3, 1) := by decide +kernel
theorem dX11_tested_130 : decode cX11_tested 130 = .ok (.iaload, 1) := by decide +kernel
theorem dX11_tested_131 : decode cX11_tested 131 = .ok (.invokestatic 277, 3) := by decide +kernel
theorem dX11_tested_134 : decode cX11_tested 134 = .ok (.goto 19, 3) := by decide +kernel
theorem dX11_tested_137 : decode cX11_tested 137 = .ok (.aload_n 0, 1) := by decide +kernel
theorem dX11_tested_138 : decode cX11_tested 138 = .ok (.getfield 32, 3) := by decide +kernel
theorem dX11_tested_141 : decode cX11_tested 141 = .ok (.iload 4, 2) := by decide +kernel
theorem dX11_tested_143 : decode cX11_tested 143 = .ok (.iaload, 1) := by decide +kernel
theorem dX11_tested_144 : decode cX11_tested 144 = .ok (.iload_n 3, 1) := by decide +kernel
theorem dX11_tested_145 : decode cX11_tested 145 = .ok (.if_icmp .ne 7, 3) := by decide +kernel
theorem dX11_tested_148 : decode cX11_tested 148 = .ok (.iconst 1, 1) := by decide +kernel
theorem dX11_tested_149 : decode cX11_tested 149 = .ok (.goto 4, 3) := by decide +kernel
theorem dX11_tested_152 : decode cX11_tested 152 = .ok (.iconst 0, 1) := by decide +kernel
theorem dX11_tested_153 : decode cX11_tested 153 = .ok (.iastore, 1) := by decide +kernel
theorem dX11_tested_154 : decode cX11_tested 154 = .ok (.iinc 6 1, 3) := by decide +kernel
theorem dX11_tested_157 : decode cX11_tested 157 = .ok (.goto 180, 3) := by decide +kernel
theorem dX11_tested_160 : decode cX11_tested 160 = .ok (.iload 8, 2) := by decide +kernel
theorem dX11_tested_162 : decode cX11_tested 162 = .ok (.bipush 10, 2) := by decide +kernel
theorem dX11_tested_164 : decode cX11_tested 164 = .ok (.if_icmp .ne 26, 3) := by decide +kernel
theorem dX11_tested_167 : decode cX11_tested 167 = .ok (.aload_n 0, 1) := by decide +kernel
theorem dX11_tested_168 : decode cX11_tested 168 = .ok (.getfield 75, 3) := by decide +kernel
theorem dX11_tested_171 : decode cX11_tested 171 = .ok (.iload 6, 2) := by decide +kernel
theorem dX11_tested_173 : decode cX11_tested 173 = .ok (.iconst 1, 1) := by decide +kernel
theorem dX11_tested_174 : decode cX11_tested 174 = .ok (.isub, 1) := by decide +kernel
theorem dX11_tested_175 : decode cX11_tested 175 = .ok (.iconst 1, 1) := by decide +kernel
theorem dX11_tested_176 : decode cX11_tested 176 = .ok (.aload_n 0, 1) := by decide +kernel
theorem dX11_tested_177 : decode cX11_tested 177 = .ok (.getfield 75, 3) := by decide +kernel
theorem dX11_tested_180 : decode cX11_tested 180 = .ok (.iload 6, 2) := by decide +kernel
theorem dX11_tested_182 : decode cX11_tested 182 = .ok (.iconst 1, 1) := by decide +kernel
theorem dX11_tested_183 : decode cX11_tested 183 = .ok (.isub, 1) := by decide +kernel
theorem dX11_tested_184 : decode cX11_tested 184 = .ok (.iaload, 1) := by decide +kernel
theorem dX11_tested_185 : decode cX11_tested 185 = .ok (.isub, 1) := by decide +kernel
theorem dX11_tested_186 : decode cX11_tested 186 = .ok (.iastore, 1) := by decide +kernel
theorem dX11_tested_187 : decode cX11_tested 187 = .ok (.goto 150, 3) := by decide +kernel
theorem dX11_tested_190 : decode cX11_tested 190 = .ok (.iinc 6 (-1), 3) := by decide +kernel
theorem dX11_tested_193 : decode cX11_tested 193 = .ok (.aload_n 0, 1) := by decide +kernel
theorem dX11_tested_194 : decode cX11_tested 194 = .ok (.getfield 75, 3) := by decide +kernel
theorem dX11_tested_197 : decode cX11_tested 197 = .ok (.iload 6, 2) := by decide +kernel
theorem dX11_tested_199 : decode cX11_tested 199 = .ok (.iconst 1, 1) := by decide +kernel
theorem dX11_tested_200 : decode cX11_tested 200 = .ok (.isub, 1) := by decide +kernel
theorem dX11_tested_201 : decode cX11_tested 201 = .ok (.iaload, 1) := by decide +kernel
theorem dX11_tested_202 : decode cX11_tested 202 = .ok (.istore 9, 2) := by decide +kernel
theorem dX11_tested_204 : decode cX11_tested 204 = .ok (.aload_n 0, 1) := by decide +kernel
theorem dX11_tested_205 : decode cX11_tested 205 = .ok (.getfield 75, 3) := by decide +kernel
theorem dX11_tested_208 : decode cX11_tested 208 = .ok (.iload 6, 2) := by decide +kernel
theorem dX11_tested_210 : decode cX11_tested 210 = .ok (.iaload, 1) := by decide +kernel
theorem dX11_tested_211 : decode cX11_tested 211 = .ok (.istore 10, 2) := by decide +kernel
theorem dX11_tested_213 : decode cX11_tested 213 = .ok (.iload 8, 2) := by decide +kernel
theorem dX11_tested_215 : decode cX11_tested 215 = .ok (.bipush 7, 2) := by decide +kernel
theorem dX11_tested_217 : decode cX11_tested 217 = .ok (.if_icmp .ne 18, 3) := by decide +kernel
theorem dX11_tested_220 : decode cX11_tested 220 = .ok (.iload 9, 2) := by decide +kernel
theorem dX11_tested_222 : decode cX11_tested 222 = .ok (.iload 10, 2) := by decide +kernel
theorem dX11_tested_224 : decode cX11_tested 224 = .ok (.if_icmp .ge 7, 3) := by decide +kernel
theorem dX11_tested_227 : decode cX11_tested 227 = .ok (.iconst 1, 1) := by decide +kernel
theorem dX11_tested_228 : decode cX11_tested 228 = .ok (.goto 88, 3) := by decide +kernel
theorem dX11_tested_231 : decode cX11_tested 231 = .ok (.iconst 0, 1) := by decide +kernel
theorem dX11_tested_232 : decode cX11_tested 232 = .ok (.goto 84, 3) := by decide +kernel
theorem dX11_tested_235 : decode cX11_tested 235 = .ok (.iload 8, 2) := by decide +kernel
theorem dX11_tested_237 : decode cX11_tested 237 = .ok (.bipush 8, 2) := by decide +kernel
theorem dX11_tested_239 : decode cX11_tested 239 = .ok (.if_icmp .ne 18, 3) := by decide +kernel
theorem dX11_tested_242 : decode cX11_tested 242 = .ok (.iload 9, 2) := by decide +kernel
theorem dX11_tested_244 : decode cX11_tested 244 = .ok (.iload 10, 2) := by decide +kernel
theorem dX11_tested_246 : decode cX11_tested 246 = .ok (.if_icmp .le 7, 3) := by decide +kernel
theorem dX11_tested_249 : decode cX11_tested 249 = .ok (.iconst 1, 1) := by decide +kernel
theorem dX11_tested_250 : decode cX11_tested 250 = .ok (.goto 66, 3) := by decide +kernel
theorem dX11_tested_253 : decode cX11_tested 253 = .ok (.iconst 0, 1) := by decide +kernel
theorem dX11_tested_254 : decode cX11_tested 254 = .ok (.goto 62, 3) := by decide +kernel
theorem dX11_tested_257 : decode cX11_tested 257 = .ok (.iload 8, 2) := by decide +kernel
theorem dX11_tested_259 : decode cX11_tested 259 = .ok (.bipush 9, 2) := by decide +kernel
theorem dX11_tested_261 : decode cX11_tested 261 = .ok (.if_icmp .ne 18, 3) := by decide +kernel
theorem dX11_tested_264 : decode cX11_tested 264 = .ok (.iload 9, 2) := by decide +kernel
theorem dX11_tested_266 : decode cX11_tested 266 = .ok (.iload 10, 2) := by decide +kernel
theorem dX11_tested_268 : decode cX11_tested 268 = .ok (.if_icmp .ne 7, 3) := by decide +kernel
theorem dX11_tested_271 : decode cX11_tested 271 = .ok (.iconst 1, 1) := by decide +kernel
theorem dX11_tested_272 : decode cX11_tested 272 = .ok (.goto 44, 3) := by decide +kernel
theorem dX11_tested_275 : decode cX11_tested 275 = .ok (.iconst 0, 1) := by decide +kernel
theorem dX11_tested_276 : decode cX11_tested 276 = .ok (.goto 40, 3) := by decide +kernel
theorem dX11_tested_279 : decode cX11_tested 279 = .ok (.iload 8, 2) := by decide +kernel
theorem dX11_tested_281 : decode cX11_tested 281 = .ok (.bipush 11, 2) := by decide +kernel
theorem dX11_tested_283 : decode cX11_tested 283 = .ok (.if_icmp .ne 20, 3) := by decide +kernel
theorem dX11_tested_286 : decode cX11_tested 286 = .ok (.iload 9, 2) := by decide +kernel
theorem dX11_tested_288 : decode cX11_tested 288 = .ok (.iload 10, 2) := by decide +kernel
theorem dX11_tested_290 : decode cX11_tested 290 = .ok (.iadd, 1) := by decide +kernel
theorem dX11_tested_291 : decode cX11_tested 291 = .ok (.iconst 2, 1) := by decide +kernel
theorem dX11_tested_292 : decode cX11_tested 292 = .ok (.if_icmp .ne 7, 3) := by decide +kernel
theorem dX11_tested_295 : decode cX11_tested 295 = .ok (.iconst 1, 1) := by decide +kernel
theorem dX11_tested_296 : decode cX11_tested 296 = .ok (.goto 20, 3) := by decide +kernel
theorem dX11_tested_299 : decode cX11_tested 299 = .ok (.iconst 0, 1) := by decide +kernel
theorem dX11_tested_300 : decode cX11_tested 300 = .ok (.goto 16, 3) := by decide +kernel
theorem dX11_tested_303 : decode cX11_tested 303 = .ok (.iload 9, 2) := by decide +kernel
theorem dX11_tested_305 : decode cX11_tested 305 = .ok (.iload 10, 2) := by decide +kernel
theorem dX11_tested_307 : decode cX11_tested 307 = .ok (.iadd, 1) := by decide +kernel
theorem dX11_tested_308 : decode cX11_tested 308 = .ok (.ifCond .le 7, 3) := by decide +kernel
theorem dX11_tested_311 : decode cX11_tested 311 = .ok (.iconst 1, 1) := by decide +kernel
theorem dX11_tested_312 : decode cX11_tested 312 = .ok (.goto 4, 3) := by decide +kernel
theorem dX11_tested_315 : decode cX11_tested 315 = .ok (.iconst 0, 1) := by decide +kernel
theorem dX11_tested_316 : decode cX11_tested 316 = .ok (.istore 11, 2) := by decide +kernel
theorem dX11_tested_318 : decode cX11_tested 318 = .ok (.aload_n 0, 1) := by decide +kernel
theorem dX11_tested_319 : decode cX11_tested 319 = .ok (.getfield 75, 3) := by decide +kernel
theorem dX11_tested_322 : decode cX11_tested 322 = .ok (.iload 6, 2) := by decide +kernel
theorem dX11_tested_324 : decode cX11_tested 324 = .ok (.iconst 1, 1) := by decide +kernel
theorem dX11_tested_325 : decode cX11_tested 325 = .ok (.isub, 1) := by decide +kernel
theorem dX11_tested_326 : decode cX11_tested 326 = .ok (.iload 11, 2) := by decide +kernel
theorem dX11_tested_328 : decode cX11_tested 328 = .ok (.ifCond .eq 7, 3) := by decide +kernel
theorem dX11_tested_331 : decode cX11_tested 331 = .ok (.iconst 1, 1) := by decide +kernel
theorem dX11_tested_332 : decode cX11_tested 332 = .ok (.goto 4, 3) := by decide +kernel
theorem dX11_tested_335 : decode cX11_tested 335 = .ok (.iconst 0, 1) := by decide +kernel
theorem dX11_tested_336 : decode cX11_tested 336 = .ok (.iastore, 1) := by decide +kernel
theorem dX11_tested_337 : decode cX11_tested 337 = .ok (.iinc 7 1, 3) := by decide +kernel
theorem dX11_tested_340 : decode cX11_tested 340 = .ok (.goto (-328), 3) := by decide +kernel
theorem dX11_tested_343 : decode cX11_tested 343 = .ok (.aload_n 0, 1) := by decide +kernel
theorem dX11_tested_344 : decode cX11_tested 344 = .ok (.getfield 75, 3) := by decide +kernel
theorem dX11_tested_347 : decode cX11_tested 347 = .ok (.iconst 0, 1) := by decide +kernel
theorem dX11_tested_348 : decode cX11_tested 348 = .ok (.iaload, 1) := by decide +kernel
theorem dX11_tested_349 : decode cX11_tested 349 = .ok (.iconst 1, 1) := by decide +kernel
theorem dX11_tested_350 : decode cX11_tested 350 = .ok (.if_icmp .ne 7, 3) := by decide +kernel
theorem dX11_tested_353 : decode cX11_tested 353 = .ok (.iconst 1, 1) := by decide +kernel
theorem dX11_tested_354 : decode cX11_tested 354 = .ok (.goto 4, 3) := by decide +kernel
theorem dX11_tested_357 : decode cX11_tested 357 = .ok (.iconst 0, 1) := by decide +kernel
theorem dX11_tested_358 : decode cX11_tested 358 = .ok (.ireturn, 1) := by decide +kernel
theorem dX11_holds_0 : decode cX11_holds 0 = .ok (.bipush 8, 2) := by decide +kernel
theorem dX11_holds_2 : decode cX11_holds 2 = .ok (.bipush 12, 2) := by decide +kernel
theorem dX11_holds_4 : decode cX11_holds 4 = .ok (.iload_n 1, 1) := by decide +kernel
theorem dX11_holds_5 : decode cX11_holds 5 = .ok (.imul, 1) := by decide +kernel
theorem dX11_holds_6 : decode cX11_holds 6 = .ok (.iload_n 2, 1) := by decide +kernel
theorem dX11_holds_7 : decode cX11_holds 7 = .ok (.iadd, 1) := by decide +kernel
theorem dX11_holds_8 : decode cX11_holds 8 = .ok (.imul, 1) := by decide +kernel
theorem dX11_holds_9 : decode cX11_holds 9 = .ok (.istore 7, 2) := by decide +kernel
theorem dX11_holds_11 : decode cX11_holds 11 = .ok (.aload_n 0, 1) := by decide +kernel
theorem dX11_holds_12 : decode cX11_holds 12 = .ok (.getfield 50, 3) := by decide +kernel
theorem dX11_holds_15 : decode cX11_holds 15 = .ok (.iload 7, 2) := by decide +kernel
theorem dX11_holds_17 : decode cX11_holds 17 = .ok (.iconst 2, 1) := by decide +kernel
theorem dX11_holds_18 : decode cX11_holds 18 = .ok (.iadd, 1) := by decide +kernel
theorem dX11_holds_19 : decode cX11_holds 19 = .ok (.iaload, 1) := by decide +kernel
theorem dX11_holds_20 : decode cX11_holds 20 = .ok (.istore 8, 2) := by decide +kernel
theorem dX11_holds_22 : decode cX11_holds 22 = .ok (.aload_n 0, 1) := by decide +kernel
theorem dX11_holds_23 : decode cX11_holds 23 = .ok (.getfield 50, 3) := by decide +kernel
theorem dX11_holds_26 : decode cX11_holds 26 = .ok (.iload 7, 2) := by decide +kernel
theorem dX11_holds_28 : decode cX11_holds 28 = .ok (.iconst 5, 1) := by decide +kernel
theorem dX11_holds_29 : decode cX11_holds 29 = .ok (.iadd, 1) := by decide +kernel
theorem dX11_holds_30 : decode cX11_holds 30 = .ok (.iaload, 1) := by decide +kernel
theorem dX11_holds_31 : decode cX11_holds 31 = .ok (.istore 9, 2) := by decide +kernel
theorem dX11_holds_33 : decode cX11_holds 33 = .ok (.aload_n 0, 1) := by decide +kernel
theorem dX11_holds_34 : decode cX11_holds 34 = .ok (.getfield 50, 3) := by decide +kernel
theorem dX11_holds_37 : decode cX11_holds 37 = .ok (.iload 7, 2) := by decide +kernel
theorem dX11_holds_39 : decode cX11_holds 39 = .ok (.iconst 3, 1) := by decide +kernel
theorem dX11_holds_40 : decode cX11_holds 40 = .ok (.iadd, 1) := by decide +kernel
theorem dX11_holds_41 : decode cX11_holds 41 = .ok (.iaload, 1) := by decide +kernel
theorem dX11_holds_42 : decode cX11_holds 42 = .ok (.iconst 4, 1) := by decide +kernel
theorem dX11_holds_43 : decode cX11_holds 43 = .ok (.if_icmp .eq 17, 3) := by decide +kernel
theorem dX11_holds_46 : decode cX11_holds 46 = .ok (.aload_n 0, 1) := by decide +kernel
theorem dX11_holds_47 : decode cX11_holds 47 = .ok (.getfield 50, 3) := by decide +kernel
theorem dX11_holds_50 : decode cX11_holds 50 = .ok (.iload 7, 2) := by decide +kernel
theorem dX11_holds_52 : decode cX11_holds 52 = .ok (.iconst 3, 1) := by decide +kernel
theorem dX11_holds_53 : decode cX11_holds 53 = .ok (.iadd, 1) := by decide +kernel
theorem dX11_holds_54 : decode cX11_holds 54 = .ok (.iaload, 1) := by decide +kernel
theorem dX11_holds_55 : decode cX11_holds 55 = .ok (.iload 4, 2) := by decide +kernel
theorem dX11_holds_57 : decode cX11_holds 57 = .ok (.if_icmp .ne 7, 3) := by decide +kernel
theorem dX11_holds_60 : decode cX11_holds 60 = .ok (.iconst 1, 1) := by decide +kernel
theorem dX11_holds_61 : decode cX11_holds 61 = .ok (.goto 4, 3) := by decide +kernel
theorem dX11_holds_64 : decode cX11_holds 64 = .ok (.iconst 0, 1) := by decide +kernel
theorem dX11_holds_65 : decode cX11_holds 65 = .ok (.istore 10, 2) := by decide +kernel
theorem dX11_holds_67 : decode cX11_holds 67 = .ok (.aload_n 0, 1) := by decide +kernel
theorem dX11_holds_68 : decode cX11_holds 68 = .ok (.getfield 50, 3) := by decide +kernel
theorem dX11_holds_71 : decode cX11_holds 71 = .ok (.iload 7, 2) := by decide +kernel
theorem dX11_holds_73 : decode cX11_holds 73 = .ok (.iconst 1, 1) := by decide +kernel
theorem dX11_holds_74 : decode cX11_holds 74 = .ok (.iadd, 1) := by decide +kernel
theorem dX11_holds_75 : decode cX11_holds 75 = .ok (.iaload, 1) := by decide +kernel
theorem dX11_holds_76 : decode cX11_holds 76 = .ok (.tableswitch 134 1 4 #[32, 61, 82, 108], 32) := by decide +kernel
theorem dX11_holds_108 : decode cX11_holds 108 = .ok (.iload 10, 2) := by decide +kernel
theorem dX11_holds_110 : decode cX11_holds 110 = .ok (.ifCond .eq 21, 3) := by decide +kernel
theorem dX11_holds_113 : decode cX11_holds 113 = .ok (.aload_n 0, 1) := by decide +kernel
theorem dX11_holds_114 : decode cX11_holds 114 = .ok (.getfield 17, 3) := by decide +kernel
theorem dX11_holds_117 : decode cX11_holds 117 = .ok (.iload_n 3, 1) := by decide +kernel
theorem dX11_holds_118 : decode cX11_holds 118 = .ok (.iaload, 1) := by decide +kernel
theorem dX11_holds_119 : decode cX11_holds 119 = .ok (.iload 8, 2) := by decide +kernel
theorem dX11_holds_121 : decode cX11_holds 121 = .ok (.ishr, 1) := by decide +kernel
theorem dX11_holds_122 : decode cX11_holds 122 = .ok (.iconst 1, 1) := by decide +kernel
theorem dX11_holds_123 : decode cX11_holds 123 = .ok (.iand, 1) := by decide +kernel
theorem dX11_holds_124 : decode cX11_holds 124 = .ok (.ifCond .eq 7, 3) := by decide +kernel
theorem dX11_holds_127 : decode cX11_holds 127 = .ok (.iconst 1, 1) := by decide +kernel
theorem dX11_holds_128 : decode cX11_holds 128 = .ok (.goto 4, 3) := by decide +kernel
theorem dX11_holds_131 : decode cX11_holds 131 = .ok (.iconst 0, 1) := by decide +kernel
theorem dX11_holds_132 : decode cX11_holds 132 = .ok (.istore 10, 2) := by decide +kernel
theorem dX11_holds_134 : decode cX11_holds 134 = .ok (.goto 76, 3) := by decide +kernel
theorem dX11_holds_137 : decode cX11_holds 137 = .ok (.iload 10, 2) := by decide +kernel
theorem dX11_holds_139 : decode cX11_holds 139 = .ok (.ifCond .eq 13, 3) := by decide +kernel
theorem dX11_holds_142 : decode cX11_holds 142 = .ok (.iload_n 3, 1) := by decide +kernel
theorem dX11_holds_143 : decode cX11_holds 143 = .ok (.iload 8, 2) := by decide +kernel
theorem dX11_holds_145 : decode cX11_holds 145 = .ok (.if_icmp .ne 7, 3) := by decide +kernel
theorem dX11_holds_148 : decode cX11_holds 148 = .ok (.iconst 1, 1) := by decide +kernel
theorem dX11_holds_149 : decode cX11_holds 149 = .ok (.goto 4, 3) := by decide +kernel
theorem dX11_holds_152 : decode cX11_holds 152 = .ok (.iconst 0, 1) := by decide +kernel
theorem dX11_holds_153 : decode cX11_holds 153 = .ok (.istore 10, 2) := by decide +kernel
theorem dX11_holds_155 : decode cX11_holds 155 = .ok (.goto 55, 3) := by decide +kernel
theorem dX11_holds_158 : decode cX11_holds 158 = .ok (.iload 10, 2) := by decide +kernel
theorem dX11_holds_160 : decode cX11_holds 160 = .ok (.ifCond .eq 18, 3) := by decide +kernel
theorem dX11_holds_163 : decode cX11_holds 163 = .ok (.aload_n 0, 1) := by decide +kernel
theorem dX11_holds_164 : decode cX11_holds 164 = .ok (.getfield 32, 3) := by decide +kernel
theorem dX11_holds_167 : decode cX11_holds 167 = .ok (.iload 5, 2) := by decide +kernel
theorem dX11_holds_169 : decode cX11_holds 169 = .ok (.iaload, 1) := by decide +kernel
theorem dX11_holds_170 : decode cX11_holds 170 = .ok (.iload_n 3, 1) := by decide +kernel
theorem dX11_holds_171 : decode cX11_holds 171 = .ok (.if_icmp .ne 7, 3) := by decide +kernel
theorem dX11_holds_174 : decode cX11_holds 174 = .ok (.iconst 1, 1) := by decide +kernel
theorem dX11_holds_175 : decode cX11_holds 175 = .ok (.goto 4, 3) := by decide +kernel
theorem dX11_holds_178 : decode cX11_holds 178 = .ok (.iconst 0, 1) := by decide +kernel
theorem dX11_holds_179 : decode cX11_holds 179 = .ok (.istore 10, 2) := by decide +kernel
theorem dX11_holds_181 : decode cX11_holds 181 = .ok (.goto 29, 3) := by decide +kernel
theorem dX11_holds_184 : decode cX11_holds 184 = .ok (.iload 10, 2) := by decide +kernel
theorem dX11_holds_186 : decode cX11_holds 186 = .ok (.ifCond .eq 18, 3) := by decide +kernel
theorem dX11_holds_189 : decode cX11_holds 189 = .ok (.aload_n 0, 1) := by decide +kernel
theorem dX11_holds_190 : decode cX11_holds 190 = .ok (.getfield 20, 3) := by decide +kernel
theorem dX11_holds_193 : decode cX11_holds 193 = .ok (.iload_n 3, 1) := by decide +kernel
theorem dX11_holds_194 : decode cX11_holds 194 = .ok (.iaload, 1) := by decide +kernel
theorem dX11_holds_195 : decode cX11_holds 195 = .ok (.iload 8, 2) := by decide +kernel
theorem dX11_holds_197 : decode cX11_holds 197 = .ok (.if_icmp .lt 7, 3) := by decide +kernel
theorem dX11_holds_200 : decode cX11_holds 200 = .ok (.iconst 1, 1) := by decide +kernel
theorem dX11_holds_201 : decode cX11_holds 201 = .ok (.goto 4, 3) := by decide +kernel
theorem dX11_holds_204 : decode cX11_holds 204 = .ok (.iconst 0, 1) := by decide +kernel
theorem dX11_holds_205 : decode cX11_holds 205 = .ok (.istore 10, 2) := by decide +kernel
theorem dX11_holds_207 : decode cX11_holds 207 = .ok (.goto 3, 3) := by decide +kernel
theorem dX11_holds_210 : decode cX11_holds 210 = .ok (.aload_n 0, 1) := by decide +kernel
theorem dX11_holds_211 : decode cX11_holds 211 = .ok (.getfield 50, 3) := by decide +kernel
theorem dX11_holds_214 : decode cX11_holds 214 = .ok (.iload 7, 2) := by decide +kernel
theorem dX11_holds_216 : decode cX11_holds 216 = .ok (.iconst 4, 1) := by decide +kernel
theorem dX11_holds_217 : decode cX11_holds 217 = .ok (.iadd, 1) := by decide +kernel
theorem dX11_holds_218 : decode cX11_holds 218 = .ok (.iaload, 1) := by decide +kernel
theorem dX11_holds_219 : decode cX11_holds 219 = .ok (.tableswitch 101 1 3 #[25, 52, 74], 25) := by decide +kernel
theorem dX11_holds_244 : decode cX11_holds 244 = .ok (.iload 10, 2) := by decide +kernel
theorem dX11_holds_246 : decode cX11_holds 246 = .ok (.ifCond .eq 19, 3) := by decide +kernel
theorem dX11_holds_249 : decode cX11_holds 249 = .ok (.aload_n 0, 1) := by decide +kernel
theorem dX11_holds_250 : decode cX11_holds 250 = .ok (.getfield 26, 3) := by decide +kernel
theorem dX11_holds_253 : decode cX11_holds 253 = .ok (.iload 5, 2) := by decide +kernel
theorem dX11_holds_255 : decode cX11_holds 255 = .ok (.iaload, 1) := by decide +kernel
theorem dX11_holds_256 : decode cX11_holds 256 = .ok (.iload 9, 2) := by decide +kernel
theorem dX11_holds_258 : decode cX11_holds 258 = .ok (.if_icmp .ne 7, 3) := by decide +kernel
theorem dX11_holds_261 : decode cX11_holds 261 = .ok (.iconst 1, 1) := by decide +kernel
theorem dX11_holds_262 : decode cX11_holds 262 = .ok (.goto 4, 3) := by decide +kernel
theorem dX11_holds_265 : decode cX11_holds 265 = .ok (.iconst 0, 1) := by decide +kernel
theorem dX11_holds_266 : decode cX11_holds 266 = .ok (.istore 10, 2) := by decide +kernel
theorem dX11_holds_268 : decode cX11_holds 268 = .ok (.goto 52, 3) := by decide +kernel
theorem dX11_holds_271 : decode cX11_holds 271 = .ok (.iload 10, 2) := by decide +kernel
theorem dX11_holds_273 : decode cX11_holds 273 = .ok (.ifCond .eq 14, 3) := by decide +kernel
theorem dX11_holds_276 : decode cX11_holds 276 = .ok (.iload 5, 2) := by decide +kernel
theorem dX11_holds_278 : decode cX11_holds 278 = .ok (.iload 9, 2) := by decide +kernel
theorem dX11_holds_280 : decode cX11_holds 280 = .ok (.if_icmp .ne 7, 3) := by decide +kernel
theorem dX11_holds_283 : decode cX11_holds 283 = .ok (.iconst 1, 1) := by decide +kernel
theorem dX11_holds_284 : decode cX11_holds 284 = .ok (.goto 4, 3) := by decide +kernel
theorem dX11_holds_287 : decode cX11_holds 287 = .ok (.iconst 0, 1) := by decide +kernel
theorem dX11_holds_288 : decode cX11_holds 288 = .ok (.istore 10, 2) := by decide +kernel
theorem dX11_holds_290 : decode cX11_holds 290 = .ok (.goto 30, 3) := by decide +kernel
theorem dX11_holds_293 : decode cX11_holds 293 = .ok (.iload 10, 2) := by decide +kernel
theorem dX11_holds_295 : decode cX11_holds 295 = .ok (.ifCond .eq 19, 3) := by decide +kernel
theorem dX11_holds_298 : decode cX11_holds 298 = .ok (.aload_n 0, 1) := by decide +kernel
theorem dX11_holds_299 : decode cX11_holds 299 = .ok (.getfield 29, 3) := by decide +kernel
theorem dX11_holds_302 : decode cX11_holds 302 = .ok (.iload 5, 2) := by decide +kernel
theorem dX11_holds_304 : decode cX11_holds 304 = .ok (.iaload, 1) := by decide +kernel
theorem dX11_holds_305 : decode cX11_holds 305 = .ok (.iload 9, 2) := by decide +kernel
theorem dX11_holds_307 : decode cX11_holds 307 = .ok (.if_icmp .lt 7, 3) := by decide +kernel
theorem dX11_holds_310 : decode cX11_holds 310 = .ok (.iconst 1, 1) := by decide +kernel
theorem dX11_holds_311 : decode cX11_holds 311 = .ok (.goto 4, 3) := by decide +kernel
theorem dX11_holds_314 : decode cX11_holds 314 = .ok (.iconst 0, 1) := by decide +kernel
theorem dX11_holds_315 : decode cX11_holds 315 = .ok (.istore 10, 2) := by decide +kernel
theorem dX11_holds_317 : decode cX11_holds 317 = .ok (.goto 3, 3) := by decide +kernel
theorem dX11_holds_320 : decode cX11_holds 320 = .ok (.iload 10, 2) := by decide +kernel
theorem dX11_holds_322 : decode cX11_holds 322 = .ok (.ifCond .eq 44, 3) := by decide +kernel
theorem dX11_holds_325 : decode cX11_holds 325 = .ok (.aload_n 0, 1) := by decide +kernel
theorem dX11_holds_326 : decode cX11_holds 326 = .ok (.getfield 50, 3) := by decide +kernel
theorem dX11_holds_329 : decode cX11_holds 329 = .ok (.iload 7, 2) := by decide +kernel
theorem dX11_holds_331 : decode cX11_holds 331 = .ok (.bipush 6, 2) := by decide +kernel
theorem dX11_holds_333 : decode cX11_holds 333 = .ok (.iadd, 1) := by decide +kernel
theorem dX11_holds_334 : decode cX11_holds 334 = .ok (.iaload, 1) := by decide +kernel
theorem dX11_holds_335 : decode cX11_holds 335 = .ok (.iconst (-1), 1) := by decide +kernel
theorem dX11_holds_336 : decode cX11_holds 336 = .ok (.if_icmp .eq 26, 3) := by decide +kernel
theorem dX11_holds_339 : decode cX11_holds 339 = .ok (.aload_n 0, 1) := by decide +kernel
theorem dX11_holds_340 : decode cX11_holds 340 = .ok (.iload_n 1, 1) := by decide +kernel
theorem dX11_holds_341 : decode cX11_holds 341 = .ok (.aload_n 0, 1) := by decide +kernel
theorem dX11_holds_342 : decode cX11_holds 342 = .ok (.getfield 50, 3) := by decide +kernel
theorem dX11_holds_345 : decode cX11_holds 345 = .ok (.iload 7, 2) := by decide +kernel
theorem dX11_holds_347 : decode cX11_holds 347 = .ok (.bipush 6, 2) := by decide +kernel
theorem dX11_holds_349 : decode cX11_holds 349 = .ok (.iadd, 1) := by decide +kernel
theorem dX11_holds_350 : decode cX11_holds 350 = .ok (.iaload, 1) := by decide +kernel
theorem dX11_holds_351 : decode cX11_holds 351 = .ok (.iload_n 3, 1) := by decide +kernel
theorem dX11_holds_352 : decode cX11_holds 352 = .ok (.iload 5, 2) := by decide +kernel
theorem dX11_holds_354 : decode cX11_holds 354 = .ok (.iload 6, 2) := by decide +kernel
theorem dX11_holds_356 : decode cX11_holds 356 = .ok (.invokevirtual 281, 3) := by decide +kernel
theorem dX11_holds_359 : decode cX11_holds 359 = .ok (.ifCond .eq 7, 3) := by decide +kernel
theorem dX11_holds_362 : decode cX11_holds 362 = .ok (.iconst 1, 1) := by decide +kernel
theorem dX11_holds_363 : decode cX11_holds 363 = .ok (.goto 4, 3) := by decide +kernel
theorem dX11_holds_366 : decode cX11_holds 366 = .ok (.iconst 0, 1) := by decide +kernel
theorem dX11_holds_367 : decode cX11_holds 367 = .ok (.ireturn, 1) := by decide +kernel
theorem dX11_lets_0 : decode cX11_lets 0 = .ok (.aload_n 0, 1) := by decide +kernel
theorem dX11_lets_1 : decode cX11_lets 1 = .ok (.getfield 50, 3) := by decide +kernel
theorem dX11_lets_4 : decode cX11_lets 4 = .ok (.bipush 8, 2) := by decide +kernel
theorem dX11_lets_6 : decode cX11_lets 6 = .ok (.bipush 12, 2) := by decide +kernel
theorem dX11_lets_8 : decode cX11_lets 8 = .ok (.iload_n 1, 1) := by decide +kernel
theorem dX11_lets_9 : decode cX11_lets 9 = .ok (.imul, 1) := by decide +kernel
theorem dX11_lets_10 : decode cX11_lets 10 = .ok (.iload_n 2, 1) := by decide +kernel
theorem dX11_lets_11 : decode cX11_lets 11 = .ok (.iadd, 1) := by decide +kernel
theorem dX11_lets_12 : decode cX11_lets 12 = .ok (.imul, 1) := by decide +kernel
theorem dX11_lets_13 : decode cX11_lets 13 = .ok (.iaload, 1) := by decide +kernel
theorem dX11_lets_14 : decode cX11_lets 14 = .ok (.iconst 1, 1) := by decide +kernel
theorem dX11_lets_15 : decode cX11_lets 15 = .ok (.if_icmp .ne 7, 3) := by decide +kernel
theorem dX11_lets_18 : decode cX11_lets 18 = .ok (.iconst 1, 1) := by decide +kernel
theorem dX11_lets_19 : decode cX11_lets 19 = .ok (.goto 4, 3) := by decide +kernel
theorem dX11_lets_22 : decode cX11_lets 22 = .ok (.iconst 0, 1) := by decide +kernel
theorem dX11_lets_23 : decode cX11_lets 23 = .ok (.aload_n 0, 1) := by decide +kernel
theorem dX11_lets_24 : decode cX11_lets 24 = .ok (.getfield 285, 3) := by decide +kernel
theorem dX11_lets_27 : decode cX11_lets 27 = .ok (.iload_n 2, 1) := by decide +kernel
theorem dX11_lets_28 : decode cX11_lets 28 = .ok (.ishr, 1) := by decide +kernel
theorem dX11_lets_29 : decode cX11_lets 29 = .ok (.iconst 1, 1) := by decide +kernel
theorem dX11_lets_30 : decode cX11_lets 30 = .ok (.iand, 1) := by decide +kernel
theorem dX11_lets_31 : decode cX11_lets 31 = .ok (.ifCond .eq 7, 3) := by decide +kernel
theorem dX11_lets_34 : decode cX11_lets 34 = .ok (.iconst 1, 1) := by decide +kernel
theorem dX11_lets_35 : decode cX11_lets 35 = .ok (.goto 4, 3) := by decide +kernel
theorem dX11_lets_38 : decode cX11_lets 38 = .ok (.iconst 0, 1) := by decide +kernel
theorem dX11_lets_39 : decode cX11_lets 39 = .ok (.if_icmp .eq 7, 3) := by decide +kernel
theorem dX11_lets_42 : decode cX11_lets 42 = .ok (.iconst 1, 1) := by decide +kernel
theorem dX11_lets_43 : decode cX11_lets 43 = .ok (.goto 4, 3) := by decide +kernel
theorem dX11_lets_46 : decode cX11_lets 46 = .ok (.iconst 0, 1) := by decide +kernel
theorem dX11_lets_47 : decode cX11_lets 47 = .ok (.ireturn, 1) := by decide +kernel
theorem dX11_decider_0 : decode cX11_decider 0 = .ok (.iconst (-1), 1) := by decide +kernel
theorem dX11_decider_1 : decode cX11_decider 1 = .ok (.istore 6, 2) := by decide +kernel
theorem dX11_decider_3 : decode cX11_decider 3 = .ok (.iconst 0, 1) := by decide +kernel
theorem dX11_decider_4 : decode cX11_decider 4 = .ok (.istore 7, 2) := by decide +kernel
theorem dX11_decider_6 : decode cX11_decider 6 = .ok (.iload 7, 2) := by decide +kernel
theorem dX11_decider_8 : decode cX11_decider 8 = .ok (.aload_n 0, 1) := by decide +kernel
theorem dX11_decider_9 : decode cX11_decider 9 = .ok (.getfield 47, 3) := by decide +kernel
theorem dX11_decider_12 : decode cX11_decider 12 = .ok (.iload_n 1, 1) := by decide +kernel
theorem dX11_decider_13 : decode cX11_decider 13 = .ok (.iaload, 1) := by decide +kernel
theorem dX11_decider_14 : decode cX11_decider 14 = .ok (.if_icmp .ge 129, 3) := by decide +kernel
theorem dX11_decider_17 : decode cX11_decider 17 = .ok (.aload_n 0, 1) := by decide +kernel
theorem dX11_decider_18 : decode cX11_decider 18 = .ok (.getfield 288, 3) := by decide +kernel
theorem dX11_decider_21 : decode cX11_decider 21 = .ok (.iload 7, 2) := by decide +kernel
theorem dX11_decider_23 : decode cX11_decider 23 = .ok (.ishr, 1) := by decide +kernel
theorem dX11_decider_24 : decode cX11_decider 24 = .ok (.iconst 1, 1) := by decide +kernel
theorem dX11_decider_25 : decode cX11_decider 25 = .ok (.iand, 1) := by decide +kernel
theorem dX11_decider_26 : decode cX11_decider 26 = .ok (.ifCond .ne 111, 3) := by decide +kernel
theorem dX11_decider_29 : decode cX11_decider 29 = .ok (.aload_n 0, 1) := by decide +kernel
theorem dX11_decider_30 : decode cX11_decider 30 = .ok (.iload_n 1, 1) := by decide +kernel
theorem dX11_decider_31 : decode cX11_decider 31 = .ok (.iload 7, 2) := by decide +kernel
theorem dX11_decider_33 : decode cX11_decider 33 = .ok (.iload_n 2, 1) := by decide +kernel
theorem dX11_decider_34 : decode cX11_decider 34 = .ok (.iload_n 3, 1) := by decide +kernel
theorem dX11_decider_35 : decode cX11_decider 35 = .ok (.iload 4, 2) := by decide +kernel
theorem dX11_decider_37 : decode cX11_decider 37 = .ok (.iload 5, 2) := by decide +kernel
theorem dX11_decider_39 : decode cX11_decider 39 = .ok (.invokevirtual 291, 3) := by decide +kernel
theorem dX11_decider_42 : decode cX11_decider 42 = .ok (.ifCond .ne 6, 3) := by decide +kernel
theorem dX11_decider_45 : decode cX11_decider 45 = .ok (.goto 92, 3) := by decide +kernel
theorem dX11_decider_48 : decode cX11_decider 48 = .ok (.aload_n 0, 1) := by decide +kernel
theorem dX11_decider_49 : decode cX11_decider 49 = .ok (.getfield 44, 3) := by decide +kernel
theorem dX11_decider_52 : decode cX11_decider 52 = .ok (.iload_n 1, 1) := by decide +kernel
theorem dX11_decider_53 : decode cX11_decider 53 = .ok (.iaload, 1) := by decide +kernel
theorem dX11_decider_54 : decode cX11_decider 54 = .ok (.ifCond .ne 6, 3) := by decide +kernel
theorem dX11_decider_57 : decode cX11_decider 57 = .ok (.iload 7, 2) := by decide +kernel
theorem dX11_decider_59 : decode cX11_decider 59 = .ok (.ireturn, 1) := by decide +kernel
theorem dX11_decider_60 : decode cX11_decider 60 = .ok (.aload_n 0, 1) := by decide +kernel
theorem dX11_decider_61 : decode cX11_decider 61 = .ok (.getfield 44, 3) := by decide +kernel
theorem dX11_decider_64 : decode cX11_decider 64 = .ok (.iload_n 1, 1) := by decide +kernel
theorem dX11_decider_65 : decode cX11_decider 65 = .ok (.iaload, 1) := by decide +kernel
theorem dX11_decider_66 : decode cX11_decider 66 = .ok (.iconst 1, 1) := by decide +kernel
theorem dX11_decider_67 : decode cX11_decider 67 = .ok (.if_icmp .eq 9, 3) := by decide +kernel
theorem dX11_decider_70 : decode cX11_decider 70 = .ok (.iload 6, 2) := by decide +kernel
theorem dX11_decider_72 : decode cX11_decider 72 = .ok (.iconst (-1), 1) := by decide +kernel
theorem dX11_decider_73 : decode cX11_decider 73 = .ok (.if_icmp .ne 10, 3) := by decide +kernel
theorem dX11_decider_76 : decode cX11_decider 76 = .ok (.iload 7, 2) := by decide +kernel
theorem dX11_decider_78 : decode cX11_decider 78 = .ok (.istore 6, 2) := by decide +kernel
theorem dX11_decider_80 : decode cX11_decider 80 = .ok (.goto 57, 3) := by decide +kernel
theorem dX11_decider_83 : decode cX11_decider 83 = .ok (.aload_n 0, 1) := by decide +kernel
theorem dX11_decider_84 : decode cX11_decider 84 = .ok (.iload_n 1, 1) := by decide +kernel
theorem dX11_decider_85 : decode cX11_decider 85 = .ok (.iload 7, 2) := by decide +kernel
theorem dX11_decider_87 : decode cX11_decider 87 = .ok (.invokevirtual 295, 3) := by decide +kernel
theorem dX11_decider_90 : decode cX11_decider 90 = .ok (.aload_n 0, 1) := by decide +kernel
theorem dX11_decider_91 : decode cX11_decider 91 = .ok (.getfield 44, 3) := by decide +kernel
theorem dX11_decider_94 : decode cX11_decider 94 = .ok (.iload_n 1, 1) := by decide +kernel
theorem dX11_decider_95 : decode cX11_decider 95 = .ok (.iaload, 1) := by decide +kernel
theorem dX11_decider_96 : decode cX11_decider 96 = .ok (.iconst 3, 1) := by decide +kernel
theorem dX11_decider_97 : decode cX11_decider 97 = .ok (.if_icmp .ne 7, 3) := by decide +kernel
theorem dX11_decider_100 : decode cX11_decider 100 = .ok (.iconst 1, 1) := by decide +kernel
theorem dX11_decider_101 : decode cX11_decider 101 = .ok (.goto 4, 3) := by decide +kernel
theorem dX11_decider_104 : decode cX11_decider 104 = .ok (.iconst 0, 1) := by decide +kernel
theorem dX11_decider_105 : decode cX11_decider 105 = .ok (.if_icmp .ne 32, 3) := by decide +kernel
theorem dX11_decider_108 : decode cX11_decider 108 = .ok (.aload_n 0, 1) := by decide +kernel
theorem dX11_decider_109 : decode cX11_decider 109 = .ok (.iload_n 1, 1) := by decide +kernel
theorem dX11_decider_110 : decode cX11_decider 110 = .ok (.iload 6, 2) := by decide +kernel
theorem dX11_decider_112 : decode cX11_decider 112 = .ok (.invokevirtual 295, 3) := by decide +kernel
theorem dX11_decider_115 : decode cX11_decider 115 = .ok (.aload_n 0, 1) := by decide +kernel
theorem dX11_decider_116 : decode cX11_decider 116 = .ok (.getfield 44, 3) := by decide +kernel
theorem dX11_decider_119 : decode cX11_decider 119 = .ok (.iload_n 1, 1) := by decide +kernel
theorem dX11_decider_120 : decode cX11_decider 120 = .ok (.iaload, 1) := by decide +kernel
theorem dX11_decider_121 : decode cX11_decider 121 = .ok (.iconst 3, 1) := by decide +kernel
theorem dX11_decider_122 : decode cX11_decider 122 = .ok (.if_icmp .ne 7, 3) := by decide +kernel
theorem dX11_decider_125 : decode cX11_decider 125 = .ok (.iconst 1, 1) := by decide +kernel
theorem dX11_decider_126 : decode cX11_decider 126 = .ok (.goto 4, 3) := by decide +kernel
theorem dX11_decider_129 : decode cX11_decider 129 = .ok (.iconst 0, 1) := by decide +kernel
theorem dX11_decider_130 : decode cX11_decider 130 = .ok (.if_icmp .eq 7, 3) := by decide +kernel
theorem dX11_decider_133 : decode cX11_decider 133 = .ok (.iload 7, 2) := by decide +kernel
theorem dX11_decider_135 : decode cX11_decider 135 = .ok (.istore 6, 2) := by decide +kernel
theorem dX11_decider_137 : decode cX11_decider 137 = .ok (.iinc 7 1, 3) := by decide +kernel
theorem dX11_decider_140 : decode cX11_decider 140 = .ok (.goto (-134), 3) := by decide +kernel
theorem dX11_decider_143 : decode cX11_decider 143 = .ok (.iload 6, 2) := by decide +kernel
theorem dX11_decider_145 : decode cX11_decider 145 = .ok (.ireturn, 1) := by decide +kernel
theorem dX11_isLet_0 : decode cX11_isLet 0 = .ok (.aload_n 0, 1) := by decide +kernel
theorem dX11_isLet_1 : decode cX11_isLet 1 = .ok (.iload_n 1, 1) := by decide +kernel
theorem dX11_isLet_2 : decode cX11_isLet 2 = .ok (.iload_n 2, 1) := by decide +kernel
theorem dX11_isLet_3 : decode cX11_isLet 3 = .ok (.iload_n 3, 1) := by decide +kernel
theorem dX11_isLet_4 : decode cX11_isLet 4 = .ok (.iload 4, 2) := by decide +kernel
theorem dX11_isLet_6 : decode cX11_isLet 6 = .ok (.iload 5, 2) := by decide +kernel
theorem dX11_isLet_8 : decode cX11_isLet 8 = .ok (.invokevirtual 299, 3) := by decide +kernel
theorem dX11_isLet_11 : decode cX11_isLet 11 = .ok (.istore 6, 2) := by decide +kernel
theorem dX11_isLet_13 : decode cX11_isLet 13 = .ok (.iload 6, 2) := by decide +kernel
theorem dX11_isLet_15 : decode cX11_isLet 15 = .ok (.iconst (-1), 1) := by decide +kernel
theorem dX11_isLet_16 : decode cX11_isLet 16 = .ok (.if_icmp .eq 17, 3) := by decide +kernel
theorem dX11_isLet_19 : decode cX11_isLet 19 = .ok (.aload_n 0, 1) := by decide +kernel
theorem dX11_isLet_20 : decode cX11_isLet 20 = .ok (.iload_n 1, 1) := by decide +kernel
theorem dX11_isLet_21 : decode cX11_isLet 21 = .ok (.iload 6, 2) := by decide +kernel
theorem dX11_isLet_23 : decode cX11_isLet 23 = .ok (.invokevirtual 295, 3) := by decide +kernel
theorem dX11_isLet_26 : decode cX11_isLet 26 = .ok (.ifCond .eq 7, 3) := by decide +kernel
theorem dX11_isLet_29 : decode cX11_isLet 29 = .ok (.iconst 1, 1) := by decide +kernel
theorem dX11_isLet_30 : decode cX11_isLet 30 = .ok (.goto 4, 3) := by decide +kernel
theorem dX11_isLet_33 : decode cX11_isLet 33 = .ok (.iconst 0, 1) := by decide +kernel
theorem dX11_isLet_34 : decode cX11_isLet 34 = .ok (.ireturn, 1) := by decide +kernel
theorem dX11_canAsk_0 : decode cX11_canAsk 0 = .ok (.aload_n 0, 1) := by decide +kernel
theorem dX11_canAsk_1 : decode cX11_canAsk 1 = .ok (.iload_n 1, 1) := by decide +kernel
theorem dX11_canAsk_2 : decode cX11_canAsk 2 = .ok (.invokevirtual 271, 3) := by decide +kernel
theorem dX11_canAsk_5 : decode cX11_canAsk 5 = .ok (.ifCond .eq 35, 3) := by decide +kernel
theorem dX11_canAsk_8 : decode cX11_canAsk 8 = .ok (.iload_n 2, 1) := by decide +kernel
theorem dX11_canAsk_9 : decode cX11_canAsk 9 = .ok (.iconst 0, 1) := by decide +kernel
theorem dX11_canAsk_10 : decode cX11_canAsk 10 = .ok (.iconst 3, 1) := by decide +kernel
theorem dX11_canAsk_11 : decode cX11_canAsk 11 = .ok (.invokestatic 108, 3) := by decide +kernel
theorem dX11_canAsk_14 : decode cX11_canAsk 14 = .ok (.ifCond .eq 26, 3) := by decide +kernel
theorem dX11_canAsk_17 : decode cX11_canAsk 17 = .ok (.aload_n 0, 1) := by decide +kernel
theorem dX11_canAsk_18 : decode cX11_canAsk 18 = .ok (.iload_n 3, 1) := by decide +kernel
theorem dX11_canAsk_19 : decode cX11_canAsk 19 = .ok (.invokevirtual 274, 3) := by decide +kernel
theorem dX11_canAsk_22 : decode cX11_canAsk 22 = .ok (.ifCond .eq 18, 3) := by decide +kernel
theorem dX11_canAsk_25 : decode cX11_canAsk 25 = .ok (.iload 4, 2) := by decide +kernel
theorem dX11_canAsk_27 : decode cX11_canAsk 27 = .ok (.iconst 0, 1) := by decide +kernel
theorem dX11_canAsk_28 : decode cX11_canAsk 28 = .ok (.bipush 23, 2) := by decide +kernel
theorem dX11_canAsk_30 : decode cX11_canAsk 30 = .ok (.invokestatic 108, 3) := by decide +kernel
theorem dX11_canAsk_33 : decode cX11_canAsk 33 = .ok (.ifCond .eq 7, 3) := by decide +kernel
theorem dX11_canAsk_36 : decode cX11_canAsk 36 = .ok (.iconst 1, 1) := by decide +kernel
theorem dX11_canAsk_37 : decode cX11_canAsk 37 = .ok (.goto 4, 3) := by decide +kernel
theorem dX11_canAsk_40 : decode cX11_canAsk 40 = .ok (.iconst 0, 1) := by decide +kernel
theorem dX11_canAsk_41 : decode cX11_canAsk 41 = .ok (.ireturn, 1) := by decide +kernel
theorem dX11_decide_0 : decode cX11_decide 0 = .ok (.aload_n 0, 1) := by decide +kernel
theorem dX11_decide_1 : decode cX11_decide 1 = .ok (.iconst 0, 1) := by decide +kernel
theorem dX11_decide_2 : decode cX11_decide 2 = .ok (.putfield 94, 3) := by decide +kernel
theorem dX11_decide_5 : decode cX11_decide 5 = .ok (.aload_n 0, 1) := by decide +kernel
theorem dX11_decide_6 : decode cX11_decide 6 = .ok (.iload_n 1, 1) := by decide +kernel
theorem dX11_decide_7 : decode cX11_decide 7 = .ok (.invokevirtual 259, 3) := by decide +kernel
theorem dX11_decide_10 : decode cX11_decide 10 = .ok (.ifCond .eq 16, 3) := by decide +kernel
theorem dX11_decide_13 : decode cX11_decide 13 = .ok (.aload_n 0, 1) := by decide +kernel
theorem dX11_decide_14 : decode cX11_decide 14 = .ok (.iload_n 2, 1) := by decide +kernel
theorem dX11_decide_15 : decode cX11_decide 15 = .ok (.iload_n 3, 1) := by decide +kernel
theorem dX11_decide_16 : decode cX11_decide 16 = .ok (.iload 4, 2) := by decide +kernel
theorem dX11_decide_18 : decode cX11_decide 18 = .ok (.iload 5, 2) := by decide +kernel
theorem dX11_decide_20 : decode cX11_decide 20 = .ok (.invokevirtual 303, 3) := by decide +kernel
theorem dX11_decide_23 : decode cX11_decide 23 = .ok (.ifCond .ne 6, 3) := by decide +kernel
theorem dX11_decide_26 : decode cX11_decide 26 = .ok (.bipush (-2), 2) := by decide +kernel
theorem dX11_decide_28 : decode cX11_decide 28 = .ok (.ireturn, 1) := by decide +kernel
theorem dX11_decide_29 : decode cX11_decide 29 = .ok (.aload_n 0, 1) := by decide +kernel
theorem dX11_decide_30 : decode cX11_decide 30 = .ok (.iconst 0, 1) := by decide +kernel
theorem dX11_decide_31 : decode cX11_decide 31 = .ok (.putfield 288, 3) := by decide +kernel
theorem dX11_decide_34 : decode cX11_decide 34 = .ok (.aload_n 0, 1) := by decide +kernel
theorem dX11_decide_35 : decode cX11_decide 35 = .ok (.iconst 0, 1) := by decide +kernel
theorem dX11_decide_36 : decode cX11_decide 36 = .ok (.putfield 285, 3) := by decide +kernel
theorem dX11_decide_39 : decode cX11_decide 39 = .ok (.iload 6, 2) := by decide +kernel
theorem dX11_decide_41 : decode cX11_decide 41 = .ok (.ifCond .eq 17, 3) := by decide +kernel
theorem dX11_decide_44 : decode cX11_decide 44 = .ok (.aload_n 0, 1) := by decide +kernel
theorem dX11_decide_45 : decode cX11_decide 45 = .ok (.iload_n 1, 1) := by decide +kernel
theorem dX11_decide_46 : decode cX11_decide 46 = .ok (.iload_n 2, 1) := by decide +kernel
theorem dX11_decide_47 : decode cX11_decide 47 = .ok (.iload_n 3, 1) := by decide +kernel
theorem dX11_decide_48 : decode cX11_decide 48 = .ok (.iload 4, 2) := by decide +kernel
theorem dX11_decide_50 : decode cX11_decide 50 = .ok (.iload 5, 2) := by decide +kernel
theorem dX11_decide_52 : decode cX11_decide 52 = .ok (.invokevirtual 299, 3) := by decide +kernel
theorem dX11_decide_55 : decode cX11_decide 55 = .ok (.goto 22, 3) := by decide +kernel
theorem dX11_decide_58 : decode cX11_decide 58 = .ok (.aload_n 0, 1) := by decide +kernel
theorem dX11_decide_59 : decode cX11_decide 59 = .ok (.iload_n 1, 1) := by decide +kernel
theorem dX11_decide_60 : decode cX11_decide 60 = .ok (.iload_n 2, 1) := by decide +kernel
theorem dX11_decide_61 : decode cX11_decide 61 = .ok (.iload_n 3, 1) := by decide +kernel
theorem dX11_decide_62 : decode cX11_decide 62 = .ok (.iload 4, 2) := by decide +kernel
theorem dX11_decide_64 : decode cX11_decide 64 = .ok (.iload 5, 2) := by decide +kernel
theorem dX11_decide_66 : decode cX11_decide 66 = .ok (.invokevirtual 307, 3) := by decide +kernel
theorem dX11_decide_69 : decode cX11_decide 69 = .ok (.ifCond .eq 7, 3) := by decide +kernel
theorem dX11_decide_72 : decode cX11_decide 72 = .ok (.iconst 1, 1) := by decide +kernel
theorem dX11_decide_73 : decode cX11_decide 73 = .ok (.goto 4, 3) := by decide +kernel
theorem dX11_decide_76 : decode cX11_decide 76 = .ok (.iconst 0, 1) := by decide +kernel
theorem dX11_decide_77 : decode cX11_decide 77 = .ok (.ireturn, 1) := by decide +kernel
theorem dX11_ask_0 : decode cX11_ask 0 = .ok (.aload_n 0, 1) := by decide +kernel
theorem dX11_ask_1 : decode cX11_ask 1 = .ok (.iconst 0, 1) := by decide +kernel
theorem dX11_ask_2 : decode cX11_ask 2 = .ok (.putfield 94, 3) := by decide +kernel
theorem dX11_ask_5 : decode cX11_ask 5 = .ok (.aload_n 0, 1) := by decide +kernel
theorem dX11_ask_6 : decode cX11_ask 6 = .ok (.iload_n 1, 1) := by decide +kernel
theorem dX11_ask_7 : decode cX11_ask 7 = .ok (.iload_n 2, 1) := by decide +kernel
theorem dX11_ask_8 : decode cX11_ask 8 = .ok (.iload_n 3, 1) := by decide +kernel
theorem dX11_ask_9 : decode cX11_ask 9 = .ok (.iload 4, 2) := by decide +kernel
theorem dX11_ask_11 : decode cX11_ask 11 = .ok (.invokevirtual 303, 3) := by decide +kernel
theorem dX11_ask_14 : decode cX11_ask 14 = .ok (.ifCond .eq 15, 3) := by decide +kernel
theorem dX11_ask_17 : decode cX11_ask 17 = .ok (.aload_n 0, 1) := by decide +kernel
theorem dX11_ask_18 : decode cX11_ask 18 = .ok (.getfield 35, 3) := by decide +kernel
theorem dX11_ask_21 : decode cX11_ask 21 = .ok (.iconst 0, 1) := by decide +kernel
theorem dX11_ask_22 : decode cX11_ask 22 = .ok (.iaload, 1) := by decide +kernel
theorem dX11_ask_23 : decode cX11_ask 23 = .ok (.sipush 200, 3) := by decide +kernel
theorem dX11_ask_26 : decode cX11_ask 26 = .ok (.if_icmp .ne 5, 3) := by decide +kernel
theorem dX11_ask_29 : decode cX11_ask 29 = .ok (.iconst (-1), 1) := by decide +kernel
theorem dX11_ask_30 : decode cX11_ask 30 = .ok (.ireturn, 1) := by decide +kernel
theorem dX11_ask_31 : decode cX11_ask 31 = .ok (.iconst 4, 1) := by decide +kernel
theorem dX11_ask_32 : decode cX11_ask 32 = .ok (.aload_n 0, 1) := by decide +kernel
theorem dX11_ask_33 : decode cX11_ask 33 = .ok (.getfield 35, 3) := by decide +kernel
theorem dX11_ask_36 : decode cX11_ask 36 = .ok (.iconst 0, 1) := by decide +kernel
theorem dX11_ask_37 : decode cX11_ask 37 = .ok (.iaload, 1) := by decide +kernel
theorem dX11_ask_38 : decode cX11_ask 38 = .ok (.imul, 1) := by decide +kernel
theorem dX11_ask_39 : decode cX11_ask 39 = .ok (.istore 5, 2) := by decide +kernel
theorem dX11_ask_41 : decode cX11_ask 41 = .ok (.aload_n 0, 1) := by decide +kernel
theorem dX11_ask_42 : decode cX11_ask 42 = .ok (.getfield 38, 3) := by decide +kernel
theorem dX11_ask_45 : decode cX11_ask 45 = .ok (.iload 5, 2) := by decide +kernel
theorem dX11_ask_47 : decode cX11_ask 47 = .ok (.iload_n 1, 1) := by decide +kernel
theorem dX11_ask_48 : decode cX11_ask 48 = .ok (.iastore, 1) := by decide +kernel
theorem dX11_ask_49 : decode cX11_ask 49 = .ok (.aload_n 0, 1) := by decide +kernel
theorem dX11_ask_50 : decode cX11_ask 50 = .ok (.getfield 38, 3) := by decide +kernel
theorem dX11_ask_53 : decode cX11_ask 53 = .ok (.iload 5, 2) := by decide +kernel
theorem dX11_ask_55 : decode cX11_ask 55 = .ok (.iconst 1, 1) := by decide +kernel
theorem dX11_ask_56 : decode cX11_ask 56 = .ok (.iadd, 1) := by decide +kernel
theorem dX11_ask_57 : decode cX11_ask 57 = .ok (.iload_n 2, 1) := by decide +kernel
theorem dX11_ask_58 : decode cX11_ask 58 = .ok (.iastore, 1) := by decide +kernel
theorem dX11_ask_59 : decode cX11_ask 59 = .ok (.aload_n 0, 1) := by decide +kernel
theorem dX11_ask_60 : decode cX11_ask 60 = .ok (.getfield 38, 3) := by decide +kernel
theorem dX11_ask_63 : decode cX11_ask 63 = .ok (.iload 5, 2) := by decide +kernel
theorem dX11_ask_65 : decode cX11_ask 65 = .ok (.iconst 2, 1) := by decide +kernel
theorem dX11_ask_66 : decode cX11_ask 66 = .ok (.iadd, 1) := by decide +kernel
theorem dX11_ask_67 : decode cX11_ask 67 = .ok (.iload_n 3, 1) := by decide +kernel
theorem dX11_ask_68 : decode cX11_ask 68 = .ok (.iastore, 1) := by decide +kernel
theorem dX11_ask_69 : decode cX11_ask 69 = .ok (.aload_n 0, 1) := by decide +kernel
theorem dX11_ask_70 : decode cX11_ask 70 = .ok (.getfield 38, 3) := by decide +kernel
theorem dX11_ask_73 : decode cX11_ask 73 = .ok (.iload 5, 2) := by decide +kernel
theorem dX11_ask_75 : decode cX11_ask 75 = .ok (.iconst 3, 1) := by decide +kernel
theorem dX11_ask_76 : decode cX11_ask 76 = .ok (.iadd, 1) := by decide +kernel
theorem dX11_ask_77 : decode cX11_ask 77 = .ok (.iload 4, 2) := by decide +kernel
theorem dX11_ask_79 : decode cX11_ask 79 = .ok (.iastore, 1) := by decide +kernel
theorem dX11_ask_80 : decode cX11_ask 80 = .ok (.aload_n 0, 1) := by decide +kernel
theorem dX11_ask_81 : decode cX11_ask 81 = .ok (.getfield 41, 3) := by decide +kernel
theorem dX11_ask_84 : decode cX11_ask 84 = .ok (.aload_n 0, 1) := by decide +kernel
theorem dX11_ask_85 : decode cX11_ask 85 = .ok (.getfield 35, 3) := by decide +kernel
theorem dX11_ask_88 : decode cX11_ask 88 = .ok (.iconst 0, 1) := by decide +kernel
theorem dX11_ask_89 : decode cX11_ask 89 = .ok (.iaload, 1) := by decide +kernel
theorem dX11_ask_90 : decode cX11_ask 90 = .ok (.iconst (-1), 1) := by decide +kernel
theorem dX11_ask_91 : decode cX11_ask 91 = .ok (.iastore, 1) := by decide +kernel
theorem dX11_ask_92 : decode cX11_ask 92 = .ok (.aload_n 0, 1) := by decide +kernel
theorem dX11_ask_93 : decode cX11_ask 93 = .ok (.getfield 35, 3) := by decide +kernel
theorem dX11_ask_96 : decode cX11_ask 96 = .ok (.iconst 0, 1) := by decide +kernel
theorem dX11_ask_97 : decode cX11_ask 97 = .ok (.dup2, 1) := by decide +kernel
theorem dX11_ask_98 : decode cX11_ask 98 = .ok (.iaload, 1) := by decide +kernel
theorem dX11_ask_99 : decode cX11_ask 99 = .ok (.iconst 1, 1) := by decide +kernel
theorem dX11_ask_100 : decode cX11_ask 100 = .ok (.iadd, 1) := by decide +kernel
theorem dX11_ask_101 : decode cX11_ask 101 = .ok (.iastore, 1) := by decide +kernel
theorem dX11_ask_102 : decode cX11_ask 102 = .ok (.aload_n 0, 1) := by decide +kernel
theorem dX11_ask_103 : decode cX11_ask 103 = .ok (.getfield 35, 3) := by decide +kernel
theorem dX11_ask_106 : decode cX11_ask 106 = .ok (.iconst 0, 1) := by decide +kernel
theorem dX11_ask_107 : decode cX11_ask 107 = .ok (.iaload, 1) := by decide +kernel
theorem dX11_ask_108 : decode cX11_ask 108 = .ok (.iconst 1, 1) := by decide +kernel
theorem dX11_ask_109 : decode cX11_ask 109 = .ok (.isub, 1) := by decide +kernel
theorem dX11_ask_110 : decode cX11_ask 110 = .ok (.ireturn, 1) := by decide +kernel
theorem dX11_mark_0 : decode cX11_mark 0 = .ok (.aload_n 0, 1) := by decide +kernel
theorem dX11_mark_1 : decode cX11_mark 1 = .ok (.iconst 0, 1) := by decide +kernel
theorem dX11_mark_2 : decode cX11_mark 2 = .ok (.putfield 94, 3) := by decide +kernel
theorem dX11_mark_5 : decode cX11_mark 5 = .ok (.iload_n 1, 1) := by decide +kernel
theorem dX11_mark_6 : decode cX11_mark 6 = .ok (.iconst 0, 1) := by decide +kernel
theorem dX11_mark_7 : decode cX11_mark 7 = .ok (.aload_n 0, 1) := by decide +kernel
theorem dX11_mark_8 : decode cX11_mark 8 = .ok (.getfield 35, 3) := by decide +kernel
theorem dX11_mark_11 : decode cX11_mark 11 = .ok (.iconst 0, 1) := by decide +kernel
theorem dX11_mark_12 : decode cX11_mark 12 = .ok (.iaload, 1) := by decide +kernel
theorem dX11_mark_13 : decode cX11_mark 13 = .ok (.iconst 1, 1) := by decide +kernel
theorem dX11_mark_14 : decode cX11_mark 14 = .ok (.isub, 1) := by decide +kernel
theorem dX11_mark_15 : decode cX11_mark 15 = .ok (.invokestatic 108, 3) := by decide +kernel
theorem dX11_mark_18 : decode cX11_mark 18 = .ok (.ifCond .eq 12, 3) := by decide +kernel
theorem dX11_mark_21 : decode cX11_mark 21 = .ok (.iload_n 2, 1) := by decide +kernel
theorem dX11_mark_22 : decode cX11_mark 22 = .ok (.iconst (-1), 1) := by decide +kernel
theorem dX11_mark_23 : decode cX11_mark 23 = .ok (.iconst 1, 1) := by decide +kernel
theorem dX11_mark_24 : decode cX11_mark 24 = .ok (.invokestatic 108, 3) := by decide +kernel
theorem dX11_mark_27 : decode cX11_mark 27 = .ok (.ifCond .ne 5, 3) := by decide +kernel
theorem dX11_mark_30 : decode cX11_mark 30 = .ok (.iconst 0, 1) := by decide +kernel
theorem dX11_mark_31 : decode cX11_mark 31 = .ok (.ireturn, 1) := by decide +kernel
theorem dX11_mark_32 : decode cX11_mark 32 = .ok (.aload_n 0, 1) := by decide +kernel
theorem dX11_mark_33 : decode cX11_mark 33 = .ok (.getfield 41, 3) := by decide +kernel
theorem dX11_mark_36 : decode cX11_mark 36 = .ok (.iload_n 1, 1) := by decide +kernel
theorem dX11_mark_37 : decode cX11_mark 37 = .ok (.iload_n 2, 1) := by decide +kernel
theorem dX11_mark_38 : decode cX11_mark 38 = .ok (.iastore, 1) := by decide +kernel
theorem dX11_mark_39 : decode cX11_mark 39 = .ok (.iconst 1, 1) := by decide +kernel
theorem dX11_mark_40 : decode cX11_mark 40 = .ok (.ireturn, 1) := by decide +kernel
theorem dX11_book_0 : decode cX11_book 0 = .ok (.aload_n 0, 1) := by decide +kernel
theorem dX11_book_1 : decode cX11_book 1 = .ok (.iconst 0, 1) := by decide +kernel
theorem dX11_book_2 : decode cX11_book 2 = .ok (.putfield 94, 3) := by decide +kernel
theorem dX11_book_5 : decode cX11_book 5 = .ok (.iload_n 1, 1) := by decide +kernel
theorem dX11_book_6 : decode cX11_book 6 = .ok (.iconst 0, 1) := by decide +kernel
theorem dX11_book_7 : decode cX11_book 7 = .ok (.aload_n 0, 1) := by decide +kernel
theorem dX11_book_8 : decode cX11_book 8 = .ok (.getfield 35, 3) := by decide +kernel
theorem dX11_book_11 : decode cX11_book 11 = .ok (.iconst 0, 1) := by decide +kernel
theorem dX11_book_12 : decode cX11_book 12 = .ok (.iaload, 1) := by decide +kernel
theorem dX11_book_13 : decode cX11_book 13 = .ok (.iconst 1, 1) := by decide +kernel
theorem dX11_book_14 : decode cX11_book 14 = .ok (.isub, 1) := by decide +kernel
theorem dX11_book_15 : decode cX11_book 15 = .ok (.invokestatic 108, 3) := by decide +kernel
theorem dX11_book_18 : decode cX11_book 18 = .ok (.ifCond .ne 5, 3) := by decide +kernel
theorem dX11_book_21 : decode cX11_book 21 = .ok (.iconst (-1), 1) := by decide +kernel
theorem dX11_book_22 : decode cX11_book 22 = .ok (.ireturn, 1) := by decide +kernel
theorem dX11_book_23 : decode cX11_book 23 = .ok (.iload_n 2, 1) := by decide +kernel
theorem dX11_book_24 : decode cX11_book 24 = .ok (.iconst 4, 1) := by decide +kernel
theorem dX11_book_25 : decode cX11_book 25 = .ok (.if_icmp .ne 12, 3) := by decide +kernel
theorem dX11_book_28 : decode cX11_book 28 = .ok (.aload_n 0, 1) := by decide +kernel
theorem dX11_book_29 : decode cX11_book 29 = .ok (.getfield 41, 3) := by decide +kernel
theorem dX11_book_32 : decode cX11_book 32 = .ok (.iload_n 1, 1) := by decide +kernel
theorem dX11_book_33 : decode cX11_book 33 = .ok (.iaload, 1) := by decide +kernel
theorem dX11_book_34 : decode cX11_book 34 = .ok (.goto 26, 3) := by decide +kernel
theorem dX11_book_37 : decode cX11_book 37 = .ok (.iload_n 2, 1) := by decide +kernel
theorem dX11_book_38 : decode cX11_book 38 = .ok (.iconst 0, 1) := by decide +kernel
theorem dX11_book_39 : decode cX11_book 39 = .ok (.iconst 3, 1) := by decide +kernel
theorem dX11_book_40 : decode cX11_book 40 = .ok (.invokestatic 108, 3) := by decide +kernel
theorem dX11_book_43 : decode cX11_book 43 = .ok (.ifCond .eq 16, 3) := by decide +kernel
theorem dX11_book_46 : decode cX11_book 46 = .ok (.aload_n 0, 1) := by decide +kernel
theorem dX11_book_47 : decode cX11_book 47 = .ok (.getfield 38, 3) := by decide +kernel
theorem dX11_book_50 : decode cX11_book 50 = .ok (.iconst 4, 1) := by decide +kernel
theorem dX11_book_51 : decode cX11_book 51 = .ok (.iload_n 1, 1) := by decide +kernel
theorem dX11_book_52 : decode cX11_book 52 = .ok (.imul, 1) := by decide +kernel
theorem dX11_book_53 : decode cX11_book 53 = .ok (.iload_n 2, 1) := by decide +kernel
theorem dX11_book_54 : decode cX11_book 54 = .ok (.iadd, 1) := by decide +kernel
theorem dX11_book_55 : decode cX11_book 55 = .ok (.iaload, 1) := by decide +kernel
theorem dX11_book_56 : decode cX11_book 56 = .ok (.goto 4, 3) := by decide +kernel
theorem dX11_book_59 : decode cX11_book 59 = .ok (.iconst (-1), 1) := by decide +kernel
theorem dX11_book_60 : decode cX11_book 60 = .ok (.ireturn, 1) := by decide +kernel
theorem dX11_isAskLet_0 : decode cX11_isAskLet 0 = .ok (.aload_n 0, 1) := by decide +kernel
theorem dX11_isAskLet_1 : decode cX11_isAskLet 1 = .ok (.iload_n 1, 1) := by decide +kernel
theorem dX11_isAskLet_2 : decode cX11_isAskLet 2 = .ok (.aload_n 0, 1) := by decide +kernel
theorem dX11_isAskLet_3 : decode cX11_isAskLet 3 = .ok (.getfield 38, 3) := by decide +kernel
theorem dX11_isAskLet_6 : decode cX11_isAskLet 6 = .ok (.iconst 4, 1) := by decide +kernel
theorem dX11_isAskLet_7 : decode cX11_isAskLet 7 = .ok (.iload_n 2, 1) := by decide +kernel
theorem dX11_isAskLet_8 : decode cX11_isAskLet 8 = .ok (.imul, 1) := by decide +kernel
theorem dX11_isAskLet_9 : decode cX11_isAskLet 9 = .ok (.iaload, 1) := by decide +kernel
theorem dX11_isAskLet_10 : decode cX11_isAskLet 10 = .ok (.aload_n 0, 1) := by decide +kernel
theorem dX11_isAskLet_11 : decode cX11_isAskLet 11 = .ok (.getfield 38, 3) := by decide +kernel
theorem dX11_isAskLet_14 : decode cX11_isAskLet 14 = .ok (.iconst 4, 1) := by decide +kernel
theorem dX11_isAskLet_15 : decode cX11_isAskLet 15 = .ok (.iload_n 2, 1) := by decide +kernel
theorem dX11_isAskLet_16 : decode cX11_isAskLet 16 = .ok (.imul, 1) := by decide +kernel
theorem dX11_isAskLet_17 : decode cX11_isAskLet 17 = .ok (.iconst 1, 1) := by decide +kernel
theorem dX11_isAskLet_18 : decode cX11_isAskLet 18 = .ok (.iadd, 1) := by decide +kernel
theorem dX11_isAskLet_19 : decode cX11_isAskLet 19 = .ok (.iaload, 1) := by decide +kernel
theorem dX11_isAskLet_20 : decode cX11_isAskLet 20 = .ok (.aload_n 0, 1) := by decide +kernel
theorem dX11_isAskLet_21 : decode cX11_isAskLet 21 = .ok (.getfield 38, 3) := by decide +kernel
theorem dX11_isAskLet_24 : decode cX11_isAskLet 24 = .ok (.iconst 4, 1) := by decide +kernel
theorem dX11_isAskLet_25 : decode cX11_isAskLet 25 = .ok (.iload_n 2, 1) := by decide +kernel
theorem dX11_isAskLet_26 : decode cX11_isAskLet 26 = .ok (.imul, 1) := by decide +kernel
theorem dX11_isAskLet_27 : decode cX11_isAskLet 27 = .ok (.iconst 2, 1) := by decide +kernel
theorem dX11_isAskLet_28 : decode cX11_isAskLet 28 = .ok (.iadd, 1) := by decide +kernel
theorem dX11_isAskLet_29 : decode cX11_isAskLet 29 = .ok (.iaload, 1) := by decide +kernel
theorem dX11_isAskLet_30 : decode cX11_isAskLet 30 = .ok (.aload_n 0, 1) := by decide +kernel
theorem dX11_isAskLet_31 : decode cX11_isAskLet 31 = .ok (.getfield 38, 3) := by decide +kernel
theorem dX11_isAskLet_34 : decode cX11_isAskLet 34 = .ok (.iconst 4, 1) := by decide +kernel
theorem dX11_isAskLet_35 : decode cX11_isAskLet 35 = .ok (.iload_n 2, 1) := by decide +kernel
theorem dX11_isAskLet_36 : decode cX11_isAskLet 36 = .ok (.imul, 1) := by decide +kernel
theorem dX11_isAskLet_37 : decode cX11_isAskLet 37 = .ok (.iconst 3, 1) := by decide +kernel
theorem dX11_isAskLet_38 : decode cX11_isAskLet 38 = .ok (.iadd, 1) := by decide +kernel
theorem dX11_isAskLet_39 : decode cX11_isAskLet 39 = .ok (.iaload, 1) := by decide +kernel
theorem dX11_isAskLet_40 : decode cX11_isAskLet 40 = .ok (.invokevirtual 307, 3) := by decide +kernel
theorem dX11_isAskLet_43 : decode cX11_isAskLet 43 = .ok (.ireturn, 1) := by decide +kernel
theorem dX11_tried_0 : decode cX11_tried 0 = .ok (.aload_n 0, 1) := by decide +kernel
theorem dX11_tried_1 : decode cX11_tried 1 = .ok (.iconst 0, 1) := by decide +kernel
theorem dX11_tried_2 : decode cX11_tried 2 = .ok (.putfield 94, 3) := by decide +kernel
theorem dX11_tried_5 : decode cX11_tried 5 = .ok (.aload_n 0, 1) := by decide +kernel
theorem dX11_tried_6 : decode cX11_tried 6 = .ok (.iload_n 1, 1) := by decide +kernel
theorem dX11_tried_7 : decode cX11_tried 7 = .ok (.invokevirtual 259, 3) := by decide +kernel
theorem dX11_tried_10 : decode cX11_tried 10 = .ok (.ifCond .ne 5, 3) := by decide +kernel
theorem dX11_tried_13 : decode cX11_tried 13 = .ok (.iconst (-1), 1) := by decide +kernel
theorem dX11_tried_14 : decode cX11_tried 14 = .ok (.ireturn, 1) := by decide +kernel
theorem dX11_tried_15 : decode cX11_tried 15 = .ok (.aload_n 0, 1) := by decide +kernel
theorem dX11_tried_16 : decode cX11_tried 16 = .ok (.iconst 0, 1) := by decide +kernel
theorem dX11_tried_17 : decode cX11_tried 17 = .ok (.putfield 288, 3) := by decide +kernel
theorem dX11_tried_20 : decode cX11_tried 20 = .ok (.aload_n 0, 1) := by decide +kernel
theorem dX11_tried_21 : decode cX11_tried 21 = .ok (.iconst 0, 1) := by decide +kernel
theorem dX11_tried_22 : decode cX11_tried 22 = .ok (.putfield 285, 3) := by decide +kernel
theorem dX11_tried_25 : decode cX11_tried 25 = .ok (.iconst 0, 1) := by decide +kernel
theorem dX11_tried_26 : decode cX11_tried 26 = .ok (.istore_n 2, 1) := by decide +kernel
theorem dX11_tried_27 : decode cX11_tried 27 = .ok (.iconst 0, 1) := by decide +kernel
theorem dX11_tried_28 : decode cX11_tried 28 = .ok (.istore_n 3, 1) := by decide +kernel
theorem dX11_tried_29 : decode cX11_tried 29 = .ok (.iload_n 3, 1) := by decide +kernel
theorem dX11_tried_30 : decode cX11_tried 30 = .ok (.aload_n 0, 1) := by decide +kernel
theorem dX11_tried_31 : decode cX11_tried 31 = .ok (.getfield 35, 3) := by decide +kernel
theorem dX11_tried_34 : decode cX11_tried 34 = .ok (.iconst 0, 1) := by decide +kernel
theorem dX11_tried_35 : decode cX11_tried 35 = .ok (.iaload, 1) := by decide +kernel
theorem dX11_tried_36 : decode cX11_tried 36 = .ok (.if_icmp .ge 26, 3) := by decide +kernel
theorem dX11_tried_39 : decode cX11_tried 39 = .ok (.iload_n 2, 1) := by decide +kernel
theorem dX11_tried_40 : decode cX11_tried 40 = .ok (.aload_n 0, 1) := by decide +kernel
theorem dX11_tried_41 : decode cX11_tried 41 = .ok (.iload_n 1, 1) := by decide +kernel
theorem dX11_tried_42 : decode cX11_tried 42 = .ok (.iload_n 3, 1) := by decide +kernel
theorem dX11_tried_43 : decode cX11_tried 43 = .ok (.invokevirtual 310, 3) := by decide +kernel
theorem dX11_tried_46 : decode cX11_tried 46 = .ok (.ifCond .eq 7, 3) := by decide +kernel
theorem dX11_tried_49 : decode cX11_tried 49 = .ok (.iconst 1, 1) := by decide +kernel
theorem dX11_tried_50 : decode cX11_tried 50 = .ok (.goto 4, 3) := by decide +kernel
theorem dX11_tried_53 : decode cX11_tried 53 = .ok (.iconst 0, 1) := by decide +kernel
theorem dX11_tried_54 : decode cX11_tried 54 = .ok (.iadd, 1) := by decide +kernel
theorem dX11_tried_55 : decode cX11_tried 55 = .ok (.istore_n 2, 1) := by decide +kernel
theorem dX11_tried_56 : decode cX11_tried 56 = .ok (.iinc 3 1, 3) := by decide +kernel
theorem dX11_tried_59 : decode cX11_tried 59 = .ok (.goto (-30), 3) := by decide +kernel
theorem dX11_tried_62 : decode cX11_tried 62 = .ok (.iload_n 2, 1) := by decide +kernel
theorem dX11_tried_63 : decode cX11_tried 63 = .ok (.ireturn, 1) := by decide +kernel
theorem dX11_decides_0 : decode cX11_decides 0 = .ok (.aload_n 0, 1) := by decide +kernel
theorem dX11_decides_1 : decode cX11_decides 1 = .ok (.iconst 0, 1) := by decide +kernel
theorem dX11_decides_2 : decode cX11_decides 2 = .ok (.putfield 94, 3) := by decide +kernel
theorem dX11_decides_5 : decode cX11_decides 5 = .ok (.aload_n 0, 1) := by decide +kernel
theorem dX11_decides_6 : decode cX11_decides 6 = .ok (.iload_n 1, 1) := by decide +kernel
theorem dX11_decides_7 : decode cX11_decides 7 = .ok (.iload_n 2, 1) := by decide +kernel
theorem dX11_decides_8 : decode cX11_decides 8 = .ok (.invokevirtual 313, 3) := by decide +kernel
theorem dX11_decides_11 : decode cX11_decides 11 = .ok (.ifCond .ne 5, 3) := by decide +kernel
theorem dX11_decides_14 : decode cX11_decides 14 = .ok (.iconst (-1), 1) := by decide +kernel
theorem dX11_decides_15 : decode cX11_decides 15 = .ok (.ireturn, 1) := by decide +kernel
theorem dX11_decides_16 : decode cX11_decides 16 = .ok (.aload_n 0, 1) := by decide +kernel
theorem dX11_decides_17 : decode cX11_decides 17 = .ok (.iconst 0, 1) := by decide +kernel
theorem dX11_decides_18 : decode cX11_decides 18 = .ok (.putfield 288, 3) := by decide +kernel
theorem dX11_decides_21 : decode cX11_decides 21 = .ok (.aload_n 0, 1) := by decide +kernel
theorem dX11_decides_22 : decode cX11_decides 22 = .ok (.iconst 0, 1) := by decide +kernel
theorem dX11_decides_23 : decode cX11_decides 23 = .ok (.putfield 285, 3) := by decide +kernel
theorem dX11_decides_26 : decode cX11_decides 26 = .ok (.iconst 0, 1) := by decide +kernel
theorem dX11_decides_27 : decode cX11_decides 27 = .ok (.istore_n 3, 1) := by decide +kernel
theorem dX11_decides_28 : decode cX11_decides 28 = .ok (.iconst 0, 1) := by decide +kernel
theorem dX11_decides_29 : decode cX11_decides 29 = .ok (.istore 4, 2) := by decide +kernel
theorem dX11_decides_31 : decode cX11_decides 31 = .ok (.iload 4, 2) := by decide +kernel
theorem dX11_decides_33 : decode cX11_decides 33 = .ok (.aload_n 0, 1) := by decide +kernel
theorem dX11_decides_34 : decode cX11_decides 34 = .ok (.getfield 35, 3) := by decide +kernel
theorem dX11_decides_37 : decode cX11_decides 37 = .ok (.iconst 0, 1) := by decide +kernel
theorem dX11_decides_38 : decode cX11_decides 38 = .ok (.iaload, 1) := by decide +kernel
theorem dX11_decides_39 : decode cX11_decides 39 = .ok (.if_icmp .ge 68, 3) := by decide +kernel
theorem dX11_decides_42 : decode cX11_decides 42 = .ok (.iload_n 3, 1) := by decide +kernel
theorem dX11_decides_43 : decode cX11_decides 43 = .ok (.aload_n 0, 1) := by decide +kernel
theorem dX11_decides_44 : decode cX11_decides 44 = .ok (.iload_n 1, 1) := by decide +kernel
theorem dX11_decides_45 : decode cX11_decides 45 = .ok (.aload_n 0, 1) := by decide +kernel
theorem dX11_decides_46 : decode cX11_decides 46 = .ok (.getfield 38, 3) := by decide +kernel
theorem dX11_decides_49 : decode cX11_decides 49 = .ok (.iconst 4, 1) := by decide +kernel
theorem dX11_decides_50 : decode cX11_decides 50 = .ok (.iload 4, 2) := by decide +kernel
theorem dX11_decides_52 : decode cX11_decides 52 = .ok (.imul, 1) := by decide +kernel
theorem dX11_decides_53 : decode cX11_decides 53 = .ok (.iaload, 1) := by decide +kernel
theorem dX11_decides_54 : decode cX11_decides 54 = .ok (.aload_n 0, 1) := by decide +kernel
theorem dX11_decides_55 : decode cX11_decides 55 = .ok (.getfield 38, 3) := by decide +kernel
theorem dX11_decides_58 : decode cX11_decides 58 = .ok (.iconst 4, 1) := by decide +kernel
theorem dX11_decides_59 : decode cX11_decides 59 = .ok (.iload 4, 2) := by decide +kernel
theorem dX11_decides_61 : decode cX11_decides 61 = .ok (.imul, 1) := by decide +kernel
theorem dX11_decides_62 : decode cX11_decides 62 = .ok (.iconst 1, 1) := by decide +kernel
theorem dX11_decides_63 : decode cX11_decides 63 = .ok (.iadd, 1) := by decide +kernel
theorem dX11_decides_64 : decode cX11_decides 64 = .ok (.iaload, 1) := by decide +kernel
theorem dX11_decides_65 : decode cX11_decides 65 = .ok (.aload_n 0, 1) := by decide +kernel
theorem dX11_decides_66 : decode cX11_decides 66 = .ok (.getfield 38, 3) := by decide +kernel
theorem dX11_decides_69 : decode cX11_decides 69 = .ok (.iconst 4, 1) := by decide +kernel
theorem dX11_decides_70 : decode cX11_decides 70 = .ok (.iload 4, 2) := by decide +kernel
theorem dX11_decides_72 : decode cX11_decides 72 = .ok (.imul, 1) := by decide +kernel
theorem dX11_decides_73 : decode cX11_decides 73 = .ok (.iconst 2, 1) := by decide +kernel
theorem dX11_decides_74 : decode cX11_decides 74 = .ok (.iadd, 1) := by decide +kernel
theorem dX11_decides_75 : decode cX11_decides 75 = .ok (.iaload, 1) := by decide +kernel
theorem dX11_decides_76 : decode cX11_decides 76 = .ok (.aload_n 0, 1) := by decide +kernel
theorem dX11_decides_77 : decode cX11_decides 77 = .ok (.getfield 38, 3) := by decide +kernel
theorem dX11_decides_80 : decode cX11_decides 80 = .ok (.iconst 4, 1) := by decide +kernel
theorem dX11_decides_81 : decode cX11_decides 81 = .ok (.iload 4, 2) := by decide +kernel
theorem dX11_decides_83 : decode cX11_decides 83 = .ok (.imul, 1) := by decide +kernel
theorem dX11_decides_84 : decode cX11_decides 84 = .ok (.iconst 3, 1) := by decide +kernel
theorem dX11_decides_85 : decode cX11_decides 85 = .ok (.iadd, 1) := by decide +kernel
theorem dX11_decides_86 : decode cX11_decides 86 = .ok (.iaload, 1) := by decide +kernel
theorem dX11_decides_87 : decode cX11_decides 87 = .ok (.invokevirtual 299, 3) := by decide +kernel
theorem dX11_decides_90 : decode cX11_decides 90 = .ok (.iload_n 2, 1) := by decide +kernel
theorem dX11_decides_91 : decode cX11_decides 91 = .ok (.if_icmp .ne 7, 3) := by decide +kernel
theorem dX11_decides_94 : decode cX11_decides 94 = .ok (.iconst 1, 1) := by decide +kernel
theorem dX11_decides_95 : decode cX11_decides 95 = .ok (.goto 4, 3) := by decide +kernel
theorem dX11_decides_98 : decode cX11_decides 98 = .ok (.iconst 0, 1) := by decide +kernel
theorem dX11_decides_99 : decode cX11_decides 99 = .ok (.iadd, 1) := by decide +kernel
theorem dX11_decides_100 : decode cX11_decides 100 = .ok (.istore_n 3, 1) := by decide +kernel
theorem dX11_decides_101 : decode cX11_decides 101 = .ok (.iinc 4 1, 3) := by decide +kernel
theorem dX11_decides_104 : decode cX11_decides 104 = .ok (.goto (-73), 3) := by decide +kernel
theorem dX11_decides_107 : decode cX11_decides 107 = .ok (.iload_n 3, 1) := by decide +kernel
theorem dX11_decides_108 : decode cX11_decides 108 = .ok (.ireturn, 1) := by decide +kernel
theorem dX11_lost_0 : decode cX11_lost 0 = .ok (.aload_n 0, 1) := by decide +kernel
theorem dX11_lost_1 : decode cX11_lost 1 = .ok (.iconst 0, 1) := by decide +kernel
theorem dX11_lost_2 : decode cX11_lost 2 = .ok (.putfield 94, 3) := by decide +kernel
theorem dX11_lost_5 : decode cX11_lost 5 = .ok (.aload_n 0, 1) := by decide +kernel
theorem dX11_lost_6 : decode cX11_lost 6 = .ok (.iload_n 1, 1) := by decide +kernel
theorem dX11_lost_7 : decode cX11_lost 7 = .ok (.invokevirtual 259, 3) := by decide +kernel
theorem dX11_lost_10 : decode cX11_lost 10 = .ok (.ifCond .eq 15, 3) := by decide +kernel
theorem dX11_lost_13 : decode cX11_lost 13 = .ok (.aload_n 0, 1) := by decide +kernel
theorem dX11_lost_14 : decode cX11_lost 14 = .ok (.iload_n 2, 1) := by decide +kernel
theorem dX11_lost_15 : decode cX11_lost 15 = .ok (.invokevirtual 259, 3) := by decide +kernel
theorem dX11_lost_18 : decode cX11_lost 18 = .ok (.ifCond .eq 7, 3) := by decide +kernel
theorem dX11_lost_21 : decode cX11_lost 21 = .ok (.iload_n 3, 1) := by decide +kernel
theorem dX11_lost_22 : decode cX11_lost 22 = .ok (.ifCond .ge 5, 3) := by decide +kernel
theorem dX11_lost_25 : decode cX11_lost 25 = .ok (.iconst (-1), 1) := by decide +kernel
theorem dX11_lost_26 : decode cX11_lost 26 = .ok (.ireturn, 1) := by decide +kernel
theorem dX11_lost_27 : decode cX11_lost 27 = .ok (.aload_n 0, 1) := by decide +kernel
theorem dX11_lost_28 : decode cX11_lost 28 = .ok (.iconst 0, 1) := by decide +kernel
theorem dX11_lost_29 : decode cX11_lost 29 = .ok (.putfield 288, 3) := by decide +kernel
theorem dX11_lost_32 : decode cX11_lost 32 = .ok (.aload_n 0, 1) := by decide +kernel
theorem dX11_lost_33 : decode cX11_lost 33 = .ok (.iconst 0, 1) := by decide +kernel
theorem dX11_lost_34 : decode cX11_lost 34 = .ok (.putfield 285, 3) := by decide +kernel
theorem dX11_lost_37 : decode cX11_lost 37 = .ok (.iload_n 3, 1) := by decide +kernel
theorem dX11_lost_38 : decode cX11_lost 38 = .ok (.istore 4, 2) := by decide +kernel
theorem dX11_lost_40 : decode cX11_lost 40 = .ok (.iconst 0, 1) := by decide +kernel
theorem dX11_lost_41 : decode cX11_lost 41 = .ok (.istore 5, 2) := by decide +kernel
theorem dX11_lost_43 : decode cX11_lost 43 = .ok (.iload 5, 2) := by decide +kernel
theorem dX11_lost_45 : decode cX11_lost 45 = .ok (.aload_n 0, 1) := by decide +kernel
theorem dX11_lost_46 : decode cX11_lost 46 = .ok (.getfield 35, 3) := by decide +kernel
theorem dX11_lost_49 : decode cX11_lost 49 = .ok (.iconst 0, 1) := by decide +kernel
theorem dX11_lost_50 : decode cX11_lost 50 = .ok (.iaload, 1) := by decide +kernel
theorem dX11_lost_51 : decode cX11_lost 51 = .ok (.if_icmp .ge 40, 3) := by decide +kernel
theorem dX11_lost_54 : decode cX11_lost 54 = .ok (.aload_n 0, 1) := by decide +kernel
theorem dX11_lost_55 : decode cX11_lost 55 = .ok (.iload_n 1, 1) := by decide +kernel
theorem dX11_lost_56 : decode cX11_lost 56 = .ok (.iload 5, 2) := by decide +kernel
theorem dX11_lost_58 : decode cX11_lost 58 = .ok (.invokevirtual 310, 3) := by decide +kernel
theorem dX11_lost_61 : decode cX11_lost 61 = .ok (.ifCond .eq 24, 3) := by decide +kernel
theorem dX11_lost_64 : decode cX11_lost 64 = .ok (.aload_n 0, 1) := by decide +kernel
theorem dX11_lost_65 : decode cX11_lost 65 = .ok (.iload_n 2, 1) := by decide +kernel
theorem dX11_lost_66 : decode cX11_lost 66 = .ok (.iload 5, 2) := by decide +kernel
theorem dX11_lost_68 : decode cX11_lost 68 = .ok (.invokevirtual 310, 3) := by decide +kernel
theorem dX11_lost_71 : decode cX11_lost 71 = .ok (.ifCond .ne 14, 3) := by decide +kernel
theorem dX11_lost_74 : decode cX11_lost 74 = .ok (.iload 4, 2) := by decide +kernel
theorem dX11_lost_76 : decode cX11_lost 76 = .ok (.ifCond .ne 6, 3) := by decide +kernel
theorem dX11_lost_79 : decode cX11_lost 79 = .ok (.iload 5, 2) := by decide +kernel
theorem dX11_lost_81 : decode cX11_lost 81 = .ok (.ireturn, 1) := by decide +kernel
theorem dX11_lost_82 : decode cX11_lost 82 = .ok (.iinc 4 (-1), 3) := by decide +kernel
theorem dX11_lost_85 : decode cX11_lost 85 = .ok (.iinc 5 1, 3) := by decide +kernel
theorem dX11_lost_88 : decode cX11_lost 88 = .ok (.goto (-45), 3) := by decide +kernel
theorem dX11_lost_91 : decode cX11_lost 91 = .ok (.iconst (-1), 1) := by decide +kernel
theorem dX11_lost_92 : decode cX11_lost 92 = .ok (.ireturn, 1) := by decide +kernel
theorem dX11_all_0 : decode cX11_all 0 = .ok (.aload_n 0, 1) := by decide +kernel
theorem dX11_all_1 : decode cX11_all 1 = .ok (.getfield 13, 3) := by decide +kernel
theorem dX11_all_4 : decode cX11_all 4 = .ok (.iconst 0, 1) := by decide +kernel
theorem dX11_all_5 : decode cX11_all 5 = .ok (.iaload, 1) := by decide +kernel
theorem dX11_all_6 : decode cX11_all 6 = .ok (.iconst 4, 1) := by decide +kernel
theorem dX11_all_7 : decode cX11_all 7 = .ok (.imul, 1) := by decide +kernel
theorem dX11_all_8 : decode cX11_all 8 = .ok (.aload_n 0, 1) := by decide +kernel
theorem dX11_all_9 : decode cX11_all 9 = .ok (.getfield 23, 3) := by decide +kernel
theorem dX11_all_12 : decode cX11_all 12 = .ok (.iconst 0, 1) := by decide +kernel
theorem dX11_all_13 : decode cX11_all 13 = .ok (.iaload, 1) := by decide +kernel
theorem dX11_all_14 : decode cX11_all 14 = .ok (.imul, 1) := by decide +kernel
theorem dX11_all_15 : decode cX11_all 15 = .ok (.bipush 24, 2) := by decide +kernel
theorem dX11_all_17 : decode cX11_all 17 = .ok (.imul, 1) := by decide +kernel
theorem dX11_all_18 : decode cX11_all 18 = .ok (.ireturn, 1) := by decide +kernel
theorem dX11_partOf_0 : decode cX11_partOf 0 = .ok (.iload_n 2, 1) := by decide +kernel
theorem dX11_partOf_1 : decode cX11_partOf 1 = .ok (.tableswitch 65 0 2 #[27, 39, 53], 27) := by decide +kernel
theorem dX11_partOf_28 : decode cX11_partOf 28 = .ok (.iload_n 1, 1) := by decide +kernel
theorem dX11_partOf_29 : decode cX11_partOf 29 = .ok (.bipush 96, 2) := by decide +kernel
theorem dX11_partOf_31 : decode cX11_partOf 31 = .ok (.aload_n 0, 1) := by decide +kernel
theorem dX11_partOf_32 : decode cX11_partOf 32 = .ok (.getfield 23, 3) := by decide +kernel
theorem dX11_partOf_35 : decode cX11_partOf 35 = .ok (.iconst 0, 1) := by decide +kernel
theorem dX11_partOf_36 : decode cX11_partOf 36 = .ok (.iaload, 1) := by decide +kernel
theorem dX11_partOf_37 : decode cX11_partOf 37 = .ok (.imul, 1) := by decide +kernel
theorem dX11_partOf_38 : decode cX11_partOf 38 = .ok (.idiv, 1) := by decide +kernel
theorem dX11_partOf_39 : decode cX11_partOf 39 = .ok (.ireturn, 1) := by decide +kernel
theorem dX11_partOf_40 : decode cX11_partOf 40 = .ok (.iload_n 1, 1) := by decide +kernel
theorem dX11_partOf_41 : decode cX11_partOf 41 = .ok (.bipush 24, 2) := by decide +kernel
theorem dX11_partOf_43 : decode cX11_partOf 43 = .ok (.aload_n 0, 1) := by decide +kernel
theorem dX11_partOf_44 : decode cX11_partOf 44 = .ok (.getfield 23, 3) := by decide +kernel
theorem dX11_partOf_47 : decode cX11_partOf 47 = .ok (.iconst 0, 1) := by decide +kernel
theorem dX11_partOf_48 : decode cX11_partOf 48 = .ok (.iaload, 1) := by decide +kernel
theorem dX11_partOf_49 : decode cX11_partOf 49 = .ok (.imul, 1) := by decide +kernel
theorem dX11_partOf_50 : decode cX11_partOf 50 = .ok (.idiv, 1) := by decide +kernel
theorem dX11_partOf_51 : decode cX11_partOf 51 = .ok (.iconst 4, 1) := by decide +kernel
theorem dX11_partOf_52 : decode cX11_partOf 52 = .ok (.irem, 1) := by decide +kernel
theorem dX11_partOf_53 : decode cX11_partOf 53 = .ok (.ireturn, 1) := by decide +kernel
theorem dX11_partOf_54 : decode cX11_partOf 54 = .ok (.iload_n 1, 1) := by decide +kernel
theorem dX11_partOf_55 : decode cX11_partOf 55 = .ok (.bipush 24, 2) := by decide +kernel
theorem dX11_partOf_57 : decode cX11_partOf 57 = .ok (.idiv, 1) := by decide +kernel
theorem dX11_partOf_58 : decode cX11_partOf 58 = .ok (.aload_n 0, 1) := by decide +kernel
theorem dX11_partOf_59 : decode cX11_partOf 59 = .ok (.getfield 23, 3) := by decide +kernel
theorem dX11_partOf_62 : decode cX11_partOf 62 = .ok (.iconst 0, 1) := by decide +kernel
theorem dX11_partOf_63 : decode cX11_partOf 63 = .ok (.iaload, 1) := by decide +kernel
theorem dX11_partOf_64 : decode cX11_partOf 64 = .ok (.irem, 1) := by decide +kernel
theorem dX11_partOf_65 : decode cX11_partOf 65 = .ok (.ireturn, 1) := by decide +kernel
theorem dX11_partOf_66 : decode cX11_partOf 66 = .ok (.iload_n 1, 1) := by decide +kernel
theorem dX11_partOf_67 : decode cX11_partOf 67 = .ok (.bipush 24, 2) := by decide +kernel
theorem dX11_partOf_69 : decode cX11_partOf 69 = .ok (.irem, 1) := by decide +kernel
theorem dX11_partOf_70 : decode cX11_partOf 70 = .ok (.ireturn, 1) := by decide +kernel
theorem dX11_isAllLet_0 : decode cX11_isAllLet 0 = .ok (.aload_n 0, 1) := by decide +kernel
theorem dX11_isAllLet_1 : decode cX11_isAllLet 1 = .ok (.iload_n 1, 1) := by decide +kernel
theorem dX11_isAllLet_2 : decode cX11_isAllLet 2 = .ok (.aload_n 0, 1) := by decide +kernel
theorem dX11_isAllLet_3 : decode cX11_isAllLet 3 = .ok (.iload_n 2, 1) := by decide +kernel
theorem dX11_isAllLet_4 : decode cX11_isAllLet 4 = .ok (.iconst 0, 1) := by decide +kernel
theorem dX11_isAllLet_5 : decode cX11_isAllLet 5 = .ok (.invokevirtual 316, 3) := by decide +kernel
theorem dX11_isAllLet_8 : decode cX11_isAllLet 8 = .ok (.aload_n 0, 1) := by decide +kernel
theorem dX11_isAllLet_9 : decode cX11_isAllLet 9 = .ok (.iload_n 2, 1) := by decide +kernel
theorem dX11_isAllLet_10 : decode cX11_isAllLet 10 = .ok (.iconst 1, 1) := by decide +kernel
theorem dX11_isAllLet_11 : decode cX11_isAllLet 11 = .ok (.invokevirtual 316, 3) := by decide +kernel
theorem dX11_isAllLet_14 : decode cX11_isAllLet 14 = .ok (.aload_n 0, 1) := by decide +kernel
theorem dX11_isAllLet_15 : decode cX11_isAllLet 15 = .ok (.iload_n 2, 1) := by decide +kernel
theorem dX11_isAllLet_16 : decode cX11_isAllLet 16 = .ok (.iconst 2, 1) := by decide +kernel
theorem dX11_isAllLet_17 : decode cX11_isAllLet 17 = .ok (.invokevirtual 316, 3) := by decide +kernel
theorem dX11_isAllLet_20 : decode cX11_isAllLet 20 = .ok (.aload_n 0, 1) := by decide +kernel
theorem dX11_isAllLet_21 : decode cX11_isAllLet 21 = .ok (.iload_n 2, 1) := by decide +kernel
theorem dX11_isAllLet_22 : decode cX11_isAllLet 22 = .ok (.iconst 3, 1) := by decide +kernel
theorem dX11_isAllLet_23 : decode cX11_isAllLet 23 = .ok (.invokevirtual 316, 3) := by decide +kernel
theorem dX11_isAllLet_26 : decode cX11_isAllLet 26 = .ok (.invokevirtual 307, 3) := by decide +kernel
theorem dX11_isAllLet_29 : decode cX11_isAllLet 29 = .ok (.ireturn, 1) := by decide +kernel
theorem dX11_idle_0 : decode cX11_idle 0 = .ok (.aload_n 0, 1) := by decide +kernel
theorem dX11_idle_1 : decode cX11_idle 1 = .ok (.iconst 0, 1) := by decide +kernel
theorem dX11_idle_2 : decode cX11_idle 2 = .ok (.putfield 94, 3) := by decide +kernel
theorem dX11_idle_5 : decode cX11_idle 5 = .ok (.aload_n 0, 1) := by decide +kernel
theorem dX11_idle_6 : decode cX11_idle 6 = .ok (.iload_n 1, 1) := by decide +kernel
theorem dX11_idle_7 : decode cX11_idle 7 = .ok (.iload_n 2, 1) := by decide +kernel
theorem dX11_idle_8 : decode cX11_idle 8 = .ok (.invokevirtual 313, 3) := by decide +kernel
theorem dX11_idle_11 : decode cX11_idle 11 = .ok (.ifCond .ne 5, 3) := by decide +kernel
theorem dX11_idle_14 : decode cX11_idle 14 = .ok (.iconst 0, 1) := by decide +kernel
theorem dX11_idle_15 : decode cX11_idle 15 = .ok (.ireturn, 1) := by decide +kernel
theorem dX11_idle_16 : decode cX11_idle 16 = .ok (.aload_n 0, 1) := by decide +kernel
theorem dX11_idle_17 : decode cX11_idle 17 = .ok (.iconst 0, 1) := by decide +kernel
theorem dX11_idle_18 : decode cX11_idle 18 = .ok (.putfield 288, 3) := by decide +kernel
theorem dX11_idle_21 : decode cX11_idle 21 = .ok (.aload_n 0, 1) := by decide +kernel
theorem dX11_idle_22 : decode cX11_idle 22 = .ok (.iconst 0, 1) := by decide +kernel
theorem dX11_idle_23 : decode cX11_idle 23 = .ok (.putfield 285, 3) := by decide +kernel
theorem dX11_idle_26 : decode cX11_idle 26 = .ok (.iconst 0, 1) := by decide +kernel
theorem dX11_idle_27 : decode cX11_idle 27 = .ok (.istore_n 3, 1) := by decide +kernel
theorem dX11_idle_28 : decode cX11_idle 28 = .ok (.iload_n 3, 1) := by decide +kernel
theorem dX11_idle_29 : decode cX11_idle 29 = .ok (.aload_n 0, 1) := by decide +kernel
theorem dX11_idle_30 : decode cX11_idle 30 = .ok (.invokevirtual 320, 3) := by decide +kernel
theorem dX11_idle_33 : decode cX11_idle 33 = .ok (.if_icmp .ge 44, 3) := by decide +kernel
theorem dX11_idle_36 : decode cX11_idle 36 = .ok (.aload_n 0, 1) := by decide +kernel
theorem dX11_idle_37 : decode cX11_idle 37 = .ok (.iload_n 1, 1) := by decide +kernel
theorem dX11_idle_38 : decode cX11_idle 38 = .ok (.aload_n 0, 1) := by decide +kernel
theorem dX11_idle_39 : decode cX11_idle 39 = .ok (.iload_n 3, 1) := by decide +kernel
theorem dX11_idle_40 : decode cX11_idle 40 = .ok (.iconst 0, 1) := by decide +kernel
theorem dX11_idle_41 : decode cX11_idle 41 = .ok (.invokevirtual 316, 3) := by decide +kernel
theorem dX11_idle_44 : decode cX11_idle 44 = .ok (.aload_n 0, 1) := by decide +kernel
theorem dX11_idle_45 : decode cX11_idle 45 = .ok (.iload_n 3, 1) := by decide +kernel
theorem dX11_idle_46 : decode cX11_idle 46 = .ok (.iconst 1, 1) := by decide +kernel
theorem dX11_idle_47 : decode cX11_idle 47 = .ok (.invokevirtual 316, 3) := by decide +kernel
theorem dX11_idle_50 : decode cX11_idle 50 = .ok (.aload_n 0, 1) := by decide +kernel
theorem dX11_idle_51 : decode cX11_idle 51 = .ok (.iload_n 3, 1) := by decide +kernel
theorem dX11_idle_52 : decode cX11_idle 52 = .ok (.iconst 2, 1) := by decide +kernel
theorem dX11_idle_53 : decode cX11_idle 53 = .ok (.invokevirtual 316, 3) := by decide +kernel
theorem dX11_idle_56 : decode cX11_idle 56 = .ok (.aload_n 0, 1) := by decide +kernel
theorem dX11_idle_57 : decode cX11_idle 57 = .ok (.iload_n 3, 1) := by decide +kernel
theorem dX11_idle_58 : decode cX11_idle 58 = .ok (.iconst 3, 1) := by decide +kernel
theorem dX11_idle_59 : decode cX11_idle 59 = .ok (.invokevirtual 316, 3) := by decide +kernel
theorem dX11_idle_62 : decode cX11_idle 62 = .ok (.invokevirtual 299, 3) := by decide +kernel
theorem dX11_idle_65 : decode cX11_idle 65 = .ok (.iload_n 2, 1) := by decide +kernel
theorem dX11_idle_66 : decode cX11_idle 66 = .ok (.if_icmp .ne 5, 3) := by decide +kernel
theorem dX11_idle_69 : decode cX11_idle 69 = .ok (.iconst 0, 1) := by decide +kernel
theorem dX11_idle_70 : decode cX11_idle 70 = .ok (.ireturn, 1) := by decide +kernel
theorem dX11_idle_71 : decode cX11_idle 71 = .ok (.iinc 3 1, 3) := by decide +kernel
theorem dX11_idle_74 : decode cX11_idle 74 = .ok (.goto (-46), 3) := by decide +kernel
theorem dX11_idle_77 : decode cX11_idle 77 = .ok (.iconst 1, 1) := by decide +kernel
theorem dX11_idle_78 : decode cX11_idle 78 = .ok (.ireturn, 1) := by decide +kernel
theorem dX11_more_0 : decode cX11_more 0 = .ok (.aload_n 0, 1) := by decide +kernel
theorem dX11_more_1 : decode cX11_more 1 = .ok (.iconst 0, 1) := by decide +kernel
theorem dX11_more_2 : decode cX11_more 2 = .ok (.putfield 94, 3) := by decide +kernel
theorem dX11_more_5 : decode cX11_more 5 = .ok (.aload_n 0, 1) := by decide +kernel
theorem dX11_more_6 : decode cX11_more 6 = .ok (.iload_n 1, 1) := by decide +kernel
theorem dX11_more_7 : decode cX11_more 7 = .ok (.invokevirtual 259, 3) := by decide +kernel
theorem dX11_more_10 : decode cX11_more 10 = .ok (.ifCond .eq 11, 3) := by decide +kernel
theorem dX11_more_13 : decode cX11_more 13 = .ok (.aload_n 0, 1) := by decide +kernel
theorem dX11_more_14 : decode cX11_more 14 = .ok (.iload_n 2, 1) := by decide +kernel
theorem dX11_more_15 : decode cX11_more 15 = .ok (.invokevirtual 259, 3) := by decide +kernel
theorem dX11_more_18 : decode cX11_more 18 = .ok (.ifCond .ne 5, 3) := by decide +kernel
theorem dX11_more_21 : decode cX11_more 21 = .ok (.iconst (-1), 1) := by decide +kernel
theorem dX11_more_22 : decode cX11_more 22 = .ok (.ireturn, 1) := by decide +kernel
theorem dX11_more_23 : decode cX11_more 23 = .ok (.aload_n 0, 1) := by decide +kernel
theorem dX11_more_24 : decode cX11_more 24 = .ok (.iconst 0, 1) := by decide +kernel
theorem dX11_more_25 : decode cX11_more 25 = .ok (.putfield 288, 3) := by decide +kernel
theorem dX11_more_28 : decode cX11_more 28 = .ok (.aload_n 0, 1) := by decide +kernel
theorem dX11_more_29 : decode cX11_more 29 = .ok (.iconst 0, 1) := by decide +kernel
theorem dX11_more_30 : decode cX11_more 30 = .ok (.putfield 285, 3) := by decide +kernel
theorem dX11_more_33 : decode cX11_more 33 = .ok (.iconst 0, 1) := by decide +kernel
theorem dX11_more_34 : decode cX11_more 34 = .ok (.istore_n 3, 1) := by decide +kernel
theorem dX11_more_35 : decode cX11_more 35 = .ok (.iconst 0, 1) := by decide +kernel
theorem dX11_more_36 : decode cX11_more 36 = .ok (.istore 4, 2) := by decide +kernel
theorem dX11_more_38 : decode cX11_more 38 = .ok (.iload 4, 2) := by decide +kernel
theorem dX11_more_40 : decode cX11_more 40 = .ok (.aload_n 0, 1) := by decide +kernel
theorem dX11_more_41 : decode cX11_more 41 = .ok (.invokevirtual 320, 3) := by decide +kernel
theorem dX11_more_44 : decode cX11_more 44 = .ok (.if_icmp .ge 37, 3) := by decide +kernel
theorem dX11_more_47 : decode cX11_more 47 = .ok (.iload_n 3, 1) := by decide +kernel
theorem dX11_more_48 : decode cX11_more 48 = .ok (.aload_n 0, 1) := by decide +kernel
theorem dX11_more_49 : decode cX11_more 49 = .ok (.iload_n 1, 1) := by decide +kernel
theorem dX11_more_50 : decode cX11_more 50 = .ok (.iload 4, 2) := by decide +kernel
theorem dX11_more_52 : decode cX11_more 52 = .ok (.invokevirtual 323, 3) := by decide +kernel
theorem dX11_more_55 : decode cX11_more 55 = .ok (.ifCond .eq 17, 3) := by decide +kernel
theorem dX11_more_58 : decode cX11_more 58 = .ok (.aload_n 0, 1) := by decide +kernel
theorem dX11_more_59 : decode cX11_more 59 = .ok (.iload_n 2, 1) := by decide +kernel
theorem dX11_more_60 : decode cX11_more 60 = .ok (.iload 4, 2) := by decide +kernel
theorem dX11_more_62 : decode cX11_more 62 = .ok (.invokevirtual 323, 3) := by decide +kernel
theorem dX11_more_65 : decode cX11_more 65 = .ok (.ifCond .ne 7, 3) := by decide +kernel
theorem dX11_more_68 : decode cX11_more 68 = .ok (.iconst 1, 1) := by decide +kernel
theorem dX11_more_69 : decode cX11_more 69 = .ok (.goto 4, 3) := by decide +kernel
theorem dX11_more_72 : decode cX11_more 72 = .ok (.iconst 0, 1) := by decide +kernel
theorem dX11_more_73 : decode cX11_more 73 = .ok (.iadd, 1) := by decide +kernel
theorem dX11_more_74 : decode cX11_more 74 = .ok (.istore_n 3, 1) := by decide +kernel
theorem dX11_more_75 : decode cX11_more 75 = .ok (.iinc 4 1, 3) := by decide +kernel
theorem dX11_more_78 : decode cX11_more 78 = .ok (.goto (-40), 3) := by decide +kernel
theorem dX11_more_81 : decode cX11_more 81 = .ok (.iload_n 3, 1) := by decide +kernel
theorem dX11_more_82 : decode cX11_more 82 = .ok (.ireturn, 1) := by decide +kernel
theorem dX11_unlike_0 : decode cX11_unlike 0 = .ok (.aload_n 0, 1) := by decide +kernel
theorem dX11_unlike_1 : decode cX11_unlike 1 = .ok (.iconst 0, 1) := by decide +kernel
theorem dX11_unlike_2 : decode cX11_unlike 2 = .ok (.putfield 94, 3) := by decide +kernel
theorem dX11_unlike_5 : decode cX11_unlike 5 = .ok (.aload_n 0, 1) := by decide +kernel
theorem dX11_unlike_6 : decode cX11_unlike 6 = .ok (.iload_n 1, 1) := by decide +kernel
theorem dX11_unlike_7 : decode cX11_unlike 7 = .ok (.invokevirtual 259, 3) := by decide +kernel
theorem dX11_unlike_10 : decode cX11_unlike 10 = .ok (.ifCond .eq 20, 3) := by decide +kernel
theorem dX11_unlike_13 : decode cX11_unlike 13 = .ok (.aload_n 0, 1) := by decide +kernel
theorem dX11_unlike_14 : decode cX11_unlike 14 = .ok (.iload_n 2, 1) := by decide +kernel
theorem dX11_unlike_15 : decode cX11_unlike 15 = .ok (.invokevirtual 259, 3) := by decide +kernel
theorem dX11_unlike_18 : decode cX11_unlike 18 = .ok (.ifCond .eq 12, 3) := by decide +kernel
theorem dX11_unlike_21 : decode cX11_unlike 21 = .ok (.iload_n 3, 1) := by decide +kernel
theorem dX11_unlike_22 : decode cX11_unlike 22 = .ok (.iconst 0, 1) := by decide +kernel
theorem dX11_unlike_23 : decode cX11_unlike 23 = .ok (.iconst 3, 1) := by decide +kernel
theorem dX11_unlike_24 : decode cX11_unlike 24 = .ok (.invokestatic 108, 3) := by decide +kernel
theorem dX11_unlike_27 : decode cX11_unlike 27 = .ok (.ifCond .ne 5, 3) := by decide +kernel
theorem dX11_unlike_30 : decode cX11_unlike 30 = .ok (.iconst (-1), 1) := by decide +kernel
theorem dX11_unlike_31 : decode cX11_unlike 31 = .ok (.ireturn, 1) := by decide +kernel
theorem dX11_unlike_32 : decode cX11_unlike 32 = .ok (.aload_n 0, 1) := by decide +kernel
theorem dX11_unlike_33 : decode cX11_unlike 33 = .ok (.iconst 0, 1) := by decide +kernel
theorem dX11_unlike_34 : decode cX11_unlike 34 = .ok (.putfield 288, 3) := by decide +kernel
theorem dX11_unlike_37 : decode cX11_unlike 37 = .ok (.aload_n 0, 1) := by decide +kernel
theorem dX11_unlike_38 : decode cX11_unlike 38 = .ok (.iconst 0, 1) := by decide +kernel
theorem dX11_unlike_39 : decode cX11_unlike 39 = .ok (.putfield 285, 3) := by decide +kernel
theorem dX11_unlike_42 : decode cX11_unlike 42 = .ok (.iconst 0, 1) := by decide +kernel
theorem dX11_unlike_43 : decode cX11_unlike 43 = .ok (.istore 4, 2) := by decide +kernel
theorem dX11_unlike_45 : decode cX11_unlike 45 = .ok (.iload 4, 2) := by decide +kernel
theorem dX11_unlike_47 : decode cX11_unlike 47 = .ok (.aload_n 0, 1) := by decide +kernel
theorem dX11_unlike_48 : decode cX11_unlike 48 = .ok (.invokevirtual 320, 3) := by decide +kernel
theorem dX11_unlike_51 : decode cX11_unlike 51 = .ok (.if_icmp .ge 34, 3) := by decide +kernel
theorem dX11_unlike_54 : decode cX11_unlike 54 = .ok (.aload_n 0, 1) := by decide +kernel
theorem dX11_unlike_55 : decode cX11_unlike 55 = .ok (.iload_n 1, 1) := by decide +kernel
theorem dX11_unlike_56 : decode cX11_unlike 56 = .ok (.iload 4, 2) := by decide +kernel
theorem dX11_unlike_58 : decode cX11_unlike 58 = .ok (.invokevirtual 323, 3) := by decide +kernel
theorem dX11_unlike_61 : decode cX11_unlike 61 = .ok (.aload_n 0, 1) := by decide +kernel
theorem dX11_unlike_62 : decode cX11_unlike 62 = .ok (.iload_n 2, 1) := by decide +kernel
theorem dX11_unlike_63 : decode cX11_unlike 63 = .ok (.iload 4, 2) := by decide +kernel
theorem dX11_unlike_65 : decode cX11_unlike 65 = .ok (.invokevirtual 323, 3) := by decide +kernel
theorem dX11_unlike_68 : decode cX11_unlike 68 = .ok (.if_icmp .eq 11, 3) := by decide +kernel
theorem dX11_unlike_71 : decode cX11_unlike 71 = .ok (.aload_n 0, 1) := by decide +kernel
theorem dX11_unlike_72 : decode cX11_unlike 72 = .ok (.iload 4, 2) := by decide +kernel
theorem dX11_unlike_74 : decode cX11_unlike 74 = .ok (.iload_n 3, 1) := by decide +kernel
theorem dX11_unlike_75 : decode cX11_unlike 75 = .ok (.invokevirtual 316, 3) := by decide +kernel
theorem dX11_unlike_78 : decode cX11_unlike 78 = .ok (.ireturn, 1) := by decide +kernel
theorem dX11_unlike_79 : decode cX11_unlike 79 = .ok (.iinc 4 1, 3) := by decide +kernel
theorem dX11_unlike_82 : decode cX11_unlike 82 = .ok (.goto (-37), 3) := by decide +kernel
theorem dX11_unlike_85 : decode cX11_unlike 85 = .ok (.iconst (-1), 1) := by decide +kernel
theorem dX11_unlike_86 : decode cX11_unlike 86 = .ok (.ireturn, 1) := by decide +kernel
theorem dX11_isMended_0 : decode cX11_isMended 0 = .ok (.aload_n 0, 1) := by decide +kernel
theorem dX11_isMended_1 : decode cX11_isMended 1 = .ok (.iconst 0, 1) := by decide +kernel
theorem dX11_isMended_2 : decode cX11_isMended 2 = .ok (.putfield 288, 3) := by decide +kernel
theorem dX11_isMended_5 : decode cX11_isMended 5 = .ok (.aload_n 0, 1) := by decide +kernel
theorem dX11_isMended_6 : decode cX11_isMended 6 = .ok (.iconst 0, 1) := by decide +kernel
theorem dX11_isMended_7 : decode cX11_isMended 7 = .ok (.putfield 285, 3) := by decide +kernel
theorem dX11_isMended_10 : decode cX11_isMended 10 = .ok (.iconst 0, 1) := by decide +kernel
theorem dX11_isMended_11 : decode cX11_isMended 11 = .ok (.istore_n 3, 1) := by decide +kernel
theorem dX11_isMended_12 : decode cX11_isMended 12 = .ok (.iload_n 3, 1) := by decide +kernel
theorem dX11_isMended_13 : decode cX11_isMended 13 = .ok (.iload_n 2, 1) := by decide +kernel
theorem dX11_isMended_14 : decode cX11_isMended 14 = .ok (.if_icmp .ge 70, 3) := by decide +kernel
theorem dX11_isMended_17 : decode cX11_isMended 17 = .ok (.aload_n 0, 1) := by decide +kernel
theorem dX11_isMended_18 : decode cX11_isMended 18 = .ok (.dup, 1) := by decide +kernel
theorem dX11_isMended_19 : decode cX11_isMended 19 = .ok (.getfield 288, 3) := by decide +kernel
theorem dX11_isMended_22 : decode cX11_isMended 22 = .ok (.aload_n 0, 1) := by decide +kernel
theorem dX11_isMended_23 : decode cX11_isMended 23 = .ok (.getfield 87, 3) := by decide +kernel
theorem dX11_isMended_26 : decode cX11_isMended 26 = .ok (.iload_n 3, 1) := by decide +kernel
theorem dX11_isMended_27 : decode cX11_isMended 27 = .ok (.iaload, 1) := by decide +kernel
theorem dX11_isMended_28 : decode cX11_isMended 28 = .ok (.ifCond .ne 14, 3) := by decide +kernel
theorem dX11_isMended_31 : decode cX11_isMended 31 = .ok (.iconst 1, 1) := by decide +kernel
theorem dX11_isMended_32 : decode cX11_isMended 32 = .ok (.aload_n 0, 1) := by decide +kernel
theorem dX11_isMended_33 : decode cX11_isMended 33 = .ok (.getfield 84, 3) := by decide +kernel
theorem dX11_isMended_36 : decode cX11_isMended 36 = .ok (.iload_n 3, 1) := by decide +kernel
theorem dX11_isMended_37 : decode cX11_isMended 37 = .ok (.iaload, 1) := by decide +kernel
theorem dX11_isMended_38 : decode cX11_isMended 38 = .ok (.ishl, 1) := by decide +kernel
theorem dX11_isMended_39 : decode cX11_isMended 39 = .ok (.goto 4, 3) := by decide +kernel
theorem dX11_isMended_42 : decode cX11_isMended 42 = .ok (.iconst 0, 1) := by decide +kernel
theorem dX11_isMended_43 : decode cX11_isMended 43 = .ok (.ior, 1) := by decide +kernel
theorem dX11_isMended_44 : decode cX11_isMended 44 = .ok (.putfield 288, 3) := by decide +kernel
theorem dX11_isMended_47 : decode cX11_isMended 47 = .ok (.aload_n 0, 1) := by decide +kernel
theorem dX11_isMended_48 : decode cX11_isMended 48 = .ok (.dup, 1) := by decide +kernel
theorem dX11_isMended_49 : decode cX11_isMended 49 = .ok (.getfield 285, 3) := by decide +kernel
theorem dX11_isMended_52 : decode cX11_isMended 52 = .ok (.aload_n 0, 1) := by decide +kernel
theorem dX11_isMended_53 : decode cX11_isMended 53 = .ok (.getfield 87, 3) := by decide +kernel
theorem dX11_isMended_56 : decode cX11_isMended 56 = .ok (.iload_n 3, 1) := by decide +kernel
theorem dX11_isMended_57 : decode cX11_isMended 57 = .ok (.iaload, 1) := by decide +kernel
theorem dX11_isMended_58 : decode cX11_isMended 58 = .ok (.iconst 1, 1) := by decide +kernel
theorem dX11_isMended_59 : decode cX11_isMended 59 = .ok (.if_icmp .ne 14, 3) := by decide +kernel
theorem dX11_isMended_62 : decode cX11_isMended 62 = .ok (.iconst 1, 1) := by decide +kernel
theorem dX11_isMended_63 : decode cX11_isMended 63 = .ok (.aload_n 0, 1) := by decide +kernel
theorem dX11_isMended_64 : decode cX11_isMended 64 = .ok (.getfield 84, 3) := by decide +kernel
theorem dX11_isMended_67 : decode cX11_isMended 67 = .ok (.iload_n 3, 1) := by decide +kernel
theorem dX11_isMended_68 : decode cX11_isMended 68 = .ok (.iaload, 1) := by decide +kernel
theorem dX11_isMended_69 : decode cX11_isMended 69 = .ok (.ishl, 1) := by decide +kernel
theorem dX11_isMended_70 : decode cX11_isMended 70 = .ok (.goto 4, 3) := by decide +kernel
theorem dX11_isMended_73 : decode cX11_isMended 73 = .ok (.iconst 0, 1) := by decide +kernel
theorem dX11_isMended_74 : decode cX11_isMended 74 = .ok (.ior, 1) := by decide +kernel
theorem dX11_isMended_75 : decode cX11_isMended 75 = .ok (.putfield 285, 3) := by decide +kernel
theorem dX11_isMended_78 : decode cX11_isMended 78 = .ok (.iinc 3 1, 3) := by decide +kernel
theorem dX11_isMended_81 : decode cX11_isMended 81 = .ok (.goto (-69), 3) := by decide +kernel
theorem dX11_isMended_84 : decode cX11_isMended 84 = .ok (.iconst 0, 1) := by decide +kernel
theorem dX11_isMended_85 : decode cX11_isMended 85 = .ok (.istore_n 3, 1) := by decide +kernel
theorem dX11_isMended_86 : decode cX11_isMended 86 = .ok (.iload_n 3, 1) := by decide +kernel
theorem dX11_isMended_87 : decode cX11_isMended 87 = .ok (.aload_n 0, 1) := by decide +kernel
theorem dX11_isMended_88 : decode cX11_isMended 88 = .ok (.getfield 35, 3) := by decide +kernel
theorem dX11_isMended_91 : decode cX11_isMended 91 = .ok (.iconst 0, 1) := by decide +kernel
theorem dX11_isMended_92 : decode cX11_isMended 92 = .ok (.iaload, 1) := by decide +kernel
theorem dX11_isMended_93 : decode cX11_isMended 93 = .ok (.if_icmp .ge 45, 3) := by decide +kernel
theorem dX11_isMended_96 : decode cX11_isMended 96 = .ok (.aload_n 0, 1) := by decide +kernel
theorem dX11_isMended_97 : decode cX11_isMended 97 = .ok (.getfield 41, 3) := by decide +kernel
theorem dX11_isMended_100 : decode cX11_isMended 100 = .ok (.iload_n 3, 1) := by decide +kernel
theorem dX11_isMended_101 : decode cX11_isMended 101 = .ok (.iaload, 1) := by decide +kernel
theorem dX11_isMended_102 : decode cX11_isMended 102 = .ok (.iconst (-1), 1) := by decide +kernel
theorem dX11_isMended_103 : decode cX11_isMended 103 = .ok (.if_icmp .eq 29, 3) := by decide +kernel
theorem dX11_isMended_106 : decode cX11_isMended 106 = .ok (.aload_n 0, 1) := by decide +kernel
theorem dX11_isMended_107 : decode cX11_isMended 107 = .ok (.iload_n 1, 1) := by decide +kernel
theorem dX11_isMended_108 : decode cX11_isMended 108 = .ok (.iload_n 3, 1) := by decide +kernel
theorem dX11_isMended_109 : decode cX11_isMended 109 = .ok (.invokevirtual 310, 3) := by decide +kernel
theorem dX11_isMended_112 : decode cX11_isMended 112 = .ok (.aload_n 0, 1) := by decide +kernel
theorem dX11_isMended_113 : decode cX11_isMended 113 = .ok (.getfield 41, 3) := by decide +kernel
theorem dX11_isMended_116 : decode cX11_isMended 116 = .ok (.iload_n 3, 1) := by decide +kernel
theorem dX11_isMended_117 : decode cX11_isMended 117 = .ok (.iaload, 1) := by decide +kernel
theorem dX11_isMended_118 : decode cX11_isMended 118 = .ok (.iconst 1, 1) := by decide +kernel
theorem dX11_isMended_119 : decode cX11_isMended 119 = .ok (.if_icmp .ne 7, 3) := by decide +kernel
theorem dX11_isMended_122 : decode cX11_isMended 122 = .ok (.iconst 1, 1) := by decide +kernel
theorem dX11_isMended_123 : decode cX11_isMended 123 = .ok (.goto 4, 3) := by decide +kernel
theorem dX11_isMended_126 : decode cX11_isMended 126 = .ok (.iconst 0, 1) := by decide +kernel
theorem dX11_isMended_127 : decode cX11_isMended 127 = .ok (.if_icmp .eq 5, 3) := by decide +kernel
theorem dX11_isMended_130 : decode cX11_isMended 130 = .ok (.iconst 0, 1) := by decide +kernel
theorem dX11_isMended_131 : decode cX11_isMended 131 = .ok (.ireturn, 1) := by decide +kernel
theorem dX11_isMended_132 : decode cX11_isMended 132 = .ok (.iinc 3 1, 3) := by decide +kernel
theorem dX11_isMended_135 : decode cX11_isMended 135 = .ok (.goto (-49), 3) := by decide +kernel
theorem dX11_isMended_138 : decode cX11_isMended 138 = .ok (.iconst 1, 1) := by decide +kernel
theorem dX11_isMended_139 : decode cX11_isMended 139 = .ok (.ireturn, 1) := by decide +kernel
theorem dX11_goesOn_0 : decode cX11_goesOn 0 = .ok (.iload_n 2, 1) := by decide +kernel
theorem dX11_goesOn_1 : decode cX11_goesOn 1 = .ok (.iconst 1, 1) := by decide +kernel
theorem dX11_goesOn_2 : decode cX11_goesOn 2 = .ok (.isub, 1) := by decide +kernel
theorem dX11_goesOn_3 : decode cX11_goesOn 3 = .ok (.istore_n 3, 1) := by decide +kernel
theorem dX11_goesOn_4 : decode cX11_goesOn 4 = .ok (.iload_n 3, 1) := by decide +kernel
theorem dX11_goesOn_5 : decode cX11_goesOn 5 = .ok (.ifCond .lt 109, 3) := by decide +kernel
theorem dX11_goesOn_8 : decode cX11_goesOn 8 = .ok (.aload_n 0, 1) := by decide +kernel
theorem dX11_goesOn_9 : decode cX11_goesOn 9 = .ok (.getfield 87, 3) := by decide +kernel
theorem dX11_goesOn_12 : decode cX11_goesOn 12 = .ok (.iload_n 3, 1) := by decide +kernel
theorem dX11_goesOn_13 : decode cX11_goesOn 13 = .ok (.iaload, 1) := by decide +kernel
theorem dX11_goesOn_14 : decode cX11_goesOn 14 = .ok (.ifCond .ne 13, 3) := by decide +kernel
theorem dX11_goesOn_17 : decode cX11_goesOn 17 = .ok (.aload_n 0, 1) := by decide +kernel
theorem dX11_goesOn_18 : decode cX11_goesOn 18 = .ok (.getfield 87, 3) := by decide +kernel
theorem dX11_goesOn_21 : decode cX11_goesOn 21 = .ok (.iload_n 3, 1) := by decide +kernel
theorem dX11_goesOn_22 : decode cX11_goesOn 22 = .ok (.iconst 1, 1) := by decide +kernel
theorem dX11_goesOn_23 : decode cX11_goesOn 23 = .ok (.iastore, 1) := by decide +kernel
theorem dX11_goesOn_24 : decode cX11_goesOn 24 = .ok (.goto 39, 3) := by decide +kernel
theorem dX11_goesOn_27 : decode cX11_goesOn 27 = .ok (.aload_n 0, 1) := by decide +kernel
theorem dX11_goesOn_28 : decode cX11_goesOn 28 = .ok (.getfield 84, 3) := by decide +kernel
theorem dX11_goesOn_31 : decode cX11_goesOn 31 = .ok (.iload_n 3, 1) := by decide +kernel
theorem dX11_goesOn_32 : decode cX11_goesOn 32 = .ok (.iaload, 1) := by decide +kernel
theorem dX11_goesOn_33 : decode cX11_goesOn 33 = .ok (.aload_n 0, 1) := by decide +kernel
theorem dX11_goesOn_34 : decode cX11_goesOn 34 = .ok (.getfield 47, 3) := by decide +kernel
theorem dX11_goesOn_37 : decode cX11_goesOn 37 = .ok (.iload_n 1, 1) := by decide +kernel
theorem dX11_goesOn_38 : decode cX11_goesOn 38 = .ok (.iaload, 1) := by decide +kernel
theorem dX11_goesOn_39 : decode cX11_goesOn 39 = .ok (.iload_n 2, 1) := by decide +kernel
theorem dX11_goesOn_40 : decode cX11_goesOn 40 = .ok (.isub, 1) := by decide +kernel
theorem dX11_goesOn_41 : decode cX11_goesOn 41 = .ok (.iload_n 3, 1) := by decide +kernel
theorem dX11_goesOn_42 : decode cX11_goesOn 42 = .ok (.iadd, 1) := by decide +kernel
theorem dX11_goesOn_43 : decode cX11_goesOn 43 = .ok (.if_icmp .ge 65, 3) := by decide +kernel
theorem dX11_goesOn_46 : decode cX11_goesOn 46 = .ok (.aload_n 0, 1) := by decide +kernel
theorem dX11_goesOn_47 : decode cX11_goesOn 47 = .ok (.getfield 84, 3) := by decide +kernel
theorem dX11_goesOn_50 : decode cX11_goesOn 50 = .ok (.iload_n 3, 1) := by decide +kernel
theorem dX11_goesOn_51 : decode cX11_goesOn 51 = .ok (.dup2, 1) := by decide +kernel
theorem dX11_goesOn_52 : decode cX11_goesOn 52 = .ok (.iaload, 1) := by decide +kernel
theorem dX11_goesOn_53 : decode cX11_goesOn 53 = .ok (.iconst 1, 1) := by decide +kernel
theorem dX11_goesOn_54 : decode cX11_goesOn 54 = .ok (.iadd, 1) := by decide +kernel
theorem dX11_goesOn_55 : decode cX11_goesOn 55 = .ok (.iastore, 1) := by decide +kernel
theorem dX11_goesOn_56 : decode cX11_goesOn 56 = .ok (.aload_n 0, 1) := by decide +kernel
theorem dX11_goesOn_57 : decode cX11_goesOn 57 = .ok (.getfield 87, 3) := by decide +kernel
theorem dX11_goesOn_60 : decode cX11_goesOn 60 = .ok (.iload_n 3, 1) := by decide +kernel
theorem dX11_goesOn_61 : decode cX11_goesOn 61 = .ok (.iconst 0, 1) := by decide +kernel
theorem dX11_goesOn_62 : decode cX11_goesOn 62 = .ok (.iastore, 1) := by decide +kernel
theorem dX11_goesOn_63 : decode cX11_goesOn 63 = .ok (.iload_n 3, 1) := by decide +kernel
theorem dX11_goesOn_64 : decode cX11_goesOn 64 = .ok (.iconst 1, 1) := by decide +kernel
theorem dX11_goesOn_65 : decode cX11_goesOn 65 = .ok (.iadd, 1) := by decide +kernel
theorem dX11_goesOn_66 : decode cX11_goesOn 66 = .ok (.istore 4, 2) := by decide +kernel
theorem dX11_goesOn_68 : decode cX11_goesOn 68 = .ok (.iload 4, 2) := by decide +kernel
theorem dX11_goesOn_70 : decode cX11_goesOn 70 = .ok (.iload_n 2, 1) := by decide +kernel
theorem dX11_goesOn_71 : decode cX11_goesOn 71 = .ok (.if_icmp .ge 35, 3) := by decide +kernel
theorem dX11_goesOn_74 : decode cX11_goesOn 74 = .ok (.aload_n 0, 1) := by decide +kernel
theorem dX11_goesOn_75 : decode cX11_goesOn 75 = .ok (.getfield 84, 3) := by decide +kernel
theorem dX11_goesOn_78 : decode cX11_goesOn 78 = .ok (.iload 4, 2) := by decide +kernel
theorem dX11_goesOn_80 : decode cX11_goesOn 80 = .ok (.aload_n 0, 1) := by decide +kernel
theorem dX11_goesOn_81 : decode cX11_goesOn 81 = .ok (.getfield 84, 3) := by decide +kernel
theorem dX11_goesOn_84 : decode cX11_goesOn 84 = .ok (.iload 4, 2) := by decide +kernel
theorem dX11_goesOn_86 : decode cX11_goesOn 86 = .ok (.iconst 1, 1) := by decide +kernel
theorem dX11_goesOn_87 : decode cX11_goesOn 87 = .ok (.isub, 1) := by decide +kernel
theorem dX11_goesOn_88 : decode cX11_goesOn 88 = .ok (.iaload, 1) := by decide +kernel
theorem dX11_goesOn_89 : decode cX11_goesOn 89 = .ok (.iconst 1, 1) := by decide +kernel
theorem dX11_goesOn_90 : decode cX11_goesOn 90 = .ok (.iadd, 1) := by decide +kernel
theorem dX11_goesOn_91 : decode cX11_goesOn 91 = .ok (.iastore, 1) := by decide +kernel
theorem dX11_goesOn_92 : decode cX11_goesOn 92 = .ok (.aload_n 0, 1) := by decide +kernel
theorem dX11_goesOn_93 : decode cX11_goesOn 93 = .ok (.getfield 87, 3) := by decide +kernel
theorem dX11_goesOn_96 : decode cX11_goesOn 96 = .ok (.iload 4, 2) := by decide +kernel
theorem dX11_goesOn_98 : decode cX11_goesOn 98 = .ok (.iconst 0, 1) := by decide +kernel
theorem dX11_goesOn_99 : decode cX11_goesOn 99 = .ok (.iastore, 1) := by decide +kernel
theorem dX11_goesOn_100 : decode cX11_goesOn 100 = .ok (.iinc 4 1, 3) := by decide +kernel
theorem dX11_goesOn_103 : decode cX11_goesOn 103 = .ok (.goto (-35), 3) := by decide +kernel
theorem dX11_goesOn_106 : decode cX11_goesOn 106 = .ok (.iconst 1, 1) := by decide +kernel
theorem dX11_goesOn_107 : decode cX11_goesOn 107 = .ok (.ireturn, 1) := by decide +kernel
theorem dX11_goesOn_108 : decode cX11_goesOn 108 = .ok (.iinc 3 (-1), 3) := by decide +kernel
theorem dX11_goesOn_111 : decode cX11_goesOn 111 = .ok (.goto (-107), 3) := by decide +kernel
theorem dX11_goesOn_114 : decode cX11_goesOn 114 = .ok (.iconst 0, 1) := by decide +kernel
theorem dX11_goesOn_115 : decode cX11_goesOn 115 = .ok (.ireturn, 1) := by decide +kernel
theorem dX11_mend_0 : decode cX11_mend 0 = .ok (.aload_n 0, 1) := by decide +kernel
theorem dX11_mend_1 : decode cX11_mend 1 = .ok (.iconst 0, 1) := by decide +kernel
theorem dX11_mend_2 : decode cX11_mend 2 = .ok (.putfield 94, 3) := by decide +kernel
theorem dX11_mend_5 : decode cX11_mend 5 = .ok (.aload_n 0, 1) := by decide +kernel
theorem dX11_mend_6 : decode cX11_mend 6 = .ok (.iload_n 1, 1) := by decide +kernel
theorem dX11_mend_7 : decode cX11_mend 7 = .ok (.invokevirtual 259, 3) := by decide +kernel
theorem dX11_mend_10 : decode cX11_mend 10 = .ok (.ifCond .ne 5, 3) := by decide +kernel
theorem dX11_mend_13 : decode cX11_mend 13 = .ok (.iconst (-1), 1) := by decide +kernel
theorem dX11_mend_14 : decode cX11_mend 14 = .ok (.ireturn, 1) := by decide +kernel
theorem dX11_mend_15 : decode cX11_mend 15 = .ok (.iconst 0, 1) := by decide +kernel
theorem dX11_mend_16 : decode cX11_mend 16 = .ok (.istore_n 2, 1) := by decide +kernel
theorem dX11_mend_17 : decode cX11_mend 17 = .ok (.iload_n 2, 1) := by decide +kernel
theorem dX11_mend_18 : decode cX11_mend 18 = .ok (.iconst 3, 1) := by decide +kernel
theorem dX11_mend_19 : decode cX11_mend 19 = .ok (.if_icmp .gt 150, 3) := by decide +kernel
theorem dX11_mend_22 : decode cX11_mend 22 = .ok (.iload_n 2, 1) := by decide +kernel
theorem dX11_mend_23 : decode cX11_mend 23 = .ok (.aload_n 0, 1) := by decide +kernel
theorem dX11_mend_24 : decode cX11_mend 24 = .ok (.getfield 47, 3) := by decide +kernel
theorem dX11_mend_27 : decode cX11_mend 27 = .ok (.iload_n 1, 1) := by decide +kernel
theorem dX11_mend_28 : decode cX11_mend 28 = .ok (.iaload, 1) := by decide +kernel
theorem dX11_mend_29 : decode cX11_mend 29 = .ok (.if_icmp .gt 140, 3) := by decide +kernel
theorem dX11_mend_32 : decode cX11_mend 32 = .ok (.iconst 0, 1) := by decide +kernel
theorem dX11_mend_33 : decode cX11_mend 33 = .ok (.istore_n 3, 1) := by decide +kernel
theorem dX11_mend_34 : decode cX11_mend 34 = .ok (.iload_n 3, 1) := by decide +kernel
theorem dX11_mend_35 : decode cX11_mend 35 = .ok (.iload_n 2, 1) := by decide +kernel
theorem dX11_mend_36 : decode cX11_mend 36 = .ok (.if_icmp .ge 23, 3) := by decide +kernel
theorem dX11_mend_39 : decode cX11_mend 39 = .ok (.aload_n 0, 1) := by decide +kernel
theorem dX11_mend_40 : decode cX11_mend 40 = .ok (.getfield 84, 3) := by decide +kernel
theorem dX11_mend_43 : decode cX11_mend 43 = .ok (.iload_n 3, 1) := by decide +kernel
theorem dX11_mend_44 : decode cX11_mend 44 = .ok (.iload_n 3, 1) := by decide +kernel
theorem dX11_mend_45 : decode cX11_mend 45 = .ok (.iastore, 1) := by decide +kernel
theorem dX11_mend_46 : decode cX11_mend 46 = .ok (.aload_n 0, 1) := by decide +kernel
theorem dX11_mend_47 : decode cX11_mend 47 = .ok (.getfield 87, 3) := by decide +kernel
theorem dX11_mend_50 : decode cX11_mend 50 = .ok (.iload_n 3, 1) := by decide +kernel
theorem dX11_mend_51 : decode cX11_mend 51 = .ok (.iconst 0, 1) := by decide +kernel
theorem dX11_mend_52 : decode cX11_mend 52 = .ok (.iastore, 1) := by decide +kernel
theorem dX11_mend_53 : decode cX11_mend 53 = .ok (.iinc 3 1, 3) := by decide +kernel
theorem dX11_mend_56 : decode cX11_mend 56 = .ok (.goto (-22), 3) := by decide +kernel
theorem dX11_mend_59 : decode cX11_mend 59 = .ok (.aload_n 0, 1) := by decide +kernel
theorem dX11_mend_60 : decode cX11_mend 60 = .ok (.iload_n 1, 1) := by decide +kernel
theorem dX11_mend_61 : decode cX11_mend 61 = .ok (.iload_n 2, 1) := by decide +kernel
theorem dX11_mend_62 : decode cX11_mend 62 = .ok (.invokevirtual 326, 3) := by decide +kernel
theorem dX11_mend_65 : decode cX11_mend 65 = .ok (.istore_n 3, 1) := by decide +kernel
theorem dX11_mend_66 : decode cX11_mend 66 = .ok (.iload_n 3, 1) := by decide +kernel
theorem dX11_mend_67 : decode cX11_mend 67 = .ok (.ifCond .ne 22, 3) := by decide +kernel
theorem dX11_mend_70 : decode cX11_mend 70 = .ok (.aload_n 0, 1) := by decide +kernel
theorem dX11_mend_71 : decode cX11_mend 71 = .ok (.iload_n 1, 1) := by decide +kernel
theorem dX11_mend_72 : decode cX11_mend 72 = .ok (.iload_n 2, 1) := by decide +kernel
theorem dX11_mend_73 : decode cX11_mend 73 = .ok (.invokevirtual 329, 3) := by decide +kernel
theorem dX11_mend_76 : decode cX11_mend 76 = .ok (.ifCond .eq 13, 3) := by decide +kernel
theorem dX11_mend_79 : decode cX11_mend 79 = .ok (.aload_n 0, 1) := by decide +kernel
theorem dX11_mend_80 : decode cX11_mend 80 = .ok (.iload_n 1, 1) := by decide +kernel
theorem dX11_mend_81 : decode cX11_mend 81 = .ok (.iload_n 2, 1) := by decide +kernel
theorem dX11_mend_82 : decode cX11_mend 82 = .ok (.invokevirtual 326, 3) := by decide +kernel
theorem dX11_mend_85 : decode cX11_mend 85 = .ok (.istore_n 3, 1) := by decide +kernel
theorem dX11_mend_86 : decode cX11_mend 86 = .ok (.goto (-20), 3) := by decide +kernel
theorem dX11_mend_89 : decode cX11_mend 89 = .ok (.iload_n 3, 1) := by decide +kernel
theorem dX11_mend_90 : decode cX11_mend 90 = .ok (.ifCond .eq 73, 3) := by decide +kernel
theorem dX11_mend_93 : decode cX11_mend 93 = .ok (.aload_n 0, 1) := by decide +kernel
theorem dX11_mend_94 : decode cX11_mend 94 = .ok (.iconst 1, 1) := by decide +kernel
theorem dX11_mend_95 : decode cX11_mend 95 = .ok (.putfield 332, 3) := by decide +kernel
theorem dX11_mend_98 : decode cX11_mend 98 = .ok (.aload_n 0, 1) := by decide +kernel
theorem dX11_mend_99 : decode cX11_mend 99 = .ok (.iload_n 1, 1) := by decide +kernel
theorem dX11_mend_100 : decode cX11_mend 100 = .ok (.putfield 336, 3) := by decide +kernel
theorem dX11_mend_103 : decode cX11_mend 103 = .ok (.aload_n 0, 1) := by decide +kernel
theorem dX11_mend_104 : decode cX11_mend 104 = .ok (.aload_n 0, 1) := by decide +kernel
theorem dX11_mend_105 : decode cX11_mend 105 = .ok (.getfield 72, 3) := by decide +kernel
theorem dX11_mend_108 : decode cX11_mend 108 = .ok (.iload_n 1, 1) := by decide +kernel
theorem dX11_mend_109 : decode cX11_mend 109 = .ok (.iaload, 1) := by decide +kernel
theorem dX11_mend_110 : decode cX11_mend 110 = .ok (.putfield 339, 3) := by decide +kernel
theorem dX11_mend_113 : decode cX11_mend 113 = .ok (.aload_n 0, 1) := by decide +kernel
theorem dX11_mend_114 : decode cX11_mend 114 = .ok (.iload_n 2, 1) := by decide +kernel
theorem dX11_mend_115 : decode cX11_mend 115 = .ok (.putfield 342, 3) := by decide +kernel
theorem dX11_mend_118 : decode cX11_mend 118 = .ok (.iconst 0, 1) := by decide +kernel
theorem dX11_mend_119 : decode cX11_mend 119 = .ok (.istore 4, 2) := by decide +kernel
theorem dX11_mend_121 : decode cX11_mend 121 = .ok (.iload 4, 2) := by decide +kernel
theorem dX11_mend_123 : decode cX11_mend 123 = .ok (.iload_n 2, 1) := by decide +kernel
theorem dX11_mend_124 : decode cX11_mend 124 = .ok (.if_icmp .ge 37, 3) := by decide +kernel
theorem dX11_mend_127 : decode cX11_mend 127 = .ok (.aload_n 0, 1) := by decide +kernel
theorem dX11_mend_128 : decode cX11_mend 128 = .ok (.getfield 78, 3) := by decide +kernel
theorem dX11_mend_131 : decode cX11_mend 131 = .ok (.iload 4, 2) := by decide +kernel
theorem dX11_mend_133 : decode cX11_mend 133 = .ok (.aload_n 0, 1) := by decide +kernel
theorem dX11_mend_134 : decode cX11_mend 134 = .ok (.getfield 84, 3) := by decide +kernel
theorem dX11_mend_137 : decode cX11_mend 137 = .ok (.iload 4, 2) := by decide +kernel
theorem dX11_mend_139 : decode cX11_mend 139 = .ok (.iaload, 1) := by decide +kernel
theorem dX11_mend_140 : decode cX11_mend 140 = .ok (.iastore, 1) := by decide +kernel
theorem dX11_mend_141 : decode cX11_mend 141 = .ok (.aload_n 0, 1) := by decide +kernel
theorem dX11_mend_142 : decode cX11_mend 142 = .ok (.getfield 81, 3) := by decide +kernel
theorem dX11_mend_145 : decode cX11_mend 145 = .ok (.iload 4, 2) := by decide +kernel
theorem dX11_mend_147 : decode cX11_mend 147 = .ok (.aload_n 0, 1) := by decide +kernel
theorem dX11_mend_148 : decode cX11_mend 148 = .ok (.getfield 87, 3) := by decide +kernel
theorem dX11_mend_151 : decode cX11_mend 151 = .ok (.iload 4, 2) := by decide +kernel
theorem dX11_mend_153 : decode cX11_mend 153 = .ok (.iaload, 1) := by decide +kernel
theorem dX11_mend_154 : decode cX11_mend 154 = .ok (.iastore, 1) := by decide +kernel
theorem dX11_mend_155 : decode cX11_mend 155 = .ok (.iinc 4 1, 3) := by decide +kernel
theorem dX11_mend_158 : decode cX11_mend 158 = .ok (.goto (-37), 3) := by decide +kernel
theorem dX11_mend_161 : decode cX11_mend 161 = .ok (.iload_n 2, 1) := by decide +kernel
theorem dX11_mend_162 : decode cX11_mend 162 = .ok (.ireturn, 1) := by decide +kernel
theorem dX11_mend_163 : decode cX11_mend 163 = .ok (.iinc 2 1, 3) := by decide +kernel
theorem dX11_mend_166 : decode cX11_mend 166 = .ok (.goto (-149), 3) := by decide +kernel
theorem dX11_mend_169 : decode cX11_mend 169 = .ok (.iconst (-1), 1) := by decide +kernel
theorem dX11_mend_170 : decode cX11_mend 170 = .ok (.ireturn, 1) := by decide +kernel
theorem dX11_change_0 : decode cX11_change 0 = .ok (.aload_n 0, 1) := by decide +kernel
theorem dX11_change_1 : decode cX11_change 1 = .ok (.iconst 0, 1) := by decide +kernel
theorem dX11_change_2 : decode cX11_change 2 = .ok (.putfield 94, 3) := by decide +kernel
theorem dX11_change_5 : decode cX11_change 5 = .ok (.aload_n 0, 1) := by decide +kernel
theorem dX11_change_6 : decode cX11_change 6 = .ok (.getfield 332, 3) := by decide +kernel
theorem dX11_change_9 : decode cX11_change 9 = .ok (.ifCond .eq 17, 3) := by decide +kernel
theorem dX11_change_12 : decode cX11_change 12 = .ok (.iload_n 1, 1) := by decide +kernel
theorem dX11_change_13 : decode cX11_change 13 = .ok (.iconst 0, 1) := by decide +kernel
theorem dX11_change_14 : decode cX11_change 14 = .ok (.aload_n 0, 1) := by decide +kernel
theorem dX11_change_15 : decode cX11_change 15 = .ok (.getfield 342, 3) := by decide +kernel
theorem dX11_change_18 : decode cX11_change 18 = .ok (.iconst 1, 1) := by decide +kernel
theorem dX11_change_19 : decode cX11_change 19 = .ok (.isub, 1) := by decide +kernel
theorem dX11_change_20 : decode cX11_change 20 = .ok (.invokestatic 108, 3) := by decide +kernel
theorem dX11_change_23 : decode cX11_change 23 = .ok (.ifCond .ne 7, 3) := by decide +kernel
theorem dX11_change_26 : decode cX11_change 26 = .ok (.iconst (-1), 1) := by decide +kernel
theorem dX11_change_27 : decode cX11_change 27 = .ok (.goto 31, 3) := by decide +kernel
theorem dX11_change_30 : decode cX11_change 30 = .ok (.iload_n 2, 1) := by decide +kernel
theorem dX11_change_31 : decode cX11_change 31 = .ok (.ifCond .ne 12, 3) := by decide +kernel
theorem dX11_change_34 : decode cX11_change 34 = .ok (.aload_n 0, 1) := by decide +kernel
theorem dX11_change_35 : decode cX11_change 35 = .ok (.getfield 78, 3) := by decide +kernel
theorem dX11_change_38 : decode cX11_change 38 = .ok (.iload_n 1, 1) := by decide +kernel
theorem dX11_change_39 : decode cX11_change 39 = .ok (.iaload, 1) := by decide +kernel
theorem dX11_change_40 : decode cX11_change 40 = .ok (.goto 18, 3) := by decide +kernel
theorem dX11_change_43 : decode cX11_change 43 = .ok (.iload_n 2, 1) := by decide +kernel
theorem dX11_change_44 : decode cX11_change 44 = .ok (.iconst 1, 1) := by decide +kernel
theorem dX11_change_45 : decode cX11_change 45 = .ok (.if_icmp .ne 12, 3) := by decide +kernel
theorem dX11_change_48 : decode cX11_change 48 = .ok (.aload_n 0, 1) := by decide +kernel
theorem dX11_change_49 : decode cX11_change 49 = .ok (.getfield 81, 3) := by decide +kernel
theorem dX11_change_52 : decode cX11_change 52 = .ok (.iload_n 1, 1) := by decide +kernel
theorem dX11_change_53 : decode cX11_change 53 = .ok (.iaload, 1) := by decide +kernel
theorem dX11_change_54 : decode cX11_change 54 = .ok (.goto 4, 3) := by decide +kernel
theorem dX11_change_57 : decode cX11_change 57 = .ok (.iconst (-1), 1) := by decide +kernel
theorem dX11_change_58 : decode cX11_change 58 = .ok (.ireturn, 1) := by decide +kernel
theorem dX11_apply_0 : decode cX11_apply 0 = .ok (.aload_n 0, 1) := by decide +kernel
theorem dX11_apply_1 : decode cX11_apply 1 = .ok (.iconst 0, 1) := by decide +kernel
theorem dX11_apply_2 : decode cX11_apply 2 = .ok (.putfield 94, 3) := by decide +kernel
theorem dX11_apply_5 : decode cX11_apply 5 = .ok (.aload_n 0, 1) := by decide +kernel
theorem dX11_apply_6 : decode cX11_apply 6 = .ok (.getfield 332, 3) := by decide +kernel
theorem dX11_apply_9 : decode cX11_apply 9 = .ok (.ifCond .eq 19, 3) := by decide +kernel
theorem dX11_apply_12 : decode cX11_apply 12 = .ok (.aload_n 0, 1) := by decide +kernel
theorem dX11_apply_13 : decode cX11_apply 13 = .ok (.getfield 72, 3) := by decide +kernel
theorem dX11_apply_16 : decode cX11_apply 16 = .ok (.aload_n 0, 1) := by decide +kernel
theorem dX11_apply_17 : decode cX11_apply 17 = .ok (.getfield 336, 3) := by decide +kernel
theorem dX11_apply_20 : decode cX11_apply 20 = .ok (.iaload, 1) := by decide +kernel
theorem dX11_apply_21 : decode cX11_apply 21 = .ok (.aload_n 0, 1) := by decide +kernel
theorem dX11_apply_22 : decode cX11_apply 22 = .ok (.getfield 339, 3) := by decide +kernel
theorem dX11_apply_25 : decode cX11_apply 25 = .ok (.if_icmp .eq 5, 3) := by decide +kernel
theorem dX11_apply_28 : decode cX11_apply 28 = .ok (.iconst (-1), 1) := by decide +kernel
theorem dX11_apply_29 : decode cX11_apply 29 = .ok (.ireturn, 1) := by decide +kernel
