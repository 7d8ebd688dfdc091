theorem dX0_init_0 : decode cX0_init 0 = .ok (.aload_n 0, 1) := by decide +kernel
theorem dX0_init_1 : decode cX0_init 1 = .ok (.invokespecial 3, 3) := by decide +kernel
theorem dX0_init_4 : decode cX0_init 4 = .ok (.aload_n 0, 1) := by decide +kernel
theorem dX0_init_5 : decode cX0_init 5 = .ok (.iload_n 1, 1) := by decide +kernel
theorem dX0_init_6 : decode cX0_init 6 = .ok (.putfield 9, 3) := by decide +kernel
theorem dX0_init_9 : decode cX0_init 9 = .ok (.aload_n 0, 1) := by decide +kernel
theorem dX0_init_10 : decode cX0_init 10 = .ok (.iload_n 2, 1) := by decide +kernel
theorem dX0_init_11 : decode cX0_init 11 = .ok (.putfield 15, 3) := by decide +kernel
theorem dX0_init_14 : decode cX0_init 14 = .ok (.aload_n 0, 1) := by decide +kernel
theorem dX0_init_15 : decode cX0_init 15 = .ok (.iload_n 3, 1) := by decide +kernel
theorem dX0_init_16 : decode cX0_init 16 = .ok (.putfield 19, 3) := by decide +kernel
theorem dX0_init_19 : decode cX0_init 19 = .ok (.aload_n 0, 1) := by decide +kernel
theorem dX0_init_20 : decode cX0_init 20 = .ok (.iload 4, 2) := by decide +kernel
theorem dX0_init_22 : decode cX0_init 22 = .ok (.putfield 22, 3) := by decide +kernel
theorem dX0_init_25 : decode cX0_init 25 = .ok (.aload_n 0, 1) := by decide +kernel
theorem dX0_init_26 : decode cX0_init 26 = .ok (.iload 5, 2) := by decide +kernel
theorem dX0_init_28 : decode cX0_init 28 = .ok (.putfield 25, 3) := by decide +kernel
theorem dX0_init_31 : decode cX0_init 31 = .ok (.aload_n 0, 1) := by decide +kernel
theorem dX0_init_32 : decode cX0_init 32 = .ok (.iload 6, 2) := by decide +kernel
theorem dX0_init_34 : decode cX0_init 34 = .ok (.putfield 28, 3) := by decide +kernel
theorem dX0_init_37 : decode cX0_init 37 = .ok (.aload_n 0, 1) := by decide +kernel
theorem dX0_init_38 : decode cX0_init 38 = .ok (.aload 7, 2) := by decide +kernel
theorem dX0_init_40 : decode cX0_init 40 = .ok (.putfield 31, 3) := by decide +kernel
theorem dX0_init_43 : decode cX0_init 43 = .ok (.return_, 1) := by decide +kernel
theorem dX0_turned_0 : decode cX0_turned 0 = .ok (.new 10, 3) := by decide +kernel
theorem dX0_turned_3 : decode cX0_turned 3 = .ok (.dup, 1) := by decide +kernel
theorem dX0_turned_4 : decode cX0_turned 4 = .ok (.aload_n 0, 1) := by decide +kernel
theorem dX0_turned_5 : decode cX0_turned 5 = .ok (.getfield 9, 3) := by decide +kernel
theorem dX0_turned_8 : decode cX0_turned 8 = .ok (.ifCond .ne 7, 3) := by decide +kernel
theorem dX0_turned_11 : decode cX0_turned 11 = .ok (.iconst 1, 1) := by decide +kernel
theorem dX0_turned_12 : decode cX0_turned 12 = .ok (.goto 4, 3) := by decide +kernel
theorem dX0_turned_15 : decode cX0_turned 15 = .ok (.iconst 0, 1) := by decide +kernel
theorem dX0_turned_16 : decode cX0_turned 16 = .ok (.aload_n 0, 1) := by decide +kernel
theorem dX0_turned_17 : decode cX0_turned 17 = .ok (.getfield 15, 3) := by decide +kernel
theorem dX0_turned_20 : decode cX0_turned 20 = .ok (.aload_n 0, 1) := by decide +kernel
theorem dX0_turned_21 : decode cX0_turned 21 = .ok (.getfield 19, 3) := by decide +kernel
theorem dX0_turned_24 : decode cX0_turned 24 = .ok (.aload_n 0, 1) := by decide +kernel
theorem dX0_turned_25 : decode cX0_turned 25 = .ok (.getfield 22, 3) := by decide +kernel
theorem dX0_turned_28 : decode cX0_turned 28 = .ok (.aload_n 0, 1) := by decide +kernel
theorem dX0_turned_29 : decode cX0_turned 29 = .ok (.getfield 25, 3) := by decide +kernel
theorem dX0_turned_32 : decode cX0_turned 32 = .ok (.aload_n 0, 1) := by decide +kernel
theorem dX0_turned_33 : decode cX0_turned 33 = .ok (.getfield 28, 3) := by decide +kernel
theorem dX0_turned_36 : decode cX0_turned 36 = .ok (.aload_n 0, 1) := by decide +kernel
theorem dX0_turned_37 : decode cX0_turned 37 = .ok (.getfield 31, 3) := by decide +kernel
theorem dX0_turned_40 : decode cX0_turned 40 = .ok (.invokespecial 35, 3) := by decide +kernel
theorem dX0_turned_43 : decode cX0_turned 43 = .ok (.areturn, 1) := by decide +kernel
theorem dX0_part_0 : decode cX0_part 0 = .ok (.iload_n 1, 1) := by decide +kernel
theorem dX0_part_1 : decode cX0_part 1 = .ok (.tableswitch 95 0 6 #[43, 56, 61, 66, 71, 76, 81], 43) := by decide +kernel
theorem dX0_part_44 : decode cX0_part 44 = .ok (.aload_n 0, 1) := by decide +kernel
theorem dX0_part_45 : decode cX0_part 45 = .ok (.getfield 9, 3) := by decide +kernel
theorem dX0_part_48 : decode cX0_part 48 = .ok (.ifCond .eq 7, 3) := by decide +kernel
theorem dX0_part_51 : decode cX0_part 51 = .ok (.iconst 1, 1) := by decide +kernel
theorem dX0_part_52 : decode cX0_part 52 = .ok (.goto 4, 3) := by decide +kernel
theorem dX0_part_55 : decode cX0_part 55 = .ok (.iconst 0, 1) := by decide +kernel
theorem dX0_part_56 : decode cX0_part 56 = .ok (.ireturn, 1) := by decide +kernel
theorem dX0_part_57 : decode cX0_part 57 = .ok (.aload_n 0, 1) := by decide +kernel
theorem dX0_part_58 : decode cX0_part 58 = .ok (.getfield 15, 3) := by decide +kernel
theorem dX0_part_61 : decode cX0_part 61 = .ok (.ireturn, 1) := by decide +kernel
theorem dX0_part_62 : decode cX0_part 62 = .ok (.aload_n 0, 1) := by decide +kernel
theorem dX0_part_63 : decode cX0_part 63 = .ok (.getfield 19, 3) := by decide +kernel
theorem dX0_part_66 : decode cX0_part 66 = .ok (.ireturn, 1) := by decide +kernel
theorem dX0_part_67 : decode cX0_part 67 = .ok (.aload_n 0, 1) := by decide +kernel
theorem dX0_part_68 : decode cX0_part 68 = .ok (.getfield 22, 3) := by decide +kernel
theorem dX0_part_71 : decode cX0_part 71 = .ok (.ireturn, 1) := by decide +kernel
theorem dX0_part_72 : decode cX0_part 72 = .ok (.aload_n 0, 1) := by decide +kernel
theorem dX0_part_73 : decode cX0_part 73 = .ok (.getfield 25, 3) := by decide +kernel
theorem dX0_part_76 : decode cX0_part 76 = .ok (.ireturn, 1) := by decide +kernel
theorem dX0_part_77 : decode cX0_part 77 = .ok (.aload_n 0, 1) := by decide +kernel
theorem dX0_part_78 : decode cX0_part 78 = .ok (.getfield 28, 3) := by decide +kernel
theorem dX0_part_81 : decode cX0_part 81 = .ok (.ireturn, 1) := by decide +kernel
theorem dX0_part_82 : decode cX0_part 82 = .ok (.aload_n 0, 1) := by decide +kernel
theorem dX0_part_83 : decode cX0_part 83 = .ok (.getfield 31, 3) := by decide +kernel
theorem dX0_part_86 : decode cX0_part 86 = .ok (.arraylength, 1) := by decide +kernel
theorem dX0_part_87 : decode cX0_part 87 = .ok (.ifCond .le 7, 3) := by decide +kernel
theorem dX0_part_90 : decode cX0_part 90 = .ok (.iconst 1, 1) := by decide +kernel
theorem dX0_part_91 : decode cX0_part 91 = .ok (.goto 4, 3) := by decide +kernel
theorem dX0_part_94 : decode cX0_part 94 = .ok (.iconst 0, 1) := by decide +kernel
theorem dX0_part_95 : decode cX0_part 95 = .ok (.ireturn, 1) := by decide +kernel
theorem dX0_part_96 : decode cX0_part 96 = .ok (.iconst (-1), 1) := by decide +kernel
theorem dX0_part_97 : decode cX0_part 97 = .ok (.ireturn, 1) := by decide +kernel
theorem dX0_step_0 : decode cX0_step 0 = .ok (.iload_n 0, 1) := by decide +kernel
theorem dX0_step_1 : decode cX0_step 1 = .ok (.bipush 11, 2) := by decide +kernel
theorem dX0_step_3 : decode cX0_step 3 = .ok (.ishl, 1) := by decide +kernel
theorem dX0_step_4 : decode cX0_step 4 = .ok (.iload_n 1, 1) := by decide +kernel
theorem dX0_step_5 : decode cX0_step 5 = .ok (.ior, 1) := by decide +kernel
theorem dX0_step_6 : decode cX0_step 6 = .ok (.bipush 11, 2) := by decide +kernel
theorem dX0_step_8 : decode cX0_step 8 = .ok (.ishl, 1) := by decide +kernel
theorem dX0_step_9 : decode cX0_step 9 = .ok (.iload_n 2, 1) := by decide +kernel
theorem dX0_step_10 : decode cX0_step 10 = .ok (.ior, 1) := by decide +kernel
theorem dX0_step_11 : decode cX0_step 11 = .ok (.ireturn, 1) := by decide +kernel
theorem dX0_deedOf_0 : decode cX0_deedOf 0 = .ok (.iload_n 0, 1) := by decide +kernel
theorem dX0_deedOf_1 : decode cX0_deedOf 1 = .ok (.bipush 22, 2) := by decide +kernel
theorem dX0_deedOf_3 : decode cX0_deedOf 3 = .ok (.iushr, 1) := by decide +kernel
theorem dX0_deedOf_4 : decode cX0_deedOf 4 = .ok (.ireturn, 1) := by decide +kernel
theorem dX0_leftOf_0 : decode cX0_leftOf 0 = .ok (.iload_n 0, 1) := by decide +kernel
theorem dX0_leftOf_1 : decode cX0_leftOf 1 = .ok (.bipush 11, 2) := by decide +kernel
theorem dX0_leftOf_3 : decode cX0_leftOf 3 = .ok (.iushr, 1) := by decide +kernel
theorem dX0_leftOf_4 : decode cX0_leftOf 4 = .ok (.sipush 2047, 3) := by decide +kernel
theorem dX0_leftOf_7 : decode cX0_leftOf 7 = .ok (.iand, 1) := by decide +kernel
theorem dX0_leftOf_8 : decode cX0_leftOf 8 = .ok (.ireturn, 1) := by decide +kernel
theorem dX0_rightOf_0 : decode cX0_rightOf 0 = .ok (.iload_n 0, 1) := by decide +kernel
theorem dX0_rightOf_1 : decode cX0_rightOf 1 = .ok (.sipush 2047, 3) := by decide +kernel
theorem dX0_rightOf_4 : decode cX0_rightOf 4 = .ok (.iand, 1) := by decide +kernel
theorem dX0_rightOf_5 : decode cX0_rightOf 5 = .ok (.ireturn, 1) := by decide +kernel
theorem dX1_init_0 : decode cX1_init 0 = .ok (.aload_n 0, 1) := by decide +kernel
theorem dX1_init_1 : decode cX1_init 1 = .ok (.invokespecial 3, 3) := by decide +kernel
theorem dX1_init_4 : decode cX1_init 4 = .ok (.aload_n 0, 1) := by decide +kernel
theorem dX1_init_5 : decode cX1_init 5 = .ok (.iload_n 1, 1) := by decide +kernel
theorem dX1_init_6 : decode cX1_init 6 = .ok (.putfield 9, 3) := by decide +kernel
theorem dX1_init_9 : decode cX1_init 9 = .ok (.aload_n 0, 1) := by decide +kernel
theorem dX1_init_10 : decode cX1_init 10 = .ok (.iload_n 2, 1) := by decide +kernel
theorem dX1_init_11 : decode cX1_init 11 = .ok (.putfield 15, 3) := by decide +kernel
theorem dX1_init_14 : decode cX1_init 14 = .ok (.aload_n 0, 1) := by decide +kernel
theorem dX1_init_15 : decode cX1_init 15 = .ok (.iload_n 3, 1) := by decide +kernel
theorem dX1_init_16 : decode cX1_init 16 = .ok (.putfield 18, 3) := by decide +kernel
theorem dX1_init_19 : decode cX1_init 19 = .ok (.aload_n 0, 1) := by decide +kernel
theorem dX1_init_20 : decode cX1_init 20 = .ok (.iconst 1, 1) := by decide +kernel
theorem dX1_init_21 : decode cX1_init 21 = .ok (.putfield 21, 3) := by decide +kernel
theorem dX1_init_24 : decode cX1_init 24 = .ok (.return_, 1) := by decide +kernel
theorem dX1_changeAt_0 : decode cX1_changeAt 0 = .ok (.aload_n 0, 1) := by decide +kernel
theorem dX1_changeAt_1 : decode cX1_changeAt 1 = .ok (.iload_n 1, 1) := by decide +kernel
theorem dX1_changeAt_2 : decode cX1_changeAt 2 = .ok (.invokevirtual 25, 3) := by decide +kernel
theorem dX1_changeAt_5 : decode cX1_changeAt 5 = .ok (.istore_n 3, 1) := by decide +kernel
theorem dX1_changeAt_6 : decode cX1_changeAt 6 = .ok (.iload_n 3, 1) := by decide +kernel
theorem dX1_changeAt_7 : decode cX1_changeAt 7 = .ok (.iconst (-1), 1) := by decide +kernel
theorem dX1_changeAt_8 : decode cX1_changeAt 8 = .ok (.if_icmp .eq 12, 3) := by decide +kernel
theorem dX1_changeAt_11 : decode cX1_changeAt 11 = .ok (.iload_n 2, 1) := by decide +kernel
theorem dX1_changeAt_12 : decode cX1_changeAt 12 = .ok (.ifCond .lt 8, 3) := by decide +kernel
theorem dX1_changeAt_15 : decode cX1_changeAt 15 = .ok (.iload_n 2, 1) := by decide +kernel
theorem dX1_changeAt_16 : decode cX1_changeAt 16 = .ok (.iconst 1, 1) := by decide +kernel
theorem dX1_changeAt_17 : decode cX1_changeAt 17 = .ok (.if_icmp .le 5, 3) := by decide +kernel
theorem dX1_changeAt_20 : decode cX1_changeAt 20 = .ok (.iconst (-1), 1) := by decide +kernel
theorem dX1_changeAt_21 : decode cX1_changeAt 21 = .ok (.ireturn, 1) := by decide +kernel
theorem dX1_changeAt_22 : decode cX1_changeAt 22 = .ok (.iload_n 2, 1) := by decide +kernel
theorem dX1_changeAt_23 : decode cX1_changeAt 23 = .ok (.ifCond .ne 5, 3) := by decide +kernel
theorem dX1_changeAt_26 : decode cX1_changeAt 26 = .ok (.iload_n 3, 1) := by decide +kernel
theorem dX1_changeAt_27 : decode cX1_changeAt 27 = .ok (.ireturn, 1) := by decide +kernel
theorem dX1_changeAt_28 : decode cX1_changeAt 28 = .ok (.aload_n 0, 1) := by decide +kernel
theorem dX1_changeAt_29 : decode cX1_changeAt 29 = .ok (.getfield 18, 3) := by decide +kernel
theorem dX1_changeAt_32 : decode cX1_changeAt 32 = .ok (.iload_n 3, 1) := by decide +kernel
theorem dX1_changeAt_33 : decode cX1_changeAt 33 = .ok (.invokestatic 29, 3) := by decide +kernel
theorem dX1_changeAt_36 : decode cX1_changeAt 36 = .ok (.ifCond .eq 7, 3) := by decide +kernel
theorem dX1_changeAt_39 : decode cX1_changeAt 39 = .ok (.iconst 1, 1) := by decide +kernel
theorem dX1_changeAt_40 : decode cX1_changeAt 40 = .ok (.goto 4, 3) := by decide +kernel
theorem dX1_changeAt_43 : decode cX1_changeAt 43 = .ok (.iconst 0, 1) := by decide +kernel
theorem dX1_changeAt_44 : decode cX1_changeAt 44 = .ok (.ireturn, 1) := by decide +kernel
theorem dX1_lineOf_0 : decode cX1_lineOf 0 = .ok (.iconst 0, 1) := by decide +kernel
theorem dX1_lineOf_1 : decode cX1_lineOf 1 = .ok (.istore_n 2, 1) := by decide +kernel
theorem dX1_lineOf_2 : decode cX1_lineOf 2 = .ok (.iconst 0, 1) := by decide +kernel
theorem dX1_lineOf_3 : decode cX1_lineOf 3 = .ok (.istore_n 3, 1) := by decide +kernel
theorem dX1_lineOf_4 : decode cX1_lineOf 4 = .ok (.iload_n 3, 1) := by decide +kernel
theorem dX1_lineOf_5 : decode cX1_lineOf 5 = .ok (.bipush 12, 2) := by decide +kernel
theorem dX1_lineOf_7 : decode cX1_lineOf 7 = .ok (.if_icmp .ge 35, 3) := by decide +kernel
theorem dX1_lineOf_10 : decode cX1_lineOf 10 = .ok (.aload_n 0, 1) := by decide +kernel
theorem dX1_lineOf_11 : decode cX1_lineOf 11 = .ok (.getfield 15, 3) := by decide +kernel
theorem dX1_lineOf_14 : decode cX1_lineOf 14 = .ok (.aload_n 0, 1) := by decide +kernel
theorem dX1_lineOf_15 : decode cX1_lineOf 15 = .ok (.getfield 18, 3) := by decide +kernel
theorem dX1_lineOf_18 : decode cX1_lineOf 18 = .ok (.ior, 1) := by decide +kernel
theorem dX1_lineOf_19 : decode cX1_lineOf 19 = .ok (.iload_n 3, 1) := by decide +kernel
theorem dX1_lineOf_20 : decode cX1_lineOf 20 = .ok (.invokestatic 29, 3) := by decide +kernel
theorem dX1_lineOf_23 : decode cX1_lineOf 23 = .ok (.ifCond .eq 13, 3) := by decide +kernel
theorem dX1_lineOf_26 : decode cX1_lineOf 26 = .ok (.iload_n 2, 1) := by decide +kernel
theorem dX1_lineOf_27 : decode cX1_lineOf 27 = .ok (.iload_n 1, 1) := by decide +kernel
theorem dX1_lineOf_28 : decode cX1_lineOf 28 = .ok (.if_icmp .ne 5, 3) := by decide +kernel
theorem dX1_lineOf_31 : decode cX1_lineOf 31 = .ok (.iload_n 3, 1) := by decide +kernel
theorem dX1_lineOf_32 : decode cX1_lineOf 32 = .ok (.ireturn, 1) := by decide +kernel
theorem dX1_lineOf_33 : decode cX1_lineOf 33 = .ok (.iinc 2 1, 3) := by decide +kernel
theorem dX1_lineOf_36 : decode cX1_lineOf 36 = .ok (.iinc 3 1, 3) := by decide +kernel
theorem dX1_lineOf_39 : decode cX1_lineOf 39 = .ok (.goto (-35), 3) := by decide +kernel
theorem dX1_lineOf_42 : decode cX1_lineOf 42 = .ok (.iconst (-1), 1) := by decide +kernel
theorem dX1_lineOf_43 : decode cX1_lineOf 43 = .ok (.ireturn, 1) := by decide +kernel
theorem dX2_init_0 : decode cX2_init 0 = .ok (.aload_n 0, 1) := by decide +kernel
theorem dX2_init_1 : decode cX2_init 1 = .ok (.invokespecial 3, 3) := by decide +kernel
theorem dX2_init_4 : decode cX2_init 4 = .ok (.aload_n 0, 1) := by decide +kernel
theorem dX2_init_5 : decode cX2_init 5 = .ok (.new 9, 3) := by decide +kernel
theorem dX2_init_8 : decode cX2_init 8 = .ok (.dup, 1) := by decide +kernel
theorem dX2_init_9 : decode cX2_init 9 = .ok (.aload_n 1, 1) := by decide +kernel
theorem dX2_init_10 : decode cX2_init 10 = .ok (.invokespecial 11, 3) := by decide +kernel
theorem dX2_init_13 : decode cX2_init 13 = .ok (.putfield 14, 3) := by decide +kernel
theorem dX2_init_16 : decode cX2_init 16 = .ok (.aload_n 0, 1) := by decide +kernel
theorem dX2_init_17 : decode cX2_init 17 = .ok (.bipush 12, 2) := by decide +kernel
theorem dX2_init_19 : decode cX2_init 19 = .ok (.anewarray 20, 3) := by decide +kernel
theorem dX2_init_22 : decode cX2_init 22 = .ok (.putfield 22, 3) := by decide +kernel
theorem dX2_init_25 : decode cX2_init 25 = .ok (.aload_n 0, 1) := by decide +kernel
theorem dX2_init_26 : decode cX2_init 26 = .ok (.sipush 600, 3) := by decide +kernel
theorem dX2_init_29 : decode cX2_init 29 = .ok (.newarray .int, 2) := by decide +kernel
theorem dX2_init_31 : decode cX2_init 31 = .ok (.putfield 26, 3) := by decide +kernel
theorem dX2_init_34 : decode cX2_init 34 = .ok (.aload_n 0, 1) := by decide +kernel
theorem dX2_init_35 : decode cX2_init 35 = .ok (.iconst 0, 1) := by decide +kernel
theorem dX2_init_36 : decode cX2_init 36 = .ok (.putfield 30, 3) := by decide +kernel
theorem dX2_init_39 : decode cX2_init 39 = .ok (.aload_n 0, 1) := by decide +kernel
theorem dX2_init_40 : decode cX2_init 40 = .ok (.iconst 0, 1) := by decide +kernel
theorem dX2_init_41 : decode cX2_init 41 = .ok (.putfield 34, 3) := by decide +kernel
theorem dX2_init_44 : decode cX2_init 44 = .ok (.aload_n 0, 1) := by decide +kernel
theorem dX2_init_45 : decode cX2_init 45 = .ok (.iconst 0, 1) := by decide +kernel
theorem dX2_init_46 : decode cX2_init 46 = .ok (.putfield 37, 3) := by decide +kernel
theorem dX2_init_49 : decode cX2_init 49 = .ok (.aload_n 0, 1) := by decide +kernel
theorem dX2_init_50 : decode cX2_init 50 = .ok (.iconst (-1), 1) := by decide +kernel
theorem dX2_init_51 : decode cX2_init 51 = .ok (.putfield 40, 3) := by decide +kernel
theorem dX2_init_54 : decode cX2_init 54 = .ok (.return_, 1) := by decide +kernel
theorem dX2_read_0 : decode cX2_read 0 = .ok (.aload_n 0, 1) := by decide +kernel
theorem dX2_read_1 : decode cX2_read 1 = .ok (.iconst 0, 1) := by decide +kernel
theorem dX2_read_2 : decode cX2_read 2 = .ok (.putfield 37, 3) := by decide +kernel
theorem dX2_read_5 : decode cX2_read 5 = .ok (.aload_n 0, 1) := by decide +kernel
theorem dX2_read_6 : decode cX2_read 6 = .ok (.iconst (-1), 1) := by decide +kernel
theorem dX2_read_7 : decode cX2_read 7 = .ok (.putfield 40, 3) := by decide +kernel
theorem dX2_read_10 : decode cX2_read 10 = .ok (.aload_n 0, 1) := by decide +kernel
theorem dX2_read_11 : decode cX2_read 11 = .ok (.iconst 0, 1) := by decide +kernel
theorem dX2_read_12 : decode cX2_read 12 = .ok (.putfield 30, 3) := by decide +kernel
theorem dX2_read_15 : decode cX2_read 15 = .ok (.aload_n 0, 1) := by decide +kernel
theorem dX2_read_16 : decode cX2_read 16 = .ok (.getfield 14, 3) := by decide +kernel
theorem dX2_read_19 : decode cX2_read 19 = .ok (.invokevirtual 43, 3) := by decide +kernel
theorem dX2_read_22 : decode cX2_read 22 = .ok (.aload_n 0, 1) := by decide +kernel
theorem dX2_read_23 : decode cX2_read 23 = .ok (.invokevirtual 46, 3) := by decide +kernel
theorem dX2_read_26 : decode cX2_read 26 = .ok (.istore_n 1, 1) := by decide +kernel
theorem dX2_read_27 : decode cX2_read 27 = .ok (.iconst 0, 1) := by decide +kernel
theorem dX2_read_28 : decode cX2_read 28 = .ok (.istore_n 2, 1) := by decide +kernel
theorem dX2_read_29 : decode cX2_read 29 = .ok (.iload_n 2, 1) := by decide +kernel
theorem dX2_read_30 : decode cX2_read 30 = .ok (.sipush 600, 3) := by decide +kernel
theorem dX2_read_33 : decode cX2_read 33 = .ok (.if_icmp .ge 20, 3) := by decide +kernel
theorem dX2_read_36 : decode cX2_read 36 = .ok (.aload_n 0, 1) := by decide +kernel
theorem dX2_read_37 : decode cX2_read 37 = .ok (.invokevirtual 50, 3) := by decide +kernel
theorem dX2_read_40 : decode cX2_read 40 = .ok (.ifCond .eq 13, 3) := by decide +kernel
theorem dX2_read_43 : decode cX2_read 43 = .ok (.aload_n 0, 1) := by decide +kernel
theorem dX2_read_44 : decode cX2_read 44 = .ok (.invokevirtual 54, 3) := by decide +kernel
theorem dX2_read_47 : decode cX2_read 47 = .ok (.iinc 2 1, 3) := by decide +kernel
theorem dX2_read_50 : decode cX2_read 50 = .ok (.goto (-21), 3) := by decide +kernel
theorem dX2_read_53 : decode cX2_read 53 = .ok (.aload_n 0, 1) := by decide +kernel
theorem dX2_read_54 : decode cX2_read 54 = .ok (.getfield 14, 3) := by decide +kernel
theorem dX2_read_57 : decode cX2_read 57 = .ok (.getfield 57, 3) := by decide +kernel
theorem dX2_read_60 : decode cX2_read 60 = .ok (.ifCond .eq 7, 3) := by decide +kernel
theorem dX2_read_63 : decode cX2_read 63 = .ok (.aload_n 0, 1) := by decide +kernel
theorem dX2_read_64 : decode cX2_read 64 = .ok (.invokevirtual 60, 3) := by decide +kernel
theorem dX2_read_67 : decode cX2_read 67 = .ok (.aload_n 0, 1) := by decide +kernel
theorem dX2_read_68 : decode cX2_read 68 = .ok (.getfield 37, 3) := by decide +kernel
theorem dX2_read_71 : decode cX2_read 71 = .ok (.ifCond .ne 18, 3) := by decide +kernel
theorem dX2_read_74 : decode cX2_read 74 = .ok (.new 63, 3) := by decide +kernel
theorem dX2_read_77 : decode cX2_read 77 = .ok (.dup, 1) := by decide +kernel
theorem dX2_read_78 : decode cX2_read 78 = .ok (.iload_n 1, 1) := by decide +kernel
theorem dX2_read_79 : decode cX2_read 79 = .ok (.aload_n 0, 1) := by decide +kernel
theorem dX2_read_80 : decode cX2_read 80 = .ok (.invokevirtual 65, 3) := by decide +kernel
theorem dX2_read_83 : decode cX2_read 83 = .ok (.invokespecial 69, 3) := by decide +kernel
theorem dX2_read_86 : decode cX2_read 86 = .ok (.goto 4, 3) := by decide +kernel
theorem dX2_read_89 : decode cX2_read 89 = .ok (.aconst_null, 1) := by decide +kernel
theorem dX2_read_90 : decode cX2_read 90 = .ok (.areturn, 1) := by decide +kernel
theorem dX2_linesRead_0 : decode cX2_linesRead 0 = .ok (.iconst 0, 1) := by decide +kernel
theorem dX2_linesRead_1 : decode cX2_linesRead 1 = .ok (.aload_n 0, 1) := by decide +kernel
theorem dX2_linesRead_2 : decode cX2_linesRead 2 = .ok (.getfield 30, 3) := by decide +kernel
theorem dX2_linesRead_5 : decode cX2_linesRead 5 = .ok (.invokestatic 72, 3) := by decide +kernel
theorem dX2_linesRead_8 : decode cX2_linesRead 8 = .ok (.anewarray 20, 3) := by decide +kernel
theorem dX2_linesRead_11 : decode cX2_linesRead 11 = .ok (.astore_n 1, 1) := by decide +kernel
theorem dX2_linesRead_12 : decode cX2_linesRead 12 = .ok (.iconst 0, 1) := by decide +kernel
theorem dX2_linesRead_13 : decode cX2_linesRead 13 = .ok (.istore_n 2, 1) := by decide +kernel
theorem dX2_linesRead_14 : decode cX2_linesRead 14 = .ok (.iload_n 2, 1) := by decide +kernel
theorem dX2_linesRead_15 : decode cX2_linesRead 15 = .ok (.aload_n 0, 1) := by decide +kernel
theorem dX2_linesRead_16 : decode cX2_linesRead 16 = .ok (.getfield 30, 3) := by decide +kernel
theorem dX2_linesRead_19 : decode cX2_linesRead 19 = .ok (.if_icmp .ge 27, 3) := by decide +kernel
theorem dX2_linesRead_22 : decode cX2_linesRead 22 = .ok (.iload_n 2, 1) := by decide +kernel
theorem dX2_linesRead_23 : decode cX2_linesRead 23 = .ok (.aload_n 0, 1) := by decide +kernel
theorem dX2_linesRead_24 : decode cX2_linesRead 24 = .ok (.getfield 22, 3) := by decide +kernel
theorem dX2_linesRead_27 : decode cX2_linesRead 27 = .ok (.arraylength, 1) := by decide +kernel
theorem dX2_linesRead_28 : decode cX2_linesRead 28 = .ok (.if_icmp .ge 18, 3) := by decide +kernel
theorem dX2_linesRead_31 : decode cX2_linesRead 31 = .ok (.aload_n 1, 1) := by decide +kernel
theorem dX2_linesRead_32 : decode cX2_linesRead 32 = .ok (.iload_n 2, 1) := by decide +kernel
theorem dX2_linesRead_33 : decode cX2_linesRead 33 = .ok (.aload_n 0, 1) := by decide +kernel
theorem dX2_linesRead_34 : decode cX2_linesRead 34 = .ok (.getfield 22, 3) := by decide +kernel
theorem dX2_linesRead_37 : decode cX2_linesRead 37 = .ok (.iload_n 2, 1) := by decide +kernel
theorem dX2_linesRead_38 : decode cX2_linesRead 38 = .ok (.aaload, 1) := by decide +kernel
theorem dX2_linesRead_39 : decode cX2_linesRead 39 = .ok (.aastore, 1) := by decide +kernel
theorem dX2_linesRead_40 : decode cX2_linesRead 40 = .ok (.iinc 2 1, 3) := by decide +kernel
theorem dX2_linesRead_43 : decode cX2_linesRead 43 = .ok (.goto (-29), 3) := by decide +kernel
theorem dX2_linesRead_46 : decode cX2_linesRead 46 = .ok (.aload_n 1, 1) := by decide +kernel
theorem dX2_linesRead_47 : decode cX2_linesRead 47 = .ok (.areturn, 1) := by decide +kernel
theorem dX2_readHow_0 : decode cX2_readHow 0 = .ok (.aload_n 0, 1) := by decide +kernel
theorem dX2_readHow_1 : decode cX2_readHow 1 = .ok (.sipush 300, 3) := by decide +kernel
theorem dX2_readHow_4 : decode cX2_readHow 4 = .ok (.invokevirtual 78, 3) := by decide +kernel
theorem dX2_readHow_7 : decode cX2_readHow 7 = .ok (.ifCond .ne 5, 3) := by decide +kernel
theorem dX2_readHow_10 : decode cX2_readHow 10 = .ok (.iconst 0, 1) := by decide +kernel
theorem dX2_readHow_11 : decode cX2_readHow 11 = .ok (.ireturn, 1) := by decide +kernel
theorem dX2_readHow_12 : decode cX2_readHow 12 = .ok (.aload_n 0, 1) := by decide +kernel
theorem dX2_readHow_13 : decode cX2_readHow 13 = .ok (.sipush 301, 3) := by decide +kernel
theorem dX2_readHow_16 : decode cX2_readHow 16 = .ok (.sipush 304, 3) := by decide +kernel
theorem dX2_readHow_19 : decode cX2_readHow 19 = .ok (.invokevirtual 82, 3) := by decide +kernel
theorem dX2_readHow_22 : decode cX2_readHow 22 = .ok (.istore_n 1, 1) := by decide +kernel
theorem dX2_readHow_23 : decode cX2_readHow 23 = .ok (.aload_n 0, 1) := by decide +kernel
theorem dX2_readHow_24 : decode cX2_readHow 24 = .ok (.bipush 59, 2) := by decide +kernel
theorem dX2_readHow_26 : decode cX2_readHow 26 = .ok (.invokevirtual 85, 3) := by decide +kernel
theorem dX2_readHow_29 : decode cX2_readHow 29 = .ok (.iload_n 1, 1) := by decide +kernel
theorem dX2_readHow_30 : decode cX2_readHow 30 = .ok (.ireturn, 1) := by decide +kernel
theorem dX2_startsLine_0 : decode cX2_startsLine 0 = .ok (.aload_n 0, 1) := by decide +kernel
theorem dX2_startsLine_1 : decode cX2_startsLine 1 = .ok (.getfield 14, 3) := by decide +kernel
theorem dX2_startsLine_4 : decode cX2_startsLine 4 = .ok (.getfield 57, 3) := by decide +kernel
theorem dX2_startsLine_7 : decode cX2_startsLine 7 = .ok (.sipush 304, 3) := by decide +kernel
theorem dX2_startsLine_10 : decode cX2_startsLine 10 = .ok (.if_icmp .eq 16, 3) := by decide +kernel
theorem dX2_startsLine_13 : decode cX2_startsLine 13 = .ok (.aload_n 0, 1) := by decide +kernel
theorem dX2_startsLine_14 : decode cX2_startsLine 14 = .ok (.getfield 14, 3) := by decide +kernel
theorem dX2_startsLine_17 : decode cX2_startsLine 17 = .ok (.getfield 57, 3) := by decide +kernel
theorem dX2_startsLine_20 : decode cX2_startsLine 20 = .ok (.sipush 303, 3) := by decide +kernel
theorem dX2_startsLine_23 : decode cX2_startsLine 23 = .ok (.if_icmp .ne 7, 3) := by decide +kernel
theorem dX2_startsLine_26 : decode cX2_startsLine 26 = .ok (.iconst 1, 1) := by decide +kernel
theorem dX2_startsLine_27 : decode cX2_startsLine 27 = .ok (.goto 4, 3) := by decide +kernel
theorem dX2_startsLine_30 : decode cX2_startsLine 30 = .ok (.iconst 0, 1) := by decide +kernel
theorem dX2_startsLine_31 : decode cX2_startsLine 31 = .ok (.ireturn, 1) := by decide +kernel
theorem dX2_readLine_0 : decode cX2_readLine 0 = .ok (.aload_n 0, 1) := by decide +kernel
theorem dX2_readLine_1 : decode cX2_readLine 1 = .ok (.getfield 30, 3) := by decide +kernel
theorem dX2_readLine_4 : decode cX2_readLine 4 = .ok (.bipush 12, 2) := by decide +kernel
theorem dX2_readLine_6 : decode cX2_readLine 6 = .ok (.if_icmp .ne 8, 3) := by decide +kernel
theorem dX2_readLine_9 : decode cX2_readLine 9 = .ok (.aload_n 0, 1) := by decide +kernel
theorem dX2_readLine_10 : decode cX2_readLine 10 = .ok (.iconst 3, 1) := by decide +kernel
theorem dX2_readLine_11 : decode cX2_readLine 11 = .ok (.invokevirtual 89, 3) := by decide +kernel
theorem dX2_readLine_14 : decode cX2_readLine 14 = .ok (.aload_n 0, 1) := by decide +kernel
theorem dX2_readLine_15 : decode cX2_readLine 15 = .ok (.sipush 303, 3) := by decide +kernel
theorem dX2_readLine_18 : decode cX2_readLine 18 = .ok (.sipush 304, 3) := by decide +kernel
theorem dX2_readLine_21 : decode cX2_readLine 21 = .ok (.invokevirtual 82, 3) := by decide +kernel
theorem dX2_readLine_24 : decode cX2_readLine 24 = .ok (.iconst 1, 1) := by decide +kernel
theorem dX2_readLine_25 : decode cX2_readLine 25 = .ok (.if_icmp .ne 7, 3) := by decide +kernel
theorem dX2_readLine_28 : decode cX2_readLine 28 = .ok (.iconst 1, 1) := by decide +kernel
theorem dX2_readLine_29 : decode cX2_readLine 29 = .ok (.goto 4, 3) := by decide +kernel
theorem dX2_readLine_32 : decode cX2_readLine 32 = .ok (.iconst 0, 1) := by decide +kernel
theorem dX2_readLine_33 : decode cX2_readLine 33 = .ok (.istore_n 1, 1) := by decide +kernel
theorem dX2_readLine_34 : decode cX2_readLine 34 = .ok (.aload_n 0, 1) := by decide +kernel
theorem dX2_readLine_35 : decode cX2_readLine 35 = .ok (.sipush 305, 3) := by decide +kernel
theorem dX2_readLine_38 : decode cX2_readLine 38 = .ok (.sipush 309, 3) := by decide +kernel
theorem dX2_readLine_41 : decode cX2_readLine 41 = .ok (.invokevirtual 82, 3) := by decide +kernel
theorem dX2_readLine_44 : decode cX2_readLine 44 = .ok (.istore_n 2, 1) := by decide +kernel
theorem dX2_readLine_45 : decode cX2_readLine 45 = .ok (.aload_n 0, 1) := by decide +kernel
theorem dX2_readLine_46 : decode cX2_readLine 46 = .ok (.getstatic 92, 3) := by decide +kernel
theorem dX2_readLine_49 : decode cX2_readLine 49 = .ok (.iload_n 2, 1) := by decide +kernel
theorem dX2_readLine_50 : decode cX2_readLine 50 = .ok (.invokevirtual 95, 3) := by decide +kernel
theorem dX2_readLine_53 : decode cX2_readLine 53 = .ok (.istore_n 3, 1) := by decide +kernel
theorem dX2_readLine_54 : decode cX2_readLine 54 = .ok (.aload_n 0, 1) := by decide +kernel
theorem dX2_readLine_55 : decode cX2_readLine 55 = .ok (.sipush 310, 3) := by decide +kernel
theorem dX2_readLine_58 : decode cX2_readLine 58 = .ok (.sipush 314, 3) := by decide +kernel
theorem dX2_readLine_61 : decode cX2_readLine 61 = .ok (.invokevirtual 82, 3) := by decide +kernel
theorem dX2_readLine_64 : decode cX2_readLine 64 = .ok (.istore 4, 2) := by decide +kernel
theorem dX2_readLine_66 : decode cX2_readLine 66 = .ok (.aload_n 0, 1) := by decide +kernel
theorem dX2_readLine_67 : decode cX2_readLine 67 = .ok (.sipush 305, 3) := by decide +kernel
theorem dX2_readLine_70 : decode cX2_readLine 70 = .ok (.invokevirtual 78, 3) := by decide +kernel
theorem dX2_readLine_73 : decode cX2_readLine 73 = .ok (.ifCond .eq 7, 3) := by decide +kernel
theorem dX2_readLine_76 : decode cX2_readLine 76 = .ok (.iconst 0, 1) := by decide +kernel
theorem dX2_readLine_77 : decode cX2_readLine 77 = .ok (.goto 15, 3) := by decide +kernel
theorem dX2_readLine_80 : decode cX2_readLine 80 = .ok (.iconst 1, 1) := by decide +kernel
theorem dX2_readLine_81 : decode cX2_readLine 81 = .ok (.aload_n 0, 1) := by decide +kernel
theorem dX2_readLine_82 : decode cX2_readLine 82 = .ok (.sipush 315, 3) := by decide +kernel
theorem dX2_readLine_85 : decode cX2_readLine 85 = .ok (.sipush 317, 3) := by decide +kernel
theorem dX2_readLine_88 : decode cX2_readLine 88 = .ok (.invokevirtual 82, 3) := by decide +kernel
theorem dX2_readLine_91 : decode cX2_readLine 91 = .ok (.iadd, 1) := by decide +kernel
theorem dX2_readLine_92 : decode cX2_readLine 92 = .ok (.istore 5, 2) := by decide +kernel
theorem dX2_readLine_94 : decode cX2_readLine 94 = .ok (.aload_n 0, 1) := by decide +kernel
theorem dX2_readLine_95 : decode cX2_readLine 95 = .ok (.getstatic 99, 3) := by decide +kernel
theorem dX2_readLine_98 : decode cX2_readLine 98 = .ok (.iload 5, 2) := by decide +kernel
theorem dX2_readLine_100 : decode cX2_readLine 100 = .ok (.invokevirtual 95, 3) := by decide +kernel
theorem dX2_readLine_103 : decode cX2_readLine 103 = .ok (.istore 6, 2) := by decide +kernel
theorem dX2_readLine_105 : decode cX2_readLine 105 = .ok (.aload_n 0, 1) := by decide +kernel
theorem dX2_readLine_106 : decode cX2_readLine 106 = .ok (.iconst 0, 1) := by decide +kernel
theorem dX2_readLine_107 : decode cX2_readLine 107 = .ok (.putfield 34, 3) := by decide +kernel
theorem dX2_readLine_110 : decode cX2_readLine 110 = .ok (.aload_n 0, 1) := by decide +kernel
theorem dX2_readLine_111 : decode cX2_readLine 111 = .ok (.sipush 318, 3) := by decide +kernel
theorem dX2_readLine_114 : decode cX2_readLine 114 = .ok (.invokevirtual 78, 3) := by decide +kernel
theorem dX2_readLine_117 : decode cX2_readLine 117 = .ok (.ifCond .eq 8, 3) := by decide +kernel
theorem dX2_readLine_120 : decode cX2_readLine 120 = .ok (.aload_n 0, 1) := by decide +kernel
theorem dX2_readLine_121 : decode cX2_readLine 121 = .ok (.iconst 1, 1) := by decide +kernel
theorem dX2_readLine_122 : decode cX2_readLine 122 = .ok (.invokevirtual 102, 3) := by decide +kernel
theorem dX2_readLine_125 : decode cX2_readLine 125 = .ok (.aload_n 0, 1) := by decide +kernel
theorem dX2_readLine_126 : decode cX2_readLine 126 = .ok (.bipush 59, 2) := by decide +kernel
theorem dX2_readLine_128 : decode cX2_readLine 128 = .ok (.invokevirtual 85, 3) := by decide +kernel
theorem dX2_readLine_131 : decode cX2_readLine 131 = .ok (.aload_n 0, 1) := by decide +kernel
theorem dX2_readLine_132 : decode cX2_readLine 132 = .ok (.getfield 30, 3) := by decide +kernel
theorem dX2_readLine_135 : decode cX2_readLine 135 = .ok (.bipush 12, 2) := by decide +kernel
theorem dX2_readLine_137 : decode cX2_readLine 137 = .ok (.if_icmp .ge 57, 3) := by decide +kernel
theorem dX2_readLine_140 : decode cX2_readLine 140 = .ok (.aload_n 0, 1) := by decide +kernel
theorem dX2_readLine_141 : decode cX2_readLine 141 = .ok (.getfield 26, 3) := by decide +kernel
theorem dX2_readLine_144 : decode cX2_readLine 144 = .ok (.iconst 0, 1) := by decide +kernel
theorem dX2_readLine_145 : decode cX2_readLine 145 = .ok (.aload_n 0, 1) := by decide +kernel
theorem dX2_readLine_146 : decode cX2_readLine 146 = .ok (.getfield 34, 3) := by decide +kernel
theorem dX2_readLine_149 : decode cX2_readLine 149 = .ok (.invokestatic 72, 3) := by decide +kernel
theorem dX2_readLine_152 : decode cX2_readLine 152 = .ok (.invokestatic 105, 3) := by decide +kernel
theorem dX2_readLine_155 : decode cX2_readLine 155 = .ok (.astore 7, 2) := by decide +kernel
theorem dX2_readLine_157 : decode cX2_readLine 157 = .ok (.aload_n 0, 1) := by decide +kernel
theorem dX2_readLine_158 : decode cX2_readLine 158 = .ok (.getfield 22, 3) := by decide +kernel
theorem dX2_readLine_161 : decode cX2_readLine 161 = .ok (.aload_n 0, 1) := by decide +kernel
theorem dX2_readLine_162 : decode cX2_readLine 162 = .ok (.getfield 30, 3) := by decide +kernel
theorem dX2_readLine_165 : decode cX2_readLine 165 = .ok (.new 20, 3) := by decide +kernel
theorem dX2_readLine_168 : decode cX2_readLine 168 = .ok (.dup, 1) := by decide +kernel
theorem dX2_readLine_169 : decode cX2_readLine 169 = .ok (.iload_n 1, 1) := by decide +kernel
theorem dX2_readLine_170 : decode cX2_readLine 170 = .ok (.iload_n 2, 1) := by decide +kernel
theorem dX2_readLine_171 : decode cX2_readLine 171 = .ok (.iload_n 3, 1) := by decide +kernel
theorem dX2_readLine_172 : decode cX2_readLine 172 = .ok (.iload 4, 2) := by decide +kernel
theorem dX2_readLine_174 : decode cX2_readLine 174 = .ok (.iload 5, 2) := by decide +kernel
theorem dX2_readLine_176 : decode cX2_readLine 176 = .ok (.iload 6, 2) := by decide +kernel
theorem dX2_readLine_178 : decode cX2_readLine 178 = .ok (.aload 7, 2) := by decide +kernel
theorem dX2_readLine_180 : decode cX2_readLine 180 = .ok (.invokespecial 111, 3) := by decide +kernel
theorem dX2_readLine_183 : decode cX2_readLine 183 = .ok (.aastore, 1) := by decide +kernel
theorem dX2_readLine_184 : decode cX2_readLine 184 = .ok (.aload_n 0, 1) := by decide +kernel
theorem dX2_readLine_185 : decode cX2_readLine 185 = .ok (.dup, 1) := by decide +kernel
theorem dX2_readLine_186 : decode cX2_readLine 186 = .ok (.getfield 30, 3) := by decide +kernel
theorem dX2_readLine_189 : decode cX2_readLine 189 = .ok (.iconst 1, 1) := by decide +kernel
theorem dX2_readLine_190 : decode cX2_readLine 190 = .ok (.iadd, 1) := by decide +kernel
theorem dX2_readLine_191 : decode cX2_readLine 191 = .ok (.putfield 30, 3) := by decide +kernel
theorem dX2_readLine_194 : decode cX2_readLine 194 = .ok (.return_, 1) := by decide +kernel
theorem dX2_numberBehind_0 : decode cX2_numberBehind 0 = .ok (.iload_n 2, 1) := by decide +kernel
theorem dX2_numberBehind_1 : decode cX2_numberBehind 1 = .ok (.aload_n 1, 1) := by decide +kernel
theorem dX2_numberBehind_2 : decode cX2_numberBehind 2 = .ok (.arraylength, 1) := by decide +kernel
theorem dX2_numberBehind_3 : decode cX2_numberBehind 3 = .ok (.invokestatic 114, 3) := by decide +kernel
theorem dX2_numberBehind_6 : decode cX2_numberBehind 6 = .ok (.ifCond .eq 9, 3) := by decide +kernel
theorem dX2_numberBehind_9 : decode cX2_numberBehind 9 = .ok (.aload_n 1, 1) := by decide +kernel
theorem dX2_numberBehind_10 : decode cX2_numberBehind 10 = .ok (.iload_n 2, 1) := by decide +kernel
theorem dX2_numberBehind_11 : decode cX2_numberBehind 11 = .ok (.iaload, 1) := by decide +kernel
theorem dX2_numberBehind_12 : decode cX2_numberBehind 12 = .ok (.goto 4, 3) := by decide +kernel
theorem dX2_numberBehind_15 : decode cX2_numberBehind 15 = .ok (.iconst (-1), 1) := by decide +kernel
theorem dX2_numberBehind_16 : decode cX2_numberBehind 16 = .ok (.istore_n 3, 1) := by decide +kernel
theorem dX2_numberBehind_17 : decode cX2_numberBehind 17 = .ok (.iload_n 3, 1) := by decide +kernel
theorem dX2_numberBehind_18 : decode cX2_numberBehind 18 = .ok (.iconst (-1), 1) := by decide +kernel
theorem dX2_numberBehind_19 : decode cX2_numberBehind 19 = .ok (.if_icmp .ne 5, 3) := by decide +kernel
theorem dX2_numberBehind_22 : decode cX2_numberBehind 22 = .ok (.iconst 0, 1) := by decide +kernel
theorem dX2_numberBehind_23 : decode cX2_numberBehind 23 = .ok (.ireturn, 1) := by decide +kernel
theorem dX2_numberBehind_24 : decode cX2_numberBehind 24 = .ok (.aload_n 0, 1) := by decide +kernel
theorem dX2_numberBehind_25 : decode cX2_numberBehind 25 = .ok (.getfield 14, 3) := by decide +kernel
theorem dX2_numberBehind_28 : decode cX2_numberBehind 28 = .ok (.getfield 57, 3) := by decide +kernel
theorem dX2_numberBehind_31 : decode cX2_numberBehind 31 = .ok (.iconst 1, 1) := by decide +kernel
theorem dX2_numberBehind_32 : decode cX2_numberBehind 32 = .ok (.if_icmp .eq 9, 3) := by decide +kernel
theorem dX2_numberBehind_35 : decode cX2_numberBehind 35 = .ok (.aload_n 0, 1) := by decide +kernel
theorem dX2_numberBehind_36 : decode cX2_numberBehind 36 = .ok (.invokevirtual 60, 3) := by decide +kernel
theorem dX2_numberBehind_39 : decode cX2_numberBehind 39 = .ok (.iconst 0, 1) := by decide +kernel
theorem dX2_numberBehind_40 : decode cX2_numberBehind 40 = .ok (.ireturn, 1) := by decide +kernel
theorem dX2_numberBehind_41 : decode cX2_numberBehind 41 = .ok (.aload_n 0, 1) := by decide +kernel
theorem dX2_numberBehind_42 : decode cX2_numberBehind 42 = .ok (.getfield 14, 3) := by decide +kernel
theorem dX2_numberBehind_45 : decode cX2_numberBehind 45 = .ok (.getfield 118, 3) := by decide +kernel
theorem dX2_numberBehind_48 : decode cX2_numberBehind 48 = .ok (.iload_n 3, 1) := by decide +kernel
theorem dX2_numberBehind_49 : decode cX2_numberBehind 49 = .ok (.if_icmp .le 8, 3) := by decide +kernel
theorem dX2_numberBehind_52 : decode cX2_numberBehind 52 = .ok (.aload_n 0, 1) := by decide +kernel
theorem dX2_numberBehind_53 : decode cX2_numberBehind 53 = .ok (.iconst 2, 1) := by decide +kernel
theorem dX2_numberBehind_54 : decode cX2_numberBehind 54 = .ok (.invokevirtual 89, 3) := by decide +kernel
theorem dX2_numberBehind_57 : decode cX2_numberBehind 57 = .ok (.aload_n 0, 1) := by decide +kernel
theorem dX2_numberBehind_58 : decode cX2_numberBehind 58 = .ok (.getfield 14, 3) := by decide +kernel
theorem dX2_numberBehind_61 : decode cX2_numberBehind 61 = .ok (.getfield 118, 3) := by decide +kernel
theorem dX2_numberBehind_64 : decode cX2_numberBehind 64 = .ok (.istore 4, 2) := by decide +kernel
theorem dX2_numberBehind_66 : decode cX2_numberBehind 66 = .ok (.aload_n 0, 1) := by decide +kernel
theorem dX2_numberBehind_67 : decode cX2_numberBehind 67 = .ok (.getfield 14, 3) := by decide +kernel
theorem dX2_numberBehind_70 : decode cX2_numberBehind 70 = .ok (.invokevirtual 121, 3) := by decide +kernel
theorem dX2_numberBehind_73 : decode cX2_numberBehind 73 = .ok (.iload 4, 2) := by decide +kernel
theorem dX2_numberBehind_75 : decode cX2_numberBehind 75 = .ok (.ireturn, 1) := by decide +kernel
theorem dX2_readEither_0 : decode cX2_readEither 0 = .ok (.iload_n 1, 1) := by decide +kernel
theorem dX2_readEither_1 : decode cX2_readEither 1 = .ok (.bipush 6, 2) := by decide +kernel
theorem dX2_readEither_3 : decode cX2_readEither 3 = .ok (.if_icmp .le 8, 3) := by decide +kernel
theorem dX2_readEither_6 : decode cX2_readEither 6 = .ok (.aload_n 0, 1) := by decide +kernel
theorem dX2_readEither_7 : decode cX2_readEither 7 = .ok (.invokevirtual 60, 3) := by decide +kernel
theorem dX2_readEither_10 : decode cX2_readEither 10 = .ok (.return_, 1) := by decide +kernel
theorem dX2_readEither_11 : decode cX2_readEither 11 = .ok (.iconst 0, 1) := by decide +kernel
theorem dX2_readEither_12 : decode cX2_readEither 12 = .ok (.istore_n 2, 1) := by decide +kernel
theorem dX2_readEither_13 : decode cX2_readEither 13 = .ok (.iload_n 2, 1) := by decide +kernel
theorem dX2_readEither_14 : decode cX2_readEither 14 = .ok (.sipush 600, 3) := by decide +kernel
theorem dX2_readEither_17 : decode cX2_readEither 17 = .ok (.if_icmp .ge 40, 3) := by decide +kernel
theorem dX2_readEither_20 : decode cX2_readEither 20 = .ok (.iload_n 2, 1) := by decide +kernel
theorem dX2_readEither_21 : decode cX2_readEither 21 = .ok (.ifCond .eq 13, 3) := by decide +kernel
theorem dX2_readEither_24 : decode cX2_readEither 24 = .ok (.aload_n 0, 1) := by decide +kernel
theorem dX2_readEither_25 : decode cX2_readEither 25 = .ok (.sipush 319, 3) := by decide +kernel
theorem dX2_readEither_28 : decode cX2_readEither 28 = .ok (.invokevirtual 78, 3) := by decide +kernel
theorem dX2_readEither_31 : decode cX2_readEither 31 = .ok (.ifCond .eq 26, 3) := by decide +kernel
theorem dX2_readEither_34 : decode cX2_readEither 34 = .ok (.aload_n 0, 1) := by decide +kernel
theorem dX2_readEither_35 : decode cX2_readEither 35 = .ok (.iload_n 1, 1) := by decide +kernel
theorem dX2_readEither_36 : decode cX2_readEither 36 = .ok (.invokevirtual 124, 3) := by decide +kernel
theorem dX2_readEither_39 : decode cX2_readEither 39 = .ok (.iload_n 2, 1) := by decide +kernel
theorem dX2_readEither_40 : decode cX2_readEither 40 = .ok (.ifCond .le 11, 3) := by decide +kernel
theorem dX2_readEither_43 : decode cX2_readEither 43 = .ok (.aload_n 0, 1) := by decide +kernel
theorem dX2_readEither_44 : decode cX2_readEither 44 = .ok (.bipush 6, 2) := by decide +kernel
theorem dX2_readEither_46 : decode cX2_readEither 46 = .ok (.iconst 0, 1) := by decide +kernel
theorem dX2_readEither_47 : decode cX2_readEither 47 = .ok (.iconst 0, 1) := by decide +kernel
theorem dX2_readEither_48 : decode cX2_readEither 48 = .ok (.invokevirtual 127, 3) := by decide +kernel
theorem dX2_readEither_51 : decode cX2_readEither 51 = .ok (.iinc 2 1, 3) := by decide +kernel
theorem dX2_readEither_54 : decode cX2_readEither 54 = .ok (.goto (-41), 3) := by decide +kernel
theorem dX2_readEither_57 : decode cX2_readEither 57 = .ok (.return_, 1) := by decide +kernel
theorem dX2_readBoth_0 : decode cX2_readBoth 0 = .ok (.iconst 0, 1) := by decide +kernel
theorem dX2_readBoth_1 : decode cX2_readBoth 1 = .ok (.istore_n 2, 1) := by decide +kernel
theorem dX2_readBoth_2 : decode cX2_readBoth 2 = .ok (.iload_n 2, 1) := by decide +kernel
theorem dX2_readBoth_3 : decode cX2_readBoth 3 = .ok (.sipush 600, 3) := by decide +kernel
theorem dX2_readBoth_6 : decode cX2_readBoth 6 = .ok (.if_icmp .ge 58, 3) := by decide +kernel
theorem dX2_readBoth_9 : decode cX2_readBoth 9 = .ok (.iload_n 2, 1) := by decide +kernel
theorem dX2_readBoth_10 : decode cX2_readBoth 10 = .ok (.ifCond .eq 13, 3) := by decide +kernel
theorem dX2_readBoth_13 : decode cX2_readBoth 13 = .ok (.aload_n 0, 1) := by decide +kernel
theorem dX2_readBoth_14 : decode cX2_readBoth 14 = .ok (.sipush 320, 3) := by decide +kernel
theorem dX2_readBoth_17 : decode cX2_readBoth 17 = .ok (.invokevirtual 78, 3) := by decide +kernel
theorem dX2_readBoth_20 : decode cX2_readBoth 20 = .ok (.ifCond .eq 44, 3) := by decide +kernel
theorem dX2_readBoth_23 : decode cX2_readBoth 23 = .ok (.aload_n 0, 1) := by decide +kernel
theorem dX2_readBoth_24 : decode cX2_readBoth 24 = .ok (.sipush 321, 3) := by decide +kernel
theorem dX2_readBoth_27 : decode cX2_readBoth 27 = .ok (.invokevirtual 78, 3) := by decide +kernel
theorem dX2_readBoth_30 : decode cX2_readBoth 30 = .ok (.istore_n 3, 1) := by decide +kernel
theorem dX2_readBoth_31 : decode cX2_readBoth 31 = .ok (.aload_n 0, 1) := by decide +kernel
theorem dX2_readBoth_32 : decode cX2_readBoth 32 = .ok (.iload_n 1, 1) := by decide +kernel
theorem dX2_readBoth_33 : decode cX2_readBoth 33 = .ok (.invokevirtual 131, 3) := by decide +kernel
theorem dX2_readBoth_36 : decode cX2_readBoth 36 = .ok (.iload_n 3, 1) := by decide +kernel
theorem dX2_readBoth_37 : decode cX2_readBoth 37 = .ok (.ifCond .eq 10, 3) := by decide +kernel
theorem dX2_readBoth_40 : decode cX2_readBoth 40 = .ok (.aload_n 0, 1) := by decide +kernel
theorem dX2_readBoth_41 : decode cX2_readBoth 41 = .ok (.iconst 4, 1) := by decide +kernel
theorem dX2_readBoth_42 : decode cX2_readBoth 42 = .ok (.iconst 0, 1) := by decide +kernel
theorem dX2_readBoth_43 : decode cX2_readBoth 43 = .ok (.iconst 0, 1) := by decide +kernel
theorem dX2_readBoth_44 : decode cX2_readBoth 44 = .ok (.invokevirtual 127, 3) := by decide +kernel
theorem dX2_readBoth_47 : decode cX2_readBoth 47 = .ok (.iload_n 2, 1) := by decide +kernel
theorem dX2_readBoth_48 : decode cX2_readBoth 48 = .ok (.ifCond .le 10, 3) := by decide +kernel
theorem dX2_readBoth_51 : decode cX2_readBoth 51 = .ok (.aload_n 0, 1) := by decide +kernel
theorem dX2_readBoth_52 : decode cX2_readBoth 52 = .ok (.iconst 5, 1) := by decide +kernel
theorem dX2_readBoth_53 : decode cX2_readBoth 53 = .ok (.iconst 0, 1) := by decide +kernel
theorem dX2_readBoth_54 : decode cX2_readBoth 54 = .ok (.iconst 0, 1) := by decide +kernel
theorem dX2_readBoth_55 : decode cX2_readBoth 55 = .ok (.invokevirtual 127, 3) := by decide +kernel
theorem dX2_readBoth_58 : decode cX2_readBoth 58 = .ok (.iinc 2 1, 3) := by decide +kernel
theorem dX2_readBoth_61 : decode cX2_readBoth 61 = .ok (.goto (-59), 3) := by decide +kernel
theorem dX2_readBoth_64 : decode cX2_readBoth 64 = .ok (.return_, 1) := by decide +kernel
theorem dX2_readOne_0 : decode cX2_readOne 0 = .ok (.aload_n 0, 1) := by decide +kernel
theorem dX2_readOne_1 : decode cX2_readOne 1 = .ok (.bipush 40, 2) := by decide +kernel
theorem dX2_readOne_3 : decode cX2_readOne 3 = .ok (.invokevirtual 78, 3) := by decide +kernel
theorem dX2_readOne_6 : decode cX2_readOne 6 = .ok (.ifCond .eq 19, 3) := by decide +kernel
theorem dX2_readOne_9 : decode cX2_readOne 9 = .ok (.aload_n 0, 1) := by decide +kernel
theorem dX2_readOne_10 : decode cX2_readOne 10 = .ok (.iload_n 1, 1) := by decide +kernel
theorem dX2_readOne_11 : decode cX2_readOne 11 = .ok (.iconst 1, 1) := by decide +kernel
theorem dX2_readOne_12 : decode cX2_readOne 12 = .ok (.iadd, 1) := by decide +kernel
theorem dX2_readOne_13 : decode cX2_readOne 13 = .ok (.invokevirtual 102, 3) := by decide +kernel
theorem dX2_readOne_16 : decode cX2_readOne 16 = .ok (.aload_n 0, 1) := by decide +kernel
theorem dX2_readOne_17 : decode cX2_readOne 17 = .ok (.bipush 41, 2) := by decide +kernel
theorem dX2_readOne_19 : decode cX2_readOne 19 = .ok (.invokevirtual 85, 3) := by decide +kernel
theorem dX2_readOne_22 : decode cX2_readOne 22 = .ok (.goto 51, 3) := by decide +kernel
theorem dX2_readOne_25 : decode cX2_readOne 25 = .ok (.aload_n 0, 1) := by decide +kernel
theorem dX2_readOne_26 : decode cX2_readOne 26 = .ok (.sipush 308, 3) := by decide +kernel
theorem dX2_readOne_29 : decode cX2_readOne 29 = .ok (.invokevirtual 78, 3) := by decide +kernel
theorem dX2_readOne_32 : decode cX2_readOne 32 = .ok (.ifCond .eq 13, 3) := by decide +kernel
theorem dX2_readOne_35 : decode cX2_readOne 35 = .ok (.aload_n 0, 1) := by decide +kernel
theorem dX2_readOne_36 : decode cX2_readOne 36 = .ok (.iconst 3, 1) := by decide +kernel
theorem dX2_readOne_37 : decode cX2_readOne 37 = .ok (.iconst 0, 1) := by decide +kernel
theorem dX2_readOne_38 : decode cX2_readOne 38 = .ok (.iconst 0, 1) := by decide +kernel
theorem dX2_readOne_39 : decode cX2_readOne 39 = .ok (.invokevirtual 127, 3) := by decide +kernel
theorem dX2_readOne_42 : decode cX2_readOne 42 = .ok (.goto 31, 3) := by decide +kernel
theorem dX2_readOne_45 : decode cX2_readOne 45 = .ok (.aload_n 0, 1) := by decide +kernel
theorem dX2_readOne_46 : decode cX2_readOne 46 = .ok (.invokevirtual 134, 3) := by decide +kernel
theorem dX2_readOne_49 : decode cX2_readOne 49 = .ok (.istore_n 2, 1) := by decide +kernel
theorem dX2_readOne_50 : decode cX2_readOne 50 = .ok (.aload_n 0, 1) := by decide +kernel
theorem dX2_readOne_51 : decode cX2_readOne 51 = .ok (.bipush 60, 2) := by decide +kernel
theorem dX2_readOne_53 : decode cX2_readOne 53 = .ok (.bipush 62, 2) := by decide +kernel
theorem dX2_readOne_55 : decode cX2_readOne 55 = .ok (.invokevirtual 82, 3) := by decide +kernel
theorem dX2_readOne_58 : decode cX2_readOne 58 = .ok (.istore_n 3, 1) := by decide +kernel
theorem dX2_readOne_59 : decode cX2_readOne 59 = .ok (.aload_n 0, 1) := by decide +kernel
theorem dX2_readOne_60 : decode cX2_readOne 60 = .ok (.invokevirtual 134, 3) := by decide +kernel
theorem dX2_readOne_63 : decode cX2_readOne 63 = .ok (.istore 4, 2) := by decide +kernel
theorem dX2_readOne_65 : decode cX2_readOne 65 = .ok (.aload_n 0, 1) := by decide +kernel
theorem dX2_readOne_66 : decode cX2_readOne 66 = .ok (.iload_n 3, 1) := by decide +kernel
theorem dX2_readOne_67 : decode cX2_readOne 67 = .ok (.iload_n 2, 1) := by decide +kernel
theorem dX2_readOne_68 : decode cX2_readOne 68 = .ok (.iload 4, 2) := by decide +kernel
theorem dX2_readOne_70 : decode cX2_readOne 70 = .ok (.invokevirtual 127, 3) := by decide +kernel
theorem dX2_readOne_73 : decode cX2_readOne 73 = .ok (.return_, 1) := by decide +kernel
theorem dX2_readTerm_0 : decode cX2_readTerm 0 = .ok (.aload_n 0, 1) := by decide +kernel
theorem dX2_readTerm_1 : decode cX2_readTerm 1 = .ok (.invokevirtual 137, 3) := by decide +kernel
theorem dX2_readTerm_4 : decode cX2_readTerm 4 = .ok (.istore_n 1, 1) := by decide +kernel
theorem dX2_readTerm_5 : decode cX2_readTerm 5 = .ok (.iload_n 1, 1) := by decide +kernel
theorem dX2_readTerm_6 : decode cX2_readTerm 6 = .ok (.iconst (-1), 1) := by decide +kernel
theorem dX2_readTerm_7 : decode cX2_readTerm 7 = .ok (.if_icmp .ne 9, 3) := by decide +kernel
theorem dX2_readTerm_10 : decode cX2_readTerm 10 = .ok (.aload_n 0, 1) := by decide +kernel
theorem dX2_readTerm_11 : decode cX2_readTerm 11 = .ok (.invokevirtual 60, 3) := by decide +kernel
theorem dX2_readTerm_14 : decode cX2_readTerm 14 = .ok (.iconst 0, 1) := by decide +kernel
theorem dX2_readTerm_15 : decode cX2_readTerm 15 = .ok (.ireturn, 1) := by decide +kernel
theorem dX2_readTerm_16 : decode cX2_readTerm 16 = .ok (.aload_n 0, 1) := by decide +kernel
theorem dX2_readTerm_17 : decode cX2_readTerm 17 = .ok (.getfield 14, 3) := by decide +kernel
theorem dX2_readTerm_20 : decode cX2_readTerm 20 = .ok (.invokevirtual 121, 3) := by decide +kernel
theorem dX2_readTerm_23 : decode cX2_readTerm 23 = .ok (.iload_n 1, 1) := by decide +kernel
theorem dX2_readTerm_24 : decode cX2_readTerm 24 = .ok (.ireturn, 1) := by decide +kernel
theorem dX2_termAtHand_0 : decode cX2_termAtHand 0 = .ok (.aload_n 0, 1) := by decide +kernel
theorem dX2_termAtHand_1 : decode cX2_termAtHand 1 = .ok (.getfield 14, 3) := by decide +kernel
theorem dX2_termAtHand_4 : decode cX2_termAtHand 4 = .ok (.getfield 57, 3) := by decide +kernel
theorem dX2_termAtHand_7 : decode cX2_termAtHand 7 = .ok (.lookupswitch 85 #[(1, 57), (309, 69), (315, 77), (317, 73), (322, 65), (323, 81)], 57) := by decide +kernel
theorem dX2_termAtHand_64 : decode cX2_termAtHand 64 = .ok (.aload_n 0, 1) := by decide +kernel
theorem dX2_termAtHand_65 : decode cX2_termAtHand 65 = .ok (.getfield 14, 3) := by decide +kernel
theorem dX2_termAtHand_68 : decode cX2_termAtHand 68 = .ok (.getfield 118, 3) := by decide +kernel
theorem dX2_termAtHand_71 : decode cX2_termAtHand 71 = .ok (.ireturn, 1) := by decide +kernel
theorem dX2_termAtHand_72 : decode cX2_termAtHand 72 = .ok (.sipush 1000, 3) := by decide +kernel
theorem dX2_termAtHand_75 : decode cX2_termAtHand 75 = .ok (.ireturn, 1) := by decide +kernel
theorem dX2_termAtHand_76 : decode cX2_termAtHand 76 = .ok (.sipush 1001, 3) := by decide +kernel
theorem dX2_termAtHand_79 : decode cX2_termAtHand 79 = .ok (.ireturn, 1) := by decide +kernel
theorem dX2_termAtHand_80 : decode cX2_termAtHand 80 = .ok (.sipush 1002, 3) := by decide +kernel
theorem dX2_termAtHand_83 : decode cX2_termAtHand 83 = .ok (.ireturn, 1) := by decide +kernel
theorem dX2_termAtHand_84 : decode cX2_termAtHand 84 = .ok (.sipush 1003, 3) := by decide +kernel
theorem dX2_termAtHand_87 : decode cX2_termAtHand 87 = .ok (.ireturn, 1) := by decide +kernel
theorem dX2_termAtHand_88 : decode cX2_termAtHand 88 = .ok (.sipush 1004, 3) := by decide +kernel
theorem dX2_termAtHand_91 : decode cX2_termAtHand 91 = .ok (.ireturn, 1) := by decide +kernel
theorem dX2_termAtHand_92 : decode cX2_termAtHand 92 = .ok (.iconst (-1), 1) := by decide +kernel
theorem dX2_termAtHand_93 : decode cX2_termAtHand 93 = .ok (.ireturn, 1) := by decide +kernel
theorem dX2_addStep_0 : decode cX2_addStep 0 = .ok (.aload_n 0, 1) := by decide +kernel
theorem dX2_addStep_1 : decode cX2_addStep 1 = .ok (.getfield 34, 3) := by decide +kernel
theorem dX2_addStep_4 : decode cX2_addStep 4 = .ok (.aload_n 0, 1) := by decide +kernel
theorem dX2_addStep_5 : decode cX2_addStep 5 = .ok (.getfield 26, 3) := by decide +kernel
theorem dX2_addStep_8 : decode cX2_addStep 8 = .ok (.arraylength, 1) := by decide +kernel
theorem dX2_addStep_9 : decode cX2_addStep 9 = .ok (.if_icmp .ge 28, 3) := by decide +kernel
theorem dX2_addStep_12 : decode cX2_addStep 12 = .ok (.aload_n 0, 1) := by decide +kernel
theorem dX2_addStep_13 : decode cX2_addStep 13 = .ok (.getfield 26, 3) := by decide +kernel
theorem dX2_addStep_16 : decode cX2_addStep 16 = .ok (.aload_n 0, 1) := by decide +kernel
theorem dX2_addStep_17 : decode cX2_addStep 17 = .ok (.getfield 34, 3) := by decide +kernel
theorem dX2_addStep_20 : decode cX2_addStep 20 = .ok (.iload_n 1, 1) := by decide +kernel
theorem dX2_addStep_21 : decode cX2_addStep 21 = .ok (.iload_n 2, 1) := by decide +kernel
theorem dX2_addStep_22 : decode cX2_addStep 22 = .ok (.iload_n 3, 1) := by decide +kernel
theorem dX2_addStep_23 : decode cX2_addStep 23 = .ok (.invokestatic 140, 3) := by decide +kernel
theorem dX2_addStep_26 : decode cX2_addStep 26 = .ok (.iastore, 1) := by decide +kernel
theorem dX2_addStep_27 : decode cX2_addStep 27 = .ok (.aload_n 0, 1) := by decide +kernel
theorem dX2_addStep_28 : decode cX2_addStep 28 = .ok (.dup, 1) := by decide +kernel
theorem dX2_addStep_29 : decode cX2_addStep 29 = .ok (.getfield 34, 3) := by decide +kernel
theorem dX2_addStep_32 : decode cX2_addStep 32 = .ok (.iconst 1, 1) := by decide +kernel
theorem dX2_addStep_33 : decode cX2_addStep 33 = .ok (.iadd, 1) := by decide +kernel
theorem dX2_addStep_34 : decode cX2_addStep 34 = .ok (.putfield 34, 3) := by decide +kernel
theorem dX2_addStep_37 : decode cX2_addStep 37 = .ok (.return_, 1) := by decide +kernel
theorem dX2_takes_0 : decode cX2_takes 0 = .ok (.aload_n 0, 1) := by decide +kernel
theorem dX2_takes_1 : decode cX2_takes 1 = .ok (.getfield 14, 3) := by decide +kernel
theorem dX2_takes_4 : decode cX2_takes 4 = .ok (.getfield 57, 3) := by decide +kernel
theorem dX2_takes_7 : decode cX2_takes 7 = .ok (.iload_n 1, 1) := by decide +kernel
theorem dX2_takes_8 : decode cX2_takes 8 = .ok (.if_icmp .eq 5, 3) := by decide +kernel
theorem dX2_takes_11 : decode cX2_takes 11 = .ok (.iconst 0, 1) := by decide +kernel
theorem dX2_takes_12 : decode cX2_takes 12 = .ok (.ireturn, 1) := by decide +kernel
theorem dX2_takes_13 : decode cX2_takes 13 = .ok (.aload_n 0, 1) := by decide +kernel
theorem dX2_takes_14 : decode cX2_takes 14 = .ok (.getfield 14, 3) := by decide +kernel
theorem dX2_takes_17 : decode cX2_takes 17 = .ok (.invokevirtual 121, 3) := by decide +kernel
theorem dX2_takes_20 : decode cX2_takes 20 = .ok (.iconst 1, 1) := by decide +kernel
theorem dX2_takes_21 : decode cX2_takes 21 = .ok (.ireturn, 1) := by decide +kernel
theorem dX2_needs_0 : decode cX2_needs 0 = .ok (.aload_n 0, 1) := by decide +kernel
theorem dX2_needs_1 : decode cX2_needs 1 = .ok (.getfield 14, 3) := by decide +kernel
theorem dX2_needs_4 : decode cX2_needs 4 = .ok (.getfield 57, 3) := by decide +kernel
theorem dX2_needs_7 : decode cX2_needs 7 = .ok (.iload_n 1, 1) := by decide +kernel
theorem dX2_needs_8 : decode cX2_needs 8 = .ok (.if_icmp .ne 13, 3) := by decide +kernel
theorem dX2_needs_11 : decode cX2_needs 11 = .ok (.aload_n 0, 1) := by decide +kernel
theorem dX2_needs_12 : decode cX2_needs 12 = .ok (.getfield 14, 3) := by decide +kernel
theorem dX2_needs_15 : decode cX2_needs 15 = .ok (.invokevirtual 121, 3) := by decide +kernel
theorem dX2_needs_18 : decode cX2_needs 18 = .ok (.goto 7, 3) := by decide +kernel
theorem dX2_needs_21 : decode cX2_needs 21 = .ok (.aload_n 0, 1) := by decide +kernel
theorem dX2_needs_22 : decode cX2_needs 22 = .ok (.invokevirtual 60, 3) := by decide +kernel
theorem dX2_needs_25 : decode cX2_needs 25 = .ok (.return_, 1) := by decide +kernel
theorem dX2_choice_0 : decode cX2_choice 0 = .ok (.aload_n 0, 1) := by decide +kernel
theorem dX2_choice_1 : decode cX2_choice 1 = .ok (.getfield 14, 3) := by decide +kernel
theorem dX2_choice_4 : decode cX2_choice 4 = .ok (.getfield 57, 3) := by decide +kernel
theorem dX2_choice_7 : decode cX2_choice 7 = .ok (.istore_n 3, 1) := by decide +kernel
theorem dX2_choice_8 : decode cX2_choice 8 = .ok (.iload_n 3, 1) := by decide +kernel
theorem dX2_choice_9 : decode cX2_choice 9 = .ok (.iload_n 1, 1) := by decide +kernel
theorem dX2_choice_10 : decode cX2_choice 10 = .ok (.if_icmp .lt 8, 3) := by decide +kernel
theorem dX2_choice_13 : decode cX2_choice 13 = .ok (.iload_n 3, 1) := by decide +kernel
theorem dX2_choice_14 : decode cX2_choice 14 = .ok (.iload_n 2, 1) := by decide +kernel
theorem dX2_choice_15 : decode cX2_choice 15 = .ok (.if_icmp .le 9, 3) := by decide +kernel
theorem dX2_choice_18 : decode cX2_choice 18 = .ok (.aload_n 0, 1) := by decide +kernel
theorem dX2_choice_19 : decode cX2_choice 19 = .ok (.invokevirtual 60, 3) := by decide +kernel
theorem dX2_choice_22 : decode cX2_choice 22 = .ok (.iconst 0, 1) := by decide +kernel
theorem dX2_choice_23 : decode cX2_choice 23 = .ok (.ireturn, 1) := by decide +kernel
theorem dX2_choice_24 : decode cX2_choice 24 = .ok (.aload_n 0, 1) := by decide +kernel
theorem dX2_choice_25 : decode cX2_choice 25 = .ok (.getfield 14, 3) := by decide +kernel
theorem dX2_choice_28 : decode cX2_choice 28 = .ok (.invokevirtual 121, 3) := by decide +kernel
theorem dX2_choice_31 : decode cX2_choice 31 = .ok (.iload_n 3, 1) := by decide +kernel
theorem dX2_choice_32 : decode cX2_choice 32 = .ok (.iload_n 1, 1) := by decide +kernel
theorem dX2_choice_33 : decode cX2_choice 33 = .ok (.isub, 1) := by decide +kernel
theorem dX2_choice_34 : decode cX2_choice 34 = .ok (.ireturn, 1) := by decide +kernel
theorem dX2_refuse_0 : decode cX2_refuse 0 = .ok (.aload_n 0, 1) := by decide +kernel
theorem dX2_refuse_1 : decode cX2_refuse 1 = .ok (.getfield 37, 3) := by decide +kernel
theorem dX2_refuse_4 : decode cX2_refuse 4 = .ok (.iconst 1, 1) := by decide +kernel
theorem dX2_refuse_5 : decode cX2_refuse 5 = .ok (.if_icmp .eq 19, 3) := by decide +kernel
theorem dX2_refuse_8 : decode cX2_refuse 8 = .ok (.aload_n 0, 1) := by decide +kernel
theorem dX2_refuse_9 : decode cX2_refuse 9 = .ok (.iconst 1, 1) := by decide +kernel
theorem dX2_refuse_10 : decode cX2_refuse 10 = .ok (.putfield 37, 3) := by decide +kernel
theorem dX2_refuse_13 : decode cX2_refuse 13 = .ok (.aload_n 0, 1) := by decide +kernel
theorem dX2_refuse_14 : decode cX2_refuse 14 = .ok (.aload_n 0, 1) := by decide +kernel
theorem dX2_refuse_15 : decode cX2_refuse 15 = .ok (.getfield 14, 3) := by decide +kernel
theorem dX2_refuse_18 : decode cX2_refuse 18 = .ok (.getfield 143, 3) := by decide +kernel
theorem dX2_refuse_21 : decode cX2_refuse 21 = .ok (.putfield 40, 3) := by decide +kernel
theorem dX2_refuse_24 : decode cX2_refuse 24 = .ok (.aload_n 0, 1) := by decide +kernel
theorem dX2_refuse_25 : decode cX2_refuse 25 = .ok (.getfield 14, 3) := by decide +kernel
theorem dX2_refuse_28 : decode cX2_refuse 28 = .ok (.iconst 2, 1) := by decide +kernel
theorem dX2_refuse_29 : decode cX2_refuse 29 = .ok (.putfield 57, 3) := by decide +kernel
theorem dX2_refuse_32 : decode cX2_refuse 32 = .ok (.return_, 1) := by decide +kernel
theorem dX2_note_0 : decode cX2_note 0 = .ok (.aload_n 0, 1) := by decide +kernel
theorem dX2_note_1 : decode cX2_note 1 = .ok (.getfield 37, 3) := by decide +kernel
theorem dX2_note_4 : decode cX2_note 4 = .ok (.ifCond .ne 19, 3) := by decide +kernel
theorem dX2_note_7 : decode cX2_note 7 = .ok (.aload_n 0, 1) := by decide +kernel
theorem dX2_note_8 : decode cX2_note 8 = .ok (.iload_n 1, 1) := by decide +kernel
theorem dX2_note_9 : decode cX2_note 9 = .ok (.putfield 37, 3) := by decide +kernel
theorem dX2_note_12 : decode cX2_note 12 = .ok (.aload_n 0, 1) := by decide +kernel
theorem dX2_note_13 : decode cX2_note 13 = .ok (.aload_n 0, 1) := by decide +kernel
theorem dX2_note_14 : decode cX2_note 14 = .ok (.getfield 14, 3) := by decide +kernel
theorem dX2_note_17 : decode cX2_note 17 = .ok (.getfield 143, 3) := by decide +kernel
theorem dX2_note_20 : decode cX2_note 20 = .ok (.putfield 40, 3) := by decide +kernel
theorem dX2_note_23 : decode cX2_note 23 = .ok (.return_, 1) := by decide +kernel
theorem dX3_init_0 : decode cX3_init 0 = .ok (.aload_n 0, 1) := by decide +kernel
theorem dX3_init_1 : decode cX3_init 1 = .ok (.invokespecial 3, 3) := by decide +kernel
theorem dX3_init_4 : decode cX3_init 4 = .ok (.aload_n 0, 1) := by decide +kernel
theorem dX3_init_5 : decode cX3_init 5 = .ok (.iload_n 1, 1) := by decide +kernel
theorem dX3_init_6 : decode cX3_init 6 = .ok (.putfield 9, 3) := by decide +kernel
theorem dX3_init_9 : decode cX3_init 9 = .ok (.aload_n 0, 1) := by decide +kernel
theorem dX3_init_10 : decode cX3_init 10 = .ok (.aload_n 2, 1) := by decide +kernel
theorem dX3_init_11 : decode cX3_init 11 = .ok (.putfield 15, 3) := by decide +kernel
theorem dX3_init_14 : decode cX3_init 14 = .ok (.aload_n 0, 1) := by decide +kernel
theorem dX3_init_15 : decode cX3_init 15 = .ok (.iload_n 1, 1) := by decide +kernel
theorem dX3_init_16 : decode cX3_init 16 = .ok (.iconst 1, 1) := by decide +kernel
theorem dX3_init_17 : decode cX3_init 17 = .ok (.aload_n 2, 1) := by decide +kernel
theorem dX3_init_18 : decode cX3_init 18 = .ok (.arraylength, 1) := by decide +kernel
theorem dX3_init_19 : decode cX3_init 19 = .ok (.ishl, 1) := by decide +kernel
theorem dX3_init_20 : decode cX3_init 20 = .ok (.iconst 1, 1) := by decide +kernel
theorem dX3_init_21 : decode cX3_init 21 = .ok (.isub, 1) := by decide +kernel
theorem dX3_init_22 : decode cX3_init 22 = .ok (.aload_n 2, 1) := by decide +kernel
theorem dX3_init_23 : decode cX3_init 23 = .ok (.invokestatic 19, 3) := by decide +kernel
theorem dX3_init_26 : decode cX3_init 26 = .ok (.aload_n 2, 1) := by decide +kernel
theorem dX3_init_27 : decode cX3_init 27 = .ok (.arraylength, 1) := by decide +kernel
theorem dX3_init_28 : decode cX3_init 28 = .ok (.invokestatic 23, 3) := by decide +kernel
theorem dX3_init_31 : decode cX3_init 31 = .ok (.putfield 27, 3) := by decide +kernel
theorem dX3_init_34 : decode cX3_init 34 = .ok (.return_, 1) := by decide +kernel
theorem dX3_lineAt_0 : decode cX3_lineAt 0 = .ok (.iload_n 1, 1) := by decide +kernel
theorem dX3_lineAt_1 : decode cX3_lineAt 1 = .ok (.aload_n 0, 1) := by decide +kernel
theorem dX3_lineAt_2 : decode cX3_lineAt 2 = .ok (.getfield 15, 3) := by decide +kernel
theorem dX3_lineAt_5 : decode cX3_lineAt 5 = .ok (.arraylength, 1) := by decide +kernel
theorem dX3_lineAt_6 : decode cX3_lineAt 6 = .ok (.invokestatic 31, 3) := by decide +kernel
theorem dX3_lineAt_9 : decode cX3_lineAt 9 = .ok (.ifCond .eq 12, 3) := by decide +kernel
theorem dX3_lineAt_12 : decode cX3_lineAt 12 = .ok (.aload_n 0, 1) := by decide +kernel
theorem dX3_lineAt_13 : decode cX3_lineAt 13 = .ok (.getfield 15, 3) := by decide +kernel
theorem dX3_lineAt_16 : decode cX3_lineAt 16 = .ok (.iload_n 1, 1) := by decide +kernel
theorem dX3_lineAt_17 : decode cX3_lineAt 17 = .ok (.aaload, 1) := by decide +kernel
theorem dX3_lineAt_18 : decode cX3_lineAt 18 = .ok (.goto 4, 3) := by decide +kernel
theorem dX3_lineAt_21 : decode cX3_lineAt 21 = .ok (.aconst_null, 1) := by decide +kernel
theorem dX3_lineAt_22 : decode cX3_lineAt 22 = .ok (.areturn, 1) := by decide +kernel
theorem dX3_letSet_0 : decode cX3_letSet 0 = .ok (.aload_n 0, 1) := by decide +kernel
theorem dX3_letSet_1 : decode cX3_letSet 1 = .ok (.getfield 15, 3) := by decide +kernel
theorem dX3_letSet_4 : decode cX3_letSet 4 = .ok (.invokestatic 19, 3) := by decide +kernel
theorem dX3_letSet_7 : decode cX3_letSet 7 = .ok (.ireturn, 1) := by decide +kernel
theorem dX3_changed_0 : decode cX3_changed 0 = .ok (.iconst 0, 1) := by decide +kernel
theorem dX3_changed_1 : decode cX3_changed 1 = .ok (.aload_n 0, 1) := by decide +kernel
theorem dX3_changed_2 : decode cX3_changed 2 = .ok (.getfield 15, 3) := by decide +kernel
theorem dX3_changed_5 : decode cX3_changed 5 = .ok (.arraylength, 1) := by decide +kernel
theorem dX3_changed_6 : decode cX3_changed 6 = .ok (.iload_n 1, 1) := by decide +kernel
theorem dX3_changed_7 : decode cX3_changed 7 = .ok (.invokestatic 35, 3) := by decide +kernel
theorem dX3_changed_10 : decode cX3_changed 10 = .ok (.isub, 1) := by decide +kernel
theorem dX3_changed_11 : decode cX3_changed 11 = .ok (.invokestatic 41, 3) := by decide +kernel
theorem dX3_changed_14 : decode cX3_changed 14 = .ok (.anewarray 47, 3) := by decide +kernel
theorem dX3_changed_17 : decode cX3_changed 17 = .ok (.astore_n 3, 1) := by decide +kernel
theorem dX3_changed_18 : decode cX3_changed 18 = .ok (.iconst 0, 1) := by decide +kernel
theorem dX3_changed_19 : decode cX3_changed 19 = .ok (.istore 4, 2) := by decide +kernel
theorem dX3_changed_21 : decode cX3_changed 21 = .ok (.iconst 0, 1) := by decide +kernel
theorem dX3_changed_22 : decode cX3_changed 22 = .ok (.istore 5, 2) := by decide +kernel
theorem dX3_changed_24 : decode cX3_changed 24 = .ok (.iload 5, 2) := by decide +kernel
theorem dX3_changed_26 : decode cX3_changed 26 = .ok (.aload_n 0, 1) := by decide +kernel
theorem dX3_changed_27 : decode cX3_changed 27 = .ok (.getfield 15, 3) := by decide +kernel
theorem dX3_changed_30 : decode cX3_changed 30 = .ok (.arraylength, 1) := by decide +kernel
theorem dX3_changed_31 : decode cX3_changed 31 = .ok (.if_icmp .ge 71, 3) := by decide +kernel
theorem dX3_changed_34 : decode cX3_changed 34 = .ok (.iload 4, 2) := by decide +kernel
theorem dX3_changed_36 : decode cX3_changed 36 = .ok (.aload_n 3, 1) := by decide +kernel
theorem dX3_changed_37 : decode cX3_changed 37 = .ok (.arraylength, 1) := by decide +kernel
theorem dX3_changed_38 : decode cX3_changed 38 = .ok (.if_icmp .ge 64, 3) := by decide +kernel
theorem dX3_changed_41 : decode cX3_changed 41 = .ok (.iload_n 1, 1) := by decide +kernel
theorem dX3_changed_42 : decode cX3_changed 42 = .ok (.iload 5, 2) := by decide +kernel
theorem dX3_changed_44 : decode cX3_changed 44 = .ok (.invokestatic 49, 3) := by decide +kernel
theorem dX3_changed_47 : decode cX3_changed 47 = .ok (.ifCond .ne 49, 3) := by decide +kernel
theorem dX3_changed_50 : decode cX3_changed 50 = .ok (.aload_n 0, 1) := by decide +kernel
theorem dX3_changed_51 : decode cX3_changed 51 = .ok (.getfield 15, 3) := by decide +kernel
theorem dX3_changed_54 : decode cX3_changed 54 = .ok (.iload 5, 2) := by decide +kernel
theorem dX3_changed_56 : decode cX3_changed 56 = .ok (.aaload, 1) := by decide +kernel
theorem dX3_changed_57 : decode cX3_changed 57 = .ok (.ifnull 39, 3) := by decide +kernel
theorem dX3_changed_60 : decode cX3_changed 60 = .ok (.aload_n 3, 1) := by decide +kernel
theorem dX3_changed_61 : decode cX3_changed 61 = .ok (.iload 4, 2) := by decide +kernel
theorem dX3_changed_63 : decode cX3_changed 63 = .ok (.iload_n 2, 1) := by decide +kernel
theorem dX3_changed_64 : decode cX3_changed 64 = .ok (.iload 5, 2) := by decide +kernel
theorem dX3_changed_66 : decode cX3_changed 66 = .ok (.invokestatic 49, 3) := by decide +kernel
theorem dX3_changed_69 : decode cX3_changed 69 = .ok (.ifCond .eq 16, 3) := by decide +kernel
theorem dX3_changed_72 : decode cX3_changed 72 = .ok (.aload_n 0, 1) := by decide +kernel
theorem dX3_changed_73 : decode cX3_changed 73 = .ok (.getfield 15, 3) := by decide +kernel
theorem dX3_changed_76 : decode cX3_changed 76 = .ok (.iload 5, 2) := by decide +kernel
theorem dX3_changed_78 : decode cX3_changed 78 = .ok (.aaload, 1) := by decide +kernel
theorem dX3_changed_79 : decode cX3_changed 79 = .ok (.invokevirtual 52, 3) := by decide +kernel
theorem dX3_changed_82 : decode cX3_changed 82 = .ok (.goto 10, 3) := by decide +kernel
theorem dX3_changed_85 : decode cX3_changed 85 = .ok (.aload_n 0, 1) := by decide +kernel
theorem dX3_changed_86 : decode cX3_changed 86 = .ok (.getfield 15, 3) := by decide +kernel
theorem dX3_changed_89 : decode cX3_changed 89 = .ok (.iload 5, 2) := by decide +kernel
theorem dX3_changed_91 : decode cX3_changed 91 = .ok (.aaload, 1) := by decide +kernel
theorem dX3_changed_92 : decode cX3_changed 92 = .ok (.aastore, 1) := by decide +kernel
theorem dX3_changed_93 : decode cX3_changed 93 = .ok (.iinc 4 1, 3) := by decide +kernel
theorem dX3_changed_96 : decode cX3_changed 96 = .ok (.iinc 5 1, 3) := by decide +kernel
theorem dX3_changed_99 : decode cX3_changed 99 = .ok (.goto (-75), 3) := by decide +kernel
theorem dX3_changed_102 : decode cX3_changed 102 = .ok (.new 10, 3) := by decide +kernel
theorem dX3_changed_105 : decode cX3_changed 105 = .ok (.dup, 1) := by decide +kernel
theorem dX3_changed_106 : decode cX3_changed 106 = .ok (.aload_n 0, 1) := by decide +kernel
theorem dX3_changed_107 : decode cX3_changed 107 = .ok (.getfield 9, 3) := by decide +kernel
theorem dX3_changed_110 : decode cX3_changed 110 = .ok (.aload_n 3, 1) := by decide +kernel
theorem dX3_changed_111 : decode cX3_changed 111 = .ok (.invokespecial 56, 3) := by decide +kernel
theorem dX3_changed_114 : decode cX3_changed 114 = .ok (.areturn, 1) := by decide +kernel
theorem dX3_orderOf_0 : decode cX3_orderOf 0 = .ok (.iconst 0, 1) := by decide +kernel
theorem dX3_orderOf_1 : decode cX3_orderOf 1 = .ok (.iload_n 3, 1) := by decide +kernel
theorem dX3_orderOf_2 : decode cX3_orderOf 2 = .ok (.invokestatic 41, 3) := by decide +kernel
theorem dX3_orderOf_5 : decode cX3_orderOf 5 = .ok (.newarray .int, 2) := by decide +kernel
theorem dX3_orderOf_7 : decode cX3_orderOf 7 = .ok (.astore 4, 2) := by decide +kernel
theorem dX3_orderOf_9 : decode cX3_orderOf 9 = .ok (.iload_n 0, 1) := by decide +kernel
theorem dX3_orderOf_10 : decode cX3_orderOf 10 = .ok (.iconst 1, 1) := by decide +kernel
theorem dX3_orderOf_11 : decode cX3_orderOf 11 = .ok (.if_icmp .ne 36, 3) := by decide +kernel
theorem dX3_orderOf_14 : decode cX3_orderOf 14 = .ok (.iconst 0, 1) := by decide +kernel
theorem dX3_orderOf_15 : decode cX3_orderOf 15 = .ok (.istore 5, 2) := by decide +kernel
theorem dX3_orderOf_17 : decode cX3_orderOf 17 = .ok (.iload 5, 2) := by decide +kernel
theorem dX3_orderOf_19 : decode cX3_orderOf 19 = .ok (.aload 4, 2) := by decide +kernel
theorem dX3_orderOf_21 : decode cX3_orderOf 21 = .ok (.arraylength, 1) := by decide +kernel
theorem dX3_orderOf_22 : decode cX3_orderOf 22 = .ok (.if_icmp .ge 22, 3) := by decide +kernel
theorem dX3_orderOf_25 : decode cX3_orderOf 25 = .ok (.aload 4, 2) := by decide +kernel
theorem dX3_orderOf_27 : decode cX3_orderOf 27 = .ok (.iload 5, 2) := by decide +kernel
theorem dX3_orderOf_29 : decode cX3_orderOf 29 = .ok (.aload 4, 2) := by decide +kernel
theorem dX3_orderOf_31 : decode cX3_orderOf 31 = .ok (.arraylength, 1) := by decide +kernel
theorem dX3_orderOf_32 : decode cX3_orderOf 32 = .ok (.iconst 1, 1) := by decide +kernel
theorem dX3_orderOf_33 : decode cX3_orderOf 33 = .ok (.isub, 1) := by decide +kernel
theorem dX3_orderOf_34 : decode cX3_orderOf 34 = .ok (.iload 5, 2) := by decide +kernel
theorem dX3_orderOf_36 : decode cX3_orderOf 36 = .ok (.isub, 1) := by decide +kernel
theorem dX3_orderOf_37 : decode cX3_orderOf 37 = .ok (.iastore, 1) := by decide +kernel
theorem dX3_orderOf_38 : decode cX3_orderOf 38 = .ok (.iinc 5 1, 3) := by decide +kernel
theorem dX3_orderOf_41 : decode cX3_orderOf 41 = .ok (.goto (-24), 3) := by decide +kernel
theorem dX3_orderOf_44 : decode cX3_orderOf 44 = .ok (.aload 4, 2) := by decide +kernel
theorem dX3_orderOf_46 : decode cX3_orderOf 46 = .ok (.areturn, 1) := by decide +kernel
theorem dX3_orderOf_47 : decode cX3_orderOf 47 = .ok (.iload_n 0, 1) := by decide +kernel
theorem dX3_orderOf_48 : decode cX3_orderOf 48 = .ok (.ifCond .ne 7, 3) := by decide +kernel
theorem dX3_orderOf_51 : decode cX3_orderOf 51 = .ok (.iload_n 1, 1) := by decide +kernel
theorem dX3_orderOf_52 : decode cX3_orderOf 52 = .ok (.goto 17, 3) := by decide +kernel
theorem dX3_orderOf_55 : decode cX3_orderOf 55 = .ok (.iload_n 0, 1) := by decide +kernel
theorem dX3_orderOf_56 : decode cX3_orderOf 56 = .ok (.iconst 3, 1) := by decide +kernel
theorem dX3_orderOf_57 : decode cX3_orderOf 57 = .ok (.if_icmp .ne 7, 3) := by decide +kernel
theorem dX3_orderOf_60 : decode cX3_orderOf 60 = .ok (.iload_n 2, 1) := by decide +kernel
theorem dX3_orderOf_61 : decode cX3_orderOf 61 = .ok (.goto 8, 3) := by decide +kernel
theorem dX3_orderOf_64 : decode cX3_orderOf 64 = .ok (.iload_n 1, 1) := by decide +kernel
theorem dX3_orderOf_65 : decode cX3_orderOf 65 = .ok (.iload_n 2, 1) := by decide +kernel
theorem dX3_orderOf_66 : decode cX3_orderOf 66 = .ok (.iconst (-1), 1) := by decide +kernel
theorem dX3_orderOf_67 : decode cX3_orderOf 67 = .ok (.ixor, 1) := by decide +kernel
theorem dX3_orderOf_68 : decode cX3_orderOf 68 = .ok (.iand, 1) := by decide +kernel
theorem dX3_orderOf_69 : decode cX3_orderOf 69 = .ok (.istore 5, 2) := by decide +kernel
theorem dX3_orderOf_71 : decode cX3_orderOf 71 = .ok (.iload_n 1, 1) := by decide +kernel
theorem dX3_orderOf_72 : decode cX3_orderOf 72 = .ok (.iload 5, 2) := by decide +kernel
theorem dX3_orderOf_74 : decode cX3_orderOf 74 = .ok (.iconst (-1), 1) := by decide +kernel
theorem dX3_orderOf_75 : decode cX3_orderOf 75 = .ok (.ixor, 1) := by decide +kernel
theorem dX3_orderOf_76 : decode cX3_orderOf 76 = .ok (.iand, 1) := by decide +kernel
theorem dX3_orderOf_77 : decode cX3_orderOf 77 = .ok (.aload 4, 2) := by decide +kernel
theorem dX3_orderOf_79 : decode cX3_orderOf 79 = .ok (.iload 5, 2) := by decide +kernel
theorem dX3_orderOf_81 : decode cX3_orderOf 81 = .ok (.aload 4, 2) := by decide +kernel
theorem dX3_orderOf_83 : decode cX3_orderOf 83 = .ok (.iconst 0, 1) := by decide +kernel
theorem dX3_orderOf_84 : decode cX3_orderOf 84 = .ok (.invokestatic 59, 3) := by decide +kernel
theorem dX3_orderOf_87 : decode cX3_orderOf 87 = .ok (.invokestatic 59, 3) := by decide +kernel
theorem dX3_orderOf_90 : decode cX3_orderOf 90 = .ok (.pop, 1) := by decide +kernel
theorem dX3_orderOf_91 : decode cX3_orderOf 91 = .ok (.aload 4, 2) := by decide +kernel
theorem dX3_orderOf_93 : decode cX3_orderOf 93 = .ok (.areturn, 1) := by decide +kernel
theorem dX3_addLines_0 : decode cX3_addLines 0 = .ok (.iload_n 2, 1) := by decide +kernel
theorem dX3_addLines_1 : decode cX3_addLines 1 = .ok (.istore_n 3, 1) := by decide +kernel
theorem dX3_addLines_2 : decode cX3_addLines 2 = .ok (.iconst 0, 1) := by decide +kernel
theorem dX3_addLines_3 : decode cX3_addLines 3 = .ok (.istore 4, 2) := by decide +kernel
theorem dX3_addLines_5 : decode cX3_addLines 5 = .ok (.iload 4, 2) := by decide +kernel
theorem dX3_addLines_7 : decode cX3_addLines 7 = .ok (.bipush 12, 2) := by decide +kernel
theorem dX3_addLines_9 : decode cX3_addLines 9 = .ok (.if_icmp .ge 35, 3) := by decide +kernel
theorem dX3_addLines_12 : decode cX3_addLines 12 = .ok (.iload_n 0, 1) := by decide +kernel
theorem dX3_addLines_13 : decode cX3_addLines 13 = .ok (.iload 4, 2) := by decide +kernel
theorem dX3_addLines_15 : decode cX3_addLines 15 = .ok (.invokestatic 49, 3) := by decide +kernel
theorem dX3_addLines_18 : decode cX3_addLines 18 = .ok (.ifCond .eq 20, 3) := by decide +kernel
theorem dX3_addLines_21 : decode cX3_addLines 21 = .ok (.iload_n 3, 1) := by decide +kernel
theorem dX3_addLines_22 : decode cX3_addLines 22 = .ok (.aload_n 1, 1) := by decide +kernel
theorem dX3_addLines_23 : decode cX3_addLines 23 = .ok (.arraylength, 1) := by decide +kernel
theorem dX3_addLines_24 : decode cX3_addLines 24 = .ok (.invokestatic 31, 3) := by decide +kernel
theorem dX3_addLines_27 : decode cX3_addLines 27 = .ok (.ifCond .eq 11, 3) := by decide +kernel
theorem dX3_addLines_30 : decode cX3_addLines 30 = .ok (.aload_n 1, 1) := by decide +kernel
theorem dX3_addLines_31 : decode cX3_addLines 31 = .ok (.iload_n 3, 1) := by decide +kernel
theorem dX3_addLines_32 : decode cX3_addLines 32 = .ok (.iload 4, 2) := by decide +kernel
theorem dX3_addLines_34 : decode cX3_addLines 34 = .ok (.iastore, 1) := by decide +kernel
theorem dX3_addLines_35 : decode cX3_addLines 35 = .ok (.iinc 3 1, 3) := by decide +kernel
theorem dX3_addLines_38 : decode cX3_addLines 38 = .ok (.iinc 4 1, 3) := by decide +kernel
theorem dX3_addLines_41 : decode cX3_addLines 41 = .ok (.goto (-36), 3) := by decide +kernel
theorem dX3_addLines_44 : decode cX3_addLines 44 = .ok (.iload_n 3, 1) := by decide +kernel
theorem dX3_addLines_45 : decode cX3_addLines 45 = .ok (.ireturn, 1) := by decide +kernel
theorem dX3_letsOf_0 : decode cX3_letsOf 0 = .ok (.iconst 0, 1) := by decide +kernel
theorem dX3_letsOf_1 : decode cX3_letsOf 1 = .ok (.istore_n 1, 1) := by decide +kernel
theorem dX3_letsOf_2 : decode cX3_letsOf 2 = .ok (.iconst 0, 1) := by decide +kernel
theorem dX3_letsOf_3 : decode cX3_letsOf 3 = .ok (.istore_n 2, 1) := by decide +kernel
theorem dX3_letsOf_4 : decode cX3_letsOf 4 = .ok (.iload_n 2, 1) := by decide +kernel
theorem dX3_letsOf_5 : decode cX3_letsOf 5 = .ok (.aload_n 0, 1) := by decide +kernel
theorem dX3_letsOf_6 : decode cX3_letsOf 6 = .ok (.arraylength, 1) := by decide +kernel
theorem dX3_letsOf_7 : decode cX3_letsOf 7 = .ok (.if_icmp .ge 30, 3) := by decide +kernel
theorem dX3_letsOf_10 : decode cX3_letsOf 10 = .ok (.aload_n 0, 1) := by decide +kernel
theorem dX3_letsOf_11 : decode cX3_letsOf 11 = .ok (.iload_n 2, 1) := by decide +kernel
theorem dX3_letsOf_12 : decode cX3_letsOf 12 = .ok (.aaload, 1) := by decide +kernel
theorem dX3_letsOf_13 : decode cX3_letsOf 13 = .ok (.ifnull 18, 3) := by decide +kernel
theorem dX3_letsOf_16 : decode cX3_letsOf 16 = .ok (.aload_n 0, 1) := by decide +kernel
theorem dX3_letsOf_17 : decode cX3_letsOf 17 = .ok (.iload_n 2, 1) := by decide +kernel
theorem dX3_letsOf_18 : decode cX3_letsOf 18 = .ok (.aaload, 1) := by decide +kernel
theorem dX3_letsOf_19 : decode cX3_letsOf 19 = .ok (.getfield 63, 3) := by decide +kernel
theorem dX3_letsOf_22 : decode cX3_letsOf 22 = .ok (.ifCond .eq 9, 3) := by decide +kernel
theorem dX3_letsOf_25 : decode cX3_letsOf 25 = .ok (.iload_n 1, 1) := by decide +kernel
theorem dX3_letsOf_26 : decode cX3_letsOf 26 = .ok (.iconst 1, 1) := by decide +kernel
theorem dX3_letsOf_27 : decode cX3_letsOf 27 = .ok (.iload_n 2, 1) := by decide +kernel
theorem dX3_letsOf_28 : decode cX3_letsOf 28 = .ok (.ishl, 1) := by decide +kernel
theorem dX3_letsOf_29 : decode cX3_letsOf 29 = .ok (.ior, 1) := by decide +kernel
theorem dX3_letsOf_30 : decode cX3_letsOf 30 = .ok (.istore_n 1, 1) := by decide +kernel
theorem dX3_letsOf_31 : decode cX3_letsOf 31 = .ok (.iinc 2 1, 3) := by decide +kernel
theorem dX3_letsOf_34 : decode cX3_letsOf 34 = .ok (.goto (-30), 3) := by decide +kernel
theorem dX3_letsOf_37 : decode cX3_letsOf 37 = .ok (.iload_n 1, 1) := by decide +kernel
theorem dX3_letsOf_38 : decode cX3_letsOf 38 = .ok (.ireturn, 1) := by decide +kernel
theorem dX4_init_0 : decode cX4_init 0 = .ok (.aload_n 0, 1) := by decide +kernel
theorem dX4_init_1 : decode cX4_init 1 = .ok (.invokespecial 3, 3) := by decide +kernel
theorem dX4_init_4 : decode cX4_init 4 = .ok (.aload_n 0, 1) := by decide +kernel
theorem dX4_init_5 : decode cX4_init 5 = .ok (.sipush 200, 3) := by decide +kernel
theorem dX4_init_8 : decode cX4_init 8 = .ok (.newarray .int, 2) := by decide +kernel
theorem dX4_init_10 : decode cX4_init 10 = .ok (.putfield 9, 3) := by decide +kernel
theorem dX4_init_13 : decode cX4_init 13 = .ok (.aload_n 0, 1) := by decide +kernel
theorem dX4_init_14 : decode cX4_init 14 = .ok (.sipush 200, 3) := by decide +kernel
theorem dX4_init_17 : decode cX4_init 17 = .ok (.newarray .int, 2) := by decide +kernel
theorem dX4_init_19 : decode cX4_init 19 = .ok (.putfield 15, 3) := by decide +kernel
theorem dX4_init_22 : decode cX4_init 22 = .ok (.return_, 1) := by decide +kernel
theorem dX4_start_0 : decode cX4_start 0 = .ok (.aload_n 0, 1) := by decide +kernel
theorem dX4_start_1 : decode cX4_start 1 = .ok (.aload_n 1, 1) := by decide +kernel
theorem dX4_start_2 : decode cX4_start 2 = .ok (.getfield 18, 3) := by decide +kernel
theorem dX4_start_5 : decode cX4_start 5 = .ok (.putfield 24, 3) := by decide +kernel
theorem dX4_start_8 : decode cX4_start 8 = .ok (.aload_n 0, 1) := by decide +kernel
theorem dX4_start_9 : decode cX4_start 9 = .ok (.aload_n 1, 1) := by decide +kernel
theorem dX4_start_10 : decode cX4_start 10 = .ok (.getfield 25, 3) := by decide +kernel
theorem dX4_start_13 : decode cX4_start 13 = .ok (.arraylength, 1) := by decide +kernel
theorem dX4_start_14 : decode cX4_start 14 = .ok (.putfield 29, 3) := by decide +kernel
theorem dX4_start_17 : decode cX4_start 17 = .ok (.aload_n 0, 1) := by decide +kernel
theorem dX4_start_18 : decode cX4_start 18 = .ok (.aload_n 1, 1) := by decide +kernel
theorem dX4_start_19 : decode cX4_start 19 = .ok (.invokevirtual 32, 3) := by decide +kernel
theorem dX4_start_22 : decode cX4_start 22 = .ok (.putfield 36, 3) := by decide +kernel
theorem dX4_start_25 : decode cX4_start 25 = .ok (.aload_n 0, 1) := by decide +kernel
theorem dX4_start_26 : decode cX4_start 26 = .ok (.iconst 0, 1) := by decide +kernel
theorem dX4_start_27 : decode cX4_start 27 = .ok (.putfield 39, 3) := by decide +kernel
theorem dX4_start_30 : decode cX4_start 30 = .ok (.return_, 1) := by decide +kernel
theorem dX4_want_0 : decode cX4_want 0 = .ok (.iconst 0, 1) := by decide +kernel
theorem dX4_want_1 : decode cX4_want 1 = .ok (.istore_n 3, 1) := by decide +kernel
theorem dX4_want_2 : decode cX4_want 2 = .ok (.iload_n 3, 1) := by decide +kernel
theorem dX4_want_3 : decode cX4_want 3 = .ok (.aload_n 0, 1) := by decide +kernel
theorem dX4_want_4 : decode cX4_want 4 = .ok (.getfield 39, 3) := by decide +kernel
theorem dX4_want_7 : decode cX4_want 7 = .ok (.if_icmp .ge 37, 3) := by decide +kernel
theorem dX4_want_10 : decode cX4_want 10 = .ok (.iload_n 3, 1) := by decide +kernel
theorem dX4_want_11 : decode cX4_want 11 = .ok (.sipush 200, 3) := by decide +kernel
theorem dX4_want_14 : decode cX4_want 14 = .ok (.if_icmp .ge 30, 3) := by decide +kernel
theorem dX4_want_17 : decode cX4_want 17 = .ok (.aload_n 0, 1) := by decide +kernel
theorem dX4_want_18 : decode cX4_want 18 = .ok (.getfield 9, 3) := by decide +kernel
theorem dX4_want_21 : decode cX4_want 21 = .ok (.iload_n 3, 1) := by decide +kernel
theorem dX4_want_22 : decode cX4_want 22 = .ok (.iaload, 1) := by decide +kernel
theorem dX4_want_23 : decode cX4_want 23 = .ok (.iload_n 1, 1) := by decide +kernel
theorem dX4_want_24 : decode cX4_want 24 = .ok (.if_icmp .ne 14, 3) := by decide +kernel
theorem dX4_want_27 : decode cX4_want 27 = .ok (.aload_n 0, 1) := by decide +kernel
theorem dX4_want_28 : decode cX4_want 28 = .ok (.getfield 15, 3) := by decide +kernel
theorem dX4_want_31 : decode cX4_want 31 = .ok (.iload_n 3, 1) := by decide +kernel
theorem dX4_want_32 : decode cX4_want 32 = .ok (.iaload, 1) := by decide +kernel
theorem dX4_want_33 : decode cX4_want 33 = .ok (.iload_n 2, 1) := by decide +kernel
theorem dX4_want_34 : decode cX4_want 34 = .ok (.if_icmp .ne 4, 3) := by decide +kernel
theorem dX4_want_37 : decode cX4_want 37 = .ok (.return_, 1) := by decide +kernel
theorem dX4_want_38 : decode cX4_want 38 = .ok (.iinc 3 1, 3) := by decide +kernel
theorem dX4_want_41 : decode cX4_want 41 = .ok (.goto (-39), 3) := by decide +kernel
theorem dX4_want_44 : decode cX4_want 44 = .ok (.aload_n 0, 1) := by decide +kernel
theorem dX4_want_45 : decode cX4_want 45 = .ok (.getfield 39, 3) := by decide +kernel
theorem dX4_want_48 : decode cX4_want 48 = .ok (.sipush 200, 3) := by decide +kernel
theorem dX4_want_51 : decode cX4_want 51 = .ok (.if_icmp .ge 33, 3) := by decide +kernel
theorem dX4_want_54 : decode cX4_want 54 = .ok (.aload_n 0, 1) := by decide +kernel
theorem dX4_want_55 : decode cX4_want 55 = .ok (.getfield 9, 3) := by decide +kernel
theorem dX4_want_58 : decode cX4_want 58 = .ok (.aload_n 0, 1) := by decide +kernel
theorem dX4_want_59 : decode cX4_want 59 = .ok (.getfield 39, 3) := by decide +kernel
theorem dX4_want_62 : decode cX4_want 62 = .ok (.iload_n 1, 1) := by decide +kernel
theorem dX4_want_63 : decode cX4_want 63 = .ok (.iastore, 1) := by decide +kernel
theorem dX4_want_64 : decode cX4_want 64 = .ok (.aload_n 0, 1) := by decide +kernel
theorem dX4_want_65 : decode cX4_want 65 = .ok (.getfield 15, 3) := by decide +kernel
theorem dX4_want_68 : decode cX4_want 68 = .ok (.aload_n 0, 1) := by decide +kernel
theorem dX4_want_69 : decode cX4_want 69 = .ok (.getfield 39, 3) := by decide +kernel
theorem dX4_want_72 : decode cX4_want 72 = .ok (.iload_n 2, 1) := by decide +kernel
theorem dX4_want_73 : decode cX4_want 73 = .ok (.iastore, 1) := by decide +kernel
theorem dX4_want_74 : decode cX4_want 74 = .ok (.aload_n 0, 1) := by decide +kernel
theorem dX4_want_75 : decode cX4_want 75 = .ok (.dup, 1) := by decide +kernel
theorem dX4_want_76 : decode cX4_want 76 = .ok (.getfield 39, 3) := by decide +kernel
theorem dX4_want_79 : decode cX4_want 79 = .ok (.iconst 1, 1) := by decide +kernel
theorem dX4_want_80 : decode cX4_want 80 = .ok (.iadd, 1) := by decide +kernel
theorem dX4_want_81 : decode cX4_want 81 = .ok (.putfield 39, 3) := by decide +kernel
theorem dX4_want_84 : decode cX4_want 84 = .ok (.return_, 1) := by decide +kernel
theorem dX4_fewest_0 : decode cX4_fewest 0 = .ok (.iconst 0, 1) := by decide +kernel
theorem dX4_fewest_1 : decode cX4_fewest 1 = .ok (.istore_n 1, 1) := by decide +kernel
theorem dX4_fewest_2 : decode cX4_fewest 2 = .ok (.iload_n 1, 1) := by decide +kernel
theorem dX4_fewest_3 : decode cX4_fewest 3 = .ok (.iconst 3, 1) := by decide +kernel
theorem dX4_fewest_4 : decode cX4_fewest 4 = .ok (.if_icmp .gt 30, 3) := by decide +kernel
theorem dX4_fewest_7 : decode cX4_fewest 7 = .ok (.aload_n 0, 1) := by decide +kernel
theorem dX4_fewest_8 : decode cX4_fewest 8 = .ok (.iconst 0, 1) := by decide +kernel
theorem dX4_fewest_9 : decode cX4_fewest 9 = .ok (.putfield 42, 3) := by decide +kernel
theorem dX4_fewest_12 : decode cX4_fewest 12 = .ok (.aload_n 0, 1) := by decide +kernel
theorem dX4_fewest_13 : decode cX4_fewest 13 = .ok (.iconst 0, 1) := by decide +kernel
theorem dX4_fewest_14 : decode cX4_fewest 14 = .ok (.putfield 45, 3) := by decide +kernel
theorem dX4_fewest_17 : decode cX4_fewest 17 = .ok (.aload_n 0, 1) := by decide +kernel
theorem dX4_fewest_18 : decode cX4_fewest 18 = .ok (.iload_n 1, 1) := by decide +kernel
theorem dX4_fewest_19 : decode cX4_fewest 19 = .ok (.iconst 0, 1) := by decide +kernel
theorem dX4_fewest_20 : decode cX4_fewest 20 = .ok (.invokevirtual 48, 3) := by decide +kernel
theorem dX4_fewest_23 : decode cX4_fewest 23 = .ok (.ifCond .eq 5, 3) := by decide +kernel
theorem dX4_fewest_26 : decode cX4_fewest 26 = .ok (.iload_n 1, 1) := by decide +kernel
theorem dX4_fewest_27 : decode cX4_fewest 27 = .ok (.ireturn, 1) := by decide +kernel
theorem dX4_fewest_28 : decode cX4_fewest 28 = .ok (.iinc 1 1, 3) := by decide +kernel
theorem dX4_fewest_31 : decode cX4_fewest 31 = .ok (.goto (-29), 3) := by decide +kernel
theorem dX4_fewest_34 : decode cX4_fewest 34 = .ok (.iconst (-1), 1) := by decide +kernel
theorem dX4_fewest_35 : decode cX4_fewest 35 = .ok (.ireturn, 1) := by decide +kernel
theorem dX4_finds_0 : decode cX4_finds 0 = .ok (.iload_n 1, 1) := by decide +kernel
theorem dX4_finds_1 : decode cX4_finds 1 = .ok (.ifCond .gt 8, 3) := by decide +kernel
theorem dX4_finds_4 : decode cX4_finds 4 = .ok (.aload_n 0, 1) := by decide +kernel
theorem dX4_finds_5 : decode cX4_finds 5 = .ok (.invokevirtual 52, 3) := by decide +kernel
theorem dX4_finds_8 : decode cX4_finds 8 = .ok (.ireturn, 1) := by decide +kernel
theorem dX4_finds_9 : decode cX4_finds 9 = .ok (.iload_n 2, 1) := by decide +kernel
theorem dX4_finds_10 : decode cX4_finds 10 = .ok (.istore_n 3, 1) := by decide +kernel
theorem dX4_finds_11 : decode cX4_finds 11 = .ok (.iload_n 3, 1) := by decide +kernel
theorem dX4_finds_12 : decode cX4_finds 12 = .ok (.aload_n 0, 1) := by decide +kernel
theorem dX4_finds_13 : decode cX4_finds 13 = .ok (.getfield 29, 3) := by decide +kernel
theorem dX4_finds_16 : decode cX4_finds 16 = .ok (.if_icmp .ge 92, 3) := by decide +kernel
theorem dX4_finds_19 : decode cX4_finds 19 = .ok (.iconst 1, 1) := by decide +kernel
theorem dX4_finds_20 : decode cX4_finds 20 = .ok (.iload_n 3, 1) := by decide +kernel
theorem dX4_finds_21 : decode cX4_finds 21 = .ok (.ishl, 1) := by decide +kernel
theorem dX4_finds_22 : decode cX4_finds 22 = .ok (.istore 4, 2) := by decide +kernel
theorem dX4_finds_24 : decode cX4_finds 24 = .ok (.aload_n 0, 1) := by decide +kernel
theorem dX4_finds_25 : decode cX4_finds 25 = .ok (.dup, 1) := by decide +kernel
theorem dX4_finds_26 : decode cX4_finds 26 = .ok (.getfield 42, 3) := by decide +kernel
theorem dX4_finds_29 : decode cX4_finds 29 = .ok (.iload 4, 2) := by decide +kernel
theorem dX4_finds_31 : decode cX4_finds 31 = .ok (.ior, 1) := by decide +kernel
theorem dX4_finds_32 : decode cX4_finds 32 = .ok (.putfield 42, 3) := by decide +kernel
theorem dX4_finds_35 : decode cX4_finds 35 = .ok (.aload_n 0, 1) := by decide +kernel
theorem dX4_finds_36 : decode cX4_finds 36 = .ok (.iload_n 1, 1) := by decide +kernel
theorem dX4_finds_37 : decode cX4_finds 37 = .ok (.iconst 1, 1) := by decide +kernel
theorem dX4_finds_38 : decode cX4_finds 38 = .ok (.isub, 1) := by decide +kernel
theorem dX4_finds_39 : decode cX4_finds 39 = .ok (.iload_n 3, 1) := by decide +kernel
theorem dX4_finds_40 : decode cX4_finds 40 = .ok (.iconst 1, 1) := by decide +kernel
theorem dX4_finds_41 : decode cX4_finds 41 = .ok (.iadd, 1) := by decide +kernel
theorem dX4_finds_42 : decode cX4_finds 42 = .ok (.invokevirtual 48, 3) := by decide +kernel
theorem dX4_finds_45 : decode cX4_finds 45 = .ok (.ifCond .eq 5, 3) := by decide +kernel
theorem dX4_finds_48 : decode cX4_finds 48 = .ok (.iconst 1, 1) := by decide +kernel
theorem dX4_finds_49 : decode cX4_finds 49 = .ok (.ireturn, 1) := by decide +kernel
theorem dX4_finds_50 : decode cX4_finds 50 = .ok (.aload_n 0, 1) := by decide +kernel
theorem dX4_finds_51 : decode cX4_finds 51 = .ok (.dup, 1) := by decide +kernel
theorem dX4_finds_52 : decode cX4_finds 52 = .ok (.getfield 42, 3) := by decide +kernel
theorem dX4_finds_55 : decode cX4_finds 55 = .ok (.iload 4, 2) := by decide +kernel
theorem dX4_finds_57 : decode cX4_finds 57 = .ok (.iconst (-1), 1) := by decide +kernel
theorem dX4_finds_58 : decode cX4_finds 58 = .ok (.ixor, 1) := by decide +kernel
theorem dX4_finds_59 : decode cX4_finds 59 = .ok (.iand, 1) := by decide +kernel
theorem dX4_finds_60 : decode cX4_finds 60 = .ok (.putfield 42, 3) := by decide +kernel
theorem dX4_finds_63 : decode cX4_finds 63 = .ok (.aload_n 0, 1) := by decide +kernel
theorem dX4_finds_64 : decode cX4_finds 64 = .ok (.dup, 1) := by decide +kernel
theorem dX4_finds_65 : decode cX4_finds 65 = .ok (.getfield 45, 3) := by decide +kernel
theorem dX4_finds_68 : decode cX4_finds 68 = .ok (.iload 4, 2) := by decide +kernel
theorem dX4_finds_70 : decode cX4_finds 70 = .ok (.ior, 1) := by decide +kernel
theorem dX4_finds_71 : decode cX4_finds 71 = .ok (.putfield 45, 3) := by decide +kernel
theorem dX4_finds_74 : decode cX4_finds 74 = .ok (.aload_n 0, 1) := by decide +kernel
theorem dX4_finds_75 : decode cX4_finds 75 = .ok (.iload_n 1, 1) := by decide +kernel
theorem dX4_finds_76 : decode cX4_finds 76 = .ok (.iconst 1, 1) := by decide +kernel
theorem dX4_finds_77 : decode cX4_finds 77 = .ok (.isub, 1) := by decide +kernel
theorem dX4_finds_78 : decode cX4_finds 78 = .ok (.iload_n 3, 1) := by decide +kernel
theorem dX4_finds_79 : decode cX4_finds 79 = .ok (.iconst 1, 1) := by decide +kernel
theorem dX4_finds_80 : decode cX4_finds 80 = .ok (.iadd, 1) := by decide +kernel
theorem dX4_finds_81 : decode cX4_finds 81 = .ok (.invokevirtual 48, 3) := by decide +kernel
theorem dX4_finds_84 : decode cX4_finds 84 = .ok (.ifCond .eq 5, 3) := by decide +kernel
theorem dX4_finds_87 : decode cX4_finds 87 = .ok (.iconst 1, 1) := by decide +kernel
theorem dX4_finds_88 : decode cX4_finds 88 = .ok (.ireturn, 1) := by decide +kernel
theorem dX4_finds_89 : decode cX4_finds 89 = .ok (.aload_n 0, 1) := by decide +kernel
theorem dX4_finds_90 : decode cX4_finds 90 = .ok (.dup, 1) := by decide +kernel
theorem dX4_finds_91 : decode cX4_finds 91 = .ok (.getfield 45, 3) := by decide +kernel
theorem dX4_finds_94 : decode cX4_finds 94 = .ok (.iload 4, 2) := by decide +kernel
theorem dX4_finds_96 : decode cX4_finds 96 = .ok (.iconst (-1), 1) := by decide +kernel
theorem dX4_finds_97 : decode cX4_finds 97 = .ok (.ixor, 1) := by decide +kernel
theorem dX4_finds_98 : decode cX4_finds 98 = .ok (.iand, 1) := by decide +kernel
theorem dX4_finds_99 : decode cX4_finds 99 = .ok (.putfield 45, 3) := by decide +kernel
theorem dX4_finds_102 : decode cX4_finds 102 = .ok (.iinc 3 1, 3) := by decide +kernel
theorem dX4_finds_105 : decode cX4_finds 105 = .ok (.goto (-94), 3) := by decide +kernel
theorem dX4_finds_108 : decode cX4_finds 108 = .ok (.iconst 0, 1) := by decide +kernel
theorem dX4_finds_109 : decode cX4_finds 109 = .ok (.ireturn, 1) := by decide +kernel
theorem dX4_allAsMarked_0 : decode cX4_allAsMarked 0 = .ok (.aload_n 0, 1) := by decide +kernel
theorem dX4_allAsMarked_1 : decode cX4_allAsMarked 1 = .ok (.getfield 36, 3) := by decide +kernel
theorem dX4_allAsMarked_4 : decode cX4_allAsMarked 4 = .ok (.aload_n 0, 1) := by decide +kernel
theorem dX4_allAsMarked_5 : decode cX4_allAsMarked 5 = .ok (.getfield 45, 3) := by decide +kernel
theorem dX4_allAsMarked_8 : decode cX4_allAsMarked 8 = .ok (.ixor, 1) := by decide +kernel
theorem dX4_allAsMarked_9 : decode cX4_allAsMarked 9 = .ok (.istore_n 1, 1) := by decide +kernel
theorem dX4_allAsMarked_10 : decode cX4_allAsMarked 10 = .ok (.iconst 0, 1) := by decide +kernel
theorem dX4_allAsMarked_11 : decode cX4_allAsMarked 11 = .ok (.istore_n 2, 1) := by decide +kernel
theorem dX4_allAsMarked_12 : decode cX4_allAsMarked 12 = .ok (.iload_n 2, 1) := by decide +kernel
theorem dX4_allAsMarked_13 : decode cX4_allAsMarked 13 = .ok (.aload_n 0, 1) := by decide +kernel
theorem dX4_allAsMarked_14 : decode cX4_allAsMarked 14 = .ok (.getfield 39, 3) := by decide +kernel
theorem dX4_allAsMarked_17 : decode cX4_allAsMarked 17 = .ok (.if_icmp .ge 54, 3) := by decide +kernel
theorem dX4_allAsMarked_20 : decode cX4_allAsMarked 20 = .ok (.iload_n 2, 1) := by decide +kernel
theorem dX4_allAsMarked_21 : decode cX4_allAsMarked 21 = .ok (.sipush 200, 3) := by decide +kernel
theorem dX4_allAsMarked_24 : decode cX4_allAsMarked 24 = .ok (.if_icmp .ge 47, 3) := by decide +kernel
theorem dX4_allAsMarked_27 : decode cX4_allAsMarked 27 = .ok (.aload_n 0, 1) := by decide +kernel
theorem dX4_allAsMarked_28 : decode cX4_allAsMarked 28 = .ok (.aload_n 0, 1) := by decide +kernel
theorem dX4_allAsMarked_29 : decode cX4_allAsMarked 29 = .ok (.getfield 9, 3) := by decide +kernel
theorem dX4_allAsMarked_32 : decode cX4_allAsMarked 32 = .ok (.iload_n 2, 1) := by decide +kernel
theorem dX4_allAsMarked_33 : decode cX4_allAsMarked 33 = .ok (.iaload, 1) := by decide +kernel
theorem dX4_allAsMarked_34 : decode cX4_allAsMarked 34 = .ok (.aload_n 0, 1) := by decide +kernel
theorem dX4_allAsMarked_35 : decode cX4_allAsMarked 35 = .ok (.getfield 42, 3) := by decide +kernel
theorem dX4_allAsMarked_38 : decode cX4_allAsMarked 38 = .ok (.iconst (-1), 1) := by decide +kernel
theorem dX4_allAsMarked_39 : decode cX4_allAsMarked 39 = .ok (.ixor, 1) := by decide +kernel
theorem dX4_allAsMarked_40 : decode cX4_allAsMarked 40 = .ok (.iand, 1) := by decide +kernel
theorem dX4_allAsMarked_41 : decode cX4_allAsMarked 41 = .ok (.iload_n 1, 1) := by decide +kernel
theorem dX4_allAsMarked_42 : decode cX4_allAsMarked 42 = .ok (.invokevirtual 56, 3) := by decide +kernel
theorem dX4_allAsMarked_45 : decode cX4_allAsMarked 45 = .ok (.aload_n 0, 1) := by decide +kernel
theorem dX4_allAsMarked_46 : decode cX4_allAsMarked 46 = .ok (.getfield 15, 3) := by decide +kernel
theorem dX4_allAsMarked_49 : decode cX4_allAsMarked 49 = .ok (.iload_n 2, 1) := by decide +kernel
theorem dX4_allAsMarked_50 : decode cX4_allAsMarked 50 = .ok (.iaload, 1) := by decide +kernel
theorem dX4_allAsMarked_51 : decode cX4_allAsMarked 51 = .ok (.iconst 1, 1) := by decide +kernel
theorem dX4_allAsMarked_52 : decode cX4_allAsMarked 52 = .ok (.if_icmp .ne 7, 3) := by decide +kernel
theorem dX4_allAsMarked_55 : decode cX4_allAsMarked 55 = .ok (.iconst 1, 1) := by decide +kernel
theorem dX4_allAsMarked_56 : decode cX4_allAsMarked 56 = .ok (.goto 4, 3) := by decide +kernel
theorem dX4_allAsMarked_59 : decode cX4_allAsMarked 59 = .ok (.iconst 0, 1) := by decide +kernel
theorem dX4_allAsMarked_60 : decode cX4_allAsMarked 60 = .ok (.if_icmp .eq 5, 3) := by decide +kernel
theorem dX4_allAsMarked_63 : decode cX4_allAsMarked 63 = .ok (.iconst 0, 1) := by decide +kernel
theorem dX4_allAsMarked_64 : decode cX4_allAsMarked 64 = .ok (.ireturn, 1) := by decide +kernel
theorem dX4_allAsMarked_65 : decode cX4_allAsMarked 65 = .ok (.iinc 2 1, 3) := by decide +kernel
theorem dX4_allAsMarked_68 : decode cX4_allAsMarked 68 = .ok (.goto (-56), 3) := by decide +kernel
theorem dX4_allAsMarked_71 : decode cX4_allAsMarked 71 = .ok (.iconst 1, 1) := by decide +kernel
theorem dX4_allAsMarked_72 : decode cX4_allAsMarked 72 = .ok (.ireturn, 1) := by decide +kernel
theorem dX4_isLet_0 : decode cX4_isLet 0 = .ok (.aload_n 0, 1) := by decide +kernel
theorem dX4_isLet_1 : decode cX4_isLet 1 = .ok (.getfield 24, 3) := by decide +kernel
theorem dX4_isLet_4 : decode cX4_isLet 4 = .ok (.tableswitch 73 1 3 #[28, 43, 61], 28) := by decide +kernel
theorem dX4_isLet_32 : decode cX4_isLet 32 = .ok (.iload_n 1, 1) := by decide +kernel
theorem dX4_isLet_33 : decode cX4_isLet 33 = .ok (.invokestatic 59, 3) := by decide +kernel
theorem dX4_isLet_36 : decode cX4_isLet 36 = .ok (.iload_n 2, 1) := by decide +kernel
theorem dX4_isLet_37 : decode cX4_isLet 37 = .ok (.iand, 1) := by decide +kernel
theorem dX4_isLet_38 : decode cX4_isLet 38 = .ok (.ifCond .eq 7, 3) := by decide +kernel
theorem dX4_isLet_41 : decode cX4_isLet 41 = .ok (.iconst 1, 1) := by decide +kernel
theorem dX4_isLet_42 : decode cX4_isLet 42 = .ok (.goto 4, 3) := by decide +kernel
theorem dX4_isLet_45 : decode cX4_isLet 45 = .ok (.iconst 0, 1) := by decide +kernel
theorem dX4_isLet_46 : decode cX4_isLet 46 = .ok (.ireturn, 1) := by decide +kernel
theorem dX4_isLet_47 : decode cX4_isLet 47 = .ok (.iload_n 1, 1) := by decide +kernel
theorem dX4_isLet_48 : decode cX4_isLet 48 = .ok (.ifCond .eq 15, 3) := by decide +kernel
theorem dX4_isLet_51 : decode cX4_isLet 51 = .ok (.iload_n 1, 1) := by decide +kernel
theorem dX4_isLet_52 : decode cX4_isLet 52 = .ok (.iload_n 2, 1) := by decide +kernel
theorem dX4_isLet_53 : decode cX4_isLet 53 = .ok (.iconst (-1), 1) := by decide +kernel
theorem dX4_isLet_54 : decode cX4_isLet 54 = .ok (.ixor, 1) := by decide +kernel
theorem dX4_isLet_55 : decode cX4_isLet 55 = .ok (.iand, 1) := by decide +kernel
theorem dX4_isLet_56 : decode cX4_isLet 56 = .ok (.ifCond .ne 7, 3) := by decide +kernel
theorem dX4_isLet_59 : decode cX4_isLet 59 = .ok (.iconst 1, 1) := by decide +kernel
theorem dX4_isLet_60 : decode cX4_isLet 60 = .ok (.goto 4, 3) := by decide +kernel
theorem dX4_isLet_63 : decode cX4_isLet 63 = .ok (.iconst 0, 1) := by decide +kernel
theorem dX4_isLet_64 : decode cX4_isLet 64 = .ok (.ireturn, 1) := by decide +kernel
theorem dX4_isLet_65 : decode cX4_isLet 65 = .ok (.iload_n 1, 1) := by decide +kernel
theorem dX4_isLet_66 : decode cX4_isLet 66 = .ok (.iload_n 2, 1) := by decide +kernel
theorem dX4_isLet_67 : decode cX4_isLet 67 = .ok (.iand, 1) := by decide +kernel
theorem dX4_isLet_68 : decode cX4_isLet 68 = .ok (.ifCond .eq 7, 3) := by decide +kernel
theorem dX4_isLet_71 : decode cX4_isLet 71 = .ok (.iconst 1, 1) := by decide +kernel
theorem dX4_isLet_72 : decode cX4_isLet 72 = .ok (.goto 4, 3) := by decide +kernel
theorem dX4_isLet_75 : decode cX4_isLet 75 = .ok (.iconst 0, 1) := by decide +kernel
theorem dX4_isLet_76 : decode cX4_isLet 76 = .ok (.ireturn, 1) := by decide +kernel
theorem dX4_isLet_77 : decode cX4_isLet 77 = .ok (.iload_n 1, 1) := by decide +kernel
theorem dX4_isLet_78 : decode cX4_isLet 78 = .ok (.invokestatic 65, 3) := by decide +kernel
theorem dX4_isLet_81 : decode cX4_isLet 81 = .ok (.iload_n 2, 1) := by decide +kernel
theorem dX4_isLet_82 : decode cX4_isLet 82 = .ok (.iand, 1) := by decide +kernel
theorem dX4_isLet_83 : decode cX4_isLet 83 = .ok (.ifCond .eq 7, 3) := by decide +kernel
theorem dX4_isLet_86 : decode cX4_isLet 86 = .ok (.iconst 1, 1) := by decide +kernel
theorem dX4_isLet_87 : decode cX4_isLet 87 = .ok (.goto 4, 3) := by decide +kernel
theorem dX4_isLet_90 : decode cX4_isLet 90 = .ok (.iconst 0, 1) := by decide +kernel
theorem dX4_isLet_91 : decode cX4_isLet 91 = .ok (.ireturn, 1) := by decide +kernel
theorem dX5_init_0 : decode cX5_init 0 = .ok (.aload_n 0, 1) := by decide +kernel
theorem dX5_init_1 : decode cX5_init 1 = .ok (.invokespecial 3, 3) := by decide +kernel
theorem dX5_init_4 : decode cX5_init 4 = .ok (.aload_n 0, 1) := by decide +kernel
theorem dX5_init_5 : decode cX5_init 5 = .ok (.iload_n 1, 1) := by decide +kernel
theorem dX5_init_6 : decode cX5_init 6 = .ok (.putfield 9, 3) := by decide +kernel
theorem dX5_init_9 : decode cX5_init 9 = .ok (.aload_n 0, 1) := by decide +kernel
theorem dX5_init_10 : decode cX5_init 10 = .ok (.iload_n 2, 1) := by decide +kernel
theorem dX5_init_11 : decode cX5_init 11 = .ok (.putfield 15, 3) := by decide +kernel
theorem dX5_init_14 : decode cX5_init 14 = .ok (.aload_n 0, 1) := by decide +kernel
theorem dX5_init_15 : decode cX5_init 15 = .ok (.iconst 0, 1) := by decide +kernel
theorem dX5_init_16 : decode cX5_init 16 = .ok (.iload_n 1, 1) := by decide +kernel
theorem dX5_init_17 : decode cX5_init 17 = .ok (.iload_n 2, 1) := by decide +kernel
theorem dX5_init_18 : decode cX5_init 18 = .ok (.imul, 1) := by decide +kernel
theorem dX5_init_19 : decode cX5_init 19 = .ok (.invokestatic 18, 3) := by decide +kernel
theorem dX5_init_22 : decode cX5_init 22 = .ok (.newarray .int, 2) := by decide +kernel
theorem dX5_init_24 : decode cX5_init 24 = .ok (.putfield 24, 3) := by decide +kernel
theorem dX5_init_27 : decode cX5_init 27 = .ok (.aload_n 0, 1) := by decide +kernel
theorem dX5_init_28 : decode cX5_init 28 = .ok (.iconst 0, 1) := by decide +kernel
theorem dX5_init_29 : decode cX5_init 29 = .ok (.putfield 28, 3) := by decide +kernel
theorem dX5_init_32 : decode cX5_init 32 = .ok (.return_, 1) := by decide +kernel
theorem dX5_has_0 : decode cX5_has 0 = .ok (.iload_n 1, 1) := by decide +kernel
theorem dX5_has_1 : decode cX5_has 1 = .ok (.aload_n 0, 1) := by decide +kernel
theorem dX5_has_2 : decode cX5_has 2 = .ok (.getfield 28, 3) := by decide +kernel
theorem dX5_has_5 : decode cX5_has 5 = .ok (.invokestatic 31, 3) := by decide +kernel
theorem dX5_has_8 : decode cX5_has 8 = .ok (.ireturn, 1) := by decide +kernel
theorem dX5_addRow_0 : decode cX5_addRow 0 = .ok (.aload_n 0, 1) := by decide +kernel
theorem dX5_addRow_1 : decode cX5_addRow 1 = .ok (.getfield 28, 3) := by decide +kernel
theorem dX5_addRow_4 : decode cX5_addRow 4 = .ok (.aload_n 0, 1) := by decide +kernel
theorem dX5_addRow_5 : decode cX5_addRow 5 = .ok (.getfield 15, 3) := by decide +kernel
theorem dX5_addRow_8 : decode cX5_addRow 8 = .ok (.if_icmp .lt 5, 3) := by decide +kernel
theorem dX5_addRow_11 : decode cX5_addRow 11 = .ok (.iconst (-1), 1) := by decide +kernel
theorem dX5_addRow_12 : decode cX5_addRow 12 = .ok (.ireturn, 1) := by decide +kernel
theorem dX5_addRow_13 : decode cX5_addRow 13 = .ok (.aload_n 0, 1) := by decide +kernel
theorem dX5_addRow_14 : decode cX5_addRow 14 = .ok (.dup, 1) := by decide +kernel
theorem dX5_addRow_15 : decode cX5_addRow 15 = .ok (.getfield 28, 3) := by decide +kernel
theorem dX5_addRow_18 : decode cX5_addRow 18 = .ok (.iconst 1, 1) := by decide +kernel
theorem dX5_addRow_19 : decode cX5_addRow 19 = .ok (.iadd, 1) := by decide +kernel
theorem dX5_addRow_20 : decode cX5_addRow 20 = .ok (.putfield 28, 3) := by decide +kernel
theorem dX5_addRow_23 : decode cX5_addRow 23 = .ok (.aload_n 0, 1) := by decide +kernel
theorem dX5_addRow_24 : decode cX5_addRow 24 = .ok (.getfield 28, 3) := by decide +kernel
theorem dX5_addRow_27 : decode cX5_addRow 27 = .ok (.iconst 1, 1) := by decide +kernel
theorem dX5_addRow_28 : decode cX5_addRow 28 = .ok (.isub, 1) := by decide +kernel
theorem dX5_addRow_29 : decode cX5_addRow 29 = .ok (.ireturn, 1) := by decide +kernel
theorem dX5_get_0 : decode cX5_get 0 = .ok (.aload_n 0, 1) := by decide +kernel
theorem dX5_get_1 : decode cX5_get 1 = .ok (.iload_n 1, 1) := by decide +kernel
theorem dX5_get_2 : decode cX5_get 2 = .ok (.invokevirtual 35, 3) := by decide +kernel
theorem dX5_get_5 : decode cX5_get 5 = .ok (.ifCond .eq 30, 3) := by decide +kernel
theorem dX5_get_8 : decode cX5_get 8 = .ok (.iload_n 2, 1) := by decide +kernel
theorem dX5_get_9 : decode cX5_get 9 = .ok (.aload_n 0, 1) := by decide +kernel
theorem dX5_get_10 : decode cX5_get 10 = .ok (.getfield 9, 3) := by decide +kernel
theorem dX5_get_13 : decode cX5_get 13 = .ok (.invokestatic 31, 3) := by decide +kernel
theorem dX5_get_16 : decode cX5_get 16 = .ok (.ifCond .eq 19, 3) := by decide +kernel
theorem dX5_get_19 : decode cX5_get 19 = .ok (.aload_n 0, 1) := by decide +kernel
theorem dX5_get_20 : decode cX5_get 20 = .ok (.getfield 24, 3) := by decide +kernel
theorem dX5_get_23 : decode cX5_get 23 = .ok (.iload_n 1, 1) := by decide +kernel
theorem dX5_get_24 : decode cX5_get 24 = .ok (.aload_n 0, 1) := by decide +kernel
theorem dX5_get_25 : decode cX5_get 25 = .ok (.getfield 9, 3) := by decide +kernel
theorem dX5_get_28 : decode cX5_get 28 = .ok (.imul, 1) := by decide +kernel
theorem dX5_get_29 : decode cX5_get 29 = .ok (.iload_n 2, 1) := by decide +kernel
theorem dX5_get_30 : decode cX5_get 30 = .ok (.iadd, 1) := by decide +kernel
theorem dX5_get_31 : decode cX5_get 31 = .ok (.iaload, 1) := by decide +kernel
theorem dX5_get_32 : decode cX5_get 32 = .ok (.goto 4, 3) := by decide +kernel
theorem dX5_get_35 : decode cX5_get 35 = .ok (.iconst (-1), 1) := by decide +kernel
theorem dX5_get_36 : decode cX5_get 36 = .ok (.ireturn, 1) := by decide +kernel
theorem dX5_set_0 : decode cX5_set 0 = .ok (.aload_n 0, 1) := by decide +kernel
theorem dX5_set_1 : decode cX5_set 1 = .ok (.iload_n 1, 1) := by decide +kernel
theorem dX5_set_2 : decode cX5_set 2 = .ok (.invokevirtual 35, 3) := by decide +kernel
theorem dX5_set_5 : decode cX5_set 5 = .ok (.ifCond .eq 28, 3) := by decide +kernel
theorem dX5_set_8 : decode cX5_set 8 = .ok (.iload_n 2, 1) := by decide +kernel
theorem dX5_set_9 : decode cX5_set 9 = .ok (.aload_n 0, 1) := by decide +kernel
theorem dX5_set_10 : decode cX5_set 10 = .ok (.getfield 9, 3) := by decide +kernel
theorem dX5_set_13 : decode cX5_set 13 = .ok (.invokestatic 31, 3) := by decide +kernel
theorem dX5_set_16 : decode cX5_set 16 = .ok (.ifCond .eq 17, 3) := by decide +kernel
theorem dX5_set_19 : decode cX5_set 19 = .ok (.aload_n 0, 1) := by decide +kernel
theorem dX5_set_20 : decode cX5_set 20 = .ok (.getfield 24, 3) := by decide +kernel
theorem dX5_set_23 : decode cX5_set 23 = .ok (.iload_n 1, 1) := by decide +kernel
theorem dX5_set_24 : decode cX5_set 24 = .ok (.aload_n 0, 1) := by decide +kernel
theorem dX5_set_25 : decode cX5_set 25 = .ok (.getfield 9, 3) := by decide +kernel
theorem dX5_set_28 : decode cX5_set 28 = .ok (.imul, 1) := by decide +kernel
theorem dX5_set_29 : decode cX5_set 29 = .ok (.iload_n 2, 1) := by decide +kernel
theorem dX5_set_30 : decode cX5_set 30 = .ok (.iadd, 1) := by decide +kernel
theorem dX5_set_31 : decode cX5_set 31 = .ok (.iload_n 3, 1) := by decide +kernel
theorem dX5_set_32 : decode cX5_set 32 = .ok (.iastore, 1) := by decide +kernel
theorem dX5_set_33 : decode cX5_set 33 = .ok (.return_, 1) := by decide +kernel
theorem dX5_copyFrom_0 : decode cX5_copyFrom 0 = .ok (.aload_n 1, 1) := by decide +kernel
theorem dX5_copyFrom_1 : decode cX5_copyFrom 1 = .ok (.getfield 28, 3) := by decide +kernel
theorem dX5_copyFrom_4 : decode cX5_copyFrom 4 = .ok (.aload_n 1, 1) := by decide +kernel
theorem dX5_copyFrom_5 : decode cX5_copyFrom 5 = .ok (.getfield 9, 3) := by decide +kernel
theorem dX5_copyFrom_8 : decode cX5_copyFrom 8 = .ok (.imul, 1) := by decide +kernel
theorem dX5_copyFrom_9 : decode cX5_copyFrom 9 = .ok (.istore_n 2, 1) := by decide +kernel
theorem dX5_copyFrom_10 : decode cX5_copyFrom 10 = .ok (.iload_n 2, 1) := by decide +kernel
theorem dX5_copyFrom_11 : decode cX5_copyFrom 11 = .ok (.aload_n 0, 1) := by decide +kernel
theorem dX5_copyFrom_12 : decode cX5_copyFrom 12 = .ok (.getfield 24, 3) := by decide +kernel
theorem dX5_copyFrom_15 : decode cX5_copyFrom 15 = .ok (.arraylength, 1) := by decide +kernel
theorem dX5_copyFrom_16 : decode cX5_copyFrom 16 = .ok (.if_icmp .gt 34, 3) := by decide +kernel
theorem dX5_copyFrom_19 : decode cX5_copyFrom 19 = .ok (.iload_n 2, 1) := by decide +kernel
theorem dX5_copyFrom_20 : decode cX5_copyFrom 20 = .ok (.aload_n 1, 1) := by decide +kernel
theorem dX5_copyFrom_21 : decode cX5_copyFrom 21 = .ok (.getfield 24, 3) := by decide +kernel
theorem dX5_copyFrom_24 : decode cX5_copyFrom 24 = .ok (.arraylength, 1) := by decide +kernel
theorem dX5_copyFrom_25 : decode cX5_copyFrom 25 = .ok (.if_icmp .gt 25, 3) := by decide +kernel
theorem dX5_copyFrom_28 : decode cX5_copyFrom 28 = .ok (.aload_n 1, 1) := by decide +kernel
theorem dX5_copyFrom_29 : decode cX5_copyFrom 29 = .ok (.getfield 24, 3) := by decide +kernel
theorem dX5_copyFrom_32 : decode cX5_copyFrom 32 = .ok (.iconst 0, 1) := by decide +kernel
theorem dX5_copyFrom_33 : decode cX5_copyFrom 33 = .ok (.aload_n 0, 1) := by decide +kernel
theorem dX5_copyFrom_34 : decode cX5_copyFrom 34 = .ok (.getfield 24, 3) := by decide +kernel
theorem dX5_copyFrom_37 : decode cX5_copyFrom 37 = .ok (.iconst 0, 1) := by decide +kernel
theorem dX5_copyFrom_38 : decode cX5_copyFrom 38 = .ok (.iload_n 2, 1) := by decide +kernel
theorem dX5_copyFrom_39 : decode cX5_copyFrom 39 = .ok (.invokestatic 39, 3) := by decide +kernel
theorem dX5_copyFrom_42 : decode cX5_copyFrom 42 = .ok (.aload_n 0, 1) := by decide +kernel
theorem dX5_copyFrom_43 : decode cX5_copyFrom 43 = .ok (.aload_n 1, 1) := by decide +kernel
theorem dX5_copyFrom_44 : decode cX5_copyFrom 44 = .ok (.getfield 28, 3) := by decide +kernel
theorem dX5_copyFrom_47 : decode cX5_copyFrom 47 = .ok (.putfield 28, 3) := by decide +kernel
theorem dX5_copyFrom_50 : decode cX5_copyFrom 50 = .ok (.return_, 1) := by decide +kernel
theorem dX6_init_0 : decode cX6_init 0 = .ok (.aload_n 0, 1) := by decide +kernel
theorem dX6_init_1 : decode cX6_init 1 = .ok (.invokespecial 3, 3) := by decide +kernel
theorem dX6_init_4 : decode cX6_init 4 = .ok (.aload_n 0, 1) := by decide +kernel
theorem dX6_init_5 : decode cX6_init 5 = .ok (.sipush 600, 3) := by decide +kernel
theorem dX6_init_8 : decode cX6_init 8 = .ok (.newarray .int, 2) := by decide +kernel
theorem dX6_init_10 : decode cX6_init 10 = .ok (.putfield 9, 3) := by decide +kernel
theorem dX6_init_13 : decode cX6_init 13 = .ok (.aload_n 0, 1) := by decide +kernel
theorem dX6_init_14 : decode cX6_init 14 = .ok (.iconst 0, 1) := by decide +kernel
theorem dX6_init_15 : decode cX6_init 15 = .ok (.putfield 15, 3) := by decide +kernel
theorem dX6_init_18 : decode cX6_init 18 = .ok (.return_, 1) := by decide +kernel
theorem dX6_put_0 : decode cX6_put 0 = .ok (.bipush 24, 2) := by decide +kernel
theorem dX6_put_2 : decode cX6_put 2 = .ok (.istore_n 2, 1) := by decide +kernel
theorem dX6_put_3 : decode cX6_put 3 = .ok (.iload_n 2, 1) := by decide +kernel
theorem dX6_put_4 : decode cX6_put 4 = .ok (.ifCond .lt 47, 3) := by decide +kernel
theorem dX6_put_7 : decode cX6_put 7 = .ok (.aload_n 0, 1) := by decide +kernel
theorem dX6_put_8 : decode cX6_put 8 = .ok (.getfield 15, 3) := by decide +kernel
theorem dX6_put_11 : decode cX6_put 11 = .ok (.aload_n 0, 1) := by decide +kernel
theorem dX6_put_12 : decode cX6_put 12 = .ok (.getfield 9, 3) := by decide +kernel
theorem dX6_put_15 : decode cX6_put 15 = .ok (.arraylength, 1) := by decide +kernel
theorem dX6_put_16 : decode cX6_put 16 = .ok (.if_icmp .ge 29, 3) := by decide +kernel
theorem dX6_put_19 : decode cX6_put 19 = .ok (.aload_n 0, 1) := by decide +kernel
theorem dX6_put_20 : decode cX6_put 20 = .ok (.getfield 9, 3) := by decide +kernel
theorem dX6_put_23 : decode cX6_put 23 = .ok (.aload_n 0, 1) := by decide +kernel
theorem dX6_put_24 : decode cX6_put 24 = .ok (.getfield 15, 3) := by decide +kernel
theorem dX6_put_27 : decode cX6_put 27 = .ok (.iload_n 1, 1) := by decide +kernel
theorem dX6_put_28 : decode cX6_put 28 = .ok (.iload_n 2, 1) := by decide +kernel
theorem dX6_put_29 : decode cX6_put 29 = .ok (.iushr, 1) := by decide +kernel
theorem dX6_put_30 : decode cX6_put 30 = .ok (.sipush 255, 3) := by decide +kernel
theorem dX6_put_33 : decode cX6_put 33 = .ok (.iand, 1) := by decide +kernel
theorem dX6_put_34 : decode cX6_put 34 = .ok (.iastore, 1) := by decide +kernel
theorem dX6_put_35 : decode cX6_put 35 = .ok (.aload_n 0, 1) := by decide +kernel
theorem dX6_put_36 : decode cX6_put 36 = .ok (.dup, 1) := by decide +kernel
theorem dX6_put_37 : decode cX6_put 37 = .ok (.getfield 15, 3) := by decide +kernel
theorem dX6_put_40 : decode cX6_put 40 = .ok (.iconst 1, 1) := by decide +kernel
theorem dX6_put_41 : decode cX6_put 41 = .ok (.iadd, 1) := by decide +kernel
theorem dX6_put_42 : decode cX6_put 42 = .ok (.putfield 15, 3) := by decide +kernel
theorem dX6_put_45 : decode cX6_put 45 = .ok (.iinc 2 (-8), 3) := by decide +kernel
theorem dX6_put_48 : decode cX6_put 48 = .ok (.goto (-45), 3) := by decide +kernel
theorem dX6_put_51 : decode cX6_put 51 = .ok (.return_, 1) := by decide +kernel
theorem dX6_at_0 : decode cX6_at 0 = .ok (.iload_n 1, 1) := by decide +kernel
theorem dX6_at_1 : decode cX6_at 1 = .ok (.ifCond .lt 29, 3) := by decide +kernel
theorem dX6_at_4 : decode cX6_at 4 = .ok (.iload_n 1, 1) := by decide +kernel
theorem dX6_at_5 : decode cX6_at 5 = .ok (.aload_n 0, 1) := by decide +kernel
theorem dX6_at_6 : decode cX6_at 6 = .ok (.getfield 15, 3) := by decide +kernel
theorem dX6_at_9 : decode cX6_at 9 = .ok (.if_icmp .ge 21, 3) := by decide +kernel
theorem dX6_at_12 : decode cX6_at 12 = .ok (.iload_n 1, 1) := by decide +kernel
theorem dX6_at_13 : decode cX6_at 13 = .ok (.aload_n 0, 1) := by decide +kernel
theorem dX6_at_14 : decode cX6_at 14 = .ok (.getfield 9, 3) := by decide +kernel
theorem dX6_at_17 : decode cX6_at 17 = .ok (.arraylength, 1) := by decide +kernel
theorem dX6_at_18 : decode cX6_at 18 = .ok (.if_icmp .ge 12, 3) := by decide +kernel
theorem dX6_at_21 : decode cX6_at 21 = .ok (.aload_n 0, 1) := by decide +kernel
theorem dX6_at_22 : decode cX6_at 22 = .ok (.getfield 9, 3) := by decide +kernel
theorem dX6_at_25 : decode cX6_at 25 = .ok (.iload_n 1, 1) := by decide +kernel
theorem dX6_at_26 : decode cX6_at 26 = .ok (.iaload, 1) := by decide +kernel
theorem dX6_at_27 : decode cX6_at 27 = .ok (.goto 4, 3) := by decide +kernel
theorem dX6_at_30 : decode cX6_at 30 = .ok (.iconst (-1), 1) := by decide +kernel
theorem dX6_at_31 : decode cX6_at 31 = .ok (.ireturn, 1) := by decide +kernel
theorem dX7_init_0 : decode cX7_init 0 = .ok (.aload_n 0, 1) := by decide +kernel
theorem dX7_init_1 : decode cX7_init 1 = .ok (.invokespecial 3, 3) := by decide +kernel
theorem dX7_init_4 : decode cX7_init 4 = .ok (.aload_n 0, 1) := by decide +kernel
theorem dX7_init_5 : decode cX7_init 5 = .ok (.aload_n 1, 1) := by decide +kernel
theorem dX7_init_6 : decode cX7_init 6 = .ok (.putfield 9, 3) := by decide +kernel
theorem dX7_init_9 : decode cX7_init 9 = .ok (.aload_n 0, 1) := by decide +kernel
theorem dX7_init_10 : decode cX7_init 10 = .ok (.sipush 601, 3) := by decide +kernel
theorem dX7_init_13 : decode cX7_init 13 = .ok (.newarray .int, 2) := by decide +kernel
theorem dX7_init_15 : decode cX7_init 15 = .ok (.putfield 15, 3) := by decide +kernel
theorem dX7_init_18 : decode cX7_init 18 = .ok (.aload_n 0, 1) := by decide +kernel
theorem dX7_init_19 : decode cX7_init 19 = .ok (.sipush 601, 3) := by decide +kernel
theorem dX7_init_22 : decode cX7_init 22 = .ok (.newarray .int, 2) := by decide +kernel
theorem dX7_init_24 : decode cX7_init 24 = .ok (.putfield 19, 3) := by decide +kernel
theorem dX7_init_27 : decode cX7_init 27 = .ok (.aload_n 0, 1) := by decide +kernel
theorem dX7_init_28 : decode cX7_init 28 = .ok (.sipush 601, 3) := by decide +kernel
theorem dX7_init_31 : decode cX7_init 31 = .ok (.newarray .int, 2) := by decide +kernel
theorem dX7_init_33 : decode cX7_init 33 = .ok (.putfield 22, 3) := by decide +kernel
theorem dX7_init_36 : decode cX7_init 36 = .ok (.aload_n 0, 1) := by decide +kernel
theorem dX7_init_37 : decode cX7_init 37 = .ok (.iconst 0, 1) := by decide +kernel
theorem dX7_init_38 : decode cX7_init 38 = .ok (.putfield 25, 3) := by decide +kernel
theorem dX7_init_41 : decode cX7_init 41 = .ok (.aload_n 0, 1) := by decide +kernel
theorem dX7_init_42 : decode cX7_init 42 = .ok (.iconst 0, 1) := by decide +kernel
theorem dX7_init_43 : decode cX7_init 43 = .ok (.putfield 29, 3) := by decide +kernel
theorem dX7_init_46 : decode cX7_init 46 = .ok (.aload_n 0, 1) := by decide +kernel
theorem dX7_init_47 : decode cX7_init 47 = .ok (.iconst 0, 1) := by decide +kernel
theorem dX7_init_48 : decode cX7_init 48 = .ok (.putfield 32, 3) := by decide +kernel
theorem dX7_init_51 : decode cX7_init 51 = .ok (.aload_n 0, 1) := by decide +kernel
theorem dX7_init_52 : decode cX7_init 52 = .ok (.iconst 0, 1) := by decide +kernel
theorem dX7_init_53 : decode cX7_init 53 = .ok (.putfield 35, 3) := by decide +kernel
theorem dX7_init_56 : decode cX7_init 56 = .ok (.aload_n 0, 1) := by decide +kernel
theorem dX7_init_57 : decode cX7_init 57 = .ok (.iconst 0, 1) := by decide +kernel
theorem dX7_init_58 : decode cX7_init 58 = .ok (.putfield 38, 3) := by decide +kernel
theorem dX7_init_61 : decode cX7_init 61 = .ok (.return_, 1) := by decide +kernel
theorem dX7_takeApart_0 : decode cX7_takeApart 0 = .ok (.aload_n 0, 1) := by decide +kernel
theorem dX7_takeApart_1 : decode cX7_takeApart 1 = .ok (.iconst 0, 1) := by decide +kernel
theorem dX7_takeApart_2 : decode cX7_takeApart 2 = .ok (.putfield 25, 3) := by decide +kernel
theorem dX7_takeApart_5 : decode cX7_takeApart 5 = .ok (.iconst 0, 1) := by decide +kernel
theorem dX7_takeApart_6 : decode cX7_takeApart 6 = .ok (.istore_n 1, 1) := by decide +kernel
theorem dX7_takeApart_7 : decode cX7_takeApart 7 = .ok (.iconst 0, 1) := by decide +kernel
theorem dX7_takeApart_8 : decode cX7_takeApart 8 = .ok (.istore_n 2, 1) := by decide +kernel
theorem dX7_takeApart_9 : decode cX7_takeApart 9 = .ok (.iload_n 2, 1) := by decide +kernel
theorem dX7_takeApart_10 : decode cX7_takeApart 10 = .ok (.aload_n 0, 1) := by decide +kernel
theorem dX7_takeApart_11 : decode cX7_takeApart 11 = .ok (.getfield 9, 3) := by decide +kernel
theorem dX7_takeApart_14 : decode cX7_takeApart 14 = .ok (.getfield 41, 3) := by decide +kernel
theorem dX7_takeApart_17 : decode cX7_takeApart 17 = .ok (.if_icmp .ge 34, 3) := by decide +kernel
theorem dX7_takeApart_20 : decode cX7_takeApart 20 = .ok (.iload_n 2, 1) := by decide +kernel
theorem dX7_takeApart_21 : decode cX7_takeApart 21 = .ok (.iload_n 1, 1) := by decide +kernel
theorem dX7_takeApart_22 : decode cX7_takeApart 22 = .ok (.if_icmp .lt 23, 3) := by decide +kernel
theorem dX7_takeApart_25 : decode cX7_takeApart 25 = .ok (.aload_n 0, 1) := by decide +kernel
theorem dX7_takeApart_26 : decode cX7_takeApart 26 = .ok (.getfield 9, 3) := by decide +kernel
theorem dX7_takeApart_29 : decode cX7_takeApart 29 = .ok (.iload_n 2, 1) := by decide +kernel
theorem dX7_takeApart_30 : decode cX7_takeApart 30 = .ok (.invokevirtual 46, 3) := by decide +kernel
theorem dX7_takeApart_33 : decode cX7_takeApart 33 = .ok (.invokestatic 50, 3) := by decide +kernel
theorem dX7_takeApart_36 : decode cX7_takeApart 36 = .ok (.ifCond .ne 9, 3) := by decide +kernel
theorem dX7_takeApart_39 : decode cX7_takeApart 39 = .ok (.aload_n 0, 1) := by decide +kernel
theorem dX7_takeApart_40 : decode cX7_takeApart 40 = .ok (.iload_n 2, 1) := by decide +kernel
theorem dX7_takeApart_41 : decode cX7_takeApart 41 = .ok (.invokevirtual 54, 3) := by decide +kernel
theorem dX7_takeApart_44 : decode cX7_takeApart 44 = .ok (.istore_n 1, 1) := by decide +kernel
theorem dX7_takeApart_45 : decode cX7_takeApart 45 = .ok (.iinc 2 1, 3) := by decide +kernel
theorem dX7_takeApart_48 : decode cX7_takeApart 48 = .ok (.goto (-39), 3) := by decide +kernel
theorem dX7_takeApart_51 : decode cX7_takeApart 51 = .ok (.aload_n 0, 1) := by decide +kernel
theorem dX7_takeApart_52 : decode cX7_takeApart 52 = .ok (.iconst 0, 1) := by decide +kernel
theorem dX7_takeApart_53 : decode cX7_takeApart 53 = .ok (.iconst 0, 1) := by decide +kernel
theorem dX7_takeApart_54 : decode cX7_takeApart 54 = .ok (.aload_n 0, 1) := by decide +kernel
theorem dX7_takeApart_55 : decode cX7_takeApart 55 = .ok (.getfield 9, 3) := by decide +kernel
theorem dX7_takeApart_58 : decode cX7_takeApart 58 = .ok (.getfield 41, 3) := by decide +kernel
theorem dX7_takeApart_61 : decode cX7_takeApart 61 = .ok (.invokevirtual 57, 3) := by decide +kernel
theorem dX7_takeApart_64 : decode cX7_takeApart 64 = .ok (.aload_n 0, 1) := by decide +kernel
theorem dX7_takeApart_65 : decode cX7_takeApart 65 = .ok (.iconst 0, 1) := by decide +kernel
theorem dX7_takeApart_66 : decode cX7_takeApart 66 = .ok (.putfield 29, 3) := by decide +kernel
theorem dX7_takeApart_69 : decode cX7_takeApart 69 = .ok (.aload_n 0, 1) := by decide +kernel
theorem dX7_takeApart_70 : decode cX7_takeApart 70 = .ok (.invokevirtual 61, 3) := by decide +kernel
theorem dX7_takeApart_73 : decode cX7_takeApart 73 = .ok (.return_, 1) := by decide +kernel
theorem dX7_step_0 : decode cX7_step 0 = .ok (.aload_n 0, 1) := by decide +kernel
theorem dX7_step_1 : decode cX7_step 1 = .ok (.getfield 29, 3) := by decide +kernel
theorem dX7_step_4 : decode cX7_step 4 = .ok (.ifCond .lt 75, 3) := by decide +kernel
theorem dX7_step_7 : decode cX7_step 7 = .ok (.aload_n 0, 1) := by decide +kernel
theorem dX7_step_8 : decode cX7_step 8 = .ok (.getfield 29, 3) := by decide +kernel
theorem dX7_step_11 : decode cX7_step 11 = .ok (.aload_n 0, 1) := by decide +kernel
theorem dX7_step_12 : decode cX7_step 12 = .ok (.getfield 25, 3) := by decide +kernel
theorem dX7_step_15 : decode cX7_step 15 = .ok (.if_icmp .ge 64, 3) := by decide +kernel
theorem dX7_step_18 : decode cX7_step 18 = .ok (.aload_n 0, 1) := by decide +kernel
theorem dX7_step_19 : decode cX7_step 19 = .ok (.getfield 29, 3) := by decide +kernel
theorem dX7_step_22 : decode cX7_step 22 = .ok (.aload_n 0, 1) := by decide +kernel
theorem dX7_step_23 : decode cX7_step 23 = .ok (.getfield 15, 3) := by decide +kernel
theorem dX7_step_26 : decode cX7_step 26 = .ok (.arraylength, 1) := by decide +kernel
theorem dX7_step_27 : decode cX7_step 27 = .ok (.if_icmp .ge 52, 3) := by decide +kernel
theorem dX7_step_30 : decode cX7_step 30 = .ok (.aload_n 0, 1) := by decide +kernel
theorem dX7_step_31 : decode cX7_step 31 = .ok (.aload_n 0, 1) := by decide +kernel
theorem dX7_step_32 : decode cX7_step 32 = .ok (.getfield 15, 3) := by decide +kernel
theorem dX7_step_35 : decode cX7_step 35 = .ok (.aload_n 0, 1) := by decide +kernel
theorem dX7_step_36 : decode cX7_step 36 = .ok (.getfield 29, 3) := by decide +kernel
theorem dX7_step_39 : decode cX7_step 39 = .ok (.iaload, 1) := by decide +kernel
theorem dX7_step_40 : decode cX7_step 40 = .ok (.putfield 32, 3) := by decide +kernel
theorem dX7_step_43 : decode cX7_step 43 = .ok (.aload_n 0, 1) := by decide +kernel
theorem dX7_step_44 : decode cX7_step 44 = .ok (.aload_n 0, 1) := by decide +kernel
theorem dX7_step_45 : decode cX7_step 45 = .ok (.getfield 19, 3) := by decide +kernel
theorem dX7_step_48 : decode cX7_step 48 = .ok (.aload_n 0, 1) := by decide +kernel
theorem dX7_step_49 : decode cX7_step 49 = .ok (.getfield 29, 3) := by decide +kernel
theorem dX7_step_52 : decode cX7_step 52 = .ok (.iaload, 1) := by decide +kernel
theorem dX7_step_53 : decode cX7_step 53 = .ok (.putfield 35, 3) := by decide +kernel
theorem dX7_step_56 : decode cX7_step 56 = .ok (.aload_n 0, 1) := by decide +kernel
theorem dX7_step_57 : decode cX7_step 57 = .ok (.aload_n 0, 1) := by decide +kernel
theorem dX7_step_58 : decode cX7_step 58 = .ok (.getfield 22, 3) := by decide +kernel
theorem dX7_step_61 : decode cX7_step 61 = .ok (.aload_n 0, 1) := by decide +kernel
theorem dX7_step_62 : decode cX7_step 62 = .ok (.getfield 29, 3) := by decide +kernel
theorem dX7_step_65 : decode cX7_step 65 = .ok (.iaload, 1) := by decide +kernel
theorem dX7_step_66 : decode cX7_step 66 = .ok (.putfield 38, 3) := by decide +kernel
theorem dX7_step_69 : decode cX7_step 69 = .ok (.aload_n 0, 1) := by decide +kernel
theorem dX7_step_70 : decode cX7_step 70 = .ok (.dup, 1) := by decide +kernel
theorem dX7_step_71 : decode cX7_step 71 = .ok (.getfield 29, 3) := by decide +kernel
theorem dX7_step_74 : decode cX7_step 74 = .ok (.iconst 1, 1) := by decide +kernel
theorem dX7_step_75 : decode cX7_step 75 = .ok (.iadd, 1) := by decide +kernel
theorem dX7_step_76 : decode cX7_step 76 = .ok (.putfield 29, 3) := by decide +kernel
theorem dX7_step_79 : decode cX7_step 79 = .ok (.return_, 1) := by decide +kernel
theorem dX7_add_0 : decode cX7_add 0 = .ok (.aload_n 0, 1) := by decide +kernel
theorem dX7_add_1 : decode cX7_add 1 = .ok (.getfield 25, 3) := by decide +kernel
theorem dX7_add_4 : decode cX7_add 4 = .ok (.aload_n 0, 1) := by decide +kernel
theorem dX7_add_5 : decode cX7_add 5 = .ok (.getfield 15, 3) := by decide +kernel
theorem dX7_add_8 : decode cX7_add 8 = .ok (.arraylength, 1) := by decide +kernel
theorem dX7_add_9 : decode cX7_add 9 = .ok (.invokestatic 64, 3) := by decide +kernel
theorem dX7_add_12 : decode cX7_add 12 = .ok (.ifCond .eq 43, 3) := by decide +kernel
theorem dX7_add_15 : decode cX7_add 15 = .ok (.aload_n 0, 1) := by decide +kernel
theorem dX7_add_16 : decode cX7_add 16 = .ok (.getfield 15, 3) := by decide +kernel
theorem dX7_add_19 : decode cX7_add 19 = .ok (.aload_n 0, 1) := by decide +kernel
theorem dX7_add_20 : decode cX7_add 20 = .ok (.getfield 25, 3) := by decide +kernel
theorem dX7_add_23 : decode cX7_add 23 = .ok (.iload_n 1, 1) := by decide +kernel
theorem dX7_add_24 : decode cX7_add 24 = .ok (.iastore, 1) := by decide +kernel
theorem dX7_add_25 : decode cX7_add 25 = .ok (.aload_n 0, 1) := by decide +kernel
theorem dX7_add_26 : decode cX7_add 26 = .ok (.getfield 19, 3) := by decide +kernel
theorem dX7_add_29 : decode cX7_add 29 = .ok (.aload_n 0, 1) := by decide +kernel
theorem dX7_add_30 : decode cX7_add 30 = .ok (.getfield 25, 3) := by decide +kernel
theorem dX7_add_33 : decode cX7_add 33 = .ok (.iload_n 2, 1) := by decide +kernel
theorem dX7_add_34 : decode cX7_add 34 = .ok (.iastore, 1) := by decide +kernel
theorem dX7_add_35 : decode cX7_add 35 = .ok (.aload_n 0, 1) := by decide +kernel
theorem dX7_add_36 : decode cX7_add 36 = .ok (.getfield 22, 3) := by decide +kernel
theorem dX7_add_39 : decode cX7_add 39 = .ok (.aload_n 0, 1) := by decide +kernel
theorem dX7_add_40 : decode cX7_add 40 = .ok (.getfield 25, 3) := by decide +kernel
theorem dX7_add_43 : decode cX7_add 43 = .ok (.iload_n 3, 1) := by decide +kernel
theorem dX7_add_44 : decode cX7_add 44 = .ok (.iastore, 1) := by decide +kernel
theorem dX7_add_45 : decode cX7_add 45 = .ok (.aload_n 0, 1) := by decide +kernel
theorem dX7_add_46 : decode cX7_add 46 = .ok (.dup, 1) := by decide +kernel
theorem dX7_add_47 : decode cX7_add 47 = .ok (.getfield 25, 3) := by decide +kernel
theorem dX7_add_50 : decode cX7_add 50 = .ok (.iconst 1, 1) := by decide +kernel
theorem dX7_add_51 : decode cX7_add 51 = .ok (.iadd, 1) := by decide +kernel
theorem dX7_add_52 : decode cX7_add 52 = .ok (.putfield 25, 3) := by decide +kernel
theorem dX7_add_55 : decode cX7_add 55 = .ok (.return_, 1) := by decide +kernel
theorem dX7_addToken_0 : decode cX7_addToken 0 = .ok (.aload_n 0, 1) := by decide +kernel
theorem dX7_addToken_1 : decode cX7_addToken 1 = .ok (.getfield 9, 3) := by decide +kernel
theorem dX7_addToken_4 : decode cX7_addToken 4 = .ok (.iload_n 1, 1) := by decide +kernel
theorem dX7_addToken_5 : decode cX7_addToken 5 = .ok (.invokevirtual 46, 3) := by decide +kernel
theorem dX7_addToken_8 : decode cX7_addToken 8 = .ok (.istore_n 2, 1) := by decide +kernel
theorem dX7_addToken_9 : decode cX7_addToken 9 = .ok (.iload_n 1, 1) := by decide +kernel
theorem dX7_addToken_10 : decode cX7_addToken 10 = .ok (.iconst 1, 1) := by decide +kernel
theorem dX7_addToken_11 : decode cX7_addToken 11 = .ok (.iadd, 1) := by decide +kernel
theorem dX7_addToken_12 : decode cX7_addToken 12 = .ok (.istore_n 3, 1) := by decide +kernel
theorem dX7_addToken_13 : decode cX7_addToken 13 = .ok (.iload_n 2, 1) := by decide +kernel
theorem dX7_addToken_14 : decode cX7_addToken 14 = .ok (.invokestatic 68, 3) := by decide +kernel
theorem dX7_addToken_17 : decode cX7_addToken 17 = .ok (.ifCond .eq 49, 3) := by decide +kernel
theorem dX7_addToken_20 : decode cX7_addToken 20 = .ok (.iload_n 3, 1) := by decide +kernel
theorem dX7_addToken_21 : decode cX7_addToken 21 = .ok (.aload_n 0, 1) := by decide +kernel
theorem dX7_addToken_22 : decode cX7_addToken 22 = .ok (.getfield 9, 3) := by decide +kernel
theorem dX7_addToken_25 : decode cX7_addToken 25 = .ok (.getfield 41, 3) := by decide +kernel
theorem dX7_addToken_28 : decode cX7_addToken 28 = .ok (.if_icmp .ge 23, 3) := by decide +kernel
theorem dX7_addToken_31 : decode cX7_addToken 31 = .ok (.aload_n 0, 1) := by decide +kernel
theorem dX7_addToken_32 : decode cX7_addToken 32 = .ok (.getfield 9, 3) := by decide +kernel
theorem dX7_addToken_35 : decode cX7_addToken 35 = .ok (.iload_n 3, 1) := by decide +kernel
theorem dX7_addToken_36 : decode cX7_addToken 36 = .ok (.invokevirtual 46, 3) := by decide +kernel
theorem dX7_addToken_39 : decode cX7_addToken 39 = .ok (.invokestatic 68, 3) := by decide +kernel
theorem dX7_addToken_42 : decode cX7_addToken 42 = .ok (.ifCond .eq 9, 3) := by decide +kernel
theorem dX7_addToken_45 : decode cX7_addToken 45 = .ok (.iinc 3 1, 3) := by decide +kernel
theorem dX7_addToken_48 : decode cX7_addToken 48 = .ok (.goto (-28), 3) := by decide +kernel
theorem dX7_addToken_51 : decode cX7_addToken 51 = .ok (.aload_n 0, 1) := by decide +kernel
theorem dX7_addToken_52 : decode cX7_addToken 52 = .ok (.aload_n 0, 1) := by decide +kernel
theorem dX7_addToken_53 : decode cX7_addToken 53 = .ok (.iload_n 1, 1) := by decide +kernel
theorem dX7_addToken_54 : decode cX7_addToken 54 = .ok (.iload_n 3, 1) := by decide +kernel
theorem dX7_addToken_55 : decode cX7_addToken 55 = .ok (.invokevirtual 71, 3) := by decide +kernel
theorem dX7_addToken_58 : decode cX7_addToken 58 = .ok (.iconst 0, 1) := by decide +kernel
theorem dX7_addToken_59 : decode cX7_addToken 59 = .ok (.iload_n 1, 1) := by decide +kernel
theorem dX7_addToken_60 : decode cX7_addToken 60 = .ok (.invokevirtual 57, 3) := by decide +kernel
theorem dX7_addToken_63 : decode cX7_addToken 63 = .ok (.goto 68, 3) := by decide +kernel
theorem dX7_addToken_66 : decode cX7_addToken 66 = .ok (.iload_n 2, 1) := by decide +kernel
theorem dX7_addToken_67 : decode cX7_addToken 67 = .ok (.invokestatic 75, 3) := by decide +kernel
theorem dX7_addToken_70 : decode cX7_addToken 70 = .ok (.ifCond .eq 43, 3) := by decide +kernel
theorem dX7_addToken_73 : decode cX7_addToken 73 = .ok (.iload_n 3, 1) := by decide +kernel
theorem dX7_addToken_74 : decode cX7_addToken 74 = .ok (.aload_n 0, 1) := by decide +kernel
theorem dX7_addToken_75 : decode cX7_addToken 75 = .ok (.getfield 9, 3) := by decide +kernel
theorem dX7_addToken_78 : decode cX7_addToken 78 = .ok (.getfield 41, 3) := by decide +kernel
theorem dX7_addToken_81 : decode cX7_addToken 81 = .ok (.if_icmp .ge 23, 3) := by decide +kernel
theorem dX7_addToken_84 : decode cX7_addToken 84 = .ok (.aload_n 0, 1) := by decide +kernel
theorem dX7_addToken_85 : decode cX7_addToken 85 = .ok (.getfield 9, 3) := by decide +kernel
theorem dX7_addToken_88 : decode cX7_addToken 88 = .ok (.iload_n 3, 1) := by decide +kernel
theorem dX7_addToken_89 : decode cX7_addToken 89 = .ok (.invokevirtual 46, 3) := by decide +kernel
theorem dX7_addToken_92 : decode cX7_addToken 92 = .ok (.invokestatic 75, 3) := by decide +kernel
theorem dX7_addToken_95 : decode cX7_addToken 95 = .ok (.ifCond .eq 9, 3) := by decide +kernel
theorem dX7_addToken_98 : decode cX7_addToken 98 = .ok (.iinc 3 1, 3) := by decide +kernel
theorem dX7_addToken_101 : decode cX7_addToken 101 = .ok (.goto (-28), 3) := by decide +kernel
theorem dX7_addToken_104 : decode cX7_addToken 104 = .ok (.aload_n 0, 1) := by decide +kernel
theorem dX7_addToken_105 : decode cX7_addToken 105 = .ok (.iload_n 1, 1) := by decide +kernel
theorem dX7_addToken_106 : decode cX7_addToken 106 = .ok (.iload_n 3, 1) := by decide +kernel
theorem dX7_addToken_107 : decode cX7_addToken 107 = .ok (.invokevirtual 78, 3) := by decide +kernel
theorem dX7_addToken_110 : decode cX7_addToken 110 = .ok (.goto 21, 3) := by decide +kernel
theorem dX7_addToken_113 : decode cX7_addToken 113 = .ok (.aload_n 0, 1) := by decide +kernel
theorem dX7_addToken_114 : decode cX7_addToken 114 = .ok (.iload_n 2, 1) := by decide +kernel
theorem dX7_addToken_115 : decode cX7_addToken 115 = .ok (.invokestatic 82, 3) := by decide +kernel
theorem dX7_addToken_118 : decode cX7_addToken 118 = .ok (.ifCond .eq 7, 3) := by decide +kernel
theorem dX7_addToken_121 : decode cX7_addToken 121 = .ok (.iload_n 2, 1) := by decide +kernel
theorem dX7_addToken_122 : decode cX7_addToken 122 = .ok (.goto 4, 3) := by decide +kernel
theorem dX7_addToken_125 : decode cX7_addToken 125 = .ok (.iconst 2, 1) := by decide +kernel
theorem dX7_addToken_126 : decode cX7_addToken 126 = .ok (.iconst 0, 1) := by decide +kernel
theorem dX7_addToken_127 : decode cX7_addToken 127 = .ok (.iload_n 1, 1) := by decide +kernel
theorem dX7_addToken_128 : decode cX7_addToken 128 = .ok (.invokevirtual 57, 3) := by decide +kernel
theorem dX7_addToken_131 : decode cX7_addToken 131 = .ok (.iload_n 3, 1) := by decide +kernel
theorem dX7_addToken_132 : decode cX7_addToken 132 = .ok (.ireturn, 1) := by decide +kernel
theorem dX7_addNumber_0 : decode cX7_addNumber 0 = .ok (.iload_n 2, 1) := by decide +kernel
theorem dX7_addNumber_1 : decode cX7_addNumber 1 = .ok (.iload_n 1, 1) := by decide +kernel
theorem dX7_addNumber_2 : decode cX7_addNumber 2 = .ok (.isub, 1) := by decide +kernel
theorem dX7_addNumber_3 : decode cX7_addNumber 3 = .ok (.iconst 3, 1) := by decide +kernel
theorem dX7_addNumber_4 : decode cX7_addNumber 4 = .ok (.if_icmp .le 11, 3) := by decide +kernel
theorem dX7_addNumber_7 : decode cX7_addNumber 7 = .ok (.aload_n 0, 1) := by decide +kernel
theorem dX7_addNumber_8 : decode cX7_addNumber 8 = .ok (.iconst 2, 1) := by decide +kernel
theorem dX7_addNumber_9 : decode cX7_addNumber 9 = .ok (.iconst 0, 1) := by decide +kernel
theorem dX7_addNumber_10 : decode cX7_addNumber 10 = .ok (.iload_n 1, 1) := by decide +kernel
theorem dX7_addNumber_11 : decode cX7_addNumber 11 = .ok (.invokevirtual 57, 3) := by decide +kernel
theorem dX7_addNumber_14 : decode cX7_addNumber 14 = .ok (.return_, 1) := by decide +kernel
theorem dX7_addNumber_15 : decode cX7_addNumber 15 = .ok (.iconst 0, 1) := by decide +kernel
theorem dX7_addNumber_16 : decode cX7_addNumber 16 = .ok (.istore_n 3, 1) := by decide +kernel
theorem dX7_addNumber_17 : decode cX7_addNumber 17 = .ok (.iload_n 1, 1) := by decide +kernel
theorem dX7_addNumber_18 : decode cX7_addNumber 18 = .ok (.istore 4, 2) := by decide +kernel
theorem dX7_addNumber_20 : decode cX7_addNumber 20 = .ok (.iload 4, 2) := by decide +kernel
theorem dX7_addNumber_22 : decode cX7_addNumber 22 = .ok (.iload_n 2, 1) := by decide +kernel
theorem dX7_addNumber_23 : decode cX7_addNumber 23 = .ok (.if_icmp .ge 27, 3) := by decide +kernel
theorem dX7_addNumber_26 : decode cX7_addNumber 26 = .ok (.iload_n 3, 1) := by decide +kernel
theorem dX7_addNumber_27 : decode cX7_addNumber 27 = .ok (.bipush 10, 2) := by decide +kernel
theorem dX7_addNumber_29 : decode cX7_addNumber 29 = .ok (.imul, 1) := by decide +kernel
theorem dX7_addNumber_30 : decode cX7_addNumber 30 = .ok (.aload_n 0, 1) := by decide +kernel
theorem dX7_addNumber_31 : decode cX7_addNumber 31 = .ok (.getfield 9, 3) := by decide +kernel
theorem dX7_addNumber_34 : decode cX7_addNumber 34 = .ok (.iload 4, 2) := by decide +kernel
theorem dX7_addNumber_36 : decode cX7_addNumber 36 = .ok (.invokevirtual 46, 3) := by decide +kernel
theorem dX7_addNumber_39 : decode cX7_addNumber 39 = .ok (.iadd, 1) := by decide +kernel
theorem dX7_addNumber_40 : decode cX7_addNumber 40 = .ok (.bipush 48, 2) := by decide +kernel
theorem dX7_addNumber_42 : decode cX7_addNumber 42 = .ok (.isub, 1) := by decide +kernel
theorem dX7_addNumber_43 : decode cX7_addNumber 43 = .ok (.istore_n 3, 1) := by decide +kernel
theorem dX7_addNumber_44 : decode cX7_addNumber 44 = .ok (.iinc 4 1, 3) := by decide +kernel
theorem dX7_addNumber_47 : decode cX7_addNumber 47 = .ok (.goto (-27), 3) := by decide +kernel
theorem dX7_addNumber_50 : decode cX7_addNumber 50 = .ok (.aload_n 0, 1) := by decide +kernel
theorem dX7_addNumber_51 : decode cX7_addNumber 51 = .ok (.iconst 1, 1) := by decide +kernel
theorem dX7_addNumber_52 : decode cX7_addNumber 52 = .ok (.iload_n 3, 1) := by decide +kernel
theorem dX7_addNumber_53 : decode cX7_addNumber 53 = .ok (.iload_n 1, 1) := by decide +kernel
theorem dX7_addNumber_54 : decode cX7_addNumber 54 = .ok (.invokevirtual 57, 3) := by decide +kernel
theorem dX7_addNumber_57 : decode cX7_addNumber 57 = .ok (.return_, 1) := by decide +kernel
theorem dX7_kindOfWord_0 : decode cX7_kindOfWord 0 = .ok (.sipush 300, 3) := by decide +kernel
theorem dX7_kindOfWord_3 : decode cX7_kindOfWord 3 = .ok (.istore_n 3, 1) := by decide +kernel
theorem dX7_kindOfWord_4 : decode cX7_kindOfWord 4 = .ok (.iload_n 1, 1) := by decide +kernel
theorem dX7_kindOfWord_5 : decode cX7_kindOfWord 5 = .ok (.istore 4, 2) := by decide +kernel
theorem dX7_kindOfWord_7 : decode cX7_kindOfWord 7 = .ok (.iconst 1, 1) := by decide +kernel
theorem dX7_kindOfWord_8 : decode cX7_kindOfWord 8 = .ok (.istore 5, 2) := by decide +kernel
theorem dX7_kindOfWord_10 : decode cX7_kindOfWord 10 = .ok (.iconst 0, 1) := by decide +kernel
theorem dX7_kindOfWord_11 : decode cX7_kindOfWord 11 = .ok (.istore 6, 2) := by decide +kernel
theorem dX7_kindOfWord_13 : decode cX7_kindOfWord 13 = .ok (.iload 6, 2) := by decide +kernel
theorem dX7_kindOfWord_15 : decode cX7_kindOfWord 15 = .ok (.ldc 85, 2) := by decide +kernel
theorem dX7_kindOfWord_17 : decode cX7_kindOfWord 17 = .ok (.invokevirtual 87, 3) := by decide +kernel
theorem dX7_kindOfWord_20 : decode cX7_kindOfWord 20 = .ok (.if_icmp .ge 79, 3) := by decide +kernel
theorem dX7_kindOfWord_23 : decode cX7_kindOfWord 23 = .ok (.ldc 85, 2) := by decide +kernel
theorem dX7_kindOfWord_25 : decode cX7_kindOfWord 25 = .ok (.iload 6, 2) := by decide +kernel
theorem dX7_kindOfWord_27 : decode cX7_kindOfWord 27 = .ok (.invokevirtual 92, 3) := by decide +kernel
theorem dX7_kindOfWord_30 : decode cX7_kindOfWord 30 = .ok (.istore 7, 2) := by decide +kernel
theorem dX7_kindOfWord_32 : decode cX7_kindOfWord 32 = .ok (.iload 7, 2) := by decide +kernel
theorem dX7_kindOfWord_34 : decode cX7_kindOfWord 34 = .ok (.bipush 32, 2) := by decide +kernel
theorem dX7_kindOfWord_36 : decode cX7_kindOfWord 36 = .ok (.if_icmp .eq 35, 3) := by decide +kernel
theorem dX7_kindOfWord_39 : decode cX7_kindOfWord 39 = .ok (.iload 5, 2) := by decide +kernel
theorem dX7_kindOfWord_41 : decode cX7_kindOfWord 41 = .ok (.ifCond .eq 21, 3) := by decide +kernel
theorem dX7_kindOfWord_44 : decode cX7_kindOfWord 44 = .ok (.aload_n 0, 1) := by decide +kernel
theorem dX7_kindOfWord_45 : decode cX7_kindOfWord 45 = .ok (.getfield 9, 3) := by decide +kernel
theorem dX7_kindOfWord_48 : decode cX7_kindOfWord 48 = .ok (.iload 4, 2) := by decide +kernel
theorem dX7_kindOfWord_50 : decode cX7_kindOfWord 50 = .ok (.invokevirtual 46, 3) := by decide +kernel
theorem dX7_kindOfWord_53 : decode cX7_kindOfWord 53 = .ok (.iload 7, 2) := by decide +kernel
theorem dX7_kindOfWord_55 : decode cX7_kindOfWord 55 = .ok (.if_icmp .ne 7, 3) := by decide +kernel
theorem dX7_kindOfWord_58 : decode cX7_kindOfWord 58 = .ok (.iconst 1, 1) := by decide +kernel
theorem dX7_kindOfWord_59 : decode cX7_kindOfWord 59 = .ok (.goto 4, 3) := by decide +kernel
theorem dX7_kindOfWord_62 : decode cX7_kindOfWord 62 = .ok (.iconst 0, 1) := by decide +kernel
theorem dX7_kindOfWord_63 : decode cX7_kindOfWord 63 = .ok (.istore 5, 2) := by decide +kernel
theorem dX7_kindOfWord_65 : decode cX7_kindOfWord 65 = .ok (.iinc 4 1, 3) := by decide +kernel
theorem dX7_kindOfWord_68 : decode cX7_kindOfWord 68 = .ok (.goto 25, 3) := by decide +kernel
theorem dX7_kindOfWord_71 : decode cX7_kindOfWord 71 = .ok (.iload 5, 2) := by decide +kernel
theorem dX7_kindOfWord_73 : decode cX7_kindOfWord 73 = .ok (.ifCond .eq 11, 3) := by decide +kernel
theorem dX7_kindOfWord_76 : decode cX7_kindOfWord 76 = .ok (.iload 4, 2) := by decide +kernel
theorem dX7_kindOfWord_78 : decode cX7_kindOfWord 78 = .ok (.iload_n 2, 1) := by decide +kernel
theorem dX7_kindOfWord_79 : decode cX7_kindOfWord 79 = .ok (.if_icmp .ne 5, 3) := by decide +kernel
theorem dX7_kindOfWord_82 : decode cX7_kindOfWord 82 = .ok (.iload_n 3, 1) := by decide +kernel
theorem dX7_kindOfWord_83 : decode cX7_kindOfWord 83 = .ok (.ireturn, 1) := by decide +kernel
theorem dX7_kindOfWord_84 : decode cX7_kindOfWord 84 = .ok (.iinc 3 1, 3) := by decide +kernel
theorem dX7_kindOfWord_87 : decode cX7_kindOfWord 87 = .ok (.iload_n 1, 1) := by decide +kernel
theorem dX7_kindOfWord_88 : decode cX7_kindOfWord 88 = .ok (.istore 4, 2) := by decide +kernel
theorem dX7_kindOfWord_90 : decode cX7_kindOfWord 90 = .ok (.iconst 1, 1) := by decide +kernel
