theorem dX10_count_61 : decode cX10_count 61 = .ok (.getfield 144, 3) := by decide +kernel
theorem dX10_count_64 : decode cX10_count 64 = .ok (.ireturn, 1) := by decide +kernel
theorem dX10_count_65 : decode cX10_count 65 = .ok (.aload_n 0, 1) := by decide +kernel
theorem dX10_count_66 : decode cX10_count 66 = .ok (.getfield 28, 3) := by decide +kernel
theorem dX10_count_69 : decode cX10_count 69 = .ok (.invokevirtual 225, 3) := by decide +kernel
theorem dX10_count_72 : decode cX10_count 72 = .ok (.ireturn, 1) := by decide +kernel
theorem dX10_count_73 : decode cX10_count 73 = .ok (.aload_n 0, 1) := by decide +kernel
theorem dX10_count_74 : decode cX10_count 74 = .ok (.iload_n 1, 1) := by decide +kernel
theorem dX10_count_75 : decode cX10_count 75 = .ok (.invokevirtual 228, 3) := by decide +kernel
theorem dX10_count_78 : decode cX10_count 78 = .ok (.ireturn, 1) := by decide +kernel
theorem dX10_image_0 : decode cX10_image 0 = .ok (.iload_n 1, 1) := by decide +kernel
theorem dX10_image_1 : decode cX10_image 1 = .ok (.iconst 3, 1) := by decide +kernel
theorem dX10_image_2 : decode cX10_image 2 = .ok (.invokestatic 68, 3) := by decide +kernel
theorem dX10_image_5 : decode cX10_image 5 = .ok (.ifCond .ne 5, 3) := by decide +kernel
theorem dX10_image_8 : decode cX10_image 8 = .ok (.iconst 0, 1) := by decide +kernel
theorem dX10_image_9 : decode cX10_image 9 = .ok (.ireturn, 1) := by decide +kernel
theorem dX10_image_10 : decode cX10_image 10 = .ok (.aload_n 0, 1) := by decide +kernel
theorem dX10_image_11 : decode cX10_image 11 = .ok (.getfield 32, 3) := by decide +kernel
theorem dX10_image_14 : decode cX10_image 14 = .ok (.iload_n 1, 1) := by decide +kernel
theorem dX10_image_15 : decode cX10_image 15 = .ok (.aaload, 1) := by decide +kernel
theorem dX10_image_16 : decode cX10_image 16 = .ok (.ifnonnull 16, 3) := by decide +kernel
theorem dX10_image_19 : decode cX10_image 19 = .ok (.aload_n 0, 1) := by decide +kernel
theorem dX10_image_20 : decode cX10_image 20 = .ok (.getfield 32, 3) := by decide +kernel
theorem dX10_image_23 : decode cX10_image 23 = .ok (.iload_n 1, 1) := by decide +kernel
theorem dX10_image_24 : decode cX10_image 24 = .ok (.new 25, 3) := by decide +kernel
theorem dX10_image_27 : decode cX10_image 27 = .ok (.dup, 1) := by decide +kernel
theorem dX10_image_28 : decode cX10_image 28 = .ok (.invokespecial 27, 3) := by decide +kernel
theorem dX10_image_31 : decode cX10_image 31 = .ok (.aastore, 1) := by decide +kernel
theorem dX10_image_32 : decode cX10_image 32 = .ok (.aload_n 0, 1) := by decide +kernel
theorem dX10_image_33 : decode cX10_image 33 = .ok (.getfield 32, 3) := by decide +kernel
theorem dX10_image_36 : decode cX10_image 36 = .ok (.iload_n 1, 1) := by decide +kernel
theorem dX10_image_37 : decode cX10_image 37 = .ok (.aaload, 1) := by decide +kernel
theorem dX10_image_38 : decode cX10_image 38 = .ok (.aload_n 0, 1) := by decide +kernel
theorem dX10_image_39 : decode cX10_image 39 = .ok (.getfield 28, 3) := by decide +kernel
theorem dX10_image_42 : decode cX10_image 42 = .ok (.invokevirtual 231, 3) := by decide +kernel
theorem dX10_image_45 : decode cX10_image 45 = .ok (.iconst 1, 1) := by decide +kernel
theorem dX10_image_46 : decode cX10_image 46 = .ok (.ireturn, 1) := by decide +kernel
theorem dX10_again_0 : decode cX10_again 0 = .ok (.iload_n 1, 1) := by decide +kernel
theorem dX10_again_1 : decode cX10_again 1 = .ok (.iconst 3, 1) := by decide +kernel
theorem dX10_again_2 : decode cX10_again 2 = .ok (.invokestatic 68, 3) := by decide +kernel
theorem dX10_again_5 : decode cX10_again 5 = .ok (.ifCond .eq 12, 3) := by decide +kernel
theorem dX10_again_8 : decode cX10_again 8 = .ok (.aload_n 0, 1) := by decide +kernel
theorem dX10_again_9 : decode cX10_again 9 = .ok (.getfield 32, 3) := by decide +kernel
theorem dX10_again_12 : decode cX10_again 12 = .ok (.iload_n 1, 1) := by decide +kernel
theorem dX10_again_13 : decode cX10_again 13 = .ok (.aaload, 1) := by decide +kernel
theorem dX10_again_14 : decode cX10_again 14 = .ok (.ifnonnull 5, 3) := by decide +kernel
theorem dX10_again_17 : decode cX10_again 17 = .ok (.iconst 0, 1) := by decide +kernel
theorem dX10_again_18 : decode cX10_again 18 = .ok (.ireturn, 1) := by decide +kernel
theorem dX10_again_19 : decode cX10_again 19 = .ok (.aload_n 0, 1) := by decide +kernel
theorem dX10_again_20 : decode cX10_again 20 = .ok (.getfield 28, 3) := by decide +kernel
theorem dX10_again_23 : decode cX10_again 23 = .ok (.aload_n 0, 1) := by decide +kernel
theorem dX10_again_24 : decode cX10_again 24 = .ok (.getfield 32, 3) := by decide +kernel
theorem dX10_again_27 : decode cX10_again 27 = .ok (.iload_n 1, 1) := by decide +kernel
theorem dX10_again_28 : decode cX10_again 28 = .ok (.aaload, 1) := by decide +kernel
theorem dX10_again_29 : decode cX10_again 29 = .ok (.invokevirtual 231, 3) := by decide +kernel
theorem dX10_again_32 : decode cX10_again 32 = .ok (.aload_n 0, 1) := by decide +kernel
theorem dX10_again_33 : decode cX10_again 33 = .ok (.aconst_null, 1) := by decide +kernel
theorem dX10_again_34 : decode cX10_again 34 = .ok (.putfield 50, 3) := by decide +kernel
theorem dX10_again_37 : decode cX10_again 37 = .ok (.iconst 1, 1) := by decide +kernel
theorem dX10_again_38 : decode cX10_again 38 = .ok (.ireturn, 1) := by decide +kernel
theorem dX10_countOfSlot_0 : decode cX10_countOfSlot 0 = .ok (.iload_n 1, 1) := by decide +kernel
theorem dX10_countOfSlot_1 : decode cX10_countOfSlot 1 = .ok (.iconst 4, 1) := by decide +kernel
theorem dX10_countOfSlot_2 : decode cX10_countOfSlot 2 = .ok (.if_icmp .lt 9, 3) := by decide +kernel
theorem dX10_countOfSlot_5 : decode cX10_countOfSlot 5 = .ok (.iload_n 1, 1) := by decide +kernel
theorem dX10_countOfSlot_6 : decode cX10_countOfSlot 6 = .ok (.bipush 11, 2) := by decide +kernel
theorem dX10_countOfSlot_8 : decode cX10_countOfSlot 8 = .ok (.if_icmp .le 5, 3) := by decide +kernel
theorem dX10_countOfSlot_11 : decode cX10_countOfSlot 11 = .ok (.iconst (-1), 1) := by decide +kernel
theorem dX10_countOfSlot_12 : decode cX10_countOfSlot 12 = .ok (.ireturn, 1) := by decide +kernel
theorem dX10_countOfSlot_13 : decode cX10_countOfSlot 13 = .ok (.aload_n 0, 1) := by decide +kernel
theorem dX10_countOfSlot_14 : decode cX10_countOfSlot 14 = .ok (.iload_n 1, 1) := by decide +kernel
theorem dX10_countOfSlot_15 : decode cX10_countOfSlot 15 = .ok (.bipush 8, 2) := by decide +kernel
theorem dX10_countOfSlot_17 : decode cX10_countOfSlot 17 = .ok (.if_icmp .ge 9, 3) := by decide +kernel
theorem dX10_countOfSlot_20 : decode cX10_countOfSlot 20 = .ok (.iload_n 1, 1) := by decide +kernel
theorem dX10_countOfSlot_21 : decode cX10_countOfSlot 21 = .ok (.iconst 4, 1) := by decide +kernel
theorem dX10_countOfSlot_22 : decode cX10_countOfSlot 22 = .ok (.isub, 1) := by decide +kernel
theorem dX10_countOfSlot_23 : decode cX10_countOfSlot 23 = .ok (.goto 7, 3) := by decide +kernel
theorem dX10_countOfSlot_26 : decode cX10_countOfSlot 26 = .ok (.iload_n 1, 1) := by decide +kernel
theorem dX10_countOfSlot_27 : decode cX10_countOfSlot 27 = .ok (.bipush 8, 2) := by decide +kernel
theorem dX10_countOfSlot_29 : decode cX10_countOfSlot 29 = .ok (.isub, 1) := by decide +kernel
theorem dX10_countOfSlot_30 : decode cX10_countOfSlot 30 = .ok (.invokevirtual 121, 3) := by decide +kernel
theorem dX10_countOfSlot_33 : decode cX10_countOfSlot 33 = .ok (.astore_n 2, 1) := by decide +kernel
theorem dX10_countOfSlot_34 : decode cX10_countOfSlot 34 = .ok (.aload_n 2, 1) := by decide +kernel
theorem dX10_countOfSlot_35 : decode cX10_countOfSlot 35 = .ok (.ifnonnull 5, 3) := by decide +kernel
theorem dX10_countOfSlot_38 : decode cX10_countOfSlot 38 = .ok (.iconst (-1), 1) := by decide +kernel
theorem dX10_countOfSlot_39 : decode cX10_countOfSlot 39 = .ok (.ireturn, 1) := by decide +kernel
theorem dX10_countOfSlot_40 : decode cX10_countOfSlot 40 = .ok (.iload_n 1, 1) := by decide +kernel
theorem dX10_countOfSlot_41 : decode cX10_countOfSlot 41 = .ok (.bipush 8, 2) := by decide +kernel
theorem dX10_countOfSlot_43 : decode cX10_countOfSlot 43 = .ok (.if_icmp .ge 11, 3) := by decide +kernel
theorem dX10_countOfSlot_46 : decode cX10_countOfSlot 46 = .ok (.aload_n 2, 1) := by decide +kernel
theorem dX10_countOfSlot_47 : decode cX10_countOfSlot 47 = .ok (.getfield 84, 3) := by decide +kernel
theorem dX10_countOfSlot_50 : decode cX10_countOfSlot 50 = .ok (.arraylength, 1) := by decide +kernel
theorem dX10_countOfSlot_51 : decode cX10_countOfSlot 51 = .ok (.goto 7, 3) := by decide +kernel
theorem dX10_countOfSlot_54 : decode cX10_countOfSlot 54 = .ok (.aload_n 2, 1) := by decide +kernel
theorem dX10_countOfSlot_55 : decode cX10_countOfSlot 55 = .ok (.getfield 235, 3) := by decide +kernel
theorem dX10_countOfSlot_58 : decode cX10_countOfSlot 58 = .ok (.ireturn, 1) := by decide +kernel
theorem dX10_rulesIn_0 : decode cX10_rulesIn 0 = .ok (.iload_n 1, 1) := by decide +kernel
theorem dX10_rulesIn_1 : decode cX10_rulesIn 1 = .ok (.iconst 4, 1) := by decide +kernel
theorem dX10_rulesIn_2 : decode cX10_rulesIn 2 = .ok (.invokestatic 68, 3) := by decide +kernel
theorem dX10_rulesIn_5 : decode cX10_rulesIn 5 = .ok (.ifCond .eq 15, 3) := by decide +kernel
theorem dX10_rulesIn_8 : decode cX10_rulesIn 8 = .ok (.aload_n 0, 1) := by decide +kernel
theorem dX10_rulesIn_9 : decode cX10_rulesIn 9 = .ok (.getfield 28, 3) := by decide +kernel
theorem dX10_rulesIn_12 : decode cX10_rulesIn 12 = .ok (.getfield 238, 3) := by decide +kernel
theorem dX10_rulesIn_15 : decode cX10_rulesIn 15 = .ok (.iload_n 1, 1) := by decide +kernel
theorem dX10_rulesIn_16 : decode cX10_rulesIn 16 = .ok (.aaload, 1) := by decide +kernel
theorem dX10_rulesIn_17 : decode cX10_rulesIn 17 = .ok (.goto 4, 3) := by decide +kernel
theorem dX10_rulesIn_20 : decode cX10_rulesIn 20 = .ok (.aconst_null, 1) := by decide +kernel
theorem dX10_rulesIn_21 : decode cX10_rulesIn 21 = .ok (.areturn, 1) := by decide +kernel
theorem dX10_putRules_0 : decode cX10_putRules 0 = .ok (.iload_n 1, 1) := by decide +kernel
theorem dX10_putRules_1 : decode cX10_putRules 1 = .ok (.iconst 4, 1) := by decide +kernel
theorem dX10_putRules_2 : decode cX10_putRules 2 = .ok (.invokestatic 68, 3) := by decide +kernel
theorem dX10_putRules_5 : decode cX10_putRules 5 = .ok (.ifCond .ne 4, 3) := by decide +kernel
theorem dX10_putRules_8 : decode cX10_putRules 8 = .ok (.return_, 1) := by decide +kernel
theorem dX10_putRules_9 : decode cX10_putRules 9 = .ok (.aload_n 0, 1) := by decide +kernel
theorem dX10_putRules_10 : decode cX10_putRules 10 = .ok (.getfield 28, 3) := by decide +kernel
theorem dX10_putRules_13 : decode cX10_putRules 13 = .ok (.getfield 238, 3) := by decide +kernel
theorem dX10_putRules_16 : decode cX10_putRules 16 = .ok (.iload_n 1, 1) := by decide +kernel
theorem dX10_putRules_17 : decode cX10_putRules 17 = .ok (.aload_n 2, 1) := by decide +kernel
theorem dX10_putRules_18 : decode cX10_putRules 18 = .ok (.aastore, 1) := by decide +kernel
theorem dX10_putRules_19 : decode cX10_putRules 19 = .ok (.aload_n 0, 1) := by decide +kernel
theorem dX10_putRules_20 : decode cX10_putRules 20 = .ok (.getfield 50, 3) := by decide +kernel
theorem dX10_putRules_23 : decode cX10_putRules 23 = .ok (.ifnull 22, 3) := by decide +kernel
theorem dX10_putRules_26 : decode cX10_putRules 26 = .ok (.aload_n 0, 1) := by decide +kernel
theorem dX10_putRules_27 : decode cX10_putRules 27 = .ok (.getfield 50, 3) := by decide +kernel
theorem dX10_putRules_30 : decode cX10_putRules 30 = .ok (.getfield 211, 3) := by decide +kernel
theorem dX10_putRules_33 : decode cX10_putRules 33 = .ok (.iload_n 1, 1) := by decide +kernel
theorem dX10_putRules_34 : decode cX10_putRules 34 = .ok (.if_icmp .ne 11, 3) := by decide +kernel
theorem dX10_putRules_37 : decode cX10_putRules 37 = .ok (.aload_n 0, 1) := by decide +kernel
theorem dX10_putRules_38 : decode cX10_putRules 38 = .ok (.getfield 50, 3) := by decide +kernel
theorem dX10_putRules_41 : decode cX10_putRules 41 = .ok (.iconst 0, 1) := by decide +kernel
theorem dX10_putRules_42 : decode cX10_putRules 42 = .ok (.putfield 207, 3) := by decide +kernel
theorem dX10_putRules_45 : decode cX10_putRules 45 = .ok (.return_, 1) := by decide +kernel
theorem dX10_canBePerson_0 : decode cX10_canBePerson 0 = .ok (.iload_n 0, 1) := by decide +kernel
theorem dX10_canBePerson_1 : decode cX10_canBePerson 1 = .ok (.sipush 255, 3) := by decide +kernel
theorem dX10_canBePerson_4 : decode cX10_canBePerson 4 = .ok (.invokestatic 107, 3) := by decide +kernel
theorem dX10_canBePerson_7 : decode cX10_canBePerson 7 = .ok (.ifCond .eq 15, 3) := by decide +kernel
theorem dX10_canBePerson_10 : decode cX10_canBePerson 10 = .ok (.iload_n 1, 1) := by decide +kernel
theorem dX10_canBePerson_11 : decode cX10_canBePerson 11 = .ok (.iconst 5, 1) := by decide +kernel
theorem dX10_canBePerson_12 : decode cX10_canBePerson 12 = .ok (.invokestatic 107, 3) := by decide +kernel
theorem dX10_canBePerson_15 : decode cX10_canBePerson 15 = .ok (.ifCond .eq 7, 3) := by decide +kernel
theorem dX10_canBePerson_18 : decode cX10_canBePerson 18 = .ok (.iconst 1, 1) := by decide +kernel
theorem dX10_canBePerson_19 : decode cX10_canBePerson 19 = .ok (.goto 4, 3) := by decide +kernel
theorem dX10_canBePerson_22 : decode cX10_canBePerson 22 = .ok (.iconst 0, 1) := by decide +kernel
theorem dX10_canBePerson_23 : decode cX10_canBePerson 23 = .ok (.ireturn, 1) := by decide +kernel
theorem dX10_isIn_0 : decode cX10_isIn 0 = .ok (.iload_n 0, 1) := by decide +kernel
theorem dX10_isIn_1 : decode cX10_isIn 1 = .ok (.ifCond .lt 12, 3) := by decide +kernel
theorem dX10_isIn_4 : decode cX10_isIn 4 = .ok (.iload_n 0, 1) := by decide +kernel
theorem dX10_isIn_5 : decode cX10_isIn 5 = .ok (.iload_n 1, 1) := by decide +kernel
theorem dX10_isIn_6 : decode cX10_isIn 6 = .ok (.if_icmp .ge 7, 3) := by decide +kernel
theorem dX10_isIn_9 : decode cX10_isIn 9 = .ok (.iconst 1, 1) := by decide +kernel
theorem dX10_isIn_10 : decode cX10_isIn 10 = .ok (.goto 4, 3) := by decide +kernel
theorem dX10_isIn_13 : decode cX10_isIn 13 = .ok (.iconst 0, 1) := by decide +kernel
theorem dX10_isIn_14 : decode cX10_isIn 14 = .ok (.ireturn, 1) := by decide +kernel
theorem dX10_isUpTo_0 : decode cX10_isUpTo 0 = .ok (.iload_n 0, 1) := by decide +kernel
theorem dX10_isUpTo_1 : decode cX10_isUpTo 1 = .ok (.ifCond .lt 12, 3) := by decide +kernel
theorem dX10_isUpTo_4 : decode cX10_isUpTo 4 = .ok (.iload_n 0, 1) := by decide +kernel
theorem dX10_isUpTo_5 : decode cX10_isUpTo 5 = .ok (.iload_n 1, 1) := by decide +kernel
theorem dX10_isUpTo_6 : decode cX10_isUpTo 6 = .ok (.if_icmp .gt 7, 3) := by decide +kernel
theorem dX10_isUpTo_9 : decode cX10_isUpTo 9 = .ok (.iconst 1, 1) := by decide +kernel
theorem dX10_isUpTo_10 : decode cX10_isUpTo 10 = .ok (.goto 4, 3) := by decide +kernel
theorem dX10_isUpTo_13 : decode cX10_isUpTo 13 = .ok (.iconst 0, 1) := by decide +kernel
theorem dX10_isUpTo_14 : decode cX10_isUpTo 14 = .ok (.ireturn, 1) := by decide +kernel
theorem dX10_hasBit_0 : decode cX10_hasBit 0 = .ok (.iload_n 0, 1) := by decide +kernel
theorem dX10_hasBit_1 : decode cX10_hasBit 1 = .ok (.iload_n 1, 1) := by decide +kernel
theorem dX10_hasBit_2 : decode cX10_hasBit 2 = .ok (.iushr, 1) := by decide +kernel
theorem dX10_hasBit_3 : decode cX10_hasBit 3 = .ok (.iconst 1, 1) := by decide +kernel
theorem dX10_hasBit_4 : decode cX10_hasBit 4 = .ok (.iand, 1) := by decide +kernel
theorem dX10_hasBit_5 : decode cX10_hasBit 5 = .ok (.ifCond .eq 7, 3) := by decide +kernel
theorem dX10_hasBit_8 : decode cX10_hasBit 8 = .ok (.iconst 1, 1) := by decide +kernel
theorem dX10_hasBit_9 : decode cX10_hasBit 9 = .ok (.goto 4, 3) := by decide +kernel
theorem dX10_hasBit_12 : decode cX10_hasBit 12 = .ok (.iconst 0, 1) := by decide +kernel
theorem dX10_hasBit_13 : decode cX10_hasBit 13 = .ok (.ireturn, 1) := by decide +kernel
theorem dX11_init_0 : decode cX11_init 0 = .ok (.aload_n 0, 1) := by decide +kernel
theorem dX11_init_1 : decode cX11_init 1 = .ok (.invokespecial 1, 3) := by decide +kernel
theorem dX11_init_4 : decode cX11_init 4 = .ok (.aload_n 0, 1) := by decide +kernel
theorem dX11_init_5 : decode cX11_init 5 = .ok (.sipush 600, 3) := by decide +kernel
theorem dX11_init_8 : decode cX11_init 8 = .ok (.newarray .byte, 2) := by decide +kernel
theorem dX11_init_10 : decode cX11_init 10 = .ok (.putfield 7, 3) := by decide +kernel
theorem dX11_init_13 : decode cX11_init 13 = .ok (.aload_n 0, 1) := by decide +kernel
theorem dX11_init_14 : decode cX11_init 14 = .ok (.iconst 4, 1) := by decide +kernel
theorem dX11_init_15 : decode cX11_init 15 = .ok (.newarray .int, 2) := by decide +kernel
theorem dX11_init_17 : decode cX11_init 17 = .ok (.putfield 13, 3) := by decide +kernel
theorem dX11_init_20 : decode cX11_init 20 = .ok (.aload_n 0, 1) := by decide +kernel
theorem dX11_init_21 : decode cX11_init 21 = .ok (.bipush 64, 2) := by decide +kernel
theorem dX11_init_23 : decode cX11_init 23 = .ok (.newarray .int, 2) := by decide +kernel
theorem dX11_init_25 : decode cX11_init 25 = .ok (.putfield 17, 3) := by decide +kernel
theorem dX11_init_28 : decode cX11_init 28 = .ok (.aload_n 0, 1) := by decide +kernel
theorem dX11_init_29 : decode cX11_init 29 = .ok (.bipush 64, 2) := by decide +kernel
theorem dX11_init_31 : decode cX11_init 31 = .ok (.newarray .int, 2) := by decide +kernel
theorem dX11_init_33 : decode cX11_init 33 = .ok (.putfield 20, 3) := by decide +kernel
theorem dX11_init_36 : decode cX11_init 36 = .ok (.aload_n 0, 1) := by decide +kernel
theorem dX11_init_37 : decode cX11_init 37 = .ok (.iconst 4, 1) := by decide +kernel
theorem dX11_init_38 : decode cX11_init 38 = .ok (.newarray .int, 2) := by decide +kernel
theorem dX11_init_40 : decode cX11_init 40 = .ok (.putfield 23, 3) := by decide +kernel
theorem dX11_init_43 : decode cX11_init 43 = .ok (.aload_n 0, 1) := by decide +kernel
theorem dX11_init_44 : decode cX11_init 44 = .ok (.bipush 64, 2) := by decide +kernel
theorem dX11_init_46 : decode cX11_init 46 = .ok (.newarray .int, 2) := by decide +kernel
theorem dX11_init_48 : decode cX11_init 48 = .ok (.putfield 26, 3) := by decide +kernel
theorem dX11_init_51 : decode cX11_init 51 = .ok (.aload_n 0, 1) := by decide +kernel
theorem dX11_init_52 : decode cX11_init 52 = .ok (.bipush 64, 2) := by decide +kernel
theorem dX11_init_54 : decode cX11_init 54 = .ok (.newarray .int, 2) := by decide +kernel
theorem dX11_init_56 : decode cX11_init 56 = .ok (.putfield 29, 3) := by decide +kernel
theorem dX11_init_59 : decode cX11_init 59 = .ok (.aload_n 0, 1) := by decide +kernel
theorem dX11_init_60 : decode cX11_init 60 = .ok (.bipush 64, 2) := by decide +kernel
theorem dX11_init_62 : decode cX11_init 62 = .ok (.newarray .int, 2) := by decide +kernel
theorem dX11_init_64 : decode cX11_init 64 = .ok (.putfield 32, 3) := by decide +kernel
theorem dX11_init_67 : decode cX11_init 67 = .ok (.aload_n 0, 1) := by decide +kernel
theorem dX11_init_68 : decode cX11_init 68 = .ok (.iconst 4, 1) := by decide +kernel
theorem dX11_init_69 : decode cX11_init 69 = .ok (.newarray .int, 2) := by decide +kernel
theorem dX11_init_71 : decode cX11_init 71 = .ok (.putfield 35, 3) := by decide +kernel
theorem dX11_init_74 : decode cX11_init 74 = .ok (.aload_n 0, 1) := by decide +kernel
theorem dX11_init_75 : decode cX11_init 75 = .ok (.sipush 3200, 3) := by decide +kernel
theorem dX11_init_78 : decode cX11_init 78 = .ok (.newarray .int, 2) := by decide +kernel
theorem dX11_init_80 : decode cX11_init 80 = .ok (.putfield 38, 3) := by decide +kernel
theorem dX11_init_83 : decode cX11_init 83 = .ok (.aload_n 0, 1) := by decide +kernel
theorem dX11_init_84 : decode cX11_init 84 = .ok (.sipush 800, 3) := by decide +kernel
theorem dX11_init_87 : decode cX11_init 87 = .ok (.newarray .int, 2) := by decide +kernel
theorem dX11_init_89 : decode cX11_init 89 = .ok (.putfield 41, 3) := by decide +kernel
theorem dX11_init_92 : decode cX11_init 92 = .ok (.aload_n 0, 1) := by decide +kernel
theorem dX11_init_93 : decode cX11_init 93 = .ok (.bipush 16, 2) := by decide +kernel
theorem dX11_init_95 : decode cX11_init 95 = .ok (.newarray .int, 2) := by decide +kernel
theorem dX11_init_97 : decode cX11_init 97 = .ok (.putfield 44, 3) := by decide +kernel
theorem dX11_init_100 : decode cX11_init 100 = .ok (.aload_n 0, 1) := by decide +kernel
theorem dX11_init_101 : decode cX11_init 101 = .ok (.bipush 16, 2) := by decide +kernel
theorem dX11_init_103 : decode cX11_init 103 = .ok (.newarray .int, 2) := by decide +kernel
theorem dX11_init_105 : decode cX11_init 105 = .ok (.putfield 47, 3) := by decide +kernel
theorem dX11_init_108 : decode cX11_init 108 = .ok (.aload_n 0, 1) := by decide +kernel
theorem dX11_init_109 : decode cX11_init 109 = .ok (.sipush 1536, 3) := by decide +kernel
theorem dX11_init_112 : decode cX11_init 112 = .ok (.newarray .int, 2) := by decide +kernel
theorem dX11_init_114 : decode cX11_init 114 = .ok (.putfield 50, 3) := by decide +kernel
theorem dX11_init_117 : decode cX11_init 117 = .ok (.aload_n 0, 1) := by decide +kernel
theorem dX11_init_118 : decode cX11_init 118 = .ok (.sipush 14400, 3) := by decide +kernel
theorem dX11_init_121 : decode cX11_init 121 = .ok (.newarray .byte, 2) := by decide +kernel
theorem dX11_init_123 : decode cX11_init 123 = .ok (.putfield 53, 3) := by decide +kernel
theorem dX11_init_126 : decode cX11_init 126 = .ok (.aload_n 0, 1) := by decide +kernel
theorem dX11_init_127 : decode cX11_init 127 = .ok (.sipush 14400, 3) := by decide +kernel
theorem dX11_init_130 : decode cX11_init 130 = .ok (.newarray .int, 2) := by decide +kernel
theorem dX11_init_132 : decode cX11_init 132 = .ok (.putfield 56, 3) := by decide +kernel
theorem dX11_init_135 : decode cX11_init 135 = .ok (.aload_n 0, 1) := by decide +kernel
theorem dX11_init_136 : decode cX11_init 136 = .ok (.iconst (-1), 1) := by decide +kernel
theorem dX11_init_137 : decode cX11_init 137 = .ok (.putfield 59, 3) := by decide +kernel
theorem dX11_init_140 : decode cX11_init 140 = .ok (.aload_n 0, 1) := by decide +kernel
theorem dX11_init_141 : decode cX11_init 141 = .ok (.bipush 104, 2) := by decide +kernel
theorem dX11_init_143 : decode cX11_init 143 = .ok (.newarray .int, 2) := by decide +kernel
theorem dX11_init_145 : decode cX11_init 145 = .ok (.putfield 63, 3) := by decide +kernel
theorem dX11_init_148 : decode cX11_init 148 = .ok (.aload_n 0, 1) := by decide +kernel
theorem dX11_init_149 : decode cX11_init 149 = .ok (.sipush 900, 3) := by decide +kernel
theorem dX11_init_152 : decode cX11_init 152 = .ok (.newarray .byte, 2) := by decide +kernel
theorem dX11_init_154 : decode cX11_init 154 = .ok (.putfield 66, 3) := by decide +kernel
theorem dX11_init_157 : decode cX11_init 157 = .ok (.aload_n 0, 1) := by decide +kernel
theorem dX11_init_158 : decode cX11_init 158 = .ok (.sipush 900, 3) := by decide +kernel
theorem dX11_init_161 : decode cX11_init 161 = .ok (.newarray .int, 2) := by decide +kernel
theorem dX11_init_163 : decode cX11_init 163 = .ok (.putfield 69, 3) := by decide +kernel
theorem dX11_init_166 : decode cX11_init 166 = .ok (.aload_n 0, 1) := by decide +kernel
theorem dX11_init_167 : decode cX11_init 167 = .ok (.iconst 4, 1) := by decide +kernel
theorem dX11_init_168 : decode cX11_init 168 = .ok (.newarray .int, 2) := by decide +kernel
theorem dX11_init_170 : decode cX11_init 170 = .ok (.putfield 72, 3) := by decide +kernel
theorem dX11_init_173 : decode cX11_init 173 = .ok (.aload_n 0, 1) := by decide +kernel
theorem dX11_init_174 : decode cX11_init 174 = .ok (.bipush 64, 2) := by decide +kernel
theorem dX11_init_176 : decode cX11_init 176 = .ok (.newarray .int, 2) := by decide +kernel
theorem dX11_init_178 : decode cX11_init 178 = .ok (.putfield 75, 3) := by decide +kernel
theorem dX11_init_181 : decode cX11_init 181 = .ok (.aload_n 0, 1) := by decide +kernel
theorem dX11_init_182 : decode cX11_init 182 = .ok (.iconst 3, 1) := by decide +kernel
theorem dX11_init_183 : decode cX11_init 183 = .ok (.newarray .int, 2) := by decide +kernel
theorem dX11_init_185 : decode cX11_init 185 = .ok (.putfield 78, 3) := by decide +kernel
theorem dX11_init_188 : decode cX11_init 188 = .ok (.aload_n 0, 1) := by decide +kernel
theorem dX11_init_189 : decode cX11_init 189 = .ok (.iconst 3, 1) := by decide +kernel
theorem dX11_init_190 : decode cX11_init 190 = .ok (.newarray .int, 2) := by decide +kernel
theorem dX11_init_192 : decode cX11_init 192 = .ok (.putfield 81, 3) := by decide +kernel
theorem dX11_init_195 : decode cX11_init 195 = .ok (.aload_n 0, 1) := by decide +kernel
theorem dX11_init_196 : decode cX11_init 196 = .ok (.iconst 3, 1) := by decide +kernel
theorem dX11_init_197 : decode cX11_init 197 = .ok (.newarray .int, 2) := by decide +kernel
theorem dX11_init_199 : decode cX11_init 199 = .ok (.putfield 84, 3) := by decide +kernel
theorem dX11_init_202 : decode cX11_init 202 = .ok (.aload_n 0, 1) := by decide +kernel
theorem dX11_init_203 : decode cX11_init 203 = .ok (.iconst 3, 1) := by decide +kernel
theorem dX11_init_204 : decode cX11_init 204 = .ok (.newarray .int, 2) := by decide +kernel
theorem dX11_init_206 : decode cX11_init 206 = .ok (.putfield 87, 3) := by decide +kernel
theorem dX11_init_209 : decode cX11_init 209 = .ok (.aload_n 0, 1) := by decide +kernel
theorem dX11_init_210 : decode cX11_init 210 = .ok (.iconst 3, 1) := by decide +kernel
theorem dX11_init_211 : decode cX11_init 211 = .ok (.newarray .boolean, 2) := by decide +kernel
theorem dX11_init_213 : decode cX11_init 213 = .ok (.putfield 90, 3) := by decide +kernel
theorem dX11_init_216 : decode cX11_init 216 = .ok (.return_, 1) := by decide +kernel
theorem dX11_in_0 : decode cX11_in 0 = .ok (.iload_n 0, 1) := by decide +kernel
theorem dX11_in_1 : decode cX11_in 1 = .ok (.iload_n 1, 1) := by decide +kernel
theorem dX11_in_2 : decode cX11_in 2 = .ok (.if_icmp .lt 12, 3) := by decide +kernel
theorem dX11_in_5 : decode cX11_in 5 = .ok (.iload_n 0, 1) := by decide +kernel
theorem dX11_in_6 : decode cX11_in 6 = .ok (.iload_n 2, 1) := by decide +kernel
theorem dX11_in_7 : decode cX11_in 7 = .ok (.if_icmp .gt 7, 3) := by decide +kernel
theorem dX11_in_10 : decode cX11_in 10 = .ok (.iconst 1, 1) := by decide +kernel
theorem dX11_in_11 : decode cX11_in 11 = .ok (.goto 4, 3) := by decide +kernel
theorem dX11_in_14 : decode cX11_in 14 = .ok (.iconst 0, 1) := by decide +kernel
theorem dX11_in_15 : decode cX11_in 15 = .ok (.ireturn, 1) := by decide +kernel
theorem dX11_move_0 : decode cX11_move 0 = .ok (.iconst 0, 1) := by decide +kernel
theorem dX11_move_1 : decode cX11_move 1 = .ok (.istore 4, 2) := by decide +kernel
theorem dX11_move_3 : decode cX11_move 3 = .ok (.iload 4, 2) := by decide +kernel
theorem dX11_move_5 : decode cX11_move 5 = .ok (.iload_n 1, 1) := by decide +kernel
theorem dX11_move_6 : decode cX11_move 6 = .ok (.if_icmp .ge 25, 3) := by decide +kernel
theorem dX11_move_9 : decode cX11_move 9 = .ok (.aload_n 0, 1) := by decide +kernel
theorem dX11_move_10 : decode cX11_move 10 = .ok (.iload_n 1, 1) := by decide +kernel
theorem dX11_move_11 : decode cX11_move 11 = .ok (.iload_n 3, 1) := by decide +kernel
theorem dX11_move_12 : decode cX11_move 12 = .ok (.imul, 1) := by decide +kernel
theorem dX11_move_13 : decode cX11_move 13 = .ok (.iload 4, 2) := by decide +kernel
theorem dX11_move_15 : decode cX11_move 15 = .ok (.iadd, 1) := by decide +kernel
theorem dX11_move_16 : decode cX11_move 16 = .ok (.aload_n 0, 1) := by decide +kernel
theorem dX11_move_17 : decode cX11_move 17 = .ok (.iload_n 1, 1) := by decide +kernel
theorem dX11_move_18 : decode cX11_move 18 = .ok (.iload_n 2, 1) := by decide +kernel
theorem dX11_move_19 : decode cX11_move 19 = .ok (.imul, 1) := by decide +kernel
theorem dX11_move_20 : decode cX11_move 20 = .ok (.iload 4, 2) := by decide +kernel
theorem dX11_move_22 : decode cX11_move 22 = .ok (.iadd, 1) := by decide +kernel
theorem dX11_move_23 : decode cX11_move 23 = .ok (.iaload, 1) := by decide +kernel
theorem dX11_move_24 : decode cX11_move 24 = .ok (.iastore, 1) := by decide +kernel
theorem dX11_move_25 : decode cX11_move 25 = .ok (.iinc 4 1, 3) := by decide +kernel
theorem dX11_move_28 : decode cX11_move 28 = .ok (.goto (-25), 3) := by decide +kernel
theorem dX11_move_31 : decode cX11_move 31 = .ok (.return_, 1) := by decide +kernel
theorem dX11_copy_0 : decode cX11_copy 0 = .ok (.aload_n 0, 1) := by decide +kernel
theorem dX11_copy_1 : decode cX11_copy 1 = .ok (.getfield 13, 3) := by decide +kernel
theorem dX11_copy_4 : decode cX11_copy 4 = .ok (.iconst 1, 1) := by decide +kernel
theorem dX11_copy_5 : decode cX11_copy 5 = .ok (.iload_n 1, 1) := by decide +kernel
theorem dX11_copy_6 : decode cX11_copy 6 = .ok (.iload_n 2, 1) := by decide +kernel
theorem dX11_copy_7 : decode cX11_copy 7 = .ok (.invokestatic 97, 3) := by decide +kernel
theorem dX11_copy_10 : decode cX11_copy 10 = .ok (.aload_n 0, 1) := by decide +kernel
theorem dX11_copy_11 : decode cX11_copy 11 = .ok (.getfield 17, 3) := by decide +kernel
theorem dX11_copy_14 : decode cX11_copy 14 = .ok (.bipush 16, 2) := by decide +kernel
theorem dX11_copy_16 : decode cX11_copy 16 = .ok (.iload_n 1, 1) := by decide +kernel
theorem dX11_copy_17 : decode cX11_copy 17 = .ok (.iload_n 2, 1) := by decide +kernel
theorem dX11_copy_18 : decode cX11_copy 18 = .ok (.invokestatic 97, 3) := by decide +kernel
theorem dX11_copy_21 : decode cX11_copy 21 = .ok (.aload_n 0, 1) := by decide +kernel
theorem dX11_copy_22 : decode cX11_copy 22 = .ok (.getfield 20, 3) := by decide +kernel
theorem dX11_copy_25 : decode cX11_copy 25 = .ok (.bipush 16, 2) := by decide +kernel
theorem dX11_copy_27 : decode cX11_copy 27 = .ok (.iload_n 1, 1) := by decide +kernel
theorem dX11_copy_28 : decode cX11_copy 28 = .ok (.iload_n 2, 1) := by decide +kernel
theorem dX11_copy_29 : decode cX11_copy 29 = .ok (.invokestatic 97, 3) := by decide +kernel
theorem dX11_copy_32 : decode cX11_copy 32 = .ok (.aload_n 0, 1) := by decide +kernel
theorem dX11_copy_33 : decode cX11_copy 33 = .ok (.getfield 23, 3) := by decide +kernel
theorem dX11_copy_36 : decode cX11_copy 36 = .ok (.iconst 1, 1) := by decide +kernel
theorem dX11_copy_37 : decode cX11_copy 37 = .ok (.iload_n 1, 1) := by decide +kernel
theorem dX11_copy_38 : decode cX11_copy 38 = .ok (.iload_n 2, 1) := by decide +kernel
theorem dX11_copy_39 : decode cX11_copy 39 = .ok (.invokestatic 97, 3) := by decide +kernel
theorem dX11_copy_42 : decode cX11_copy 42 = .ok (.aload_n 0, 1) := by decide +kernel
theorem dX11_copy_43 : decode cX11_copy 43 = .ok (.getfield 26, 3) := by decide +kernel
theorem dX11_copy_46 : decode cX11_copy 46 = .ok (.bipush 16, 2) := by decide +kernel
theorem dX11_copy_48 : decode cX11_copy 48 = .ok (.iload_n 1, 1) := by decide +kernel
theorem dX11_copy_49 : decode cX11_copy 49 = .ok (.iload_n 2, 1) := by decide +kernel
theorem dX11_copy_50 : decode cX11_copy 50 = .ok (.invokestatic 97, 3) := by decide +kernel
theorem dX11_copy_53 : decode cX11_copy 53 = .ok (.aload_n 0, 1) := by decide +kernel
theorem dX11_copy_54 : decode cX11_copy 54 = .ok (.getfield 29, 3) := by decide +kernel
theorem dX11_copy_57 : decode cX11_copy 57 = .ok (.bipush 16, 2) := by decide +kernel
theorem dX11_copy_59 : decode cX11_copy 59 = .ok (.iload_n 1, 1) := by decide +kernel
theorem dX11_copy_60 : decode cX11_copy 60 = .ok (.iload_n 2, 1) := by decide +kernel
theorem dX11_copy_61 : decode cX11_copy 61 = .ok (.invokestatic 97, 3) := by decide +kernel
theorem dX11_copy_64 : decode cX11_copy 64 = .ok (.aload_n 0, 1) := by decide +kernel
theorem dX11_copy_65 : decode cX11_copy 65 = .ok (.getfield 32, 3) := by decide +kernel
theorem dX11_copy_68 : decode cX11_copy 68 = .ok (.bipush 16, 2) := by decide +kernel
theorem dX11_copy_70 : decode cX11_copy 70 = .ok (.iload_n 1, 1) := by decide +kernel
theorem dX11_copy_71 : decode cX11_copy 71 = .ok (.iload_n 2, 1) := by decide +kernel
theorem dX11_copy_72 : decode cX11_copy 72 = .ok (.invokestatic 97, 3) := by decide +kernel
theorem dX11_copy_75 : decode cX11_copy 75 = .ok (.aload_n 0, 1) := by decide +kernel
theorem dX11_copy_76 : decode cX11_copy 76 = .ok (.getfield 35, 3) := by decide +kernel
theorem dX11_copy_79 : decode cX11_copy 79 = .ok (.iconst 1, 1) := by decide +kernel
theorem dX11_copy_80 : decode cX11_copy 80 = .ok (.iload_n 1, 1) := by decide +kernel
theorem dX11_copy_81 : decode cX11_copy 81 = .ok (.iload_n 2, 1) := by decide +kernel
theorem dX11_copy_82 : decode cX11_copy 82 = .ok (.invokestatic 97, 3) := by decide +kernel
theorem dX11_copy_85 : decode cX11_copy 85 = .ok (.aload_n 0, 1) := by decide +kernel
theorem dX11_copy_86 : decode cX11_copy 86 = .ok (.getfield 38, 3) := by decide +kernel
theorem dX11_copy_89 : decode cX11_copy 89 = .ok (.sipush 800, 3) := by decide +kernel
theorem dX11_copy_92 : decode cX11_copy 92 = .ok (.iload_n 1, 1) := by decide +kernel
theorem dX11_copy_93 : decode cX11_copy 93 = .ok (.iload_n 2, 1) := by decide +kernel
theorem dX11_copy_94 : decode cX11_copy 94 = .ok (.invokestatic 97, 3) := by decide +kernel
theorem dX11_copy_97 : decode cX11_copy 97 = .ok (.aload_n 0, 1) := by decide +kernel
theorem dX11_copy_98 : decode cX11_copy 98 = .ok (.getfield 41, 3) := by decide +kernel
theorem dX11_copy_101 : decode cX11_copy 101 = .ok (.sipush 200, 3) := by decide +kernel
theorem dX11_copy_104 : decode cX11_copy 104 = .ok (.iload_n 1, 1) := by decide +kernel
theorem dX11_copy_105 : decode cX11_copy 105 = .ok (.iload_n 2, 1) := by decide +kernel
theorem dX11_copy_106 : decode cX11_copy 106 = .ok (.invokestatic 97, 3) := by decide +kernel
theorem dX11_copy_109 : decode cX11_copy 109 = .ok (.aload_n 0, 1) := by decide +kernel
theorem dX11_copy_110 : decode cX11_copy 110 = .ok (.getfield 44, 3) := by decide +kernel
theorem dX11_copy_113 : decode cX11_copy 113 = .ok (.iconst 4, 1) := by decide +kernel
theorem dX11_copy_114 : decode cX11_copy 114 = .ok (.iload_n 1, 1) := by decide +kernel
theorem dX11_copy_115 : decode cX11_copy 115 = .ok (.iload_n 2, 1) := by decide +kernel
theorem dX11_copy_116 : decode cX11_copy 116 = .ok (.invokestatic 97, 3) := by decide +kernel
theorem dX11_copy_119 : decode cX11_copy 119 = .ok (.aload_n 0, 1) := by decide +kernel
theorem dX11_copy_120 : decode cX11_copy 120 = .ok (.getfield 47, 3) := by decide +kernel
theorem dX11_copy_123 : decode cX11_copy 123 = .ok (.iconst 4, 1) := by decide +kernel
theorem dX11_copy_124 : decode cX11_copy 124 = .ok (.iload_n 1, 1) := by decide +kernel
theorem dX11_copy_125 : decode cX11_copy 125 = .ok (.iload_n 2, 1) := by decide +kernel
theorem dX11_copy_126 : decode cX11_copy 126 = .ok (.invokestatic 97, 3) := by decide +kernel
theorem dX11_copy_129 : decode cX11_copy 129 = .ok (.aload_n 0, 1) := by decide +kernel
theorem dX11_copy_130 : decode cX11_copy 130 = .ok (.getfield 50, 3) := by decide +kernel
theorem dX11_copy_133 : decode cX11_copy 133 = .ok (.sipush 384, 3) := by decide +kernel
theorem dX11_copy_136 : decode cX11_copy 136 = .ok (.iload_n 1, 1) := by decide +kernel
theorem dX11_copy_137 : decode cX11_copy 137 = .ok (.iload_n 2, 1) := by decide +kernel
theorem dX11_copy_138 : decode cX11_copy 138 = .ok (.invokestatic 97, 3) := by decide +kernel
theorem dX11_copy_141 : decode cX11_copy 141 = .ok (.aload_n 0, 1) := by decide +kernel
theorem dX11_copy_142 : decode cX11_copy 142 = .ok (.getfield 56, 3) := by decide +kernel
theorem dX11_copy_145 : decode cX11_copy 145 = .ok (.sipush 3600, 3) := by decide +kernel
theorem dX11_copy_148 : decode cX11_copy 148 = .ok (.iload_n 1, 1) := by decide +kernel
theorem dX11_copy_149 : decode cX11_copy 149 = .ok (.iload_n 2, 1) := by decide +kernel
theorem dX11_copy_150 : decode cX11_copy 150 = .ok (.invokestatic 97, 3) := by decide +kernel
theorem dX11_copy_153 : decode cX11_copy 153 = .ok (.iconst 0, 1) := by decide +kernel
theorem dX11_copy_154 : decode cX11_copy 154 = .ok (.istore_n 3, 1) := by decide +kernel
theorem dX11_copy_155 : decode cX11_copy 155 = .ok (.iload_n 3, 1) := by decide +kernel
theorem dX11_copy_156 : decode cX11_copy 156 = .ok (.sipush 3600, 3) := by decide +kernel
theorem dX11_copy_159 : decode cX11_copy 159 = .ok (.if_icmp .ge 33, 3) := by decide +kernel
theorem dX11_copy_162 : decode cX11_copy 162 = .ok (.aload_n 0, 1) := by decide +kernel
theorem dX11_copy_163 : decode cX11_copy 163 = .ok (.getfield 53, 3) := by decide +kernel
theorem dX11_copy_166 : decode cX11_copy 166 = .ok (.sipush 3600, 3) := by decide +kernel
theorem dX11_copy_169 : decode cX11_copy 169 = .ok (.iload_n 2, 1) := by decide +kernel
theorem dX11_copy_170 : decode cX11_copy 170 = .ok (.imul, 1) := by decide +kernel
theorem dX11_copy_171 : decode cX11_copy 171 = .ok (.iload_n 3, 1) := by decide +kernel
theorem dX11_copy_172 : decode cX11_copy 172 = .ok (.iadd, 1) := by decide +kernel
theorem dX11_copy_173 : decode cX11_copy 173 = .ok (.aload_n 0, 1) := by decide +kernel
theorem dX11_copy_174 : decode cX11_copy 174 = .ok (.getfield 53, 3) := by decide +kernel
theorem dX11_copy_177 : decode cX11_copy 177 = .ok (.sipush 3600, 3) := by decide +kernel
theorem dX11_copy_180 : decode cX11_copy 180 = .ok (.iload_n 1, 1) := by decide +kernel
theorem dX11_copy_181 : decode cX11_copy 181 = .ok (.imul, 1) := by decide +kernel
theorem dX11_copy_182 : decode cX11_copy 182 = .ok (.iload_n 3, 1) := by decide +kernel
theorem dX11_copy_183 : decode cX11_copy 183 = .ok (.iadd, 1) := by decide +kernel
theorem dX11_copy_184 : decode cX11_copy 184 = .ok (.baload, 1) := by decide +kernel
theorem dX11_copy_185 : decode cX11_copy 185 = .ok (.bastore, 1) := by decide +kernel
theorem dX11_copy_186 : decode cX11_copy 186 = .ok (.iinc 3 1, 3) := by decide +kernel
theorem dX11_copy_189 : decode cX11_copy 189 = .ok (.goto (-34), 3) := by decide +kernel
theorem dX11_copy_192 : decode cX11_copy 192 = .ok (.return_, 1) := by decide +kernel
theorem dX11_feed_0 : decode cX11_feed 0 = .ok (.aload_n 0, 1) := by decide +kernel
theorem dX11_feed_1 : decode cX11_feed 1 = .ok (.iconst 0, 1) := by decide +kernel
theorem dX11_feed_2 : decode cX11_feed 2 = .ok (.putfield 94, 3) := by decide +kernel
theorem dX11_feed_5 : decode cX11_feed 5 = .ok (.aload_n 0, 1) := by decide +kernel
theorem dX11_feed_6 : decode cX11_feed 6 = .ok (.getfield 101, 3) := by decide +kernel
theorem dX11_feed_9 : decode cX11_feed 9 = .ok (.bipush 20, 2) := by decide +kernel
theorem dX11_feed_11 : decode cX11_feed 11 = .ok (.iadd, 1) := by decide +kernel
theorem dX11_feed_12 : decode cX11_feed 12 = .ok (.sipush 600, 3) := by decide +kernel
theorem dX11_feed_15 : decode cX11_feed 15 = .ok (.if_icmp .le 5, 3) := by decide +kernel
theorem dX11_feed_18 : decode cX11_feed 18 = .ok (.iconst (-1), 1) := by decide +kernel
theorem dX11_feed_19 : decode cX11_feed 19 = .ok (.ireturn, 1) := by decide +kernel
theorem dX11_feed_20 : decode cX11_feed 20 = .ok (.aload_n 0, 1) := by decide +kernel
theorem dX11_feed_21 : decode cX11_feed 21 = .ok (.iload_n 1, 1) := by decide +kernel
theorem dX11_feed_22 : decode cX11_feed 22 = .ok (.invokevirtual 104, 3) := by decide +kernel
theorem dX11_feed_25 : decode cX11_feed 25 = .ok (.aload_n 0, 1) := by decide +kernel
theorem dX11_feed_26 : decode cX11_feed 26 = .ok (.iload_n 2, 1) := by decide +kernel
theorem dX11_feed_27 : decode cX11_feed 27 = .ok (.invokevirtual 104, 3) := by decide +kernel
theorem dX11_feed_30 : decode cX11_feed 30 = .ok (.aload_n 0, 1) := by decide +kernel
theorem dX11_feed_31 : decode cX11_feed 31 = .ok (.iload_n 3, 1) := by decide +kernel
theorem dX11_feed_32 : decode cX11_feed 32 = .ok (.invokevirtual 104, 3) := by decide +kernel
theorem dX11_feed_35 : decode cX11_feed 35 = .ok (.aload_n 0, 1) := by decide +kernel
theorem dX11_feed_36 : decode cX11_feed 36 = .ok (.iload 4, 2) := by decide +kernel
theorem dX11_feed_38 : decode cX11_feed 38 = .ok (.invokevirtual 104, 3) := by decide +kernel
theorem dX11_feed_41 : decode cX11_feed 41 = .ok (.aload_n 0, 1) := by decide +kernel
theorem dX11_feed_42 : decode cX11_feed 42 = .ok (.iload 5, 2) := by decide +kernel
theorem dX11_feed_44 : decode cX11_feed 44 = .ok (.invokevirtual 104, 3) := by decide +kernel
theorem dX11_feed_47 : decode cX11_feed 47 = .ok (.aload_n 0, 1) := by decide +kernel
theorem dX11_feed_48 : decode cX11_feed 48 = .ok (.getfield 101, 3) := by decide +kernel
theorem dX11_feed_51 : decode cX11_feed 51 = .ok (.ireturn, 1) := by decide +kernel
theorem dX11_four_0 : decode cX11_four 0 = .ok (.bipush 24, 2) := by decide +kernel
theorem dX11_four_2 : decode cX11_four 2 = .ok (.istore_n 2, 1) := by decide +kernel
theorem dX11_four_3 : decode cX11_four 3 = .ok (.iload_n 2, 1) := by decide +kernel
theorem dX11_four_4 : decode cX11_four 4 = .ok (.ifCond .lt 32, 3) := by decide +kernel
theorem dX11_four_7 : decode cX11_four 7 = .ok (.aload_n 0, 1) := by decide +kernel
theorem dX11_four_8 : decode cX11_four 8 = .ok (.getfield 7, 3) := by decide +kernel
theorem dX11_four_11 : decode cX11_four 11 = .ok (.aload_n 0, 1) := by decide +kernel
theorem dX11_four_12 : decode cX11_four 12 = .ok (.getfield 101, 3) := by decide +kernel
theorem dX11_four_15 : decode cX11_four 15 = .ok (.iload_n 1, 1) := by decide +kernel
theorem dX11_four_16 : decode cX11_four 16 = .ok (.iload_n 2, 1) := by decide +kernel
theorem dX11_four_17 : decode cX11_four 17 = .ok (.ishr, 1) := by decide +kernel
theorem dX11_four_18 : decode cX11_four 18 = .ok (.i2b, 1) := by decide +kernel
theorem dX11_four_19 : decode cX11_four 19 = .ok (.bastore, 1) := by decide +kernel
theorem dX11_four_20 : decode cX11_four 20 = .ok (.aload_n 0, 1) := by decide +kernel
theorem dX11_four_21 : decode cX11_four 21 = .ok (.dup, 1) := by decide +kernel
theorem dX11_four_22 : decode cX11_four 22 = .ok (.getfield 101, 3) := by decide +kernel
theorem dX11_four_25 : decode cX11_four 25 = .ok (.iconst 1, 1) := by decide +kernel
theorem dX11_four_26 : decode cX11_four 26 = .ok (.iadd, 1) := by decide +kernel
theorem dX11_four_27 : decode cX11_four 27 = .ok (.putfield 101, 3) := by decide +kernel
theorem dX11_four_30 : decode cX11_four 30 = .ok (.iinc 2 (-8), 3) := by decide +kernel
theorem dX11_four_33 : decode cX11_four 33 = .ok (.goto (-30), 3) := by decide +kernel
theorem dX11_four_36 : decode cX11_four 36 = .ok (.return_, 1) := by decide +kernel
theorem dX11_end_0 : decode cX11_end 0 = .ok (.aload_n 0, 1) := by decide +kernel
theorem dX11_end_1 : decode cX11_end 1 = .ok (.iconst 0, 1) := by decide +kernel
theorem dX11_end_2 : decode cX11_end 2 = .ok (.putfield 94, 3) := by decide +kernel
theorem dX11_end_5 : decode cX11_end 5 = .ok (.iload_n 1, 1) := by decide +kernel
theorem dX11_end_6 : decode cX11_end 6 = .ok (.iconst 0, 1) := by decide +kernel
theorem dX11_end_7 : decode cX11_end 7 = .ok (.aload_n 0, 1) := by decide +kernel
theorem dX11_end_8 : decode cX11_end 8 = .ok (.getfield 101, 3) := by decide +kernel
theorem dX11_end_11 : decode cX11_end 11 = .ok (.invokestatic 108, 3) := by decide +kernel
theorem dX11_end_14 : decode cX11_end 14 = .ok (.ifCond .ne 5, 3) := by decide +kernel
theorem dX11_end_17 : decode cX11_end 17 = .ok (.iconst (-1), 1) := by decide +kernel
theorem dX11_end_18 : decode cX11_end 18 = .ok (.ireturn, 1) := by decide +kernel
theorem dX11_end_19 : decode cX11_end 19 = .ok (.aload_n 0, 1) := by decide +kernel
theorem dX11_end_20 : decode cX11_end 20 = .ok (.iload_n 1, 1) := by decide +kernel
theorem dX11_end_21 : decode cX11_end 21 = .ok (.putfield 101, 3) := by decide +kernel
theorem dX11_end_24 : decode cX11_end 24 = .ok (.iload_n 1, 1) := by decide +kernel
theorem dX11_end_25 : decode cX11_end 25 = .ok (.ireturn, 1) := by decide +kernel
theorem dX11_see_0 : decode cX11_see 0 = .ok (.aload_n 0, 1) := by decide +kernel
theorem dX11_see_1 : decode cX11_see 1 = .ok (.getfield 112, 3) := by decide +kernel
theorem dX11_see_4 : decode cX11_see 4 = .ok (.aload_n 0, 1) := by decide +kernel
theorem dX11_see_5 : decode cX11_see 5 = .ok (.getfield 115, 3) := by decide +kernel
theorem dX11_see_8 : decode cX11_see 8 = .ok (.if_icmp .ge 19, 3) := by decide +kernel
theorem dX11_see_11 : decode cX11_see 11 = .ok (.aload_n 0, 1) := by decide +kernel
theorem dX11_see_12 : decode cX11_see 12 = .ok (.getfield 7, 3) := by decide +kernel
theorem dX11_see_15 : decode cX11_see 15 = .ok (.aload_n 0, 1) := by decide +kernel
theorem dX11_see_16 : decode cX11_see 16 = .ok (.getfield 112, 3) := by decide +kernel
theorem dX11_see_19 : decode cX11_see 19 = .ok (.baload, 1) := by decide +kernel
theorem dX11_see_20 : decode cX11_see 20 = .ok (.sipush 255, 3) := by decide +kernel
theorem dX11_see_23 : decode cX11_see 23 = .ok (.iand, 1) := by decide +kernel
theorem dX11_see_24 : decode cX11_see 24 = .ok (.goto 4, 3) := by decide +kernel
theorem dX11_see_27 : decode cX11_see 27 = .ok (.iconst (-1), 1) := by decide +kernel
theorem dX11_see_28 : decode cX11_see 28 = .ok (.ireturn, 1) := by decide +kernel
theorem dX11_next_0 : decode cX11_next 0 = .ok (.aload_n 0, 1) := by decide +kernel
theorem dX11_next_1 : decode cX11_next 1 = .ok (.invokevirtual 118, 3) := by decide +kernel
theorem dX11_next_4 : decode cX11_next 4 = .ok (.bipush 10, 2) := by decide +kernel
theorem dX11_next_6 : decode cX11_next 6 = .ok (.if_icmp .eq 12, 3) := by decide +kernel
theorem dX11_next_9 : decode cX11_next 9 = .ok (.aload_n 0, 1) := by decide +kernel
theorem dX11_next_10 : decode cX11_next 10 = .ok (.invokevirtual 118, 3) := by decide +kernel
theorem dX11_next_13 : decode cX11_next 13 = .ok (.bipush 32, 2) := by decide +kernel
theorem dX11_next_15 : decode cX11_next 15 = .ok (.if_icmp .ne 16, 3) := by decide +kernel
theorem dX11_next_18 : decode cX11_next 18 = .ok (.aload_n 0, 1) := by decide +kernel
theorem dX11_next_19 : decode cX11_next 19 = .ok (.dup, 1) := by decide +kernel
theorem dX11_next_20 : decode cX11_next 20 = .ok (.getfield 112, 3) := by decide +kernel
theorem dX11_next_23 : decode cX11_next 23 = .ok (.iconst 1, 1) := by decide +kernel
theorem dX11_next_24 : decode cX11_next 24 = .ok (.iadd, 1) := by decide +kernel
theorem dX11_next_25 : decode cX11_next 25 = .ok (.putfield 112, 3) := by decide +kernel
theorem dX11_next_28 : decode cX11_next 28 = .ok (.goto (-28), 3) := by decide +kernel
theorem dX11_next_31 : decode cX11_next 31 = .ok (.aload_n 0, 1) := by decide +kernel
theorem dX11_next_32 : decode cX11_next 32 = .ok (.aload_n 0, 1) := by decide +kernel
theorem dX11_next_33 : decode cX11_next 33 = .ok (.getfield 112, 3) := by decide +kernel
theorem dX11_next_36 : decode cX11_next 36 = .ok (.putfield 122, 3) := by decide +kernel
theorem dX11_next_39 : decode cX11_next 39 = .ok (.aload_n 0, 1) := by decide +kernel
theorem dX11_next_40 : decode cX11_next 40 = .ok (.invokevirtual 118, 3) := by decide +kernel
theorem dX11_next_43 : decode cX11_next 43 = .ok (.istore_n 1, 1) := by decide +kernel
theorem dX11_next_44 : decode cX11_next 44 = .ok (.aload_n 0, 1) := by decide +kernel
theorem dX11_next_45 : decode cX11_next 45 = .ok (.iload_n 1, 1) := by decide +kernel
theorem dX11_next_46 : decode cX11_next 46 = .ok (.putfield 125, 3) := by decide +kernel
theorem dX11_next_49 : decode cX11_next 49 = .ok (.aload_n 0, 1) := by decide +kernel
theorem dX11_next_50 : decode cX11_next 50 = .ok (.lconst 0, 1) := by decide +kernel
theorem dX11_next_51 : decode cX11_next 51 = .ok (.putfield 128, 3) := by decide +kernel
theorem dX11_next_54 : decode cX11_next 54 = .ok (.iload_n 1, 1) := by decide +kernel
theorem dX11_next_55 : decode cX11_next 55 = .ok (.ifCond .ge 11, 3) := by decide +kernel
theorem dX11_next_58 : decode cX11_next 58 = .ok (.aload_n 0, 1) := by decide +kernel
theorem dX11_next_59 : decode cX11_next 59 = .ok (.iconst 0, 1) := by decide +kernel
theorem dX11_next_60 : decode cX11_next 60 = .ok (.putfield 132, 3) := by decide +kernel
theorem dX11_next_63 : decode cX11_next 63 = .ok (.goto 240, 3) := by decide +kernel
theorem dX11_next_66 : decode cX11_next 66 = .ok (.iload_n 1, 1) := by decide +kernel
theorem dX11_next_67 : decode cX11_next 67 = .ok (.bipush 97, 2) := by decide +kernel
theorem dX11_next_69 : decode cX11_next 69 = .ok (.bipush 122, 2) := by decide +kernel
theorem dX11_next_71 : decode cX11_next 71 = .ok (.invokestatic 108, 3) := by decide +kernel
theorem dX11_next_74 : decode cX11_next 74 = .ok (.ifCond .eq 78, 3) := by decide +kernel
theorem dX11_next_77 : decode cX11_next 77 = .ok (.iconst 0, 1) := by decide +kernel
theorem dX11_next_78 : decode cX11_next 78 = .ok (.istore_n 2, 1) := by decide +kernel
theorem dX11_next_79 : decode cX11_next 79 = .ok (.aload_n 0, 1) := by decide +kernel
theorem dX11_next_80 : decode cX11_next 80 = .ok (.invokevirtual 118, 3) := by decide +kernel
theorem dX11_next_83 : decode cX11_next 83 = .ok (.bipush 97, 2) := by decide +kernel
theorem dX11_next_85 : decode cX11_next 85 = .ok (.bipush 122, 2) := by decide +kernel
theorem dX11_next_87 : decode cX11_next 87 = .ok (.invokestatic 108, 3) := by decide +kernel
theorem dX11_next_90 : decode cX11_next 90 = .ok (.ifCond .eq 36, 3) := by decide +kernel
theorem dX11_next_93 : decode cX11_next 93 = .ok (.aload_n 0, 1) := by decide +kernel
theorem dX11_next_94 : decode cX11_next 94 = .ok (.aload_n 0, 1) := by decide +kernel
theorem dX11_next_95 : decode cX11_next 95 = .ok (.getfield 128, 3) := by decide +kernel
theorem dX11_next_98 : decode cX11_next 98 = .ok (.bipush 8, 2) := by decide +kernel
theorem dX11_next_100 : decode cX11_next 100 = .ok (.lshl, 1) := by decide +kernel
theorem dX11_next_101 : decode cX11_next 101 = .ok (.aload_n 0, 1) := by decide +kernel
theorem dX11_next_102 : decode cX11_next 102 = .ok (.invokevirtual 118, 3) := by decide +kernel
theorem dX11_next_105 : decode cX11_next 105 = .ok (.i2l, 1) := by decide +kernel
theorem dX11_next_106 : decode cX11_next 106 = .ok (.lor, 1) := by decide +kernel
theorem dX11_next_107 : decode cX11_next 107 = .ok (.putfield 128, 3) := by decide +kernel
theorem dX11_next_110 : decode cX11_next 110 = .ok (.aload_n 0, 1) := by decide +kernel
theorem dX11_next_111 : decode cX11_next 111 = .ok (.dup, 1) := by decide +kernel
theorem dX11_next_112 : decode cX11_next 112 = .ok (.getfield 112, 3) := by decide +kernel
theorem dX11_next_115 : decode cX11_next 115 = .ok (.iconst 1, 1) := by decide +kernel
theorem dX11_next_116 : decode cX11_next 116 = .ok (.iadd, 1) := by decide +kernel
theorem dX11_next_117 : decode cX11_next 117 = .ok (.putfield 112, 3) := by decide +kernel
theorem dX11_next_120 : decode cX11_next 120 = .ok (.iinc 2 1, 3) := by decide +kernel
theorem dX11_next_123 : decode cX11_next 123 = .ok (.goto (-44), 3) := by decide +kernel
theorem dX11_next_126 : decode cX11_next 126 = .ok (.aload_n 0, 1) := by decide +kernel
theorem dX11_next_127 : decode cX11_next 127 = .ok (.iload_n 2, 1) := by decide +kernel
theorem dX11_next_128 : decode cX11_next 128 = .ok (.bipush 8, 2) := by decide +kernel
theorem dX11_next_130 : decode cX11_next 130 = .ok (.if_icmp .le 7, 3) := by decide +kernel
theorem dX11_next_133 : decode cX11_next 133 = .ok (.lconst 0, 1) := by decide +kernel
theorem dX11_next_134 : decode cX11_next 134 = .ok (.goto 7, 3) := by decide +kernel
theorem dX11_next_137 : decode cX11_next 137 = .ok (.aload_n 0, 1) := by decide +kernel
theorem dX11_next_138 : decode cX11_next 138 = .ok (.getfield 128, 3) := by decide +kernel
theorem dX11_next_141 : decode cX11_next 141 = .ok (.putfield 128, 3) := by decide +kernel
theorem dX11_next_144 : decode cX11_next 144 = .ok (.aload_n 0, 1) := by decide +kernel
theorem dX11_next_145 : decode cX11_next 145 = .ok (.iconst 2, 1) := by decide +kernel
theorem dX11_next_146 : decode cX11_next 146 = .ok (.putfield 132, 3) := by decide +kernel
theorem dX11_next_149 : decode cX11_next 149 = .ok (.goto 154, 3) := by decide +kernel
theorem dX11_next_152 : decode cX11_next 152 = .ok (.iload_n 1, 1) := by decide +kernel
theorem dX11_next_153 : decode cX11_next 153 = .ok (.bipush 48, 2) := by decide +kernel
theorem dX11_next_155 : decode cX11_next 155 = .ok (.bipush 57, 2) := by decide +kernel
theorem dX11_next_157 : decode cX11_next 157 = .ok (.invokestatic 108, 3) := by decide +kernel
theorem dX11_next_160 : decode cX11_next 160 = .ok (.ifCond .eq 88, 3) := by decide +kernel
theorem dX11_next_163 : decode cX11_next 163 = .ok (.iconst 0, 1) := by decide +kernel
theorem dX11_next_164 : decode cX11_next 164 = .ok (.istore_n 2, 1) := by decide +kernel
theorem dX11_next_165 : decode cX11_next 165 = .ok (.aload_n 0, 1) := by decide +kernel
theorem dX11_next_166 : decode cX11_next 166 = .ok (.iconst 0, 1) := by decide +kernel
theorem dX11_next_167 : decode cX11_next 167 = .ok (.putfield 125, 3) := by decide +kernel
theorem dX11_next_170 : decode cX11_next 170 = .ok (.aload_n 0, 1) := by decide +kernel
theorem dX11_next_171 : decode cX11_next 171 = .ok (.invokevirtual 118, 3) := by decide +kernel
theorem dX11_next_174 : decode cX11_next 174 = .ok (.bipush 48, 2) := by decide +kernel
theorem dX11_next_176 : decode cX11_next 176 = .ok (.bipush 57, 2) := by decide +kernel
theorem dX11_next_178 : decode cX11_next 178 = .ok (.invokestatic 108, 3) := by decide +kernel
theorem dX11_next_181 : decode cX11_next 181 = .ok (.ifCond .eq 50, 3) := by decide +kernel
theorem dX11_next_184 : decode cX11_next 184 = .ok (.aload_n 0, 1) := by decide +kernel
theorem dX11_next_185 : decode cX11_next 185 = .ok (.iload_n 2, 1) := by decide +kernel
theorem dX11_next_186 : decode cX11_next 186 = .ok (.iconst 3, 1) := by decide +kernel
theorem dX11_next_187 : decode cX11_next 187 = .ok (.if_icmp .ge 21, 3) := by decide +kernel
theorem dX11_next_190 : decode cX11_next 190 = .ok (.bipush 10, 2) := by decide +kernel
theorem dX11_next_192 : decode cX11_next 192 = .ok (.aload_n 0, 1) := by decide +kernel
theorem dX11_next_193 : decode cX11_next 193 = .ok (.getfield 125, 3) := by decide +kernel
theorem dX11_next_196 : decode cX11_next 196 = .ok (.imul, 1) := by decide +kernel
theorem dX11_next_197 : decode cX11_next 197 = .ok (.aload_n 0, 1) := by decide +kernel
theorem dX11_next_198 : decode cX11_next 198 = .ok (.invokevirtual 118, 3) := by decide +kernel
theorem dX11_next_201 : decode cX11_next 201 = .ok (.iadd, 1) := by decide +kernel
theorem dX11_next_202 : decode cX11_next 202 = .ok (.bipush 48, 2) := by decide +kernel
theorem dX11_next_204 : decode cX11_next 204 = .ok (.isub, 1) := by decide +kernel
theorem dX11_next_205 : decode cX11_next 205 = .ok (.goto 7, 3) := by decide +kernel
theorem dX11_next_208 : decode cX11_next 208 = .ok (.aload_n 0, 1) := by decide +kernel
theorem dX11_next_209 : decode cX11_next 209 = .ok (.getfield 125, 3) := by decide +kernel
theorem dX11_next_212 : decode cX11_next 212 = .ok (.putfield 125, 3) := by decide +kernel
theorem dX11_next_215 : decode cX11_next 215 = .ok (.aload_n 0, 1) := by decide +kernel
theorem dX11_next_216 : decode cX11_next 216 = .ok (.dup, 1) := by decide +kernel
theorem dX11_next_217 : decode cX11_next 217 = .ok (.getfield 112, 3) := by decide +kernel
theorem dX11_next_220 : decode cX11_next 220 = .ok (.iconst 1, 1) := by decide +kernel
theorem dX11_next_221 : decode cX11_next 221 = .ok (.iadd, 1) := by decide +kernel
theorem dX11_next_222 : decode cX11_next 222 = .ok (.putfield 112, 3) := by decide +kernel
theorem dX11_next_225 : decode cX11_next 225 = .ok (.iinc 2 1, 3) := by decide +kernel
theorem dX11_next_228 : decode cX11_next 228 = .ok (.goto (-58), 3) := by decide +kernel
theorem dX11_next_231 : decode cX11_next 231 = .ok (.aload_n 0, 1) := by decide +kernel
theorem dX11_next_232 : decode cX11_next 232 = .ok (.iload_n 2, 1) := by decide +kernel
theorem dX11_next_233 : decode cX11_next 233 = .ok (.iconst 3, 1) := by decide +kernel
theorem dX11_next_234 : decode cX11_next 234 = .ok (.if_icmp .le 7, 3) := by decide +kernel
theorem dX11_next_237 : decode cX11_next 237 = .ok (.iconst 1, 1) := by decide +kernel
theorem dX11_next_238 : decode cX11_next 238 = .ok (.goto 4, 3) := by decide +kernel
theorem dX11_next_241 : decode cX11_next 241 = .ok (.iconst 3, 1) := by decide +kernel
theorem dX11_next_242 : decode cX11_next 242 = .ok (.putfield 132, 3) := by decide +kernel
theorem dX11_next_245 : decode cX11_next 245 = .ok (.goto 58, 3) := by decide +kernel
theorem dX11_next_248 : decode cX11_next 248 = .ok (.aload_n 0, 1) := by decide +kernel
theorem dX11_next_249 : decode cX11_next 249 = .ok (.dup, 1) := by decide +kernel
theorem dX11_next_250 : decode cX11_next 250 = .ok (.getfield 112, 3) := by decide +kernel
theorem dX11_next_253 : decode cX11_next 253 = .ok (.iconst 1, 1) := by decide +kernel
theorem dX11_next_254 : decode cX11_next 254 = .ok (.iadd, 1) := by decide +kernel
theorem dX11_next_255 : decode cX11_next 255 = .ok (.putfield 112, 3) := by decide +kernel
theorem dX11_next_258 : decode cX11_next 258 = .ok (.aload_n 0, 1) := by decide +kernel
theorem dX11_next_259 : decode cX11_next 259 = .ok (.iload_n 1, 1) := by decide +kernel
theorem dX11_next_260 : decode cX11_next 260 = .ok (.bipush 59, 2) := by decide +kernel
theorem dX11_next_262 : decode cX11_next 262 = .ok (.if_icmp .eq 33, 3) := by decide +kernel
theorem dX11_next_265 : decode cX11_next 265 = .ok (.iload_n 1, 1) := by decide +kernel
theorem dX11_next_266 : decode cX11_next 266 = .ok (.bipush 40, 2) := by decide +kernel
theorem dX11_next_268 : decode cX11_next 268 = .ok (.if_icmp .eq 27, 3) := by decide +kernel
theorem dX11_next_271 : decode cX11_next 271 = .ok (.iload_n 1, 1) := by decide +kernel
theorem dX11_next_272 : decode cX11_next 272 = .ok (.bipush 41, 2) := by decide +kernel
theorem dX11_next_274 : decode cX11_next 274 = .ok (.if_icmp .eq 21, 3) := by decide +kernel
theorem dX11_next_277 : decode cX11_next 277 = .ok (.iload_n 1, 1) := by decide +kernel
theorem dX11_next_278 : decode cX11_next 278 = .ok (.bipush 60, 2) := by decide +kernel
theorem dX11_next_280 : decode cX11_next 280 = .ok (.if_icmp .eq 15, 3) := by decide +kernel
theorem dX11_next_283 : decode cX11_next 283 = .ok (.iload_n 1, 1) := by decide +kernel
theorem dX11_next_284 : decode cX11_next 284 = .ok (.bipush 62, 2) := by decide +kernel
theorem dX11_next_286 : decode cX11_next 286 = .ok (.if_icmp .eq 9, 3) := by decide +kernel
theorem dX11_next_289 : decode cX11_next 289 = .ok (.iload_n 1, 1) := by decide +kernel
theorem dX11_next_290 : decode cX11_next 290 = .ok (.bipush 61, 2) := by decide +kernel
theorem dX11_next_292 : decode cX11_next 292 = .ok (.if_icmp .ne 7, 3) := by decide +kernel
theorem dX11_next_295 : decode cX11_next 295 = .ok (.iconst 4, 1) := by decide +kernel
theorem dX11_next_296 : decode cX11_next 296 = .ok (.goto 4, 3) := by decide +kernel
theorem dX11_next_299 : decode cX11_next 299 = .ok (.iconst 1, 1) := by decide +kernel
theorem dX11_next_300 : decode cX11_next 300 = .ok (.putfield 132, 3) := by decide +kernel
theorem dX11_next_303 : decode cX11_next 303 = .ok (.return_, 1) := by decide +kernel
theorem dX11_isWord_0 : decode cX11_isWord 0 = .ok (.aload_n 0, 1) := by decide +kernel
theorem dX11_isWord_1 : decode cX11_isWord 1 = .ok (.getfield 132, 3) := by decide +kernel
theorem dX11_isWord_4 : decode cX11_isWord 4 = .ok (.iconst 2, 1) := by decide +kernel
theorem dX11_isWord_5 : decode cX11_isWord 5 = .ok (.if_icmp .ne 16, 3) := by decide +kernel
theorem dX11_isWord_8 : decode cX11_isWord 8 = .ok (.aload_n 0, 1) := by decide +kernel
theorem dX11_isWord_9 : decode cX11_isWord 9 = .ok (.getfield 128, 3) := by decide +kernel
theorem dX11_isWord_12 : decode cX11_isWord 12 = .ok (.lload_n 1, 1) := by decide +kernel
theorem dX11_isWord_13 : decode cX11_isWord 13 = .ok (.lcmp, 1) := by decide +kernel
theorem dX11_isWord_14 : decode cX11_isWord 14 = .ok (.ifCond .ne 7, 3) := by decide +kernel
theorem dX11_isWord_17 : decode cX11_isWord 17 = .ok (.iconst 1, 1) := by decide +kernel
theorem dX11_isWord_18 : decode cX11_isWord 18 = .ok (.goto 4, 3) := by decide +kernel
theorem dX11_isWord_21 : decode cX11_isWord 21 = .ok (.iconst 0, 1) := by decide +kernel
theorem dX11_isWord_22 : decode cX11_isWord 22 = .ok (.ireturn, 1) := by decide +kernel
theorem dX11_isSign_0 : decode cX11_isSign 0 = .ok (.aload_n 0, 1) := by decide +kernel
theorem dX11_isSign_1 : decode cX11_isSign 1 = .ok (.getfield 132, 3) := by decide +kernel
theorem dX11_isSign_4 : decode cX11_isSign 4 = .ok (.iconst 4, 1) := by decide +kernel
theorem dX11_isSign_5 : decode cX11_isSign 5 = .ok (.if_icmp .ne 15, 3) := by decide +kernel
theorem dX11_isSign_8 : decode cX11_isSign 8 = .ok (.aload_n 0, 1) := by decide +kernel
theorem dX11_isSign_9 : decode cX11_isSign 9 = .ok (.getfield 125, 3) := by decide +kernel
theorem dX11_isSign_12 : decode cX11_isSign 12 = .ok (.iload_n 1, 1) := by decide +kernel
theorem dX11_isSign_13 : decode cX11_isSign 13 = .ok (.if_icmp .ne 7, 3) := by decide +kernel
theorem dX11_isSign_16 : decode cX11_isSign 16 = .ok (.iconst 1, 1) := by decide +kernel
theorem dX11_isSign_17 : decode cX11_isSign 17 = .ok (.goto 4, 3) := by decide +kernel
theorem dX11_isSign_20 : decode cX11_isSign 20 = .ok (.iconst 0, 1) := by decide +kernel
theorem dX11_isSign_21 : decode cX11_isSign 21 = .ok (.ireturn, 1) := by decide +kernel
theorem dX11_wrong_0 : decode cX11_wrong 0 = .ok (.aload_n 0, 1) := by decide +kernel
theorem dX11_wrong_1 : decode cX11_wrong 1 = .ok (.iconst 1, 1) := by decide +kernel
theorem dX11_wrong_2 : decode cX11_wrong 2 = .ok (.putfield 135, 3) := by decide +kernel
theorem dX11_wrong_5 : decode cX11_wrong 5 = .ok (.aload_n 0, 1) := by decide +kernel
theorem dX11_wrong_6 : decode cX11_wrong 6 = .ok (.aload_n 0, 1) := by decide +kernel
theorem dX11_wrong_7 : decode cX11_wrong 7 = .ok (.getfield 122, 3) := by decide +kernel
theorem dX11_wrong_10 : decode cX11_wrong 10 = .ok (.putfield 59, 3) := by decide +kernel
theorem dX11_wrong_13 : decode cX11_wrong 13 = .ok (.iconst 0, 1) := by decide +kernel
theorem dX11_wrong_14 : decode cX11_wrong 14 = .ok (.ireturn, 1) := by decide +kernel
theorem dX11_note_0 : decode cX11_note 0 = .ok (.aload_n 0, 1) := by decide +kernel
theorem dX11_note_1 : decode cX11_note 1 = .ok (.getfield 138, 3) := by decide +kernel
theorem dX11_note_4 : decode cX11_note 4 = .ok (.ifCond .ne 13, 3) := by decide +kernel
theorem dX11_note_7 : decode cX11_note 7 = .ok (.aload_n 0, 1) := by decide +kernel
theorem dX11_note_8 : decode cX11_note 8 = .ok (.iload_n 1, 1) := by decide +kernel
theorem dX11_note_9 : decode cX11_note 9 = .ok (.putfield 138, 3) := by decide +kernel
theorem dX11_note_12 : decode cX11_note 12 = .ok (.aload_n 0, 1) := by decide +kernel
theorem dX11_note_13 : decode cX11_note 13 = .ok (.iload_n 2, 1) := by decide +kernel
theorem dX11_note_14 : decode cX11_note 14 = .ok (.putfield 141, 3) := by decide +kernel
theorem dX11_note_17 : decode cX11_note 17 = .ok (.return_, 1) := by decide +kernel
theorem dX11_need_0 : decode cX11_need 0 = .ok (.aload_n 0, 1) := by decide +kernel
theorem dX11_need_1 : decode cX11_need 1 = .ok (.iload_n 1, 1) := by decide +kernel
theorem dX11_need_2 : decode cX11_need 2 = .ok (.invokevirtual 144, 3) := by decide +kernel
theorem dX11_need_5 : decode cX11_need 5 = .ok (.ifCond .ne 8, 3) := by decide +kernel
theorem dX11_need_8 : decode cX11_need 8 = .ok (.aload_n 0, 1) := by decide +kernel
theorem dX11_need_9 : decode cX11_need 9 = .ok (.invokevirtual 148, 3) := by decide +kernel
theorem dX11_need_12 : decode cX11_need 12 = .ok (.ireturn, 1) := by decide +kernel
theorem dX11_need_13 : decode cX11_need 13 = .ok (.aload_n 0, 1) := by decide +kernel
theorem dX11_need_14 : decode cX11_need 14 = .ok (.invokevirtual 152, 3) := by decide +kernel
theorem dX11_need_17 : decode cX11_need 17 = .ok (.iconst 1, 1) := by decide +kernel
theorem dX11_need_18 : decode cX11_need 18 = .ok (.ireturn, 1) := by decide +kernel
theorem dX11_number_0 : decode cX11_number 0 = .ok (.aload_n 0, 1) := by decide +kernel
theorem dX11_number_1 : decode cX11_number 1 = .ok (.getfield 132, 3) := by decide +kernel
theorem dX11_number_4 : decode cX11_number 4 = .ok (.iconst 3, 1) := by decide +kernel
theorem dX11_number_5 : decode cX11_number 5 = .ok (.if_icmp .eq 8, 3) := by decide +kernel
theorem dX11_number_8 : decode cX11_number 8 = .ok (.aload_n 0, 1) := by decide +kernel
theorem dX11_number_9 : decode cX11_number 9 = .ok (.invokevirtual 148, 3) := by decide +kernel
theorem dX11_number_12 : decode cX11_number 12 = .ok (.ireturn, 1) := by decide +kernel
theorem dX11_number_13 : decode cX11_number 13 = .ok (.aload_n 0, 1) := by decide +kernel
theorem dX11_number_14 : decode cX11_number 14 = .ok (.aload_n 0, 1) := by decide +kernel
theorem dX11_number_15 : decode cX11_number 15 = .ok (.getfield 125, 3) := by decide +kernel
theorem dX11_number_18 : decode cX11_number 18 = .ok (.putfield 155, 3) := by decide +kernel
theorem dX11_number_21 : decode cX11_number 21 = .ok (.aload_n 0, 1) := by decide +kernel
theorem dX11_number_22 : decode cX11_number 22 = .ok (.getfield 155, 3) := by decide +kernel
theorem dX11_number_25 : decode cX11_number 25 = .ok (.iload_n 1, 1) := by decide +kernel
theorem dX11_number_26 : decode cX11_number 26 = .ok (.if_icmp .le 12, 3) := by decide +kernel
theorem dX11_number_29 : decode cX11_number 29 = .ok (.aload_n 0, 1) := by decide +kernel
theorem dX11_number_30 : decode cX11_number 30 = .ok (.iconst 2, 1) := by decide +kernel
theorem dX11_number_31 : decode cX11_number 31 = .ok (.aload_n 0, 1) := by decide +kernel
theorem dX11_number_32 : decode cX11_number 32 = .ok (.getfield 122, 3) := by decide +kernel
theorem dX11_number_35 : decode cX11_number 35 = .ok (.invokevirtual 158, 3) := by decide +kernel
theorem dX11_number_38 : decode cX11_number 38 = .ok (.aload_n 0, 1) := by decide +kernel
theorem dX11_number_39 : decode cX11_number 39 = .ok (.invokevirtual 152, 3) := by decide +kernel
theorem dX11_number_42 : decode cX11_number 42 = .ok (.iconst 1, 1) := by decide +kernel
theorem dX11_number_43 : decode cX11_number 43 = .ok (.ireturn, 1) := by decide +kernel
theorem dX11_put_0 : decode cX11_put 0 = .ok (.aload_n 0, 1) := by decide +kernel
theorem dX11_put_1 : decode cX11_put 1 = .ok (.getfield 66, 3) := by decide +kernel
theorem dX11_put_4 : decode cX11_put 4 = .ok (.aload_n 0, 1) := by decide +kernel
theorem dX11_put_5 : decode cX11_put 5 = .ok (.getfield 162, 3) := by decide +kernel
theorem dX11_put_8 : decode cX11_put 8 = .ok (.iload_n 1, 1) := by decide +kernel
theorem dX11_put_9 : decode cX11_put 9 = .ok (.i2b, 1) := by decide +kernel
theorem dX11_put_10 : decode cX11_put 10 = .ok (.bastore, 1) := by decide +kernel
theorem dX11_put_11 : decode cX11_put 11 = .ok (.aload_n 0, 1) := by decide +kernel
theorem dX11_put_12 : decode cX11_put 12 = .ok (.getfield 69, 3) := by decide +kernel
theorem dX11_put_15 : decode cX11_put 15 = .ok (.aload_n 0, 1) := by decide +kernel
theorem dX11_put_16 : decode cX11_put 16 = .ok (.getfield 162, 3) := by decide +kernel
theorem dX11_put_19 : decode cX11_put 19 = .ok (.iload_n 2, 1) := by decide +kernel
theorem dX11_put_20 : decode cX11_put 20 = .ok (.iastore, 1) := by decide +kernel
theorem dX11_put_21 : decode cX11_put 21 = .ok (.aload_n 0, 1) := by decide +kernel
theorem dX11_put_22 : decode cX11_put 22 = .ok (.dup, 1) := by decide +kernel
theorem dX11_put_23 : decode cX11_put 23 = .ok (.getfield 162, 3) := by decide +kernel
theorem dX11_put_26 : decode cX11_put 26 = .ok (.iconst 1, 1) := by decide +kernel
theorem dX11_put_27 : decode cX11_put 27 = .ok (.iadd, 1) := by decide +kernel
theorem dX11_put_28 : decode cX11_put 28 = .ok (.putfield 162, 3) := by decide +kernel
theorem dX11_put_31 : decode cX11_put 31 = .ok (.return_, 1) := by decide +kernel
theorem dX11_beginning_0 : decode cX11_beginning 0 = .ok (.aload_n 0, 1) := by decide +kernel
theorem dX11_beginning_1 : decode cX11_beginning 1 = .ok (.iconst 0, 1) := by decide +kernel
theorem dX11_beginning_2 : decode cX11_beginning 2 = .ok (.putfield 165, 3) := by decide +kernel
theorem dX11_beginning_5 : decode cX11_beginning 5 = .ok (.aload_n 0, 1) := by decide +kernel
theorem dX11_beginning_6 : decode cX11_beginning 6 = .ok (.ldc2_w 168, 3) := by decide +kernel
theorem dX11_beginning_9 : decode cX11_beginning 9 = .ok (.invokevirtual 170, 3) := by decide +kernel
theorem dX11_beginning_12 : decode cX11_beginning 12 = .ok (.ifCond .ne 5, 3) := by decide +kernel
theorem dX11_beginning_15 : decode cX11_beginning 15 = .ok (.iconst 1, 1) := by decide +kernel
theorem dX11_beginning_16 : decode cX11_beginning 16 = .ok (.ireturn, 1) := by decide +kernel
theorem dX11_beginning_17 : decode cX11_beginning 17 = .ok (.aload_n 0, 1) := by decide +kernel
theorem dX11_beginning_18 : decode cX11_beginning 18 = .ok (.invokevirtual 152, 3) := by decide +kernel
theorem dX11_beginning_21 : decode cX11_beginning 21 = .ok (.aload_n 0, 1) := by decide +kernel
theorem dX11_beginning_22 : decode cX11_beginning 22 = .ok (.aload_n 0, 1) := by decide +kernel
theorem dX11_beginning_23 : decode cX11_beginning 23 = .ok (.ldc2_w 174, 3) := by decide +kernel
theorem dX11_beginning_26 : decode cX11_beginning 26 = .ok (.invokevirtual 170, 3) := by decide +kernel
theorem dX11_beginning_29 : decode cX11_beginning 29 = .ok (.ifCond .eq 7, 3) := by decide +kernel
theorem dX11_beginning_32 : decode cX11_beginning 32 = .ok (.iconst 0, 1) := by decide +kernel
theorem dX11_beginning_33 : decode cX11_beginning 33 = .ok (.goto 46, 3) := by decide +kernel
theorem dX11_beginning_36 : decode cX11_beginning 36 = .ok (.aload_n 0, 1) := by decide +kernel
theorem dX11_beginning_37 : decode cX11_beginning 37 = .ok (.ldc2_w 176, 3) := by decide +kernel
theorem dX11_beginning_40 : decode cX11_beginning 40 = .ok (.invokevirtual 170, 3) := by decide +kernel
theorem dX11_beginning_43 : decode cX11_beginning 43 = .ok (.ifCond .eq 7, 3) := by decide +kernel
theorem dX11_beginning_46 : decode cX11_beginning 46 = .ok (.iconst 1, 1) := by decide +kernel
theorem dX11_beginning_47 : decode cX11_beginning 47 = .ok (.goto 32, 3) := by decide +kernel
theorem dX11_beginning_50 : decode cX11_beginning 50 = .ok (.aload_n 0, 1) := by decide +kernel
theorem dX11_beginning_51 : decode cX11_beginning 51 = .ok (.ldc2_w 178, 3) := by decide +kernel
theorem dX11_beginning_54 : decode cX11_beginning 54 = .ok (.invokevirtual 170, 3) := by decide +kernel
theorem dX11_beginning_57 : decode cX11_beginning 57 = .ok (.ifCond .eq 7, 3) := by decide +kernel
theorem dX11_beginning_60 : decode cX11_beginning 60 = .ok (.iconst 2, 1) := by decide +kernel
theorem dX11_beginning_61 : decode cX11_beginning 61 = .ok (.goto 18, 3) := by decide +kernel
theorem dX11_beginning_64 : decode cX11_beginning 64 = .ok (.aload_n 0, 1) := by decide +kernel
theorem dX11_beginning_65 : decode cX11_beginning 65 = .ok (.ldc2_w 180, 3) := by decide +kernel
theorem dX11_beginning_68 : decode cX11_beginning 68 = .ok (.invokevirtual 170, 3) := by decide +kernel
theorem dX11_beginning_71 : decode cX11_beginning 71 = .ok (.ifCond .eq 7, 3) := by decide +kernel
theorem dX11_beginning_74 : decode cX11_beginning 74 = .ok (.iconst 3, 1) := by decide +kernel
theorem dX11_beginning_75 : decode cX11_beginning 75 = .ok (.goto 4, 3) := by decide +kernel
theorem dX11_beginning_78 : decode cX11_beginning 78 = .ok (.iconst (-1), 1) := by decide +kernel
theorem dX11_beginning_79 : decode cX11_beginning 79 = .ok (.putfield 165, 3) := by decide +kernel
theorem dX11_beginning_82 : decode cX11_beginning 82 = .ok (.aload_n 0, 1) := by decide +kernel
theorem dX11_beginning_83 : decode cX11_beginning 83 = .ok (.getfield 165, 3) := by decide +kernel
theorem dX11_beginning_86 : decode cX11_beginning 86 = .ok (.iconst (-1), 1) := by decide +kernel
theorem dX11_beginning_87 : decode cX11_beginning 87 = .ok (.if_icmp .ne 8, 3) := by decide +kernel
theorem dX11_beginning_90 : decode cX11_beginning 90 = .ok (.aload_n 0, 1) := by decide +kernel
theorem dX11_beginning_91 : decode cX11_beginning 91 = .ok (.invokevirtual 148, 3) := by decide +kernel
theorem dX11_beginning_94 : decode cX11_beginning 94 = .ok (.ireturn, 1) := by decide +kernel
theorem dX11_beginning_95 : decode cX11_beginning 95 = .ok (.aload_n 0, 1) := by decide +kernel
theorem dX11_beginning_96 : decode cX11_beginning 96 = .ok (.invokevirtual 152, 3) := by decide +kernel
theorem dX11_beginning_99 : decode cX11_beginning 99 = .ok (.aload_n 0, 1) := by decide +kernel
theorem dX11_beginning_100 : decode cX11_beginning 100 = .ok (.bipush 59, 2) := by decide +kernel
theorem dX11_beginning_102 : decode cX11_beginning 102 = .ok (.invokevirtual 182, 3) := by decide +kernel
theorem dX11_beginning_105 : decode cX11_beginning 105 = .ok (.ireturn, 1) := by decide +kernel
theorem dX11_oneLine_0 : decode cX11_oneLine 0 = .ok (.aload_n 0, 1) := by decide +kernel
theorem dX11_oneLine_1 : decode cX11_oneLine 1 = .ok (.ldc2_w 180, 3) := by decide +kernel
theorem dX11_oneLine_4 : decode cX11_oneLine 4 = .ok (.invokevirtual 170, 3) := by decide +kernel
theorem dX11_oneLine_7 : decode cX11_oneLine 7 = .ok (.ifCond .ne 18, 3) := by decide +kernel
theorem dX11_oneLine_10 : decode cX11_oneLine 10 = .ok (.aload_n 0, 1) := by decide +kernel
theorem dX11_oneLine_11 : decode cX11_oneLine 11 = .ok (.ldc2_w 178, 3) := by decide +kernel
theorem dX11_oneLine_14 : decode cX11_oneLine 14 = .ok (.invokevirtual 170, 3) := by decide +kernel
theorem dX11_oneLine_17 : decode cX11_oneLine 17 = .ok (.ifCond .ne 8, 3) := by decide +kernel
theorem dX11_oneLine_20 : decode cX11_oneLine 20 = .ok (.aload_n 0, 1) := by decide +kernel
theorem dX11_oneLine_21 : decode cX11_oneLine 21 = .ok (.invokevirtual 148, 3) := by decide +kernel
theorem dX11_oneLine_24 : decode cX11_oneLine 24 = .ok (.ireturn, 1) := by decide +kernel
theorem dX11_oneLine_25 : decode cX11_oneLine 25 = .ok (.aload_n 0, 1) := by decide +kernel
theorem dX11_oneLine_26 : decode cX11_oneLine 26 = .ok (.getfield 185, 3) := by decide +kernel
theorem dX11_oneLine_29 : decode cX11_oneLine 29 = .ok (.bipush 12, 2) := by decide +kernel
theorem dX11_oneLine_31 : decode cX11_oneLine 31 = .ok (.if_icmp .ne 12, 3) := by decide +kernel
theorem dX11_oneLine_34 : decode cX11_oneLine 34 = .ok (.aload_n 0, 1) := by decide +kernel
theorem dX11_oneLine_35 : decode cX11_oneLine 35 = .ok (.iconst 3, 1) := by decide +kernel
theorem dX11_oneLine_36 : decode cX11_oneLine 36 = .ok (.aload_n 0, 1) := by decide +kernel
theorem dX11_oneLine_37 : decode cX11_oneLine 37 = .ok (.getfield 122, 3) := by decide +kernel
theorem dX11_oneLine_40 : decode cX11_oneLine 40 = .ok (.invokevirtual 158, 3) := by decide +kernel
theorem dX11_oneLine_43 : decode cX11_oneLine 43 = .ok (.bipush 8, 2) := by decide +kernel
theorem dX11_oneLine_45 : decode cX11_oneLine 45 = .ok (.aload_n 0, 1) := by decide +kernel
theorem dX11_oneLine_46 : decode cX11_oneLine 46 = .ok (.getfield 185, 3) := by decide +kernel
theorem dX11_oneLine_49 : decode cX11_oneLine 49 = .ok (.bipush 12, 2) := by decide +kernel
theorem dX11_oneLine_51 : decode cX11_oneLine 51 = .ok (.if_icmp .ge 10, 3) := by decide +kernel
theorem dX11_oneLine_54 : decode cX11_oneLine 54 = .ok (.aload_n 0, 1) := by decide +kernel
theorem dX11_oneLine_55 : decode cX11_oneLine 55 = .ok (.getfield 185, 3) := by decide +kernel
theorem dX11_oneLine_58 : decode cX11_oneLine 58 = .ok (.goto 5, 3) := by decide +kernel
theorem dX11_oneLine_61 : decode cX11_oneLine 61 = .ok (.bipush 12, 2) := by decide +kernel
theorem dX11_oneLine_63 : decode cX11_oneLine 63 = .ok (.imul, 1) := by decide +kernel
theorem dX11_oneLine_64 : decode cX11_oneLine 64 = .ok (.istore_n 1, 1) := by decide +kernel
theorem dX11_oneLine_65 : decode cX11_oneLine 65 = .ok (.aload_n 0, 1) := by decide +kernel
theorem dX11_oneLine_66 : decode cX11_oneLine 66 = .ok (.getfield 63, 3) := by decide +kernel
theorem dX11_oneLine_69 : decode cX11_oneLine 69 = .ok (.iload_n 1, 1) := by decide +kernel
theorem dX11_oneLine_70 : decode cX11_oneLine 70 = .ok (.aload_n 0, 1) := by decide +kernel
theorem dX11_oneLine_71 : decode cX11_oneLine 71 = .ok (.ldc2_w 180, 3) := by decide +kernel
theorem dX11_oneLine_74 : decode cX11_oneLine 74 = .ok (.invokevirtual 170, 3) := by decide +kernel
theorem dX11_oneLine_77 : decode cX11_oneLine 77 = .ok (.ifCond .eq 7, 3) := by decide +kernel
theorem dX11_oneLine_80 : decode cX11_oneLine 80 = .ok (.iconst 1, 1) := by decide +kernel
theorem dX11_oneLine_81 : decode cX11_oneLine 81 = .ok (.goto 4, 3) := by decide +kernel
theorem dX11_oneLine_84 : decode cX11_oneLine 84 = .ok (.iconst 0, 1) := by decide +kernel
theorem dX11_oneLine_85 : decode cX11_oneLine 85 = .ok (.iastore, 1) := by decide +kernel
theorem dX11_oneLine_86 : decode cX11_oneLine 86 = .ok (.aload_n 0, 1) := by decide +kernel
theorem dX11_oneLine_87 : decode cX11_oneLine 87 = .ok (.invokevirtual 152, 3) := by decide +kernel
theorem dX11_oneLine_90 : decode cX11_oneLine 90 = .ok (.aload_n 0, 1) := by decide +kernel
theorem dX11_oneLine_91 : decode cX11_oneLine 91 = .ok (.iload_n 1, 1) := by decide +kernel
theorem dX11_oneLine_92 : decode cX11_oneLine 92 = .ok (.invokevirtual 188, 3) := by decide +kernel
theorem dX11_oneLine_95 : decode cX11_oneLine 95 = .ok (.ifCond .eq 19, 3) := by decide +kernel
theorem dX11_oneLine_98 : decode cX11_oneLine 98 = .ok (.aload_n 0, 1) := by decide +kernel
theorem dX11_oneLine_99 : decode cX11_oneLine 99 = .ok (.iload_n 1, 1) := by decide +kernel
theorem dX11_oneLine_100 : decode cX11_oneLine 100 = .ok (.invokevirtual 191, 3) := by decide +kernel
theorem dX11_oneLine_103 : decode cX11_oneLine 103 = .ok (.ifCond .eq 11, 3) := by decide +kernel
theorem dX11_oneLine_106 : decode cX11_oneLine 106 = .ok (.aload_n 0, 1) := by decide +kernel
theorem dX11_oneLine_107 : decode cX11_oneLine 107 = .ok (.iload_n 1, 1) := by decide +kernel
theorem dX11_oneLine_108 : decode cX11_oneLine 108 = .ok (.invokevirtual 194, 3) := by decide +kernel
theorem dX11_oneLine_111 : decode cX11_oneLine 111 = .ok (.ifCond .ne 5, 3) := by decide +kernel
theorem dX11_oneLine_114 : decode cX11_oneLine 114 = .ok (.iconst 0, 1) := by decide +kernel
theorem dX11_oneLine_115 : decode cX11_oneLine 115 = .ok (.ireturn, 1) := by decide +kernel
theorem dX11_oneLine_116 : decode cX11_oneLine 116 = .ok (.aload_n 0, 1) := by decide +kernel
theorem dX11_oneLine_117 : decode cX11_oneLine 117 = .ok (.getfield 63, 3) := by decide +kernel
theorem dX11_oneLine_120 : decode cX11_oneLine 120 = .ok (.iload_n 1, 1) := by decide +kernel
theorem dX11_oneLine_121 : decode cX11_oneLine 121 = .ok (.bipush 6, 2) := by decide +kernel
theorem dX11_oneLine_123 : decode cX11_oneLine 123 = .ok (.iadd, 1) := by decide +kernel
theorem dX11_oneLine_124 : decode cX11_oneLine 124 = .ok (.iconst (-1), 1) := by decide +kernel
theorem dX11_oneLine_125 : decode cX11_oneLine 125 = .ok (.iastore, 1) := by decide +kernel
theorem dX11_oneLine_126 : decode cX11_oneLine 126 = .ok (.aload_n 0, 1) := by decide +kernel
theorem dX11_oneLine_127 : decode cX11_oneLine 127 = .ok (.ldc2_w 197, 3) := by decide +kernel
theorem dX11_oneLine_130 : decode cX11_oneLine 130 = .ok (.invokevirtual 170, 3) := by decide +kernel
theorem dX11_oneLine_133 : decode cX11_oneLine 133 = .ok (.ifCond .eq 36, 3) := by decide +kernel
theorem dX11_oneLine_136 : decode cX11_oneLine 136 = .ok (.aload_n 0, 1) := by decide +kernel
theorem dX11_oneLine_137 : decode cX11_oneLine 137 = .ok (.invokevirtual 152, 3) := by decide +kernel
theorem dX11_oneLine_140 : decode cX11_oneLine 140 = .ok (.aload_n 0, 1) := by decide +kernel
theorem dX11_oneLine_141 : decode cX11_oneLine 141 = .ok (.getfield 63, 3) := by decide +kernel
theorem dX11_oneLine_144 : decode cX11_oneLine 144 = .ok (.iload_n 1, 1) := by decide +kernel
theorem dX11_oneLine_145 : decode cX11_oneLine 145 = .ok (.bipush 6, 2) := by decide +kernel
theorem dX11_oneLine_147 : decode cX11_oneLine 147 = .ok (.iadd, 1) := by decide +kernel
theorem dX11_oneLine_148 : decode cX11_oneLine 148 = .ok (.aload_n 0, 1) := by decide +kernel
theorem dX11_oneLine_149 : decode cX11_oneLine 149 = .ok (.getfield 162, 3) := by decide +kernel
theorem dX11_oneLine_152 : decode cX11_oneLine 152 = .ok (.iastore, 1) := by decide +kernel
theorem dX11_oneLine_153 : decode cX11_oneLine 153 = .ok (.aload_n 0, 1) := by decide +kernel
theorem dX11_oneLine_154 : decode cX11_oneLine 154 = .ok (.invokevirtual 199, 3) := by decide +kernel
theorem dX11_oneLine_157 : decode cX11_oneLine 157 = .ok (.ifCond .ne 5, 3) := by decide +kernel
theorem dX11_oneLine_160 : decode cX11_oneLine 160 = .ok (.iconst 0, 1) := by decide +kernel
theorem dX11_oneLine_161 : decode cX11_oneLine 161 = .ok (.ireturn, 1) := by decide +kernel
theorem dX11_oneLine_162 : decode cX11_oneLine 162 = .ok (.aload_n 0, 1) := by decide +kernel
theorem dX11_oneLine_163 : decode cX11_oneLine 163 = .ok (.bipush 13, 2) := by decide +kernel
theorem dX11_oneLine_165 : decode cX11_oneLine 165 = .ok (.iconst 0, 1) := by decide +kernel
theorem dX11_oneLine_166 : decode cX11_oneLine 166 = .ok (.invokevirtual 202, 3) := by decide +kernel
theorem dX11_oneLine_169 : decode cX11_oneLine 169 = .ok (.aload_n 0, 1) := by decide +kernel
theorem dX11_oneLine_170 : decode cX11_oneLine 170 = .ok (.dup, 1) := by decide +kernel
theorem dX11_oneLine_171 : decode cX11_oneLine 171 = .ok (.getfield 185, 3) := by decide +kernel
theorem dX11_oneLine_174 : decode cX11_oneLine 174 = .ok (.iconst 1, 1) := by decide +kernel
theorem dX11_oneLine_175 : decode cX11_oneLine 175 = .ok (.iadd, 1) := by decide +kernel
theorem dX11_oneLine_176 : decode cX11_oneLine 176 = .ok (.putfield 185, 3) := by decide +kernel
theorem dX11_oneLine_179 : decode cX11_oneLine 179 = .ok (.aload_n 0, 1) := by decide +kernel
theorem dX11_oneLine_180 : decode cX11_oneLine 180 = .ok (.bipush 59, 2) := by decide +kernel
theorem dX11_oneLine_182 : decode cX11_oneLine 182 = .ok (.invokevirtual 182, 3) := by decide +kernel
theorem dX11_oneLine_185 : decode cX11_oneLine 185 = .ok (.ireturn, 1) := by decide +kernel
theorem dX11_who_0 : decode cX11_who 0 = .ok (.aload_n 0, 1) := by decide +kernel
theorem dX11_who_1 : decode cX11_who 1 = .ok (.ldc2_w 205, 3) := by decide +kernel
theorem dX11_who_4 : decode cX11_who 4 = .ok (.invokevirtual 170, 3) := by decide +kernel
theorem dX11_who_7 : decode cX11_who 7 = .ok (.ifCond .eq 7, 3) := by decide +kernel
theorem dX11_who_10 : decode cX11_who 10 = .ok (.iconst 0, 1) := by decide +kernel
theorem dX11_who_11 : decode cX11_who 11 = .ok (.goto 60, 3) := by decide +kernel
theorem dX11_who_14 : decode cX11_who 14 = .ok (.aload_n 0, 1) := by decide +kernel
theorem dX11_who_15 : decode cX11_who 15 = .ok (.ldc2_w 207, 3) := by decide +kernel
theorem dX11_who_18 : decode cX11_who 18 = .ok (.invokevirtual 170, 3) := by decide +kernel
theorem dX11_who_21 : decode cX11_who 21 = .ok (.ifCond .eq 7, 3) := by decide +kernel
theorem dX11_who_24 : decode cX11_who 24 = .ok (.iconst 1, 1) := by decide +kernel
theorem dX11_who_25 : decode cX11_who 25 = .ok (.goto 46, 3) := by decide +kernel
theorem dX11_who_28 : decode cX11_who 28 = .ok (.aload_n 0, 1) := by decide +kernel
theorem dX11_who_29 : decode cX11_who 29 = .ok (.ldc2_w 209, 3) := by decide +kernel
theorem dX11_who_32 : decode cX11_who 32 = .ok (.invokevirtual 170, 3) := by decide +kernel
theorem dX11_who_35 : decode cX11_who 35 = .ok (.ifCond .eq 7, 3) := by decide +kernel
theorem dX11_who_38 : decode cX11_who 38 = .ok (.iconst 2, 1) := by decide +kernel
theorem dX11_who_39 : decode cX11_who 39 = .ok (.goto 32, 3) := by decide +kernel
theorem dX11_who_42 : decode cX11_who 42 = .ok (.aload_n 0, 1) := by decide +kernel
theorem dX11_who_43 : decode cX11_who 43 = .ok (.ldc2_w 211, 3) := by decide +kernel
theorem dX11_who_46 : decode cX11_who 46 = .ok (.invokevirtual 170, 3) := by decide +kernel
theorem dX11_who_49 : decode cX11_who 49 = .ok (.ifCond .eq 7, 3) := by decide +kernel
theorem dX11_who_52 : decode cX11_who 52 = .ok (.iconst 3, 1) := by decide +kernel
theorem dX11_who_53 : decode cX11_who 53 = .ok (.goto 18, 3) := by decide +kernel
theorem dX11_who_56 : decode cX11_who 56 = .ok (.aload_n 0, 1) := by decide +kernel
theorem dX11_who_57 : decode cX11_who 57 = .ok (.ldc2_w 213, 3) := by decide +kernel
theorem dX11_who_60 : decode cX11_who 60 = .ok (.invokevirtual 170, 3) := by decide +kernel
theorem dX11_who_63 : decode cX11_who 63 = .ok (.ifCond .eq 7, 3) := by decide +kernel
theorem dX11_who_66 : decode cX11_who 66 = .ok (.iconst 4, 1) := by decide +kernel
theorem dX11_who_67 : decode cX11_who 67 = .ok (.goto 4, 3) := by decide +kernel
theorem dX11_who_70 : decode cX11_who 70 = .ok (.iconst (-1), 1) := by decide +kernel
theorem dX11_who_71 : decode cX11_who 71 = .ok (.istore_n 2, 1) := by decide +kernel
theorem dX11_who_72 : decode cX11_who 72 = .ok (.iload_n 2, 1) := by decide +kernel
theorem dX11_who_73 : decode cX11_who 73 = .ok (.iconst (-1), 1) := by decide +kernel
theorem dX11_who_74 : decode cX11_who 74 = .ok (.if_icmp .ne 8, 3) := by decide +kernel
theorem dX11_who_77 : decode cX11_who 77 = .ok (.aload_n 0, 1) := by decide +kernel
theorem dX11_who_78 : decode cX11_who 78 = .ok (.invokevirtual 148, 3) := by decide +kernel
theorem dX11_who_81 : decode cX11_who 81 = .ok (.ireturn, 1) := by decide +kernel
theorem dX11_who_82 : decode cX11_who 82 = .ok (.aload_n 0, 1) := by decide +kernel
theorem dX11_who_83 : decode cX11_who 83 = .ok (.invokevirtual 152, 3) := by decide +kernel
theorem dX11_who_86 : decode cX11_who 86 = .ok (.aload_n 0, 1) := by decide +kernel
theorem dX11_who_87 : decode cX11_who 87 = .ok (.getfield 63, 3) := by decide +kernel
theorem dX11_who_90 : decode cX11_who 90 = .ok (.iload_n 1, 1) := by decide +kernel
theorem dX11_who_91 : decode cX11_who 91 = .ok (.iconst 1, 1) := by decide +kernel
theorem dX11_who_92 : decode cX11_who 92 = .ok (.iadd, 1) := by decide +kernel
theorem dX11_who_93 : decode cX11_who 93 = .ok (.iload_n 2, 1) := by decide +kernel
theorem dX11_who_94 : decode cX11_who 94 = .ok (.iastore, 1) := by decide +kernel
theorem dX11_who_95 : decode cX11_who 95 = .ok (.aload_n 0, 1) := by decide +kernel
theorem dX11_who_96 : decode cX11_who 96 = .ok (.getfield 63, 3) := by decide +kernel
theorem dX11_who_99 : decode cX11_who 99 = .ok (.iload_n 1, 1) := by decide +kernel
theorem dX11_who_100 : decode cX11_who 100 = .ok (.iconst 2, 1) := by decide +kernel
theorem dX11_who_101 : decode cX11_who 101 = .ok (.iadd, 1) := by decide +kernel
theorem dX11_who_102 : decode cX11_who 102 = .ok (.iconst 0, 1) := by decide +kernel
theorem dX11_who_103 : decode cX11_who 103 = .ok (.iastore, 1) := by decide +kernel
theorem dX11_who_104 : decode cX11_who 104 = .ok (.iload_n 2, 1) := by decide +kernel
theorem dX11_who_105 : decode cX11_who 105 = .ok (.ifCond .eq 8, 3) := by decide +kernel
theorem dX11_who_108 : decode cX11_who 108 = .ok (.iload_n 2, 1) := by decide +kernel
theorem dX11_who_109 : decode cX11_who 109 = .ok (.iconst 3, 1) := by decide +kernel
theorem dX11_who_110 : decode cX11_who 110 = .ok (.if_icmp .ne 5, 3) := by decide +kernel
theorem dX11_who_113 : decode cX11_who 113 = .ok (.iconst 1, 1) := by decide +kernel
theorem dX11_who_114 : decode cX11_who 114 = .ok (.ireturn, 1) := by decide +kernel
theorem dX11_who_115 : decode cX11_who 115 = .ok (.aload_n 0, 1) := by decide +kernel
theorem dX11_who_116 : decode cX11_who 116 = .ok (.iload_n 2, 1) := by decide +kernel
theorem dX11_who_117 : decode cX11_who 117 = .ok (.iconst 1, 1) := by decide +kernel
theorem dX11_who_118 : decode cX11_who 118 = .ok (.if_icmp .ne 8, 3) := by decide +kernel
theorem dX11_who_121 : decode cX11_who 121 = .ok (.bipush 7, 2) := by decide +kernel
theorem dX11_who_123 : decode cX11_who 123 = .ok (.goto 14, 3) := by decide +kernel
theorem dX11_who_126 : decode cX11_who 126 = .ok (.iload_n 2, 1) := by decide +kernel
theorem dX11_who_127 : decode cX11_who 127 = .ok (.iconst 2, 1) := by decide +kernel
theorem dX11_who_128 : decode cX11_who 128 = .ok (.if_icmp .ne 8, 3) := by decide +kernel
theorem dX11_who_131 : decode cX11_who 131 = .ok (.bipush 15, 2) := by decide +kernel
theorem dX11_who_133 : decode cX11_who 133 = .ok (.goto 4, 3) := by decide +kernel
theorem dX11_who_136 : decode cX11_who 136 = .ok (.iconst 5, 1) := by decide +kernel
theorem dX11_who_137 : decode cX11_who 137 = .ok (.invokevirtual 215, 3) := by decide +kernel
theorem dX11_who_140 : decode cX11_who 140 = .ok (.istore_n 3, 1) := by decide +kernel
theorem dX11_who_141 : decode cX11_who 141 = .ok (.aload_n 0, 1) := by decide +kernel
theorem dX11_who_142 : decode cX11_who 142 = .ok (.getfield 63, 3) := by decide +kernel
theorem dX11_who_145 : decode cX11_who 145 = .ok (.iload_n 1, 1) := by decide +kernel
theorem dX11_who_146 : decode cX11_who 146 = .ok (.iconst 2, 1) := by decide +kernel
theorem dX11_who_147 : decode cX11_who 147 = .ok (.iadd, 1) := by decide +kernel
theorem dX11_who_148 : decode cX11_who 148 = .ok (.aload_n 0, 1) := by decide +kernel
theorem dX11_who_149 : decode cX11_who 149 = .ok (.getfield 155, 3) := by decide +kernel
theorem dX11_who_152 : decode cX11_who 152 = .ok (.iastore, 1) := by decide +kernel
theorem dX11_who_153 : decode cX11_who 153 = .ok (.iload_n 3, 1) := by decide +kernel
theorem dX11_who_154 : decode cX11_who 154 = .ok (.ireturn, 1) := by decide +kernel
theorem dX11_act_0 : decode cX11_act 0 = .ok (.aload_n 0, 1) := by decide +kernel
theorem dX11_act_1 : decode cX11_act 1 = .ok (.ldc2_w 218, 3) := by decide +kernel
theorem dX11_act_4 : decode cX11_act 4 = .ok (.invokevirtual 170, 3) := by decide +kernel
theorem dX11_act_7 : decode cX11_act 7 = .ok (.ifCond .eq 7, 3) := by decide +kernel
theorem dX11_act_10 : decode cX11_act 10 = .ok (.iconst 4, 1) := by decide +kernel
theorem dX11_act_11 : decode cX11_act 11 = .ok (.goto 60, 3) := by decide +kernel
theorem dX11_act_14 : decode cX11_act 14 = .ok (.aload_n 0, 1) := by decide +kernel
theorem dX11_act_15 : decode cX11_act 15 = .ok (.ldc2_w 220, 3) := by decide +kernel
theorem dX11_act_18 : decode cX11_act 18 = .ok (.invokevirtual 170, 3) := by decide +kernel
theorem dX11_act_21 : decode cX11_act 21 = .ok (.ifCond .eq 7, 3) := by decide +kernel
theorem dX11_act_24 : decode cX11_act 24 = .ok (.iconst 0, 1) := by decide +kernel
theorem dX11_act_25 : decode cX11_act 25 = .ok (.goto 46, 3) := by decide +kernel
theorem dX11_act_28 : decode cX11_act 28 = .ok (.aload_n 0, 1) := by decide +kernel
theorem dX11_act_29 : decode cX11_act 29 = .ok (.ldc2_w 222, 3) := by decide +kernel
theorem dX11_act_32 : decode cX11_act 32 = .ok (.invokevirtual 170, 3) := by decide +kernel
theorem dX11_act_35 : decode cX11_act 35 = .ok (.ifCond .eq 7, 3) := by decide +kernel
theorem dX11_act_38 : decode cX11_act 38 = .ok (.iconst 1, 1) := by decide +kernel
theorem dX11_act_39 : decode cX11_act 39 = .ok (.goto 32, 3) := by decide +kernel
theorem dX11_act_42 : decode cX11_act 42 = .ok (.aload_n 0, 1) := by decide +kernel
theorem dX11_act_43 : decode cX11_act 43 = .ok (.ldc2_w 224, 3) := by decide +kernel
theorem dX11_act_46 : decode cX11_act 46 = .ok (.invokevirtual 170, 3) := by decide +kernel
theorem dX11_act_49 : decode cX11_act 49 = .ok (.ifCond .eq 7, 3) := by decide +kernel
theorem dX11_act_52 : decode cX11_act 52 = .ok (.iconst 2, 1) := by decide +kernel
theorem dX11_act_53 : decode cX11_act 53 = .ok (.goto 18, 3) := by decide +kernel
theorem dX11_act_56 : decode cX11_act 56 = .ok (.aload_n 0, 1) := by decide +kernel
theorem dX11_act_57 : decode cX11_act 57 = .ok (.ldc2_w 226, 3) := by decide +kernel
theorem dX11_act_60 : decode cX11_act 60 = .ok (.invokevirtual 170, 3) := by decide +kernel
theorem dX11_act_63 : decode cX11_act 63 = .ok (.ifCond .eq 7, 3) := by decide +kernel
theorem dX11_act_66 : decode cX11_act 66 = .ok (.iconst 3, 1) := by decide +kernel
theorem dX11_act_67 : decode cX11_act 67 = .ok (.goto 4, 3) := by decide +kernel
theorem dX11_act_70 : decode cX11_act 70 = .ok (.iconst (-1), 1) := by decide +kernel
theorem dX11_act_71 : decode cX11_act 71 = .ok (.istore_n 2, 1) := by decide +kernel
theorem dX11_act_72 : decode cX11_act 72 = .ok (.iload_n 2, 1) := by decide +kernel
theorem dX11_act_73 : decode cX11_act 73 = .ok (.iconst (-1), 1) := by decide +kernel
theorem dX11_act_74 : decode cX11_act 74 = .ok (.if_icmp .ne 8, 3) := by decide +kernel
theorem dX11_act_77 : decode cX11_act 77 = .ok (.aload_n 0, 1) := by decide +kernel
theorem dX11_act_78 : decode cX11_act 78 = .ok (.invokevirtual 148, 3) := by decide +kernel
theorem dX11_act_81 : decode cX11_act 81 = .ok (.ireturn, 1) := by decide +kernel
theorem dX11_act_82 : decode cX11_act 82 = .ok (.aload_n 0, 1) := by decide +kernel
theorem dX11_act_83 : decode cX11_act 83 = .ok (.invokevirtual 152, 3) := by decide +kernel
theorem dX11_act_86 : decode cX11_act 86 = .ok (.aload_n 0, 1) := by decide +kernel
theorem dX11_act_87 : decode cX11_act 87 = .ok (.getfield 63, 3) := by decide +kernel
theorem dX11_act_90 : decode cX11_act 90 = .ok (.iload_n 1, 1) := by decide +kernel
theorem dX11_act_91 : decode cX11_act 91 = .ok (.iconst 3, 1) := by decide +kernel
theorem dX11_act_92 : decode cX11_act 92 = .ok (.iadd, 1) := by decide +kernel
theorem dX11_act_93 : decode cX11_act 93 = .ok (.iload_n 2, 1) := by decide +kernel
theorem dX11_act_94 : decode cX11_act 94 = .ok (.iastore, 1) := by decide +kernel
theorem dX11_act_95 : decode cX11_act 95 = .ok (.iconst 1, 1) := by decide +kernel
theorem dX11_act_96 : decode cX11_act 96 = .ok (.ireturn, 1) := by decide +kernel
theorem dX11_what_0 : decode cX11_what 0 = .ok (.aload_n 0, 1) := by decide +kernel
theorem dX11_what_1 : decode cX11_what 1 = .ok (.ldc2_w 205, 3) := by decide +kernel
theorem dX11_what_4 : decode cX11_what 4 = .ok (.invokevirtual 170, 3) := by decide +kernel
theorem dX11_what_7 : decode cX11_what 7 = .ok (.ifCond .eq 7, 3) := by decide +kernel
theorem dX11_what_10 : decode cX11_what 10 = .ok (.iconst 0, 1) := by decide +kernel
theorem dX11_what_11 : decode cX11_what 11 = .ok (.goto 46, 3) := by decide +kernel
theorem dX11_what_14 : decode cX11_what 14 = .ok (.aload_n 0, 1) := by decide +kernel
theorem dX11_what_15 : decode cX11_what 15 = .ok (.ldc2_w 228, 3) := by decide +kernel
theorem dX11_what_18 : decode cX11_what 18 = .ok (.invokevirtual 170, 3) := by decide +kernel
theorem dX11_what_21 : decode cX11_what 21 = .ok (.ifCond .eq 7, 3) := by decide +kernel
theorem dX11_what_24 : decode cX11_what 24 = .ok (.iconst 1, 1) := by decide +kernel
theorem dX11_what_25 : decode cX11_what 25 = .ok (.goto 32, 3) := by decide +kernel
theorem dX11_what_28 : decode cX11_what 28 = .ok (.aload_n 0, 1) := by decide +kernel
theorem dX11_what_29 : decode cX11_what 29 = .ok (.ldc2_w 230, 3) := by decide +kernel
theorem dX11_what_32 : decode cX11_what 32 = .ok (.invokevirtual 170, 3) := by decide +kernel
theorem dX11_what_35 : decode cX11_what 35 = .ok (.ifCond .eq 7, 3) := by decide +kernel
theorem dX11_what_38 : decode cX11_what 38 = .ok (.iconst 2, 1) := by decide +kernel
theorem dX11_what_39 : decode cX11_what 39 = .ok (.goto 18, 3) := by decide +kernel
theorem dX11_what_42 : decode cX11_what 42 = .ok (.aload_n 0, 1) := by decide +kernel
theorem dX11_what_43 : decode cX11_what 43 = .ok (.ldc2_w 232, 3) := by decide +kernel
theorem dX11_what_46 : decode cX11_what 46 = .ok (.invokevirtual 170, 3) := by decide +kernel
theorem dX11_what_49 : decode cX11_what 49 = .ok (.ifCond .eq 7, 3) := by decide +kernel
theorem dX11_what_52 : decode cX11_what 52 = .ok (.iconst 3, 1) := by decide +kernel
theorem dX11_what_53 : decode cX11_what 53 = .ok (.goto 4, 3) := by decide +kernel
theorem dX11_what_56 : decode cX11_what 56 = .ok (.iconst (-1), 1) := by decide +kernel
theorem dX11_what_57 : decode cX11_what 57 = .ok (.istore_n 2, 1) := by decide +kernel
theorem dX11_what_58 : decode cX11_what 58 = .ok (.iload_n 2, 1) := by decide +kernel
theorem dX11_what_59 : decode cX11_what 59 = .ok (.iconst (-1), 1) := by decide +kernel
theorem dX11_what_60 : decode cX11_what 60 = .ok (.if_icmp .ne 8, 3) := by decide +kernel
theorem dX11_what_63 : decode cX11_what 63 = .ok (.aload_n 0, 1) := by decide +kernel
theorem dX11_what_64 : decode cX11_what 64 = .ok (.invokevirtual 148, 3) := by decide +kernel
theorem dX11_what_67 : decode cX11_what 67 = .ok (.ireturn, 1) := by decide +kernel
theorem dX11_what_68 : decode cX11_what 68 = .ok (.aload_n 0, 1) := by decide +kernel
theorem dX11_what_69 : decode cX11_what 69 = .ok (.invokevirtual 152, 3) := by decide +kernel
theorem dX11_what_72 : decode cX11_what 72 = .ok (.aload_n 0, 1) := by decide +kernel
theorem dX11_what_73 : decode cX11_what 73 = .ok (.getfield 63, 3) := by decide +kernel
theorem dX11_what_76 : decode cX11_what 76 = .ok (.iload_n 1, 1) := by decide +kernel
theorem dX11_what_77 : decode cX11_what 77 = .ok (.iconst 4, 1) := by decide +kernel
theorem dX11_what_78 : decode cX11_what 78 = .ok (.iadd, 1) := by decide +kernel
theorem dX11_what_79 : decode cX11_what 79 = .ok (.iload_n 2, 1) := by decide +kernel
theorem dX11_what_80 : decode cX11_what 80 = .ok (.iastore, 1) := by decide +kernel
theorem dX11_what_81 : decode cX11_what 81 = .ok (.aload_n 0, 1) := by decide +kernel
theorem dX11_what_82 : decode cX11_what 82 = .ok (.getfield 63, 3) := by decide +kernel
theorem dX11_what_85 : decode cX11_what 85 = .ok (.iload_n 1, 1) := by decide +kernel
theorem dX11_what_86 : decode cX11_what 86 = .ok (.iconst 5, 1) := by decide +kernel
theorem dX11_what_87 : decode cX11_what 87 = .ok (.iadd, 1) := by decide +kernel
theorem dX11_what_88 : decode cX11_what 88 = .ok (.iconst 0, 1) := by decide +kernel
theorem dX11_what_89 : decode cX11_what 89 = .ok (.iastore, 1) := by decide +kernel
theorem dX11_what_90 : decode cX11_what 90 = .ok (.iload_n 2, 1) := by decide +kernel
theorem dX11_what_91 : decode cX11_what 91 = .ok (.ifCond .ne 5, 3) := by decide +kernel
theorem dX11_what_94 : decode cX11_what 94 = .ok (.iconst 1, 1) := by decide +kernel
theorem dX11_what_95 : decode cX11_what 95 = .ok (.ireturn, 1) := by decide +kernel
theorem dX11_what_96 : decode cX11_what 96 = .ok (.aload_n 0, 1) := by decide +kernel
theorem dX11_what_97 : decode cX11_what 97 = .ok (.iload_n 2, 1) := by decide +kernel
theorem dX11_what_98 : decode cX11_what 98 = .ok (.iconst 1, 1) := by decide +kernel
theorem dX11_what_99 : decode cX11_what 99 = .ok (.if_icmp .ne 8, 3) := by decide +kernel
theorem dX11_what_102 : decode cX11_what 102 = .ok (.bipush 7, 2) := by decide +kernel
theorem dX11_what_104 : decode cX11_what 104 = .ok (.goto 14, 3) := by decide +kernel
theorem dX11_what_107 : decode cX11_what 107 = .ok (.iload_n 2, 1) := by decide +kernel
theorem dX11_what_108 : decode cX11_what 108 = .ok (.iconst 2, 1) := by decide +kernel
theorem dX11_what_109 : decode cX11_what 109 = .ok (.if_icmp .ne 8, 3) := by decide +kernel
theorem dX11_what_112 : decode cX11_what 112 = .ok (.bipush 15, 2) := by decide +kernel
theorem dX11_what_114 : decode cX11_what 114 = .ok (.goto 4, 3) := by decide +kernel
theorem dX11_what_117 : decode cX11_what 117 = .ok (.iconst 5, 1) := by decide +kernel
theorem dX11_what_118 : decode cX11_what 118 = .ok (.invokevirtual 215, 3) := by decide +kernel
theorem dX11_what_121 : decode cX11_what 121 = .ok (.istore_n 3, 1) := by decide +kernel
theorem dX11_what_122 : decode cX11_what 122 = .ok (.aload_n 0, 1) := by decide +kernel
theorem dX11_what_123 : decode cX11_what 123 = .ok (.getfield 63, 3) := by decide +kernel
theorem dX11_what_126 : decode cX11_what 126 = .ok (.iload_n 1, 1) := by decide +kernel
theorem dX11_what_127 : decode cX11_what 127 = .ok (.iconst 5, 1) := by decide +kernel
theorem dX11_what_128 : decode cX11_what 128 = .ok (.iadd, 1) := by decide +kernel
theorem dX11_what_129 : decode cX11_what 129 = .ok (.aload_n 0, 1) := by decide +kernel
theorem dX11_what_130 : decode cX11_what 130 = .ok (.getfield 155, 3) := by decide +kernel
theorem dX11_what_133 : decode cX11_what 133 = .ok (.iastore, 1) := by decide +kernel
theorem dX11_what_134 : decode cX11_what 134 = .ok (.iload_n 3, 1) := by decide +kernel
theorem dX11_what_135 : decode cX11_what 135 = .ok (.ireturn, 1) := by decide +kernel
theorem dX11_any_0 : decode cX11_any 0 = .ok (.aload_n 0, 1) := by decide +kernel
theorem dX11_any_1 : decode cX11_any 1 = .ok (.getfield 234, 3) := by decide +kernel
theorem dX11_any_4 : decode cX11_any 4 = .ok (.bipush 6, 2) := by decide +kernel
theorem dX11_any_6 : decode cX11_any 6 = .ok (.if_icmp .ne 8, 3) := by decide +kernel
theorem dX11_any_9 : decode cX11_any 9 = .ok (.aload_n 0, 1) := by decide +kernel
theorem dX11_any_10 : decode cX11_any 10 = .ok (.invokevirtual 148, 3) := by decide +kernel
theorem dX11_any_13 : decode cX11_any 13 = .ok (.ireturn, 1) := by decide +kernel
theorem dX11_any_14 : decode cX11_any 14 = .ok (.aload_n 0, 1) := by decide +kernel
theorem dX11_any_15 : decode cX11_any 15 = .ok (.dup, 1) := by decide +kernel
theorem dX11_any_16 : decode cX11_any 16 = .ok (.getfield 234, 3) := by decide +kernel
theorem dX11_any_19 : decode cX11_any 19 = .ok (.iconst 1, 1) := by decide +kernel
theorem dX11_any_20 : decode cX11_any 20 = .ok (.iadd, 1) := by decide +kernel
theorem dX11_any_21 : decode cX11_any 21 = .ok (.putfield 234, 3) := by decide +kernel
theorem dX11_any_24 : decode cX11_any 24 = .ok (.aload_n 0, 1) := by decide +kernel
theorem dX11_any_25 : decode cX11_any 25 = .ok (.invokevirtual 237, 3) := by decide +kernel
theorem dX11_any_28 : decode cX11_any 28 = .ok (.istore_n 1, 1) := by decide +kernel
theorem dX11_any_29 : decode cX11_any 29 = .ok (.iload_n 1, 1) := by decide +kernel
theorem dX11_any_30 : decode cX11_any 30 = .ok (.ifCond .eq 32, 3) := by decide +kernel
theorem dX11_any_33 : decode cX11_any 33 = .ok (.aload_n 0, 1) := by decide +kernel
theorem dX11_any_34 : decode cX11_any 34 = .ok (.ldc2_w 240, 3) := by decide +kernel
theorem dX11_any_37 : decode cX11_any 37 = .ok (.invokevirtual 170, 3) := by decide +kernel
theorem dX11_any_40 : decode cX11_any 40 = .ok (.ifCond .eq 22, 3) := by decide +kernel
theorem dX11_any_43 : decode cX11_any 43 = .ok (.aload_n 0, 1) := by decide +kernel
theorem dX11_any_44 : decode cX11_any 44 = .ok (.invokevirtual 152, 3) := by decide +kernel
theorem dX11_any_47 : decode cX11_any 47 = .ok (.aload_n 0, 1) := by decide +kernel
theorem dX11_any_48 : decode cX11_any 48 = .ok (.invokevirtual 237, 3) := by decide +kernel
theorem dX11_any_51 : decode cX11_any 51 = .ok (.istore_n 1, 1) := by decide +kernel
theorem dX11_any_52 : decode cX11_any 52 = .ok (.aload_n 0, 1) := by decide +kernel
theorem dX11_any_53 : decode cX11_any 53 = .ok (.bipush 12, 2) := by decide +kernel
theorem dX11_any_55 : decode cX11_any 55 = .ok (.iconst 0, 1) := by decide +kernel
theorem dX11_any_56 : decode cX11_any 56 = .ok (.invokevirtual 202, 3) := by decide +kernel
theorem dX11_any_59 : decode cX11_any 59 = .ok (.goto (-30), 3) := by decide +kernel
theorem dX11_any_62 : decode cX11_any 62 = .ok (.aload_n 0, 1) := by decide +kernel
theorem dX11_any_63 : decode cX11_any 63 = .ok (.dup, 1) := by decide +kernel
theorem dX11_any_64 : decode cX11_any 64 = .ok (.getfield 234, 3) := by decide +kernel
theorem dX11_any_67 : decode cX11_any 67 = .ok (.iconst 1, 1) := by decide +kernel
theorem dX11_any_68 : decode cX11_any 68 = .ok (.isub, 1) := by decide +kernel
theorem dX11_any_69 : decode cX11_any 69 = .ok (.putfield 234, 3) := by decide +kernel
theorem dX11_any_72 : decode cX11_any 72 = .ok (.iload_n 1, 1) := by decide +kernel
theorem dX11_any_73 : decode cX11_any 73 = .ok (.ireturn, 1) := by decide +kernel
theorem dX11_both_0 : decode cX11_both 0 = .ok (.aload_n 0, 1) := by decide +kernel
theorem dX11_both_1 : decode cX11_both 1 = .ok (.invokevirtual 242, 3) := by decide +kernel
theorem dX11_both_4 : decode cX11_both 4 = .ok (.istore_n 1, 1) := by decide +kernel
theorem dX11_both_5 : decode cX11_both 5 = .ok (.iload_n 1, 1) := by decide +kernel
theorem dX11_both_6 : decode cX11_both 6 = .ok (.ifCond .eq 32, 3) := by decide +kernel
theorem dX11_both_9 : decode cX11_both 9 = .ok (.aload_n 0, 1) := by decide +kernel
theorem dX11_both_10 : decode cX11_both 10 = .ok (.ldc2_w 245, 3) := by decide +kernel
theorem dX11_both_13 : decode cX11_both 13 = .ok (.invokevirtual 170, 3) := by decide +kernel
theorem dX11_both_16 : decode cX11_both 16 = .ok (.ifCond .eq 22, 3) := by decide +kernel
theorem dX11_both_19 : decode cX11_both 19 = .ok (.aload_n 0, 1) := by decide +kernel
theorem dX11_both_20 : decode cX11_both 20 = .ok (.invokevirtual 152, 3) := by decide +kernel
theorem dX11_both_23 : decode cX11_both 23 = .ok (.aload_n 0, 1) := by decide +kernel
theorem dX11_both_24 : decode cX11_both 24 = .ok (.invokevirtual 242, 3) := by decide +kernel
theorem dX11_both_27 : decode cX11_both 27 = .ok (.istore_n 1, 1) := by decide +kernel
theorem dX11_both_28 : decode cX11_both 28 = .ok (.aload_n 0, 1) := by decide +kernel
theorem dX11_both_29 : decode cX11_both 29 = .ok (.bipush 11, 2) := by decide +kernel
theorem dX11_both_31 : decode cX11_both 31 = .ok (.iconst 0, 1) := by decide +kernel
theorem dX11_both_32 : decode cX11_both 32 = .ok (.invokevirtual 202, 3) := by decide +kernel
theorem dX11_both_35 : decode cX11_both 35 = .ok (.goto (-30), 3) := by decide +kernel
theorem dX11_both_38 : decode cX11_both 38 = .ok (.iload_n 1, 1) := by decide +kernel
theorem dX11_both_39 : decode cX11_both 39 = .ok (.ireturn, 1) := by decide +kernel
theorem dX11_negated_0 : decode cX11_negated 0 = .ok (.aload_n 0, 1) := by decide +kernel
theorem dX11_negated_1 : decode cX11_negated 1 = .ok (.ldc2_w 247, 3) := by decide +kernel
theorem dX11_negated_4 : decode cX11_negated 4 = .ok (.invokevirtual 170, 3) := by decide +kernel
theorem dX11_negated_7 : decode cX11_negated 7 = .ok (.istore_n 1, 1) := by decide +kernel
theorem dX11_negated_8 : decode cX11_negated 8 = .ok (.iload_n 1, 1) := by decide +kernel
theorem dX11_negated_9 : decode cX11_negated 9 = .ok (.ifCond .eq 7, 3) := by decide +kernel
theorem dX11_negated_12 : decode cX11_negated 12 = .ok (.aload_n 0, 1) := by decide +kernel
theorem dX11_negated_13 : decode cX11_negated 13 = .ok (.invokevirtual 152, 3) := by decide +kernel
theorem dX11_negated_16 : decode cX11_negated 16 = .ok (.aload_n 0, 1) := by decide +kernel
theorem dX11_negated_17 : decode cX11_negated 17 = .ok (.invokevirtual 249, 3) := by decide +kernel
theorem dX11_negated_20 : decode cX11_negated 20 = .ok (.istore_n 2, 1) := by decide +kernel
theorem dX11_negated_21 : decode cX11_negated 21 = .ok (.iload_n 2, 1) := by decide +kernel
theorem dX11_negated_22 : decode cX11_negated 22 = .ok (.ifCond .eq 14, 3) := by decide +kernel
theorem dX11_negated_25 : decode cX11_negated 25 = .ok (.iload_n 1, 1) := by decide +kernel
theorem dX11_negated_26 : decode cX11_negated 26 = .ok (.ifCond .eq 10, 3) := by decide +kernel
theorem dX11_negated_29 : decode cX11_negated 29 = .ok (.aload_n 0, 1) := by decide +kernel
theorem dX11_negated_30 : decode cX11_negated 30 = .ok (.bipush 10, 2) := by decide +kernel
theorem dX11_negated_32 : decode cX11_negated 32 = .ok (.iconst 0, 1) := by decide +kernel
theorem dX11_negated_33 : decode cX11_negated 33 = .ok (.invokevirtual 202, 3) := by decide +kernel
theorem dX11_negated_36 : decode cX11_negated 36 = .ok (.iload_n 2, 1) := by decide +kernel
theorem dX11_negated_37 : decode cX11_negated 37 = .ok (.ireturn, 1) := by decide +kernel
theorem dX11_part_0 : decode cX11_part 0 = .ok (.aload_n 0, 1) := by decide +kernel
theorem dX11_part_1 : decode cX11_part 1 = .ok (.bipush 40, 2) := by decide +kernel
theorem dX11_part_3 : decode cX11_part 3 = .ok (.invokevirtual 144, 3) := by decide +kernel
theorem dX11_part_6 : decode cX11_part 6 = .ok (.ifCond .eq 29, 3) := by decide +kernel
theorem dX11_part_9 : decode cX11_part 9 = .ok (.aload_n 0, 1) := by decide +kernel
theorem dX11_part_10 : decode cX11_part 10 = .ok (.invokevirtual 152, 3) := by decide +kernel
theorem dX11_part_13 : decode cX11_part 13 = .ok (.aload_n 0, 1) := by decide +kernel
theorem dX11_part_14 : decode cX11_part 14 = .ok (.invokevirtual 199, 3) := by decide +kernel
theorem dX11_part_17 : decode cX11_part 17 = .ok (.ifCond .eq 16, 3) := by decide +kernel
theorem dX11_part_20 : decode cX11_part 20 = .ok (.aload_n 0, 1) := by decide +kernel
theorem dX11_part_21 : decode cX11_part 21 = .ok (.bipush 41, 2) := by decide +kernel
theorem dX11_part_23 : decode cX11_part 23 = .ok (.invokevirtual 182, 3) := by decide +kernel
theorem dX11_part_26 : decode cX11_part 26 = .ok (.ifCond .eq 7, 3) := by decide +kernel
theorem dX11_part_29 : decode cX11_part 29 = .ok (.iconst 1, 1) := by decide +kernel
theorem dX11_part_30 : decode cX11_part 30 = .ok (.goto 4, 3) := by decide +kernel
theorem dX11_part_33 : decode cX11_part 33 = .ok (.iconst 0, 1) := by decide +kernel
theorem dX11_part_34 : decode cX11_part 34 = .ok (.ireturn, 1) := by decide +kernel
theorem dX11_part_35 : decode cX11_part 35 = .ok (.aload_n 0, 1) := by decide +kernel
theorem dX11_part_36 : decode cX11_part 36 = .ok (.ldc2_w 211, 3) := by decide +kernel
theorem dX11_part_39 : decode cX11_part 39 = .ok (.invokevirtual 170, 3) := by decide +kernel
theorem dX11_part_42 : decode cX11_part 42 = .ok (.ifCond .eq 16, 3) := by decide +kernel
theorem dX11_part_45 : decode cX11_part 45 = .ok (.aload_n 0, 1) := by decide +kernel
theorem dX11_part_46 : decode cX11_part 46 = .ok (.invokevirtual 152, 3) := by decide +kernel
theorem dX11_part_49 : decode cX11_part 49 = .ok (.aload_n 0, 1) := by decide +kernel
theorem dX11_part_50 : decode cX11_part 50 = .ok (.bipush 6, 2) := by decide +kernel
theorem dX11_part_52 : decode cX11_part 52 = .ok (.iconst 0, 1) := by decide +kernel
theorem dX11_part_53 : decode cX11_part 53 = .ok (.invokevirtual 202, 3) := by decide +kernel
theorem dX11_part_56 : decode cX11_part 56 = .ok (.iconst 1, 1) := by decide +kernel
theorem dX11_part_57 : decode cX11_part 57 = .ok (.ireturn, 1) := by decide +kernel
theorem dX11_part_58 : decode cX11_part 58 = .ok (.aload_n 0, 1) := by decide +kernel
theorem dX11_part_59 : decode cX11_part 59 = .ok (.invokevirtual 252, 3) := by decide +kernel
theorem dX11_part_62 : decode cX11_part 62 = .ok (.ifCond .ne 5, 3) := by decide +kernel
theorem dX11_part_65 : decode cX11_part 65 = .ok (.iconst 0, 1) := by decide +kernel
theorem dX11_part_66 : decode cX11_part 66 = .ok (.ireturn, 1) := by decide +kernel
theorem dX11_part_67 : decode cX11_part 67 = .ok (.aload_n 0, 1) := by decide +kernel
theorem dX11_part_68 : decode cX11_part 68 = .ok (.bipush 60, 2) := by decide +kernel
theorem dX11_part_70 : decode cX11_part 70 = .ok (.invokevirtual 144, 3) := by decide +kernel
theorem dX11_part_73 : decode cX11_part 73 = .ok (.ifCond .eq 8, 3) := by decide +kernel
theorem dX11_part_76 : decode cX11_part 76 = .ok (.bipush 7, 2) := by decide +kernel
theorem dX11_part_78 : decode cX11_part 78 = .ok (.goto 32, 3) := by decide +kernel
theorem dX11_part_81 : decode cX11_part 81 = .ok (.aload_n 0, 1) := by decide +kernel
theorem dX11_part_82 : decode cX11_part 82 = .ok (.bipush 62, 2) := by decide +kernel
theorem dX11_part_84 : decode cX11_part 84 = .ok (.invokevirtual 144, 3) := by decide +kernel
theorem dX11_part_87 : decode cX11_part 87 = .ok (.ifCond .eq 8, 3) := by decide +kernel
theorem dX11_part_90 : decode cX11_part 90 = .ok (.bipush 8, 2) := by decide +kernel
theorem dX11_part_92 : decode cX11_part 92 = .ok (.goto 18, 3) := by decide +kernel
theorem dX11_part_95 : decode cX11_part 95 = .ok (.aload_n 0, 1) := by decide +kernel
theorem dX11_part_96 : decode cX11_part 96 = .ok (.bipush 61, 2) := by decide +kernel
theorem dX11_part_98 : decode cX11_part 98 = .ok (.invokevirtual 144, 3) := by decide +kernel
theorem dX11_part_101 : decode cX11_part 101 = .ok (.ifCond .eq 8, 3) := by decide +kernel
theorem dX11_part_104 : decode cX11_part 104 = .ok (.bipush 9, 2) := by decide +kernel
theorem dX11_part_106 : decode cX11_part 106 = .ok (.goto 4, 3) := by decide +kernel
theorem dX11_part_109 : decode cX11_part 109 = .ok (.iconst (-1), 1) := by decide +kernel
theorem dX11_part_110 : decode cX11_part 110 = .ok (.istore_n 1, 1) := by decide +kernel
theorem dX11_part_111 : decode cX11_part 111 = .ok (.iload_n 1, 1) := by decide +kernel
theorem dX11_part_112 : decode cX11_part 112 = .ok (.iconst (-1), 1) := by decide +kernel
theorem dX11_part_113 : decode cX11_part 113 = .ok (.if_icmp .ne 8, 3) := by decide +kernel
theorem dX11_part_116 : decode cX11_part 116 = .ok (.aload_n 0, 1) := by decide +kernel
theorem dX11_part_117 : decode cX11_part 117 = .ok (.invokevirtual 148, 3) := by decide +kernel
theorem dX11_part_120 : decode cX11_part 120 = .ok (.ireturn, 1) := by decide +kernel
theorem dX11_part_121 : decode cX11_part 121 = .ok (.aload_n 0, 1) := by decide +kernel
theorem dX11_part_122 : decode cX11_part 122 = .ok (.invokevirtual 152, 3) := by decide +kernel
theorem dX11_part_125 : decode cX11_part 125 = .ok (.aload_n 0, 1) := by decide +kernel
theorem dX11_part_126 : decode cX11_part 126 = .ok (.invokevirtual 252, 3) := by decide +kernel
theorem dX11_part_129 : decode cX11_part 129 = .ok (.istore_n 2, 1) := by decide +kernel
theorem dX11_part_130 : decode cX11_part 130 = .ok (.aload_n 0, 1) := by decide +kernel
theorem dX11_part_131 : decode cX11_part 131 = .ok (.iload_n 1, 1) := by decide +kernel
theorem dX11_part_132 : decode cX11_part 132 = .ok (.iconst 0, 1) := by decide +kernel
theorem dX11_part_133 : decode cX11_part 133 = .ok (.invokevirtual 202, 3) := by decide +kernel
theorem dX11_part_136 : decode cX11_part 136 = .ok (.iload_n 2, 1) := by decide +kernel
theorem dX11_part_137 : decode cX11_part 137 = .ok (.ireturn, 1) := by decide +kernel
theorem dX11_term_0 : decode cX11_term 0 = .ok (.aload_n 0, 1) := by decide +kernel
theorem dX11_term_1 : decode cX11_term 1 = .ok (.getfield 132, 3) := by decide +kernel
theorem dX11_term_4 : decode cX11_term 4 = .ok (.iconst 3, 1) := by decide +kernel
theorem dX11_term_5 : decode cX11_term 5 = .ok (.if_icmp .ne 7, 3) := by decide +kernel
theorem dX11_term_8 : decode cX11_term 8 = .ok (.iconst 0, 1) := by decide +kernel
theorem dX11_term_9 : decode cX11_term 9 = .ok (.goto 74, 3) := by decide +kernel
theorem dX11_term_12 : decode cX11_term 12 = .ok (.aload_n 0, 1) := by decide +kernel
theorem dX11_term_13 : decode cX11_term 13 = .ok (.ldc2_w 255, 3) := by decide +kernel
theorem dX11_term_16 : decode cX11_term 16 = .ok (.invokevirtual 170, 3) := by decide +kernel
theorem dX11_term_19 : decode cX11_term 19 = .ok (.ifCond .eq 7, 3) := by decide +kernel
theorem dX11_term_22 : decode cX11_term 22 = .ok (.iconst 1, 1) := by decide +kernel
theorem dX11_term_23 : decode cX11_term 23 = .ok (.goto 60, 3) := by decide +kernel
theorem dX11_term_26 : decode cX11_term 26 = .ok (.aload_n 0, 1) := by decide +kernel
theorem dX11_term_27 : decode cX11_term 27 = .ok (.ldc2_w 213, 3) := by decide +kernel
theorem dX11_term_30 : decode cX11_term 30 = .ok (.invokevirtual 170, 3) := by decide +kernel
theorem dX11_term_33 : decode cX11_term 33 = .ok (.ifCond .eq 7, 3) := by decide +kernel
theorem dX11_term_36 : decode cX11_term 36 = .ok (.iconst 2, 1) := by decide +kernel
theorem dX11_term_37 : decode cX11_term 37 = .ok (.goto 46, 3) := by decide +kernel
theorem dX11_term_40 : decode cX11_term 40 = .ok (.aload_n 0, 1) := by decide +kernel
theorem dX11_term_41 : decode cX11_term 41 = .ok (.ldc2_w 232, 3) := by decide +kernel
theorem dX11_term_44 : decode cX11_term 44 = .ok (.invokevirtual 170, 3) := by decide +kernel
theorem dX11_term_47 : decode cX11_term 47 = .ok (.ifCond .eq 7, 3) := by decide +kernel
theorem dX11_term_50 : decode cX11_term 50 = .ok (.iconst 3, 1) := by decide +kernel
theorem dX11_term_51 : decode cX11_term 51 = .ok (.goto 32, 3) := by decide +kernel
theorem dX11_term_54 : decode cX11_term 54 = .ok (.aload_n 0, 1) := by decide +kernel
theorem dX11_term_55 : decode cX11_term 55 = .ok (.ldc2_w 228, 3) := by decide +kernel
theorem dX11_term_58 : decode cX11_term 58 = .ok (.invokevirtual 170, 3) := by decide +kernel
theorem dX11_term_61 : decode cX11_term 61 = .ok (.ifCond .eq 7, 3) := by decide +kernel
theorem dX11_term_64 : decode cX11_term 64 = .ok (.iconst 4, 1) := by decide +kernel
theorem dX11_term_65 : decode cX11_term 65 = .ok (.goto 18, 3) := by decide +kernel
theorem dX11_term_68 : decode cX11_term 68 = .ok (.aload_n 0, 1) := by decide +kernel
theorem dX11_term_69 : decode cX11_term 69 = .ok (.ldc2_w 257, 3) := by decide +kernel
theorem dX11_term_72 : decode cX11_term 72 = .ok (.invokevirtual 170, 3) := by decide +kernel
theorem dX11_term_75 : decode cX11_term 75 = .ok (.ifCond .eq 7, 3) := by decide +kernel
theorem dX11_term_78 : decode cX11_term 78 = .ok (.iconst 5, 1) := by decide +kernel
theorem dX11_term_79 : decode cX11_term 79 = .ok (.goto 4, 3) := by decide +kernel
theorem dX11_term_82 : decode cX11_term 82 = .ok (.iconst (-1), 1) := by decide +kernel
theorem dX11_term_83 : decode cX11_term 83 = .ok (.istore_n 1, 1) := by decide +kernel
theorem dX11_term_84 : decode cX11_term 84 = .ok (.iload_n 1, 1) := by decide +kernel
theorem dX11_term_85 : decode cX11_term 85 = .ok (.iconst (-1), 1) := by decide +kernel
theorem dX11_term_86 : decode cX11_term 86 = .ok (.if_icmp .ne 8, 3) := by decide +kernel
theorem dX11_term_89 : decode cX11_term 89 = .ok (.aload_n 0, 1) := by decide +kernel
theorem dX11_term_90 : decode cX11_term 90 = .ok (.invokevirtual 148, 3) := by decide +kernel
theorem dX11_term_93 : decode cX11_term 93 = .ok (.ireturn, 1) := by decide +kernel
theorem dX11_term_94 : decode cX11_term 94 = .ok (.aload_n 0, 1) := by decide +kernel
theorem dX11_term_95 : decode cX11_term 95 = .ok (.iload_n 1, 1) := by decide +kernel
theorem dX11_term_96 : decode cX11_term 96 = .ok (.iload_n 1, 1) := by decide +kernel
theorem dX11_term_97 : decode cX11_term 97 = .ok (.ifCond .ne 10, 3) := by decide +kernel
theorem dX11_term_100 : decode cX11_term 100 = .ok (.aload_n 0, 1) := by decide +kernel
theorem dX11_term_101 : decode cX11_term 101 = .ok (.getfield 125, 3) := by decide +kernel
theorem dX11_term_104 : decode cX11_term 104 = .ok (.goto 4, 3) := by decide +kernel
theorem dX11_term_107 : decode cX11_term 107 = .ok (.iconst 0, 1) := by decide +kernel
theorem dX11_term_108 : decode cX11_term 108 = .ok (.invokevirtual 202, 3) := by decide +kernel
theorem dX11_term_111 : decode cX11_term 111 = .ok (.aload_n 0, 1) := by decide +kernel
theorem dX11_term_112 : decode cX11_term 112 = .ok (.invokevirtual 152, 3) := by decide +kernel
theorem dX11_term_115 : decode cX11_term 115 = .ok (.iconst 1, 1) := by decide +kernel
theorem dX11_term_116 : decode cX11_term 116 = .ok (.ireturn, 1) := by decide +kernel
theorem dX11_rules_0 : decode cX11_rules 0 = .ok (.aload_n 0, 1) := by decide +kernel
theorem dX11_rules_1 : decode cX11_rules 1 = .ok (.iconst 0, 1) := by decide +kernel
theorem dX11_rules_2 : decode cX11_rules 2 = .ok (.putfield 94, 3) := by decide +kernel
theorem dX11_rules_5 : decode cX11_rules 5 = .ok (.aload_n 0, 1) := by decide +kernel
theorem dX11_rules_6 : decode cX11_rules 6 = .ok (.iload_n 1, 1) := by decide +kernel
theorem dX11_rules_7 : decode cX11_rules 7 = .ok (.invokevirtual 259, 3) := by decide +kernel
theorem dX11_rules_10 : decode cX11_rules 10 = .ok (.ifCond .ne 6, 3) := by decide +kernel
theorem dX11_rules_13 : decode cX11_rules 13 = .ok (.bipush (-2), 2) := by decide +kernel
theorem dX11_rules_15 : decode cX11_rules 15 = .ok (.ireturn, 1) := by decide +kernel
theorem dX11_rules_16 : decode cX11_rules 16 = .ok (.aload_n 0, 1) := by decide +kernel
theorem dX11_rules_17 : decode cX11_rules 17 = .ok (.aload_n 0, 1) := by decide +kernel
theorem dX11_rules_18 : decode cX11_rules 18 = .ok (.getfield 101, 3) := by decide +kernel
theorem dX11_rules_21 : decode cX11_rules 21 = .ok (.putfield 115, 3) := by decide +kernel
theorem dX11_rules_24 : decode cX11_rules 24 = .ok (.aload_n 0, 1) := by decide +kernel
theorem dX11_rules_25 : decode cX11_rules 25 = .ok (.iconst 0, 1) := by decide +kernel
theorem dX11_rules_26 : decode cX11_rules 26 = .ok (.putfield 101, 3) := by decide +kernel
theorem dX11_rules_29 : decode cX11_rules 29 = .ok (.aload_n 0, 1) := by decide +kernel
theorem dX11_rules_30 : decode cX11_rules 30 = .ok (.iconst 0, 1) := by decide +kernel
theorem dX11_rules_31 : decode cX11_rules 31 = .ok (.putfield 112, 3) := by decide +kernel
theorem dX11_rules_34 : decode cX11_rules 34 = .ok (.aload_n 0, 1) := by decide +kernel
theorem dX11_rules_35 : decode cX11_rules 35 = .ok (.iconst 0, 1) := by decide +kernel
theorem dX11_rules_36 : decode cX11_rules 36 = .ok (.putfield 135, 3) := by decide +kernel
theorem dX11_rules_39 : decode cX11_rules 39 = .ok (.aload_n 0, 1) := by decide +kernel
theorem dX11_rules_40 : decode cX11_rules 40 = .ok (.iconst (-1), 1) := by decide +kernel
theorem dX11_rules_41 : decode cX11_rules 41 = .ok (.putfield 59, 3) := by decide +kernel
theorem dX11_rules_44 : decode cX11_rules 44 = .ok (.aload_n 0, 1) := by decide +kernel
theorem dX11_rules_45 : decode cX11_rules 45 = .ok (.iconst 0, 1) := by decide +kernel
theorem dX11_rules_46 : decode cX11_rules 46 = .ok (.putfield 138, 3) := by decide +kernel
theorem dX11_rules_49 : decode cX11_rules 49 = .ok (.aload_n 0, 1) := by decide +kernel
theorem dX11_rules_50 : decode cX11_rules 50 = .ok (.iconst 0, 1) := by decide +kernel
theorem dX11_rules_51 : decode cX11_rules 51 = .ok (.putfield 234, 3) := by decide +kernel
theorem dX11_rules_54 : decode cX11_rules 54 = .ok (.aload_n 0, 1) := by decide +kernel
theorem dX11_rules_55 : decode cX11_rules 55 = .ok (.iconst 0, 1) := by decide +kernel
theorem dX11_rules_56 : decode cX11_rules 56 = .ok (.putfield 162, 3) := by decide +kernel
theorem dX11_rules_59 : decode cX11_rules 59 = .ok (.aload_n 0, 1) := by decide +kernel
theorem dX11_rules_60 : decode cX11_rules 60 = .ok (.iconst 0, 1) := by decide +kernel
theorem dX11_rules_61 : decode cX11_rules 61 = .ok (.putfield 185, 3) := by decide +kernel
theorem dX11_rules_64 : decode cX11_rules 64 = .ok (.aload_n 0, 1) := by decide +kernel
theorem dX11_rules_65 : decode cX11_rules 65 = .ok (.invokevirtual 152, 3) := by decide +kernel
theorem dX11_rules_68 : decode cX11_rules 68 = .ok (.aload_n 0, 1) := by decide +kernel
theorem dX11_rules_69 : decode cX11_rules 69 = .ok (.invokevirtual 262, 3) := by decide +kernel
theorem dX11_rules_72 : decode cX11_rules 72 = .ok (.istore_n 2, 1) := by decide +kernel
theorem dX11_rules_73 : decode cX11_rules 73 = .ok (.iload_n 2, 1) := by decide +kernel
theorem dX11_rules_74 : decode cX11_rules 74 = .ok (.ifCond .eq 18, 3) := by decide +kernel
theorem dX11_rules_77 : decode cX11_rules 77 = .ok (.aload_n 0, 1) := by decide +kernel
theorem dX11_rules_78 : decode cX11_rules 78 = .ok (.getfield 132, 3) := by decide +kernel
theorem dX11_rules_81 : decode cX11_rules 81 = .ok (.ifCond .eq 11, 3) := by decide +kernel
theorem dX11_rules_84 : decode cX11_rules 84 = .ok (.aload_n 0, 1) := by decide +kernel
theorem dX11_rules_85 : decode cX11_rules 85 = .ok (.invokevirtual 265, 3) := by decide +kernel
theorem dX11_rules_88 : decode cX11_rules 88 = .ok (.istore_n 2, 1) := by decide +kernel
theorem dX11_rules_89 : decode cX11_rules 89 = .ok (.goto (-16), 3) := by decide +kernel
theorem dX11_rules_92 : decode cX11_rules 92 = .ok (.aload_n 0, 1) := by decide +kernel
theorem dX11_rules_93 : decode cX11_rules 93 = .ok (.getfield 135, 3) := by decide +kernel
theorem dX11_rules_96 : decode cX11_rules 96 = .ok (.ifCond .ne 26, 3) := by decide +kernel
theorem dX11_rules_99 : decode cX11_rules 99 = .ok (.aload_n 0, 1) := by decide +kernel
theorem dX11_rules_100 : decode cX11_rules 100 = .ok (.getfield 138, 3) := by decide +kernel
theorem dX11_rules_103 : decode cX11_rules 103 = .ok (.ifCond .le 19, 3) := by decide +kernel
theorem dX11_rules_106 : decode cX11_rules 106 = .ok (.aload_n 0, 1) := by decide +kernel
theorem dX11_rules_107 : decode cX11_rules 107 = .ok (.aload_n 0, 1) := by decide +kernel
theorem dX11_rules_108 : decode cX11_rules 108 = .ok (.getfield 138, 3) := by decide +kernel
theorem dX11_rules_111 : decode cX11_rules 111 = .ok (.putfield 135, 3) := by decide +kernel
theorem dX11_rules_114 : decode cX11_rules 114 = .ok (.aload_n 0, 1) := by decide +kernel
theorem dX11_rules_115 : decode cX11_rules 115 = .ok (.aload_n 0, 1) := by decide +kernel
theorem dX11_rules_116 : decode cX11_rules 116 = .ok (.getfield 141, 3) := by decide +kernel
theorem dX11_rules_119 : decode cX11_rules 119 = .ok (.putfield 59, 3) := by decide +kernel
theorem dX11_rules_122 : decode cX11_rules 122 = .ok (.aload_n 0, 1) := by decide +kernel
theorem dX11_rules_123 : decode cX11_rules 123 = .ok (.getfield 135, 3) := by decide +kernel
theorem dX11_rules_126 : decode cX11_rules 126 = .ok (.ifCond .le 5, 3) := by decide +kernel
theorem dX11_rules_129 : decode cX11_rules 129 = .ok (.iconst (-1), 1) := by decide +kernel
theorem dX11_rules_130 : decode cX11_rules 130 = .ok (.ireturn, 1) := by decide +kernel
theorem dX11_rules_131 : decode cX11_rules 131 = .ok (.aload_n 0, 1) := by decide +kernel
theorem dX11_rules_132 : decode cX11_rules 132 = .ok (.getfield 44, 3) := by decide +kernel
theorem dX11_rules_135 : decode cX11_rules 135 = .ok (.iload_n 1, 1) := by decide +kernel
theorem dX11_rules_136 : decode cX11_rules 136 = .ok (.aload_n 0, 1) := by decide +kernel
theorem dX11_rules_137 : decode cX11_rules 137 = .ok (.getfield 165, 3) := by decide +kernel
theorem dX11_rules_140 : decode cX11_rules 140 = .ok (.iastore, 1) := by decide +kernel
theorem dX11_rules_141 : decode cX11_rules 141 = .ok (.aload_n 0, 1) := by decide +kernel
theorem dX11_rules_142 : decode cX11_rules 142 = .ok (.getfield 47, 3) := by decide +kernel
theorem dX11_rules_145 : decode cX11_rules 145 = .ok (.iload_n 1, 1) := by decide +kernel
theorem dX11_rules_146 : decode cX11_rules 146 = .ok (.aload_n 0, 1) := by decide +kernel
theorem dX11_rules_147 : decode cX11_rules 147 = .ok (.getfield 185, 3) := by decide +kernel
theorem dX11_rules_150 : decode cX11_rules 150 = .ok (.iastore, 1) := by decide +kernel
theorem dX11_rules_151 : decode cX11_rules 151 = .ok (.iconst 0, 1) := by decide +kernel
theorem dX11_rules_152 : decode cX11_rules 152 = .ok (.istore_n 3, 1) := by decide +kernel
theorem dX11_rules_153 : decode cX11_rules 153 = .ok (.iload_n 3, 1) := by decide +kernel
theorem dX11_rules_154 : decode cX11_rules 154 = .ok (.bipush 8, 2) := by decide +kernel
theorem dX11_rules_156 : decode cX11_rules 156 = .ok (.aload_n 0, 1) := by decide +kernel
theorem dX11_rules_157 : decode cX11_rules 157 = .ok (.getfield 185, 3) := by decide +kernel
theorem dX11_rules_160 : decode cX11_rules 160 = .ok (.imul, 1) := by decide +kernel
theorem dX11_rules_161 : decode cX11_rules 161 = .ok (.if_icmp .ge 26, 3) := by decide +kernel
theorem dX11_rules_164 : decode cX11_rules 164 = .ok (.aload_n 0, 1) := by decide +kernel
theorem dX11_rules_165 : decode cX11_rules 165 = .ok (.getfield 50, 3) := by decide +kernel
theorem dX11_rules_168 : decode cX11_rules 168 = .ok (.bipush 96, 2) := by decide +kernel
theorem dX11_rules_170 : decode cX11_rules 170 = .ok (.iload_n 1, 1) := by decide +kernel
theorem dX11_rules_171 : decode cX11_rules 171 = .ok (.imul, 1) := by decide +kernel
theorem dX11_rules_172 : decode cX11_rules 172 = .ok (.iload_n 3, 1) := by decide +kernel
theorem dX11_rules_173 : decode cX11_rules 173 = .ok (.iadd, 1) := by decide +kernel
theorem dX11_rules_174 : decode cX11_rules 174 = .ok (.aload_n 0, 1) := by decide +kernel
theorem dX11_rules_175 : decode cX11_rules 175 = .ok (.getfield 63, 3) := by decide +kernel
theorem dX11_rules_178 : decode cX11_rules 178 = .ok (.iload_n 3, 1) := by decide +kernel
theorem dX11_rules_179 : decode cX11_rules 179 = .ok (.iaload, 1) := by decide +kernel
theorem dX11_rules_180 : decode cX11_rules 180 = .ok (.iastore, 1) := by decide +kernel
theorem dX11_rules_181 : decode cX11_rules 181 = .ok (.iinc 3 1, 3) := by decide +kernel
theorem dX11_rules_184 : decode cX11_rules 184 = .ok (.goto (-31), 3) := by decide +kernel
theorem dX11_rules_187 : decode cX11_rules 187 = .ok (.iconst 0, 1) := by decide +kernel
theorem dX11_rules_188 : decode cX11_rules 188 = .ok (.istore_n 3, 1) := by decide +kernel
theorem dX11_rules_189 : decode cX11_rules 189 = .ok (.iload_n 3, 1) := by decide +kernel
theorem dX11_rules_190 : decode cX11_rules 190 = .ok (.aload_n 0, 1) := by decide +kernel
theorem dX11_rules_191 : decode cX11_rules 191 = .ok (.getfield 162, 3) := by decide +kernel
theorem dX11_rules_194 : decode cX11_rules 194 = .ok (.if_icmp .ge 45, 3) := by decide +kernel
theorem dX11_rules_197 : decode cX11_rules 197 = .ok (.aload_n 0, 1) := by decide +kernel
theorem dX11_rules_198 : decode cX11_rules 198 = .ok (.getfield 53, 3) := by decide +kernel
theorem dX11_rules_201 : decode cX11_rules 201 = .ok (.sipush 900, 3) := by decide +kernel
theorem dX11_rules_204 : decode cX11_rules 204 = .ok (.iload_n 1, 1) := by decide +kernel
theorem dX11_rules_205 : decode cX11_rules 205 = .ok (.imul, 1) := by decide +kernel
theorem dX11_rules_206 : decode cX11_rules 206 = .ok (.iload_n 3, 1) := by decide +kernel
theorem dX11_rules_207 : decode cX11_rules 207 = .ok (.iadd, 1) := by decide +kernel
theorem dX11_rules_208 : decode cX11_rules 208 = .ok (.aload_n 0, 1) := by decide +kernel
theorem dX11_rules_209 : decode cX11_rules 209 = .ok (.getfield 66, 3) := by decide +kernel
theorem dX11_rules_212 : decode cX11_rules 212 = .ok (.iload_n 3, 1) := by decide +kernel
theorem dX11_rules_213 : decode cX11_rules 213 = .ok (.baload, 1) := by decide +kernel
theorem dX11_rules_214 : decode cX11_rules 214 = .ok (.bastore, 1) := by decide +kernel
theorem dX11_rules_215 : decode cX11_rules 215 = .ok (.aload_n 0, 1) := by decide +kernel
theorem dX11_rules_216 : decode cX11_rules 216 = .ok (.getfield 56, 3) := by decide +kernel
theorem dX11_rules_219 : decode cX11_rules 219 = .ok (.sipush 900, 3) := by decide +kernel
theorem dX11_rules_222 : decode cX11_rules 222 = .ok (.iload_n 1, 1) := by decide +kernel
theorem dX11_rules_223 : decode cX11_rules 223 = .ok (.imul, 1) := by decide +kernel
theorem dX11_rules_224 : decode cX11_rules 224 = .ok (.iload_n 3, 1) := by decide +kernel
theorem dX11_rules_225 : decode cX11_rules 225 = .ok (.iadd, 1) := by decide +kernel
theorem dX11_rules_226 : decode cX11_rules 226 = .ok (.aload_n 0, 1) := by decide +kernel
theorem dX11_rules_227 : decode cX11_rules 227 = .ok (.getfield 69, 3) := by decide +kernel
theorem dX11_rules_230 : decode cX11_rules 230 = .ok (.iload_n 3, 1) := by decide +kernel
theorem dX11_rules_231 : decode cX11_rules 231 = .ok (.iaload, 1) := by decide +kernel
theorem dX11_rules_232 : decode cX11_rules 232 = .ok (.iastore, 1) := by decide +kernel
theorem dX11_rules_233 : decode cX11_rules 233 = .ok (.iinc 3 1, 3) := by decide +kernel
theorem dX11_rules_236 : decode cX11_rules 236 = .ok (.goto (-47), 3) := by decide +kernel
theorem dX11_rules_239 : decode cX11_rules 239 = .ok (.aload_n 0, 1) := by decide +kernel
theorem dX11_rules_240 : decode cX11_rules 240 = .ok (.dup, 1) := by decide +kernel
theorem dX11_rules_241 : decode cX11_rules 241 = .ok (.getfield 268, 3) := by decide +kernel
theorem dX11_rules_244 : decode cX11_rules 244 = .ok (.iconst 1, 1) := by decide +kernel
theorem dX11_rules_245 : decode cX11_rules 245 = .ok (.iadd, 1) := by decide +kernel
theorem dX11_rules_246 : decode cX11_rules 246 = .ok (.putfield 268, 3) := by decide +kernel
theorem dX11_rules_249 : decode cX11_rules 249 = .ok (.aload_n 0, 1) := by decide +kernel
theorem dX11_rules_250 : decode cX11_rules 250 = .ok (.getfield 72, 3) := by decide +kernel
theorem dX11_rules_253 : decode cX11_rules 253 = .ok (.iload_n 1, 1) := by decide +kernel
theorem dX11_rules_254 : decode cX11_rules 254 = .ok (.aload_n 0, 1) := by decide +kernel
theorem dX11_rules_255 : decode cX11_rules 255 = .ok (.getfield 268, 3) := by decide +kernel
theorem dX11_rules_258 : decode cX11_rules 258 = .ok (.iastore, 1) := by decide +kernel
theorem dX11_rules_259 : decode cX11_rules 259 = .ok (.aload_n 0, 1) := by decide +kernel
theorem dX11_rules_260 : decode cX11_rules 260 = .ok (.getfield 185, 3) := by decide +kernel
theorem dX11_rules_263 : decode cX11_rules 263 = .ok (.ireturn, 1) := by decide +kernel
theorem dX11_fault_0 : decode cX11_fault 0 = .ok (.aload_n 0, 1) := by decide +kernel
theorem dX11_fault_1 : decode cX11_fault 1 = .ok (.iconst 0, 1) := by decide +kernel
theorem dX11_fault_2 : decode cX11_fault 2 = .ok (.putfield 94, 3) := by decide +kernel
theorem dX11_fault_5 : decode cX11_fault 5 = .ok (.iload_n 1, 1) := by decide +kernel
theorem dX11_fault_6 : decode cX11_fault 6 = .ok (.ifCond .ne 10, 3) := by decide +kernel
theorem dX11_fault_9 : decode cX11_fault 9 = .ok (.aload_n 0, 1) := by decide +kernel
theorem dX11_fault_10 : decode cX11_fault 10 = .ok (.getfield 135, 3) := by decide +kernel
theorem dX11_fault_13 : decode cX11_fault 13 = .ok (.goto 16, 3) := by decide +kernel
theorem dX11_fault_16 : decode cX11_fault 16 = .ok (.iload_n 1, 1) := by decide +kernel
theorem dX11_fault_17 : decode cX11_fault 17 = .ok (.iconst 1, 1) := by decide +kernel
theorem dX11_fault_18 : decode cX11_fault 18 = .ok (.if_icmp .ne 10, 3) := by decide +kernel
theorem dX11_fault_21 : decode cX11_fault 21 = .ok (.aload_n 0, 1) := by decide +kernel
theorem dX11_fault_22 : decode cX11_fault 22 = .ok (.getfield 59, 3) := by decide +kernel
theorem dX11_fault_25 : decode cX11_fault 25 = .ok (.goto 4, 3) := by decide +kernel
theorem dX11_fault_28 : decode cX11_fault 28 = .ok (.iconst (-1), 1) := by decide +kernel
theorem dX11_fault_29 : decode cX11_fault 29 = .ok (.ireturn, 1) := by decide +kernel
theorem dX11_isSlot_0 : decode cX11_isSlot 0 = .ok (.iload_n 1, 1) := by decide +kernel
theorem dX11_isSlot_1 : decode cX11_isSlot 1 = .ok (.iconst 0, 1) := by decide +kernel
theorem dX11_isSlot_2 : decode cX11_isSlot 2 = .ok (.iconst 3, 1) := by decide +kernel
theorem dX11_isSlot_3 : decode cX11_isSlot 3 = .ok (.invokestatic 108, 3) := by decide +kernel
theorem dX11_isSlot_6 : decode cX11_isSlot 6 = .ok (.ireturn, 1) := by decide +kernel
theorem dX11_isPerson_0 : decode cX11_isPerson 0 = .ok (.iload_n 1, 1) := by decide +kernel
theorem dX11_isPerson_1 : decode cX11_isPerson 1 = .ok (.iconst 0, 1) := by decide +kernel
theorem dX11_isPerson_2 : decode cX11_isPerson 2 = .ok (.aload_n 0, 1) := by decide +kernel
theorem dX11_isPerson_3 : decode cX11_isPerson 3 = .ok (.getfield 13, 3) := by decide +kernel
theorem dX11_isPerson_6 : decode cX11_isPerson 6 = .ok (.iconst 0, 1) := by decide +kernel
theorem dX11_isPerson_7 : decode cX11_isPerson 7 = .ok (.iaload, 1) := by decide +kernel
theorem dX11_isPerson_8 : decode cX11_isPerson 8 = .ok (.iconst 1, 1) := by decide +kernel
theorem dX11_isPerson_9 : decode cX11_isPerson 9 = .ok (.isub, 1) := by decide +kernel
theorem dX11_isPerson_10 : decode cX11_isPerson 10 = .ok (.invokestatic 108, 3) := by decide +kernel
theorem dX11_isPerson_13 : decode cX11_isPerson 13 = .ok (.ireturn, 1) := by decide +kernel
theorem dX11_isThing_0 : decode cX11_isThing 0 = .ok (.iload_n 1, 1) := by decide +kernel
theorem dX11_isThing_1 : decode cX11_isThing 1 = .ok (.iconst 0, 1) := by decide +kernel
theorem dX11_isThing_2 : decode cX11_isThing 2 = .ok (.aload_n 0, 1) := by decide +kernel
theorem dX11_isThing_3 : decode cX11_isThing 3 = .ok (.getfield 23, 3) := by decide +kernel
theorem dX11_isThing_6 : decode cX11_isThing 6 = .ok (.iconst 0, 1) := by decide +kernel
theorem dX11_isThing_7 : decode cX11_isThing 7 = .ok (.iaload, 1) := by decide +kernel
theorem dX11_isThing_8 : decode cX11_isThing 8 = .ok (.iconst 1, 1) := by decide +kernel
theorem dX11_isThing_9 : decode cX11_isThing 9 = .ok (.isub, 1) := by decide +kernel
theorem dX11_isThing_10 : decode cX11_isThing 10 = .ok (.invokestatic 108, 3) := by decide +kernel
theorem dX11_isThing_13 : decode cX11_isThing 13 = .ok (.ireturn, 1) := by decide +kernel
theorem dX11_isLine_0 : decode cX11_isLine 0 = .ok (.aload_n 0, 1) := by decide +kernel
theorem dX11_isLine_1 : decode cX11_isLine 1 = .ok (.iload_n 1, 1) := by decide +kernel
theorem dX11_isLine_2 : decode cX11_isLine 2 = .ok (.invokevirtual 259, 3) := by decide +kernel
theorem dX11_isLine_5 : decode cX11_isLine 5 = .ok (.ifCond .eq 23, 3) := by decide +kernel
theorem dX11_isLine_8 : decode cX11_isLine 8 = .ok (.iload_n 2, 1) := by decide +kernel
theorem dX11_isLine_9 : decode cX11_isLine 9 = .ok (.iconst 0, 1) := by decide +kernel
theorem dX11_isLine_10 : decode cX11_isLine 10 = .ok (.aload_n 0, 1) := by decide +kernel
theorem dX11_isLine_11 : decode cX11_isLine 11 = .ok (.getfield 47, 3) := by decide +kernel
theorem dX11_isLine_14 : decode cX11_isLine 14 = .ok (.iload_n 1, 1) := by decide +kernel
theorem dX11_isLine_15 : decode cX11_isLine 15 = .ok (.iaload, 1) := by decide +kernel
theorem dX11_isLine_16 : decode cX11_isLine 16 = .ok (.iconst 1, 1) := by decide +kernel
theorem dX11_isLine_17 : decode cX11_isLine 17 = .ok (.isub, 1) := by decide +kernel
theorem dX11_isLine_18 : decode cX11_isLine 18 = .ok (.invokestatic 108, 3) := by decide +kernel
theorem dX11_isLine_21 : decode cX11_isLine 21 = .ok (.ifCond .eq 7, 3) := by decide +kernel
theorem dX11_isLine_24 : decode cX11_isLine 24 = .ok (.iconst 1, 1) := by decide +kernel
theorem dX11_isLine_25 : decode cX11_isLine 25 = .ok (.goto 4, 3) := by decide +kernel
theorem dX11_isLine_28 : decode cX11_isLine 28 = .ok (.iconst 0, 1) := by decide +kernel
theorem dX11_isLine_29 : decode cX11_isLine 29 = .ok (.ireturn, 1) := by decide +kernel
theorem dX11_person_0 : decode cX11_person 0 = .ok (.aload_n 0, 1) := by decide +kernel
theorem dX11_person_1 : decode cX11_person 1 = .ok (.iconst 0, 1) := by decide +kernel
theorem dX11_person_2 : decode cX11_person 2 = .ok (.putfield 94, 3) := by decide +kernel
theorem dX11_person_5 : decode cX11_person 5 = .ok (.aload_n 0, 1) := by decide +kernel
theorem dX11_person_6 : decode cX11_person 6 = .ok (.getfield 13, 3) := by decide +kernel
theorem dX11_person_9 : decode cX11_person 9 = .ok (.iconst 0, 1) := by decide +kernel
theorem dX11_person_10 : decode cX11_person 10 = .ok (.iaload, 1) := by decide +kernel
theorem dX11_person_11 : decode cX11_person 11 = .ok (.bipush 16, 2) := by decide +kernel
theorem dX11_person_13 : decode cX11_person 13 = .ok (.if_icmp .eq 23, 3) := by decide +kernel
theorem dX11_person_16 : decode cX11_person 16 = .ok (.iload_n 1, 1) := by decide +kernel
theorem dX11_person_17 : decode cX11_person 17 = .ok (.iconst 0, 1) := by decide +kernel
theorem dX11_person_18 : decode cX11_person 18 = .ok (.sipush 255, 3) := by decide +kernel
theorem dX11_person_21 : decode cX11_person 21 = .ok (.invokestatic 108, 3) := by decide +kernel
theorem dX11_person_24 : decode cX11_person 24 = .ok (.ifCond .eq 12, 3) := by decide +kernel
theorem dX11_person_27 : decode cX11_person 27 = .ok (.iload_n 2, 1) := by decide +kernel
theorem dX11_person_28 : decode cX11_person 28 = .ok (.iconst 0, 1) := by decide +kernel
theorem dX11_person_29 : decode cX11_person 29 = .ok (.iconst 5, 1) := by decide +kernel
theorem dX11_person_30 : decode cX11_person 30 = .ok (.invokestatic 108, 3) := by decide +kernel
theorem dX11_person_33 : decode cX11_person 33 = .ok (.ifCond .ne 5, 3) := by decide +kernel
theorem dX11_person_36 : decode cX11_person 36 = .ok (.iconst (-1), 1) := by decide +kernel
theorem dX11_person_37 : decode cX11_person 37 = .ok (.ireturn, 1) := by decide +kernel
theorem dX11_person_38 : decode cX11_person 38 = .ok (.aload_n 0, 1) := by decide +kernel
theorem dX11_person_39 : decode cX11_person 39 = .ok (.getfield 17, 3) := by decide +kernel
theorem dX11_person_42 : decode cX11_person 42 = .ok (.aload_n 0, 1) := by decide +kernel
theorem dX11_person_43 : decode cX11_person 43 = .ok (.getfield 13, 3) := by decide +kernel
theorem dX11_person_46 : decode cX11_person 46 = .ok (.iconst 0, 1) := by decide +kernel
theorem dX11_person_47 : decode cX11_person 47 = .ok (.iaload, 1) := by decide +kernel
theorem dX11_person_48 : decode cX11_person 48 = .ok (.iload_n 1, 1) := by decide +kernel
theorem dX11_person_49 : decode cX11_person 49 = .ok (.iastore, 1) := by decide +kernel
theorem dX11_person_50 : decode cX11_person 50 = .ok (.aload_n 0, 1) := by decide +kernel
theorem dX11_person_51 : decode cX11_person 51 = .ok (.getfield 20, 3) := by decide +kernel
theorem dX11_person_54 : decode cX11_person 54 = .ok (.aload_n 0, 1) := by decide +kernel
theorem dX11_person_55 : decode cX11_person 55 = .ok (.getfield 13, 3) := by decide +kernel
theorem dX11_person_58 : decode cX11_person 58 = .ok (.iconst 0, 1) := by decide +kernel
theorem dX11_person_59 : decode cX11_person 59 = .ok (.iaload, 1) := by decide +kernel
theorem dX11_person_60 : decode cX11_person 60 = .ok (.iload_n 2, 1) := by decide +kernel
theorem dX11_person_61 : decode cX11_person 61 = .ok (.iastore, 1) := by decide +kernel
theorem dX11_person_62 : decode cX11_person 62 = .ok (.aload_n 0, 1) := by decide +kernel
theorem dX11_person_63 : decode cX11_person 63 = .ok (.getfield 13, 3) := by decide +kernel
theorem dX11_person_66 : decode cX11_person 66 = .ok (.iconst 0, 1) := by decide +kernel
theorem dX11_person_67 : decode cX11_person 67 = .ok (.dup2, 1) := by decide +kernel
theorem dX11_person_68 : decode cX11_person 68 = .ok (.iaload, 1) := by decide +kernel
theorem dX11_person_69 : decode cX11_person 69 = .ok (.iconst 1, 1) := by decide +kernel
theorem dX11_person_70 : decode cX11_person 70 = .ok (.iadd, 1) := by decide +kernel
theorem dX11_person_71 : decode cX11_person 71 = .ok (.iastore, 1) := by decide +kernel
theorem dX11_person_72 : decode cX11_person 72 = .ok (.aload_n 0, 1) := by decide +kernel
theorem dX11_person_73 : decode cX11_person 73 = .ok (.getfield 13, 3) := by decide +kernel
theorem dX11_person_76 : decode cX11_person 76 = .ok (.iconst 0, 1) := by decide +kernel
theorem dX11_person_77 : decode cX11_person 77 = .ok (.iaload, 1) := by decide +kernel
theorem dX11_person_78 : decode cX11_person 78 = .ok (.iconst 1, 1) := by decide +kernel
theorem dX11_person_79 : decode cX11_person 79 = .ok (.isub, 1) := by decide +kernel
theorem dX11_person_80 : decode cX11_person 80 = .ok (.ireturn, 1) := by decide +kernel
theorem dX11_thing_0 : decode cX11_thing 0 = .ok (.aload_n 0, 1) := by decide +kernel
theorem dX11_thing_1 : decode cX11_thing 1 = .ok (.iconst 0, 1) := by decide +kernel
theorem dX11_thing_2 : decode cX11_thing 2 = .ok (.putfield 94, 3) := by decide +kernel
theorem dX11_thing_5 : decode cX11_thing 5 = .ok (.aload_n 0, 1) := by decide +kernel
theorem dX11_thing_6 : decode cX11_thing 6 = .ok (.getfield 23, 3) := by decide +kernel
theorem dX11_thing_9 : decode cX11_thing 9 = .ok (.iconst 0, 1) := by decide +kernel
theorem dX11_thing_10 : decode cX11_thing 10 = .ok (.iaload, 1) := by decide +kernel
theorem dX11_thing_11 : decode cX11_thing 11 = .ok (.bipush 16, 2) := by decide +kernel
theorem dX11_thing_13 : decode cX11_thing 13 = .ok (.if_icmp .eq 30, 3) := by decide +kernel
