theorem dX3_init_0 : decode cX3_init 0 = .ok (.aload_n 0, 1) := by decide +kernel
theorem dX3_init_1 : decode cX3_init 1 = .ok (.invokespecial 1, 3) := by decide +kernel
theorem dX3_init_4 : decode cX3_init 4 = .ok (.aload_n 0, 1) := by decide +kernel
theorem dX3_init_5 : decode cX3_init 5 = .ok (.iconst 4, 1) := by decide +kernel
theorem dX3_init_6 : decode cX3_init 6 = .ok (.newarray .int, 2) := by decide +kernel
theorem dX3_init_8 : decode cX3_init 8 = .ok (.putfield 9, 3) := by decide +kernel
theorem dX3_init_11 : decode cX3_init 11 = .ok (.aload_n 0, 1) := by decide +kernel
theorem dX3_init_12 : decode cX3_init 12 = .ok (.iconst 4, 1) := by decide +kernel
theorem dX3_init_13 : decode cX3_init 13 = .ok (.newarray .int, 2) := by decide +kernel
theorem dX3_init_15 : decode cX3_init 15 = .ok (.putfield 13, 3) := by decide +kernel
theorem dX3_init_18 : decode cX3_init 18 = .ok (.aload_n 0, 1) := by decide +kernel
theorem dX3_init_19 : decode cX3_init 19 = .ok (.iconst 4, 1) := by decide +kernel
theorem dX3_init_20 : decode cX3_init 20 = .ok (.newarray .int, 2) := by decide +kernel
theorem dX3_init_22 : decode cX3_init 22 = .ok (.putfield 16, 3) := by decide +kernel
theorem dX3_init_25 : decode cX3_init 25 = .ok (.aload_n 0, 1) := by decide +kernel
theorem dX3_init_26 : decode cX3_init 26 = .ok (.bipush 10, 2) := by decide +kernel
theorem dX3_init_28 : decode cX3_init 28 = .ok (.newarray .int, 2) := by decide +kernel
theorem dX3_init_30 : decode cX3_init 30 = .ok (.putfield 19, 3) := by decide +kernel
theorem dX3_init_33 : decode cX3_init 33 = .ok (.aload_n 0, 1) := by decide +kernel
theorem dX3_init_34 : decode cX3_init 34 = .ok (.bipush 10, 2) := by decide +kernel
theorem dX3_init_36 : decode cX3_init 36 = .ok (.newarray .int, 2) := by decide +kernel
theorem dX3_init_38 : decode cX3_init 38 = .ok (.putfield 22, 3) := by decide +kernel
theorem dX3_init_41 : decode cX3_init 41 = .ok (.aload_n 0, 1) := by decide +kernel
theorem dX3_init_42 : decode cX3_init 42 = .ok (.bipush 10, 2) := by decide +kernel
theorem dX3_init_44 : decode cX3_init 44 = .ok (.newarray .int, 2) := by decide +kernel
theorem dX3_init_46 : decode cX3_init 46 = .ok (.putfield 25, 3) := by decide +kernel
theorem dX3_init_49 : decode cX3_init 49 = .ok (.aload_n 0, 1) := by decide +kernel
theorem dX3_init_50 : decode cX3_init 50 = .ok (.bipush 10, 2) := by decide +kernel
theorem dX3_init_52 : decode cX3_init 52 = .ok (.newarray .int, 2) := by decide +kernel
theorem dX3_init_54 : decode cX3_init 54 = .ok (.putfield 28, 3) := by decide +kernel
theorem dX3_init_57 : decode cX3_init 57 = .ok (.aload_n 0, 1) := by decide +kernel
theorem dX3_init_58 : decode cX3_init 58 = .ok (.bipush 10, 2) := by decide +kernel
theorem dX3_init_60 : decode cX3_init 60 = .ok (.newarray .int, 2) := by decide +kernel
theorem dX3_init_62 : decode cX3_init 62 = .ok (.putfield 31, 3) := by decide +kernel
theorem dX3_init_65 : decode cX3_init 65 = .ok (.aload_n 0, 1) := by decide +kernel
theorem dX3_init_66 : decode cX3_init 66 = .ok (.bipush 10, 2) := by decide +kernel
theorem dX3_init_68 : decode cX3_init 68 = .ok (.newarray .int, 2) := by decide +kernel
theorem dX3_init_70 : decode cX3_init 70 = .ok (.putfield 34, 3) := by decide +kernel
theorem dX3_init_73 : decode cX3_init 73 = .ok (.return_, 1) := by decide +kernel
theorem dX3_thrown_0 : decode cX3_thrown 0 = .ok (.aload_n 0, 1) := by decide +kernel
theorem dX3_thrown_1 : decode cX3_thrown 1 = .ok (.getfield 37, 3) := by decide +kernel
theorem dX3_thrown_4 : decode cX3_thrown 4 = .ok (.ireturn, 1) := by decide +kernel
theorem dX3_no_0 : decode cX3_no 0 = .ok (.aload_n 0, 1) := by decide +kernel
theorem dX3_no_1 : decode cX3_no 1 = .ok (.iload_n 1, 1) := by decide +kernel
theorem dX3_no_2 : decode cX3_no 2 = .ok (.putfield 37, 3) := by decide +kernel
theorem dX3_no_5 : decode cX3_no 5 = .ok (.iconst 0, 1) := by decide +kernel
theorem dX3_no_6 : decode cX3_no 6 = .ok (.ireturn, 1) := by decide +kernel
theorem dX3_isNot_0 : decode cX3_isNot 0 = .ok (.aload_n 0, 1) := by decide +kernel
theorem dX3_isNot_1 : decode cX3_isNot 1 = .ok (.iload_n 1, 1) := by decide +kernel
theorem dX3_isNot_2 : decode cX3_isNot 2 = .ok (.putfield 37, 3) := by decide +kernel
theorem dX3_isNot_5 : decode cX3_isNot 5 = .ok (.iconst 0, 1) := by decide +kernel
theorem dX3_isNot_6 : decode cX3_isNot 6 = .ok (.ireturn, 1) := by decide +kernel
theorem dX3_ok_0 : decode cX3_ok 0 = .ok (.aload_n 0, 1) := by decide +kernel
theorem dX3_ok_1 : decode cX3_ok 1 = .ok (.iconst 0, 1) := by decide +kernel
theorem dX3_ok_2 : decode cX3_ok 2 = .ok (.putfield 37, 3) := by decide +kernel
theorem dX3_ok_5 : decode cX3_ok 5 = .ok (.iload_n 1, 1) := by decide +kernel
theorem dX3_ok_6 : decode cX3_ok 6 = .ok (.ireturn, 1) := by decide +kernel
theorem dX3_isIn_0 : decode cX3_isIn 0 = .ok (.iload_n 0, 1) := by decide +kernel
theorem dX3_isIn_1 : decode cX3_isIn 1 = .ok (.iload_n 1, 1) := by decide +kernel
theorem dX3_isIn_2 : decode cX3_isIn 2 = .ok (.if_icmp .lt 12, 3) := by decide +kernel
theorem dX3_isIn_5 : decode cX3_isIn 5 = .ok (.iload_n 0, 1) := by decide +kernel
theorem dX3_isIn_6 : decode cX3_isIn 6 = .ok (.iload_n 2, 1) := by decide +kernel
theorem dX3_isIn_7 : decode cX3_isIn 7 = .ok (.if_icmp .gt 7, 3) := by decide +kernel
theorem dX3_isIn_10 : decode cX3_isIn 10 = .ok (.iconst 1, 1) := by decide +kernel
theorem dX3_isIn_11 : decode cX3_isIn 11 = .ok (.goto 4, 3) := by decide +kernel
theorem dX3_isIn_14 : decode cX3_isIn 14 = .ok (.iconst 0, 1) := by decide +kernel
theorem dX3_isIn_15 : decode cX3_isIn 15 = .ok (.ireturn, 1) := by decide +kernel
theorem dX3_isWand_0 : decode cX3_isWand 0 = .ok (.iload_n 1, 1) := by decide +kernel
theorem dX3_isWand_1 : decode cX3_isWand 1 = .ok (.iconst 0, 1) := by decide +kernel
theorem dX3_isWand_2 : decode cX3_isWand 2 = .ok (.aload_n 0, 1) := by decide +kernel
theorem dX3_isWand_3 : decode cX3_isWand 3 = .ok (.getfield 41, 3) := by decide +kernel
theorem dX3_isWand_6 : decode cX3_isWand 6 = .ok (.iconst 1, 1) := by decide +kernel
theorem dX3_isWand_7 : decode cX3_isWand 7 = .ok (.isub, 1) := by decide +kernel
theorem dX3_isWand_8 : decode cX3_isWand 8 = .ok (.invokestatic 44, 3) := by decide +kernel
theorem dX3_isWand_11 : decode cX3_isWand 11 = .ok (.ireturn, 1) := by decide +kernel
theorem dX3_isChild_0 : decode cX3_isChild 0 = .ok (.iload_n 1, 1) := by decide +kernel
theorem dX3_isChild_1 : decode cX3_isChild 1 = .ok (.iconst 0, 1) := by decide +kernel
theorem dX3_isChild_2 : decode cX3_isChild 2 = .ok (.aload_n 0, 1) := by decide +kernel
theorem dX3_isChild_3 : decode cX3_isChild 3 = .ok (.getfield 48, 3) := by decide +kernel
theorem dX3_isChild_6 : decode cX3_isChild 6 = .ok (.iconst 1, 1) := by decide +kernel
theorem dX3_isChild_7 : decode cX3_isChild 7 = .ok (.isub, 1) := by decide +kernel
theorem dX3_isChild_8 : decode cX3_isChild 8 = .ok (.invokestatic 44, 3) := by decide +kernel
theorem dX3_isChild_11 : decode cX3_isChild 11 = .ok (.ireturn, 1) := by decide +kernel
theorem dX3_isSize_0 : decode cX3_isSize 0 = .ok (.iload_n 0, 1) := by decide +kernel
theorem dX3_isSize_1 : decode cX3_isSize 1 = .ok (.iconst 1, 1) := by decide +kernel
theorem dX3_isSize_2 : decode cX3_isSize 2 = .ok (.bipush 20, 2) := by decide +kernel
theorem dX3_isSize_4 : decode cX3_isSize 4 = .ok (.invokestatic 44, 3) := by decide +kernel
theorem dX3_isSize_7 : decode cX3_isSize 7 = .ok (.ireturn, 1) := by decide +kernel
theorem dX3_dayOf_0 : decode cX3_dayOf 0 = .ok (.iload_n 0, 1) := by decide +kernel
theorem dX3_dayOf_1 : decode cX3_dayOf 1 = .ok (.bipush 24, 2) := by decide +kernel
theorem dX3_dayOf_3 : decode cX3_dayOf 3 = .ok (.idiv, 1) := by decide +kernel
theorem dX3_dayOf_4 : decode cX3_dayOf 4 = .ok (.ireturn, 1) := by decide +kernel
theorem dX3_burstIn_0 : decode cX3_burstIn 0 = .ok (.aload_n 0, 1) := by decide +kernel
theorem dX3_burstIn_1 : decode cX3_burstIn 1 = .ok (.getfield 51, 3) := by decide +kernel
theorem dX3_burstIn_4 : decode cX3_burstIn 4 = .ok (.iload_n 2, 1) := by decide +kernel
theorem dX3_burstIn_5 : decode cX3_burstIn 5 = .ok (.iadd, 1) := by decide +kernel
theorem dX3_burstIn_6 : decode cX3_burstIn 6 = .ok (.invokestatic 54, 3) := by decide +kernel
theorem dX3_burstIn_9 : decode cX3_burstIn 9 = .ok (.istore_n 3, 1) := by decide +kernel
theorem dX3_burstIn_10 : decode cX3_burstIn 10 = .ok (.iload_n 3, 1) := by decide +kernel
theorem dX3_burstIn_11 : decode cX3_burstIn 11 = .ok (.aload_n 0, 1) := by decide +kernel
theorem dX3_burstIn_12 : decode cX3_burstIn 12 = .ok (.getfield 51, 3) := by decide +kernel
theorem dX3_burstIn_15 : decode cX3_burstIn 15 = .ok (.invokestatic 54, 3) := by decide +kernel
theorem dX3_burstIn_18 : decode cX3_burstIn 18 = .ok (.if_icmp .ne 10, 3) := by decide +kernel
theorem dX3_burstIn_21 : decode cX3_burstIn 21 = .ok (.aload_n 0, 1) := by decide +kernel
theorem dX3_burstIn_22 : decode cX3_burstIn 22 = .ok (.getfield 25, 3) := by decide +kernel
theorem dX3_burstIn_25 : decode cX3_burstIn 25 = .ok (.iload_n 1, 1) := by decide +kernel
theorem dX3_burstIn_26 : decode cX3_burstIn 26 = .ok (.iaload, 1) := by decide +kernel
theorem dX3_burstIn_27 : decode cX3_burstIn 27 = .ok (.ireturn, 1) := by decide +kernel
theorem dX3_burstIn_28 : decode cX3_burstIn 28 = .ok (.iload_n 3, 1) := by decide +kernel
theorem dX3_burstIn_29 : decode cX3_burstIn 29 = .ok (.bipush 30, 2) := by decide +kernel
theorem dX3_burstIn_31 : decode cX3_burstIn 31 = .ok (.irem, 1) := by decide +kernel
theorem dX3_burstIn_32 : decode cX3_burstIn 32 = .ok (.aload_n 0, 1) := by decide +kernel
theorem dX3_burstIn_33 : decode cX3_burstIn 33 = .ok (.getfield 22, 3) := by decide +kernel
theorem dX3_burstIn_36 : decode cX3_burstIn 36 = .ok (.iload_n 1, 1) := by decide +kernel
theorem dX3_burstIn_37 : decode cX3_burstIn 37 = .ok (.iaload, 1) := by decide +kernel
theorem dX3_burstIn_38 : decode cX3_burstIn 38 = .ok (.if_icmp .ne 8, 3) := by decide +kernel
theorem dX3_burstIn_41 : decode cX3_burstIn 41 = .ok (.bipush 12, 2) := by decide +kernel
theorem dX3_burstIn_43 : decode cX3_burstIn 43 = .ok (.goto 4, 3) := by decide +kernel
theorem dX3_burstIn_46 : decode cX3_burstIn 46 = .ok (.iconst 0, 1) := by decide +kernel
theorem dX3_burstIn_47 : decode cX3_burstIn 47 = .ok (.ireturn, 1) := by decide +kernel
theorem dX3_addWand_0 : decode cX3_addWand 0 = .ok (.aload_n 0, 1) := by decide +kernel
theorem dX3_addWand_1 : decode cX3_addWand 1 = .ok (.iconst 0, 1) := by decide +kernel
theorem dX3_addWand_2 : decode cX3_addWand 2 = .ok (.putfield 37, 3) := by decide +kernel
theorem dX3_addWand_5 : decode cX3_addWand 5 = .ok (.iload_n 1, 1) := by decide +kernel
theorem dX3_addWand_6 : decode cX3_addWand 6 = .ok (.iconst 1, 1) := by decide +kernel
theorem dX3_addWand_7 : decode cX3_addWand 7 = .ok (.bipush 60, 2) := by decide +kernel
theorem dX3_addWand_9 : decode cX3_addWand 9 = .ok (.invokestatic 44, 3) := by decide +kernel
theorem dX3_addWand_12 : decode cX3_addWand 12 = .ok (.ifCond .eq 13, 3) := by decide +kernel
theorem dX3_addWand_15 : decode cX3_addWand 15 = .ok (.iload_n 2, 1) := by decide +kernel
theorem dX3_addWand_16 : decode cX3_addWand 16 = .ok (.iconst 0, 1) := by decide +kernel
theorem dX3_addWand_17 : decode cX3_addWand 17 = .ok (.bipush 9, 2) := by decide +kernel
theorem dX3_addWand_19 : decode cX3_addWand 19 = .ok (.invokestatic 44, 3) := by decide +kernel
theorem dX3_addWand_22 : decode cX3_addWand 22 = .ok (.ifCond .ne 9, 3) := by decide +kernel
theorem dX3_addWand_25 : decode cX3_addWand 25 = .ok (.aload_n 0, 1) := by decide +kernel
theorem dX3_addWand_26 : decode cX3_addWand 26 = .ok (.iconst 1, 1) := by decide +kernel
theorem dX3_addWand_27 : decode cX3_addWand 27 = .ok (.invokevirtual 58, 3) := by decide +kernel
theorem dX3_addWand_30 : decode cX3_addWand 30 = .ok (.ireturn, 1) := by decide +kernel
theorem dX3_addWand_31 : decode cX3_addWand 31 = .ok (.aload_n 0, 1) := by decide +kernel
theorem dX3_addWand_32 : decode cX3_addWand 32 = .ok (.getfield 41, 3) := by decide +kernel
theorem dX3_addWand_35 : decode cX3_addWand 35 = .ok (.iconst 4, 1) := by decide +kernel
theorem dX3_addWand_36 : decode cX3_addWand 36 = .ok (.if_icmp .ne 9, 3) := by decide +kernel
theorem dX3_addWand_39 : decode cX3_addWand 39 = .ok (.aload_n 0, 1) := by decide +kernel
theorem dX3_addWand_40 : decode cX3_addWand 40 = .ok (.iconst 2, 1) := by decide +kernel
theorem dX3_addWand_41 : decode cX3_addWand 41 = .ok (.invokevirtual 58, 3) := by decide +kernel
theorem dX3_addWand_44 : decode cX3_addWand 44 = .ok (.ireturn, 1) := by decide +kernel
theorem dX3_addWand_45 : decode cX3_addWand 45 = .ok (.aload_n 0, 1) := by decide +kernel
theorem dX3_addWand_46 : decode cX3_addWand 46 = .ok (.getfield 9, 3) := by decide +kernel
theorem dX3_addWand_49 : decode cX3_addWand 49 = .ok (.aload_n 0, 1) := by decide +kernel
theorem dX3_addWand_50 : decode cX3_addWand 50 = .ok (.getfield 41, 3) := by decide +kernel
theorem dX3_addWand_53 : decode cX3_addWand 53 = .ok (.iload_n 1, 1) := by decide +kernel
theorem dX3_addWand_54 : decode cX3_addWand 54 = .ok (.iastore, 1) := by decide +kernel
theorem dX3_addWand_55 : decode cX3_addWand 55 = .ok (.aload_n 0, 1) := by decide +kernel
theorem dX3_addWand_56 : decode cX3_addWand 56 = .ok (.getfield 16, 3) := by decide +kernel
theorem dX3_addWand_59 : decode cX3_addWand 59 = .ok (.aload_n 0, 1) := by decide +kernel
theorem dX3_addWand_60 : decode cX3_addWand 60 = .ok (.getfield 41, 3) := by decide +kernel
theorem dX3_addWand_63 : decode cX3_addWand 63 = .ok (.iload_n 1, 1) := by decide +kernel
theorem dX3_addWand_64 : decode cX3_addWand 64 = .ok (.iastore, 1) := by decide +kernel
theorem dX3_addWand_65 : decode cX3_addWand 65 = .ok (.aload_n 0, 1) := by decide +kernel
theorem dX3_addWand_66 : decode cX3_addWand 66 = .ok (.getfield 13, 3) := by decide +kernel
theorem dX3_addWand_69 : decode cX3_addWand 69 = .ok (.aload_n 0, 1) := by decide +kernel
theorem dX3_addWand_70 : decode cX3_addWand 70 = .ok (.getfield 41, 3) := by decide +kernel
theorem dX3_addWand_73 : decode cX3_addWand 73 = .ok (.iload_n 2, 1) := by decide +kernel
theorem dX3_addWand_74 : decode cX3_addWand 74 = .ok (.iastore, 1) := by decide +kernel
theorem dX3_addWand_75 : decode cX3_addWand 75 = .ok (.aload_n 0, 1) := by decide +kernel
theorem dX3_addWand_76 : decode cX3_addWand 76 = .ok (.dup, 1) := by decide +kernel
theorem dX3_addWand_77 : decode cX3_addWand 77 = .ok (.getfield 41, 3) := by decide +kernel
theorem dX3_addWand_80 : decode cX3_addWand 80 = .ok (.iconst 1, 1) := by decide +kernel
theorem dX3_addWand_81 : decode cX3_addWand 81 = .ok (.iadd, 1) := by decide +kernel
theorem dX3_addWand_82 : decode cX3_addWand 82 = .ok (.putfield 41, 3) := by decide +kernel
theorem dX3_addWand_85 : decode cX3_addWand 85 = .ok (.aload_n 0, 1) := by decide +kernel
theorem dX3_addWand_86 : decode cX3_addWand 86 = .ok (.getfield 41, 3) := by decide +kernel
theorem dX3_addWand_89 : decode cX3_addWand 89 = .ok (.iconst 1, 1) := by decide +kernel
theorem dX3_addWand_90 : decode cX3_addWand 90 = .ok (.isub, 1) := by decide +kernel
theorem dX3_addWand_91 : decode cX3_addWand 91 = .ok (.ireturn, 1) := by decide +kernel
theorem dX3_addChild_0 : decode cX3_addChild 0 = .ok (.aload_n 0, 1) := by decide +kernel
theorem dX3_addChild_1 : decode cX3_addChild 1 = .ok (.iconst 0, 1) := by decide +kernel
theorem dX3_addChild_2 : decode cX3_addChild 2 = .ok (.putfield 37, 3) := by decide +kernel
theorem dX3_addChild_5 : decode cX3_addChild 5 = .ok (.aload_n 0, 1) := by decide +kernel
theorem dX3_addChild_6 : decode cX3_addChild 6 = .ok (.iload_n 1, 1) := by decide +kernel
theorem dX3_addChild_7 : decode cX3_addChild 7 = .ok (.invokevirtual 61, 3) := by decide +kernel
theorem dX3_addChild_10 : decode cX3_addChild 10 = .ok (.ifCond .ne 9, 3) := by decide +kernel
theorem dX3_addChild_13 : decode cX3_addChild 13 = .ok (.aload_n 0, 1) := by decide +kernel
theorem dX3_addChild_14 : decode cX3_addChild 14 = .ok (.iconst 1, 1) := by decide +kernel
theorem dX3_addChild_15 : decode cX3_addChild 15 = .ok (.invokevirtual 58, 3) := by decide +kernel
theorem dX3_addChild_18 : decode cX3_addChild 18 = .ok (.ireturn, 1) := by decide +kernel
theorem dX3_addChild_19 : decode cX3_addChild 19 = .ok (.iload_n 2, 1) := by decide +kernel
theorem dX3_addChild_20 : decode cX3_addChild 20 = .ok (.iconst 0, 1) := by decide +kernel
theorem dX3_addChild_21 : decode cX3_addChild 21 = .ok (.bipush 29, 2) := by decide +kernel
theorem dX3_addChild_23 : decode cX3_addChild 23 = .ok (.invokestatic 44, 3) := by decide +kernel
theorem dX3_addChild_26 : decode cX3_addChild 26 = .ok (.ifCond .ne 9, 3) := by decide +kernel
theorem dX3_addChild_29 : decode cX3_addChild 29 = .ok (.aload_n 0, 1) := by decide +kernel
theorem dX3_addChild_30 : decode cX3_addChild 30 = .ok (.iconst 2, 1) := by decide +kernel
theorem dX3_addChild_31 : decode cX3_addChild 31 = .ok (.invokevirtual 58, 3) := by decide +kernel
theorem dX3_addChild_34 : decode cX3_addChild 34 = .ok (.ireturn, 1) := by decide +kernel
theorem dX3_addChild_35 : decode cX3_addChild 35 = .ok (.aload_n 0, 1) := by decide +kernel
theorem dX3_addChild_36 : decode cX3_addChild 36 = .ok (.getfield 48, 3) := by decide +kernel
theorem dX3_addChild_39 : decode cX3_addChild 39 = .ok (.bipush 10, 2) := by decide +kernel
theorem dX3_addChild_41 : decode cX3_addChild 41 = .ok (.if_icmp .ne 9, 3) := by decide +kernel
theorem dX3_addChild_44 : decode cX3_addChild 44 = .ok (.aload_n 0, 1) := by decide +kernel
theorem dX3_addChild_45 : decode cX3_addChild 45 = .ok (.iconst 3, 1) := by decide +kernel
theorem dX3_addChild_46 : decode cX3_addChild 46 = .ok (.invokevirtual 58, 3) := by decide +kernel
theorem dX3_addChild_49 : decode cX3_addChild 49 = .ok (.ireturn, 1) := by decide +kernel
theorem dX3_addChild_50 : decode cX3_addChild 50 = .ok (.aload_n 0, 1) := by decide +kernel
theorem dX3_addChild_51 : decode cX3_addChild 51 = .ok (.getfield 19, 3) := by decide +kernel
theorem dX3_addChild_54 : decode cX3_addChild 54 = .ok (.aload_n 0, 1) := by decide +kernel
theorem dX3_addChild_55 : decode cX3_addChild 55 = .ok (.getfield 48, 3) := by decide +kernel
theorem dX3_addChild_58 : decode cX3_addChild 58 = .ok (.iload_n 1, 1) := by decide +kernel
theorem dX3_addChild_59 : decode cX3_addChild 59 = .ok (.iastore, 1) := by decide +kernel
theorem dX3_addChild_60 : decode cX3_addChild 60 = .ok (.aload_n 0, 1) := by decide +kernel
theorem dX3_addChild_61 : decode cX3_addChild 61 = .ok (.getfield 22, 3) := by decide +kernel
theorem dX3_addChild_64 : decode cX3_addChild 64 = .ok (.aload_n 0, 1) := by decide +kernel
theorem dX3_addChild_65 : decode cX3_addChild 65 = .ok (.getfield 48, 3) := by decide +kernel
theorem dX3_addChild_68 : decode cX3_addChild 68 = .ok (.iload_n 2, 1) := by decide +kernel
theorem dX3_addChild_69 : decode cX3_addChild 69 = .ok (.iastore, 1) := by decide +kernel
theorem dX3_addChild_70 : decode cX3_addChild 70 = .ok (.aload_n 0, 1) := by decide +kernel
theorem dX3_addChild_71 : decode cX3_addChild 71 = .ok (.getfield 25, 3) := by decide +kernel
theorem dX3_addChild_74 : decode cX3_addChild 74 = .ok (.aload_n 0, 1) := by decide +kernel
theorem dX3_addChild_75 : decode cX3_addChild 75 = .ok (.getfield 48, 3) := by decide +kernel
theorem dX3_addChild_78 : decode cX3_addChild 78 = .ok (.aload_n 0, 1) := by decide +kernel
theorem dX3_addChild_79 : decode cX3_addChild 79 = .ok (.getfield 51, 3) := by decide +kernel
theorem dX3_addChild_82 : decode cX3_addChild 82 = .ok (.invokestatic 54, 3) := by decide +kernel
theorem dX3_addChild_85 : decode cX3_addChild 85 = .ok (.bipush 30, 2) := by decide +kernel
theorem dX3_addChild_87 : decode cX3_addChild 87 = .ok (.irem, 1) := by decide +kernel
theorem dX3_addChild_88 : decode cX3_addChild 88 = .ok (.iload_n 2, 1) := by decide +kernel
theorem dX3_addChild_89 : decode cX3_addChild 89 = .ok (.if_icmp .ne 8, 3) := by decide +kernel
theorem dX3_addChild_92 : decode cX3_addChild 92 = .ok (.bipush 12, 2) := by decide +kernel
theorem dX3_addChild_94 : decode cX3_addChild 94 = .ok (.goto 4, 3) := by decide +kernel
theorem dX3_addChild_97 : decode cX3_addChild 97 = .ok (.iconst 0, 1) := by decide +kernel
theorem dX3_addChild_98 : decode cX3_addChild 98 = .ok (.iastore, 1) := by decide +kernel
theorem dX3_addChild_99 : decode cX3_addChild 99 = .ok (.aload_n 0, 1) := by decide +kernel
theorem dX3_addChild_100 : decode cX3_addChild 100 = .ok (.getfield 34, 3) := by decide +kernel
theorem dX3_addChild_103 : decode cX3_addChild 103 = .ok (.aload_n 0, 1) := by decide +kernel
theorem dX3_addChild_104 : decode cX3_addChild 104 = .ok (.getfield 48, 3) := by decide +kernel
theorem dX3_addChild_107 : decode cX3_addChild 107 = .ok (.iconst 4, 1) := by decide +kernel
theorem dX3_addChild_108 : decode cX3_addChild 108 = .ok (.iastore, 1) := by decide +kernel
theorem dX3_addChild_109 : decode cX3_addChild 109 = .ok (.aload_n 0, 1) := by decide +kernel
theorem dX3_addChild_110 : decode cX3_addChild 110 = .ok (.dup, 1) := by decide +kernel
theorem dX3_addChild_111 : decode cX3_addChild 111 = .ok (.getfield 48, 3) := by decide +kernel
theorem dX3_addChild_114 : decode cX3_addChild 114 = .ok (.iconst 1, 1) := by decide +kernel
theorem dX3_addChild_115 : decode cX3_addChild 115 = .ok (.iadd, 1) := by decide +kernel
theorem dX3_addChild_116 : decode cX3_addChild 116 = .ok (.putfield 48, 3) := by decide +kernel
theorem dX3_addChild_119 : decode cX3_addChild 119 = .ok (.aload_n 0, 1) := by decide +kernel
theorem dX3_addChild_120 : decode cX3_addChild 120 = .ok (.getfield 48, 3) := by decide +kernel
theorem dX3_addChild_123 : decode cX3_addChild 123 = .ok (.iconst 1, 1) := by decide +kernel
theorem dX3_addChild_124 : decode cX3_addChild 124 = .ok (.isub, 1) := by decide +kernel
theorem dX3_addChild_125 : decode cX3_addChild 125 = .ok (.ireturn, 1) := by decide +kernel
theorem dX3_give_0 : decode cX3_give 0 = .ok (.aload_n 0, 1) := by decide +kernel
theorem dX3_give_1 : decode cX3_give 1 = .ok (.iconst 0, 1) := by decide +kernel
theorem dX3_give_2 : decode cX3_give 2 = .ok (.putfield 37, 3) := by decide +kernel
theorem dX3_give_5 : decode cX3_give 5 = .ok (.aload_n 0, 1) := by decide +kernel
theorem dX3_give_6 : decode cX3_give 6 = .ok (.iload_n 1, 1) := by decide +kernel
theorem dX3_give_7 : decode cX3_give 7 = .ok (.invokevirtual 65, 3) := by decide +kernel
theorem dX3_give_10 : decode cX3_give 10 = .ok (.ifCond .eq 11, 3) := by decide +kernel
theorem dX3_give_13 : decode cX3_give 13 = .ok (.aload_n 0, 1) := by decide +kernel
theorem dX3_give_14 : decode cX3_give 14 = .ok (.iload_n 2, 1) := by decide +kernel
theorem dX3_give_15 : decode cX3_give 15 = .ok (.invokevirtual 61, 3) := by decide +kernel
theorem dX3_give_18 : decode cX3_give 18 = .ok (.ifCond .ne 9, 3) := by decide +kernel
theorem dX3_give_21 : decode cX3_give 21 = .ok (.aload_n 0, 1) := by decide +kernel
theorem dX3_give_22 : decode cX3_give 22 = .ok (.iconst 1, 1) := by decide +kernel
theorem dX3_give_23 : decode cX3_give 23 = .ok (.invokevirtual 58, 3) := by decide +kernel
theorem dX3_give_26 : decode cX3_give 26 = .ok (.ireturn, 1) := by decide +kernel
theorem dX3_give_27 : decode cX3_give 27 = .ok (.aload_n 0, 1) := by decide +kernel
theorem dX3_give_28 : decode cX3_give 28 = .ok (.getfield 19, 3) := by decide +kernel
theorem dX3_give_31 : decode cX3_give 31 = .ok (.iload_n 1, 1) := by decide +kernel
theorem dX3_give_32 : decode cX3_give 32 = .ok (.iaload, 1) := by decide +kernel
theorem dX3_give_33 : decode cX3_give 33 = .ok (.istore_n 3, 1) := by decide +kernel
theorem dX3_give_34 : decode cX3_give 34 = .ok (.aload_n 0, 1) := by decide +kernel
theorem dX3_give_35 : decode cX3_give 35 = .ok (.getfield 19, 3) := by decide +kernel
theorem dX3_give_38 : decode cX3_give 38 = .ok (.iload_n 1, 1) := by decide +kernel
theorem dX3_give_39 : decode cX3_give 39 = .ok (.iload_n 2, 1) := by decide +kernel
theorem dX3_give_40 : decode cX3_give 40 = .ok (.iastore, 1) := by decide +kernel
theorem dX3_give_41 : decode cX3_give 41 = .ok (.iload_n 3, 1) := by decide +kernel
theorem dX3_give_42 : decode cX3_give 42 = .ok (.ireturn, 1) := by decide +kernel
theorem dX3_setFall_0 : decode cX3_setFall 0 = .ok (.aload_n 0, 1) := by decide +kernel
theorem dX3_setFall_1 : decode cX3_setFall 1 = .ok (.iconst 0, 1) := by decide +kernel
theorem dX3_setFall_2 : decode cX3_setFall 2 = .ok (.putfield 37, 3) := by decide +kernel
theorem dX3_setFall_5 : decode cX3_setFall 5 = .ok (.aload_n 0, 1) := by decide +kernel
theorem dX3_setFall_6 : decode cX3_setFall 6 = .ok (.iload_n 1, 1) := by decide +kernel
theorem dX3_setFall_7 : decode cX3_setFall 7 = .ok (.invokevirtual 61, 3) := by decide +kernel
theorem dX3_setFall_10 : decode cX3_setFall 10 = .ok (.ifCond .ne 9, 3) := by decide +kernel
theorem dX3_setFall_13 : decode cX3_setFall 13 = .ok (.aload_n 0, 1) := by decide +kernel
theorem dX3_setFall_14 : decode cX3_setFall 14 = .ok (.iconst 1, 1) := by decide +kernel
theorem dX3_setFall_15 : decode cX3_setFall 15 = .ok (.invokevirtual 58, 3) := by decide +kernel
theorem dX3_setFall_18 : decode cX3_setFall 18 = .ok (.ireturn, 1) := by decide +kernel
theorem dX3_setFall_19 : decode cX3_setFall 19 = .ok (.iload_n 2, 1) := by decide +kernel
theorem dX3_setFall_20 : decode cX3_setFall 20 = .ok (.iconst 0, 1) := by decide +kernel
theorem dX3_setFall_21 : decode cX3_setFall 21 = .ok (.bipush 9, 2) := by decide +kernel
theorem dX3_setFall_23 : decode cX3_setFall 23 = .ok (.invokestatic 44, 3) := by decide +kernel
theorem dX3_setFall_26 : decode cX3_setFall 26 = .ok (.ifCond .ne 9, 3) := by decide +kernel
theorem dX3_setFall_29 : decode cX3_setFall 29 = .ok (.aload_n 0, 1) := by decide +kernel
theorem dX3_setFall_30 : decode cX3_setFall 30 = .ok (.iconst 2, 1) := by decide +kernel
theorem dX3_setFall_31 : decode cX3_setFall 31 = .ok (.invokevirtual 58, 3) := by decide +kernel
theorem dX3_setFall_34 : decode cX3_setFall 34 = .ok (.ireturn, 1) := by decide +kernel
theorem dX3_setFall_35 : decode cX3_setFall 35 = .ok (.aload_n 0, 1) := by decide +kernel
theorem dX3_setFall_36 : decode cX3_setFall 36 = .ok (.getfield 13, 3) := by decide +kernel
theorem dX3_setFall_39 : decode cX3_setFall 39 = .ok (.iload_n 1, 1) := by decide +kernel
theorem dX3_setFall_40 : decode cX3_setFall 40 = .ok (.iaload, 1) := by decide +kernel
theorem dX3_setFall_41 : decode cX3_setFall 41 = .ok (.istore_n 3, 1) := by decide +kernel
theorem dX3_setFall_42 : decode cX3_setFall 42 = .ok (.aload_n 0, 1) := by decide +kernel
theorem dX3_setFall_43 : decode cX3_setFall 43 = .ok (.getfield 13, 3) := by decide +kernel
theorem dX3_setFall_46 : decode cX3_setFall 46 = .ok (.iload_n 1, 1) := by decide +kernel
theorem dX3_setFall_47 : decode cX3_setFall 47 = .ok (.iload_n 2, 1) := by decide +kernel
theorem dX3_setFall_48 : decode cX3_setFall 48 = .ok (.iastore, 1) := by decide +kernel
theorem dX3_setFall_49 : decode cX3_setFall 49 = .ok (.iload_n 3, 1) := by decide +kernel
theorem dX3_setFall_50 : decode cX3_setFall 50 = .ok (.ireturn, 1) := by decide +kernel
theorem dX3_all_0 : decode cX3_all 0 = .ok (.aload_n 0, 1) := by decide +kernel
theorem dX3_all_1 : decode cX3_all 1 = .ok (.getfield 25, 3) := by decide +kernel
theorem dX3_all_4 : decode cX3_all 4 = .ok (.iload_n 1, 1) := by decide +kernel
theorem dX3_all_5 : decode cX3_all 5 = .ok (.iaload, 1) := by decide +kernel
theorem dX3_all_6 : decode cX3_all 6 = .ok (.aload_n 0, 1) := by decide +kernel
theorem dX3_all_7 : decode cX3_all 7 = .ok (.getfield 16, 3) := by decide +kernel
theorem dX3_all_10 : decode cX3_all 10 = .ok (.aload_n 0, 1) := by decide +kernel
theorem dX3_all_11 : decode cX3_all 11 = .ok (.getfield 19, 3) := by decide +kernel
theorem dX3_all_14 : decode cX3_all 14 = .ok (.iload_n 1, 1) := by decide +kernel
theorem dX3_all_15 : decode cX3_all 15 = .ok (.iaload, 1) := by decide +kernel
theorem dX3_all_16 : decode cX3_all 16 = .ok (.iaload, 1) := by decide +kernel
theorem dX3_all_17 : decode cX3_all 17 = .ok (.iadd, 1) := by decide +kernel
theorem dX3_all_18 : decode cX3_all 18 = .ok (.ireturn, 1) := by decide +kernel
theorem dX3_isGranted_0 : decode cX3_isGranted 0 = .ok (.aload_n 0, 1) := by decide +kernel
theorem dX3_isGranted_1 : decode cX3_isGranted 1 = .ok (.getfield 28, 3) := by decide +kernel
theorem dX3_isGranted_4 : decode cX3_isGranted 4 = .ok (.iload_n 1, 1) := by decide +kernel
theorem dX3_isGranted_5 : decode cX3_isGranted 5 = .ok (.iaload, 1) := by decide +kernel
theorem dX3_isGranted_6 : decode cX3_isGranted 6 = .ok (.ifCond .ne 16, 3) := by decide +kernel
theorem dX3_isGranted_9 : decode cX3_isGranted 9 = .ok (.aload_n 0, 1) := by decide +kernel
theorem dX3_isGranted_10 : decode cX3_isGranted 10 = .ok (.iload_n 1, 1) := by decide +kernel
theorem dX3_isGranted_11 : decode cX3_isGranted 11 = .ok (.invokevirtual 68, 3) := by decide +kernel
theorem dX3_isGranted_14 : decode cX3_isGranted 14 = .ok (.iload_n 2, 1) := by decide +kernel
theorem dX3_isGranted_15 : decode cX3_isGranted 15 = .ok (.if_icmp .lt 7, 3) := by decide +kernel
theorem dX3_isGranted_18 : decode cX3_isGranted 18 = .ok (.iconst 1, 1) := by decide +kernel
theorem dX3_isGranted_19 : decode cX3_isGranted 19 = .ok (.goto 4, 3) := by decide +kernel
theorem dX3_isGranted_22 : decode cX3_isGranted 22 = .ok (.iconst 0, 1) := by decide +kernel
theorem dX3_isGranted_23 : decode cX3_isGranted 23 = .ok (.ireturn, 1) := by decide +kernel
theorem dX3_deny_0 : decode cX3_deny 0 = .ok (.aload_n 0, 1) := by decide +kernel
theorem dX3_deny_1 : decode cX3_deny 1 = .ok (.dup, 1) := by decide +kernel
theorem dX3_deny_2 : decode cX3_deny 2 = .ok (.getfield 71, 3) := by decide +kernel
theorem dX3_deny_5 : decode cX3_deny 5 = .ok (.iconst 1, 1) := by decide +kernel
theorem dX3_deny_6 : decode cX3_deny 6 = .ok (.iadd, 1) := by decide +kernel
theorem dX3_deny_7 : decode cX3_deny 7 = .ok (.putfield 71, 3) := by decide +kernel
theorem dX3_deny_10 : decode cX3_deny 10 = .ok (.aload_n 0, 1) := by decide +kernel
theorem dX3_deny_11 : decode cX3_deny 11 = .ok (.getfield 28, 3) := by decide +kernel
theorem dX3_deny_14 : decode cX3_deny 14 = .ok (.iload_n 1, 1) := by decide +kernel
theorem dX3_deny_15 : decode cX3_deny 15 = .ok (.iaload, 1) := by decide +kernel
theorem dX3_deny_16 : decode cX3_deny 16 = .ok (.ifCond .le 23, 3) := by decide +kernel
theorem dX3_deny_19 : decode cX3_deny 19 = .ok (.aload_n 0, 1) := by decide +kernel
theorem dX3_deny_20 : decode cX3_deny 20 = .ok (.getfield 28, 3) := by decide +kernel
theorem dX3_deny_23 : decode cX3_deny 23 = .ok (.iload_n 1, 1) := by decide +kernel
theorem dX3_deny_24 : decode cX3_deny 24 = .ok (.bipush 48, 2) := by decide +kernel
theorem dX3_deny_26 : decode cX3_deny 26 = .ok (.aload_n 0, 1) := by decide +kernel
theorem dX3_deny_27 : decode cX3_deny 27 = .ok (.getfield 28, 3) := by decide +kernel
theorem dX3_deny_30 : decode cX3_deny 30 = .ok (.iload_n 1, 1) := by decide +kernel
theorem dX3_deny_31 : decode cX3_deny 31 = .ok (.iaload, 1) := by decide +kernel
theorem dX3_deny_32 : decode cX3_deny 32 = .ok (.iconst 1, 1) := by decide +kernel
theorem dX3_deny_33 : decode cX3_deny 33 = .ok (.iadd, 1) := by decide +kernel
theorem dX3_deny_34 : decode cX3_deny 34 = .ok (.invokestatic 74, 3) := by decide +kernel
theorem dX3_deny_37 : decode cX3_deny 37 = .ok (.iastore, 1) := by decide +kernel
theorem dX3_deny_38 : decode cX3_deny 38 = .ok (.return_, 1) := by decide +kernel
theorem dX3_deny_39 : decode cX3_deny 39 = .ok (.aload_n 0, 1) := by decide +kernel
theorem dX3_deny_40 : decode cX3_deny 40 = .ok (.getfield 31, 3) := by decide +kernel
theorem dX3_deny_43 : decode cX3_deny 43 = .ok (.iload_n 1, 1) := by decide +kernel
theorem dX3_deny_44 : decode cX3_deny 44 = .ok (.dup2, 1) := by decide +kernel
theorem dX3_deny_45 : decode cX3_deny 45 = .ok (.iaload, 1) := by decide +kernel
theorem dX3_deny_46 : decode cX3_deny 46 = .ok (.iconst 1, 1) := by decide +kernel
theorem dX3_deny_47 : decode cX3_deny 47 = .ok (.iadd, 1) := by decide +kernel
theorem dX3_deny_48 : decode cX3_deny 48 = .ok (.iastore, 1) := by decide +kernel
theorem dX3_deny_49 : decode cX3_deny 49 = .ok (.aload_n 0, 1) := by decide +kernel
theorem dX3_deny_50 : decode cX3_deny 50 = .ok (.getfield 31, 3) := by decide +kernel
theorem dX3_deny_53 : decode cX3_deny 53 = .ok (.iload_n 1, 1) := by decide +kernel
theorem dX3_deny_54 : decode cX3_deny 54 = .ok (.iaload, 1) := by decide +kernel
theorem dX3_deny_55 : decode cX3_deny 55 = .ok (.iconst 3, 1) := by decide +kernel
theorem dX3_deny_56 : decode cX3_deny 56 = .ok (.if_icmp .ge 4, 3) := by decide +kernel
theorem dX3_deny_59 : decode cX3_deny 59 = .ok (.return_, 1) := by decide +kernel
theorem dX3_deny_60 : decode cX3_deny 60 = .ok (.aload_n 0, 1) := by decide +kernel
theorem dX3_deny_61 : decode cX3_deny 61 = .ok (.getfield 31, 3) := by decide +kernel
theorem dX3_deny_64 : decode cX3_deny 64 = .ok (.iload_n 1, 1) := by decide +kernel
theorem dX3_deny_65 : decode cX3_deny 65 = .ok (.iconst 0, 1) := by decide +kernel
theorem dX3_deny_66 : decode cX3_deny 66 = .ok (.iastore, 1) := by decide +kernel
theorem dX3_deny_67 : decode cX3_deny 67 = .ok (.aload_n 0, 1) := by decide +kernel
theorem dX3_deny_68 : decode cX3_deny 68 = .ok (.getfield 28, 3) := by decide +kernel
theorem dX3_deny_71 : decode cX3_deny 71 = .ok (.iload_n 1, 1) := by decide +kernel
theorem dX3_deny_72 : decode cX3_deny 72 = .ok (.aload_n 0, 1) := by decide +kernel
theorem dX3_deny_73 : decode cX3_deny 73 = .ok (.getfield 34, 3) := by decide +kernel
theorem dX3_deny_76 : decode cX3_deny 76 = .ok (.iload_n 1, 1) := by decide +kernel
theorem dX3_deny_77 : decode cX3_deny 77 = .ok (.iaload, 1) := by decide +kernel
theorem dX3_deny_78 : decode cX3_deny 78 = .ok (.iastore, 1) := by decide +kernel
theorem dX3_deny_79 : decode cX3_deny 79 = .ok (.aload_n 0, 1) := by decide +kernel
theorem dX3_deny_80 : decode cX3_deny 80 = .ok (.getfield 34, 3) := by decide +kernel
theorem dX3_deny_83 : decode cX3_deny 83 = .ok (.iload_n 1, 1) := by decide +kernel
theorem dX3_deny_84 : decode cX3_deny 84 = .ok (.bipush 32, 2) := by decide +kernel
theorem dX3_deny_86 : decode cX3_deny 86 = .ok (.iconst 2, 1) := by decide +kernel
theorem dX3_deny_87 : decode cX3_deny 87 = .ok (.aload_n 0, 1) := by decide +kernel
theorem dX3_deny_88 : decode cX3_deny 88 = .ok (.getfield 34, 3) := by decide +kernel
theorem dX3_deny_91 : decode cX3_deny 91 = .ok (.iload_n 1, 1) := by decide +kernel
theorem dX3_deny_92 : decode cX3_deny 92 = .ok (.iaload, 1) := by decide +kernel
theorem dX3_deny_93 : decode cX3_deny 93 = .ok (.imul, 1) := by decide +kernel
theorem dX3_deny_94 : decode cX3_deny 94 = .ok (.invokestatic 74, 3) := by decide +kernel
theorem dX3_deny_97 : decode cX3_deny 97 = .ok (.iastore, 1) := by decide +kernel
theorem dX3_deny_98 : decode cX3_deny 98 = .ok (.return_, 1) := by decide +kernel
theorem dX3_wish_0 : decode cX3_wish 0 = .ok (.aload_n 0, 1) := by decide +kernel
theorem dX3_wish_1 : decode cX3_wish 1 = .ok (.iconst 0, 1) := by decide +kernel
theorem dX3_wish_2 : decode cX3_wish 2 = .ok (.putfield 37, 3) := by decide +kernel
theorem dX3_wish_5 : decode cX3_wish 5 = .ok (.aload_n 0, 1) := by decide +kernel
theorem dX3_wish_6 : decode cX3_wish 6 = .ok (.iload_n 1, 1) := by decide +kernel
theorem dX3_wish_7 : decode cX3_wish 7 = .ok (.invokevirtual 65, 3) := by decide +kernel
theorem dX3_wish_10 : decode cX3_wish 10 = .ok (.ifCond .ne 9, 3) := by decide +kernel
theorem dX3_wish_13 : decode cX3_wish 13 = .ok (.aload_n 0, 1) := by decide +kernel
theorem dX3_wish_14 : decode cX3_wish 14 = .ok (.iconst 1, 1) := by decide +kernel
theorem dX3_wish_15 : decode cX3_wish 15 = .ok (.invokevirtual 80, 3) := by decide +kernel
theorem dX3_wish_18 : decode cX3_wish 18 = .ok (.ireturn, 1) := by decide +kernel
theorem dX3_wish_19 : decode cX3_wish 19 = .ok (.iload_n 2, 1) := by decide +kernel
theorem dX3_wish_20 : decode cX3_wish 20 = .ok (.invokestatic 83, 3) := by decide +kernel
theorem dX3_wish_23 : decode cX3_wish 23 = .ok (.ifCond .ne 9, 3) := by decide +kernel
theorem dX3_wish_26 : decode cX3_wish 26 = .ok (.aload_n 0, 1) := by decide +kernel
theorem dX3_wish_27 : decode cX3_wish 27 = .ok (.iconst 2, 1) := by decide +kernel
theorem dX3_wish_28 : decode cX3_wish 28 = .ok (.invokevirtual 80, 3) := by decide +kernel
theorem dX3_wish_31 : decode cX3_wish 31 = .ok (.ireturn, 1) := by decide +kernel
theorem dX3_wish_32 : decode cX3_wish 32 = .ok (.aload_n 0, 1) := by decide +kernel
theorem dX3_wish_33 : decode cX3_wish 33 = .ok (.iload_n 1, 1) := by decide +kernel
theorem dX3_wish_34 : decode cX3_wish 34 = .ok (.iload_n 2, 1) := by decide +kernel
theorem dX3_wish_35 : decode cX3_wish 35 = .ok (.invokevirtual 86, 3) := by decide +kernel
theorem dX3_wish_38 : decode cX3_wish 38 = .ok (.ifCond .ne 10, 3) := by decide +kernel
theorem dX3_wish_41 : decode cX3_wish 41 = .ok (.aload_n 0, 1) := by decide +kernel
theorem dX3_wish_42 : decode cX3_wish 42 = .ok (.iload_n 1, 1) := by decide +kernel
theorem dX3_wish_43 : decode cX3_wish 43 = .ok (.invokevirtual 90, 3) := by decide +kernel
theorem dX3_wish_46 : decode cX3_wish 46 = .ok (.iconst 0, 1) := by decide +kernel
theorem dX3_wish_47 : decode cX3_wish 47 = .ok (.ireturn, 1) := by decide +kernel
theorem dX3_wish_48 : decode cX3_wish 48 = .ok (.aload_n 0, 1) := by decide +kernel
theorem dX3_wish_49 : decode cX3_wish 49 = .ok (.getfield 25, 3) := by decide +kernel
theorem dX3_wish_52 : decode cX3_wish 52 = .ok (.iload_n 1, 1) := by decide +kernel
theorem dX3_wish_53 : decode cX3_wish 53 = .ok (.iaload, 1) := by decide +kernel
theorem dX3_wish_54 : decode cX3_wish 54 = .ok (.iload_n 2, 1) := by decide +kernel
theorem dX3_wish_55 : decode cX3_wish 55 = .ok (.invokestatic 74, 3) := by decide +kernel
theorem dX3_wish_58 : decode cX3_wish 58 = .ok (.istore_n 3, 1) := by decide +kernel
theorem dX3_wish_59 : decode cX3_wish 59 = .ok (.aload_n 0, 1) := by decide +kernel
theorem dX3_wish_60 : decode cX3_wish 60 = .ok (.getfield 25, 3) := by decide +kernel
theorem dX3_wish_63 : decode cX3_wish 63 = .ok (.iload_n 1, 1) := by decide +kernel
theorem dX3_wish_64 : decode cX3_wish 64 = .ok (.dup2, 1) := by decide +kernel
theorem dX3_wish_65 : decode cX3_wish 65 = .ok (.iaload, 1) := by decide +kernel
theorem dX3_wish_66 : decode cX3_wish 66 = .ok (.iload_n 3, 1) := by decide +kernel
theorem dX3_wish_67 : decode cX3_wish 67 = .ok (.isub, 1) := by decide +kernel
theorem dX3_wish_68 : decode cX3_wish 68 = .ok (.iastore, 1) := by decide +kernel
theorem dX3_wish_69 : decode cX3_wish 69 = .ok (.aload_n 0, 1) := by decide +kernel
theorem dX3_wish_70 : decode cX3_wish 70 = .ok (.getfield 16, 3) := by decide +kernel
theorem dX3_wish_73 : decode cX3_wish 73 = .ok (.aload_n 0, 1) := by decide +kernel
theorem dX3_wish_74 : decode cX3_wish 74 = .ok (.getfield 19, 3) := by decide +kernel
theorem dX3_wish_77 : decode cX3_wish 77 = .ok (.iload_n 1, 1) := by decide +kernel
theorem dX3_wish_78 : decode cX3_wish 78 = .ok (.iaload, 1) := by decide +kernel
theorem dX3_wish_79 : decode cX3_wish 79 = .ok (.dup2, 1) := by decide +kernel
theorem dX3_wish_80 : decode cX3_wish 80 = .ok (.iaload, 1) := by decide +kernel
theorem dX3_wish_81 : decode cX3_wish 81 = .ok (.iload_n 2, 1) := by decide +kernel
theorem dX3_wish_82 : decode cX3_wish 82 = .ok (.iload_n 3, 1) := by decide +kernel
theorem dX3_wish_83 : decode cX3_wish 83 = .ok (.isub, 1) := by decide +kernel
theorem dX3_wish_84 : decode cX3_wish 84 = .ok (.isub, 1) := by decide +kernel
theorem dX3_wish_85 : decode cX3_wish 85 = .ok (.iastore, 1) := by decide +kernel
theorem dX3_wish_86 : decode cX3_wish 86 = .ok (.aload_n 0, 1) := by decide +kernel
theorem dX3_wish_87 : decode cX3_wish 87 = .ok (.getfield 31, 3) := by decide +kernel
theorem dX3_wish_90 : decode cX3_wish 90 = .ok (.iload_n 1, 1) := by decide +kernel
theorem dX3_wish_91 : decode cX3_wish 91 = .ok (.iconst 0, 1) := by decide +kernel
theorem dX3_wish_92 : decode cX3_wish 92 = .ok (.aload_n 0, 1) := by decide +kernel
theorem dX3_wish_93 : decode cX3_wish 93 = .ok (.getfield 31, 3) := by decide +kernel
theorem dX3_wish_96 : decode cX3_wish 96 = .ok (.iload_n 1, 1) := by decide +kernel
theorem dX3_wish_97 : decode cX3_wish 97 = .ok (.iaload, 1) := by decide +kernel
theorem dX3_wish_98 : decode cX3_wish 98 = .ok (.iconst 1, 1) := by decide +kernel
theorem dX3_wish_99 : decode cX3_wish 99 = .ok (.isub, 1) := by decide +kernel
theorem dX3_wish_100 : decode cX3_wish 100 = .ok (.invokestatic 94, 3) := by decide +kernel
theorem dX3_wish_103 : decode cX3_wish 103 = .ok (.iastore, 1) := by decide +kernel
theorem dX3_wish_104 : decode cX3_wish 104 = .ok (.aload_n 0, 1) := by decide +kernel
theorem dX3_wish_105 : decode cX3_wish 105 = .ok (.dup, 1) := by decide +kernel
theorem dX3_wish_106 : decode cX3_wish 106 = .ok (.getfield 97, 3) := by decide +kernel
theorem dX3_wish_109 : decode cX3_wish 109 = .ok (.iconst 1, 1) := by decide +kernel
theorem dX3_wish_110 : decode cX3_wish 110 = .ok (.iadd, 1) := by decide +kernel
theorem dX3_wish_111 : decode cX3_wish 111 = .ok (.putfield 97, 3) := by decide +kernel
theorem dX3_wish_114 : decode cX3_wish 114 = .ok (.iconst 1, 1) := by decide +kernel
theorem dX3_wish_115 : decode cX3_wish 115 = .ok (.ireturn, 1) := by decide +kernel
theorem dX3_forgive_0 : decode cX3_forgive 0 = .ok (.aload_n 0, 1) := by decide +kernel
theorem dX3_forgive_1 : decode cX3_forgive 1 = .ok (.iconst 0, 1) := by decide +kernel
theorem dX3_forgive_2 : decode cX3_forgive 2 = .ok (.putfield 37, 3) := by decide +kernel
theorem dX3_forgive_5 : decode cX3_forgive 5 = .ok (.aload_n 0, 1) := by decide +kernel
theorem dX3_forgive_6 : decode cX3_forgive 6 = .ok (.iload_n 1, 1) := by decide +kernel
theorem dX3_forgive_7 : decode cX3_forgive 7 = .ok (.invokevirtual 65, 3) := by decide +kernel
theorem dX3_forgive_10 : decode cX3_forgive 10 = .ok (.ifCond .ne 9, 3) := by decide +kernel
theorem dX3_forgive_13 : decode cX3_forgive 13 = .ok (.aload_n 0, 1) := by decide +kernel
theorem dX3_forgive_14 : decode cX3_forgive 14 = .ok (.iconst 1, 1) := by decide +kernel
theorem dX3_forgive_15 : decode cX3_forgive 15 = .ok (.invokevirtual 58, 3) := by decide +kernel
theorem dX3_forgive_18 : decode cX3_forgive 18 = .ok (.ireturn, 1) := by decide +kernel
theorem dX3_forgive_19 : decode cX3_forgive 19 = .ok (.aload_n 0, 1) := by decide +kernel
theorem dX3_forgive_20 : decode cX3_forgive 20 = .ok (.getfield 28, 3) := by decide +kernel
theorem dX3_forgive_23 : decode cX3_forgive 23 = .ok (.iload_n 1, 1) := by decide +kernel
theorem dX3_forgive_24 : decode cX3_forgive 24 = .ok (.iaload, 1) := by decide +kernel
theorem dX3_forgive_25 : decode cX3_forgive 25 = .ok (.istore_n 2, 1) := by decide +kernel
theorem dX3_forgive_26 : decode cX3_forgive 26 = .ok (.aload_n 0, 1) := by decide +kernel
theorem dX3_forgive_27 : decode cX3_forgive 27 = .ok (.getfield 28, 3) := by decide +kernel
theorem dX3_forgive_30 : decode cX3_forgive 30 = .ok (.iload_n 1, 1) := by decide +kernel
theorem dX3_forgive_31 : decode cX3_forgive 31 = .ok (.iconst 0, 1) := by decide +kernel
theorem dX3_forgive_32 : decode cX3_forgive 32 = .ok (.iastore, 1) := by decide +kernel
theorem dX3_forgive_33 : decode cX3_forgive 33 = .ok (.aload_n 0, 1) := by decide +kernel
theorem dX3_forgive_34 : decode cX3_forgive 34 = .ok (.getfield 31, 3) := by decide +kernel
theorem dX3_forgive_37 : decode cX3_forgive 37 = .ok (.iload_n 1, 1) := by decide +kernel
theorem dX3_forgive_38 : decode cX3_forgive 38 = .ok (.iconst 0, 1) := by decide +kernel
theorem dX3_forgive_39 : decode cX3_forgive 39 = .ok (.iastore, 1) := by decide +kernel
theorem dX3_forgive_40 : decode cX3_forgive 40 = .ok (.iload_n 2, 1) := by decide +kernel
theorem dX3_forgive_41 : decode cX3_forgive 41 = .ok (.ireturn, 1) := by decide +kernel
theorem dX3_pass_0 : decode cX3_pass 0 = .ok (.aload_n 0, 1) := by decide +kernel
theorem dX3_pass_1 : decode cX3_pass 1 = .ok (.iconst 0, 1) := by decide +kernel
theorem dX3_pass_2 : decode cX3_pass 2 = .ok (.putfield 37, 3) := by decide +kernel
theorem dX3_pass_5 : decode cX3_pass 5 = .ok (.iload_n 1, 1) := by decide +kernel
theorem dX3_pass_6 : decode cX3_pass 6 = .ok (.iconst 1, 1) := by decide +kernel
theorem dX3_pass_7 : decode cX3_pass 7 = .ok (.bipush 100, 2) := by decide +kernel
theorem dX3_pass_9 : decode cX3_pass 9 = .ok (.invokestatic 44, 3) := by decide +kernel
theorem dX3_pass_12 : decode cX3_pass 12 = .ok (.ifCond .ne 9, 3) := by decide +kernel
theorem dX3_pass_15 : decode cX3_pass 15 = .ok (.aload_n 0, 1) := by decide +kernel
theorem dX3_pass_16 : decode cX3_pass 16 = .ok (.iconst 1, 1) := by decide +kernel
theorem dX3_pass_17 : decode cX3_pass 17 = .ok (.invokevirtual 58, 3) := by decide +kernel
theorem dX3_pass_20 : decode cX3_pass 20 = .ok (.ireturn, 1) := by decide +kernel
theorem dX3_pass_21 : decode cX3_pass 21 = .ok (.iconst 0, 1) := by decide +kernel
theorem dX3_pass_22 : decode cX3_pass 22 = .ok (.istore_n 2, 1) := by decide +kernel
theorem dX3_pass_23 : decode cX3_pass 23 = .ok (.iconst 0, 1) := by decide +kernel
theorem dX3_pass_24 : decode cX3_pass 24 = .ok (.istore_n 3, 1) := by decide +kernel
theorem dX3_pass_25 : decode cX3_pass 25 = .ok (.iload_n 3, 1) := by decide +kernel
theorem dX3_pass_26 : decode cX3_pass 26 = .ok (.aload_n 0, 1) := by decide +kernel
theorem dX3_pass_27 : decode cX3_pass 27 = .ok (.getfield 41, 3) := by decide +kernel
theorem dX3_pass_30 : decode cX3_pass 30 = .ok (.if_icmp .ge 55, 3) := by decide +kernel
theorem dX3_pass_33 : decode cX3_pass 33 = .ok (.aload_n 0, 1) := by decide +kernel
theorem dX3_pass_34 : decode cX3_pass 34 = .ok (.getfield 9, 3) := by decide +kernel
theorem dX3_pass_37 : decode cX3_pass 37 = .ok (.iload_n 3, 1) := by decide +kernel
theorem dX3_pass_38 : decode cX3_pass 38 = .ok (.iaload, 1) := by decide +kernel
theorem dX3_pass_39 : decode cX3_pass 39 = .ok (.aload_n 0, 1) := by decide +kernel
theorem dX3_pass_40 : decode cX3_pass 40 = .ok (.getfield 16, 3) := by decide +kernel
theorem dX3_pass_43 : decode cX3_pass 43 = .ok (.iload_n 3, 1) := by decide +kernel
theorem dX3_pass_44 : decode cX3_pass 44 = .ok (.iaload, 1) := by decide +kernel
theorem dX3_pass_45 : decode cX3_pass 45 = .ok (.iload_n 1, 1) := by decide +kernel
theorem dX3_pass_46 : decode cX3_pass 46 = .ok (.aload_n 0, 1) := by decide +kernel
theorem dX3_pass_47 : decode cX3_pass 47 = .ok (.getfield 13, 3) := by decide +kernel
theorem dX3_pass_50 : decode cX3_pass 50 = .ok (.iload_n 3, 1) := by decide +kernel
theorem dX3_pass_51 : decode cX3_pass 51 = .ok (.iaload, 1) := by decide +kernel
theorem dX3_pass_52 : decode cX3_pass 52 = .ok (.imul, 1) := by decide +kernel
theorem dX3_pass_53 : decode cX3_pass 53 = .ok (.iadd, 1) := by decide +kernel
theorem dX3_pass_54 : decode cX3_pass 54 = .ok (.invokestatic 74, 3) := by decide +kernel
theorem dX3_pass_57 : decode cX3_pass 57 = .ok (.istore 4, 2) := by decide +kernel
theorem dX3_pass_59 : decode cX3_pass 59 = .ok (.iload_n 2, 1) := by decide +kernel
theorem dX3_pass_60 : decode cX3_pass 60 = .ok (.iload 4, 2) := by decide +kernel
theorem dX3_pass_62 : decode cX3_pass 62 = .ok (.aload_n 0, 1) := by decide +kernel
theorem dX3_pass_63 : decode cX3_pass 63 = .ok (.getfield 16, 3) := by decide +kernel
theorem dX3_pass_66 : decode cX3_pass 66 = .ok (.iload_n 3, 1) := by decide +kernel
theorem dX3_pass_67 : decode cX3_pass 67 = .ok (.iaload, 1) := by decide +kernel
theorem dX3_pass_68 : decode cX3_pass 68 = .ok (.isub, 1) := by decide +kernel
theorem dX3_pass_69 : decode cX3_pass 69 = .ok (.iadd, 1) := by decide +kernel
theorem dX3_pass_70 : decode cX3_pass 70 = .ok (.istore_n 2, 1) := by decide +kernel
theorem dX3_pass_71 : decode cX3_pass 71 = .ok (.aload_n 0, 1) := by decide +kernel
theorem dX3_pass_72 : decode cX3_pass 72 = .ok (.getfield 16, 3) := by decide +kernel
theorem dX3_pass_75 : decode cX3_pass 75 = .ok (.iload_n 3, 1) := by decide +kernel
theorem dX3_pass_76 : decode cX3_pass 76 = .ok (.iload 4, 2) := by decide +kernel
theorem dX3_pass_78 : decode cX3_pass 78 = .ok (.iastore, 1) := by decide +kernel
theorem dX3_pass_79 : decode cX3_pass 79 = .ok (.iinc 3 1, 3) := by decide +kernel
theorem dX3_pass_82 : decode cX3_pass 82 = .ok (.goto (-57), 3) := by decide +kernel
theorem dX3_pass_85 : decode cX3_pass 85 = .ok (.iconst 0, 1) := by decide +kernel
theorem dX3_pass_86 : decode cX3_pass 86 = .ok (.istore_n 3, 1) := by decide +kernel
theorem dX3_pass_87 : decode cX3_pass 87 = .ok (.iload_n 3, 1) := by decide +kernel
theorem dX3_pass_88 : decode cX3_pass 88 = .ok (.aload_n 0, 1) := by decide +kernel
theorem dX3_pass_89 : decode cX3_pass 89 = .ok (.getfield 48, 3) := by decide +kernel
theorem dX3_pass_92 : decode cX3_pass 92 = .ok (.if_icmp .ge 39, 3) := by decide +kernel
theorem dX3_pass_95 : decode cX3_pass 95 = .ok (.aload_n 0, 1) := by decide +kernel
theorem dX3_pass_96 : decode cX3_pass 96 = .ok (.getfield 28, 3) := by decide +kernel
theorem dX3_pass_99 : decode cX3_pass 99 = .ok (.iload_n 3, 1) := by decide +kernel
theorem dX3_pass_100 : decode cX3_pass 100 = .ok (.iconst 0, 1) := by decide +kernel
theorem dX3_pass_101 : decode cX3_pass 101 = .ok (.aload_n 0, 1) := by decide +kernel
theorem dX3_pass_102 : decode cX3_pass 102 = .ok (.getfield 28, 3) := by decide +kernel
theorem dX3_pass_105 : decode cX3_pass 105 = .ok (.iload_n 3, 1) := by decide +kernel
theorem dX3_pass_106 : decode cX3_pass 106 = .ok (.iaload, 1) := by decide +kernel
theorem dX3_pass_107 : decode cX3_pass 107 = .ok (.iload_n 1, 1) := by decide +kernel
theorem dX3_pass_108 : decode cX3_pass 108 = .ok (.isub, 1) := by decide +kernel
theorem dX3_pass_109 : decode cX3_pass 109 = .ok (.invokestatic 94, 3) := by decide +kernel
theorem dX3_pass_112 : decode cX3_pass 112 = .ok (.iastore, 1) := by decide +kernel
theorem dX3_pass_113 : decode cX3_pass 113 = .ok (.aload_n 0, 1) := by decide +kernel
theorem dX3_pass_114 : decode cX3_pass 114 = .ok (.getfield 25, 3) := by decide +kernel
theorem dX3_pass_117 : decode cX3_pass 117 = .ok (.iload_n 3, 1) := by decide +kernel
theorem dX3_pass_118 : decode cX3_pass 118 = .ok (.aload_n 0, 1) := by decide +kernel
theorem dX3_pass_119 : decode cX3_pass 119 = .ok (.iload_n 3, 1) := by decide +kernel
theorem dX3_pass_120 : decode cX3_pass 120 = .ok (.iload_n 1, 1) := by decide +kernel
theorem dX3_pass_121 : decode cX3_pass 121 = .ok (.invokevirtual 100, 3) := by decide +kernel
theorem dX3_pass_124 : decode cX3_pass 124 = .ok (.iastore, 1) := by decide +kernel
theorem dX3_pass_125 : decode cX3_pass 125 = .ok (.iinc 3 1, 3) := by decide +kernel
theorem dX3_pass_128 : decode cX3_pass 128 = .ok (.goto (-41), 3) := by decide +kernel
theorem dX3_pass_131 : decode cX3_pass 131 = .ok (.aload_n 0, 1) := by decide +kernel
theorem dX3_pass_132 : decode cX3_pass 132 = .ok (.dup, 1) := by decide +kernel
theorem dX3_pass_133 : decode cX3_pass 133 = .ok (.getfield 51, 3) := by decide +kernel
theorem dX3_pass_136 : decode cX3_pass 136 = .ok (.iload_n 1, 1) := by decide +kernel
theorem dX3_pass_137 : decode cX3_pass 137 = .ok (.iadd, 1) := by decide +kernel
theorem dX3_pass_138 : decode cX3_pass 138 = .ok (.putfield 51, 3) := by decide +kernel
theorem dX3_pass_141 : decode cX3_pass 141 = .ok (.iload_n 2, 1) := by decide +kernel
theorem dX3_pass_142 : decode cX3_pass 142 = .ok (.ireturn, 1) := by decide +kernel
theorem dX3_hour_0 : decode cX3_hour 0 = .ok (.aload_n 0, 1) := by decide +kernel
theorem dX3_hour_1 : decode cX3_hour 1 = .ok (.aload_n 0, 1) := by decide +kernel
theorem dX3_hour_2 : decode cX3_hour 2 = .ok (.getfield 51, 3) := by decide +kernel
theorem dX3_hour_5 : decode cX3_hour 5 = .ok (.invokevirtual 103, 3) := by decide +kernel
theorem dX3_hour_8 : decode cX3_hour 8 = .ok (.ireturn, 1) := by decide +kernel
theorem dX3_day_0 : decode cX3_day 0 = .ok (.aload_n 0, 1) := by decide +kernel
theorem dX3_day_1 : decode cX3_day 1 = .ok (.aload_n 0, 1) := by decide +kernel
theorem dX3_day_2 : decode cX3_day 2 = .ok (.getfield 51, 3) := by decide +kernel
theorem dX3_day_5 : decode cX3_day 5 = .ok (.invokestatic 54, 3) := by decide +kernel
theorem dX3_day_8 : decode cX3_day 8 = .ok (.invokevirtual 103, 3) := by decide +kernel
theorem dX3_day_11 : decode cX3_day 11 = .ok (.ireturn, 1) := by decide +kernel
theorem dX3_wands_0 : decode cX3_wands 0 = .ok (.aload_n 0, 1) := by decide +kernel
theorem dX3_wands_1 : decode cX3_wands 1 = .ok (.aload_n 0, 1) := by decide +kernel
theorem dX3_wands_2 : decode cX3_wands 2 = .ok (.getfield 41, 3) := by decide +kernel
theorem dX3_wands_5 : decode cX3_wands 5 = .ok (.invokevirtual 103, 3) := by decide +kernel
theorem dX3_wands_8 : decode cX3_wands 8 = .ok (.ireturn, 1) := by decide +kernel
theorem dX3_children_0 : decode cX3_children 0 = .ok (.aload_n 0, 1) := by decide +kernel
theorem dX3_children_1 : decode cX3_children 1 = .ok (.aload_n 0, 1) := by decide +kernel
theorem dX3_children_2 : decode cX3_children 2 = .ok (.getfield 48, 3) := by decide +kernel
theorem dX3_children_5 : decode cX3_children 5 = .ok (.invokevirtual 103, 3) := by decide +kernel
theorem dX3_children_8 : decode cX3_children 8 = .ok (.ireturn, 1) := by decide +kernel
theorem dX3_granted_0 : decode cX3_granted 0 = .ok (.aload_n 0, 1) := by decide +kernel
theorem dX3_granted_1 : decode cX3_granted 1 = .ok (.aload_n 0, 1) := by decide +kernel
theorem dX3_granted_2 : decode cX3_granted 2 = .ok (.getfield 97, 3) := by decide +kernel
theorem dX3_granted_5 : decode cX3_granted 5 = .ok (.invokevirtual 103, 3) := by decide +kernel
theorem dX3_granted_8 : decode cX3_granted 8 = .ok (.ireturn, 1) := by decide +kernel
theorem dX3_denied_0 : decode cX3_denied 0 = .ok (.aload_n 0, 1) := by decide +kernel
theorem dX3_denied_1 : decode cX3_denied 1 = .ok (.aload_n 0, 1) := by decide +kernel
theorem dX3_denied_2 : decode cX3_denied 2 = .ok (.getfield 71, 3) := by decide +kernel
theorem dX3_denied_5 : decode cX3_denied 5 = .ok (.invokevirtual 103, 3) := by decide +kernel
theorem dX3_denied_8 : decode cX3_denied 8 = .ok (.ireturn, 1) := by decide +kernel
theorem dX3_manyHeld_0 : decode cX3_manyHeld 0 = .ok (.iconst 0, 1) := by decide +kernel
theorem dX3_manyHeld_1 : decode cX3_manyHeld 1 = .ok (.istore_n 1, 1) := by decide +kernel
theorem dX3_manyHeld_2 : decode cX3_manyHeld 2 = .ok (.iconst 0, 1) := by decide +kernel
theorem dX3_manyHeld_3 : decode cX3_manyHeld 3 = .ok (.istore_n 2, 1) := by decide +kernel
theorem dX3_manyHeld_4 : decode cX3_manyHeld 4 = .ok (.iload_n 2, 1) := by decide +kernel
theorem dX3_manyHeld_5 : decode cX3_manyHeld 5 = .ok (.aload_n 0, 1) := by decide +kernel
theorem dX3_manyHeld_6 : decode cX3_manyHeld 6 = .ok (.getfield 48, 3) := by decide +kernel
theorem dX3_manyHeld_9 : decode cX3_manyHeld 9 = .ok (.if_icmp .ge 26, 3) := by decide +kernel
theorem dX3_manyHeld_12 : decode cX3_manyHeld 12 = .ok (.iload_n 1, 1) := by decide +kernel
theorem dX3_manyHeld_13 : decode cX3_manyHeld 13 = .ok (.aload_n 0, 1) := by decide +kernel
theorem dX3_manyHeld_14 : decode cX3_manyHeld 14 = .ok (.getfield 28, 3) := by decide +kernel
theorem dX3_manyHeld_17 : decode cX3_manyHeld 17 = .ok (.iload_n 2, 1) := by decide +kernel
theorem dX3_manyHeld_18 : decode cX3_manyHeld 18 = .ok (.iaload, 1) := by decide +kernel
theorem dX3_manyHeld_19 : decode cX3_manyHeld 19 = .ok (.ifCond .le 7, 3) := by decide +kernel
theorem dX3_manyHeld_22 : decode cX3_manyHeld 22 = .ok (.iconst 1, 1) := by decide +kernel
theorem dX3_manyHeld_23 : decode cX3_manyHeld 23 = .ok (.goto 4, 3) := by decide +kernel
theorem dX3_manyHeld_26 : decode cX3_manyHeld 26 = .ok (.iconst 0, 1) := by decide +kernel
theorem dX3_manyHeld_27 : decode cX3_manyHeld 27 = .ok (.iadd, 1) := by decide +kernel
theorem dX3_manyHeld_28 : decode cX3_manyHeld 28 = .ok (.istore_n 1, 1) := by decide +kernel
theorem dX3_manyHeld_29 : decode cX3_manyHeld 29 = .ok (.iinc 2 1, 3) := by decide +kernel
theorem dX3_manyHeld_32 : decode cX3_manyHeld 32 = .ok (.goto (-28), 3) := by decide +kernel
theorem dX3_manyHeld_35 : decode cX3_manyHeld 35 = .ok (.iload_n 1, 1) := by decide +kernel
theorem dX3_manyHeld_36 : decode cX3_manyHeld 36 = .ok (.ireturn, 1) := by decide +kernel
theorem dX3_punished_0 : decode cX3_punished 0 = .ok (.aload_n 0, 1) := by decide +kernel
theorem dX3_punished_1 : decode cX3_punished 1 = .ok (.aload_n 0, 1) := by decide +kernel
theorem dX3_punished_2 : decode cX3_punished 2 = .ok (.invokevirtual 106, 3) := by decide +kernel
theorem dX3_punished_5 : decode cX3_punished 5 = .ok (.invokevirtual 103, 3) := by decide +kernel
theorem dX3_punished_8 : decode cX3_punished 8 = .ok (.ireturn, 1) := by decide +kernel
theorem dX3_dustIn_0 : decode cX3_dustIn 0 = .ok (.aload_n 0, 1) := by decide +kernel
theorem dX3_dustIn_1 : decode cX3_dustIn 1 = .ok (.iconst 0, 1) := by decide +kernel
theorem dX3_dustIn_2 : decode cX3_dustIn 2 = .ok (.putfield 37, 3) := by decide +kernel
theorem dX3_dustIn_5 : decode cX3_dustIn 5 = .ok (.aload_n 0, 1) := by decide +kernel
theorem dX3_dustIn_6 : decode cX3_dustIn 6 = .ok (.iload_n 1, 1) := by decide +kernel
theorem dX3_dustIn_7 : decode cX3_dustIn 7 = .ok (.invokevirtual 61, 3) := by decide +kernel
theorem dX3_dustIn_10 : decode cX3_dustIn 10 = .ok (.ifCond .eq 12, 3) := by decide +kernel
theorem dX3_dustIn_13 : decode cX3_dustIn 13 = .ok (.aload_n 0, 1) := by decide +kernel
theorem dX3_dustIn_14 : decode cX3_dustIn 14 = .ok (.getfield 16, 3) := by decide +kernel
theorem dX3_dustIn_17 : decode cX3_dustIn 17 = .ok (.iload_n 1, 1) := by decide +kernel
theorem dX3_dustIn_18 : decode cX3_dustIn 18 = .ok (.iaload, 1) := by decide +kernel
theorem dX3_dustIn_19 : decode cX3_dustIn 19 = .ok (.goto 8, 3) := by decide +kernel
theorem dX3_dustIn_22 : decode cX3_dustIn 22 = .ok (.aload_n 0, 1) := by decide +kernel
theorem dX3_dustIn_23 : decode cX3_dustIn 23 = .ok (.iconst 1, 1) := by decide +kernel
theorem dX3_dustIn_24 : decode cX3_dustIn 24 = .ok (.invokevirtual 58, 3) := by decide +kernel
theorem dX3_dustIn_27 : decode cX3_dustIn 27 = .ok (.ireturn, 1) := by decide +kernel
theorem dX3_using_0 : decode cX3_using 0 = .ok (.iconst 0, 1) := by decide +kernel
theorem dX3_using_1 : decode cX3_using 1 = .ok (.istore_n 2, 1) := by decide +kernel
theorem dX3_using_2 : decode cX3_using 2 = .ok (.iconst 0, 1) := by decide +kernel
theorem dX3_using_3 : decode cX3_using 3 = .ok (.istore_n 3, 1) := by decide +kernel
theorem dX3_using_4 : decode cX3_using 4 = .ok (.iload_n 3, 1) := by decide +kernel
theorem dX3_using_5 : decode cX3_using 5 = .ok (.aload_n 0, 1) := by decide +kernel
theorem dX3_using_6 : decode cX3_using 6 = .ok (.getfield 48, 3) := by decide +kernel
theorem dX3_using_9 : decode cX3_using 9 = .ok (.if_icmp .ge 27, 3) := by decide +kernel
theorem dX3_using_12 : decode cX3_using 12 = .ok (.iload_n 2, 1) := by decide +kernel
theorem dX3_using_13 : decode cX3_using 13 = .ok (.aload_n 0, 1) := by decide +kernel
theorem dX3_using_14 : decode cX3_using 14 = .ok (.getfield 19, 3) := by decide +kernel
theorem dX3_using_17 : decode cX3_using 17 = .ok (.iload_n 3, 1) := by decide +kernel
theorem dX3_using_18 : decode cX3_using 18 = .ok (.iaload, 1) := by decide +kernel
theorem dX3_using_19 : decode cX3_using 19 = .ok (.iload_n 1, 1) := by decide +kernel
theorem dX3_using_20 : decode cX3_using 20 = .ok (.if_icmp .ne 7, 3) := by decide +kernel
theorem dX3_using_23 : decode cX3_using 23 = .ok (.iconst 1, 1) := by decide +kernel
theorem dX3_using_24 : decode cX3_using 24 = .ok (.goto 4, 3) := by decide +kernel
theorem dX3_using_27 : decode cX3_using 27 = .ok (.iconst 0, 1) := by decide +kernel
theorem dX3_using_28 : decode cX3_using 28 = .ok (.iadd, 1) := by decide +kernel
theorem dX3_using_29 : decode cX3_using 29 = .ok (.istore_n 2, 1) := by decide +kernel
theorem dX3_using_30 : decode cX3_using 30 = .ok (.iinc 3 1, 3) := by decide +kernel
theorem dX3_using_33 : decode cX3_using 33 = .ok (.goto (-29), 3) := by decide +kernel
theorem dX3_using_36 : decode cX3_using 36 = .ok (.iload_n 2, 1) := by decide +kernel
theorem dX3_using_37 : decode cX3_using 37 = .ok (.ireturn, 1) := by decide +kernel
theorem dX3_users_0 : decode cX3_users 0 = .ok (.aload_n 0, 1) := by decide +kernel
theorem dX3_users_1 : decode cX3_users 1 = .ok (.iconst 0, 1) := by decide +kernel
theorem dX3_users_2 : decode cX3_users 2 = .ok (.putfield 37, 3) := by decide +kernel
theorem dX3_users_5 : decode cX3_users 5 = .ok (.aload_n 0, 1) := by decide +kernel
theorem dX3_users_6 : decode cX3_users 6 = .ok (.iload_n 1, 1) := by decide +kernel
theorem dX3_users_7 : decode cX3_users 7 = .ok (.invokevirtual 61, 3) := by decide +kernel
theorem dX3_users_10 : decode cX3_users 10 = .ok (.ifCond .eq 11, 3) := by decide +kernel
theorem dX3_users_13 : decode cX3_users 13 = .ok (.aload_n 0, 1) := by decide +kernel
theorem dX3_users_14 : decode cX3_users 14 = .ok (.iload_n 1, 1) := by decide +kernel
theorem dX3_users_15 : decode cX3_users 15 = .ok (.invokevirtual 110, 3) := by decide +kernel
theorem dX3_users_18 : decode cX3_users 18 = .ok (.goto 8, 3) := by decide +kernel
theorem dX3_users_21 : decode cX3_users 21 = .ok (.aload_n 0, 1) := by decide +kernel
theorem dX3_users_22 : decode cX3_users 22 = .ok (.iconst 1, 1) := by decide +kernel
theorem dX3_users_23 : decode cX3_users 23 = .ok (.invokevirtual 58, 3) := by decide +kernel
theorem dX3_users_26 : decode cX3_users 26 = .ok (.ireturn, 1) := by decide +kernel
theorem dX3_of_0 : decode cX3_of 0 = .ok (.aload_n 0, 1) := by decide +kernel
theorem dX3_of_1 : decode cX3_of 1 = .ok (.iconst 0, 1) := by decide +kernel
theorem dX3_of_2 : decode cX3_of 2 = .ok (.putfield 37, 3) := by decide +kernel
theorem dX3_of_5 : decode cX3_of 5 = .ok (.aload_n 0, 1) := by decide +kernel
theorem dX3_of_6 : decode cX3_of 6 = .ok (.iload_n 2, 1) := by decide +kernel
theorem dX3_of_7 : decode cX3_of 7 = .ok (.invokevirtual 65, 3) := by decide +kernel
theorem dX3_of_10 : decode cX3_of 10 = .ok (.ifCond .eq 9, 3) := by decide +kernel
theorem dX3_of_13 : decode cX3_of 13 = .ok (.aload_n 1, 1) := by decide +kernel
theorem dX3_of_14 : decode cX3_of 14 = .ok (.iload_n 2, 1) := by decide +kernel
theorem dX3_of_15 : decode cX3_of 15 = .ok (.iaload, 1) := by decide +kernel
theorem dX3_of_16 : decode cX3_of 16 = .ok (.goto 8, 3) := by decide +kernel
theorem dX3_of_19 : decode cX3_of 19 = .ok (.aload_n 0, 1) := by decide +kernel
theorem dX3_of_20 : decode cX3_of 20 = .ok (.iconst 1, 1) := by decide +kernel
theorem dX3_of_21 : decode cX3_of 21 = .ok (.invokevirtual 58, 3) := by decide +kernel
theorem dX3_of_24 : decode cX3_of 24 = .ok (.ireturn, 1) := by decide +kernel
theorem dX3_wandOf_0 : decode cX3_wandOf 0 = .ok (.aload_n 0, 1) := by decide +kernel
theorem dX3_wandOf_1 : decode cX3_wandOf 1 = .ok (.aload_n 0, 1) := by decide +kernel
theorem dX3_wandOf_2 : decode cX3_wandOf 2 = .ok (.getfield 19, 3) := by decide +kernel
theorem dX3_wandOf_5 : decode cX3_wandOf 5 = .ok (.iload_n 1, 1) := by decide +kernel
theorem dX3_wandOf_6 : decode cX3_wandOf 6 = .ok (.invokevirtual 113, 3) := by decide +kernel
theorem dX3_wandOf_9 : decode cX3_wandOf 9 = .ok (.ireturn, 1) := by decide +kernel
theorem dX3_burstOf_0 : decode cX3_burstOf 0 = .ok (.aload_n 0, 1) := by decide +kernel
theorem dX3_burstOf_1 : decode cX3_burstOf 1 = .ok (.aload_n 0, 1) := by decide +kernel
theorem dX3_burstOf_2 : decode cX3_burstOf 2 = .ok (.getfield 25, 3) := by decide +kernel
theorem dX3_burstOf_5 : decode cX3_burstOf 5 = .ok (.iload_n 1, 1) := by decide +kernel
theorem dX3_burstOf_6 : decode cX3_burstOf 6 = .ok (.invokevirtual 113, 3) := by decide +kernel
theorem dX3_burstOf_9 : decode cX3_burstOf 9 = .ok (.ireturn, 1) := by decide +kernel
theorem dX3_punishedFor_0 : decode cX3_punishedFor 0 = .ok (.aload_n 0, 1) := by decide +kernel
theorem dX3_punishedFor_1 : decode cX3_punishedFor 1 = .ok (.aload_n 0, 1) := by decide +kernel
theorem dX3_punishedFor_2 : decode cX3_punishedFor 2 = .ok (.getfield 28, 3) := by decide +kernel
theorem dX3_punishedFor_5 : decode cX3_punishedFor 5 = .ok (.iload_n 1, 1) := by decide +kernel
theorem dX3_punishedFor_6 : decode cX3_punishedFor 6 = .ok (.invokevirtual 113, 3) := by decide +kernel
theorem dX3_punishedFor_9 : decode cX3_punishedFor 9 = .ok (.ireturn, 1) := by decide +kernel
theorem dX3_marksOf_0 : decode cX3_marksOf 0 = .ok (.aload_n 0, 1) := by decide +kernel
theorem dX3_marksOf_1 : decode cX3_marksOf 1 = .ok (.aload_n 0, 1) := by decide +kernel
theorem dX3_marksOf_2 : decode cX3_marksOf 2 = .ok (.getfield 31, 3) := by decide +kernel
theorem dX3_marksOf_5 : decode cX3_marksOf 5 = .ok (.iload_n 1, 1) := by decide +kernel
theorem dX3_marksOf_6 : decode cX3_marksOf 6 = .ok (.invokevirtual 113, 3) := by decide +kernel
theorem dX3_marksOf_9 : decode cX3_marksOf 9 = .ok (.ireturn, 1) := by decide +kernel
theorem dX3_nextPunishment_0 : decode cX3_nextPunishment 0 = .ok (.aload_n 0, 1) := by decide +kernel
theorem dX3_nextPunishment_1 : decode cX3_nextPunishment 1 = .ok (.aload_n 0, 1) := by decide +kernel
theorem dX3_nextPunishment_2 : decode cX3_nextPunishment 2 = .ok (.getfield 34, 3) := by decide +kernel
theorem dX3_nextPunishment_5 : decode cX3_nextPunishment 5 = .ok (.iload_n 1, 1) := by decide +kernel
theorem dX3_nextPunishment_6 : decode cX3_nextPunishment 6 = .ok (.invokevirtual 113, 3) := by decide +kernel
theorem dX3_nextPunishment_9 : decode cX3_nextPunishment 9 = .ok (.ireturn, 1) := by decide +kernel
theorem dX3_daysTo_0 : decode cX3_daysTo 0 = .ok (.aload_n 0, 1) := by decide +kernel
theorem dX3_daysTo_1 : decode cX3_daysTo 1 = .ok (.getfield 22, 3) := by decide +kernel
theorem dX3_daysTo_4 : decode cX3_daysTo 4 = .ok (.iload_n 1, 1) := by decide +kernel
theorem dX3_daysTo_5 : decode cX3_daysTo 5 = .ok (.iaload, 1) := by decide +kernel
theorem dX3_daysTo_6 : decode cX3_daysTo 6 = .ok (.bipush 30, 2) := by decide +kernel
theorem dX3_daysTo_8 : decode cX3_daysTo 8 = .ok (.iadd, 1) := by decide +kernel
theorem dX3_daysTo_9 : decode cX3_daysTo 9 = .ok (.aload_n 0, 1) := by decide +kernel
theorem dX3_daysTo_10 : decode cX3_daysTo 10 = .ok (.getfield 51, 3) := by decide +kernel
theorem dX3_daysTo_13 : decode cX3_daysTo 13 = .ok (.invokestatic 54, 3) := by decide +kernel
theorem dX3_daysTo_16 : decode cX3_daysTo 16 = .ok (.bipush 30, 2) := by decide +kernel
theorem dX3_daysTo_18 : decode cX3_daysTo 18 = .ok (.irem, 1) := by decide +kernel
theorem dX3_daysTo_19 : decode cX3_daysTo 19 = .ok (.isub, 1) := by decide +kernel
theorem dX3_daysTo_20 : decode cX3_daysTo 20 = .ok (.bipush 30, 2) := by decide +kernel
theorem dX3_daysTo_22 : decode cX3_daysTo 22 = .ok (.irem, 1) := by decide +kernel
theorem dX3_daysTo_23 : decode cX3_daysTo 23 = .ok (.ireturn, 1) := by decide +kernel
theorem dX3_daysToBirthday_0 : decode cX3_daysToBirthday 0 = .ok (.aload_n 0, 1) := by decide +kernel
theorem dX3_daysToBirthday_1 : decode cX3_daysToBirthday 1 = .ok (.iconst 0, 1) := by decide +kernel
theorem dX3_daysToBirthday_2 : decode cX3_daysToBirthday 2 = .ok (.putfield 37, 3) := by decide +kernel
theorem dX3_daysToBirthday_5 : decode cX3_daysToBirthday 5 = .ok (.aload_n 0, 1) := by decide +kernel
theorem dX3_daysToBirthday_6 : decode cX3_daysToBirthday 6 = .ok (.iload_n 1, 1) := by decide +kernel
theorem dX3_daysToBirthday_7 : decode cX3_daysToBirthday 7 = .ok (.invokevirtual 65, 3) := by decide +kernel
theorem dX3_daysToBirthday_10 : decode cX3_daysToBirthday 10 = .ok (.ifCond .eq 11, 3) := by decide +kernel
theorem dX3_daysToBirthday_13 : decode cX3_daysToBirthday 13 = .ok (.aload_n 0, 1) := by decide +kernel
theorem dX3_daysToBirthday_14 : decode cX3_daysToBirthday 14 = .ok (.iload_n 1, 1) := by decide +kernel
theorem dX3_daysToBirthday_15 : decode cX3_daysToBirthday 15 = .ok (.invokevirtual 117, 3) := by decide +kernel
theorem dX3_daysToBirthday_18 : decode cX3_daysToBirthday 18 = .ok (.goto 8, 3) := by decide +kernel
theorem dX3_daysToBirthday_21 : decode cX3_daysToBirthday 21 = .ok (.aload_n 0, 1) := by decide +kernel
theorem dX3_daysToBirthday_22 : decode cX3_daysToBirthday 22 = .ok (.iconst 1, 1) := by decide +kernel
theorem dX3_daysToBirthday_23 : decode cX3_daysToBirthday 23 = .ok (.invokevirtual 58, 3) := by decide +kernel
theorem dX3_daysToBirthday_26 : decode cX3_daysToBirthday 26 = .ok (.ireturn, 1) := by decide +kernel
theorem dX3_greatest_0 : decode cX3_greatest 0 = .ok (.aload_n 0, 1) := by decide +kernel
theorem dX3_greatest_1 : decode cX3_greatest 1 = .ok (.getfield 28, 3) := by decide +kernel
theorem dX3_greatest_4 : decode cX3_greatest 4 = .ok (.iload_n 1, 1) := by decide +kernel
theorem dX3_greatest_5 : decode cX3_greatest 5 = .ok (.iaload, 1) := by decide +kernel
theorem dX3_greatest_6 : decode cX3_greatest 6 = .ok (.ifCond .le 7, 3) := by decide +kernel
theorem dX3_greatest_9 : decode cX3_greatest 9 = .ok (.iconst 0, 1) := by decide +kernel
theorem dX3_greatest_10 : decode cX3_greatest 10 = .ok (.goto 13, 3) := by decide +kernel
theorem dX3_greatest_13 : decode cX3_greatest 13 = .ok (.bipush 20, 2) := by decide +kernel
theorem dX3_greatest_15 : decode cX3_greatest 15 = .ok (.aload_n 0, 1) := by decide +kernel
theorem dX3_greatest_16 : decode cX3_greatest 16 = .ok (.iload_n 1, 1) := by decide +kernel
theorem dX3_greatest_17 : decode cX3_greatest 17 = .ok (.invokevirtual 68, 3) := by decide +kernel
theorem dX3_greatest_20 : decode cX3_greatest 20 = .ok (.invokestatic 74, 3) := by decide +kernel
theorem dX3_greatest_23 : decode cX3_greatest 23 = .ok (.ireturn, 1) := by decide +kernel
theorem dX3_greatestWish_0 : decode cX3_greatestWish 0 = .ok (.aload_n 0, 1) := by decide +kernel
theorem dX3_greatestWish_1 : decode cX3_greatestWish 1 = .ok (.iconst 0, 1) := by decide +kernel
theorem dX3_greatestWish_2 : decode cX3_greatestWish 2 = .ok (.putfield 37, 3) := by decide +kernel
theorem dX3_greatestWish_5 : decode cX3_greatestWish 5 = .ok (.aload_n 0, 1) := by decide +kernel
theorem dX3_greatestWish_6 : decode cX3_greatestWish 6 = .ok (.iload_n 1, 1) := by decide +kernel
theorem dX3_greatestWish_7 : decode cX3_greatestWish 7 = .ok (.invokevirtual 65, 3) := by decide +kernel
theorem dX3_greatestWish_10 : decode cX3_greatestWish 10 = .ok (.ifCond .eq 11, 3) := by decide +kernel
theorem dX3_greatestWish_13 : decode cX3_greatestWish 13 = .ok (.aload_n 0, 1) := by decide +kernel
theorem dX3_greatestWish_14 : decode cX3_greatestWish 14 = .ok (.iload_n 1, 1) := by decide +kernel
theorem dX3_greatestWish_15 : decode cX3_greatestWish 15 = .ok (.invokevirtual 120, 3) := by decide +kernel
theorem dX3_greatestWish_18 : decode cX3_greatestWish 18 = .ok (.goto 8, 3) := by decide +kernel
theorem dX3_greatestWish_21 : decode cX3_greatestWish 21 = .ok (.aload_n 0, 1) := by decide +kernel
theorem dX3_greatestWish_22 : decode cX3_greatestWish 22 = .ok (.iconst 1, 1) := by decide +kernel
theorem dX3_greatestWish_23 : decode cX3_greatestWish 23 = .ok (.invokevirtual 58, 3) := by decide +kernel
theorem dX3_greatestWish_26 : decode cX3_greatestWish 26 = .ok (.ireturn, 1) := by decide +kernel
theorem dX3_until_0 : decode cX3_until 0 = .ok (.aload_n 0, 1) := by decide +kernel
theorem dX3_until_1 : decode cX3_until 1 = .ok (.getfield 19, 3) := by decide +kernel
theorem dX3_until_4 : decode cX3_until 4 = .ok (.iload_n 1, 1) := by decide +kernel
theorem dX3_until_5 : decode cX3_until 5 = .ok (.iaload, 1) := by decide +kernel
theorem dX3_until_6 : decode cX3_until 6 = .ok (.istore_n 3, 1) := by decide +kernel
theorem dX3_until_7 : decode cX3_until 7 = .ok (.aload_n 0, 1) := by decide +kernel
theorem dX3_until_8 : decode cX3_until 8 = .ok (.getfield 28, 3) := by decide +kernel
theorem dX3_until_11 : decode cX3_until 11 = .ok (.iload_n 1, 1) := by decide +kernel
theorem dX3_until_12 : decode cX3_until 12 = .ok (.iaload, 1) := by decide +kernel
theorem dX3_until_13 : decode cX3_until 13 = .ok (.istore 4, 2) := by decide +kernel
theorem dX3_until_15 : decode cX3_until 15 = .ok (.iload 4, 2) := by decide +kernel
theorem dX3_until_17 : decode cX3_until 17 = .ok (.bipush 100, 2) := by decide +kernel
theorem dX3_until_19 : decode cX3_until 19 = .ok (.if_icmp .gt 49, 3) := by decide +kernel
theorem dX3_until_22 : decode cX3_until 22 = .ok (.aload_n 0, 1) := by decide +kernel
theorem dX3_until_23 : decode cX3_until 23 = .ok (.iload_n 1, 1) := by decide +kernel
theorem dX3_until_24 : decode cX3_until 24 = .ok (.iload 4, 2) := by decide +kernel
theorem dX3_until_26 : decode cX3_until 26 = .ok (.invokevirtual 100, 3) := by decide +kernel
theorem dX3_until_29 : decode cX3_until 29 = .ok (.aload_n 0, 1) := by decide +kernel
theorem dX3_until_30 : decode cX3_until 30 = .ok (.getfield 9, 3) := by decide +kernel
theorem dX3_until_33 : decode cX3_until 33 = .ok (.iload_n 3, 1) := by decide +kernel
theorem dX3_until_34 : decode cX3_until 34 = .ok (.iaload, 1) := by decide +kernel
theorem dX3_until_35 : decode cX3_until 35 = .ok (.aload_n 0, 1) := by decide +kernel
theorem dX3_until_36 : decode cX3_until 36 = .ok (.getfield 16, 3) := by decide +kernel
theorem dX3_until_39 : decode cX3_until 39 = .ok (.iload_n 3, 1) := by decide +kernel
theorem dX3_until_40 : decode cX3_until 40 = .ok (.iaload, 1) := by decide +kernel
theorem dX3_until_41 : decode cX3_until 41 = .ok (.iload 4, 2) := by decide +kernel
theorem dX3_until_43 : decode cX3_until 43 = .ok (.aload_n 0, 1) := by decide +kernel
theorem dX3_until_44 : decode cX3_until 44 = .ok (.getfield 13, 3) := by decide +kernel
theorem dX3_until_47 : decode cX3_until 47 = .ok (.iload_n 3, 1) := by decide +kernel
theorem dX3_until_48 : decode cX3_until 48 = .ok (.iaload, 1) := by decide +kernel
theorem dX3_until_49 : decode cX3_until 49 = .ok (.imul, 1) := by decide +kernel
theorem dX3_until_50 : decode cX3_until 50 = .ok (.iadd, 1) := by decide +kernel
theorem dX3_until_51 : decode cX3_until 51 = .ok (.invokestatic 74, 3) := by decide +kernel
theorem dX3_until_54 : decode cX3_until 54 = .ok (.iadd, 1) := by decide +kernel
theorem dX3_until_55 : decode cX3_until 55 = .ok (.iload_n 2, 1) := by decide +kernel
theorem dX3_until_56 : decode cX3_until 56 = .ok (.if_icmp .lt 6, 3) := by decide +kernel
theorem dX3_until_59 : decode cX3_until 59 = .ok (.iload 4, 2) := by decide +kernel
theorem dX3_until_61 : decode cX3_until 61 = .ok (.ireturn, 1) := by decide +kernel
theorem dX3_until_62 : decode cX3_until 62 = .ok (.iinc 4 1, 3) := by decide +kernel
theorem dX3_until_65 : decode cX3_until 65 = .ok (.goto (-50), 3) := by decide +kernel
theorem dX3_until_68 : decode cX3_until 68 = .ok (.iconst (-1), 1) := by decide +kernel
theorem dX3_until_69 : decode cX3_until 69 = .ok (.ireturn, 1) := by decide +kernel
theorem dX3_hoursUntil_0 : decode cX3_hoursUntil 0 = .ok (.aload_n 0, 1) := by decide +kernel
theorem dX3_hoursUntil_1 : decode cX3_hoursUntil 1 = .ok (.iconst 0, 1) := by decide +kernel
theorem dX3_hoursUntil_2 : decode cX3_hoursUntil 2 = .ok (.putfield 37, 3) := by decide +kernel
theorem dX3_hoursUntil_5 : decode cX3_hoursUntil 5 = .ok (.aload_n 0, 1) := by decide +kernel
theorem dX3_hoursUntil_6 : decode cX3_hoursUntil 6 = .ok (.iload_n 1, 1) := by decide +kernel
theorem dX3_hoursUntil_7 : decode cX3_hoursUntil 7 = .ok (.invokevirtual 65, 3) := by decide +kernel
theorem dX3_hoursUntil_10 : decode cX3_hoursUntil 10 = .ok (.ifCond .ne 9, 3) := by decide +kernel
theorem dX3_hoursUntil_13 : decode cX3_hoursUntil 13 = .ok (.aload_n 0, 1) := by decide +kernel
theorem dX3_hoursUntil_14 : decode cX3_hoursUntil 14 = .ok (.iconst 1, 1) := by decide +kernel
theorem dX3_hoursUntil_15 : decode cX3_hoursUntil 15 = .ok (.invokevirtual 58, 3) := by decide +kernel
theorem dX3_hoursUntil_18 : decode cX3_hoursUntil 18 = .ok (.ireturn, 1) := by decide +kernel
theorem dX3_hoursUntil_19 : decode cX3_hoursUntil 19 = .ok (.iload_n 2, 1) := by decide +kernel
theorem dX3_hoursUntil_20 : decode cX3_hoursUntil 20 = .ok (.invokestatic 83, 3) := by decide +kernel
theorem dX3_hoursUntil_23 : decode cX3_hoursUntil 23 = .ok (.ifCond .eq 12, 3) := by decide +kernel
theorem dX3_hoursUntil_26 : decode cX3_hoursUntil 26 = .ok (.aload_n 0, 1) := by decide +kernel
theorem dX3_hoursUntil_27 : decode cX3_hoursUntil 27 = .ok (.iload_n 1, 1) := by decide +kernel
theorem dX3_hoursUntil_28 : decode cX3_hoursUntil 28 = .ok (.iload_n 2, 1) := by decide +kernel
theorem dX3_hoursUntil_29 : decode cX3_hoursUntil 29 = .ok (.invokevirtual 123, 3) := by decide +kernel
theorem dX3_hoursUntil_32 : decode cX3_hoursUntil 32 = .ok (.goto 8, 3) := by decide +kernel
theorem dX3_hoursUntil_35 : decode cX3_hoursUntil 35 = .ok (.aload_n 0, 1) := by decide +kernel
theorem dX3_hoursUntil_36 : decode cX3_hoursUntil 36 = .ok (.iconst 2, 1) := by decide +kernel
theorem dX3_hoursUntil_37 : decode cX3_hoursUntil 37 = .ok (.invokevirtual 58, 3) := by decide +kernel
theorem dX3_hoursUntil_40 : decode cX3_hoursUntil 40 = .ok (.ireturn, 1) := by decide +kernel
theorem dX3_grants_0 : decode cX3_grants 0 = .ok (.aload_n 0, 1) := by decide +kernel
theorem dX3_grants_1 : decode cX3_grants 1 = .ok (.getfield 19, 3) := by decide +kernel
theorem dX3_grants_4 : decode cX3_grants 4 = .ok (.iload_n 1, 1) := by decide +kernel
theorem dX3_grants_5 : decode cX3_grants 5 = .ok (.iaload, 1) := by decide +kernel
theorem dX3_grants_6 : decode cX3_grants 6 = .ok (.istore 5, 2) := by decide +kernel
theorem dX3_grants_8 : decode cX3_grants 8 = .ok (.aload_n 0, 1) := by decide +kernel
theorem dX3_grants_9 : decode cX3_grants 9 = .ok (.getfield 16, 3) := by decide +kernel
theorem dX3_grants_12 : decode cX3_grants 12 = .ok (.iload 5, 2) := by decide +kernel
theorem dX3_grants_14 : decode cX3_grants 14 = .ok (.iaload, 1) := by decide +kernel
theorem dX3_grants_15 : decode cX3_grants 15 = .ok (.istore 6, 2) := by decide +kernel
theorem dX3_grants_17 : decode cX3_grants 17 = .ok (.aload_n 0, 1) := by decide +kernel
theorem dX3_grants_18 : decode cX3_grants 18 = .ok (.getfield 25, 3) := by decide +kernel
theorem dX3_grants_21 : decode cX3_grants 21 = .ok (.iload_n 1, 1) := by decide +kernel
theorem dX3_grants_22 : decode cX3_grants 22 = .ok (.iaload, 1) := by decide +kernel
theorem dX3_grants_23 : decode cX3_grants 23 = .ok (.istore 7, 2) := by decide +kernel
theorem dX3_grants_25 : decode cX3_grants 25 = .ok (.aload_n 0, 1) := by decide +kernel
theorem dX3_grants_26 : decode cX3_grants 26 = .ok (.getfield 28, 3) := by decide +kernel
theorem dX3_grants_29 : decode cX3_grants 29 = .ok (.iload_n 1, 1) := by decide +kernel
theorem dX3_grants_30 : decode cX3_grants 30 = .ok (.iaload, 1) := by decide +kernel
theorem dX3_grants_31 : decode cX3_grants 31 = .ok (.istore 8, 2) := by decide +kernel
theorem dX3_grants_33 : decode cX3_grants 33 = .ok (.aload_n 0, 1) := by decide +kernel
theorem dX3_grants_34 : decode cX3_grants 34 = .ok (.getfield 31, 3) := by decide +kernel
theorem dX3_grants_37 : decode cX3_grants 37 = .ok (.iload_n 1, 1) := by decide +kernel
theorem dX3_grants_38 : decode cX3_grants 38 = .ok (.iaload, 1) := by decide +kernel
theorem dX3_grants_39 : decode cX3_grants 39 = .ok (.istore 9, 2) := by decide +kernel
theorem dX3_grants_41 : decode cX3_grants 41 = .ok (.aload_n 0, 1) := by decide +kernel
theorem dX3_grants_42 : decode cX3_grants 42 = .ok (.getfield 34, 3) := by decide +kernel
theorem dX3_grants_45 : decode cX3_grants 45 = .ok (.iload_n 1, 1) := by decide +kernel
theorem dX3_grants_46 : decode cX3_grants 46 = .ok (.iaload, 1) := by decide +kernel
theorem dX3_grants_47 : decode cX3_grants 47 = .ok (.istore 10, 2) := by decide +kernel
theorem dX3_grants_49 : decode cX3_grants 49 = .ok (.iconst 0, 1) := by decide +kernel
theorem dX3_grants_50 : decode cX3_grants 50 = .ok (.istore 11, 2) := by decide +kernel
theorem dX3_grants_52 : decode cX3_grants 52 = .ok (.iconst 0, 1) := by decide +kernel
theorem dX3_grants_53 : decode cX3_grants 53 = .ok (.istore 12, 2) := by decide +kernel
theorem dX3_grants_55 : decode cX3_grants 55 = .ok (.iload 12, 2) := by decide +kernel
theorem dX3_grants_57 : decode cX3_grants 57 = .ok (.iload_n 3, 1) := by decide +kernel
theorem dX3_grants_58 : decode cX3_grants 58 = .ok (.if_icmp .ge 165, 3) := by decide +kernel
theorem dX3_grants_61 : decode cX3_grants 61 = .ok (.iload 12, 2) := by decide +kernel
theorem dX3_grants_63 : decode cX3_grants 63 = .ok (.ifCond .le 52, 3) := by decide +kernel
theorem dX3_grants_66 : decode cX3_grants 66 = .ok (.aload_n 0, 1) := by decide +kernel
theorem dX3_grants_67 : decode cX3_grants 67 = .ok (.getfield 9, 3) := by decide +kernel
theorem dX3_grants_70 : decode cX3_grants 70 = .ok (.iload 5, 2) := by decide +kernel
theorem dX3_grants_72 : decode cX3_grants 72 = .ok (.iaload, 1) := by decide +kernel
theorem dX3_grants_73 : decode cX3_grants 73 = .ok (.iload 6, 2) := by decide +kernel
theorem dX3_grants_75 : decode cX3_grants 75 = .ok (.iload 4, 2) := by decide +kernel
theorem dX3_grants_77 : decode cX3_grants 77 = .ok (.iadd, 1) := by decide +kernel
theorem dX3_grants_78 : decode cX3_grants 78 = .ok (.invokestatic 74, 3) := by decide +kernel
theorem dX3_grants_81 : decode cX3_grants 81 = .ok (.istore 6, 2) := by decide +kernel
theorem dX3_grants_83 : decode cX3_grants 83 = .ok (.iconst 0, 1) := by decide +kernel
theorem dX3_grants_84 : decode cX3_grants 84 = .ok (.iload 8, 2) := by decide +kernel
theorem dX3_grants_86 : decode cX3_grants 86 = .ok (.iconst 1, 1) := by decide +kernel
theorem dX3_grants_87 : decode cX3_grants 87 = .ok (.isub, 1) := by decide +kernel
theorem dX3_grants_88 : decode cX3_grants 88 = .ok (.invokestatic 94, 3) := by decide +kernel
theorem dX3_grants_91 : decode cX3_grants 91 = .ok (.istore 8, 2) := by decide +kernel
theorem dX3_grants_93 : decode cX3_grants 93 = .ok (.aload_n 0, 1) := by decide +kernel
theorem dX3_grants_94 : decode cX3_grants 94 = .ok (.getfield 51, 3) := by decide +kernel
theorem dX3_grants_97 : decode cX3_grants 97 = .ok (.iload 12, 2) := by decide +kernel
theorem dX3_grants_99 : decode cX3_grants 99 = .ok (.iadd, 1) := by decide +kernel
theorem dX3_grants_100 : decode cX3_grants 100 = .ok (.bipush 24, 2) := by decide +kernel
theorem dX3_grants_102 : decode cX3_grants 102 = .ok (.irem, 1) := by decide +kernel
theorem dX3_grants_103 : decode cX3_grants 103 = .ok (.ifCond .ne 12, 3) := by decide +kernel
theorem dX3_grants_106 : decode cX3_grants 106 = .ok (.aload_n 0, 1) := by decide +kernel
theorem dX3_grants_107 : decode cX3_grants 107 = .ok (.iload_n 1, 1) := by decide +kernel
theorem dX3_grants_108 : decode cX3_grants 108 = .ok (.iload 12, 2) := by decide +kernel
theorem dX3_grants_110 : decode cX3_grants 110 = .ok (.invokevirtual 100, 3) := by decide +kernel
theorem dX3_grants_113 : decode cX3_grants 113 = .ok (.istore 7, 2) := by decide +kernel
theorem dX3_grants_115 : decode cX3_grants 115 = .ok (.iload 8, 2) := by decide +kernel
theorem dX3_grants_117 : decode cX3_grants 117 = .ok (.ifCond .ne 51, 3) := by decide +kernel
theorem dX3_grants_120 : decode cX3_grants 120 = .ok (.iload 7, 2) := by decide +kernel
theorem dX3_grants_122 : decode cX3_grants 122 = .ok (.iload 6, 2) := by decide +kernel
theorem dX3_grants_124 : decode cX3_grants 124 = .ok (.iadd, 1) := by decide +kernel
theorem dX3_grants_125 : decode cX3_grants 125 = .ok (.iload_n 2, 1) := by decide +kernel
theorem dX3_grants_126 : decode cX3_grants 126 = .ok (.if_icmp .lt 42, 3) := by decide +kernel
theorem dX3_grants_129 : decode cX3_grants 129 = .ok (.iload 6, 2) := by decide +kernel
theorem dX3_grants_131 : decode cX3_grants 131 = .ok (.iconst 0, 1) := by decide +kernel
theorem dX3_grants_132 : decode cX3_grants 132 = .ok (.iload_n 2, 1) := by decide +kernel
theorem dX3_grants_133 : decode cX3_grants 133 = .ok (.iload 7, 2) := by decide +kernel
theorem dX3_grants_135 : decode cX3_grants 135 = .ok (.isub, 1) := by decide +kernel
theorem dX3_grants_136 : decode cX3_grants 136 = .ok (.invokestatic 94, 3) := by decide +kernel
theorem dX3_grants_139 : decode cX3_grants 139 = .ok (.isub, 1) := by decide +kernel
theorem dX3_grants_140 : decode cX3_grants 140 = .ok (.istore 6, 2) := by decide +kernel
theorem dX3_grants_142 : decode cX3_grants 142 = .ok (.iconst 0, 1) := by decide +kernel
theorem dX3_grants_143 : decode cX3_grants 143 = .ok (.iload 7, 2) := by decide +kernel
theorem dX3_grants_145 : decode cX3_grants 145 = .ok (.iload_n 2, 1) := by decide +kernel
theorem dX3_grants_146 : decode cX3_grants 146 = .ok (.isub, 1) := by decide +kernel
theorem dX3_grants_147 : decode cX3_grants 147 = .ok (.invokestatic 94, 3) := by decide +kernel
theorem dX3_grants_150 : decode cX3_grants 150 = .ok (.istore 7, 2) := by decide +kernel
theorem dX3_grants_152 : decode cX3_grants 152 = .ok (.iconst 0, 1) := by decide +kernel
theorem dX3_grants_153 : decode cX3_grants 153 = .ok (.iload 9, 2) := by decide +kernel
theorem dX3_grants_155 : decode cX3_grants 155 = .ok (.iconst 1, 1) := by decide +kernel
theorem dX3_grants_156 : decode cX3_grants 156 = .ok (.isub, 1) := by decide +kernel
theorem dX3_grants_157 : decode cX3_grants 157 = .ok (.invokestatic 94, 3) := by decide +kernel
theorem dX3_grants_160 : decode cX3_grants 160 = .ok (.istore 9, 2) := by decide +kernel
theorem dX3_grants_162 : decode cX3_grants 162 = .ok (.iinc 11 1, 3) := by decide +kernel
theorem dX3_grants_165 : decode cX3_grants 165 = .ok (.goto 52, 3) := by decide +kernel
theorem dX3_grants_168 : decode cX3_grants 168 = .ok (.iload 8, 2) := by decide +kernel
theorem dX3_grants_170 : decode cX3_grants 170 = .ok (.ifCond .le 17, 3) := by decide +kernel
theorem dX3_grants_173 : decode cX3_grants 173 = .ok (.bipush 48, 2) := by decide +kernel
theorem dX3_grants_175 : decode cX3_grants 175 = .ok (.iload 8, 2) := by decide +kernel
theorem dX3_grants_177 : decode cX3_grants 177 = .ok (.iconst 1, 1) := by decide +kernel
theorem dX3_grants_178 : decode cX3_grants 178 = .ok (.iadd, 1) := by decide +kernel
theorem dX3_grants_179 : decode cX3_grants 179 = .ok (.invokestatic 74, 3) := by decide +kernel
theorem dX3_grants_182 : decode cX3_grants 182 = .ok (.istore 8, 2) := by decide +kernel
theorem dX3_grants_184 : decode cX3_grants 184 = .ok (.goto 33, 3) := by decide +kernel
theorem dX3_grants_187 : decode cX3_grants 187 = .ok (.iload 9, 2) := by decide +kernel
theorem dX3_grants_189 : decode cX3_grants 189 = .ok (.iconst 2, 1) := by decide +kernel
theorem dX3_grants_190 : decode cX3_grants 190 = .ok (.if_icmp .ge 9, 3) := by decide +kernel
theorem dX3_grants_193 : decode cX3_grants 193 = .ok (.iinc 9 1, 3) := by decide +kernel
theorem dX3_grants_196 : decode cX3_grants 196 = .ok (.goto 21, 3) := by decide +kernel
theorem dX3_grants_199 : decode cX3_grants 199 = .ok (.iconst 0, 1) := by decide +kernel
theorem dX3_grants_200 : decode cX3_grants 200 = .ok (.istore 9, 2) := by decide +kernel
theorem dX3_grants_202 : decode cX3_grants 202 = .ok (.iload 10, 2) := by decide +kernel
theorem dX3_grants_204 : decode cX3_grants 204 = .ok (.istore 8, 2) := by decide +kernel
theorem dX3_grants_206 : decode cX3_grants 206 = .ok (.bipush 32, 2) := by decide +kernel
theorem dX3_grants_208 : decode cX3_grants 208 = .ok (.iconst 2, 1) := by decide +kernel
theorem dX3_grants_209 : decode cX3_grants 209 = .ok (.iload 10, 2) := by decide +kernel
theorem dX3_grants_211 : decode cX3_grants 211 = .ok (.imul, 1) := by decide +kernel
theorem dX3_grants_212 : decode cX3_grants 212 = .ok (.invokestatic 74, 3) := by decide +kernel
theorem dX3_grants_215 : decode cX3_grants 215 = .ok (.istore 10, 2) := by decide +kernel
theorem dX3_grants_217 : decode cX3_grants 217 = .ok (.iinc 12 1, 3) := by decide +kernel
theorem dX3_grants_220 : decode cX3_grants 220 = .ok (.goto (-165), 3) := by decide +kernel
theorem dX3_grants_223 : decode cX3_grants 223 = .ok (.iload 11, 2) := by decide +kernel
theorem dX3_grants_225 : decode cX3_grants 225 = .ok (.ireturn, 1) := by decide +kernel
theorem dX3_grantedIn_0 : decode cX3_grantedIn 0 = .ok (.aload_n 0, 1) := by decide +kernel
theorem dX3_grantedIn_1 : decode cX3_grantedIn 1 = .ok (.iconst 0, 1) := by decide +kernel
theorem dX3_grantedIn_2 : decode cX3_grantedIn 2 = .ok (.putfield 37, 3) := by decide +kernel
theorem dX3_grantedIn_5 : decode cX3_grantedIn 5 = .ok (.aload_n 0, 1) := by decide +kernel
theorem dX3_grantedIn_6 : decode cX3_grantedIn 6 = .ok (.iload_n 1, 1) := by decide +kernel
theorem dX3_grantedIn_7 : decode cX3_grantedIn 7 = .ok (.invokevirtual 65, 3) := by decide +kernel
theorem dX3_grantedIn_10 : decode cX3_grantedIn 10 = .ok (.ifCond .ne 9, 3) := by decide +kernel
theorem dX3_grantedIn_13 : decode cX3_grantedIn 13 = .ok (.aload_n 0, 1) := by decide +kernel
theorem dX3_grantedIn_14 : decode cX3_grantedIn 14 = .ok (.iconst 1, 1) := by decide +kernel
theorem dX3_grantedIn_15 : decode cX3_grantedIn 15 = .ok (.invokevirtual 58, 3) := by decide +kernel
theorem dX3_grantedIn_18 : decode cX3_grantedIn 18 = .ok (.ireturn, 1) := by decide +kernel
theorem dX3_grantedIn_19 : decode cX3_grantedIn 19 = .ok (.iload_n 2, 1) := by decide +kernel
theorem dX3_grantedIn_20 : decode cX3_grantedIn 20 = .ok (.invokestatic 83, 3) := by decide +kernel
theorem dX3_grantedIn_23 : decode cX3_grantedIn 23 = .ok (.ifCond .eq 34, 3) := by decide +kernel
theorem dX3_grantedIn_26 : decode cX3_grantedIn 26 = .ok (.iload_n 3, 1) := by decide +kernel
theorem dX3_grantedIn_27 : decode cX3_grantedIn 27 = .ok (.iconst 1, 1) := by decide +kernel
theorem dX3_grantedIn_28 : decode cX3_grantedIn 28 = .ok (.bipush 60, 2) := by decide +kernel
theorem dX3_grantedIn_30 : decode cX3_grantedIn 30 = .ok (.invokestatic 44, 3) := by decide +kernel
theorem dX3_grantedIn_33 : decode cX3_grantedIn 33 = .ok (.ifCond .eq 24, 3) := by decide +kernel
theorem dX3_grantedIn_36 : decode cX3_grantedIn 36 = .ok (.aload_n 0, 1) := by decide +kernel
theorem dX3_grantedIn_37 : decode cX3_grantedIn 37 = .ok (.iload_n 1, 1) := by decide +kernel
theorem dX3_grantedIn_38 : decode cX3_grantedIn 38 = .ok (.iload_n 2, 1) := by decide +kernel
theorem dX3_grantedIn_39 : decode cX3_grantedIn 39 = .ok (.iload_n 3, 1) := by decide +kernel
theorem dX3_grantedIn_40 : decode cX3_grantedIn 40 = .ok (.aload_n 0, 1) := by decide +kernel
theorem dX3_grantedIn_41 : decode cX3_grantedIn 41 = .ok (.getfield 13, 3) := by decide +kernel
theorem dX3_grantedIn_44 : decode cX3_grantedIn 44 = .ok (.aload_n 0, 1) := by decide +kernel
theorem dX3_grantedIn_45 : decode cX3_grantedIn 45 = .ok (.getfield 19, 3) := by decide +kernel
theorem dX3_grantedIn_48 : decode cX3_grantedIn 48 = .ok (.iload_n 1, 1) := by decide +kernel
theorem dX3_grantedIn_49 : decode cX3_grantedIn 49 = .ok (.iaload, 1) := by decide +kernel
theorem dX3_grantedIn_50 : decode cX3_grantedIn 50 = .ok (.iaload, 1) := by decide +kernel
theorem dX3_grantedIn_51 : decode cX3_grantedIn 51 = .ok (.invokevirtual 126, 3) := by decide +kernel
theorem dX3_grantedIn_54 : decode cX3_grantedIn 54 = .ok (.goto 8, 3) := by decide +kernel
theorem dX3_grantedIn_57 : decode cX3_grantedIn 57 = .ok (.aload_n 0, 1) := by decide +kernel
theorem dX3_grantedIn_58 : decode cX3_grantedIn 58 = .ok (.iconst 2, 1) := by decide +kernel
theorem dX3_grantedIn_59 : decode cX3_grantedIn 59 = .ok (.invokevirtual 58, 3) := by decide +kernel
theorem dX3_grantedIn_62 : decode cX3_grantedIn 62 = .ok (.ireturn, 1) := by decide +kernel
theorem dX3_wanted_0 : decode cX3_wanted 0 = .ok (.iconst 0, 1) := by decide +kernel
theorem dX3_wanted_1 : decode cX3_wanted 1 = .ok (.istore_n 3, 1) := by decide +kernel
theorem dX3_wanted_2 : decode cX3_wanted 2 = .ok (.iload_n 3, 1) := by decide +kernel
theorem dX3_wanted_3 : decode cX3_wanted 3 = .ok (.bipush 20, 2) := by decide +kernel
theorem dX3_wanted_5 : decode cX3_wanted 5 = .ok (.if_icmp .gt 25, 3) := by decide +kernel
theorem dX3_wanted_8 : decode cX3_wanted 8 = .ok (.aload_n 0, 1) := by decide +kernel
theorem dX3_wanted_9 : decode cX3_wanted 9 = .ok (.iload_n 1, 1) := by decide +kernel
theorem dX3_wanted_10 : decode cX3_wanted 10 = .ok (.iload_n 2, 1) := by decide +kernel
theorem dX3_wanted_11 : decode cX3_wanted 11 = .ok (.bipush 24, 2) := by decide +kernel
theorem dX3_wanted_13 : decode cX3_wanted 13 = .ok (.iload_n 3, 1) := by decide +kernel
theorem dX3_wanted_14 : decode cX3_wanted 14 = .ok (.invokevirtual 126, 3) := by decide +kernel
theorem dX3_wanted_17 : decode cX3_wanted 17 = .ok (.bipush 24, 2) := by decide +kernel
theorem dX3_wanted_19 : decode cX3_wanted 19 = .ok (.if_icmp .ne 5, 3) := by decide +kernel
theorem dX3_wanted_22 : decode cX3_wanted 22 = .ok (.iload_n 3, 1) := by decide +kernel
theorem dX3_wanted_23 : decode cX3_wanted 23 = .ok (.ireturn, 1) := by decide +kernel
theorem dX3_wanted_24 : decode cX3_wanted 24 = .ok (.iinc 3 1, 3) := by decide +kernel
theorem dX3_wanted_27 : decode cX3_wanted 27 = .ok (.goto (-25), 3) := by decide +kernel
theorem dX3_wanted_30 : decode cX3_wanted 30 = .ok (.iconst (-1), 1) := by decide +kernel
theorem dX3_wanted_31 : decode cX3_wanted 31 = .ok (.ireturn, 1) := by decide +kernel
theorem dX3_fallWanted_0 : decode cX3_fallWanted 0 = .ok (.aload_n 0, 1) := by decide +kernel
theorem dX3_fallWanted_1 : decode cX3_fallWanted 1 = .ok (.iconst 0, 1) := by decide +kernel
theorem dX3_fallWanted_2 : decode cX3_fallWanted 2 = .ok (.putfield 37, 3) := by decide +kernel
theorem dX3_fallWanted_5 : decode cX3_fallWanted 5 = .ok (.aload_n 0, 1) := by decide +kernel
theorem dX3_fallWanted_6 : decode cX3_fallWanted 6 = .ok (.iload_n 1, 1) := by decide +kernel
theorem dX3_fallWanted_7 : decode cX3_fallWanted 7 = .ok (.invokevirtual 65, 3) := by decide +kernel
theorem dX3_fallWanted_10 : decode cX3_fallWanted 10 = .ok (.ifCond .ne 9, 3) := by decide +kernel
theorem dX3_fallWanted_13 : decode cX3_fallWanted 13 = .ok (.aload_n 0, 1) := by decide +kernel
theorem dX3_fallWanted_14 : decode cX3_fallWanted 14 = .ok (.iconst 1, 1) := by decide +kernel
theorem dX3_fallWanted_15 : decode cX3_fallWanted 15 = .ok (.invokevirtual 58, 3) := by decide +kernel
theorem dX3_fallWanted_18 : decode cX3_fallWanted 18 = .ok (.ireturn, 1) := by decide +kernel
theorem dX3_fallWanted_19 : decode cX3_fallWanted 19 = .ok (.iload_n 2, 1) := by decide +kernel
theorem dX3_fallWanted_20 : decode cX3_fallWanted 20 = .ok (.invokestatic 83, 3) := by decide +kernel
theorem dX3_fallWanted_23 : decode cX3_fallWanted 23 = .ok (.ifCond .eq 12, 3) := by decide +kernel
theorem dX3_fallWanted_26 : decode cX3_fallWanted 26 = .ok (.aload_n 0, 1) := by decide +kernel
theorem dX3_fallWanted_27 : decode cX3_fallWanted 27 = .ok (.iload_n 1, 1) := by decide +kernel
theorem dX3_fallWanted_28 : decode cX3_fallWanted 28 = .ok (.iload_n 2, 1) := by decide +kernel
theorem dX3_fallWanted_29 : decode cX3_fallWanted 29 = .ok (.invokevirtual 130, 3) := by decide +kernel
theorem dX3_fallWanted_32 : decode cX3_fallWanted 32 = .ok (.goto 8, 3) := by decide +kernel
theorem dX3_fallWanted_35 : decode cX3_fallWanted 35 = .ok (.aload_n 0, 1) := by decide +kernel
theorem dX3_fallWanted_36 : decode cX3_fallWanted 36 = .ok (.iconst 2, 1) := by decide +kernel
theorem dX3_fallWanted_37 : decode cX3_fallWanted 37 = .ok (.invokevirtual 58, 3) := by decide +kernel
theorem dX3_fallWanted_40 : decode cX3_fallWanted 40 = .ok (.ireturn, 1) := by decide +kernel
theorem dX3_untilFull_0 : decode cX3_untilFull 0 = .ok (.aload_n 0, 1) := by decide +kernel
theorem dX3_untilFull_1 : decode cX3_untilFull 1 = .ok (.getfield 9, 3) := by decide +kernel
theorem dX3_untilFull_4 : decode cX3_untilFull 4 = .ok (.iload_n 1, 1) := by decide +kernel
theorem dX3_untilFull_5 : decode cX3_untilFull 5 = .ok (.iaload, 1) := by decide +kernel
theorem dX3_untilFull_6 : decode cX3_untilFull 6 = .ok (.aload_n 0, 1) := by decide +kernel
theorem dX3_untilFull_7 : decode cX3_untilFull 7 = .ok (.getfield 16, 3) := by decide +kernel
theorem dX3_untilFull_10 : decode cX3_untilFull 10 = .ok (.iload_n 1, 1) := by decide +kernel
theorem dX3_untilFull_11 : decode cX3_untilFull 11 = .ok (.iaload, 1) := by decide +kernel
theorem dX3_untilFull_12 : decode cX3_untilFull 12 = .ok (.isub, 1) := by decide +kernel
theorem dX3_untilFull_13 : decode cX3_untilFull 13 = .ok (.istore_n 2, 1) := by decide +kernel
theorem dX3_untilFull_14 : decode cX3_untilFull 14 = .ok (.iload_n 2, 1) := by decide +kernel
theorem dX3_untilFull_15 : decode cX3_untilFull 15 = .ok (.ifCond .ne 5, 3) := by decide +kernel
theorem dX3_untilFull_18 : decode cX3_untilFull 18 = .ok (.iconst 0, 1) := by decide +kernel
theorem dX3_untilFull_19 : decode cX3_untilFull 19 = .ok (.ireturn, 1) := by decide +kernel
theorem dX3_untilFull_20 : decode cX3_untilFull 20 = .ok (.aload_n 0, 1) := by decide +kernel
theorem dX3_untilFull_21 : decode cX3_untilFull 21 = .ok (.getfield 13, 3) := by decide +kernel
theorem dX3_untilFull_24 : decode cX3_untilFull 24 = .ok (.iload_n 1, 1) := by decide +kernel
theorem dX3_untilFull_25 : decode cX3_untilFull 25 = .ok (.iaload, 1) := by decide +kernel
theorem dX3_untilFull_26 : decode cX3_untilFull 26 = .ok (.ifCond .ne 7, 3) := by decide +kernel
theorem dX3_untilFull_29 : decode cX3_untilFull 29 = .ok (.iconst (-1), 1) := by decide +kernel
theorem dX3_untilFull_30 : decode cX3_untilFull 30 = .ok (.goto 20, 3) := by decide +kernel
theorem dX3_untilFull_33 : decode cX3_untilFull 33 = .ok (.iload_n 2, 1) := by decide +kernel
theorem dX3_untilFull_34 : decode cX3_untilFull 34 = .ok (.aload_n 0, 1) := by decide +kernel
theorem dX3_untilFull_35 : decode cX3_untilFull 35 = .ok (.getfield 13, 3) := by decide +kernel
theorem dX3_untilFull_38 : decode cX3_untilFull 38 = .ok (.iload_n 1, 1) := by decide +kernel
theorem dX3_untilFull_39 : decode cX3_untilFull 39 = .ok (.iaload, 1) := by decide +kernel
theorem dX3_untilFull_40 : decode cX3_untilFull 40 = .ok (.iadd, 1) := by decide +kernel
theorem dX3_untilFull_41 : decode cX3_untilFull 41 = .ok (.iconst 1, 1) := by decide +kernel
theorem dX3_untilFull_42 : decode cX3_untilFull 42 = .ok (.isub, 1) := by decide +kernel
theorem dX3_untilFull_43 : decode cX3_untilFull 43 = .ok (.aload_n 0, 1) := by decide +kernel
theorem dX3_untilFull_44 : decode cX3_untilFull 44 = .ok (.getfield 13, 3) := by decide +kernel
theorem dX3_untilFull_47 : decode cX3_untilFull 47 = .ok (.iload_n 1, 1) := by decide +kernel
theorem dX3_untilFull_48 : decode cX3_untilFull 48 = .ok (.iaload, 1) := by decide +kernel
theorem dX3_untilFull_49 : decode cX3_untilFull 49 = .ok (.idiv, 1) := by decide +kernel
theorem dX3_untilFull_50 : decode cX3_untilFull 50 = .ok (.ireturn, 1) := by decide +kernel
theorem dX3_hoursUntilFull_0 : decode cX3_hoursUntilFull 0 = .ok (.aload_n 0, 1) := by decide +kernel
theorem dX3_hoursUntilFull_1 : decode cX3_hoursUntilFull 1 = .ok (.iconst 0, 1) := by decide +kernel
theorem dX3_hoursUntilFull_2 : decode cX3_hoursUntilFull 2 = .ok (.putfield 37, 3) := by decide +kernel
theorem dX3_hoursUntilFull_5 : decode cX3_hoursUntilFull 5 = .ok (.aload_n 0, 1) := by decide +kernel
theorem dX3_hoursUntilFull_6 : decode cX3_hoursUntilFull 6 = .ok (.iload_n 1, 1) := by decide +kernel
theorem dX3_hoursUntilFull_7 : decode cX3_hoursUntilFull 7 = .ok (.invokevirtual 61, 3) := by decide +kernel
theorem dX3_hoursUntilFull_10 : decode cX3_hoursUntilFull 10 = .ok (.ifCond .eq 11, 3) := by decide +kernel
theorem dX3_hoursUntilFull_13 : decode cX3_hoursUntilFull 13 = .ok (.aload_n 0, 1) := by decide +kernel
theorem dX3_hoursUntilFull_14 : decode cX3_hoursUntilFull 14 = .ok (.iload_n 1, 1) := by decide +kernel
theorem dX3_hoursUntilFull_15 : decode cX3_hoursUntilFull 15 = .ok (.invokevirtual 133, 3) := by decide +kernel
theorem dX3_hoursUntilFull_18 : decode cX3_hoursUntilFull 18 = .ok (.goto 8, 3) := by decide +kernel
theorem dX3_hoursUntilFull_21 : decode cX3_hoursUntilFull 21 = .ok (.aload_n 0, 1) := by decide +kernel
theorem dX3_hoursUntilFull_22 : decode cX3_hoursUntilFull 22 = .ok (.iconst 1, 1) := by decide +kernel
theorem dX3_hoursUntilFull_23 : decode cX3_hoursUntilFull 23 = .ok (.invokevirtual 58, 3) := by decide +kernel
theorem dX3_hoursUntilFull_26 : decode cX3_hoursUntilFull 26 = .ok (.ireturn, 1) := by decide +kernel
theorem dX3_leaves_0 : decode cX3_leaves 0 = .ok (.aload_n 0, 1) := by decide +kernel
theorem dX3_leaves_1 : decode cX3_leaves 1 = .ok (.getfield 16, 3) := by decide +kernel
theorem dX3_leaves_4 : decode cX3_leaves 4 = .ok (.aload_n 0, 1) := by decide +kernel
theorem dX3_leaves_5 : decode cX3_leaves 5 = .ok (.getfield 19, 3) := by decide +kernel
theorem dX3_leaves_8 : decode cX3_leaves 8 = .ok (.iload_n 1, 1) := by decide +kernel
theorem dX3_leaves_9 : decode cX3_leaves 9 = .ok (.iaload, 1) := by decide +kernel
theorem dX3_leaves_10 : decode cX3_leaves 10 = .ok (.iaload, 1) := by decide +kernel
theorem dX3_leaves_11 : decode cX3_leaves 11 = .ok (.iconst 0, 1) := by decide +kernel
theorem dX3_leaves_12 : decode cX3_leaves 12 = .ok (.iload_n 2, 1) := by decide +kernel
theorem dX3_leaves_13 : decode cX3_leaves 13 = .ok (.aload_n 0, 1) := by decide +kernel
theorem dX3_leaves_14 : decode cX3_leaves 14 = .ok (.getfield 25, 3) := by decide +kernel
theorem dX3_leaves_17 : decode cX3_leaves 17 = .ok (.iload_n 1, 1) := by decide +kernel
theorem dX3_leaves_18 : decode cX3_leaves 18 = .ok (.iaload, 1) := by decide +kernel
theorem dX3_leaves_19 : decode cX3_leaves 19 = .ok (.isub, 1) := by decide +kernel
theorem dX3_leaves_20 : decode cX3_leaves 20 = .ok (.invokestatic 94, 3) := by decide +kernel
theorem dX3_leaves_23 : decode cX3_leaves 23 = .ok (.isub, 1) := by decide +kernel
theorem dX3_leaves_24 : decode cX3_leaves 24 = .ok (.ireturn, 1) := by decide +kernel
theorem dX3_best_0 : decode cX3_best 0 = .ok (.iconst (-1), 1) := by decide +kernel
theorem dX3_best_1 : decode cX3_best 1 = .ok (.istore_n 2, 1) := by decide +kernel
theorem dX3_best_2 : decode cX3_best 2 = .ok (.iconst 0, 1) := by decide +kernel
theorem dX3_best_3 : decode cX3_best 3 = .ok (.istore_n 3, 1) := by decide +kernel
theorem dX3_best_4 : decode cX3_best 4 = .ok (.iload_n 3, 1) := by decide +kernel
theorem dX3_best_5 : decode cX3_best 5 = .ok (.aload_n 0, 1) := by decide +kernel
theorem dX3_best_6 : decode cX3_best 6 = .ok (.getfield 48, 3) := by decide +kernel
theorem dX3_best_9 : decode cX3_best 9 = .ok (.if_icmp .ge 40, 3) := by decide +kernel
theorem dX3_best_12 : decode cX3_best 12 = .ok (.aload_n 0, 1) := by decide +kernel
theorem dX3_best_13 : decode cX3_best 13 = .ok (.iload_n 3, 1) := by decide +kernel
theorem dX3_best_14 : decode cX3_best 14 = .ok (.iload_n 1, 1) := by decide +kernel
theorem dX3_best_15 : decode cX3_best 15 = .ok (.invokevirtual 86, 3) := by decide +kernel
theorem dX3_best_18 : decode cX3_best 18 = .ok (.ifCond .eq 25, 3) := by decide +kernel
theorem dX3_best_21 : decode cX3_best 21 = .ok (.iload_n 2, 1) := by decide +kernel
theorem dX3_best_22 : decode cX3_best 22 = .ok (.iconst (-1), 1) := by decide +kernel
theorem dX3_best_23 : decode cX3_best 23 = .ok (.if_icmp .eq 18, 3) := by decide +kernel
theorem dX3_best_26 : decode cX3_best 26 = .ok (.aload_n 0, 1) := by decide +kernel
theorem dX3_best_27 : decode cX3_best 27 = .ok (.iload_n 3, 1) := by decide +kernel
theorem dX3_best_28 : decode cX3_best 28 = .ok (.iload_n 1, 1) := by decide +kernel
theorem dX3_best_29 : decode cX3_best 29 = .ok (.invokevirtual 136, 3) := by decide +kernel
theorem dX3_best_32 : decode cX3_best 32 = .ok (.aload_n 0, 1) := by decide +kernel
theorem dX3_best_33 : decode cX3_best 33 = .ok (.iload_n 2, 1) := by decide +kernel
theorem dX3_best_34 : decode cX3_best 34 = .ok (.iload_n 1, 1) := by decide +kernel
theorem dX3_best_35 : decode cX3_best 35 = .ok (.invokevirtual 136, 3) := by decide +kernel
theorem dX3_best_38 : decode cX3_best 38 = .ok (.if_icmp .le 5, 3) := by decide +kernel
theorem dX3_best_41 : decode cX3_best 41 = .ok (.iload_n 3, 1) := by decide +kernel
theorem dX3_best_42 : decode cX3_best 42 = .ok (.istore_n 2, 1) := by decide +kernel
theorem dX3_best_43 : decode cX3_best 43 = .ok (.iinc 3 1, 3) := by decide +kernel
theorem dX3_best_46 : decode cX3_best 46 = .ok (.goto (-42), 3) := by decide +kernel
theorem dX3_best_49 : decode cX3_best 49 = .ok (.iload_n 2, 1) := by decide +kernel
theorem dX3_best_50 : decode cX3_best 50 = .ok (.ireturn, 1) := by decide +kernel
theorem dX3_bestChild_0 : decode cX3_bestChild 0 = .ok (.aload_n 0, 1) := by decide +kernel
theorem dX3_bestChild_1 : decode cX3_bestChild 1 = .ok (.iconst 0, 1) := by decide +kernel
theorem dX3_bestChild_2 : decode cX3_bestChild 2 = .ok (.putfield 37, 3) := by decide +kernel
theorem dX3_bestChild_5 : decode cX3_bestChild 5 = .ok (.iload_n 1, 1) := by decide +kernel
theorem dX3_bestChild_6 : decode cX3_bestChild 6 = .ok (.invokestatic 83, 3) := by decide +kernel
theorem dX3_bestChild_9 : decode cX3_bestChild 9 = .ok (.ifCond .eq 11, 3) := by decide +kernel
theorem dX3_bestChild_12 : decode cX3_bestChild 12 = .ok (.aload_n 0, 1) := by decide +kernel
theorem dX3_bestChild_13 : decode cX3_bestChild 13 = .ok (.iload_n 1, 1) := by decide +kernel
theorem dX3_bestChild_14 : decode cX3_bestChild 14 = .ok (.invokevirtual 139, 3) := by decide +kernel
theorem dX3_bestChild_17 : decode cX3_bestChild 17 = .ok (.goto 8, 3) := by decide +kernel
theorem dX3_bestChild_20 : decode cX3_bestChild 20 = .ok (.aload_n 0, 1) := by decide +kernel
theorem dX3_bestChild_21 : decode cX3_bestChild 21 = .ok (.iconst 1, 1) := by decide +kernel
theorem dX3_bestChild_22 : decode cX3_bestChild 22 = .ok (.invokevirtual 58, 3) := by decide +kernel
theorem dX3_bestChild_25 : decode cX3_bestChild 25 = .ok (.ireturn, 1) := by decide +kernel
theorem dX3_share_0 : decode cX3_share 0 = .ok (.aload_n 0, 1) := by decide +kernel
theorem dX3_share_1 : decode cX3_share 1 = .ok (.iconst 0, 1) := by decide +kernel
theorem dX3_share_2 : decode cX3_share 2 = .ok (.putfield 37, 3) := by decide +kernel
theorem dX3_share_5 : decode cX3_share 5 = .ok (.aload_n 0, 1) := by decide +kernel
theorem dX3_share_6 : decode cX3_share 6 = .ok (.getfield 97, 3) := by decide +kernel
theorem dX3_share_9 : decode cX3_share 9 = .ok (.aload_n 0, 1) := by decide +kernel
theorem dX3_share_10 : decode cX3_share 10 = .ok (.getfield 71, 3) := by decide +kernel
theorem dX3_share_13 : decode cX3_share 13 = .ok (.iadd, 1) := by decide +kernel
theorem dX3_share_14 : decode cX3_share 14 = .ok (.istore_n 1, 1) := by decide +kernel
theorem dX3_share_15 : decode cX3_share 15 = .ok (.iload_n 1, 1) := by decide +kernel
theorem dX3_share_16 : decode cX3_share 16 = .ok (.ifCond .ne 7, 3) := by decide +kernel
theorem dX3_share_19 : decode cX3_share 19 = .ok (.dconst 0, 1) := by decide +kernel
theorem dX3_share_20 : decode cX3_share 20 = .ok (.goto 11, 3) := by decide +kernel
theorem dX3_share_23 : decode cX3_share 23 = .ok (.aload_n 0, 1) := by decide +kernel
theorem dX3_share_24 : decode cX3_share 24 = .ok (.getfield 97, 3) := by decide +kernel
theorem dX3_share_27 : decode cX3_share 27 = .ok (.i2d, 1) := by decide +kernel
theorem dX3_share_28 : decode cX3_share 28 = .ok (.iload_n 1, 1) := by decide +kernel
theorem dX3_share_29 : decode cX3_share 29 = .ok (.i2d, 1) := by decide +kernel
theorem dX3_share_30 : decode cX3_share 30 = .ok (.ddiv, 1) := by decide +kernel
theorem dX3_share_31 : decode cX3_share 31 = .ok (.dreturn, 1) := by decide +kernel
theorem dX3_digest_0 : decode cX3_digest 0 = .ok (.aload_n 0, 1) := by decide +kernel
theorem dX3_digest_1 : decode cX3_digest 1 = .ok (.iconst 0, 1) := by decide +kernel
theorem dX3_digest_2 : decode cX3_digest 2 = .ok (.putfield 37, 3) := by decide +kernel
theorem dX3_digest_5 : decode cX3_digest 5 = .ok (.bipush 8, 2) := by decide +kernel
theorem dX3_digest_7 : decode cX3_digest 7 = .ok (.newarray .int, 2) := by decide +kernel
theorem dX3_digest_9 : decode cX3_digest 9 = .ok (.dup, 1) := by decide +kernel
theorem dX3_digest_10 : decode cX3_digest 10 = .ok (.iconst 0, 1) := by decide +kernel
theorem dX3_digest_11 : decode cX3_digest 11 = .ok (.aload_n 0, 1) := by decide +kernel
theorem dX3_digest_12 : decode cX3_digest 12 = .ok (.getfield 51, 3) := by decide +kernel
theorem dX3_digest_15 : decode cX3_digest 15 = .ok (.iastore, 1) := by decide +kernel
theorem dX3_digest_16 : decode cX3_digest 16 = .ok (.dup, 1) := by decide +kernel
theorem dX3_digest_17 : decode cX3_digest 17 = .ok (.iconst 1, 1) := by decide +kernel
theorem dX3_digest_18 : decode cX3_digest 18 = .ok (.aload_n 0, 1) := by decide +kernel
theorem dX3_digest_19 : decode cX3_digest 19 = .ok (.getfield 51, 3) := by decide +kernel
theorem dX3_digest_22 : decode cX3_digest 22 = .ok (.invokestatic 54, 3) := by decide +kernel
theorem dX3_digest_25 : decode cX3_digest 25 = .ok (.iastore, 1) := by decide +kernel
theorem dX3_digest_26 : decode cX3_digest 26 = .ok (.dup, 1) := by decide +kernel
theorem dX3_digest_27 : decode cX3_digest 27 = .ok (.iconst 2, 1) := by decide +kernel
theorem dX3_digest_28 : decode cX3_digest 28 = .ok (.aload_n 0, 1) := by decide +kernel
theorem dX3_digest_29 : decode cX3_digest 29 = .ok (.getfield 41, 3) := by decide +kernel
theorem dX3_digest_32 : decode cX3_digest 32 = .ok (.iastore, 1) := by decide +kernel
theorem dX3_digest_33 : decode cX3_digest 33 = .ok (.dup, 1) := by decide +kernel
theorem dX3_digest_34 : decode cX3_digest 34 = .ok (.iconst 3, 1) := by decide +kernel
theorem dX3_digest_35 : decode cX3_digest 35 = .ok (.aload_n 0, 1) := by decide +kernel
theorem dX3_digest_36 : decode cX3_digest 36 = .ok (.getfield 48, 3) := by decide +kernel
theorem dX3_digest_39 : decode cX3_digest 39 = .ok (.iastore, 1) := by decide +kernel
theorem dX3_digest_40 : decode cX3_digest 40 = .ok (.dup, 1) := by decide +kernel
theorem dX3_digest_41 : decode cX3_digest 41 = .ok (.iconst 4, 1) := by decide +kernel
theorem dX3_digest_42 : decode cX3_digest 42 = .ok (.aload_n 0, 1) := by decide +kernel
theorem dX3_digest_43 : decode cX3_digest 43 = .ok (.getfield 97, 3) := by decide +kernel
theorem dX3_digest_46 : decode cX3_digest 46 = .ok (.iastore, 1) := by decide +kernel
theorem dX3_digest_47 : decode cX3_digest 47 = .ok (.dup, 1) := by decide +kernel
theorem dX3_digest_48 : decode cX3_digest 48 = .ok (.iconst 5, 1) := by decide +kernel
theorem dX3_digest_49 : decode cX3_digest 49 = .ok (.aload_n 0, 1) := by decide +kernel
theorem dX3_digest_50 : decode cX3_digest 50 = .ok (.getfield 71, 3) := by decide +kernel
theorem dX3_digest_53 : decode cX3_digest 53 = .ok (.iastore, 1) := by decide +kernel
theorem dX3_digest_54 : decode cX3_digest 54 = .ok (.dup, 1) := by decide +kernel
theorem dX3_digest_55 : decode cX3_digest 55 = .ok (.bipush 6, 2) := by decide +kernel
theorem dX3_digest_57 : decode cX3_digest 57 = .ok (.aload_n 0, 1) := by decide +kernel
theorem dX3_digest_58 : decode cX3_digest 58 = .ok (.invokevirtual 106, 3) := by decide +kernel
theorem dX3_digest_61 : decode cX3_digest 61 = .ok (.iastore, 1) := by decide +kernel
theorem dX3_digest_62 : decode cX3_digest 62 = .ok (.dup, 1) := by decide +kernel
theorem dX3_digest_63 : decode cX3_digest 63 = .ok (.bipush 7, 2) := by decide +kernel
theorem dX3_digest_65 : decode cX3_digest 65 = .ok (.aload_n 0, 1) := by decide +kernel
theorem dX3_digest_66 : decode cX3_digest 66 = .ok (.iconst 5, 1) := by decide +kernel
theorem dX3_digest_67 : decode cX3_digest 67 = .ok (.invokevirtual 139, 3) := by decide +kernel
theorem dX3_digest_70 : decode cX3_digest 70 = .ok (.iastore, 1) := by decide +kernel
theorem dX3_digest_71 : decode cX3_digest 71 = .ok (.astore_n 1, 1) := by decide +kernel
theorem dX3_digest_72 : decode cX3_digest 72 = .ok (.ldc2_w 142, 3) := by decide +kernel
theorem dX3_digest_75 : decode cX3_digest 75 = .ok (.lstore_n 2, 1) := by decide +kernel
theorem dX3_digest_76 : decode cX3_digest 76 = .ok (.aload_n 1, 1) := by decide +kernel
theorem dX3_digest_77 : decode cX3_digest 77 = .ok (.astore 4, 2) := by decide +kernel
theorem dX3_digest_79 : decode cX3_digest 79 = .ok (.aload 4, 2) := by decide +kernel
theorem dX3_digest_81 : decode cX3_digest 81 = .ok (.arraylength, 1) := by decide +kernel
theorem dX3_digest_82 : decode cX3_digest 82 = .ok (.istore 5, 2) := by decide +kernel
theorem dX3_digest_84 : decode cX3_digest 84 = .ok (.iconst 0, 1) := by decide +kernel
theorem dX3_digest_85 : decode cX3_digest 85 = .ok (.istore 6, 2) := by decide +kernel
theorem dX3_digest_87 : decode cX3_digest 87 = .ok (.iload 6, 2) := by decide +kernel
theorem dX3_digest_89 : decode cX3_digest 89 = .ok (.iload 5, 2) := by decide +kernel
theorem dX3_digest_91 : decode cX3_digest 91 = .ok (.if_icmp .ge 26, 3) := by decide +kernel
theorem dX3_digest_94 : decode cX3_digest 94 = .ok (.aload 4, 2) := by decide +kernel
theorem dX3_digest_96 : decode cX3_digest 96 = .ok (.iload 6, 2) := by decide +kernel
theorem dX3_digest_98 : decode cX3_digest 98 = .ok (.iaload, 1) := by decide +kernel
theorem dX3_digest_99 : decode cX3_digest 99 = .ok (.istore 7, 2) := by decide +kernel
theorem dX3_digest_101 : decode cX3_digest 101 = .ok (.lload_n 2, 1) := by decide +kernel
theorem dX3_digest_102 : decode cX3_digest 102 = .ok (.ldc2_w 144, 3) := by decide +kernel
theorem dX3_digest_105 : decode cX3_digest 105 = .ok (.lmul, 1) := by decide +kernel
theorem dX3_digest_106 : decode cX3_digest 106 = .ok (.iload 7, 2) := by decide +kernel
theorem dX3_digest_108 : decode cX3_digest 108 = .ok (.i2l, 1) := by decide +kernel
theorem dX3_digest_109 : decode cX3_digest 109 = .ok (.ladd, 1) := by decide +kernel
theorem dX3_digest_110 : decode cX3_digest 110 = .ok (.lstore_n 2, 1) := by decide +kernel
theorem dX3_digest_111 : decode cX3_digest 111 = .ok (.iinc 6 1, 3) := by decide +kernel
theorem dX3_digest_114 : decode cX3_digest 114 = .ok (.goto (-27), 3) := by decide +kernel
theorem dX3_digest_117 : decode cX3_digest 117 = .ok (.iconst 0, 1) := by decide +kernel
theorem dX3_digest_118 : decode cX3_digest 118 = .ok (.istore 4, 2) := by decide +kernel
theorem dX3_digest_120 : decode cX3_digest 120 = .ok (.iload 4, 2) := by decide +kernel
theorem dX3_digest_122 : decode cX3_digest 122 = .ok (.aload_n 0, 1) := by decide +kernel
theorem dX3_digest_123 : decode cX3_digest 123 = .ok (.getfield 41, 3) := by decide +kernel
theorem dX3_digest_126 : decode cX3_digest 126 = .ok (.if_icmp .ge 48, 3) := by decide +kernel
theorem dX3_digest_129 : decode cX3_digest 129 = .ok (.lload_n 2, 1) := by decide +kernel
theorem dX3_digest_130 : decode cX3_digest 130 = .ok (.ldc2_w 144, 3) := by decide +kernel
theorem dX3_digest_133 : decode cX3_digest 133 = .ok (.lmul, 1) := by decide +kernel
theorem dX3_digest_134 : decode cX3_digest 134 = .ok (.aload_n 0, 1) := by decide +kernel
theorem dX3_digest_135 : decode cX3_digest 135 = .ok (.getfield 16, 3) := by decide +kernel
theorem dX3_digest_138 : decode cX3_digest 138 = .ok (.iload 4, 2) := by decide +kernel
theorem dX3_digest_140 : decode cX3_digest 140 = .ok (.iaload, 1) := by decide +kernel
theorem dX3_digest_141 : decode cX3_digest 141 = .ok (.i2l, 1) := by decide +kernel
theorem dX3_digest_142 : decode cX3_digest 142 = .ok (.ladd, 1) := by decide +kernel
theorem dX3_digest_143 : decode cX3_digest 143 = .ok (.ldc2_w 144, 3) := by decide +kernel
theorem dX3_digest_146 : decode cX3_digest 146 = .ok (.lmul, 1) := by decide +kernel
theorem dX3_digest_147 : decode cX3_digest 147 = .ok (.aload_n 0, 1) := by decide +kernel
theorem dX3_digest_148 : decode cX3_digest 148 = .ok (.iload 4, 2) := by decide +kernel
theorem dX3_digest_150 : decode cX3_digest 150 = .ok (.invokevirtual 110, 3) := by decide +kernel
theorem dX3_digest_153 : decode cX3_digest 153 = .ok (.i2l, 1) := by decide +kernel
theorem dX3_digest_154 : decode cX3_digest 154 = .ok (.ladd, 1) := by decide +kernel
theorem dX3_digest_155 : decode cX3_digest 155 = .ok (.ldc2_w 144, 3) := by decide +kernel
theorem dX3_digest_158 : decode cX3_digest 158 = .ok (.lmul, 1) := by decide +kernel
theorem dX3_digest_159 : decode cX3_digest 159 = .ok (.aload_n 0, 1) := by decide +kernel
theorem dX3_digest_160 : decode cX3_digest 160 = .ok (.iload 4, 2) := by decide +kernel
theorem dX3_digest_162 : decode cX3_digest 162 = .ok (.invokevirtual 133, 3) := by decide +kernel
theorem dX3_digest_165 : decode cX3_digest 165 = .ok (.i2l, 1) := by decide +kernel
theorem dX3_digest_166 : decode cX3_digest 166 = .ok (.ladd, 1) := by decide +kernel
theorem dX3_digest_167 : decode cX3_digest 167 = .ok (.lstore_n 2, 1) := by decide +kernel
theorem dX3_digest_168 : decode cX3_digest 168 = .ok (.iinc 4 1, 3) := by decide +kernel
theorem dX3_digest_171 : decode cX3_digest 171 = .ok (.goto (-51), 3) := by decide +kernel
theorem dX3_digest_174 : decode cX3_digest 174 = .ok (.iconst 0, 1) := by decide +kernel
theorem dX3_digest_175 : decode cX3_digest 175 = .ok (.istore 4, 2) := by decide +kernel
theorem dX3_digest_177 : decode cX3_digest 177 = .ok (.iload 4, 2) := by decide +kernel
theorem dX3_digest_179 : decode cX3_digest 179 = .ok (.aload_n 0, 1) := by decide +kernel
theorem dX3_digest_180 : decode cX3_digest 180 = .ok (.getfield 48, 3) := by decide +kernel
theorem dX3_digest_183 : decode cX3_digest 183 = .ok (.if_icmp .ge 174, 3) := by decide +kernel
theorem dX3_digest_186 : decode cX3_digest 186 = .ok (.bipush 10, 2) := by decide +kernel
theorem dX3_digest_188 : decode cX3_digest 188 = .ok (.newarray .int, 2) := by decide +kernel
theorem dX3_digest_190 : decode cX3_digest 190 = .ok (.dup, 1) := by decide +kernel
theorem dX3_digest_191 : decode cX3_digest 191 = .ok (.iconst 0, 1) := by decide +kernel
theorem dX3_digest_192 : decode cX3_digest 192 = .ok (.aload_n 0, 1) := by decide +kernel
theorem dX3_digest_193 : decode cX3_digest 193 = .ok (.getfield 19, 3) := by decide +kernel
theorem dX3_digest_196 : decode cX3_digest 196 = .ok (.iload 4, 2) := by decide +kernel
theorem dX3_digest_198 : decode cX3_digest 198 = .ok (.iaload, 1) := by decide +kernel
theorem dX3_digest_199 : decode cX3_digest 199 = .ok (.iastore, 1) := by decide +kernel
theorem dX3_digest_200 : decode cX3_digest 200 = .ok (.dup, 1) := by decide +kernel
theorem dX3_digest_201 : decode cX3_digest 201 = .ok (.iconst 1, 1) := by decide +kernel
theorem dX3_digest_202 : decode cX3_digest 202 = .ok (.aload_n 0, 1) := by decide +kernel
theorem dX3_digest_203 : decode cX3_digest 203 = .ok (.getfield 25, 3) := by decide +kernel
theorem dX3_digest_206 : decode cX3_digest 206 = .ok (.iload 4, 2) := by decide +kernel
theorem dX3_digest_208 : decode cX3_digest 208 = .ok (.iaload, 1) := by decide +kernel
theorem dX3_digest_209 : decode cX3_digest 209 = .ok (.iastore, 1) := by decide +kernel
theorem dX3_digest_210 : decode cX3_digest 210 = .ok (.dup, 1) := by decide +kernel
theorem dX3_digest_211 : decode cX3_digest 211 = .ok (.iconst 2, 1) := by decide +kernel
theorem dX3_digest_212 : decode cX3_digest 212 = .ok (.aload_n 0, 1) := by decide +kernel
theorem dX3_digest_213 : decode cX3_digest 213 = .ok (.getfield 28, 3) := by decide +kernel
theorem dX3_digest_216 : decode cX3_digest 216 = .ok (.iload 4, 2) := by decide +kernel
theorem dX3_digest_218 : decode cX3_digest 218 = .ok (.iaload, 1) := by decide +kernel
theorem dX3_digest_219 : decode cX3_digest 219 = .ok (.iastore, 1) := by decide +kernel
theorem dX3_digest_220 : decode cX3_digest 220 = .ok (.dup, 1) := by decide +kernel
theorem dX3_digest_221 : decode cX3_digest 221 = .ok (.iconst 3, 1) := by decide +kernel
theorem dX3_digest_222 : decode cX3_digest 222 = .ok (.aload_n 0, 1) := by decide +kernel
theorem dX3_digest_223 : decode cX3_digest 223 = .ok (.getfield 31, 3) := by decide +kernel
theorem dX3_digest_226 : decode cX3_digest 226 = .ok (.iload 4, 2) := by decide +kernel
theorem dX3_digest_228 : decode cX3_digest 228 = .ok (.iaload, 1) := by decide +kernel
theorem dX3_digest_229 : decode cX3_digest 229 = .ok (.iastore, 1) := by decide +kernel
theorem dX3_digest_230 : decode cX3_digest 230 = .ok (.dup, 1) := by decide +kernel
theorem dX3_digest_231 : decode cX3_digest 231 = .ok (.iconst 4, 1) := by decide +kernel
theorem dX3_digest_232 : decode cX3_digest 232 = .ok (.aload_n 0, 1) := by decide +kernel
theorem dX3_digest_233 : decode cX3_digest 233 = .ok (.getfield 34, 3) := by decide +kernel
theorem dX3_digest_236 : decode cX3_digest 236 = .ok (.iload 4, 2) := by decide +kernel
theorem dX3_digest_238 : decode cX3_digest 238 = .ok (.iaload, 1) := by decide +kernel
theorem dX3_digest_239 : decode cX3_digest 239 = .ok (.iastore, 1) := by decide +kernel
theorem dX3_digest_240 : decode cX3_digest 240 = .ok (.dup, 1) := by decide +kernel
theorem dX3_digest_241 : decode cX3_digest 241 = .ok (.iconst 5, 1) := by decide +kernel
theorem dX3_digest_242 : decode cX3_digest 242 = .ok (.aload_n 0, 1) := by decide +kernel
theorem dX3_digest_243 : decode cX3_digest 243 = .ok (.iload 4, 2) := by decide +kernel
theorem dX3_digest_245 : decode cX3_digest 245 = .ok (.invokevirtual 117, 3) := by decide +kernel
theorem dX3_digest_248 : decode cX3_digest 248 = .ok (.iastore, 1) := by decide +kernel
theorem dX3_digest_249 : decode cX3_digest 249 = .ok (.dup, 1) := by decide +kernel
theorem dX3_digest_250 : decode cX3_digest 250 = .ok (.bipush 6, 2) := by decide +kernel
theorem dX3_digest_252 : decode cX3_digest 252 = .ok (.aload_n 0, 1) := by decide +kernel
theorem dX3_digest_253 : decode cX3_digest 253 = .ok (.iload 4, 2) := by decide +kernel
theorem dX3_digest_255 : decode cX3_digest 255 = .ok (.invokevirtual 120, 3) := by decide +kernel
theorem dX3_digest_258 : decode cX3_digest 258 = .ok (.iastore, 1) := by decide +kernel
theorem dX3_digest_259 : decode cX3_digest 259 = .ok (.dup, 1) := by decide +kernel
theorem dX3_digest_260 : decode cX3_digest 260 = .ok (.bipush 7, 2) := by decide +kernel
theorem dX3_digest_262 : decode cX3_digest 262 = .ok (.aload_n 0, 1) := by decide +kernel
theorem dX3_digest_263 : decode cX3_digest 263 = .ok (.iload 4, 2) := by decide +kernel
theorem dX3_digest_265 : decode cX3_digest 265 = .ok (.bipush 10, 2) := by decide +kernel
theorem dX3_digest_267 : decode cX3_digest 267 = .ok (.invokevirtual 123, 3) := by decide +kernel
theorem dX3_digest_270 : decode cX3_digest 270 = .ok (.iastore, 1) := by decide +kernel
theorem dX3_digest_271 : decode cX3_digest 271 = .ok (.dup, 1) := by decide +kernel
theorem dX3_digest_272 : decode cX3_digest 272 = .ok (.bipush 8, 2) := by decide +kernel
theorem dX3_digest_274 : decode cX3_digest 274 = .ok (.aload_n 0, 1) := by decide +kernel
theorem dX3_digest_275 : decode cX3_digest 275 = .ok (.iload 4, 2) := by decide +kernel
theorem dX3_digest_277 : decode cX3_digest 277 = .ok (.iconst 4, 1) := by decide +kernel
theorem dX3_digest_278 : decode cX3_digest 278 = .ok (.bipush 12, 2) := by decide +kernel
theorem dX3_digest_280 : decode cX3_digest 280 = .ok (.aload_n 0, 1) := by decide +kernel
theorem dX3_digest_281 : decode cX3_digest 281 = .ok (.getfield 13, 3) := by decide +kernel
theorem dX3_digest_284 : decode cX3_digest 284 = .ok (.aload_n 0, 1) := by decide +kernel
theorem dX3_digest_285 : decode cX3_digest 285 = .ok (.getfield 19, 3) := by decide +kernel
theorem dX3_digest_288 : decode cX3_digest 288 = .ok (.iload 4, 2) := by decide +kernel
theorem dX3_digest_290 : decode cX3_digest 290 = .ok (.iaload, 1) := by decide +kernel
theorem dX3_digest_291 : decode cX3_digest 291 = .ok (.iaload, 1) := by decide +kernel
theorem dX3_digest_292 : decode cX3_digest 292 = .ok (.invokevirtual 126, 3) := by decide +kernel
theorem dX3_digest_295 : decode cX3_digest 295 = .ok (.iastore, 1) := by decide +kernel
theorem dX3_digest_296 : decode cX3_digest 296 = .ok (.dup, 1) := by decide +kernel
theorem dX3_digest_297 : decode cX3_digest 297 = .ok (.bipush 9, 2) := by decide +kernel
theorem dX3_digest_299 : decode cX3_digest 299 = .ok (.aload_n 0, 1) := by decide +kernel
theorem dX3_digest_300 : decode cX3_digest 300 = .ok (.iload 4, 2) := by decide +kernel
theorem dX3_digest_302 : decode cX3_digest 302 = .ok (.iconst 3, 1) := by decide +kernel
theorem dX3_digest_303 : decode cX3_digest 303 = .ok (.invokevirtual 130, 3) := by decide +kernel
theorem dX3_digest_306 : decode cX3_digest 306 = .ok (.iastore, 1) := by decide +kernel
theorem dX3_digest_307 : decode cX3_digest 307 = .ok (.astore 5, 2) := by decide +kernel
theorem dX3_digest_309 : decode cX3_digest 309 = .ok (.aload 5, 2) := by decide +kernel
theorem dX3_digest_311 : decode cX3_digest 311 = .ok (.astore 6, 2) := by decide +kernel
theorem dX3_digest_313 : decode cX3_digest 313 = .ok (.aload 6, 2) := by decide +kernel
theorem dX3_digest_315 : decode cX3_digest 315 = .ok (.arraylength, 1) := by decide +kernel
theorem dX3_digest_316 : decode cX3_digest 316 = .ok (.istore 7, 2) := by decide +kernel
theorem dX3_digest_318 : decode cX3_digest 318 = .ok (.iconst 0, 1) := by decide +kernel
theorem dX3_digest_319 : decode cX3_digest 319 = .ok (.istore 8, 2) := by decide +kernel
theorem dX3_digest_321 : decode cX3_digest 321 = .ok (.iload 8, 2) := by decide +kernel
theorem dX3_digest_323 : decode cX3_digest 323 = .ok (.iload 7, 2) := by decide +kernel
theorem dX3_digest_325 : decode cX3_digest 325 = .ok (.if_icmp .ge 26, 3) := by decide +kernel
theorem dX3_digest_328 : decode cX3_digest 328 = .ok (.aload 6, 2) := by decide +kernel
theorem dX3_digest_330 : decode cX3_digest 330 = .ok (.iload 8, 2) := by decide +kernel
theorem dX3_digest_332 : decode cX3_digest 332 = .ok (.iaload, 1) := by decide +kernel
theorem dX3_digest_333 : decode cX3_digest 333 = .ok (.istore 9, 2) := by decide +kernel
theorem dX3_digest_335 : decode cX3_digest 335 = .ok (.lload_n 2, 1) := by decide +kernel
theorem dX3_digest_336 : decode cX3_digest 336 = .ok (.ldc2_w 144, 3) := by decide +kernel
theorem dX3_digest_339 : decode cX3_digest 339 = .ok (.lmul, 1) := by decide +kernel
theorem dX3_digest_340 : decode cX3_digest 340 = .ok (.iload 9, 2) := by decide +kernel
theorem dX3_digest_342 : decode cX3_digest 342 = .ok (.i2l, 1) := by decide +kernel
theorem dX3_digest_343 : decode cX3_digest 343 = .ok (.ladd, 1) := by decide +kernel
theorem dX3_digest_344 : decode cX3_digest 344 = .ok (.lstore_n 2, 1) := by decide +kernel
theorem dX3_digest_345 : decode cX3_digest 345 = .ok (.iinc 8 1, 3) := by decide +kernel
theorem dX3_digest_348 : decode cX3_digest 348 = .ok (.goto (-27), 3) := by decide +kernel
theorem dX3_digest_351 : decode cX3_digest 351 = .ok (.iinc 4 1, 3) := by decide +kernel
theorem dX3_digest_354 : decode cX3_digest 354 = .ok (.goto (-177), 3) := by decide +kernel
theorem dX3_digest_357 : decode cX3_digest 357 = .ok (.lload_n 2, 1) := by decide +kernel
theorem dX3_digest_358 : decode cX3_digest 358 = .ok (.lreturn, 1) := by decide +kernel
theorem dL_addWand_0 : decode cL_addWand 0 = .ok (.aload_n 3, 1) := by decide +kernel
theorem dL_addWand_1 : decode cL_addWand 1 = .ok (.iconst 0, 1) := by decide +kernel
theorem dL_addWand_2 : decode cL_addWand 2 = .ok (.aload_n 0, 1) := by decide +kernel
theorem dL_addWand_3 : decode cL_addWand 3 = .ok (.iload_n 1, 1) := by decide +kernel
theorem dL_addWand_4 : decode cL_addWand 4 = .ok (.iload_n 2, 1) := by decide +kernel
theorem dL_addWand_5 : decode cL_addWand 5 = .ok (.invokevirtual 7, 3) := by decide +kernel
theorem dL_addWand_8 : decode cL_addWand 8 = .ok (.i2l, 1) := by decide +kernel
theorem dL_addWand_9 : decode cL_addWand 9 = .ok (.lastore, 1) := by decide +kernel
theorem dL_addWand_10 : decode cL_addWand 10 = .ok (.goto 11, 3) := by decide +kernel
theorem dL_addWand_13 : decode cL_addWand 13 = .ok (.astore 4, 2) := by decide +kernel
theorem dL_addWand_15 : decode cL_addWand 15 = .ok (.iconst 1, 1) := by decide +kernel
theorem dL_addWand_16 : decode cL_addWand 16 = .ok (.ireturn, 1) := by decide +kernel
theorem dL_addWand_17 : decode cL_addWand 17 = .ok (.astore 4, 2) := by decide +kernel
theorem dL_addWand_19 : decode cL_addWand 19 = .ok (.iconst 2, 1) := by decide +kernel
theorem dL_addWand_20 : decode cL_addWand 20 = .ok (.ireturn, 1) := by decide +kernel
theorem dL_addWand_21 : decode cL_addWand 21 = .ok (.iconst 0, 1) := by decide +kernel
theorem dL_addWand_22 : decode cL_addWand 22 = .ok (.ireturn, 1) := by decide +kernel
theorem dL_addChild_0 : decode cL_addChild 0 = .ok (.aload_n 3, 1) := by decide +kernel
theorem dL_addChild_1 : decode cL_addChild 1 = .ok (.iconst 0, 1) := by decide +kernel
theorem dL_addChild_2 : decode cL_addChild 2 = .ok (.aload_n 0, 1) := by decide +kernel
theorem dL_addChild_3 : decode cL_addChild 3 = .ok (.iload_n 1, 1) := by decide +kernel
theorem dL_addChild_4 : decode cL_addChild 4 = .ok (.iload_n 2, 1) := by decide +kernel
theorem dL_addChild_5 : decode cL_addChild 5 = .ok (.invokevirtual 17, 3) := by decide +kernel
theorem dL_addChild_8 : decode cL_addChild 8 = .ok (.i2l, 1) := by decide +kernel
theorem dL_addChild_9 : decode cL_addChild 9 = .ok (.lastore, 1) := by decide +kernel
theorem dL_addChild_10 : decode cL_addChild 10 = .ok (.goto 15, 3) := by decide +kernel
theorem dL_addChild_13 : decode cL_addChild 13 = .ok (.astore 4, 2) := by decide +kernel
theorem dL_addChild_15 : decode cL_addChild 15 = .ok (.iconst 1, 1) := by decide +kernel
theorem dL_addChild_16 : decode cL_addChild 16 = .ok (.ireturn, 1) := by decide +kernel
theorem dL_addChild_17 : decode cL_addChild 17 = .ok (.astore 4, 2) := by decide +kernel
theorem dL_addChild_19 : decode cL_addChild 19 = .ok (.iconst 2, 1) := by decide +kernel
theorem dL_addChild_20 : decode cL_addChild 20 = .ok (.ireturn, 1) := by decide +kernel
theorem dL_addChild_21 : decode cL_addChild 21 = .ok (.astore 4, 2) := by decide +kernel
theorem dL_addChild_23 : decode cL_addChild 23 = .ok (.iconst 3, 1) := by decide +kernel
theorem dL_addChild_24 : decode cL_addChild 24 = .ok (.ireturn, 1) := by decide +kernel
theorem dL_addChild_25 : decode cL_addChild 25 = .ok (.iconst 0, 1) := by decide +kernel
theorem dL_addChild_26 : decode cL_addChild 26 = .ok (.ireturn, 1) := by decide +kernel
theorem dL_give_0 : decode cL_give 0 = .ok (.aload_n 3, 1) := by decide +kernel
theorem dL_give_1 : decode cL_give 1 = .ok (.iconst 0, 1) := by decide +kernel
theorem dL_give_2 : decode cL_give 2 = .ok (.aload_n 0, 1) := by decide +kernel
theorem dL_give_3 : decode cL_give 3 = .ok (.iload_n 1, 1) := by decide +kernel
theorem dL_give_4 : decode cL_give 4 = .ok (.iload_n 2, 1) := by decide +kernel
theorem dL_give_5 : decode cL_give 5 = .ok (.invokevirtual 22, 3) := by decide +kernel
theorem dL_give_8 : decode cL_give 8 = .ok (.i2l, 1) := by decide +kernel
theorem dL_give_9 : decode cL_give 9 = .ok (.lastore, 1) := by decide +kernel
theorem dL_give_10 : decode cL_give 10 = .ok (.goto 7, 3) := by decide +kernel
theorem dL_give_13 : decode cL_give 13 = .ok (.astore 4, 2) := by decide +kernel
theorem dL_give_15 : decode cL_give 15 = .ok (.iconst 1, 1) := by decide +kernel
theorem dL_give_16 : decode cL_give 16 = .ok (.ireturn, 1) := by decide +kernel
theorem dL_give_17 : decode cL_give 17 = .ok (.iconst 0, 1) := by decide +kernel
theorem dL_give_18 : decode cL_give 18 = .ok (.ireturn, 1) := by decide +kernel
theorem dL_setFall_0 : decode cL_setFall 0 = .ok (.aload_n 3, 1) := by decide +kernel
theorem dL_setFall_1 : decode cL_setFall 1 = .ok (.iconst 0, 1) := by decide +kernel
theorem dL_setFall_2 : decode cL_setFall 2 = .ok (.aload_n 0, 1) := by decide +kernel
theorem dL_setFall_3 : decode cL_setFall 3 = .ok (.iload_n 1, 1) := by decide +kernel
theorem dL_setFall_4 : decode cL_setFall 4 = .ok (.iload_n 2, 1) := by decide +kernel
theorem dL_setFall_5 : decode cL_setFall 5 = .ok (.invokevirtual 25, 3) := by decide +kernel
theorem dL_setFall_8 : decode cL_setFall 8 = .ok (.i2l, 1) := by decide +kernel
theorem dL_setFall_9 : decode cL_setFall 9 = .ok (.lastore, 1) := by decide +kernel
theorem dL_setFall_10 : decode cL_setFall 10 = .ok (.goto 11, 3) := by decide +kernel
theorem dL_setFall_13 : decode cL_setFall 13 = .ok (.astore 4, 2) := by decide +kernel
theorem dL_setFall_15 : decode cL_setFall 15 = .ok (.iconst 1, 1) := by decide +kernel
theorem dL_setFall_16 : decode cL_setFall 16 = .ok (.ireturn, 1) := by decide +kernel
theorem dL_setFall_17 : decode cL_setFall 17 = .ok (.astore 4, 2) := by decide +kernel
theorem dL_setFall_19 : decode cL_setFall 19 = .ok (.iconst 2, 1) := by decide +kernel
theorem dL_setFall_20 : decode cL_setFall 20 = .ok (.ireturn, 1) := by decide +kernel
theorem dL_setFall_21 : decode cL_setFall 21 = .ok (.iconst 0, 1) := by decide +kernel
theorem dL_setFall_22 : decode cL_setFall 22 = .ok (.ireturn, 1) := by decide +kernel
theorem dL_wish_0 : decode cL_wish 0 = .ok (.aload_n 3, 1) := by decide +kernel
theorem dL_wish_1 : decode cL_wish 1 = .ok (.iconst 0, 1) := by decide +kernel
theorem dL_wish_2 : decode cL_wish 2 = .ok (.aload_n 0, 1) := by decide +kernel
theorem dL_wish_3 : decode cL_wish 3 = .ok (.iload_n 1, 1) := by decide +kernel
theorem dL_wish_4 : decode cL_wish 4 = .ok (.iload_n 2, 1) := by decide +kernel
theorem dL_wish_5 : decode cL_wish 5 = .ok (.invokevirtual 28, 3) := by decide +kernel
theorem dL_wish_8 : decode cL_wish 8 = .ok (.ifCond .eq 7, 3) := by decide +kernel
theorem dL_wish_11 : decode cL_wish 11 = .ok (.lconst 1, 1) := by decide +kernel
theorem dL_wish_12 : decode cL_wish 12 = .ok (.goto 4, 3) := by decide +kernel
theorem dL_wish_15 : decode cL_wish 15 = .ok (.lconst 0, 1) := by decide +kernel
theorem dL_wish_16 : decode cL_wish 16 = .ok (.lastore, 1) := by decide +kernel
theorem dL_wish_17 : decode cL_wish 17 = .ok (.goto 11, 3) := by decide +kernel
theorem dL_wish_20 : decode cL_wish 20 = .ok (.astore 4, 2) := by decide +kernel
theorem dL_wish_22 : decode cL_wish 22 = .ok (.iconst 1, 1) := by decide +kernel
theorem dL_wish_23 : decode cL_wish 23 = .ok (.ireturn, 1) := by decide +kernel
theorem dL_wish_24 : decode cL_wish 24 = .ok (.astore 4, 2) := by decide +kernel
theorem dL_wish_26 : decode cL_wish 26 = .ok (.iconst 2, 1) := by decide +kernel
theorem dL_wish_27 : decode cL_wish 27 = .ok (.ireturn, 1) := by decide +kernel
theorem dL_wish_28 : decode cL_wish 28 = .ok (.iconst 0, 1) := by decide +kernel
theorem dL_wish_29 : decode cL_wish 29 = .ok (.ireturn, 1) := by decide +kernel
theorem dL_forgive_0 : decode cL_forgive 0 = .ok (.aload_n 2, 1) := by decide +kernel
theorem dL_forgive_1 : decode cL_forgive 1 = .ok (.iconst 0, 1) := by decide +kernel
theorem dL_forgive_2 : decode cL_forgive 2 = .ok (.aload_n 0, 1) := by decide +kernel
theorem dL_forgive_3 : decode cL_forgive 3 = .ok (.iload_n 1, 1) := by decide +kernel
theorem dL_forgive_4 : decode cL_forgive 4 = .ok (.invokevirtual 32, 3) := by decide +kernel
theorem dL_forgive_7 : decode cL_forgive 7 = .ok (.i2l, 1) := by decide +kernel
theorem dL_forgive_8 : decode cL_forgive 8 = .ok (.lastore, 1) := by decide +kernel
theorem dL_forgive_9 : decode cL_forgive 9 = .ok (.goto 6, 3) := by decide +kernel
theorem dL_forgive_12 : decode cL_forgive 12 = .ok (.astore_n 3, 1) := by decide +kernel
theorem dL_forgive_13 : decode cL_forgive 13 = .ok (.iconst 1, 1) := by decide +kernel
theorem dL_forgive_14 : decode cL_forgive 14 = .ok (.ireturn, 1) := by decide +kernel
theorem dL_forgive_15 : decode cL_forgive 15 = .ok (.iconst 0, 1) := by decide +kernel
theorem dL_forgive_16 : decode cL_forgive 16 = .ok (.ireturn, 1) := by decide +kernel
theorem dL_pass_0 : decode cL_pass 0 = .ok (.aload_n 2, 1) := by decide +kernel
theorem dL_pass_1 : decode cL_pass 1 = .ok (.iconst 0, 1) := by decide +kernel
theorem dL_pass_2 : decode cL_pass 2 = .ok (.aload_n 0, 1) := by decide +kernel
theorem dL_pass_3 : decode cL_pass 3 = .ok (.iload_n 1, 1) := by decide +kernel
theorem dL_pass_4 : decode cL_pass 4 = .ok (.invokevirtual 36, 3) := by decide +kernel
theorem dL_pass_7 : decode cL_pass 7 = .ok (.i2l, 1) := by decide +kernel
theorem dL_pass_8 : decode cL_pass 8 = .ok (.lastore, 1) := by decide +kernel
theorem dL_pass_9 : decode cL_pass 9 = .ok (.goto 6, 3) := by decide +kernel
theorem dL_pass_12 : decode cL_pass 12 = .ok (.astore_n 3, 1) := by decide +kernel
theorem dL_pass_13 : decode cL_pass 13 = .ok (.iconst 1, 1) := by decide +kernel
theorem dL_pass_14 : decode cL_pass 14 = .ok (.ireturn, 1) := by decide +kernel
theorem dL_pass_15 : decode cL_pass 15 = .ok (.iconst 0, 1) := by decide +kernel
theorem dL_pass_16 : decode cL_pass 16 = .ok (.ireturn, 1) := by decide +kernel
theorem dL_dustIn_0 : decode cL_dustIn 0 = .ok (.aload_n 2, 1) := by decide +kernel
theorem dL_dustIn_1 : decode cL_dustIn 1 = .ok (.iconst 0, 1) := by decide +kernel
theorem dL_dustIn_2 : decode cL_dustIn 2 = .ok (.aload_n 0, 1) := by decide +kernel
theorem dL_dustIn_3 : decode cL_dustIn 3 = .ok (.iload_n 1, 1) := by decide +kernel
theorem dL_dustIn_4 : decode cL_dustIn 4 = .ok (.invokevirtual 39, 3) := by decide +kernel
theorem dL_dustIn_7 : decode cL_dustIn 7 = .ok (.i2l, 1) := by decide +kernel
theorem dL_dustIn_8 : decode cL_dustIn 8 = .ok (.lastore, 1) := by decide +kernel
theorem dL_dustIn_9 : decode cL_dustIn 9 = .ok (.goto 6, 3) := by decide +kernel
theorem dL_dustIn_12 : decode cL_dustIn 12 = .ok (.astore_n 3, 1) := by decide +kernel
theorem dL_dustIn_13 : decode cL_dustIn 13 = .ok (.iconst 1, 1) := by decide +kernel
theorem dL_dustIn_14 : decode cL_dustIn 14 = .ok (.ireturn, 1) := by decide +kernel
theorem dL_dustIn_15 : decode cL_dustIn 15 = .ok (.iconst 0, 1) := by decide +kernel
theorem dL_dustIn_16 : decode cL_dustIn 16 = .ok (.ireturn, 1) := by decide +kernel
theorem dL_users_0 : decode cL_users 0 = .ok (.aload_n 2, 1) := by decide +kernel
theorem dL_users_1 : decode cL_users 1 = .ok (.iconst 0, 1) := by decide +kernel
theorem dL_users_2 : decode cL_users 2 = .ok (.aload_n 0, 1) := by decide +kernel
theorem dL_users_3 : decode cL_users 3 = .ok (.iload_n 1, 1) := by decide +kernel
theorem dL_users_4 : decode cL_users 4 = .ok (.invokevirtual 42, 3) := by decide +kernel
theorem dL_users_7 : decode cL_users 7 = .ok (.i2l, 1) := by decide +kernel
theorem dL_users_8 : decode cL_users 8 = .ok (.lastore, 1) := by decide +kernel
theorem dL_users_9 : decode cL_users 9 = .ok (.goto 6, 3) := by decide +kernel
theorem dL_users_12 : decode cL_users 12 = .ok (.astore_n 3, 1) := by decide +kernel
theorem dL_users_13 : decode cL_users 13 = .ok (.iconst 1, 1) := by decide +kernel
theorem dL_users_14 : decode cL_users 14 = .ok (.ireturn, 1) := by decide +kernel
theorem dL_users_15 : decode cL_users 15 = .ok (.iconst 0, 1) := by decide +kernel
theorem dL_users_16 : decode cL_users 16 = .ok (.ireturn, 1) := by decide +kernel
theorem dL_wandOf_0 : decode cL_wandOf 0 = .ok (.aload_n 2, 1) := by decide +kernel
theorem dL_wandOf_1 : decode cL_wandOf 1 = .ok (.iconst 0, 1) := by decide +kernel
theorem dL_wandOf_2 : decode cL_wandOf 2 = .ok (.aload_n 0, 1) := by decide +kernel
theorem dL_wandOf_3 : decode cL_wandOf 3 = .ok (.iload_n 1, 1) := by decide +kernel
theorem dL_wandOf_4 : decode cL_wandOf 4 = .ok (.invokevirtual 45, 3) := by decide +kernel
theorem dL_wandOf_7 : decode cL_wandOf 7 = .ok (.i2l, 1) := by decide +kernel
theorem dL_wandOf_8 : decode cL_wandOf 8 = .ok (.lastore, 1) := by decide +kernel
theorem dL_wandOf_9 : decode cL_wandOf 9 = .ok (.goto 6, 3) := by decide +kernel
theorem dL_wandOf_12 : decode cL_wandOf 12 = .ok (.astore_n 3, 1) := by decide +kernel
theorem dL_wandOf_13 : decode cL_wandOf 13 = .ok (.iconst 1, 1) := by decide +kernel
theorem dL_wandOf_14 : decode cL_wandOf 14 = .ok (.ireturn, 1) := by decide +kernel
theorem dL_wandOf_15 : decode cL_wandOf 15 = .ok (.iconst 0, 1) := by decide +kernel
theorem dL_wandOf_16 : decode cL_wandOf 16 = .ok (.ireturn, 1) := by decide +kernel
theorem dL_burstOf_0 : decode cL_burstOf 0 = .ok (.aload_n 2, 1) := by decide +kernel
theorem dL_burstOf_1 : decode cL_burstOf 1 = .ok (.iconst 0, 1) := by decide +kernel
theorem dL_burstOf_2 : decode cL_burstOf 2 = .ok (.aload_n 0, 1) := by decide +kernel
theorem dL_burstOf_3 : decode cL_burstOf 3 = .ok (.iload_n 1, 1) := by decide +kernel
theorem dL_burstOf_4 : decode cL_burstOf 4 = .ok (.invokevirtual 48, 3) := by decide +kernel
theorem dL_burstOf_7 : decode cL_burstOf 7 = .ok (.i2l, 1) := by decide +kernel
theorem dL_burstOf_8 : decode cL_burstOf 8 = .ok (.lastore, 1) := by decide +kernel
theorem dL_burstOf_9 : decode cL_burstOf 9 = .ok (.goto 6, 3) := by decide +kernel
theorem dL_burstOf_12 : decode cL_burstOf 12 = .ok (.astore_n 3, 1) := by decide +kernel
theorem dL_burstOf_13 : decode cL_burstOf 13 = .ok (.iconst 1, 1) := by decide +kernel
theorem dL_burstOf_14 : decode cL_burstOf 14 = .ok (.ireturn, 1) := by decide +kernel
theorem dL_burstOf_15 : decode cL_burstOf 15 = .ok (.iconst 0, 1) := by decide +kernel
theorem dL_burstOf_16 : decode cL_burstOf 16 = .ok (.ireturn, 1) := by decide +kernel
theorem dL_punishedFor_0 : decode cL_punishedFor 0 = .ok (.aload_n 2, 1) := by decide +kernel
theorem dL_punishedFor_1 : decode cL_punishedFor 1 = .ok (.iconst 0, 1) := by decide +kernel
theorem dL_punishedFor_2 : decode cL_punishedFor 2 = .ok (.aload_n 0, 1) := by decide +kernel
theorem dL_punishedFor_3 : decode cL_punishedFor 3 = .ok (.iload_n 1, 1) := by decide +kernel
theorem dL_punishedFor_4 : decode cL_punishedFor 4 = .ok (.invokevirtual 51, 3) := by decide +kernel
theorem dL_punishedFor_7 : decode cL_punishedFor 7 = .ok (.i2l, 1) := by decide +kernel
theorem dL_punishedFor_8 : decode cL_punishedFor 8 = .ok (.lastore, 1) := by decide +kernel
theorem dL_punishedFor_9 : decode cL_punishedFor 9 = .ok (.goto 6, 3) := by decide +kernel
theorem dL_punishedFor_12 : decode cL_punishedFor 12 = .ok (.astore_n 3, 1) := by decide +kernel
theorem dL_punishedFor_13 : decode cL_punishedFor 13 = .ok (.iconst 1, 1) := by decide +kernel
theorem dL_punishedFor_14 : decode cL_punishedFor 14 = .ok (.ireturn, 1) := by decide +kernel
theorem dL_punishedFor_15 : decode cL_punishedFor 15 = .ok (.iconst 0, 1) := by decide +kernel
theorem dL_punishedFor_16 : decode cL_punishedFor 16 = .ok (.ireturn, 1) := by decide +kernel
theorem dL_marksOf_0 : decode cL_marksOf 0 = .ok (.aload_n 2, 1) := by decide +kernel
theorem dL_marksOf_1 : decode cL_marksOf 1 = .ok (.iconst 0, 1) := by decide +kernel
theorem dL_marksOf_2 : decode cL_marksOf 2 = .ok (.aload_n 0, 1) := by decide +kernel
theorem dL_marksOf_3 : decode cL_marksOf 3 = .ok (.iload_n 1, 1) := by decide +kernel
theorem dL_marksOf_4 : decode cL_marksOf 4 = .ok (.invokevirtual 54, 3) := by decide +kernel
theorem dL_marksOf_7 : decode cL_marksOf 7 = .ok (.i2l, 1) := by decide +kernel
theorem dL_marksOf_8 : decode cL_marksOf 8 = .ok (.lastore, 1) := by decide +kernel
theorem dL_marksOf_9 : decode cL_marksOf 9 = .ok (.goto 6, 3) := by decide +kernel
theorem dL_marksOf_12 : decode cL_marksOf 12 = .ok (.astore_n 3, 1) := by decide +kernel
theorem dL_marksOf_13 : decode cL_marksOf 13 = .ok (.iconst 1, 1) := by decide +kernel
theorem dL_marksOf_14 : decode cL_marksOf 14 = .ok (.ireturn, 1) := by decide +kernel
theorem dL_marksOf_15 : decode cL_marksOf 15 = .ok (.iconst 0, 1) := by decide +kernel
theorem dL_marksOf_16 : decode cL_marksOf 16 = .ok (.ireturn, 1) := by decide +kernel
theorem dL_nextPunishment_0 : decode cL_nextPunishment 0 = .ok (.aload_n 2, 1) := by decide +kernel
theorem dL_nextPunishment_1 : decode cL_nextPunishment 1 = .ok (.iconst 0, 1) := by decide +kernel
theorem dL_nextPunishment_2 : decode cL_nextPunishment 2 = .ok (.aload_n 0, 1) := by decide +kernel
theorem dL_nextPunishment_3 : decode cL_nextPunishment 3 = .ok (.iload_n 1, 1) := by decide +kernel
theorem dL_nextPunishment_4 : decode cL_nextPunishment 4 = .ok (.invokevirtual 57, 3) := by decide +kernel
theorem dL_nextPunishment_7 : decode cL_nextPunishment 7 = .ok (.i2l, 1) := by decide +kernel
theorem dL_nextPunishment_8 : decode cL_nextPunishment 8 = .ok (.lastore, 1) := by decide +kernel
theorem dL_nextPunishment_9 : decode cL_nextPunishment 9 = .ok (.goto 6, 3) := by decide +kernel
theorem dL_nextPunishment_12 : decode cL_nextPunishment 12 = .ok (.astore_n 3, 1) := by decide +kernel
theorem dL_nextPunishment_13 : decode cL_nextPunishment 13 = .ok (.iconst 1, 1) := by decide +kernel
theorem dL_nextPunishment_14 : decode cL_nextPunishment 14 = .ok (.ireturn, 1) := by decide +kernel
theorem dL_nextPunishment_15 : decode cL_nextPunishment 15 = .ok (.iconst 0, 1) := by decide +kernel
theorem dL_nextPunishment_16 : decode cL_nextPunishment 16 = .ok (.ireturn, 1) := by decide +kernel
theorem dL_daysToBirthday_0 : decode cL_daysToBirthday 0 = .ok (.aload_n 2, 1) := by decide +kernel
theorem dL_daysToBirthday_1 : decode cL_daysToBirthday 1 = .ok (.iconst 0, 1) := by decide +kernel
theorem dL_daysToBirthday_2 : decode cL_daysToBirthday 2 = .ok (.aload_n 0, 1) := by decide +kernel
theorem dL_daysToBirthday_3 : decode cL_daysToBirthday 3 = .ok (.iload_n 1, 1) := by decide +kernel
theorem dL_daysToBirthday_4 : decode cL_daysToBirthday 4 = .ok (.invokevirtual 60, 3) := by decide +kernel
theorem dL_daysToBirthday_7 : decode cL_daysToBirthday 7 = .ok (.i2l, 1) := by decide +kernel
theorem dL_daysToBirthday_8 : decode cL_daysToBirthday 8 = .ok (.lastore, 1) := by decide +kernel
theorem dL_daysToBirthday_9 : decode cL_daysToBirthday 9 = .ok (.goto 6, 3) := by decide +kernel
theorem dL_daysToBirthday_12 : decode cL_daysToBirthday 12 = .ok (.astore_n 3, 1) := by decide +kernel
theorem dL_daysToBirthday_13 : decode cL_daysToBirthday 13 = .ok (.iconst 1, 1) := by decide +kernel
theorem dL_daysToBirthday_14 : decode cL_daysToBirthday 14 = .ok (.ireturn, 1) := by decide +kernel
theorem dL_daysToBirthday_15 : decode cL_daysToBirthday 15 = .ok (.iconst 0, 1) := by decide +kernel
theorem dL_daysToBirthday_16 : decode cL_daysToBirthday 16 = .ok (.ireturn, 1) := by decide +kernel
theorem dL_greatestWish_0 : decode cL_greatestWish 0 = .ok (.aload_n 2, 1) := by decide +kernel
theorem dL_greatestWish_1 : decode cL_greatestWish 1 = .ok (.iconst 0, 1) := by decide +kernel
theorem dL_greatestWish_2 : decode cL_greatestWish 2 = .ok (.aload_n 0, 1) := by decide +kernel
theorem dL_greatestWish_3 : decode cL_greatestWish 3 = .ok (.iload_n 1, 1) := by decide +kernel
theorem dL_greatestWish_4 : decode cL_greatestWish 4 = .ok (.invokevirtual 63, 3) := by decide +kernel
theorem dL_greatestWish_7 : decode cL_greatestWish 7 = .ok (.i2l, 1) := by decide +kernel
theorem dL_greatestWish_8 : decode cL_greatestWish 8 = .ok (.lastore, 1) := by decide +kernel
theorem dL_greatestWish_9 : decode cL_greatestWish 9 = .ok (.goto 6, 3) := by decide +kernel
theorem dL_greatestWish_12 : decode cL_greatestWish 12 = .ok (.astore_n 3, 1) := by decide +kernel
theorem dL_greatestWish_13 : decode cL_greatestWish 13 = .ok (.iconst 1, 1) := by decide +kernel
theorem dL_greatestWish_14 : decode cL_greatestWish 14 = .ok (.ireturn, 1) := by decide +kernel
theorem dL_greatestWish_15 : decode cL_greatestWish 15 = .ok (.iconst 0, 1) := by decide +kernel
theorem dL_greatestWish_16 : decode cL_greatestWish 16 = .ok (.ireturn, 1) := by decide +kernel
theorem dL_hoursUntil_0 : decode cL_hoursUntil 0 = .ok (.aload_n 3, 1) := by decide +kernel
theorem dL_hoursUntil_1 : decode cL_hoursUntil 1 = .ok (.iconst 0, 1) := by decide +kernel
theorem dL_hoursUntil_2 : decode cL_hoursUntil 2 = .ok (.aload_n 0, 1) := by decide +kernel
theorem dL_hoursUntil_3 : decode cL_hoursUntil 3 = .ok (.iload_n 1, 1) := by decide +kernel
theorem dL_hoursUntil_4 : decode cL_hoursUntil 4 = .ok (.iload_n 2, 1) := by decide +kernel
theorem dL_hoursUntil_5 : decode cL_hoursUntil 5 = .ok (.invokevirtual 66, 3) := by decide +kernel
theorem dL_hoursUntil_8 : decode cL_hoursUntil 8 = .ok (.i2l, 1) := by decide +kernel
theorem dL_hoursUntil_9 : decode cL_hoursUntil 9 = .ok (.lastore, 1) := by decide +kernel
theorem dL_hoursUntil_10 : decode cL_hoursUntil 10 = .ok (.goto 11, 3) := by decide +kernel
theorem dL_hoursUntil_13 : decode cL_hoursUntil 13 = .ok (.astore 4, 2) := by decide +kernel
theorem dL_hoursUntil_15 : decode cL_hoursUntil 15 = .ok (.iconst 1, 1) := by decide +kernel
theorem dL_hoursUntil_16 : decode cL_hoursUntil 16 = .ok (.ireturn, 1) := by decide +kernel
theorem dL_hoursUntil_17 : decode cL_hoursUntil 17 = .ok (.astore 4, 2) := by decide +kernel
theorem dL_hoursUntil_19 : decode cL_hoursUntil 19 = .ok (.iconst 2, 1) := by decide +kernel
theorem dL_hoursUntil_20 : decode cL_hoursUntil 20 = .ok (.ireturn, 1) := by decide +kernel
theorem dL_hoursUntil_21 : decode cL_hoursUntil 21 = .ok (.iconst 0, 1) := by decide +kernel
theorem dL_hoursUntil_22 : decode cL_hoursUntil 22 = .ok (.ireturn, 1) := by decide +kernel
theorem dL_grantedIn_0 : decode cL_grantedIn 0 = .ok (.aload 4, 2) := by decide +kernel
theorem dL_grantedIn_2 : decode cL_grantedIn 2 = .ok (.iconst 0, 1) := by decide +kernel
theorem dL_grantedIn_3 : decode cL_grantedIn 3 = .ok (.aload_n 0, 1) := by decide +kernel
theorem dL_grantedIn_4 : decode cL_grantedIn 4 = .ok (.iload_n 1, 1) := by decide +kernel
theorem dL_grantedIn_5 : decode cL_grantedIn 5 = .ok (.iload_n 2, 1) := by decide +kernel
theorem dL_grantedIn_6 : decode cL_grantedIn 6 = .ok (.iload_n 3, 1) := by decide +kernel
theorem dL_grantedIn_7 : decode cL_grantedIn 7 = .ok (.invokevirtual 69, 3) := by decide +kernel
theorem dL_grantedIn_10 : decode cL_grantedIn 10 = .ok (.i2l, 1) := by decide +kernel
theorem dL_grantedIn_11 : decode cL_grantedIn 11 = .ok (.lastore, 1) := by decide +kernel
theorem dL_grantedIn_12 : decode cL_grantedIn 12 = .ok (.goto 11, 3) := by decide +kernel
theorem dL_grantedIn_15 : decode cL_grantedIn 15 = .ok (.astore 5, 2) := by decide +kernel
theorem dL_grantedIn_17 : decode cL_grantedIn 17 = .ok (.iconst 1, 1) := by decide +kernel
theorem dL_grantedIn_18 : decode cL_grantedIn 18 = .ok (.ireturn, 1) := by decide +kernel
theorem dL_grantedIn_19 : decode cL_grantedIn 19 = .ok (.astore 5, 2) := by decide +kernel
theorem dL_grantedIn_21 : decode cL_grantedIn 21 = .ok (.iconst 2, 1) := by decide +kernel
theorem dL_grantedIn_22 : decode cL_grantedIn 22 = .ok (.ireturn, 1) := by decide +kernel
theorem dL_grantedIn_23 : decode cL_grantedIn 23 = .ok (.iconst 0, 1) := by decide +kernel
theorem dL_grantedIn_24 : decode cL_grantedIn 24 = .ok (.ireturn, 1) := by decide +kernel
theorem dL_fallWanted_0 : decode cL_fallWanted 0 = .ok (.aload_n 3, 1) := by decide +kernel
theorem dL_fallWanted_1 : decode cL_fallWanted 1 = .ok (.iconst 0, 1) := by decide +kernel
theorem dL_fallWanted_2 : decode cL_fallWanted 2 = .ok (.aload_n 0, 1) := by decide +kernel
theorem dL_fallWanted_3 : decode cL_fallWanted 3 = .ok (.iload_n 1, 1) := by decide +kernel
theorem dL_fallWanted_4 : decode cL_fallWanted 4 = .ok (.iload_n 2, 1) := by decide +kernel
theorem dL_fallWanted_5 : decode cL_fallWanted 5 = .ok (.invokevirtual 73, 3) := by decide +kernel
theorem dL_fallWanted_8 : decode cL_fallWanted 8 = .ok (.i2l, 1) := by decide +kernel
theorem dL_fallWanted_9 : decode cL_fallWanted 9 = .ok (.lastore, 1) := by decide +kernel
theorem dL_fallWanted_10 : decode cL_fallWanted 10 = .ok (.goto 11, 3) := by decide +kernel
theorem dL_fallWanted_13 : decode cL_fallWanted 13 = .ok (.astore 4, 2) := by decide +kernel
theorem dL_fallWanted_15 : decode cL_fallWanted 15 = .ok (.iconst 1, 1) := by decide +kernel
theorem dL_fallWanted_16 : decode cL_fallWanted 16 = .ok (.ireturn, 1) := by decide +kernel
theorem dL_fallWanted_17 : decode cL_fallWanted 17 = .ok (.astore 4, 2) := by decide +kernel
theorem dL_fallWanted_19 : decode cL_fallWanted 19 = .ok (.iconst 2, 1) := by decide +kernel
theorem dL_fallWanted_20 : decode cL_fallWanted 20 = .ok (.ireturn, 1) := by decide +kernel
theorem dL_fallWanted_21 : decode cL_fallWanted 21 = .ok (.iconst 0, 1) := by decide +kernel
theorem dL_fallWanted_22 : decode cL_fallWanted 22 = .ok (.ireturn, 1) := by decide +kernel
theorem dL_hoursUntilFull_0 : decode cL_hoursUntilFull 0 = .ok (.aload_n 2, 1) := by decide +kernel
theorem dL_hoursUntilFull_1 : decode cL_hoursUntilFull 1 = .ok (.iconst 0, 1) := by decide +kernel
theorem dL_hoursUntilFull_2 : decode cL_hoursUntilFull 2 = .ok (.aload_n 0, 1) := by decide +kernel
theorem dL_hoursUntilFull_3 : decode cL_hoursUntilFull 3 = .ok (.iload_n 1, 1) := by decide +kernel
theorem dL_hoursUntilFull_4 : decode cL_hoursUntilFull 4 = .ok (.invokevirtual 76, 3) := by decide +kernel
theorem dL_hoursUntilFull_7 : decode cL_hoursUntilFull 7 = .ok (.i2l, 1) := by decide +kernel
theorem dL_hoursUntilFull_8 : decode cL_hoursUntilFull 8 = .ok (.lastore, 1) := by decide +kernel
theorem dL_hoursUntilFull_9 : decode cL_hoursUntilFull 9 = .ok (.goto 6, 3) := by decide +kernel
theorem dL_hoursUntilFull_12 : decode cL_hoursUntilFull 12 = .ok (.astore_n 3, 1) := by decide +kernel
theorem dL_hoursUntilFull_13 : decode cL_hoursUntilFull 13 = .ok (.iconst 1, 1) := by decide +kernel
theorem dL_hoursUntilFull_14 : decode cL_hoursUntilFull 14 = .ok (.ireturn, 1) := by decide +kernel
theorem dL_hoursUntilFull_15 : decode cL_hoursUntilFull 15 = .ok (.iconst 0, 1) := by decide +kernel
theorem dL_hoursUntilFull_16 : decode cL_hoursUntilFull 16 = .ok (.ireturn, 1) := by decide +kernel
theorem dL_bestChild_0 : decode cL_bestChild 0 = .ok (.aload_n 2, 1) := by decide +kernel
theorem dL_bestChild_1 : decode cL_bestChild 1 = .ok (.iconst 0, 1) := by decide +kernel
theorem dL_bestChild_2 : decode cL_bestChild 2 = .ok (.aload_n 0, 1) := by decide +kernel
theorem dL_bestChild_3 : decode cL_bestChild 3 = .ok (.iload_n 1, 1) := by decide +kernel
theorem dL_bestChild_4 : decode cL_bestChild 4 = .ok (.invokevirtual 79, 3) := by decide +kernel
theorem dL_bestChild_7 : decode cL_bestChild 7 = .ok (.i2l, 1) := by decide +kernel
theorem dL_bestChild_8 : decode cL_bestChild 8 = .ok (.lastore, 1) := by decide +kernel
theorem dL_bestChild_9 : decode cL_bestChild 9 = .ok (.goto 6, 3) := by decide +kernel
theorem dL_bestChild_12 : decode cL_bestChild 12 = .ok (.astore_n 3, 1) := by decide +kernel
theorem dL_bestChild_13 : decode cL_bestChild 13 = .ok (.iconst 1, 1) := by decide +kernel
theorem dL_bestChild_14 : decode cL_bestChild 14 = .ok (.ireturn, 1) := by decide +kernel
theorem dL_bestChild_15 : decode cL_bestChild 15 = .ok (.iconst 0, 1) := by decide +kernel
theorem dL_bestChild_16 : decode cL_bestChild 16 = .ok (.ireturn, 1) := by decide +kernel
theorem dL_law_0 : decode cL_law 0 = .ok (.new 8, 3) := by decide +kernel
theorem dL_law_3 : decode cL_law 3 = .ok (.dup, 1) := by decide +kernel
theorem dL_law_4 : decode cL_law 4 = .ok (.invokespecial 82, 3) := by decide +kernel
theorem dL_law_7 : decode cL_law 7 = .ok (.astore_n 1, 1) := by decide +kernel
theorem dL_law_8 : decode cL_law 8 = .ok (.new 83, 3) := by decide +kernel
theorem dL_law_11 : decode cL_law 11 = .ok (.dup, 1) := by decide +kernel
theorem dL_law_12 : decode cL_law 12 = .ok (.invokespecial 85, 3) := by decide +kernel
theorem dL_law_15 : decode cL_law 15 = .ok (.astore_n 2, 1) := by decide +kernel
theorem dL_law_16 : decode cL_law 16 = .ok (.iconst 1, 1) := by decide +kernel
theorem dL_law_17 : decode cL_law 17 = .ok (.newarray .long, 2) := by decide +kernel
theorem dL_law_19 : decode cL_law 19 = .ok (.astore_n 3, 1) := by decide +kernel
theorem dL_law_20 : decode cL_law 20 = .ok (.iconst 0, 1) := by decide +kernel
theorem dL_law_21 : decode cL_law 21 = .ok (.istore 4, 2) := by decide +kernel
theorem dL_law_23 : decode cL_law 23 = .ok (.iload 4, 2) := by decide +kernel
theorem dL_law_25 : decode cL_law 25 = .ok (.aload_n 0, 1) := by decide +kernel
theorem dL_law_26 : decode cL_law 26 = .ok (.arraylength, 1) := by decide +kernel
theorem dL_law_27 : decode cL_law 27 = .ok (.iconst 4, 1) := by decide +kernel
theorem dL_law_28 : decode cL_law 28 = .ok (.isub, 1) := by decide +kernel
theorem dL_law_29 : decode cL_law 29 = .ok (.if_icmp .gt 1586, 3) := by decide +kernel
theorem dL_law_32 : decode cL_law 32 = .ok (.aload_n 0, 1) := by decide +kernel
theorem dL_law_33 : decode cL_law 33 = .ok (.iload 4, 2) := by decide +kernel
theorem dL_law_35 : decode cL_law 35 = .ok (.iaload, 1) := by decide +kernel
theorem dL_law_36 : decode cL_law 36 = .ok (.bipush 31, 2) := by decide +kernel
theorem dL_law_38 : decode cL_law 38 = .ok (.iand, 1) := by decide +kernel
theorem dL_law_39 : decode cL_law 39 = .ok (.tableswitch 1570 0 29 #[133, 201, 269, 337, 405, 480, 536, 592, 605, 618, 631, 644, 657, 670, 683, 739, 795, 851, 907, 963, 1019, 1075, 1131, 1187, 1255, 1335, 1403, 1459, 1515, 1556], 133) := by decide +kernel
theorem dL_law_172 : decode cL_law 172 = .ok (.aload_n 1, 1) := by decide +kernel
theorem dL_law_173 : decode cL_law 173 = .ok (.aload_n 0, 1) := by decide +kernel
theorem dL_law_174 : decode cL_law 174 = .ok (.iload 4, 2) := by decide +kernel
theorem dL_law_176 : decode cL_law 176 = .ok (.iconst 1, 1) := by decide +kernel
theorem dL_law_177 : decode cL_law 177 = .ok (.iadd, 1) := by decide +kernel
theorem dL_law_178 : decode cL_law 178 = .ok (.iaload, 1) := by decide +kernel
theorem dL_law_179 : decode cL_law 179 = .ok (.aload_n 0, 1) := by decide +kernel
theorem dL_law_180 : decode cL_law 180 = .ok (.iload 4, 2) := by decide +kernel
theorem dL_law_182 : decode cL_law 182 = .ok (.iconst 2, 1) := by decide +kernel
theorem dL_law_183 : decode cL_law 183 = .ok (.iadd, 1) := by decide +kernel
theorem dL_law_184 : decode cL_law 184 = .ok (.iaload, 1) := by decide +kernel
theorem dL_law_185 : decode cL_law 185 = .ok (.aload_n 3, 1) := by decide +kernel
theorem dL_law_186 : decode cL_law 186 = .ok (.invokestatic 86, 3) := by decide +kernel
theorem dL_law_189 : decode cL_law 189 = .ok (.istore 5, 2) := by decide +kernel
theorem dL_law_191 : decode cL_law 191 = .ok (.aload_n 2, 1) := by decide +kernel
theorem dL_law_192 : decode cL_law 192 = .ok (.aload_n 0, 1) := by decide +kernel
theorem dL_law_193 : decode cL_law 193 = .ok (.iload 4, 2) := by decide +kernel
theorem dL_law_195 : decode cL_law 195 = .ok (.iconst 1, 1) := by decide +kernel
theorem dL_law_196 : decode cL_law 196 = .ok (.iadd, 1) := by decide +kernel
theorem dL_law_197 : decode cL_law 197 = .ok (.iaload, 1) := by decide +kernel
theorem dL_law_198 : decode cL_law 198 = .ok (.aload_n 0, 1) := by decide +kernel
theorem dL_law_199 : decode cL_law 199 = .ok (.iload 4, 2) := by decide +kernel
theorem dL_law_201 : decode cL_law 201 = .ok (.iconst 2, 1) := by decide +kernel
theorem dL_law_202 : decode cL_law 202 = .ok (.iadd, 1) := by decide +kernel
theorem dL_law_203 : decode cL_law 203 = .ok (.iaload, 1) := by decide +kernel
theorem dL_law_204 : decode cL_law 204 = .ok (.invokevirtual 91, 3) := by decide +kernel
theorem dL_law_207 : decode cL_law 207 = .ok (.istore 6, 2) := by decide +kernel
theorem dL_law_209 : decode cL_law 209 = .ok (.aload_n 2, 1) := by decide +kernel
theorem dL_law_210 : decode cL_law 210 = .ok (.invokevirtual 92, 3) := by decide +kernel
theorem dL_law_213 : decode cL_law 213 = .ok (.iload 5, 2) := by decide +kernel
theorem dL_law_215 : decode cL_law 215 = .ok (.if_icmp .eq 5, 3) := by decide +kernel
theorem dL_law_218 : decode cL_law 218 = .ok (.iconst 0, 1) := by decide +kernel
theorem dL_law_219 : decode cL_law 219 = .ok (.ireturn, 1) := by decide +kernel
theorem dL_law_220 : decode cL_law 220 = .ok (.iload 5, 2) := by decide +kernel
theorem dL_law_222 : decode cL_law 222 = .ok (.ifCond .ne 15, 3) := by decide +kernel
theorem dL_law_225 : decode cL_law 225 = .ok (.aload_n 3, 1) := by decide +kernel
theorem dL_law_226 : decode cL_law 226 = .ok (.iconst 0, 1) := by decide +kernel
theorem dL_law_227 : decode cL_law 227 = .ok (.laload, 1) := by decide +kernel
theorem dL_law_228 : decode cL_law 228 = .ok (.iload 6, 2) := by decide +kernel
theorem dL_law_230 : decode cL_law 230 = .ok (.i2l, 1) := by decide +kernel
theorem dL_law_231 : decode cL_law 231 = .ok (.lcmp, 1) := by decide +kernel
theorem dL_law_232 : decode cL_law 232 = .ok (.ifCond .eq 5, 3) := by decide +kernel
theorem dL_law_235 : decode cL_law 235 = .ok (.iconst 0, 1) := by decide +kernel
theorem dL_law_236 : decode cL_law 236 = .ok (.ireturn, 1) := by decide +kernel
theorem dL_law_237 : decode cL_law 237 = .ok (.goto 1372, 3) := by decide +kernel
theorem dL_law_240 : decode cL_law 240 = .ok (.aload_n 1, 1) := by decide +kernel
theorem dL_law_241 : decode cL_law 241 = .ok (.aload_n 0, 1) := by decide +kernel
theorem dL_law_242 : decode cL_law 242 = .ok (.iload 4, 2) := by decide +kernel
theorem dL_law_244 : decode cL_law 244 = .ok (.iconst 1, 1) := by decide +kernel
theorem dL_law_245 : decode cL_law 245 = .ok (.iadd, 1) := by decide +kernel
theorem dL_law_246 : decode cL_law 246 = .ok (.iaload, 1) := by decide +kernel
theorem dL_law_247 : decode cL_law 247 = .ok (.aload_n 0, 1) := by decide +kernel
theorem dL_law_248 : decode cL_law 248 = .ok (.iload 4, 2) := by decide +kernel
theorem dL_law_250 : decode cL_law 250 = .ok (.iconst 2, 1) := by decide +kernel
theorem dL_law_251 : decode cL_law 251 = .ok (.iadd, 1) := by decide +kernel
theorem dL_law_252 : decode cL_law 252 = .ok (.iaload, 1) := by decide +kernel
theorem dL_law_253 : decode cL_law 253 = .ok (.aload_n 3, 1) := by decide +kernel
theorem dL_law_254 : decode cL_law 254 = .ok (.invokestatic 96, 3) := by decide +kernel
theorem dL_law_257 : decode cL_law 257 = .ok (.istore 5, 2) := by decide +kernel
theorem dL_law_259 : decode cL_law 259 = .ok (.aload_n 2, 1) := by decide +kernel
theorem dL_law_260 : decode cL_law 260 = .ok (.aload_n 0, 1) := by decide +kernel
theorem dL_law_261 : decode cL_law 261 = .ok (.iload 4, 2) := by decide +kernel
theorem dL_law_263 : decode cL_law 263 = .ok (.iconst 1, 1) := by decide +kernel
theorem dL_law_264 : decode cL_law 264 = .ok (.iadd, 1) := by decide +kernel
theorem dL_law_265 : decode cL_law 265 = .ok (.iaload, 1) := by decide +kernel
theorem dL_law_266 : decode cL_law 266 = .ok (.aload_n 0, 1) := by decide +kernel
theorem dL_law_267 : decode cL_law 267 = .ok (.iload 4, 2) := by decide +kernel
theorem dL_law_269 : decode cL_law 269 = .ok (.iconst 2, 1) := by decide +kernel
theorem dL_law_270 : decode cL_law 270 = .ok (.iadd, 1) := by decide +kernel
theorem dL_law_271 : decode cL_law 271 = .ok (.iaload, 1) := by decide +kernel
theorem dL_law_272 : decode cL_law 272 = .ok (.invokevirtual 98, 3) := by decide +kernel
theorem dL_law_275 : decode cL_law 275 = .ok (.istore 6, 2) := by decide +kernel
theorem dL_law_277 : decode cL_law 277 = .ok (.aload_n 2, 1) := by decide +kernel
theorem dL_law_278 : decode cL_law 278 = .ok (.invokevirtual 92, 3) := by decide +kernel
theorem dL_law_281 : decode cL_law 281 = .ok (.iload 5, 2) := by decide +kernel
theorem dL_law_283 : decode cL_law 283 = .ok (.if_icmp .eq 5, 3) := by decide +kernel
theorem dL_law_286 : decode cL_law 286 = .ok (.iconst 0, 1) := by decide +kernel
theorem dL_law_287 : decode cL_law 287 = .ok (.ireturn, 1) := by decide +kernel
theorem dL_law_288 : decode cL_law 288 = .ok (.iload 5, 2) := by decide +kernel
theorem dL_law_290 : decode cL_law 290 = .ok (.ifCond .ne 15, 3) := by decide +kernel
theorem dL_law_293 : decode cL_law 293 = .ok (.aload_n 3, 1) := by decide +kernel
theorem dL_law_294 : decode cL_law 294 = .ok (.iconst 0, 1) := by decide +kernel
theorem dL_law_295 : decode cL_law 295 = .ok (.laload, 1) := by decide +kernel
theorem dL_law_296 : decode cL_law 296 = .ok (.iload 6, 2) := by decide +kernel
theorem dL_law_298 : decode cL_law 298 = .ok (.i2l, 1) := by decide +kernel
theorem dL_law_299 : decode cL_law 299 = .ok (.lcmp, 1) := by decide +kernel
theorem dL_law_300 : decode cL_law 300 = .ok (.ifCond .eq 5, 3) := by decide +kernel
theorem dL_law_303 : decode cL_law 303 = .ok (.iconst 0, 1) := by decide +kernel
theorem dL_law_304 : decode cL_law 304 = .ok (.ireturn, 1) := by decide +kernel
theorem dL_law_305 : decode cL_law 305 = .ok (.goto 1304, 3) := by decide +kernel
theorem dL_law_308 : decode cL_law 308 = .ok (.aload_n 1, 1) := by decide +kernel
theorem dL_law_309 : decode cL_law 309 = .ok (.aload_n 0, 1) := by decide +kernel
theorem dL_law_310 : decode cL_law 310 = .ok (.iload 4, 2) := by decide +kernel
theorem dL_law_312 : decode cL_law 312 = .ok (.iconst 1, 1) := by decide +kernel
theorem dL_law_313 : decode cL_law 313 = .ok (.iadd, 1) := by decide +kernel
theorem dL_law_314 : decode cL_law 314 = .ok (.iaload, 1) := by decide +kernel
theorem dL_law_315 : decode cL_law 315 = .ok (.aload_n 0, 1) := by decide +kernel
theorem dL_law_316 : decode cL_law 316 = .ok (.iload 4, 2) := by decide +kernel
theorem dL_law_318 : decode cL_law 318 = .ok (.iconst 2, 1) := by decide +kernel
theorem dL_law_319 : decode cL_law 319 = .ok (.iadd, 1) := by decide +kernel
theorem dL_law_320 : decode cL_law 320 = .ok (.iaload, 1) := by decide +kernel
theorem dL_law_321 : decode cL_law 321 = .ok (.aload_n 3, 1) := by decide +kernel
theorem dL_law_322 : decode cL_law 322 = .ok (.invokestatic 99, 3) := by decide +kernel
theorem dL_law_325 : decode cL_law 325 = .ok (.istore 5, 2) := by decide +kernel
theorem dL_law_327 : decode cL_law 327 = .ok (.aload_n 2, 1) := by decide +kernel
theorem dL_law_328 : decode cL_law 328 = .ok (.aload_n 0, 1) := by decide +kernel
theorem dL_law_329 : decode cL_law 329 = .ok (.iload 4, 2) := by decide +kernel
theorem dL_law_331 : decode cL_law 331 = .ok (.iconst 1, 1) := by decide +kernel
theorem dL_law_332 : decode cL_law 332 = .ok (.iadd, 1) := by decide +kernel
theorem dL_law_333 : decode cL_law 333 = .ok (.iaload, 1) := by decide +kernel
theorem dL_law_334 : decode cL_law 334 = .ok (.aload_n 0, 1) := by decide +kernel
theorem dL_law_335 : decode cL_law 335 = .ok (.iload 4, 2) := by decide +kernel
theorem dL_law_337 : decode cL_law 337 = .ok (.iconst 2, 1) := by decide +kernel
theorem dL_law_338 : decode cL_law 338 = .ok (.iadd, 1) := by decide +kernel
theorem dL_law_339 : decode cL_law 339 = .ok (.iaload, 1) := by decide +kernel
theorem dL_law_340 : decode cL_law 340 = .ok (.invokevirtual 101, 3) := by decide +kernel
theorem dL_law_343 : decode cL_law 343 = .ok (.istore 6, 2) := by decide +kernel
theorem dL_law_345 : decode cL_law 345 = .ok (.aload_n 2, 1) := by decide +kernel
theorem dL_law_346 : decode cL_law 346 = .ok (.invokevirtual 92, 3) := by decide +kernel
theorem dL_law_349 : decode cL_law 349 = .ok (.iload 5, 2) := by decide +kernel
theorem dL_law_351 : decode cL_law 351 = .ok (.if_icmp .eq 5, 3) := by decide +kernel
theorem dL_law_354 : decode cL_law 354 = .ok (.iconst 0, 1) := by decide +kernel
theorem dL_law_355 : decode cL_law 355 = .ok (.ireturn, 1) := by decide +kernel
theorem dL_law_356 : decode cL_law 356 = .ok (.iload 5, 2) := by decide +kernel
theorem dL_law_358 : decode cL_law 358 = .ok (.ifCond .ne 15, 3) := by decide +kernel
theorem dL_law_361 : decode cL_law 361 = .ok (.aload_n 3, 1) := by decide +kernel
theorem dL_law_362 : decode cL_law 362 = .ok (.iconst 0, 1) := by decide +kernel
theorem dL_law_363 : decode cL_law 363 = .ok (.laload, 1) := by decide +kernel
theorem dL_law_364 : decode cL_law 364 = .ok (.iload 6, 2) := by decide +kernel
theorem dL_law_366 : decode cL_law 366 = .ok (.i2l, 1) := by decide +kernel
theorem dL_law_367 : decode cL_law 367 = .ok (.lcmp, 1) := by decide +kernel
theorem dL_law_368 : decode cL_law 368 = .ok (.ifCond .eq 5, 3) := by decide +kernel
theorem dL_law_371 : decode cL_law 371 = .ok (.iconst 0, 1) := by decide +kernel
theorem dL_law_372 : decode cL_law 372 = .ok (.ireturn, 1) := by decide +kernel
theorem dL_law_373 : decode cL_law 373 = .ok (.goto 1236, 3) := by decide +kernel
theorem dL_law_376 : decode cL_law 376 = .ok (.aload_n 1, 1) := by decide +kernel
theorem dL_law_377 : decode cL_law 377 = .ok (.aload_n 0, 1) := by decide +kernel
theorem dL_law_378 : decode cL_law 378 = .ok (.iload 4, 2) := by decide +kernel
theorem dL_law_380 : decode cL_law 380 = .ok (.iconst 1, 1) := by decide +kernel
theorem dL_law_381 : decode cL_law 381 = .ok (.iadd, 1) := by decide +kernel
theorem dL_law_382 : decode cL_law 382 = .ok (.iaload, 1) := by decide +kernel
theorem dL_law_383 : decode cL_law 383 = .ok (.aload_n 0, 1) := by decide +kernel
theorem dL_law_384 : decode cL_law 384 = .ok (.iload 4, 2) := by decide +kernel
theorem dL_law_386 : decode cL_law 386 = .ok (.iconst 2, 1) := by decide +kernel
theorem dL_law_387 : decode cL_law 387 = .ok (.iadd, 1) := by decide +kernel
theorem dL_law_388 : decode cL_law 388 = .ok (.iaload, 1) := by decide +kernel
theorem dL_law_389 : decode cL_law 389 = .ok (.aload_n 3, 1) := by decide +kernel
theorem dL_law_390 : decode cL_law 390 = .ok (.invokestatic 102, 3) := by decide +kernel
theorem dL_law_393 : decode cL_law 393 = .ok (.istore 5, 2) := by decide +kernel
theorem dL_law_395 : decode cL_law 395 = .ok (.aload_n 2, 1) := by decide +kernel
theorem dL_law_396 : decode cL_law 396 = .ok (.aload_n 0, 1) := by decide +kernel
theorem dL_law_397 : decode cL_law 397 = .ok (.iload 4, 2) := by decide +kernel
theorem dL_law_399 : decode cL_law 399 = .ok (.iconst 1, 1) := by decide +kernel
theorem dL_law_400 : decode cL_law 400 = .ok (.iadd, 1) := by decide +kernel
theorem dL_law_401 : decode cL_law 401 = .ok (.iaload, 1) := by decide +kernel
theorem dL_law_402 : decode cL_law 402 = .ok (.aload_n 0, 1) := by decide +kernel
theorem dL_law_403 : decode cL_law 403 = .ok (.iload 4, 2) := by decide +kernel
theorem dL_law_405 : decode cL_law 405 = .ok (.iconst 2, 1) := by decide +kernel
theorem dL_law_406 : decode cL_law 406 = .ok (.iadd, 1) := by decide +kernel
theorem dL_law_407 : decode cL_law 407 = .ok (.iaload, 1) := by decide +kernel
theorem dL_law_408 : decode cL_law 408 = .ok (.invokevirtual 104, 3) := by decide +kernel
theorem dL_law_411 : decode cL_law 411 = .ok (.istore 6, 2) := by decide +kernel
theorem dL_law_413 : decode cL_law 413 = .ok (.aload_n 2, 1) := by decide +kernel
theorem dL_law_414 : decode cL_law 414 = .ok (.invokevirtual 92, 3) := by decide +kernel
theorem dL_law_417 : decode cL_law 417 = .ok (.iload 5, 2) := by decide +kernel
theorem dL_law_419 : decode cL_law 419 = .ok (.if_icmp .eq 5, 3) := by decide +kernel
theorem dL_law_422 : decode cL_law 422 = .ok (.iconst 0, 1) := by decide +kernel
theorem dL_law_423 : decode cL_law 423 = .ok (.ireturn, 1) := by decide +kernel
theorem dL_law_424 : decode cL_law 424 = .ok (.iload 5, 2) := by decide +kernel
theorem dL_law_426 : decode cL_law 426 = .ok (.ifCond .ne 15, 3) := by decide +kernel
theorem dL_law_429 : decode cL_law 429 = .ok (.aload_n 3, 1) := by decide +kernel
theorem dL_law_430 : decode cL_law 430 = .ok (.iconst 0, 1) := by decide +kernel
theorem dL_law_431 : decode cL_law 431 = .ok (.laload, 1) := by decide +kernel
theorem dL_law_432 : decode cL_law 432 = .ok (.iload 6, 2) := by decide +kernel
theorem dL_law_434 : decode cL_law 434 = .ok (.i2l, 1) := by decide +kernel
theorem dL_law_435 : decode cL_law 435 = .ok (.lcmp, 1) := by decide +kernel
theorem dL_law_436 : decode cL_law 436 = .ok (.ifCond .eq 5, 3) := by decide +kernel
theorem dL_law_439 : decode cL_law 439 = .ok (.iconst 0, 1) := by decide +kernel
theorem dL_law_440 : decode cL_law 440 = .ok (.ireturn, 1) := by decide +kernel
theorem dL_law_441 : decode cL_law 441 = .ok (.goto 1168, 3) := by decide +kernel
theorem dL_law_444 : decode cL_law 444 = .ok (.aload_n 1, 1) := by decide +kernel
theorem dL_law_445 : decode cL_law 445 = .ok (.aload_n 0, 1) := by decide +kernel
theorem dL_law_446 : decode cL_law 446 = .ok (.iload 4, 2) := by decide +kernel
theorem dL_law_448 : decode cL_law 448 = .ok (.iconst 1, 1) := by decide +kernel
theorem dL_law_449 : decode cL_law 449 = .ok (.iadd, 1) := by decide +kernel
theorem dL_law_450 : decode cL_law 450 = .ok (.iaload, 1) := by decide +kernel
theorem dL_law_451 : decode cL_law 451 = .ok (.aload_n 0, 1) := by decide +kernel
theorem dL_law_452 : decode cL_law 452 = .ok (.iload 4, 2) := by decide +kernel
theorem dL_law_454 : decode cL_law 454 = .ok (.iconst 2, 1) := by decide +kernel
theorem dL_law_455 : decode cL_law 455 = .ok (.iadd, 1) := by decide +kernel
theorem dL_law_456 : decode cL_law 456 = .ok (.iaload, 1) := by decide +kernel
theorem dL_law_457 : decode cL_law 457 = .ok (.aload_n 3, 1) := by decide +kernel
theorem dL_law_458 : decode cL_law 458 = .ok (.invokestatic 105, 3) := by decide +kernel
theorem dL_law_461 : decode cL_law 461 = .ok (.istore 5, 2) := by decide +kernel
theorem dL_law_463 : decode cL_law 463 = .ok (.aload_n 2, 1) := by decide +kernel
theorem dL_law_464 : decode cL_law 464 = .ok (.aload_n 0, 1) := by decide +kernel
theorem dL_law_465 : decode cL_law 465 = .ok (.iload 4, 2) := by decide +kernel
theorem dL_law_467 : decode cL_law 467 = .ok (.iconst 1, 1) := by decide +kernel
theorem dL_law_468 : decode cL_law 468 = .ok (.iadd, 1) := by decide +kernel
theorem dL_law_469 : decode cL_law 469 = .ok (.iaload, 1) := by decide +kernel
theorem dL_law_470 : decode cL_law 470 = .ok (.aload_n 0, 1) := by decide +kernel
theorem dL_law_471 : decode cL_law 471 = .ok (.iload 4, 2) := by decide +kernel
theorem dL_law_473 : decode cL_law 473 = .ok (.iconst 2, 1) := by decide +kernel
theorem dL_law_474 : decode cL_law 474 = .ok (.iadd, 1) := by decide +kernel
theorem dL_law_475 : decode cL_law 475 = .ok (.iaload, 1) := by decide +kernel
theorem dL_law_476 : decode cL_law 476 = .ok (.invokevirtual 107, 3) := by decide +kernel
theorem dL_law_479 : decode cL_law 479 = .ok (.istore 6, 2) := by decide +kernel
theorem dL_law_481 : decode cL_law 481 = .ok (.aload_n 2, 1) := by decide +kernel
theorem dL_law_482 : decode cL_law 482 = .ok (.invokevirtual 92, 3) := by decide +kernel
theorem dL_law_485 : decode cL_law 485 = .ok (.iload 5, 2) := by decide +kernel
theorem dL_law_487 : decode cL_law 487 = .ok (.if_icmp .eq 5, 3) := by decide +kernel
theorem dL_law_490 : decode cL_law 490 = .ok (.iconst 0, 1) := by decide +kernel
theorem dL_law_491 : decode cL_law 491 = .ok (.ireturn, 1) := by decide +kernel
theorem dL_law_492 : decode cL_law 492 = .ok (.iload 5, 2) := by decide +kernel
theorem dL_law_494 : decode cL_law 494 = .ok (.ifCond .ne 22, 3) := by decide +kernel
theorem dL_law_497 : decode cL_law 497 = .ok (.aload_n 3, 1) := by decide +kernel
theorem dL_law_498 : decode cL_law 498 = .ok (.iconst 0, 1) := by decide +kernel
theorem dL_law_499 : decode cL_law 499 = .ok (.laload, 1) := by decide +kernel
theorem dL_law_500 : decode cL_law 500 = .ok (.iload 6, 2) := by decide +kernel
theorem dL_law_502 : decode cL_law 502 = .ok (.ifCond .eq 7, 3) := by decide +kernel
theorem dL_law_505 : decode cL_law 505 = .ok (.lconst 1, 1) := by decide +kernel
theorem dL_law_506 : decode cL_law 506 = .ok (.goto 4, 3) := by decide +kernel
theorem dL_law_509 : decode cL_law 509 = .ok (.lconst 0, 1) := by decide +kernel
theorem dL_law_510 : decode cL_law 510 = .ok (.lcmp, 1) := by decide +kernel
theorem dL_law_511 : decode cL_law 511 = .ok (.ifCond .eq 5, 3) := by decide +kernel
theorem dL_law_514 : decode cL_law 514 = .ok (.iconst 0, 1) := by decide +kernel
theorem dL_law_515 : decode cL_law 515 = .ok (.ireturn, 1) := by decide +kernel
theorem dL_law_516 : decode cL_law 516 = .ok (.goto 1093, 3) := by decide +kernel
theorem dL_law_519 : decode cL_law 519 = .ok (.aload_n 1, 1) := by decide +kernel
theorem dL_law_520 : decode cL_law 520 = .ok (.aload_n 0, 1) := by decide +kernel
theorem dL_law_521 : decode cL_law 521 = .ok (.iload 4, 2) := by decide +kernel
theorem dL_law_523 : decode cL_law 523 = .ok (.iconst 1, 1) := by decide +kernel
theorem dL_law_524 : decode cL_law 524 = .ok (.iadd, 1) := by decide +kernel
theorem dL_law_525 : decode cL_law 525 = .ok (.iaload, 1) := by decide +kernel
theorem dL_law_526 : decode cL_law 526 = .ok (.aload_n 3, 1) := by decide +kernel
theorem dL_law_527 : decode cL_law 527 = .ok (.invokestatic 108, 3) := by decide +kernel
theorem dL_law_530 : decode cL_law 530 = .ok (.istore 5, 2) := by decide +kernel
theorem dL_law_532 : decode cL_law 532 = .ok (.aload_n 2, 1) := by decide +kernel
theorem dL_law_533 : decode cL_law 533 = .ok (.aload_n 0, 1) := by decide +kernel
theorem dL_law_534 : decode cL_law 534 = .ok (.iload 4, 2) := by decide +kernel
theorem dL_law_536 : decode cL_law 536 = .ok (.iconst 1, 1) := by decide +kernel
theorem dL_law_537 : decode cL_law 537 = .ok (.iadd, 1) := by decide +kernel
theorem dL_law_538 : decode cL_law 538 = .ok (.iaload, 1) := by decide +kernel
theorem dL_law_539 : decode cL_law 539 = .ok (.invokevirtual 111, 3) := by decide +kernel
theorem dL_law_542 : decode cL_law 542 = .ok (.istore 6, 2) := by decide +kernel
theorem dL_law_544 : decode cL_law 544 = .ok (.aload_n 2, 1) := by decide +kernel
theorem dL_law_545 : decode cL_law 545 = .ok (.invokevirtual 92, 3) := by decide +kernel
theorem dL_law_548 : decode cL_law 548 = .ok (.iload 5, 2) := by decide +kernel
theorem dL_law_550 : decode cL_law 550 = .ok (.if_icmp .eq 5, 3) := by decide +kernel
theorem dL_law_553 : decode cL_law 553 = .ok (.iconst 0, 1) := by decide +kernel
theorem dL_law_554 : decode cL_law 554 = .ok (.ireturn, 1) := by decide +kernel
theorem dL_law_555 : decode cL_law 555 = .ok (.iload 5, 2) := by decide +kernel
theorem dL_law_557 : decode cL_law 557 = .ok (.ifCond .ne 15, 3) := by decide +kernel
theorem dL_law_560 : decode cL_law 560 = .ok (.aload_n 3, 1) := by decide +kernel
theorem dL_law_561 : decode cL_law 561 = .ok (.iconst 0, 1) := by decide +kernel
theorem dL_law_562 : decode cL_law 562 = .ok (.laload, 1) := by decide +kernel
theorem dL_law_563 : decode cL_law 563 = .ok (.iload 6, 2) := by decide +kernel
theorem dL_law_565 : decode cL_law 565 = .ok (.i2l, 1) := by decide +kernel
theorem dL_law_566 : decode cL_law 566 = .ok (.lcmp, 1) := by decide +kernel
theorem dL_law_567 : decode cL_law 567 = .ok (.ifCond .eq 5, 3) := by decide +kernel
theorem dL_law_570 : decode cL_law 570 = .ok (.iconst 0, 1) := by decide +kernel
theorem dL_law_571 : decode cL_law 571 = .ok (.ireturn, 1) := by decide +kernel
theorem dL_law_572 : decode cL_law 572 = .ok (.goto 1037, 3) := by decide +kernel
theorem dL_law_575 : decode cL_law 575 = .ok (.aload_n 1, 1) := by decide +kernel
theorem dL_law_576 : decode cL_law 576 = .ok (.aload_n 0, 1) := by decide +kernel
theorem dL_law_577 : decode cL_law 577 = .ok (.iload 4, 2) := by decide +kernel
theorem dL_law_579 : decode cL_law 579 = .ok (.iconst 1, 1) := by decide +kernel
theorem dL_law_580 : decode cL_law 580 = .ok (.iadd, 1) := by decide +kernel
theorem dL_law_581 : decode cL_law 581 = .ok (.iaload, 1) := by decide +kernel
theorem dL_law_582 : decode cL_law 582 = .ok (.aload_n 3, 1) := by decide +kernel
theorem dL_law_583 : decode cL_law 583 = .ok (.invokestatic 112, 3) := by decide +kernel
theorem dL_law_586 : decode cL_law 586 = .ok (.istore 5, 2) := by decide +kernel
theorem dL_law_588 : decode cL_law 588 = .ok (.aload_n 2, 1) := by decide +kernel
theorem dL_law_589 : decode cL_law 589 = .ok (.aload_n 0, 1) := by decide +kernel
theorem dL_law_590 : decode cL_law 590 = .ok (.iload 4, 2) := by decide +kernel
theorem dL_law_592 : decode cL_law 592 = .ok (.iconst 1, 1) := by decide +kernel
theorem dL_law_593 : decode cL_law 593 = .ok (.iadd, 1) := by decide +kernel
theorem dL_law_594 : decode cL_law 594 = .ok (.iaload, 1) := by decide +kernel
theorem dL_law_595 : decode cL_law 595 = .ok (.invokevirtual 114, 3) := by decide +kernel
theorem dL_law_598 : decode cL_law 598 = .ok (.istore 6, 2) := by decide +kernel
theorem dL_law_600 : decode cL_law 600 = .ok (.aload_n 2, 1) := by decide +kernel
theorem dL_law_601 : decode cL_law 601 = .ok (.invokevirtual 92, 3) := by decide +kernel
theorem dL_law_604 : decode cL_law 604 = .ok (.iload 5, 2) := by decide +kernel
theorem dL_law_606 : decode cL_law 606 = .ok (.if_icmp .eq 5, 3) := by decide +kernel
theorem dL_law_609 : decode cL_law 609 = .ok (.iconst 0, 1) := by decide +kernel
theorem dL_law_610 : decode cL_law 610 = .ok (.ireturn, 1) := by decide +kernel
theorem dL_law_611 : decode cL_law 611 = .ok (.iload 5, 2) := by decide +kernel
theorem dL_law_613 : decode cL_law 613 = .ok (.ifCond .ne 15, 3) := by decide +kernel
theorem dL_law_616 : decode cL_law 616 = .ok (.aload_n 3, 1) := by decide +kernel
theorem dL_law_617 : decode cL_law 617 = .ok (.iconst 0, 1) := by decide +kernel
theorem dL_law_618 : decode cL_law 618 = .ok (.laload, 1) := by decide +kernel
theorem dL_law_619 : decode cL_law 619 = .ok (.iload 6, 2) := by decide +kernel
theorem dL_law_621 : decode cL_law 621 = .ok (.i2l, 1) := by decide +kernel
theorem dL_law_622 : decode cL_law 622 = .ok (.lcmp, 1) := by decide +kernel
theorem dL_law_623 : decode cL_law 623 = .ok (.ifCond .eq 5, 3) := by decide +kernel
theorem dL_law_626 : decode cL_law 626 = .ok (.iconst 0, 1) := by decide +kernel
theorem dL_law_627 : decode cL_law 627 = .ok (.ireturn, 1) := by decide +kernel
theorem dL_law_628 : decode cL_law 628 = .ok (.goto 981, 3) := by decide +kernel
theorem dL_law_631 : decode cL_law 631 = .ok (.aload_n 1, 1) := by decide +kernel
theorem dL_law_632 : decode cL_law 632 = .ok (.invokevirtual 115, 3) := by decide +kernel
theorem dL_law_635 : decode cL_law 635 = .ok (.aload_n 2, 1) := by decide +kernel
theorem dL_law_636 : decode cL_law 636 = .ok (.invokevirtual 118, 3) := by decide +kernel
theorem dL_law_639 : decode cL_law 639 = .ok (.if_icmp .eq 970, 3) := by decide +kernel
theorem dL_law_642 : decode cL_law 642 = .ok (.iconst 0, 1) := by decide +kernel
theorem dL_law_643 : decode cL_law 643 = .ok (.ireturn, 1) := by decide +kernel
theorem dL_law_644 : decode cL_law 644 = .ok (.aload_n 1, 1) := by decide +kernel
theorem dL_law_645 : decode cL_law 645 = .ok (.invokevirtual 119, 3) := by decide +kernel
theorem dL_law_648 : decode cL_law 648 = .ok (.aload_n 2, 1) := by decide +kernel
theorem dL_law_649 : decode cL_law 649 = .ok (.invokevirtual 122, 3) := by decide +kernel
theorem dL_law_652 : decode cL_law 652 = .ok (.if_icmp .eq 957, 3) := by decide +kernel
theorem dL_law_655 : decode cL_law 655 = .ok (.iconst 0, 1) := by decide +kernel
theorem dL_law_656 : decode cL_law 656 = .ok (.ireturn, 1) := by decide +kernel
theorem dL_law_657 : decode cL_law 657 = .ok (.aload_n 1, 1) := by decide +kernel
theorem dL_law_658 : decode cL_law 658 = .ok (.invokevirtual 123, 3) := by decide +kernel
theorem dL_law_661 : decode cL_law 661 = .ok (.aload_n 2, 1) := by decide +kernel
theorem dL_law_662 : decode cL_law 662 = .ok (.invokevirtual 126, 3) := by decide +kernel
theorem dL_law_665 : decode cL_law 665 = .ok (.if_icmp .eq 944, 3) := by decide +kernel
theorem dL_law_668 : decode cL_law 668 = .ok (.iconst 0, 1) := by decide +kernel
theorem dL_law_669 : decode cL_law 669 = .ok (.ireturn, 1) := by decide +kernel
theorem dL_law_670 : decode cL_law 670 = .ok (.aload_n 1, 1) := by decide +kernel
theorem dL_law_671 : decode cL_law 671 = .ok (.invokevirtual 127, 3) := by decide +kernel
theorem dL_law_674 : decode cL_law 674 = .ok (.aload_n 2, 1) := by decide +kernel
theorem dL_law_675 : decode cL_law 675 = .ok (.invokevirtual 130, 3) := by decide +kernel
theorem dL_law_678 : decode cL_law 678 = .ok (.if_icmp .eq 931, 3) := by decide +kernel
theorem dL_law_681 : decode cL_law 681 = .ok (.iconst 0, 1) := by decide +kernel
theorem dL_law_682 : decode cL_law 682 = .ok (.ireturn, 1) := by decide +kernel
theorem dL_law_683 : decode cL_law 683 = .ok (.aload_n 1, 1) := by decide +kernel
theorem dL_law_684 : decode cL_law 684 = .ok (.invokevirtual 131, 3) := by decide +kernel
theorem dL_law_687 : decode cL_law 687 = .ok (.aload_n 2, 1) := by decide +kernel
theorem dL_law_688 : decode cL_law 688 = .ok (.invokevirtual 134, 3) := by decide +kernel
theorem dL_law_691 : decode cL_law 691 = .ok (.if_icmp .eq 918, 3) := by decide +kernel
theorem dL_law_694 : decode cL_law 694 = .ok (.iconst 0, 1) := by decide +kernel
theorem dL_law_695 : decode cL_law 695 = .ok (.ireturn, 1) := by decide +kernel
theorem dL_law_696 : decode cL_law 696 = .ok (.aload_n 1, 1) := by decide +kernel
theorem dL_law_697 : decode cL_law 697 = .ok (.invokevirtual 135, 3) := by decide +kernel
theorem dL_law_700 : decode cL_law 700 = .ok (.aload_n 2, 1) := by decide +kernel
theorem dL_law_701 : decode cL_law 701 = .ok (.invokevirtual 138, 3) := by decide +kernel
theorem dL_law_704 : decode cL_law 704 = .ok (.if_icmp .eq 905, 3) := by decide +kernel
theorem dL_law_707 : decode cL_law 707 = .ok (.iconst 0, 1) := by decide +kernel
theorem dL_law_708 : decode cL_law 708 = .ok (.ireturn, 1) := by decide +kernel
theorem dL_law_709 : decode cL_law 709 = .ok (.aload_n 1, 1) := by decide +kernel
theorem dL_law_710 : decode cL_law 710 = .ok (.invokevirtual 139, 3) := by decide +kernel
theorem dL_law_713 : decode cL_law 713 = .ok (.aload_n 2, 1) := by decide +kernel
theorem dL_law_714 : decode cL_law 714 = .ok (.invokevirtual 142, 3) := by decide +kernel
theorem dL_law_717 : decode cL_law 717 = .ok (.if_icmp .eq 892, 3) := by decide +kernel
theorem dL_law_720 : decode cL_law 720 = .ok (.iconst 0, 1) := by decide +kernel
theorem dL_law_721 : decode cL_law 721 = .ok (.ireturn, 1) := by decide +kernel
theorem dL_law_722 : decode cL_law 722 = .ok (.aload_n 1, 1) := by decide +kernel
theorem dL_law_723 : decode cL_law 723 = .ok (.aload_n 0, 1) := by decide +kernel
theorem dL_law_724 : decode cL_law 724 = .ok (.iload 4, 2) := by decide +kernel
theorem dL_law_726 : decode cL_law 726 = .ok (.iconst 1, 1) := by decide +kernel
theorem dL_law_727 : decode cL_law 727 = .ok (.iadd, 1) := by decide +kernel
theorem dL_law_728 : decode cL_law 728 = .ok (.iaload, 1) := by decide +kernel
theorem dL_law_729 : decode cL_law 729 = .ok (.aload_n 3, 1) := by decide +kernel
theorem dL_law_730 : decode cL_law 730 = .ok (.invokestatic 143, 3) := by decide +kernel
theorem dL_law_733 : decode cL_law 733 = .ok (.istore 5, 2) := by decide +kernel
theorem dL_law_735 : decode cL_law 735 = .ok (.aload_n 2, 1) := by decide +kernel
theorem dL_law_736 : decode cL_law 736 = .ok (.aload_n 0, 1) := by decide +kernel
theorem dL_law_737 : decode cL_law 737 = .ok (.iload 4, 2) := by decide +kernel
theorem dL_law_739 : decode cL_law 739 = .ok (.iconst 1, 1) := by decide +kernel
theorem dL_law_740 : decode cL_law 740 = .ok (.iadd, 1) := by decide +kernel
theorem dL_law_741 : decode cL_law 741 = .ok (.iaload, 1) := by decide +kernel
theorem dL_law_742 : decode cL_law 742 = .ok (.invokevirtual 145, 3) := by decide +kernel
theorem dL_law_745 : decode cL_law 745 = .ok (.istore 6, 2) := by decide +kernel
theorem dL_law_747 : decode cL_law 747 = .ok (.aload_n 2, 1) := by decide +kernel
theorem dL_law_748 : decode cL_law 748 = .ok (.invokevirtual 92, 3) := by decide +kernel
theorem dL_law_751 : decode cL_law 751 = .ok (.iload 5, 2) := by decide +kernel
theorem dL_law_753 : decode cL_law 753 = .ok (.if_icmp .eq 5, 3) := by decide +kernel
theorem dL_law_756 : decode cL_law 756 = .ok (.iconst 0, 1) := by decide +kernel
theorem dL_law_757 : decode cL_law 757 = .ok (.ireturn, 1) := by decide +kernel
theorem dL_law_758 : decode cL_law 758 = .ok (.iload 5, 2) := by decide +kernel
theorem dL_law_760 : decode cL_law 760 = .ok (.ifCond .ne 15, 3) := by decide +kernel
theorem dL_law_763 : decode cL_law 763 = .ok (.aload_n 3, 1) := by decide +kernel
theorem dL_law_764 : decode cL_law 764 = .ok (.iconst 0, 1) := by decide +kernel
theorem dL_law_765 : decode cL_law 765 = .ok (.laload, 1) := by decide +kernel
theorem dL_law_766 : decode cL_law 766 = .ok (.iload 6, 2) := by decide +kernel
theorem dL_law_768 : decode cL_law 768 = .ok (.i2l, 1) := by decide +kernel
theorem dL_law_769 : decode cL_law 769 = .ok (.lcmp, 1) := by decide +kernel
theorem dL_law_770 : decode cL_law 770 = .ok (.ifCond .eq 5, 3) := by decide +kernel
theorem dL_law_773 : decode cL_law 773 = .ok (.iconst 0, 1) := by decide +kernel
theorem dL_law_774 : decode cL_law 774 = .ok (.ireturn, 1) := by decide +kernel
theorem dL_law_775 : decode cL_law 775 = .ok (.goto 834, 3) := by decide +kernel
theorem dL_law_778 : decode cL_law 778 = .ok (.aload_n 1, 1) := by decide +kernel
theorem dL_law_779 : decode cL_law 779 = .ok (.aload_n 0, 1) := by decide +kernel
theorem dL_law_780 : decode cL_law 780 = .ok (.iload 4, 2) := by decide +kernel
theorem dL_law_782 : decode cL_law 782 = .ok (.iconst 1, 1) := by decide +kernel
theorem dL_law_783 : decode cL_law 783 = .ok (.iadd, 1) := by decide +kernel
theorem dL_law_784 : decode cL_law 784 = .ok (.iaload, 1) := by decide +kernel
theorem dL_law_785 : decode cL_law 785 = .ok (.aload_n 3, 1) := by decide +kernel
theorem dL_law_786 : decode cL_law 786 = .ok (.invokestatic 146, 3) := by decide +kernel
theorem dL_law_789 : decode cL_law 789 = .ok (.istore 5, 2) := by decide +kernel
theorem dL_law_791 : decode cL_law 791 = .ok (.aload_n 2, 1) := by decide +kernel
theorem dL_law_792 : decode cL_law 792 = .ok (.aload_n 0, 1) := by decide +kernel
theorem dL_law_793 : decode cL_law 793 = .ok (.iload 4, 2) := by decide +kernel
theorem dL_law_795 : decode cL_law 795 = .ok (.iconst 1, 1) := by decide +kernel
theorem dL_law_796 : decode cL_law 796 = .ok (.iadd, 1) := by decide +kernel
theorem dL_law_797 : decode cL_law 797 = .ok (.iaload, 1) := by decide +kernel
theorem dL_law_798 : decode cL_law 798 = .ok (.invokevirtual 148, 3) := by decide +kernel
theorem dL_law_801 : decode cL_law 801 = .ok (.istore 6, 2) := by decide +kernel
theorem dL_law_803 : decode cL_law 803 = .ok (.aload_n 2, 1) := by decide +kernel
theorem dL_law_804 : decode cL_law 804 = .ok (.invokevirtual 92, 3) := by decide +kernel
theorem dL_law_807 : decode cL_law 807 = .ok (.iload 5, 2) := by decide +kernel
theorem dL_law_809 : decode cL_law 809 = .ok (.if_icmp .eq 5, 3) := by decide +kernel
theorem dL_law_812 : decode cL_law 812 = .ok (.iconst 0, 1) := by decide +kernel
theorem dL_law_813 : decode cL_law 813 = .ok (.ireturn, 1) := by decide +kernel
theorem dL_law_814 : decode cL_law 814 = .ok (.iload 5, 2) := by decide +kernel
theorem dL_law_816 : decode cL_law 816 = .ok (.ifCond .ne 15, 3) := by decide +kernel
theorem dL_law_819 : decode cL_law 819 = .ok (.aload_n 3, 1) := by decide +kernel
theorem dL_law_820 : decode cL_law 820 = .ok (.iconst 0, 1) := by decide +kernel
theorem dL_law_821 : decode cL_law 821 = .ok (.laload, 1) := by decide +kernel
theorem dL_law_822 : decode cL_law 822 = .ok (.iload 6, 2) := by decide +kernel
theorem dL_law_824 : decode cL_law 824 = .ok (.i2l, 1) := by decide +kernel
theorem dL_law_825 : decode cL_law 825 = .ok (.lcmp, 1) := by decide +kernel
theorem dL_law_826 : decode cL_law 826 = .ok (.ifCond .eq 5, 3) := by decide +kernel
theorem dL_law_829 : decode cL_law 829 = .ok (.iconst 0, 1) := by decide +kernel
theorem dL_law_830 : decode cL_law 830 = .ok (.ireturn, 1) := by decide +kernel
theorem dL_law_831 : decode cL_law 831 = .ok (.goto 778, 3) := by decide +kernel
theorem dL_law_834 : decode cL_law 834 = .ok (.aload_n 1, 1) := by decide +kernel
theorem dL_law_835 : decode cL_law 835 = .ok (.aload_n 0, 1) := by decide +kernel
theorem dL_law_836 : decode cL_law 836 = .ok (.iload 4, 2) := by decide +kernel
theorem dL_law_838 : decode cL_law 838 = .ok (.iconst 1, 1) := by decide +kernel
theorem dL_law_839 : decode cL_law 839 = .ok (.iadd, 1) := by decide +kernel
theorem dL_law_840 : decode cL_law 840 = .ok (.iaload, 1) := by decide +kernel
theorem dL_law_841 : decode cL_law 841 = .ok (.aload_n 3, 1) := by decide +kernel
theorem dL_law_842 : decode cL_law 842 = .ok (.invokestatic 149, 3) := by decide +kernel
theorem dL_law_845 : decode cL_law 845 = .ok (.istore 5, 2) := by decide +kernel
theorem dL_law_847 : decode cL_law 847 = .ok (.aload_n 2, 1) := by decide +kernel
theorem dL_law_848 : decode cL_law 848 = .ok (.aload_n 0, 1) := by decide +kernel
theorem dL_law_849 : decode cL_law 849 = .ok (.iload 4, 2) := by decide +kernel
theorem dL_law_851 : decode cL_law 851 = .ok (.iconst 1, 1) := by decide +kernel
theorem dL_law_852 : decode cL_law 852 = .ok (.iadd, 1) := by decide +kernel
theorem dL_law_853 : decode cL_law 853 = .ok (.iaload, 1) := by decide +kernel
theorem dL_law_854 : decode cL_law 854 = .ok (.invokevirtual 151, 3) := by decide +kernel
theorem dL_law_857 : decode cL_law 857 = .ok (.istore 6, 2) := by decide +kernel
theorem dL_law_859 : decode cL_law 859 = .ok (.aload_n 2, 1) := by decide +kernel
theorem dL_law_860 : decode cL_law 860 = .ok (.invokevirtual 92, 3) := by decide +kernel
theorem dL_law_863 : decode cL_law 863 = .ok (.iload 5, 2) := by decide +kernel
theorem dL_law_865 : decode cL_law 865 = .ok (.if_icmp .eq 5, 3) := by decide +kernel
theorem dL_law_868 : decode cL_law 868 = .ok (.iconst 0, 1) := by decide +kernel
theorem dL_law_869 : decode cL_law 869 = .ok (.ireturn, 1) := by decide +kernel
theorem dL_law_870 : decode cL_law 870 = .ok (.iload 5, 2) := by decide +kernel
theorem dL_law_872 : decode cL_law 872 = .ok (.ifCond .ne 15, 3) := by decide +kernel
theorem dL_law_875 : decode cL_law 875 = .ok (.aload_n 3, 1) := by decide +kernel
theorem dL_law_876 : decode cL_law 876 = .ok (.iconst 0, 1) := by decide +kernel
theorem dL_law_877 : decode cL_law 877 = .ok (.laload, 1) := by decide +kernel
theorem dL_law_878 : decode cL_law 878 = .ok (.iload 6, 2) := by decide +kernel
theorem dL_law_880 : decode cL_law 880 = .ok (.i2l, 1) := by decide +kernel
theorem dL_law_881 : decode cL_law 881 = .ok (.lcmp, 1) := by decide +kernel
theorem dL_law_882 : decode cL_law 882 = .ok (.ifCond .eq 5, 3) := by decide +kernel
theorem dL_law_885 : decode cL_law 885 = .ok (.iconst 0, 1) := by decide +kernel
theorem dL_law_886 : decode cL_law 886 = .ok (.ireturn, 1) := by decide +kernel
theorem dL_law_887 : decode cL_law 887 = .ok (.goto 722, 3) := by decide +kernel
theorem dL_law_890 : decode cL_law 890 = .ok (.aload_n 1, 1) := by decide +kernel
theorem dL_law_891 : decode cL_law 891 = .ok (.aload_n 0, 1) := by decide +kernel
theorem dL_law_892 : decode cL_law 892 = .ok (.iload 4, 2) := by decide +kernel
theorem dL_law_894 : decode cL_law 894 = .ok (.iconst 1, 1) := by decide +kernel
theorem dL_law_895 : decode cL_law 895 = .ok (.iadd, 1) := by decide +kernel
theorem dL_law_896 : decode cL_law 896 = .ok (.iaload, 1) := by decide +kernel
theorem dL_law_897 : decode cL_law 897 = .ok (.aload_n 3, 1) := by decide +kernel
theorem dL_law_898 : decode cL_law 898 = .ok (.invokestatic 152, 3) := by decide +kernel
theorem dL_law_901 : decode cL_law 901 = .ok (.istore 5, 2) := by decide +kernel
theorem dL_law_903 : decode cL_law 903 = .ok (.aload_n 2, 1) := by decide +kernel
theorem dL_law_904 : decode cL_law 904 = .ok (.aload_n 0, 1) := by decide +kernel
theorem dL_law_905 : decode cL_law 905 = .ok (.iload 4, 2) := by decide +kernel
theorem dL_law_907 : decode cL_law 907 = .ok (.iconst 1, 1) := by decide +kernel
theorem dL_law_908 : decode cL_law 908 = .ok (.iadd, 1) := by decide +kernel
theorem dL_law_909 : decode cL_law 909 = .ok (.iaload, 1) := by decide +kernel
theorem dL_law_910 : decode cL_law 910 = .ok (.invokevirtual 154, 3) := by decide +kernel
theorem dL_law_913 : decode cL_law 913 = .ok (.istore 6, 2) := by decide +kernel
theorem dL_law_915 : decode cL_law 915 = .ok (.aload_n 2, 1) := by decide +kernel
theorem dL_law_916 : decode cL_law 916 = .ok (.invokevirtual 92, 3) := by decide +kernel
theorem dL_law_919 : decode cL_law 919 = .ok (.iload 5, 2) := by decide +kernel
theorem dL_law_921 : decode cL_law 921 = .ok (.if_icmp .eq 5, 3) := by decide +kernel
theorem dL_law_924 : decode cL_law 924 = .ok (.iconst 0, 1) := by decide +kernel
theorem dL_law_925 : decode cL_law 925 = .ok (.ireturn, 1) := by decide +kernel
theorem dL_law_926 : decode cL_law 926 = .ok (.iload 5, 2) := by decide +kernel
theorem dL_law_928 : decode cL_law 928 = .ok (.ifCond .ne 15, 3) := by decide +kernel
theorem dL_law_931 : decode cL_law 931 = .ok (.aload_n 3, 1) := by decide +kernel
theorem dL_law_932 : decode cL_law 932 = .ok (.iconst 0, 1) := by decide +kernel
theorem dL_law_933 : decode cL_law 933 = .ok (.laload, 1) := by decide +kernel
theorem dL_law_934 : decode cL_law 934 = .ok (.iload 6, 2) := by decide +kernel
theorem dL_law_936 : decode cL_law 936 = .ok (.i2l, 1) := by decide +kernel
theorem dL_law_937 : decode cL_law 937 = .ok (.lcmp, 1) := by decide +kernel
theorem dL_law_938 : decode cL_law 938 = .ok (.ifCond .eq 5, 3) := by decide +kernel
theorem dL_law_941 : decode cL_law 941 = .ok (.iconst 0, 1) := by decide +kernel
theorem dL_law_942 : decode cL_law 942 = .ok (.ireturn, 1) := by decide +kernel
theorem dL_law_943 : decode cL_law 943 = .ok (.goto 666, 3) := by decide +kernel
theorem dL_law_946 : decode cL_law 946 = .ok (.aload_n 1, 1) := by decide +kernel
theorem dL_law_947 : decode cL_law 947 = .ok (.aload_n 0, 1) := by decide +kernel
theorem dL_law_948 : decode cL_law 948 = .ok (.iload 4, 2) := by decide +kernel
theorem dL_law_950 : decode cL_law 950 = .ok (.iconst 1, 1) := by decide +kernel
theorem dL_law_951 : decode cL_law 951 = .ok (.iadd, 1) := by decide +kernel
theorem dL_law_952 : decode cL_law 952 = .ok (.iaload, 1) := by decide +kernel
theorem dL_law_953 : decode cL_law 953 = .ok (.aload_n 3, 1) := by decide +kernel
theorem dL_law_954 : decode cL_law 954 = .ok (.invokestatic 155, 3) := by decide +kernel
theorem dL_law_957 : decode cL_law 957 = .ok (.istore 5, 2) := by decide +kernel
theorem dL_law_959 : decode cL_law 959 = .ok (.aload_n 2, 1) := by decide +kernel
theorem dL_law_960 : decode cL_law 960 = .ok (.aload_n 0, 1) := by decide +kernel
theorem dL_law_961 : decode cL_law 961 = .ok (.iload 4, 2) := by decide +kernel
theorem dL_law_963 : decode cL_law 963 = .ok (.iconst 1, 1) := by decide +kernel
theorem dL_law_964 : decode cL_law 964 = .ok (.iadd, 1) := by decide +kernel
theorem dL_law_965 : decode cL_law 965 = .ok (.iaload, 1) := by decide +kernel
theorem dL_law_966 : decode cL_law 966 = .ok (.invokevirtual 157, 3) := by decide +kernel
theorem dL_law_969 : decode cL_law 969 = .ok (.istore 6, 2) := by decide +kernel
theorem dL_law_971 : decode cL_law 971 = .ok (.aload_n 2, 1) := by decide +kernel
theorem dL_law_972 : decode cL_law 972 = .ok (.invokevirtual 92, 3) := by decide +kernel
theorem dL_law_975 : decode cL_law 975 = .ok (.iload 5, 2) := by decide +kernel
theorem dL_law_977 : decode cL_law 977 = .ok (.if_icmp .eq 5, 3) := by decide +kernel
theorem dL_law_980 : decode cL_law 980 = .ok (.iconst 0, 1) := by decide +kernel
theorem dL_law_981 : decode cL_law 981 = .ok (.ireturn, 1) := by decide +kernel
theorem dL_law_982 : decode cL_law 982 = .ok (.iload 5, 2) := by decide +kernel
theorem dL_law_984 : decode cL_law 984 = .ok (.ifCond .ne 15, 3) := by decide +kernel
theorem dL_law_987 : decode cL_law 987 = .ok (.aload_n 3, 1) := by decide +kernel
theorem dL_law_988 : decode cL_law 988 = .ok (.iconst 0, 1) := by decide +kernel
theorem dL_law_989 : decode cL_law 989 = .ok (.laload, 1) := by decide +kernel
theorem dL_law_990 : decode cL_law 990 = .ok (.iload 6, 2) := by decide +kernel
theorem dL_law_992 : decode cL_law 992 = .ok (.i2l, 1) := by decide +kernel
theorem dL_law_993 : decode cL_law 993 = .ok (.lcmp, 1) := by decide +kernel
theorem dL_law_994 : decode cL_law 994 = .ok (.ifCond .eq 5, 3) := by decide +kernel
theorem dL_law_997 : decode cL_law 997 = .ok (.iconst 0, 1) := by decide +kernel
theorem dL_law_998 : decode cL_law 998 = .ok (.ireturn, 1) := by decide +kernel
theorem dL_law_999 : decode cL_law 999 = .ok (.goto 610, 3) := by decide +kernel
theorem dL_law_1002 : decode cL_law 1002 = .ok (.aload_n 1, 1) := by decide +kernel
theorem dL_law_1003 : decode cL_law 1003 = .ok (.aload_n 0, 1) := by decide +kernel
theorem dL_law_1004 : decode cL_law 1004 = .ok (.iload 4, 2) := by decide +kernel
theorem dL_law_1006 : decode cL_law 1006 = .ok (.iconst 1, 1) := by decide +kernel
theorem dL_law_1007 : decode cL_law 1007 = .ok (.iadd, 1) := by decide +kernel
theorem dL_law_1008 : decode cL_law 1008 = .ok (.iaload, 1) := by decide +kernel
theorem dL_law_1009 : decode cL_law 1009 = .ok (.aload_n 3, 1) := by decide +kernel
theorem dL_law_1010 : decode cL_law 1010 = .ok (.invokestatic 158, 3) := by decide +kernel
theorem dL_law_1013 : decode cL_law 1013 = .ok (.istore 5, 2) := by decide +kernel
theorem dL_law_1015 : decode cL_law 1015 = .ok (.aload_n 2, 1) := by decide +kernel
theorem dL_law_1016 : decode cL_law 1016 = .ok (.aload_n 0, 1) := by decide +kernel
theorem dL_law_1017 : decode cL_law 1017 = .ok (.iload 4, 2) := by decide +kernel
theorem dL_law_1019 : decode cL_law 1019 = .ok (.iconst 1, 1) := by decide +kernel
theorem dL_law_1020 : decode cL_law 1020 = .ok (.iadd, 1) := by decide +kernel
theorem dL_law_1021 : decode cL_law 1021 = .ok (.iaload, 1) := by decide +kernel
theorem dL_law_1022 : decode cL_law 1022 = .ok (.invokevirtual 160, 3) := by decide +kernel
theorem dL_law_1025 : decode cL_law 1025 = .ok (.istore 6, 2) := by decide +kernel
theorem dL_law_1027 : decode cL_law 1027 = .ok (.aload_n 2, 1) := by decide +kernel
theorem dL_law_1028 : decode cL_law 1028 = .ok (.invokevirtual 92, 3) := by decide +kernel
theorem dL_law_1031 : decode cL_law 1031 = .ok (.iload 5, 2) := by decide +kernel
theorem dL_law_1033 : decode cL_law 1033 = .ok (.if_icmp .eq 5, 3) := by decide +kernel
theorem dL_law_1036 : decode cL_law 1036 = .ok (.iconst 0, 1) := by decide +kernel
theorem dL_law_1037 : decode cL_law 1037 = .ok (.ireturn, 1) := by decide +kernel
theorem dL_law_1038 : decode cL_law 1038 = .ok (.iload 5, 2) := by decide +kernel
theorem dL_law_1040 : decode cL_law 1040 = .ok (.ifCond .ne 15, 3) := by decide +kernel
theorem dL_law_1043 : decode cL_law 1043 = .ok (.aload_n 3, 1) := by decide +kernel
theorem dL_law_1044 : decode cL_law 1044 = .ok (.iconst 0, 1) := by decide +kernel
theorem dL_law_1045 : decode cL_law 1045 = .ok (.laload, 1) := by decide +kernel
theorem dL_law_1046 : decode cL_law 1046 = .ok (.iload 6, 2) := by decide +kernel
theorem dL_law_1048 : decode cL_law 1048 = .ok (.i2l, 1) := by decide +kernel
theorem dL_law_1049 : decode cL_law 1049 = .ok (.lcmp, 1) := by decide +kernel
theorem dL_law_1050 : decode cL_law 1050 = .ok (.ifCond .eq 5, 3) := by decide +kernel
theorem dL_law_1053 : decode cL_law 1053 = .ok (.iconst 0, 1) := by decide +kernel
theorem dL_law_1054 : decode cL_law 1054 = .ok (.ireturn, 1) := by decide +kernel
theorem dL_law_1055 : decode cL_law 1055 = .ok (.goto 554, 3) := by decide +kernel
theorem dL_law_1058 : decode cL_law 1058 = .ok (.aload_n 1, 1) := by decide +kernel
theorem dL_law_1059 : decode cL_law 1059 = .ok (.aload_n 0, 1) := by decide +kernel
theorem dL_law_1060 : decode cL_law 1060 = .ok (.iload 4, 2) := by decide +kernel
theorem dL_law_1062 : decode cL_law 1062 = .ok (.iconst 1, 1) := by decide +kernel
theorem dL_law_1063 : decode cL_law 1063 = .ok (.iadd, 1) := by decide +kernel
theorem dL_law_1064 : decode cL_law 1064 = .ok (.iaload, 1) := by decide +kernel
theorem dL_law_1065 : decode cL_law 1065 = .ok (.aload_n 3, 1) := by decide +kernel
theorem dL_law_1066 : decode cL_law 1066 = .ok (.invokestatic 161, 3) := by decide +kernel
theorem dL_law_1069 : decode cL_law 1069 = .ok (.istore 5, 2) := by decide +kernel
theorem dL_law_1071 : decode cL_law 1071 = .ok (.aload_n 2, 1) := by decide +kernel
theorem dL_law_1072 : decode cL_law 1072 = .ok (.aload_n 0, 1) := by decide +kernel
theorem dL_law_1073 : decode cL_law 1073 = .ok (.iload 4, 2) := by decide +kernel
theorem dL_law_1075 : decode cL_law 1075 = .ok (.iconst 1, 1) := by decide +kernel
theorem dL_law_1076 : decode cL_law 1076 = .ok (.iadd, 1) := by decide +kernel
theorem dL_law_1077 : decode cL_law 1077 = .ok (.iaload, 1) := by decide +kernel
theorem dL_law_1078 : decode cL_law 1078 = .ok (.invokevirtual 163, 3) := by decide +kernel
theorem dL_law_1081 : decode cL_law 1081 = .ok (.istore 6, 2) := by decide +kernel
theorem dL_law_1083 : decode cL_law 1083 = .ok (.aload_n 2, 1) := by decide +kernel
theorem dL_law_1084 : decode cL_law 1084 = .ok (.invokevirtual 92, 3) := by decide +kernel
theorem dL_law_1087 : decode cL_law 1087 = .ok (.iload 5, 2) := by decide +kernel
theorem dL_law_1089 : decode cL_law 1089 = .ok (.if_icmp .eq 5, 3) := by decide +kernel
theorem dL_law_1092 : decode cL_law 1092 = .ok (.iconst 0, 1) := by decide +kernel
theorem dL_law_1093 : decode cL_law 1093 = .ok (.ireturn, 1) := by decide +kernel
theorem dL_law_1094 : decode cL_law 1094 = .ok (.iload 5, 2) := by decide +kernel
theorem dL_law_1096 : decode cL_law 1096 = .ok (.ifCond .ne 15, 3) := by decide +kernel
theorem dL_law_1099 : decode cL_law 1099 = .ok (.aload_n 3, 1) := by decide +kernel
theorem dL_law_1100 : decode cL_law 1100 = .ok (.iconst 0, 1) := by decide +kernel
theorem dL_law_1101 : decode cL_law 1101 = .ok (.laload, 1) := by decide +kernel
theorem dL_law_1102 : decode cL_law 1102 = .ok (.iload 6, 2) := by decide +kernel
theorem dL_law_1104 : decode cL_law 1104 = .ok (.i2l, 1) := by decide +kernel
theorem dL_law_1105 : decode cL_law 1105 = .ok (.lcmp, 1) := by decide +kernel
theorem dL_law_1106 : decode cL_law 1106 = .ok (.ifCond .eq 5, 3) := by decide +kernel
theorem dL_law_1109 : decode cL_law 1109 = .ok (.iconst 0, 1) := by decide +kernel
theorem dL_law_1110 : decode cL_law 1110 = .ok (.ireturn, 1) := by decide +kernel
theorem dL_law_1111 : decode cL_law 1111 = .ok (.goto 498, 3) := by decide +kernel
theorem dL_law_1114 : decode cL_law 1114 = .ok (.aload_n 1, 1) := by decide +kernel
theorem dL_law_1115 : decode cL_law 1115 = .ok (.aload_n 0, 1) := by decide +kernel
theorem dL_law_1116 : decode cL_law 1116 = .ok (.iload 4, 2) := by decide +kernel
theorem dL_law_1118 : decode cL_law 1118 = .ok (.iconst 1, 1) := by decide +kernel
theorem dL_law_1119 : decode cL_law 1119 = .ok (.iadd, 1) := by decide +kernel
theorem dL_law_1120 : decode cL_law 1120 = .ok (.iaload, 1) := by decide +kernel
theorem dL_law_1121 : decode cL_law 1121 = .ok (.aload_n 3, 1) := by decide +kernel
theorem dL_law_1122 : decode cL_law 1122 = .ok (.invokestatic 164, 3) := by decide +kernel
theorem dL_law_1125 : decode cL_law 1125 = .ok (.istore 5, 2) := by decide +kernel
theorem dL_law_1127 : decode cL_law 1127 = .ok (.aload_n 2, 1) := by decide +kernel
theorem dL_law_1128 : decode cL_law 1128 = .ok (.aload_n 0, 1) := by decide +kernel
theorem dL_law_1129 : decode cL_law 1129 = .ok (.iload 4, 2) := by decide +kernel
theorem dL_law_1131 : decode cL_law 1131 = .ok (.iconst 1, 1) := by decide +kernel
theorem dL_law_1132 : decode cL_law 1132 = .ok (.iadd, 1) := by decide +kernel
theorem dL_law_1133 : decode cL_law 1133 = .ok (.iaload, 1) := by decide +kernel
theorem dL_law_1134 : decode cL_law 1134 = .ok (.invokevirtual 166, 3) := by decide +kernel
theorem dL_law_1137 : decode cL_law 1137 = .ok (.istore 6, 2) := by decide +kernel
theorem dL_law_1139 : decode cL_law 1139 = .ok (.aload_n 2, 1) := by decide +kernel
theorem dL_law_1140 : decode cL_law 1140 = .ok (.invokevirtual 92, 3) := by decide +kernel
theorem dL_law_1143 : decode cL_law 1143 = .ok (.iload 5, 2) := by decide +kernel
theorem dL_law_1145 : decode cL_law 1145 = .ok (.if_icmp .eq 5, 3) := by decide +kernel
theorem dL_law_1148 : decode cL_law 1148 = .ok (.iconst 0, 1) := by decide +kernel
theorem dL_law_1149 : decode cL_law 1149 = .ok (.ireturn, 1) := by decide +kernel
theorem dL_law_1150 : decode cL_law 1150 = .ok (.iload 5, 2) := by decide +kernel
theorem dL_law_1152 : decode cL_law 1152 = .ok (.ifCond .ne 15, 3) := by decide +kernel
theorem dL_law_1155 : decode cL_law 1155 = .ok (.aload_n 3, 1) := by decide +kernel
theorem dL_law_1156 : decode cL_law 1156 = .ok (.iconst 0, 1) := by decide +kernel
theorem dL_law_1157 : decode cL_law 1157 = .ok (.laload, 1) := by decide +kernel
theorem dL_law_1158 : decode cL_law 1158 = .ok (.iload 6, 2) := by decide +kernel
theorem dL_law_1160 : decode cL_law 1160 = .ok (.i2l, 1) := by decide +kernel
theorem dL_law_1161 : decode cL_law 1161 = .ok (.lcmp, 1) := by decide +kernel
theorem dL_law_1162 : decode cL_law 1162 = .ok (.ifCond .eq 5, 3) := by decide +kernel
theorem dL_law_1165 : decode cL_law 1165 = .ok (.iconst 0, 1) := by decide +kernel
theorem dL_law_1166 : decode cL_law 1166 = .ok (.ireturn, 1) := by decide +kernel
theorem dL_law_1167 : decode cL_law 1167 = .ok (.goto 442, 3) := by decide +kernel
theorem dL_law_1170 : decode cL_law 1170 = .ok (.aload_n 1, 1) := by decide +kernel
theorem dL_law_1171 : decode cL_law 1171 = .ok (.aload_n 0, 1) := by decide +kernel
theorem dL_law_1172 : decode cL_law 1172 = .ok (.iload 4, 2) := by decide +kernel
theorem dL_law_1174 : decode cL_law 1174 = .ok (.iconst 1, 1) := by decide +kernel
theorem dL_law_1175 : decode cL_law 1175 = .ok (.iadd, 1) := by decide +kernel
theorem dL_law_1176 : decode cL_law 1176 = .ok (.iaload, 1) := by decide +kernel
theorem dL_law_1177 : decode cL_law 1177 = .ok (.aload_n 3, 1) := by decide +kernel
theorem dL_law_1178 : decode cL_law 1178 = .ok (.invokestatic 167, 3) := by decide +kernel
theorem dL_law_1181 : decode cL_law 1181 = .ok (.istore 5, 2) := by decide +kernel
theorem dL_law_1183 : decode cL_law 1183 = .ok (.aload_n 2, 1) := by decide +kernel
theorem dL_law_1184 : decode cL_law 1184 = .ok (.aload_n 0, 1) := by decide +kernel
theorem dL_law_1185 : decode cL_law 1185 = .ok (.iload 4, 2) := by decide +kernel
theorem dL_law_1187 : decode cL_law 1187 = .ok (.iconst 1, 1) := by decide +kernel
theorem dL_law_1188 : decode cL_law 1188 = .ok (.iadd, 1) := by decide +kernel
theorem dL_law_1189 : decode cL_law 1189 = .ok (.iaload, 1) := by decide +kernel
theorem dL_law_1190 : decode cL_law 1190 = .ok (.invokevirtual 169, 3) := by decide +kernel
theorem dL_law_1193 : decode cL_law 1193 = .ok (.istore 6, 2) := by decide +kernel
theorem dL_law_1195 : decode cL_law 1195 = .ok (.aload_n 2, 1) := by decide +kernel
theorem dL_law_1196 : decode cL_law 1196 = .ok (.invokevirtual 92, 3) := by decide +kernel
theorem dL_law_1199 : decode cL_law 1199 = .ok (.iload 5, 2) := by decide +kernel
theorem dL_law_1201 : decode cL_law 1201 = .ok (.if_icmp .eq 5, 3) := by decide +kernel
theorem dL_law_1204 : decode cL_law 1204 = .ok (.iconst 0, 1) := by decide +kernel
theorem dL_law_1205 : decode cL_law 1205 = .ok (.ireturn, 1) := by decide +kernel
theorem dL_law_1206 : decode cL_law 1206 = .ok (.iload 5, 2) := by decide +kernel
theorem dL_law_1208 : decode cL_law 1208 = .ok (.ifCond .ne 15, 3) := by decide +kernel
theorem dL_law_1211 : decode cL_law 1211 = .ok (.aload_n 3, 1) := by decide +kernel
theorem dL_law_1212 : decode cL_law 1212 = .ok (.iconst 0, 1) := by decide +kernel
theorem dL_law_1213 : decode cL_law 1213 = .ok (.laload, 1) := by decide +kernel
theorem dL_law_1214 : decode cL_law 1214 = .ok (.iload 6, 2) := by decide +kernel
theorem dL_law_1216 : decode cL_law 1216 = .ok (.i2l, 1) := by decide +kernel
theorem dL_law_1217 : decode cL_law 1217 = .ok (.lcmp, 1) := by decide +kernel
theorem dL_law_1218 : decode cL_law 1218 = .ok (.ifCond .eq 5, 3) := by decide +kernel
theorem dL_law_1221 : decode cL_law 1221 = .ok (.iconst 0, 1) := by decide +kernel
theorem dL_law_1222 : decode cL_law 1222 = .ok (.ireturn, 1) := by decide +kernel
theorem dL_law_1223 : decode cL_law 1223 = .ok (.goto 386, 3) := by decide +kernel
theorem dL_law_1226 : decode cL_law 1226 = .ok (.aload_n 1, 1) := by decide +kernel
theorem dL_law_1227 : decode cL_law 1227 = .ok (.aload_n 0, 1) := by decide +kernel
theorem dL_law_1228 : decode cL_law 1228 = .ok (.iload 4, 2) := by decide +kernel
theorem dL_law_1230 : decode cL_law 1230 = .ok (.iconst 1, 1) := by decide +kernel
theorem dL_law_1231 : decode cL_law 1231 = .ok (.iadd, 1) := by decide +kernel
theorem dL_law_1232 : decode cL_law 1232 = .ok (.iaload, 1) := by decide +kernel
theorem dL_law_1233 : decode cL_law 1233 = .ok (.aload_n 0, 1) := by decide +kernel
theorem dL_law_1234 : decode cL_law 1234 = .ok (.iload 4, 2) := by decide +kernel
theorem dL_law_1236 : decode cL_law 1236 = .ok (.iconst 2, 1) := by decide +kernel
theorem dL_law_1237 : decode cL_law 1237 = .ok (.iadd, 1) := by decide +kernel
theorem dL_law_1238 : decode cL_law 1238 = .ok (.iaload, 1) := by decide +kernel
theorem dL_law_1239 : decode cL_law 1239 = .ok (.aload_n 3, 1) := by decide +kernel
theorem dL_law_1240 : decode cL_law 1240 = .ok (.invokestatic 170, 3) := by decide +kernel
theorem dL_law_1243 : decode cL_law 1243 = .ok (.istore 5, 2) := by decide +kernel
theorem dL_law_1245 : decode cL_law 1245 = .ok (.aload_n 2, 1) := by decide +kernel
theorem dL_law_1246 : decode cL_law 1246 = .ok (.aload_n 0, 1) := by decide +kernel
theorem dL_law_1247 : decode cL_law 1247 = .ok (.iload 4, 2) := by decide +kernel
theorem dL_law_1249 : decode cL_law 1249 = .ok (.iconst 1, 1) := by decide +kernel
theorem dL_law_1250 : decode cL_law 1250 = .ok (.iadd, 1) := by decide +kernel
theorem dL_law_1251 : decode cL_law 1251 = .ok (.iaload, 1) := by decide +kernel
theorem dL_law_1252 : decode cL_law 1252 = .ok (.aload_n 0, 1) := by decide +kernel
theorem dL_law_1253 : decode cL_law 1253 = .ok (.iload 4, 2) := by decide +kernel
theorem dL_law_1255 : decode cL_law 1255 = .ok (.iconst 2, 1) := by decide +kernel
theorem dL_law_1256 : decode cL_law 1256 = .ok (.iadd, 1) := by decide +kernel
theorem dL_law_1257 : decode cL_law 1257 = .ok (.iaload, 1) := by decide +kernel
theorem dL_law_1258 : decode cL_law 1258 = .ok (.invokevirtual 172, 3) := by decide +kernel
theorem dL_law_1261 : decode cL_law 1261 = .ok (.istore 6, 2) := by decide +kernel
theorem dL_law_1263 : decode cL_law 1263 = .ok (.aload_n 2, 1) := by decide +kernel
theorem dL_law_1264 : decode cL_law 1264 = .ok (.invokevirtual 92, 3) := by decide +kernel
theorem dL_law_1267 : decode cL_law 1267 = .ok (.iload 5, 2) := by decide +kernel
theorem dL_law_1269 : decode cL_law 1269 = .ok (.if_icmp .eq 5, 3) := by decide +kernel
theorem dL_law_1272 : decode cL_law 1272 = .ok (.iconst 0, 1) := by decide +kernel
theorem dL_law_1273 : decode cL_law 1273 = .ok (.ireturn, 1) := by decide +kernel
theorem dL_law_1274 : decode cL_law 1274 = .ok (.iload 5, 2) := by decide +kernel
theorem dL_law_1276 : decode cL_law 1276 = .ok (.ifCond .ne 15, 3) := by decide +kernel
theorem dL_law_1279 : decode cL_law 1279 = .ok (.aload_n 3, 1) := by decide +kernel
theorem dL_law_1280 : decode cL_law 1280 = .ok (.iconst 0, 1) := by decide +kernel
theorem dL_law_1281 : decode cL_law 1281 = .ok (.laload, 1) := by decide +kernel
theorem dL_law_1282 : decode cL_law 1282 = .ok (.iload 6, 2) := by decide +kernel
theorem dL_law_1284 : decode cL_law 1284 = .ok (.i2l, 1) := by decide +kernel
theorem dL_law_1285 : decode cL_law 1285 = .ok (.lcmp, 1) := by decide +kernel
theorem dL_law_1286 : decode cL_law 1286 = .ok (.ifCond .eq 5, 3) := by decide +kernel
theorem dL_law_1289 : decode cL_law 1289 = .ok (.iconst 0, 1) := by decide +kernel
theorem dL_law_1290 : decode cL_law 1290 = .ok (.ireturn, 1) := by decide +kernel
theorem dL_law_1291 : decode cL_law 1291 = .ok (.goto 318, 3) := by decide +kernel
theorem dL_law_1294 : decode cL_law 1294 = .ok (.aload_n 1, 1) := by decide +kernel
theorem dL_law_1295 : decode cL_law 1295 = .ok (.aload_n 0, 1) := by decide +kernel
theorem dL_law_1296 : decode cL_law 1296 = .ok (.iload 4, 2) := by decide +kernel
theorem dL_law_1298 : decode cL_law 1298 = .ok (.iconst 1, 1) := by decide +kernel
theorem dL_law_1299 : decode cL_law 1299 = .ok (.iadd, 1) := by decide +kernel
theorem dL_law_1300 : decode cL_law 1300 = .ok (.iaload, 1) := by decide +kernel
theorem dL_law_1301 : decode cL_law 1301 = .ok (.aload_n 0, 1) := by decide +kernel
theorem dL_law_1302 : decode cL_law 1302 = .ok (.iload 4, 2) := by decide +kernel
theorem dL_law_1304 : decode cL_law 1304 = .ok (.iconst 2, 1) := by decide +kernel
theorem dL_law_1305 : decode cL_law 1305 = .ok (.iadd, 1) := by decide +kernel
theorem dL_law_1306 : decode cL_law 1306 = .ok (.iaload, 1) := by decide +kernel
theorem dL_law_1307 : decode cL_law 1307 = .ok (.aload_n 0, 1) := by decide +kernel
theorem dL_law_1308 : decode cL_law 1308 = .ok (.iload 4, 2) := by decide +kernel
theorem dL_law_1310 : decode cL_law 1310 = .ok (.iconst 3, 1) := by decide +kernel
theorem dL_law_1311 : decode cL_law 1311 = .ok (.iadd, 1) := by decide +kernel
theorem dL_law_1312 : decode cL_law 1312 = .ok (.iaload, 1) := by decide +kernel
theorem dL_law_1313 : decode cL_law 1313 = .ok (.aload_n 3, 1) := by decide +kernel
theorem dL_law_1314 : decode cL_law 1314 = .ok (.invokestatic 173, 3) := by decide +kernel
theorem dL_law_1317 : decode cL_law 1317 = .ok (.istore 5, 2) := by decide +kernel
theorem dL_law_1319 : decode cL_law 1319 = .ok (.aload_n 2, 1) := by decide +kernel
theorem dL_law_1320 : decode cL_law 1320 = .ok (.aload_n 0, 1) := by decide +kernel
theorem dL_law_1321 : decode cL_law 1321 = .ok (.iload 4, 2) := by decide +kernel
theorem dL_law_1323 : decode cL_law 1323 = .ok (.iconst 1, 1) := by decide +kernel
theorem dL_law_1324 : decode cL_law 1324 = .ok (.iadd, 1) := by decide +kernel
theorem dL_law_1325 : decode cL_law 1325 = .ok (.iaload, 1) := by decide +kernel
theorem dL_law_1326 : decode cL_law 1326 = .ok (.aload_n 0, 1) := by decide +kernel
theorem dL_law_1327 : decode cL_law 1327 = .ok (.iload 4, 2) := by decide +kernel
theorem dL_law_1329 : decode cL_law 1329 = .ok (.iconst 2, 1) := by decide +kernel
theorem dL_law_1330 : decode cL_law 1330 = .ok (.iadd, 1) := by decide +kernel
theorem dL_law_1331 : decode cL_law 1331 = .ok (.iaload, 1) := by decide +kernel
theorem dL_law_1332 : decode cL_law 1332 = .ok (.aload_n 0, 1) := by decide +kernel
theorem dL_law_1333 : decode cL_law 1333 = .ok (.iload 4, 2) := by decide +kernel
theorem dL_law_1335 : decode cL_law 1335 = .ok (.iconst 3, 1) := by decide +kernel
theorem dL_law_1336 : decode cL_law 1336 = .ok (.iadd, 1) := by decide +kernel
theorem dL_law_1337 : decode cL_law 1337 = .ok (.iaload, 1) := by decide +kernel
theorem dL_law_1338 : decode cL_law 1338 = .ok (.invokevirtual 176, 3) := by decide +kernel
theorem dL_law_1341 : decode cL_law 1341 = .ok (.istore 6, 2) := by decide +kernel
theorem dL_law_1343 : decode cL_law 1343 = .ok (.aload_n 2, 1) := by decide +kernel
theorem dL_law_1344 : decode cL_law 1344 = .ok (.invokevirtual 92, 3) := by decide +kernel
theorem dL_law_1347 : decode cL_law 1347 = .ok (.iload 5, 2) := by decide +kernel
theorem dL_law_1349 : decode cL_law 1349 = .ok (.if_icmp .eq 5, 3) := by decide +kernel
theorem dL_law_1352 : decode cL_law 1352 = .ok (.iconst 0, 1) := by decide +kernel
theorem dL_law_1353 : decode cL_law 1353 = .ok (.ireturn, 1) := by decide +kernel
theorem dL_law_1354 : decode cL_law 1354 = .ok (.iload 5, 2) := by decide +kernel
theorem dL_law_1356 : decode cL_law 1356 = .ok (.ifCond .ne 15, 3) := by decide +kernel
theorem dL_law_1359 : decode cL_law 1359 = .ok (.aload_n 3, 1) := by decide +kernel
theorem dL_law_1360 : decode cL_law 1360 = .ok (.iconst 0, 1) := by decide +kernel
theorem dL_law_1361 : decode cL_law 1361 = .ok (.laload, 1) := by decide +kernel
theorem dL_law_1362 : decode cL_law 1362 = .ok (.iload 6, 2) := by decide +kernel
theorem dL_law_1364 : decode cL_law 1364 = .ok (.i2l, 1) := by decide +kernel
theorem dL_law_1365 : decode cL_law 1365 = .ok (.lcmp, 1) := by decide +kernel
theorem dL_law_1366 : decode cL_law 1366 = .ok (.ifCond .eq 5, 3) := by decide +kernel
theorem dL_law_1369 : decode cL_law 1369 = .ok (.iconst 0, 1) := by decide +kernel
theorem dL_law_1370 : decode cL_law 1370 = .ok (.ireturn, 1) := by decide +kernel
theorem dL_law_1371 : decode cL_law 1371 = .ok (.goto 238, 3) := by decide +kernel
theorem dL_law_1374 : decode cL_law 1374 = .ok (.aload_n 1, 1) := by decide +kernel
theorem dL_law_1375 : decode cL_law 1375 = .ok (.aload_n 0, 1) := by decide +kernel
theorem dL_law_1376 : decode cL_law 1376 = .ok (.iload 4, 2) := by decide +kernel
theorem dL_law_1378 : decode cL_law 1378 = .ok (.iconst 1, 1) := by decide +kernel
theorem dL_law_1379 : decode cL_law 1379 = .ok (.iadd, 1) := by decide +kernel
theorem dL_law_1380 : decode cL_law 1380 = .ok (.iaload, 1) := by decide +kernel
theorem dL_law_1381 : decode cL_law 1381 = .ok (.aload_n 0, 1) := by decide +kernel
theorem dL_law_1382 : decode cL_law 1382 = .ok (.iload 4, 2) := by decide +kernel
theorem dL_law_1384 : decode cL_law 1384 = .ok (.iconst 2, 1) := by decide +kernel
theorem dL_law_1385 : decode cL_law 1385 = .ok (.iadd, 1) := by decide +kernel
theorem dL_law_1386 : decode cL_law 1386 = .ok (.iaload, 1) := by decide +kernel
theorem dL_law_1387 : decode cL_law 1387 = .ok (.aload_n 3, 1) := by decide +kernel
theorem dL_law_1388 : decode cL_law 1388 = .ok (.invokestatic 177, 3) := by decide +kernel
theorem dL_law_1391 : decode cL_law 1391 = .ok (.istore 5, 2) := by decide +kernel
theorem dL_law_1393 : decode cL_law 1393 = .ok (.aload_n 2, 1) := by decide +kernel
theorem dL_law_1394 : decode cL_law 1394 = .ok (.aload_n 0, 1) := by decide +kernel
theorem dL_law_1395 : decode cL_law 1395 = .ok (.iload 4, 2) := by decide +kernel
theorem dL_law_1397 : decode cL_law 1397 = .ok (.iconst 1, 1) := by decide +kernel
theorem dL_law_1398 : decode cL_law 1398 = .ok (.iadd, 1) := by decide +kernel
theorem dL_law_1399 : decode cL_law 1399 = .ok (.iaload, 1) := by decide +kernel
theorem dL_law_1400 : decode cL_law 1400 = .ok (.aload_n 0, 1) := by decide +kernel
theorem dL_law_1401 : decode cL_law 1401 = .ok (.iload 4, 2) := by decide +kernel
theorem dL_law_1403 : decode cL_law 1403 = .ok (.iconst 2, 1) := by decide +kernel
theorem dL_law_1404 : decode cL_law 1404 = .ok (.iadd, 1) := by decide +kernel
theorem dL_law_1405 : decode cL_law 1405 = .ok (.iaload, 1) := by decide +kernel
theorem dL_law_1406 : decode cL_law 1406 = .ok (.invokevirtual 179, 3) := by decide +kernel
theorem dL_law_1409 : decode cL_law 1409 = .ok (.istore 6, 2) := by decide +kernel
theorem dL_law_1411 : decode cL_law 1411 = .ok (.aload_n 2, 1) := by decide +kernel
theorem dL_law_1412 : decode cL_law 1412 = .ok (.invokevirtual 92, 3) := by decide +kernel
theorem dL_law_1415 : decode cL_law 1415 = .ok (.iload 5, 2) := by decide +kernel
theorem dL_law_1417 : decode cL_law 1417 = .ok (.if_icmp .eq 5, 3) := by decide +kernel
theorem dL_law_1420 : decode cL_law 1420 = .ok (.iconst 0, 1) := by decide +kernel
theorem dL_law_1421 : decode cL_law 1421 = .ok (.ireturn, 1) := by decide +kernel
theorem dL_law_1422 : decode cL_law 1422 = .ok (.iload 5, 2) := by decide +kernel
theorem dL_law_1424 : decode cL_law 1424 = .ok (.ifCond .ne 15, 3) := by decide +kernel
theorem dL_law_1427 : decode cL_law 1427 = .ok (.aload_n 3, 1) := by decide +kernel
theorem dL_law_1428 : decode cL_law 1428 = .ok (.iconst 0, 1) := by decide +kernel
theorem dL_law_1429 : decode cL_law 1429 = .ok (.laload, 1) := by decide +kernel
theorem dL_law_1430 : decode cL_law 1430 = .ok (.iload 6, 2) := by decide +kernel
theorem dL_law_1432 : decode cL_law 1432 = .ok (.i2l, 1) := by decide +kernel
theorem dL_law_1433 : decode cL_law 1433 = .ok (.lcmp, 1) := by decide +kernel
theorem dL_law_1434 : decode cL_law 1434 = .ok (.ifCond .eq 5, 3) := by decide +kernel
theorem dL_law_1437 : decode cL_law 1437 = .ok (.iconst 0, 1) := by decide +kernel
theorem dL_law_1438 : decode cL_law 1438 = .ok (.ireturn, 1) := by decide +kernel
theorem dL_law_1439 : decode cL_law 1439 = .ok (.goto 170, 3) := by decide +kernel
theorem dL_law_1442 : decode cL_law 1442 = .ok (.aload_n 1, 1) := by decide +kernel
theorem dL_law_1443 : decode cL_law 1443 = .ok (.aload_n 0, 1) := by decide +kernel
theorem dL_law_1444 : decode cL_law 1444 = .ok (.iload 4, 2) := by decide +kernel
theorem dL_law_1446 : decode cL_law 1446 = .ok (.iconst 1, 1) := by decide +kernel
theorem dL_law_1447 : decode cL_law 1447 = .ok (.iadd, 1) := by decide +kernel
theorem dL_law_1448 : decode cL_law 1448 = .ok (.iaload, 1) := by decide +kernel
theorem dL_law_1449 : decode cL_law 1449 = .ok (.aload_n 3, 1) := by decide +kernel
theorem dL_law_1450 : decode cL_law 1450 = .ok (.invokestatic 180, 3) := by decide +kernel
theorem dL_law_1453 : decode cL_law 1453 = .ok (.istore 5, 2) := by decide +kernel
theorem dL_law_1455 : decode cL_law 1455 = .ok (.aload_n 2, 1) := by decide +kernel
theorem dL_law_1456 : decode cL_law 1456 = .ok (.aload_n 0, 1) := by decide +kernel
theorem dL_law_1457 : decode cL_law 1457 = .ok (.iload 4, 2) := by decide +kernel
theorem dL_law_1459 : decode cL_law 1459 = .ok (.iconst 1, 1) := by decide +kernel
theorem dL_law_1460 : decode cL_law 1460 = .ok (.iadd, 1) := by decide +kernel
theorem dL_law_1461 : decode cL_law 1461 = .ok (.iaload, 1) := by decide +kernel
theorem dL_law_1462 : decode cL_law 1462 = .ok (.invokevirtual 182, 3) := by decide +kernel
theorem dL_law_1465 : decode cL_law 1465 = .ok (.istore 6, 2) := by decide +kernel
theorem dL_law_1467 : decode cL_law 1467 = .ok (.aload_n 2, 1) := by decide +kernel
theorem dL_law_1468 : decode cL_law 1468 = .ok (.invokevirtual 92, 3) := by decide +kernel
theorem dL_law_1471 : decode cL_law 1471 = .ok (.iload 5, 2) := by decide +kernel
theorem dL_law_1473 : decode cL_law 1473 = .ok (.if_icmp .eq 5, 3) := by decide +kernel
theorem dL_law_1476 : decode cL_law 1476 = .ok (.iconst 0, 1) := by decide +kernel
theorem dL_law_1477 : decode cL_law 1477 = .ok (.ireturn, 1) := by decide +kernel
theorem dL_law_1478 : decode cL_law 1478 = .ok (.iload 5, 2) := by decide +kernel
theorem dL_law_1480 : decode cL_law 1480 = .ok (.ifCond .ne 15, 3) := by decide +kernel
theorem dL_law_1483 : decode cL_law 1483 = .ok (.aload_n 3, 1) := by decide +kernel
theorem dL_law_1484 : decode cL_law 1484 = .ok (.iconst 0, 1) := by decide +kernel
theorem dL_law_1485 : decode cL_law 1485 = .ok (.laload, 1) := by decide +kernel
theorem dL_law_1486 : decode cL_law 1486 = .ok (.iload 6, 2) := by decide +kernel
theorem dL_law_1488 : decode cL_law 1488 = .ok (.i2l, 1) := by decide +kernel
theorem dL_law_1489 : decode cL_law 1489 = .ok (.lcmp, 1) := by decide +kernel
theorem dL_law_1490 : decode cL_law 1490 = .ok (.ifCond .eq 5, 3) := by decide +kernel
theorem dL_law_1493 : decode cL_law 1493 = .ok (.iconst 0, 1) := by decide +kernel
theorem dL_law_1494 : decode cL_law 1494 = .ok (.ireturn, 1) := by decide +kernel
theorem dL_law_1495 : decode cL_law 1495 = .ok (.goto 114, 3) := by decide +kernel
theorem dL_law_1498 : decode cL_law 1498 = .ok (.aload_n 1, 1) := by decide +kernel
theorem dL_law_1499 : decode cL_law 1499 = .ok (.aload_n 0, 1) := by decide +kernel
theorem dL_law_1500 : decode cL_law 1500 = .ok (.iload 4, 2) := by decide +kernel
theorem dL_law_1502 : decode cL_law 1502 = .ok (.iconst 1, 1) := by decide +kernel
theorem dL_law_1503 : decode cL_law 1503 = .ok (.iadd, 1) := by decide +kernel
theorem dL_law_1504 : decode cL_law 1504 = .ok (.iaload, 1) := by decide +kernel
theorem dL_law_1505 : decode cL_law 1505 = .ok (.aload_n 3, 1) := by decide +kernel
theorem dL_law_1506 : decode cL_law 1506 = .ok (.invokestatic 183, 3) := by decide +kernel
theorem dL_law_1509 : decode cL_law 1509 = .ok (.istore 5, 2) := by decide +kernel
theorem dL_law_1511 : decode cL_law 1511 = .ok (.aload_n 2, 1) := by decide +kernel
theorem dL_law_1512 : decode cL_law 1512 = .ok (.aload_n 0, 1) := by decide +kernel
theorem dL_law_1513 : decode cL_law 1513 = .ok (.iload 4, 2) := by decide +kernel
theorem dL_law_1515 : decode cL_law 1515 = .ok (.iconst 1, 1) := by decide +kernel
theorem dL_law_1516 : decode cL_law 1516 = .ok (.iadd, 1) := by decide +kernel
theorem dL_law_1517 : decode cL_law 1517 = .ok (.iaload, 1) := by decide +kernel
theorem dL_law_1518 : decode cL_law 1518 = .ok (.invokevirtual 185, 3) := by decide +kernel
theorem dL_law_1521 : decode cL_law 1521 = .ok (.istore 6, 2) := by decide +kernel
theorem dL_law_1523 : decode cL_law 1523 = .ok (.aload_n 2, 1) := by decide +kernel
theorem dL_law_1524 : decode cL_law 1524 = .ok (.invokevirtual 92, 3) := by decide +kernel
theorem dL_law_1527 : decode cL_law 1527 = .ok (.iload 5, 2) := by decide +kernel
theorem dL_law_1529 : decode cL_law 1529 = .ok (.if_icmp .eq 5, 3) := by decide +kernel
theorem dL_law_1532 : decode cL_law 1532 = .ok (.iconst 0, 1) := by decide +kernel
theorem dL_law_1533 : decode cL_law 1533 = .ok (.ireturn, 1) := by decide +kernel
theorem dL_law_1534 : decode cL_law 1534 = .ok (.iload 5, 2) := by decide +kernel
theorem dL_law_1536 : decode cL_law 1536 = .ok (.ifCond .ne 15, 3) := by decide +kernel
theorem dL_law_1539 : decode cL_law 1539 = .ok (.aload_n 3, 1) := by decide +kernel
theorem dL_law_1540 : decode cL_law 1540 = .ok (.iconst 0, 1) := by decide +kernel
theorem dL_law_1541 : decode cL_law 1541 = .ok (.laload, 1) := by decide +kernel
theorem dL_law_1542 : decode cL_law 1542 = .ok (.iload 6, 2) := by decide +kernel
theorem dL_law_1544 : decode cL_law 1544 = .ok (.i2l, 1) := by decide +kernel
theorem dL_law_1545 : decode cL_law 1545 = .ok (.lcmp, 1) := by decide +kernel
theorem dL_law_1546 : decode cL_law 1546 = .ok (.ifCond .eq 5, 3) := by decide +kernel
theorem dL_law_1549 : decode cL_law 1549 = .ok (.iconst 0, 1) := by decide +kernel
theorem dL_law_1550 : decode cL_law 1550 = .ok (.ireturn, 1) := by decide +kernel
theorem dL_law_1551 : decode cL_law 1551 = .ok (.goto 58, 3) := by decide +kernel
theorem dL_law_1554 : decode cL_law 1554 = .ok (.aload_n 1, 1) := by decide +kernel
theorem dL_law_1555 : decode cL_law 1555 = .ok (.invokevirtual 186, 3) := by decide +kernel
theorem dL_law_1558 : decode cL_law 1558 = .ok (.dstore 5, 2) := by decide +kernel
theorem dL_law_1560 : decode cL_law 1560 = .ok (.aload_n 2, 1) := by decide +kernel
theorem dL_law_1561 : decode cL_law 1561 = .ok (.invokevirtual 190, 3) := by decide +kernel
theorem dL_law_1564 : decode cL_law 1564 = .ok (.dstore 7, 2) := by decide +kernel
theorem dL_law_1566 : decode cL_law 1566 = .ok (.dload 5, 2) := by decide +kernel
theorem dL_law_1568 : decode cL_law 1568 = .ok (.dload 7, 2) := by decide +kernel
theorem dL_law_1570 : decode cL_law 1570 = .ok (.dcmp .l, 1) := by decide +kernel
theorem dL_law_1571 : decode cL_law 1571 = .ok (.ifCond .eq 21, 3) := by decide +kernel
theorem dL_law_1574 : decode cL_law 1574 = .ok (.dload 5, 2) := by decide +kernel
theorem dL_law_1576 : decode cL_law 1576 = .ok (.dload 5, 2) := by decide +kernel
theorem dL_law_1578 : decode cL_law 1578 = .ok (.dcmp .l, 1) := by decide +kernel
theorem dL_law_1579 : decode cL_law 1579 = .ok (.ifCond .eq 11, 3) := by decide +kernel
theorem dL_law_1582 : decode cL_law 1582 = .ok (.dload 7, 2) := by decide +kernel
theorem dL_law_1584 : decode cL_law 1584 = .ok (.dload 7, 2) := by decide +kernel
theorem dL_law_1586 : decode cL_law 1586 = .ok (.dcmp .l, 1) := by decide +kernel
theorem dL_law_1587 : decode cL_law 1587 = .ok (.ifCond .ne 5, 3) := by decide +kernel
theorem dL_law_1590 : decode cL_law 1590 = .ok (.iconst 0, 1) := by decide +kernel
theorem dL_law_1591 : decode cL_law 1591 = .ok (.ireturn, 1) := by decide +kernel
theorem dL_law_1592 : decode cL_law 1592 = .ok (.goto 17, 3) := by decide +kernel
theorem dL_law_1595 : decode cL_law 1595 = .ok (.aload_n 1, 1) := by decide +kernel
theorem dL_law_1596 : decode cL_law 1596 = .ok (.invokevirtual 191, 3) := by decide +kernel
theorem dL_law_1599 : decode cL_law 1599 = .ok (.aload_n 2, 1) := by decide +kernel
theorem dL_law_1600 : decode cL_law 1600 = .ok (.invokevirtual 195, 3) := by decide +kernel
theorem dL_law_1603 : decode cL_law 1603 = .ok (.lcmp, 1) := by decide +kernel
theorem dL_law_1604 : decode cL_law 1604 = .ok (.ifCond .eq 5, 3) := by decide +kernel
theorem dL_law_1607 : decode cL_law 1607 = .ok (.iconst 0, 1) := by decide +kernel
theorem dL_law_1608 : decode cL_law 1608 = .ok (.ireturn, 1) := by decide +kernel
theorem dL_law_1609 : decode cL_law 1609 = .ok (.iinc 4 4, 3) := by decide +kernel
theorem dL_law_1612 : decode cL_law 1612 = .ok (.goto (-1589), 3) := by decide +kernel
theorem dL_law_1615 : decode cL_law 1615 = .ok (.iconst 1, 1) := by decide +kernel
theorem dL_law_1616 : decode cL_law 1616 = .ok (.ireturn, 1) := by decide +kernel
