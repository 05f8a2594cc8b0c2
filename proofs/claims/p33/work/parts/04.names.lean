theorem dX3_init_0 : decode cX3_init 0 = .ok (.aload_n 0, 1) := by decide +kernel
theorem dX3_init_1 : decode cX3_init 1 = .ok (.invokespecial 1, 3) := by decide +kernel
theorem dX3_init_4 : decode cX3_init 4 = .ok (.aload_n 0, 1) := by decide +kernel
theorem dX3_init_5 : decode cX3_init 5 = .ok (.iconst 0, 1) := by decide +kernel
theorem dX3_init_6 : decode cX3_init 6 = .ok (.anewarray 7, 3) := by decide +kernel
theorem dX3_init_9 : decode cX3_init 9 = .ok (.putfield 9, 3) := by decide +kernel
theorem dX3_init_12 : decode cX3_init 12 = .ok (.aload_n 0, 1) := by decide +kernel
theorem dX3_init_13 : decode cX3_init 13 = .ok (.iconst 0, 1) := by decide +kernel
theorem dX3_init_14 : decode cX3_init 14 = .ok (.anewarray 7, 3) := by decide +kernel
theorem dX3_init_17 : decode cX3_init 17 = .ok (.putfield 15, 3) := by decide +kernel
theorem dX3_init_20 : decode cX3_init 20 = .ok (.return_, 1) := by decide +kernel
theorem dX3_with_0 : decode cX3_with 0 = .ok (.aload_n 0, 1) := by decide +kernel
theorem dX3_with_1 : decode cX3_with 1 = .ok (.arraylength, 1) := by decide +kernel
theorem dX3_with_2 : decode cX3_with 2 = .ok (.iconst 1, 1) := by decide +kernel
theorem dX3_with_3 : decode cX3_with 3 = .ok (.iadd, 1) := by decide +kernel
theorem dX3_with_4 : decode cX3_with 4 = .ok (.anewarray 7, 3) := by decide +kernel
theorem dX3_with_7 : decode cX3_with 7 = .ok (.astore_n 2, 1) := by decide +kernel
theorem dX3_with_8 : decode cX3_with 8 = .ok (.iconst 0, 1) := by decide +kernel
theorem dX3_with_9 : decode cX3_with 9 = .ok (.istore_n 3, 1) := by decide +kernel
theorem dX3_with_10 : decode cX3_with 10 = .ok (.iload_n 3, 1) := by decide +kernel
theorem dX3_with_11 : decode cX3_with 11 = .ok (.aload_n 0, 1) := by decide +kernel
theorem dX3_with_12 : decode cX3_with 12 = .ok (.arraylength, 1) := by decide +kernel
theorem dX3_with_13 : decode cX3_with 13 = .ok (.if_icmp .ge 15, 3) := by decide +kernel
theorem dX3_with_16 : decode cX3_with 16 = .ok (.aload_n 2, 1) := by decide +kernel
theorem dX3_with_17 : decode cX3_with 17 = .ok (.iload_n 3, 1) := by decide +kernel
theorem dX3_with_18 : decode cX3_with 18 = .ok (.aload_n 0, 1) := by decide +kernel
theorem dX3_with_19 : decode cX3_with 19 = .ok (.iload_n 3, 1) := by decide +kernel
theorem dX3_with_20 : decode cX3_with 20 = .ok (.aaload, 1) := by decide +kernel
theorem dX3_with_21 : decode cX3_with 21 = .ok (.aastore, 1) := by decide +kernel
theorem dX3_with_22 : decode cX3_with 22 = .ok (.iinc 3 1, 3) := by decide +kernel
theorem dX3_with_25 : decode cX3_with 25 = .ok (.goto (-15), 3) := by decide +kernel
theorem dX3_with_28 : decode cX3_with 28 = .ok (.aload_n 2, 1) := by decide +kernel
theorem dX3_with_29 : decode cX3_with 29 = .ok (.aload_n 0, 1) := by decide +kernel
theorem dX3_with_30 : decode cX3_with 30 = .ok (.arraylength, 1) := by decide +kernel
theorem dX3_with_31 : decode cX3_with 31 = .ok (.aload_n 1, 1) := by decide +kernel
theorem dX3_with_32 : decode cX3_with 32 = .ok (.aastore, 1) := by decide +kernel
theorem dX3_with_33 : decode cX3_with 33 = .ok (.aload_n 2, 1) := by decide +kernel
theorem dX3_with_34 : decode cX3_with 34 = .ok (.areturn, 1) := by decide +kernel
theorem dX3_isBirthday_0 : decode cX3_isBirthday 0 = .ok (.aload_n 0, 1) := by decide +kernel
theorem dX3_isBirthday_1 : decode cX3_isBirthday 1 = .ok (.getfield 23, 3) := by decide +kernel
theorem dX3_isBirthday_4 : decode cX3_isBirthday 4 = .ok (.bipush 24, 2) := by decide +kernel
theorem dX3_isBirthday_6 : decode cX3_isBirthday 6 = .ok (.idiv, 1) := by decide +kernel
theorem dX3_isBirthday_7 : decode cX3_isBirthday 7 = .ok (.bipush 30, 2) := by decide +kernel
theorem dX3_isBirthday_9 : decode cX3_isBirthday 9 = .ok (.irem, 1) := by decide +kernel
theorem dX3_isBirthday_10 : decode cX3_isBirthday 10 = .ok (.aload_n 0, 1) := by decide +kernel
theorem dX3_isBirthday_11 : decode cX3_isBirthday 11 = .ok (.getfield 15, 3) := by decide +kernel
theorem dX3_isBirthday_14 : decode cX3_isBirthday 14 = .ok (.iload_n 1, 1) := by decide +kernel
theorem dX3_isBirthday_15 : decode cX3_isBirthday 15 = .ok (.aaload, 1) := by decide +kernel
theorem dX3_isBirthday_16 : decode cX3_isBirthday 16 = .ok (.iconst 1, 1) := by decide +kernel
theorem dX3_isBirthday_17 : decode cX3_isBirthday 17 = .ok (.iaload, 1) := by decide +kernel
theorem dX3_isBirthday_18 : decode cX3_isBirthday 18 = .ok (.if_icmp .ne 7, 3) := by decide +kernel
theorem dX3_isBirthday_21 : decode cX3_isBirthday 21 = .ok (.iconst 1, 1) := by decide +kernel
theorem dX3_isBirthday_22 : decode cX3_isBirthday 22 = .ok (.goto 4, 3) := by decide +kernel
theorem dX3_isBirthday_25 : decode cX3_isBirthday 25 = .ok (.iconst 0, 1) := by decide +kernel
theorem dX3_isBirthday_26 : decode cX3_isBirthday 26 = .ok (.ireturn, 1) := by decide +kernel
theorem dX3_pass_0 : decode cX3_pass 0 = .ok (.iconst 0, 1) := by decide +kernel
theorem dX3_pass_1 : decode cX3_pass 1 = .ok (.istore_n 1, 1) := by decide +kernel
theorem dX3_pass_2 : decode cX3_pass 2 = .ok (.aload_n 0, 1) := by decide +kernel
theorem dX3_pass_3 : decode cX3_pass 3 = .ok (.getfield 9, 3) := by decide +kernel
theorem dX3_pass_6 : decode cX3_pass 6 = .ok (.astore_n 2, 1) := by decide +kernel
theorem dX3_pass_7 : decode cX3_pass 7 = .ok (.aload_n 2, 1) := by decide +kernel
theorem dX3_pass_8 : decode cX3_pass 8 = .ok (.arraylength, 1) := by decide +kernel
theorem dX3_pass_9 : decode cX3_pass 9 = .ok (.istore_n 3, 1) := by decide +kernel
theorem dX3_pass_10 : decode cX3_pass 10 = .ok (.iconst 0, 1) := by decide +kernel
theorem dX3_pass_11 : decode cX3_pass 11 = .ok (.istore 4, 2) := by decide +kernel
theorem dX3_pass_13 : decode cX3_pass 13 = .ok (.iload 4, 2) := by decide +kernel
theorem dX3_pass_15 : decode cX3_pass 15 = .ok (.iload_n 3, 1) := by decide +kernel
theorem dX3_pass_16 : decode cX3_pass 16 = .ok (.if_icmp .ge 55, 3) := by decide +kernel
theorem dX3_pass_19 : decode cX3_pass 19 = .ok (.aload_n 2, 1) := by decide +kernel
theorem dX3_pass_20 : decode cX3_pass 20 = .ok (.iload 4, 2) := by decide +kernel
theorem dX3_pass_22 : decode cX3_pass 22 = .ok (.aaload, 1) := by decide +kernel
theorem dX3_pass_23 : decode cX3_pass 23 = .ok (.astore 5, 2) := by decide +kernel
theorem dX3_pass_25 : decode cX3_pass 25 = .ok (.iconst 0, 1) := by decide +kernel
theorem dX3_pass_26 : decode cX3_pass 26 = .ok (.istore 6, 2) := by decide +kernel
theorem dX3_pass_28 : decode cX3_pass 28 = .ok (.iload 6, 2) := by decide +kernel
theorem dX3_pass_30 : decode cX3_pass 30 = .ok (.aload 5, 2) := by decide +kernel
theorem dX3_pass_32 : decode cX3_pass 32 = .ok (.iconst 1, 1) := by decide +kernel
theorem dX3_pass_33 : decode cX3_pass 33 = .ok (.iaload, 1) := by decide +kernel
theorem dX3_pass_34 : decode cX3_pass 34 = .ok (.if_icmp .ge 31, 3) := by decide +kernel
theorem dX3_pass_37 : decode cX3_pass 37 = .ok (.aload 5, 2) := by decide +kernel
theorem dX3_pass_39 : decode cX3_pass 39 = .ok (.iconst 2, 1) := by decide +kernel
theorem dX3_pass_40 : decode cX3_pass 40 = .ok (.iaload, 1) := by decide +kernel
theorem dX3_pass_41 : decode cX3_pass 41 = .ok (.aload 5, 2) := by decide +kernel
theorem dX3_pass_43 : decode cX3_pass 43 = .ok (.iconst 0, 1) := by decide +kernel
theorem dX3_pass_44 : decode cX3_pass 44 = .ok (.iaload, 1) := by decide +kernel
theorem dX3_pass_45 : decode cX3_pass 45 = .ok (.if_icmp .ge 20, 3) := by decide +kernel
theorem dX3_pass_48 : decode cX3_pass 48 = .ok (.aload 5, 2) := by decide +kernel
theorem dX3_pass_50 : decode cX3_pass 50 = .ok (.iconst 2, 1) := by decide +kernel
theorem dX3_pass_51 : decode cX3_pass 51 = .ok (.dup2, 1) := by decide +kernel
theorem dX3_pass_52 : decode cX3_pass 52 = .ok (.iaload, 1) := by decide +kernel
theorem dX3_pass_53 : decode cX3_pass 53 = .ok (.iconst 1, 1) := by decide +kernel
theorem dX3_pass_54 : decode cX3_pass 54 = .ok (.iadd, 1) := by decide +kernel
theorem dX3_pass_55 : decode cX3_pass 55 = .ok (.iastore, 1) := by decide +kernel
theorem dX3_pass_56 : decode cX3_pass 56 = .ok (.iinc 1 1, 3) := by decide +kernel
theorem dX3_pass_59 : decode cX3_pass 59 = .ok (.iinc 6 1, 3) := by decide +kernel
theorem dX3_pass_62 : decode cX3_pass 62 = .ok (.goto (-34), 3) := by decide +kernel
theorem dX3_pass_65 : decode cX3_pass 65 = .ok (.iinc 4 1, 3) := by decide +kernel
theorem dX3_pass_68 : decode cX3_pass 68 = .ok (.goto (-55), 3) := by decide +kernel
theorem dX3_pass_71 : decode cX3_pass 71 = .ok (.aload_n 0, 1) := by decide +kernel
theorem dX3_pass_72 : decode cX3_pass 72 = .ok (.getfield 15, 3) := by decide +kernel
theorem dX3_pass_75 : decode cX3_pass 75 = .ok (.astore_n 2, 1) := by decide +kernel
theorem dX3_pass_76 : decode cX3_pass 76 = .ok (.aload_n 2, 1) := by decide +kernel
theorem dX3_pass_77 : decode cX3_pass 77 = .ok (.arraylength, 1) := by decide +kernel
theorem dX3_pass_78 : decode cX3_pass 78 = .ok (.istore_n 3, 1) := by decide +kernel
theorem dX3_pass_79 : decode cX3_pass 79 = .ok (.iconst 0, 1) := by decide +kernel
theorem dX3_pass_80 : decode cX3_pass 80 = .ok (.istore 4, 2) := by decide +kernel
theorem dX3_pass_82 : decode cX3_pass 82 = .ok (.iload 4, 2) := by decide +kernel
theorem dX3_pass_84 : decode cX3_pass 84 = .ok (.iload_n 3, 1) := by decide +kernel
theorem dX3_pass_85 : decode cX3_pass 85 = .ok (.if_icmp .ge 30, 3) := by decide +kernel
theorem dX3_pass_88 : decode cX3_pass 88 = .ok (.aload_n 2, 1) := by decide +kernel
theorem dX3_pass_89 : decode cX3_pass 89 = .ok (.iload 4, 2) := by decide +kernel
theorem dX3_pass_91 : decode cX3_pass 91 = .ok (.aaload, 1) := by decide +kernel
theorem dX3_pass_92 : decode cX3_pass 92 = .ok (.astore 5, 2) := by decide +kernel
theorem dX3_pass_94 : decode cX3_pass 94 = .ok (.aload 5, 2) := by decide +kernel
theorem dX3_pass_96 : decode cX3_pass 96 = .ok (.iconst 3, 1) := by decide +kernel
theorem dX3_pass_97 : decode cX3_pass 97 = .ok (.iaload, 1) := by decide +kernel
theorem dX3_pass_98 : decode cX3_pass 98 = .ok (.ifCond .le 11, 3) := by decide +kernel
theorem dX3_pass_101 : decode cX3_pass 101 = .ok (.aload 5, 2) := by decide +kernel
theorem dX3_pass_103 : decode cX3_pass 103 = .ok (.iconst 3, 1) := by decide +kernel
theorem dX3_pass_104 : decode cX3_pass 104 = .ok (.dup2, 1) := by decide +kernel
theorem dX3_pass_105 : decode cX3_pass 105 = .ok (.iaload, 1) := by decide +kernel
theorem dX3_pass_106 : decode cX3_pass 106 = .ok (.iconst 1, 1) := by decide +kernel
theorem dX3_pass_107 : decode cX3_pass 107 = .ok (.isub, 1) := by decide +kernel
theorem dX3_pass_108 : decode cX3_pass 108 = .ok (.iastore, 1) := by decide +kernel
theorem dX3_pass_109 : decode cX3_pass 109 = .ok (.iinc 4 1, 3) := by decide +kernel
theorem dX3_pass_112 : decode cX3_pass 112 = .ok (.goto (-30), 3) := by decide +kernel
theorem dX3_pass_115 : decode cX3_pass 115 = .ok (.aload_n 0, 1) := by decide +kernel
theorem dX3_pass_116 : decode cX3_pass 116 = .ok (.dup, 1) := by decide +kernel
theorem dX3_pass_117 : decode cX3_pass 117 = .ok (.getfield 23, 3) := by decide +kernel
theorem dX3_pass_120 : decode cX3_pass 120 = .ok (.iconst 1, 1) := by decide +kernel
theorem dX3_pass_121 : decode cX3_pass 121 = .ok (.iadd, 1) := by decide +kernel
theorem dX3_pass_122 : decode cX3_pass 122 = .ok (.putfield 23, 3) := by decide +kernel
theorem dX3_pass_125 : decode cX3_pass 125 = .ok (.iconst 0, 1) := by decide +kernel
theorem dX3_pass_126 : decode cX3_pass 126 = .ok (.istore_n 2, 1) := by decide +kernel
theorem dX3_pass_127 : decode cX3_pass 127 = .ok (.iload_n 2, 1) := by decide +kernel
theorem dX3_pass_128 : decode cX3_pass 128 = .ok (.aload_n 0, 1) := by decide +kernel
theorem dX3_pass_129 : decode cX3_pass 129 = .ok (.getfield 15, 3) := by decide +kernel
theorem dX3_pass_132 : decode cX3_pass 132 = .ok (.arraylength, 1) := by decide +kernel
theorem dX3_pass_133 : decode cX3_pass 133 = .ok (.if_icmp .ge 41, 3) := by decide +kernel
theorem dX3_pass_136 : decode cX3_pass 136 = .ok (.aload_n 0, 1) := by decide +kernel
theorem dX3_pass_137 : decode cX3_pass 137 = .ok (.getfield 23, 3) := by decide +kernel
theorem dX3_pass_140 : decode cX3_pass 140 = .ok (.bipush 24, 2) := by decide +kernel
theorem dX3_pass_142 : decode cX3_pass 142 = .ok (.irem, 1) := by decide +kernel
theorem dX3_pass_143 : decode cX3_pass 143 = .ok (.ifCond .ne 25, 3) := by decide +kernel
theorem dX3_pass_146 : decode cX3_pass 146 = .ok (.aload_n 0, 1) := by decide +kernel
theorem dX3_pass_147 : decode cX3_pass 147 = .ok (.getfield 15, 3) := by decide +kernel
theorem dX3_pass_150 : decode cX3_pass 150 = .ok (.iload_n 2, 1) := by decide +kernel
theorem dX3_pass_151 : decode cX3_pass 151 = .ok (.aaload, 1) := by decide +kernel
theorem dX3_pass_152 : decode cX3_pass 152 = .ok (.iconst 2, 1) := by decide +kernel
theorem dX3_pass_153 : decode cX3_pass 153 = .ok (.aload_n 0, 1) := by decide +kernel
theorem dX3_pass_154 : decode cX3_pass 154 = .ok (.iload_n 2, 1) := by decide +kernel
theorem dX3_pass_155 : decode cX3_pass 155 = .ok (.invokevirtual 33, 3) := by decide +kernel
theorem dX3_pass_158 : decode cX3_pass 158 = .ok (.ifCond .eq 8, 3) := by decide +kernel
theorem dX3_pass_161 : decode cX3_pass 161 = .ok (.bipush 12, 2) := by decide +kernel
theorem dX3_pass_163 : decode cX3_pass 163 = .ok (.goto 4, 3) := by decide +kernel
theorem dX3_pass_166 : decode cX3_pass 166 = .ok (.iconst 0, 1) := by decide +kernel
theorem dX3_pass_167 : decode cX3_pass 167 = .ok (.iastore, 1) := by decide +kernel
theorem dX3_pass_168 : decode cX3_pass 168 = .ok (.iinc 2 1, 3) := by decide +kernel
theorem dX3_pass_171 : decode cX3_pass 171 = .ok (.goto (-44), 3) := by decide +kernel
theorem dX3_pass_174 : decode cX3_pass 174 = .ok (.iload_n 1, 1) := by decide +kernel
theorem dX3_pass_175 : decode cX3_pass 175 = .ok (.ireturn, 1) := by decide +kernel
theorem dX3_pass__0 : decode cX3_pass_ 0 = .ok (.iconst 0, 1) := by decide +kernel
theorem dX3_pass__1 : decode cX3_pass_ 1 = .ok (.istore_n 2, 1) := by decide +kernel
theorem dX3_pass__2 : decode cX3_pass_ 2 = .ok (.iconst 0, 1) := by decide +kernel
theorem dX3_pass__3 : decode cX3_pass_ 3 = .ok (.istore_n 3, 1) := by decide +kernel
theorem dX3_pass__4 : decode cX3_pass_ 4 = .ok (.iload_n 3, 1) := by decide +kernel
theorem dX3_pass__5 : decode cX3_pass_ 5 = .ok (.iload_n 1, 1) := by decide +kernel
theorem dX3_pass__6 : decode cX3_pass_ 6 = .ok (.if_icmp .ge 16, 3) := by decide +kernel
theorem dX3_pass__9 : decode cX3_pass_ 9 = .ok (.iload_n 2, 1) := by decide +kernel
theorem dX3_pass__10 : decode cX3_pass_ 10 = .ok (.aload_n 0, 1) := by decide +kernel
theorem dX3_pass__11 : decode cX3_pass_ 11 = .ok (.invokevirtual 37, 3) := by decide +kernel
theorem dX3_pass__14 : decode cX3_pass_ 14 = .ok (.iadd, 1) := by decide +kernel
theorem dX3_pass__15 : decode cX3_pass_ 15 = .ok (.istore_n 2, 1) := by decide +kernel
theorem dX3_pass__16 : decode cX3_pass_ 16 = .ok (.iinc 3 1, 3) := by decide +kernel
theorem dX3_pass__19 : decode cX3_pass_ 19 = .ok (.goto (-15), 3) := by decide +kernel
theorem dX3_pass__22 : decode cX3_pass_ 22 = .ok (.iload_n 2, 1) := by decide +kernel
theorem dX3_pass__23 : decode cX3_pass_ 23 = .ok (.ireturn, 1) := by decide +kernel
theorem dX3_can_0 : decode cX3_can 0 = .ok (.aload_n 0, 1) := by decide +kernel
theorem dX3_can_1 : decode cX3_can 1 = .ok (.getfield 15, 3) := by decide +kernel
theorem dX3_can_4 : decode cX3_can 4 = .ok (.iload_n 1, 1) := by decide +kernel
theorem dX3_can_5 : decode cX3_can 5 = .ok (.aaload, 1) := by decide +kernel
theorem dX3_can_6 : decode cX3_can 6 = .ok (.iconst 3, 1) := by decide +kernel
theorem dX3_can_7 : decode cX3_can 7 = .ok (.iaload, 1) := by decide +kernel
theorem dX3_can_8 : decode cX3_can 8 = .ok (.ifCond .ne 35, 3) := by decide +kernel
theorem dX3_can_11 : decode cX3_can 11 = .ok (.aload_n 0, 1) := by decide +kernel
theorem dX3_can_12 : decode cX3_can 12 = .ok (.getfield 15, 3) := by decide +kernel
theorem dX3_can_15 : decode cX3_can 15 = .ok (.iload_n 1, 1) := by decide +kernel
theorem dX3_can_16 : decode cX3_can 16 = .ok (.aaload, 1) := by decide +kernel
theorem dX3_can_17 : decode cX3_can 17 = .ok (.iconst 2, 1) := by decide +kernel
theorem dX3_can_18 : decode cX3_can 18 = .ok (.iaload, 1) := by decide +kernel
theorem dX3_can_19 : decode cX3_can 19 = .ok (.aload_n 0, 1) := by decide +kernel
theorem dX3_can_20 : decode cX3_can 20 = .ok (.getfield 9, 3) := by decide +kernel
theorem dX3_can_23 : decode cX3_can 23 = .ok (.aload_n 0, 1) := by decide +kernel
theorem dX3_can_24 : decode cX3_can 24 = .ok (.getfield 15, 3) := by decide +kernel
theorem dX3_can_27 : decode cX3_can 27 = .ok (.iload_n 1, 1) := by decide +kernel
theorem dX3_can_28 : decode cX3_can 28 = .ok (.aaload, 1) := by decide +kernel
theorem dX3_can_29 : decode cX3_can 29 = .ok (.iconst 0, 1) := by decide +kernel
theorem dX3_can_30 : decode cX3_can 30 = .ok (.iaload, 1) := by decide +kernel
theorem dX3_can_31 : decode cX3_can 31 = .ok (.aaload, 1) := by decide +kernel
theorem dX3_can_32 : decode cX3_can 32 = .ok (.iconst 2, 1) := by decide +kernel
theorem dX3_can_33 : decode cX3_can 33 = .ok (.iaload, 1) := by decide +kernel
theorem dX3_can_34 : decode cX3_can 34 = .ok (.iadd, 1) := by decide +kernel
theorem dX3_can_35 : decode cX3_can 35 = .ok (.iload_n 2, 1) := by decide +kernel
theorem dX3_can_36 : decode cX3_can 36 = .ok (.if_icmp .lt 7, 3) := by decide +kernel
theorem dX3_can_39 : decode cX3_can 39 = .ok (.iconst 1, 1) := by decide +kernel
theorem dX3_can_40 : decode cX3_can 40 = .ok (.goto 4, 3) := by decide +kernel
theorem dX3_can_43 : decode cX3_can 43 = .ok (.iconst 0, 1) := by decide +kernel
theorem dX3_can_44 : decode cX3_can 44 = .ok (.ireturn, 1) := by decide +kernel
theorem dX3_next_0 : decode cX3_next 0 = .ok (.iconst 4, 1) := by decide +kernel
theorem dX3_next_1 : decode cX3_next 1 = .ok (.istore_n 2, 1) := by decide +kernel
theorem dX3_next_2 : decode cX3_next 2 = .ok (.iconst 0, 1) := by decide +kernel
theorem dX3_next_3 : decode cX3_next 3 = .ok (.istore_n 3, 1) := by decide +kernel
theorem dX3_next_4 : decode cX3_next 4 = .ok (.iload_n 3, 1) := by decide +kernel
theorem dX3_next_5 : decode cX3_next 5 = .ok (.aload_n 0, 1) := by decide +kernel
theorem dX3_next_6 : decode cX3_next 6 = .ok (.getfield 15, 3) := by decide +kernel
theorem dX3_next_9 : decode cX3_next 9 = .ok (.iload_n 1, 1) := by decide +kernel
theorem dX3_next_10 : decode cX3_next 10 = .ok (.aaload, 1) := by decide +kernel
theorem dX3_next_11 : decode cX3_next 11 = .ok (.iconst 5, 1) := by decide +kernel
theorem dX3_next_12 : decode cX3_next 12 = .ok (.iaload, 1) := by decide +kernel
theorem dX3_next_13 : decode cX3_next 13 = .ok (.if_icmp .ge 19, 3) := by decide +kernel
theorem dX3_next_16 : decode cX3_next 16 = .ok (.iload_n 2, 1) := by decide +kernel
theorem dX3_next_17 : decode cX3_next 17 = .ok (.bipush 32, 2) := by decide +kernel
theorem dX3_next_19 : decode cX3_next 19 = .ok (.if_icmp .ge 13, 3) := by decide +kernel
theorem dX3_next_22 : decode cX3_next 22 = .ok (.iload_n 2, 1) := by decide +kernel
theorem dX3_next_23 : decode cX3_next 23 = .ok (.iconst 2, 1) := by decide +kernel
theorem dX3_next_24 : decode cX3_next 24 = .ok (.imul, 1) := by decide +kernel
theorem dX3_next_25 : decode cX3_next 25 = .ok (.istore_n 2, 1) := by decide +kernel
theorem dX3_next_26 : decode cX3_next 26 = .ok (.iinc 3 1, 3) := by decide +kernel
theorem dX3_next_29 : decode cX3_next 29 = .ok (.goto (-25), 3) := by decide +kernel
theorem dX3_next_32 : decode cX3_next 32 = .ok (.iload_n 2, 1) := by decide +kernel
theorem dX3_next_33 : decode cX3_next 33 = .ok (.ireturn, 1) := by decide +kernel
theorem dX3_wish_0 : decode cX3_wish 0 = .ok (.aload_n 0, 1) := by decide +kernel
theorem dX3_wish_1 : decode cX3_wish 1 = .ok (.getfield 15, 3) := by decide +kernel
theorem dX3_wish_4 : decode cX3_wish 4 = .ok (.iload_n 1, 1) := by decide +kernel
theorem dX3_wish_5 : decode cX3_wish 5 = .ok (.aaload, 1) := by decide +kernel
theorem dX3_wish_6 : decode cX3_wish 6 = .ok (.astore_n 3, 1) := by decide +kernel
theorem dX3_wish_7 : decode cX3_wish 7 = .ok (.aload_n 0, 1) := by decide +kernel
theorem dX3_wish_8 : decode cX3_wish 8 = .ok (.iload_n 1, 1) := by decide +kernel
theorem dX3_wish_9 : decode cX3_wish 9 = .ok (.iload_n 2, 1) := by decide +kernel
theorem dX3_wish_10 : decode cX3_wish 10 = .ok (.invokevirtual 41, 3) := by decide +kernel
theorem dX3_wish_13 : decode cX3_wish 13 = .ok (.ifCond .eq 73, 3) := by decide +kernel
theorem dX3_wish_16 : decode cX3_wish 16 = .ok (.iconst 0, 1) := by decide +kernel
theorem dX3_wish_17 : decode cX3_wish 17 = .ok (.istore 4, 2) := by decide +kernel
theorem dX3_wish_19 : decode cX3_wish 19 = .ok (.iload 4, 2) := by decide +kernel
theorem dX3_wish_21 : decode cX3_wish 21 = .ok (.iload_n 2, 1) := by decide +kernel
theorem dX3_wish_22 : decode cX3_wish 22 = .ok (.if_icmp .ge 39, 3) := by decide +kernel
theorem dX3_wish_25 : decode cX3_wish 25 = .ok (.aload_n 3, 1) := by decide +kernel
theorem dX3_wish_26 : decode cX3_wish 26 = .ok (.iconst 2, 1) := by decide +kernel
theorem dX3_wish_27 : decode cX3_wish 27 = .ok (.iaload, 1) := by decide +kernel
theorem dX3_wish_28 : decode cX3_wish 28 = .ok (.ifCond .le 13, 3) := by decide +kernel
theorem dX3_wish_31 : decode cX3_wish 31 = .ok (.aload_n 3, 1) := by decide +kernel
theorem dX3_wish_32 : decode cX3_wish 32 = .ok (.iconst 2, 1) := by decide +kernel
theorem dX3_wish_33 : decode cX3_wish 33 = .ok (.dup2, 1) := by decide +kernel
theorem dX3_wish_34 : decode cX3_wish 34 = .ok (.iaload, 1) := by decide +kernel
theorem dX3_wish_35 : decode cX3_wish 35 = .ok (.iconst 1, 1) := by decide +kernel
theorem dX3_wish_36 : decode cX3_wish 36 = .ok (.isub, 1) := by decide +kernel
theorem dX3_wish_37 : decode cX3_wish 37 = .ok (.iastore, 1) := by decide +kernel
theorem dX3_wish_38 : decode cX3_wish 38 = .ok (.goto 17, 3) := by decide +kernel
theorem dX3_wish_41 : decode cX3_wish 41 = .ok (.aload_n 0, 1) := by decide +kernel
theorem dX3_wish_42 : decode cX3_wish 42 = .ok (.getfield 9, 3) := by decide +kernel
theorem dX3_wish_45 : decode cX3_wish 45 = .ok (.aload_n 3, 1) := by decide +kernel
theorem dX3_wish_46 : decode cX3_wish 46 = .ok (.iconst 0, 1) := by decide +kernel
theorem dX3_wish_47 : decode cX3_wish 47 = .ok (.iaload, 1) := by decide +kernel
theorem dX3_wish_48 : decode cX3_wish 48 = .ok (.aaload, 1) := by decide +kernel
theorem dX3_wish_49 : decode cX3_wish 49 = .ok (.iconst 2, 1) := by decide +kernel
theorem dX3_wish_50 : decode cX3_wish 50 = .ok (.dup2, 1) := by decide +kernel
theorem dX3_wish_51 : decode cX3_wish 51 = .ok (.iaload, 1) := by decide +kernel
theorem dX3_wish_52 : decode cX3_wish 52 = .ok (.iconst 1, 1) := by decide +kernel
theorem dX3_wish_53 : decode cX3_wish 53 = .ok (.isub, 1) := by decide +kernel
theorem dX3_wish_54 : decode cX3_wish 54 = .ok (.iastore, 1) := by decide +kernel
theorem dX3_wish_55 : decode cX3_wish 55 = .ok (.iinc 4 1, 3) := by decide +kernel
theorem dX3_wish_58 : decode cX3_wish 58 = .ok (.goto (-39), 3) := by decide +kernel
theorem dX3_wish_61 : decode cX3_wish 61 = .ok (.aload_n 3, 1) := by decide +kernel
theorem dX3_wish_62 : decode cX3_wish 62 = .ok (.iconst 4, 1) := by decide +kernel
theorem dX3_wish_63 : decode cX3_wish 63 = .ok (.iaload, 1) := by decide +kernel
theorem dX3_wish_64 : decode cX3_wish 64 = .ok (.ifCond .le 10, 3) := by decide +kernel
theorem dX3_wish_67 : decode cX3_wish 67 = .ok (.aload_n 3, 1) := by decide +kernel
theorem dX3_wish_68 : decode cX3_wish 68 = .ok (.iconst 4, 1) := by decide +kernel
theorem dX3_wish_69 : decode cX3_wish 69 = .ok (.dup2, 1) := by decide +kernel
theorem dX3_wish_70 : decode cX3_wish 70 = .ok (.iaload, 1) := by decide +kernel
theorem dX3_wish_71 : decode cX3_wish 71 = .ok (.iconst 1, 1) := by decide +kernel
theorem dX3_wish_72 : decode cX3_wish 72 = .ok (.isub, 1) := by decide +kernel
theorem dX3_wish_73 : decode cX3_wish 73 = .ok (.iastore, 1) := by decide +kernel
theorem dX3_wish_74 : decode cX3_wish 74 = .ok (.aload_n 0, 1) := by decide +kernel
theorem dX3_wish_75 : decode cX3_wish 75 = .ok (.dup, 1) := by decide +kernel
theorem dX3_wish_76 : decode cX3_wish 76 = .ok (.getfield 27, 3) := by decide +kernel
theorem dX3_wish_79 : decode cX3_wish 79 = .ok (.iconst 1, 1) := by decide +kernel
theorem dX3_wish_80 : decode cX3_wish 80 = .ok (.iadd, 1) := by decide +kernel
theorem dX3_wish_81 : decode cX3_wish 81 = .ok (.putfield 27, 3) := by decide +kernel
theorem dX3_wish_84 : decode cX3_wish 84 = .ok (.iconst 1, 1) := by decide +kernel
theorem dX3_wish_85 : decode cX3_wish 85 = .ok (.ireturn, 1) := by decide +kernel
theorem dX3_wish_86 : decode cX3_wish 86 = .ok (.aload_n 0, 1) := by decide +kernel
theorem dX3_wish_87 : decode cX3_wish 87 = .ok (.dup, 1) := by decide +kernel
theorem dX3_wish_88 : decode cX3_wish 88 = .ok (.getfield 30, 3) := by decide +kernel
theorem dX3_wish_91 : decode cX3_wish 91 = .ok (.iconst 1, 1) := by decide +kernel
theorem dX3_wish_92 : decode cX3_wish 92 = .ok (.iadd, 1) := by decide +kernel
theorem dX3_wish_93 : decode cX3_wish 93 = .ok (.putfield 30, 3) := by decide +kernel
theorem dX3_wish_96 : decode cX3_wish 96 = .ok (.aload_n 3, 1) := by decide +kernel
theorem dX3_wish_97 : decode cX3_wish 97 = .ok (.iconst 3, 1) := by decide +kernel
theorem dX3_wish_98 : decode cX3_wish 98 = .ok (.iaload, 1) := by decide +kernel
theorem dX3_wish_99 : decode cX3_wish 99 = .ok (.ifCond .le 21, 3) := by decide +kernel
theorem dX3_wish_102 : decode cX3_wish 102 = .ok (.aload_n 3, 1) := by decide +kernel
theorem dX3_wish_103 : decode cX3_wish 103 = .ok (.iconst 3, 1) := by decide +kernel
theorem dX3_wish_104 : decode cX3_wish 104 = .ok (.iaload, 1) := by decide +kernel
theorem dX3_wish_105 : decode cX3_wish 105 = .ok (.bipush 48, 2) := by decide +kernel
theorem dX3_wish_107 : decode cX3_wish 107 = .ok (.if_icmp .ge 46, 3) := by decide +kernel
theorem dX3_wish_110 : decode cX3_wish 110 = .ok (.aload_n 3, 1) := by decide +kernel
theorem dX3_wish_111 : decode cX3_wish 111 = .ok (.iconst 3, 1) := by decide +kernel
theorem dX3_wish_112 : decode cX3_wish 112 = .ok (.dup2, 1) := by decide +kernel
theorem dX3_wish_113 : decode cX3_wish 113 = .ok (.iaload, 1) := by decide +kernel
theorem dX3_wish_114 : decode cX3_wish 114 = .ok (.iconst 1, 1) := by decide +kernel
theorem dX3_wish_115 : decode cX3_wish 115 = .ok (.iadd, 1) := by decide +kernel
theorem dX3_wish_116 : decode cX3_wish 116 = .ok (.iastore, 1) := by decide +kernel
theorem dX3_wish_117 : decode cX3_wish 117 = .ok (.goto 36, 3) := by decide +kernel
theorem dX3_wish_120 : decode cX3_wish 120 = .ok (.aload_n 3, 1) := by decide +kernel
theorem dX3_wish_121 : decode cX3_wish 121 = .ok (.iconst 4, 1) := by decide +kernel
theorem dX3_wish_122 : decode cX3_wish 122 = .ok (.dup2, 1) := by decide +kernel
theorem dX3_wish_123 : decode cX3_wish 123 = .ok (.iaload, 1) := by decide +kernel
theorem dX3_wish_124 : decode cX3_wish 124 = .ok (.iconst 1, 1) := by decide +kernel
theorem dX3_wish_125 : decode cX3_wish 125 = .ok (.iadd, 1) := by decide +kernel
theorem dX3_wish_126 : decode cX3_wish 126 = .ok (.iastore, 1) := by decide +kernel
theorem dX3_wish_127 : decode cX3_wish 127 = .ok (.aload_n 3, 1) := by decide +kernel
theorem dX3_wish_128 : decode cX3_wish 128 = .ok (.iconst 4, 1) := by decide +kernel
theorem dX3_wish_129 : decode cX3_wish 129 = .ok (.iaload, 1) := by decide +kernel
theorem dX3_wish_130 : decode cX3_wish 130 = .ok (.iconst 3, 1) := by decide +kernel
theorem dX3_wish_131 : decode cX3_wish 131 = .ok (.if_icmp .ne 22, 3) := by decide +kernel
theorem dX3_wish_134 : decode cX3_wish 134 = .ok (.aload_n 3, 1) := by decide +kernel
theorem dX3_wish_135 : decode cX3_wish 135 = .ok (.iconst 4, 1) := by decide +kernel
theorem dX3_wish_136 : decode cX3_wish 136 = .ok (.iconst 0, 1) := by decide +kernel
theorem dX3_wish_137 : decode cX3_wish 137 = .ok (.iastore, 1) := by decide +kernel
theorem dX3_wish_138 : decode cX3_wish 138 = .ok (.aload_n 3, 1) := by decide +kernel
theorem dX3_wish_139 : decode cX3_wish 139 = .ok (.iconst 3, 1) := by decide +kernel
theorem dX3_wish_140 : decode cX3_wish 140 = .ok (.aload_n 0, 1) := by decide +kernel
theorem dX3_wish_141 : decode cX3_wish 141 = .ok (.iload_n 1, 1) := by decide +kernel
theorem dX3_wish_142 : decode cX3_wish 142 = .ok (.invokevirtual 45, 3) := by decide +kernel
theorem dX3_wish_145 : decode cX3_wish 145 = .ok (.iastore, 1) := by decide +kernel
theorem dX3_wish_146 : decode cX3_wish 146 = .ok (.aload_n 3, 1) := by decide +kernel
theorem dX3_wish_147 : decode cX3_wish 147 = .ok (.iconst 5, 1) := by decide +kernel
theorem dX3_wish_148 : decode cX3_wish 148 = .ok (.dup2, 1) := by decide +kernel
theorem dX3_wish_149 : decode cX3_wish 149 = .ok (.iaload, 1) := by decide +kernel
theorem dX3_wish_150 : decode cX3_wish 150 = .ok (.iconst 1, 1) := by decide +kernel
theorem dX3_wish_151 : decode cX3_wish 151 = .ok (.iadd, 1) := by decide +kernel
theorem dX3_wish_152 : decode cX3_wish 152 = .ok (.iastore, 1) := by decide +kernel
theorem dX3_wish_153 : decode cX3_wish 153 = .ok (.iconst 0, 1) := by decide +kernel
theorem dX3_wish_154 : decode cX3_wish 154 = .ok (.ireturn, 1) := by decide +kernel
theorem dX3_isSame_0 : decode cX3_isSame 0 = .ok (.iconst 0, 1) := by decide +kernel
theorem dX3_isSame_1 : decode cX3_isSame 1 = .ok (.istore_n 2, 1) := by decide +kernel
theorem dX3_isSame_2 : decode cX3_isSame 2 = .ok (.iconst 0, 1) := by decide +kernel
theorem dX3_isSame_3 : decode cX3_isSame 3 = .ok (.istore_n 3, 1) := by decide +kernel
theorem dX3_isSame_4 : decode cX3_isSame 4 = .ok (.iload_n 3, 1) := by decide +kernel
theorem dX3_isSame_5 : decode cX3_isSame 5 = .ok (.aload_n 0, 1) := by decide +kernel
theorem dX3_isSame_6 : decode cX3_isSame 6 = .ok (.getfield 9, 3) := by decide +kernel
theorem dX3_isSame_9 : decode cX3_isSame 9 = .ok (.arraylength, 1) := by decide +kernel
theorem dX3_isSame_10 : decode cX3_isSame 10 = .ok (.if_icmp .ge 92, 3) := by decide +kernel
theorem dX3_isSame_13 : decode cX3_isSame 13 = .ok (.iconst 0, 1) := by decide +kernel
theorem dX3_isSame_14 : decode cX3_isSame 14 = .ok (.istore 4, 2) := by decide +kernel
theorem dX3_isSame_16 : decode cX3_isSame 16 = .ok (.aload_n 0, 1) := by decide +kernel
theorem dX3_isSame_17 : decode cX3_isSame 17 = .ok (.getfield 15, 3) := by decide +kernel
theorem dX3_isSame_20 : decode cX3_isSame 20 = .ok (.astore 5, 2) := by decide +kernel
theorem dX3_isSame_22 : decode cX3_isSame 22 = .ok (.aload 5, 2) := by decide +kernel
theorem dX3_isSame_24 : decode cX3_isSame 24 = .ok (.arraylength, 1) := by decide +kernel
theorem dX3_isSame_25 : decode cX3_isSame 25 = .ok (.istore 6, 2) := by decide +kernel
theorem dX3_isSame_27 : decode cX3_isSame 27 = .ok (.iconst 0, 1) := by decide +kernel
theorem dX3_isSame_28 : decode cX3_isSame 28 = .ok (.istore 7, 2) := by decide +kernel
theorem dX3_isSame_30 : decode cX3_isSame 30 = .ok (.iload 7, 2) := by decide +kernel
theorem dX3_isSame_32 : decode cX3_isSame 32 = .ok (.iload 6, 2) := by decide +kernel
theorem dX3_isSame_34 : decode cX3_isSame 34 = .ok (.if_icmp .ge 34, 3) := by decide +kernel
theorem dX3_isSame_37 : decode cX3_isSame 37 = .ok (.aload 5, 2) := by decide +kernel
theorem dX3_isSame_39 : decode cX3_isSame 39 = .ok (.iload 7, 2) := by decide +kernel
theorem dX3_isSame_41 : decode cX3_isSame 41 = .ok (.aaload, 1) := by decide +kernel
theorem dX3_isSame_42 : decode cX3_isSame 42 = .ok (.astore 8, 2) := by decide +kernel
theorem dX3_isSame_44 : decode cX3_isSame 44 = .ok (.iload 4, 2) := by decide +kernel
theorem dX3_isSame_46 : decode cX3_isSame 46 = .ok (.aload 8, 2) := by decide +kernel
theorem dX3_isSame_48 : decode cX3_isSame 48 = .ok (.iconst 0, 1) := by decide +kernel
theorem dX3_isSame_49 : decode cX3_isSame 49 = .ok (.iaload, 1) := by decide +kernel
theorem dX3_isSame_50 : decode cX3_isSame 50 = .ok (.iload_n 3, 1) := by decide +kernel
theorem dX3_isSame_51 : decode cX3_isSame 51 = .ok (.if_icmp .ne 7, 3) := by decide +kernel
theorem dX3_isSame_54 : decode cX3_isSame 54 = .ok (.iconst 1, 1) := by decide +kernel
theorem dX3_isSame_55 : decode cX3_isSame 55 = .ok (.goto 4, 3) := by decide +kernel
theorem dX3_isSame_58 : decode cX3_isSame 58 = .ok (.iconst 0, 1) := by decide +kernel
theorem dX3_isSame_59 : decode cX3_isSame 59 = .ok (.iadd, 1) := by decide +kernel
theorem dX3_isSame_60 : decode cX3_isSame 60 = .ok (.istore 4, 2) := by decide +kernel
theorem dX3_isSame_62 : decode cX3_isSame 62 = .ok (.iinc 7 1, 3) := by decide +kernel
theorem dX3_isSame_65 : decode cX3_isSame 65 = .ok (.goto (-35), 3) := by decide +kernel
theorem dX3_isSame_68 : decode cX3_isSame 68 = .ok (.aload_n 1, 1) := by decide +kernel
theorem dX3_isSame_69 : decode cX3_isSame 69 = .ok (.iload_n 3, 1) := by decide +kernel
theorem dX3_isSame_70 : decode cX3_isSame 70 = .ok (.invokevirtual 56, 3) := by decide +kernel
theorem dX3_isSame_73 : decode cX3_isSame 73 = .ok (.aload_n 0, 1) := by decide +kernel
theorem dX3_isSame_74 : decode cX3_isSame 74 = .ok (.getfield 9, 3) := by decide +kernel
theorem dX3_isSame_77 : decode cX3_isSame 77 = .ok (.iload_n 3, 1) := by decide +kernel
theorem dX3_isSame_78 : decode cX3_isSame 78 = .ok (.aaload, 1) := by decide +kernel
theorem dX3_isSame_79 : decode cX3_isSame 79 = .ok (.iconst 2, 1) := by decide +kernel
theorem dX3_isSame_80 : decode cX3_isSame 80 = .ok (.iaload, 1) := by decide +kernel
theorem dX3_isSame_81 : decode cX3_isSame 81 = .ok (.if_icmp .ne 13, 3) := by decide +kernel
theorem dX3_isSame_84 : decode cX3_isSame 84 = .ok (.aload_n 1, 1) := by decide +kernel
theorem dX3_isSame_85 : decode cX3_isSame 85 = .ok (.iload_n 3, 1) := by decide +kernel
theorem dX3_isSame_86 : decode cX3_isSame 86 = .ok (.invokevirtual 61, 3) := by decide +kernel
theorem dX3_isSame_89 : decode cX3_isSame 89 = .ok (.iload 4, 2) := by decide +kernel
theorem dX3_isSame_91 : decode cX3_isSame 91 = .ok (.if_icmp .eq 5, 3) := by decide +kernel
theorem dX3_isSame_94 : decode cX3_isSame 94 = .ok (.iconst 0, 1) := by decide +kernel
theorem dX3_isSame_95 : decode cX3_isSame 95 = .ok (.ireturn, 1) := by decide +kernel
theorem dX3_isSame_96 : decode cX3_isSame 96 = .ok (.iinc 3 1, 3) := by decide +kernel
theorem dX3_isSame_99 : decode cX3_isSame 99 = .ok (.goto (-95), 3) := by decide +kernel
theorem dX3_isSame_102 : decode cX3_isSame 102 = .ok (.iconst 0, 1) := by decide +kernel
theorem dX3_isSame_103 : decode cX3_isSame 103 = .ok (.istore_n 3, 1) := by decide +kernel
theorem dX3_isSame_104 : decode cX3_isSame 104 = .ok (.iload_n 3, 1) := by decide +kernel
theorem dX3_isSame_105 : decode cX3_isSame 105 = .ok (.aload_n 0, 1) := by decide +kernel
theorem dX3_isSame_106 : decode cX3_isSame 106 = .ok (.getfield 15, 3) := by decide +kernel
theorem dX3_isSame_109 : decode cX3_isSame 109 = .ok (.arraylength, 1) := by decide +kernel
theorem dX3_isSame_110 : decode cX3_isSame 110 = .ok (.if_icmp .ge 172, 3) := by decide +kernel
theorem dX3_isSame_113 : decode cX3_isSame 113 = .ok (.aload_n 0, 1) := by decide +kernel
theorem dX3_isSame_114 : decode cX3_isSame 114 = .ok (.getfield 15, 3) := by decide +kernel
theorem dX3_isSame_117 : decode cX3_isSame 117 = .ok (.iload_n 3, 1) := by decide +kernel
theorem dX3_isSame_118 : decode cX3_isSame 118 = .ok (.aaload, 1) := by decide +kernel
theorem dX3_isSame_119 : decode cX3_isSame 119 = .ok (.astore 4, 2) := by decide +kernel
theorem dX3_isSame_121 : decode cX3_isSame 121 = .ok (.iload_n 2, 1) := by decide +kernel
theorem dX3_isSame_122 : decode cX3_isSame 122 = .ok (.aload 4, 2) := by decide +kernel
theorem dX3_isSame_124 : decode cX3_isSame 124 = .ok (.iconst 3, 1) := by decide +kernel
theorem dX3_isSame_125 : decode cX3_isSame 125 = .ok (.iaload, 1) := by decide +kernel
theorem dX3_isSame_126 : decode cX3_isSame 126 = .ok (.ifCond .le 7, 3) := by decide +kernel
theorem dX3_isSame_129 : decode cX3_isSame 129 = .ok (.iconst 1, 1) := by decide +kernel
theorem dX3_isSame_130 : decode cX3_isSame 130 = .ok (.goto 4, 3) := by decide +kernel
theorem dX3_isSame_133 : decode cX3_isSame 133 = .ok (.iconst 0, 1) := by decide +kernel
theorem dX3_isSame_134 : decode cX3_isSame 134 = .ok (.iadd, 1) := by decide +kernel
theorem dX3_isSame_135 : decode cX3_isSame 135 = .ok (.istore_n 2, 1) := by decide +kernel
theorem dX3_isSame_136 : decode cX3_isSame 136 = .ok (.iconst 0, 1) := by decide +kernel
theorem dX3_isSame_137 : decode cX3_isSame 137 = .ok (.istore 5, 2) := by decide +kernel
theorem dX3_isSame_139 : decode cX3_isSame 139 = .ok (.iload 5, 2) := by decide +kernel
theorem dX3_isSame_141 : decode cX3_isSame 141 = .ok (.bipush 20, 2) := by decide +kernel
theorem dX3_isSame_143 : decode cX3_isSame 143 = .ok (.if_icmp .ge 21, 3) := by decide +kernel
theorem dX3_isSame_146 : decode cX3_isSame 146 = .ok (.aload_n 0, 1) := by decide +kernel
theorem dX3_isSame_147 : decode cX3_isSame 147 = .ok (.iload_n 3, 1) := by decide +kernel
theorem dX3_isSame_148 : decode cX3_isSame 148 = .ok (.iload 5, 2) := by decide +kernel
theorem dX3_isSame_150 : decode cX3_isSame 150 = .ok (.iconst 1, 1) := by decide +kernel
theorem dX3_isSame_151 : decode cX3_isSame 151 = .ok (.iadd, 1) := by decide +kernel
theorem dX3_isSame_152 : decode cX3_isSame 152 = .ok (.invokevirtual 41, 3) := by decide +kernel
theorem dX3_isSame_155 : decode cX3_isSame 155 = .ok (.ifCond .eq 9, 3) := by decide +kernel
theorem dX3_isSame_158 : decode cX3_isSame 158 = .ok (.iinc 5 1, 3) := by decide +kernel
theorem dX3_isSame_161 : decode cX3_isSame 161 = .ok (.goto (-22), 3) := by decide +kernel
theorem dX3_isSame_164 : decode cX3_isSame 164 = .ok (.iconst 0, 1) := by decide +kernel
theorem dX3_isSame_165 : decode cX3_isSame 165 = .ok (.istore 6, 2) := by decide +kernel
theorem dX3_isSame_167 : decode cX3_isSame 167 = .ok (.aload_n 0, 1) := by decide +kernel
theorem dX3_isSame_168 : decode cX3_isSame 168 = .ok (.getfield 23, 3) := by decide +kernel
theorem dX3_isSame_171 : decode cX3_isSame 171 = .ok (.bipush 24, 2) := by decide +kernel
theorem dX3_isSame_173 : decode cX3_isSame 173 = .ok (.idiv, 1) := by decide +kernel
theorem dX3_isSame_174 : decode cX3_isSame 174 = .ok (.iload 6, 2) := by decide +kernel
theorem dX3_isSame_176 : decode cX3_isSame 176 = .ok (.iadd, 1) := by decide +kernel
theorem dX3_isSame_177 : decode cX3_isSame 177 = .ok (.bipush 30, 2) := by decide +kernel
theorem dX3_isSame_179 : decode cX3_isSame 179 = .ok (.irem, 1) := by decide +kernel
theorem dX3_isSame_180 : decode cX3_isSame 180 = .ok (.aload 4, 2) := by decide +kernel
theorem dX3_isSame_182 : decode cX3_isSame 182 = .ok (.iconst 1, 1) := by decide +kernel
theorem dX3_isSame_183 : decode cX3_isSame 183 = .ok (.iaload, 1) := by decide +kernel
theorem dX3_isSame_184 : decode cX3_isSame 184 = .ok (.if_icmp .eq 9, 3) := by decide +kernel
theorem dX3_isSame_187 : decode cX3_isSame 187 = .ok (.iinc 6 1, 3) := by decide +kernel
theorem dX3_isSame_190 : decode cX3_isSame 190 = .ok (.goto (-23), 3) := by decide +kernel
theorem dX3_isSame_193 : decode cX3_isSame 193 = .ok (.aload_n 1, 1) := by decide +kernel
theorem dX3_isSame_194 : decode cX3_isSame 194 = .ok (.iload_n 3, 1) := by decide +kernel
theorem dX3_isSame_195 : decode cX3_isSame 195 = .ok (.invokevirtual 64, 3) := by decide +kernel
theorem dX3_isSame_198 : decode cX3_isSame 198 = .ok (.aload 4, 2) := by decide +kernel
theorem dX3_isSame_200 : decode cX3_isSame 200 = .ok (.iconst 0, 1) := by decide +kernel
theorem dX3_isSame_201 : decode cX3_isSame 201 = .ok (.iaload, 1) := by decide +kernel
theorem dX3_isSame_202 : decode cX3_isSame 202 = .ok (.if_icmp .ne 72, 3) := by decide +kernel
theorem dX3_isSame_205 : decode cX3_isSame 205 = .ok (.aload_n 1, 1) := by decide +kernel
theorem dX3_isSame_206 : decode cX3_isSame 206 = .ok (.iload_n 3, 1) := by decide +kernel
theorem dX3_isSame_207 : decode cX3_isSame 207 = .ok (.invokevirtual 67, 3) := by decide +kernel
theorem dX3_isSame_210 : decode cX3_isSame 210 = .ok (.aload 4, 2) := by decide +kernel
theorem dX3_isSame_212 : decode cX3_isSame 212 = .ok (.iconst 2, 1) := by decide +kernel
theorem dX3_isSame_213 : decode cX3_isSame 213 = .ok (.iaload, 1) := by decide +kernel
theorem dX3_isSame_214 : decode cX3_isSame 214 = .ok (.if_icmp .ne 60, 3) := by decide +kernel
theorem dX3_isSame_217 : decode cX3_isSame 217 = .ok (.aload_n 1, 1) := by decide +kernel
theorem dX3_isSame_218 : decode cX3_isSame 218 = .ok (.iload_n 3, 1) := by decide +kernel
theorem dX3_isSame_219 : decode cX3_isSame 219 = .ok (.invokevirtual 70, 3) := by decide +kernel
theorem dX3_isSame_222 : decode cX3_isSame 222 = .ok (.aload 4, 2) := by decide +kernel
theorem dX3_isSame_224 : decode cX3_isSame 224 = .ok (.iconst 3, 1) := by decide +kernel
theorem dX3_isSame_225 : decode cX3_isSame 225 = .ok (.iaload, 1) := by decide +kernel
theorem dX3_isSame_226 : decode cX3_isSame 226 = .ok (.if_icmp .ne 48, 3) := by decide +kernel
theorem dX3_isSame_229 : decode cX3_isSame 229 = .ok (.aload_n 1, 1) := by decide +kernel
theorem dX3_isSame_230 : decode cX3_isSame 230 = .ok (.iload_n 3, 1) := by decide +kernel
theorem dX3_isSame_231 : decode cX3_isSame 231 = .ok (.invokevirtual 73, 3) := by decide +kernel
theorem dX3_isSame_234 : decode cX3_isSame 234 = .ok (.aload 4, 2) := by decide +kernel
theorem dX3_isSame_236 : decode cX3_isSame 236 = .ok (.iconst 4, 1) := by decide +kernel
theorem dX3_isSame_237 : decode cX3_isSame 237 = .ok (.iaload, 1) := by decide +kernel
theorem dX3_isSame_238 : decode cX3_isSame 238 = .ok (.if_icmp .ne 36, 3) := by decide +kernel
theorem dX3_isSame_241 : decode cX3_isSame 241 = .ok (.aload_n 1, 1) := by decide +kernel
theorem dX3_isSame_242 : decode cX3_isSame 242 = .ok (.iload_n 3, 1) := by decide +kernel
theorem dX3_isSame_243 : decode cX3_isSame 243 = .ok (.invokevirtual 76, 3) := by decide +kernel
theorem dX3_isSame_246 : decode cX3_isSame 246 = .ok (.aload_n 0, 1) := by decide +kernel
theorem dX3_isSame_247 : decode cX3_isSame 247 = .ok (.iload_n 3, 1) := by decide +kernel
theorem dX3_isSame_248 : decode cX3_isSame 248 = .ok (.invokevirtual 45, 3) := by decide +kernel
theorem dX3_isSame_251 : decode cX3_isSame 251 = .ok (.if_icmp .ne 23, 3) := by decide +kernel
theorem dX3_isSame_254 : decode cX3_isSame 254 = .ok (.aload_n 1, 1) := by decide +kernel
theorem dX3_isSame_255 : decode cX3_isSame 255 = .ok (.iload_n 3, 1) := by decide +kernel
theorem dX3_isSame_256 : decode cX3_isSame 256 = .ok (.invokevirtual 79, 3) := by decide +kernel
theorem dX3_isSame_259 : decode cX3_isSame 259 = .ok (.iload 6, 2) := by decide +kernel
theorem dX3_isSame_261 : decode cX3_isSame 261 = .ok (.if_icmp .ne 13, 3) := by decide +kernel
theorem dX3_isSame_264 : decode cX3_isSame 264 = .ok (.aload_n 1, 1) := by decide +kernel
theorem dX3_isSame_265 : decode cX3_isSame 265 = .ok (.iload_n 3, 1) := by decide +kernel
theorem dX3_isSame_266 : decode cX3_isSame 266 = .ok (.invokevirtual 82, 3) := by decide +kernel
theorem dX3_isSame_269 : decode cX3_isSame 269 = .ok (.iload 5, 2) := by decide +kernel
theorem dX3_isSame_271 : decode cX3_isSame 271 = .ok (.if_icmp .eq 5, 3) := by decide +kernel
theorem dX3_isSame_274 : decode cX3_isSame 274 = .ok (.iconst 0, 1) := by decide +kernel
theorem dX3_isSame_275 : decode cX3_isSame 275 = .ok (.ireturn, 1) := by decide +kernel
theorem dX3_isSame_276 : decode cX3_isSame 276 = .ok (.iinc 3 1, 3) := by decide +kernel
theorem dX3_isSame_279 : decode cX3_isSame 279 = .ok (.goto (-175), 3) := by decide +kernel
theorem dX3_isSame_282 : decode cX3_isSame 282 = .ok (.aload_n 0, 1) := by decide +kernel
theorem dX3_isSame_283 : decode cX3_isSame 283 = .ok (.getfield 27, 3) := by decide +kernel
theorem dX3_isSame_286 : decode cX3_isSame 286 = .ok (.aload_n 0, 1) := by decide +kernel
theorem dX3_isSame_287 : decode cX3_isSame 287 = .ok (.getfield 30, 3) := by decide +kernel
theorem dX3_isSame_290 : decode cX3_isSame 290 = .ok (.iadd, 1) := by decide +kernel
theorem dX3_isSame_291 : decode cX3_isSame 291 = .ok (.istore_n 3, 1) := by decide +kernel
theorem dX3_isSame_292 : decode cX3_isSame 292 = .ok (.aload_n 1, 1) := by decide +kernel
theorem dX3_isSame_293 : decode cX3_isSame 293 = .ok (.invokevirtual 85, 3) := by decide +kernel
theorem dX3_isSame_296 : decode cX3_isSame 296 = .ok (.aload_n 0, 1) := by decide +kernel
theorem dX3_isSame_297 : decode cX3_isSame 297 = .ok (.getfield 23, 3) := by decide +kernel
theorem dX3_isSame_300 : decode cX3_isSame 300 = .ok (.if_icmp .ne 99, 3) := by decide +kernel
theorem dX3_isSame_303 : decode cX3_isSame 303 = .ok (.aload_n 1, 1) := by decide +kernel
theorem dX3_isSame_304 : decode cX3_isSame 304 = .ok (.invokevirtual 87, 3) := by decide +kernel
theorem dX3_isSame_307 : decode cX3_isSame 307 = .ok (.aload_n 0, 1) := by decide +kernel
theorem dX3_isSame_308 : decode cX3_isSame 308 = .ok (.getfield 23, 3) := by decide +kernel
theorem dX3_isSame_311 : decode cX3_isSame 311 = .ok (.bipush 24, 2) := by decide +kernel
theorem dX3_isSame_313 : decode cX3_isSame 313 = .ok (.idiv, 1) := by decide +kernel
theorem dX3_isSame_314 : decode cX3_isSame 314 = .ok (.if_icmp .ne 85, 3) := by decide +kernel
theorem dX3_isSame_317 : decode cX3_isSame 317 = .ok (.aload_n 1, 1) := by decide +kernel
theorem dX3_isSame_318 : decode cX3_isSame 318 = .ok (.invokevirtual 90, 3) := by decide +kernel
theorem dX3_isSame_321 : decode cX3_isSame 321 = .ok (.aload_n 0, 1) := by decide +kernel
theorem dX3_isSame_322 : decode cX3_isSame 322 = .ok (.getfield 9, 3) := by decide +kernel
theorem dX3_isSame_325 : decode cX3_isSame 325 = .ok (.arraylength, 1) := by decide +kernel
theorem dX3_isSame_326 : decode cX3_isSame 326 = .ok (.if_icmp .ne 73, 3) := by decide +kernel
theorem dX3_isSame_329 : decode cX3_isSame 329 = .ok (.aload_n 1, 1) := by decide +kernel
theorem dX3_isSame_330 : decode cX3_isSame 330 = .ok (.invokevirtual 92, 3) := by decide +kernel
theorem dX3_isSame_333 : decode cX3_isSame 333 = .ok (.aload_n 0, 1) := by decide +kernel
theorem dX3_isSame_334 : decode cX3_isSame 334 = .ok (.getfield 15, 3) := by decide +kernel
theorem dX3_isSame_337 : decode cX3_isSame 337 = .ok (.arraylength, 1) := by decide +kernel
theorem dX3_isSame_338 : decode cX3_isSame 338 = .ok (.if_icmp .ne 61, 3) := by decide +kernel
theorem dX3_isSame_341 : decode cX3_isSame 341 = .ok (.aload_n 1, 1) := by decide +kernel
theorem dX3_isSame_342 : decode cX3_isSame 342 = .ok (.invokevirtual 94, 3) := by decide +kernel
theorem dX3_isSame_345 : decode cX3_isSame 345 = .ok (.aload_n 0, 1) := by decide +kernel
theorem dX3_isSame_346 : decode cX3_isSame 346 = .ok (.getfield 27, 3) := by decide +kernel
theorem dX3_isSame_349 : decode cX3_isSame 349 = .ok (.if_icmp .ne 50, 3) := by decide +kernel
theorem dX3_isSame_352 : decode cX3_isSame 352 = .ok (.aload_n 1, 1) := by decide +kernel
theorem dX3_isSame_353 : decode cX3_isSame 353 = .ok (.invokevirtual 96, 3) := by decide +kernel
theorem dX3_isSame_356 : decode cX3_isSame 356 = .ok (.aload_n 0, 1) := by decide +kernel
theorem dX3_isSame_357 : decode cX3_isSame 357 = .ok (.getfield 30, 3) := by decide +kernel
theorem dX3_isSame_360 : decode cX3_isSame 360 = .ok (.if_icmp .ne 39, 3) := by decide +kernel
theorem dX3_isSame_363 : decode cX3_isSame 363 = .ok (.aload_n 1, 1) := by decide +kernel
theorem dX3_isSame_364 : decode cX3_isSame 364 = .ok (.invokevirtual 98, 3) := by decide +kernel
theorem dX3_isSame_367 : decode cX3_isSame 367 = .ok (.iload_n 2, 1) := by decide +kernel
theorem dX3_isSame_368 : decode cX3_isSame 368 = .ok (.if_icmp .ne 31, 3) := by decide +kernel
theorem dX3_isSame_371 : decode cX3_isSame 371 = .ok (.aload_n 1, 1) := by decide +kernel
theorem dX3_isSame_372 : decode cX3_isSame 372 = .ok (.invokevirtual 101, 3) := by decide +kernel
theorem dX3_isSame_375 : decode cX3_isSame 375 = .ok (.iload_n 3, 1) := by decide +kernel
theorem dX3_isSame_376 : decode cX3_isSame 376 = .ok (.ifCond .ne 7, 3) := by decide +kernel
theorem dX3_isSame_379 : decode cX3_isSame 379 = .ok (.dconst 0, 1) := by decide +kernel
theorem dX3_isSame_380 : decode cX3_isSame 380 = .ok (.goto 11, 3) := by decide +kernel
theorem dX3_isSame_383 : decode cX3_isSame 383 = .ok (.aload_n 0, 1) := by decide +kernel
theorem dX3_isSame_384 : decode cX3_isSame 384 = .ok (.getfield 27, 3) := by decide +kernel
theorem dX3_isSame_387 : decode cX3_isSame 387 = .ok (.i2d, 1) := by decide +kernel
theorem dX3_isSame_388 : decode cX3_isSame 388 = .ok (.iload_n 3, 1) := by decide +kernel
theorem dX3_isSame_389 : decode cX3_isSame 389 = .ok (.i2d, 1) := by decide +kernel
theorem dX3_isSame_390 : decode cX3_isSame 390 = .ok (.ddiv, 1) := by decide +kernel
theorem dX3_isSame_391 : decode cX3_isSame 391 = .ok (.dcmp .l, 1) := by decide +kernel
theorem dX3_isSame_392 : decode cX3_isSame 392 = .ok (.ifCond .ne 7, 3) := by decide +kernel
theorem dX3_isSame_395 : decode cX3_isSame 395 = .ok (.iconst 1, 1) := by decide +kernel
theorem dX3_isSame_396 : decode cX3_isSame 396 = .ok (.goto 4, 3) := by decide +kernel
theorem dX3_isSame_399 : decode cX3_isSame 399 = .ok (.iconst 0, 1) := by decide +kernel
theorem dX3_isSame_400 : decode cX3_isSame 400 = .ok (.ireturn, 1) := by decide +kernel
theorem dL_below_0 : decode cL_below 0 = .ok (.iload_n 0, 1) := by decide +kernel
theorem dL_below_1 : decode cL_below 1 = .ok (.ldc 7, 2) := by decide +kernel
theorem dL_below_3 : decode cL_below 3 = .ok (.iand, 1) := by decide +kernel
theorem dL_below_4 : decode cL_below 4 = .ok (.iload_n 1, 1) := by decide +kernel
theorem dL_below_5 : decode cL_below 5 = .ok (.irem, 1) := by decide +kernel
theorem dL_below_6 : decode cL_below 6 = .ok (.ireturn, 1) := by decide +kernel
theorem dL_cell_0 : decode cL_cell 0 = .ok (.iload_n 1, 1) := by decide +kernel
theorem dL_cell_1 : decode cL_cell 1 = .ok (.aload_n 0, 1) := by decide +kernel
theorem dL_cell_2 : decode cL_cell 2 = .ok (.arraylength, 1) := by decide +kernel
theorem dL_cell_3 : decode cL_cell 3 = .ok (.if_icmp .ge 9, 3) := by decide +kernel
theorem dL_cell_6 : decode cL_cell 6 = .ok (.aload_n 0, 1) := by decide +kernel
theorem dL_cell_7 : decode cL_cell 7 = .ok (.iload_n 1, 1) := by decide +kernel
theorem dL_cell_8 : decode cL_cell 8 = .ok (.iaload, 1) := by decide +kernel
theorem dL_cell_9 : decode cL_cell 9 = .ok (.goto 9, 3) := by decide +kernel
theorem dL_cell_12 : decode cL_cell 12 = .ok (.ldc 8, 2) := by decide +kernel
theorem dL_cell_14 : decode cL_cell 14 = .ok (.iload_n 1, 1) := by decide +kernel
theorem dL_cell_15 : decode cL_cell 15 = .ok (.iconst 3, 1) := by decide +kernel
theorem dL_cell_16 : decode cL_cell 16 = .ok (.iadd, 1) := by decide +kernel
theorem dL_cell_17 : decode cL_cell 17 = .ok (.imul, 1) := by decide +kernel
theorem dL_cell_18 : decode cL_cell 18 = .ok (.ireturn, 1) := by decide +kernel
theorem dL_act_0 : decode cL_act 0 = .ok (.aload_n 1, 1) := by decide +kernel
theorem dL_act_1 : decode cL_act 1 = .ok (.getfield 9, 3) := by decide +kernel
theorem dL_act_4 : decode cL_act 4 = .ok (.arraylength, 1) := by decide +kernel
theorem dL_act_5 : decode cL_act 5 = .ok (.istore_n 3, 1) := by decide +kernel
theorem dL_act_6 : decode cL_act 6 = .ok (.aload_n 1, 1) := by decide +kernel
theorem dL_act_7 : decode cL_act 7 = .ok (.getfield 15, 3) := by decide +kernel
theorem dL_act_10 : decode cL_act 10 = .ok (.arraylength, 1) := by decide +kernel
theorem dL_act_11 : decode cL_act 11 = .ok (.istore 4, 2) := by decide +kernel
theorem dL_act_13 : decode cL_act 13 = .ok (.iload_n 3, 1) := by decide +kernel
theorem dL_act_14 : decode cL_act 14 = .ok (.ifCond .eq 12, 3) := by decide +kernel
theorem dL_act_17 : decode cL_act 17 = .ok (.iload_n 2, 1) := by decide +kernel
theorem dL_act_18 : decode cL_act 18 = .ok (.bipush 16, 2) := by decide +kernel
theorem dL_act_20 : decode cL_act 20 = .ok (.invokestatic 18, 3) := by decide +kernel
theorem dL_act_23 : decode cL_act 23 = .ok (.ifCond .ne 82, 3) := by decide +kernel
theorem dL_act_26 : decode cL_act 26 = .ok (.iload_n 3, 1) := by decide +kernel
theorem dL_act_27 : decode cL_act 27 = .ok (.iconst 4, 1) := by decide +kernel
theorem dL_act_28 : decode cL_act 28 = .ok (.if_icmp .ne 5, 3) := by decide +kernel
theorem dL_act_31 : decode cL_act 31 = .ok (.iconst 1, 1) := by decide +kernel
theorem dL_act_32 : decode cL_act 32 = .ok (.ireturn, 1) := by decide +kernel
theorem dL_act_33 : decode cL_act 33 = .ok (.iconst 1, 1) := by decide +kernel
theorem dL_act_34 : decode cL_act 34 = .ok (.iload_n 2, 1) := by decide +kernel
theorem dL_act_35 : decode cL_act 35 = .ok (.iconst 4, 1) := by decide +kernel
theorem dL_act_36 : decode cL_act 36 = .ok (.ishr, 1) := by decide +kernel
theorem dL_act_37 : decode cL_act 37 = .ok (.bipush 60, 2) := by decide +kernel
theorem dL_act_39 : decode cL_act 39 = .ok (.invokestatic 18, 3) := by decide +kernel
theorem dL_act_42 : decode cL_act 42 = .ok (.iadd, 1) := by decide +kernel
theorem dL_act_43 : decode cL_act 43 = .ok (.istore 5, 2) := by decide +kernel
theorem dL_act_45 : decode cL_act 45 = .ok (.aload_n 1, 1) := by decide +kernel
theorem dL_act_46 : decode cL_act 46 = .ok (.aload_n 1, 1) := by decide +kernel
theorem dL_act_47 : decode cL_act 47 = .ok (.getfield 9, 3) := by decide +kernel
theorem dL_act_50 : decode cL_act 50 = .ok (.iconst 3, 1) := by decide +kernel
theorem dL_act_51 : decode cL_act 51 = .ok (.newarray .int, 2) := by decide +kernel
theorem dL_act_53 : decode cL_act 53 = .ok (.dup, 1) := by decide +kernel
theorem dL_act_54 : decode cL_act 54 = .ok (.iconst 0, 1) := by decide +kernel
theorem dL_act_55 : decode cL_act 55 = .ok (.iload 5, 2) := by decide +kernel
theorem dL_act_57 : decode cL_act 57 = .ok (.iastore, 1) := by decide +kernel
theorem dL_act_58 : decode cL_act 58 = .ok (.dup, 1) := by decide +kernel
theorem dL_act_59 : decode cL_act 59 = .ok (.iconst 1, 1) := by decide +kernel
theorem dL_act_60 : decode cL_act 60 = .ok (.iload_n 2, 1) := by decide +kernel
theorem dL_act_61 : decode cL_act 61 = .ok (.bipush 6, 2) := by decide +kernel
theorem dL_act_63 : decode cL_act 63 = .ok (.ishr, 1) := by decide +kernel
theorem dL_act_64 : decode cL_act 64 = .ok (.bipush 10, 2) := by decide +kernel
theorem dL_act_66 : decode cL_act 66 = .ok (.invokestatic 18, 3) := by decide +kernel
theorem dL_act_69 : decode cL_act 69 = .ok (.iastore, 1) := by decide +kernel
theorem dL_act_70 : decode cL_act 70 = .ok (.dup, 1) := by decide +kernel
theorem dL_act_71 : decode cL_act 71 = .ok (.iconst 2, 1) := by decide +kernel
theorem dL_act_72 : decode cL_act 72 = .ok (.iload 5, 2) := by decide +kernel
theorem dL_act_74 : decode cL_act 74 = .ok (.iastore, 1) := by decide +kernel
theorem dL_act_75 : decode cL_act 75 = .ok (.invokestatic 24, 3) := by decide +kernel
theorem dL_act_78 : decode cL_act 78 = .ok (.putfield 9, 3) := by decide +kernel
theorem dL_act_81 : decode cL_act 81 = .ok (.aload_n 0, 1) := by decide +kernel
theorem dL_act_82 : decode cL_act 82 = .ok (.iload 5, 2) := by decide +kernel
theorem dL_act_84 : decode cL_act 84 = .ok (.aload_n 1, 1) := by decide +kernel
theorem dL_act_85 : decode cL_act 85 = .ok (.getfield 9, 3) := by decide +kernel
theorem dL_act_88 : decode cL_act 88 = .ok (.iload_n 3, 1) := by decide +kernel
theorem dL_act_89 : decode cL_act 89 = .ok (.aaload, 1) := by decide +kernel
theorem dL_act_90 : decode cL_act 90 = .ok (.iconst 1, 1) := by decide +kernel
theorem dL_act_91 : decode cL_act 91 = .ok (.iaload, 1) := by decide +kernel
theorem dL_act_92 : decode cL_act 92 = .ok (.invokevirtual 28, 3) := by decide +kernel
theorem dL_act_95 : decode cL_act 95 = .ok (.iload_n 3, 1) := by decide +kernel
theorem dL_act_96 : decode cL_act 96 = .ok (.if_icmp .ne 7, 3) := by decide +kernel
theorem dL_act_99 : decode cL_act 99 = .ok (.iconst 1, 1) := by decide +kernel
theorem dL_act_100 : decode cL_act 100 = .ok (.goto 4, 3) := by decide +kernel
theorem dL_act_103 : decode cL_act 103 = .ok (.iconst 0, 1) := by decide +kernel
theorem dL_act_104 : decode cL_act 104 = .ok (.ireturn, 1) := by decide +kernel
theorem dL_act_105 : decode cL_act 105 = .ok (.iload 4, 2) := by decide +kernel
theorem dL_act_107 : decode cL_act 107 = .ok (.ifCond .eq 13, 3) := by decide +kernel
theorem dL_act_110 : decode cL_act 110 = .ok (.iload_n 2, 1) := by decide +kernel
theorem dL_act_111 : decode cL_act 111 = .ok (.bipush 16, 2) := by decide +kernel
theorem dL_act_113 : decode cL_act 113 = .ok (.invokestatic 18, 3) := by decide +kernel
theorem dL_act_116 : decode cL_act 116 = .ok (.iconst 1, 1) := by decide +kernel
theorem dL_act_117 : decode cL_act 117 = .ok (.if_icmp .ne 126, 3) := by decide +kernel
theorem dL_act_120 : decode cL_act 120 = .ok (.iload 4, 2) := by decide +kernel
theorem dL_act_122 : decode cL_act 122 = .ok (.bipush 10, 2) := by decide +kernel
theorem dL_act_124 : decode cL_act 124 = .ok (.if_icmp .ne 5, 3) := by decide +kernel
theorem dL_act_127 : decode cL_act 127 = .ok (.iconst 1, 1) := by decide +kernel
theorem dL_act_128 : decode cL_act 128 = .ok (.ireturn, 1) := by decide +kernel
theorem dL_act_129 : decode cL_act 129 = .ok (.bipush 6, 2) := by decide +kernel
theorem dL_act_131 : decode cL_act 131 = .ok (.newarray .int, 2) := by decide +kernel
theorem dL_act_133 : decode cL_act 133 = .ok (.dup, 1) := by decide +kernel
theorem dL_act_134 : decode cL_act 134 = .ok (.iconst 0, 1) := by decide +kernel
theorem dL_act_135 : decode cL_act 135 = .ok (.iload_n 2, 1) := by decide +kernel
theorem dL_act_136 : decode cL_act 136 = .ok (.iconst 4, 1) := by decide +kernel
theorem dL_act_137 : decode cL_act 137 = .ok (.ishr, 1) := by decide +kernel
theorem dL_act_138 : decode cL_act 138 = .ok (.iload_n 3, 1) := by decide +kernel
theorem dL_act_139 : decode cL_act 139 = .ok (.invokestatic 18, 3) := by decide +kernel
theorem dL_act_142 : decode cL_act 142 = .ok (.iastore, 1) := by decide +kernel
theorem dL_act_143 : decode cL_act 143 = .ok (.dup, 1) := by decide +kernel
theorem dL_act_144 : decode cL_act 144 = .ok (.iconst 1, 1) := by decide +kernel
theorem dL_act_145 : decode cL_act 145 = .ok (.iload_n 2, 1) := by decide +kernel
theorem dL_act_146 : decode cL_act 146 = .ok (.bipush 6, 2) := by decide +kernel
theorem dL_act_148 : decode cL_act 148 = .ok (.ishr, 1) := by decide +kernel
theorem dL_act_149 : decode cL_act 149 = .ok (.iload_n 2, 1) := by decide +kernel
theorem dL_act_150 : decode cL_act 150 = .ok (.bipush 9, 2) := by decide +kernel
theorem dL_act_152 : decode cL_act 152 = .ok (.ishr, 1) := by decide +kernel
theorem dL_act_153 : decode cL_act 153 = .ok (.iconst 2, 1) := by decide +kernel
theorem dL_act_154 : decode cL_act 154 = .ok (.invokestatic 18, 3) := by decide +kernel
theorem dL_act_157 : decode cL_act 157 = .ok (.ifCond .ne 8, 3) := by decide +kernel
theorem dL_act_160 : decode cL_act 160 = .ok (.bipush 30, 2) := by decide +kernel
theorem dL_act_162 : decode cL_act 162 = .ok (.goto 4, 3) := by decide +kernel
theorem dL_act_165 : decode cL_act 165 = .ok (.iconst 3, 1) := by decide +kernel
theorem dL_act_166 : decode cL_act 166 = .ok (.invokestatic 18, 3) := by decide +kernel
theorem dL_act_169 : decode cL_act 169 = .ok (.iastore, 1) := by decide +kernel
theorem dL_act_170 : decode cL_act 170 = .ok (.dup, 1) := by decide +kernel
theorem dL_act_171 : decode cL_act 171 = .ok (.iconst 2, 1) := by decide +kernel
theorem dL_act_172 : decode cL_act 172 = .ok (.iconst 0, 1) := by decide +kernel
theorem dL_act_173 : decode cL_act 173 = .ok (.iastore, 1) := by decide +kernel
theorem dL_act_174 : decode cL_act 174 = .ok (.dup, 1) := by decide +kernel
theorem dL_act_175 : decode cL_act 175 = .ok (.iconst 3, 1) := by decide +kernel
theorem dL_act_176 : decode cL_act 176 = .ok (.iconst 0, 1) := by decide +kernel
theorem dL_act_177 : decode cL_act 177 = .ok (.iastore, 1) := by decide +kernel
theorem dL_act_178 : decode cL_act 178 = .ok (.dup, 1) := by decide +kernel
theorem dL_act_179 : decode cL_act 179 = .ok (.iconst 4, 1) := by decide +kernel
theorem dL_act_180 : decode cL_act 180 = .ok (.iconst 0, 1) := by decide +kernel
theorem dL_act_181 : decode cL_act 181 = .ok (.iastore, 1) := by decide +kernel
theorem dL_act_182 : decode cL_act 182 = .ok (.dup, 1) := by decide +kernel
theorem dL_act_183 : decode cL_act 183 = .ok (.iconst 5, 1) := by decide +kernel
theorem dL_act_184 : decode cL_act 184 = .ok (.iconst 0, 1) := by decide +kernel
theorem dL_act_185 : decode cL_act 185 = .ok (.iastore, 1) := by decide +kernel
theorem dL_act_186 : decode cL_act 186 = .ok (.astore 5, 2) := by decide +kernel
theorem dL_act_188 : decode cL_act 188 = .ok (.aload_n 1, 1) := by decide +kernel
theorem dL_act_189 : decode cL_act 189 = .ok (.aload_n 1, 1) := by decide +kernel
theorem dL_act_190 : decode cL_act 190 = .ok (.getfield 15, 3) := by decide +kernel
theorem dL_act_193 : decode cL_act 193 = .ok (.aload 5, 2) := by decide +kernel
theorem dL_act_195 : decode cL_act 195 = .ok (.invokestatic 24, 3) := by decide +kernel
theorem dL_act_198 : decode cL_act 198 = .ok (.putfield 15, 3) := by decide +kernel
theorem dL_act_201 : decode cL_act 201 = .ok (.aload 5, 2) := by decide +kernel
theorem dL_act_203 : decode cL_act 203 = .ok (.iconst 2, 1) := by decide +kernel
theorem dL_act_204 : decode cL_act 204 = .ok (.aload_n 1, 1) := by decide +kernel
theorem dL_act_205 : decode cL_act 205 = .ok (.iload 4, 2) := by decide +kernel
theorem dL_act_207 : decode cL_act 207 = .ok (.invokevirtual 33, 3) := by decide +kernel
theorem dL_act_210 : decode cL_act 210 = .ok (.ifCond .eq 8, 3) := by decide +kernel
theorem dL_act_213 : decode cL_act 213 = .ok (.bipush 12, 2) := by decide +kernel
theorem dL_act_215 : decode cL_act 215 = .ok (.goto 4, 3) := by decide +kernel
theorem dL_act_218 : decode cL_act 218 = .ok (.iconst 0, 1) := by decide +kernel
theorem dL_act_219 : decode cL_act 219 = .ok (.iastore, 1) := by decide +kernel
theorem dL_act_220 : decode cL_act 220 = .ok (.aload_n 0, 1) := by decide +kernel
theorem dL_act_221 : decode cL_act 221 = .ok (.aload 5, 2) := by decide +kernel
theorem dL_act_223 : decode cL_act 223 = .ok (.iconst 0, 1) := by decide +kernel
theorem dL_act_224 : decode cL_act 224 = .ok (.iaload, 1) := by decide +kernel
theorem dL_act_225 : decode cL_act 225 = .ok (.aload 5, 2) := by decide +kernel
theorem dL_act_227 : decode cL_act 227 = .ok (.iconst 1, 1) := by decide +kernel
theorem dL_act_228 : decode cL_act 228 = .ok (.iaload, 1) := by decide +kernel
theorem dL_act_229 : decode cL_act 229 = .ok (.invokevirtual 37, 3) := by decide +kernel
theorem dL_act_232 : decode cL_act 232 = .ok (.iload 4, 2) := by decide +kernel
theorem dL_act_234 : decode cL_act 234 = .ok (.if_icmp .ne 7, 3) := by decide +kernel
theorem dL_act_237 : decode cL_act 237 = .ok (.iconst 1, 1) := by decide +kernel
theorem dL_act_238 : decode cL_act 238 = .ok (.goto 4, 3) := by decide +kernel
theorem dL_act_241 : decode cL_act 241 = .ok (.iconst 0, 1) := by decide +kernel
theorem dL_act_242 : decode cL_act 242 = .ok (.ireturn, 1) := by decide +kernel
theorem dL_act_243 : decode cL_act 243 = .ok (.iload_n 2, 1) := by decide +kernel
theorem dL_act_244 : decode cL_act 244 = .ok (.iconst 3, 1) := by decide +kernel
theorem dL_act_245 : decode cL_act 245 = .ok (.ishr, 1) := by decide +kernel
theorem dL_act_246 : decode cL_act 246 = .ok (.iload 4, 2) := by decide +kernel
theorem dL_act_248 : decode cL_act 248 = .ok (.invokestatic 18, 3) := by decide +kernel
theorem dL_act_251 : decode cL_act 251 = .ok (.istore 5, 2) := by decide +kernel
theorem dL_act_253 : decode cL_act 253 = .ok (.iload_n 2, 1) := by decide +kernel
theorem dL_act_254 : decode cL_act 254 = .ok (.bipush 16, 2) := by decide +kernel
theorem dL_act_256 : decode cL_act 256 = .ok (.invokestatic 18, 3) := by decide +kernel
theorem dL_act_259 : decode cL_act 259 = .ok (.tableswitch 251 2 7 #[37, 91, 155, 203, 203, 203], 37) := by decide +kernel
theorem dL_act_296 : decode cL_act 296 = .ok (.aload_n 1, 1) := by decide +kernel
theorem dL_act_297 : decode cL_act 297 = .ok (.getfield 15, 3) := by decide +kernel
theorem dL_act_300 : decode cL_act 300 = .ok (.iload 5, 2) := by decide +kernel
theorem dL_act_302 : decode cL_act 302 = .ok (.aaload, 1) := by decide +kernel
theorem dL_act_303 : decode cL_act 303 = .ok (.iconst 0, 1) := by decide +kernel
theorem dL_act_304 : decode cL_act 304 = .ok (.iaload, 1) := by decide +kernel
theorem dL_act_305 : decode cL_act 305 = .ok (.istore 6, 2) := by decide +kernel
theorem dL_act_307 : decode cL_act 307 = .ok (.aload_n 1, 1) := by decide +kernel
theorem dL_act_308 : decode cL_act 308 = .ok (.getfield 15, 3) := by decide +kernel
theorem dL_act_311 : decode cL_act 311 = .ok (.iload 5, 2) := by decide +kernel
theorem dL_act_313 : decode cL_act 313 = .ok (.aaload, 1) := by decide +kernel
theorem dL_act_314 : decode cL_act 314 = .ok (.iconst 0, 1) := by decide +kernel
theorem dL_act_315 : decode cL_act 315 = .ok (.iload_n 2, 1) := by decide +kernel
theorem dL_act_316 : decode cL_act 316 = .ok (.bipush 6, 2) := by decide +kernel
theorem dL_act_318 : decode cL_act 318 = .ok (.ishr, 1) := by decide +kernel
theorem dL_act_319 : decode cL_act 319 = .ok (.iload_n 3, 1) := by decide +kernel
theorem dL_act_320 : decode cL_act 320 = .ok (.invokestatic 18, 3) := by decide +kernel
theorem dL_act_323 : decode cL_act 323 = .ok (.iastore, 1) := by decide +kernel
theorem dL_act_324 : decode cL_act 324 = .ok (.aload_n 0, 1) := by decide +kernel
theorem dL_act_325 : decode cL_act 325 = .ok (.iload 5, 2) := by decide +kernel
theorem dL_act_327 : decode cL_act 327 = .ok (.aload_n 1, 1) := by decide +kernel
theorem dL_act_328 : decode cL_act 328 = .ok (.getfield 15, 3) := by decide +kernel
theorem dL_act_331 : decode cL_act 331 = .ok (.iload 5, 2) := by decide +kernel
theorem dL_act_333 : decode cL_act 333 = .ok (.aaload, 1) := by decide +kernel
theorem dL_act_334 : decode cL_act 334 = .ok (.iconst 0, 1) := by decide +kernel
theorem dL_act_335 : decode cL_act 335 = .ok (.iaload, 1) := by decide +kernel
theorem dL_act_336 : decode cL_act 336 = .ok (.invokevirtual 40, 3) := by decide +kernel
theorem dL_act_339 : decode cL_act 339 = .ok (.iload 6, 2) := by decide +kernel
theorem dL_act_341 : decode cL_act 341 = .ok (.if_icmp .ne 7, 3) := by decide +kernel
theorem dL_act_344 : decode cL_act 344 = .ok (.iconst 1, 1) := by decide +kernel
theorem dL_act_345 : decode cL_act 345 = .ok (.goto 4, 3) := by decide +kernel
theorem dL_act_348 : decode cL_act 348 = .ok (.iconst 0, 1) := by decide +kernel
theorem dL_act_349 : decode cL_act 349 = .ok (.ireturn, 1) := by decide +kernel
theorem dL_act_350 : decode cL_act 350 = .ok (.iload_n 2, 1) := by decide +kernel
theorem dL_act_351 : decode cL_act 351 = .ok (.iconst 4, 1) := by decide +kernel
theorem dL_act_352 : decode cL_act 352 = .ok (.ishr, 1) := by decide +kernel
theorem dL_act_353 : decode cL_act 353 = .ok (.iload_n 3, 1) := by decide +kernel
theorem dL_act_354 : decode cL_act 354 = .ok (.invokestatic 18, 3) := by decide +kernel
theorem dL_act_357 : decode cL_act 357 = .ok (.istore 6, 2) := by decide +kernel
theorem dL_act_359 : decode cL_act 359 = .ok (.aload_n 1, 1) := by decide +kernel
theorem dL_act_360 : decode cL_act 360 = .ok (.getfield 9, 3) := by decide +kernel
theorem dL_act_363 : decode cL_act 363 = .ok (.iload 6, 2) := by decide +kernel
theorem dL_act_365 : decode cL_act 365 = .ok (.aaload, 1) := by decide +kernel
theorem dL_act_366 : decode cL_act 366 = .ok (.iconst 1, 1) := by decide +kernel
theorem dL_act_367 : decode cL_act 367 = .ok (.iaload, 1) := by decide +kernel
theorem dL_act_368 : decode cL_act 368 = .ok (.istore 7, 2) := by decide +kernel
theorem dL_act_370 : decode cL_act 370 = .ok (.aload_n 1, 1) := by decide +kernel
theorem dL_act_371 : decode cL_act 371 = .ok (.getfield 9, 3) := by decide +kernel
theorem dL_act_374 : decode cL_act 374 = .ok (.iload 6, 2) := by decide +kernel
theorem dL_act_376 : decode cL_act 376 = .ok (.aaload, 1) := by decide +kernel
theorem dL_act_377 : decode cL_act 377 = .ok (.iconst 1, 1) := by decide +kernel
theorem dL_act_378 : decode cL_act 378 = .ok (.iload_n 2, 1) := by decide +kernel
theorem dL_act_379 : decode cL_act 379 = .ok (.bipush 6, 2) := by decide +kernel
theorem dL_act_381 : decode cL_act 381 = .ok (.ishr, 1) := by decide +kernel
theorem dL_act_382 : decode cL_act 382 = .ok (.bipush 10, 2) := by decide +kernel
theorem dL_act_384 : decode cL_act 384 = .ok (.invokestatic 18, 3) := by decide +kernel
theorem dL_act_387 : decode cL_act 387 = .ok (.iastore, 1) := by decide +kernel
theorem dL_act_388 : decode cL_act 388 = .ok (.aload_n 0, 1) := by decide +kernel
theorem dL_act_389 : decode cL_act 389 = .ok (.iload 6, 2) := by decide +kernel
theorem dL_act_391 : decode cL_act 391 = .ok (.aload_n 1, 1) := by decide +kernel
theorem dL_act_392 : decode cL_act 392 = .ok (.getfield 9, 3) := by decide +kernel
theorem dL_act_395 : decode cL_act 395 = .ok (.iload 6, 2) := by decide +kernel
theorem dL_act_397 : decode cL_act 397 = .ok (.aaload, 1) := by decide +kernel
theorem dL_act_398 : decode cL_act 398 = .ok (.iconst 1, 1) := by decide +kernel
theorem dL_act_399 : decode cL_act 399 = .ok (.iaload, 1) := by decide +kernel
theorem dL_act_400 : decode cL_act 400 = .ok (.invokevirtual 43, 3) := by decide +kernel
theorem dL_act_403 : decode cL_act 403 = .ok (.iload 7, 2) := by decide +kernel
theorem dL_act_405 : decode cL_act 405 = .ok (.if_icmp .ne 7, 3) := by decide +kernel
theorem dL_act_408 : decode cL_act 408 = .ok (.iconst 1, 1) := by decide +kernel
theorem dL_act_409 : decode cL_act 409 = .ok (.goto 4, 3) := by decide +kernel
theorem dL_act_412 : decode cL_act 412 = .ok (.iconst 0, 1) := by decide +kernel
theorem dL_act_413 : decode cL_act 413 = .ok (.ireturn, 1) := by decide +kernel
theorem dL_act_414 : decode cL_act 414 = .ok (.aload_n 1, 1) := by decide +kernel
theorem dL_act_415 : decode cL_act 415 = .ok (.getfield 15, 3) := by decide +kernel
theorem dL_act_418 : decode cL_act 418 = .ok (.iload 5, 2) := by decide +kernel
theorem dL_act_420 : decode cL_act 420 = .ok (.aaload, 1) := by decide +kernel
theorem dL_act_421 : decode cL_act 421 = .ok (.iconst 3, 1) := by decide +kernel
theorem dL_act_422 : decode cL_act 422 = .ok (.iaload, 1) := by decide +kernel
theorem dL_act_423 : decode cL_act 423 = .ok (.istore 6, 2) := by decide +kernel
theorem dL_act_425 : decode cL_act 425 = .ok (.aload_n 1, 1) := by decide +kernel
theorem dL_act_426 : decode cL_act 426 = .ok (.getfield 15, 3) := by decide +kernel
theorem dL_act_429 : decode cL_act 429 = .ok (.iload 5, 2) := by decide +kernel
theorem dL_act_431 : decode cL_act 431 = .ok (.aaload, 1) := by decide +kernel
theorem dL_act_432 : decode cL_act 432 = .ok (.iconst 3, 1) := by decide +kernel
theorem dL_act_433 : decode cL_act 433 = .ok (.iconst 0, 1) := by decide +kernel
theorem dL_act_434 : decode cL_act 434 = .ok (.iastore, 1) := by decide +kernel
theorem dL_act_435 : decode cL_act 435 = .ok (.aload_n 1, 1) := by decide +kernel
theorem dL_act_436 : decode cL_act 436 = .ok (.getfield 15, 3) := by decide +kernel
theorem dL_act_439 : decode cL_act 439 = .ok (.iload 5, 2) := by decide +kernel
theorem dL_act_441 : decode cL_act 441 = .ok (.aaload, 1) := by decide +kernel
theorem dL_act_442 : decode cL_act 442 = .ok (.iconst 4, 1) := by decide +kernel
theorem dL_act_443 : decode cL_act 443 = .ok (.iconst 0, 1) := by decide +kernel
theorem dL_act_444 : decode cL_act 444 = .ok (.iastore, 1) := by decide +kernel
theorem dL_act_445 : decode cL_act 445 = .ok (.aload_n 0, 1) := by decide +kernel
theorem dL_act_446 : decode cL_act 446 = .ok (.iload 5, 2) := by decide +kernel
theorem dL_act_448 : decode cL_act 448 = .ok (.invokevirtual 46, 3) := by decide +kernel
theorem dL_act_451 : decode cL_act 451 = .ok (.iload 6, 2) := by decide +kernel
theorem dL_act_453 : decode cL_act 453 = .ok (.if_icmp .ne 7, 3) := by decide +kernel
theorem dL_act_456 : decode cL_act 456 = .ok (.iconst 1, 1) := by decide +kernel
theorem dL_act_457 : decode cL_act 457 = .ok (.goto 4, 3) := by decide +kernel
theorem dL_act_460 : decode cL_act 460 = .ok (.iconst 0, 1) := by decide +kernel
theorem dL_act_461 : decode cL_act 461 = .ok (.ireturn, 1) := by decide +kernel
theorem dL_act_462 : decode cL_act 462 = .ok (.iconst 1, 1) := by decide +kernel
theorem dL_act_463 : decode cL_act 463 = .ok (.iload_n 2, 1) := by decide +kernel
theorem dL_act_464 : decode cL_act 464 = .ok (.iconst 4, 1) := by decide +kernel
theorem dL_act_465 : decode cL_act 465 = .ok (.ishr, 1) := by decide +kernel
theorem dL_act_466 : decode cL_act 466 = .ok (.iload_n 2, 1) := by decide +kernel
theorem dL_act_467 : decode cL_act 467 = .ok (.bipush 8, 2) := by decide +kernel
theorem dL_act_469 : decode cL_act 469 = .ok (.ishr, 1) := by decide +kernel
theorem dL_act_470 : decode cL_act 470 = .ok (.iconst 3, 1) := by decide +kernel
theorem dL_act_471 : decode cL_act 471 = .ok (.invokestatic 18, 3) := by decide +kernel
theorem dL_act_474 : decode cL_act 474 = .ok (.ifCond .ne 8, 3) := by decide +kernel
theorem dL_act_477 : decode cL_act 477 = .ok (.bipush 100, 2) := by decide +kernel
theorem dL_act_479 : decode cL_act 479 = .ok (.goto 4, 3) := by decide +kernel
theorem dL_act_482 : decode cL_act 482 = .ok (.iconst 5, 1) := by decide +kernel
theorem dL_act_483 : decode cL_act 483 = .ok (.invokestatic 18, 3) := by decide +kernel
theorem dL_act_486 : decode cL_act 486 = .ok (.iadd, 1) := by decide +kernel
theorem dL_act_487 : decode cL_act 487 = .ok (.istore 6, 2) := by decide +kernel
theorem dL_act_489 : decode cL_act 489 = .ok (.aload_n 0, 1) := by decide +kernel
theorem dL_act_490 : decode cL_act 490 = .ok (.iload 6, 2) := by decide +kernel
theorem dL_act_492 : decode cL_act 492 = .ok (.invokevirtual 50, 3) := by decide +kernel
theorem dL_act_495 : decode cL_act 495 = .ok (.aload_n 1, 1) := by decide +kernel
theorem dL_act_496 : decode cL_act 496 = .ok (.iload 6, 2) := by decide +kernel
theorem dL_act_498 : decode cL_act 498 = .ok (.invokevirtual 53, 3) := by decide +kernel
theorem dL_act_501 : decode cL_act 501 = .ok (.if_icmp .ne 7, 3) := by decide +kernel
theorem dL_act_504 : decode cL_act 504 = .ok (.iconst 1, 1) := by decide +kernel
theorem dL_act_505 : decode cL_act 505 = .ok (.goto 4, 3) := by decide +kernel
theorem dL_act_508 : decode cL_act 508 = .ok (.iconst 0, 1) := by decide +kernel
theorem dL_act_509 : decode cL_act 509 = .ok (.ireturn, 1) := by decide +kernel
theorem dL_act_510 : decode cL_act 510 = .ok (.iconst 1, 1) := by decide +kernel
theorem dL_act_511 : decode cL_act 511 = .ok (.iload_n 2, 1) := by decide +kernel
theorem dL_act_512 : decode cL_act 512 = .ok (.iconst 5, 1) := by decide +kernel
theorem dL_act_513 : decode cL_act 513 = .ok (.ishr, 1) := by decide +kernel
theorem dL_act_514 : decode cL_act 514 = .ok (.bipush 20, 2) := by decide +kernel
theorem dL_act_516 : decode cL_act 516 = .ok (.invokestatic 18, 3) := by decide +kernel
theorem dL_act_519 : decode cL_act 519 = .ok (.iadd, 1) := by decide +kernel
theorem dL_act_520 : decode cL_act 520 = .ok (.istore 6, 2) := by decide +kernel
theorem dL_act_522 : decode cL_act 522 = .ok (.aload_n 0, 1) := by decide +kernel
theorem dL_act_523 : decode cL_act 523 = .ok (.iload 5, 2) := by decide +kernel
theorem dL_act_525 : decode cL_act 525 = .ok (.iload 6, 2) := by decide +kernel
theorem dL_act_527 : decode cL_act 527 = .ok (.invokevirtual 54, 3) := by decide +kernel
theorem dL_act_530 : decode cL_act 530 = .ok (.aload_n 1, 1) := by decide +kernel
theorem dL_act_531 : decode cL_act 531 = .ok (.iload 5, 2) := by decide +kernel
theorem dL_act_533 : decode cL_act 533 = .ok (.iload 6, 2) := by decide +kernel
theorem dL_act_535 : decode cL_act 535 = .ok (.invokevirtual 58, 3) := by decide +kernel
theorem dL_act_538 : decode cL_act 538 = .ok (.if_icmp .ne 7, 3) := by decide +kernel
theorem dL_act_541 : decode cL_act 541 = .ok (.iconst 1, 1) := by decide +kernel
theorem dL_act_542 : decode cL_act 542 = .ok (.goto 4, 3) := by decide +kernel
theorem dL_act_545 : decode cL_act 545 = .ok (.iconst 0, 1) := by decide +kernel
theorem dL_act_546 : decode cL_act 546 = .ok (.ireturn, 1) := by decide +kernel
theorem dL_build_0 : decode cL_build 0 = .ok (.new 10, 3) := by decide +kernel
theorem dL_build_3 : decode cL_build 3 = .ok (.dup, 1) := by decide +kernel
theorem dL_build_4 : decode cL_build 4 = .ok (.invokespecial 59, 3) := by decide +kernel
theorem dL_build_7 : decode cL_build 7 = .ok (.astore_n 2, 1) := by decide +kernel
theorem dL_build_8 : decode cL_build 8 = .ok (.bipush 6, 2) := by decide +kernel
theorem dL_build_10 : decode cL_build 10 = .ok (.aload_n 1, 1) := by decide +kernel
theorem dL_build_11 : decode cL_build 11 = .ok (.iconst 0, 1) := by decide +kernel
theorem dL_build_12 : decode cL_build 12 = .ok (.invokestatic 60, 3) := by decide +kernel
theorem dL_build_15 : decode cL_build 15 = .ok (.bipush 36, 2) := by decide +kernel
theorem dL_build_17 : decode cL_build 17 = .ok (.invokestatic 18, 3) := by decide +kernel
theorem dL_build_20 : decode cL_build 20 = .ok (.iadd, 1) := by decide +kernel
theorem dL_build_21 : decode cL_build 21 = .ok (.istore_n 3, 1) := by decide +kernel
theorem dL_build_22 : decode cL_build 22 = .ok (.iconst 0, 1) := by decide +kernel
theorem dL_build_23 : decode cL_build 23 = .ok (.istore 4, 2) := by decide +kernel
theorem dL_build_25 : decode cL_build 25 = .ok (.iload 4, 2) := by decide +kernel
theorem dL_build_27 : decode cL_build 27 = .ok (.iload_n 3, 1) := by decide +kernel
theorem dL_build_28 : decode cL_build 28 = .ok (.if_icmp .ge 44, 3) := by decide +kernel
theorem dL_build_31 : decode cL_build 31 = .ok (.aload_n 0, 1) := by decide +kernel
theorem dL_build_32 : decode cL_build 32 = .ok (.aload_n 2, 1) := by decide +kernel
theorem dL_build_33 : decode cL_build 33 = .ok (.aload_n 1, 1) := by decide +kernel
theorem dL_build_34 : decode cL_build 34 = .ok (.iconst 1, 1) := by decide +kernel
theorem dL_build_35 : decode cL_build 35 = .ok (.iload 4, 2) := by decide +kernel
theorem dL_build_37 : decode cL_build 37 = .ok (.bipush 15, 2) := by decide +kernel
theorem dL_build_39 : decode cL_build 39 = .ok (.irem, 1) := by decide +kernel
theorem dL_build_40 : decode cL_build 40 = .ok (.iadd, 1) := by decide +kernel
theorem dL_build_41 : decode cL_build 41 = .ok (.invokestatic 60, 3) := by decide +kernel
theorem dL_build_44 : decode cL_build 44 = .ok (.iload 4, 2) := by decide +kernel
theorem dL_build_46 : decode cL_build 46 = .ok (.bipush 15, 2) := by decide +kernel
theorem dL_build_48 : decode cL_build 48 = .ok (.idiv, 1) := by decide +kernel
theorem dL_build_49 : decode cL_build 49 = .ok (.iconst 3, 1) := by decide +kernel
theorem dL_build_50 : decode cL_build 50 = .ok (.imul, 1) := by decide +kernel
theorem dL_build_51 : decode cL_build 51 = .ok (.ishr, 1) := by decide +kernel
theorem dL_build_52 : decode cL_build 52 = .ok (.bipush 41, 2) := by decide +kernel
theorem dL_build_54 : decode cL_build 54 = .ok (.iload 4, 2) := by decide +kernel
theorem dL_build_56 : decode cL_build 56 = .ok (.imul, 1) := by decide +kernel
theorem dL_build_57 : decode cL_build 57 = .ok (.iadd, 1) := by decide +kernel
theorem dL_build_58 : decode cL_build 58 = .ok (.invokestatic 64, 3) := by decide +kernel
theorem dL_build_61 : decode cL_build 61 = .ok (.ifCond .ne 5, 3) := by decide +kernel
theorem dL_build_64 : decode cL_build 64 = .ok (.aconst_null, 1) := by decide +kernel
theorem dL_build_65 : decode cL_build 65 = .ok (.areturn, 1) := by decide +kernel
theorem dL_build_66 : decode cL_build 66 = .ok (.iinc 4 1, 3) := by decide +kernel
theorem dL_build_69 : decode cL_build 69 = .ok (.goto (-44), 3) := by decide +kernel
theorem dL_build_72 : decode cL_build 72 = .ok (.aload_n 2, 1) := by decide +kernel
theorem dL_build_73 : decode cL_build 73 = .ok (.areturn, 1) := by decide +kernel
theorem dL_law_0 : decode cL_law 0 = .ok (.new 29, 3) := by decide +kernel
theorem dL_law_3 : decode cL_law 3 = .ok (.dup, 1) := by decide +kernel
theorem dL_law_4 : decode cL_law 4 = .ok (.invokespecial 68, 3) := by decide +kernel
theorem dL_law_7 : decode cL_law 7 = .ok (.astore_n 1, 1) := by decide +kernel
theorem dL_law_8 : decode cL_law 8 = .ok (.aload_n 1, 1) := by decide +kernel
theorem dL_law_9 : decode cL_law 9 = .ok (.aload_n 0, 1) := by decide +kernel
theorem dL_law_10 : decode cL_law 10 = .ok (.invokestatic 69, 3) := by decide +kernel
theorem dL_law_13 : decode cL_law 13 = .ok (.astore_n 2, 1) := by decide +kernel
theorem dL_law_14 : decode cL_law 14 = .ok (.aload_n 2, 1) := by decide +kernel
theorem dL_law_15 : decode cL_law 15 = .ok (.ifnonnull 5, 3) := by decide +kernel
theorem dL_law_18 : decode cL_law 18 = .ok (.iconst 0, 1) := by decide +kernel
theorem dL_law_19 : decode cL_law 19 = .ok (.ireturn, 1) := by decide +kernel
theorem dL_law_20 : decode cL_law 20 = .ok (.iconst 0, 1) := by decide +kernel
theorem dL_law_21 : decode cL_law 21 = .ok (.istore_n 3, 1) := by decide +kernel
theorem dL_law_22 : decode cL_law 22 = .ok (.iload_n 3, 1) := by decide +kernel
theorem dL_law_23 : decode cL_law 23 = .ok (.bipush 7, 2) := by decide +kernel
theorem dL_law_25 : decode cL_law 25 = .ok (.if_icmp .ge 919, 3) := by decide +kernel
theorem dL_law_28 : decode cL_law 28 = .ok (.aload_n 0, 1) := by decide +kernel
theorem dL_law_29 : decode cL_law 29 = .ok (.iload_n 3, 1) := by decide +kernel
theorem dL_law_30 : decode cL_law 30 = .ok (.iconst 1, 1) := by decide +kernel
theorem dL_law_31 : decode cL_law 31 = .ok (.iadd, 1) := by decide +kernel
theorem dL_law_32 : decode cL_law 32 = .ok (.invokestatic 60, 3) := by decide +kernel
theorem dL_law_35 : decode cL_law 35 = .ok (.iconst 2, 1) := by decide +kernel
theorem dL_law_36 : decode cL_law 36 = .ok (.ishr, 1) := by decide +kernel
theorem dL_law_37 : decode cL_law 37 = .ok (.bipush 53, 2) := by decide +kernel
theorem dL_law_39 : decode cL_law 39 = .ok (.iload_n 3, 1) := by decide +kernel
theorem dL_law_40 : decode cL_law 40 = .ok (.imul, 1) := by decide +kernel
theorem dL_law_41 : decode cL_law 41 = .ok (.iadd, 1) := by decide +kernel
theorem dL_law_42 : decode cL_law 42 = .ok (.istore 4, 2) := by decide +kernel
theorem dL_law_44 : decode cL_law 44 = .ok (.iconst 0, 1) := by decide +kernel
theorem dL_law_45 : decode cL_law 45 = .ok (.istore 5, 2) := by decide +kernel
theorem dL_law_47 : decode cL_law 47 = .ok (.iload 5, 2) := by decide +kernel
theorem dL_law_49 : decode cL_law 49 = .ok (.iconst 3, 1) := by decide +kernel
theorem dL_law_50 : decode cL_law 50 = .ok (.if_icmp .ge 32, 3) := by decide +kernel
theorem dL_law_53 : decode cL_law 53 = .ok (.aload_n 1, 1) := by decide +kernel
theorem dL_law_54 : decode cL_law 54 = .ok (.aload_n 2, 1) := by decide +kernel
theorem dL_law_55 : decode cL_law 55 = .ok (.iload 4, 2) := by decide +kernel
theorem dL_law_57 : decode cL_law 57 = .ok (.iconst 3, 1) := by decide +kernel
theorem dL_law_58 : decode cL_law 58 = .ok (.iload 5, 2) := by decide +kernel
theorem dL_law_60 : decode cL_law 60 = .ok (.imul, 1) := by decide +kernel
theorem dL_law_61 : decode cL_law 61 = .ok (.ishr, 1) := by decide +kernel
theorem dL_law_62 : decode cL_law 62 = .ok (.bipush 29, 2) := by decide +kernel
theorem dL_law_64 : decode cL_law 64 = .ok (.iload 5, 2) := by decide +kernel
theorem dL_law_66 : decode cL_law 66 = .ok (.imul, 1) := by decide +kernel
theorem dL_law_67 : decode cL_law 67 = .ok (.iadd, 1) := by decide +kernel
theorem dL_law_68 : decode cL_law 68 = .ok (.invokestatic 64, 3) := by decide +kernel
theorem dL_law_71 : decode cL_law 71 = .ok (.ifCond .ne 5, 3) := by decide +kernel
theorem dL_law_74 : decode cL_law 74 = .ok (.iconst 0, 1) := by decide +kernel
theorem dL_law_75 : decode cL_law 75 = .ok (.ireturn, 1) := by decide +kernel
theorem dL_law_76 : decode cL_law 76 = .ok (.iinc 5 1, 3) := by decide +kernel
theorem dL_law_79 : decode cL_law 79 = .ok (.goto (-32), 3) := by decide +kernel
theorem dL_law_82 : decode cL_law 82 = .ok (.aload_n 1, 1) := by decide +kernel
theorem dL_law_83 : decode cL_law 83 = .ok (.invokevirtual 73, 3) := by decide +kernel
theorem dL_law_86 : decode cL_law 86 = .ok (.lstore 5, 2) := by decide +kernel
theorem dL_law_88 : decode cL_law 88 = .ok (.aload_n 1, 1) := by decide +kernel
theorem dL_law_89 : decode cL_law 89 = .ok (.invokevirtual 77, 3) := by decide +kernel
theorem dL_law_92 : decode cL_law 92 = .ok (.istore 7, 2) := by decide +kernel
theorem dL_law_94 : decode cL_law 94 = .ok (.aload_n 1, 1) := by decide +kernel
theorem dL_law_95 : decode cL_law 95 = .ok (.invokevirtual 80, 3) := by decide +kernel
theorem dL_law_98 : decode cL_law 98 = .ok (.istore 8, 2) := by decide +kernel
theorem dL_law_100 : decode cL_law 100 = .ok (.iconst 0, 1) := by decide +kernel
theorem dL_law_101 : decode cL_law 101 = .ok (.istore 9, 2) := by decide +kernel
theorem dL_law_103 : decode cL_law 103 = .ok (.iconst 0, 1) := by decide +kernel
theorem dL_law_104 : decode cL_law 104 = .ok (.istore 10, 2) := by decide +kernel
theorem dL_law_106 : decode cL_law 106 = .ok (.iload 10, 2) := by decide +kernel
theorem dL_law_108 : decode cL_law 108 = .ok (.iload 8, 2) := by decide +kernel
theorem dL_law_110 : decode cL_law 110 = .ok (.if_icmp .ge 89, 3) := by decide +kernel
theorem dL_law_113 : decode cL_law 113 = .ok (.iload 9, 2) := by decide +kernel
theorem dL_law_115 : decode cL_law 115 = .ok (.aload_n 1, 1) := by decide +kernel
theorem dL_law_116 : decode cL_law 116 = .ok (.iload 10, 2) := by decide +kernel
theorem dL_law_118 : decode cL_law 118 = .ok (.invokevirtual 82, 3) := by decide +kernel
theorem dL_law_121 : decode cL_law 121 = .ok (.iadd, 1) := by decide +kernel
theorem dL_law_122 : decode cL_law 122 = .ok (.istore 9, 2) := by decide +kernel
theorem dL_law_124 : decode cL_law 124 = .ok (.aload_n 1, 1) := by decide +kernel
theorem dL_law_125 : decode cL_law 125 = .ok (.iload 10, 2) := by decide +kernel
theorem dL_law_127 : decode cL_law 127 = .ok (.invokevirtual 85, 3) := by decide +kernel
theorem dL_law_130 : decode cL_law 130 = .ok (.ifCond .lt 61, 3) := by decide +kernel
theorem dL_law_133 : decode cL_law 133 = .ok (.aload_n 1, 1) := by decide +kernel
theorem dL_law_134 : decode cL_law 134 = .ok (.iload 10, 2) := by decide +kernel
theorem dL_law_136 : decode cL_law 136 = .ok (.invokevirtual 85, 3) := by decide +kernel
theorem dL_law_139 : decode cL_law 139 = .ok (.aload_n 2, 1) := by decide +kernel
theorem dL_law_140 : decode cL_law 140 = .ok (.getfield 9, 3) := by decide +kernel
theorem dL_law_143 : decode cL_law 143 = .ok (.iload 10, 2) := by decide +kernel
theorem dL_law_145 : decode cL_law 145 = .ok (.aaload, 1) := by decide +kernel
theorem dL_law_146 : decode cL_law 146 = .ok (.iconst 0, 1) := by decide +kernel
theorem dL_law_147 : decode cL_law 147 = .ok (.iaload, 1) := by decide +kernel
theorem dL_law_148 : decode cL_law 148 = .ok (.if_icmp .gt 43, 3) := by decide +kernel
theorem dL_law_151 : decode cL_law 151 = .ok (.aload_n 1, 1) := by decide +kernel
theorem dL_law_152 : decode cL_law 152 = .ok (.iload 10, 2) := by decide +kernel
theorem dL_law_154 : decode cL_law 154 = .ok (.invokevirtual 88, 3) := by decide +kernel
theorem dL_law_157 : decode cL_law 157 = .ok (.ifCond .ne 7, 3) := by decide +kernel
theorem dL_law_160 : decode cL_law 160 = .ok (.iconst 1, 1) := by decide +kernel
theorem dL_law_161 : decode cL_law 161 = .ok (.goto 4, 3) := by decide +kernel
theorem dL_law_164 : decode cL_law 164 = .ok (.iconst 0, 1) := by decide +kernel
theorem dL_law_165 : decode cL_law 165 = .ok (.aload_n 1, 1) := by decide +kernel
theorem dL_law_166 : decode cL_law 166 = .ok (.iload 10, 2) := by decide +kernel
theorem dL_law_168 : decode cL_law 168 = .ok (.invokevirtual 85, 3) := by decide +kernel
theorem dL_law_171 : decode cL_law 171 = .ok (.aload_n 2, 1) := by decide +kernel
theorem dL_law_172 : decode cL_law 172 = .ok (.getfield 9, 3) := by decide +kernel
theorem dL_law_175 : decode cL_law 175 = .ok (.iload 10, 2) := by decide +kernel
theorem dL_law_177 : decode cL_law 177 = .ok (.aaload, 1) := by decide +kernel
theorem dL_law_178 : decode cL_law 178 = .ok (.iconst 0, 1) := by decide +kernel
theorem dL_law_179 : decode cL_law 179 = .ok (.iaload, 1) := by decide +kernel
theorem dL_law_180 : decode cL_law 180 = .ok (.if_icmp .ne 7, 3) := by decide +kernel
theorem dL_law_183 : decode cL_law 183 = .ok (.iconst 1, 1) := by decide +kernel
theorem dL_law_184 : decode cL_law 184 = .ok (.goto 4, 3) := by decide +kernel
theorem dL_law_187 : decode cL_law 187 = .ok (.iconst 0, 1) := by decide +kernel
theorem dL_law_188 : decode cL_law 188 = .ok (.if_icmp .eq 5, 3) := by decide +kernel
theorem dL_law_191 : decode cL_law 191 = .ok (.iconst 0, 1) := by decide +kernel
theorem dL_law_192 : decode cL_law 192 = .ok (.ireturn, 1) := by decide +kernel
theorem dL_law_193 : decode cL_law 193 = .ok (.iinc 10 1, 3) := by decide +kernel
theorem dL_law_196 : decode cL_law 196 = .ok (.goto (-90), 3) := by decide +kernel
theorem dL_law_199 : decode cL_law 199 = .ok (.iconst 0, 1) := by decide +kernel
theorem dL_law_200 : decode cL_law 200 = .ok (.istore 10, 2) := by decide +kernel
theorem dL_law_202 : decode cL_law 202 = .ok (.iconst 0, 1) := by decide +kernel
theorem dL_law_203 : decode cL_law 203 = .ok (.istore 11, 2) := by decide +kernel
theorem dL_law_205 : decode cL_law 205 = .ok (.iload 11, 2) := by decide +kernel
theorem dL_law_207 : decode cL_law 207 = .ok (.iload 7, 2) := by decide +kernel
theorem dL_law_209 : decode cL_law 209 = .ok (.if_icmp .ge 247, 3) := by decide +kernel
theorem dL_law_212 : decode cL_law 212 = .ok (.aload_n 1, 1) := by decide +kernel
theorem dL_law_213 : decode cL_law 213 = .ok (.iload 11, 2) := by decide +kernel
theorem dL_law_215 : decode cL_law 215 = .ok (.invokevirtual 91, 3) := by decide +kernel
theorem dL_law_218 : decode cL_law 218 = .ok (.istore 12, 2) := by decide +kernel
theorem dL_law_220 : decode cL_law 220 = .ok (.aload_n 1, 1) := by decide +kernel
theorem dL_law_221 : decode cL_law 221 = .ok (.iload 11, 2) := by decide +kernel
theorem dL_law_223 : decode cL_law 223 = .ok (.invokevirtual 94, 3) := by decide +kernel
theorem dL_law_226 : decode cL_law 226 = .ok (.istore 13, 2) := by decide +kernel
theorem dL_law_228 : decode cL_law 228 = .ok (.aload_n 1, 1) := by decide +kernel
theorem dL_law_229 : decode cL_law 229 = .ok (.iload 11, 2) := by decide +kernel
theorem dL_law_231 : decode cL_law 231 = .ok (.invokevirtual 97, 3) := by decide +kernel
theorem dL_law_234 : decode cL_law 234 = .ok (.istore 14, 2) := by decide +kernel
theorem dL_law_236 : decode cL_law 236 = .ok (.iload 10, 2) := by decide +kernel
theorem dL_law_238 : decode cL_law 238 = .ok (.iload 12, 2) := by decide +kernel
theorem dL_law_240 : decode cL_law 240 = .ok (.ifCond .le 7, 3) := by decide +kernel
theorem dL_law_243 : decode cL_law 243 = .ok (.iconst 1, 1) := by decide +kernel
theorem dL_law_244 : decode cL_law 244 = .ok (.goto 4, 3) := by decide +kernel
theorem dL_law_247 : decode cL_law 247 = .ok (.iconst 0, 1) := by decide +kernel
theorem dL_law_248 : decode cL_law 248 = .ok (.iadd, 1) := by decide +kernel
theorem dL_law_249 : decode cL_law 249 = .ok (.istore 10, 2) := by decide +kernel
theorem dL_law_251 : decode cL_law 251 = .ok (.aload_n 1, 1) := by decide +kernel
theorem dL_law_252 : decode cL_law 252 = .ok (.iload 11, 2) := by decide +kernel
theorem dL_law_254 : decode cL_law 254 = .ok (.invokevirtual 100, 3) := by decide +kernel
theorem dL_law_257 : decode cL_law 257 = .ok (.ifCond .lt 191, 3) := by decide +kernel
theorem dL_law_260 : decode cL_law 260 = .ok (.aload_n 1, 1) := by decide +kernel
theorem dL_law_261 : decode cL_law 261 = .ok (.iload 11, 2) := by decide +kernel
theorem dL_law_263 : decode cL_law 263 = .ok (.invokevirtual 100, 3) := by decide +kernel
theorem dL_law_266 : decode cL_law 266 = .ok (.bipush 12, 2) := by decide +kernel
theorem dL_law_268 : decode cL_law 268 = .ok (.if_icmp .gt 180, 3) := by decide +kernel
theorem dL_law_271 : decode cL_law 271 = .ok (.aload_n 1, 1) := by decide +kernel
theorem dL_law_272 : decode cL_law 272 = .ok (.iload 11, 2) := by decide +kernel
theorem dL_law_274 : decode cL_law 274 = .ok (.invokevirtual 100, 3) := by decide +kernel
theorem dL_law_277 : decode cL_law 277 = .ok (.ifCond .le 12, 3) := by decide +kernel
theorem dL_law_280 : decode cL_law 280 = .ok (.aload_n 1, 1) := by decide +kernel
theorem dL_law_281 : decode cL_law 281 = .ok (.iload 11, 2) := by decide +kernel
theorem dL_law_283 : decode cL_law 283 = .ok (.invokevirtual 103, 3) := by decide +kernel
theorem dL_law_286 : decode cL_law 286 = .ok (.ifCond .gt 162, 3) := by decide +kernel
theorem dL_law_289 : decode cL_law 289 = .ok (.iload 12, 2) := by decide +kernel
theorem dL_law_291 : decode cL_law 291 = .ok (.ifCond .lt 157, 3) := by decide +kernel
theorem dL_law_294 : decode cL_law 294 = .ok (.iload 12, 2) := by decide +kernel
theorem dL_law_296 : decode cL_law 296 = .ok (.bipush 48, 2) := by decide +kernel
theorem dL_law_298 : decode cL_law 298 = .ok (.if_icmp .gt 150, 3) := by decide +kernel
theorem dL_law_301 : decode cL_law 301 = .ok (.aload_n 1, 1) := by decide +kernel
theorem dL_law_302 : decode cL_law 302 = .ok (.iload 11, 2) := by decide +kernel
theorem dL_law_304 : decode cL_law 304 = .ok (.invokevirtual 106, 3) := by decide +kernel
theorem dL_law_307 : decode cL_law 307 = .ok (.ifCond .lt 141, 3) := by decide +kernel
theorem dL_law_310 : decode cL_law 310 = .ok (.aload_n 1, 1) := by decide +kernel
theorem dL_law_311 : decode cL_law 311 = .ok (.iload 11, 2) := by decide +kernel
theorem dL_law_313 : decode cL_law 313 = .ok (.invokevirtual 106, 3) := by decide +kernel
theorem dL_law_316 : decode cL_law 316 = .ok (.iconst 2, 1) := by decide +kernel
theorem dL_law_317 : decode cL_law 317 = .ok (.if_icmp .gt 131, 3) := by decide +kernel
theorem dL_law_320 : decode cL_law 320 = .ok (.iload 12, 2) := by decide +kernel
theorem dL_law_322 : decode cL_law 322 = .ok (.ifCond .le 17, 3) := by decide +kernel
theorem dL_law_325 : decode cL_law 325 = .ok (.iload 13, 2) := by decide +kernel
theorem dL_law_327 : decode cL_law 327 = .ok (.ifCond .ne 121, 3) := by decide +kernel
theorem dL_law_330 : decode cL_law 330 = .ok (.aload_n 1, 1) := by decide +kernel
theorem dL_law_331 : decode cL_law 331 = .ok (.iload 11, 2) := by decide +kernel
theorem dL_law_333 : decode cL_law 333 = .ok (.invokevirtual 106, 3) := by decide +kernel
theorem dL_law_336 : decode cL_law 336 = .ok (.ifCond .ne 112, 3) := by decide +kernel
theorem dL_law_339 : decode cL_law 339 = .ok (.iload 13, 2) := by decide +kernel
theorem dL_law_341 : decode cL_law 341 = .ok (.bipush 20, 2) := by decide +kernel
theorem dL_law_343 : decode cL_law 343 = .ok (.if_icmp .gt 105, 3) := by decide +kernel
theorem dL_law_346 : decode cL_law 346 = .ok (.iload 14, 2) := by decide +kernel
theorem dL_law_348 : decode cL_law 348 = .ok (.iconst 4, 1) := by decide +kernel
theorem dL_law_349 : decode cL_law 349 = .ok (.if_icmp .lt 99, 3) := by decide +kernel
theorem dL_law_352 : decode cL_law 352 = .ok (.iload 14, 2) := by decide +kernel
theorem dL_law_354 : decode cL_law 354 = .ok (.bipush 32, 2) := by decide +kernel
theorem dL_law_356 : decode cL_law 356 = .ok (.if_icmp .gt 92, 3) := by decide +kernel
theorem dL_law_359 : decode cL_law 359 = .ok (.iload 14, 2) := by decide +kernel
theorem dL_law_361 : decode cL_law 361 = .ok (.iload 14, 2) := by decide +kernel
theorem dL_law_363 : decode cL_law 363 = .ok (.iconst 1, 1) := by decide +kernel
theorem dL_law_364 : decode cL_law 364 = .ok (.isub, 1) := by decide +kernel
theorem dL_law_365 : decode cL_law 365 = .ok (.iand, 1) := by decide +kernel
theorem dL_law_366 : decode cL_law 366 = .ok (.ifCond .ne 82, 3) := by decide +kernel
theorem dL_law_369 : decode cL_law 369 = .ok (.iload 13, 2) := by decide +kernel
theorem dL_law_371 : decode cL_law 371 = .ok (.ifCond .le 14, 3) := by decide +kernel
theorem dL_law_374 : decode cL_law 374 = .ok (.aload_n 1, 1) := by decide +kernel
theorem dL_law_375 : decode cL_law 375 = .ok (.iload 11, 2) := by decide +kernel
theorem dL_law_377 : decode cL_law 377 = .ok (.iload 13, 2) := by decide +kernel
theorem dL_law_379 : decode cL_law 379 = .ok (.invokevirtual 109, 3) := by decide +kernel
theorem dL_law_382 : decode cL_law 382 = .ok (.ifCond .ne 66, 3) := by decide +kernel
theorem dL_law_385 : decode cL_law 385 = .ok (.iload 13, 2) := by decide +kernel
theorem dL_law_387 : decode cL_law 387 = .ok (.bipush 20, 2) := by decide +kernel
theorem dL_law_389 : decode cL_law 389 = .ok (.if_icmp .ge 16, 3) := by decide +kernel
theorem dL_law_392 : decode cL_law 392 = .ok (.aload_n 1, 1) := by decide +kernel
theorem dL_law_393 : decode cL_law 393 = .ok (.iload 11, 2) := by decide +kernel
theorem dL_law_395 : decode cL_law 395 = .ok (.iload 13, 2) := by decide +kernel
theorem dL_law_397 : decode cL_law 397 = .ok (.iconst 1, 1) := by decide +kernel
theorem dL_law_398 : decode cL_law 398 = .ok (.iadd, 1) := by decide +kernel
theorem dL_law_399 : decode cL_law 399 = .ok (.invokevirtual 109, 3) := by decide +kernel
theorem dL_law_402 : decode cL_law 402 = .ok (.ifCond .eq 46, 3) := by decide +kernel
theorem dL_law_405 : decode cL_law 405 = .ok (.aload_n 1, 1) := by decide +kernel
theorem dL_law_406 : decode cL_law 406 = .ok (.iload 11, 2) := by decide +kernel
theorem dL_law_408 : decode cL_law 408 = .ok (.iconst 1, 1) := by decide +kernel
theorem dL_law_409 : decode cL_law 409 = .ok (.invokevirtual 109, 3) := by decide +kernel
theorem dL_law_412 : decode cL_law 412 = .ok (.ifCond .lt 15, 3) := by decide +kernel
theorem dL_law_415 : decode cL_law 415 = .ok (.aload_n 1, 1) := by decide +kernel
theorem dL_law_416 : decode cL_law 416 = .ok (.iload 11, 2) := by decide +kernel
theorem dL_law_418 : decode cL_law 418 = .ok (.iconst 1, 1) := by decide +kernel
theorem dL_law_419 : decode cL_law 419 = .ok (.invokevirtual 109, 3) := by decide +kernel
theorem dL_law_422 : decode cL_law 422 = .ok (.iload 12, 2) := by decide +kernel
theorem dL_law_424 : decode cL_law 424 = .ok (.if_icmp .lt 24, 3) := by decide +kernel
theorem dL_law_427 : decode cL_law 427 = .ok (.aload_n 1, 1) := by decide +kernel
theorem dL_law_428 : decode cL_law 428 = .ok (.iload 11, 2) := by decide +kernel
theorem dL_law_430 : decode cL_law 430 = .ok (.iconst 1, 1) := by decide +kernel
theorem dL_law_431 : decode cL_law 431 = .ok (.iconst 1, 1) := by decide +kernel
theorem dL_law_432 : decode cL_law 432 = .ok (.invokevirtual 112, 3) := by decide +kernel
theorem dL_law_435 : decode cL_law 435 = .ok (.iload 13, 2) := by decide +kernel
theorem dL_law_437 : decode cL_law 437 = .ok (.ifCond .le 7, 3) := by decide +kernel
theorem dL_law_440 : decode cL_law 440 = .ok (.iconst 1, 1) := by decide +kernel
theorem dL_law_441 : decode cL_law 441 = .ok (.goto 4, 3) := by decide +kernel
theorem dL_law_444 : decode cL_law 444 = .ok (.iconst 0, 1) := by decide +kernel
theorem dL_law_445 : decode cL_law 445 = .ok (.if_icmp .eq 5, 3) := by decide +kernel
theorem dL_law_448 : decode cL_law 448 = .ok (.iconst 0, 1) := by decide +kernel
theorem dL_law_449 : decode cL_law 449 = .ok (.ireturn, 1) := by decide +kernel
theorem dL_law_450 : decode cL_law 450 = .ok (.iinc 11 1, 3) := by decide +kernel
theorem dL_law_453 : decode cL_law 453 = .ok (.goto (-248), 3) := by decide +kernel
theorem dL_law_456 : decode cL_law 456 = .ok (.iload 9, 2) := by decide +kernel
theorem dL_law_458 : decode cL_law 458 = .ok (.iload 7, 2) := by decide +kernel
theorem dL_law_460 : decode cL_law 460 = .ok (.if_icmp .ne 36, 3) := by decide +kernel
theorem dL_law_463 : decode cL_law 463 = .ok (.iload 10, 2) := by decide +kernel
theorem dL_law_465 : decode cL_law 465 = .ok (.aload_n 1, 1) := by decide +kernel
theorem dL_law_466 : decode cL_law 466 = .ok (.invokevirtual 116, 3) := by decide +kernel
theorem dL_law_469 : decode cL_law 469 = .ok (.if_icmp .ne 27, 3) := by decide +kernel
theorem dL_law_472 : decode cL_law 472 = .ok (.aload_n 1, 1) := by decide +kernel
theorem dL_law_473 : decode cL_law 473 = .ok (.invokevirtual 119, 3) := by decide +kernel
theorem dL_law_476 : decode cL_law 476 = .ok (.aload_n 1, 1) := by decide +kernel
theorem dL_law_477 : decode cL_law 477 = .ok (.invokevirtual 122, 3) := by decide +kernel
theorem dL_law_480 : decode cL_law 480 = .ok (.bipush 24, 2) := by decide +kernel
theorem dL_law_482 : decode cL_law 482 = .ok (.idiv, 1) := by decide +kernel
theorem dL_law_483 : decode cL_law 483 = .ok (.if_icmp .ne 13, 3) := by decide +kernel
theorem dL_law_486 : decode cL_law 486 = .ok (.aload_n 1, 1) := by decide +kernel
theorem dL_law_487 : decode cL_law 487 = .ok (.invokevirtual 73, 3) := by decide +kernel
theorem dL_law_490 : decode cL_law 490 = .ok (.lload 5, 2) := by decide +kernel
theorem dL_law_492 : decode cL_law 492 = .ok (.lcmp, 1) := by decide +kernel
theorem dL_law_493 : decode cL_law 493 = .ok (.ifCond .eq 5, 3) := by decide +kernel
theorem dL_law_496 : decode cL_law 496 = .ok (.iconst 0, 1) := by decide +kernel
theorem dL_law_497 : decode cL_law 497 = .ok (.ireturn, 1) := by decide +kernel
theorem dL_law_498 : decode cL_law 498 = .ok (.iload 7, 2) := by decide +kernel
theorem dL_law_500 : decode cL_law 500 = .ok (.ifCond .ne 6, 3) := by decide +kernel
theorem dL_law_503 : decode cL_law 503 = .ok (.goto 435, 3) := by decide +kernel
theorem dL_law_506 : decode cL_law 506 = .ok (.iload 4, 2) := by decide +kernel
theorem dL_law_508 : decode cL_law 508 = .ok (.iconst 3, 1) := by decide +kernel
theorem dL_law_509 : decode cL_law 509 = .ok (.ishr, 1) := by decide +kernel
theorem dL_law_510 : decode cL_law 510 = .ok (.iload 7, 2) := by decide +kernel
theorem dL_law_512 : decode cL_law 512 = .ok (.invokestatic 18, 3) := by decide +kernel
theorem dL_law_515 : decode cL_law 515 = .ok (.istore 11, 2) := by decide +kernel
theorem dL_law_517 : decode cL_law 517 = .ok (.iconst 1, 1) := by decide +kernel
theorem dL_law_518 : decode cL_law 518 = .ok (.iload 4, 2) := by decide +kernel
theorem dL_law_520 : decode cL_law 520 = .ok (.iconst 5, 1) := by decide +kernel
theorem dL_law_521 : decode cL_law 521 = .ok (.ishr, 1) := by decide +kernel
theorem dL_law_522 : decode cL_law 522 = .ok (.bipush 20, 2) := by decide +kernel
theorem dL_law_524 : decode cL_law 524 = .ok (.invokestatic 18, 3) := by decide +kernel
theorem dL_law_527 : decode cL_law 527 = .ok (.iadd, 1) := by decide +kernel
theorem dL_law_528 : decode cL_law 528 = .ok (.istore 12, 2) := by decide +kernel
theorem dL_law_530 : decode cL_law 530 = .ok (.aload_n 1, 1) := by decide +kernel
theorem dL_law_531 : decode cL_law 531 = .ok (.iload 11, 2) := by decide +kernel
theorem dL_law_533 : decode cL_law 533 = .ok (.invokevirtual 125, 3) := by decide +kernel
theorem dL_law_536 : decode cL_law 536 = .ok (.istore 13, 2) := by decide +kernel
theorem dL_law_538 : decode cL_law 538 = .ok (.aload_n 1, 1) := by decide +kernel
theorem dL_law_539 : decode cL_law 539 = .ok (.iload 13, 2) := by decide +kernel
theorem dL_law_541 : decode cL_law 541 = .ok (.invokevirtual 85, 3) := by decide +kernel
theorem dL_law_544 : decode cL_law 544 = .ok (.istore 14, 2) := by decide +kernel
theorem dL_law_546 : decode cL_law 546 = .ok (.aload_n 1, 1) := by decide +kernel
theorem dL_law_547 : decode cL_law 547 = .ok (.iload 11, 2) := by decide +kernel
theorem dL_law_549 : decode cL_law 549 = .ok (.invokevirtual 100, 3) := by decide +kernel
theorem dL_law_552 : decode cL_law 552 = .ok (.istore 15, 2) := by decide +kernel
theorem dL_law_554 : decode cL_law 554 = .ok (.aload_n 1, 1) := by decide +kernel
theorem dL_law_555 : decode cL_law 555 = .ok (.iload 11, 2) := by decide +kernel
theorem dL_law_557 : decode cL_law 557 = .ok (.invokevirtual 106, 3) := by decide +kernel
theorem dL_law_560 : decode cL_law 560 = .ok (.istore 16, 2) := by decide +kernel
theorem dL_law_562 : decode cL_law 562 = .ok (.aload_n 1, 1) := by decide +kernel
theorem dL_law_563 : decode cL_law 563 = .ok (.invokevirtual 128, 3) := by decide +kernel
theorem dL_law_566 : decode cL_law 566 = .ok (.istore 17, 2) := by decide +kernel
theorem dL_law_568 : decode cL_law 568 = .ok (.aload_n 1, 1) := by decide +kernel
theorem dL_law_569 : decode cL_law 569 = .ok (.invokevirtual 131, 3) := by decide +kernel
theorem dL_law_572 : decode cL_law 572 = .ok (.istore 18, 2) := by decide +kernel
theorem dL_law_574 : decode cL_law 574 = .ok (.aload_n 1, 1) := by decide +kernel
theorem dL_law_575 : decode cL_law 575 = .ok (.iload 11, 2) := by decide +kernel
theorem dL_law_577 : decode cL_law 577 = .ok (.invokevirtual 94, 3) := by decide +kernel
theorem dL_law_580 : decode cL_law 580 = .ok (.iload 12, 2) := by decide +kernel
theorem dL_law_582 : decode cL_law 582 = .ok (.if_icmp .lt 7, 3) := by decide +kernel
theorem dL_law_585 : decode cL_law 585 = .ok (.iconst 1, 1) := by decide +kernel
theorem dL_law_586 : decode cL_law 586 = .ok (.goto 4, 3) := by decide +kernel
theorem dL_law_589 : decode cL_law 589 = .ok (.iconst 0, 1) := by decide +kernel
theorem dL_law_590 : decode cL_law 590 = .ok (.istore 19, 2) := by decide +kernel
theorem dL_law_592 : decode cL_law 592 = .ok (.aload_n 1, 1) := by decide +kernel
theorem dL_law_593 : decode cL_law 593 = .ok (.iload 12, 2) := by decide +kernel
theorem dL_law_595 : decode cL_law 595 = .ok (.invokevirtual 134, 3) := by decide +kernel
theorem dL_law_598 : decode cL_law 598 = .ok (.istore 20, 2) := by decide +kernel
theorem dL_law_600 : decode cL_law 600 = .ok (.iload 19, 2) := by decide +kernel
theorem dL_law_602 : decode cL_law 602 = .ok (.aload_n 1, 1) := by decide +kernel
theorem dL_law_603 : decode cL_law 603 = .ok (.iload 11, 2) := by decide +kernel
theorem dL_law_605 : decode cL_law 605 = .ok (.iload 12, 2) := by decide +kernel
theorem dL_law_607 : decode cL_law 607 = .ok (.invokevirtual 109, 3) := by decide +kernel
theorem dL_law_610 : decode cL_law 610 = .ok (.ifCond .ne 7, 3) := by decide +kernel
theorem dL_law_613 : decode cL_law 613 = .ok (.iconst 1, 1) := by decide +kernel
theorem dL_law_614 : decode cL_law 614 = .ok (.goto 4, 3) := by decide +kernel
theorem dL_law_617 : decode cL_law 617 = .ok (.iconst 0, 1) := by decide +kernel
theorem dL_law_618 : decode cL_law 618 = .ok (.if_icmp .ne 29, 3) := by decide +kernel
theorem dL_law_621 : decode cL_law 621 = .ok (.iload 19, 2) := by decide +kernel
theorem dL_law_623 : decode cL_law 623 = .ok (.ifCond .eq 8, 3) := by decide +kernel
theorem dL_law_626 : decode cL_law 626 = .ok (.iload 20, 2) := by decide +kernel
theorem dL_law_628 : decode cL_law 628 = .ok (.ifCond .lt 19, 3) := by decide +kernel
theorem dL_law_631 : decode cL_law 631 = .ok (.iload 20, 2) := by decide +kernel
theorem dL_law_633 : decode cL_law 633 = .ok (.ifCond .lt 16, 3) := by decide +kernel
theorem dL_law_636 : decode cL_law 636 = .ok (.aload_n 1, 1) := by decide +kernel
theorem dL_law_637 : decode cL_law 637 = .ok (.iload 20, 2) := by decide +kernel
theorem dL_law_639 : decode cL_law 639 = .ok (.invokevirtual 94, 3) := by decide +kernel
theorem dL_law_642 : decode cL_law 642 = .ok (.iload 12, 2) := by decide +kernel
theorem dL_law_644 : decode cL_law 644 = .ok (.if_icmp .ge 5, 3) := by decide +kernel
theorem dL_law_647 : decode cL_law 647 = .ok (.iconst 0, 1) := by decide +kernel
theorem dL_law_648 : decode cL_law 648 = .ok (.ireturn, 1) := by decide +kernel
theorem dL_law_649 : decode cL_law 649 = .ok (.aload_n 1, 1) := by decide +kernel
theorem dL_law_650 : decode cL_law 650 = .ok (.iload 11, 2) := by decide +kernel
theorem dL_law_652 : decode cL_law 652 = .ok (.iload 12, 2) := by decide +kernel
theorem dL_law_654 : decode cL_law 654 = .ok (.invokevirtual 54, 3) := by decide +kernel
theorem dL_law_657 : decode cL_law 657 = .ok (.iload 19, 2) := by decide +kernel
theorem dL_law_659 : decode cL_law 659 = .ok (.if_icmp .ne 16, 3) := by decide +kernel
theorem dL_law_662 : decode cL_law 662 = .ok (.aload_n 2, 1) := by decide +kernel
theorem dL_law_663 : decode cL_law 663 = .ok (.iload 11, 2) := by decide +kernel
theorem dL_law_665 : decode cL_law 665 = .ok (.iload 12, 2) := by decide +kernel
theorem dL_law_667 : decode cL_law 667 = .ok (.invokevirtual 58, 3) := by decide +kernel
theorem dL_law_670 : decode cL_law 670 = .ok (.iload 19, 2) := by decide +kernel
theorem dL_law_672 : decode cL_law 672 = .ok (.if_icmp .eq 5, 3) := by decide +kernel
theorem dL_law_675 : decode cL_law 675 = .ok (.iconst 0, 1) := by decide +kernel
theorem dL_law_676 : decode cL_law 676 = .ok (.ireturn, 1) := by decide +kernel
theorem dL_law_677 : decode cL_law 677 = .ok (.iload 14, 2) := by decide +kernel
theorem dL_law_679 : decode cL_law 679 = .ok (.aload_n 1, 1) := by decide +kernel
theorem dL_law_680 : decode cL_law 680 = .ok (.iload 13, 2) := by decide +kernel
theorem dL_law_682 : decode cL_law 682 = .ok (.invokevirtual 85, 3) := by decide +kernel
theorem dL_law_685 : decode cL_law 685 = .ok (.isub, 1) := by decide +kernel
theorem dL_law_686 : decode cL_law 686 = .ok (.iload 15, 2) := by decide +kernel
theorem dL_law_688 : decode cL_law 688 = .ok (.iadd, 1) := by decide +kernel
theorem dL_law_689 : decode cL_law 689 = .ok (.aload_n 1, 1) := by decide +kernel
theorem dL_law_690 : decode cL_law 690 = .ok (.iload 11, 2) := by decide +kernel
theorem dL_law_692 : decode cL_law 692 = .ok (.invokevirtual 100, 3) := by decide +kernel
theorem dL_law_695 : decode cL_law 695 = .ok (.isub, 1) := by decide +kernel
theorem dL_law_696 : decode cL_law 696 = .ok (.istore 21, 2) := by decide +kernel
theorem dL_law_698 : decode cL_law 698 = .ok (.iload 21, 2) := by decide +kernel
theorem dL_law_700 : decode cL_law 700 = .ok (.iload 19, 2) := by decide +kernel
theorem dL_law_702 : decode cL_law 702 = .ok (.ifCond .eq 8, 3) := by decide +kernel
theorem dL_law_705 : decode cL_law 705 = .ok (.iload 12, 2) := by decide +kernel
theorem dL_law_707 : decode cL_law 707 = .ok (.goto 4, 3) := by decide +kernel
theorem dL_law_710 : decode cL_law 710 = .ok (.iconst 0, 1) := by decide +kernel
theorem dL_law_711 : decode cL_law 711 = .ok (.if_icmp .ne 72, 3) := by decide +kernel
theorem dL_law_714 : decode cL_law 714 = .ok (.iload 19, 2) := by decide +kernel
theorem dL_law_716 : decode cL_law 716 = .ok (.ifCond .eq 51, 3) := by decide +kernel
theorem dL_law_719 : decode cL_law 719 = .ok (.aload_n 1, 1) := by decide +kernel
theorem dL_law_720 : decode cL_law 720 = .ok (.iload 11, 2) := by decide +kernel
theorem dL_law_722 : decode cL_law 722 = .ok (.invokevirtual 106, 3) := by decide +kernel
theorem dL_law_725 : decode cL_law 725 = .ok (.iconst 0, 1) := by decide +kernel
theorem dL_law_726 : decode cL_law 726 = .ok (.iload 16, 2) := by decide +kernel
theorem dL_law_728 : decode cL_law 728 = .ok (.iconst 1, 1) := by decide +kernel
theorem dL_law_729 : decode cL_law 729 = .ok (.isub, 1) := by decide +kernel
theorem dL_law_730 : decode cL_law 730 = .ok (.invokestatic 137, 3) := by decide +kernel
theorem dL_law_733 : decode cL_law 733 = .ok (.if_icmp .ne 50, 3) := by decide +kernel
theorem dL_law_736 : decode cL_law 736 = .ok (.aload_n 1, 1) := by decide +kernel
theorem dL_law_737 : decode cL_law 737 = .ok (.iload 11, 2) := by decide +kernel
theorem dL_law_739 : decode cL_law 739 = .ok (.invokevirtual 100, 3) := by decide +kernel
theorem dL_law_742 : decode cL_law 742 = .ok (.ifCond .le 14, 3) := by decide +kernel
theorem dL_law_745 : decode cL_law 745 = .ok (.aload_n 1, 1) := by decide +kernel
theorem dL_law_746 : decode cL_law 746 = .ok (.iload 13, 2) := by decide +kernel
theorem dL_law_748 : decode cL_law 748 = .ok (.invokevirtual 85, 3) := by decide +kernel
theorem dL_law_751 : decode cL_law 751 = .ok (.iload 14, 2) := by decide +kernel
theorem dL_law_753 : decode cL_law 753 = .ok (.if_icmp .ne 30, 3) := by decide +kernel
theorem dL_law_756 : decode cL_law 756 = .ok (.aload_n 1, 1) := by decide +kernel
theorem dL_law_757 : decode cL_law 757 = .ok (.invokevirtual 128, 3) := by decide +kernel
theorem dL_law_760 : decode cL_law 760 = .ok (.iload 17, 2) := by decide +kernel
theorem dL_law_762 : decode cL_law 762 = .ok (.iconst 1, 1) := by decide +kernel
theorem dL_law_763 : decode cL_law 763 = .ok (.iadd, 1) := by decide +kernel
theorem dL_law_764 : decode cL_law 764 = .ok (.if_icmp .ne 19, 3) := by decide +kernel
theorem dL_law_767 : decode cL_law 767 = .ok (.iload 19, 2) := by decide +kernel
theorem dL_law_769 : decode cL_law 769 = .ok (.ifCond .ne 16, 3) := by decide +kernel
theorem dL_law_772 : decode cL_law 772 = .ok (.aload_n 1, 1) := by decide +kernel
theorem dL_law_773 : decode cL_law 773 = .ok (.invokevirtual 131, 3) := by decide +kernel
theorem dL_law_776 : decode cL_law 776 = .ok (.iload 18, 2) := by decide +kernel
theorem dL_law_778 : decode cL_law 778 = .ok (.iconst 1, 1) := by decide +kernel
theorem dL_law_779 : decode cL_law 779 = .ok (.iadd, 1) := by decide +kernel
theorem dL_law_780 : decode cL_law 780 = .ok (.if_icmp .eq 5, 3) := by decide +kernel
theorem dL_law_783 : decode cL_law 783 = .ok (.iconst 0, 1) := by decide +kernel
theorem dL_law_784 : decode cL_law 784 = .ok (.ireturn, 1) := by decide +kernel
theorem dL_law_785 : decode cL_law 785 = .ok (.aload_n 1, 1) := by decide +kernel
theorem dL_law_786 : decode cL_law 786 = .ok (.iload 11, 2) := by decide +kernel
theorem dL_law_788 : decode cL_law 788 = .ok (.iload 12, 2) := by decide +kernel
theorem dL_law_790 : decode cL_law 790 = .ok (.invokevirtual 109, 3) := by decide +kernel
theorem dL_law_793 : decode cL_law 793 = .ok (.istore 22, 2) := by decide +kernel
theorem dL_law_795 : decode cL_law 795 = .ok (.aload_n 1, 1) := by decide +kernel
theorem dL_law_796 : decode cL_law 796 = .ok (.iload 13, 2) := by decide +kernel
theorem dL_law_798 : decode cL_law 798 = .ok (.invokevirtual 88, 3) := by decide +kernel
theorem dL_law_801 : decode cL_law 801 = .ok (.istore 23, 2) := by decide +kernel
theorem dL_law_803 : decode cL_law 803 = .ok (.iconst 0, 1) := by decide +kernel
theorem dL_law_804 : decode cL_law 804 = .ok (.istore 24, 2) := by decide +kernel
theorem dL_law_806 : decode cL_law 806 = .ok (.iload 24, 2) := by decide +kernel
theorem dL_law_808 : decode cL_law 808 = .ok (.bipush 30, 2) := by decide +kernel
theorem dL_law_810 : decode cL_law 810 = .ok (.if_icmp .ge 128, 3) := by decide +kernel
theorem dL_law_813 : decode cL_law 813 = .ok (.aload_n 1, 1) := by decide +kernel
theorem dL_law_814 : decode cL_law 814 = .ok (.iload 11, 2) := by decide +kernel
theorem dL_law_816 : decode cL_law 816 = .ok (.invokevirtual 94, 3) := by decide +kernel
theorem dL_law_819 : decode cL_law 819 = .ok (.iload 12, 2) := by decide +kernel
theorem dL_law_821 : decode cL_law 821 = .ok (.if_icmp .lt 7, 3) := by decide +kernel
theorem dL_law_824 : decode cL_law 824 = .ok (.iconst 1, 1) := by decide +kernel
theorem dL_law_825 : decode cL_law 825 = .ok (.goto 4, 3) := by decide +kernel
theorem dL_law_828 : decode cL_law 828 = .ok (.iconst 0, 1) := by decide +kernel
theorem dL_law_829 : decode cL_law 829 = .ok (.iload 24, 2) := by decide +kernel
theorem dL_law_831 : decode cL_law 831 = .ok (.iload 22, 2) := by decide +kernel
theorem dL_law_833 : decode cL_law 833 = .ok (.if_icmp .ne 7, 3) := by decide +kernel
theorem dL_law_836 : decode cL_law 836 = .ok (.iconst 1, 1) := by decide +kernel
theorem dL_law_837 : decode cL_law 837 = .ok (.goto 4, 3) := by decide +kernel
theorem dL_law_840 : decode cL_law 840 = .ok (.iconst 0, 1) := by decide +kernel
theorem dL_law_841 : decode cL_law 841 = .ok (.if_icmp .eq 10, 3) := by decide +kernel
theorem dL_law_844 : decode cL_law 844 = .ok (.iload 24, 2) := by decide +kernel
theorem dL_law_846 : decode cL_law 846 = .ok (.iload 22, 2) := by decide +kernel
theorem dL_law_848 : decode cL_law 848 = .ok (.if_icmp .le 67, 3) := by decide +kernel
theorem dL_law_851 : decode cL_law 851 = .ok (.iload 22, 2) := by decide +kernel
theorem dL_law_853 : decode cL_law 853 = .ok (.ifCond .ge 14, 3) := by decide +kernel
theorem dL_law_856 : decode cL_law 856 = .ok (.aload_n 1, 1) := by decide +kernel
theorem dL_law_857 : decode cL_law 857 = .ok (.iload 11, 2) := by decide +kernel
theorem dL_law_859 : decode cL_law 859 = .ok (.invokevirtual 94, 3) := by decide +kernel
theorem dL_law_862 : decode cL_law 862 = .ok (.iload 12, 2) := by decide +kernel
theorem dL_law_864 : decode cL_law 864 = .ok (.if_icmp .ge 51, 3) := by decide +kernel
theorem dL_law_867 : decode cL_law 867 = .ok (.iload 23, 2) := by decide +kernel
theorem dL_law_869 : decode cL_law 869 = .ok (.ifCond .lt 32, 3) := by decide +kernel
theorem dL_law_872 : decode cL_law 872 = .ok (.aload_n 1, 1) := by decide +kernel
theorem dL_law_873 : decode cL_law 873 = .ok (.iload 13, 2) := by decide +kernel
theorem dL_law_875 : decode cL_law 875 = .ok (.invokevirtual 88, 3) := by decide +kernel
theorem dL_law_878 : decode cL_law 878 = .ok (.ifCond .ne 7, 3) := by decide +kernel
theorem dL_law_881 : decode cL_law 881 = .ok (.iconst 1, 1) := by decide +kernel
theorem dL_law_882 : decode cL_law 882 = .ok (.goto 4, 3) := by decide +kernel
theorem dL_law_885 : decode cL_law 885 = .ok (.iconst 0, 1) := by decide +kernel
theorem dL_law_886 : decode cL_law 886 = .ok (.iload 24, 2) := by decide +kernel
theorem dL_law_888 : decode cL_law 888 = .ok (.iload 23, 2) := by decide +kernel
theorem dL_law_890 : decode cL_law 890 = .ok (.if_icmp .lt 7, 3) := by decide +kernel
theorem dL_law_893 : decode cL_law 893 = .ok (.iconst 1, 1) := by decide +kernel
theorem dL_law_894 : decode cL_law 894 = .ok (.goto 4, 3) := by decide +kernel
theorem dL_law_897 : decode cL_law 897 = .ok (.iconst 0, 1) := by decide +kernel
theorem dL_law_898 : decode cL_law 898 = .ok (.if_icmp .ne 17, 3) := by decide +kernel
theorem dL_law_901 : decode cL_law 901 = .ok (.iload 23, 2) := by decide +kernel
theorem dL_law_903 : decode cL_law 903 = .ok (.ifCond .ge 14, 3) := by decide +kernel
theorem dL_law_906 : decode cL_law 906 = .ok (.aload_n 1, 1) := by decide +kernel
theorem dL_law_907 : decode cL_law 907 = .ok (.iload 13, 2) := by decide +kernel
theorem dL_law_909 : decode cL_law 909 = .ok (.invokevirtual 88, 3) := by decide +kernel
theorem dL_law_912 : decode cL_law 912 = .ok (.ifCond .lt 5, 3) := by decide +kernel
theorem dL_law_915 : decode cL_law 915 = .ok (.iconst 0, 1) := by decide +kernel
theorem dL_law_916 : decode cL_law 916 = .ok (.ireturn, 1) := by decide +kernel
theorem dL_law_917 : decode cL_law 917 = .ok (.aload_n 1, 1) := by decide +kernel
theorem dL_law_918 : decode cL_law 918 = .ok (.iconst 1, 1) := by decide +kernel
theorem dL_law_919 : decode cL_law 919 = .ok (.invokevirtual 50, 3) := by decide +kernel
theorem dL_law_922 : decode cL_law 922 = .ok (.aload_n 2, 1) := by decide +kernel
theorem dL_law_923 : decode cL_law 923 = .ok (.iconst 1, 1) := by decide +kernel
theorem dL_law_924 : decode cL_law 924 = .ok (.invokevirtual 53, 3) := by decide +kernel
theorem dL_law_927 : decode cL_law 927 = .ok (.if_icmp .eq 5, 3) := by decide +kernel
theorem dL_law_930 : decode cL_law 930 = .ok (.iconst 0, 1) := by decide +kernel
theorem dL_law_931 : decode cL_law 931 = .ok (.ireturn, 1) := by decide +kernel
theorem dL_law_932 : decode cL_law 932 = .ok (.iinc 24 1, 3) := by decide +kernel
theorem dL_law_935 : decode cL_law 935 = .ok (.goto (-129), 3) := by decide +kernel
theorem dL_law_938 : decode cL_law 938 = .ok (.iinc 3 1, 3) := by decide +kernel
theorem dL_law_941 : decode cL_law 941 = .ok (.goto (-919), 3) := by decide +kernel
theorem dL_law_944 : decode cL_law 944 = .ok (.aload_n 2, 1) := by decide +kernel
theorem dL_law_945 : decode cL_law 945 = .ok (.aload_n 1, 1) := by decide +kernel
theorem dL_law_946 : decode cL_law 946 = .ok (.invokevirtual 142, 3) := by decide +kernel
theorem dL_law_949 : decode cL_law 949 = .ok (.ireturn, 1) := by decide +kernel
