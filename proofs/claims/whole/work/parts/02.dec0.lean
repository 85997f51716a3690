theorem dX0_init_0 : decode cX0_init 0 = .ok (.aload_n 0, 1) := by decide +kernel
theorem dX0_init_1 : decode cX0_init 1 = .ok (.invokespecial 3, 3) := by decide +kernel
theorem dX0_init_4 : decode cX0_init 4 = .ok (.aload_n 0, 1) := by decide +kernel
theorem dX0_init_5 : decode cX0_init 5 = .ok (.iconst (-1), 1) := by decide +kernel
theorem dX0_init_6 : decode cX0_init 6 = .ok (.putfield 9, 3) := by decide +kernel
theorem dX0_init_9 : decode cX0_init 9 = .ok (.aload_n 0, 1) := by decide +kernel
theorem dX0_init_10 : decode cX0_init 10 = .ok (.bipush 60, 2) := by decide +kernel
theorem dX0_init_12 : decode cX0_init 12 = .ok (.newarray .int, 2) := by decide +kernel
theorem dX0_init_14 : decode cX0_init 14 = .ok (.putfield 17, 3) := by decide +kernel
theorem dX0_init_17 : decode cX0_init 17 = .ok (.return_, 1) := by decide +kernel
theorem dX0_place_0 : decode cX0_place 0 = .ok (.aload_n 0, 1) := by decide +kernel
theorem dX0_place_1 : decode cX0_place 1 = .ok (.iconst 1, 1) := by decide +kernel
theorem dX0_place_2 : decode cX0_place 2 = .ok (.putfield 21, 3) := by decide +kernel
theorem dX0_place_5 : decode cX0_place 5 = .ok (.aload_n 0, 1) := by decide +kernel
theorem dX0_place_6 : decode cX0_place 6 = .ok (.iload_n 1, 1) := by decide +kernel
theorem dX0_place_7 : decode cX0_place 7 = .ok (.putfield 25, 3) := by decide +kernel
theorem dX0_place_10 : decode cX0_place 10 = .ok (.aload_n 0, 1) := by decide +kernel
theorem dX0_place_11 : decode cX0_place 11 = .ok (.iload_n 2, 1) := by decide +kernel
theorem dX0_place_12 : decode cX0_place 12 = .ok (.putfield 28, 3) := by decide +kernel
theorem dX0_place_15 : decode cX0_place 15 = .ok (.aload_n 0, 1) := by decide +kernel
theorem dX0_place_16 : decode cX0_place 16 = .ok (.iload_n 3, 1) := by decide +kernel
theorem dX0_place_17 : decode cX0_place 17 = .ok (.putfield 31, 3) := by decide +kernel
theorem dX0_place_20 : decode cX0_place 20 = .ok (.aload_n 0, 1) := by decide +kernel
theorem dX0_place_21 : decode cX0_place 21 = .ok (.iload 4, 2) := by decide +kernel
theorem dX0_place_23 : decode cX0_place 23 = .ok (.putfield 34, 3) := by decide +kernel
theorem dX0_place_26 : decode cX0_place 26 = .ok (.aload_n 0, 1) := by decide +kernel
theorem dX0_place_27 : decode cX0_place 27 = .ok (.iload_n 1, 1) := by decide +kernel
theorem dX0_place_28 : decode cX0_place 28 = .ok (.putfield 37, 3) := by decide +kernel
theorem dX0_place_31 : decode cX0_place 31 = .ok (.aload_n 0, 1) := by decide +kernel
theorem dX0_place_32 : decode cX0_place 32 = .ok (.iconst 0, 1) := by decide +kernel
theorem dX0_place_33 : decode cX0_place 33 = .ok (.putfield 40, 3) := by decide +kernel
theorem dX0_place_36 : decode cX0_place 36 = .ok (.aload_n 0, 1) := by decide +kernel
theorem dX0_place_37 : decode cX0_place 37 = .ok (.iconst (-1), 1) := by decide +kernel
theorem dX0_place_38 : decode cX0_place 38 = .ok (.putfield 9, 3) := by decide +kernel
theorem dX0_place_41 : decode cX0_place 41 = .ok (.aload_n 0, 1) := by decide +kernel
theorem dX0_place_42 : decode cX0_place 42 = .ok (.iload_n 1, 1) := by decide +kernel
theorem dX0_place_43 : decode cX0_place 43 = .ok (.putfield 43, 3) := by decide +kernel
theorem dX0_place_46 : decode cX0_place 46 = .ok (.aload_n 0, 1) := by decide +kernel
theorem dX0_place_47 : decode cX0_place 47 = .ok (.iload_n 1, 1) := by decide +kernel
theorem dX0_place_48 : decode cX0_place 48 = .ok (.putfield 46, 3) := by decide +kernel
theorem dX0_place_51 : decode cX0_place 51 = .ok (.aload_n 0, 1) := by decide +kernel
theorem dX0_place_52 : decode cX0_place 52 = .ok (.iconst 0, 1) := by decide +kernel
theorem dX0_place_53 : decode cX0_place 53 = .ok (.putfield 49, 3) := by decide +kernel
theorem dX0_place_56 : decode cX0_place 56 = .ok (.return_, 1) := by decide +kernel
theorem dX0_fail_0 : decode cX0_fail 0 = .ok (.aload_n 0, 1) := by decide +kernel
theorem dX0_fail_1 : decode cX0_fail 1 = .ok (.iload_n 1, 1) := by decide +kernel
theorem dX0_fail_2 : decode cX0_fail 2 = .ok (.putfield 49, 3) := by decide +kernel
theorem dX0_fail_5 : decode cX0_fail 5 = .ok (.iload_n 1, 1) := by decide +kernel
theorem dX0_fail_6 : decode cX0_fail 6 = .ok (.iconst 1, 1) := by decide +kernel
theorem dX0_fail_7 : decode cX0_fail 7 = .ok (.iand, 1) := by decide +kernel
theorem dX0_fail_8 : decode cX0_fail 8 = .ok (.ifCond .eq 8, 3) := by decide +kernel
theorem dX0_fail_11 : decode cX0_fail 11 = .ok (.aload_n 0, 1) := by decide +kernel
theorem dX0_fail_12 : decode cX0_fail 12 = .ok (.iconst (-1), 1) := by decide +kernel
theorem dX0_fail_13 : decode cX0_fail 13 = .ok (.putfield 9, 3) := by decide +kernel
theorem dX0_fail_16 : decode cX0_fail 16 = .ok (.return_, 1) := by decide +kernel
theorem dX0_tell_0 : decode cX0_tell 0 = .ok (.iload_n 1, 1) := by decide +kernel
theorem dX0_tell_1 : decode cX0_tell 1 = .ok (.ifCond .ne 16, 3) := by decide +kernel
theorem dX0_tell_4 : decode cX0_tell 4 = .ok (.aload_n 0, 1) := by decide +kernel
theorem dX0_tell_5 : decode cX0_tell 5 = .ok (.getfield 21, 3) := by decide +kernel
theorem dX0_tell_8 : decode cX0_tell 8 = .ok (.ifCond .eq 7, 3) := by decide +kernel
theorem dX0_tell_11 : decode cX0_tell 11 = .ok (.iconst 1, 1) := by decide +kernel
theorem dX0_tell_12 : decode cX0_tell 12 = .ok (.goto 4, 3) := by decide +kernel
theorem dX0_tell_15 : decode cX0_tell 15 = .ok (.iconst 0, 1) := by decide +kernel
theorem dX0_tell_16 : decode cX0_tell 16 = .ok (.ireturn, 1) := by decide +kernel
theorem dX0_tell_17 : decode cX0_tell 17 = .ok (.iload_n 1, 1) := by decide +kernel
theorem dX0_tell_18 : decode cX0_tell 18 = .ok (.bipush 7, 2) := by decide +kernel
theorem dX0_tell_20 : decode cX0_tell 20 = .ok (.if_icmp .ne 8, 3) := by decide +kernel
theorem dX0_tell_23 : decode cX0_tell 23 = .ok (.aload_n 0, 1) := by decide +kernel
theorem dX0_tell_24 : decode cX0_tell 24 = .ok (.getfield 52, 3) := by decide +kernel
theorem dX0_tell_27 : decode cX0_tell 27 = .ok (.ireturn, 1) := by decide +kernel
theorem dX0_tell_28 : decode cX0_tell 28 = .ok (.aload_n 0, 1) := by decide +kernel
theorem dX0_tell_29 : decode cX0_tell 29 = .ok (.getfield 21, 3) := by decide +kernel
theorem dX0_tell_32 : decode cX0_tell 32 = .ok (.ifCond .ne 5, 3) := by decide +kernel
theorem dX0_tell_35 : decode cX0_tell 35 = .ok (.iconst (-1), 1) := by decide +kernel
theorem dX0_tell_36 : decode cX0_tell 36 = .ok (.ireturn, 1) := by decide +kernel
theorem dX0_tell_37 : decode cX0_tell 37 = .ok (.iload_n 1, 1) := by decide +kernel
theorem dX0_tell_38 : decode cX0_tell 38 = .ok (.tableswitch 59 1 5 #[34, 39, 44, 49, 54], 34) := by decide +kernel
theorem dX0_tell_72 : decode cX0_tell 72 = .ok (.aload_n 0, 1) := by decide +kernel
theorem dX0_tell_73 : decode cX0_tell 73 = .ok (.getfield 37, 3) := by decide +kernel
theorem dX0_tell_76 : decode cX0_tell 76 = .ok (.ireturn, 1) := by decide +kernel
theorem dX0_tell_77 : decode cX0_tell 77 = .ok (.aload_n 0, 1) := by decide +kernel
theorem dX0_tell_78 : decode cX0_tell 78 = .ok (.getfield 40, 3) := by decide +kernel
theorem dX0_tell_81 : decode cX0_tell 81 = .ok (.ireturn, 1) := by decide +kernel
theorem dX0_tell_82 : decode cX0_tell 82 = .ok (.aload_n 0, 1) := by decide +kernel
theorem dX0_tell_83 : decode cX0_tell 83 = .ok (.getfield 9, 3) := by decide +kernel
theorem dX0_tell_86 : decode cX0_tell 86 = .ok (.ireturn, 1) := by decide +kernel
theorem dX0_tell_87 : decode cX0_tell 87 = .ok (.aload_n 0, 1) := by decide +kernel
theorem dX0_tell_88 : decode cX0_tell 88 = .ok (.getfield 43, 3) := by decide +kernel
theorem dX0_tell_91 : decode cX0_tell 91 = .ok (.ireturn, 1) := by decide +kernel
theorem dX0_tell_92 : decode cX0_tell 92 = .ok (.aload_n 0, 1) := by decide +kernel
theorem dX0_tell_93 : decode cX0_tell 93 = .ok (.getfield 49, 3) := by decide +kernel
theorem dX0_tell_96 : decode cX0_tell 96 = .ok (.ireturn, 1) := by decide +kernel
theorem dX0_tell_97 : decode cX0_tell 97 = .ok (.iconst (-1), 1) := by decide +kernel
theorem dX0_tell_98 : decode cX0_tell 98 = .ok (.ireturn, 1) := by decide +kernel
theorem dX0_move_0 : decode cX0_move 0 = .ok (.aload_n 0, 1) := by decide +kernel
theorem dX0_move_1 : decode cX0_move 1 = .ok (.getfield 9, 3) := by decide +kernel
theorem dX0_move_4 : decode cX0_move 4 = .ok (.iconst (-1), 1) := by decide +kernel
theorem dX0_move_5 : decode cX0_move 5 = .ok (.if_icmp .ne 57, 3) := by decide +kernel
theorem dX0_move_8 : decode cX0_move 8 = .ok (.aload_n 0, 1) := by decide +kernel
theorem dX0_move_9 : decode cX0_move 9 = .ok (.aload_n 0, 1) := by decide +kernel
theorem dX0_move_10 : decode cX0_move 10 = .ok (.getfield 40, 3) := by decide +kernel
theorem dX0_move_13 : decode cX0_move 13 = .ok (.ifCond .le 19, 3) := by decide +kernel
theorem dX0_move_16 : decode cX0_move 16 = .ok (.iconst 0, 1) := by decide +kernel
theorem dX0_move_17 : decode cX0_move 17 = .ok (.aload_n 0, 1) := by decide +kernel
theorem dX0_move_18 : decode cX0_move 18 = .ok (.getfield 40, 3) := by decide +kernel
theorem dX0_move_21 : decode cX0_move 21 = .ok (.aload_n 0, 1) := by decide +kernel
theorem dX0_move_22 : decode cX0_move 22 = .ok (.getfield 34, 3) := by decide +kernel
theorem dX0_move_25 : decode cX0_move 25 = .ok (.isub, 1) := by decide +kernel
theorem dX0_move_26 : decode cX0_move 26 = .ok (.invokestatic 55, 3) := by decide +kernel
theorem dX0_move_29 : decode cX0_move 29 = .ok (.goto 16, 3) := by decide +kernel
theorem dX0_move_32 : decode cX0_move 32 = .ok (.iconst 0, 1) := by decide +kernel
theorem dX0_move_33 : decode cX0_move 33 = .ok (.aload_n 0, 1) := by decide +kernel
theorem dX0_move_34 : decode cX0_move 34 = .ok (.getfield 40, 3) := by decide +kernel
theorem dX0_move_37 : decode cX0_move 37 = .ok (.aload_n 0, 1) := by decide +kernel
theorem dX0_move_38 : decode cX0_move 38 = .ok (.getfield 34, 3) := by decide +kernel
theorem dX0_move_41 : decode cX0_move 41 = .ok (.iadd, 1) := by decide +kernel
theorem dX0_move_42 : decode cX0_move 42 = .ok (.invokestatic 61, 3) := by decide +kernel
theorem dX0_move_45 : decode cX0_move 45 = .ok (.putfield 40, 3) := by decide +kernel
theorem dX0_move_48 : decode cX0_move 48 = .ok (.aload_n 0, 1) := by decide +kernel
theorem dX0_move_49 : decode cX0_move 49 = .ok (.dup, 1) := by decide +kernel
theorem dX0_move_50 : decode cX0_move 50 = .ok (.getfield 37, 3) := by decide +kernel
theorem dX0_move_53 : decode cX0_move 53 = .ok (.aload_n 0, 1) := by decide +kernel
theorem dX0_move_54 : decode cX0_move 54 = .ok (.getfield 40, 3) := by decide +kernel
theorem dX0_move_57 : decode cX0_move 57 = .ok (.iadd, 1) := by decide +kernel
theorem dX0_move_58 : decode cX0_move 58 = .ok (.putfield 37, 3) := by decide +kernel
theorem dX0_move_61 : decode cX0_move 61 = .ok (.return_, 1) := by decide +kernel
theorem dX0_move_62 : decode cX0_move 62 = .ok (.aload_n 0, 1) := by decide +kernel
theorem dX0_move_63 : decode cX0_move 63 = .ok (.getfield 9, 3) := by decide +kernel
theorem dX0_move_66 : decode cX0_move 66 = .ok (.aload_n 0, 1) := by decide +kernel
theorem dX0_move_67 : decode cX0_move 67 = .ok (.getfield 37, 3) := by decide +kernel
theorem dX0_move_70 : decode cX0_move 70 = .ok (.isub, 1) := by decide +kernel
theorem dX0_move_71 : decode cX0_move 71 = .ok (.istore_n 1, 1) := by decide +kernel
theorem dX0_move_72 : decode cX0_move 72 = .ok (.iload_n 1, 1) := by decide +kernel
theorem dX0_move_73 : decode cX0_move 73 = .ok (.ifCond .gt 14, 3) := by decide +kernel
theorem dX0_move_76 : decode cX0_move 76 = .ok (.iload_n 1, 1) := by decide +kernel
theorem dX0_move_77 : decode cX0_move 77 = .ok (.ifCond .ne 14, 3) := by decide +kernel
theorem dX0_move_80 : decode cX0_move 80 = .ok (.aload_n 0, 1) := by decide +kernel
theorem dX0_move_81 : decode cX0_move 81 = .ok (.getfield 40, 3) := by decide +kernel
theorem dX0_move_84 : decode cX0_move 84 = .ok (.ifCond .le 7, 3) := by decide +kernel
theorem dX0_move_87 : decode cX0_move 87 = .ok (.iconst 1, 1) := by decide +kernel
theorem dX0_move_88 : decode cX0_move 88 = .ok (.goto 4, 3) := by decide +kernel
theorem dX0_move_91 : decode cX0_move 91 = .ok (.iconst 0, 1) := by decide +kernel
theorem dX0_move_92 : decode cX0_move 92 = .ok (.istore_n 2, 1) := by decide +kernel
theorem dX0_move_93 : decode cX0_move 93 = .ok (.iload_n 2, 1) := by decide +kernel
theorem dX0_move_94 : decode cX0_move 94 = .ok (.ifCond .eq 10, 3) := by decide +kernel
theorem dX0_move_97 : decode cX0_move 97 = .ok (.aload_n 0, 1) := by decide +kernel
theorem dX0_move_98 : decode cX0_move 98 = .ok (.getfield 40, 3) := by decide +kernel
theorem dX0_move_101 : decode cX0_move 101 = .ok (.goto 8, 3) := by decide +kernel
theorem dX0_move_104 : decode cX0_move 104 = .ok (.aload_n 0, 1) := by decide +kernel
theorem dX0_move_105 : decode cX0_move 105 = .ok (.getfield 40, 3) := by decide +kernel
theorem dX0_move_108 : decode cX0_move 108 = .ok (.ineg, 1) := by decide +kernel
theorem dX0_move_109 : decode cX0_move 109 = .ok (.istore_n 3, 1) := by decide +kernel
theorem dX0_move_110 : decode cX0_move 110 = .ok (.iload_n 3, 1) := by decide +kernel
theorem dX0_move_111 : decode cX0_move 111 = .ok (.ifCond .ge 16, 3) := by decide +kernel
theorem dX0_move_114 : decode cX0_move 114 = .ok (.iconst 0, 1) := by decide +kernel
theorem dX0_move_115 : decode cX0_move 115 = .ok (.iload_n 3, 1) := by decide +kernel
theorem dX0_move_116 : decode cX0_move 116 = .ok (.aload_n 0, 1) := by decide +kernel
theorem dX0_move_117 : decode cX0_move 117 = .ok (.getfield 34, 3) := by decide +kernel
theorem dX0_move_120 : decode cX0_move 120 = .ok (.iadd, 1) := by decide +kernel
theorem dX0_move_121 : decode cX0_move 121 = .ok (.invokestatic 61, 3) := by decide +kernel
theorem dX0_move_124 : decode cX0_move 124 = .ok (.goto 12, 3) := by decide +kernel
theorem dX0_move_127 : decode cX0_move 127 = .ok (.aload_n 0, 1) := by decide +kernel
theorem dX0_move_128 : decode cX0_move 128 = .ok (.iload_n 3, 1) := by decide +kernel
theorem dX0_move_129 : decode cX0_move 129 = .ok (.iload_n 1, 1) := by decide +kernel
theorem dX0_move_130 : decode cX0_move 130 = .ok (.invokestatic 64, 3) := by decide +kernel
theorem dX0_move_133 : decode cX0_move 133 = .ok (.invokevirtual 68, 3) := by decide +kernel
theorem dX0_move_136 : decode cX0_move 136 = .ok (.istore 4, 2) := by decide +kernel
theorem dX0_move_138 : decode cX0_move 138 = .ok (.aload_n 0, 1) := by decide +kernel
theorem dX0_move_139 : decode cX0_move 139 = .ok (.iload_n 2, 1) := by decide +kernel
theorem dX0_move_140 : decode cX0_move 140 = .ok (.ifCond .eq 8, 3) := by decide +kernel
theorem dX0_move_143 : decode cX0_move 143 = .ok (.iload 4, 2) := by decide +kernel
theorem dX0_move_145 : decode cX0_move 145 = .ok (.goto 6, 3) := by decide +kernel
theorem dX0_move_148 : decode cX0_move 148 = .ok (.iload 4, 2) := by decide +kernel
theorem dX0_move_150 : decode cX0_move 150 = .ok (.ineg, 1) := by decide +kernel
theorem dX0_move_151 : decode cX0_move 151 = .ok (.putfield 40, 3) := by decide +kernel
theorem dX0_move_154 : decode cX0_move 154 = .ok (.aload_n 0, 1) := by decide +kernel
theorem dX0_move_155 : decode cX0_move 155 = .ok (.dup, 1) := by decide +kernel
theorem dX0_move_156 : decode cX0_move 156 = .ok (.getfield 37, 3) := by decide +kernel
theorem dX0_move_159 : decode cX0_move 159 = .ok (.aload_n 0, 1) := by decide +kernel
theorem dX0_move_160 : decode cX0_move 160 = .ok (.getfield 40, 3) := by decide +kernel
theorem dX0_move_163 : decode cX0_move 163 = .ok (.iadd, 1) := by decide +kernel
theorem dX0_move_164 : decode cX0_move 164 = .ok (.putfield 37, 3) := by decide +kernel
theorem dX0_move_167 : decode cX0_move 167 = .ok (.aload_n 0, 1) := by decide +kernel
theorem dX0_move_168 : decode cX0_move 168 = .ok (.getfield 37, 3) := by decide +kernel
theorem dX0_move_171 : decode cX0_move 171 = .ok (.aload_n 0, 1) := by decide +kernel
theorem dX0_move_172 : decode cX0_move 172 = .ok (.getfield 9, 3) := by decide +kernel
theorem dX0_move_175 : decode cX0_move 175 = .ok (.if_icmp .ne 15, 3) := by decide +kernel
theorem dX0_move_178 : decode cX0_move 178 = .ok (.aload_n 0, 1) := by decide +kernel
theorem dX0_move_179 : decode cX0_move 179 = .ok (.getfield 40, 3) := by decide +kernel
theorem dX0_move_182 : decode cX0_move 182 = .ok (.ifCond .ne 8, 3) := by decide +kernel
theorem dX0_move_185 : decode cX0_move 185 = .ok (.aload_n 0, 1) := by decide +kernel
theorem dX0_move_186 : decode cX0_move 186 = .ok (.iconst (-1), 1) := by decide +kernel
theorem dX0_move_187 : decode cX0_move 187 = .ok (.putfield 9, 3) := by decide +kernel
theorem dX0_move_190 : decode cX0_move 190 = .ok (.return_, 1) := by decide +kernel
theorem dX0_paceFor_0 : decode cX0_paceFor 0 = .ok (.aload_n 0, 1) := by decide +kernel
theorem dX0_paceFor_1 : decode cX0_paceFor 1 = .ok (.getfield 49, 3) := by decide +kernel
theorem dX0_paceFor_4 : decode cX0_paceFor 4 = .ok (.iconst 4, 1) := by decide +kernel
theorem dX0_paceFor_5 : decode cX0_paceFor 5 = .ok (.iand, 1) := by decide +kernel
theorem dX0_paceFor_6 : decode cX0_paceFor 6 = .ok (.ifCond .eq 16, 3) := by decide +kernel
theorem dX0_paceFor_9 : decode cX0_paceFor 9 = .ok (.iconst 1, 1) := by decide +kernel
theorem dX0_paceFor_10 : decode cX0_paceFor 10 = .ok (.aload_n 0, 1) := by decide +kernel
theorem dX0_paceFor_11 : decode cX0_paceFor 11 = .ok (.getfield 31, 3) := by decide +kernel
theorem dX0_paceFor_14 : decode cX0_paceFor 14 = .ok (.iconst 2, 1) := by decide +kernel
theorem dX0_paceFor_15 : decode cX0_paceFor 15 = .ok (.idiv, 1) := by decide +kernel
theorem dX0_paceFor_16 : decode cX0_paceFor 16 = .ok (.invokestatic 55, 3) := by decide +kernel
theorem dX0_paceFor_19 : decode cX0_paceFor 19 = .ok (.goto 7, 3) := by decide +kernel
theorem dX0_paceFor_22 : decode cX0_paceFor 22 = .ok (.aload_n 0, 1) := by decide +kernel
theorem dX0_paceFor_23 : decode cX0_paceFor 23 = .ok (.getfield 31, 3) := by decide +kernel
theorem dX0_paceFor_26 : decode cX0_paceFor 26 = .ok (.istore_n 3, 1) := by decide +kernel
theorem dX0_paceFor_27 : decode cX0_paceFor 27 = .ok (.iconst 0, 1) := by decide +kernel
theorem dX0_paceFor_28 : decode cX0_paceFor 28 = .ok (.iload_n 1, 1) := by decide +kernel
theorem dX0_paceFor_29 : decode cX0_paceFor 29 = .ok (.aload_n 0, 1) := by decide +kernel
theorem dX0_paceFor_30 : decode cX0_paceFor 30 = .ok (.getfield 34, 3) := by decide +kernel
theorem dX0_paceFor_33 : decode cX0_paceFor 33 = .ok (.isub, 1) := by decide +kernel
theorem dX0_paceFor_34 : decode cX0_paceFor 34 = .ok (.invokestatic 55, 3) := by decide +kernel
theorem dX0_paceFor_37 : decode cX0_paceFor 37 = .ok (.istore 4, 2) := by decide +kernel
theorem dX0_paceFor_39 : decode cX0_paceFor 39 = .ok (.iload_n 1, 1) := by decide +kernel
theorem dX0_paceFor_40 : decode cX0_paceFor 40 = .ok (.aload_n 0, 1) := by decide +kernel
theorem dX0_paceFor_41 : decode cX0_paceFor 41 = .ok (.getfield 34, 3) := by decide +kernel
theorem dX0_paceFor_44 : decode cX0_paceFor 44 = .ok (.iadd, 1) := by decide +kernel
theorem dX0_paceFor_45 : decode cX0_paceFor 45 = .ok (.iload_n 3, 1) := by decide +kernel
theorem dX0_paceFor_46 : decode cX0_paceFor 46 = .ok (.invokestatic 61, 3) := by decide +kernel
theorem dX0_paceFor_49 : decode cX0_paceFor 49 = .ok (.istore 5, 2) := by decide +kernel
theorem dX0_paceFor_51 : decode cX0_paceFor 51 = .ok (.iload 5, 2) := by decide +kernel
theorem dX0_paceFor_53 : decode cX0_paceFor 53 = .ok (.iload 4, 2) := by decide +kernel
theorem dX0_paceFor_55 : decode cX0_paceFor 55 = .ok (.if_icmp .le 13, 3) := by decide +kernel
theorem dX0_paceFor_58 : decode cX0_paceFor 58 = .ok (.aload_n 0, 1) := by decide +kernel
theorem dX0_paceFor_59 : decode cX0_paceFor 59 = .ok (.iload 4, 2) := by decide +kernel
theorem dX0_paceFor_61 : decode cX0_paceFor 61 = .ok (.iload_n 2, 1) := by decide +kernel
theorem dX0_paceFor_62 : decode cX0_paceFor 62 = .ok (.invokevirtual 71, 3) := by decide +kernel
theorem dX0_paceFor_65 : decode cX0_paceFor 65 = .ok (.ifCond .ne 6, 3) := by decide +kernel
theorem dX0_paceFor_68 : decode cX0_paceFor 68 = .ok (.iload 4, 2) := by decide +kernel
theorem dX0_paceFor_70 : decode cX0_paceFor 70 = .ok (.ireturn, 1) := by decide +kernel
theorem dX0_paceFor_71 : decode cX0_paceFor 71 = .ok (.iconst 0, 1) := by decide +kernel
theorem dX0_paceFor_72 : decode cX0_paceFor 72 = .ok (.istore 6, 2) := by decide +kernel
theorem dX0_paceFor_74 : decode cX0_paceFor 74 = .ok (.iload 6, 2) := by decide +kernel
theorem dX0_paceFor_76 : decode cX0_paceFor 76 = .ok (.bipush 12, 2) := by decide +kernel
theorem dX0_paceFor_78 : decode cX0_paceFor 78 = .ok (.if_icmp .ge 50, 3) := by decide +kernel
theorem dX0_paceFor_81 : decode cX0_paceFor 81 = .ok (.iload 4, 2) := by decide +kernel
theorem dX0_paceFor_83 : decode cX0_paceFor 83 = .ok (.iload 5, 2) := by decide +kernel
theorem dX0_paceFor_85 : decode cX0_paceFor 85 = .ok (.if_icmp .ge 43, 3) := by decide +kernel
theorem dX0_paceFor_88 : decode cX0_paceFor 88 = .ok (.iload 4, 2) := by decide +kernel
theorem dX0_paceFor_90 : decode cX0_paceFor 90 = .ok (.iload 5, 2) := by decide +kernel
theorem dX0_paceFor_92 : decode cX0_paceFor 92 = .ok (.iadd, 1) := by decide +kernel
theorem dX0_paceFor_93 : decode cX0_paceFor 93 = .ok (.iconst 1, 1) := by decide +kernel
theorem dX0_paceFor_94 : decode cX0_paceFor 94 = .ok (.iadd, 1) := by decide +kernel
theorem dX0_paceFor_95 : decode cX0_paceFor 95 = .ok (.iconst 2, 1) := by decide +kernel
theorem dX0_paceFor_96 : decode cX0_paceFor 96 = .ok (.idiv, 1) := by decide +kernel
theorem dX0_paceFor_97 : decode cX0_paceFor 97 = .ok (.istore 7, 2) := by decide +kernel
theorem dX0_paceFor_99 : decode cX0_paceFor 99 = .ok (.aload_n 0, 1) := by decide +kernel
theorem dX0_paceFor_100 : decode cX0_paceFor 100 = .ok (.iload 7, 2) := by decide +kernel
theorem dX0_paceFor_102 : decode cX0_paceFor 102 = .ok (.iload_n 2, 1) := by decide +kernel
theorem dX0_paceFor_103 : decode cX0_paceFor 103 = .ok (.invokevirtual 71, 3) := by decide +kernel
theorem dX0_paceFor_106 : decode cX0_paceFor 106 = .ok (.ifCond .eq 10, 3) := by decide +kernel
theorem dX0_paceFor_109 : decode cX0_paceFor 109 = .ok (.iload 7, 2) := by decide +kernel
theorem dX0_paceFor_111 : decode cX0_paceFor 111 = .ok (.istore 4, 2) := by decide +kernel
theorem dX0_paceFor_113 : decode cX0_paceFor 113 = .ok (.goto 9, 3) := by decide +kernel
theorem dX0_paceFor_116 : decode cX0_paceFor 116 = .ok (.iload 7, 2) := by decide +kernel
theorem dX0_paceFor_118 : decode cX0_paceFor 118 = .ok (.iconst 1, 1) := by decide +kernel
theorem dX0_paceFor_119 : decode cX0_paceFor 119 = .ok (.isub, 1) := by decide +kernel
theorem dX0_paceFor_120 : decode cX0_paceFor 120 = .ok (.istore 5, 2) := by decide +kernel
theorem dX0_paceFor_122 : decode cX0_paceFor 122 = .ok (.iinc 6 1, 3) := by decide +kernel
theorem dX0_paceFor_125 : decode cX0_paceFor 125 = .ok (.goto (-51), 3) := by decide +kernel
theorem dX0_paceFor_128 : decode cX0_paceFor 128 = .ok (.iload 4, 2) := by decide +kernel
theorem dX0_paceFor_130 : decode cX0_paceFor 130 = .ok (.ireturn, 1) := by decide +kernel
theorem dX0_restsWithin_0 : decode cX0_restsWithin 0 = .ok (.iload_n 1, 1) := by decide +kernel
theorem dX0_restsWithin_1 : decode cX0_restsWithin 1 = .ok (.ifCond .le 21, 3) := by decide +kernel
theorem dX0_restsWithin_4 : decode cX0_restsWithin 4 = .ok (.aload_n 0, 1) := by decide +kernel
theorem dX0_restsWithin_5 : decode cX0_restsWithin 5 = .ok (.getfield 34, 3) := by decide +kernel
theorem dX0_restsWithin_8 : decode cX0_restsWithin 8 = .ok (.ifCond .le 14, 3) := by decide +kernel
theorem dX0_restsWithin_11 : decode cX0_restsWithin 11 = .ok (.iload_n 1, 1) := by decide +kernel
theorem dX0_restsWithin_12 : decode cX0_restsWithin 12 = .ok (.iconst 1, 1) := by decide +kernel
theorem dX0_restsWithin_13 : decode cX0_restsWithin 13 = .ok (.isub, 1) := by decide +kernel
theorem dX0_restsWithin_14 : decode cX0_restsWithin 14 = .ok (.aload_n 0, 1) := by decide +kernel
theorem dX0_restsWithin_15 : decode cX0_restsWithin 15 = .ok (.getfield 34, 3) := by decide +kernel
theorem dX0_restsWithin_18 : decode cX0_restsWithin 18 = .ok (.idiv, 1) := by decide +kernel
theorem dX0_restsWithin_19 : decode cX0_restsWithin 19 = .ok (.goto 4, 3) := by decide +kernel
theorem dX0_restsWithin_22 : decode cX0_restsWithin 22 = .ok (.iconst 0, 1) := by decide +kernel
theorem dX0_restsWithin_23 : decode cX0_restsWithin 23 = .ok (.istore_n 3, 1) := by decide +kernel
theorem dX0_restsWithin_24 : decode cX0_restsWithin 24 = .ok (.iload_n 1, 1) := by decide +kernel
theorem dX0_restsWithin_25 : decode cX0_restsWithin 25 = .ok (.iload_n 3, 1) := by decide +kernel
theorem dX0_restsWithin_26 : decode cX0_restsWithin 26 = .ok (.iload_n 1, 1) := by decide +kernel
theorem dX0_restsWithin_27 : decode cX0_restsWithin 27 = .ok (.imul, 1) := by decide +kernel
theorem dX0_restsWithin_28 : decode cX0_restsWithin 28 = .ok (.iadd, 1) := by decide +kernel
theorem dX0_restsWithin_29 : decode cX0_restsWithin 29 = .ok (.aload_n 0, 1) := by decide +kernel
theorem dX0_restsWithin_30 : decode cX0_restsWithin 30 = .ok (.getfield 34, 3) := by decide +kernel
theorem dX0_restsWithin_33 : decode cX0_restsWithin 33 = .ok (.iload_n 3, 1) := by decide +kernel
theorem dX0_restsWithin_34 : decode cX0_restsWithin 34 = .ok (.imul, 1) := by decide +kernel
theorem dX0_restsWithin_35 : decode cX0_restsWithin 35 = .ok (.iload_n 3, 1) := by decide +kernel
theorem dX0_restsWithin_36 : decode cX0_restsWithin 36 = .ok (.iconst 1, 1) := by decide +kernel
theorem dX0_restsWithin_37 : decode cX0_restsWithin 37 = .ok (.iadd, 1) := by decide +kernel
theorem dX0_restsWithin_38 : decode cX0_restsWithin 38 = .ok (.imul, 1) := by decide +kernel
theorem dX0_restsWithin_39 : decode cX0_restsWithin 39 = .ok (.iconst 2, 1) := by decide +kernel
theorem dX0_restsWithin_40 : decode cX0_restsWithin 40 = .ok (.idiv, 1) := by decide +kernel
theorem dX0_restsWithin_41 : decode cX0_restsWithin 41 = .ok (.isub, 1) := by decide +kernel
theorem dX0_restsWithin_42 : decode cX0_restsWithin 42 = .ok (.iload_n 2, 1) := by decide +kernel
theorem dX0_restsWithin_43 : decode cX0_restsWithin 43 = .ok (.if_icmp .gt 7, 3) := by decide +kernel
theorem dX0_restsWithin_46 : decode cX0_restsWithin 46 = .ok (.iconst 1, 1) := by decide +kernel
theorem dX0_restsWithin_47 : decode cX0_restsWithin 47 = .ok (.goto 4, 3) := by decide +kernel
theorem dX0_restsWithin_50 : decode cX0_restsWithin 50 = .ok (.iconst 0, 1) := by decide +kernel
theorem dX0_restsWithin_51 : decode cX0_restsWithin 51 = .ok (.ireturn, 1) := by decide +kernel
theorem dX0_look_0 : decode cX0_look 0 = .ok (.aload_n 0, 1) := by decide +kernel
theorem dX0_look_1 : decode cX0_look 1 = .ok (.aload_n 0, 1) := by decide +kernel
theorem dX0_look_2 : decode cX0_look 2 = .ok (.getfield 43, 3) := by decide +kernel
theorem dX0_look_5 : decode cX0_look 5 = .ok (.putfield 46, 3) := by decide +kernel
theorem dX0_look_8 : decode cX0_look 8 = .ok (.aload_n 0, 1) := by decide +kernel
theorem dX0_look_9 : decode cX0_look 9 = .ok (.getfield 49, 3) := by decide +kernel
theorem dX0_look_12 : decode cX0_look 12 = .ok (.iconst 2, 1) := by decide +kernel
theorem dX0_look_13 : decode cX0_look 13 = .ok (.iand, 1) := by decide +kernel
theorem dX0_look_14 : decode cX0_look 14 = .ok (.ifCond .ne 11, 3) := by decide +kernel
theorem dX0_look_17 : decode cX0_look 17 = .ok (.aload_n 0, 1) := by decide +kernel
theorem dX0_look_18 : decode cX0_look 18 = .ok (.aload_n 0, 1) := by decide +kernel
theorem dX0_look_19 : decode cX0_look 19 = .ok (.getfield 37, 3) := by decide +kernel
theorem dX0_look_22 : decode cX0_look 22 = .ok (.putfield 43, 3) := by decide +kernel
theorem dX0_look_25 : decode cX0_look 25 = .ok (.return_, 1) := by decide +kernel
theorem dX1_init_0 : decode cX1_init 0 = .ok (.aload_n 0, 1) := by decide +kernel
theorem dX1_init_1 : decode cX1_init 1 = .ok (.invokespecial 3, 3) := by decide +kernel
theorem dX1_init_4 : decode cX1_init 4 = .ok (.aload_n 0, 1) := by decide +kernel
theorem dX1_init_5 : decode cX1_init 5 = .ok (.iconst 4, 1) := by decide +kernel
theorem dX1_init_6 : decode cX1_init 6 = .ok (.anewarray 9, 3) := by decide +kernel
theorem dX1_init_9 : decode cX1_init 9 = .ok (.putfield 11, 3) := by decide +kernel
theorem dX1_init_12 : decode cX1_init 12 = .ok (.aload_n 0, 1) := by decide +kernel
theorem dX1_init_13 : decode cX1_init 13 = .ok (.bipush 64, 2) := by decide +kernel
theorem dX1_init_15 : decode cX1_init 15 = .ok (.newarray .int, 2) := by decide +kernel
theorem dX1_init_17 : decode cX1_init 17 = .ok (.putfield 17, 3) := by decide +kernel
theorem dX1_init_20 : decode cX1_init 20 = .ok (.aload_n 0, 1) := by decide +kernel
theorem dX1_init_21 : decode cX1_init 21 = .ok (.bipush 64, 2) := by decide +kernel
theorem dX1_init_23 : decode cX1_init 23 = .ok (.newarray .int, 2) := by decide +kernel
theorem dX1_init_25 : decode cX1_init 25 = .ok (.putfield 21, 3) := by decide +kernel
theorem dX1_init_28 : decode cX1_init 28 = .ok (.aload_n 0, 1) := by decide +kernel
theorem dX1_init_29 : decode cX1_init 29 = .ok (.sipush 128, 3) := by decide +kernel
theorem dX1_init_32 : decode cX1_init 32 = .ok (.newarray .int, 2) := by decide +kernel
theorem dX1_init_34 : decode cX1_init 34 = .ok (.putfield 24, 3) := by decide +kernel
theorem dX1_init_37 : decode cX1_init 37 = .ok (.aload_n 0, 1) := by decide +kernel
theorem dX1_init_38 : decode cX1_init 38 = .ok (.sipush 128, 3) := by decide +kernel
theorem dX1_init_41 : decode cX1_init 41 = .ok (.newarray .int, 2) := by decide +kernel
theorem dX1_init_43 : decode cX1_init 43 = .ok (.putfield 27, 3) := by decide +kernel
theorem dX1_init_46 : decode cX1_init 46 = .ok (.aload_n 0, 1) := by decide +kernel
theorem dX1_init_47 : decode cX1_init 47 = .ok (.new 30, 3) := by decide +kernel
theorem dX1_init_50 : decode cX1_init 50 = .ok (.dup, 1) := by decide +kernel
theorem dX1_init_51 : decode cX1_init 51 = .ok (.invokespecial 32, 3) := by decide +kernel
theorem dX1_init_54 : decode cX1_init 54 = .ok (.putfield 33, 3) := by decide +kernel
theorem dX1_init_57 : decode cX1_init 57 = .ok (.aload_n 0, 1) := by decide +kernel
theorem dX1_init_58 : decode cX1_init 58 = .ok (.sipush 255, 3) := by decide +kernel
theorem dX1_init_61 : decode cX1_init 61 = .ok (.putfield 37, 3) := by decide +kernel
theorem dX1_init_64 : decode cX1_init 64 = .ok (.aload_n 0, 1) := by decide +kernel
theorem dX1_init_65 : decode cX1_init 65 = .ok (.aload_n 1, 1) := by decide +kernel
theorem dX1_init_66 : decode cX1_init 66 = .ok (.putfield 41, 3) := by decide +kernel
theorem dX1_init_69 : decode cX1_init 69 = .ok (.iconst 0, 1) := by decide +kernel
theorem dX1_init_70 : decode cX1_init 70 = .ok (.istore_n 2, 1) := by decide +kernel
theorem dX1_init_71 : decode cX1_init 71 = .ok (.iload_n 2, 1) := by decide +kernel
theorem dX1_init_72 : decode cX1_init 72 = .ok (.iconst 4, 1) := by decide +kernel
theorem dX1_init_73 : decode cX1_init 73 = .ok (.if_icmp .ge 22, 3) := by decide +kernel
theorem dX1_init_76 : decode cX1_init 76 = .ok (.aload_n 0, 1) := by decide +kernel
theorem dX1_init_77 : decode cX1_init 77 = .ok (.getfield 11, 3) := by decide +kernel
theorem dX1_init_80 : decode cX1_init 80 = .ok (.iload_n 2, 1) := by decide +kernel
theorem dX1_init_81 : decode cX1_init 81 = .ok (.new 9, 3) := by decide +kernel
theorem dX1_init_84 : decode cX1_init 84 = .ok (.dup, 1) := by decide +kernel
theorem dX1_init_85 : decode cX1_init 85 = .ok (.invokespecial 45, 3) := by decide +kernel
theorem dX1_init_88 : decode cX1_init 88 = .ok (.aastore, 1) := by decide +kernel
theorem dX1_init_89 : decode cX1_init 89 = .ok (.iinc 2 1, 3) := by decide +kernel
theorem dX1_init_92 : decode cX1_init 92 = .ok (.goto (-21), 3) := by decide +kernel
theorem dX1_init_95 : decode cX1_init 95 = .ok (.aload_n 0, 1) := by decide +kernel
theorem dX1_init_96 : decode cX1_init 96 = .ok (.getfield 17, 3) := by decide +kernel
theorem dX1_init_99 : decode cX1_init 99 = .ok (.iconst (-1), 1) := by decide +kernel
theorem dX1_init_100 : decode cX1_init 100 = .ok (.invokestatic 46, 3) := by decide +kernel
theorem dX1_init_103 : decode cX1_init 103 = .ok (.return_, 1) := by decide +kernel
theorem dX1_adopt_0 : decode cX1_adopt 0 = .ok (.aload_n 0, 1) := by decide +kernel
theorem dX1_adopt_1 : decode cX1_adopt 1 = .ok (.getfield 11, 3) := by decide +kernel
theorem dX1_adopt_4 : decode cX1_adopt 4 = .ok (.iload_n 1, 1) := by decide +kernel
theorem dX1_adopt_5 : decode cX1_adopt 5 = .ok (.aaload, 1) := by decide +kernel
theorem dX1_adopt_6 : decode cX1_adopt 6 = .ok (.astore_n 2, 1) := by decide +kernel
theorem dX1_adopt_7 : decode cX1_adopt 7 = .ok (.aload_n 2, 1) := by decide +kernel
theorem dX1_adopt_8 : decode cX1_adopt 8 = .ok (.getfield 52, 3) := by decide +kernel
theorem dX1_adopt_11 : decode cX1_adopt 11 = .ok (.astore_n 3, 1) := by decide +kernel
theorem dX1_adopt_12 : decode cX1_adopt 12 = .ok (.aload_n 2, 1) := by decide +kernel
theorem dX1_adopt_13 : decode cX1_adopt 13 = .ok (.aload_n 0, 1) := by decide +kernel
theorem dX1_adopt_14 : decode cX1_adopt 14 = .ok (.getfield 33, 3) := by decide +kernel
theorem dX1_adopt_17 : decode cX1_adopt 17 = .ok (.putfield 52, 3) := by decide +kernel
theorem dX1_adopt_20 : decode cX1_adopt 20 = .ok (.aload_n 0, 1) := by decide +kernel
theorem dX1_adopt_21 : decode cX1_adopt 21 = .ok (.aload_n 3, 1) := by decide +kernel
theorem dX1_adopt_22 : decode cX1_adopt 22 = .ok (.putfield 33, 3) := by decide +kernel
theorem dX1_adopt_25 : decode cX1_adopt 25 = .ok (.aload_n 2, 1) := by decide +kernel
theorem dX1_adopt_26 : decode cX1_adopt 26 = .ok (.invokevirtual 55, 3) := by decide +kernel
theorem dX1_adopt_29 : decode cX1_adopt 29 = .ok (.iconst 0, 1) := by decide +kernel
theorem dX1_adopt_30 : decode cX1_adopt 30 = .ok (.istore 4, 2) := by decide +kernel
theorem dX1_adopt_32 : decode cX1_adopt 32 = .ok (.iload 4, 2) := by decide +kernel
theorem dX1_adopt_34 : decode cX1_adopt 34 = .ok (.bipush 64, 2) := by decide +kernel
theorem dX1_adopt_36 : decode cX1_adopt 36 = .ok (.if_icmp .ge 28, 3) := by decide +kernel
theorem dX1_adopt_39 : decode cX1_adopt 39 = .ok (.aload_n 0, 1) := by decide +kernel
theorem dX1_adopt_40 : decode cX1_adopt 40 = .ok (.getfield 17, 3) := by decide +kernel
theorem dX1_adopt_43 : decode cX1_adopt 43 = .ok (.iload 4, 2) := by decide +kernel
theorem dX1_adopt_45 : decode cX1_adopt 45 = .ok (.iaload, 1) := by decide +kernel
theorem dX1_adopt_46 : decode cX1_adopt 46 = .ok (.iload_n 1, 1) := by decide +kernel
theorem dX1_adopt_47 : decode cX1_adopt 47 = .ok (.if_icmp .ne 11, 3) := by decide +kernel
theorem dX1_adopt_50 : decode cX1_adopt 50 = .ok (.aload_n 0, 1) := by decide +kernel
theorem dX1_adopt_51 : decode cX1_adopt 51 = .ok (.getfield 17, 3) := by decide +kernel
theorem dX1_adopt_54 : decode cX1_adopt 54 = .ok (.iload 4, 2) := by decide +kernel
theorem dX1_adopt_56 : decode cX1_adopt 56 = .ok (.iconst (-1), 1) := by decide +kernel
theorem dX1_adopt_57 : decode cX1_adopt 57 = .ok (.iastore, 1) := by decide +kernel
theorem dX1_adopt_58 : decode cX1_adopt 58 = .ok (.iinc 4 1, 3) := by decide +kernel
theorem dX1_adopt_61 : decode cX1_adopt 61 = .ok (.goto (-29), 3) := by decide +kernel
theorem dX1_adopt_64 : decode cX1_adopt 64 = .ok (.return_, 1) := by decide +kernel
theorem dX1_start_0 : decode cX1_start 0 = .ok (.aload_n 0, 1) := by decide +kernel
theorem dX1_start_1 : decode cX1_start 1 = .ok (.getfield 11, 3) := by decide +kernel
theorem dX1_start_4 : decode cX1_start 4 = .ok (.iload_n 1, 1) := by decide +kernel
theorem dX1_start_5 : decode cX1_start 5 = .ok (.aaload, 1) := by decide +kernel
theorem dX1_start_6 : decode cX1_start 6 = .ok (.astore 4, 2) := by decide +kernel
theorem dX1_start_8 : decode cX1_start 8 = .ok (.iload_n 2, 1) := by decide +kernel
theorem dX1_start_9 : decode cX1_start 9 = .ok (.ifCond .lt 15, 3) := by decide +kernel
theorem dX1_start_12 : decode cX1_start 12 = .ok (.iload_n 2, 1) := by decide +kernel
theorem dX1_start_13 : decode cX1_start 13 = .ok (.aload 4, 2) := by decide +kernel
theorem dX1_start_15 : decode cX1_start 15 = .ok (.getfield 52, 3) := by decide +kernel
theorem dX1_start_18 : decode cX1_start 18 = .ok (.getfield 58, 3) := by decide +kernel
theorem dX1_start_21 : decode cX1_start 21 = .ok (.if_icmp .lt 4, 3) := by decide +kernel
theorem dX1_start_24 : decode cX1_start 24 = .ok (.return_, 1) := by decide +kernel
theorem dX1_start_25 : decode cX1_start 25 = .ok (.aload 4, 2) := by decide +kernel
theorem dX1_start_27 : decode cX1_start 27 = .ok (.getfield 52, 3) := by decide +kernel
theorem dX1_start_30 : decode cX1_start 30 = .ok (.getfield 61, 3) := by decide +kernel
theorem dX1_start_33 : decode cX1_start 33 = .ok (.iload_n 2, 1) := by decide +kernel
theorem dX1_start_34 : decode cX1_start 34 = .ok (.iaload, 1) := by decide +kernel
theorem dX1_start_35 : decode cX1_start 35 = .ok (.istore 5, 2) := by decide +kernel
theorem dX1_start_37 : decode cX1_start 37 = .ok (.aload 4, 2) := by decide +kernel
theorem dX1_start_39 : decode cX1_start 39 = .ok (.iload_n 2, 1) := by decide +kernel
theorem dX1_start_40 : decode cX1_start 40 = .ok (.iload_n 3, 1) := by decide +kernel
theorem dX1_start_41 : decode cX1_start 41 = .ok (.iload 5, 2) := by decide +kernel
theorem dX1_start_43 : decode cX1_start 43 = .ok (.iadd, 1) := by decide +kernel
theorem dX1_start_44 : decode cX1_start 44 = .ok (.invokevirtual 64, 3) := by decide +kernel
theorem dX1_start_47 : decode cX1_start 47 = .ok (.iload 5, 2) := by decide +kernel
theorem dX1_start_49 : decode cX1_start 49 = .ok (.ifCond .ne 9, 3) := by decide +kernel
theorem dX1_start_52 : decode cX1_start 52 = .ok (.aload_n 0, 1) := by decide +kernel
theorem dX1_start_53 : decode cX1_start 53 = .ok (.iload_n 1, 1) := by decide +kernel
theorem dX1_start_54 : decode cX1_start 54 = .ok (.iload_n 3, 1) := by decide +kernel
theorem dX1_start_55 : decode cX1_start 55 = .ok (.invokevirtual 68, 3) := by decide +kernel
theorem dX1_start_58 : decode cX1_start 58 = .ok (.return_, 1) := by decide +kernel
theorem dX1_step_0 : decode cX1_step 0 = .ok (.aload_n 0, 1) := by decide +kernel
theorem dX1_step_1 : decode cX1_step 1 = .ok (.getfield 11, 3) := by decide +kernel
theorem dX1_step_4 : decode cX1_step 4 = .ok (.iload_n 1, 1) := by decide +kernel
theorem dX1_step_5 : decode cX1_step 5 = .ok (.aaload, 1) := by decide +kernel
theorem dX1_step_6 : decode cX1_step 6 = .ok (.astore_n 3, 1) := by decide +kernel
theorem dX1_step_7 : decode cX1_step 7 = .ok (.aload_n 3, 1) := by decide +kernel
theorem dX1_step_8 : decode cX1_step 8 = .ok (.getfield 71, 3) := by decide +kernel
theorem dX1_step_11 : decode cX1_step 11 = .ok (.ifCond .eq 20, 3) := by decide +kernel
theorem dX1_step_14 : decode cX1_step 14 = .ok (.aload_n 3, 1) := by decide +kernel
theorem dX1_step_15 : decode cX1_step 15 = .ok (.getfield 75, 3) := by decide +kernel
theorem dX1_step_18 : decode cX1_step 18 = .ok (.iload_n 2, 1) := by decide +kernel
theorem dX1_step_19 : decode cX1_step 19 = .ok (.if_icmp .gt 43, 3) := by decide +kernel
theorem dX1_step_22 : decode cX1_step 22 = .ok (.aload_n 0, 1) := by decide +kernel
theorem dX1_step_23 : decode cX1_step 23 = .ok (.iload_n 1, 1) := by decide +kernel
theorem dX1_step_24 : decode cX1_step 24 = .ok (.iload_n 2, 1) := by decide +kernel
theorem dX1_step_25 : decode cX1_step 25 = .ok (.invokevirtual 68, 3) := by decide +kernel
theorem dX1_step_28 : decode cX1_step 28 = .ok (.goto 34, 3) := by decide +kernel
theorem dX1_step_31 : decode cX1_step 31 = .ok (.aload_n 3, 1) := by decide +kernel
theorem dX1_step_32 : decode cX1_step 32 = .ok (.getfield 78, 3) := by decide +kernel
theorem dX1_step_35 : decode cX1_step 35 = .ok (.iconst (-1), 1) := by decide +kernel
theorem dX1_step_36 : decode cX1_step 36 = .ok (.if_icmp .eq 26, 3) := by decide +kernel
theorem dX1_step_39 : decode cX1_step 39 = .ok (.aload_n 3, 1) := by decide +kernel
theorem dX1_step_40 : decode cX1_step 40 = .ok (.getfield 78, 3) := by decide +kernel
theorem dX1_step_43 : decode cX1_step 43 = .ok (.iload_n 2, 1) := by decide +kernel
theorem dX1_step_44 : decode cX1_step 44 = .ok (.if_icmp .gt 18, 3) := by decide +kernel
theorem dX1_step_47 : decode cX1_step 47 = .ok (.aload_n 3, 1) := by decide +kernel
theorem dX1_step_48 : decode cX1_step 48 = .ok (.iconst (-1), 1) := by decide +kernel
theorem dX1_step_49 : decode cX1_step 49 = .ok (.putfield 78, 3) := by decide +kernel
theorem dX1_step_52 : decode cX1_step 52 = .ok (.aload_n 0, 1) := by decide +kernel
theorem dX1_step_53 : decode cX1_step 53 = .ok (.iload_n 1, 1) := by decide +kernel
theorem dX1_step_54 : decode cX1_step 54 = .ok (.aload_n 3, 1) := by decide +kernel
theorem dX1_step_55 : decode cX1_step 55 = .ok (.invokevirtual 81, 3) := by decide +kernel
theorem dX1_step_58 : decode cX1_step 58 = .ok (.iload_n 2, 1) := by decide +kernel
theorem dX1_step_59 : decode cX1_step 59 = .ok (.invokevirtual 85, 3) := by decide +kernel
theorem dX1_step_62 : decode cX1_step 62 = .ok (.return_, 1) := by decide +kernel
theorem dX1_begin_0 : decode cX1_begin 0 = .ok (.aload_n 0, 1) := by decide +kernel
theorem dX1_begin_1 : decode cX1_begin 1 = .ok (.getfield 11, 3) := by decide +kernel
theorem dX1_begin_4 : decode cX1_begin 4 = .ok (.iload_n 1, 1) := by decide +kernel
theorem dX1_begin_5 : decode cX1_begin 5 = .ok (.aaload, 1) := by decide +kernel
theorem dX1_begin_6 : decode cX1_begin 6 = .ok (.astore_n 3, 1) := by decide +kernel
theorem dX1_begin_7 : decode cX1_begin 7 = .ok (.aload_n 3, 1) := by decide +kernel
theorem dX1_begin_8 : decode cX1_begin 8 = .ok (.getfield 52, 3) := by decide +kernel
theorem dX1_begin_11 : decode cX1_begin 11 = .ok (.astore 4, 2) := by decide +kernel
theorem dX1_begin_13 : decode cX1_begin 13 = .ok (.aload_n 3, 1) := by decide +kernel
theorem dX1_begin_14 : decode cX1_begin 14 = .ok (.getfield 89, 3) := by decide +kernel
theorem dX1_begin_17 : decode cX1_begin 17 = .ok (.istore 5, 2) := by decide +kernel
theorem dX1_begin_19 : decode cX1_begin 19 = .ok (.iload 5, 2) := by decide +kernel
theorem dX1_begin_21 : decode cX1_begin 21 = .ok (.ifCond .lt 13, 3) := by decide +kernel
theorem dX1_begin_24 : decode cX1_begin 24 = .ok (.iload 5, 2) := by decide +kernel
theorem dX1_begin_26 : decode cX1_begin 26 = .ok (.aload 4, 2) := by decide +kernel
theorem dX1_begin_28 : decode cX1_begin 28 = .ok (.getfield 58, 3) := by decide +kernel
theorem dX1_begin_31 : decode cX1_begin 31 = .ok (.if_icmp .lt 4, 3) := by decide +kernel
theorem dX1_begin_34 : decode cX1_begin 34 = .ok (.return_, 1) := by decide +kernel
theorem dX1_begin_35 : decode cX1_begin 35 = .ok (.aload_n 3, 1) := by decide +kernel
theorem dX1_begin_36 : decode cX1_begin 36 = .ok (.iconst 0, 1) := by decide +kernel
theorem dX1_begin_37 : decode cX1_begin 37 = .ok (.putfield 71, 3) := by decide +kernel
theorem dX1_begin_40 : decode cX1_begin 40 = .ok (.aload_n 3, 1) := by decide +kernel
theorem dX1_begin_41 : decode cX1_begin 41 = .ok (.aload 4, 2) := by decide +kernel
theorem dX1_begin_43 : decode cX1_begin 43 = .ok (.getfield 92, 3) := by decide +kernel
theorem dX1_begin_46 : decode cX1_begin 46 = .ok (.iload 5, 2) := by decide +kernel
theorem dX1_begin_48 : decode cX1_begin 48 = .ok (.iaload, 1) := by decide +kernel
theorem dX1_begin_49 : decode cX1_begin 49 = .ok (.ifCond .le 16, 3) := by decide +kernel
theorem dX1_begin_52 : decode cX1_begin 52 = .ok (.iload_n 2, 1) := by decide +kernel
theorem dX1_begin_53 : decode cX1_begin 53 = .ok (.aload 4, 2) := by decide +kernel
theorem dX1_begin_55 : decode cX1_begin 55 = .ok (.getfield 92, 3) := by decide +kernel
theorem dX1_begin_58 : decode cX1_begin 58 = .ok (.iload 5, 2) := by decide +kernel
theorem dX1_begin_60 : decode cX1_begin 60 = .ok (.iaload, 1) := by decide +kernel
theorem dX1_begin_61 : decode cX1_begin 61 = .ok (.iadd, 1) := by decide +kernel
theorem dX1_begin_62 : decode cX1_begin 62 = .ok (.goto 4, 3) := by decide +kernel
theorem dX1_begin_65 : decode cX1_begin 65 = .ok (.iconst (-1), 1) := by decide +kernel
theorem dX1_begin_66 : decode cX1_begin 66 = .ok (.putfield 78, 3) := by decide +kernel
theorem dX1_begin_69 : decode cX1_begin 69 = .ok (.aload 4, 2) := by decide +kernel
theorem dX1_begin_71 : decode cX1_begin 71 = .ok (.iload 5, 2) := by decide +kernel
theorem dX1_begin_73 : decode cX1_begin 73 = .ok (.aload_n 0, 1) := by decide +kernel
theorem dX1_begin_74 : decode cX1_begin 74 = .ok (.getfield 21, 3) := by decide +kernel
theorem dX1_begin_77 : decode cX1_begin 77 = .ok (.invokevirtual 95, 3) := by decide +kernel
theorem dX1_begin_80 : decode cX1_begin 80 = .ok (.iconst 0, 1) := by decide +kernel
theorem dX1_begin_81 : decode cX1_begin 81 = .ok (.istore 6, 2) := by decide +kernel
theorem dX1_begin_83 : decode cX1_begin 83 = .ok (.iload 6, 2) := by decide +kernel
theorem dX1_begin_85 : decode cX1_begin 85 = .ok (.bipush 64, 2) := by decide +kernel
theorem dX1_begin_87 : decode cX1_begin 87 = .ok (.if_icmp .ge 48, 3) := by decide +kernel
theorem dX1_begin_90 : decode cX1_begin 90 = .ok (.aload_n 0, 1) := by decide +kernel
theorem dX1_begin_91 : decode cX1_begin 91 = .ok (.getfield 21, 3) := by decide +kernel
theorem dX1_begin_94 : decode cX1_begin 94 = .ok (.iload 6, 2) := by decide +kernel
theorem dX1_begin_96 : decode cX1_begin 96 = .ok (.iaload, 1) := by decide +kernel
theorem dX1_begin_97 : decode cX1_begin 97 = .ok (.aload_n 3, 1) := by decide +kernel
theorem dX1_begin_98 : decode cX1_begin 98 = .ok (.getfield 99, 3) := by decide +kernel
theorem dX1_begin_101 : decode cX1_begin 101 = .ok (.iload 6, 2) := by decide +kernel
theorem dX1_begin_103 : decode cX1_begin 103 = .ok (.iaload, 1) := by decide +kernel
theorem dX1_begin_104 : decode cX1_begin 104 = .ok (.if_icmp .eq 25, 3) := by decide +kernel
theorem dX1_begin_107 : decode cX1_begin 107 = .ok (.aload_n 3, 1) := by decide +kernel
theorem dX1_begin_108 : decode cX1_begin 108 = .ok (.iload 6, 2) := by decide +kernel
theorem dX1_begin_110 : decode cX1_begin 110 = .ok (.aload_n 0, 1) := by decide +kernel
theorem dX1_begin_111 : decode cX1_begin 111 = .ok (.getfield 21, 3) := by decide +kernel
theorem dX1_begin_114 : decode cX1_begin 114 = .ok (.iload 6, 2) := by decide +kernel
theorem dX1_begin_116 : decode cX1_begin 116 = .ok (.iaload, 1) := by decide +kernel
theorem dX1_begin_117 : decode cX1_begin 117 = .ok (.iload_n 2, 1) := by decide +kernel
theorem dX1_begin_118 : decode cX1_begin 118 = .ok (.invokevirtual 102, 3) := by decide +kernel
theorem dX1_begin_121 : decode cX1_begin 121 = .ok (.aload_n 0, 1) := by decide +kernel
theorem dX1_begin_122 : decode cX1_begin 122 = .ok (.getfield 17, 3) := by decide +kernel
theorem dX1_begin_125 : decode cX1_begin 125 = .ok (.iload 6, 2) := by decide +kernel
theorem dX1_begin_127 : decode cX1_begin 127 = .ok (.iload_n 1, 1) := by decide +kernel
theorem dX1_begin_128 : decode cX1_begin 128 = .ok (.iastore, 1) := by decide +kernel
theorem dX1_begin_129 : decode cX1_begin 129 = .ok (.iinc 6 1, 3) := by decide +kernel
theorem dX1_begin_132 : decode cX1_begin 132 = .ok (.goto (-49), 3) := by decide +kernel
theorem dX1_begin_135 : decode cX1_begin 135 = .ok (.aload 4, 2) := by decide +kernel
theorem dX1_begin_137 : decode cX1_begin 137 = .ok (.getfield 105, 3) := by decide +kernel
theorem dX1_begin_140 : decode cX1_begin 140 = .ok (.iload 5, 2) := by decide +kernel
theorem dX1_begin_142 : decode cX1_begin 142 = .ok (.iaload, 1) := by decide +kernel
theorem dX1_begin_143 : decode cX1_begin 143 = .ok (.istore 6, 2) := by decide +kernel
theorem dX1_begin_145 : decode cX1_begin 145 = .ok (.iload 6, 2) := by decide +kernel
theorem dX1_begin_147 : decode cX1_begin 147 = .ok (.aload 4, 2) := by decide +kernel
theorem dX1_begin_149 : decode cX1_begin 149 = .ok (.getfield 105, 3) := by decide +kernel
theorem dX1_begin_152 : decode cX1_begin 152 = .ok (.iload 5, 2) := by decide +kernel
theorem dX1_begin_154 : decode cX1_begin 154 = .ok (.iconst 1, 1) := by decide +kernel
theorem dX1_begin_155 : decode cX1_begin 155 = .ok (.iadd, 1) := by decide +kernel
theorem dX1_begin_156 : decode cX1_begin 156 = .ok (.iaload, 1) := by decide +kernel
theorem dX1_begin_157 : decode cX1_begin 157 = .ok (.if_icmp .ge 18, 3) := by decide +kernel
theorem dX1_begin_160 : decode cX1_begin 160 = .ok (.aload_n 0, 1) := by decide +kernel
theorem dX1_begin_161 : decode cX1_begin 161 = .ok (.aload 4, 2) := by decide +kernel
theorem dX1_begin_163 : decode cX1_begin 163 = .ok (.iload 6, 2) := by decide +kernel
theorem dX1_begin_165 : decode cX1_begin 165 = .ok (.iload_n 2, 1) := by decide +kernel
theorem dX1_begin_166 : decode cX1_begin 166 = .ok (.invokevirtual 108, 3) := by decide +kernel
theorem dX1_begin_169 : decode cX1_begin 169 = .ok (.iinc 6 1, 3) := by decide +kernel
theorem dX1_begin_172 : decode cX1_begin 172 = .ok (.goto (-27), 3) := by decide +kernel
theorem dX1_begin_175 : decode cX1_begin 175 = .ok (.return_, 1) := by decide +kernel
theorem dX1_runAct_0 : decode cX1_runAct 0 = .ok (.aload_n 1, 1) := by decide +kernel
theorem dX1_runAct_1 : decode cX1_runAct 1 = .ok (.getfield 112, 3) := by decide +kernel
theorem dX1_runAct_4 : decode cX1_runAct 4 = .ok (.iload_n 2, 1) := by decide +kernel
theorem dX1_runAct_5 : decode cX1_runAct 5 = .ok (.iaload, 1) := by decide +kernel
theorem dX1_runAct_6 : decode cX1_runAct 6 = .ok (.istore 4, 2) := by decide +kernel
theorem dX1_runAct_8 : decode cX1_runAct 8 = .ok (.aload_n 1, 1) := by decide +kernel
theorem dX1_runAct_9 : decode cX1_runAct 9 = .ok (.getfield 115, 3) := by decide +kernel
theorem dX1_runAct_12 : decode cX1_runAct 12 = .ok (.iload_n 2, 1) := by decide +kernel
theorem dX1_runAct_13 : decode cX1_runAct 13 = .ok (.iaload, 1) := by decide +kernel
theorem dX1_runAct_14 : decode cX1_runAct 14 = .ok (.istore 5, 2) := by decide +kernel
theorem dX1_runAct_16 : decode cX1_runAct 16 = .ok (.aload_n 1, 1) := by decide +kernel
theorem dX1_runAct_17 : decode cX1_runAct 17 = .ok (.getfield 118, 3) := by decide +kernel
theorem dX1_runAct_20 : decode cX1_runAct 20 = .ok (.iload_n 2, 1) := by decide +kernel
theorem dX1_runAct_21 : decode cX1_runAct 21 = .ok (.iaload, 1) := by decide +kernel
theorem dX1_runAct_22 : decode cX1_runAct 22 = .ok (.tableswitch 111 1 5 #[34, 49, 66, 80, 96], 34) := by decide +kernel
theorem dX1_runAct_56 : decode cX1_runAct 56 = .ok (.aload_n 0, 1) := by decide +kernel
theorem dX1_runAct_57 : decode cX1_runAct 57 = .ok (.getfield 41, 3) := by decide +kernel
theorem dX1_runAct_60 : decode cX1_runAct 60 = .ok (.iload 4, 2) := by decide +kernel
theorem dX1_runAct_62 : decode cX1_runAct 62 = .ok (.iload 5, 2) := by decide +kernel
theorem dX1_runAct_64 : decode cX1_runAct 64 = .ok (.invokevirtual 121, 3) := by decide +kernel
theorem dX1_runAct_67 : decode cX1_runAct 67 = .ok (.pop, 1) := by decide +kernel
theorem dX1_runAct_68 : decode cX1_runAct 68 = .ok (.goto 65, 3) := by decide +kernel
theorem dX1_runAct_71 : decode cX1_runAct 71 = .ok (.aload_n 0, 1) := by decide +kernel
theorem dX1_runAct_72 : decode cX1_runAct 72 = .ok (.getfield 41, 3) := by decide +kernel
theorem dX1_runAct_75 : decode cX1_runAct 75 = .ok (.getfield 127, 3) := by decide +kernel
theorem dX1_runAct_78 : decode cX1_runAct 78 = .ok (.iload 4, 2) := by decide +kernel
theorem dX1_runAct_80 : decode cX1_runAct 80 = .ok (.aaload, 1) := by decide +kernel
theorem dX1_runAct_81 : decode cX1_runAct 81 = .ok (.iconst (-1), 1) := by decide +kernel
theorem dX1_runAct_82 : decode cX1_runAct 82 = .ok (.putfield 131, 3) := by decide +kernel
theorem dX1_runAct_85 : decode cX1_runAct 85 = .ok (.goto 48, 3) := by decide +kernel
theorem dX1_runAct_88 : decode cX1_runAct 88 = .ok (.aload_n 0, 1) := by decide +kernel
theorem dX1_runAct_89 : decode cX1_runAct 89 = .ok (.getfield 41, 3) := by decide +kernel
theorem dX1_runAct_92 : decode cX1_runAct 92 = .ok (.getfield 136, 3) := by decide +kernel
theorem dX1_runAct_95 : decode cX1_runAct 95 = .ok (.iload 4, 2) := by decide +kernel
theorem dX1_runAct_97 : decode cX1_runAct 97 = .ok (.iconst 1, 1) := by decide +kernel
theorem dX1_runAct_98 : decode cX1_runAct 98 = .ok (.bastore, 1) := by decide +kernel
theorem dX1_runAct_99 : decode cX1_runAct 99 = .ok (.goto 34, 3) := by decide +kernel
theorem dX1_runAct_102 : decode cX1_runAct 102 = .ok (.aload_n 0, 1) := by decide +kernel
theorem dX1_runAct_103 : decode cX1_runAct 103 = .ok (.getfield 11, 3) := by decide +kernel
theorem dX1_runAct_106 : decode cX1_runAct 106 = .ok (.iload 4, 2) := by decide +kernel
theorem dX1_runAct_108 : decode cX1_runAct 108 = .ok (.aaload, 1) := by decide +kernel
theorem dX1_runAct_109 : decode cX1_runAct 109 = .ok (.iload 5, 2) := by decide +kernel
theorem dX1_runAct_111 : decode cX1_runAct 111 = .ok (.iload_n 3, 1) := by decide +kernel
theorem dX1_runAct_112 : decode cX1_runAct 112 = .ok (.invokestatic 140, 3) := by decide +kernel
theorem dX1_runAct_115 : decode cX1_runAct 115 = .ok (.goto 18, 3) := by decide +kernel
theorem dX1_runAct_118 : decode cX1_runAct 118 = .ok (.aload_n 0, 1) := by decide +kernel
theorem dX1_runAct_119 : decode cX1_runAct 119 = .ok (.getfield 11, 3) := by decide +kernel
theorem dX1_runAct_122 : decode cX1_runAct 122 = .ok (.iload 4, 2) := by decide +kernel
theorem dX1_runAct_124 : decode cX1_runAct 124 = .ok (.aaload, 1) := by decide +kernel
theorem dX1_runAct_125 : decode cX1_runAct 125 = .ok (.iload 5, 2) := by decide +kernel
theorem dX1_runAct_127 : decode cX1_runAct 127 = .ok (.putfield 144, 3) := by decide +kernel
theorem dX1_runAct_130 : decode cX1_runAct 130 = .ok (.goto 3, 3) := by decide +kernel
theorem dX1_runAct_133 : decode cX1_runAct 133 = .ok (.return_, 1) := by decide +kernel
theorem dX1_callCue_0 : decode cX1_callCue 0 = .ok (.aload_n 0, 1) := by decide +kernel
theorem dX1_callCue_1 : decode cX1_callCue 1 = .ok (.getfield 52, 3) := by decide +kernel
theorem dX1_callCue_4 : decode cX1_callCue 4 = .ok (.iload_n 1, 1) := by decide +kernel
theorem dX1_callCue_5 : decode cX1_callCue 5 = .ok (.invokevirtual 147, 3) := by decide +kernel
theorem dX1_callCue_8 : decode cX1_callCue 8 = .ok (.istore_n 3, 1) := by decide +kernel
theorem dX1_callCue_9 : decode cX1_callCue 9 = .ok (.iload_n 3, 1) := by decide +kernel
theorem dX1_callCue_10 : decode cX1_callCue 10 = .ok (.ifCond .lt 23, 3) := by decide +kernel
theorem dX1_callCue_13 : decode cX1_callCue 13 = .ok (.aload_n 0, 1) := by decide +kernel
theorem dX1_callCue_14 : decode cX1_callCue 14 = .ok (.iload_n 3, 1) := by decide +kernel
theorem dX1_callCue_15 : decode cX1_callCue 15 = .ok (.iload_n 2, 1) := by decide +kernel
theorem dX1_callCue_16 : decode cX1_callCue 16 = .ok (.iconst 1, 1) := by decide +kernel
theorem dX1_callCue_17 : decode cX1_callCue 17 = .ok (.aload_n 0, 1) := by decide +kernel
theorem dX1_callCue_18 : decode cX1_callCue 18 = .ok (.getfield 52, 3) := by decide +kernel
theorem dX1_callCue_21 : decode cX1_callCue 21 = .ok (.getfield 61, 3) := by decide +kernel
theorem dX1_callCue_24 : decode cX1_callCue 24 = .ok (.iload_n 3, 1) := by decide +kernel
theorem dX1_callCue_25 : decode cX1_callCue 25 = .ok (.iaload, 1) := by decide +kernel
theorem dX1_callCue_26 : decode cX1_callCue 26 = .ok (.invokestatic 151, 3) := by decide +kernel
theorem dX1_callCue_29 : decode cX1_callCue 29 = .ok (.iadd, 1) := by decide +kernel
theorem dX1_callCue_30 : decode cX1_callCue 30 = .ok (.invokevirtual 64, 3) := by decide +kernel
theorem dX1_callCue_33 : decode cX1_callCue 33 = .ok (.return_, 1) := by decide +kernel
theorem dX1_mixed_0 : decode cX1_mixed 0 = .ok (.iload_n 1, 1) := by decide +kernel
theorem dX1_mixed_1 : decode cX1_mixed 1 = .ok (.bipush 48, 2) := by decide +kernel
theorem dX1_mixed_3 : decode cX1_mixed 3 = .ok (.if_icmp .lt 30, 3) := by decide +kernel
theorem dX1_mixed_6 : decode cX1_mixed 6 = .ok (.aload_n 0, 1) := by decide +kernel
theorem dX1_mixed_7 : decode cX1_mixed 7 = .ok (.getfield 17, 3) := by decide +kernel
theorem dX1_mixed_10 : decode cX1_mixed 10 = .ok (.iload_n 1, 1) := by decide +kernel
theorem dX1_mixed_11 : decode cX1_mixed 11 = .ok (.iaload, 1) := by decide +kernel
theorem dX1_mixed_12 : decode cX1_mixed 12 = .ok (.istore_n 3, 1) := by decide +kernel
theorem dX1_mixed_13 : decode cX1_mixed 13 = .ok (.iload_n 3, 1) := by decide +kernel
theorem dX1_mixed_14 : decode cX1_mixed 14 = .ok (.ifCond .ge 7, 3) := by decide +kernel
theorem dX1_mixed_17 : decode cX1_mixed 17 = .ok (.iconst 0, 1) := by decide +kernel
theorem dX1_mixed_18 : decode cX1_mixed 18 = .ok (.goto 14, 3) := by decide +kernel
theorem dX1_mixed_21 : decode cX1_mixed 21 = .ok (.aload_n 0, 1) := by decide +kernel
theorem dX1_mixed_22 : decode cX1_mixed 22 = .ok (.getfield 11, 3) := by decide +kernel
theorem dX1_mixed_25 : decode cX1_mixed 25 = .ok (.iload_n 3, 1) := by decide +kernel
theorem dX1_mixed_26 : decode cX1_mixed 26 = .ok (.aaload, 1) := by decide +kernel
theorem dX1_mixed_27 : decode cX1_mixed 27 = .ok (.iload_n 1, 1) := by decide +kernel
theorem dX1_mixed_28 : decode cX1_mixed 28 = .ok (.iload_n 2, 1) := by decide +kernel
theorem dX1_mixed_29 : decode cX1_mixed 29 = .ok (.invokevirtual 157, 3) := by decide +kernel
theorem dX1_mixed_32 : decode cX1_mixed 32 = .ok (.ireturn, 1) := by decide +kernel
theorem dX1_mixed_33 : decode cX1_mixed 33 = .ok (.iconst 0, 1) := by decide +kernel
theorem dX1_mixed_34 : decode cX1_mixed 34 = .ok (.istore_n 3, 1) := by decide +kernel
theorem dX1_mixed_35 : decode cX1_mixed 35 = .ok (.iconst 0, 1) := by decide +kernel
theorem dX1_mixed_36 : decode cX1_mixed 36 = .ok (.istore 4, 2) := by decide +kernel
theorem dX1_mixed_38 : decode cX1_mixed 38 = .ok (.iload 4, 2) := by decide +kernel
theorem dX1_mixed_40 : decode cX1_mixed 40 = .ok (.iconst 4, 1) := by decide +kernel
theorem dX1_mixed_41 : decode cX1_mixed 41 = .ok (.if_icmp .ge 39, 3) := by decide +kernel
theorem dX1_mixed_44 : decode cX1_mixed 44 = .ok (.iload_n 3, 1) := by decide +kernel
theorem dX1_mixed_45 : decode cX1_mixed 45 = .ok (.aload_n 0, 1) := by decide +kernel
theorem dX1_mixed_46 : decode cX1_mixed 46 = .ok (.getfield 11, 3) := by decide +kernel
theorem dX1_mixed_49 : decode cX1_mixed 49 = .ok (.iload 4, 2) := by decide +kernel
theorem dX1_mixed_51 : decode cX1_mixed 51 = .ok (.aaload, 1) := by decide +kernel
theorem dX1_mixed_52 : decode cX1_mixed 52 = .ok (.iload_n 1, 1) := by decide +kernel
theorem dX1_mixed_53 : decode cX1_mixed 53 = .ok (.iload_n 2, 1) := by decide +kernel
theorem dX1_mixed_54 : decode cX1_mixed 54 = .ok (.invokevirtual 157, 3) := by decide +kernel
theorem dX1_mixed_57 : decode cX1_mixed 57 = .ok (.aload_n 0, 1) := by decide +kernel
theorem dX1_mixed_58 : decode cX1_mixed 58 = .ok (.getfield 11, 3) := by decide +kernel
theorem dX1_mixed_61 : decode cX1_mixed 61 = .ok (.iload 4, 2) := by decide +kernel
theorem dX1_mixed_63 : decode cX1_mixed 63 = .ok (.aaload, 1) := by decide +kernel
theorem dX1_mixed_64 : decode cX1_mixed 64 = .ok (.getfield 144, 3) := by decide +kernel
theorem dX1_mixed_67 : decode cX1_mixed 67 = .ok (.invokestatic 160, 3) := by decide +kernel
theorem dX1_mixed_70 : decode cX1_mixed 70 = .ok (.invokestatic 151, 3) := by decide +kernel
theorem dX1_mixed_73 : decode cX1_mixed 73 = .ok (.istore_n 3, 1) := by decide +kernel
theorem dX1_mixed_74 : decode cX1_mixed 74 = .ok (.iinc 4 1, 3) := by decide +kernel
theorem dX1_mixed_77 : decode cX1_mixed 77 = .ok (.goto (-39), 3) := by decide +kernel
theorem dX1_mixed_80 : decode cX1_mixed 80 = .ok (.iload_n 3, 1) := by decide +kernel
theorem dX1_mixed_81 : decode cX1_mixed 81 = .ok (.ireturn, 1) := by decide +kernel
theorem dX1_sent_0 : decode cX1_sent 0 = .ok (.aload_n 0, 1) := by decide +kernel
theorem dX1_sent_1 : decode cX1_sent 1 = .ok (.getfield 24, 3) := by decide +kernel
theorem dX1_sent_4 : decode cX1_sent 4 = .ok (.iload_n 1, 1) := by decide +kernel
theorem dX1_sent_5 : decode cX1_sent 5 = .ok (.iaload, 1) := by decide +kernel
theorem dX1_sent_6 : decode cX1_sent 6 = .ok (.ifCond .ne 5, 3) := by decide +kernel
theorem dX1_sent_9 : decode cX1_sent 9 = .ok (.iconst 0, 1) := by decide +kernel
theorem dX1_sent_10 : decode cX1_sent 10 = .ok (.ireturn, 1) := by decide +kernel
theorem dX1_sent_11 : decode cX1_sent 11 = .ok (.aload_n 0, 1) := by decide +kernel
theorem dX1_sent_12 : decode cX1_sent 12 = .ok (.aload_n 0, 1) := by decide +kernel
theorem dX1_sent_13 : decode cX1_sent 13 = .ok (.getfield 24, 3) := by decide +kernel
theorem dX1_sent_16 : decode cX1_sent 16 = .ok (.iload_n 1, 1) := by decide +kernel
theorem dX1_sent_17 : decode cX1_sent 17 = .ok (.iaload, 1) := by decide +kernel
theorem dX1_sent_18 : decode cX1_sent 18 = .ok (.iconst 1, 1) := by decide +kernel
theorem dX1_sent_19 : decode cX1_sent 19 = .ok (.isub, 1) := by decide +kernel
theorem dX1_sent_20 : decode cX1_sent 20 = .ok (.iload_n 2, 1) := by decide +kernel
theorem dX1_sent_21 : decode cX1_sent 21 = .ok (.invokevirtual 163, 3) := by decide +kernel
theorem dX1_sent_24 : decode cX1_sent 24 = .ok (.istore_n 3, 1) := by decide +kernel
theorem dX1_sent_25 : decode cX1_sent 25 = .ok (.aload_n 0, 1) := by decide +kernel
theorem dX1_sent_26 : decode cX1_sent 26 = .ok (.getfield 27, 3) := by decide +kernel
theorem dX1_sent_29 : decode cX1_sent 29 = .ok (.iload_n 1, 1) := by decide +kernel
theorem dX1_sent_30 : decode cX1_sent 30 = .ok (.iaload, 1) := by decide +kernel
theorem dX1_sent_31 : decode cX1_sent 31 = .ok (.tableswitch 61 1 3 #[25, 34, 52], 25) := by decide +kernel
theorem dX1_sent_56 : decode cX1_sent 56 = .ok (.iload_n 3, 1) := by decide +kernel
theorem dX1_sent_57 : decode cX1_sent 57 = .ok (.iload_n 3, 1) := by decide +kernel
theorem dX1_sent_58 : decode cX1_sent 58 = .ok (.invokestatic 160, 3) := by decide +kernel
theorem dX1_sent_61 : decode cX1_sent 61 = .ok (.istore_n 3, 1) := by decide +kernel
theorem dX1_sent_62 : decode cX1_sent 62 = .ok (.goto 30, 3) := by decide +kernel
theorem dX1_sent_65 : decode cX1_sent 65 = .ok (.iload_n 3, 1) := by decide +kernel
theorem dX1_sent_66 : decode cX1_sent 66 = .ok (.sipush 128, 3) := by decide +kernel
theorem dX1_sent_69 : decode cX1_sent 69 = .ok (.if_icmp .lt 9, 3) := by decide +kernel
theorem dX1_sent_72 : decode cX1_sent 72 = .ok (.sipush 255, 3) := by decide +kernel
theorem dX1_sent_75 : decode cX1_sent 75 = .ok (.goto 4, 3) := by decide +kernel
theorem dX1_sent_78 : decode cX1_sent 78 = .ok (.iconst 0, 1) := by decide +kernel
theorem dX1_sent_79 : decode cX1_sent 79 = .ok (.istore_n 3, 1) := by decide +kernel
theorem dX1_sent_80 : decode cX1_sent 80 = .ok (.goto 12, 3) := by decide +kernel
theorem dX1_sent_83 : decode cX1_sent 83 = .ok (.sipush 255, 3) := by decide +kernel
theorem dX1_sent_86 : decode cX1_sent 86 = .ok (.iload_n 3, 1) := by decide +kernel
theorem dX1_sent_87 : decode cX1_sent 87 = .ok (.isub, 1) := by decide +kernel
theorem dX1_sent_88 : decode cX1_sent 88 = .ok (.istore_n 3, 1) := by decide +kernel
theorem dX1_sent_89 : decode cX1_sent 89 = .ok (.goto 3, 3) := by decide +kernel
theorem dX1_sent_92 : decode cX1_sent 92 = .ok (.iload_n 3, 1) := by decide +kernel
theorem dX1_sent_93 : decode cX1_sent 93 = .ok (.aload_n 0, 1) := by decide +kernel
theorem dX1_sent_94 : decode cX1_sent 94 = .ok (.getfield 37, 3) := by decide +kernel
theorem dX1_sent_97 : decode cX1_sent 97 = .ok (.invokestatic 160, 3) := by decide +kernel
theorem dX1_sent_100 : decode cX1_sent 100 = .ok (.ireturn, 1) := by decide +kernel
theorem dX1_scaled_0 : decode cX1_scaled 0 = .ok (.iconst 2, 1) := by decide +kernel
theorem dX1_scaled_1 : decode cX1_scaled 1 = .ok (.iload_n 0, 1) := by decide +kernel
theorem dX1_scaled_2 : decode cX1_scaled 2 = .ok (.imul, 1) := by decide +kernel
theorem dX1_scaled_3 : decode cX1_scaled 3 = .ok (.iload_n 1, 1) := by decide +kernel
theorem dX1_scaled_4 : decode cX1_scaled 4 = .ok (.imul, 1) := by decide +kernel
theorem dX1_scaled_5 : decode cX1_scaled 5 = .ok (.sipush 255, 3) := by decide +kernel
theorem dX1_scaled_8 : decode cX1_scaled 8 = .ok (.iadd, 1) := by decide +kernel
theorem dX1_scaled_9 : decode cX1_scaled 9 = .ok (.sipush 510, 3) := by decide +kernel
theorem dX1_scaled_12 : decode cX1_scaled 12 = .ok (.idiv, 1) := by decide +kernel
theorem dX1_scaled_13 : decode cX1_scaled 13 = .ok (.ireturn, 1) := by decide +kernel
theorem dX2_init_0 : decode cX2_init 0 = .ok (.aload_n 0, 1) := by decide +kernel
theorem dX2_init_1 : decode cX2_init 1 = .ok (.invokespecial 3, 3) := by decide +kernel
theorem dX2_init_4 : decode cX2_init 4 = .ok (.aload_n 0, 1) := by decide +kernel
theorem dX2_init_5 : decode cX2_init 5 = .ok (.bipush 60, 2) := by decide +kernel
theorem dX2_init_7 : decode cX2_init 7 = .ok (.newarray .int, 2) := by decide +kernel
theorem dX2_init_9 : decode cX2_init 9 = .ok (.putfield 11, 3) := by decide +kernel
theorem dX2_init_12 : decode cX2_init 12 = .ok (.aload_n 0, 1) := by decide +kernel
theorem dX2_init_13 : decode cX2_init 13 = .ok (.bipush 60, 2) := by decide +kernel
theorem dX2_init_15 : decode cX2_init 15 = .ok (.newarray .int, 2) := by decide +kernel
theorem dX2_init_17 : decode cX2_init 17 = .ok (.putfield 15, 3) := by decide +kernel
theorem dX2_init_20 : decode cX2_init 20 = .ok (.aload_n 0, 1) := by decide +kernel
theorem dX2_init_21 : decode cX2_init 21 = .ok (.bipush 60, 2) := by decide +kernel
theorem dX2_init_23 : decode cX2_init 23 = .ok (.newarray .int, 2) := by decide +kernel
theorem dX2_init_25 : decode cX2_init 25 = .ok (.putfield 18, 3) := by decide +kernel
theorem dX2_init_28 : decode cX2_init 28 = .ok (.aload_n 0, 1) := by decide +kernel
theorem dX2_init_29 : decode cX2_init 29 = .ok (.bipush 60, 2) := by decide +kernel
theorem dX2_init_31 : decode cX2_init 31 = .ok (.newarray .int, 2) := by decide +kernel
theorem dX2_init_33 : decode cX2_init 33 = .ok (.putfield 21, 3) := by decide +kernel
theorem dX2_init_36 : decode cX2_init 36 = .ok (.aload_n 0, 1) := by decide +kernel
theorem dX2_init_37 : decode cX2_init 37 = .ok (.bipush 60, 2) := by decide +kernel
theorem dX2_init_39 : decode cX2_init 39 = .ok (.newarray .int, 2) := by decide +kernel
theorem dX2_init_41 : decode cX2_init 41 = .ok (.putfield 24, 3) := by decide +kernel
theorem dX2_init_44 : decode cX2_init 44 = .ok (.aload_n 0, 1) := by decide +kernel
theorem dX2_init_45 : decode cX2_init 45 = .ok (.sipush 300, 3) := by decide +kernel
theorem dX2_init_48 : decode cX2_init 48 = .ok (.newarray .int, 2) := by decide +kernel
theorem dX2_init_50 : decode cX2_init 50 = .ok (.putfield 27, 3) := by decide +kernel
theorem dX2_init_53 : decode cX2_init 53 = .ok (.aload_n 0, 1) := by decide +kernel
theorem dX2_init_54 : decode cX2_init 54 = .ok (.sipush 300, 3) := by decide +kernel
theorem dX2_init_57 : decode cX2_init 57 = .ok (.newarray .int, 2) := by decide +kernel
theorem dX2_init_59 : decode cX2_init 59 = .ok (.putfield 30, 3) := by decide +kernel
theorem dX2_init_62 : decode cX2_init 62 = .ok (.aload_n 0, 1) := by decide +kernel
theorem dX2_init_63 : decode cX2_init 63 = .ok (.sipush 300, 3) := by decide +kernel
theorem dX2_init_66 : decode cX2_init 66 = .ok (.newarray .int, 2) := by decide +kernel
theorem dX2_init_68 : decode cX2_init 68 = .ok (.putfield 33, 3) := by decide +kernel
theorem dX2_init_71 : decode cX2_init 71 = .ok (.aload_n 0, 1) := by decide +kernel
theorem dX2_init_72 : decode cX2_init 72 = .ok (.sipush 300, 3) := by decide +kernel
theorem dX2_init_75 : decode cX2_init 75 = .ok (.newarray .int, 2) := by decide +kernel
theorem dX2_init_77 : decode cX2_init 77 = .ok (.putfield 36, 3) := by decide +kernel
theorem dX2_init_80 : decode cX2_init 80 = .ok (.aload_n 0, 1) := by decide +kernel
theorem dX2_init_81 : decode cX2_init 81 = .ok (.aload_n 1, 1) := by decide +kernel
theorem dX2_init_82 : decode cX2_init 82 = .ok (.putfield 39, 3) := by decide +kernel
theorem dX2_init_85 : decode cX2_init 85 = .ok (.aload_n 0, 1) := by decide +kernel
theorem dX2_init_86 : decode cX2_init 86 = .ok (.aload_n 2, 1) := by decide +kernel
theorem dX2_init_87 : decode cX2_init 87 = .ok (.putfield 43, 3) := by decide +kernel
theorem dX2_init_90 : decode cX2_init 90 = .ok (.return_, 1) := by decide +kernel
theorem dX2_hasHold_0 : decode cX2_hasHold 0 = .ok (.iload_n 1, 1) := by decide +kernel
theorem dX2_hasHold_1 : decode cX2_hasHold 1 = .ok (.ifCond .lt 22, 3) := by decide +kernel
theorem dX2_hasHold_4 : decode cX2_hasHold 4 = .ok (.iload_n 1, 1) := by decide +kernel
theorem dX2_hasHold_5 : decode cX2_hasHold 5 = .ok (.bipush 60, 2) := by decide +kernel
theorem dX2_hasHold_7 : decode cX2_hasHold 7 = .ok (.if_icmp .ge 16, 3) := by decide +kernel
theorem dX2_hasHold_10 : decode cX2_hasHold 10 = .ok (.aload_n 0, 1) := by decide +kernel
theorem dX2_hasHold_11 : decode cX2_hasHold 11 = .ok (.getfield 15, 3) := by decide +kernel
theorem dX2_hasHold_14 : decode cX2_hasHold 14 = .ok (.iload_n 1, 1) := by decide +kernel
theorem dX2_hasHold_15 : decode cX2_hasHold 15 = .ok (.iaload, 1) := by decide +kernel
theorem dX2_hasHold_16 : decode cX2_hasHold 16 = .ok (.ifCond .le 7, 3) := by decide +kernel
theorem dX2_hasHold_19 : decode cX2_hasHold 19 = .ok (.iconst 1, 1) := by decide +kernel
theorem dX2_hasHold_20 : decode cX2_hasHold 20 = .ok (.goto 4, 3) := by decide +kernel
theorem dX2_hasHold_23 : decode cX2_hasHold 23 = .ok (.iconst 0, 1) := by decide +kernel
theorem dX2_hasHold_24 : decode cX2_hasHold 24 = .ok (.ireturn, 1) := by decide +kernel
theorem dX2_freeHold_0 : decode cX2_freeHold 0 = .ok (.iconst 0, 1) := by decide +kernel
theorem dX2_freeHold_1 : decode cX2_freeHold 1 = .ok (.istore_n 1, 1) := by decide +kernel
theorem dX2_freeHold_2 : decode cX2_freeHold 2 = .ok (.iload_n 1, 1) := by decide +kernel
theorem dX2_freeHold_3 : decode cX2_freeHold 3 = .ok (.bipush 60, 2) := by decide +kernel
theorem dX2_freeHold_5 : decode cX2_freeHold 5 = .ok (.if_icmp .ge 20, 3) := by decide +kernel
theorem dX2_freeHold_8 : decode cX2_freeHold 8 = .ok (.aload_n 0, 1) := by decide +kernel
theorem dX2_freeHold_9 : decode cX2_freeHold 9 = .ok (.getfield 15, 3) := by decide +kernel
theorem dX2_freeHold_12 : decode cX2_freeHold 12 = .ok (.iload_n 1, 1) := by decide +kernel
theorem dX2_freeHold_13 : decode cX2_freeHold 13 = .ok (.iaload, 1) := by decide +kernel
theorem dX2_freeHold_14 : decode cX2_freeHold 14 = .ok (.ifCond .ne 5, 3) := by decide +kernel
theorem dX2_freeHold_17 : decode cX2_freeHold 17 = .ok (.iload_n 1, 1) := by decide +kernel
theorem dX2_freeHold_18 : decode cX2_freeHold 18 = .ok (.ireturn, 1) := by decide +kernel
theorem dX2_freeHold_19 : decode cX2_freeHold 19 = .ok (.iinc 1 1, 3) := by decide +kernel
theorem dX2_freeHold_22 : decode cX2_freeHold 22 = .ok (.goto (-20), 3) := by decide +kernel
theorem dX2_freeHold_25 : decode cX2_freeHold 25 = .ok (.iconst (-1), 1) := by decide +kernel
theorem dX2_freeHold_26 : decode cX2_freeHold 26 = .ok (.ireturn, 1) := by decide +kernel
theorem dX2_keep_0 : decode cX2_keep 0 = .ok (.aload_n 0, 1) := by decide +kernel
theorem dX2_keep_1 : decode cX2_keep 1 = .ok (.getfield 11, 3) := by decide +kernel
theorem dX2_keep_4 : decode cX2_keep 4 = .ok (.iload_n 1, 1) := by decide +kernel
theorem dX2_keep_5 : decode cX2_keep 5 = .ok (.iload_n 2, 1) := by decide +kernel
theorem dX2_keep_6 : decode cX2_keep 6 = .ok (.iastore, 1) := by decide +kernel
theorem dX2_keep_7 : decode cX2_keep 7 = .ok (.aload_n 0, 1) := by decide +kernel
theorem dX2_keep_8 : decode cX2_keep 8 = .ok (.getfield 15, 3) := by decide +kernel
theorem dX2_keep_11 : decode cX2_keep 11 = .ok (.iload_n 1, 1) := by decide +kernel
theorem dX2_keep_12 : decode cX2_keep 12 = .ok (.iload_n 3, 1) := by decide +kernel
theorem dX2_keep_13 : decode cX2_keep 13 = .ok (.iastore, 1) := by decide +kernel
theorem dX2_keep_14 : decode cX2_keep 14 = .ok (.aload_n 0, 1) := by decide +kernel
theorem dX2_keep_15 : decode cX2_keep 15 = .ok (.dup, 1) := by decide +kernel
theorem dX2_keep_16 : decode cX2_keep 16 = .ok (.getfield 47, 3) := by decide +kernel
theorem dX2_keep_19 : decode cX2_keep 19 = .ok (.iconst 1, 1) := by decide +kernel
theorem dX2_keep_20 : decode cX2_keep 20 = .ok (.iadd, 1) := by decide +kernel
theorem dX2_keep_21 : decode cX2_keep 21 = .ok (.putfield 47, 3) := by decide +kernel
theorem dX2_keep_24 : decode cX2_keep 24 = .ok (.aload_n 0, 1) := by decide +kernel
theorem dX2_keep_25 : decode cX2_keep 25 = .ok (.getfield 39, 3) := by decide +kernel
theorem dX2_keep_28 : decode cX2_keep 28 = .ok (.iload_n 2, 1) := by decide +kernel
theorem dX2_keep_29 : decode cX2_keep 29 = .ok (.iload_n 3, 1) := by decide +kernel
theorem dX2_keep_30 : decode cX2_keep 30 = .ok (.iconst 1, 1) := by decide +kernel
theorem dX2_keep_31 : decode cX2_keep 31 = .ok (.invokevirtual 53, 3) := by decide +kernel
theorem dX2_keep_34 : decode cX2_keep 34 = .ok (.return_, 1) := by decide +kernel
theorem dX2_describe_0 : decode cX2_describe 0 = .ok (.aload_n 0, 1) := by decide +kernel
theorem dX2_describe_1 : decode cX2_describe 1 = .ok (.getfield 18, 3) := by decide +kernel
theorem dX2_describe_4 : decode cX2_describe 4 = .ok (.iload_n 1, 1) := by decide +kernel
theorem dX2_describe_5 : decode cX2_describe 5 = .ok (.iload_n 2, 1) := by decide +kernel
theorem dX2_describe_6 : decode cX2_describe 6 = .ok (.iastore, 1) := by decide +kernel
theorem dX2_describe_7 : decode cX2_describe 7 = .ok (.aload_n 0, 1) := by decide +kernel
theorem dX2_describe_8 : decode cX2_describe 8 = .ok (.getfield 21, 3) := by decide +kernel
theorem dX2_describe_11 : decode cX2_describe 11 = .ok (.iload_n 1, 1) := by decide +kernel
theorem dX2_describe_12 : decode cX2_describe 12 = .ok (.iload_n 3, 1) := by decide +kernel
theorem dX2_describe_13 : decode cX2_describe 13 = .ok (.iastore, 1) := by decide +kernel
theorem dX2_describe_14 : decode cX2_describe 14 = .ok (.aload_n 0, 1) := by decide +kernel
theorem dX2_describe_15 : decode cX2_describe 15 = .ok (.getfield 24, 3) := by decide +kernel
theorem dX2_describe_18 : decode cX2_describe 18 = .ok (.iload_n 1, 1) := by decide +kernel
theorem dX2_describe_19 : decode cX2_describe 19 = .ok (.iload 4, 2) := by decide +kernel
theorem dX2_describe_21 : decode cX2_describe 21 = .ok (.iastore, 1) := by decide +kernel
theorem dX2_describe_22 : decode cX2_describe 22 = .ok (.return_, 1) := by decide +kernel
theorem dX2_drop_0 : decode cX2_drop 0 = .ok (.aload_n 0, 1) := by decide +kernel
theorem dX2_drop_1 : decode cX2_drop 1 = .ok (.getfield 39, 3) := by decide +kernel
theorem dX2_drop_4 : decode cX2_drop 4 = .ok (.aload_n 0, 1) := by decide +kernel
theorem dX2_drop_5 : decode cX2_drop 5 = .ok (.getfield 11, 3) := by decide +kernel
theorem dX2_drop_8 : decode cX2_drop 8 = .ok (.iload_n 1, 1) := by decide +kernel
theorem dX2_drop_9 : decode cX2_drop 9 = .ok (.iaload, 1) := by decide +kernel
theorem dX2_drop_10 : decode cX2_drop 10 = .ok (.aload_n 0, 1) := by decide +kernel
theorem dX2_drop_11 : decode cX2_drop 11 = .ok (.getfield 15, 3) := by decide +kernel
theorem dX2_drop_14 : decode cX2_drop 14 = .ok (.iload_n 1, 1) := by decide +kernel
theorem dX2_drop_15 : decode cX2_drop 15 = .ok (.iaload, 1) := by decide +kernel
theorem dX2_drop_16 : decode cX2_drop 16 = .ok (.iconst 0, 1) := by decide +kernel
theorem dX2_drop_17 : decode cX2_drop 17 = .ok (.invokevirtual 53, 3) := by decide +kernel
theorem dX2_drop_20 : decode cX2_drop 20 = .ok (.aload_n 0, 1) := by decide +kernel
theorem dX2_drop_21 : decode cX2_drop 21 = .ok (.getfield 15, 3) := by decide +kernel
theorem dX2_drop_24 : decode cX2_drop 24 = .ok (.iload_n 1, 1) := by decide +kernel
theorem dX2_drop_25 : decode cX2_drop 25 = .ok (.iconst 0, 1) := by decide +kernel
theorem dX2_drop_26 : decode cX2_drop 26 = .ok (.iastore, 1) := by decide +kernel
theorem dX2_drop_27 : decode cX2_drop 27 = .ok (.aload_n 0, 1) := by decide +kernel
theorem dX2_drop_28 : decode cX2_drop 28 = .ok (.dup, 1) := by decide +kernel
theorem dX2_drop_29 : decode cX2_drop 29 = .ok (.getfield 47, 3) := by decide +kernel
theorem dX2_drop_32 : decode cX2_drop 32 = .ok (.iconst 1, 1) := by decide +kernel
theorem dX2_drop_33 : decode cX2_drop 33 = .ok (.isub, 1) := by decide +kernel
theorem dX2_drop_34 : decode cX2_drop 34 = .ok (.putfield 47, 3) := by decide +kernel
theorem dX2_drop_37 : decode cX2_drop 37 = .ok (.return_, 1) := by decide +kernel
theorem dX2_expire_0 : decode cX2_expire 0 = .ok (.iconst 0, 1) := by decide +kernel
theorem dX2_expire_1 : decode cX2_expire 1 = .ok (.istore_n 2, 1) := by decide +kernel
theorem dX2_expire_2 : decode cX2_expire 2 = .ok (.iload_n 2, 1) := by decide +kernel
theorem dX2_expire_3 : decode cX2_expire 3 = .ok (.bipush 60, 2) := by decide +kernel
theorem dX2_expire_5 : decode cX2_expire 5 = .ok (.if_icmp .ge 40, 3) := by decide +kernel
theorem dX2_expire_8 : decode cX2_expire 8 = .ok (.aload_n 0, 1) := by decide +kernel
theorem dX2_expire_9 : decode cX2_expire 9 = .ok (.getfield 47, 3) := by decide +kernel
theorem dX2_expire_12 : decode cX2_expire 12 = .ok (.ifCond .le 33, 3) := by decide +kernel
theorem dX2_expire_15 : decode cX2_expire 15 = .ok (.aload_n 0, 1) := by decide +kernel
theorem dX2_expire_16 : decode cX2_expire 16 = .ok (.getfield 15, 3) := by decide +kernel
theorem dX2_expire_19 : decode cX2_expire 19 = .ok (.iload_n 2, 1) := by decide +kernel
theorem dX2_expire_20 : decode cX2_expire 20 = .ok (.iaload, 1) := by decide +kernel
theorem dX2_expire_21 : decode cX2_expire 21 = .ok (.ifCond .le 18, 3) := by decide +kernel
theorem dX2_expire_24 : decode cX2_expire 24 = .ok (.aload_n 0, 1) := by decide +kernel
theorem dX2_expire_25 : decode cX2_expire 25 = .ok (.getfield 24, 3) := by decide +kernel
theorem dX2_expire_28 : decode cX2_expire 28 = .ok (.iload_n 2, 1) := by decide +kernel
theorem dX2_expire_29 : decode cX2_expire 29 = .ok (.iaload, 1) := by decide +kernel
theorem dX2_expire_30 : decode cX2_expire 30 = .ok (.iload_n 1, 1) := by decide +kernel
theorem dX2_expire_31 : decode cX2_expire 31 = .ok (.if_icmp .gt 8, 3) := by decide +kernel
theorem dX2_expire_34 : decode cX2_expire 34 = .ok (.aload_n 0, 1) := by decide +kernel
theorem dX2_expire_35 : decode cX2_expire 35 = .ok (.iload_n 2, 1) := by decide +kernel
theorem dX2_expire_36 : decode cX2_expire 36 = .ok (.invokevirtual 57, 3) := by decide +kernel
theorem dX2_expire_39 : decode cX2_expire 39 = .ok (.iinc 2 1, 3) := by decide +kernel
theorem dX2_expire_42 : decode cX2_expire 42 = .ok (.goto (-40), 3) := by decide +kernel
theorem dX2_expire_45 : decode cX2_expire 45 = .ok (.return_, 1) := by decide +kernel
theorem dX2_price_0 : decode cX2_price 0 = .ok (.aload_n 0, 1) := by decide +kernel
theorem dX2_price_1 : decode cX2_price 1 = .ok (.getfield 39, 3) := by decide +kernel
theorem dX2_price_4 : decode cX2_price 4 = .ok (.getfield 61, 3) := by decide +kernel
theorem dX2_price_7 : decode cX2_price 7 = .ok (.aload_n 0, 1) := by decide +kernel
theorem dX2_price_8 : decode cX2_price 8 = .ok (.getfield 11, 3) := by decide +kernel
theorem dX2_price_11 : decode cX2_price 11 = .ok (.iload_n 1, 1) := by decide +kernel
theorem dX2_price_12 : decode cX2_price 12 = .ok (.iaload, 1) := by decide +kernel
theorem dX2_price_13 : decode cX2_price 13 = .ok (.bipush 30, 2) := by decide +kernel
theorem dX2_price_15 : decode cX2_price 15 = .ok (.idiv, 1) := by decide +kernel
theorem dX2_price_16 : decode cX2_price 16 = .ok (.iaload, 1) := by decide +kernel
theorem dX2_price_17 : decode cX2_price 17 = .ok (.istore_n 2, 1) := by decide +kernel
theorem dX2_price_18 : decode cX2_price 18 = .ok (.aload_n 0, 1) := by decide +kernel
theorem dX2_price_19 : decode cX2_price 19 = .ok (.getfield 43, 3) := by decide +kernel
theorem dX2_price_22 : decode cX2_price 22 = .ok (.iload_n 2, 1) := by decide +kernel
theorem dX2_price_23 : decode cX2_price 23 = .ok (.aload_n 0, 1) := by decide +kernel
theorem dX2_price_24 : decode cX2_price 24 = .ok (.getfield 15, 3) := by decide +kernel
theorem dX2_price_27 : decode cX2_price 27 = .ok (.iload_n 1, 1) := by decide +kernel
theorem dX2_price_28 : decode cX2_price 28 = .ok (.iaload, 1) := by decide +kernel
theorem dX2_price_29 : decode cX2_price 29 = .ok (.aload_n 0, 1) := by decide +kernel
theorem dX2_price_30 : decode cX2_price 30 = .ok (.getfield 18, 3) := by decide +kernel
theorem dX2_price_33 : decode cX2_price 33 = .ok (.iload_n 1, 1) := by decide +kernel
theorem dX2_price_34 : decode cX2_price 34 = .ok (.iaload, 1) := by decide +kernel
theorem dX2_price_35 : decode cX2_price 35 = .ok (.aload_n 0, 1) := by decide +kernel
theorem dX2_price_36 : decode cX2_price 36 = .ok (.getfield 21, 3) := by decide +kernel
theorem dX2_price_39 : decode cX2_price 39 = .ok (.iload_n 1, 1) := by decide +kernel
theorem dX2_price_40 : decode cX2_price 40 = .ok (.iaload, 1) := by decide +kernel
theorem dX2_price_41 : decode cX2_price 41 = .ok (.aload_n 0, 1) := by decide +kernel
theorem dX2_price_42 : decode cX2_price 42 = .ok (.getfield 39, 3) := by decide +kernel
theorem dX2_price_45 : decode cX2_price 45 = .ok (.getfield 64, 3) := by decide +kernel
theorem dX2_price_48 : decode cX2_price 48 = .ok (.iload_n 2, 1) := by decide +kernel
theorem dX2_price_49 : decode cX2_price 49 = .ok (.iaload, 1) := by decide +kernel
theorem dX2_price_50 : decode cX2_price 50 = .ok (.invokevirtual 66, 3) := by decide +kernel
theorem dX2_price_53 : decode cX2_price 53 = .ok (.ireturn, 1) := by decide +kernel
theorem dX2_tellHold_0 : decode cX2_tellHold 0 = .ok (.iload_n 2, 1) := by decide +kernel
theorem dX2_tellHold_1 : decode cX2_tellHold 1 = .ok (.tableswitch 75 0 4 #[35, 45, 55, 62, 68], 35) := by decide +kernel
theorem dX2_tellHold_36 : decode cX2_tellHold 36 = .ok (.aload_n 0, 1) := by decide +kernel
theorem dX2_tellHold_37 : decode cX2_tellHold 37 = .ok (.getfield 11, 3) := by decide +kernel
theorem dX2_tellHold_40 : decode cX2_tellHold 40 = .ok (.iload_n 1, 1) := by decide +kernel
theorem dX2_tellHold_41 : decode cX2_tellHold 41 = .ok (.iaload, 1) := by decide +kernel
theorem dX2_tellHold_42 : decode cX2_tellHold 42 = .ok (.bipush 30, 2) := by decide +kernel
theorem dX2_tellHold_44 : decode cX2_tellHold 44 = .ok (.idiv, 1) := by decide +kernel
theorem dX2_tellHold_45 : decode cX2_tellHold 45 = .ok (.ireturn, 1) := by decide +kernel
theorem dX2_tellHold_46 : decode cX2_tellHold 46 = .ok (.aload_n 0, 1) := by decide +kernel
theorem dX2_tellHold_47 : decode cX2_tellHold 47 = .ok (.getfield 11, 3) := by decide +kernel
theorem dX2_tellHold_50 : decode cX2_tellHold 50 = .ok (.iload_n 1, 1) := by decide +kernel
theorem dX2_tellHold_51 : decode cX2_tellHold 51 = .ok (.iaload, 1) := by decide +kernel
theorem dX2_tellHold_52 : decode cX2_tellHold 52 = .ok (.bipush 30, 2) := by decide +kernel
theorem dX2_tellHold_54 : decode cX2_tellHold 54 = .ok (.irem, 1) := by decide +kernel
theorem dX2_tellHold_55 : decode cX2_tellHold 55 = .ok (.ireturn, 1) := by decide +kernel
theorem dX2_tellHold_56 : decode cX2_tellHold 56 = .ok (.aload_n 0, 1) := by decide +kernel
theorem dX2_tellHold_57 : decode cX2_tellHold 57 = .ok (.getfield 15, 3) := by decide +kernel
theorem dX2_tellHold_60 : decode cX2_tellHold 60 = .ok (.iload_n 1, 1) := by decide +kernel
theorem dX2_tellHold_61 : decode cX2_tellHold 61 = .ok (.iaload, 1) := by decide +kernel
theorem dX2_tellHold_62 : decode cX2_tellHold 62 = .ok (.ireturn, 1) := by decide +kernel
theorem dX2_tellHold_63 : decode cX2_tellHold 63 = .ok (.aload_n 0, 1) := by decide +kernel
theorem dX2_tellHold_64 : decode cX2_tellHold 64 = .ok (.iload_n 1, 1) := by decide +kernel
theorem dX2_tellHold_65 : decode cX2_tellHold 65 = .ok (.invokevirtual 72, 3) := by decide +kernel
theorem dX2_tellHold_68 : decode cX2_tellHold 68 = .ok (.ireturn, 1) := by decide +kernel
theorem dX2_tellHold_69 : decode cX2_tellHold 69 = .ok (.aload_n 0, 1) := by decide +kernel
theorem dX2_tellHold_70 : decode cX2_tellHold 70 = .ok (.getfield 24, 3) := by decide +kernel
theorem dX2_tellHold_73 : decode cX2_tellHold 73 = .ok (.iload_n 1, 1) := by decide +kernel
theorem dX2_tellHold_74 : decode cX2_tellHold 74 = .ok (.iaload, 1) := by decide +kernel
theorem dX2_tellHold_75 : decode cX2_tellHold 75 = .ok (.ireturn, 1) := by decide +kernel
theorem dX2_tellHold_76 : decode cX2_tellHold 76 = .ok (.iconst (-1), 1) := by decide +kernel
theorem dX2_tellHold_77 : decode cX2_tellHold 77 = .ok (.ireturn, 1) := by decide +kernel
theorem dX2_sell_0 : decode cX2_sell 0 = .ok (.aload_n 0, 1) := by decide +kernel
theorem dX2_sell_1 : decode cX2_sell 1 = .ok (.getfield 76, 3) := by decide +kernel
theorem dX2_sell_4 : decode cX2_sell 4 = .ok (.istore_n 3, 1) := by decide +kernel
theorem dX2_sell_5 : decode cX2_sell 5 = .ok (.iload_n 3, 1) := by decide +kernel
theorem dX2_sell_6 : decode cX2_sell 6 = .ok (.sipush 300, 3) := by decide +kernel
theorem dX2_sell_9 : decode cX2_sell 9 = .ok (.if_icmp .lt 5, 3) := by decide +kernel
theorem dX2_sell_12 : decode cX2_sell 12 = .ok (.iconst (-1), 1) := by decide +kernel
theorem dX2_sell_13 : decode cX2_sell 13 = .ok (.ireturn, 1) := by decide +kernel
theorem dX2_sell_14 : decode cX2_sell 14 = .ok (.aload_n 0, 1) := by decide +kernel
theorem dX2_sell_15 : decode cX2_sell 15 = .ok (.getfield 27, 3) := by decide +kernel
theorem dX2_sell_18 : decode cX2_sell 18 = .ok (.iload_n 3, 1) := by decide +kernel
theorem dX2_sell_19 : decode cX2_sell 19 = .ok (.aload_n 0, 1) := by decide +kernel
theorem dX2_sell_20 : decode cX2_sell 20 = .ok (.getfield 11, 3) := by decide +kernel
theorem dX2_sell_23 : decode cX2_sell 23 = .ok (.iload_n 1, 1) := by decide +kernel
theorem dX2_sell_24 : decode cX2_sell 24 = .ok (.iaload, 1) := by decide +kernel
theorem dX2_sell_25 : decode cX2_sell 25 = .ok (.iastore, 1) := by decide +kernel
theorem dX2_sell_26 : decode cX2_sell 26 = .ok (.aload_n 0, 1) := by decide +kernel
theorem dX2_sell_27 : decode cX2_sell 27 = .ok (.getfield 30, 3) := by decide +kernel
theorem dX2_sell_30 : decode cX2_sell 30 = .ok (.iload_n 3, 1) := by decide +kernel
theorem dX2_sell_31 : decode cX2_sell 31 = .ok (.aload_n 0, 1) := by decide +kernel
theorem dX2_sell_32 : decode cX2_sell 32 = .ok (.getfield 15, 3) := by decide +kernel
theorem dX2_sell_35 : decode cX2_sell 35 = .ok (.iload_n 1, 1) := by decide +kernel
theorem dX2_sell_36 : decode cX2_sell 36 = .ok (.iaload, 1) := by decide +kernel
theorem dX2_sell_37 : decode cX2_sell 37 = .ok (.iastore, 1) := by decide +kernel
theorem dX2_sell_38 : decode cX2_sell 38 = .ok (.aload_n 0, 1) := by decide +kernel
theorem dX2_sell_39 : decode cX2_sell 39 = .ok (.getfield 33, 3) := by decide +kernel
theorem dX2_sell_42 : decode cX2_sell 42 = .ok (.iload_n 3, 1) := by decide +kernel
theorem dX2_sell_43 : decode cX2_sell 43 = .ok (.iload_n 2, 1) := by decide +kernel
theorem dX2_sell_44 : decode cX2_sell 44 = .ok (.iastore, 1) := by decide +kernel
theorem dX2_sell_45 : decode cX2_sell 45 = .ok (.aload_n 0, 1) := by decide +kernel
theorem dX2_sell_46 : decode cX2_sell 46 = .ok (.getfield 36, 3) := by decide +kernel
theorem dX2_sell_49 : decode cX2_sell 49 = .ok (.iload_n 3, 1) := by decide +kernel
theorem dX2_sell_50 : decode cX2_sell 50 = .ok (.iconst 0, 1) := by decide +kernel
theorem dX2_sell_51 : decode cX2_sell 51 = .ok (.iastore, 1) := by decide +kernel
theorem dX2_sell_52 : decode cX2_sell 52 = .ok (.aload_n 0, 1) := by decide +kernel
theorem dX2_sell_53 : decode cX2_sell 53 = .ok (.dup, 1) := by decide +kernel
theorem dX2_sell_54 : decode cX2_sell 54 = .ok (.getfield 76, 3) := by decide +kernel
theorem dX2_sell_57 : decode cX2_sell 57 = .ok (.iconst 1, 1) := by decide +kernel
theorem dX2_sell_58 : decode cX2_sell 58 = .ok (.iadd, 1) := by decide +kernel
theorem dX2_sell_59 : decode cX2_sell 59 = .ok (.putfield 76, 3) := by decide +kernel
theorem dX2_sell_62 : decode cX2_sell 62 = .ok (.aload_n 0, 1) := by decide +kernel
theorem dX2_sell_63 : decode cX2_sell 63 = .ok (.dup, 1) := by decide +kernel
theorem dX2_sell_64 : decode cX2_sell 64 = .ok (.getfield 79, 3) := by decide +kernel
theorem dX2_sell_67 : decode cX2_sell 67 = .ok (.iload_n 2, 1) := by decide +kernel
theorem dX2_sell_68 : decode cX2_sell 68 = .ok (.iadd, 1) := by decide +kernel
theorem dX2_sell_69 : decode cX2_sell 69 = .ok (.putfield 79, 3) := by decide +kernel
theorem dX2_sell_72 : decode cX2_sell 72 = .ok (.aload_n 0, 1) := by decide +kernel
theorem dX2_sell_73 : decode cX2_sell 73 = .ok (.dup, 1) := by decide +kernel
theorem dX2_sell_74 : decode cX2_sell 74 = .ok (.getfield 82, 3) := by decide +kernel
theorem dX2_sell_77 : decode cX2_sell 77 = .ok (.aload_n 0, 1) := by decide +kernel
theorem dX2_sell_78 : decode cX2_sell 78 = .ok (.getfield 15, 3) := by decide +kernel
theorem dX2_sell_81 : decode cX2_sell 81 = .ok (.iload_n 1, 1) := by decide +kernel
theorem dX2_sell_82 : decode cX2_sell 82 = .ok (.iaload, 1) := by decide +kernel
theorem dX2_sell_83 : decode cX2_sell 83 = .ok (.iadd, 1) := by decide +kernel
theorem dX2_sell_84 : decode cX2_sell 84 = .ok (.putfield 82, 3) := by decide +kernel
theorem dX2_sell_87 : decode cX2_sell 87 = .ok (.aload_n 0, 1) := by decide +kernel
theorem dX2_sell_88 : decode cX2_sell 88 = .ok (.iload_n 1, 1) := by decide +kernel
theorem dX2_sell_89 : decode cX2_sell 89 = .ok (.invokevirtual 57, 3) := by decide +kernel
theorem dX2_sell_92 : decode cX2_sell 92 = .ok (.aload_n 0, 1) := by decide +kernel
theorem dX2_sell_93 : decode cX2_sell 93 = .ok (.getfield 39, 3) := by decide +kernel
theorem dX2_sell_96 : decode cX2_sell 96 = .ok (.aload_n 0, 1) := by decide +kernel
theorem dX2_sell_97 : decode cX2_sell 97 = .ok (.getfield 27, 3) := by decide +kernel
theorem dX2_sell_100 : decode cX2_sell 100 = .ok (.iload_n 3, 1) := by decide +kernel
theorem dX2_sell_101 : decode cX2_sell 101 = .ok (.iaload, 1) := by decide +kernel
theorem dX2_sell_102 : decode cX2_sell 102 = .ok (.aload_n 0, 1) := by decide +kernel
theorem dX2_sell_103 : decode cX2_sell 103 = .ok (.getfield 30, 3) := by decide +kernel
theorem dX2_sell_106 : decode cX2_sell 106 = .ok (.iload_n 3, 1) := by decide +kernel
theorem dX2_sell_107 : decode cX2_sell 107 = .ok (.iaload, 1) := by decide +kernel
theorem dX2_sell_108 : decode cX2_sell 108 = .ok (.iconst 2, 1) := by decide +kernel
theorem dX2_sell_109 : decode cX2_sell 109 = .ok (.invokevirtual 53, 3) := by decide +kernel
theorem dX2_sell_112 : decode cX2_sell 112 = .ok (.iload_n 3, 1) := by decide +kernel
theorem dX2_sell_113 : decode cX2_sell 113 = .ok (.ireturn, 1) := by decide +kernel
theorem dX2_isOpen_0 : decode cX2_isOpen 0 = .ok (.iload_n 1, 1) := by decide +kernel
theorem dX2_isOpen_1 : decode cX2_isOpen 1 = .ok (.ifCond .lt 31, 3) := by decide +kernel
theorem dX2_isOpen_4 : decode cX2_isOpen 4 = .ok (.iload_n 1, 1) := by decide +kernel
theorem dX2_isOpen_5 : decode cX2_isOpen 5 = .ok (.aload_n 0, 1) := by decide +kernel
theorem dX2_isOpen_6 : decode cX2_isOpen 6 = .ok (.getfield 76, 3) := by decide +kernel
theorem dX2_isOpen_9 : decode cX2_isOpen 9 = .ok (.if_icmp .ge 23, 3) := by decide +kernel
theorem dX2_isOpen_12 : decode cX2_isOpen 12 = .ok (.iload_n 1, 1) := by decide +kernel
theorem dX2_isOpen_13 : decode cX2_isOpen 13 = .ok (.sipush 300, 3) := by decide +kernel
theorem dX2_isOpen_16 : decode cX2_isOpen 16 = .ok (.if_icmp .ge 16, 3) := by decide +kernel
theorem dX2_isOpen_19 : decode cX2_isOpen 19 = .ok (.aload_n 0, 1) := by decide +kernel
theorem dX2_isOpen_20 : decode cX2_isOpen 20 = .ok (.getfield 36, 3) := by decide +kernel
theorem dX2_isOpen_23 : decode cX2_isOpen 23 = .ok (.iload_n 1, 1) := by decide +kernel
theorem dX2_isOpen_24 : decode cX2_isOpen 24 = .ok (.iaload, 1) := by decide +kernel
theorem dX2_isOpen_25 : decode cX2_isOpen 25 = .ok (.ifCond .ne 7, 3) := by decide +kernel
theorem dX2_isOpen_28 : decode cX2_isOpen 28 = .ok (.iconst 1, 1) := by decide +kernel
theorem dX2_isOpen_29 : decode cX2_isOpen 29 = .ok (.goto 4, 3) := by decide +kernel
theorem dX2_isOpen_32 : decode cX2_isOpen 32 = .ok (.iconst 0, 1) := by decide +kernel
theorem dX2_isOpen_33 : decode cX2_isOpen 33 = .ok (.ireturn, 1) := by decide +kernel
theorem dX2_refund_0 : decode cX2_refund 0 = .ok (.aload_n 0, 1) := by decide +kernel
theorem dX2_refund_1 : decode cX2_refund 1 = .ok (.getfield 36, 3) := by decide +kernel
theorem dX2_refund_4 : decode cX2_refund 4 = .ok (.iload_n 1, 1) := by decide +kernel
theorem dX2_refund_5 : decode cX2_refund 5 = .ok (.iconst 2, 1) := by decide +kernel
theorem dX2_refund_6 : decode cX2_refund 6 = .ok (.iastore, 1) := by decide +kernel
theorem dX2_refund_7 : decode cX2_refund 7 = .ok (.aload_n 0, 1) := by decide +kernel
theorem dX2_refund_8 : decode cX2_refund 8 = .ok (.dup, 1) := by decide +kernel
theorem dX2_refund_9 : decode cX2_refund 9 = .ok (.getfield 85, 3) := by decide +kernel
theorem dX2_refund_12 : decode cX2_refund 12 = .ok (.iconst 1, 1) := by decide +kernel
theorem dX2_refund_13 : decode cX2_refund 13 = .ok (.iadd, 1) := by decide +kernel
theorem dX2_refund_14 : decode cX2_refund 14 = .ok (.putfield 85, 3) := by decide +kernel
theorem dX2_refund_17 : decode cX2_refund 17 = .ok (.aload_n 0, 1) := by decide +kernel
theorem dX2_refund_18 : decode cX2_refund 18 = .ok (.dup, 1) := by decide +kernel
theorem dX2_refund_19 : decode cX2_refund 19 = .ok (.getfield 79, 3) := by decide +kernel
theorem dX2_refund_22 : decode cX2_refund 22 = .ok (.aload_n 0, 1) := by decide +kernel
theorem dX2_refund_23 : decode cX2_refund 23 = .ok (.getfield 33, 3) := by decide +kernel
theorem dX2_refund_26 : decode cX2_refund 26 = .ok (.iload_n 1, 1) := by decide +kernel
theorem dX2_refund_27 : decode cX2_refund 27 = .ok (.iaload, 1) := by decide +kernel
theorem dX2_refund_28 : decode cX2_refund 28 = .ok (.isub, 1) := by decide +kernel
theorem dX2_refund_29 : decode cX2_refund 29 = .ok (.putfield 79, 3) := by decide +kernel
theorem dX2_refund_32 : decode cX2_refund 32 = .ok (.aload_n 0, 1) := by decide +kernel
theorem dX2_refund_33 : decode cX2_refund 33 = .ok (.dup, 1) := by decide +kernel
theorem dX2_refund_34 : decode cX2_refund 34 = .ok (.getfield 82, 3) := by decide +kernel
theorem dX2_refund_37 : decode cX2_refund 37 = .ok (.aload_n 0, 1) := by decide +kernel
theorem dX2_refund_38 : decode cX2_refund 38 = .ok (.getfield 30, 3) := by decide +kernel
theorem dX2_refund_41 : decode cX2_refund 41 = .ok (.iload_n 1, 1) := by decide +kernel
theorem dX2_refund_42 : decode cX2_refund 42 = .ok (.iaload, 1) := by decide +kernel
theorem dX2_refund_43 : decode cX2_refund 43 = .ok (.isub, 1) := by decide +kernel
theorem dX2_refund_44 : decode cX2_refund 44 = .ok (.putfield 82, 3) := by decide +kernel
theorem dX2_refund_47 : decode cX2_refund 47 = .ok (.aload_n 0, 1) := by decide +kernel
theorem dX2_refund_48 : decode cX2_refund 48 = .ok (.getfield 39, 3) := by decide +kernel
theorem dX2_refund_51 : decode cX2_refund 51 = .ok (.aload_n 0, 1) := by decide +kernel
theorem dX2_refund_52 : decode cX2_refund 52 = .ok (.getfield 27, 3) := by decide +kernel
theorem dX2_refund_55 : decode cX2_refund 55 = .ok (.iload_n 1, 1) := by decide +kernel
theorem dX2_refund_56 : decode cX2_refund 56 = .ok (.iaload, 1) := by decide +kernel
theorem dX2_refund_57 : decode cX2_refund 57 = .ok (.aload_n 0, 1) := by decide +kernel
theorem dX2_refund_58 : decode cX2_refund 58 = .ok (.getfield 30, 3) := by decide +kernel
theorem dX2_refund_61 : decode cX2_refund 61 = .ok (.iload_n 1, 1) := by decide +kernel
theorem dX2_refund_62 : decode cX2_refund 62 = .ok (.iaload, 1) := by decide +kernel
theorem dX2_refund_63 : decode cX2_refund 63 = .ok (.iconst 0, 1) := by decide +kernel
theorem dX2_refund_64 : decode cX2_refund 64 = .ok (.invokevirtual 53, 3) := by decide +kernel
theorem dX2_refund_67 : decode cX2_refund 67 = .ok (.aload_n 0, 1) := by decide +kernel
theorem dX2_refund_68 : decode cX2_refund 68 = .ok (.getfield 33, 3) := by decide +kernel
theorem dX2_refund_71 : decode cX2_refund 71 = .ok (.iload_n 1, 1) := by decide +kernel
theorem dX2_refund_72 : decode cX2_refund 72 = .ok (.iaload, 1) := by decide +kernel
theorem dX2_refund_73 : decode cX2_refund 73 = .ok (.ireturn, 1) := by decide +kernel
theorem dX2_letIn_0 : decode cX2_letIn 0 = .ok (.aload_n 0, 1) := by decide +kernel
theorem dX2_letIn_1 : decode cX2_letIn 1 = .ok (.getfield 36, 3) := by decide +kernel
theorem dX2_letIn_4 : decode cX2_letIn 4 = .ok (.iload_n 1, 1) := by decide +kernel
theorem dX2_letIn_5 : decode cX2_letIn 5 = .ok (.iconst 1, 1) := by decide +kernel
theorem dX2_letIn_6 : decode cX2_letIn 6 = .ok (.iastore, 1) := by decide +kernel
theorem dX2_letIn_7 : decode cX2_letIn 7 = .ok (.aload_n 0, 1) := by decide +kernel
theorem dX2_letIn_8 : decode cX2_letIn 8 = .ok (.dup, 1) := by decide +kernel
theorem dX2_letIn_9 : decode cX2_letIn 9 = .ok (.getfield 88, 3) := by decide +kernel
theorem dX2_letIn_12 : decode cX2_letIn 12 = .ok (.aload_n 0, 1) := by decide +kernel
theorem dX2_letIn_13 : decode cX2_letIn 13 = .ok (.getfield 30, 3) := by decide +kernel
theorem dX2_letIn_16 : decode cX2_letIn 16 = .ok (.iload_n 1, 1) := by decide +kernel
theorem dX2_letIn_17 : decode cX2_letIn 17 = .ok (.iaload, 1) := by decide +kernel
theorem dX2_letIn_18 : decode cX2_letIn 18 = .ok (.iadd, 1) := by decide +kernel
theorem dX2_letIn_19 : decode cX2_letIn 19 = .ok (.putfield 88, 3) := by decide +kernel
theorem dX2_letIn_22 : decode cX2_letIn 22 = .ok (.aload_n 0, 1) := by decide +kernel
theorem dX2_letIn_23 : decode cX2_letIn 23 = .ok (.getfield 30, 3) := by decide +kernel
theorem dX2_letIn_26 : decode cX2_letIn 26 = .ok (.iload_n 1, 1) := by decide +kernel
theorem dX2_letIn_27 : decode cX2_letIn 27 = .ok (.iaload, 1) := by decide +kernel
theorem dX2_letIn_28 : decode cX2_letIn 28 = .ok (.ireturn, 1) := by decide +kernel
theorem dX3_init_0 : decode cX3_init 0 = .ok (.aload_n 0, 1) := by decide +kernel
theorem dX3_init_1 : decode cX3_init 1 = .ok (.invokespecial 3, 3) := by decide +kernel
theorem dX3_init_4 : decode cX3_init 4 = .ok (.aload_n 0, 1) := by decide +kernel
theorem dX3_init_5 : decode cX3_init 5 = .ok (.new 9, 3) := by decide +kernel
theorem dX3_init_8 : decode cX3_init 8 = .ok (.dup, 1) := by decide +kernel
theorem dX3_init_9 : decode cX3_init 9 = .ok (.invokespecial 11, 3) := by decide +kernel
theorem dX3_init_12 : decode cX3_init 12 = .ok (.putfield 12, 3) := by decide +kernel
theorem dX3_init_15 : decode cX3_init 15 = .ok (.aload_n 0, 1) := by decide +kernel
theorem dX3_init_16 : decode cX3_init 16 = .ok (.bipush 64, 2) := by decide +kernel
theorem dX3_init_18 : decode cX3_init 18 = .ok (.newarray .int, 2) := by decide +kernel
theorem dX3_init_20 : decode cX3_init 20 = .ok (.putfield 18, 3) := by decide +kernel
theorem dX3_init_23 : decode cX3_init 23 = .ok (.aload_n 0, 1) := by decide +kernel
theorem dX3_init_24 : decode cX3_init 24 = .ok (.bipush 64, 2) := by decide +kernel
theorem dX3_init_26 : decode cX3_init 26 = .ok (.newarray .int, 2) := by decide +kernel
theorem dX3_init_28 : decode cX3_init 28 = .ok (.putfield 22, 3) := by decide +kernel
theorem dX3_init_31 : decode cX3_init 31 = .ok (.aload_n 0, 1) := by decide +kernel
theorem dX3_init_32 : decode cX3_init 32 = .ok (.bipush 64, 2) := by decide +kernel
theorem dX3_init_34 : decode cX3_init 34 = .ok (.newarray .int, 2) := by decide +kernel
theorem dX3_init_36 : decode cX3_init 36 = .ok (.putfield 25, 3) := by decide +kernel
theorem dX3_init_39 : decode cX3_init 39 = .ok (.aload_n 0, 1) := by decide +kernel
theorem dX3_init_40 : decode cX3_init 40 = .ok (.bipush 64, 2) := by decide +kernel
theorem dX3_init_42 : decode cX3_init 42 = .ok (.newarray .int, 2) := by decide +kernel
theorem dX3_init_44 : decode cX3_init 44 = .ok (.putfield 28, 3) := by decide +kernel
theorem dX3_init_47 : decode cX3_init 47 = .ok (.aload_n 0, 1) := by decide +kernel
theorem dX3_init_48 : decode cX3_init 48 = .ok (.iconst (-1), 1) := by decide +kernel
theorem dX3_init_49 : decode cX3_init 49 = .ok (.putfield 31, 3) := by decide +kernel
theorem dX3_init_52 : decode cX3_init 52 = .ok (.aload_n 0, 1) := by decide +kernel
theorem dX3_init_53 : decode cX3_init 53 = .ok (.iconst (-1), 1) := by decide +kernel
theorem dX3_init_54 : decode cX3_init 54 = .ok (.putfield 35, 3) := by decide +kernel
theorem dX3_init_57 : decode cX3_init 57 = .ok (.aload_n 0, 1) := by decide +kernel
theorem dX3_init_58 : decode cX3_init 58 = .ok (.sipush 255, 3) := by decide +kernel
theorem dX3_init_61 : decode cX3_init 61 = .ok (.putfield 38, 3) := by decide +kernel
theorem dX3_init_64 : decode cX3_init 64 = .ok (.return_, 1) := by decide +kernel
theorem dX3_reset_0 : decode cX3_reset 0 = .ok (.aload_n 0, 1) := by decide +kernel
theorem dX3_reset_1 : decode cX3_reset 1 = .ok (.getfield 18, 3) := by decide +kernel
theorem dX3_reset_4 : decode cX3_reset 4 = .ok (.iconst 0, 1) := by decide +kernel
theorem dX3_reset_5 : decode cX3_reset 5 = .ok (.invokestatic 41, 3) := by decide +kernel
theorem dX3_reset_8 : decode cX3_reset 8 = .ok (.aload_n 0, 1) := by decide +kernel
theorem dX3_reset_9 : decode cX3_reset 9 = .ok (.getfield 28, 3) := by decide +kernel
theorem dX3_reset_12 : decode cX3_reset 12 = .ok (.iconst 0, 1) := by decide +kernel
theorem dX3_reset_13 : decode cX3_reset 13 = .ok (.invokestatic 41, 3) := by decide +kernel
theorem dX3_reset_16 : decode cX3_reset 16 = .ok (.aload_n 0, 1) := by decide +kernel
theorem dX3_reset_17 : decode cX3_reset 17 = .ok (.iconst (-1), 1) := by decide +kernel
theorem dX3_reset_18 : decode cX3_reset 18 = .ok (.putfield 31, 3) := by decide +kernel
theorem dX3_reset_21 : decode cX3_reset 21 = .ok (.aload_n 0, 1) := by decide +kernel
theorem dX3_reset_22 : decode cX3_reset 22 = .ok (.iconst 0, 1) := by decide +kernel
theorem dX3_reset_23 : decode cX3_reset 23 = .ok (.putfield 47, 3) := by decide +kernel
theorem dX3_reset_26 : decode cX3_reset 26 = .ok (.aload_n 0, 1) := by decide +kernel
theorem dX3_reset_27 : decode cX3_reset 27 = .ok (.iconst (-1), 1) := by decide +kernel
theorem dX3_reset_28 : decode cX3_reset 28 = .ok (.putfield 35, 3) := by decide +kernel
theorem dX3_reset_31 : decode cX3_reset 31 = .ok (.aload_n 0, 1) := by decide +kernel
theorem dX3_reset_32 : decode cX3_reset 32 = .ok (.sipush 255, 3) := by decide +kernel
theorem dX3_reset_35 : decode cX3_reset 35 = .ok (.putfield 38, 3) := by decide +kernel
theorem dX3_reset_38 : decode cX3_reset 38 = .ok (.return_, 1) := by decide +kernel
theorem dX3_ownName_0 : decode cX3_ownName 0 = .ok (.aload_n 0, 1) := by decide +kernel
theorem dX3_ownName_1 : decode cX3_ownName 1 = .ok (.getfield 31, 3) := by decide +kernel
theorem dX3_ownName_4 : decode cX3_ownName 4 = .ok (.ifCond .lt 32, 3) := by decide +kernel
theorem dX3_ownName_7 : decode cX3_ownName 7 = .ok (.aload_n 0, 1) := by decide +kernel
theorem dX3_ownName_8 : decode cX3_ownName 8 = .ok (.getfield 31, 3) := by decide +kernel
theorem dX3_ownName_11 : decode cX3_ownName 11 = .ok (.aload_n 0, 1) := by decide +kernel
theorem dX3_ownName_12 : decode cX3_ownName 12 = .ok (.getfield 12, 3) := by decide +kernel
theorem dX3_ownName_15 : decode cX3_ownName 15 = .ok (.getfield 51, 3) := by decide +kernel
theorem dX3_ownName_18 : decode cX3_ownName 18 = .ok (.if_icmp .ge 18, 3) := by decide +kernel
theorem dX3_ownName_21 : decode cX3_ownName 21 = .ok (.aload_n 0, 1) := by decide +kernel
theorem dX3_ownName_22 : decode cX3_ownName 22 = .ok (.getfield 12, 3) := by decide +kernel
theorem dX3_ownName_25 : decode cX3_ownName 25 = .ok (.getfield 54, 3) := by decide +kernel
theorem dX3_ownName_28 : decode cX3_ownName 28 = .ok (.aload_n 0, 1) := by decide +kernel
theorem dX3_ownName_29 : decode cX3_ownName 29 = .ok (.getfield 31, 3) := by decide +kernel
theorem dX3_ownName_32 : decode cX3_ownName 32 = .ok (.iaload, 1) := by decide +kernel
theorem dX3_ownName_33 : decode cX3_ownName 33 = .ok (.goto 4, 3) := by decide +kernel
theorem dX3_ownName_36 : decode cX3_ownName 36 = .ok (.iconst 0, 1) := by decide +kernel
theorem dX3_ownName_37 : decode cX3_ownName 37 = .ok (.ireturn, 1) := by decide +kernel
theorem dX3_following_0 : decode cX3_following 0 = .ok (.aload_n 0, 1) := by decide +kernel
theorem dX3_following_1 : decode cX3_following 1 = .ok (.getfield 31, 3) := by decide +kernel
theorem dX3_following_4 : decode cX3_following 4 = .ok (.ifCond .lt 58, 3) := by decide +kernel
theorem dX3_following_7 : decode cX3_following 7 = .ok (.aload_n 0, 1) := by decide +kernel
theorem dX3_following_8 : decode cX3_following 8 = .ok (.getfield 31, 3) := by decide +kernel
theorem dX3_following_11 : decode cX3_following 11 = .ok (.aload_n 0, 1) := by decide +kernel
theorem dX3_following_12 : decode cX3_following 12 = .ok (.getfield 12, 3) := by decide +kernel
theorem dX3_following_15 : decode cX3_following 15 = .ok (.getfield 51, 3) := by decide +kernel
theorem dX3_following_18 : decode cX3_following 18 = .ok (.if_icmp .ge 44, 3) := by decide +kernel
theorem dX3_following_21 : decode cX3_following 21 = .ok (.aload_n 0, 1) := by decide +kernel
theorem dX3_following_22 : decode cX3_following 22 = .ok (.getfield 12, 3) := by decide +kernel
theorem dX3_following_25 : decode cX3_following 25 = .ok (.getfield 57, 3) := by decide +kernel
theorem dX3_following_28 : decode cX3_following 28 = .ok (.aload_n 0, 1) := by decide +kernel
theorem dX3_following_29 : decode cX3_following 29 = .ok (.getfield 31, 3) := by decide +kernel
theorem dX3_following_32 : decode cX3_following 32 = .ok (.iaload, 1) := by decide +kernel
theorem dX3_following_33 : decode cX3_following 33 = .ok (.ifCond .le 29, 3) := by decide +kernel
theorem dX3_following_36 : decode cX3_following 36 = .ok (.aload_n 0, 1) := by decide +kernel
theorem dX3_following_37 : decode cX3_following 37 = .ok (.getfield 12, 3) := by decide +kernel
theorem dX3_following_40 : decode cX3_following 40 = .ok (.aload_n 0, 1) := by decide +kernel
theorem dX3_following_41 : decode cX3_following 41 = .ok (.getfield 12, 3) := by decide +kernel
theorem dX3_following_44 : decode cX3_following 44 = .ok (.getfield 57, 3) := by decide +kernel
theorem dX3_following_47 : decode cX3_following 47 = .ok (.aload_n 0, 1) := by decide +kernel
theorem dX3_following_48 : decode cX3_following 48 = .ok (.getfield 31, 3) := by decide +kernel
theorem dX3_following_51 : decode cX3_following 51 = .ok (.iaload, 1) := by decide +kernel
theorem dX3_following_52 : decode cX3_following 52 = .ok (.invokevirtual 60, 3) := by decide +kernel
theorem dX3_following_55 : decode cX3_following 55 = .ok (.istore_n 1, 1) := by decide +kernel
theorem dX3_following_56 : decode cX3_following 56 = .ok (.iload_n 1, 1) := by decide +kernel
theorem dX3_following_57 : decode cX3_following 57 = .ok (.ifCond .lt 5, 3) := by decide +kernel
theorem dX3_following_60 : decode cX3_following 60 = .ok (.iload_n 1, 1) := by decide +kernel
theorem dX3_following_61 : decode cX3_following 61 = .ok (.ireturn, 1) := by decide +kernel
theorem dX3_following_62 : decode cX3_following 62 = .ok (.aload_n 0, 1) := by decide +kernel
theorem dX3_following_63 : decode cX3_following 63 = .ok (.getfield 31, 3) := by decide +kernel
theorem dX3_following_66 : decode cX3_following 66 = .ok (.iconst 1, 1) := by decide +kernel
theorem dX3_following_67 : decode cX3_following 67 = .ok (.iadd, 1) := by decide +kernel
theorem dX3_following_68 : decode cX3_following 68 = .ok (.aload_n 0, 1) := by decide +kernel
theorem dX3_following_69 : decode cX3_following 69 = .ok (.getfield 12, 3) := by decide +kernel
theorem dX3_following_72 : decode cX3_following 72 = .ok (.getfield 51, 3) := by decide +kernel
theorem dX3_following_75 : decode cX3_following 75 = .ok (.if_icmp .ge 12, 3) := by decide +kernel
theorem dX3_following_78 : decode cX3_following 78 = .ok (.aload_n 0, 1) := by decide +kernel
theorem dX3_following_79 : decode cX3_following 79 = .ok (.getfield 31, 3) := by decide +kernel
theorem dX3_following_82 : decode cX3_following 82 = .ok (.iconst 1, 1) := by decide +kernel
theorem dX3_following_83 : decode cX3_following 83 = .ok (.iadd, 1) := by decide +kernel
theorem dX3_following_84 : decode cX3_following 84 = .ok (.goto 4, 3) := by decide +kernel
theorem dX3_following_87 : decode cX3_following 87 = .ok (.iconst (-1), 1) := by decide +kernel
theorem dX3_following_88 : decode cX3_following 88 = .ok (.ireturn, 1) := by decide +kernel
theorem dX3_arm_0 : decode cX3_arm 0 = .ok (.aload_n 0, 1) := by decide +kernel
theorem dX3_arm_1 : decode cX3_arm 1 = .ok (.iload_n 1, 1) := by decide +kernel
theorem dX3_arm_2 : decode cX3_arm 2 = .ok (.putfield 31, 3) := by decide +kernel
theorem dX3_arm_5 : decode cX3_arm 5 = .ok (.aload_n 0, 1) := by decide +kernel
theorem dX3_arm_6 : decode cX3_arm 6 = .ok (.iconst 1, 1) := by decide +kernel
theorem dX3_arm_7 : decode cX3_arm 7 = .ok (.putfield 47, 3) := by decide +kernel
theorem dX3_arm_10 : decode cX3_arm 10 = .ok (.aload_n 0, 1) := by decide +kernel
theorem dX3_arm_11 : decode cX3_arm 11 = .ok (.iload_n 2, 1) := by decide +kernel
theorem dX3_arm_12 : decode cX3_arm 12 = .ok (.putfield 64, 3) := by decide +kernel
theorem dX3_arm_15 : decode cX3_arm 15 = .ok (.aload_n 0, 1) := by decide +kernel
theorem dX3_arm_16 : decode cX3_arm 16 = .ok (.iconst (-1), 1) := by decide +kernel
theorem dX3_arm_17 : decode cX3_arm 17 = .ok (.putfield 35, 3) := by decide +kernel
theorem dX3_arm_20 : decode cX3_arm 20 = .ok (.return_, 1) := by decide +kernel
theorem dX3_fade_0 : decode cX3_fade 0 = .ok (.aload_n 0, 1) := by decide +kernel
theorem dX3_fade_1 : decode cX3_fade 1 = .ok (.iload_n 1, 1) := by decide +kernel
theorem dX3_fade_2 : decode cX3_fade 2 = .ok (.iload_n 3, 1) := by decide +kernel
theorem dX3_fade_3 : decode cX3_fade 3 = .ok (.invokevirtual 67, 3) := by decide +kernel
theorem dX3_fade_6 : decode cX3_fade 6 = .ok (.istore 4, 2) := by decide +kernel
theorem dX3_fade_8 : decode cX3_fade 8 = .ok (.iload_n 2, 1) := by decide +kernel
theorem dX3_fade_9 : decode cX3_fade 9 = .ok (.iload 4, 2) := by decide +kernel
theorem dX3_fade_11 : decode cX3_fade 11 = .ok (.if_icmp .le 7, 3) := by decide +kernel
theorem dX3_fade_14 : decode cX3_fade 14 = .ok (.iconst 1, 1) := by decide +kernel
theorem dX3_fade_15 : decode cX3_fade 15 = .ok (.goto 4, 3) := by decide +kernel
theorem dX3_fade_18 : decode cX3_fade 18 = .ok (.iconst 0, 1) := by decide +kernel
theorem dX3_fade_19 : decode cX3_fade 19 = .ok (.istore 5, 2) := by decide +kernel
theorem dX3_fade_21 : decode cX3_fade 21 = .ok (.aload_n 0, 1) := by decide +kernel
theorem dX3_fade_22 : decode cX3_fade 22 = .ok (.getfield 22, 3) := by decide +kernel
theorem dX3_fade_25 : decode cX3_fade 25 = .ok (.iload_n 1, 1) := by decide +kernel
theorem dX3_fade_26 : decode cX3_fade 26 = .ok (.iload 4, 2) := by decide +kernel
theorem dX3_fade_28 : decode cX3_fade 28 = .ok (.iastore, 1) := by decide +kernel
theorem dX3_fade_29 : decode cX3_fade 29 = .ok (.aload_n 0, 1) := by decide +kernel
theorem dX3_fade_30 : decode cX3_fade 30 = .ok (.getfield 18, 3) := by decide +kernel
theorem dX3_fade_33 : decode cX3_fade 33 = .ok (.iload_n 1, 1) := by decide +kernel
theorem dX3_fade_34 : decode cX3_fade 34 = .ok (.iload_n 2, 1) := by decide +kernel
theorem dX3_fade_35 : decode cX3_fade 35 = .ok (.iastore, 1) := by decide +kernel
theorem dX3_fade_36 : decode cX3_fade 36 = .ok (.aload_n 0, 1) := by decide +kernel
theorem dX3_fade_37 : decode cX3_fade 37 = .ok (.getfield 25, 3) := by decide +kernel
theorem dX3_fade_40 : decode cX3_fade 40 = .ok (.iload_n 1, 1) := by decide +kernel
theorem dX3_fade_41 : decode cX3_fade 41 = .ok (.iload_n 3, 1) := by decide +kernel
theorem dX3_fade_42 : decode cX3_fade 42 = .ok (.iastore, 1) := by decide +kernel
theorem dX3_fade_43 : decode cX3_fade 43 = .ok (.aload_n 0, 1) := by decide +kernel
theorem dX3_fade_44 : decode cX3_fade 44 = .ok (.getfield 28, 3) := by decide +kernel
theorem dX3_fade_47 : decode cX3_fade 47 = .ok (.iload_n 1, 1) := by decide +kernel
theorem dX3_fade_48 : decode cX3_fade 48 = .ok (.iload 5, 2) := by decide +kernel
theorem dX3_fade_50 : decode cX3_fade 50 = .ok (.ifCond .eq 18, 3) := by decide +kernel
theorem dX3_fade_53 : decode cX3_fade 53 = .ok (.aload_n 0, 1) := by decide +kernel
theorem dX3_fade_54 : decode cX3_fade 54 = .ok (.getfield 12, 3) := by decide +kernel
theorem dX3_fade_57 : decode cX3_fade 57 = .ok (.getfield 71, 3) := by decide +kernel
theorem dX3_fade_60 : decode cX3_fade 60 = .ok (.aload_n 0, 1) := by decide +kernel
theorem dX3_fade_61 : decode cX3_fade 61 = .ok (.getfield 31, 3) := by decide +kernel
theorem dX3_fade_64 : decode cX3_fade 64 = .ok (.iaload, 1) := by decide +kernel
theorem dX3_fade_65 : decode cX3_fade 65 = .ok (.goto 15, 3) := by decide +kernel
theorem dX3_fade_68 : decode cX3_fade 68 = .ok (.aload_n 0, 1) := by decide +kernel
theorem dX3_fade_69 : decode cX3_fade 69 = .ok (.getfield 12, 3) := by decide +kernel
theorem dX3_fade_72 : decode cX3_fade 72 = .ok (.getfield 74, 3) := by decide +kernel
theorem dX3_fade_75 : decode cX3_fade 75 = .ok (.aload_n 0, 1) := by decide +kernel
theorem dX3_fade_76 : decode cX3_fade 76 = .ok (.getfield 31, 3) := by decide +kernel
theorem dX3_fade_79 : decode cX3_fade 79 = .ok (.iaload, 1) := by decide +kernel
theorem dX3_fade_80 : decode cX3_fade 80 = .ok (.iastore, 1) := by decide +kernel
theorem dX3_fade_81 : decode cX3_fade 81 = .ok (.return_, 1) := by decide +kernel
theorem dX3_levelAt_0 : decode cX3_levelAt 0 = .ok (.aload_n 0, 1) := by decide +kernel
theorem dX3_levelAt_1 : decode cX3_levelAt 1 = .ok (.getfield 28, 3) := by decide +kernel
theorem dX3_levelAt_4 : decode cX3_levelAt 4 = .ok (.iload_n 1, 1) := by decide +kernel
theorem dX3_levelAt_5 : decode cX3_levelAt 5 = .ok (.iaload, 1) := by decide +kernel
theorem dX3_levelAt_6 : decode cX3_levelAt 6 = .ok (.istore_n 3, 1) := by decide +kernel
theorem dX3_levelAt_7 : decode cX3_levelAt 7 = .ok (.iload_n 2, 1) := by decide +kernel
theorem dX3_levelAt_8 : decode cX3_levelAt 8 = .ok (.aload_n 0, 1) := by decide +kernel
theorem dX3_levelAt_9 : decode cX3_levelAt 9 = .ok (.getfield 25, 3) := by decide +kernel
theorem dX3_levelAt_12 : decode cX3_levelAt 12 = .ok (.iload_n 1, 1) := by decide +kernel
theorem dX3_levelAt_13 : decode cX3_levelAt 13 = .ok (.iaload, 1) := by decide +kernel
theorem dX3_levelAt_14 : decode cX3_levelAt 14 = .ok (.isub, 1) := by decide +kernel
theorem dX3_levelAt_15 : decode cX3_levelAt 15 = .ok (.istore 4, 2) := by decide +kernel
theorem dX3_levelAt_17 : decode cX3_levelAt 17 = .ok (.iload_n 3, 1) := by decide +kernel
theorem dX3_levelAt_18 : decode cX3_levelAt 18 = .ok (.ifCond .le 9, 3) := by decide +kernel
theorem dX3_levelAt_21 : decode cX3_levelAt 21 = .ok (.iload 4, 2) := by decide +kernel
theorem dX3_levelAt_23 : decode cX3_levelAt 23 = .ok (.iload_n 3, 1) := by decide +kernel
theorem dX3_levelAt_24 : decode cX3_levelAt 24 = .ok (.if_icmp .lt 10, 3) := by decide +kernel
theorem dX3_levelAt_27 : decode cX3_levelAt 27 = .ok (.aload_n 0, 1) := by decide +kernel
theorem dX3_levelAt_28 : decode cX3_levelAt 28 = .ok (.getfield 18, 3) := by decide +kernel
theorem dX3_levelAt_31 : decode cX3_levelAt 31 = .ok (.iload_n 1, 1) := by decide +kernel
theorem dX3_levelAt_32 : decode cX3_levelAt 32 = .ok (.iaload, 1) := by decide +kernel
theorem dX3_levelAt_33 : decode cX3_levelAt 33 = .ok (.ireturn, 1) := by decide +kernel
theorem dX3_levelAt_34 : decode cX3_levelAt 34 = .ok (.aload_n 0, 1) := by decide +kernel
theorem dX3_levelAt_35 : decode cX3_levelAt 35 = .ok (.getfield 18, 3) := by decide +kernel
theorem dX3_levelAt_38 : decode cX3_levelAt 38 = .ok (.iload_n 1, 1) := by decide +kernel
theorem dX3_levelAt_39 : decode cX3_levelAt 39 = .ok (.iaload, 1) := by decide +kernel
theorem dX3_levelAt_40 : decode cX3_levelAt 40 = .ok (.aload_n 0, 1) := by decide +kernel
theorem dX3_levelAt_41 : decode cX3_levelAt 41 = .ok (.getfield 22, 3) := by decide +kernel
theorem dX3_levelAt_44 : decode cX3_levelAt 44 = .ok (.iload_n 1, 1) := by decide +kernel
theorem dX3_levelAt_45 : decode cX3_levelAt 45 = .ok (.iaload, 1) := by decide +kernel
theorem dX3_levelAt_46 : decode cX3_levelAt 46 = .ok (.isub, 1) := by decide +kernel
theorem dX3_levelAt_47 : decode cX3_levelAt 47 = .ok (.istore 5, 2) := by decide +kernel
theorem dX3_levelAt_49 : decode cX3_levelAt 49 = .ok (.aload_n 0, 1) := by decide +kernel
theorem dX3_levelAt_50 : decode cX3_levelAt 50 = .ok (.getfield 22, 3) := by decide +kernel
theorem dX3_levelAt_53 : decode cX3_levelAt 53 = .ok (.iload_n 1, 1) := by decide +kernel
theorem dX3_levelAt_54 : decode cX3_levelAt 54 = .ok (.iaload, 1) := by decide +kernel
theorem dX3_levelAt_55 : decode cX3_levelAt 55 = .ok (.iconst 2, 1) := by decide +kernel
theorem dX3_levelAt_56 : decode cX3_levelAt 56 = .ok (.iload 5, 2) := by decide +kernel
theorem dX3_levelAt_58 : decode cX3_levelAt 58 = .ok (.imul, 1) := by decide +kernel
theorem dX3_levelAt_59 : decode cX3_levelAt 59 = .ok (.iload 4, 2) := by decide +kernel
theorem dX3_levelAt_61 : decode cX3_levelAt 61 = .ok (.imul, 1) := by decide +kernel
theorem dX3_levelAt_62 : decode cX3_levelAt 62 = .ok (.iload_n 3, 1) := by decide +kernel
theorem dX3_levelAt_63 : decode cX3_levelAt 63 = .ok (.iadd, 1) := by decide +kernel
theorem dX3_levelAt_64 : decode cX3_levelAt 64 = .ok (.iconst 2, 1) := by decide +kernel
theorem dX3_levelAt_65 : decode cX3_levelAt 65 = .ok (.iload_n 3, 1) := by decide +kernel
theorem dX3_levelAt_66 : decode cX3_levelAt 66 = .ok (.imul, 1) := by decide +kernel
theorem dX3_levelAt_67 : decode cX3_levelAt 67 = .ok (.invokestatic 77, 3) := by decide +kernel
theorem dX3_levelAt_70 : decode cX3_levelAt 70 = .ok (.iadd, 1) := by decide +kernel
theorem dX3_levelAt_71 : decode cX3_levelAt 71 = .ok (.ireturn, 1) := by decide +kernel
theorem dX3_moving_0 : decode cX3_moving 0 = .ok (.iconst 0, 1) := by decide +kernel
theorem dX3_moving_1 : decode cX3_moving 1 = .ok (.istore_n 2, 1) := by decide +kernel
theorem dX3_moving_2 : decode cX3_moving 2 = .ok (.iconst 0, 1) := by decide +kernel
theorem dX3_moving_3 : decode cX3_moving 3 = .ok (.istore_n 3, 1) := by decide +kernel
theorem dX3_moving_4 : decode cX3_moving 4 = .ok (.iload_n 3, 1) := by decide +kernel
theorem dX3_moving_5 : decode cX3_moving 5 = .ok (.bipush 64, 2) := by decide +kernel
theorem dX3_moving_7 : decode cX3_moving 7 = .ok (.if_icmp .ge 27, 3) := by decide +kernel
theorem dX3_moving_10 : decode cX3_moving 10 = .ok (.aload_n 0, 1) := by decide +kernel
theorem dX3_moving_11 : decode cX3_moving 11 = .ok (.iload_n 3, 1) := by decide +kernel
theorem dX3_moving_12 : decode cX3_moving 12 = .ok (.iload_n 1, 1) := by decide +kernel
theorem dX3_moving_13 : decode cX3_moving 13 = .ok (.invokevirtual 67, 3) := by decide +kernel
theorem dX3_moving_16 : decode cX3_moving 16 = .ok (.aload_n 0, 1) := by decide +kernel
theorem dX3_moving_17 : decode cX3_moving 17 = .ok (.getfield 18, 3) := by decide +kernel
theorem dX3_moving_20 : decode cX3_moving 20 = .ok (.iload_n 3, 1) := by decide +kernel
theorem dX3_moving_21 : decode cX3_moving 21 = .ok (.iaload, 1) := by decide +kernel
theorem dX3_moving_22 : decode cX3_moving 22 = .ok (.if_icmp .eq 6, 3) := by decide +kernel
theorem dX3_moving_25 : decode cX3_moving 25 = .ok (.iinc 2 1, 3) := by decide +kernel
theorem dX3_moving_28 : decode cX3_moving 28 = .ok (.iinc 3 1, 3) := by decide +kernel
theorem dX3_moving_31 : decode cX3_moving 31 = .ok (.goto (-27), 3) := by decide +kernel
theorem dX3_moving_34 : decode cX3_moving 34 = .ok (.iload_n 2, 1) := by decide +kernel
theorem dX3_moving_35 : decode cX3_moving 35 = .ok (.ireturn, 1) := by decide +kernel
theorem dX4_init_0 : decode cX4_init 0 = .ok (.aload_n 0, 1) := by decide +kernel
theorem dX4_init_1 : decode cX4_init 1 = .ok (.invokespecial 3, 3) := by decide +kernel
theorem dX4_init_4 : decode cX4_init 4 = .ok (.aload_n 0, 1) := by decide +kernel
theorem dX4_init_5 : decode cX4_init 5 = .ok (.bipush 8, 2) := by decide +kernel
theorem dX4_init_7 : decode cX4_init 7 = .ok (.newarray .int, 2) := by decide +kernel
theorem dX4_init_9 : decode cX4_init 9 = .ok (.putfield 9, 3) := by decide +kernel
theorem dX4_init_12 : decode cX4_init 12 = .ok (.aload_n 0, 1) := by decide +kernel
theorem dX4_init_13 : decode cX4_init 13 = .ok (.bipush 40, 2) := by decide +kernel
theorem dX4_init_15 : decode cX4_init 15 = .ok (.newarray .int, 2) := by decide +kernel
theorem dX4_init_17 : decode cX4_init 17 = .ok (.putfield 15, 3) := by decide +kernel
theorem dX4_init_20 : decode cX4_init 20 = .ok (.aload_n 0, 1) := by decide +kernel
theorem dX4_init_21 : decode cX4_init 21 = .ok (.bipush 40, 2) := by decide +kernel
theorem dX4_init_23 : decode cX4_init 23 = .ok (.newarray .int, 2) := by decide +kernel
theorem dX4_init_25 : decode cX4_init 25 = .ok (.putfield 18, 3) := by decide +kernel
theorem dX4_init_28 : decode cX4_init 28 = .ok (.aload_n 0, 1) := by decide +kernel
theorem dX4_init_29 : decode cX4_init 29 = .ok (.sipush 1200, 3) := by decide +kernel
theorem dX4_init_32 : decode cX4_init 32 = .ok (.newarray .int, 2) := by decide +kernel
theorem dX4_init_34 : decode cX4_init 34 = .ok (.putfield 21, 3) := by decide +kernel
theorem dX4_init_37 : decode cX4_init 37 = .ok (.aload_n 0, 1) := by decide +kernel
theorem dX4_init_38 : decode cX4_init 38 = .ok (.iconst 4, 1) := by decide +kernel
theorem dX4_init_39 : decode cX4_init 39 = .ok (.newarray .boolean, 2) := by decide +kernel
theorem dX4_init_41 : decode cX4_init 41 = .ok (.putfield 24, 3) := by decide +kernel
theorem dX4_init_44 : decode cX4_init 44 = .ok (.return_, 1) := by decide +kernel
theorem dX4_build_0 : decode cX4_build 0 = .ok (.iconst 0, 1) := by decide +kernel
theorem dX4_build_1 : decode cX4_build 1 = .ok (.istore 4, 2) := by decide +kernel
theorem dX4_build_3 : decode cX4_build 3 = .ok (.iload 4, 2) := by decide +kernel
theorem dX4_build_5 : decode cX4_build 5 = .ok (.aload_n 0, 1) := by decide +kernel
theorem dX4_build_6 : decode cX4_build 6 = .ok (.getfield 18, 3) := by decide +kernel
theorem dX4_build_9 : decode cX4_build 9 = .ok (.iload_n 1, 1) := by decide +kernel
theorem dX4_build_10 : decode cX4_build 10 = .ok (.iaload, 1) := by decide +kernel
theorem dX4_build_11 : decode cX4_build 11 = .ok (.if_icmp .ge 26, 3) := by decide +kernel
theorem dX4_build_14 : decode cX4_build 14 = .ok (.aload_n 0, 1) := by decide +kernel
theorem dX4_build_15 : decode cX4_build 15 = .ok (.getfield 21, 3) := by decide +kernel
theorem dX4_build_18 : decode cX4_build 18 = .ok (.iload_n 1, 1) := by decide +kernel
theorem dX4_build_19 : decode cX4_build 19 = .ok (.bipush 30, 2) := by decide +kernel
theorem dX4_build_21 : decode cX4_build 21 = .ok (.imul, 1) := by decide +kernel
theorem dX4_build_22 : decode cX4_build 22 = .ok (.iload 4, 2) := by decide +kernel
theorem dX4_build_24 : decode cX4_build 24 = .ok (.iadd, 1) := by decide +kernel
theorem dX4_build_25 : decode cX4_build 25 = .ok (.iaload, 1) := by decide +kernel
theorem dX4_build_26 : decode cX4_build 26 = .ok (.ifCond .eq 5, 3) := by decide +kernel
theorem dX4_build_29 : decode cX4_build 29 = .ok (.iconst 0, 1) := by decide +kernel
theorem dX4_build_30 : decode cX4_build 30 = .ok (.ireturn, 1) := by decide +kernel
theorem dX4_build_31 : decode cX4_build 31 = .ok (.iinc 4 1, 3) := by decide +kernel
theorem dX4_build_34 : decode cX4_build 34 = .ok (.goto (-31), 3) := by decide +kernel
theorem dX4_build_37 : decode cX4_build 37 = .ok (.aload_n 0, 1) := by decide +kernel
theorem dX4_build_38 : decode cX4_build 38 = .ok (.getfield 15, 3) := by decide +kernel
theorem dX4_build_41 : decode cX4_build 41 = .ok (.iload_n 1, 1) := by decide +kernel
theorem dX4_build_42 : decode cX4_build 42 = .ok (.iload_n 2, 1) := by decide +kernel
theorem dX4_build_43 : decode cX4_build 43 = .ok (.iastore, 1) := by decide +kernel
theorem dX4_build_44 : decode cX4_build 44 = .ok (.aload_n 0, 1) := by decide +kernel
theorem dX4_build_45 : decode cX4_build 45 = .ok (.getfield 18, 3) := by decide +kernel
theorem dX4_build_48 : decode cX4_build 48 = .ok (.iload_n 1, 1) := by decide +kernel
theorem dX4_build_49 : decode cX4_build 49 = .ok (.iload_n 3, 1) := by decide +kernel
theorem dX4_build_50 : decode cX4_build 50 = .ok (.iastore, 1) := by decide +kernel
theorem dX4_build_51 : decode cX4_build 51 = .ok (.iconst 1, 1) := by decide +kernel
theorem dX4_build_52 : decode cX4_build 52 = .ok (.ireturn, 1) := by decide +kernel
theorem dX4_mark_0 : decode cX4_mark 0 = .ok (.iconst 0, 1) := by decide +kernel
theorem dX4_mark_1 : decode cX4_mark 1 = .ok (.istore 4, 2) := by decide +kernel
theorem dX4_mark_3 : decode cX4_mark 3 = .ok (.iload 4, 2) := by decide +kernel
theorem dX4_mark_5 : decode cX4_mark 5 = .ok (.iload_n 2, 1) := by decide +kernel
theorem dX4_mark_6 : decode cX4_mark 6 = .ok (.if_icmp .ge 31, 3) := by decide +kernel
theorem dX4_mark_9 : decode cX4_mark 9 = .ok (.iload_n 1, 1) := by decide +kernel
theorem dX4_mark_10 : decode cX4_mark 10 = .ok (.iload 4, 2) := by decide +kernel
theorem dX4_mark_12 : decode cX4_mark 12 = .ok (.iadd, 1) := by decide +kernel
theorem dX4_mark_13 : decode cX4_mark 13 = .ok (.aload_n 0, 1) := by decide +kernel
theorem dX4_mark_14 : decode cX4_mark 14 = .ok (.getfield 21, 3) := by decide +kernel
theorem dX4_mark_17 : decode cX4_mark 17 = .ok (.arraylength, 1) := by decide +kernel
theorem dX4_mark_18 : decode cX4_mark 18 = .ok (.if_icmp .ge 19, 3) := by decide +kernel
theorem dX4_mark_21 : decode cX4_mark 21 = .ok (.aload_n 0, 1) := by decide +kernel
theorem dX4_mark_22 : decode cX4_mark 22 = .ok (.getfield 21, 3) := by decide +kernel
theorem dX4_mark_25 : decode cX4_mark 25 = .ok (.iload_n 1, 1) := by decide +kernel
theorem dX4_mark_26 : decode cX4_mark 26 = .ok (.iload 4, 2) := by decide +kernel
theorem dX4_mark_28 : decode cX4_mark 28 = .ok (.iadd, 1) := by decide +kernel
theorem dX4_mark_29 : decode cX4_mark 29 = .ok (.iload_n 3, 1) := by decide +kernel
theorem dX4_mark_30 : decode cX4_mark 30 = .ok (.iastore, 1) := by decide +kernel
theorem dX4_mark_31 : decode cX4_mark 31 = .ok (.iinc 4 1, 3) := by decide +kernel
theorem dX4_mark_34 : decode cX4_mark 34 = .ok (.goto (-31), 3) := by decide +kernel
theorem dX4_mark_37 : decode cX4_mark 37 = .ok (.return_, 1) := by decide +kernel
theorem dX4_best_0 : decode cX4_best 0 = .ok (.aload_n 0, 1) := by decide +kernel
theorem dX4_best_1 : decode cX4_best 1 = .ok (.iload_n 1, 1) := by decide +kernel
theorem dX4_best_2 : decode cX4_best 2 = .ok (.invokevirtual 28, 3) := by decide +kernel
theorem dX4_best_5 : decode cX4_best 5 = .ok (.istore 4, 2) := by decide +kernel
theorem dX4_best_7 : decode cX4_best 7 = .ok (.iconst (-1), 1) := by decide +kernel
theorem dX4_best_8 : decode cX4_best 8 = .ok (.istore 5, 2) := by decide +kernel
theorem dX4_best_10 : decode cX4_best 10 = .ok (.ldc 34, 2) := by decide +kernel
theorem dX4_best_12 : decode cX4_best 12 = .ok (.istore 6, 2) := by decide +kernel
theorem dX4_best_14 : decode cX4_best 14 = .ok (.iconst 0, 1) := by decide +kernel
theorem dX4_best_15 : decode cX4_best 15 = .ok (.istore 7, 2) := by decide +kernel
theorem dX4_best_17 : decode cX4_best 17 = .ok (.iload 7, 2) := by decide +kernel
theorem dX4_best_19 : decode cX4_best 19 = .ok (.bipush 40, 2) := by decide +kernel
theorem dX4_best_21 : decode cX4_best 21 = .ok (.if_icmp .ge 161, 3) := by decide +kernel
theorem dX4_best_24 : decode cX4_best 24 = .ok (.aload_n 0, 1) := by decide +kernel
theorem dX4_best_25 : decode cX4_best 25 = .ok (.getfield 18, 3) := by decide +kernel
theorem dX4_best_28 : decode cX4_best 28 = .ok (.iload 7, 2) := by decide +kernel
theorem dX4_best_30 : decode cX4_best 30 = .ok (.iaload, 1) := by decide +kernel
theorem dX4_best_31 : decode cX4_best 31 = .ok (.iload_n 3, 1) := by decide +kernel
theorem dX4_best_32 : decode cX4_best 32 = .ok (.if_icmp .lt 144, 3) := by decide +kernel
theorem dX4_best_35 : decode cX4_best 35 = .ok (.aload_n 0, 1) := by decide +kernel
theorem dX4_best_36 : decode cX4_best 36 = .ok (.getfield 15, 3) := by decide +kernel
theorem dX4_best_39 : decode cX4_best 39 = .ok (.iload 7, 2) := by decide +kernel
theorem dX4_best_41 : decode cX4_best 41 = .ok (.iaload, 1) := by decide +kernel
theorem dX4_best_42 : decode cX4_best 42 = .ok (.iload_n 2, 1) := by decide +kernel
theorem dX4_best_43 : decode cX4_best 43 = .ok (.if_icmp .eq 6, 3) := by decide +kernel
theorem dX4_best_46 : decode cX4_best 46 = .ok (.goto 130, 3) := by decide +kernel
theorem dX4_best_49 : decode cX4_best 49 = .ok (.iconst 0, 1) := by decide +kernel
theorem dX4_best_50 : decode cX4_best 50 = .ok (.istore 8, 2) := by decide +kernel
theorem dX4_best_52 : decode cX4_best 52 = .ok (.iconst 0, 1) := by decide +kernel
theorem dX4_best_53 : decode cX4_best 53 = .ok (.istore 9, 2) := by decide +kernel
theorem dX4_best_55 : decode cX4_best 55 = .ok (.iload 9, 2) := by decide +kernel
theorem dX4_best_57 : decode cX4_best 57 = .ok (.aload_n 0, 1) := by decide +kernel
theorem dX4_best_58 : decode cX4_best 58 = .ok (.getfield 18, 3) := by decide +kernel
theorem dX4_best_61 : decode cX4_best 61 = .ok (.iload 7, 2) := by decide +kernel
theorem dX4_best_63 : decode cX4_best 63 = .ok (.iaload, 1) := by decide +kernel
theorem dX4_best_64 : decode cX4_best 64 = .ok (.if_icmp .ge 112, 3) := by decide +kernel
theorem dX4_best_67 : decode cX4_best 67 = .ok (.aload_n 0, 1) := by decide +kernel
theorem dX4_best_68 : decode cX4_best 68 = .ok (.getfield 21, 3) := by decide +kernel
theorem dX4_best_71 : decode cX4_best 71 = .ok (.iload 7, 2) := by decide +kernel
theorem dX4_best_73 : decode cX4_best 73 = .ok (.bipush 30, 2) := by decide +kernel
theorem dX4_best_75 : decode cX4_best 75 = .ok (.imul, 1) := by decide +kernel
theorem dX4_best_76 : decode cX4_best 76 = .ok (.iload 9, 2) := by decide +kernel
theorem dX4_best_78 : decode cX4_best 78 = .ok (.iadd, 1) := by decide +kernel
theorem dX4_best_79 : decode cX4_best 79 = .ok (.iaload, 1) := by decide +kernel
theorem dX4_best_80 : decode cX4_best 80 = .ok (.ifCond .ne 22, 3) := by decide +kernel
theorem dX4_best_83 : decode cX4_best 83 = .ok (.iload 4, 2) := by decide +kernel
theorem dX4_best_85 : decode cX4_best 85 = .ok (.iload 7, 2) := by decide +kernel
theorem dX4_best_87 : decode cX4_best 87 = .ok (.iload 9, 2) := by decide +kernel
theorem dX4_best_89 : decode cX4_best 89 = .ok (.iadd, 1) := by decide +kernel
theorem dX4_best_90 : decode cX4_best 90 = .ok (.iconst 3, 1) := by decide +kernel
theorem dX4_best_91 : decode cX4_best 91 = .ok (.iand, 1) := by decide +kernel
theorem dX4_best_92 : decode cX4_best 92 = .ok (.ishr, 1) := by decide +kernel
theorem dX4_best_93 : decode cX4_best 93 = .ok (.iconst 1, 1) := by decide +kernel
theorem dX4_best_94 : decode cX4_best 94 = .ok (.iand, 1) := by decide +kernel
theorem dX4_best_95 : decode cX4_best 95 = .ok (.ifCond .eq 7, 3) := by decide +kernel
theorem dX4_best_98 : decode cX4_best 98 = .ok (.iconst 1, 1) := by decide +kernel
theorem dX4_best_99 : decode cX4_best 99 = .ok (.goto 4, 3) := by decide +kernel
theorem dX4_best_102 : decode cX4_best 102 = .ok (.iconst 0, 1) := by decide +kernel
theorem dX4_best_103 : decode cX4_best 103 = .ok (.istore 10, 2) := by decide +kernel
theorem dX4_best_105 : decode cX4_best 105 = .ok (.iload 10, 2) := by decide +kernel
theorem dX4_best_107 : decode cX4_best 107 = .ok (.ifCond .eq 10, 3) := by decide +kernel
theorem dX4_best_110 : decode cX4_best 110 = .ok (.iload 8, 2) := by decide +kernel
theorem dX4_best_112 : decode cX4_best 112 = .ok (.iconst 1, 1) := by decide +kernel
theorem dX4_best_113 : decode cX4_best 113 = .ok (.iadd, 1) := by decide +kernel
theorem dX4_best_114 : decode cX4_best 114 = .ok (.goto 4, 3) := by decide +kernel
theorem dX4_best_117 : decode cX4_best 117 = .ok (.iconst 0, 1) := by decide +kernel
theorem dX4_best_118 : decode cX4_best 118 = .ok (.istore 8, 2) := by decide +kernel
theorem dX4_best_120 : decode cX4_best 120 = .ok (.iload 8, 2) := by decide +kernel
theorem dX4_best_122 : decode cX4_best 122 = .ok (.iload_n 3, 1) := by decide +kernel
theorem dX4_best_123 : decode cX4_best 123 = .ok (.if_icmp .ge 6, 3) := by decide +kernel
theorem dX4_best_126 : decode cX4_best 126 = .ok (.goto 44, 3) := by decide +kernel
theorem dX4_best_129 : decode cX4_best 129 = .ok (.aload_n 0, 1) := by decide +kernel
theorem dX4_best_130 : decode cX4_best 130 = .ok (.iload 7, 2) := by decide +kernel
theorem dX4_best_132 : decode cX4_best 132 = .ok (.iload 9, 2) := by decide +kernel
theorem dX4_best_134 : decode cX4_best 134 = .ok (.iload_n 3, 1) := by decide +kernel
theorem dX4_best_135 : decode cX4_best 135 = .ok (.isub, 1) := by decide +kernel
theorem dX4_best_136 : decode cX4_best 136 = .ok (.iconst 1, 1) := by decide +kernel
theorem dX4_best_137 : decode cX4_best 137 = .ok (.iadd, 1) := by decide +kernel
theorem dX4_best_138 : decode cX4_best 138 = .ok (.iload 9, 2) := by decide +kernel
theorem dX4_best_140 : decode cX4_best 140 = .ok (.invokevirtual 35, 3) := by decide +kernel
theorem dX4_best_143 : decode cX4_best 143 = .ok (.istore 11, 2) := by decide +kernel
theorem dX4_best_145 : decode cX4_best 145 = .ok (.iload 11, 2) := by decide +kernel
theorem dX4_best_147 : decode cX4_best 147 = .ok (.iload 6, 2) := by decide +kernel
theorem dX4_best_149 : decode cX4_best 149 = .ok (.if_icmp .ge 21, 3) := by decide +kernel
theorem dX4_best_152 : decode cX4_best 152 = .ok (.iload 11, 2) := by decide +kernel
theorem dX4_best_154 : decode cX4_best 154 = .ok (.istore 6, 2) := by decide +kernel
theorem dX4_best_156 : decode cX4_best 156 = .ok (.iload 7, 2) := by decide +kernel
theorem dX4_best_158 : decode cX4_best 158 = .ok (.bipush 30, 2) := by decide +kernel
theorem dX4_best_160 : decode cX4_best 160 = .ok (.imul, 1) := by decide +kernel
theorem dX4_best_161 : decode cX4_best 161 = .ok (.iload 9, 2) := by decide +kernel
theorem dX4_best_163 : decode cX4_best 163 = .ok (.iadd, 1) := by decide +kernel
theorem dX4_best_164 : decode cX4_best 164 = .ok (.iload_n 3, 1) := by decide +kernel
theorem dX4_best_165 : decode cX4_best 165 = .ok (.isub, 1) := by decide +kernel
theorem dX4_best_166 : decode cX4_best 166 = .ok (.iconst 1, 1) := by decide +kernel
theorem dX4_best_167 : decode cX4_best 167 = .ok (.iadd, 1) := by decide +kernel
theorem dX4_best_168 : decode cX4_best 168 = .ok (.istore 5, 2) := by decide +kernel
theorem dX4_best_170 : decode cX4_best 170 = .ok (.iinc 9 1, 3) := by decide +kernel
theorem dX4_best_173 : decode cX4_best 173 = .ok (.goto (-118), 3) := by decide +kernel
theorem dX4_best_176 : decode cX4_best 176 = .ok (.iinc 7 1, 3) := by decide +kernel
theorem dX4_best_179 : decode cX4_best 179 = .ok (.goto (-162), 3) := by decide +kernel
theorem dX4_best_182 : decode cX4_best 182 = .ok (.iload 5, 2) := by decide +kernel
theorem dX4_best_184 : decode cX4_best 184 = .ok (.ireturn, 1) := by decide +kernel
theorem dX4_ownersFor_0 : decode cX4_ownersFor 0 = .ok (.aload_n 0, 1) := by decide +kernel
theorem dX4_ownersFor_1 : decode cX4_ownersFor 1 = .ok (.getfield 24, 3) := by decide +kernel
theorem dX4_ownersFor_4 : decode cX4_ownersFor 4 = .ok (.iload_n 1, 1) := by decide +kernel
theorem dX4_ownersFor_5 : decode cX4_ownersFor 5 = .ok (.baload, 1) := by decide +kernel
theorem dX4_ownersFor_6 : decode cX4_ownersFor 6 = .ok (.ifCond .eq 7, 3) := by decide +kernel
theorem dX4_ownersFor_9 : decode cX4_ownersFor 9 = .ok (.iconst 1, 1) := by decide +kernel
theorem dX4_ownersFor_10 : decode cX4_ownersFor 10 = .ok (.iload_n 1, 1) := by decide +kernel
theorem dX4_ownersFor_11 : decode cX4_ownersFor 11 = .ok (.ishl, 1) := by decide +kernel
theorem dX4_ownersFor_12 : decode cX4_ownersFor 12 = .ok (.ireturn, 1) := by decide +kernel
theorem dX4_ownersFor_13 : decode cX4_ownersFor 13 = .ok (.iconst 0, 1) := by decide +kernel
theorem dX4_ownersFor_14 : decode cX4_ownersFor 14 = .ok (.istore_n 2, 1) := by decide +kernel
theorem dX4_ownersFor_15 : decode cX4_ownersFor 15 = .ok (.iconst 0, 1) := by decide +kernel
theorem dX4_ownersFor_16 : decode cX4_ownersFor 16 = .ok (.istore_n 3, 1) := by decide +kernel
theorem dX4_ownersFor_17 : decode cX4_ownersFor 17 = .ok (.iload_n 3, 1) := by decide +kernel
theorem dX4_ownersFor_18 : decode cX4_ownersFor 18 = .ok (.iconst 4, 1) := by decide +kernel
theorem dX4_ownersFor_19 : decode cX4_ownersFor 19 = .ok (.if_icmp .ge 24, 3) := by decide +kernel
theorem dX4_ownersFor_22 : decode cX4_ownersFor 22 = .ok (.aload_n 0, 1) := by decide +kernel
theorem dX4_ownersFor_23 : decode cX4_ownersFor 23 = .ok (.getfield 24, 3) := by decide +kernel
theorem dX4_ownersFor_26 : decode cX4_ownersFor 26 = .ok (.iload_n 3, 1) := by decide +kernel
theorem dX4_ownersFor_27 : decode cX4_ownersFor 27 = .ok (.baload, 1) := by decide +kernel
theorem dX4_ownersFor_28 : decode cX4_ownersFor 28 = .ok (.ifCond .ne 9, 3) := by decide +kernel
theorem dX4_ownersFor_31 : decode cX4_ownersFor 31 = .ok (.iload_n 2, 1) := by decide +kernel
theorem dX4_ownersFor_32 : decode cX4_ownersFor 32 = .ok (.iconst 1, 1) := by decide +kernel
theorem dX4_ownersFor_33 : decode cX4_ownersFor 33 = .ok (.iload_n 3, 1) := by decide +kernel
theorem dX4_ownersFor_34 : decode cX4_ownersFor 34 = .ok (.ishl, 1) := by decide +kernel
theorem dX4_ownersFor_35 : decode cX4_ownersFor 35 = .ok (.ior, 1) := by decide +kernel
theorem dX4_ownersFor_36 : decode cX4_ownersFor 36 = .ok (.istore_n 2, 1) := by decide +kernel
theorem dX4_ownersFor_37 : decode cX4_ownersFor 37 = .ok (.iinc 3 1, 3) := by decide +kernel
theorem dX4_ownersFor_40 : decode cX4_ownersFor 40 = .ok (.goto (-23), 3) := by decide +kernel
theorem dX4_ownersFor_43 : decode cX4_ownersFor 43 = .ok (.iload_n 2, 1) := by decide +kernel
theorem dX4_ownersFor_44 : decode cX4_ownersFor 44 = .ok (.ireturn, 1) := by decide +kernel
theorem dX4_badness_0 : decode cX4_badness 0 = .ok (.iconst 0, 1) := by decide +kernel
theorem dX4_badness_1 : decode cX4_badness 1 = .ok (.istore 4, 2) := by decide +kernel
theorem dX4_badness_3 : decode cX4_badness 3 = .ok (.aload_n 0, 1) := by decide +kernel
theorem dX4_badness_4 : decode cX4_badness 4 = .ok (.iload_n 1, 1) := by decide +kernel
theorem dX4_badness_5 : decode cX4_badness 5 = .ok (.iload_n 2, 1) := by decide +kernel
theorem dX4_badness_6 : decode cX4_badness 6 = .ok (.iconst 1, 1) := by decide +kernel
theorem dX4_badness_7 : decode cX4_badness 7 = .ok (.isub, 1) := by decide +kernel
theorem dX4_badness_8 : decode cX4_badness 8 = .ok (.invokevirtual 39, 3) := by decide +kernel
theorem dX4_badness_11 : decode cX4_badness 11 = .ok (.ifCond .eq 17, 3) := by decide +kernel
theorem dX4_badness_14 : decode cX4_badness 14 = .ok (.aload_n 0, 1) := by decide +kernel
theorem dX4_badness_15 : decode cX4_badness 15 = .ok (.iload_n 1, 1) := by decide +kernel
theorem dX4_badness_16 : decode cX4_badness 16 = .ok (.iload_n 2, 1) := by decide +kernel
theorem dX4_badness_17 : decode cX4_badness 17 = .ok (.iconst 2, 1) := by decide +kernel
theorem dX4_badness_18 : decode cX4_badness 18 = .ok (.isub, 1) := by decide +kernel
theorem dX4_badness_19 : decode cX4_badness 19 = .ok (.invokevirtual 39, 3) := by decide +kernel
theorem dX4_badness_22 : decode cX4_badness 22 = .ok (.ifCond .ne 6, 3) := by decide +kernel
theorem dX4_badness_25 : decode cX4_badness 25 = .ok (.iinc 4 1, 3) := by decide +kernel
theorem dX4_badness_28 : decode cX4_badness 28 = .ok (.aload_n 0, 1) := by decide +kernel
theorem dX4_badness_29 : decode cX4_badness 29 = .ok (.iload_n 1, 1) := by decide +kernel
theorem dX4_badness_30 : decode cX4_badness 30 = .ok (.iload_n 3, 1) := by decide +kernel
theorem dX4_badness_31 : decode cX4_badness 31 = .ok (.iconst 1, 1) := by decide +kernel
theorem dX4_badness_32 : decode cX4_badness 32 = .ok (.iadd, 1) := by decide +kernel
theorem dX4_badness_33 : decode cX4_badness 33 = .ok (.invokevirtual 39, 3) := by decide +kernel
theorem dX4_badness_36 : decode cX4_badness 36 = .ok (.ifCond .eq 17, 3) := by decide +kernel
theorem dX4_badness_39 : decode cX4_badness 39 = .ok (.aload_n 0, 1) := by decide +kernel
theorem dX4_badness_40 : decode cX4_badness 40 = .ok (.iload_n 1, 1) := by decide +kernel
theorem dX4_badness_41 : decode cX4_badness 41 = .ok (.iload_n 3, 1) := by decide +kernel
theorem dX4_badness_42 : decode cX4_badness 42 = .ok (.iconst 2, 1) := by decide +kernel
theorem dX4_badness_43 : decode cX4_badness 43 = .ok (.iadd, 1) := by decide +kernel
theorem dX4_badness_44 : decode cX4_badness 44 = .ok (.invokevirtual 39, 3) := by decide +kernel
theorem dX4_badness_47 : decode cX4_badness 47 = .ok (.ifCond .ne 6, 3) := by decide +kernel
theorem dX4_badness_50 : decode cX4_badness 50 = .ok (.iinc 4 1, 3) := by decide +kernel
theorem dX4_badness_53 : decode cX4_badness 53 = .ok (.sipush 1000, 3) := by decide +kernel
theorem dX4_badness_56 : decode cX4_badness 56 = .ok (.iload 4, 2) := by decide +kernel
theorem dX4_badness_58 : decode cX4_badness 58 = .ok (.imul, 1) := by decide +kernel
theorem dX4_badness_59 : decode cX4_badness 59 = .ok (.iconst 3, 1) := by decide +kernel
theorem dX4_badness_60 : decode cX4_badness 60 = .ok (.iload_n 1, 1) := by decide +kernel
theorem dX4_badness_61 : decode cX4_badness 61 = .ok (.imul, 1) := by decide +kernel
theorem dX4_badness_62 : decode cX4_badness 62 = .ok (.iadd, 1) := by decide +kernel
theorem dX4_badness_63 : decode cX4_badness 63 = .ok (.iload_n 2, 1) := by decide +kernel
theorem dX4_badness_64 : decode cX4_badness 64 = .ok (.iload_n 3, 1) := by decide +kernel
theorem dX4_badness_65 : decode cX4_badness 65 = .ok (.iadd, 1) := by decide +kernel
theorem dX4_badness_66 : decode cX4_badness 66 = .ok (.aload_n 0, 1) := by decide +kernel
theorem dX4_badness_67 : decode cX4_badness 67 = .ok (.getfield 18, 3) := by decide +kernel
theorem dX4_badness_70 : decode cX4_badness 70 = .ok (.iload_n 1, 1) := by decide +kernel
theorem dX4_badness_71 : decode cX4_badness 71 = .ok (.iaload, 1) := by decide +kernel
theorem dX4_badness_72 : decode cX4_badness 72 = .ok (.iconst 1, 1) := by decide +kernel
theorem dX4_badness_73 : decode cX4_badness 73 = .ok (.isub, 1) := by decide +kernel
theorem dX4_badness_74 : decode cX4_badness 74 = .ok (.isub, 1) := by decide +kernel
theorem dX4_badness_75 : decode cX4_badness 75 = .ok (.invokestatic 43, 3) := by decide +kernel
theorem dX4_badness_78 : decode cX4_badness 78 = .ok (.iadd, 1) := by decide +kernel
theorem dX4_badness_79 : decode cX4_badness 79 = .ok (.ireturn, 1) := by decide +kernel
theorem dX4_isFree_0 : decode cX4_isFree 0 = .ok (.iload_n 2, 1) := by decide +kernel
theorem dX4_isFree_1 : decode cX4_isFree 1 = .ok (.ifCond .lt 31, 3) := by decide +kernel
theorem dX4_isFree_4 : decode cX4_isFree 4 = .ok (.iload_n 2, 1) := by decide +kernel
theorem dX4_isFree_5 : decode cX4_isFree 5 = .ok (.aload_n 0, 1) := by decide +kernel
theorem dX4_isFree_6 : decode cX4_isFree 6 = .ok (.getfield 18, 3) := by decide +kernel
theorem dX4_isFree_9 : decode cX4_isFree 9 = .ok (.iload_n 1, 1) := by decide +kernel
theorem dX4_isFree_10 : decode cX4_isFree 10 = .ok (.iaload, 1) := by decide +kernel
theorem dX4_isFree_11 : decode cX4_isFree 11 = .ok (.if_icmp .ge 21, 3) := by decide +kernel
theorem dX4_isFree_14 : decode cX4_isFree 14 = .ok (.aload_n 0, 1) := by decide +kernel
theorem dX4_isFree_15 : decode cX4_isFree 15 = .ok (.getfield 21, 3) := by decide +kernel
theorem dX4_isFree_18 : decode cX4_isFree 18 = .ok (.iload_n 1, 1) := by decide +kernel
theorem dX4_isFree_19 : decode cX4_isFree 19 = .ok (.bipush 30, 2) := by decide +kernel
theorem dX4_isFree_21 : decode cX4_isFree 21 = .ok (.imul, 1) := by decide +kernel
theorem dX4_isFree_22 : decode cX4_isFree 22 = .ok (.iload_n 2, 1) := by decide +kernel
theorem dX4_isFree_23 : decode cX4_isFree 23 = .ok (.iadd, 1) := by decide +kernel
theorem dX4_isFree_24 : decode cX4_isFree 24 = .ok (.iaload, 1) := by decide +kernel
theorem dX4_isFree_25 : decode cX4_isFree 25 = .ok (.ifCond .ne 7, 3) := by decide +kernel
theorem dX4_isFree_28 : decode cX4_isFree 28 = .ok (.iconst 1, 1) := by decide +kernel
theorem dX4_isFree_29 : decode cX4_isFree 29 = .ok (.goto 4, 3) := by decide +kernel
theorem dX4_isFree_32 : decode cX4_isFree 32 = .ok (.iconst 0, 1) := by decide +kernel
theorem dX4_isFree_33 : decode cX4_isFree 33 = .ok (.ireturn, 1) := by decide +kernel
theorem dX5_init_0 : decode cX5_init 0 = .ok (.aload_n 0, 1) := by decide +kernel
theorem dX5_init_1 : decode cX5_init 1 = .ok (.invokespecial 1, 3) := by decide +kernel
theorem dX5_init_4 : decode cX5_init 4 = .ok (.aload_n 0, 1) := by decide +kernel
theorem dX5_init_5 : decode cX5_init 5 = .ok (.bipush 15, 2) := by decide +kernel
theorem dX5_init_7 : decode cX5_init 7 = .ok (.newarray .int, 2) := by decide +kernel
theorem dX5_init_9 : decode cX5_init 9 = .ok (.putfield 9, 3) := by decide +kernel
theorem dX5_init_12 : decode cX5_init 12 = .ok (.aload_n 0, 1) := by decide +kernel
theorem dX5_init_13 : decode cX5_init 13 = .ok (.bipush 15, 2) := by decide +kernel
theorem dX5_init_15 : decode cX5_init 15 = .ok (.newarray .int, 2) := by decide +kernel
theorem dX5_init_17 : decode cX5_init 17 = .ok (.putfield 13, 3) := by decide +kernel
theorem dX5_init_20 : decode cX5_init 20 = .ok (.aload_n 0, 1) := by decide +kernel
theorem dX5_init_21 : decode cX5_init 21 = .ok (.bipush 9, 2) := by decide +kernel
theorem dX5_init_23 : decode cX5_init 23 = .ok (.newarray .long, 2) := by decide +kernel
theorem dX5_init_25 : decode cX5_init 25 = .ok (.putfield 16, 3) := by decide +kernel
theorem dX5_init_28 : decode cX5_init 28 = .ok (.aload_n 0, 1) := by decide +kernel
theorem dX5_init_29 : decode cX5_init 29 = .ok (.iconst 3, 1) := by decide +kernel
theorem dX5_init_30 : decode cX5_init 30 = .ok (.newarray .long, 2) := by decide +kernel
theorem dX5_init_32 : decode cX5_init 32 = .ok (.putfield 20, 3) := by decide +kernel
theorem dX5_init_35 : decode cX5_init 35 = .ok (.return_, 1) := by decide +kernel
theorem dX5_read_0 : decode cX5_read 0 = .ok (.iconst 0, 1) := by decide +kernel
theorem dX5_read_1 : decode cX5_read 1 = .ok (.istore_n 2, 1) := by decide +kernel
theorem dX5_read_2 : decode cX5_read 2 = .ok (.aload_n 0, 1) := by decide +kernel
theorem dX5_read_3 : decode cX5_read 3 = .ok (.getfield 13, 3) := by decide +kernel
theorem dX5_read_6 : decode cX5_read 6 = .ok (.iconst 0, 1) := by decide +kernel
theorem dX5_read_7 : decode cX5_read 7 = .ok (.invokestatic 23, 3) := by decide +kernel
theorem dX5_read_10 : decode cX5_read 10 = .ok (.aload_n 1, 1) := by decide +kernel
theorem dX5_read_11 : decode cX5_read 11 = .ok (.sipush 4000, 3) := by decide +kernel
theorem dX5_read_14 : decode cX5_read 14 = .ok (.invokevirtual 31, 3) := by decide +kernel
theorem dX5_read_17 : decode cX5_read 17 = .ok (.iconst 0, 1) := by decide +kernel
theorem dX5_read_18 : decode cX5_read 18 = .ok (.istore_n 3, 1) := by decide +kernel
theorem dX5_read_19 : decode cX5_read 19 = .ok (.iload_n 3, 1) := by decide +kernel
theorem dX5_read_20 : decode cX5_read 20 = .ok (.iconst 4, 1) := by decide +kernel
theorem dX5_read_21 : decode cX5_read 21 = .ok (.if_icmp .ge 81, 3) := by decide +kernel
theorem dX5_read_24 : decode cX5_read 24 = .ok (.aload_n 1, 1) := by decide +kernel
theorem dX5_read_25 : decode cX5_read 25 = .ok (.getfield 35, 3) := by decide +kernel
theorem dX5_read_28 : decode cX5_read 28 = .ok (.ifCond .eq 74, 3) := by decide +kernel
theorem dX5_read_31 : decode cX5_read 31 = .ok (.aload_n 1, 1) := by decide +kernel
theorem dX5_read_32 : decode cX5_read 32 = .ok (.getfield 39, 3) := by decide +kernel
theorem dX5_read_35 : decode cX5_read 35 = .ok (.istore 4, 2) := by decide +kernel
theorem dX5_read_37 : decode cX5_read 37 = .ok (.aload_n 1, 1) := by decide +kernel
theorem dX5_read_38 : decode cX5_read 38 = .ok (.iconst 0, 1) := by decide +kernel
theorem dX5_read_39 : decode cX5_read 39 = .ok (.iconst 2, 1) := by decide +kernel
theorem dX5_read_40 : decode cX5_read 40 = .ok (.invokevirtual 42, 3) := by decide +kernel
theorem dX5_read_43 : decode cX5_read 43 = .ok (.istore 5, 2) := by decide +kernel
theorem dX5_read_45 : decode cX5_read 45 = .ok (.aload_n 1, 1) := by decide +kernel
theorem dX5_read_46 : decode cX5_read 46 = .ok (.getfield 46, 3) := by decide +kernel
theorem dX5_read_49 : decode cX5_read 49 = .ok (.ifCond .ne 19, 3) := by decide +kernel
theorem dX5_read_52 : decode cX5_read 52 = .ok (.iload_n 2, 1) := by decide +kernel
theorem dX5_read_53 : decode cX5_read 53 = .ok (.iload 5, 2) := by decide +kernel
theorem dX5_read_55 : decode cX5_read 55 = .ok (.ishr, 1) := by decide +kernel
theorem dX5_read_56 : decode cX5_read 56 = .ok (.iconst 1, 1) := by decide +kernel
theorem dX5_read_57 : decode cX5_read 57 = .ok (.iand, 1) := by decide +kernel
theorem dX5_read_58 : decode cX5_read 58 = .ok (.ifCond .eq 10, 3) := by decide +kernel
theorem dX5_read_61 : decode cX5_read 61 = .ok (.aload_n 1, 1) := by decide +kernel
theorem dX5_read_62 : decode cX5_read 62 = .ok (.iconst 3, 1) := by decide +kernel
theorem dX5_read_63 : decode cX5_read 63 = .ok (.iload 4, 2) := by decide +kernel
theorem dX5_read_65 : decode cX5_read 65 = .ok (.invokevirtual 49, 3) := by decide +kernel
theorem dX5_read_68 : decode cX5_read 68 = .ok (.iload_n 2, 1) := by decide +kernel
theorem dX5_read_69 : decode cX5_read 69 = .ok (.iconst 1, 1) := by decide +kernel
theorem dX5_read_70 : decode cX5_read 70 = .ok (.iload 5, 2) := by decide +kernel
theorem dX5_read_72 : decode cX5_read 72 = .ok (.ishl, 1) := by decide +kernel
theorem dX5_read_73 : decode cX5_read 73 = .ok (.ior, 1) := by decide +kernel
theorem dX5_read_74 : decode cX5_read 74 = .ok (.istore_n 2, 1) := by decide +kernel
theorem dX5_read_75 : decode cX5_read 75 = .ok (.aload_n 1, 1) := by decide +kernel
theorem dX5_read_76 : decode cX5_read 76 = .ok (.bipush 58, 2) := by decide +kernel
theorem dX5_read_78 : decode cX5_read 78 = .ok (.invokevirtual 53, 3) := by decide +kernel
theorem dX5_read_81 : decode cX5_read 81 = .ok (.aload_n 0, 1) := by decide +kernel
theorem dX5_read_82 : decode cX5_read 82 = .ok (.aload_n 1, 1) := by decide +kernel
theorem dX5_read_83 : decode cX5_read 83 = .ok (.iload 5, 2) := by decide +kernel
theorem dX5_read_85 : decode cX5_read 85 = .ok (.iconst 5, 1) := by decide +kernel
theorem dX5_read_86 : decode cX5_read 86 = .ok (.imul, 1) := by decide +kernel
theorem dX5_read_87 : decode cX5_read 87 = .ok (.invokevirtual 57, 3) := by decide +kernel
theorem dX5_read_90 : decode cX5_read 90 = .ok (.aload_n 1, 1) := by decide +kernel
theorem dX5_read_91 : decode cX5_read 91 = .ok (.bipush 59, 2) := by decide +kernel
theorem dX5_read_93 : decode cX5_read 93 = .ok (.invokevirtual 53, 3) := by decide +kernel
theorem dX5_read_96 : decode cX5_read 96 = .ok (.iinc 3 1, 3) := by decide +kernel
theorem dX5_read_99 : decode cX5_read 99 = .ok (.goto (-80), 3) := by decide +kernel
theorem dX5_read_102 : decode cX5_read 102 = .ok (.aload_n 1, 1) := by decide +kernel
theorem dX5_read_103 : decode cX5_read 103 = .ok (.getfield 46, 3) := by decide +kernel
theorem dX5_read_106 : decode cX5_read 106 = .ok (.ifCond .ne 29, 3) := by decide +kernel
theorem dX5_read_109 : decode cX5_read 109 = .ok (.aload_n 0, 1) := by decide +kernel
theorem dX5_read_110 : decode cX5_read 110 = .ok (.getfield 9, 3) := by decide +kernel
theorem dX5_read_113 : decode cX5_read 113 = .ok (.astore_n 3, 1) := by decide +kernel
theorem dX5_read_114 : decode cX5_read 114 = .ok (.aload_n 0, 1) := by decide +kernel
theorem dX5_read_115 : decode cX5_read 115 = .ok (.aload_n 0, 1) := by decide +kernel
theorem dX5_read_116 : decode cX5_read 116 = .ok (.getfield 13, 3) := by decide +kernel
theorem dX5_read_119 : decode cX5_read 119 = .ok (.putfield 9, 3) := by decide +kernel
theorem dX5_read_122 : decode cX5_read 122 = .ok (.aload_n 0, 1) := by decide +kernel
theorem dX5_read_123 : decode cX5_read 123 = .ok (.aload_n 3, 1) := by decide +kernel
theorem dX5_read_124 : decode cX5_read 124 = .ok (.putfield 13, 3) := by decide +kernel
theorem dX5_read_127 : decode cX5_read 127 = .ok (.aload_n 0, 1) := by decide +kernel
theorem dX5_read_128 : decode cX5_read 128 = .ok (.iload_n 2, 1) := by decide +kernel
theorem dX5_read_129 : decode cX5_read 129 = .ok (.invokestatic 61, 3) := by decide +kernel
theorem dX5_read_132 : decode cX5_read 132 = .ok (.putfield 67, 3) := by decide +kernel
theorem dX5_read_135 : decode cX5_read 135 = .ok (.return_, 1) := by decide +kernel
theorem dX5_readTerms_0 : decode cX5_readTerms 0 = .ok (.iconst 0, 1) := by decide +kernel
theorem dX5_readTerms_1 : decode cX5_readTerms 1 = .ok (.istore_n 3, 1) := by decide +kernel
theorem dX5_readTerms_2 : decode cX5_readTerms 2 = .ok (.iload_n 3, 1) := by decide +kernel
theorem dX5_readTerms_3 : decode cX5_readTerms 3 = .ok (.iconst 5, 1) := by decide +kernel
theorem dX5_readTerms_4 : decode cX5_readTerms 4 = .ok (.if_icmp .ge 49, 3) := by decide +kernel
theorem dX5_readTerms_7 : decode cX5_readTerms 7 = .ok (.iload_n 3, 1) := by decide +kernel
theorem dX5_readTerms_8 : decode cX5_readTerms 8 = .ok (.iconst 4, 1) := by decide +kernel
theorem dX5_readTerms_9 : decode cX5_readTerms 9 = .ok (.if_icmp .ne 20, 3) := by decide +kernel
theorem dX5_readTerms_12 : decode cX5_readTerms 12 = .ok (.aload_n 1, 1) := by decide +kernel
theorem dX5_readTerms_13 : decode cX5_readTerms 13 = .ok (.getfield 35, 3) := by decide +kernel
theorem dX5_readTerms_16 : decode cX5_readTerms 16 = .ok (.iconst 2, 1) := by decide +kernel
theorem dX5_readTerms_17 : decode cX5_readTerms 17 = .ok (.if_icmp .ne 12, 3) := by decide +kernel
theorem dX5_readTerms_20 : decode cX5_readTerms 20 = .ok (.aload_n 1, 1) := by decide +kernel
theorem dX5_readTerms_21 : decode cX5_readTerms 21 = .ok (.iconst 2, 1) := by decide +kernel
theorem dX5_readTerms_22 : decode cX5_readTerms 22 = .ok (.aload_n 1, 1) := by decide +kernel
theorem dX5_readTerms_23 : decode cX5_readTerms 23 = .ok (.getfield 39, 3) := by decide +kernel
theorem dX5_readTerms_26 : decode cX5_readTerms 26 = .ok (.invokevirtual 49, 3) := by decide +kernel
theorem dX5_readTerms_29 : decode cX5_readTerms 29 = .ok (.aload_n 0, 1) := by decide +kernel
theorem dX5_readTerms_30 : decode cX5_readTerms 30 = .ok (.aload_n 1, 1) := by decide +kernel
theorem dX5_readTerms_31 : decode cX5_readTerms 31 = .ok (.iload_n 2, 1) := by decide +kernel
theorem dX5_readTerms_32 : decode cX5_readTerms 32 = .ok (.invokevirtual 70, 3) := by decide +kernel
theorem dX5_readTerms_35 : decode cX5_readTerms 35 = .ok (.aload_n 1, 1) := by decide +kernel
theorem dX5_readTerms_36 : decode cX5_readTerms 36 = .ok (.bipush 43, 2) := by decide +kernel
theorem dX5_readTerms_38 : decode cX5_readTerms 38 = .ok (.invokevirtual 73, 3) := by decide +kernel
theorem dX5_readTerms_41 : decode cX5_readTerms 41 = .ok (.ifCond .ne 6, 3) := by decide +kernel
theorem dX5_readTerms_44 : decode cX5_readTerms 44 = .ok (.goto 9, 3) := by decide +kernel
theorem dX5_readTerms_47 : decode cX5_readTerms 47 = .ok (.iinc 3 1, 3) := by decide +kernel
theorem dX5_readTerms_50 : decode cX5_readTerms 50 = .ok (.goto (-48), 3) := by decide +kernel
theorem dX5_readTerms_53 : decode cX5_readTerms 53 = .ok (.return_, 1) := by decide +kernel
theorem dX5_readTerm_0 : decode cX5_readTerm 0 = .ok (.aload_n 1, 1) := by decide +kernel
theorem dX5_readTerm_1 : decode cX5_readTerm 1 = .ok (.getfield 39, 3) := by decide +kernel
theorem dX5_readTerm_4 : decode cX5_readTerm 4 = .ok (.istore_n 3, 1) := by decide +kernel
theorem dX5_readTerm_5 : decode cX5_readTerm 5 = .ok (.aload_n 1, 1) := by decide +kernel
theorem dX5_readTerm_6 : decode cX5_readTerm 6 = .ok (.iconst 0, 1) := by decide +kernel
theorem dX5_readTerm_7 : decode cX5_readTerm 7 = .ok (.ldc 77, 2) := by decide +kernel
theorem dX5_readTerm_9 : decode cX5_readTerm 9 = .ok (.invokevirtual 42, 3) := by decide +kernel
theorem dX5_readTerm_12 : decode cX5_readTerm 12 = .ok (.istore 4, 2) := by decide +kernel
theorem dX5_readTerm_14 : decode cX5_readTerm 14 = .ok (.aload_n 1, 1) := by decide +kernel
theorem dX5_readTerm_15 : decode cX5_readTerm 15 = .ok (.bipush 37, 2) := by decide +kernel
theorem dX5_readTerm_17 : decode cX5_readTerm 17 = .ok (.invokevirtual 78, 3) := by decide +kernel
theorem dX5_readTerm_20 : decode cX5_readTerm 20 = .ok (.ifCond .ne 17, 3) := by decide +kernel
theorem dX5_readTerm_23 : decode cX5_readTerm 23 = .ok (.aload_n 0, 1) := by decide +kernel
theorem dX5_readTerm_24 : decode cX5_readTerm 24 = .ok (.getfield 13, 3) := by decide +kernel
theorem dX5_readTerm_27 : decode cX5_readTerm 27 = .ok (.iload_n 2, 1) := by decide +kernel
theorem dX5_readTerm_28 : decode cX5_readTerm 28 = .ok (.iconst 4, 1) := by decide +kernel
theorem dX5_readTerm_29 : decode cX5_readTerm 29 = .ok (.iadd, 1) := by decide +kernel
theorem dX5_readTerm_30 : decode cX5_readTerm 30 = .ok (.dup2, 1) := by decide +kernel
theorem dX5_readTerm_31 : decode cX5_readTerm 31 = .ok (.iaload, 1) := by decide +kernel
theorem dX5_readTerm_32 : decode cX5_readTerm 32 = .ok (.iload 4, 2) := by decide +kernel
theorem dX5_readTerm_34 : decode cX5_readTerm 34 = .ok (.iadd, 1) := by decide +kernel
theorem dX5_readTerm_35 : decode cX5_readTerm 35 = .ok (.iastore, 1) := by decide +kernel
theorem dX5_readTerm_36 : decode cX5_readTerm 36 = .ok (.return_, 1) := by decide +kernel
theorem dX5_readTerm_37 : decode cX5_readTerm 37 = .ok (.iload 4, 2) := by decide +kernel
theorem dX5_readTerm_39 : decode cX5_readTerm 39 = .ok (.bipush 100, 2) := by decide +kernel
theorem dX5_readTerm_41 : decode cX5_readTerm 41 = .ok (.if_icmp .le 10, 3) := by decide +kernel
theorem dX5_readTerm_44 : decode cX5_readTerm 44 = .ok (.aload_n 1, 1) := by decide +kernel
theorem dX5_readTerm_45 : decode cX5_readTerm 45 = .ok (.iconst 2, 1) := by decide +kernel
theorem dX5_readTerm_46 : decode cX5_readTerm 46 = .ok (.iload_n 3, 1) := by decide +kernel
theorem dX5_readTerm_47 : decode cX5_readTerm 47 = .ok (.invokevirtual 49, 3) := by decide +kernel
theorem dX5_readTerm_50 : decode cX5_readTerm 50 = .ok (.return_, 1) := by decide +kernel
theorem dX5_readTerm_51 : decode cX5_readTerm 51 = .ok (.aload_n 1, 1) := by decide +kernel
theorem dX5_readTerm_52 : decode cX5_readTerm 52 = .ok (.invokevirtual 81, 3) := by decide +kernel
theorem dX5_readTerm_55 : decode cX5_readTerm 55 = .ok (.aload_n 1, 1) := by decide +kernel
theorem dX5_readTerm_56 : decode cX5_readTerm 56 = .ok (.ldc 84, 2) := by decide +kernel
theorem dX5_readTerm_58 : decode cX5_readTerm 58 = .ok (.invokevirtual 86, 3) := by decide +kernel
theorem dX5_readTerm_61 : decode cX5_readTerm 61 = .ok (.aload_n 1, 1) := by decide +kernel
theorem dX5_readTerm_62 : decode cX5_readTerm 62 = .ok (.ldc 90, 2) := by decide +kernel
theorem dX5_readTerm_64 : decode cX5_readTerm 64 = .ok (.invokevirtual 92, 3) := by decide +kernel
theorem dX5_readTerm_67 : decode cX5_readTerm 67 = .ok (.ifCond .eq 7, 3) := by decide +kernel
theorem dX5_readTerm_70 : decode cX5_readTerm 70 = .ok (.iconst 3, 1) := by decide +kernel
theorem dX5_readTerm_71 : decode cX5_readTerm 71 = .ok (.goto 9, 3) := by decide +kernel
theorem dX5_readTerm_74 : decode cX5_readTerm 74 = .ok (.aload_n 1, 1) := by decide +kernel
theorem dX5_readTerm_75 : decode cX5_readTerm 75 = .ok (.iconst 0, 1) := by decide +kernel
theorem dX5_readTerm_76 : decode cX5_readTerm 76 = .ok (.iconst 2, 1) := by decide +kernel
theorem dX5_readTerm_77 : decode cX5_readTerm 77 = .ok (.invokevirtual 42, 3) := by decide +kernel
theorem dX5_readTerm_80 : decode cX5_readTerm 80 = .ok (.istore 5, 2) := by decide +kernel
theorem dX5_readTerm_82 : decode cX5_readTerm 82 = .ok (.aload_n 0, 1) := by decide +kernel
theorem dX5_readTerm_83 : decode cX5_readTerm 83 = .ok (.getfield 13, 3) := by decide +kernel
theorem dX5_readTerm_86 : decode cX5_readTerm 86 = .ok (.iload_n 2, 1) := by decide +kernel
theorem dX5_readTerm_87 : decode cX5_readTerm 87 = .ok (.iload 5, 2) := by decide +kernel
theorem dX5_readTerm_89 : decode cX5_readTerm 89 = .ok (.iadd, 1) := by decide +kernel
theorem dX5_readTerm_90 : decode cX5_readTerm 90 = .ok (.dup2, 1) := by decide +kernel
theorem dX5_readTerm_91 : decode cX5_readTerm 91 = .ok (.iaload, 1) := by decide +kernel
theorem dX5_readTerm_92 : decode cX5_readTerm 92 = .ok (.iload 4, 2) := by decide +kernel
theorem dX5_readTerm_94 : decode cX5_readTerm 94 = .ok (.iadd, 1) := by decide +kernel
theorem dX5_readTerm_95 : decode cX5_readTerm 95 = .ok (.iastore, 1) := by decide +kernel
theorem dX5_readTerm_96 : decode cX5_readTerm 96 = .ok (.return_, 1) := by decide +kernel
theorem dX5_tell_0 : decode cX5_tell 0 = .ok (.aload_n 0, 1) := by decide +kernel
theorem dX5_tell_1 : decode cX5_tell 1 = .ok (.iload_n 3, 1) := by decide +kernel
theorem dX5_tell_2 : decode cX5_tell 2 = .ok (.invokevirtual 96, 3) := by decide +kernel
theorem dX5_tell_5 : decode cX5_tell 5 = .ok (.aload_n 0, 1) := by decide +kernel
theorem dX5_tell_6 : decode cX5_tell 6 = .ok (.invokevirtual 99, 3) := by decide +kernel
theorem dX5_tell_9 : decode cX5_tell 9 = .ok (.lstore 4, 2) := by decide +kernel
theorem dX5_tell_11 : decode cX5_tell 11 = .ok (.lload 4, 2) := by decide +kernel
theorem dX5_tell_13 : decode cX5_tell 13 = .ok (.lconst 0, 1) := by decide +kernel
theorem dX5_tell_14 : decode cX5_tell 14 = .ok (.lcmp, 1) := by decide +kernel
theorem dX5_tell_15 : decode cX5_tell 15 = .ok (.ifCond .eq 8, 3) := by decide +kernel
theorem dX5_tell_18 : decode cX5_tell 18 = .ok (.iload_n 2, 1) := by decide +kernel
theorem dX5_tell_19 : decode cX5_tell 19 = .ok (.iconst 3, 1) := by decide +kernel
theorem dX5_tell_20 : decode cX5_tell 20 = .ok (.if_icmp .ne 16, 3) := by decide +kernel
theorem dX5_tell_23 : decode cX5_tell 23 = .ok (.lload 4, 2) := by decide +kernel
theorem dX5_tell_25 : decode cX5_tell 25 = .ok (.lconst 0, 1) := by decide +kernel
theorem dX5_tell_26 : decode cX5_tell 26 = .ok (.lcmp, 1) := by decide +kernel
theorem dX5_tell_27 : decode cX5_tell 27 = .ok (.ifCond .ne 7, 3) := by decide +kernel
theorem dX5_tell_30 : decode cX5_tell 30 = .ok (.lconst 0, 1) := by decide +kernel
theorem dX5_tell_31 : decode cX5_tell 31 = .ok (.goto 4, 3) := by decide +kernel
theorem dX5_tell_34 : decode cX5_tell 34 = .ok (.lconst 1, 1) := by decide +kernel
theorem dX5_tell_35 : decode cX5_tell 35 = .ok (.lreturn, 1) := by decide +kernel
theorem dX5_tell_36 : decode cX5_tell 36 = .ok (.iconst 0, 1) := by decide +kernel
theorem dX5_tell_37 : decode cX5_tell 37 = .ok (.istore 6, 2) := by decide +kernel
theorem dX5_tell_39 : decode cX5_tell 39 = .ok (.iload 6, 2) := by decide +kernel
theorem dX5_tell_41 : decode cX5_tell 41 = .ok (.iconst 3, 1) := by decide +kernel
theorem dX5_tell_42 : decode cX5_tell 42 = .ok (.if_icmp .ge 27, 3) := by decide +kernel
theorem dX5_tell_45 : decode cX5_tell 45 = .ok (.aload_n 0, 1) := by decide +kernel
theorem dX5_tell_46 : decode cX5_tell 46 = .ok (.getfield 16, 3) := by decide +kernel
theorem dX5_tell_49 : decode cX5_tell 49 = .ok (.iconst 3, 1) := by decide +kernel
theorem dX5_tell_50 : decode cX5_tell 50 = .ok (.iload 6, 2) := by decide +kernel
theorem dX5_tell_52 : decode cX5_tell 52 = .ok (.imul, 1) := by decide +kernel
theorem dX5_tell_53 : decode cX5_tell 53 = .ok (.iload_n 1, 1) := by decide +kernel
theorem dX5_tell_54 : decode cX5_tell 54 = .ok (.iadd, 1) := by decide +kernel
theorem dX5_tell_55 : decode cX5_tell 55 = .ok (.aload_n 0, 1) := by decide +kernel
theorem dX5_tell_56 : decode cX5_tell 56 = .ok (.getfield 20, 3) := by decide +kernel
theorem dX5_tell_59 : decode cX5_tell 59 = .ok (.iload 6, 2) := by decide +kernel
theorem dX5_tell_61 : decode cX5_tell 61 = .ok (.laload, 1) := by decide +kernel
theorem dX5_tell_62 : decode cX5_tell 62 = .ok (.lastore, 1) := by decide +kernel
theorem dX5_tell_63 : decode cX5_tell 63 = .ok (.iinc 6 1, 3) := by decide +kernel
theorem dX5_tell_66 : decode cX5_tell 66 = .ok (.goto (-27), 3) := by decide +kernel
theorem dX5_tell_69 : decode cX5_tell 69 = .ok (.aload_n 0, 1) := by decide +kernel
theorem dX5_tell_70 : decode cX5_tell 70 = .ok (.invokevirtual 99, 3) := by decide +kernel
theorem dX5_tell_73 : decode cX5_tell 73 = .ok (.lstore 6, 2) := by decide +kernel
theorem dX5_tell_75 : decode cX5_tell 75 = .ok (.lload 4, 2) := by decide +kernel
theorem dX5_tell_77 : decode cX5_tell 77 = .ok (.lconst 0, 1) := by decide +kernel
theorem dX5_tell_78 : decode cX5_tell 78 = .ok (.lcmp, 1) := by decide +kernel
theorem dX5_tell_79 : decode cX5_tell 79 = .ok (.ifCond .ge 13, 3) := by decide +kernel
theorem dX5_tell_82 : decode cX5_tell 82 = .ok (.lload 4, 2) := by decide +kernel
theorem dX5_tell_84 : decode cX5_tell 84 = .ok (.lneg, 1) := by decide +kernel
theorem dX5_tell_85 : decode cX5_tell 85 = .ok (.lstore 4, 2) := by decide +kernel
theorem dX5_tell_87 : decode cX5_tell 87 = .ok (.lload 6, 2) := by decide +kernel
theorem dX5_tell_89 : decode cX5_tell 89 = .ok (.lneg, 1) := by decide +kernel
theorem dX5_tell_90 : decode cX5_tell 90 = .ok (.lstore 6, 2) := by decide +kernel
theorem dX5_tell_92 : decode cX5_tell 92 = .ok (.lload 6, 2) := by decide +kernel
theorem dX5_tell_94 : decode cX5_tell 94 = .ok (.lload 4, 2) := by decide +kernel
theorem dX5_tell_96 : decode cX5_tell 96 = .ok (.invokestatic 103, 3) := by decide +kernel
theorem dX5_tell_99 : decode cX5_tell 99 = .ok (.lstore 8, 2) := by decide +kernel
theorem dX5_tell_101 : decode cX5_tell 101 = .ok (.iload_n 2, 1) := by decide +kernel
theorem dX5_tell_102 : decode cX5_tell 102 = .ok (.ifCond .ne 11, 3) := by decide +kernel
theorem dX5_tell_105 : decode cX5_tell 105 = .ok (.lload 6, 2) := by decide +kernel
theorem dX5_tell_107 : decode cX5_tell 107 = .ok (.lload 4, 2) := by decide +kernel
theorem dX5_tell_109 : decode cX5_tell 109 = .ok (.invokestatic 109, 3) := by decide +kernel
theorem dX5_tell_112 : decode cX5_tell 112 = .ok (.lreturn, 1) := by decide +kernel
theorem dX5_tell_113 : decode cX5_tell 113 = .ok (.lload 8, 2) := by decide +kernel
theorem dX5_tell_115 : decode cX5_tell 115 = .ok (.lload 4, 2) := by decide +kernel
theorem dX5_tell_117 : decode cX5_tell 117 = .ok (.invokestatic 112, 3) := by decide +kernel
theorem dX5_tell_120 : decode cX5_tell 120 = .ok (.lstore 10, 2) := by decide +kernel
theorem dX5_tell_122 : decode cX5_tell 122 = .ok (.iload_n 2, 1) := by decide +kernel
theorem dX5_tell_123 : decode cX5_tell 123 = .ok (.iconst 1, 1) := by decide +kernel
theorem dX5_tell_124 : decode cX5_tell 124 = .ok (.if_icmp .ne 8, 3) := by decide +kernel
theorem dX5_tell_127 : decode cX5_tell 127 = .ok (.lload 8, 2) := by decide +kernel
theorem dX5_tell_129 : decode cX5_tell 129 = .ok (.goto 5, 3) := by decide +kernel
theorem dX5_tell_132 : decode cX5_tell 132 = .ok (.lload 4, 2) := by decide +kernel
theorem dX5_tell_134 : decode cX5_tell 134 = .ok (.lload 10, 2) := by decide +kernel
theorem dX5_tell_136 : decode cX5_tell 136 = .ok (.ldiv, 1) := by decide +kernel
theorem dX5_tell_137 : decode cX5_tell 137 = .ok (.lreturn, 1) := by decide +kernel
theorem dX5_fillRows_0 : decode cX5_fillRows 0 = .ok (.iconst 0, 1) := by decide +kernel
theorem dX5_fillRows_1 : decode cX5_fillRows 1 = .ok (.istore_n 2, 1) := by decide +kernel
theorem dX5_fillRows_2 : decode cX5_fillRows 2 = .ok (.iload_n 2, 1) := by decide +kernel
theorem dX5_fillRows_3 : decode cX5_fillRows 3 = .ok (.iconst 3, 1) := by decide +kernel
theorem dX5_fillRows_4 : decode cX5_fillRows 4 = .ok (.if_icmp .ge 95, 3) := by decide +kernel
theorem dX5_fillRows_7 : decode cX5_fillRows 7 = .ok (.iload_n 2, 1) := by decide +kernel
theorem dX5_fillRows_8 : decode cX5_fillRows 8 = .ok (.iconst 5, 1) := by decide +kernel
theorem dX5_fillRows_9 : decode cX5_fillRows 9 = .ok (.imul, 1) := by decide +kernel
theorem dX5_fillRows_10 : decode cX5_fillRows 10 = .ok (.istore_n 3, 1) := by decide +kernel
theorem dX5_fillRows_11 : decode cX5_fillRows 11 = .ok (.iconst 0, 1) := by decide +kernel
theorem dX5_fillRows_12 : decode cX5_fillRows 12 = .ok (.istore 4, 2) := by decide +kernel
theorem dX5_fillRows_14 : decode cX5_fillRows 14 = .ok (.iload 4, 2) := by decide +kernel
theorem dX5_fillRows_16 : decode cX5_fillRows 16 = .ok (.iconst 3, 1) := by decide +kernel
theorem dX5_fillRows_17 : decode cX5_fillRows 17 = .ok (.if_icmp .ge 44, 3) := by decide +kernel
theorem dX5_fillRows_20 : decode cX5_fillRows 20 = .ok (.aload_n 0, 1) := by decide +kernel
theorem dX5_fillRows_21 : decode cX5_fillRows 21 = .ok (.getfield 16, 3) := by decide +kernel
theorem dX5_fillRows_24 : decode cX5_fillRows 24 = .ok (.iconst 3, 1) := by decide +kernel
theorem dX5_fillRows_25 : decode cX5_fillRows 25 = .ok (.iload_n 2, 1) := by decide +kernel
theorem dX5_fillRows_26 : decode cX5_fillRows 26 = .ok (.imul, 1) := by decide +kernel
theorem dX5_fillRows_27 : decode cX5_fillRows 27 = .ok (.iload 4, 2) := by decide +kernel
theorem dX5_fillRows_29 : decode cX5_fillRows 29 = .ok (.iadd, 1) := by decide +kernel
theorem dX5_fillRows_30 : decode cX5_fillRows 30 = .ok (.iload_n 2, 1) := by decide +kernel
theorem dX5_fillRows_31 : decode cX5_fillRows 31 = .ok (.iload 4, 2) := by decide +kernel
theorem dX5_fillRows_33 : decode cX5_fillRows 33 = .ok (.if_icmp .ne 9, 3) := by decide +kernel
theorem dX5_fillRows_36 : decode cX5_fillRows 36 = .ok (.ldc2_w 115, 3) := by decide +kernel
theorem dX5_fillRows_39 : decode cX5_fillRows 39 = .ok (.goto 4, 3) := by decide +kernel
theorem dX5_fillRows_42 : decode cX5_fillRows 42 = .ok (.lconst 0, 1) := by decide +kernel
theorem dX5_fillRows_43 : decode cX5_fillRows 43 = .ok (.aload_n 0, 1) := by decide +kernel
theorem dX5_fillRows_44 : decode cX5_fillRows 44 = .ok (.getfield 9, 3) := by decide +kernel
theorem dX5_fillRows_47 : decode cX5_fillRows 47 = .ok (.iload_n 3, 1) := by decide +kernel
theorem dX5_fillRows_48 : decode cX5_fillRows 48 = .ok (.iload 4, 2) := by decide +kernel
theorem dX5_fillRows_50 : decode cX5_fillRows 50 = .ok (.iadd, 1) := by decide +kernel
theorem dX5_fillRows_51 : decode cX5_fillRows 51 = .ok (.iaload, 1) := by decide +kernel
theorem dX5_fillRows_52 : decode cX5_fillRows 52 = .ok (.i2l, 1) := by decide +kernel
theorem dX5_fillRows_53 : decode cX5_fillRows 53 = .ok (.lsub, 1) := by decide +kernel
theorem dX5_fillRows_54 : decode cX5_fillRows 54 = .ok (.lastore, 1) := by decide +kernel
theorem dX5_fillRows_55 : decode cX5_fillRows 55 = .ok (.iinc 4 1, 3) := by decide +kernel
theorem dX5_fillRows_58 : decode cX5_fillRows 58 = .ok (.goto (-44), 3) := by decide +kernel
theorem dX5_fillRows_61 : decode cX5_fillRows 61 = .ok (.aload_n 0, 1) := by decide +kernel
theorem dX5_fillRows_62 : decode cX5_fillRows 62 = .ok (.getfield 20, 3) := by decide +kernel
theorem dX5_fillRows_65 : decode cX5_fillRows 65 = .ok (.iload_n 2, 1) := by decide +kernel
theorem dX5_fillRows_66 : decode cX5_fillRows 66 = .ok (.aload_n 0, 1) := by decide +kernel
theorem dX5_fillRows_67 : decode cX5_fillRows 67 = .ok (.getfield 9, 3) := by decide +kernel
theorem dX5_fillRows_70 : decode cX5_fillRows 70 = .ok (.iload_n 3, 1) := by decide +kernel
theorem dX5_fillRows_71 : decode cX5_fillRows 71 = .ok (.iconst 3, 1) := by decide +kernel
theorem dX5_fillRows_72 : decode cX5_fillRows 72 = .ok (.iadd, 1) := by decide +kernel
theorem dX5_fillRows_73 : decode cX5_fillRows 73 = .ok (.iaload, 1) := by decide +kernel
theorem dX5_fillRows_74 : decode cX5_fillRows 74 = .ok (.i2l, 1) := by decide +kernel
theorem dX5_fillRows_75 : decode cX5_fillRows 75 = .ok (.iload_n 1, 1) := by decide +kernel
theorem dX5_fillRows_76 : decode cX5_fillRows 76 = .ok (.i2l, 1) := by decide +kernel
theorem dX5_fillRows_77 : decode cX5_fillRows 77 = .ok (.lmul, 1) := by decide +kernel
theorem dX5_fillRows_78 : decode cX5_fillRows 78 = .ok (.ldc2_w 115, 3) := by decide +kernel
theorem dX5_fillRows_81 : decode cX5_fillRows 81 = .ok (.aload_n 0, 1) := by decide +kernel
theorem dX5_fillRows_82 : decode cX5_fillRows 82 = .ok (.getfield 9, 3) := by decide +kernel
theorem dX5_fillRows_85 : decode cX5_fillRows 85 = .ok (.iload_n 3, 1) := by decide +kernel
theorem dX5_fillRows_86 : decode cX5_fillRows 86 = .ok (.iconst 4, 1) := by decide +kernel
theorem dX5_fillRows_87 : decode cX5_fillRows 87 = .ok (.iadd, 1) := by decide +kernel
theorem dX5_fillRows_88 : decode cX5_fillRows 88 = .ok (.iaload, 1) := by decide +kernel
theorem dX5_fillRows_89 : decode cX5_fillRows 89 = .ok (.i2l, 1) := by decide +kernel
theorem dX5_fillRows_90 : decode cX5_fillRows 90 = .ok (.lmul, 1) := by decide +kernel
theorem dX5_fillRows_91 : decode cX5_fillRows 91 = .ok (.ladd, 1) := by decide +kernel
theorem dX5_fillRows_92 : decode cX5_fillRows 92 = .ok (.lastore, 1) := by decide +kernel
theorem dX5_fillRows_93 : decode cX5_fillRows 93 = .ok (.iinc 2 1, 3) := by decide +kernel
theorem dX5_fillRows_96 : decode cX5_fillRows 96 = .ok (.goto (-94), 3) := by decide +kernel
theorem dX5_fillRows_99 : decode cX5_fillRows 99 = .ok (.return_, 1) := by decide +kernel
theorem dX5_determinant_0 : decode cX5_determinant 0 = .ok (.aload_n 0, 1) := by decide +kernel
theorem dX5_determinant_1 : decode cX5_determinant 1 = .ok (.getfield 16, 3) := by decide +kernel
theorem dX5_determinant_4 : decode cX5_determinant 4 = .ok (.iconst 0, 1) := by decide +kernel
theorem dX5_determinant_5 : decode cX5_determinant 5 = .ok (.laload, 1) := by decide +kernel
theorem dX5_determinant_6 : decode cX5_determinant 6 = .ok (.aload_n 0, 1) := by decide +kernel
theorem dX5_determinant_7 : decode cX5_determinant 7 = .ok (.getfield 16, 3) := by decide +kernel
theorem dX5_determinant_10 : decode cX5_determinant 10 = .ok (.iconst 4, 1) := by decide +kernel
theorem dX5_determinant_11 : decode cX5_determinant 11 = .ok (.laload, 1) := by decide +kernel
theorem dX5_determinant_12 : decode cX5_determinant 12 = .ok (.aload_n 0, 1) := by decide +kernel
theorem dX5_determinant_13 : decode cX5_determinant 13 = .ok (.getfield 16, 3) := by decide +kernel
theorem dX5_determinant_16 : decode cX5_determinant 16 = .ok (.bipush 8, 2) := by decide +kernel
theorem dX5_determinant_18 : decode cX5_determinant 18 = .ok (.laload, 1) := by decide +kernel
theorem dX5_determinant_19 : decode cX5_determinant 19 = .ok (.lmul, 1) := by decide +kernel
theorem dX5_determinant_20 : decode cX5_determinant 20 = .ok (.aload_n 0, 1) := by decide +kernel
theorem dX5_determinant_21 : decode cX5_determinant 21 = .ok (.getfield 16, 3) := by decide +kernel
theorem dX5_determinant_24 : decode cX5_determinant 24 = .ok (.iconst 5, 1) := by decide +kernel
theorem dX5_determinant_25 : decode cX5_determinant 25 = .ok (.laload, 1) := by decide +kernel
theorem dX5_determinant_26 : decode cX5_determinant 26 = .ok (.aload_n 0, 1) := by decide +kernel
theorem dX5_determinant_27 : decode cX5_determinant 27 = .ok (.getfield 16, 3) := by decide +kernel
theorem dX5_determinant_30 : decode cX5_determinant 30 = .ok (.bipush 7, 2) := by decide +kernel
theorem dX5_determinant_32 : decode cX5_determinant 32 = .ok (.laload, 1) := by decide +kernel
theorem dX5_determinant_33 : decode cX5_determinant 33 = .ok (.lmul, 1) := by decide +kernel
theorem dX5_determinant_34 : decode cX5_determinant 34 = .ok (.lsub, 1) := by decide +kernel
theorem dX5_determinant_35 : decode cX5_determinant 35 = .ok (.lmul, 1) := by decide +kernel
theorem dX5_determinant_36 : decode cX5_determinant 36 = .ok (.aload_n 0, 1) := by decide +kernel
theorem dX5_determinant_37 : decode cX5_determinant 37 = .ok (.getfield 16, 3) := by decide +kernel
theorem dX5_determinant_40 : decode cX5_determinant 40 = .ok (.iconst 1, 1) := by decide +kernel
theorem dX5_determinant_41 : decode cX5_determinant 41 = .ok (.laload, 1) := by decide +kernel
theorem dX5_determinant_42 : decode cX5_determinant 42 = .ok (.aload_n 0, 1) := by decide +kernel
theorem dX5_determinant_43 : decode cX5_determinant 43 = .ok (.getfield 16, 3) := by decide +kernel
theorem dX5_determinant_46 : decode cX5_determinant 46 = .ok (.iconst 3, 1) := by decide +kernel
theorem dX5_determinant_47 : decode cX5_determinant 47 = .ok (.laload, 1) := by decide +kernel
theorem dX5_determinant_48 : decode cX5_determinant 48 = .ok (.aload_n 0, 1) := by decide +kernel
theorem dX5_determinant_49 : decode cX5_determinant 49 = .ok (.getfield 16, 3) := by decide +kernel
theorem dX5_determinant_52 : decode cX5_determinant 52 = .ok (.bipush 8, 2) := by decide +kernel
theorem dX5_determinant_54 : decode cX5_determinant 54 = .ok (.laload, 1) := by decide +kernel
theorem dX5_determinant_55 : decode cX5_determinant 55 = .ok (.lmul, 1) := by decide +kernel
theorem dX5_determinant_56 : decode cX5_determinant 56 = .ok (.aload_n 0, 1) := by decide +kernel
theorem dX5_determinant_57 : decode cX5_determinant 57 = .ok (.getfield 16, 3) := by decide +kernel
theorem dX5_determinant_60 : decode cX5_determinant 60 = .ok (.iconst 5, 1) := by decide +kernel
theorem dX5_determinant_61 : decode cX5_determinant 61 = .ok (.laload, 1) := by decide +kernel
theorem dX5_determinant_62 : decode cX5_determinant 62 = .ok (.aload_n 0, 1) := by decide +kernel
theorem dX5_determinant_63 : decode cX5_determinant 63 = .ok (.getfield 16, 3) := by decide +kernel
theorem dX5_determinant_66 : decode cX5_determinant 66 = .ok (.bipush 6, 2) := by decide +kernel
theorem dX5_determinant_68 : decode cX5_determinant 68 = .ok (.laload, 1) := by decide +kernel
theorem dX5_determinant_69 : decode cX5_determinant 69 = .ok (.lmul, 1) := by decide +kernel
theorem dX5_determinant_70 : decode cX5_determinant 70 = .ok (.lsub, 1) := by decide +kernel
theorem dX5_determinant_71 : decode cX5_determinant 71 = .ok (.lmul, 1) := by decide +kernel
theorem dX5_determinant_72 : decode cX5_determinant 72 = .ok (.lsub, 1) := by decide +kernel
theorem dX5_determinant_73 : decode cX5_determinant 73 = .ok (.aload_n 0, 1) := by decide +kernel
theorem dX5_determinant_74 : decode cX5_determinant 74 = .ok (.getfield 16, 3) := by decide +kernel
theorem dX5_determinant_77 : decode cX5_determinant 77 = .ok (.iconst 2, 1) := by decide +kernel
theorem dX5_determinant_78 : decode cX5_determinant 78 = .ok (.laload, 1) := by decide +kernel
theorem dX5_determinant_79 : decode cX5_determinant 79 = .ok (.aload_n 0, 1) := by decide +kernel
theorem dX5_determinant_80 : decode cX5_determinant 80 = .ok (.getfield 16, 3) := by decide +kernel
theorem dX5_determinant_83 : decode cX5_determinant 83 = .ok (.iconst 3, 1) := by decide +kernel
theorem dX5_determinant_84 : decode cX5_determinant 84 = .ok (.laload, 1) := by decide +kernel
theorem dX5_determinant_85 : decode cX5_determinant 85 = .ok (.aload_n 0, 1) := by decide +kernel
theorem dX5_determinant_86 : decode cX5_determinant 86 = .ok (.getfield 16, 3) := by decide +kernel
theorem dX5_determinant_89 : decode cX5_determinant 89 = .ok (.bipush 7, 2) := by decide +kernel
theorem dX5_determinant_91 : decode cX5_determinant 91 = .ok (.laload, 1) := by decide +kernel
theorem dX5_determinant_92 : decode cX5_determinant 92 = .ok (.lmul, 1) := by decide +kernel
theorem dX5_determinant_93 : decode cX5_determinant 93 = .ok (.aload_n 0, 1) := by decide +kernel
theorem dX5_determinant_94 : decode cX5_determinant 94 = .ok (.getfield 16, 3) := by decide +kernel
theorem dX5_determinant_97 : decode cX5_determinant 97 = .ok (.iconst 4, 1) := by decide +kernel
theorem dX5_determinant_98 : decode cX5_determinant 98 = .ok (.laload, 1) := by decide +kernel
theorem dX5_determinant_99 : decode cX5_determinant 99 = .ok (.aload_n 0, 1) := by decide +kernel
theorem dX5_determinant_100 : decode cX5_determinant 100 = .ok (.getfield 16, 3) := by decide +kernel
theorem dX5_determinant_103 : decode cX5_determinant 103 = .ok (.bipush 6, 2) := by decide +kernel
theorem dX5_determinant_105 : decode cX5_determinant 105 = .ok (.laload, 1) := by decide +kernel
theorem dX5_determinant_106 : decode cX5_determinant 106 = .ok (.lmul, 1) := by decide +kernel
theorem dX5_determinant_107 : decode cX5_determinant 107 = .ok (.lsub, 1) := by decide +kernel
theorem dX5_determinant_108 : decode cX5_determinant 108 = .ok (.lmul, 1) := by decide +kernel
theorem dX5_determinant_109 : decode cX5_determinant 109 = .ok (.ladd, 1) := by decide +kernel
theorem dX5_determinant_110 : decode cX5_determinant 110 = .ok (.lreturn, 1) := by decide +kernel
theorem dX5_commonOf_0 : decode cX5_commonOf 0 = .ok (.lload_n 0, 1) := by decide +kernel
theorem dX5_commonOf_1 : decode cX5_commonOf 1 = .ok (.lstore 4, 2) := by decide +kernel
theorem dX5_commonOf_3 : decode cX5_commonOf 3 = .ok (.lload_n 2, 1) := by decide +kernel
theorem dX5_commonOf_4 : decode cX5_commonOf 4 = .ok (.lstore 6, 2) := by decide +kernel
theorem dX5_commonOf_6 : decode cX5_commonOf 6 = .ok (.iconst 0, 1) := by decide +kernel
theorem dX5_commonOf_7 : decode cX5_commonOf 7 = .ok (.istore 8, 2) := by decide +kernel
theorem dX5_commonOf_9 : decode cX5_commonOf 9 = .ok (.iload 8, 2) := by decide +kernel
theorem dX5_commonOf_11 : decode cX5_commonOf 11 = .ok (.bipush 100, 2) := by decide +kernel
theorem dX5_commonOf_13 : decode cX5_commonOf 13 = .ok (.if_icmp .ge 31, 3) := by decide +kernel
theorem dX5_commonOf_16 : decode cX5_commonOf 16 = .ok (.lload 4, 2) := by decide +kernel
theorem dX5_commonOf_18 : decode cX5_commonOf 18 = .ok (.lconst 0, 1) := by decide +kernel
theorem dX5_commonOf_19 : decode cX5_commonOf 19 = .ok (.lcmp, 1) := by decide +kernel
theorem dX5_commonOf_20 : decode cX5_commonOf 20 = .ok (.ifCond .le 24, 3) := by decide +kernel
theorem dX5_commonOf_23 : decode cX5_commonOf 23 = .ok (.lload 6, 2) := by decide +kernel
theorem dX5_commonOf_25 : decode cX5_commonOf 25 = .ok (.lload 4, 2) := by decide +kernel
theorem dX5_commonOf_27 : decode cX5_commonOf 27 = .ok (.lrem, 1) := by decide +kernel
theorem dX5_commonOf_28 : decode cX5_commonOf 28 = .ok (.lstore 9, 2) := by decide +kernel
theorem dX5_commonOf_30 : decode cX5_commonOf 30 = .ok (.lload 4, 2) := by decide +kernel
theorem dX5_commonOf_32 : decode cX5_commonOf 32 = .ok (.lstore 6, 2) := by decide +kernel
theorem dX5_commonOf_34 : decode cX5_commonOf 34 = .ok (.lload 9, 2) := by decide +kernel
theorem dX5_commonOf_36 : decode cX5_commonOf 36 = .ok (.lstore 4, 2) := by decide +kernel
theorem dX5_commonOf_38 : decode cX5_commonOf 38 = .ok (.iinc 8 1, 3) := by decide +kernel
theorem dX5_commonOf_41 : decode cX5_commonOf 41 = .ok (.goto (-32), 3) := by decide +kernel
theorem dX5_commonOf_44 : decode cX5_commonOf 44 = .ok (.lload 6, 2) := by decide +kernel
theorem dX5_commonOf_46 : decode cX5_commonOf 46 = .ok (.lconst 0, 1) := by decide +kernel
theorem dX5_commonOf_47 : decode cX5_commonOf 47 = .ok (.lcmp, 1) := by decide +kernel
theorem dX5_commonOf_48 : decode cX5_commonOf 48 = .ok (.ifCond .le 8, 3) := by decide +kernel
theorem dX5_commonOf_51 : decode cX5_commonOf 51 = .ok (.lload 6, 2) := by decide +kernel
theorem dX5_commonOf_53 : decode cX5_commonOf 53 = .ok (.goto 4, 3) := by decide +kernel
theorem dX5_commonOf_56 : decode cX5_commonOf 56 = .ok (.lconst 1, 1) := by decide +kernel
theorem dX5_commonOf_57 : decode cX5_commonOf 57 = .ok (.lreturn, 1) := by decide +kernel
theorem dX6_init_0 : decode cX6_init 0 = .ok (.aload_n 0, 1) := by decide +kernel
theorem dX6_init_1 : decode cX6_init 1 = .ok (.invokespecial 3, 3) := by decide +kernel
theorem dX6_init_4 : decode cX6_init 4 = .ok (.aload_n 0, 1) := by decide +kernel
theorem dX6_init_5 : decode cX6_init 5 = .ok (.bipush 120, 2) := by decide +kernel
theorem dX6_init_7 : decode cX6_init 7 = .ok (.newarray .int, 2) := by decide +kernel
theorem dX6_init_9 : decode cX6_init 9 = .ok (.putfield 11, 3) := by decide +kernel
theorem dX6_init_12 : decode cX6_init 12 = .ok (.aload_n 0, 1) := by decide +kernel
theorem dX6_init_13 : decode cX6_init 13 = .ok (.bipush 120, 2) := by decide +kernel
theorem dX6_init_15 : decode cX6_init 15 = .ok (.newarray .int, 2) := by decide +kernel
theorem dX6_init_17 : decode cX6_init 17 = .ok (.putfield 15, 3) := by decide +kernel
theorem dX6_init_20 : decode cX6_init 20 = .ok (.return_, 1) := by decide +kernel
theorem dX6_read_0 : decode cX6_read 0 = .ok (.iconst 0, 1) := by decide +kernel
theorem dX6_read_1 : decode cX6_read 1 = .ok (.istore_n 2, 1) := by decide +kernel
theorem dX6_read_2 : decode cX6_read 2 = .ok (.aload_n 1, 1) := by decide +kernel
theorem dX6_read_3 : decode cX6_read 3 = .ok (.sipush 4000, 3) := by decide +kernel
theorem dX6_read_6 : decode cX6_read 6 = .ok (.invokevirtual 20, 3) := by decide +kernel
theorem dX6_read_9 : decode cX6_read 9 = .ok (.iconst 0, 1) := by decide +kernel
theorem dX6_read_10 : decode cX6_read 10 = .ok (.istore_n 3, 1) := by decide +kernel
theorem dX6_read_11 : decode cX6_read 11 = .ok (.iload_n 3, 1) := by decide +kernel
theorem dX6_read_12 : decode cX6_read 12 = .ok (.bipush 20, 2) := by decide +kernel
theorem dX6_read_14 : decode cX6_read 14 = .ok (.if_icmp .gt 65, 3) := by decide +kernel
theorem dX6_read_17 : decode cX6_read 17 = .ok (.aload_n 1, 1) := by decide +kernel
theorem dX6_read_18 : decode cX6_read 18 = .ok (.getfield 24, 3) := by decide +kernel
theorem dX6_read_21 : decode cX6_read 21 = .ok (.ifCond .eq 58, 3) := by decide +kernel
theorem dX6_read_24 : decode cX6_read 24 = .ok (.aload_n 1, 1) := by decide +kernel
theorem dX6_read_25 : decode cX6_read 25 = .ok (.invokestatic 28, 3) := by decide +kernel
theorem dX6_read_28 : decode cX6_read 28 = .ok (.ifCond .ge 15, 3) := by decide +kernel
theorem dX6_read_31 : decode cX6_read 31 = .ok (.aload_n 1, 1) := by decide +kernel
theorem dX6_read_32 : decode cX6_read 32 = .ok (.iconst 1, 1) := by decide +kernel
theorem dX6_read_33 : decode cX6_read 33 = .ok (.aload_n 1, 1) := by decide +kernel
theorem dX6_read_34 : decode cX6_read 34 = .ok (.getfield 32, 3) := by decide +kernel
theorem dX6_read_37 : decode cX6_read 37 = .ok (.invokevirtual 35, 3) := by decide +kernel
theorem dX6_read_40 : decode cX6_read 40 = .ok (.goto 33, 3) := by decide +kernel
theorem dX6_read_43 : decode cX6_read 43 = .ok (.iload_n 2, 1) := by decide +kernel
theorem dX6_read_44 : decode cX6_read 44 = .ok (.bipush 20, 2) := by decide +kernel
theorem dX6_read_46 : decode cX6_read 46 = .ok (.if_icmp .lt 15, 3) := by decide +kernel
theorem dX6_read_49 : decode cX6_read 49 = .ok (.aload_n 1, 1) := by decide +kernel
theorem dX6_read_50 : decode cX6_read 50 = .ok (.iconst 2, 1) := by decide +kernel
theorem dX6_read_51 : decode cX6_read 51 = .ok (.aload_n 1, 1) := by decide +kernel
theorem dX6_read_52 : decode cX6_read 52 = .ok (.getfield 32, 3) := by decide +kernel
theorem dX6_read_55 : decode cX6_read 55 = .ok (.invokevirtual 35, 3) := by decide +kernel
theorem dX6_read_58 : decode cX6_read 58 = .ok (.goto 15, 3) := by decide +kernel
theorem dX6_read_61 : decode cX6_read 61 = .ok (.aload_n 0, 1) := by decide +kernel
theorem dX6_read_62 : decode cX6_read 62 = .ok (.aload_n 1, 1) := by decide +kernel
theorem dX6_read_63 : decode cX6_read 63 = .ok (.iload_n 2, 1) := by decide +kernel
theorem dX6_read_64 : decode cX6_read 64 = .ok (.bipush 6, 2) := by decide +kernel
theorem dX6_read_66 : decode cX6_read 66 = .ok (.imul, 1) := by decide +kernel
theorem dX6_read_67 : decode cX6_read 67 = .ok (.invokevirtual 39, 3) := by decide +kernel
theorem dX6_read_70 : decode cX6_read 70 = .ok (.iinc 2 1, 3) := by decide +kernel
theorem dX6_read_73 : decode cX6_read 73 = .ok (.iinc 3 1, 3) := by decide +kernel
theorem dX6_read_76 : decode cX6_read 76 = .ok (.goto (-65), 3) := by decide +kernel
theorem dX6_read_79 : decode cX6_read 79 = .ok (.aload_n 1, 1) := by decide +kernel
theorem dX6_read_80 : decode cX6_read 80 = .ok (.getfield 43, 3) := by decide +kernel
theorem dX6_read_83 : decode cX6_read 83 = .ok (.ifCond .ne 26, 3) := by decide +kernel
theorem dX6_read_86 : decode cX6_read 86 = .ok (.aload_n 0, 1) := by decide +kernel
theorem dX6_read_87 : decode cX6_read 87 = .ok (.getfield 11, 3) := by decide +kernel
theorem dX6_read_90 : decode cX6_read 90 = .ok (.astore_n 3, 1) := by decide +kernel
theorem dX6_read_91 : decode cX6_read 91 = .ok (.aload_n 0, 1) := by decide +kernel
theorem dX6_read_92 : decode cX6_read 92 = .ok (.aload_n 0, 1) := by decide +kernel
theorem dX6_read_93 : decode cX6_read 93 = .ok (.getfield 15, 3) := by decide +kernel
theorem dX6_read_96 : decode cX6_read 96 = .ok (.putfield 11, 3) := by decide +kernel
theorem dX6_read_99 : decode cX6_read 99 = .ok (.aload_n 0, 1) := by decide +kernel
theorem dX6_read_100 : decode cX6_read 100 = .ok (.aload_n 3, 1) := by decide +kernel
theorem dX6_read_101 : decode cX6_read 101 = .ok (.putfield 15, 3) := by decide +kernel
theorem dX6_read_104 : decode cX6_read 104 = .ok (.aload_n 0, 1) := by decide +kernel
theorem dX6_read_105 : decode cX6_read 105 = .ok (.iload_n 2, 1) := by decide +kernel
theorem dX6_read_106 : decode cX6_read 106 = .ok (.putfield 46, 3) := by decide +kernel
theorem dX6_read_109 : decode cX6_read 109 = .ok (.return_, 1) := by decide +kernel
theorem dX6_conditionAt_0 : decode cX6_conditionAt 0 = .ok (.aload_n 0, 1) := by decide +kernel
theorem dX6_conditionAt_1 : decode cX6_conditionAt 1 = .ok (.ldc 49, 2) := by decide +kernel
theorem dX6_conditionAt_3 : decode cX6_conditionAt 3 = .ok (.invokevirtual 51, 3) := by decide +kernel
theorem dX6_conditionAt_6 : decode cX6_conditionAt 6 = .ok (.ifCond .eq 5, 3) := by decide +kernel
theorem dX6_conditionAt_9 : decode cX6_conditionAt 9 = .ok (.iconst 0, 1) := by decide +kernel
theorem dX6_conditionAt_10 : decode cX6_conditionAt 10 = .ok (.ireturn, 1) := by decide +kernel
theorem dX6_conditionAt_11 : decode cX6_conditionAt 11 = .ok (.aload_n 0, 1) := by decide +kernel
theorem dX6_conditionAt_12 : decode cX6_conditionAt 12 = .ok (.ldc 55, 2) := by decide +kernel
theorem dX6_conditionAt_14 : decode cX6_conditionAt 14 = .ok (.invokevirtual 51, 3) := by decide +kernel
theorem dX6_conditionAt_17 : decode cX6_conditionAt 17 = .ok (.ifCond .eq 5, 3) := by decide +kernel
theorem dX6_conditionAt_20 : decode cX6_conditionAt 20 = .ok (.iconst 1, 1) := by decide +kernel
theorem dX6_conditionAt_21 : decode cX6_conditionAt 21 = .ok (.ireturn, 1) := by decide +kernel
theorem dX6_conditionAt_22 : decode cX6_conditionAt 22 = .ok (.aload_n 0, 1) := by decide +kernel
theorem dX6_conditionAt_23 : decode cX6_conditionAt 23 = .ok (.ldc 56, 2) := by decide +kernel
theorem dX6_conditionAt_25 : decode cX6_conditionAt 25 = .ok (.invokevirtual 51, 3) := by decide +kernel
theorem dX6_conditionAt_28 : decode cX6_conditionAt 28 = .ok (.ifCond .eq 5, 3) := by decide +kernel
theorem dX6_conditionAt_31 : decode cX6_conditionAt 31 = .ok (.iconst 2, 1) := by decide +kernel
theorem dX6_conditionAt_32 : decode cX6_conditionAt 32 = .ok (.ireturn, 1) := by decide +kernel
theorem dX6_conditionAt_33 : decode cX6_conditionAt 33 = .ok (.aload_n 0, 1) := by decide +kernel
theorem dX6_conditionAt_34 : decode cX6_conditionAt 34 = .ok (.ldc 58, 2) := by decide +kernel
theorem dX6_conditionAt_36 : decode cX6_conditionAt 36 = .ok (.invokevirtual 51, 3) := by decide +kernel
theorem dX6_conditionAt_39 : decode cX6_conditionAt 39 = .ok (.ifCond .eq 7, 3) := by decide +kernel
theorem dX6_conditionAt_42 : decode cX6_conditionAt 42 = .ok (.iconst 3, 1) := by decide +kernel
theorem dX6_conditionAt_43 : decode cX6_conditionAt 43 = .ok (.goto 4, 3) := by decide +kernel
theorem dX6_conditionAt_46 : decode cX6_conditionAt 46 = .ok (.iconst (-1), 1) := by decide +kernel
theorem dX6_conditionAt_47 : decode cX6_conditionAt 47 = .ok (.ireturn, 1) := by decide +kernel
theorem dX6_readRule_0 : decode cX6_readRule 0 = .ok (.aload_n 0, 1) := by decide +kernel
theorem dX6_readRule_1 : decode cX6_readRule 1 = .ok (.getfield 15, 3) := by decide +kernel
theorem dX6_readRule_4 : decode cX6_readRule 4 = .ok (.iload_n 2, 1) := by decide +kernel
theorem dX6_readRule_5 : decode cX6_readRule 5 = .ok (.iconst 0, 1) := by decide +kernel
theorem dX6_readRule_6 : decode cX6_readRule 6 = .ok (.iastore, 1) := by decide +kernel
theorem dX6_readRule_7 : decode cX6_readRule 7 = .ok (.aload_n 0, 1) := by decide +kernel
theorem dX6_readRule_8 : decode cX6_readRule 8 = .ok (.getfield 15, 3) := by decide +kernel
theorem dX6_readRule_11 : decode cX6_readRule 11 = .ok (.iload_n 2, 1) := by decide +kernel
theorem dX6_readRule_12 : decode cX6_readRule 12 = .ok (.iconst 1, 1) := by decide +kernel
theorem dX6_readRule_13 : decode cX6_readRule 13 = .ok (.iadd, 1) := by decide +kernel
theorem dX6_readRule_14 : decode cX6_readRule 14 = .ok (.bipush 15, 2) := by decide +kernel
theorem dX6_readRule_16 : decode cX6_readRule 16 = .ok (.iastore, 1) := by decide +kernel
theorem dX6_readRule_17 : decode cX6_readRule 17 = .ok (.aload_n 0, 1) := by decide +kernel
theorem dX6_readRule_18 : decode cX6_readRule 18 = .ok (.getfield 15, 3) := by decide +kernel
theorem dX6_readRule_21 : decode cX6_readRule 21 = .ok (.iload_n 2, 1) := by decide +kernel
theorem dX6_readRule_22 : decode cX6_readRule 22 = .ok (.iconst 2, 1) := by decide +kernel
theorem dX6_readRule_23 : decode cX6_readRule 23 = .ok (.iadd, 1) := by decide +kernel
theorem dX6_readRule_24 : decode cX6_readRule 24 = .ok (.bipush 127, 2) := by decide +kernel
theorem dX6_readRule_26 : decode cX6_readRule 26 = .ok (.iastore, 1) := by decide +kernel
theorem dX6_readRule_27 : decode cX6_readRule 27 = .ok (.aload_n 0, 1) := by decide +kernel
theorem dX6_readRule_28 : decode cX6_readRule 28 = .ok (.getfield 15, 3) := by decide +kernel
theorem dX6_readRule_31 : decode cX6_readRule 31 = .ok (.iload_n 2, 1) := by decide +kernel
theorem dX6_readRule_32 : decode cX6_readRule 32 = .ok (.iconst 3, 1) := by decide +kernel
theorem dX6_readRule_33 : decode cX6_readRule 33 = .ok (.iadd, 1) := by decide +kernel
theorem dX6_readRule_34 : decode cX6_readRule 34 = .ok (.sipush 255, 3) := by decide +kernel
theorem dX6_readRule_37 : decode cX6_readRule 37 = .ok (.iastore, 1) := by decide +kernel
theorem dX6_readRule_38 : decode cX6_readRule 38 = .ok (.iconst 0, 1) := by decide +kernel
theorem dX6_readRule_39 : decode cX6_readRule 39 = .ok (.istore_n 3, 1) := by decide +kernel
theorem dX6_readRule_40 : decode cX6_readRule 40 = .ok (.iload_n 3, 1) := by decide +kernel
theorem dX6_readRule_41 : decode cX6_readRule 41 = .ok (.sipush 4000, 3) := by decide +kernel
theorem dX6_readRule_44 : decode cX6_readRule 44 = .ok (.if_icmp .ge 27, 3) := by decide +kernel
theorem dX6_readRule_47 : decode cX6_readRule 47 = .ok (.aload_n 0, 1) := by decide +kernel
theorem dX6_readRule_48 : decode cX6_readRule 48 = .ok (.aload_n 1, 1) := by decide +kernel
theorem dX6_readRule_49 : decode cX6_readRule 49 = .ok (.iload_n 2, 1) := by decide +kernel
theorem dX6_readRule_50 : decode cX6_readRule 50 = .ok (.invokevirtual 60, 3) := by decide +kernel
theorem dX6_readRule_53 : decode cX6_readRule 53 = .ok (.aload_n 1, 1) := by decide +kernel
theorem dX6_readRule_54 : decode cX6_readRule 54 = .ok (.bipush 44, 2) := by decide +kernel
theorem dX6_readRule_56 : decode cX6_readRule 56 = .ok (.invokevirtual 63, 3) := by decide +kernel
theorem dX6_readRule_59 : decode cX6_readRule 59 = .ok (.ifCond .ne 6, 3) := by decide +kernel
theorem dX6_readRule_62 : decode cX6_readRule 62 = .ok (.goto 9, 3) := by decide +kernel
theorem dX6_readRule_65 : decode cX6_readRule 65 = .ok (.iinc 3 1, 3) := by decide +kernel
theorem dX6_readRule_68 : decode cX6_readRule 68 = .ok (.goto (-28), 3) := by decide +kernel
theorem dX6_readRule_71 : decode cX6_readRule 71 = .ok (.aload_n 1, 1) := by decide +kernel
theorem dX6_readRule_72 : decode cX6_readRule 72 = .ok (.bipush 58, 2) := by decide +kernel
theorem dX6_readRule_74 : decode cX6_readRule 74 = .ok (.invokevirtual 67, 3) := by decide +kernel
theorem dX6_readRule_77 : decode cX6_readRule 77 = .ok (.aload_n 0, 1) := by decide +kernel
theorem dX6_readRule_78 : decode cX6_readRule 78 = .ok (.aload_n 1, 1) := by decide +kernel
theorem dX6_readRule_79 : decode cX6_readRule 79 = .ok (.iload_n 2, 1) := by decide +kernel
theorem dX6_readRule_80 : decode cX6_readRule 80 = .ok (.invokevirtual 71, 3) := by decide +kernel
theorem dX6_readRule_83 : decode cX6_readRule 83 = .ok (.aload_n 1, 1) := by decide +kernel
theorem dX6_readRule_84 : decode cX6_readRule 84 = .ok (.bipush 59, 2) := by decide +kernel
theorem dX6_readRule_86 : decode cX6_readRule 86 = .ok (.invokevirtual 67, 3) := by decide +kernel
theorem dX6_readRule_89 : decode cX6_readRule 89 = .ok (.return_, 1) := by decide +kernel
