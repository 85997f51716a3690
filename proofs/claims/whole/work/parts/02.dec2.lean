theorem dX10_sendMore_0 : decode cX10_sendMore 0 = .ok (.iconst 0, 1) := by decide +kernel
theorem dX10_sendMore_1 : decode cX10_sendMore 1 = .ok (.istore_n 2, 1) := by decide +kernel
theorem dX10_sendMore_2 : decode cX10_sendMore 2 = .ok (.iconst 0, 1) := by decide +kernel
theorem dX10_sendMore_3 : decode cX10_sendMore 3 = .ok (.istore_n 3, 1) := by decide +kernel
theorem dX10_sendMore_4 : decode cX10_sendMore 4 = .ok (.iload_n 3, 1) := by decide +kernel
theorem dX10_sendMore_5 : decode cX10_sendMore 5 = .ok (.ldc 73, 2) := by decide +kernel
theorem dX10_sendMore_7 : decode cX10_sendMore 7 = .ok (.if_icmp .ge 51, 3) := by decide +kernel
theorem dX10_sendMore_10 : decode cX10_sendMore 10 = .ok (.aload_n 0, 1) := by decide +kernel
theorem dX10_sendMore_11 : decode cX10_sendMore 11 = .ok (.iload_n 1, 1) := by decide +kernel
theorem dX10_sendMore_12 : decode cX10_sendMore 12 = .ok (.invokevirtual 80, 3) := by decide +kernel
theorem dX10_sendMore_15 : decode cX10_sendMore 15 = .ok (.ifCond .eq 43, 3) := by decide +kernel
theorem dX10_sendMore_18 : decode cX10_sendMore 18 = .ok (.aload_n 0, 1) := by decide +kernel
theorem dX10_sendMore_19 : decode cX10_sendMore 19 = .ok (.getfield 39, 3) := by decide +kernel
theorem dX10_sendMore_22 : decode cX10_sendMore 22 = .ok (.iconst 0, 1) := by decide +kernel
theorem dX10_sendMore_23 : decode cX10_sendMore 23 = .ok (.invokestatic 59, 3) := by decide +kernel
theorem dX10_sendMore_26 : decode cX10_sendMore 26 = .ok (.iconst 0, 1) := by decide +kernel
theorem dX10_sendMore_27 : decode cX10_sendMore 27 = .ok (.istore 4, 2) := by decide +kernel
theorem dX10_sendMore_29 : decode cX10_sendMore 29 = .ok (.iload 4, 2) := by decide +kernel
theorem dX10_sendMore_31 : decode cX10_sendMore 31 = .ok (.bipush 11, 2) := by decide +kernel
theorem dX10_sendMore_33 : decode cX10_sendMore 33 = .ok (.if_icmp .ge 19, 3) := by decide +kernel
theorem dX10_sendMore_36 : decode cX10_sendMore 36 = .ok (.iload_n 2, 1) := by decide +kernel
theorem dX10_sendMore_37 : decode cX10_sendMore 37 = .ok (.aload_n 0, 1) := by decide +kernel
theorem dX10_sendMore_38 : decode cX10_sendMore 38 = .ok (.iload 4, 2) := by decide +kernel
theorem dX10_sendMore_40 : decode cX10_sendMore 40 = .ok (.iload_n 1, 1) := by decide +kernel
theorem dX10_sendMore_41 : decode cX10_sendMore 41 = .ok (.invokevirtual 84, 3) := by decide +kernel
theorem dX10_sendMore_44 : decode cX10_sendMore 44 = .ok (.iadd, 1) := by decide +kernel
theorem dX10_sendMore_45 : decode cX10_sendMore 45 = .ok (.istore_n 2, 1) := by decide +kernel
theorem dX10_sendMore_46 : decode cX10_sendMore 46 = .ok (.iinc 4 1, 3) := by decide +kernel
theorem dX10_sendMore_49 : decode cX10_sendMore 49 = .ok (.goto (-20), 3) := by decide +kernel
theorem dX10_sendMore_52 : decode cX10_sendMore 52 = .ok (.iinc 3 1, 3) := by decide +kernel
theorem dX10_sendMore_55 : decode cX10_sendMore 55 = .ok (.goto (-51), 3) := by decide +kernel
theorem dX10_sendMore_58 : decode cX10_sendMore 58 = .ok (.iload_n 2, 1) := by decide +kernel
theorem dX10_sendMore_59 : decode cX10_sendMore 59 = .ok (.ireturn, 1) := by decide +kernel
theorem dX10_sendFrom_0 : decode cX10_sendFrom 0 = .ok (.iconst 0, 1) := by decide +kernel
theorem dX10_sendFrom_1 : decode cX10_sendFrom 1 = .ok (.istore_n 3, 1) := by decide +kernel
theorem dX10_sendFrom_2 : decode cX10_sendFrom 2 = .ok (.iconst 0, 1) := by decide +kernel
theorem dX10_sendFrom_3 : decode cX10_sendFrom 3 = .ok (.istore 4, 2) := by decide +kernel
theorem dX10_sendFrom_5 : decode cX10_sendFrom 5 = .ok (.iload 4, 2) := by decide +kernel
theorem dX10_sendFrom_7 : decode cX10_sendFrom 7 = .ok (.bipush 60, 2) := by decide +kernel
theorem dX10_sendFrom_9 : decode cX10_sendFrom 9 = .ok (.if_icmp .ge 108, 3) := by decide +kernel
theorem dX10_sendFrom_12 : decode cX10_sendFrom 12 = .ok (.aload_n 0, 1) := by decide +kernel
theorem dX10_sendFrom_13 : decode cX10_sendFrom 13 = .ok (.getfield 27, 3) := by decide +kernel
theorem dX10_sendFrom_16 : decode cX10_sendFrom 16 = .ok (.iload_n 1, 1) := by decide +kernel
theorem dX10_sendFrom_17 : decode cX10_sendFrom 17 = .ok (.iaload, 1) := by decide +kernel
theorem dX10_sendFrom_18 : decode cX10_sendFrom 18 = .ok (.ifCond .le 99, 3) := by decide +kernel
theorem dX10_sendFrom_21 : decode cX10_sendFrom 21 = .ok (.aload_n 0, 1) := by decide +kernel
theorem dX10_sendFrom_22 : decode cX10_sendFrom 22 = .ok (.iload_n 1, 1) := by decide +kernel
theorem dX10_sendFrom_23 : decode cX10_sendFrom 23 = .ok (.bipush 51, 2) := by decide +kernel
theorem dX10_sendFrom_25 : decode cX10_sendFrom 25 = .ok (.imul, 1) := by decide +kernel
theorem dX10_sendFrom_26 : decode cX10_sendFrom 26 = .ok (.iload_n 2, 1) := by decide +kernel
theorem dX10_sendFrom_27 : decode cX10_sendFrom 27 = .ok (.invokevirtual 87, 3) := by decide +kernel
theorem dX10_sendFrom_30 : decode cX10_sendFrom 30 = .ok (.istore 5, 2) := by decide +kernel
theorem dX10_sendFrom_32 : decode cX10_sendFrom 32 = .ok (.iload 5, 2) := by decide +kernel
theorem dX10_sendFrom_34 : decode cX10_sendFrom 34 = .ok (.ifCond .ge 6, 3) := by decide +kernel
theorem dX10_sendFrom_37 : decode cX10_sendFrom 37 = .ok (.goto 80, 3) := by decide +kernel
theorem dX10_sendFrom_40 : decode cX10_sendFrom 40 = .ok (.aload_n 0, 1) := by decide +kernel
theorem dX10_sendFrom_41 : decode cX10_sendFrom 41 = .ok (.iload 5, 2) := by decide +kernel
theorem dX10_sendFrom_43 : decode cX10_sendFrom 43 = .ok (.aload_n 0, 1) := by decide +kernel
theorem dX10_sendFrom_44 : decode cX10_sendFrom 44 = .ok (.getfield 27, 3) := by decide +kernel
theorem dX10_sendFrom_47 : decode cX10_sendFrom 47 = .ok (.iload_n 1, 1) := by decide +kernel
theorem dX10_sendFrom_48 : decode cX10_sendFrom 48 = .ok (.iaload, 1) := by decide +kernel
theorem dX10_sendFrom_49 : decode cX10_sendFrom 49 = .ok (.invokevirtual 90, 3) := by decide +kernel
theorem dX10_sendFrom_52 : decode cX10_sendFrom 52 = .ok (.istore 6, 2) := by decide +kernel
theorem dX10_sendFrom_54 : decode cX10_sendFrom 54 = .ok (.iconst 0, 1) := by decide +kernel
theorem dX10_sendFrom_55 : decode cX10_sendFrom 55 = .ok (.istore 7, 2) := by decide +kernel
theorem dX10_sendFrom_57 : decode cX10_sendFrom 57 = .ok (.iload 7, 2) := by decide +kernel
theorem dX10_sendFrom_59 : decode cX10_sendFrom 59 = .ok (.iload 5, 2) := by decide +kernel
theorem dX10_sendFrom_61 : decode cX10_sendFrom 61 = .ok (.if_icmp .ge 34, 3) := by decide +kernel
theorem dX10_sendFrom_64 : decode cX10_sendFrom 64 = .ok (.aload_n 0, 1) := by decide +kernel
theorem dX10_sendFrom_65 : decode cX10_sendFrom 65 = .ok (.aload_n 0, 1) := by decide +kernel
theorem dX10_sendFrom_66 : decode cX10_sendFrom 66 = .ok (.getfield 42, 3) := by decide +kernel
theorem dX10_sendFrom_69 : decode cX10_sendFrom 69 = .ok (.iload 7, 2) := by decide +kernel
theorem dX10_sendFrom_71 : decode cX10_sendFrom 71 = .ok (.iaload, 1) := by decide +kernel
theorem dX10_sendFrom_72 : decode cX10_sendFrom 72 = .ok (.aload_n 0, 1) := by decide +kernel
theorem dX10_sendFrom_73 : decode cX10_sendFrom 73 = .ok (.getfield 39, 3) := by decide +kernel
theorem dX10_sendFrom_76 : decode cX10_sendFrom 76 = .ok (.aload_n 0, 1) := by decide +kernel
theorem dX10_sendFrom_77 : decode cX10_sendFrom 77 = .ok (.getfield 42, 3) := by decide +kernel
theorem dX10_sendFrom_80 : decode cX10_sendFrom 80 = .ok (.iload 7, 2) := by decide +kernel
theorem dX10_sendFrom_82 : decode cX10_sendFrom 82 = .ok (.iaload, 1) := by decide +kernel
theorem dX10_sendFrom_83 : decode cX10_sendFrom 83 = .ok (.iaload, 1) := by decide +kernel
theorem dX10_sendFrom_84 : decode cX10_sendFrom 84 = .ok (.iload 6, 2) := by decide +kernel
theorem dX10_sendFrom_86 : decode cX10_sendFrom 86 = .ok (.invokevirtual 93, 3) := by decide +kernel
theorem dX10_sendFrom_89 : decode cX10_sendFrom 89 = .ok (.iinc 7 1, 3) := by decide +kernel
theorem dX10_sendFrom_92 : decode cX10_sendFrom 92 = .ok (.goto (-35), 3) := by decide +kernel
theorem dX10_sendFrom_95 : decode cX10_sendFrom 95 = .ok (.aload_n 0, 1) := by decide +kernel
theorem dX10_sendFrom_96 : decode cX10_sendFrom 96 = .ok (.getfield 27, 3) := by decide +kernel
theorem dX10_sendFrom_99 : decode cX10_sendFrom 99 = .ok (.iload_n 1, 1) := by decide +kernel
theorem dX10_sendFrom_100 : decode cX10_sendFrom 100 = .ok (.dup2, 1) := by decide +kernel
theorem dX10_sendFrom_101 : decode cX10_sendFrom 101 = .ok (.iaload, 1) := by decide +kernel
theorem dX10_sendFrom_102 : decode cX10_sendFrom 102 = .ok (.iload 6, 2) := by decide +kernel
theorem dX10_sendFrom_104 : decode cX10_sendFrom 104 = .ok (.isub, 1) := by decide +kernel
theorem dX10_sendFrom_105 : decode cX10_sendFrom 105 = .ok (.iastore, 1) := by decide +kernel
theorem dX10_sendFrom_106 : decode cX10_sendFrom 106 = .ok (.iload_n 3, 1) := by decide +kernel
theorem dX10_sendFrom_107 : decode cX10_sendFrom 107 = .ok (.iload 6, 2) := by decide +kernel
theorem dX10_sendFrom_109 : decode cX10_sendFrom 109 = .ok (.iadd, 1) := by decide +kernel
theorem dX10_sendFrom_110 : decode cX10_sendFrom 110 = .ok (.istore_n 3, 1) := by decide +kernel
theorem dX10_sendFrom_111 : decode cX10_sendFrom 111 = .ok (.iinc 4 1, 3) := by decide +kernel
theorem dX10_sendFrom_114 : decode cX10_sendFrom 114 = .ok (.goto (-109), 3) := by decide +kernel
theorem dX10_sendFrom_117 : decode cX10_sendFrom 117 = .ok (.iload_n 3, 1) := by decide +kernel
theorem dX10_sendFrom_118 : decode cX10_sendFrom 118 = .ok (.ireturn, 1) := by decide +kernel
theorem dX10_layer_0 : decode cX10_layer 0 = .ok (.aload_n 0, 1) := by decide +kernel
theorem dX10_layer_1 : decode cX10_layer 1 = .ok (.getfield 36, 3) := by decide +kernel
theorem dX10_layer_4 : decode cX10_layer 4 = .ok (.iconst (-1), 1) := by decide +kernel
theorem dX10_layer_5 : decode cX10_layer 5 = .ok (.invokestatic 59, 3) := by decide +kernel
theorem dX10_layer_8 : decode cX10_layer 8 = .ok (.iconst 0, 1) := by decide +kernel
theorem dX10_layer_9 : decode cX10_layer 9 = .ok (.istore_n 2, 1) := by decide +kernel
theorem dX10_layer_10 : decode cX10_layer 10 = .ok (.iconst 0, 1) := by decide +kernel
theorem dX10_layer_11 : decode cX10_layer 11 = .ok (.istore_n 3, 1) := by decide +kernel
theorem dX10_layer_12 : decode cX10_layer 12 = .ok (.iconst 0, 1) := by decide +kernel
theorem dX10_layer_13 : decode cX10_layer 13 = .ok (.istore 4, 2) := by decide +kernel
theorem dX10_layer_15 : decode cX10_layer 15 = .ok (.iload 4, 2) := by decide +kernel
theorem dX10_layer_17 : decode cX10_layer 17 = .ok (.bipush 11, 2) := by decide +kernel
theorem dX10_layer_19 : decode cX10_layer 19 = .ok (.if_icmp .ge 44, 3) := by decide +kernel
theorem dX10_layer_22 : decode cX10_layer 22 = .ok (.aload_n 0, 1) := by decide +kernel
theorem dX10_layer_23 : decode cX10_layer 23 = .ok (.getfield 27, 3) := by decide +kernel
theorem dX10_layer_26 : decode cX10_layer 26 = .ok (.iload 4, 2) := by decide +kernel
theorem dX10_layer_28 : decode cX10_layer 28 = .ok (.iaload, 1) := by decide +kernel
theorem dX10_layer_29 : decode cX10_layer 29 = .ok (.ifCond .le 28, 3) := by decide +kernel
theorem dX10_layer_32 : decode cX10_layer 32 = .ok (.aload_n 0, 1) := by decide +kernel
theorem dX10_layer_33 : decode cX10_layer 33 = .ok (.getfield 36, 3) := by decide +kernel
theorem dX10_layer_36 : decode cX10_layer 36 = .ok (.iload 4, 2) := by decide +kernel
theorem dX10_layer_38 : decode cX10_layer 38 = .ok (.bipush 51, 2) := by decide +kernel
theorem dX10_layer_40 : decode cX10_layer 40 = .ok (.imul, 1) := by decide +kernel
theorem dX10_layer_41 : decode cX10_layer 41 = .ok (.iconst 0, 1) := by decide +kernel
theorem dX10_layer_42 : decode cX10_layer 42 = .ok (.iastore, 1) := by decide +kernel
theorem dX10_layer_43 : decode cX10_layer 43 = .ok (.aload_n 0, 1) := by decide +kernel
theorem dX10_layer_44 : decode cX10_layer 44 = .ok (.getfield 42, 3) := by decide +kernel
theorem dX10_layer_47 : decode cX10_layer 47 = .ok (.iload_n 3, 1) := by decide +kernel
theorem dX10_layer_48 : decode cX10_layer 48 = .ok (.iload 4, 2) := by decide +kernel
theorem dX10_layer_50 : decode cX10_layer 50 = .ok (.bipush 51, 2) := by decide +kernel
theorem dX10_layer_52 : decode cX10_layer 52 = .ok (.imul, 1) := by decide +kernel
theorem dX10_layer_53 : decode cX10_layer 53 = .ok (.iastore, 1) := by decide +kernel
theorem dX10_layer_54 : decode cX10_layer 54 = .ok (.iinc 3 1, 3) := by decide +kernel
theorem dX10_layer_57 : decode cX10_layer 57 = .ok (.iinc 4 1, 3) := by decide +kernel
theorem dX10_layer_60 : decode cX10_layer 60 = .ok (.goto (-45), 3) := by decide +kernel
theorem dX10_layer_63 : decode cX10_layer 63 = .ok (.iconst 0, 1) := by decide +kernel
theorem dX10_layer_64 : decode cX10_layer 64 = .ok (.istore 4, 2) := by decide +kernel
theorem dX10_layer_66 : decode cX10_layer 66 = .ok (.iload 4, 2) := by decide +kernel
theorem dX10_layer_68 : decode cX10_layer 68 = .ok (.iload_n 3, 1) := by decide +kernel
theorem dX10_layer_69 : decode cX10_layer 69 = .ok (.if_icmp .ge 123, 3) := by decide +kernel
theorem dX10_layer_72 : decode cX10_layer 72 = .ok (.aload_n 0, 1) := by decide +kernel
theorem dX10_layer_73 : decode cX10_layer 73 = .ok (.getfield 42, 3) := by decide +kernel
theorem dX10_layer_76 : decode cX10_layer 76 = .ok (.iload 4, 2) := by decide +kernel
theorem dX10_layer_78 : decode cX10_layer 78 = .ok (.iaload, 1) := by decide +kernel
theorem dX10_layer_79 : decode cX10_layer 79 = .ok (.istore 5, 2) := by decide +kernel
theorem dX10_layer_81 : decode cX10_layer 81 = .ok (.iload 5, 2) := by decide +kernel
theorem dX10_layer_83 : decode cX10_layer 83 = .ok (.bipush 51, 2) := by decide +kernel
theorem dX10_layer_85 : decode cX10_layer 85 = .ok (.idiv, 1) := by decide +kernel
theorem dX10_layer_86 : decode cX10_layer 86 = .ok (.bipush 11, 2) := by decide +kernel
theorem dX10_layer_88 : decode cX10_layer 88 = .ok (.if_icmp .ne 8, 3) := by decide +kernel
theorem dX10_layer_91 : decode cX10_layer 91 = .ok (.iconst 1, 1) := by decide +kernel
theorem dX10_layer_92 : decode cX10_layer 92 = .ok (.istore_n 2, 1) := by decide +kernel
theorem dX10_layer_93 : decode cX10_layer 93 = .ok (.goto 93, 3) := by decide +kernel
theorem dX10_layer_96 : decode cX10_layer 96 = .ok (.aload_n 0, 1) := by decide +kernel
theorem dX10_layer_97 : decode cX10_layer 97 = .ok (.getfield 45, 3) := by decide +kernel
theorem dX10_layer_100 : decode cX10_layer 100 = .ok (.iload 5, 2) := by decide +kernel
theorem dX10_layer_102 : decode cX10_layer 102 = .ok (.bipush 51, 2) := by decide +kernel
theorem dX10_layer_104 : decode cX10_layer 104 = .ok (.idiv, 1) := by decide +kernel
theorem dX10_layer_105 : decode cX10_layer 105 = .ok (.iaload, 1) := by decide +kernel
theorem dX10_layer_106 : decode cX10_layer 106 = .ok (.iconst 2, 1) := by decide +kernel
theorem dX10_layer_107 : decode cX10_layer 107 = .ok (.iadd, 1) := by decide +kernel
theorem dX10_layer_108 : decode cX10_layer 108 = .ok (.istore 6, 2) := by decide +kernel
theorem dX10_layer_110 : decode cX10_layer 110 = .ok (.iconst 0, 1) := by decide +kernel
theorem dX10_layer_111 : decode cX10_layer 111 = .ok (.istore 7, 2) := by decide +kernel
theorem dX10_layer_113 : decode cX10_layer 113 = .ok (.iload 7, 2) := by decide +kernel
theorem dX10_layer_115 : decode cX10_layer 115 = .ok (.iload 6, 2) := by decide +kernel
theorem dX10_layer_117 : decode cX10_layer 117 = .ok (.if_icmp .ge 69, 3) := by decide +kernel
theorem dX10_layer_120 : decode cX10_layer 120 = .ok (.aload_n 0, 1) := by decide +kernel
theorem dX10_layer_121 : decode cX10_layer 121 = .ok (.iload 5, 2) := by decide +kernel
theorem dX10_layer_123 : decode cX10_layer 123 = .ok (.iload 7, 2) := by decide +kernel
theorem dX10_layer_125 : decode cX10_layer 125 = .ok (.iload_n 1, 1) := by decide +kernel
theorem dX10_layer_126 : decode cX10_layer 126 = .ok (.invokevirtual 97, 3) := by decide +kernel
theorem dX10_layer_129 : decode cX10_layer 129 = .ok (.istore 8, 2) := by decide +kernel
theorem dX10_layer_131 : decode cX10_layer 131 = .ok (.iload 8, 2) := by decide +kernel
theorem dX10_layer_133 : decode cX10_layer 133 = .ok (.ifCond .lt 47, 3) := by decide +kernel
theorem dX10_layer_136 : decode cX10_layer 136 = .ok (.aload_n 0, 1) := by decide +kernel
theorem dX10_layer_137 : decode cX10_layer 137 = .ok (.getfield 36, 3) := by decide +kernel
theorem dX10_layer_140 : decode cX10_layer 140 = .ok (.iload 8, 2) := by decide +kernel
theorem dX10_layer_142 : decode cX10_layer 142 = .ok (.iaload, 1) := by decide +kernel
theorem dX10_layer_143 : decode cX10_layer 143 = .ok (.ifCond .ge 37, 3) := by decide +kernel
theorem dX10_layer_146 : decode cX10_layer 146 = .ok (.iload_n 3, 1) := by decide +kernel
theorem dX10_layer_147 : decode cX10_layer 147 = .ok (.sipush 612, 3) := by decide +kernel
theorem dX10_layer_150 : decode cX10_layer 150 = .ok (.if_icmp .ge 30, 3) := by decide +kernel
theorem dX10_layer_153 : decode cX10_layer 153 = .ok (.aload_n 0, 1) := by decide +kernel
theorem dX10_layer_154 : decode cX10_layer 154 = .ok (.getfield 36, 3) := by decide +kernel
theorem dX10_layer_157 : decode cX10_layer 157 = .ok (.iload 8, 2) := by decide +kernel
theorem dX10_layer_159 : decode cX10_layer 159 = .ok (.aload_n 0, 1) := by decide +kernel
theorem dX10_layer_160 : decode cX10_layer 160 = .ok (.getfield 36, 3) := by decide +kernel
theorem dX10_layer_163 : decode cX10_layer 163 = .ok (.iload 5, 2) := by decide +kernel
theorem dX10_layer_165 : decode cX10_layer 165 = .ok (.iaload, 1) := by decide +kernel
theorem dX10_layer_166 : decode cX10_layer 166 = .ok (.iconst 1, 1) := by decide +kernel
theorem dX10_layer_167 : decode cX10_layer 167 = .ok (.iadd, 1) := by decide +kernel
theorem dX10_layer_168 : decode cX10_layer 168 = .ok (.iastore, 1) := by decide +kernel
theorem dX10_layer_169 : decode cX10_layer 169 = .ok (.aload_n 0, 1) := by decide +kernel
theorem dX10_layer_170 : decode cX10_layer 170 = .ok (.getfield 42, 3) := by decide +kernel
theorem dX10_layer_173 : decode cX10_layer 173 = .ok (.iload_n 3, 1) := by decide +kernel
theorem dX10_layer_174 : decode cX10_layer 174 = .ok (.iload 8, 2) := by decide +kernel
theorem dX10_layer_176 : decode cX10_layer 176 = .ok (.iastore, 1) := by decide +kernel
theorem dX10_layer_177 : decode cX10_layer 177 = .ok (.iinc 3 1, 3) := by decide +kernel
theorem dX10_layer_180 : decode cX10_layer 180 = .ok (.iinc 7 1, 3) := by decide +kernel
theorem dX10_layer_183 : decode cX10_layer 183 = .ok (.goto (-70), 3) := by decide +kernel
theorem dX10_layer_186 : decode cX10_layer 186 = .ok (.iinc 4 1, 3) := by decide +kernel
theorem dX10_layer_189 : decode cX10_layer 189 = .ok (.goto (-123), 3) := by decide +kernel
theorem dX10_layer_192 : decode cX10_layer 192 = .ok (.iload_n 2, 1) := by decide +kernel
theorem dX10_layer_193 : decode cX10_layer 193 = .ok (.ireturn, 1) := by decide +kernel
theorem dX10_walk_0 : decode cX10_walk 0 = .ok (.iconst 0, 1) := by decide +kernel
theorem dX10_walk_1 : decode cX10_walk 1 = .ok (.istore_n 3, 1) := by decide +kernel
theorem dX10_walk_2 : decode cX10_walk 2 = .ok (.aload_n 0, 1) := by decide +kernel
theorem dX10_walk_3 : decode cX10_walk 3 = .ok (.getfield 42, 3) := by decide +kernel
theorem dX10_walk_6 : decode cX10_walk 6 = .ok (.iconst 0, 1) := by decide +kernel
theorem dX10_walk_7 : decode cX10_walk 7 = .ok (.iload_n 1, 1) := by decide +kernel
theorem dX10_walk_8 : decode cX10_walk 8 = .ok (.iastore, 1) := by decide +kernel
theorem dX10_walk_9 : decode cX10_walk 9 = .ok (.iconst 0, 1) := by decide +kernel
theorem dX10_walk_10 : decode cX10_walk 10 = .ok (.istore 4, 2) := by decide +kernel
theorem dX10_walk_12 : decode cX10_walk 12 = .ok (.iload 4, 2) := by decide +kernel
theorem dX10_walk_14 : decode cX10_walk 14 = .ok (.ldc 73, 2) := by decide +kernel
theorem dX10_walk_16 : decode cX10_walk 16 = .ok (.if_icmp .ge 90, 3) := by decide +kernel
theorem dX10_walk_19 : decode cX10_walk 19 = .ok (.aload_n 0, 1) := by decide +kernel
theorem dX10_walk_20 : decode cX10_walk 20 = .ok (.getfield 42, 3) := by decide +kernel
theorem dX10_walk_23 : decode cX10_walk 23 = .ok (.iload_n 3, 1) := by decide +kernel
theorem dX10_walk_24 : decode cX10_walk 24 = .ok (.iaload, 1) := by decide +kernel
theorem dX10_walk_25 : decode cX10_walk 25 = .ok (.istore 5, 2) := by decide +kernel
theorem dX10_walk_27 : decode cX10_walk 27 = .ok (.iload 5, 2) := by decide +kernel
theorem dX10_walk_29 : decode cX10_walk 29 = .ok (.bipush 51, 2) := by decide +kernel
theorem dX10_walk_31 : decode cX10_walk 31 = .ok (.idiv, 1) := by decide +kernel
theorem dX10_walk_32 : decode cX10_walk 32 = .ok (.bipush 11, 2) := by decide +kernel
theorem dX10_walk_34 : decode cX10_walk 34 = .ok (.if_icmp .ne 5, 3) := by decide +kernel
theorem dX10_walk_37 : decode cX10_walk 37 = .ok (.iload_n 3, 1) := by decide +kernel
theorem dX10_walk_38 : decode cX10_walk 38 = .ok (.ireturn, 1) := by decide +kernel
theorem dX10_walk_39 : decode cX10_walk 39 = .ok (.aload_n 0, 1) := by decide +kernel
theorem dX10_walk_40 : decode cX10_walk 40 = .ok (.iload 5, 2) := by decide +kernel
theorem dX10_walk_42 : decode cX10_walk 42 = .ok (.iload_n 2, 1) := by decide +kernel
theorem dX10_walk_43 : decode cX10_walk 43 = .ok (.invokevirtual 101, 3) := by decide +kernel
theorem dX10_walk_46 : decode cX10_walk 46 = .ok (.istore 6, 2) := by decide +kernel
theorem dX10_walk_48 : decode cX10_walk 48 = .ok (.iload 6, 2) := by decide +kernel
theorem dX10_walk_50 : decode cX10_walk 50 = .ok (.ifCond .lt 26, 3) := by decide +kernel
theorem dX10_walk_53 : decode cX10_walk 53 = .ok (.iload_n 3, 1) := by decide +kernel
theorem dX10_walk_54 : decode cX10_walk 54 = .ok (.iconst 1, 1) := by decide +kernel
theorem dX10_walk_55 : decode cX10_walk 55 = .ok (.iadd, 1) := by decide +kernel
theorem dX10_walk_56 : decode cX10_walk 56 = .ok (.sipush 612, 3) := by decide +kernel
theorem dX10_walk_59 : decode cX10_walk 59 = .ok (.if_icmp .ge 17, 3) := by decide +kernel
theorem dX10_walk_62 : decode cX10_walk 62 = .ok (.iinc 3 1, 3) := by decide +kernel
theorem dX10_walk_65 : decode cX10_walk 65 = .ok (.aload_n 0, 1) := by decide +kernel
theorem dX10_walk_66 : decode cX10_walk 66 = .ok (.getfield 42, 3) := by decide +kernel
theorem dX10_walk_69 : decode cX10_walk 69 = .ok (.iload_n 3, 1) := by decide +kernel
theorem dX10_walk_70 : decode cX10_walk 70 = .ok (.iload 6, 2) := by decide +kernel
theorem dX10_walk_72 : decode cX10_walk 72 = .ok (.iastore, 1) := by decide +kernel
theorem dX10_walk_73 : decode cX10_walk 73 = .ok (.goto 27, 3) := by decide +kernel
theorem dX10_walk_76 : decode cX10_walk 76 = .ok (.iload_n 3, 1) := by decide +kernel
theorem dX10_walk_77 : decode cX10_walk 77 = .ok (.ifCond .ne 5, 3) := by decide +kernel
theorem dX10_walk_80 : decode cX10_walk 80 = .ok (.iconst (-1), 1) := by decide +kernel
theorem dX10_walk_81 : decode cX10_walk 81 = .ok (.ireturn, 1) := by decide +kernel
theorem dX10_walk_82 : decode cX10_walk 82 = .ok (.iinc 3 (-1), 3) := by decide +kernel
theorem dX10_walk_85 : decode cX10_walk 85 = .ok (.aload_n 0, 1) := by decide +kernel
theorem dX10_walk_86 : decode cX10_walk 86 = .ok (.getfield 39, 3) := by decide +kernel
theorem dX10_walk_89 : decode cX10_walk 89 = .ok (.aload_n 0, 1) := by decide +kernel
theorem dX10_walk_90 : decode cX10_walk 90 = .ok (.getfield 42, 3) := by decide +kernel
theorem dX10_walk_93 : decode cX10_walk 93 = .ok (.iload_n 3, 1) := by decide +kernel
theorem dX10_walk_94 : decode cX10_walk 94 = .ok (.iaload, 1) := by decide +kernel
theorem dX10_walk_95 : decode cX10_walk 95 = .ok (.dup2, 1) := by decide +kernel
theorem dX10_walk_96 : decode cX10_walk 96 = .ok (.iaload, 1) := by decide +kernel
theorem dX10_walk_97 : decode cX10_walk 97 = .ok (.iconst 1, 1) := by decide +kernel
theorem dX10_walk_98 : decode cX10_walk 98 = .ok (.iadd, 1) := by decide +kernel
theorem dX10_walk_99 : decode cX10_walk 99 = .ok (.iastore, 1) := by decide +kernel
theorem dX10_walk_100 : decode cX10_walk 100 = .ok (.iinc 4 1, 3) := by decide +kernel
theorem dX10_walk_103 : decode cX10_walk 103 = .ok (.goto (-91), 3) := by decide +kernel
theorem dX10_walk_106 : decode cX10_walk 106 = .ok (.iconst (-1), 1) := by decide +kernel
theorem dX10_walk_107 : decode cX10_walk 107 = .ok (.ireturn, 1) := by decide +kernel
theorem dX10_nextBy_0 : decode cX10_nextBy 0 = .ok (.aload_n 0, 1) := by decide +kernel
theorem dX10_nextBy_1 : decode cX10_nextBy 1 = .ok (.getfield 45, 3) := by decide +kernel
theorem dX10_nextBy_4 : decode cX10_nextBy 4 = .ok (.iload_n 1, 1) := by decide +kernel
theorem dX10_nextBy_5 : decode cX10_nextBy 5 = .ok (.bipush 51, 2) := by decide +kernel
theorem dX10_nextBy_7 : decode cX10_nextBy 7 = .ok (.idiv, 1) := by decide +kernel
theorem dX10_nextBy_8 : decode cX10_nextBy 8 = .ok (.iaload, 1) := by decide +kernel
theorem dX10_nextBy_9 : decode cX10_nextBy 9 = .ok (.iconst 2, 1) := by decide +kernel
theorem dX10_nextBy_10 : decode cX10_nextBy 10 = .ok (.iadd, 1) := by decide +kernel
theorem dX10_nextBy_11 : decode cX10_nextBy 11 = .ok (.istore_n 3, 1) := by decide +kernel
theorem dX10_nextBy_12 : decode cX10_nextBy 12 = .ok (.aload_n 0, 1) := by decide +kernel
theorem dX10_nextBy_13 : decode cX10_nextBy 13 = .ok (.getfield 39, 3) := by decide +kernel
theorem dX10_nextBy_16 : decode cX10_nextBy 16 = .ok (.iload_n 1, 1) := by decide +kernel
theorem dX10_nextBy_17 : decode cX10_nextBy 17 = .ok (.iaload, 1) := by decide +kernel
theorem dX10_nextBy_18 : decode cX10_nextBy 18 = .ok (.istore 4, 2) := by decide +kernel
theorem dX10_nextBy_20 : decode cX10_nextBy 20 = .ok (.iload 4, 2) := by decide +kernel
theorem dX10_nextBy_22 : decode cX10_nextBy 22 = .ok (.iload_n 3, 1) := by decide +kernel
theorem dX10_nextBy_23 : decode cX10_nextBy 23 = .ok (.if_icmp .ge 53, 3) := by decide +kernel
theorem dX10_nextBy_26 : decode cX10_nextBy 26 = .ok (.aload_n 0, 1) := by decide +kernel
theorem dX10_nextBy_27 : decode cX10_nextBy 27 = .ok (.iload_n 1, 1) := by decide +kernel
theorem dX10_nextBy_28 : decode cX10_nextBy 28 = .ok (.iload 4, 2) := by decide +kernel
theorem dX10_nextBy_30 : decode cX10_nextBy 30 = .ok (.iload_n 2, 1) := by decide +kernel
theorem dX10_nextBy_31 : decode cX10_nextBy 31 = .ok (.invokevirtual 97, 3) := by decide +kernel
theorem dX10_nextBy_34 : decode cX10_nextBy 34 = .ok (.istore 5, 2) := by decide +kernel
theorem dX10_nextBy_36 : decode cX10_nextBy 36 = .ok (.iload 5, 2) := by decide +kernel
theorem dX10_nextBy_38 : decode cX10_nextBy 38 = .ok (.ifCond .lt 32, 3) := by decide +kernel
theorem dX10_nextBy_41 : decode cX10_nextBy 41 = .ok (.aload_n 0, 1) := by decide +kernel
theorem dX10_nextBy_42 : decode cX10_nextBy 42 = .ok (.getfield 36, 3) := by decide +kernel
theorem dX10_nextBy_45 : decode cX10_nextBy 45 = .ok (.iload 5, 2) := by decide +kernel
theorem dX10_nextBy_47 : decode cX10_nextBy 47 = .ok (.iaload, 1) := by decide +kernel
theorem dX10_nextBy_48 : decode cX10_nextBy 48 = .ok (.aload_n 0, 1) := by decide +kernel
theorem dX10_nextBy_49 : decode cX10_nextBy 49 = .ok (.getfield 36, 3) := by decide +kernel
theorem dX10_nextBy_52 : decode cX10_nextBy 52 = .ok (.iload_n 1, 1) := by decide +kernel
theorem dX10_nextBy_53 : decode cX10_nextBy 53 = .ok (.iaload, 1) := by decide +kernel
theorem dX10_nextBy_54 : decode cX10_nextBy 54 = .ok (.iconst 1, 1) := by decide +kernel
theorem dX10_nextBy_55 : decode cX10_nextBy 55 = .ok (.iadd, 1) := by decide +kernel
theorem dX10_nextBy_56 : decode cX10_nextBy 56 = .ok (.if_icmp .ne 14, 3) := by decide +kernel
theorem dX10_nextBy_59 : decode cX10_nextBy 59 = .ok (.aload_n 0, 1) := by decide +kernel
theorem dX10_nextBy_60 : decode cX10_nextBy 60 = .ok (.getfield 39, 3) := by decide +kernel
theorem dX10_nextBy_63 : decode cX10_nextBy 63 = .ok (.iload_n 1, 1) := by decide +kernel
theorem dX10_nextBy_64 : decode cX10_nextBy 64 = .ok (.iload 4, 2) := by decide +kernel
theorem dX10_nextBy_66 : decode cX10_nextBy 66 = .ok (.iastore, 1) := by decide +kernel
theorem dX10_nextBy_67 : decode cX10_nextBy 67 = .ok (.iload 5, 2) := by decide +kernel
theorem dX10_nextBy_69 : decode cX10_nextBy 69 = .ok (.ireturn, 1) := by decide +kernel
theorem dX10_nextBy_70 : decode cX10_nextBy 70 = .ok (.iinc 4 1, 3) := by decide +kernel
theorem dX10_nextBy_73 : decode cX10_nextBy 73 = .ok (.goto (-53), 3) := by decide +kernel
theorem dX10_nextBy_76 : decode cX10_nextBy 76 = .ok (.aload_n 0, 1) := by decide +kernel
theorem dX10_nextBy_77 : decode cX10_nextBy 77 = .ok (.getfield 39, 3) := by decide +kernel
theorem dX10_nextBy_80 : decode cX10_nextBy 80 = .ok (.iload_n 1, 1) := by decide +kernel
theorem dX10_nextBy_81 : decode cX10_nextBy 81 = .ok (.iload_n 3, 1) := by decide +kernel
theorem dX10_nextBy_82 : decode cX10_nextBy 82 = .ok (.iastore, 1) := by decide +kernel
theorem dX10_nextBy_83 : decode cX10_nextBy 83 = .ok (.iconst (-1), 1) := by decide +kernel
theorem dX10_nextBy_84 : decode cX10_nextBy 84 = .ok (.ireturn, 1) := by decide +kernel
theorem dX10_narrowest_0 : decode cX10_narrowest 0 = .ok (.iload_n 2, 1) := by decide +kernel
theorem dX10_narrowest_1 : decode cX10_narrowest 1 = .ok (.istore_n 3, 1) := by decide +kernel
theorem dX10_narrowest_2 : decode cX10_narrowest 2 = .ok (.iconst 0, 1) := by decide +kernel
theorem dX10_narrowest_3 : decode cX10_narrowest 3 = .ok (.istore 4, 2) := by decide +kernel
theorem dX10_narrowest_5 : decode cX10_narrowest 5 = .ok (.iload 4, 2) := by decide +kernel
theorem dX10_narrowest_7 : decode cX10_narrowest 7 = .ok (.iload_n 1, 1) := by decide +kernel
theorem dX10_narrowest_8 : decode cX10_narrowest 8 = .ok (.if_icmp .ge 37, 3) := by decide +kernel
theorem dX10_narrowest_11 : decode cX10_narrowest 11 = .ok (.iload_n 3, 1) := by decide +kernel
theorem dX10_narrowest_12 : decode cX10_narrowest 12 = .ok (.aload_n 0, 1) := by decide +kernel
theorem dX10_narrowest_13 : decode cX10_narrowest 13 = .ok (.aload_n 0, 1) := by decide +kernel
theorem dX10_narrowest_14 : decode cX10_narrowest 14 = .ok (.getfield 42, 3) := by decide +kernel
theorem dX10_narrowest_17 : decode cX10_narrowest 17 = .ok (.iload 4, 2) := by decide +kernel
theorem dX10_narrowest_19 : decode cX10_narrowest 19 = .ok (.iaload, 1) := by decide +kernel
theorem dX10_narrowest_20 : decode cX10_narrowest 20 = .ok (.aload_n 0, 1) := by decide +kernel
theorem dX10_narrowest_21 : decode cX10_narrowest 21 = .ok (.getfield 39, 3) := by decide +kernel
theorem dX10_narrowest_24 : decode cX10_narrowest 24 = .ok (.aload_n 0, 1) := by decide +kernel
theorem dX10_narrowest_25 : decode cX10_narrowest 25 = .ok (.getfield 42, 3) := by decide +kernel
theorem dX10_narrowest_28 : decode cX10_narrowest 28 = .ok (.iload 4, 2) := by decide +kernel
theorem dX10_narrowest_30 : decode cX10_narrowest 30 = .ok (.iaload, 1) := by decide +kernel
theorem dX10_narrowest_31 : decode cX10_narrowest 31 = .ok (.iaload, 1) := by decide +kernel
theorem dX10_narrowest_32 : decode cX10_narrowest 32 = .ok (.invokevirtual 104, 3) := by decide +kernel
theorem dX10_narrowest_35 : decode cX10_narrowest 35 = .ok (.invokestatic 107, 3) := by decide +kernel
theorem dX10_narrowest_38 : decode cX10_narrowest 38 = .ok (.istore_n 3, 1) := by decide +kernel
theorem dX10_narrowest_39 : decode cX10_narrowest 39 = .ok (.iinc 4 1, 3) := by decide +kernel
theorem dX10_narrowest_42 : decode cX10_narrowest 42 = .ok (.goto (-37), 3) := by decide +kernel
theorem dX10_narrowest_45 : decode cX10_narrowest 45 = .ok (.iload_n 3, 1) := by decide +kernel
theorem dX10_narrowest_46 : decode cX10_narrowest 46 = .ok (.ireturn, 1) := by decide +kernel
theorem dX10_endOf_0 : decode cX10_endOf 0 = .ok (.iload_n 1, 1) := by decide +kernel
theorem dX10_endOf_1 : decode cX10_endOf 1 = .ok (.bipush 51, 2) := by decide +kernel
theorem dX10_endOf_3 : decode cX10_endOf 3 = .ok (.idiv, 1) := by decide +kernel
theorem dX10_endOf_4 : decode cX10_endOf 4 = .ok (.istore 4, 2) := by decide +kernel
theorem dX10_endOf_6 : decode cX10_endOf 6 = .ok (.iload_n 1, 1) := by decide +kernel
theorem dX10_endOf_7 : decode cX10_endOf 7 = .ok (.bipush 51, 2) := by decide +kernel
theorem dX10_endOf_9 : decode cX10_endOf 9 = .ok (.irem, 1) := by decide +kernel
theorem dX10_endOf_10 : decode cX10_endOf 10 = .ok (.istore 5, 2) := by decide +kernel
theorem dX10_endOf_12 : decode cX10_endOf 12 = .ok (.aload_n 0, 1) := by decide +kernel
theorem dX10_endOf_13 : decode cX10_endOf 13 = .ok (.getfield 45, 3) := by decide +kernel
theorem dX10_endOf_16 : decode cX10_endOf 16 = .ok (.iload 4, 2) := by decide +kernel
theorem dX10_endOf_18 : decode cX10_endOf 18 = .ok (.iaload, 1) := by decide +kernel
theorem dX10_endOf_19 : decode cX10_endOf 19 = .ok (.istore 6, 2) := by decide +kernel
theorem dX10_endOf_21 : decode cX10_endOf 21 = .ok (.iload_n 2, 1) := by decide +kernel
theorem dX10_endOf_22 : decode cX10_endOf 22 = .ok (.iload 6, 2) := by decide +kernel
theorem dX10_endOf_24 : decode cX10_endOf 24 = .ok (.if_icmp .ne 17, 3) := by decide +kernel
theorem dX10_endOf_27 : decode cX10_endOf 27 = .ok (.iload 5, 2) := by decide +kernel
theorem dX10_endOf_29 : decode cX10_endOf 29 = .ok (.iload_n 3, 1) := by decide +kernel
theorem dX10_endOf_30 : decode cX10_endOf 30 = .ok (.if_icmp .ge 9, 3) := by decide +kernel
theorem dX10_endOf_33 : decode cX10_endOf 33 = .ok (.iload_n 1, 1) := by decide +kernel
theorem dX10_endOf_34 : decode cX10_endOf 34 = .ok (.iconst 1, 1) := by decide +kernel
theorem dX10_endOf_35 : decode cX10_endOf 35 = .ok (.iadd, 1) := by decide +kernel
theorem dX10_endOf_36 : decode cX10_endOf 36 = .ok (.goto 4, 3) := by decide +kernel
theorem dX10_endOf_39 : decode cX10_endOf 39 = .ok (.iconst (-1), 1) := by decide +kernel
theorem dX10_endOf_40 : decode cX10_endOf 40 = .ok (.ireturn, 1) := by decide +kernel
theorem dX10_endOf_41 : decode cX10_endOf 41 = .ok (.iload_n 2, 1) := by decide +kernel
theorem dX10_endOf_42 : decode cX10_endOf 42 = .ok (.iload 6, 2) := by decide +kernel
theorem dX10_endOf_44 : decode cX10_endOf 44 = .ok (.if_icmp .le 27, 3) := by decide +kernel
theorem dX10_endOf_47 : decode cX10_endOf 47 = .ok (.iload 5, 2) := by decide +kernel
theorem dX10_endOf_49 : decode cX10_endOf 49 = .ok (.ifCond .le 20, 3) := by decide +kernel
theorem dX10_endOf_52 : decode cX10_endOf 52 = .ok (.aload_n 0, 1) := by decide +kernel
theorem dX10_endOf_53 : decode cX10_endOf 53 = .ok (.getfield 33, 3) := by decide +kernel
theorem dX10_endOf_56 : decode cX10_endOf 56 = .ok (.iload_n 1, 1) := by decide +kernel
theorem dX10_endOf_57 : decode cX10_endOf 57 = .ok (.iconst 1, 1) := by decide +kernel
theorem dX10_endOf_58 : decode cX10_endOf 58 = .ok (.isub, 1) := by decide +kernel
theorem dX10_endOf_59 : decode cX10_endOf 59 = .ok (.iaload, 1) := by decide +kernel
theorem dX10_endOf_60 : decode cX10_endOf 60 = .ok (.ifCond .le 9, 3) := by decide +kernel
theorem dX10_endOf_63 : decode cX10_endOf 63 = .ok (.iload_n 1, 1) := by decide +kernel
theorem dX10_endOf_64 : decode cX10_endOf 64 = .ok (.iconst 1, 1) := by decide +kernel
theorem dX10_endOf_65 : decode cX10_endOf 65 = .ok (.isub, 1) := by decide +kernel
theorem dX10_endOf_66 : decode cX10_endOf 66 = .ok (.goto 4, 3) := by decide +kernel
theorem dX10_endOf_69 : decode cX10_endOf 69 = .ok (.iconst (-1), 1) := by decide +kernel
theorem dX10_endOf_70 : decode cX10_endOf 70 = .ok (.ireturn, 1) := by decide +kernel
theorem dX10_endOf_71 : decode cX10_endOf 71 = .ok (.aload_n 0, 1) := by decide +kernel
theorem dX10_endOf_72 : decode cX10_endOf 72 = .ok (.getfield 48, 3) := by decide +kernel
theorem dX10_endOf_75 : decode cX10_endOf 75 = .ok (.iload 4, 2) := by decide +kernel
theorem dX10_endOf_77 : decode cX10_endOf 77 = .ok (.iconst 2, 1) := by decide +kernel
theorem dX10_endOf_78 : decode cX10_endOf 78 = .ok (.imul, 1) := by decide +kernel
theorem dX10_endOf_79 : decode cX10_endOf 79 = .ok (.bipush 20, 2) := by decide +kernel
theorem dX10_endOf_81 : decode cX10_endOf 81 = .ok (.imul, 1) := by decide +kernel
theorem dX10_endOf_82 : decode cX10_endOf 82 = .ok (.iload_n 2, 1) := by decide +kernel
theorem dX10_endOf_83 : decode cX10_endOf 83 = .ok (.iadd, 1) := by decide +kernel
theorem dX10_endOf_84 : decode cX10_endOf 84 = .ok (.iaload, 1) := by decide +kernel
theorem dX10_endOf_85 : decode cX10_endOf 85 = .ok (.istore 7, 2) := by decide +kernel
theorem dX10_endOf_87 : decode cX10_endOf 87 = .ok (.iload 7, 2) := by decide +kernel
theorem dX10_endOf_89 : decode cX10_endOf 89 = .ok (.bipush 20, 2) := by decide +kernel
theorem dX10_endOf_91 : decode cX10_endOf 91 = .ok (.if_icmp .ge 62, 3) := by decide +kernel
theorem dX10_endOf_94 : decode cX10_endOf 94 = .ok (.iload 5, 2) := by decide +kernel
theorem dX10_endOf_96 : decode cX10_endOf 96 = .ok (.aload_n 0, 1) := by decide +kernel
theorem dX10_endOf_97 : decode cX10_endOf 97 = .ok (.getfield 21, 3) := by decide +kernel
theorem dX10_endOf_100 : decode cX10_endOf 100 = .ok (.iload 7, 2) := by decide +kernel
theorem dX10_endOf_102 : decode cX10_endOf 102 = .ok (.iaload, 1) := by decide +kernel
theorem dX10_endOf_103 : decode cX10_endOf 103 = .ok (.iadd, 1) := by decide +kernel
theorem dX10_endOf_104 : decode cX10_endOf 104 = .ok (.istore 8, 2) := by decide +kernel
theorem dX10_endOf_106 : decode cX10_endOf 106 = .ok (.iload 8, 2) := by decide +kernel
theorem dX10_endOf_108 : decode cX10_endOf 108 = .ok (.iload_n 3, 1) := by decide +kernel
theorem dX10_endOf_109 : decode cX10_endOf 109 = .ok (.if_icmp .gt 42, 3) := by decide +kernel
theorem dX10_endOf_112 : decode cX10_endOf 112 = .ok (.aload_n 0, 1) := by decide +kernel
theorem dX10_endOf_113 : decode cX10_endOf 113 = .ok (.getfield 30, 3) := by decide +kernel
theorem dX10_endOf_116 : decode cX10_endOf 116 = .ok (.iload 7, 2) := by decide +kernel
theorem dX10_endOf_118 : decode cX10_endOf 118 = .ok (.bipush 51, 2) := by decide +kernel
theorem dX10_endOf_120 : decode cX10_endOf 120 = .ok (.imul, 1) := by decide +kernel
theorem dX10_endOf_121 : decode cX10_endOf 121 = .ok (.iload 5, 2) := by decide +kernel
theorem dX10_endOf_123 : decode cX10_endOf 123 = .ok (.iadd, 1) := by decide +kernel
theorem dX10_endOf_124 : decode cX10_endOf 124 = .ok (.iaload, 1) := by decide +kernel
theorem dX10_endOf_125 : decode cX10_endOf 125 = .ok (.aload_n 0, 1) := by decide +kernel
theorem dX10_endOf_126 : decode cX10_endOf 126 = .ok (.getfield 18, 3) := by decide +kernel
theorem dX10_endOf_129 : decode cX10_endOf 129 = .ok (.iload 7, 2) := by decide +kernel
theorem dX10_endOf_131 : decode cX10_endOf 131 = .ok (.iaload, 1) := by decide +kernel
theorem dX10_endOf_132 : decode cX10_endOf 132 = .ok (.if_icmp .ge 19, 3) := by decide +kernel
theorem dX10_endOf_135 : decode cX10_endOf 135 = .ok (.aload_n 0, 1) := by decide +kernel
theorem dX10_endOf_136 : decode cX10_endOf 136 = .ok (.getfield 15, 3) := by decide +kernel
theorem dX10_endOf_139 : decode cX10_endOf 139 = .ok (.iload 7, 2) := by decide +kernel
theorem dX10_endOf_141 : decode cX10_endOf 141 = .ok (.iaload, 1) := by decide +kernel
theorem dX10_endOf_142 : decode cX10_endOf 142 = .ok (.bipush 51, 2) := by decide +kernel
theorem dX10_endOf_144 : decode cX10_endOf 144 = .ok (.imul, 1) := by decide +kernel
theorem dX10_endOf_145 : decode cX10_endOf 145 = .ok (.iload 8, 2) := by decide +kernel
theorem dX10_endOf_147 : decode cX10_endOf 147 = .ok (.iadd, 1) := by decide +kernel
theorem dX10_endOf_148 : decode cX10_endOf 148 = .ok (.goto 4, 3) := by decide +kernel
theorem dX10_endOf_151 : decode cX10_endOf 151 = .ok (.iconst (-1), 1) := by decide +kernel
theorem dX10_endOf_152 : decode cX10_endOf 152 = .ok (.ireturn, 1) := by decide +kernel
theorem dX10_endOf_153 : decode cX10_endOf 153 = .ok (.iload 7, 2) := by decide +kernel
theorem dX10_endOf_155 : decode cX10_endOf 155 = .ok (.bipush 20, 2) := by decide +kernel
theorem dX10_endOf_157 : decode cX10_endOf 157 = .ok (.isub, 1) := by decide +kernel
theorem dX10_endOf_158 : decode cX10_endOf 158 = .ok (.istore 8, 2) := by decide +kernel
theorem dX10_endOf_160 : decode cX10_endOf 160 = .ok (.iload 5, 2) := by decide +kernel
theorem dX10_endOf_162 : decode cX10_endOf 162 = .ok (.aload_n 0, 1) := by decide +kernel
theorem dX10_endOf_163 : decode cX10_endOf 163 = .ok (.getfield 21, 3) := by decide +kernel
theorem dX10_endOf_166 : decode cX10_endOf 166 = .ok (.iload 8, 2) := by decide +kernel
theorem dX10_endOf_168 : decode cX10_endOf 168 = .ok (.iaload, 1) := by decide +kernel
theorem dX10_endOf_169 : decode cX10_endOf 169 = .ok (.isub, 1) := by decide +kernel
theorem dX10_endOf_170 : decode cX10_endOf 170 = .ok (.istore 9, 2) := by decide +kernel
theorem dX10_endOf_172 : decode cX10_endOf 172 = .ok (.iload 9, 2) := by decide +kernel
theorem dX10_endOf_174 : decode cX10_endOf 174 = .ok (.ifCond .lt 35, 3) := by decide +kernel
theorem dX10_endOf_177 : decode cX10_endOf 177 = .ok (.aload_n 0, 1) := by decide +kernel
theorem dX10_endOf_178 : decode cX10_endOf 178 = .ok (.getfield 30, 3) := by decide +kernel
theorem dX10_endOf_181 : decode cX10_endOf 181 = .ok (.iload 8, 2) := by decide +kernel
theorem dX10_endOf_183 : decode cX10_endOf 183 = .ok (.bipush 51, 2) := by decide +kernel
theorem dX10_endOf_185 : decode cX10_endOf 185 = .ok (.imul, 1) := by decide +kernel
theorem dX10_endOf_186 : decode cX10_endOf 186 = .ok (.iload 9, 2) := by decide +kernel
theorem dX10_endOf_188 : decode cX10_endOf 188 = .ok (.iadd, 1) := by decide +kernel
theorem dX10_endOf_189 : decode cX10_endOf 189 = .ok (.iaload, 1) := by decide +kernel
theorem dX10_endOf_190 : decode cX10_endOf 190 = .ok (.ifCond .le 19, 3) := by decide +kernel
theorem dX10_endOf_193 : decode cX10_endOf 193 = .ok (.aload_n 0, 1) := by decide +kernel
theorem dX10_endOf_194 : decode cX10_endOf 194 = .ok (.getfield 11, 3) := by decide +kernel
theorem dX10_endOf_197 : decode cX10_endOf 197 = .ok (.iload 8, 2) := by decide +kernel
theorem dX10_endOf_199 : decode cX10_endOf 199 = .ok (.iaload, 1) := by decide +kernel
theorem dX10_endOf_200 : decode cX10_endOf 200 = .ok (.bipush 51, 2) := by decide +kernel
theorem dX10_endOf_202 : decode cX10_endOf 202 = .ok (.imul, 1) := by decide +kernel
theorem dX10_endOf_203 : decode cX10_endOf 203 = .ok (.iload 9, 2) := by decide +kernel
theorem dX10_endOf_205 : decode cX10_endOf 205 = .ok (.iadd, 1) := by decide +kernel
theorem dX10_endOf_206 : decode cX10_endOf 206 = .ok (.goto 4, 3) := by decide +kernel
theorem dX10_endOf_209 : decode cX10_endOf 209 = .ok (.iconst (-1), 1) := by decide +kernel
theorem dX10_endOf_210 : decode cX10_endOf 210 = .ok (.ireturn, 1) := by decide +kernel
theorem dX10_roomOf_0 : decode cX10_roomOf 0 = .ok (.iload_n 1, 1) := by decide +kernel
theorem dX10_roomOf_1 : decode cX10_roomOf 1 = .ok (.bipush 51, 2) := by decide +kernel
theorem dX10_roomOf_3 : decode cX10_roomOf 3 = .ok (.idiv, 1) := by decide +kernel
theorem dX10_roomOf_4 : decode cX10_roomOf 4 = .ok (.istore_n 3, 1) := by decide +kernel
theorem dX10_roomOf_5 : decode cX10_roomOf 5 = .ok (.iload_n 1, 1) := by decide +kernel
theorem dX10_roomOf_6 : decode cX10_roomOf 6 = .ok (.bipush 51, 2) := by decide +kernel
theorem dX10_roomOf_8 : decode cX10_roomOf 8 = .ok (.irem, 1) := by decide +kernel
theorem dX10_roomOf_9 : decode cX10_roomOf 9 = .ok (.istore 4, 2) := by decide +kernel
theorem dX10_roomOf_11 : decode cX10_roomOf 11 = .ok (.iload_n 2, 1) := by decide +kernel
theorem dX10_roomOf_12 : decode cX10_roomOf 12 = .ok (.aload_n 0, 1) := by decide +kernel
theorem dX10_roomOf_13 : decode cX10_roomOf 13 = .ok (.getfield 45, 3) := by decide +kernel
theorem dX10_roomOf_16 : decode cX10_roomOf 16 = .ok (.iload_n 3, 1) := by decide +kernel
theorem dX10_roomOf_17 : decode cX10_roomOf 17 = .ok (.iaload, 1) := by decide +kernel
theorem dX10_roomOf_18 : decode cX10_roomOf 18 = .ok (.if_icmp .ne 6, 3) := by decide +kernel
theorem dX10_roomOf_21 : decode cX10_roomOf 21 = .ok (.ldc 73, 2) := by decide +kernel
theorem dX10_roomOf_23 : decode cX10_roomOf 23 = .ok (.ireturn, 1) := by decide +kernel
theorem dX10_roomOf_24 : decode cX10_roomOf 24 = .ok (.iload_n 2, 1) := by decide +kernel
theorem dX10_roomOf_25 : decode cX10_roomOf 25 = .ok (.aload_n 0, 1) := by decide +kernel
theorem dX10_roomOf_26 : decode cX10_roomOf 26 = .ok (.getfield 45, 3) := by decide +kernel
theorem dX10_roomOf_29 : decode cX10_roomOf 29 = .ok (.iload_n 3, 1) := by decide +kernel
theorem dX10_roomOf_30 : decode cX10_roomOf 30 = .ok (.iaload, 1) := by decide +kernel
theorem dX10_roomOf_31 : decode cX10_roomOf 31 = .ok (.if_icmp .le 21, 3) := by decide +kernel
theorem dX10_roomOf_34 : decode cX10_roomOf 34 = .ok (.iload 4, 2) := by decide +kernel
theorem dX10_roomOf_36 : decode cX10_roomOf 36 = .ok (.ifCond .le 14, 3) := by decide +kernel
theorem dX10_roomOf_39 : decode cX10_roomOf 39 = .ok (.aload_n 0, 1) := by decide +kernel
theorem dX10_roomOf_40 : decode cX10_roomOf 40 = .ok (.getfield 33, 3) := by decide +kernel
theorem dX10_roomOf_43 : decode cX10_roomOf 43 = .ok (.iload_n 1, 1) := by decide +kernel
theorem dX10_roomOf_44 : decode cX10_roomOf 44 = .ok (.iconst 1, 1) := by decide +kernel
theorem dX10_roomOf_45 : decode cX10_roomOf 45 = .ok (.isub, 1) := by decide +kernel
theorem dX10_roomOf_46 : decode cX10_roomOf 46 = .ok (.iaload, 1) := by decide +kernel
theorem dX10_roomOf_47 : decode cX10_roomOf 47 = .ok (.goto 4, 3) := by decide +kernel
theorem dX10_roomOf_50 : decode cX10_roomOf 50 = .ok (.iconst 0, 1) := by decide +kernel
theorem dX10_roomOf_51 : decode cX10_roomOf 51 = .ok (.ireturn, 1) := by decide +kernel
theorem dX10_roomOf_52 : decode cX10_roomOf 52 = .ok (.aload_n 0, 1) := by decide +kernel
theorem dX10_roomOf_53 : decode cX10_roomOf 53 = .ok (.getfield 48, 3) := by decide +kernel
theorem dX10_roomOf_56 : decode cX10_roomOf 56 = .ok (.iload_n 3, 1) := by decide +kernel
theorem dX10_roomOf_57 : decode cX10_roomOf 57 = .ok (.iconst 2, 1) := by decide +kernel
theorem dX10_roomOf_58 : decode cX10_roomOf 58 = .ok (.imul, 1) := by decide +kernel
theorem dX10_roomOf_59 : decode cX10_roomOf 59 = .ok (.bipush 20, 2) := by decide +kernel
theorem dX10_roomOf_61 : decode cX10_roomOf 61 = .ok (.imul, 1) := by decide +kernel
theorem dX10_roomOf_62 : decode cX10_roomOf 62 = .ok (.iload_n 2, 1) := by decide +kernel
theorem dX10_roomOf_63 : decode cX10_roomOf 63 = .ok (.iadd, 1) := by decide +kernel
theorem dX10_roomOf_64 : decode cX10_roomOf 64 = .ok (.iaload, 1) := by decide +kernel
theorem dX10_roomOf_65 : decode cX10_roomOf 65 = .ok (.istore 5, 2) := by decide +kernel
theorem dX10_roomOf_67 : decode cX10_roomOf 67 = .ok (.iload 5, 2) := by decide +kernel
theorem dX10_roomOf_69 : decode cX10_roomOf 69 = .ok (.bipush 20, 2) := by decide +kernel
theorem dX10_roomOf_71 : decode cX10_roomOf 71 = .ok (.if_icmp .ge 25, 3) := by decide +kernel
theorem dX10_roomOf_74 : decode cX10_roomOf 74 = .ok (.aload_n 0, 1) := by decide +kernel
theorem dX10_roomOf_75 : decode cX10_roomOf 75 = .ok (.getfield 18, 3) := by decide +kernel
theorem dX10_roomOf_78 : decode cX10_roomOf 78 = .ok (.iload 5, 2) := by decide +kernel
theorem dX10_roomOf_80 : decode cX10_roomOf 80 = .ok (.iaload, 1) := by decide +kernel
theorem dX10_roomOf_81 : decode cX10_roomOf 81 = .ok (.aload_n 0, 1) := by decide +kernel
theorem dX10_roomOf_82 : decode cX10_roomOf 82 = .ok (.getfield 30, 3) := by decide +kernel
theorem dX10_roomOf_85 : decode cX10_roomOf 85 = .ok (.iload 5, 2) := by decide +kernel
theorem dX10_roomOf_87 : decode cX10_roomOf 87 = .ok (.bipush 51, 2) := by decide +kernel
theorem dX10_roomOf_89 : decode cX10_roomOf 89 = .ok (.imul, 1) := by decide +kernel
theorem dX10_roomOf_90 : decode cX10_roomOf 90 = .ok (.iload 4, 2) := by decide +kernel
theorem dX10_roomOf_92 : decode cX10_roomOf 92 = .ok (.iadd, 1) := by decide +kernel
theorem dX10_roomOf_93 : decode cX10_roomOf 93 = .ok (.iaload, 1) := by decide +kernel
theorem dX10_roomOf_94 : decode cX10_roomOf 94 = .ok (.isub, 1) := by decide +kernel
theorem dX10_roomOf_95 : decode cX10_roomOf 95 = .ok (.ireturn, 1) := by decide +kernel
theorem dX10_roomOf_96 : decode cX10_roomOf 96 = .ok (.iload 4, 2) := by decide +kernel
theorem dX10_roomOf_98 : decode cX10_roomOf 98 = .ok (.aload_n 0, 1) := by decide +kernel
theorem dX10_roomOf_99 : decode cX10_roomOf 99 = .ok (.getfield 21, 3) := by decide +kernel
theorem dX10_roomOf_102 : decode cX10_roomOf 102 = .ok (.iload 5, 2) := by decide +kernel
theorem dX10_roomOf_104 : decode cX10_roomOf 104 = .ok (.bipush 20, 2) := by decide +kernel
theorem dX10_roomOf_106 : decode cX10_roomOf 106 = .ok (.isub, 1) := by decide +kernel
theorem dX10_roomOf_107 : decode cX10_roomOf 107 = .ok (.iaload, 1) := by decide +kernel
theorem dX10_roomOf_108 : decode cX10_roomOf 108 = .ok (.isub, 1) := by decide +kernel
theorem dX10_roomOf_109 : decode cX10_roomOf 109 = .ok (.istore 6, 2) := by decide +kernel
theorem dX10_roomOf_111 : decode cX10_roomOf 111 = .ok (.iload 6, 2) := by decide +kernel
theorem dX10_roomOf_113 : decode cX10_roomOf 113 = .ok (.ifCond .lt 22, 3) := by decide +kernel
theorem dX10_roomOf_116 : decode cX10_roomOf 116 = .ok (.aload_n 0, 1) := by decide +kernel
theorem dX10_roomOf_117 : decode cX10_roomOf 117 = .ok (.getfield 30, 3) := by decide +kernel
theorem dX10_roomOf_120 : decode cX10_roomOf 120 = .ok (.iload 5, 2) := by decide +kernel
theorem dX10_roomOf_122 : decode cX10_roomOf 122 = .ok (.bipush 20, 2) := by decide +kernel
theorem dX10_roomOf_124 : decode cX10_roomOf 124 = .ok (.isub, 1) := by decide +kernel
theorem dX10_roomOf_125 : decode cX10_roomOf 125 = .ok (.bipush 51, 2) := by decide +kernel
theorem dX10_roomOf_127 : decode cX10_roomOf 127 = .ok (.imul, 1) := by decide +kernel
theorem dX10_roomOf_128 : decode cX10_roomOf 128 = .ok (.iload 6, 2) := by decide +kernel
theorem dX10_roomOf_130 : decode cX10_roomOf 130 = .ok (.iadd, 1) := by decide +kernel
theorem dX10_roomOf_131 : decode cX10_roomOf 131 = .ok (.iaload, 1) := by decide +kernel
theorem dX10_roomOf_132 : decode cX10_roomOf 132 = .ok (.goto 4, 3) := by decide +kernel
theorem dX10_roomOf_135 : decode cX10_roomOf 135 = .ok (.iconst 0, 1) := by decide +kernel
theorem dX10_roomOf_136 : decode cX10_roomOf 136 = .ok (.ireturn, 1) := by decide +kernel
theorem dX10_push_0 : decode cX10_push 0 = .ok (.iload_n 1, 1) := by decide +kernel
theorem dX10_push_1 : decode cX10_push 1 = .ok (.bipush 51, 2) := by decide +kernel
theorem dX10_push_3 : decode cX10_push 3 = .ok (.idiv, 1) := by decide +kernel
theorem dX10_push_4 : decode cX10_push 4 = .ok (.istore 4, 2) := by decide +kernel
theorem dX10_push_6 : decode cX10_push 6 = .ok (.iload_n 1, 1) := by decide +kernel
theorem dX10_push_7 : decode cX10_push 7 = .ok (.bipush 51, 2) := by decide +kernel
theorem dX10_push_9 : decode cX10_push 9 = .ok (.irem, 1) := by decide +kernel
theorem dX10_push_10 : decode cX10_push 10 = .ok (.istore 5, 2) := by decide +kernel
theorem dX10_push_12 : decode cX10_push 12 = .ok (.iload_n 2, 1) := by decide +kernel
theorem dX10_push_13 : decode cX10_push 13 = .ok (.aload_n 0, 1) := by decide +kernel
theorem dX10_push_14 : decode cX10_push 14 = .ok (.getfield 45, 3) := by decide +kernel
theorem dX10_push_17 : decode cX10_push 17 = .ok (.iload 4, 2) := by decide +kernel
theorem dX10_push_19 : decode cX10_push 19 = .ok (.iaload, 1) := by decide +kernel
theorem dX10_push_20 : decode cX10_push 20 = .ok (.if_icmp .ne 14, 3) := by decide +kernel
theorem dX10_push_23 : decode cX10_push 23 = .ok (.aload_n 0, 1) := by decide +kernel
theorem dX10_push_24 : decode cX10_push 24 = .ok (.getfield 33, 3) := by decide +kernel
theorem dX10_push_27 : decode cX10_push 27 = .ok (.iload_n 1, 1) := by decide +kernel
theorem dX10_push_28 : decode cX10_push 28 = .ok (.dup2, 1) := by decide +kernel
theorem dX10_push_29 : decode cX10_push 29 = .ok (.iaload, 1) := by decide +kernel
theorem dX10_push_30 : decode cX10_push 30 = .ok (.iload_n 3, 1) := by decide +kernel
theorem dX10_push_31 : decode cX10_push 31 = .ok (.iadd, 1) := by decide +kernel
theorem dX10_push_32 : decode cX10_push 32 = .ok (.iastore, 1) := by decide +kernel
theorem dX10_push_33 : decode cX10_push 33 = .ok (.return_, 1) := by decide +kernel
theorem dX10_push_34 : decode cX10_push 34 = .ok (.iload_n 2, 1) := by decide +kernel
theorem dX10_push_35 : decode cX10_push 35 = .ok (.aload_n 0, 1) := by decide +kernel
theorem dX10_push_36 : decode cX10_push 36 = .ok (.getfield 45, 3) := by decide +kernel
theorem dX10_push_39 : decode cX10_push 39 = .ok (.iload 4, 2) := by decide +kernel
theorem dX10_push_41 : decode cX10_push 41 = .ok (.iaload, 1) := by decide +kernel
theorem dX10_push_42 : decode cX10_push 42 = .ok (.if_icmp .le 21, 3) := by decide +kernel
theorem dX10_push_45 : decode cX10_push 45 = .ok (.iload 5, 2) := by decide +kernel
theorem dX10_push_47 : decode cX10_push 47 = .ok (.ifCond .le 15, 3) := by decide +kernel
theorem dX10_push_50 : decode cX10_push 50 = .ok (.aload_n 0, 1) := by decide +kernel
theorem dX10_push_51 : decode cX10_push 51 = .ok (.getfield 33, 3) := by decide +kernel
theorem dX10_push_54 : decode cX10_push 54 = .ok (.iload_n 1, 1) := by decide +kernel
theorem dX10_push_55 : decode cX10_push 55 = .ok (.iconst 1, 1) := by decide +kernel
theorem dX10_push_56 : decode cX10_push 56 = .ok (.isub, 1) := by decide +kernel
theorem dX10_push_57 : decode cX10_push 57 = .ok (.dup2, 1) := by decide +kernel
theorem dX10_push_58 : decode cX10_push 58 = .ok (.iaload, 1) := by decide +kernel
theorem dX10_push_59 : decode cX10_push 59 = .ok (.iload_n 3, 1) := by decide +kernel
theorem dX10_push_60 : decode cX10_push 60 = .ok (.isub, 1) := by decide +kernel
theorem dX10_push_61 : decode cX10_push 61 = .ok (.iastore, 1) := by decide +kernel
theorem dX10_push_62 : decode cX10_push 62 = .ok (.return_, 1) := by decide +kernel
theorem dX10_push_63 : decode cX10_push 63 = .ok (.aload_n 0, 1) := by decide +kernel
theorem dX10_push_64 : decode cX10_push 64 = .ok (.getfield 48, 3) := by decide +kernel
theorem dX10_push_67 : decode cX10_push 67 = .ok (.iload 4, 2) := by decide +kernel
theorem dX10_push_69 : decode cX10_push 69 = .ok (.iconst 2, 1) := by decide +kernel
theorem dX10_push_70 : decode cX10_push 70 = .ok (.imul, 1) := by decide +kernel
theorem dX10_push_71 : decode cX10_push 71 = .ok (.bipush 20, 2) := by decide +kernel
theorem dX10_push_73 : decode cX10_push 73 = .ok (.imul, 1) := by decide +kernel
theorem dX10_push_74 : decode cX10_push 74 = .ok (.iload_n 2, 1) := by decide +kernel
theorem dX10_push_75 : decode cX10_push 75 = .ok (.iadd, 1) := by decide +kernel
theorem dX10_push_76 : decode cX10_push 76 = .ok (.iaload, 1) := by decide +kernel
theorem dX10_push_77 : decode cX10_push 77 = .ok (.istore 6, 2) := by decide +kernel
theorem dX10_push_79 : decode cX10_push 79 = .ok (.iload 6, 2) := by decide +kernel
theorem dX10_push_81 : decode cX10_push 81 = .ok (.bipush 20, 2) := by decide +kernel
theorem dX10_push_83 : decode cX10_push 83 = .ok (.if_icmp .ge 21, 3) := by decide +kernel
theorem dX10_push_86 : decode cX10_push 86 = .ok (.aload_n 0, 1) := by decide +kernel
theorem dX10_push_87 : decode cX10_push 87 = .ok (.getfield 30, 3) := by decide +kernel
theorem dX10_push_90 : decode cX10_push 90 = .ok (.iload 6, 2) := by decide +kernel
theorem dX10_push_92 : decode cX10_push 92 = .ok (.bipush 51, 2) := by decide +kernel
theorem dX10_push_94 : decode cX10_push 94 = .ok (.imul, 1) := by decide +kernel
theorem dX10_push_95 : decode cX10_push 95 = .ok (.iload 5, 2) := by decide +kernel
theorem dX10_push_97 : decode cX10_push 97 = .ok (.iadd, 1) := by decide +kernel
theorem dX10_push_98 : decode cX10_push 98 = .ok (.dup2, 1) := by decide +kernel
theorem dX10_push_99 : decode cX10_push 99 = .ok (.iaload, 1) := by decide +kernel
theorem dX10_push_100 : decode cX10_push 100 = .ok (.iload_n 3, 1) := by decide +kernel
theorem dX10_push_101 : decode cX10_push 101 = .ok (.iadd, 1) := by decide +kernel
theorem dX10_push_102 : decode cX10_push 102 = .ok (.iastore, 1) := by decide +kernel
theorem dX10_push_103 : decode cX10_push 103 = .ok (.return_, 1) := by decide +kernel
theorem dX10_push_104 : decode cX10_push 104 = .ok (.iload 5, 2) := by decide +kernel
theorem dX10_push_106 : decode cX10_push 106 = .ok (.aload_n 0, 1) := by decide +kernel
theorem dX10_push_107 : decode cX10_push 107 = .ok (.getfield 21, 3) := by decide +kernel
theorem dX10_push_110 : decode cX10_push 110 = .ok (.iload 6, 2) := by decide +kernel
theorem dX10_push_112 : decode cX10_push 112 = .ok (.bipush 20, 2) := by decide +kernel
theorem dX10_push_114 : decode cX10_push 114 = .ok (.isub, 1) := by decide +kernel
theorem dX10_push_115 : decode cX10_push 115 = .ok (.iaload, 1) := by decide +kernel
theorem dX10_push_116 : decode cX10_push 116 = .ok (.isub, 1) := by decide +kernel
theorem dX10_push_117 : decode cX10_push 117 = .ok (.istore 7, 2) := by decide +kernel
theorem dX10_push_119 : decode cX10_push 119 = .ok (.iload 7, 2) := by decide +kernel
theorem dX10_push_121 : decode cX10_push 121 = .ok (.ifCond .lt 23, 3) := by decide +kernel
theorem dX10_push_124 : decode cX10_push 124 = .ok (.aload_n 0, 1) := by decide +kernel
theorem dX10_push_125 : decode cX10_push 125 = .ok (.getfield 30, 3) := by decide +kernel
theorem dX10_push_128 : decode cX10_push 128 = .ok (.iload 6, 2) := by decide +kernel
theorem dX10_push_130 : decode cX10_push 130 = .ok (.bipush 20, 2) := by decide +kernel
theorem dX10_push_132 : decode cX10_push 132 = .ok (.isub, 1) := by decide +kernel
theorem dX10_push_133 : decode cX10_push 133 = .ok (.bipush 51, 2) := by decide +kernel
theorem dX10_push_135 : decode cX10_push 135 = .ok (.imul, 1) := by decide +kernel
theorem dX10_push_136 : decode cX10_push 136 = .ok (.iload 7, 2) := by decide +kernel
theorem dX10_push_138 : decode cX10_push 138 = .ok (.iadd, 1) := by decide +kernel
theorem dX10_push_139 : decode cX10_push 139 = .ok (.dup2, 1) := by decide +kernel
theorem dX10_push_140 : decode cX10_push 140 = .ok (.iaload, 1) := by decide +kernel
theorem dX10_push_141 : decode cX10_push 141 = .ok (.iload_n 3, 1) := by decide +kernel
theorem dX10_push_142 : decode cX10_push 142 = .ok (.isub, 1) := by decide +kernel
theorem dX10_push_143 : decode cX10_push 143 = .ok (.iastore, 1) := by decide +kernel
theorem dX10_push_144 : decode cX10_push 144 = .ok (.return_, 1) := by decide +kernel
theorem dX11_init_0 : decode cX11_init 0 = .ok (.aload_n 0, 1) := by decide +kernel
theorem dX11_init_1 : decode cX11_init 1 = .ok (.invokespecial 1, 3) := by decide +kernel
theorem dX11_init_4 : decode cX11_init 4 = .ok (.aload_n 0, 1) := by decide +kernel
theorem dX11_init_5 : decode cX11_init 5 = .ok (.new 7, 3) := by decide +kernel
theorem dX11_init_8 : decode cX11_init 8 = .ok (.dup, 1) := by decide +kernel
theorem dX11_init_9 : decode cX11_init 9 = .ok (.invokespecial 9, 3) := by decide +kernel
theorem dX11_init_12 : decode cX11_init 12 = .ok (.putfield 10, 3) := by decide +kernel
theorem dX11_init_15 : decode cX11_init 15 = .ok (.aload_n 0, 1) := by decide +kernel
theorem dX11_init_16 : decode cX11_init 16 = .ok (.new 16, 3) := by decide +kernel
theorem dX11_init_19 : decode cX11_init 19 = .ok (.dup, 1) := by decide +kernel
theorem dX11_init_20 : decode cX11_init 20 = .ok (.invokespecial 18, 3) := by decide +kernel
theorem dX11_init_23 : decode cX11_init 23 = .ok (.putfield 19, 3) := by decide +kernel
theorem dX11_init_26 : decode cX11_init 26 = .ok (.aload_n 0, 1) := by decide +kernel
theorem dX11_init_27 : decode cX11_init 27 = .ok (.new 23, 3) := by decide +kernel
theorem dX11_init_30 : decode cX11_init 30 = .ok (.dup, 1) := by decide +kernel
theorem dX11_init_31 : decode cX11_init 31 = .ok (.aload_n 0, 1) := by decide +kernel
theorem dX11_init_32 : decode cX11_init 32 = .ok (.getfield 19, 3) := by decide +kernel
theorem dX11_init_35 : decode cX11_init 35 = .ok (.invokespecial 25, 3) := by decide +kernel
theorem dX11_init_38 : decode cX11_init 38 = .ok (.putfield 28, 3) := by decide +kernel
theorem dX11_init_41 : decode cX11_init 41 = .ok (.aload_n 0, 1) := by decide +kernel
theorem dX11_init_42 : decode cX11_init 42 = .ok (.new 32, 3) := by decide +kernel
theorem dX11_init_45 : decode cX11_init 45 = .ok (.dup, 1) := by decide +kernel
theorem dX11_init_46 : decode cX11_init 46 = .ok (.invokespecial 34, 3) := by decide +kernel
theorem dX11_init_49 : decode cX11_init 49 = .ok (.putfield 35, 3) := by decide +kernel
theorem dX11_init_52 : decode cX11_init 52 = .ok (.aload_n 0, 1) := by decide +kernel
theorem dX11_init_53 : decode cX11_init 53 = .ok (.new 39, 3) := by decide +kernel
theorem dX11_init_56 : decode cX11_init 56 = .ok (.dup, 1) := by decide +kernel
theorem dX11_init_57 : decode cX11_init 57 = .ok (.invokespecial 41, 3) := by decide +kernel
theorem dX11_init_60 : decode cX11_init 60 = .ok (.putfield 42, 3) := by decide +kernel
theorem dX11_init_63 : decode cX11_init 63 = .ok (.aload_n 0, 1) := by decide +kernel
theorem dX11_init_64 : decode cX11_init 64 = .ok (.new 46, 3) := by decide +kernel
theorem dX11_init_67 : decode cX11_init 67 = .ok (.dup, 1) := by decide +kernel
theorem dX11_init_68 : decode cX11_init 68 = .ok (.aload_n 0, 1) := by decide +kernel
theorem dX11_init_69 : decode cX11_init 69 = .ok (.getfield 35, 3) := by decide +kernel
theorem dX11_init_72 : decode cX11_init 72 = .ok (.aload_n 0, 1) := by decide +kernel
theorem dX11_init_73 : decode cX11_init 73 = .ok (.getfield 42, 3) := by decide +kernel
theorem dX11_init_76 : decode cX11_init 76 = .ok (.invokespecial 48, 3) := by decide +kernel
theorem dX11_init_79 : decode cX11_init 79 = .ok (.putfield 51, 3) := by decide +kernel
theorem dX11_init_82 : decode cX11_init 82 = .ok (.aload_n 0, 1) := by decide +kernel
theorem dX11_init_83 : decode cX11_init 83 = .ok (.new 55, 3) := by decide +kernel
theorem dX11_init_86 : decode cX11_init 86 = .ok (.dup, 1) := by decide +kernel
theorem dX11_init_87 : decode cX11_init 87 = .ok (.invokespecial 57, 3) := by decide +kernel
theorem dX11_init_90 : decode cX11_init 90 = .ok (.putfield 58, 3) := by decide +kernel
theorem dX11_init_93 : decode cX11_init 93 = .ok (.aload_n 0, 1) := by decide +kernel
theorem dX11_init_94 : decode cX11_init 94 = .ok (.new 62, 3) := by decide +kernel
theorem dX11_init_97 : decode cX11_init 97 = .ok (.dup, 1) := by decide +kernel
theorem dX11_init_98 : decode cX11_init 98 = .ok (.invokespecial 64, 3) := by decide +kernel
theorem dX11_init_101 : decode cX11_init 101 = .ok (.putfield 65, 3) := by decide +kernel
theorem dX11_init_104 : decode cX11_init 104 = .ok (.aload_n 0, 1) := by decide +kernel
theorem dX11_init_105 : decode cX11_init 105 = .ok (.iconst 0, 1) := by decide +kernel
theorem dX11_init_106 : decode cX11_init 106 = .ok (.putfield 69, 3) := by decide +kernel
theorem dX11_init_109 : decode cX11_init 109 = .ok (.return_, 1) := by decide +kernel
theorem dX11_feed_0 : decode cX11_feed 0 = .ok (.aload_n 0, 1) := by decide +kernel
theorem dX11_feed_1 : decode cX11_feed 1 = .ok (.getfield 10, 3) := by decide +kernel
theorem dX11_feed_4 : decode cX11_feed 4 = .ok (.invokevirtual 73, 3) := by decide +kernel
theorem dX11_feed_7 : decode cX11_feed 7 = .ok (.ifCond .ne 5, 3) := by decide +kernel
theorem dX11_feed_10 : decode cX11_feed 10 = .ok (.iconst (-1), 1) := by decide +kernel
theorem dX11_feed_11 : decode cX11_feed 11 = .ok (.ireturn, 1) := by decide +kernel
theorem dX11_feed_12 : decode cX11_feed 12 = .ok (.aload_n 0, 1) := by decide +kernel
theorem dX11_feed_13 : decode cX11_feed 13 = .ok (.getfield 10, 3) := by decide +kernel
theorem dX11_feed_16 : decode cX11_feed 16 = .ok (.iload_n 1, 1) := by decide +kernel
theorem dX11_feed_17 : decode cX11_feed 17 = .ok (.invokevirtual 77, 3) := by decide +kernel
theorem dX11_feed_20 : decode cX11_feed 20 = .ok (.aload_n 0, 1) := by decide +kernel
theorem dX11_feed_21 : decode cX11_feed 21 = .ok (.getfield 10, 3) := by decide +kernel
theorem dX11_feed_24 : decode cX11_feed 24 = .ok (.iload_n 2, 1) := by decide +kernel
theorem dX11_feed_25 : decode cX11_feed 25 = .ok (.invokevirtual 77, 3) := by decide +kernel
theorem dX11_feed_28 : decode cX11_feed 28 = .ok (.aload_n 0, 1) := by decide +kernel
theorem dX11_feed_29 : decode cX11_feed 29 = .ok (.getfield 10, 3) := by decide +kernel
theorem dX11_feed_32 : decode cX11_feed 32 = .ok (.iload_n 3, 1) := by decide +kernel
theorem dX11_feed_33 : decode cX11_feed 33 = .ok (.invokevirtual 77, 3) := by decide +kernel
theorem dX11_feed_36 : decode cX11_feed 36 = .ok (.aload_n 0, 1) := by decide +kernel
theorem dX11_feed_37 : decode cX11_feed 37 = .ok (.getfield 10, 3) := by decide +kernel
theorem dX11_feed_40 : decode cX11_feed 40 = .ok (.iload 4, 2) := by decide +kernel
theorem dX11_feed_42 : decode cX11_feed 42 = .ok (.invokevirtual 77, 3) := by decide +kernel
theorem dX11_feed_45 : decode cX11_feed 45 = .ok (.aload_n 0, 1) := by decide +kernel
theorem dX11_feed_46 : decode cX11_feed 46 = .ok (.getfield 10, 3) := by decide +kernel
theorem dX11_feed_49 : decode cX11_feed 49 = .ok (.iload 5, 2) := by decide +kernel
theorem dX11_feed_51 : decode cX11_feed 51 = .ok (.invokevirtual 77, 3) := by decide +kernel
theorem dX11_feed_54 : decode cX11_feed 54 = .ok (.aload_n 0, 1) := by decide +kernel
theorem dX11_feed_55 : decode cX11_feed 55 = .ok (.getfield 10, 3) := by decide +kernel
theorem dX11_feed_58 : decode cX11_feed 58 = .ok (.getfield 81, 3) := by decide +kernel
theorem dX11_feed_61 : decode cX11_feed 61 = .ok (.ireturn, 1) := by decide +kernel
theorem dX11_cut_0 : decode cX11_cut 0 = .ok (.iload_n 1, 1) := by decide +kernel
theorem dX11_cut_1 : decode cX11_cut 1 = .ok (.ifCond .lt 14, 3) := by decide +kernel
theorem dX11_cut_4 : decode cX11_cut 4 = .ok (.iload_n 1, 1) := by decide +kernel
theorem dX11_cut_5 : decode cX11_cut 5 = .ok (.aload_n 0, 1) := by decide +kernel
theorem dX11_cut_6 : decode cX11_cut 6 = .ok (.getfield 10, 3) := by decide +kernel
theorem dX11_cut_9 : decode cX11_cut 9 = .ok (.getfield 81, 3) := by decide +kernel
theorem dX11_cut_12 : decode cX11_cut 12 = .ok (.if_icmp .le 5, 3) := by decide +kernel
theorem dX11_cut_15 : decode cX11_cut 15 = .ok (.iconst (-1), 1) := by decide +kernel
theorem dX11_cut_16 : decode cX11_cut 16 = .ok (.ireturn, 1) := by decide +kernel
theorem dX11_cut_17 : decode cX11_cut 17 = .ok (.aload_n 0, 1) := by decide +kernel
theorem dX11_cut_18 : decode cX11_cut 18 = .ok (.getfield 10, 3) := by decide +kernel
theorem dX11_cut_21 : decode cX11_cut 21 = .ok (.getfield 81, 3) := by decide +kernel
theorem dX11_cut_24 : decode cX11_cut 24 = .ok (.iload_n 1, 1) := by decide +kernel
theorem dX11_cut_25 : decode cX11_cut 25 = .ok (.isub, 1) := by decide +kernel
theorem dX11_cut_26 : decode cX11_cut 26 = .ok (.istore_n 2, 1) := by decide +kernel
theorem dX11_cut_27 : decode cX11_cut 27 = .ok (.aload_n 0, 1) := by decide +kernel
theorem dX11_cut_28 : decode cX11_cut 28 = .ok (.getfield 10, 3) := by decide +kernel
theorem dX11_cut_31 : decode cX11_cut 31 = .ok (.iload_n 1, 1) := by decide +kernel
theorem dX11_cut_32 : decode cX11_cut 32 = .ok (.putfield 81, 3) := by decide +kernel
theorem dX11_cut_35 : decode cX11_cut 35 = .ok (.iload_n 2, 1) := by decide +kernel
theorem dX11_cut_36 : decode cX11_cut 36 = .ok (.ireturn, 1) := by decide +kernel
theorem dX11_list_0 : decode cX11_list 0 = .ok (.iload_n 1, 1) := by decide +kernel
theorem dX11_list_1 : decode cX11_list 1 = .ok (.iconst 0, 1) := by decide +kernel
theorem dX11_list_2 : decode cX11_list 2 = .ok (.iconst 3, 1) := by decide +kernel
theorem dX11_list_3 : decode cX11_list 3 = .ok (.invokestatic 84, 3) := by decide +kernel
theorem dX11_list_6 : decode cX11_list 6 = .ok (.ifCond .ne 13, 3) := by decide +kernel
theorem dX11_list_9 : decode cX11_list 9 = .ok (.aload_n 0, 1) := by decide +kernel
theorem dX11_list_10 : decode cX11_list 10 = .ok (.getfield 10, 3) := by decide +kernel
theorem dX11_list_13 : decode cX11_list 13 = .ok (.iconst 0, 1) := by decide +kernel
theorem dX11_list_14 : decode cX11_list 14 = .ok (.putfield 81, 3) := by decide +kernel
theorem dX11_list_17 : decode cX11_list 17 = .ok (.iconst (-1), 1) := by decide +kernel
theorem dX11_list_18 : decode cX11_list 18 = .ok (.ireturn, 1) := by decide +kernel
theorem dX11_list_19 : decode cX11_list 19 = .ok (.aload_n 0, 1) := by decide +kernel
theorem dX11_list_20 : decode cX11_list 20 = .ok (.getfield 28, 3) := by decide +kernel
theorem dX11_list_23 : decode cX11_list 23 = .ok (.getfield 88, 3) := by decide +kernel
theorem dX11_list_26 : decode cX11_list 26 = .ok (.astore_n 2, 1) := by decide +kernel
theorem dX11_list_27 : decode cX11_list 27 = .ok (.aload_n 2, 1) := by decide +kernel
theorem dX11_list_28 : decode cX11_list 28 = .ok (.aload_n 0, 1) := by decide +kernel
theorem dX11_list_29 : decode cX11_list 29 = .ok (.getfield 10, 3) := by decide +kernel
theorem dX11_list_32 : decode cX11_list 32 = .ok (.invokevirtual 92, 3) := by decide +kernel
theorem dX11_list_35 : decode cX11_list 35 = .ok (.aload_n 0, 1) := by decide +kernel
theorem dX11_list_36 : decode cX11_list 36 = .ok (.getfield 10, 3) := by decide +kernel
theorem dX11_list_39 : decode cX11_list 39 = .ok (.getfield 98, 3) := by decide +kernel
theorem dX11_list_42 : decode cX11_list 42 = .ok (.ifCond .ne 11, 3) := by decide +kernel
theorem dX11_list_45 : decode cX11_list 45 = .ok (.aload_n 0, 1) := by decide +kernel
theorem dX11_list_46 : decode cX11_list 46 = .ok (.getfield 28, 3) := by decide +kernel
theorem dX11_list_49 : decode cX11_list 49 = .ok (.iload_n 1, 1) := by decide +kernel
theorem dX11_list_50 : decode cX11_list 50 = .ok (.invokevirtual 101, 3) := by decide +kernel
theorem dX11_list_53 : decode cX11_list 53 = .ok (.aload_n 0, 1) := by decide +kernel
theorem dX11_list_54 : decode cX11_list 54 = .ok (.aload_n 2, 1) := by decide +kernel
theorem dX11_list_55 : decode cX11_list 55 = .ok (.getfield 104, 3) := by decide +kernel
theorem dX11_list_58 : decode cX11_list 58 = .ok (.invokevirtual 107, 3) := by decide +kernel
theorem dX11_list_61 : decode cX11_list 61 = .ok (.ireturn, 1) := by decide +kernel
theorem dX11_lock_0 : decode cX11_lock 0 = .ok (.iload_n 1, 1) := by decide +kernel
theorem dX11_lock_1 : decode cX11_lock 1 = .ok (.iconst 0, 1) := by decide +kernel
theorem dX11_lock_2 : decode cX11_lock 2 = .ok (.bipush 7, 2) := by decide +kernel
theorem dX11_lock_4 : decode cX11_lock 4 = .ok (.invokestatic 84, 3) := by decide +kernel
theorem dX11_lock_7 : decode cX11_lock 7 = .ok (.ifCond .ne 13, 3) := by decide +kernel
theorem dX11_lock_10 : decode cX11_lock 10 = .ok (.aload_n 0, 1) := by decide +kernel
theorem dX11_lock_11 : decode cX11_lock 11 = .ok (.getfield 10, 3) := by decide +kernel
theorem dX11_lock_14 : decode cX11_lock 14 = .ok (.iconst 0, 1) := by decide +kernel
theorem dX11_lock_15 : decode cX11_lock 15 = .ok (.putfield 81, 3) := by decide +kernel
theorem dX11_lock_18 : decode cX11_lock 18 = .ok (.iconst (-1), 1) := by decide +kernel
theorem dX11_lock_19 : decode cX11_lock 19 = .ok (.ireturn, 1) := by decide +kernel
theorem dX11_lock_20 : decode cX11_lock 20 = .ok (.aload_n 0, 1) := by decide +kernel
theorem dX11_lock_21 : decode cX11_lock 21 = .ok (.getfield 19, 3) := by decide +kernel
theorem dX11_lock_24 : decode cX11_lock 24 = .ok (.aload_n 0, 1) := by decide +kernel
theorem dX11_lock_25 : decode cX11_lock 25 = .ok (.getfield 10, 3) := by decide +kernel
theorem dX11_lock_28 : decode cX11_lock 28 = .ok (.iload_n 1, 1) := by decide +kernel
theorem dX11_lock_29 : decode cX11_lock 29 = .ok (.invokevirtual 111, 3) := by decide +kernel
theorem dX11_lock_32 : decode cX11_lock 32 = .ok (.aload_n 0, 1) := by decide +kernel
theorem dX11_lock_33 : decode cX11_lock 33 = .ok (.iconst 0, 1) := by decide +kernel
theorem dX11_lock_34 : decode cX11_lock 34 = .ok (.invokevirtual 107, 3) := by decide +kernel
theorem dX11_lock_37 : decode cX11_lock 37 = .ok (.ireturn, 1) := by decide +kernel
theorem dX11_rules_0 : decode cX11_rules 0 = .ok (.aload_n 0, 1) := by decide +kernel
theorem dX11_rules_1 : decode cX11_rules 1 = .ok (.getfield 42, 3) := by decide +kernel
theorem dX11_rules_4 : decode cX11_rules 4 = .ok (.aload_n 0, 1) := by decide +kernel
theorem dX11_rules_5 : decode cX11_rules 5 = .ok (.getfield 10, 3) := by decide +kernel
theorem dX11_rules_8 : decode cX11_rules 8 = .ok (.invokevirtual 115, 3) := by decide +kernel
theorem dX11_rules_11 : decode cX11_rules 11 = .ok (.aload_n 0, 1) := by decide +kernel
theorem dX11_rules_12 : decode cX11_rules 12 = .ok (.aload_n 0, 1) := by decide +kernel
theorem dX11_rules_13 : decode cX11_rules 13 = .ok (.getfield 42, 3) := by decide +kernel
theorem dX11_rules_16 : decode cX11_rules 16 = .ok (.getfield 116, 3) := by decide +kernel
theorem dX11_rules_19 : decode cX11_rules 19 = .ok (.invokevirtual 107, 3) := by decide +kernel
theorem dX11_rules_22 : decode cX11_rules 22 = .ok (.ireturn, 1) := by decide +kernel
theorem dX11_shares_0 : decode cX11_shares 0 = .ok (.aload_n 0, 1) := by decide +kernel
theorem dX11_shares_1 : decode cX11_shares 1 = .ok (.getfield 58, 3) := by decide +kernel
theorem dX11_shares_4 : decode cX11_shares 4 = .ok (.aload_n 0, 1) := by decide +kernel
theorem dX11_shares_5 : decode cX11_shares 5 = .ok (.getfield 10, 3) := by decide +kernel
theorem dX11_shares_8 : decode cX11_shares 8 = .ok (.invokevirtual 117, 3) := by decide +kernel
theorem dX11_shares_11 : decode cX11_shares 11 = .ok (.aload_n 0, 1) := by decide +kernel
theorem dX11_shares_12 : decode cX11_shares 12 = .ok (.aload_n 0, 1) := by decide +kernel
theorem dX11_shares_13 : decode cX11_shares 13 = .ok (.getfield 58, 3) := by decide +kernel
theorem dX11_shares_16 : decode cX11_shares 16 = .ok (.getfield 118, 3) := by decide +kernel
theorem dX11_shares_19 : decode cX11_shares 19 = .ok (.invokevirtual 107, 3) := by decide +kernel
theorem dX11_shares_22 : decode cX11_shares 22 = .ok (.ireturn, 1) := by decide +kernel
theorem dX11_fault_0 : decode cX11_fault 0 = .ok (.aload_n 0, 1) := by decide +kernel
theorem dX11_fault_1 : decode cX11_fault 1 = .ok (.getfield 10, 3) := by decide +kernel
theorem dX11_fault_4 : decode cX11_fault 4 = .ok (.getfield 98, 3) := by decide +kernel
theorem dX11_fault_7 : decode cX11_fault 7 = .ok (.ireturn, 1) := by decide +kernel
theorem dX11_tracks_0 : decode cX11_tracks 0 = .ok (.aload_n 0, 1) := by decide +kernel
theorem dX11_tracks_1 : decode cX11_tracks 1 = .ok (.iload_n 1, 1) := by decide +kernel
theorem dX11_tracks_2 : decode cX11_tracks 2 = .ok (.iload_n 2, 1) := by decide +kernel
theorem dX11_tracks_3 : decode cX11_tracks 3 = .ok (.iload_n 3, 1) := by decide +kernel
theorem dX11_tracks_4 : decode cX11_tracks 4 = .ok (.invokevirtual 121, 3) := by decide +kernel
theorem dX11_tracks_7 : decode cX11_tracks 7 = .ok (.istore 5, 2) := by decide +kernel
theorem dX11_tracks_9 : decode cX11_tracks 9 = .ok (.iload 5, 2) := by decide +kernel
theorem dX11_tracks_11 : decode cX11_tracks 11 = .ok (.ifCond .lt 14, 3) := by decide +kernel
theorem dX11_tracks_14 : decode cX11_tracks 14 = .ok (.iload 4, 2) := by decide +kernel
theorem dX11_tracks_16 : decode cX11_tracks 16 = .ok (.iconst 1, 1) := by decide +kernel
theorem dX11_tracks_17 : decode cX11_tracks 17 = .ok (.bipush 64, 2) := by decide +kernel
theorem dX11_tracks_19 : decode cX11_tracks 19 = .ok (.invokestatic 84, 3) := by decide +kernel
theorem dX11_tracks_22 : decode cX11_tracks 22 = .ok (.ifCond .ne 5, 3) := by decide +kernel
theorem dX11_tracks_25 : decode cX11_tracks 25 = .ok (.iconst (-1), 1) := by decide +kernel
theorem dX11_tracks_26 : decode cX11_tracks 26 = .ok (.ireturn, 1) := by decide +kernel
theorem dX11_tracks_27 : decode cX11_tracks 27 = .ok (.aload_n 0, 1) := by decide +kernel
theorem dX11_tracks_28 : decode cX11_tracks 28 = .ok (.getfield 28, 3) := by decide +kernel
theorem dX11_tracks_31 : decode cX11_tracks 31 = .ok (.getfield 125, 3) := by decide +kernel
theorem dX11_tracks_34 : decode cX11_tracks 34 = .ok (.iload_n 1, 1) := by decide +kernel
theorem dX11_tracks_35 : decode cX11_tracks 35 = .ok (.aaload, 1) := by decide +kernel
theorem dX11_tracks_36 : decode cX11_tracks 36 = .ok (.getfield 129, 3) := by decide +kernel
theorem dX11_tracks_39 : decode cX11_tracks 39 = .ok (.iload 5, 2) := by decide +kernel
theorem dX11_tracks_41 : decode cX11_tracks 41 = .ok (.iload 4, 2) := by decide +kernel
theorem dX11_tracks_43 : decode cX11_tracks 43 = .ok (.iconst 1, 1) := by decide +kernel
theorem dX11_tracks_44 : decode cX11_tracks 44 = .ok (.isub, 1) := by decide +kernel
theorem dX11_tracks_45 : decode cX11_tracks 45 = .ok (.invokevirtual 134, 3) := by decide +kernel
theorem dX11_tracks_48 : decode cX11_tracks 48 = .ok (.ireturn, 1) := by decide +kernel
theorem dX11_go_0 : decode cX11_go 0 = .ok (.iload_n 1, 1) := by decide +kernel
theorem dX11_go_1 : decode cX11_go 1 = .ok (.iconst 0, 1) := by decide +kernel
theorem dX11_go_2 : decode cX11_go 2 = .ok (.iconst 3, 1) := by decide +kernel
theorem dX11_go_3 : decode cX11_go 3 = .ok (.invokestatic 84, 3) := by decide +kernel
theorem dX11_go_6 : decode cX11_go 6 = .ok (.ifCond .ne 5, 3) := by decide +kernel
theorem dX11_go_9 : decode cX11_go 9 = .ok (.iconst 0, 1) := by decide +kernel
theorem dX11_go_10 : decode cX11_go 10 = .ok (.ireturn, 1) := by decide +kernel
theorem dX11_go_11 : decode cX11_go 11 = .ok (.aload_n 0, 1) := by decide +kernel
theorem dX11_go_12 : decode cX11_go 12 = .ok (.getfield 28, 3) := by decide +kernel
theorem dX11_go_15 : decode cX11_go 15 = .ok (.getfield 125, 3) := by decide +kernel
theorem dX11_go_18 : decode cX11_go 18 = .ok (.iload_n 1, 1) := by decide +kernel
theorem dX11_go_19 : decode cX11_go 19 = .ok (.aaload, 1) := by decide +kernel
theorem dX11_go_20 : decode cX11_go 20 = .ok (.invokevirtual 138, 3) := by decide +kernel
theorem dX11_go_23 : decode cX11_go 23 = .ok (.istore_n 2, 1) := by decide +kernel
theorem dX11_go_24 : decode cX11_go 24 = .ok (.iload_n 2, 1) := by decide +kernel
theorem dX11_go_25 : decode cX11_go 25 = .ok (.ifCond .ge 5, 3) := by decide +kernel
theorem dX11_go_28 : decode cX11_go 28 = .ok (.iconst 0, 1) := by decide +kernel
theorem dX11_go_29 : decode cX11_go 29 = .ok (.ireturn, 1) := by decide +kernel
theorem dX11_go_30 : decode cX11_go 30 = .ok (.aload_n 0, 1) := by decide +kernel
theorem dX11_go_31 : decode cX11_go 31 = .ok (.getfield 28, 3) := by decide +kernel
theorem dX11_go_34 : decode cX11_go 34 = .ok (.iload_n 1, 1) := by decide +kernel
theorem dX11_go_35 : decode cX11_go 35 = .ok (.iload_n 2, 1) := by decide +kernel
theorem dX11_go_36 : decode cX11_go 36 = .ok (.aload_n 0, 1) := by decide +kernel
theorem dX11_go_37 : decode cX11_go 37 = .ok (.getfield 69, 3) := by decide +kernel
theorem dX11_go_40 : decode cX11_go 40 = .ok (.invokevirtual 142, 3) := by decide +kernel
theorem dX11_go_43 : decode cX11_go 43 = .ok (.iconst 1, 1) := by decide +kernel
theorem dX11_go_44 : decode cX11_go 44 = .ok (.ireturn, 1) := by decide +kernel
theorem dX11_play_0 : decode cX11_play 0 = .ok (.aload_n 0, 1) := by decide +kernel
theorem dX11_play_1 : decode cX11_play 1 = .ok (.iload_n 1, 1) := by decide +kernel
theorem dX11_play_2 : decode cX11_play 2 = .ok (.iload_n 2, 1) := by decide +kernel
theorem dX11_play_3 : decode cX11_play 3 = .ok (.iload_n 3, 1) := by decide +kernel
theorem dX11_play_4 : decode cX11_play 4 = .ok (.invokevirtual 121, 3) := by decide +kernel
theorem dX11_play_7 : decode cX11_play 7 = .ok (.istore 4, 2) := by decide +kernel
theorem dX11_play_9 : decode cX11_play 9 = .ok (.iload 4, 2) := by decide +kernel
theorem dX11_play_11 : decode cX11_play 11 = .ok (.ifCond .ge 5, 3) := by decide +kernel
theorem dX11_play_14 : decode cX11_play 14 = .ok (.iconst 0, 1) := by decide +kernel
theorem dX11_play_15 : decode cX11_play 15 = .ok (.ireturn, 1) := by decide +kernel
theorem dX11_play_16 : decode cX11_play 16 = .ok (.aload_n 0, 1) := by decide +kernel
theorem dX11_play_17 : decode cX11_play 17 = .ok (.getfield 28, 3) := by decide +kernel
theorem dX11_play_20 : decode cX11_play 20 = .ok (.iload_n 1, 1) := by decide +kernel
theorem dX11_play_21 : decode cX11_play 21 = .ok (.iload 4, 2) := by decide +kernel
theorem dX11_play_23 : decode cX11_play 23 = .ok (.aload_n 0, 1) := by decide +kernel
theorem dX11_play_24 : decode cX11_play 24 = .ok (.getfield 69, 3) := by decide +kernel
theorem dX11_play_27 : decode cX11_play 27 = .ok (.invokevirtual 142, 3) := by decide +kernel
theorem dX11_play_30 : decode cX11_play 30 = .ok (.iconst 1, 1) := by decide +kernel
theorem dX11_play_31 : decode cX11_play 31 = .ok (.ireturn, 1) := by decide +kernel
theorem dX11_of_0 : decode cX11_of 0 = .ok (.iload_n 1, 1) := by decide +kernel
theorem dX11_of_1 : decode cX11_of 1 = .ok (.iconst 0, 1) := by decide +kernel
theorem dX11_of_2 : decode cX11_of 2 = .ok (.iconst 3, 1) := by decide +kernel
theorem dX11_of_3 : decode cX11_of 3 = .ok (.invokestatic 84, 3) := by decide +kernel
theorem dX11_of_6 : decode cX11_of 6 = .ok (.ifCond .ne 5, 3) := by decide +kernel
theorem dX11_of_9 : decode cX11_of 9 = .ok (.iconst (-1), 1) := by decide +kernel
theorem dX11_of_10 : decode cX11_of 10 = .ok (.ireturn, 1) := by decide +kernel
theorem dX11_of_11 : decode cX11_of 11 = .ok (.aload_n 0, 1) := by decide +kernel
theorem dX11_of_12 : decode cX11_of 12 = .ok (.getfield 28, 3) := by decide +kernel
theorem dX11_of_15 : decode cX11_of 15 = .ok (.getfield 125, 3) := by decide +kernel
theorem dX11_of_18 : decode cX11_of 18 = .ok (.iload_n 1, 1) := by decide +kernel
theorem dX11_of_19 : decode cX11_of 19 = .ok (.aaload, 1) := by decide +kernel
theorem dX11_of_20 : decode cX11_of 20 = .ok (.astore_n 3, 1) := by decide +kernel
theorem dX11_of_21 : decode cX11_of 21 = .ok (.iload_n 2, 1) := by decide +kernel
theorem dX11_of_22 : decode cX11_of 22 = .ok (.tableswitch 108 0 5 #[38, 43, 64, 86, 91, 100], 38) := by decide +kernel
theorem dX11_of_60 : decode cX11_of 60 = .ok (.aload_n 3, 1) := by decide +kernel
theorem dX11_of_61 : decode cX11_of 61 = .ok (.invokevirtual 146, 3) := by decide +kernel
theorem dX11_of_64 : decode cX11_of 64 = .ok (.ireturn, 1) := by decide +kernel
theorem dX11_of_65 : decode cX11_of 65 = .ok (.aload_n 3, 1) := by decide +kernel
theorem dX11_of_66 : decode cX11_of 66 = .ok (.getfield 149, 3) := by decide +kernel
theorem dX11_of_69 : decode cX11_of 69 = .ok (.ifCond .eq 15, 3) := by decide +kernel
theorem dX11_of_72 : decode cX11_of 72 = .ok (.aload_n 3, 1) := by decide +kernel
theorem dX11_of_73 : decode cX11_of 73 = .ok (.getfield 153, 3) := by decide +kernel
theorem dX11_of_76 : decode cX11_of 76 = .ok (.aload_n 0, 1) := by decide +kernel
theorem dX11_of_77 : decode cX11_of 77 = .ok (.getfield 69, 3) := by decide +kernel
theorem dX11_of_80 : decode cX11_of 80 = .ok (.isub, 1) := by decide +kernel
theorem dX11_of_81 : decode cX11_of 81 = .ok (.goto 4, 3) := by decide +kernel
theorem dX11_of_84 : decode cX11_of 84 = .ok (.iconst 0, 1) := by decide +kernel
theorem dX11_of_85 : decode cX11_of 85 = .ok (.ireturn, 1) := by decide +kernel
theorem dX11_of_86 : decode cX11_of 86 = .ok (.aload_n 3, 1) := by decide +kernel
theorem dX11_of_87 : decode cX11_of 87 = .ok (.getfield 156, 3) := by decide +kernel
theorem dX11_of_90 : decode cX11_of 90 = .ok (.iconst (-1), 1) := by decide +kernel
theorem dX11_of_91 : decode cX11_of 91 = .ok (.if_icmp .ne 7, 3) := by decide +kernel
theorem dX11_of_94 : decode cX11_of 94 = .ok (.iconst (-1), 1) := by decide +kernel
theorem dX11_of_95 : decode cX11_of 95 = .ok (.goto 12, 3) := by decide +kernel
theorem dX11_of_98 : decode cX11_of 98 = .ok (.aload_n 3, 1) := by decide +kernel
theorem dX11_of_99 : decode cX11_of 99 = .ok (.getfield 156, 3) := by decide +kernel
theorem dX11_of_102 : decode cX11_of 102 = .ok (.aload_n 0, 1) := by decide +kernel
theorem dX11_of_103 : decode cX11_of 103 = .ok (.getfield 69, 3) := by decide +kernel
theorem dX11_of_106 : decode cX11_of 106 = .ok (.isub, 1) := by decide +kernel
theorem dX11_of_107 : decode cX11_of 107 = .ok (.ireturn, 1) := by decide +kernel
theorem dX11_of_108 : decode cX11_of 108 = .ok (.aload_n 3, 1) := by decide +kernel
theorem dX11_of_109 : decode cX11_of 109 = .ok (.getfield 159, 3) := by decide +kernel
theorem dX11_of_112 : decode cX11_of 112 = .ok (.ireturn, 1) := by decide +kernel
theorem dX11_of_113 : decode cX11_of 113 = .ok (.aload_n 3, 1) := by decide +kernel
theorem dX11_of_114 : decode cX11_of 114 = .ok (.aload_n 0, 1) := by decide +kernel
theorem dX11_of_115 : decode cX11_of 115 = .ok (.getfield 69, 3) := by decide +kernel
theorem dX11_of_118 : decode cX11_of 118 = .ok (.invokevirtual 162, 3) := by decide +kernel
theorem dX11_of_121 : decode cX11_of 121 = .ok (.ireturn, 1) := by decide +kernel
theorem dX11_of_122 : decode cX11_of 122 = .ok (.aload_n 3, 1) := by decide +kernel
theorem dX11_of_123 : decode cX11_of 123 = .ok (.getfield 129, 3) := by decide +kernel
theorem dX11_of_126 : decode cX11_of 126 = .ok (.getfield 104, 3) := by decide +kernel
theorem dX11_of_129 : decode cX11_of 129 = .ok (.ireturn, 1) := by decide +kernel
theorem dX11_of_130 : decode cX11_of 130 = .ok (.iconst (-1), 1) := by decide +kernel
theorem dX11_of_131 : decode cX11_of 131 = .ok (.ireturn, 1) := by decide +kernel
theorem dX11_level_0 : decode cX11_level 0 = .ok (.iload_n 1, 1) := by decide +kernel
theorem dX11_level_1 : decode cX11_level 1 = .ok (.iconst 0, 1) := by decide +kernel
theorem dX11_level_2 : decode cX11_level 2 = .ok (.iconst 3, 1) := by decide +kernel
theorem dX11_level_3 : decode cX11_level 3 = .ok (.invokestatic 84, 3) := by decide +kernel
theorem dX11_level_6 : decode cX11_level 6 = .ok (.ifCond .eq 13, 3) := by decide +kernel
theorem dX11_level_9 : decode cX11_level 9 = .ok (.iload_n 2, 1) := by decide +kernel
theorem dX11_level_10 : decode cX11_level 10 = .ok (.iconst 1, 1) := by decide +kernel
theorem dX11_level_11 : decode cX11_level 11 = .ok (.bipush 64, 2) := by decide +kernel
theorem dX11_level_13 : decode cX11_level 13 = .ok (.invokestatic 84, 3) := by decide +kernel
theorem dX11_level_16 : decode cX11_level 16 = .ok (.ifCond .ne 5, 3) := by decide +kernel
theorem dX11_level_19 : decode cX11_level 19 = .ok (.iconst (-1), 1) := by decide +kernel
theorem dX11_level_20 : decode cX11_level 20 = .ok (.ireturn, 1) := by decide +kernel
theorem dX11_level_21 : decode cX11_level 21 = .ok (.aload_n 0, 1) := by decide +kernel
theorem dX11_level_22 : decode cX11_level 22 = .ok (.getfield 28, 3) := by decide +kernel
theorem dX11_level_25 : decode cX11_level 25 = .ok (.getfield 125, 3) := by decide +kernel
theorem dX11_level_28 : decode cX11_level 28 = .ok (.iload_n 1, 1) := by decide +kernel
theorem dX11_level_29 : decode cX11_level 29 = .ok (.aaload, 1) := by decide +kernel
theorem dX11_level_30 : decode cX11_level 30 = .ok (.iload_n 2, 1) := by decide +kernel
theorem dX11_level_31 : decode cX11_level 31 = .ok (.iconst 1, 1) := by decide +kernel
theorem dX11_level_32 : decode cX11_level 32 = .ok (.isub, 1) := by decide +kernel
theorem dX11_level_33 : decode cX11_level 33 = .ok (.aload_n 0, 1) := by decide +kernel
theorem dX11_level_34 : decode cX11_level 34 = .ok (.getfield 69, 3) := by decide +kernel
theorem dX11_level_37 : decode cX11_level 37 = .ok (.invokevirtual 165, 3) := by decide +kernel
theorem dX11_level_40 : decode cX11_level 40 = .ok (.ireturn, 1) := by decide +kernel
theorem dX11_out_0 : decode cX11_out 0 = .ok (.iload_n 1, 1) := by decide +kernel
theorem dX11_out_1 : decode cX11_out 1 = .ok (.iconst 1, 1) := by decide +kernel
theorem dX11_out_2 : decode cX11_out 2 = .ok (.bipush 64, 2) := by decide +kernel
theorem dX11_out_4 : decode cX11_out 4 = .ok (.invokestatic 84, 3) := by decide +kernel
theorem dX11_out_7 : decode cX11_out 7 = .ok (.ifCond .eq 20, 3) := by decide +kernel
theorem dX11_out_10 : decode cX11_out 10 = .ok (.aload_n 0, 1) := by decide +kernel
theorem dX11_out_11 : decode cX11_out 11 = .ok (.getfield 28, 3) := by decide +kernel
theorem dX11_out_14 : decode cX11_out 14 = .ok (.iload_n 1, 1) := by decide +kernel
theorem dX11_out_15 : decode cX11_out 15 = .ok (.iconst 1, 1) := by decide +kernel
theorem dX11_out_16 : decode cX11_out 16 = .ok (.isub, 1) := by decide +kernel
theorem dX11_out_17 : decode cX11_out 17 = .ok (.aload_n 0, 1) := by decide +kernel
theorem dX11_out_18 : decode cX11_out 18 = .ok (.getfield 69, 3) := by decide +kernel
theorem dX11_out_21 : decode cX11_out 21 = .ok (.invokevirtual 168, 3) := by decide +kernel
theorem dX11_out_24 : decode cX11_out 24 = .ok (.goto 4, 3) := by decide +kernel
theorem dX11_out_27 : decode cX11_out 27 = .ok (.iconst (-1), 1) := by decide +kernel
theorem dX11_out_28 : decode cX11_out 28 = .ok (.ireturn, 1) := by decide +kernel
theorem dX11_patch_0 : decode cX11_patch 0 = .ok (.iload_n 1, 1) := by decide +kernel
theorem dX11_patch_1 : decode cX11_patch 1 = .ok (.iconst 0, 1) := by decide +kernel
theorem dX11_patch_2 : decode cX11_patch 2 = .ok (.bipush 127, 2) := by decide +kernel
theorem dX11_patch_4 : decode cX11_patch 4 = .ok (.invokestatic 84, 3) := by decide +kernel
theorem dX11_patch_7 : decode cX11_patch 7 = .ok (.ifCond .eq 22, 3) := by decide +kernel
theorem dX11_patch_10 : decode cX11_patch 10 = .ok (.iload_n 2, 1) := by decide +kernel
theorem dX11_patch_11 : decode cX11_patch 11 = .ok (.iconst 0, 1) := by decide +kernel
theorem dX11_patch_12 : decode cX11_patch 12 = .ok (.bipush 64, 2) := by decide +kernel
theorem dX11_patch_14 : decode cX11_patch 14 = .ok (.invokestatic 84, 3) := by decide +kernel
theorem dX11_patch_17 : decode cX11_patch 17 = .ok (.ifCond .eq 12, 3) := by decide +kernel
theorem dX11_patch_20 : decode cX11_patch 20 = .ok (.iload_n 3, 1) := by decide +kernel
theorem dX11_patch_21 : decode cX11_patch 21 = .ok (.iconst 0, 1) := by decide +kernel
theorem dX11_patch_22 : decode cX11_patch 22 = .ok (.iconst 3, 1) := by decide +kernel
theorem dX11_patch_23 : decode cX11_patch 23 = .ok (.invokestatic 84, 3) := by decide +kernel
theorem dX11_patch_26 : decode cX11_patch 26 = .ok (.ifCond .ne 5, 3) := by decide +kernel
theorem dX11_patch_29 : decode cX11_patch 29 = .ok (.iconst 0, 1) := by decide +kernel
theorem dX11_patch_30 : decode cX11_patch 30 = .ok (.ireturn, 1) := by decide +kernel
theorem dX11_patch_31 : decode cX11_patch 31 = .ok (.aload_n 0, 1) := by decide +kernel
theorem dX11_patch_32 : decode cX11_patch 32 = .ok (.getfield 28, 3) := by decide +kernel
theorem dX11_patch_35 : decode cX11_patch 35 = .ok (.getfield 171, 3) := by decide +kernel
theorem dX11_patch_38 : decode cX11_patch 38 = .ok (.iload_n 1, 1) := by decide +kernel
theorem dX11_patch_39 : decode cX11_patch 39 = .ok (.iload_n 2, 1) := by decide +kernel
theorem dX11_patch_40 : decode cX11_patch 40 = .ok (.iastore, 1) := by decide +kernel
theorem dX11_patch_41 : decode cX11_patch 41 = .ok (.aload_n 0, 1) := by decide +kernel
theorem dX11_patch_42 : decode cX11_patch 42 = .ok (.getfield 28, 3) := by decide +kernel
theorem dX11_patch_45 : decode cX11_patch 45 = .ok (.getfield 175, 3) := by decide +kernel
theorem dX11_patch_48 : decode cX11_patch 48 = .ok (.iload_n 1, 1) := by decide +kernel
theorem dX11_patch_49 : decode cX11_patch 49 = .ok (.iload_n 3, 1) := by decide +kernel
theorem dX11_patch_50 : decode cX11_patch 50 = .ok (.iastore, 1) := by decide +kernel
theorem dX11_patch_51 : decode cX11_patch 51 = .ok (.iconst 1, 1) := by decide +kernel
theorem dX11_patch_52 : decode cX11_patch 52 = .ok (.ireturn, 1) := by decide +kernel
theorem dX11_grand_0 : decode cX11_grand 0 = .ok (.iload_n 1, 1) := by decide +kernel
theorem dX11_grand_1 : decode cX11_grand 1 = .ok (.iconst 0, 1) := by decide +kernel
theorem dX11_grand_2 : decode cX11_grand 2 = .ok (.sipush 255, 3) := by decide +kernel
theorem dX11_grand_5 : decode cX11_grand 5 = .ok (.invokestatic 84, 3) := by decide +kernel
theorem dX11_grand_8 : decode cX11_grand 8 = .ok (.ifCond .ne 5, 3) := by decide +kernel
theorem dX11_grand_11 : decode cX11_grand 11 = .ok (.iconst 0, 1) := by decide +kernel
theorem dX11_grand_12 : decode cX11_grand 12 = .ok (.ireturn, 1) := by decide +kernel
theorem dX11_grand_13 : decode cX11_grand 13 = .ok (.aload_n 0, 1) := by decide +kernel
theorem dX11_grand_14 : decode cX11_grand 14 = .ok (.getfield 28, 3) := by decide +kernel
theorem dX11_grand_17 : decode cX11_grand 17 = .ok (.iload_n 1, 1) := by decide +kernel
theorem dX11_grand_18 : decode cX11_grand 18 = .ok (.putfield 178, 3) := by decide +kernel
theorem dX11_grand_21 : decode cX11_grand 21 = .ok (.iconst 1, 1) := by decide +kernel
theorem dX11_grand_22 : decode cX11_grand 22 = .ok (.ireturn, 1) := by decide +kernel
theorem dX11_wire_0 : decode cX11_wire 0 = .ok (.iload_n 1, 1) := by decide +kernel
theorem dX11_wire_1 : decode cX11_wire 1 = .ok (.iconst 0, 1) := by decide +kernel
theorem dX11_wire_2 : decode cX11_wire 2 = .ok (.bipush 127, 2) := by decide +kernel
theorem dX11_wire_4 : decode cX11_wire 4 = .ok (.invokestatic 84, 3) := by decide +kernel
theorem dX11_wire_7 : decode cX11_wire 7 = .ok (.ifCond .eq 18, 3) := by decide +kernel
theorem dX11_wire_10 : decode cX11_wire 10 = .ok (.aload_n 0, 1) := by decide +kernel
theorem dX11_wire_11 : decode cX11_wire 11 = .ok (.getfield 28, 3) := by decide +kernel
theorem dX11_wire_14 : decode cX11_wire 14 = .ok (.iload_n 1, 1) := by decide +kernel
theorem dX11_wire_15 : decode cX11_wire 15 = .ok (.aload_n 0, 1) := by decide +kernel
theorem dX11_wire_16 : decode cX11_wire 16 = .ok (.getfield 69, 3) := by decide +kernel
theorem dX11_wire_19 : decode cX11_wire 19 = .ok (.invokevirtual 181, 3) := by decide +kernel
theorem dX11_wire_22 : decode cX11_wire 22 = .ok (.goto 4, 3) := by decide +kernel
theorem dX11_wire_25 : decode cX11_wire 25 = .ok (.iconst (-1), 1) := by decide +kernel
theorem dX11_wire_26 : decode cX11_wire 26 = .ok (.ireturn, 1) := by decide +kernel
theorem dX11_axis_0 : decode cX11_axis 0 = .ok (.iload_n 1, 1) := by decide +kernel
theorem dX11_axis_1 : decode cX11_axis 1 = .ok (.iconst 0, 1) := by decide +kernel
theorem dX11_axis_2 : decode cX11_axis 2 = .ok (.bipush 7, 2) := by decide +kernel
theorem dX11_axis_4 : decode cX11_axis 4 = .ok (.invokestatic 84, 3) := by decide +kernel
theorem dX11_axis_7 : decode cX11_axis 7 = .ok (.ifCond .eq 56, 3) := by decide +kernel
theorem dX11_axis_10 : decode cX11_axis 10 = .ok (.iload_n 2, 1) := by decide +kernel
theorem dX11_axis_11 : decode cX11_axis 11 = .ok (.iconst 0, 1) := by decide +kernel
theorem dX11_axis_12 : decode cX11_axis 12 = .ok (.ldc 184, 2) := by decide +kernel
theorem dX11_axis_14 : decode cX11_axis 14 = .ok (.invokestatic 84, 3) := by decide +kernel
theorem dX11_axis_17 : decode cX11_axis 17 = .ok (.ifCond .eq 46, 3) := by decide +kernel
theorem dX11_axis_20 : decode cX11_axis 20 = .ok (.iload_n 3, 1) := by decide +kernel
theorem dX11_axis_21 : decode cX11_axis 21 = .ok (.iconst 0, 1) := by decide +kernel
theorem dX11_axis_22 : decode cX11_axis 22 = .ok (.ldc 184, 2) := by decide +kernel
theorem dX11_axis_24 : decode cX11_axis 24 = .ok (.invokestatic 84, 3) := by decide +kernel
theorem dX11_axis_27 : decode cX11_axis 27 = .ok (.ifCond .eq 36, 3) := by decide +kernel
theorem dX11_axis_30 : decode cX11_axis 30 = .ok (.iload_n 2, 1) := by decide +kernel
theorem dX11_axis_31 : decode cX11_axis 31 = .ok (.iload_n 3, 1) := by decide +kernel
theorem dX11_axis_32 : decode cX11_axis 32 = .ok (.if_icmp .ge 31, 3) := by decide +kernel
theorem dX11_axis_35 : decode cX11_axis 35 = .ok (.iload 4, 2) := by decide +kernel
theorem dX11_axis_37 : decode cX11_axis 37 = .ok (.iconst 1, 1) := by decide +kernel
theorem dX11_axis_38 : decode cX11_axis 38 = .ok (.sipush 999, 3) := by decide +kernel
theorem dX11_axis_41 : decode cX11_axis 41 = .ok (.invokestatic 84, 3) := by decide +kernel
theorem dX11_axis_44 : decode cX11_axis 44 = .ok (.ifCond .eq 19, 3) := by decide +kernel
theorem dX11_axis_47 : decode cX11_axis 47 = .ok (.iload 5, 2) := by decide +kernel
theorem dX11_axis_49 : decode cX11_axis 49 = .ok (.iconst 1, 1) := by decide +kernel
theorem dX11_axis_50 : decode cX11_axis 50 = .ok (.sipush 999, 3) := by decide +kernel
theorem dX11_axis_53 : decode cX11_axis 53 = .ok (.invokestatic 84, 3) := by decide +kernel
theorem dX11_axis_56 : decode cX11_axis 56 = .ok (.ifCond .eq 7, 3) := by decide +kernel
theorem dX11_axis_59 : decode cX11_axis 59 = .ok (.iconst 1, 1) := by decide +kernel
theorem dX11_axis_60 : decode cX11_axis 60 = .ok (.goto 4, 3) := by decide +kernel
theorem dX11_axis_63 : decode cX11_axis 63 = .ok (.iconst 0, 1) := by decide +kernel
theorem dX11_axis_64 : decode cX11_axis 64 = .ok (.istore 6, 2) := by decide +kernel
theorem dX11_axis_66 : decode cX11_axis 66 = .ok (.iload 6, 2) := by decide +kernel
theorem dX11_axis_68 : decode cX11_axis 68 = .ok (.ifCond .eq 21, 3) := by decide +kernel
theorem dX11_axis_71 : decode cX11_axis 71 = .ok (.aload_n 0, 1) := by decide +kernel
theorem dX11_axis_72 : decode cX11_axis 72 = .ok (.getfield 19, 3) := by decide +kernel
theorem dX11_axis_75 : decode cX11_axis 75 = .ok (.getfield 185, 3) := by decide +kernel
theorem dX11_axis_78 : decode cX11_axis 78 = .ok (.iload_n 1, 1) := by decide +kernel
theorem dX11_axis_79 : decode cX11_axis 79 = .ok (.aaload, 1) := by decide +kernel
theorem dX11_axis_80 : decode cX11_axis 80 = .ok (.iload_n 2, 1) := by decide +kernel
theorem dX11_axis_81 : decode cX11_axis 81 = .ok (.iload_n 3, 1) := by decide +kernel
theorem dX11_axis_82 : decode cX11_axis 82 = .ok (.iload 4, 2) := by decide +kernel
theorem dX11_axis_84 : decode cX11_axis 84 = .ok (.iload 5, 2) := by decide +kernel
theorem dX11_axis_86 : decode cX11_axis 86 = .ok (.invokevirtual 189, 3) := by decide +kernel
theorem dX11_axis_89 : decode cX11_axis 89 = .ok (.iload 6, 2) := by decide +kernel
theorem dX11_axis_91 : decode cX11_axis 91 = .ok (.ireturn, 1) := by decide +kernel
theorem dX11_to_0 : decode cX11_to 0 = .ok (.aload_n 0, 1) := by decide +kernel
theorem dX11_to_1 : decode cX11_to 1 = .ok (.getfield 19, 3) := by decide +kernel
theorem dX11_to_4 : decode cX11_to 4 = .ok (.iload_n 1, 1) := by decide +kernel
theorem dX11_to_5 : decode cX11_to 5 = .ok (.iload_n 2, 1) := by decide +kernel
theorem dX11_to_6 : decode cX11_to 6 = .ok (.invokevirtual 195, 3) := by decide +kernel
theorem dX11_to_9 : decode cX11_to 9 = .ok (.ireturn, 1) := by decide +kernel
theorem dX11_axisAt_0 : decode cX11_axisAt 0 = .ok (.iload_n 1, 1) := by decide +kernel
theorem dX11_axisAt_1 : decode cX11_axisAt 1 = .ok (.iconst 0, 1) := by decide +kernel
theorem dX11_axisAt_2 : decode cX11_axisAt 2 = .ok (.bipush 7, 2) := by decide +kernel
theorem dX11_axisAt_4 : decode cX11_axisAt 4 = .ok (.invokestatic 84, 3) := by decide +kernel
theorem dX11_axisAt_7 : decode cX11_axisAt 7 = .ok (.ifCond .ne 5, 3) := by decide +kernel
theorem dX11_axisAt_10 : decode cX11_axisAt 10 = .ok (.iconst (-1), 1) := by decide +kernel
theorem dX11_axisAt_11 : decode cX11_axisAt 11 = .ok (.ireturn, 1) := by decide +kernel
theorem dX11_axisAt_12 : decode cX11_axisAt 12 = .ok (.iload_n 2, 1) := by decide +kernel
theorem dX11_axisAt_13 : decode cX11_axisAt 13 = .ok (.bipush 6, 2) := by decide +kernel
theorem dX11_axisAt_15 : decode cX11_axisAt 15 = .ok (.if_icmp .ne 20, 3) := by decide +kernel
theorem dX11_axisAt_18 : decode cX11_axisAt 18 = .ok (.aload_n 0, 1) := by decide +kernel
theorem dX11_axisAt_19 : decode cX11_axisAt 19 = .ok (.getfield 19, 3) := by decide +kernel
theorem dX11_axisAt_22 : decode cX11_axisAt 22 = .ok (.iload_n 1, 1) := by decide +kernel
theorem dX11_axisAt_23 : decode cX11_axisAt 23 = .ok (.invokevirtual 199, 3) := by decide +kernel
theorem dX11_axisAt_26 : decode cX11_axisAt 26 = .ok (.ifCond .eq 7, 3) := by decide +kernel
theorem dX11_axisAt_29 : decode cX11_axisAt 29 = .ok (.iconst 1, 1) := by decide +kernel
theorem dX11_axisAt_30 : decode cX11_axisAt 30 = .ok (.goto 4, 3) := by decide +kernel
theorem dX11_axisAt_33 : decode cX11_axisAt 33 = .ok (.iconst 0, 1) := by decide +kernel
theorem dX11_axisAt_34 : decode cX11_axisAt 34 = .ok (.ireturn, 1) := by decide +kernel
theorem dX11_axisAt_35 : decode cX11_axisAt 35 = .ok (.aload_n 0, 1) := by decide +kernel
theorem dX11_axisAt_36 : decode cX11_axisAt 36 = .ok (.getfield 19, 3) := by decide +kernel
theorem dX11_axisAt_39 : decode cX11_axisAt 39 = .ok (.getfield 185, 3) := by decide +kernel
theorem dX11_axisAt_42 : decode cX11_axisAt 42 = .ok (.iload_n 1, 1) := by decide +kernel
theorem dX11_axisAt_43 : decode cX11_axisAt 43 = .ok (.aaload, 1) := by decide +kernel
theorem dX11_axisAt_44 : decode cX11_axisAt 44 = .ok (.iload_n 2, 1) := by decide +kernel
theorem dX11_axisAt_45 : decode cX11_axisAt 45 = .ok (.invokevirtual 203, 3) := by decide +kernel
theorem dX11_axisAt_48 : decode cX11_axisAt 48 = .ok (.ireturn, 1) := by decide +kernel
theorem dX11_faults_0 : decode cX11_faults 0 = .ok (.iload_n 1, 1) := by decide +kernel
theorem dX11_faults_1 : decode cX11_faults 1 = .ok (.iconst 0, 1) := by decide +kernel
theorem dX11_faults_2 : decode cX11_faults 2 = .ok (.bipush 7, 2) := by decide +kernel
theorem dX11_faults_4 : decode cX11_faults 4 = .ok (.invokestatic 84, 3) := by decide +kernel
theorem dX11_faults_7 : decode cX11_faults 7 = .ok (.ifCond .eq 28, 3) := by decide +kernel
theorem dX11_faults_10 : decode cX11_faults 10 = .ok (.iload_n 2, 1) := by decide +kernel
theorem dX11_faults_11 : decode cX11_faults 11 = .ok (.iconst 0, 1) := by decide +kernel
theorem dX11_faults_12 : decode cX11_faults 12 = .ok (.bipush 7, 2) := by decide +kernel
theorem dX11_faults_14 : decode cX11_faults 14 = .ok (.invokestatic 84, 3) := by decide +kernel
theorem dX11_faults_17 : decode cX11_faults 17 = .ok (.ifCond .eq 18, 3) := by decide +kernel
theorem dX11_faults_20 : decode cX11_faults 20 = .ok (.aload_n 0, 1) := by decide +kernel
theorem dX11_faults_21 : decode cX11_faults 21 = .ok (.getfield 19, 3) := by decide +kernel
theorem dX11_faults_24 : decode cX11_faults 24 = .ok (.getfield 185, 3) := by decide +kernel
theorem dX11_faults_27 : decode cX11_faults 27 = .ok (.iload_n 1, 1) := by decide +kernel
theorem dX11_faults_28 : decode cX11_faults 28 = .ok (.aaload, 1) := by decide +kernel
theorem dX11_faults_29 : decode cX11_faults 29 = .ok (.getfield 206, 3) := by decide +kernel
theorem dX11_faults_32 : decode cX11_faults 32 = .ok (.ifCond .ne 5, 3) := by decide +kernel
theorem dX11_faults_35 : decode cX11_faults 35 = .ok (.iconst 0, 1) := by decide +kernel
theorem dX11_faults_36 : decode cX11_faults 36 = .ok (.ireturn, 1) := by decide +kernel
theorem dX11_faults_37 : decode cX11_faults 37 = .ok (.aload_n 0, 1) := by decide +kernel
theorem dX11_faults_38 : decode cX11_faults 38 = .ok (.getfield 19, 3) := by decide +kernel
theorem dX11_faults_41 : decode cX11_faults 41 = .ok (.getfield 185, 3) := by decide +kernel
theorem dX11_faults_44 : decode cX11_faults 44 = .ok (.iload_n 1, 1) := by decide +kernel
theorem dX11_faults_45 : decode cX11_faults 45 = .ok (.aaload, 1) := by decide +kernel
theorem dX11_faults_46 : decode cX11_faults 46 = .ok (.iload_n 2, 1) := by decide +kernel
theorem dX11_faults_47 : decode cX11_faults 47 = .ok (.invokevirtual 209, 3) := by decide +kernel
theorem dX11_faults_50 : decode cX11_faults 50 = .ok (.iconst 1, 1) := by decide +kernel
theorem dX11_faults_51 : decode cX11_faults 51 = .ok (.ireturn, 1) := by decide +kernel
theorem dX11_stop_0 : decode cX11_stop 0 = .ok (.aload_n 0, 1) := by decide +kernel
theorem dX11_stop_1 : decode cX11_stop 1 = .ok (.getfield 19, 3) := by decide +kernel
theorem dX11_stop_4 : decode cX11_stop 4 = .ok (.iload_n 1, 1) := by decide +kernel
theorem dX11_stop_5 : decode cX11_stop 5 = .ok (.invokevirtual 212, 3) := by decide +kernel
theorem dX11_stop_8 : decode cX11_stop 8 = .ok (.return_, 1) := by decide +kernel
theorem dX11_event_0 : decode cX11_event 0 = .ok (.iload_n 1, 1) := by decide +kernel
theorem dX11_event_1 : decode cX11_event 1 = .ok (.iconst 0, 1) := by decide +kernel
theorem dX11_event_2 : decode cX11_event 2 = .ok (.bipush 15, 2) := by decide +kernel
theorem dX11_event_4 : decode cX11_event 4 = .ok (.invokestatic 84, 3) := by decide +kernel
theorem dX11_event_7 : decode cX11_event 7 = .ok (.ifCond .ne 5, 3) := by decide +kernel
theorem dX11_event_10 : decode cX11_event 10 = .ok (.iconst 0, 1) := by decide +kernel
theorem dX11_event_11 : decode cX11_event 11 = .ok (.ireturn, 1) := by decide +kernel
theorem dX11_event_12 : decode cX11_event 12 = .ok (.aload_n 0, 1) := by decide +kernel
theorem dX11_event_13 : decode cX11_event 13 = .ok (.getfield 19, 3) := by decide +kernel
theorem dX11_event_16 : decode cX11_event 16 = .ok (.getfield 216, 3) := by decide +kernel
theorem dX11_event_19 : decode cX11_event 19 = .ok (.iload_n 1, 1) := by decide +kernel
theorem dX11_event_20 : decode cX11_event 20 = .ok (.iload_n 2, 1) := by decide +kernel
theorem dX11_event_21 : decode cX11_event 21 = .ok (.bastore, 1) := by decide +kernel
theorem dX11_event_22 : decode cX11_event 22 = .ok (.iconst 1, 1) := by decide +kernel
theorem dX11_event_23 : decode cX11_event 23 = .ok (.ireturn, 1) := by decide +kernel
theorem dX11_tick_0 : decode cX11_tick 0 = .ok (.iload_n 1, 1) := by decide +kernel
theorem dX11_tick_1 : decode cX11_tick 1 = .ok (.iconst 0, 1) := by decide +kernel
theorem dX11_tick_2 : decode cX11_tick 2 = .ok (.sipush 500, 3) := by decide +kernel
theorem dX11_tick_5 : decode cX11_tick 5 = .ok (.invokestatic 84, 3) := by decide +kernel
theorem dX11_tick_8 : decode cX11_tick 8 = .ok (.ifCond .ne 5, 3) := by decide +kernel
theorem dX11_tick_11 : decode cX11_tick 11 = .ok (.iconst (-1), 1) := by decide +kernel
theorem dX11_tick_12 : decode cX11_tick 12 = .ok (.ireturn, 1) := by decide +kernel
theorem dX11_tick_13 : decode cX11_tick 13 = .ok (.iconst 0, 1) := by decide +kernel
theorem dX11_tick_14 : decode cX11_tick 14 = .ok (.istore_n 2, 1) := by decide +kernel
theorem dX11_tick_15 : decode cX11_tick 15 = .ok (.iload_n 2, 1) := by decide +kernel
theorem dX11_tick_16 : decode cX11_tick 16 = .ok (.iload_n 1, 1) := by decide +kernel
theorem dX11_tick_17 : decode cX11_tick 17 = .ok (.if_icmp .ge 51, 3) := by decide +kernel
theorem dX11_tick_20 : decode cX11_tick 20 = .ok (.aload_n 0, 1) := by decide +kernel
theorem dX11_tick_21 : decode cX11_tick 21 = .ok (.dup, 1) := by decide +kernel
theorem dX11_tick_22 : decode cX11_tick 22 = .ok (.getfield 69, 3) := by decide +kernel
theorem dX11_tick_25 : decode cX11_tick 25 = .ok (.iconst 1, 1) := by decide +kernel
theorem dX11_tick_26 : decode cX11_tick 26 = .ok (.iadd, 1) := by decide +kernel
theorem dX11_tick_27 : decode cX11_tick 27 = .ok (.putfield 69, 3) := by decide +kernel
theorem dX11_tick_30 : decode cX11_tick 30 = .ok (.iconst 0, 1) := by decide +kernel
theorem dX11_tick_31 : decode cX11_tick 31 = .ok (.istore_n 3, 1) := by decide +kernel
theorem dX11_tick_32 : decode cX11_tick 32 = .ok (.iload_n 3, 1) := by decide +kernel
theorem dX11_tick_33 : decode cX11_tick 33 = .ok (.iconst 4, 1) := by decide +kernel
theorem dX11_tick_34 : decode cX11_tick 34 = .ok (.if_icmp .ge 21, 3) := by decide +kernel
theorem dX11_tick_37 : decode cX11_tick 37 = .ok (.aload_n 0, 1) := by decide +kernel
theorem dX11_tick_38 : decode cX11_tick 38 = .ok (.getfield 28, 3) := by decide +kernel
theorem dX11_tick_41 : decode cX11_tick 41 = .ok (.iload_n 3, 1) := by decide +kernel
theorem dX11_tick_42 : decode cX11_tick 42 = .ok (.aload_n 0, 1) := by decide +kernel
theorem dX11_tick_43 : decode cX11_tick 43 = .ok (.getfield 69, 3) := by decide +kernel
theorem dX11_tick_46 : decode cX11_tick 46 = .ok (.invokevirtual 220, 3) := by decide +kernel
theorem dX11_tick_49 : decode cX11_tick 49 = .ok (.iinc 3 1, 3) := by decide +kernel
theorem dX11_tick_52 : decode cX11_tick 52 = .ok (.goto (-20), 3) := by decide +kernel
theorem dX11_tick_55 : decode cX11_tick 55 = .ok (.aload_n 0, 1) := by decide +kernel
theorem dX11_tick_56 : decode cX11_tick 56 = .ok (.getfield 19, 3) := by decide +kernel
theorem dX11_tick_59 : decode cX11_tick 59 = .ok (.invokevirtual 224, 3) := by decide +kernel
theorem dX11_tick_62 : decode cX11_tick 62 = .ok (.iinc 2 1, 3) := by decide +kernel
theorem dX11_tick_65 : decode cX11_tick 65 = .ok (.goto (-50), 3) := by decide +kernel
theorem dX11_tick_68 : decode cX11_tick 68 = .ok (.aload_n 0, 1) := by decide +kernel
theorem dX11_tick_69 : decode cX11_tick 69 = .ok (.getfield 51, 3) := by decide +kernel
theorem dX11_tick_72 : decode cX11_tick 72 = .ok (.aload_n 0, 1) := by decide +kernel
theorem dX11_tick_73 : decode cX11_tick 73 = .ok (.getfield 69, 3) := by decide +kernel
theorem dX11_tick_76 : decode cX11_tick 76 = .ok (.invokevirtual 226, 3) := by decide +kernel
theorem dX11_tick_79 : decode cX11_tick 79 = .ok (.aload_n 0, 1) := by decide +kernel
theorem dX11_tick_80 : decode cX11_tick 80 = .ok (.getfield 69, 3) := by decide +kernel
theorem dX11_tick_83 : decode cX11_tick 83 = .ok (.ireturn, 1) := by decide +kernel
theorem dX11_section_0 : decode cX11_section 0 = .ok (.iload_n 1, 1) := by decide +kernel
theorem dX11_section_1 : decode cX11_section 1 = .ok (.iconst 0, 1) := by decide +kernel
theorem dX11_section_2 : decode cX11_section 2 = .ok (.bipush 7, 2) := by decide +kernel
theorem dX11_section_4 : decode cX11_section 4 = .ok (.invokestatic 84, 3) := by decide +kernel
theorem dX11_section_7 : decode cX11_section 7 = .ok (.ifCond .eq 13, 3) := by decide +kernel
theorem dX11_section_10 : decode cX11_section 10 = .ok (.iload_n 2, 1) := by decide +kernel
theorem dX11_section_11 : decode cX11_section 11 = .ok (.iconst 0, 1) := by decide +kernel
theorem dX11_section_12 : decode cX11_section 12 = .ok (.ldc 184, 2) := by decide +kernel
theorem dX11_section_14 : decode cX11_section 14 = .ok (.invokestatic 84, 3) := by decide +kernel
theorem dX11_section_17 : decode cX11_section 17 = .ok (.ifCond .ne 5, 3) := by decide +kernel
theorem dX11_section_20 : decode cX11_section 20 = .ok (.iconst 0, 1) := by decide +kernel
theorem dX11_section_21 : decode cX11_section 21 = .ok (.ireturn, 1) := by decide +kernel
theorem dX11_section_22 : decode cX11_section 22 = .ok (.aload_n 0, 1) := by decide +kernel
theorem dX11_section_23 : decode cX11_section 23 = .ok (.getfield 35, 3) := by decide +kernel
theorem dX11_section_26 : decode cX11_section 26 = .ok (.getfield 229, 3) := by decide +kernel
theorem dX11_section_29 : decode cX11_section 29 = .ok (.iload_n 1, 1) := by decide +kernel
theorem dX11_section_30 : decode cX11_section 30 = .ok (.iload_n 2, 1) := by decide +kernel
theorem dX11_section_31 : decode cX11_section 31 = .ok (.iastore, 1) := by decide +kernel
theorem dX11_section_32 : decode cX11_section 32 = .ok (.iconst 1, 1) := by decide +kernel
theorem dX11_section_33 : decode cX11_section 33 = .ok (.ireturn, 1) := by decide +kernel
theorem dX11_row_0 : decode cX11_row 0 = .ok (.iload_n 1, 1) := by decide +kernel
theorem dX11_row_1 : decode cX11_row 1 = .ok (.iconst 0, 1) := by decide +kernel
theorem dX11_row_2 : decode cX11_row 2 = .ok (.bipush 39, 2) := by decide +kernel
theorem dX11_row_4 : decode cX11_row 4 = .ok (.invokestatic 84, 3) := by decide +kernel
theorem dX11_row_7 : decode cX11_row 7 = .ok (.ifCond .eq 23, 3) := by decide +kernel
theorem dX11_row_10 : decode cX11_row 10 = .ok (.iload_n 2, 1) := by decide +kernel
theorem dX11_row_11 : decode cX11_row 11 = .ok (.iconst 0, 1) := by decide +kernel
theorem dX11_row_12 : decode cX11_row 12 = .ok (.bipush 7, 2) := by decide +kernel
theorem dX11_row_14 : decode cX11_row 14 = .ok (.invokestatic 84, 3) := by decide +kernel
theorem dX11_row_17 : decode cX11_row 17 = .ok (.ifCond .eq 13, 3) := by decide +kernel
theorem dX11_row_20 : decode cX11_row 20 = .ok (.iload_n 3, 1) := by decide +kernel
theorem dX11_row_21 : decode cX11_row 21 = .ok (.iconst 1, 1) := by decide +kernel
theorem dX11_row_22 : decode cX11_row 22 = .ok (.bipush 30, 2) := by decide +kernel
theorem dX11_row_24 : decode cX11_row 24 = .ok (.invokestatic 84, 3) := by decide +kernel
theorem dX11_row_27 : decode cX11_row 27 = .ok (.ifCond .ne 5, 3) := by decide +kernel
theorem dX11_row_30 : decode cX11_row 30 = .ok (.iconst 0, 1) := by decide +kernel
theorem dX11_row_31 : decode cX11_row 31 = .ok (.ireturn, 1) := by decide +kernel
theorem dX11_row_32 : decode cX11_row 32 = .ok (.aload_n 0, 1) := by decide +kernel
theorem dX11_row_33 : decode cX11_row 33 = .ok (.getfield 35, 3) := by decide +kernel
theorem dX11_row_36 : decode cX11_row 36 = .ok (.iload_n 1, 1) := by decide +kernel
theorem dX11_row_37 : decode cX11_row 37 = .ok (.iload_n 2, 1) := by decide +kernel
theorem dX11_row_38 : decode cX11_row 38 = .ok (.iload_n 3, 1) := by decide +kernel
theorem dX11_row_39 : decode cX11_row 39 = .ok (.invokevirtual 231, 3) := by decide +kernel
theorem dX11_row_42 : decode cX11_row 42 = .ok (.ireturn, 1) := by decide +kernel
theorem dX11_line_0 : decode cX11_line 0 = .ok (.iload_n 1, 1) := by decide +kernel
theorem dX11_line_1 : decode cX11_line 1 = .ok (.iconst 0, 1) := by decide +kernel
theorem dX11_line_2 : decode cX11_line 2 = .ok (.iconst 3, 1) := by decide +kernel
theorem dX11_line_3 : decode cX11_line 3 = .ok (.invokestatic 84, 3) := by decide +kernel
theorem dX11_line_6 : decode cX11_line 6 = .ok (.ifCond .ne 5, 3) := by decide +kernel
theorem dX11_line_9 : decode cX11_line 9 = .ok (.iconst 0, 1) := by decide +kernel
theorem dX11_line_10 : decode cX11_line 10 = .ok (.ireturn, 1) := by decide +kernel
theorem dX11_line_11 : decode cX11_line 11 = .ok (.aload_n 0, 1) := by decide +kernel
theorem dX11_line_12 : decode cX11_line 12 = .ok (.getfield 35, 3) := by decide +kernel
theorem dX11_line_15 : decode cX11_line 15 = .ok (.getfield 234, 3) := by decide +kernel
theorem dX11_line_18 : decode cX11_line 18 = .ok (.iload_n 1, 1) := by decide +kernel
theorem dX11_line_19 : decode cX11_line 19 = .ok (.iload_n 2, 1) := by decide +kernel
theorem dX11_line_20 : decode cX11_line 20 = .ok (.ifCond .ne 7, 3) := by decide +kernel
theorem dX11_line_23 : decode cX11_line 23 = .ok (.iconst 1, 1) := by decide +kernel
theorem dX11_line_24 : decode cX11_line 24 = .ok (.goto 4, 3) := by decide +kernel
theorem dX11_line_27 : decode cX11_line 27 = .ok (.iconst 0, 1) := by decide +kernel
theorem dX11_line_28 : decode cX11_line 28 = .ok (.bastore, 1) := by decide +kernel
theorem dX11_line_29 : decode cX11_line 29 = .ok (.iconst 1, 1) := by decide +kernel
theorem dX11_line_30 : decode cX11_line 30 = .ok (.ireturn, 1) := by decide +kernel
theorem dX11_ask_0 : decode cX11_ask 0 = .ok (.iload_n 1, 1) := by decide +kernel
theorem dX11_ask_1 : decode cX11_ask 1 = .ok (.iconst 0, 1) := by decide +kernel
theorem dX11_ask_2 : decode cX11_ask 2 = .ok (.iconst 3, 1) := by decide +kernel
theorem dX11_ask_3 : decode cX11_ask 3 = .ok (.invokestatic 84, 3) := by decide +kernel
theorem dX11_ask_6 : decode cX11_ask 6 = .ok (.ifCond .eq 57, 3) := by decide +kernel
theorem dX11_ask_9 : decode cX11_ask 9 = .ok (.iload_n 2, 1) := by decide +kernel
theorem dX11_ask_10 : decode cX11_ask 10 = .ok (.iconst 0, 1) := by decide +kernel
theorem dX11_ask_11 : decode cX11_ask 11 = .ok (.bipush 7, 2) := by decide +kernel
theorem dX11_ask_13 : decode cX11_ask 13 = .ok (.invokestatic 84, 3) := by decide +kernel
theorem dX11_ask_16 : decode cX11_ask 16 = .ok (.ifCond .eq 47, 3) := by decide +kernel
theorem dX11_ask_19 : decode cX11_ask 19 = .ok (.iload_n 3, 1) := by decide +kernel
theorem dX11_ask_20 : decode cX11_ask 20 = .ok (.iconst 1, 1) := by decide +kernel
theorem dX11_ask_21 : decode cX11_ask 21 = .ok (.bipush 10, 2) := by decide +kernel
theorem dX11_ask_23 : decode cX11_ask 23 = .ok (.invokestatic 84, 3) := by decide +kernel
theorem dX11_ask_26 : decode cX11_ask 26 = .ok (.ifCond .eq 37, 3) := by decide +kernel
theorem dX11_ask_29 : decode cX11_ask 29 = .ok (.iload 4, 2) := by decide +kernel
theorem dX11_ask_31 : decode cX11_ask 31 = .ok (.iconst 0, 1) := by decide +kernel
theorem dX11_ask_32 : decode cX11_ask 32 = .ok (.iconst 3, 1) := by decide +kernel
theorem dX11_ask_33 : decode cX11_ask 33 = .ok (.invokestatic 84, 3) := by decide +kernel
theorem dX11_ask_36 : decode cX11_ask 36 = .ok (.ifCond .eq 27, 3) := by decide +kernel
theorem dX11_ask_39 : decode cX11_ask 39 = .ok (.iload 5, 2) := by decide +kernel
theorem dX11_ask_41 : decode cX11_ask 41 = .ok (.iconst 0, 1) := by decide +kernel
theorem dX11_ask_42 : decode cX11_ask 42 = .ok (.bipush 6, 2) := by decide +kernel
theorem dX11_ask_44 : decode cX11_ask 44 = .ok (.invokestatic 84, 3) := by decide +kernel
theorem dX11_ask_47 : decode cX11_ask 47 = .ok (.ifCond .eq 16, 3) := by decide +kernel
theorem dX11_ask_50 : decode cX11_ask 50 = .ok (.iload 6, 2) := by decide +kernel
theorem dX11_ask_52 : decode cX11_ask 52 = .ok (.aload_n 0, 1) := by decide +kernel
theorem dX11_ask_53 : decode cX11_ask 53 = .ok (.getfield 69, 3) := by decide +kernel
theorem dX11_ask_56 : decode cX11_ask 56 = .ok (.if_icmp .le 7, 3) := by decide +kernel
theorem dX11_ask_59 : decode cX11_ask 59 = .ok (.iconst 1, 1) := by decide +kernel
theorem dX11_ask_60 : decode cX11_ask 60 = .ok (.goto 4, 3) := by decide +kernel
theorem dX11_ask_63 : decode cX11_ask 63 = .ok (.iconst 0, 1) := by decide +kernel
theorem dX11_ask_64 : decode cX11_ask 64 = .ok (.istore 7, 2) := by decide +kernel
theorem dX11_ask_66 : decode cX11_ask 66 = .ok (.iload 7, 2) := by decide +kernel
theorem dX11_ask_68 : decode cX11_ask 68 = .ok (.ifCond .ne 5, 3) := by decide +kernel
theorem dX11_ask_71 : decode cX11_ask 71 = .ok (.iconst (-1), 1) := by decide +kernel
theorem dX11_ask_72 : decode cX11_ask 72 = .ok (.ireturn, 1) := by decide +kernel
theorem dX11_ask_73 : decode cX11_ask 73 = .ok (.aload_n 0, 1) := by decide +kernel
theorem dX11_ask_74 : decode cX11_ask 74 = .ok (.getfield 51, 3) := by decide +kernel
theorem dX11_ask_77 : decode cX11_ask 77 = .ok (.invokevirtual 237, 3) := by decide +kernel
theorem dX11_ask_80 : decode cX11_ask 80 = .ok (.istore 8, 2) := by decide +kernel
theorem dX11_ask_82 : decode cX11_ask 82 = .ok (.iload 8, 2) := by decide +kernel
theorem dX11_ask_84 : decode cX11_ask 84 = .ok (.ifCond .ge 7, 3) := by decide +kernel
theorem dX11_ask_87 : decode cX11_ask 87 = .ok (.iconst (-1), 1) := by decide +kernel
theorem dX11_ask_88 : decode cX11_ask 88 = .ok (.goto 13, 3) := by decide +kernel
theorem dX11_ask_91 : decode cX11_ask 91 = .ok (.aload_n 0, 1) := by decide +kernel
theorem dX11_ask_92 : decode cX11_ask 92 = .ok (.getfield 35, 3) := by decide +kernel
theorem dX11_ask_95 : decode cX11_ask 95 = .ok (.iload_n 1, 1) := by decide +kernel
theorem dX11_ask_96 : decode cX11_ask 96 = .ok (.iload_n 2, 1) := by decide +kernel
theorem dX11_ask_97 : decode cX11_ask 97 = .ok (.iload_n 3, 1) := by decide +kernel
theorem dX11_ask_98 : decode cX11_ask 98 = .ok (.invokevirtual 240, 3) := by decide +kernel
theorem dX11_ask_101 : decode cX11_ask 101 = .ok (.istore 9, 2) := by decide +kernel
theorem dX11_ask_103 : decode cX11_ask 103 = .ok (.iload 9, 2) := by decide +kernel
theorem dX11_ask_105 : decode cX11_ask 105 = .ok (.ifCond .ge 5, 3) := by decide +kernel
theorem dX11_ask_108 : decode cX11_ask 108 = .ok (.iconst (-1), 1) := by decide +kernel
theorem dX11_ask_109 : decode cX11_ask 109 = .ok (.ireturn, 1) := by decide +kernel
theorem dX11_ask_110 : decode cX11_ask 110 = .ok (.aload_n 0, 1) := by decide +kernel
theorem dX11_ask_111 : decode cX11_ask 111 = .ok (.getfield 51, 3) := by decide +kernel
theorem dX11_ask_114 : decode cX11_ask 114 = .ok (.iload 8, 2) := by decide +kernel
theorem dX11_ask_116 : decode cX11_ask 116 = .ok (.iload 9, 2) := by decide +kernel
theorem dX11_ask_118 : decode cX11_ask 118 = .ok (.iload_n 3, 1) := by decide +kernel
theorem dX11_ask_119 : decode cX11_ask 119 = .ok (.invokevirtual 243, 3) := by decide +kernel
theorem dX11_ask_122 : decode cX11_ask 122 = .ok (.aload_n 0, 1) := by decide +kernel
theorem dX11_ask_123 : decode cX11_ask 123 = .ok (.getfield 51, 3) := by decide +kernel
theorem dX11_ask_126 : decode cX11_ask 126 = .ok (.iload 8, 2) := by decide +kernel
theorem dX11_ask_128 : decode cX11_ask 128 = .ok (.iload 4, 2) := by decide +kernel
theorem dX11_ask_130 : decode cX11_ask 130 = .ok (.iload 5, 2) := by decide +kernel
theorem dX11_ask_132 : decode cX11_ask 132 = .ok (.iload 6, 2) := by decide +kernel
theorem dX11_ask_134 : decode cX11_ask 134 = .ok (.invokevirtual 246, 3) := by decide +kernel
theorem dX11_ask_137 : decode cX11_ask 137 = .ok (.iload 8, 2) := by decide +kernel
theorem dX11_ask_139 : decode cX11_ask 139 = .ok (.ireturn, 1) := by decide +kernel
theorem dX11_hold_0 : decode cX11_hold 0 = .ok (.aload_n 0, 1) := by decide +kernel
theorem dX11_hold_1 : decode cX11_hold 1 = .ok (.getfield 51, 3) := by decide +kernel
theorem dX11_hold_4 : decode cX11_hold 4 = .ok (.iload_n 1, 1) := by decide +kernel
theorem dX11_hold_5 : decode cX11_hold 5 = .ok (.invokevirtual 249, 3) := by decide +kernel
theorem dX11_hold_8 : decode cX11_hold 8 = .ok (.ifCond .eq 15, 3) := by decide +kernel
theorem dX11_hold_11 : decode cX11_hold 11 = .ok (.aload_n 0, 1) := by decide +kernel
theorem dX11_hold_12 : decode cX11_hold 12 = .ok (.getfield 51, 3) := by decide +kernel
theorem dX11_hold_15 : decode cX11_hold 15 = .ok (.iload_n 1, 1) := by decide +kernel
theorem dX11_hold_16 : decode cX11_hold 16 = .ok (.iload_n 2, 1) := by decide +kernel
theorem dX11_hold_17 : decode cX11_hold 17 = .ok (.invokevirtual 252, 3) := by decide +kernel
theorem dX11_hold_20 : decode cX11_hold 20 = .ok (.goto 4, 3) := by decide +kernel
theorem dX11_hold_23 : decode cX11_hold 23 = .ok (.iconst (-1), 1) := by decide +kernel
theorem dX11_hold_24 : decode cX11_hold 24 = .ok (.ireturn, 1) := by decide +kernel
theorem dX11_pay_0 : decode cX11_pay 0 = .ok (.aload_n 0, 1) := by decide +kernel
theorem dX11_pay_1 : decode cX11_pay 1 = .ok (.getfield 51, 3) := by decide +kernel
theorem dX11_pay_4 : decode cX11_pay 4 = .ok (.iload_n 1, 1) := by decide +kernel
theorem dX11_pay_5 : decode cX11_pay 5 = .ok (.invokevirtual 249, 3) := by decide +kernel
theorem dX11_pay_8 : decode cX11_pay 8 = .ok (.ifCond .eq 28, 3) := by decide +kernel
theorem dX11_pay_11 : decode cX11_pay 11 = .ok (.aload_n 0, 1) := by decide +kernel
theorem dX11_pay_12 : decode cX11_pay 12 = .ok (.getfield 51, 3) := by decide +kernel
theorem dX11_pay_15 : decode cX11_pay 15 = .ok (.getfield 255, 3) := by decide +kernel
theorem dX11_pay_18 : decode cX11_pay 18 = .ok (.sipush 300, 3) := by decide +kernel
theorem dX11_pay_21 : decode cX11_pay 21 = .ok (.if_icmp .ge 15, 3) := by decide +kernel
theorem dX11_pay_24 : decode cX11_pay 24 = .ok (.aload_n 0, 1) := by decide +kernel
theorem dX11_pay_25 : decode cX11_pay 25 = .ok (.getfield 51, 3) := by decide +kernel
theorem dX11_pay_28 : decode cX11_pay 28 = .ok (.iload_n 1, 1) := by decide +kernel
theorem dX11_pay_29 : decode cX11_pay 29 = .ok (.invokevirtual 258, 3) := by decide +kernel
theorem dX11_pay_32 : decode cX11_pay 32 = .ok (.iload_n 2, 1) := by decide +kernel
theorem dX11_pay_33 : decode cX11_pay 33 = .ok (.if_icmp .eq 5, 3) := by decide +kernel
theorem dX11_pay_36 : decode cX11_pay 36 = .ok (.iconst (-1), 1) := by decide +kernel
theorem dX11_pay_37 : decode cX11_pay 37 = .ok (.ireturn, 1) := by decide +kernel
theorem dX11_pay_38 : decode cX11_pay 38 = .ok (.aload_n 0, 1) := by decide +kernel
theorem dX11_pay_39 : decode cX11_pay 39 = .ok (.getfield 51, 3) := by decide +kernel
theorem dX11_pay_42 : decode cX11_pay 42 = .ok (.iload_n 1, 1) := by decide +kernel
theorem dX11_pay_43 : decode cX11_pay 43 = .ok (.iload_n 2, 1) := by decide +kernel
theorem dX11_pay_44 : decode cX11_pay 44 = .ok (.invokevirtual 261, 3) := by decide +kernel
theorem dX11_pay_47 : decode cX11_pay 47 = .ok (.ireturn, 1) := by decide +kernel
theorem dX11_give_0 : decode cX11_give 0 = .ok (.aload_n 0, 1) := by decide +kernel
theorem dX11_give_1 : decode cX11_give 1 = .ok (.getfield 51, 3) := by decide +kernel
theorem dX11_give_4 : decode cX11_give 4 = .ok (.iload_n 1, 1) := by decide +kernel
theorem dX11_give_5 : decode cX11_give 5 = .ok (.invokevirtual 249, 3) := by decide +kernel
theorem dX11_give_8 : decode cX11_give 8 = .ok (.ifCond .ne 5, 3) := by decide +kernel
theorem dX11_give_11 : decode cX11_give 11 = .ok (.iconst 0, 1) := by decide +kernel
theorem dX11_give_12 : decode cX11_give 12 = .ok (.ireturn, 1) := by decide +kernel
theorem dX11_give_13 : decode cX11_give 13 = .ok (.aload_n 0, 1) := by decide +kernel
theorem dX11_give_14 : decode cX11_give 14 = .ok (.getfield 51, 3) := by decide +kernel
theorem dX11_give_17 : decode cX11_give 17 = .ok (.iload_n 1, 1) := by decide +kernel
theorem dX11_give_18 : decode cX11_give 18 = .ok (.invokevirtual 264, 3) := by decide +kernel
theorem dX11_give_21 : decode cX11_give 21 = .ok (.iconst 1, 1) := by decide +kernel
theorem dX11_give_22 : decode cX11_give 22 = .ok (.ireturn, 1) := by decide +kernel
theorem dX11_back_0 : decode cX11_back 0 = .ok (.iload_n 1, 1) := by decide +kernel
theorem dX11_back_1 : decode cX11_back 1 = .ok (.iconst 0, 1) := by decide +kernel
theorem dX11_back_2 : decode cX11_back 2 = .ok (.iconst 3, 1) := by decide +kernel
theorem dX11_back_3 : decode cX11_back 3 = .ok (.invokestatic 84, 3) := by decide +kernel
theorem dX11_back_6 : decode cX11_back 6 = .ok (.ifCond .eq 26, 3) := by decide +kernel
theorem dX11_back_9 : decode cX11_back 9 = .ok (.aload_n 0, 1) := by decide +kernel
theorem dX11_back_10 : decode cX11_back 10 = .ok (.getfield 35, 3) := by decide +kernel
theorem dX11_back_13 : decode cX11_back 13 = .ok (.getfield 234, 3) := by decide +kernel
theorem dX11_back_16 : decode cX11_back 16 = .ok (.iload_n 1, 1) := by decide +kernel
theorem dX11_back_17 : decode cX11_back 17 = .ok (.baload, 1) := by decide +kernel
theorem dX11_back_18 : decode cX11_back 18 = .ok (.ifCond .ne 14, 3) := by decide +kernel
theorem dX11_back_21 : decode cX11_back 21 = .ok (.aload_n 0, 1) := by decide +kernel
theorem dX11_back_22 : decode cX11_back 22 = .ok (.getfield 51, 3) := by decide +kernel
theorem dX11_back_25 : decode cX11_back 25 = .ok (.iload_n 2, 1) := by decide +kernel
theorem dX11_back_26 : decode cX11_back 26 = .ok (.invokevirtual 267, 3) := by decide +kernel
theorem dX11_back_29 : decode cX11_back 29 = .ok (.ifCond .ne 5, 3) := by decide +kernel
theorem dX11_back_32 : decode cX11_back 32 = .ok (.iconst (-1), 1) := by decide +kernel
theorem dX11_back_33 : decode cX11_back 33 = .ok (.ireturn, 1) := by decide +kernel
theorem dX11_back_34 : decode cX11_back 34 = .ok (.aload_n 0, 1) := by decide +kernel
theorem dX11_back_35 : decode cX11_back 35 = .ok (.getfield 51, 3) := by decide +kernel
theorem dX11_back_38 : decode cX11_back 38 = .ok (.iload_n 2, 1) := by decide +kernel
theorem dX11_back_39 : decode cX11_back 39 = .ok (.invokevirtual 270, 3) := by decide +kernel
theorem dX11_back_42 : decode cX11_back 42 = .ok (.ireturn, 1) := by decide +kernel
theorem dX11_enter_0 : decode cX11_enter 0 = .ok (.aload_n 0, 1) := by decide +kernel
theorem dX11_enter_1 : decode cX11_enter 1 = .ok (.getfield 51, 3) := by decide +kernel
theorem dX11_enter_4 : decode cX11_enter 4 = .ok (.iload_n 1, 1) := by decide +kernel
theorem dX11_enter_5 : decode cX11_enter 5 = .ok (.invokevirtual 267, 3) := by decide +kernel
theorem dX11_enter_8 : decode cX11_enter 8 = .ok (.ifCond .eq 14, 3) := by decide +kernel
theorem dX11_enter_11 : decode cX11_enter 11 = .ok (.aload_n 0, 1) := by decide +kernel
theorem dX11_enter_12 : decode cX11_enter 12 = .ok (.getfield 51, 3) := by decide +kernel
theorem dX11_enter_15 : decode cX11_enter 15 = .ok (.iload_n 1, 1) := by decide +kernel
theorem dX11_enter_16 : decode cX11_enter 16 = .ok (.invokevirtual 273, 3) := by decide +kernel
theorem dX11_enter_19 : decode cX11_enter 19 = .ok (.goto 4, 3) := by decide +kernel
theorem dX11_enter_22 : decode cX11_enter 22 = .ok (.iconst (-1), 1) := by decide +kernel
theorem dX11_enter_23 : decode cX11_enter 23 = .ok (.ireturn, 1) := by decide +kernel
theorem dX11_seat_0 : decode cX11_seat 0 = .ok (.iload_n 1, 1) := by decide +kernel
theorem dX11_seat_1 : decode cX11_seat 1 = .ok (.iconst 0, 1) := by decide +kernel
theorem dX11_seat_2 : decode cX11_seat 2 = .ok (.bipush 39, 2) := by decide +kernel
theorem dX11_seat_4 : decode cX11_seat 4 = .ok (.invokestatic 84, 3) := by decide +kernel
theorem dX11_seat_7 : decode cX11_seat 7 = .ok (.ifCond .eq 26, 3) := by decide +kernel
theorem dX11_seat_10 : decode cX11_seat 10 = .ok (.iload_n 2, 1) := by decide +kernel
theorem dX11_seat_11 : decode cX11_seat 11 = .ok (.iconst 0, 1) := by decide +kernel
theorem dX11_seat_12 : decode cX11_seat 12 = .ok (.bipush 29, 2) := by decide +kernel
theorem dX11_seat_14 : decode cX11_seat 14 = .ok (.invokestatic 84, 3) := by decide +kernel
theorem dX11_seat_17 : decode cX11_seat 17 = .ok (.ifCond .eq 16, 3) := by decide +kernel
theorem dX11_seat_20 : decode cX11_seat 20 = .ok (.iload_n 2, 1) := by decide +kernel
theorem dX11_seat_21 : decode cX11_seat 21 = .ok (.aload_n 0, 1) := by decide +kernel
theorem dX11_seat_22 : decode cX11_seat 22 = .ok (.getfield 35, 3) := by decide +kernel
theorem dX11_seat_25 : decode cX11_seat 25 = .ok (.getfield 276, 3) := by decide +kernel
theorem dX11_seat_28 : decode cX11_seat 28 = .ok (.iload_n 1, 1) := by decide +kernel
theorem dX11_seat_29 : decode cX11_seat 29 = .ok (.iaload, 1) := by decide +kernel
theorem dX11_seat_30 : decode cX11_seat 30 = .ok (.if_icmp .lt 5, 3) := by decide +kernel
theorem dX11_seat_33 : decode cX11_seat 33 = .ok (.iconst (-1), 1) := by decide +kernel
theorem dX11_seat_34 : decode cX11_seat 34 = .ok (.ireturn, 1) := by decide +kernel
theorem dX11_seat_35 : decode cX11_seat 35 = .ok (.aload_n 0, 1) := by decide +kernel
theorem dX11_seat_36 : decode cX11_seat 36 = .ok (.getfield 35, 3) := by decide +kernel
theorem dX11_seat_39 : decode cX11_seat 39 = .ok (.getfield 279, 3) := by decide +kernel
theorem dX11_seat_42 : decode cX11_seat 42 = .ok (.iload_n 1, 1) := by decide +kernel
theorem dX11_seat_43 : decode cX11_seat 43 = .ok (.bipush 30, 2) := by decide +kernel
theorem dX11_seat_45 : decode cX11_seat 45 = .ok (.imul, 1) := by decide +kernel
theorem dX11_seat_46 : decode cX11_seat 46 = .ok (.iload_n 2, 1) := by decide +kernel
theorem dX11_seat_47 : decode cX11_seat 47 = .ok (.iadd, 1) := by decide +kernel
theorem dX11_seat_48 : decode cX11_seat 48 = .ok (.iaload, 1) := by decide +kernel
theorem dX11_seat_49 : decode cX11_seat 49 = .ok (.ireturn, 1) := by decide +kernel
theorem dX11_told_0 : decode cX11_told 0 = .ok (.iload_n 1, 1) := by decide +kernel
theorem dX11_told_1 : decode cX11_told 1 = .ok (.tableswitch 124 0 7 #[47, 55, 71, 79, 87, 95, 100, 108], 47) := by decide +kernel
theorem dX11_told_48 : decode cX11_told 48 = .ok (.aload_n 0, 1) := by decide +kernel
theorem dX11_told_49 : decode cX11_told 49 = .ok (.getfield 51, 3) := by decide +kernel
theorem dX11_told_52 : decode cX11_told 52 = .ok (.getfield 282, 3) := by decide +kernel
theorem dX11_told_55 : decode cX11_told 55 = .ok (.ireturn, 1) := by decide +kernel
theorem dX11_told_56 : decode cX11_told 56 = .ok (.aload_n 0, 1) := by decide +kernel
theorem dX11_told_57 : decode cX11_told 57 = .ok (.getfield 51, 3) := by decide +kernel
theorem dX11_told_60 : decode cX11_told 60 = .ok (.getfield 255, 3) := by decide +kernel
theorem dX11_told_63 : decode cX11_told 63 = .ok (.aload_n 0, 1) := by decide +kernel
theorem dX11_told_64 : decode cX11_told 64 = .ok (.getfield 51, 3) := by decide +kernel
theorem dX11_told_67 : decode cX11_told 67 = .ok (.getfield 285, 3) := by decide +kernel
theorem dX11_told_70 : decode cX11_told 70 = .ok (.isub, 1) := by decide +kernel
theorem dX11_told_71 : decode cX11_told 71 = .ok (.ireturn, 1) := by decide +kernel
theorem dX11_told_72 : decode cX11_told 72 = .ok (.aload_n 0, 1) := by decide +kernel
theorem dX11_told_73 : decode cX11_told 73 = .ok (.getfield 51, 3) := by decide +kernel
theorem dX11_told_76 : decode cX11_told 76 = .ok (.getfield 288, 3) := by decide +kernel
theorem dX11_told_79 : decode cX11_told 79 = .ok (.ireturn, 1) := by decide +kernel
theorem dX11_told_80 : decode cX11_told 80 = .ok (.aload_n 0, 1) := by decide +kernel
theorem dX11_told_81 : decode cX11_told 81 = .ok (.getfield 51, 3) := by decide +kernel
theorem dX11_told_84 : decode cX11_told 84 = .ok (.getfield 291, 3) := by decide +kernel
theorem dX11_told_87 : decode cX11_told 87 = .ok (.ireturn, 1) := by decide +kernel
theorem dX11_told_88 : decode cX11_told 88 = .ok (.aload_n 0, 1) := by decide +kernel
theorem dX11_told_89 : decode cX11_told 89 = .ok (.getfield 51, 3) := by decide +kernel
theorem dX11_told_92 : decode cX11_told 92 = .ok (.getfield 294, 3) := by decide +kernel
theorem dX11_told_95 : decode cX11_told 95 = .ok (.ireturn, 1) := by decide +kernel
theorem dX11_told_96 : decode cX11_told 96 = .ok (.aload_n 0, 1) := by decide +kernel
theorem dX11_told_97 : decode cX11_told 97 = .ok (.getfield 69, 3) := by decide +kernel
theorem dX11_told_100 : decode cX11_told 100 = .ok (.ireturn, 1) := by decide +kernel
theorem dX11_told_101 : decode cX11_told 101 = .ok (.aload_n 0, 1) := by decide +kernel
theorem dX11_told_102 : decode cX11_told 102 = .ok (.getfield 19, 3) := by decide +kernel
theorem dX11_told_105 : decode cX11_told 105 = .ok (.invokevirtual 297, 3) := by decide +kernel
theorem dX11_told_108 : decode cX11_told 108 = .ok (.ireturn, 1) := by decide +kernel
theorem dX11_told_109 : decode cX11_told 109 = .ok (.aload_n 0, 1) := by decide +kernel
theorem dX11_told_110 : decode cX11_told 110 = .ok (.getfield 19, 3) := by decide +kernel
theorem dX11_told_113 : decode cX11_told 113 = .ok (.getfield 300, 3) := by decide +kernel
theorem dX11_told_116 : decode cX11_told 116 = .ok (.ifCond .eq 7, 3) := by decide +kernel
theorem dX11_told_119 : decode cX11_told 119 = .ok (.iconst 1, 1) := by decide +kernel
theorem dX11_told_120 : decode cX11_told 120 = .ok (.goto 4, 3) := by decide +kernel
theorem dX11_told_123 : decode cX11_told 123 = .ok (.iconst 0, 1) := by decide +kernel
theorem dX11_told_124 : decode cX11_told 124 = .ok (.ireturn, 1) := by decide +kernel
theorem dX11_told_125 : decode cX11_told 125 = .ok (.iconst (-1), 1) := by decide +kernel
theorem dX11_told_126 : decode cX11_told 126 = .ok (.ireturn, 1) := by decide +kernel
theorem dX11_share_0 : decode cX11_share 0 = .ok (.iload_n 1, 1) := by decide +kernel
theorem dX11_share_1 : decode cX11_share 1 = .ok (.iconst 0, 1) := by decide +kernel
theorem dX11_share_2 : decode cX11_share 2 = .ok (.iconst 2, 1) := by decide +kernel
theorem dX11_share_3 : decode cX11_share 3 = .ok (.invokestatic 84, 3) := by decide +kernel
theorem dX11_share_6 : decode cX11_share 6 = .ok (.ifCond .eq 12, 3) := by decide +kernel
theorem dX11_share_9 : decode cX11_share 9 = .ok (.iload_n 2, 1) := by decide +kernel
theorem dX11_share_10 : decode cX11_share 10 = .ok (.iconst 0, 1) := by decide +kernel
theorem dX11_share_11 : decode cX11_share 11 = .ok (.iconst 3, 1) := by decide +kernel
theorem dX11_share_12 : decode cX11_share 12 = .ok (.invokestatic 84, 3) := by decide +kernel
theorem dX11_share_15 : decode cX11_share 15 = .ok (.ifCond .ne 7, 3) := by decide +kernel
theorem dX11_share_18 : decode cX11_share 18 = .ok (.ldc2_w 303, 3) := by decide +kernel
theorem dX11_share_21 : decode cX11_share 21 = .ok (.lreturn, 1) := by decide +kernel
theorem dX11_share_22 : decode cX11_share 22 = .ok (.aload_n 0, 1) := by decide +kernel
theorem dX11_share_23 : decode cX11_share 23 = .ok (.getfield 58, 3) := by decide +kernel
theorem dX11_share_26 : decode cX11_share 26 = .ok (.iload_n 1, 1) := by decide +kernel
theorem dX11_share_27 : decode cX11_share 27 = .ok (.iload_n 2, 1) := by decide +kernel
theorem dX11_share_28 : decode cX11_share 28 = .ok (.aload_n 0, 1) := by decide +kernel
theorem dX11_share_29 : decode cX11_share 29 = .ok (.getfield 51, 3) := by decide +kernel
theorem dX11_share_32 : decode cX11_share 32 = .ok (.getfield 282, 3) := by decide +kernel
theorem dX11_share_35 : decode cX11_share 35 = .ok (.invokevirtual 305, 3) := by decide +kernel
theorem dX11_share_38 : decode cX11_share 38 = .ok (.lreturn, 1) := by decide +kernel
theorem dX11_way_0 : decode cX11_way 0 = .ok (.iload_n 1, 1) := by decide +kernel
theorem dX11_way_1 : decode cX11_way 1 = .ok (.iconst 0, 1) := by decide +kernel
theorem dX11_way_2 : decode cX11_way 2 = .ok (.bipush 11, 2) := by decide +kernel
theorem dX11_way_4 : decode cX11_way 4 = .ok (.invokestatic 84, 3) := by decide +kernel
theorem dX11_way_7 : decode cX11_way 7 = .ok (.ifCond .eq 43, 3) := by decide +kernel
theorem dX11_way_10 : decode cX11_way 10 = .ok (.iload_n 2, 1) := by decide +kernel
theorem dX11_way_11 : decode cX11_way 11 = .ok (.iconst 0, 1) := by decide +kernel
theorem dX11_way_12 : decode cX11_way 12 = .ok (.bipush 11, 2) := by decide +kernel
theorem dX11_way_14 : decode cX11_way 14 = .ok (.invokestatic 84, 3) := by decide +kernel
theorem dX11_way_17 : decode cX11_way 17 = .ok (.ifCond .eq 33, 3) := by decide +kernel
theorem dX11_way_20 : decode cX11_way 20 = .ok (.iload_n 1, 1) := by decide +kernel
theorem dX11_way_21 : decode cX11_way 21 = .ok (.iload_n 2, 1) := by decide +kernel
theorem dX11_way_22 : decode cX11_way 22 = .ok (.if_icmp .eq 28, 3) := by decide +kernel
theorem dX11_way_25 : decode cX11_way 25 = .ok (.iload_n 3, 1) := by decide +kernel
theorem dX11_way_26 : decode cX11_way 26 = .ok (.iconst 1, 1) := by decide +kernel
theorem dX11_way_27 : decode cX11_way 27 = .ok (.bipush 50, 2) := by decide +kernel
theorem dX11_way_29 : decode cX11_way 29 = .ok (.invokestatic 84, 3) := by decide +kernel
theorem dX11_way_32 : decode cX11_way 32 = .ok (.ifCond .eq 18, 3) := by decide +kernel
theorem dX11_way_35 : decode cX11_way 35 = .ok (.iload 4, 2) := by decide +kernel
theorem dX11_way_37 : decode cX11_way 37 = .ok (.iconst 1, 1) := by decide +kernel
theorem dX11_way_38 : decode cX11_way 38 = .ok (.bipush 20, 2) := by decide +kernel
theorem dX11_way_40 : decode cX11_way 40 = .ok (.invokestatic 84, 3) := by decide +kernel
theorem dX11_way_43 : decode cX11_way 43 = .ok (.ifCond .eq 7, 3) := by decide +kernel
theorem dX11_way_46 : decode cX11_way 46 = .ok (.iconst 1, 1) := by decide +kernel
theorem dX11_way_47 : decode cX11_way 47 = .ok (.goto 4, 3) := by decide +kernel
theorem dX11_way_50 : decode cX11_way 50 = .ok (.iconst 0, 1) := by decide +kernel
theorem dX11_way_51 : decode cX11_way 51 = .ok (.istore 5, 2) := by decide +kernel
theorem dX11_way_53 : decode cX11_way 53 = .ok (.iload 5, 2) := by decide +kernel
theorem dX11_way_55 : decode cX11_way 55 = .ok (.ifCond .eq 30, 3) := by decide +kernel
theorem dX11_way_58 : decode cX11_way 58 = .ok (.aload_n 0, 1) := by decide +kernel
theorem dX11_way_59 : decode cX11_way 59 = .ok (.getfield 65, 3) := by decide +kernel
theorem dX11_way_62 : decode cX11_way 62 = .ok (.getfield 308, 3) := by decide +kernel
theorem dX11_way_65 : decode cX11_way 65 = .ok (.bipush 20, 2) := by decide +kernel
theorem dX11_way_67 : decode cX11_way 67 = .ok (.if_icmp .ge 18, 3) := by decide +kernel
theorem dX11_way_70 : decode cX11_way 70 = .ok (.aload_n 0, 1) := by decide +kernel
theorem dX11_way_71 : decode cX11_way 71 = .ok (.getfield 65, 3) := by decide +kernel
theorem dX11_way_74 : decode cX11_way 74 = .ok (.iload_n 1, 1) := by decide +kernel
theorem dX11_way_75 : decode cX11_way 75 = .ok (.iload_n 2, 1) := by decide +kernel
theorem dX11_way_76 : decode cX11_way 76 = .ok (.iload_n 3, 1) := by decide +kernel
theorem dX11_way_77 : decode cX11_way 77 = .ok (.iload 4, 2) := by decide +kernel
theorem dX11_way_79 : decode cX11_way 79 = .ok (.invokevirtual 309, 3) := by decide +kernel
theorem dX11_way_82 : decode cX11_way 82 = .ok (.goto 4, 3) := by decide +kernel
theorem dX11_way_85 : decode cX11_way 85 = .ok (.iconst (-1), 1) := by decide +kernel
theorem dX11_way_86 : decode cX11_way 86 = .ok (.ireturn, 1) := by decide +kernel
theorem dX11_crowd_0 : decode cX11_crowd 0 = .ok (.iload_n 1, 1) := by decide +kernel
theorem dX11_crowd_1 : decode cX11_crowd 1 = .ok (.iconst 0, 1) := by decide +kernel
theorem dX11_crowd_2 : decode cX11_crowd 2 = .ok (.bipush 10, 2) := by decide +kernel
theorem dX11_crowd_4 : decode cX11_crowd 4 = .ok (.invokestatic 84, 3) := by decide +kernel
theorem dX11_crowd_7 : decode cX11_crowd 7 = .ok (.ifCond .eq 13, 3) := by decide +kernel
theorem dX11_crowd_10 : decode cX11_crowd 10 = .ok (.iload_n 2, 1) := by decide +kernel
theorem dX11_crowd_11 : decode cX11_crowd 11 = .ok (.iconst 0, 1) := by decide +kernel
theorem dX11_crowd_12 : decode cX11_crowd 12 = .ok (.bipush 60, 2) := by decide +kernel
theorem dX11_crowd_14 : decode cX11_crowd 14 = .ok (.invokestatic 84, 3) := by decide +kernel
theorem dX11_crowd_17 : decode cX11_crowd 17 = .ok (.ifCond .ne 5, 3) := by decide +kernel
theorem dX11_crowd_20 : decode cX11_crowd 20 = .ok (.iconst 0, 1) := by decide +kernel
theorem dX11_crowd_21 : decode cX11_crowd 21 = .ok (.ireturn, 1) := by decide +kernel
theorem dX11_crowd_22 : decode cX11_crowd 22 = .ok (.aload_n 0, 1) := by decide +kernel
theorem dX11_crowd_23 : decode cX11_crowd 23 = .ok (.getfield 65, 3) := by decide +kernel
theorem dX11_crowd_26 : decode cX11_crowd 26 = .ok (.getfield 313, 3) := by decide +kernel
theorem dX11_crowd_29 : decode cX11_crowd 29 = .ok (.iload_n 1, 1) := by decide +kernel
theorem dX11_crowd_30 : decode cX11_crowd 30 = .ok (.iload_n 2, 1) := by decide +kernel
theorem dX11_crowd_31 : decode cX11_crowd 31 = .ok (.iastore, 1) := by decide +kernel
theorem dX11_crowd_32 : decode cX11_crowd 32 = .ok (.iconst 1, 1) := by decide +kernel
theorem dX11_crowd_33 : decode cX11_crowd 33 = .ok (.ireturn, 1) := by decide +kernel
theorem dX11_clearWays_0 : decode cX11_clearWays 0 = .ok (.aload_n 0, 1) := by decide +kernel
theorem dX11_clearWays_1 : decode cX11_clearWays 1 = .ok (.getfield 65, 3) := by decide +kernel
theorem dX11_clearWays_4 : decode cX11_clearWays 4 = .ok (.invokevirtual 316, 3) := by decide +kernel
theorem dX11_clearWays_7 : decode cX11_clearWays 7 = .ok (.return_, 1) := by decide +kernel
theorem dX11_empty_0 : decode cX11_empty 0 = .ok (.aload_n 0, 1) := by decide +kernel
theorem dX11_empty_1 : decode cX11_empty 1 = .ok (.getfield 65, 3) := by decide +kernel
theorem dX11_empty_4 : decode cX11_empty 4 = .ok (.invokevirtual 319, 3) := by decide +kernel
theorem dX11_empty_7 : decode cX11_empty 7 = .ok (.ireturn, 1) := by decide +kernel
theorem dX11_within_0 : decode cX11_within 0 = .ok (.iload_n 0, 1) := by decide +kernel
theorem dX11_within_1 : decode cX11_within 1 = .ok (.iload_n 1, 1) := by decide +kernel
theorem dX11_within_2 : decode cX11_within 2 = .ok (.if_icmp .lt 12, 3) := by decide +kernel
theorem dX11_within_5 : decode cX11_within 5 = .ok (.iload_n 0, 1) := by decide +kernel
theorem dX11_within_6 : decode cX11_within 6 = .ok (.iload_n 2, 1) := by decide +kernel
theorem dX11_within_7 : decode cX11_within 7 = .ok (.if_icmp .gt 7, 3) := by decide +kernel
theorem dX11_within_10 : decode cX11_within 10 = .ok (.iconst 1, 1) := by decide +kernel
theorem dX11_within_11 : decode cX11_within 11 = .ok (.goto 4, 3) := by decide +kernel
theorem dX11_within_14 : decode cX11_within 14 = .ok (.iconst 0, 1) := by decide +kernel
theorem dX11_within_15 : decode cX11_within 15 = .ok (.ireturn, 1) := by decide +kernel
theorem dX11_cueOf_0 : decode cX11_cueOf 0 = .ok (.iload_n 1, 1) := by decide +kernel
theorem dX11_cueOf_1 : decode cX11_cueOf 1 = .ok (.iconst 0, 1) := by decide +kernel
theorem dX11_cueOf_2 : decode cX11_cueOf 2 = .ok (.iconst 3, 1) := by decide +kernel
theorem dX11_cueOf_3 : decode cX11_cueOf 3 = .ok (.invokestatic 84, 3) := by decide +kernel
theorem dX11_cueOf_6 : decode cX11_cueOf 6 = .ok (.ifCond .eq 24, 3) := by decide +kernel
theorem dX11_cueOf_9 : decode cX11_cueOf 9 = .ok (.iload_n 2, 1) := by decide +kernel
theorem dX11_cueOf_10 : decode cX11_cueOf 10 = .ok (.iconst 1, 1) := by decide +kernel
theorem dX11_cueOf_11 : decode cX11_cueOf 11 = .ok (.sipush 999, 3) := by decide +kernel
theorem dX11_cueOf_14 : decode cX11_cueOf 14 = .ok (.invokestatic 84, 3) := by decide +kernel
theorem dX11_cueOf_17 : decode cX11_cueOf 17 = .ok (.ifCond .eq 13, 3) := by decide +kernel
theorem dX11_cueOf_20 : decode cX11_cueOf 20 = .ok (.iload_n 3, 1) := by decide +kernel
theorem dX11_cueOf_21 : decode cX11_cueOf 21 = .ok (.iconst 0, 1) := by decide +kernel
theorem dX11_cueOf_22 : decode cX11_cueOf 22 = .ok (.bipush 99, 2) := by decide +kernel
theorem dX11_cueOf_24 : decode cX11_cueOf 24 = .ok (.invokestatic 84, 3) := by decide +kernel
theorem dX11_cueOf_27 : decode cX11_cueOf 27 = .ok (.ifCond .ne 5, 3) := by decide +kernel
theorem dX11_cueOf_30 : decode cX11_cueOf 30 = .ok (.iconst (-1), 1) := by decide +kernel
theorem dX11_cueOf_31 : decode cX11_cueOf 31 = .ok (.ireturn, 1) := by decide +kernel
theorem dX11_cueOf_32 : decode cX11_cueOf 32 = .ok (.aload_n 0, 1) := by decide +kernel
theorem dX11_cueOf_33 : decode cX11_cueOf 33 = .ok (.getfield 28, 3) := by decide +kernel
theorem dX11_cueOf_36 : decode cX11_cueOf 36 = .ok (.getfield 125, 3) := by decide +kernel
theorem dX11_cueOf_39 : decode cX11_cueOf 39 = .ok (.iload_n 1, 1) := by decide +kernel
theorem dX11_cueOf_40 : decode cX11_cueOf 40 = .ok (.aaload, 1) := by decide +kernel
theorem dX11_cueOf_41 : decode cX11_cueOf 41 = .ok (.getfield 129, 3) := by decide +kernel
theorem dX11_cueOf_44 : decode cX11_cueOf 44 = .ok (.bipush 100, 2) := by decide +kernel
theorem dX11_cueOf_46 : decode cX11_cueOf 46 = .ok (.iload_n 2, 1) := by decide +kernel
theorem dX11_cueOf_47 : decode cX11_cueOf 47 = .ok (.imul, 1) := by decide +kernel
theorem dX11_cueOf_48 : decode cX11_cueOf 48 = .ok (.iload_n 3, 1) := by decide +kernel
theorem dX11_cueOf_49 : decode cX11_cueOf 49 = .ok (.iadd, 1) := by decide +kernel
theorem dX11_cueOf_50 : decode cX11_cueOf 50 = .ok (.invokevirtual 322, 3) := by decide +kernel
theorem dX11_cueOf_53 : decode cX11_cueOf 53 = .ok (.ireturn, 1) := by decide +kernel
theorem dX11_closeText_0 : decode cX11_closeText 0 = .ok (.aload_n 0, 1) := by decide +kernel
theorem dX11_closeText_1 : decode cX11_closeText 1 = .ok (.getfield 10, 3) := by decide +kernel
theorem dX11_closeText_4 : decode cX11_closeText 4 = .ok (.iconst 0, 1) := by decide +kernel
theorem dX11_closeText_5 : decode cX11_closeText 5 = .ok (.putfield 81, 3) := by decide +kernel
theorem dX11_closeText_8 : decode cX11_closeText 8 = .ok (.aload_n 0, 1) := by decide +kernel
theorem dX11_closeText_9 : decode cX11_closeText 9 = .ok (.getfield 10, 3) := by decide +kernel
theorem dX11_closeText_12 : decode cX11_closeText 12 = .ok (.getfield 98, 3) := by decide +kernel
theorem dX11_closeText_15 : decode cX11_closeText 15 = .ok (.ifCond .ne 7, 3) := by decide +kernel
theorem dX11_closeText_18 : decode cX11_closeText 18 = .ok (.iload_n 1, 1) := by decide +kernel
theorem dX11_closeText_19 : decode cX11_closeText 19 = .ok (.goto 13, 3) := by decide +kernel
theorem dX11_closeText_22 : decode cX11_closeText 22 = .ok (.bipush (-10), 2) := by decide +kernel
theorem dX11_closeText_24 : decode cX11_closeText 24 = .ok (.aload_n 0, 1) := by decide +kernel
theorem dX11_closeText_25 : decode cX11_closeText 25 = .ok (.getfield 10, 3) := by decide +kernel
theorem dX11_closeText_28 : decode cX11_closeText 28 = .ok (.getfield 325, 3) := by decide +kernel
theorem dX11_closeText_31 : decode cX11_closeText 31 = .ok (.isub, 1) := by decide +kernel
theorem dX11_closeText_32 : decode cX11_closeText 32 = .ok (.ireturn, 1) := by decide +kernel
theorem dX12_init_0 : decode cX12_init 0 = .ok (.aload_n 0, 1) := by decide +kernel
theorem dX12_init_1 : decode cX12_init 1 = .ok (.invokespecial 1, 3) := by decide +kernel
theorem dX12_init_4 : decode cX12_init 4 = .ok (.aload_n 0, 1) := by decide +kernel
theorem dX12_init_5 : decode cX12_init 5 = .ok (.sipush 4000, 3) := by decide +kernel
theorem dX12_init_8 : decode cX12_init 8 = .ok (.newarray .byte, 2) := by decide +kernel
theorem dX12_init_10 : decode cX12_init 10 = .ok (.putfield 9, 3) := by decide +kernel
theorem dX12_init_13 : decode cX12_init 13 = .ok (.aload_n 0, 1) := by decide +kernel
theorem dX12_init_14 : decode cX12_init 14 = .ok (.sipush 4001, 3) := by decide +kernel
theorem dX12_init_17 : decode cX12_init 17 = .ok (.newarray .int, 2) := by decide +kernel
theorem dX12_init_19 : decode cX12_init 19 = .ok (.putfield 13, 3) := by decide +kernel
theorem dX12_init_22 : decode cX12_init 22 = .ok (.aload_n 0, 1) := by decide +kernel
theorem dX12_init_23 : decode cX12_init 23 = .ok (.sipush 4001, 3) := by decide +kernel
theorem dX12_init_26 : decode cX12_init 26 = .ok (.newarray .long, 2) := by decide +kernel
theorem dX12_init_28 : decode cX12_init 28 = .ok (.putfield 17, 3) := by decide +kernel
theorem dX12_init_31 : decode cX12_init 31 = .ok (.aload_n 0, 1) := by decide +kernel
theorem dX12_init_32 : decode cX12_init 32 = .ok (.sipush 4001, 3) := by decide +kernel
theorem dX12_init_35 : decode cX12_init 35 = .ok (.newarray .int, 2) := by decide +kernel
theorem dX12_init_37 : decode cX12_init 37 = .ok (.putfield 21, 3) := by decide +kernel
theorem dX12_init_40 : decode cX12_init 40 = .ok (.aload_n 0, 1) := by decide +kernel
theorem dX12_init_41 : decode cX12_init 41 = .ok (.iconst 4, 1) := by decide +kernel
theorem dX12_init_42 : decode cX12_init 42 = .ok (.newarray .int, 2) := by decide +kernel
theorem dX12_init_44 : decode cX12_init 44 = .ok (.putfield 24, 3) := by decide +kernel
theorem dX12_init_47 : decode cX12_init 47 = .ok (.aload_n 0, 1) := by decide +kernel
theorem dX12_init_48 : decode cX12_init 48 = .ok (.sipush 240, 3) := by decide +kernel
theorem dX12_init_51 : decode cX12_init 51 = .ok (.newarray .int, 2) := by decide +kernel
theorem dX12_init_53 : decode cX12_init 53 = .ok (.putfield 27, 3) := by decide +kernel
theorem dX12_init_56 : decode cX12_init 56 = .ok (.aload_n 0, 1) := by decide +kernel
theorem dX12_init_57 : decode cX12_init 57 = .ok (.sipush 240, 3) := by decide +kernel
theorem dX12_init_60 : decode cX12_init 60 = .ok (.newarray .int, 2) := by decide +kernel
theorem dX12_init_62 : decode cX12_init 62 = .ok (.putfield 30, 3) := by decide +kernel
theorem dX12_init_65 : decode cX12_init 65 = .ok (.aload_n 0, 1) := by decide +kernel
theorem dX12_init_66 : decode cX12_init 66 = .ok (.sipush 240, 3) := by decide +kernel
theorem dX12_init_69 : decode cX12_init 69 = .ok (.newarray .int, 2) := by decide +kernel
theorem dX12_init_71 : decode cX12_init 71 = .ok (.putfield 33, 3) := by decide +kernel
theorem dX12_init_74 : decode cX12_init 74 = .ok (.aload_n 0, 1) := by decide +kernel
theorem dX12_init_75 : decode cX12_init 75 = .ok (.sipush 240, 3) := by decide +kernel
theorem dX12_init_78 : decode cX12_init 78 = .ok (.newarray .int, 2) := by decide +kernel
theorem dX12_init_80 : decode cX12_init 80 = .ok (.putfield 36, 3) := by decide +kernel
theorem dX12_init_83 : decode cX12_init 83 = .ok (.aload_n 0, 1) := by decide +kernel
theorem dX12_init_84 : decode cX12_init 84 = .ok (.sipush 240, 3) := by decide +kernel
theorem dX12_init_87 : decode cX12_init 87 = .ok (.newarray .int, 2) := by decide +kernel
theorem dX12_init_89 : decode cX12_init 89 = .ok (.putfield 39, 3) := by decide +kernel
theorem dX12_init_92 : decode cX12_init 92 = .ok (.aload_n 0, 1) := by decide +kernel
theorem dX12_init_93 : decode cX12_init 93 = .ok (.sipush 240, 3) := by decide +kernel
theorem dX12_init_96 : decode cX12_init 96 = .ok (.newarray .int, 2) := by decide +kernel
theorem dX12_init_98 : decode cX12_init 98 = .ok (.putfield 42, 3) := by decide +kernel
theorem dX12_init_101 : decode cX12_init 101 = .ok (.aload_n 0, 1) := by decide +kernel
theorem dX12_init_102 : decode cX12_init 102 = .ok (.sipush 240, 3) := by decide +kernel
theorem dX12_init_105 : decode cX12_init 105 = .ok (.newarray .int, 2) := by decide +kernel
theorem dX12_init_107 : decode cX12_init 107 = .ok (.putfield 45, 3) := by decide +kernel
theorem dX12_init_110 : decode cX12_init 110 = .ok (.aload_n 0, 1) := by decide +kernel
theorem dX12_init_111 : decode cX12_init 111 = .ok (.sipush 240, 3) := by decide +kernel
theorem dX12_init_114 : decode cX12_init 114 = .ok (.newarray .int, 2) := by decide +kernel
theorem dX12_init_116 : decode cX12_init 116 = .ok (.putfield 48, 3) := by decide +kernel
theorem dX12_init_119 : decode cX12_init 119 = .ok (.aload_n 0, 1) := by decide +kernel
theorem dX12_init_120 : decode cX12_init 120 = .ok (.sipush 15600, 3) := by decide +kernel
theorem dX12_init_123 : decode cX12_init 123 = .ok (.newarray .int, 2) := by decide +kernel
theorem dX12_init_125 : decode cX12_init 125 = .ok (.putfield 51, 3) := by decide +kernel
theorem dX12_init_128 : decode cX12_init 128 = .ok (.aload_n 0, 1) := by decide +kernel
theorem dX12_init_129 : decode cX12_init 129 = .ok (.sipush 1200, 3) := by decide +kernel
theorem dX12_init_132 : decode cX12_init 132 = .ok (.newarray .int, 2) := by decide +kernel
theorem dX12_init_134 : decode cX12_init 134 = .ok (.putfield 54, 3) := by decide +kernel
theorem dX12_init_137 : decode cX12_init 137 = .ok (.aload_n 0, 1) := by decide +kernel
theorem dX12_init_138 : decode cX12_init 138 = .ok (.sipush 1200, 3) := by decide +kernel
theorem dX12_init_141 : decode cX12_init 141 = .ok (.newarray .int, 2) := by decide +kernel
theorem dX12_init_143 : decode cX12_init 143 = .ok (.putfield 57, 3) := by decide +kernel
theorem dX12_init_146 : decode cX12_init 146 = .ok (.aload_n 0, 1) := by decide +kernel
theorem dX12_init_147 : decode cX12_init 147 = .ok (.sipush 1200, 3) := by decide +kernel
theorem dX12_init_150 : decode cX12_init 150 = .ok (.newarray .int, 2) := by decide +kernel
theorem dX12_init_152 : decode cX12_init 152 = .ok (.putfield 60, 3) := by decide +kernel
theorem dX12_init_155 : decode cX12_init 155 = .ok (.aload_n 0, 1) := by decide +kernel
theorem dX12_init_156 : decode cX12_init 156 = .ok (.bipush 60, 2) := by decide +kernel
theorem dX12_init_158 : decode cX12_init 158 = .ok (.newarray .int, 2) := by decide +kernel
theorem dX12_init_160 : decode cX12_init 160 = .ok (.putfield 63, 3) := by decide +kernel
theorem dX12_init_163 : decode cX12_init 163 = .ok (.aload_n 0, 1) := by decide +kernel
theorem dX12_init_164 : decode cX12_init 164 = .ok (.bipush 60, 2) := by decide +kernel
theorem dX12_init_166 : decode cX12_init 166 = .ok (.newarray .int, 2) := by decide +kernel
theorem dX12_init_168 : decode cX12_init 168 = .ok (.putfield 66, 3) := by decide +kernel
theorem dX12_init_171 : decode cX12_init 171 = .ok (.aload_n 0, 1) := by decide +kernel
theorem dX12_init_172 : decode cX12_init 172 = .ok (.bipush 60, 2) := by decide +kernel
theorem dX12_init_174 : decode cX12_init 174 = .ok (.newarray .int, 2) := by decide +kernel
theorem dX12_init_176 : decode cX12_init 176 = .ok (.putfield 69, 3) := by decide +kernel
theorem dX12_init_179 : decode cX12_init 179 = .ok (.aload_n 0, 1) := by decide +kernel
theorem dX12_init_180 : decode cX12_init 180 = .ok (.bipush 60, 2) := by decide +kernel
theorem dX12_init_182 : decode cX12_init 182 = .ok (.newarray .int, 2) := by decide +kernel
theorem dX12_init_184 : decode cX12_init 184 = .ok (.putfield 72, 3) := by decide +kernel
theorem dX12_init_187 : decode cX12_init 187 = .ok (.aload_n 0, 1) := by decide +kernel
theorem dX12_init_188 : decode cX12_init 188 = .ok (.bipush 60, 2) := by decide +kernel
theorem dX12_init_190 : decode cX12_init 190 = .ok (.newarray .int, 2) := by decide +kernel
theorem dX12_init_192 : decode cX12_init 192 = .ok (.putfield 75, 3) := by decide +kernel
theorem dX12_init_195 : decode cX12_init 195 = .ok (.aload_n 0, 1) := by decide +kernel
theorem dX12_init_196 : decode cX12_init 196 = .ok (.bipush 60, 2) := by decide +kernel
theorem dX12_init_198 : decode cX12_init 198 = .ok (.newarray .int, 2) := by decide +kernel
theorem dX12_init_200 : decode cX12_init 200 = .ok (.putfield 78, 3) := by decide +kernel
theorem dX12_init_203 : decode cX12_init 203 = .ok (.aload_n 0, 1) := by decide +kernel
theorem dX12_init_204 : decode cX12_init 204 = .ok (.bipush 60, 2) := by decide +kernel
theorem dX12_init_206 : decode cX12_init 206 = .ok (.newarray .int, 2) := by decide +kernel
theorem dX12_init_208 : decode cX12_init 208 = .ok (.putfield 81, 3) := by decide +kernel
theorem dX12_init_211 : decode cX12_init 211 = .ok (.aload_n 0, 1) := by decide +kernel
theorem dX12_init_212 : decode cX12_init 212 = .ok (.bipush 60, 2) := by decide +kernel
theorem dX12_init_214 : decode cX12_init 214 = .ok (.newarray .int, 2) := by decide +kernel
theorem dX12_init_216 : decode cX12_init 216 = .ok (.putfield 84, 3) := by decide +kernel
theorem dX12_init_219 : decode cX12_init 219 = .ok (.aload_n 0, 1) := by decide +kernel
theorem dX12_init_220 : decode cX12_init 220 = .ok (.sipush 3900, 3) := by decide +kernel
theorem dX12_init_223 : decode cX12_init 223 = .ok (.newarray .int, 2) := by decide +kernel
theorem dX12_init_225 : decode cX12_init 225 = .ok (.putfield 87, 3) := by decide +kernel
theorem dX12_init_228 : decode cX12_init 228 = .ok (.aload_n 0, 1) := by decide +kernel
theorem dX12_init_229 : decode cX12_init 229 = .ok (.sipush 300, 3) := by decide +kernel
theorem dX12_init_232 : decode cX12_init 232 = .ok (.newarray .int, 2) := by decide +kernel
theorem dX12_init_234 : decode cX12_init 234 = .ok (.putfield 90, 3) := by decide +kernel
theorem dX12_init_237 : decode cX12_init 237 = .ok (.aload_n 0, 1) := by decide +kernel
theorem dX12_init_238 : decode cX12_init 238 = .ok (.sipush 300, 3) := by decide +kernel
theorem dX12_init_241 : decode cX12_init 241 = .ok (.newarray .int, 2) := by decide +kernel
theorem dX12_init_243 : decode cX12_init 243 = .ok (.putfield 93, 3) := by decide +kernel
theorem dX12_init_246 : decode cX12_init 246 = .ok (.aload_n 0, 1) := by decide +kernel
theorem dX12_init_247 : decode cX12_init 247 = .ok (.sipush 300, 3) := by decide +kernel
theorem dX12_init_250 : decode cX12_init 250 = .ok (.newarray .int, 2) := by decide +kernel
theorem dX12_init_252 : decode cX12_init 252 = .ok (.putfield 96, 3) := by decide +kernel
theorem dX12_init_255 : decode cX12_init 255 = .ok (.aload_n 0, 1) := by decide +kernel
theorem dX12_init_256 : decode cX12_init 256 = .ok (.bipush 65, 2) := by decide +kernel
theorem dX12_init_258 : decode cX12_init 258 = .ok (.newarray .int, 2) := by decide +kernel
theorem dX12_init_260 : decode cX12_init 260 = .ok (.putfield 99, 3) := by decide +kernel
theorem dX12_init_263 : decode cX12_init 263 = .ok (.aload_n 0, 1) := by decide +kernel
theorem dX12_init_264 : decode cX12_init 264 = .ok (.bipush 65, 2) := by decide +kernel
theorem dX12_init_266 : decode cX12_init 266 = .ok (.newarray .boolean, 2) := by decide +kernel
theorem dX12_init_268 : decode cX12_init 268 = .ok (.putfield 102, 3) := by decide +kernel
theorem dX12_init_271 : decode cX12_init 271 = .ok (.aload_n 0, 1) := by decide +kernel
theorem dX12_init_272 : decode cX12_init 272 = .ok (.bipush 65, 2) := by decide +kernel
theorem dX12_init_274 : decode cX12_init 274 = .ok (.newarray .boolean, 2) := by decide +kernel
theorem dX12_init_276 : decode cX12_init 276 = .ok (.putfield 106, 3) := by decide +kernel
theorem dX12_init_279 : decode cX12_init 279 = .ok (.aload_n 0, 1) := by decide +kernel
theorem dX12_init_280 : decode cX12_init 280 = .ok (.iconst 4, 1) := by decide +kernel
theorem dX12_init_281 : decode cX12_init 281 = .ok (.newarray .int, 2) := by decide +kernel
theorem dX12_init_283 : decode cX12_init 283 = .ok (.putfield 109, 3) := by decide +kernel
theorem dX12_init_286 : decode cX12_init 286 = .ok (.aload_n 0, 1) := by decide +kernel
theorem dX12_init_287 : decode cX12_init 287 = .ok (.iconst 4, 1) := by decide +kernel
theorem dX12_init_288 : decode cX12_init 288 = .ok (.newarray .int, 2) := by decide +kernel
theorem dX12_init_290 : decode cX12_init 290 = .ok (.putfield 112, 3) := by decide +kernel
theorem dX12_init_293 : decode cX12_init 293 = .ok (.aload_n 0, 1) := by decide +kernel
theorem dX12_init_294 : decode cX12_init 294 = .ok (.iconst 4, 1) := by decide +kernel
theorem dX12_init_295 : decode cX12_init 295 = .ok (.newarray .int, 2) := by decide +kernel
theorem dX12_init_297 : decode cX12_init 297 = .ok (.putfield 115, 3) := by decide +kernel
theorem dX12_init_300 : decode cX12_init 300 = .ok (.aload_n 0, 1) := by decide +kernel
theorem dX12_init_301 : decode cX12_init 301 = .ok (.iconst 4, 1) := by decide +kernel
theorem dX12_init_302 : decode cX12_init 302 = .ok (.newarray .int, 2) := by decide +kernel
theorem dX12_init_304 : decode cX12_init 304 = .ok (.putfield 118, 3) := by decide +kernel
theorem dX12_init_307 : decode cX12_init 307 = .ok (.aload_n 0, 1) := by decide +kernel
theorem dX12_init_308 : decode cX12_init 308 = .ok (.sipush 260, 3) := by decide +kernel
theorem dX12_init_311 : decode cX12_init 311 = .ok (.newarray .int, 2) := by decide +kernel
theorem dX12_init_313 : decode cX12_init 313 = .ok (.putfield 121, 3) := by decide +kernel
theorem dX12_init_316 : decode cX12_init 316 = .ok (.aload_n 0, 1) := by decide +kernel
theorem dX12_init_317 : decode cX12_init 317 = .ok (.sipush 260, 3) := by decide +kernel
theorem dX12_init_320 : decode cX12_init 320 = .ok (.newarray .int, 2) := by decide +kernel
theorem dX12_init_322 : decode cX12_init 322 = .ok (.putfield 124, 3) := by decide +kernel
theorem dX12_init_325 : decode cX12_init 325 = .ok (.aload_n 0, 1) := by decide +kernel
theorem dX12_init_326 : decode cX12_init 326 = .ok (.sipush 260, 3) := by decide +kernel
theorem dX12_init_329 : decode cX12_init 329 = .ok (.newarray .int, 2) := by decide +kernel
theorem dX12_init_331 : decode cX12_init 331 = .ok (.putfield 127, 3) := by decide +kernel
theorem dX12_init_334 : decode cX12_init 334 = .ok (.aload_n 0, 1) := by decide +kernel
theorem dX12_init_335 : decode cX12_init 335 = .ok (.sipush 260, 3) := by decide +kernel
theorem dX12_init_338 : decode cX12_init 338 = .ok (.newarray .int, 2) := by decide +kernel
theorem dX12_init_340 : decode cX12_init 340 = .ok (.putfield 130, 3) := by decide +kernel
theorem dX12_init_343 : decode cX12_init 343 = .ok (.aload_n 0, 1) := by decide +kernel
theorem dX12_init_344 : decode cX12_init 344 = .ok (.sipush 260, 3) := by decide +kernel
theorem dX12_init_347 : decode cX12_init 347 = .ok (.newarray .int, 2) := by decide +kernel
theorem dX12_init_349 : decode cX12_init 349 = .ok (.putfield 133, 3) := by decide +kernel
theorem dX12_init_352 : decode cX12_init 352 = .ok (.aload_n 0, 1) := by decide +kernel
theorem dX12_init_353 : decode cX12_init 353 = .ok (.bipush 65, 2) := by decide +kernel
theorem dX12_init_355 : decode cX12_init 355 = .ok (.newarray .int, 2) := by decide +kernel
theorem dX12_init_357 : decode cX12_init 357 = .ok (.putfield 136, 3) := by decide +kernel
theorem dX12_init_360 : decode cX12_init 360 = .ok (.aload_n 0, 1) := by decide +kernel
theorem dX12_init_361 : decode cX12_init 361 = .ok (.sipush 128, 3) := by decide +kernel
theorem dX12_init_364 : decode cX12_init 364 = .ok (.newarray .int, 2) := by decide +kernel
theorem dX12_init_366 : decode cX12_init 366 = .ok (.putfield 139, 3) := by decide +kernel
theorem dX12_init_369 : decode cX12_init 369 = .ok (.aload_n 0, 1) := by decide +kernel
theorem dX12_init_370 : decode cX12_init 370 = .ok (.sipush 128, 3) := by decide +kernel
theorem dX12_init_373 : decode cX12_init 373 = .ok (.newarray .int, 2) := by decide +kernel
theorem dX12_init_375 : decode cX12_init 375 = .ok (.putfield 142, 3) := by decide +kernel
theorem dX12_init_378 : decode cX12_init 378 = .ok (.aload_n 0, 1) := by decide +kernel
theorem dX12_init_379 : decode cX12_init 379 = .ok (.bipush 8, 2) := by decide +kernel
theorem dX12_init_381 : decode cX12_init 381 = .ok (.newarray .boolean, 2) := by decide +kernel
theorem dX12_init_383 : decode cX12_init 383 = .ok (.putfield 145, 3) := by decide +kernel
theorem dX12_init_386 : decode cX12_init 386 = .ok (.aload_n 0, 1) := by decide +kernel
theorem dX12_init_387 : decode cX12_init 387 = .ok (.bipush 8, 2) := by decide +kernel
theorem dX12_init_389 : decode cX12_init 389 = .ok (.newarray .int, 2) := by decide +kernel
theorem dX12_init_391 : decode cX12_init 391 = .ok (.putfield 148, 3) := by decide +kernel
theorem dX12_init_394 : decode cX12_init 394 = .ok (.aload_n 0, 1) := by decide +kernel
theorem dX12_init_395 : decode cX12_init 395 = .ok (.bipush 8, 2) := by decide +kernel
theorem dX12_init_397 : decode cX12_init 397 = .ok (.newarray .int, 2) := by decide +kernel
theorem dX12_init_399 : decode cX12_init 399 = .ok (.putfield 151, 3) := by decide +kernel
theorem dX12_init_402 : decode cX12_init 402 = .ok (.aload_n 0, 1) := by decide +kernel
theorem dX12_init_403 : decode cX12_init 403 = .ok (.bipush 8, 2) := by decide +kernel
theorem dX12_init_405 : decode cX12_init 405 = .ok (.newarray .int, 2) := by decide +kernel
theorem dX12_init_407 : decode cX12_init 407 = .ok (.putfield 154, 3) := by decide +kernel
theorem dX12_init_410 : decode cX12_init 410 = .ok (.aload_n 0, 1) := by decide +kernel
theorem dX12_init_411 : decode cX12_init 411 = .ok (.bipush 8, 2) := by decide +kernel
theorem dX12_init_413 : decode cX12_init 413 = .ok (.newarray .int, 2) := by decide +kernel
theorem dX12_init_415 : decode cX12_init 415 = .ok (.putfield 157, 3) := by decide +kernel
theorem dX12_init_418 : decode cX12_init 418 = .ok (.aload_n 0, 1) := by decide +kernel
theorem dX12_init_419 : decode cX12_init 419 = .ok (.bipush 8, 2) := by decide +kernel
theorem dX12_init_421 : decode cX12_init 421 = .ok (.newarray .int, 2) := by decide +kernel
theorem dX12_init_423 : decode cX12_init 423 = .ok (.putfield 160, 3) := by decide +kernel
theorem dX12_init_426 : decode cX12_init 426 = .ok (.aload_n 0, 1) := by decide +kernel
theorem dX12_init_427 : decode cX12_init 427 = .ok (.bipush 8, 2) := by decide +kernel
theorem dX12_init_429 : decode cX12_init 429 = .ok (.newarray .int, 2) := by decide +kernel
theorem dX12_init_431 : decode cX12_init 431 = .ok (.putfield 163, 3) := by decide +kernel
theorem dX12_init_434 : decode cX12_init 434 = .ok (.aload_n 0, 1) := by decide +kernel
theorem dX12_init_435 : decode cX12_init 435 = .ok (.bipush 8, 2) := by decide +kernel
theorem dX12_init_437 : decode cX12_init 437 = .ok (.newarray .int, 2) := by decide +kernel
theorem dX12_init_439 : decode cX12_init 439 = .ok (.putfield 166, 3) := by decide +kernel
theorem dX12_init_442 : decode cX12_init 442 = .ok (.aload_n 0, 1) := by decide +kernel
theorem dX12_init_443 : decode cX12_init 443 = .ok (.bipush 8, 2) := by decide +kernel
theorem dX12_init_445 : decode cX12_init 445 = .ok (.newarray .int, 2) := by decide +kernel
theorem dX12_init_447 : decode cX12_init 447 = .ok (.putfield 169, 3) := by decide +kernel
theorem dX12_init_450 : decode cX12_init 450 = .ok (.aload_n 0, 1) := by decide +kernel
theorem dX12_init_451 : decode cX12_init 451 = .ok (.bipush 8, 2) := by decide +kernel
theorem dX12_init_453 : decode cX12_init 453 = .ok (.newarray .int, 2) := by decide +kernel
theorem dX12_init_455 : decode cX12_init 455 = .ok (.putfield 172, 3) := by decide +kernel
theorem dX12_init_458 : decode cX12_init 458 = .ok (.aload_n 0, 1) := by decide +kernel
theorem dX12_init_459 : decode cX12_init 459 = .ok (.bipush 8, 2) := by decide +kernel
theorem dX12_init_461 : decode cX12_init 461 = .ok (.newarray .int, 2) := by decide +kernel
theorem dX12_init_463 : decode cX12_init 463 = .ok (.putfield 175, 3) := by decide +kernel
theorem dX12_init_466 : decode cX12_init 466 = .ok (.aload_n 0, 1) := by decide +kernel
theorem dX12_init_467 : decode cX12_init 467 = .ok (.bipush 8, 2) := by decide +kernel
theorem dX12_init_469 : decode cX12_init 469 = .ok (.newarray .int, 2) := by decide +kernel
theorem dX12_init_471 : decode cX12_init 471 = .ok (.putfield 178, 3) := by decide +kernel
theorem dX12_init_474 : decode cX12_init 474 = .ok (.aload_n 0, 1) := by decide +kernel
theorem dX12_init_475 : decode cX12_init 475 = .ok (.bipush 16, 2) := by decide +kernel
theorem dX12_init_477 : decode cX12_init 477 = .ok (.newarray .boolean, 2) := by decide +kernel
theorem dX12_init_479 : decode cX12_init 479 = .ok (.putfield 181, 3) := by decide +kernel
theorem dX12_init_482 : decode cX12_init 482 = .ok (.aload_n 0, 1) := by decide +kernel
theorem dX12_init_483 : decode cX12_init 483 = .ok (.bipush 8, 2) := by decide +kernel
theorem dX12_init_485 : decode cX12_init 485 = .ok (.newarray .int, 2) := by decide +kernel
theorem dX12_init_487 : decode cX12_init 487 = .ok (.putfield 184, 3) := by decide +kernel
theorem dX12_init_490 : decode cX12_init 490 = .ok (.aload_n 0, 1) := by decide +kernel
theorem dX12_init_491 : decode cX12_init 491 = .ok (.sipush 488, 3) := by decide +kernel
theorem dX12_init_494 : decode cX12_init 494 = .ok (.newarray .int, 2) := by decide +kernel
theorem dX12_init_496 : decode cX12_init 496 = .ok (.putfield 187, 3) := by decide +kernel
theorem dX12_init_499 : decode cX12_init 499 = .ok (.aload_n 0, 1) := by decide +kernel
theorem dX12_init_500 : decode cX12_init 500 = .ok (.sipush 488, 3) := by decide +kernel
theorem dX12_init_503 : decode cX12_init 503 = .ok (.newarray .long, 2) := by decide +kernel
theorem dX12_init_505 : decode cX12_init 505 = .ok (.putfield 190, 3) := by decide +kernel
theorem dX12_init_508 : decode cX12_init 508 = .ok (.aload_n 0, 1) := by decide +kernel
theorem dX12_init_509 : decode cX12_init 509 = .ok (.bipush 8, 2) := by decide +kernel
theorem dX12_init_511 : decode cX12_init 511 = .ok (.newarray .int, 2) := by decide +kernel
theorem dX12_init_513 : decode cX12_init 513 = .ok (.putfield 193, 3) := by decide +kernel
theorem dX12_init_516 : decode cX12_init 516 = .ok (.aload_n 0, 1) := by decide +kernel
theorem dX12_init_517 : decode cX12_init 517 = .ok (.bipush 40, 2) := by decide +kernel
theorem dX12_init_519 : decode cX12_init 519 = .ok (.newarray .int, 2) := by decide +kernel
theorem dX12_init_521 : decode cX12_init 521 = .ok (.putfield 196, 3) := by decide +kernel
theorem dX12_init_524 : decode cX12_init 524 = .ok (.aload_n 0, 1) := by decide +kernel
theorem dX12_init_525 : decode cX12_init 525 = .ok (.bipush 40, 2) := by decide +kernel
theorem dX12_init_527 : decode cX12_init 527 = .ok (.newarray .int, 2) := by decide +kernel
theorem dX12_init_529 : decode cX12_init 529 = .ok (.putfield 199, 3) := by decide +kernel
theorem dX12_init_532 : decode cX12_init 532 = .ok (.aload_n 0, 1) := by decide +kernel
theorem dX12_init_533 : decode cX12_init 533 = .ok (.sipush 1200, 3) := by decide +kernel
theorem dX12_init_536 : decode cX12_init 536 = .ok (.newarray .int, 2) := by decide +kernel
theorem dX12_init_538 : decode cX12_init 538 = .ok (.putfield 202, 3) := by decide +kernel
theorem dX12_init_541 : decode cX12_init 541 = .ok (.aload_n 0, 1) := by decide +kernel
theorem dX12_init_542 : decode cX12_init 542 = .ok (.iconst 4, 1) := by decide +kernel
theorem dX12_init_543 : decode cX12_init 543 = .ok (.newarray .boolean, 2) := by decide +kernel
theorem dX12_init_545 : decode cX12_init 545 = .ok (.putfield 205, 3) := by decide +kernel
theorem dX12_init_548 : decode cX12_init 548 = .ok (.aload_n 0, 1) := by decide +kernel
theorem dX12_init_549 : decode cX12_init 549 = .ok (.bipush 60, 2) := by decide +kernel
theorem dX12_init_551 : decode cX12_init 551 = .ok (.newarray .boolean, 2) := by decide +kernel
theorem dX12_init_553 : decode cX12_init 553 = .ok (.putfield 208, 3) := by decide +kernel
theorem dX12_init_556 : decode cX12_init 556 = .ok (.aload_n 0, 1) := by decide +kernel
theorem dX12_init_557 : decode cX12_init 557 = .ok (.bipush 60, 2) := by decide +kernel
theorem dX12_init_559 : decode cX12_init 559 = .ok (.newarray .int, 2) := by decide +kernel
theorem dX12_init_561 : decode cX12_init 561 = .ok (.putfield 211, 3) := by decide +kernel
theorem dX12_init_564 : decode cX12_init 564 = .ok (.aload_n 0, 1) := by decide +kernel
theorem dX12_init_565 : decode cX12_init 565 = .ok (.bipush 60, 2) := by decide +kernel
theorem dX12_init_567 : decode cX12_init 567 = .ok (.newarray .int, 2) := by decide +kernel
theorem dX12_init_569 : decode cX12_init 569 = .ok (.putfield 214, 3) := by decide +kernel
theorem dX12_init_572 : decode cX12_init 572 = .ok (.aload_n 0, 1) := by decide +kernel
theorem dX12_init_573 : decode cX12_init 573 = .ok (.bipush 60, 2) := by decide +kernel
theorem dX12_init_575 : decode cX12_init 575 = .ok (.newarray .int, 2) := by decide +kernel
theorem dX12_init_577 : decode cX12_init 577 = .ok (.putfield 217, 3) := by decide +kernel
theorem dX12_init_580 : decode cX12_init 580 = .ok (.aload_n 0, 1) := by decide +kernel
theorem dX12_init_581 : decode cX12_init 581 = .ok (.bipush 60, 2) := by decide +kernel
theorem dX12_init_583 : decode cX12_init 583 = .ok (.newarray .int, 2) := by decide +kernel
theorem dX12_init_585 : decode cX12_init 585 = .ok (.putfield 220, 3) := by decide +kernel
theorem dX12_init_588 : decode cX12_init 588 = .ok (.aload_n 0, 1) := by decide +kernel
theorem dX12_init_589 : decode cX12_init 589 = .ok (.bipush 60, 2) := by decide +kernel
theorem dX12_init_591 : decode cX12_init 591 = .ok (.newarray .int, 2) := by decide +kernel
theorem dX12_init_593 : decode cX12_init 593 = .ok (.putfield 223, 3) := by decide +kernel
theorem dX12_init_596 : decode cX12_init 596 = .ok (.aload_n 0, 1) := by decide +kernel
theorem dX12_init_597 : decode cX12_init 597 = .ok (.bipush 60, 2) := by decide +kernel
theorem dX12_init_599 : decode cX12_init 599 = .ok (.newarray .int, 2) := by decide +kernel
theorem dX12_init_601 : decode cX12_init 601 = .ok (.putfield 226, 3) := by decide +kernel
theorem dX12_init_604 : decode cX12_init 604 = .ok (.aload_n 0, 1) := by decide +kernel
theorem dX12_init_605 : decode cX12_init 605 = .ok (.bipush 60, 2) := by decide +kernel
theorem dX12_init_607 : decode cX12_init 607 = .ok (.newarray .int, 2) := by decide +kernel
theorem dX12_init_609 : decode cX12_init 609 = .ok (.putfield 229, 3) := by decide +kernel
theorem dX12_init_612 : decode cX12_init 612 = .ok (.aload_n 0, 1) := by decide +kernel
theorem dX12_init_613 : decode cX12_init 613 = .ok (.sipush 300, 3) := by decide +kernel
theorem dX12_init_616 : decode cX12_init 616 = .ok (.newarray .int, 2) := by decide +kernel
theorem dX12_init_618 : decode cX12_init 618 = .ok (.putfield 232, 3) := by decide +kernel
theorem dX12_init_621 : decode cX12_init 621 = .ok (.aload_n 0, 1) := by decide +kernel
theorem dX12_init_622 : decode cX12_init 622 = .ok (.sipush 300, 3) := by decide +kernel
theorem dX12_init_625 : decode cX12_init 625 = .ok (.newarray .int, 2) := by decide +kernel
theorem dX12_init_627 : decode cX12_init 627 = .ok (.putfield 235, 3) := by decide +kernel
theorem dX12_init_630 : decode cX12_init 630 = .ok (.aload_n 0, 1) := by decide +kernel
theorem dX12_init_631 : decode cX12_init 631 = .ok (.sipush 300, 3) := by decide +kernel
theorem dX12_init_634 : decode cX12_init 634 = .ok (.newarray .int, 2) := by decide +kernel
theorem dX12_init_636 : decode cX12_init 636 = .ok (.putfield 238, 3) := by decide +kernel
theorem dX12_init_639 : decode cX12_init 639 = .ok (.aload_n 0, 1) := by decide +kernel
theorem dX12_init_640 : decode cX12_init 640 = .ok (.sipush 300, 3) := by decide +kernel
theorem dX12_init_643 : decode cX12_init 643 = .ok (.newarray .int, 2) := by decide +kernel
theorem dX12_init_645 : decode cX12_init 645 = .ok (.putfield 241, 3) := by decide +kernel
theorem dX12_init_648 : decode cX12_init 648 = .ok (.aload_n 0, 1) := by decide +kernel
theorem dX12_init_649 : decode cX12_init 649 = .ok (.sipush 300, 3) := by decide +kernel
theorem dX12_init_652 : decode cX12_init 652 = .ok (.newarray .boolean, 2) := by decide +kernel
theorem dX12_init_654 : decode cX12_init 654 = .ok (.putfield 244, 3) := by decide +kernel
theorem dX12_init_657 : decode cX12_init 657 = .ok (.aload_n 0, 1) := by decide +kernel
theorem dX12_init_658 : decode cX12_init 658 = .ok (.sipush 300, 3) := by decide +kernel
theorem dX12_init_661 : decode cX12_init 661 = .ok (.newarray .boolean, 2) := by decide +kernel
theorem dX12_init_663 : decode cX12_init 663 = .ok (.putfield 247, 3) := by decide +kernel
theorem dX12_init_666 : decode cX12_init 666 = .ok (.aload_n 0, 1) := by decide +kernel
theorem dX12_init_667 : decode cX12_init 667 = .ok (.bipush 21, 2) := by decide +kernel
theorem dX12_init_669 : decode cX12_init 669 = .ok (.newarray .int, 2) := by decide +kernel
theorem dX12_init_671 : decode cX12_init 671 = .ok (.putfield 250, 3) := by decide +kernel
theorem dX12_init_674 : decode cX12_init 674 = .ok (.aload_n 0, 1) := by decide +kernel
theorem dX12_init_675 : decode cX12_init 675 = .ok (.bipush 20, 2) := by decide +kernel
theorem dX12_init_677 : decode cX12_init 677 = .ok (.newarray .int, 2) := by decide +kernel
theorem dX12_init_679 : decode cX12_init 679 = .ok (.putfield 253, 3) := by decide +kernel
theorem dX12_init_682 : decode cX12_init 682 = .ok (.aload_n 0, 1) := by decide +kernel
theorem dX12_init_683 : decode cX12_init 683 = .ok (.bipush 20, 2) := by decide +kernel
theorem dX12_init_685 : decode cX12_init 685 = .ok (.newarray .int, 2) := by decide +kernel
theorem dX12_init_687 : decode cX12_init 687 = .ok (.putfield 256, 3) := by decide +kernel
theorem dX12_init_690 : decode cX12_init 690 = .ok (.aload_n 0, 1) := by decide +kernel
theorem dX12_init_691 : decode cX12_init 691 = .ok (.sipush 4000, 3) := by decide +kernel
theorem dX12_init_694 : decode cX12_init 694 = .ok (.newarray .int, 2) := by decide +kernel
theorem dX12_init_696 : decode cX12_init 696 = .ok (.putfield 259, 3) := by decide +kernel
theorem dX12_init_699 : decode cX12_init 699 = .ok (.aload_n 0, 1) := by decide +kernel
theorem dX12_init_700 : decode cX12_init 700 = .ok (.sipush 4000, 3) := by decide +kernel
theorem dX12_init_703 : decode cX12_init 703 = .ok (.newarray .int, 2) := by decide +kernel
theorem dX12_init_705 : decode cX12_init 705 = .ok (.putfield 262, 3) := by decide +kernel
theorem dX12_init_708 : decode cX12_init 708 = .ok (.aload_n 0, 1) := by decide +kernel
theorem dX12_init_709 : decode cX12_init 709 = .ok (.bipush 21, 2) := by decide +kernel
theorem dX12_init_711 : decode cX12_init 711 = .ok (.newarray .int, 2) := by decide +kernel
theorem dX12_init_713 : decode cX12_init 713 = .ok (.putfield 265, 3) := by decide +kernel
theorem dX12_init_716 : decode cX12_init 716 = .ok (.aload_n 0, 1) := by decide +kernel
theorem dX12_init_717 : decode cX12_init 717 = .ok (.bipush 20, 2) := by decide +kernel
theorem dX12_init_719 : decode cX12_init 719 = .ok (.newarray .int, 2) := by decide +kernel
theorem dX12_init_721 : decode cX12_init 721 = .ok (.putfield 268, 3) := by decide +kernel
theorem dX12_init_724 : decode cX12_init 724 = .ok (.aload_n 0, 1) := by decide +kernel
theorem dX12_init_725 : decode cX12_init 725 = .ok (.bipush 20, 2) := by decide +kernel
theorem dX12_init_727 : decode cX12_init 727 = .ok (.newarray .int, 2) := by decide +kernel
theorem dX12_init_729 : decode cX12_init 729 = .ok (.putfield 271, 3) := by decide +kernel
theorem dX12_init_732 : decode cX12_init 732 = .ok (.aload_n 0, 1) := by decide +kernel
theorem dX12_init_733 : decode cX12_init 733 = .ok (.sipush 4000, 3) := by decide +kernel
theorem dX12_init_736 : decode cX12_init 736 = .ok (.newarray .int, 2) := by decide +kernel
theorem dX12_init_738 : decode cX12_init 738 = .ok (.putfield 274, 3) := by decide +kernel
theorem dX12_init_741 : decode cX12_init 741 = .ok (.aload_n 0, 1) := by decide +kernel
theorem dX12_init_742 : decode cX12_init 742 = .ok (.sipush 4000, 3) := by decide +kernel
theorem dX12_init_745 : decode cX12_init 745 = .ok (.newarray .int, 2) := by decide +kernel
theorem dX12_init_747 : decode cX12_init 747 = .ok (.putfield 277, 3) := by decide +kernel
theorem dX12_init_750 : decode cX12_init 750 = .ok (.aload_n 0, 1) := by decide +kernel
theorem dX12_init_751 : decode cX12_init 751 = .ok (.iconst 3, 1) := by decide +kernel
theorem dX12_init_752 : decode cX12_init 752 = .ok (.newarray .long, 2) := by decide +kernel
theorem dX12_init_754 : decode cX12_init 754 = .ok (.putfield 280, 3) := by decide +kernel
theorem dX12_init_757 : decode cX12_init 757 = .ok (.aload_n 0, 1) := by decide +kernel
theorem dX12_init_758 : decode cX12_init 758 = .ok (.bipush 9, 2) := by decide +kernel
theorem dX12_init_760 : decode cX12_init 760 = .ok (.newarray .long, 2) := by decide +kernel
theorem dX12_init_762 : decode cX12_init 762 = .ok (.putfield 283, 3) := by decide +kernel
theorem dX12_init_765 : decode cX12_init 765 = .ok (.aload_n 0, 1) := by decide +kernel
theorem dX12_init_766 : decode cX12_init 766 = .ok (.iconst 3, 1) := by decide +kernel
theorem dX12_init_767 : decode cX12_init 767 = .ok (.newarray .long, 2) := by decide +kernel
theorem dX12_init_769 : decode cX12_init 769 = .ok (.putfield 286, 3) := by decide +kernel
theorem dX12_init_772 : decode cX12_init 772 = .ok (.aload_n 0, 1) := by decide +kernel
theorem dX12_init_773 : decode cX12_init 773 = .ok (.iconst 3, 1) := by decide +kernel
theorem dX12_init_774 : decode cX12_init 774 = .ok (.newarray .long, 2) := by decide +kernel
theorem dX12_init_776 : decode cX12_init 776 = .ok (.putfield 289, 3) := by decide +kernel
theorem dX12_init_779 : decode cX12_init 779 = .ok (.aload_n 0, 1) := by decide +kernel
theorem dX12_init_780 : decode cX12_init 780 = .ok (.bipush 9, 2) := by decide +kernel
theorem dX12_init_782 : decode cX12_init 782 = .ok (.newarray .long, 2) := by decide +kernel
theorem dX12_init_784 : decode cX12_init 784 = .ok (.putfield 292, 3) := by decide +kernel
theorem dX12_init_787 : decode cX12_init 787 = .ok (.aload_n 0, 1) := by decide +kernel
theorem dX12_init_788 : decode cX12_init 788 = .ok (.iconst 3, 1) := by decide +kernel
theorem dX12_init_789 : decode cX12_init 789 = .ok (.newarray .long, 2) := by decide +kernel
theorem dX12_init_791 : decode cX12_init 791 = .ok (.putfield 295, 3) := by decide +kernel
theorem dX12_init_794 : decode cX12_init 794 = .ok (.aload_n 0, 1) := by decide +kernel
theorem dX12_init_795 : decode cX12_init 795 = .ok (.iconst 3, 1) := by decide +kernel
theorem dX12_init_796 : decode cX12_init 796 = .ok (.newarray .boolean, 2) := by decide +kernel
theorem dX12_init_798 : decode cX12_init 798 = .ok (.putfield 298, 3) := by decide +kernel
theorem dX12_init_801 : decode cX12_init 801 = .ok (.aload_n 0, 1) := by decide +kernel
theorem dX12_init_802 : decode cX12_init 802 = .ok (.bipush 20, 2) := by decide +kernel
theorem dX12_init_804 : decode cX12_init 804 = .ok (.newarray .int, 2) := by decide +kernel
theorem dX12_init_806 : decode cX12_init 806 = .ok (.putfield 301, 3) := by decide +kernel
theorem dX12_init_809 : decode cX12_init 809 = .ok (.aload_n 0, 1) := by decide +kernel
theorem dX12_init_810 : decode cX12_init 810 = .ok (.bipush 20, 2) := by decide +kernel
theorem dX12_init_812 : decode cX12_init 812 = .ok (.newarray .int, 2) := by decide +kernel
theorem dX12_init_814 : decode cX12_init 814 = .ok (.putfield 304, 3) := by decide +kernel
theorem dX12_init_817 : decode cX12_init 817 = .ok (.aload_n 0, 1) := by decide +kernel
theorem dX12_init_818 : decode cX12_init 818 = .ok (.bipush 20, 2) := by decide +kernel
theorem dX12_init_820 : decode cX12_init 820 = .ok (.newarray .int, 2) := by decide +kernel
theorem dX12_init_822 : decode cX12_init 822 = .ok (.putfield 307, 3) := by decide +kernel
theorem dX12_init_825 : decode cX12_init 825 = .ok (.aload_n 0, 1) := by decide +kernel
theorem dX12_init_826 : decode cX12_init 826 = .ok (.bipush 20, 2) := by decide +kernel
theorem dX12_init_828 : decode cX12_init 828 = .ok (.newarray .int, 2) := by decide +kernel
theorem dX12_init_830 : decode cX12_init 830 = .ok (.putfield 310, 3) := by decide +kernel
theorem dX12_init_833 : decode cX12_init 833 = .ok (.aload_n 0, 1) := by decide +kernel
theorem dX12_init_834 : decode cX12_init 834 = .ok (.bipush 11, 2) := by decide +kernel
theorem dX12_init_836 : decode cX12_init 836 = .ok (.newarray .int, 2) := by decide +kernel
theorem dX12_init_838 : decode cX12_init 838 = .ok (.putfield 313, 3) := by decide +kernel
theorem dX12_init_841 : decode cX12_init 841 = .ok (.aload_n 0, 1) := by decide +kernel
theorem dX12_init_842 : decode cX12_init 842 = .ok (.sipush 612, 3) := by decide +kernel
theorem dX12_init_845 : decode cX12_init 845 = .ok (.newarray .int, 2) := by decide +kernel
theorem dX12_init_847 : decode cX12_init 847 = .ok (.putfield 316, 3) := by decide +kernel
theorem dX12_init_850 : decode cX12_init 850 = .ok (.aload_n 0, 1) := by decide +kernel
theorem dX12_init_851 : decode cX12_init 851 = .ok (.sipush 3264, 3) := by decide +kernel
theorem dX12_init_854 : decode cX12_init 854 = .ok (.newarray .int, 2) := by decide +kernel
theorem dX12_init_856 : decode cX12_init 856 = .ok (.putfield 319, 3) := by decide +kernel
theorem dX12_init_859 : decode cX12_init 859 = .ok (.aload_n 0, 1) := by decide +kernel
theorem dX12_init_860 : decode cX12_init 860 = .ok (.sipush 3264, 3) := by decide +kernel
theorem dX12_init_863 : decode cX12_init 863 = .ok (.newarray .int, 2) := by decide +kernel
theorem dX12_init_865 : decode cX12_init 865 = .ok (.putfield 322, 3) := by decide +kernel
theorem dX12_init_868 : decode cX12_init 868 = .ok (.aload_n 0, 1) := by decide +kernel
theorem dX12_init_869 : decode cX12_init 869 = .ok (.sipush 3264, 3) := by decide +kernel
theorem dX12_init_872 : decode cX12_init 872 = .ok (.newarray .int, 2) := by decide +kernel
theorem dX12_init_874 : decode cX12_init 874 = .ok (.putfield 325, 3) := by decide +kernel
theorem dX12_init_877 : decode cX12_init 877 = .ok (.aload_n 0, 1) := by decide +kernel
theorem dX12_init_878 : decode cX12_init 878 = .ok (.sipush 612, 3) := by decide +kernel
theorem dX12_init_881 : decode cX12_init 881 = .ok (.newarray .int, 2) := by decide +kernel
theorem dX12_init_883 : decode cX12_init 883 = .ok (.putfield 328, 3) := by decide +kernel
theorem dX12_init_886 : decode cX12_init 886 = .ok (.aload_n 0, 1) := by decide +kernel
theorem dX12_init_887 : decode cX12_init 887 = .ok (.sipush 612, 3) := by decide +kernel
theorem dX12_init_890 : decode cX12_init 890 = .ok (.newarray .int, 2) := by decide +kernel
theorem dX12_init_892 : decode cX12_init 892 = .ok (.putfield 331, 3) := by decide +kernel
theorem dX12_init_895 : decode cX12_init 895 = .ok (.aload_n 0, 1) := by decide +kernel
theorem dX12_init_896 : decode cX12_init 896 = .ok (.bipush 11, 2) := by decide +kernel
theorem dX12_init_898 : decode cX12_init 898 = .ok (.newarray .int, 2) := by decide +kernel
theorem dX12_init_900 : decode cX12_init 900 = .ok (.putfield 334, 3) := by decide +kernel
theorem dX12_init_903 : decode cX12_init 903 = .ok (.iconst 0, 1) := by decide +kernel
theorem dX12_init_904 : decode cX12_init 904 = .ok (.istore_n 1, 1) := by decide +kernel
theorem dX12_init_905 : decode cX12_init 905 = .ok (.iload_n 1, 1) := by decide +kernel
theorem dX12_init_906 : decode cX12_init 906 = .ok (.iconst 4, 1) := by decide +kernel
theorem dX12_init_907 : decode cX12_init 907 = .ok (.if_icmp .ge 14, 3) := by decide +kernel
theorem dX12_init_910 : decode cX12_init 910 = .ok (.aload_n 0, 1) := by decide +kernel
theorem dX12_init_911 : decode cX12_init 911 = .ok (.iload_n 1, 1) := by decide +kernel
theorem dX12_init_912 : decode cX12_init 912 = .ok (.invokevirtual 337, 3) := by decide +kernel
theorem dX12_init_915 : decode cX12_init 915 = .ok (.iinc 1 1, 3) := by decide +kernel
theorem dX12_init_918 : decode cX12_init 918 = .ok (.goto (-13), 3) := by decide +kernel
theorem dX12_init_921 : decode cX12_init 921 = .ok (.iconst 0, 1) := by decide +kernel
theorem dX12_init_922 : decode cX12_init 922 = .ok (.istore_n 1, 1) := by decide +kernel
theorem dX12_init_923 : decode cX12_init 923 = .ok (.iload_n 1, 1) := by decide +kernel
theorem dX12_init_924 : decode cX12_init 924 = .ok (.bipush 65, 2) := by decide +kernel
theorem dX12_init_926 : decode cX12_init 926 = .ok (.if_icmp .ge 16, 3) := by decide +kernel
theorem dX12_init_929 : decode cX12_init 929 = .ok (.aload_n 0, 1) := by decide +kernel
theorem dX12_init_930 : decode cX12_init 930 = .ok (.getfield 136, 3) := by decide +kernel
theorem dX12_init_933 : decode cX12_init 933 = .ok (.iload_n 1, 1) := by decide +kernel
theorem dX12_init_934 : decode cX12_init 934 = .ok (.iconst (-1), 1) := by decide +kernel
theorem dX12_init_935 : decode cX12_init 935 = .ok (.iastore, 1) := by decide +kernel
theorem dX12_init_936 : decode cX12_init 936 = .ok (.iinc 1 1, 3) := by decide +kernel
theorem dX12_init_939 : decode cX12_init 939 = .ok (.goto (-16), 3) := by decide +kernel
theorem dX12_init_942 : decode cX12_init 942 = .ok (.aload_n 0, 1) := by decide +kernel
theorem dX12_init_943 : decode cX12_init 943 = .ok (.sipush 255, 3) := by decide +kernel
theorem dX12_init_946 : decode cX12_init 946 = .ok (.putfield 341, 3) := by decide +kernel
theorem dX12_init_949 : decode cX12_init 949 = .ok (.iconst 0, 1) := by decide +kernel
theorem dX12_init_950 : decode cX12_init 950 = .ok (.istore_n 1, 1) := by decide +kernel
theorem dX12_init_951 : decode cX12_init 951 = .ok (.iload_n 1, 1) := by decide +kernel
theorem dX12_init_952 : decode cX12_init 952 = .ok (.iconst 4, 1) := by decide +kernel
theorem dX12_init_953 : decode cX12_init 953 = .ok (.if_icmp .ge 16, 3) := by decide +kernel
theorem dX12_init_956 : decode cX12_init 956 = .ok (.aload_n 0, 1) := by decide +kernel
theorem dX12_init_957 : decode cX12_init 957 = .ok (.getfield 205, 3) := by decide +kernel
theorem dX12_init_960 : decode cX12_init 960 = .ok (.iload_n 1, 1) := by decide +kernel
theorem dX12_init_961 : decode cX12_init 961 = .ok (.iconst 1, 1) := by decide +kernel
theorem dX12_init_962 : decode cX12_init 962 = .ok (.bastore, 1) := by decide +kernel
theorem dX12_init_963 : decode cX12_init 963 = .ok (.iinc 1 1, 3) := by decide +kernel
theorem dX12_init_966 : decode cX12_init 966 = .ok (.goto (-15), 3) := by decide +kernel
theorem dX12_init_969 : decode cX12_init 969 = .ok (.iconst 0, 1) := by decide +kernel
theorem dX12_init_970 : decode cX12_init 970 = .ok (.istore_n 1, 1) := by decide +kernel
theorem dX12_init_971 : decode cX12_init 971 = .ok (.iload_n 1, 1) := by decide +kernel
theorem dX12_init_972 : decode cX12_init 972 = .ok (.bipush 40, 2) := by decide +kernel
theorem dX12_init_974 : decode cX12_init 974 = .ok (.if_icmp .ge 16, 3) := by decide +kernel
theorem dX12_init_977 : decode cX12_init 977 = .ok (.aload_n 0, 1) := by decide +kernel
theorem dX12_init_978 : decode cX12_init 978 = .ok (.getfield 196, 3) := by decide +kernel
theorem dX12_init_981 : decode cX12_init 981 = .ok (.iload_n 1, 1) := by decide +kernel
theorem dX12_init_982 : decode cX12_init 982 = .ok (.iconst (-1), 1) := by decide +kernel
theorem dX12_init_983 : decode cX12_init 983 = .ok (.iastore, 1) := by decide +kernel
theorem dX12_init_984 : decode cX12_init 984 = .ok (.iinc 1 1, 3) := by decide +kernel
theorem dX12_init_987 : decode cX12_init 987 = .ok (.goto (-16), 3) := by decide +kernel
theorem dX12_init_990 : decode cX12_init 990 = .ok (.iconst 0, 1) := by decide +kernel
theorem dX12_init_991 : decode cX12_init 991 = .ok (.istore_n 1, 1) := by decide +kernel
theorem dX12_init_992 : decode cX12_init 992 = .ok (.iload_n 1, 1) := by decide +kernel
theorem dX12_init_993 : decode cX12_init 993 = .ok (.bipush 8, 2) := by decide +kernel
theorem dX12_init_995 : decode cX12_init 995 = .ok (.if_icmp .ge 16, 3) := by decide +kernel
theorem dX12_init_998 : decode cX12_init 998 = .ok (.aload_n 0, 1) := by decide +kernel
theorem dX12_init_999 : decode cX12_init 999 = .ok (.getfield 166, 3) := by decide +kernel
theorem dX12_init_1002 : decode cX12_init 1002 = .ok (.iload_n 1, 1) := by decide +kernel
theorem dX12_init_1003 : decode cX12_init 1003 = .ok (.iconst (-1), 1) := by decide +kernel
theorem dX12_init_1004 : decode cX12_init 1004 = .ok (.iastore, 1) := by decide +kernel
theorem dX12_init_1005 : decode cX12_init 1005 = .ok (.iinc 1 1, 3) := by decide +kernel
theorem dX12_init_1008 : decode cX12_init 1008 = .ok (.goto (-16), 3) := by decide +kernel
theorem dX12_init_1011 : decode cX12_init 1011 = .ok (.return_, 1) := by decide +kernel
theorem dX12_feed_0 : decode cX12_feed 0 = .ok (.aload_n 0, 1) := by decide +kernel
theorem dX12_feed_1 : decode cX12_feed 1 = .ok (.getfield 345, 3) := by decide +kernel
theorem dX12_feed_4 : decode cX12_feed 4 = .ok (.bipush 20, 2) := by decide +kernel
theorem dX12_feed_6 : decode cX12_feed 6 = .ok (.iadd, 1) := by decide +kernel
theorem dX12_feed_7 : decode cX12_feed 7 = .ok (.sipush 4000, 3) := by decide +kernel
theorem dX12_feed_10 : decode cX12_feed 10 = .ok (.if_icmp .le 5, 3) := by decide +kernel
theorem dX12_feed_13 : decode cX12_feed 13 = .ok (.iconst (-1), 1) := by decide +kernel
theorem dX12_feed_14 : decode cX12_feed 14 = .ok (.ireturn, 1) := by decide +kernel
theorem dX12_feed_15 : decode cX12_feed 15 = .ok (.aload_n 0, 1) := by decide +kernel
theorem dX12_feed_16 : decode cX12_feed 16 = .ok (.iload_n 1, 1) := by decide +kernel
theorem dX12_feed_17 : decode cX12_feed 17 = .ok (.invokevirtual 348, 3) := by decide +kernel
theorem dX12_feed_20 : decode cX12_feed 20 = .ok (.aload_n 0, 1) := by decide +kernel
theorem dX12_feed_21 : decode cX12_feed 21 = .ok (.iload_n 2, 1) := by decide +kernel
theorem dX12_feed_22 : decode cX12_feed 22 = .ok (.invokevirtual 348, 3) := by decide +kernel
theorem dX12_feed_25 : decode cX12_feed 25 = .ok (.aload_n 0, 1) := by decide +kernel
theorem dX12_feed_26 : decode cX12_feed 26 = .ok (.iload_n 3, 1) := by decide +kernel
theorem dX12_feed_27 : decode cX12_feed 27 = .ok (.invokevirtual 348, 3) := by decide +kernel
theorem dX12_feed_30 : decode cX12_feed 30 = .ok (.aload_n 0, 1) := by decide +kernel
theorem dX12_feed_31 : decode cX12_feed 31 = .ok (.iload 4, 2) := by decide +kernel
theorem dX12_feed_33 : decode cX12_feed 33 = .ok (.invokevirtual 348, 3) := by decide +kernel
theorem dX12_feed_36 : decode cX12_feed 36 = .ok (.aload_n 0, 1) := by decide +kernel
theorem dX12_feed_37 : decode cX12_feed 37 = .ok (.iload 5, 2) := by decide +kernel
theorem dX12_feed_39 : decode cX12_feed 39 = .ok (.invokevirtual 348, 3) := by decide +kernel
theorem dX12_feed_42 : decode cX12_feed 42 = .ok (.aload_n 0, 1) := by decide +kernel
theorem dX12_feed_43 : decode cX12_feed 43 = .ok (.getfield 345, 3) := by decide +kernel
theorem dX12_feed_46 : decode cX12_feed 46 = .ok (.ireturn, 1) := by decide +kernel
theorem dX12_lay_0 : decode cX12_lay 0 = .ok (.bipush 24, 2) := by decide +kernel
theorem dX12_lay_2 : decode cX12_lay 2 = .ok (.istore_n 2, 1) := by decide +kernel
theorem dX12_lay_3 : decode cX12_lay 3 = .ok (.iload_n 2, 1) := by decide +kernel
theorem dX12_lay_4 : decode cX12_lay 4 = .ok (.ifCond .lt 32, 3) := by decide +kernel
theorem dX12_lay_7 : decode cX12_lay 7 = .ok (.aload_n 0, 1) := by decide +kernel
theorem dX12_lay_8 : decode cX12_lay 8 = .ok (.getfield 9, 3) := by decide +kernel
theorem dX12_lay_11 : decode cX12_lay 11 = .ok (.aload_n 0, 1) := by decide +kernel
theorem dX12_lay_12 : decode cX12_lay 12 = .ok (.getfield 345, 3) := by decide +kernel
theorem dX12_lay_15 : decode cX12_lay 15 = .ok (.iload_n 1, 1) := by decide +kernel
theorem dX12_lay_16 : decode cX12_lay 16 = .ok (.iload_n 2, 1) := by decide +kernel
theorem dX12_lay_17 : decode cX12_lay 17 = .ok (.ishr, 1) := by decide +kernel
theorem dX12_lay_18 : decode cX12_lay 18 = .ok (.i2b, 1) := by decide +kernel
theorem dX12_lay_19 : decode cX12_lay 19 = .ok (.bastore, 1) := by decide +kernel
theorem dX12_lay_20 : decode cX12_lay 20 = .ok (.aload_n 0, 1) := by decide +kernel
theorem dX12_lay_21 : decode cX12_lay 21 = .ok (.dup, 1) := by decide +kernel
theorem dX12_lay_22 : decode cX12_lay 22 = .ok (.getfield 345, 3) := by decide +kernel
theorem dX12_lay_25 : decode cX12_lay 25 = .ok (.iconst 1, 1) := by decide +kernel
theorem dX12_lay_26 : decode cX12_lay 26 = .ok (.iadd, 1) := by decide +kernel
theorem dX12_lay_27 : decode cX12_lay 27 = .ok (.putfield 345, 3) := by decide +kernel
theorem dX12_lay_30 : decode cX12_lay 30 = .ok (.iinc 2 (-8), 3) := by decide +kernel
theorem dX12_lay_33 : decode cX12_lay 33 = .ok (.goto (-30), 3) := by decide +kernel
theorem dX12_lay_36 : decode cX12_lay 36 = .ok (.return_, 1) := by decide +kernel
