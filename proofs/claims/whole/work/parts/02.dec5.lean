theorem dX12_seat_0 : decode cX12_seat 0 = .ok (.iload_n 1, 1) := by decide +kernel
theorem dX12_seat_1 : decode cX12_seat 1 = .ok (.ifCond .lt 23, 3) := by decide +kernel
theorem dX12_seat_4 : decode cX12_seat 4 = .ok (.iload_n 1, 1) := by decide +kernel
theorem dX12_seat_5 : decode cX12_seat 5 = .ok (.bipush 39, 2) := by decide +kernel
theorem dX12_seat_7 : decode cX12_seat 7 = .ok (.if_icmp .gt 17, 3) := by decide +kernel
theorem dX12_seat_10 : decode cX12_seat 10 = .ok (.iload_n 2, 1) := by decide +kernel
theorem dX12_seat_11 : decode cX12_seat 11 = .ok (.ifCond .lt 13, 3) := by decide +kernel
theorem dX12_seat_14 : decode cX12_seat 14 = .ok (.iload_n 2, 1) := by decide +kernel
theorem dX12_seat_15 : decode cX12_seat 15 = .ok (.aload_n 0, 1) := by decide +kernel
theorem dX12_seat_16 : decode cX12_seat 16 = .ok (.getfield 199, 3) := by decide +kernel
theorem dX12_seat_19 : decode cX12_seat 19 = .ok (.iload_n 1, 1) := by decide +kernel
theorem dX12_seat_20 : decode cX12_seat 20 = .ok (.iaload, 1) := by decide +kernel
theorem dX12_seat_21 : decode cX12_seat 21 = .ok (.if_icmp .lt 7, 3) := by decide +kernel
theorem dX12_seat_24 : decode cX12_seat 24 = .ok (.iconst (-1), 1) := by decide +kernel
theorem dX12_seat_25 : decode cX12_seat 25 = .ok (.goto 14, 3) := by decide +kernel
theorem dX12_seat_28 : decode cX12_seat 28 = .ok (.aload_n 0, 1) := by decide +kernel
theorem dX12_seat_29 : decode cX12_seat 29 = .ok (.getfield 202, 3) := by decide +kernel
theorem dX12_seat_32 : decode cX12_seat 32 = .ok (.bipush 30, 2) := by decide +kernel
theorem dX12_seat_34 : decode cX12_seat 34 = .ok (.iload_n 1, 1) := by decide +kernel
theorem dX12_seat_35 : decode cX12_seat 35 = .ok (.imul, 1) := by decide +kernel
theorem dX12_seat_36 : decode cX12_seat 36 = .ok (.iload_n 2, 1) := by decide +kernel
theorem dX12_seat_37 : decode cX12_seat 37 = .ok (.iadd, 1) := by decide +kernel
theorem dX12_seat_38 : decode cX12_seat 38 = .ok (.iaload, 1) := by decide +kernel
theorem dX12_seat_39 : decode cX12_seat 39 = .ok (.ireturn, 1) := by decide +kernel
theorem dX12_told_0 : decode cX12_told 0 = .ok (.iload_n 1, 1) := by decide +kernel
theorem dX12_told_1 : decode cX12_told 1 = .ok (.ifCond .ne 9, 3) := by decide +kernel
theorem dX12_told_4 : decode cX12_told 4 = .ok (.aload_n 0, 1) := by decide +kernel
theorem dX12_told_5 : decode cX12_told 5 = .ok (.getfield 629, 3) := by decide +kernel
theorem dX12_told_8 : decode cX12_told 8 = .ok (.l2i, 1) := by decide +kernel
theorem dX12_told_9 : decode cX12_told 9 = .ok (.ireturn, 1) := by decide +kernel
theorem dX12_told_10 : decode cX12_told 10 = .ok (.iconst 0, 1) := by decide +kernel
theorem dX12_told_11 : decode cX12_told 11 = .ok (.istore_n 2, 1) := by decide +kernel
theorem dX12_told_12 : decode cX12_told 12 = .ok (.iload_n 1, 1) := by decide +kernel
theorem dX12_told_13 : decode cX12_told 13 = .ok (.iconst 1, 1) := by decide +kernel
theorem dX12_told_14 : decode cX12_told 14 = .ok (.if_icmp .eq 13, 3) := by decide +kernel
theorem dX12_told_17 : decode cX12_told 17 = .ok (.iload_n 1, 1) := by decide +kernel
theorem dX12_told_18 : decode cX12_told 18 = .ok (.iconst 2, 1) := by decide +kernel
theorem dX12_told_19 : decode cX12_told 19 = .ok (.if_icmp .eq 8, 3) := by decide +kernel
theorem dX12_told_22 : decode cX12_told 22 = .ok (.iload_n 1, 1) := by decide +kernel
theorem dX12_told_23 : decode cX12_told 23 = .ok (.iconst 4, 1) := by decide +kernel
theorem dX12_told_24 : decode cX12_told 24 = .ok (.if_icmp .ne 78, 3) := by decide +kernel
theorem dX12_told_27 : decode cX12_told 27 = .ok (.iconst 0, 1) := by decide +kernel
theorem dX12_told_28 : decode cX12_told 28 = .ok (.istore_n 3, 1) := by decide +kernel
theorem dX12_told_29 : decode cX12_told 29 = .ok (.iload_n 3, 1) := by decide +kernel
theorem dX12_told_30 : decode cX12_told 30 = .ok (.aload_n 0, 1) := by decide +kernel
theorem dX12_told_31 : decode cX12_told 31 = .ok (.getfield 626, 3) := by decide +kernel
theorem dX12_told_34 : decode cX12_told 34 = .ok (.if_icmp .ge 66, 3) := by decide +kernel
theorem dX12_told_37 : decode cX12_told 37 = .ok (.iload_n 1, 1) := by decide +kernel
theorem dX12_told_38 : decode cX12_told 38 = .ok (.iconst 4, 1) := by decide +kernel
theorem dX12_told_39 : decode cX12_told 39 = .ok (.if_icmp .ne 12, 3) := by decide +kernel
theorem dX12_told_42 : decode cX12_told 42 = .ok (.aload_n 0, 1) := by decide +kernel
theorem dX12_told_43 : decode cX12_told 43 = .ok (.getfield 247, 3) := by decide +kernel
theorem dX12_told_46 : decode cX12_told 46 = .ok (.iload_n 3, 1) := by decide +kernel
theorem dX12_told_47 : decode cX12_told 47 = .ok (.baload, 1) := by decide +kernel
theorem dX12_told_48 : decode cX12_told 48 = .ok (.goto 17, 3) := by decide +kernel
theorem dX12_told_51 : decode cX12_told 51 = .ok (.aload_n 0, 1) := by decide +kernel
theorem dX12_told_52 : decode cX12_told 52 = .ok (.getfield 244, 3) := by decide +kernel
theorem dX12_told_55 : decode cX12_told 55 = .ok (.iload_n 3, 1) := by decide +kernel
theorem dX12_told_56 : decode cX12_told 56 = .ok (.baload, 1) := by decide +kernel
theorem dX12_told_57 : decode cX12_told 57 = .ok (.ifCond .ne 7, 3) := by decide +kernel
theorem dX12_told_60 : decode cX12_told 60 = .ok (.iconst 1, 1) := by decide +kernel
theorem dX12_told_61 : decode cX12_told 61 = .ok (.goto 4, 3) := by decide +kernel
theorem dX12_told_64 : decode cX12_told 64 = .ok (.iconst 0, 1) := by decide +kernel
theorem dX12_told_65 : decode cX12_told 65 = .ok (.istore 4, 2) := by decide +kernel
theorem dX12_told_67 : decode cX12_told 67 = .ok (.iload_n 2, 1) := by decide +kernel
theorem dX12_told_68 : decode cX12_told 68 = .ok (.iload 4, 2) := by decide +kernel
theorem dX12_told_70 : decode cX12_told 70 = .ok (.ifCond .eq 21, 3) := by decide +kernel
theorem dX12_told_73 : decode cX12_told 73 = .ok (.iload_n 1, 1) := by decide +kernel
theorem dX12_told_74 : decode cX12_told 74 = .ok (.iconst 1, 1) := by decide +kernel
theorem dX12_told_75 : decode cX12_told 75 = .ok (.if_icmp .ne 7, 3) := by decide +kernel
theorem dX12_told_78 : decode cX12_told 78 = .ok (.iconst 1, 1) := by decide +kernel
theorem dX12_told_79 : decode cX12_told 79 = .ok (.goto 13, 3) := by decide +kernel
theorem dX12_told_82 : decode cX12_told 82 = .ok (.aload_n 0, 1) := by decide +kernel
theorem dX12_told_83 : decode cX12_told 83 = .ok (.getfield 238, 3) := by decide +kernel
theorem dX12_told_86 : decode cX12_told 86 = .ok (.iload_n 3, 1) := by decide +kernel
theorem dX12_told_87 : decode cX12_told 87 = .ok (.iaload, 1) := by decide +kernel
theorem dX12_told_88 : decode cX12_told 88 = .ok (.goto 4, 3) := by decide +kernel
theorem dX12_told_91 : decode cX12_told 91 = .ok (.iconst 0, 1) := by decide +kernel
theorem dX12_told_92 : decode cX12_told 92 = .ok (.iadd, 1) := by decide +kernel
theorem dX12_told_93 : decode cX12_told 93 = .ok (.istore_n 2, 1) := by decide +kernel
theorem dX12_told_94 : decode cX12_told 94 = .ok (.iinc 3 1, 3) := by decide +kernel
theorem dX12_told_97 : decode cX12_told 97 = .ok (.goto (-68), 3) := by decide +kernel
theorem dX12_told_100 : decode cX12_told 100 = .ok (.iload_n 2, 1) := by decide +kernel
theorem dX12_told_101 : decode cX12_told 101 = .ok (.ireturn, 1) := by decide +kernel
theorem dX12_told_102 : decode cX12_told 102 = .ok (.iload_n 1, 1) := by decide +kernel
theorem dX12_told_103 : decode cX12_told 103 = .ok (.iconst 3, 1) := by decide +kernel
theorem dX12_told_104 : decode cX12_told 104 = .ok (.if_icmp .ne 36, 3) := by decide +kernel
theorem dX12_told_107 : decode cX12_told 107 = .ok (.iconst 0, 1) := by decide +kernel
theorem dX12_told_108 : decode cX12_told 108 = .ok (.istore_n 3, 1) := by decide +kernel
theorem dX12_told_109 : decode cX12_told 109 = .ok (.iload_n 3, 1) := by decide +kernel
theorem dX12_told_110 : decode cX12_told 110 = .ok (.bipush 60, 2) := by decide +kernel
theorem dX12_told_112 : decode cX12_told 112 = .ok (.if_icmp .ge 26, 3) := by decide +kernel
theorem dX12_told_115 : decode cX12_told 115 = .ok (.iload_n 2, 1) := by decide +kernel
theorem dX12_told_116 : decode cX12_told 116 = .ok (.aload_n 0, 1) := by decide +kernel
theorem dX12_told_117 : decode cX12_told 117 = .ok (.getfield 208, 3) := by decide +kernel
theorem dX12_told_120 : decode cX12_told 120 = .ok (.iload_n 3, 1) := by decide +kernel
theorem dX12_told_121 : decode cX12_told 121 = .ok (.baload, 1) := by decide +kernel
theorem dX12_told_122 : decode cX12_told 122 = .ok (.ifCond .eq 7, 3) := by decide +kernel
theorem dX12_told_125 : decode cX12_told 125 = .ok (.iconst 1, 1) := by decide +kernel
theorem dX12_told_126 : decode cX12_told 126 = .ok (.goto 4, 3) := by decide +kernel
theorem dX12_told_129 : decode cX12_told 129 = .ok (.iconst 0, 1) := by decide +kernel
theorem dX12_told_130 : decode cX12_told 130 = .ok (.iadd, 1) := by decide +kernel
theorem dX12_told_131 : decode cX12_told 131 = .ok (.istore_n 2, 1) := by decide +kernel
theorem dX12_told_132 : decode cX12_told 132 = .ok (.iinc 3 1, 3) := by decide +kernel
theorem dX12_told_135 : decode cX12_told 135 = .ok (.goto (-26), 3) := by decide +kernel
theorem dX12_told_138 : decode cX12_told 138 = .ok (.iload_n 2, 1) := by decide +kernel
theorem dX12_told_139 : decode cX12_told 139 = .ok (.ireturn, 1) := by decide +kernel
theorem dX12_told_140 : decode cX12_told 140 = .ok (.iload_n 1, 1) := by decide +kernel
theorem dX12_told_141 : decode cX12_told 141 = .ok (.bipush 6, 2) := by decide +kernel
theorem dX12_told_143 : decode cX12_told 143 = .ok (.if_icmp .ne 28, 3) := by decide +kernel
theorem dX12_told_146 : decode cX12_told 146 = .ok (.iconst 0, 1) := by decide +kernel
theorem dX12_told_147 : decode cX12_told 147 = .ok (.istore_n 3, 1) := by decide +kernel
theorem dX12_told_148 : decode cX12_told 148 = .ok (.iload_n 3, 1) := by decide +kernel
theorem dX12_told_149 : decode cX12_told 149 = .ok (.bipush 8, 2) := by decide +kernel
theorem dX12_told_151 : decode cX12_told 151 = .ok (.if_icmp .ge 18, 3) := by decide +kernel
theorem dX12_told_154 : decode cX12_told 154 = .ok (.iload_n 2, 1) := by decide +kernel
theorem dX12_told_155 : decode cX12_told 155 = .ok (.aload_n 0, 1) := by decide +kernel
theorem dX12_told_156 : decode cX12_told 156 = .ok (.getfield 178, 3) := by decide +kernel
theorem dX12_told_159 : decode cX12_told 159 = .ok (.iload_n 3, 1) := by decide +kernel
theorem dX12_told_160 : decode cX12_told 160 = .ok (.iaload, 1) := by decide +kernel
theorem dX12_told_161 : decode cX12_told 161 = .ok (.iadd, 1) := by decide +kernel
theorem dX12_told_162 : decode cX12_told 162 = .ok (.istore_n 2, 1) := by decide +kernel
theorem dX12_told_163 : decode cX12_told 163 = .ok (.iinc 3 1, 3) := by decide +kernel
theorem dX12_told_166 : decode cX12_told 166 = .ok (.goto (-18), 3) := by decide +kernel
theorem dX12_told_169 : decode cX12_told 169 = .ok (.iload_n 2, 1) := by decide +kernel
theorem dX12_told_170 : decode cX12_told 170 = .ok (.ireturn, 1) := by decide +kernel
theorem dX12_told_171 : decode cX12_told 171 = .ok (.iload_n 1, 1) := by decide +kernel
theorem dX12_told_172 : decode cX12_told 172 = .ok (.iconst 5, 1) := by decide +kernel
theorem dX12_told_173 : decode cX12_told 173 = .ok (.if_icmp .ne 10, 3) := by decide +kernel
theorem dX12_told_176 : decode cX12_told 176 = .ok (.aload_n 0, 1) := by decide +kernel
theorem dX12_told_177 : decode cX12_told 177 = .ok (.getfield 490, 3) := by decide +kernel
theorem dX12_told_180 : decode cX12_told 180 = .ok (.goto 25, 3) := by decide +kernel
theorem dX12_told_183 : decode cX12_told 183 = .ok (.iload_n 1, 1) := by decide +kernel
theorem dX12_told_184 : decode cX12_told 184 = .ok (.bipush 7, 2) := by decide +kernel
theorem dX12_told_186 : decode cX12_told 186 = .ok (.if_icmp .ne 18, 3) := by decide +kernel
theorem dX12_told_189 : decode cX12_told 189 = .ok (.aload_n 0, 1) := by decide +kernel
theorem dX12_told_190 : decode cX12_told 190 = .ok (.getfield 565, 3) := by decide +kernel
theorem dX12_told_193 : decode cX12_told 193 = .ok (.ifCond .eq 7, 3) := by decide +kernel
theorem dX12_told_196 : decode cX12_told 196 = .ok (.iconst 1, 1) := by decide +kernel
theorem dX12_told_197 : decode cX12_told 197 = .ok (.goto 8, 3) := by decide +kernel
theorem dX12_told_200 : decode cX12_told 200 = .ok (.iconst 0, 1) := by decide +kernel
theorem dX12_told_201 : decode cX12_told 201 = .ok (.goto 4, 3) := by decide +kernel
theorem dX12_told_204 : decode cX12_told 204 = .ok (.iconst (-1), 1) := by decide +kernel
theorem dX12_told_205 : decode cX12_told 205 = .ok (.ireturn, 1) := by decide +kernel
theorem dX12_shares_0 : decode cX12_shares 0 = .ok (.aload_n 0, 1) := by decide +kernel
theorem dX12_shares_1 : decode cX12_shares 1 = .ok (.invokevirtual 426, 3) := by decide +kernel
theorem dX12_shares_4 : decode cX12_shares 4 = .ok (.iconst 0, 1) := by decide +kernel
theorem dX12_shares_5 : decode cX12_shares 5 = .ok (.istore_n 1, 1) := by decide +kernel
theorem dX12_shares_6 : decode cX12_shares 6 = .ok (.iload_n 1, 1) := by decide +kernel
theorem dX12_shares_7 : decode cX12_shares 7 = .ok (.iconst 3, 1) := by decide +kernel
theorem dX12_shares_8 : decode cX12_shares 8 = .ok (.if_icmp .ge 30, 3) := by decide +kernel
theorem dX12_shares_11 : decode cX12_shares 11 = .ok (.aload_n 0, 1) := by decide +kernel
theorem dX12_shares_12 : decode cX12_shares 12 = .ok (.getfield 289, 3) := by decide +kernel
theorem dX12_shares_15 : decode cX12_shares 15 = .ok (.iload_n 1, 1) := by decide +kernel
theorem dX12_shares_16 : decode cX12_shares 16 = .ok (.lconst 0, 1) := by decide +kernel
theorem dX12_shares_17 : decode cX12_shares 17 = .ok (.lastore, 1) := by decide +kernel
theorem dX12_shares_18 : decode cX12_shares 18 = .ok (.aload_n 0, 1) := by decide +kernel
theorem dX12_shares_19 : decode cX12_shares 19 = .ok (.getfield 295, 3) := by decide +kernel
theorem dX12_shares_22 : decode cX12_shares 22 = .ok (.iload_n 1, 1) := by decide +kernel
theorem dX12_shares_23 : decode cX12_shares 23 = .ok (.lconst 0, 1) := by decide +kernel
theorem dX12_shares_24 : decode cX12_shares 24 = .ok (.lastore, 1) := by decide +kernel
theorem dX12_shares_25 : decode cX12_shares 25 = .ok (.aload_n 0, 1) := by decide +kernel
theorem dX12_shares_26 : decode cX12_shares 26 = .ok (.getfield 298, 3) := by decide +kernel
theorem dX12_shares_29 : decode cX12_shares 29 = .ok (.iload_n 1, 1) := by decide +kernel
theorem dX12_shares_30 : decode cX12_shares 30 = .ok (.iconst 0, 1) := by decide +kernel
theorem dX12_shares_31 : decode cX12_shares 31 = .ok (.bastore, 1) := by decide +kernel
theorem dX12_shares_32 : decode cX12_shares 32 = .ok (.iinc 1 1, 3) := by decide +kernel
theorem dX12_shares_35 : decode cX12_shares 35 = .ok (.goto (-29), 3) := by decide +kernel
theorem dX12_shares_38 : decode cX12_shares 38 = .ok (.iconst 0, 1) := by decide +kernel
theorem dX12_shares_39 : decode cX12_shares 39 = .ok (.istore_n 1, 1) := by decide +kernel
theorem dX12_shares_40 : decode cX12_shares 40 = .ok (.iload_n 1, 1) := by decide +kernel
theorem dX12_shares_41 : decode cX12_shares 41 = .ok (.bipush 9, 2) := by decide +kernel
theorem dX12_shares_43 : decode cX12_shares 43 = .ok (.if_icmp .ge 16, 3) := by decide +kernel
theorem dX12_shares_46 : decode cX12_shares 46 = .ok (.aload_n 0, 1) := by decide +kernel
theorem dX12_shares_47 : decode cX12_shares 47 = .ok (.getfield 292, 3) := by decide +kernel
theorem dX12_shares_50 : decode cX12_shares 50 = .ok (.iload_n 1, 1) := by decide +kernel
theorem dX12_shares_51 : decode cX12_shares 51 = .ok (.lconst 0, 1) := by decide +kernel
theorem dX12_shares_52 : decode cX12_shares 52 = .ok (.lastore, 1) := by decide +kernel
theorem dX12_shares_53 : decode cX12_shares 53 = .ok (.iinc 1 1, 3) := by decide +kernel
theorem dX12_shares_56 : decode cX12_shares 56 = .ok (.goto (-16), 3) := by decide +kernel
theorem dX12_shares_59 : decode cX12_shares 59 = .ok (.iconst 0, 1) := by decide +kernel
theorem dX12_shares_60 : decode cX12_shares 60 = .ok (.istore_n 1, 1) := by decide +kernel
theorem dX12_shares_61 : decode cX12_shares 61 = .ok (.aload_n 0, 1) := by decide +kernel
theorem dX12_shares_62 : decode cX12_shares 62 = .ok (.getfield 390, 3) := by decide +kernel
theorem dX12_shares_65 : decode cX12_shares 65 = .ok (.ifCond .ne 174, 3) := by decide +kernel
theorem dX12_shares_68 : decode cX12_shares 68 = .ok (.aload_n 0, 1) := by decide +kernel
theorem dX12_shares_69 : decode cX12_shares 69 = .ok (.getfield 13, 3) := by decide +kernel
theorem dX12_shares_72 : decode cX12_shares 72 = .ok (.aload_n 0, 1) := by decide +kernel
theorem dX12_shares_73 : decode cX12_shares 73 = .ok (.getfield 381, 3) := by decide +kernel
theorem dX12_shares_76 : decode cX12_shares 76 = .ok (.iaload, 1) := by decide +kernel
theorem dX12_shares_77 : decode cX12_shares 77 = .ok (.ifCond .eq 162, 3) := by decide +kernel
theorem dX12_shares_80 : decode cX12_shares 80 = .ok (.aload_n 0, 1) := by decide +kernel
theorem dX12_shares_81 : decode cX12_shares 81 = .ok (.getfield 21, 3) := by decide +kernel
theorem dX12_shares_84 : decode cX12_shares 84 = .ok (.aload_n 0, 1) := by decide +kernel
theorem dX12_shares_85 : decode cX12_shares 85 = .ok (.getfield 381, 3) := by decide +kernel
theorem dX12_shares_88 : decode cX12_shares 88 = .ok (.iaload, 1) := by decide +kernel
theorem dX12_shares_89 : decode cX12_shares 89 = .ok (.istore_n 2, 1) := by decide +kernel
theorem dX12_shares_90 : decode cX12_shares 90 = .ok (.aload_n 0, 1) := by decide +kernel
theorem dX12_shares_91 : decode cX12_shares 91 = .ok (.iconst 0, 1) := by decide +kernel
theorem dX12_shares_92 : decode cX12_shares 92 = .ok (.iconst 2, 1) := by decide +kernel
theorem dX12_shares_93 : decode cX12_shares 93 = .ok (.invokevirtual 415, 3) := by decide +kernel
theorem dX12_shares_96 : decode cX12_shares 96 = .ok (.istore_n 3, 1) := by decide +kernel
theorem dX12_shares_97 : decode cX12_shares 97 = .ok (.iload_n 3, 1) := by decide +kernel
theorem dX12_shares_98 : decode cX12_shares 98 = .ok (.ifCond .lt 8, 3) := by decide +kernel
theorem dX12_shares_101 : decode cX12_shares 101 = .ok (.iload_n 3, 1) := by decide +kernel
theorem dX12_shares_102 : decode cX12_shares 102 = .ok (.iconst 2, 1) := by decide +kernel
theorem dX12_shares_103 : decode cX12_shares 103 = .ok (.if_icmp .le 7, 3) := by decide +kernel
theorem dX12_shares_106 : decode cX12_shares 106 = .ok (.iconst 0, 1) := by decide +kernel
theorem dX12_shares_107 : decode cX12_shares 107 = .ok (.goto 4, 3) := by decide +kernel
theorem dX12_shares_110 : decode cX12_shares 110 = .ok (.iload_n 3, 1) := by decide +kernel
theorem dX12_shares_111 : decode cX12_shares 111 = .ok (.istore 4, 2) := by decide +kernel
theorem dX12_shares_113 : decode cX12_shares 113 = .ok (.aload_n 0, 1) := by decide +kernel
theorem dX12_shares_114 : decode cX12_shares 114 = .ok (.getfield 390, 3) := by decide +kernel
theorem dX12_shares_117 : decode cX12_shares 117 = .ok (.ifCond .ne 37, 3) := by decide +kernel
theorem dX12_shares_120 : decode cX12_shares 120 = .ok (.iload_n 3, 1) := by decide +kernel
theorem dX12_shares_121 : decode cX12_shares 121 = .ok (.ifCond .lt 30, 3) := by decide +kernel
theorem dX12_shares_124 : decode cX12_shares 124 = .ok (.iload_n 3, 1) := by decide +kernel
theorem dX12_shares_125 : decode cX12_shares 125 = .ok (.iconst 2, 1) := by decide +kernel
theorem dX12_shares_126 : decode cX12_shares 126 = .ok (.if_icmp .gt 25, 3) := by decide +kernel
theorem dX12_shares_129 : decode cX12_shares 129 = .ok (.aload_n 0, 1) := by decide +kernel
theorem dX12_shares_130 : decode cX12_shares 130 = .ok (.getfield 298, 3) := by decide +kernel
theorem dX12_shares_133 : decode cX12_shares 133 = .ok (.iload_n 3, 1) := by decide +kernel
theorem dX12_shares_134 : decode cX12_shares 134 = .ok (.baload, 1) := by decide +kernel
theorem dX12_shares_135 : decode cX12_shares 135 = .ok (.ifCond .eq 9, 3) := by decide +kernel
theorem dX12_shares_138 : decode cX12_shares 138 = .ok (.aload_n 0, 1) := by decide +kernel
theorem dX12_shares_139 : decode cX12_shares 139 = .ok (.iconst 3, 1) := by decide +kernel
theorem dX12_shares_140 : decode cX12_shares 140 = .ok (.iload_n 2, 1) := by decide +kernel
theorem dX12_shares_141 : decode cX12_shares 141 = .ok (.invokevirtual 394, 3) := by decide +kernel
theorem dX12_shares_144 : decode cX12_shares 144 = .ok (.aload_n 0, 1) := by decide +kernel
theorem dX12_shares_145 : decode cX12_shares 145 = .ok (.getfield 298, 3) := by decide +kernel
theorem dX12_shares_148 : decode cX12_shares 148 = .ok (.iload_n 3, 1) := by decide +kernel
theorem dX12_shares_149 : decode cX12_shares 149 = .ok (.iconst 1, 1) := by decide +kernel
theorem dX12_shares_150 : decode cX12_shares 150 = .ok (.bastore, 1) := by decide +kernel
theorem dX12_shares_151 : decode cX12_shares 151 = .ok (.iinc 1 1, 3) := by decide +kernel
theorem dX12_shares_154 : decode cX12_shares 154 = .ok (.aload_n 0, 1) := by decide +kernel
theorem dX12_shares_155 : decode cX12_shares 155 = .ok (.bipush 58, 2) := by decide +kernel
theorem dX12_shares_157 : decode cX12_shares 157 = .ok (.invokevirtual 452, 3) := by decide +kernel
theorem dX12_shares_160 : decode cX12_shares 160 = .ok (.iconst 0, 1) := by decide +kernel
theorem dX12_shares_161 : decode cX12_shares 161 = .ok (.istore 5, 2) := by decide +kernel
theorem dX12_shares_163 : decode cX12_shares 163 = .ok (.iconst 1, 1) := by decide +kernel
theorem dX12_shares_164 : decode cX12_shares 164 = .ok (.istore 6, 2) := by decide +kernel
theorem dX12_shares_166 : decode cX12_shares 166 = .ok (.iload 6, 2) := by decide +kernel
theorem dX12_shares_168 : decode cX12_shares 168 = .ok (.ifCond .eq 62, 3) := by decide +kernel
theorem dX12_shares_171 : decode cX12_shares 171 = .ok (.aload_n 0, 1) := by decide +kernel
theorem dX12_shares_172 : decode cX12_shares 172 = .ok (.getfield 390, 3) := by decide +kernel
theorem dX12_shares_175 : decode cX12_shares 175 = .ok (.ifCond .ne 55, 3) := by decide +kernel
theorem dX12_shares_178 : decode cX12_shares 178 = .ok (.iinc 5 1, 3) := by decide +kernel
theorem dX12_shares_181 : decode cX12_shares 181 = .ok (.iload 5, 2) := by decide +kernel
theorem dX12_shares_183 : decode cX12_shares 183 = .ok (.iconst 5, 1) := by decide +kernel
theorem dX12_shares_184 : decode cX12_shares 184 = .ok (.if_icmp .ne 29, 3) := by decide +kernel
theorem dX12_shares_187 : decode cX12_shares 187 = .ok (.aload_n 0, 1) := by decide +kernel
theorem dX12_shares_188 : decode cX12_shares 188 = .ok (.getfield 13, 3) := by decide +kernel
theorem dX12_shares_191 : decode cX12_shares 191 = .ok (.aload_n 0, 1) := by decide +kernel
theorem dX12_shares_192 : decode cX12_shares 192 = .ok (.getfield 381, 3) := by decide +kernel
theorem dX12_shares_195 : decode cX12_shares 195 = .ok (.iaload, 1) := by decide +kernel
theorem dX12_shares_196 : decode cX12_shares 196 = .ok (.ifCond .eq 17, 3) := by decide +kernel
theorem dX12_shares_199 : decode cX12_shares 199 = .ok (.aload_n 0, 1) := by decide +kernel
theorem dX12_shares_200 : decode cX12_shares 200 = .ok (.iconst 2, 1) := by decide +kernel
theorem dX12_shares_201 : decode cX12_shares 201 = .ok (.aload_n 0, 1) := by decide +kernel
theorem dX12_shares_202 : decode cX12_shares 202 = .ok (.getfield 21, 3) := by decide +kernel
theorem dX12_shares_205 : decode cX12_shares 205 = .ok (.aload_n 0, 1) := by decide +kernel
theorem dX12_shares_206 : decode cX12_shares 206 = .ok (.getfield 381, 3) := by decide +kernel
theorem dX12_shares_209 : decode cX12_shares 209 = .ok (.iaload, 1) := by decide +kernel
theorem dX12_shares_210 : decode cX12_shares 210 = .ok (.invokevirtual 394, 3) := by decide +kernel
theorem dX12_shares_213 : decode cX12_shares 213 = .ok (.aload_n 0, 1) := by decide +kernel
theorem dX12_shares_214 : decode cX12_shares 214 = .ok (.iload 4, 2) := by decide +kernel
theorem dX12_shares_216 : decode cX12_shares 216 = .ok (.invokevirtual 636, 3) := by decide +kernel
theorem dX12_shares_219 : decode cX12_shares 219 = .ok (.aload_n 0, 1) := by decide +kernel
theorem dX12_shares_220 : decode cX12_shares 220 = .ok (.bipush 43, 2) := by decide +kernel
theorem dX12_shares_222 : decode cX12_shares 222 = .ok (.invokevirtual 412, 3) := by decide +kernel
theorem dX12_shares_225 : decode cX12_shares 225 = .ok (.istore 6, 2) := by decide +kernel
theorem dX12_shares_227 : decode cX12_shares 227 = .ok (.goto (-61), 3) := by decide +kernel
theorem dX12_shares_230 : decode cX12_shares 230 = .ok (.aload_n 0, 1) := by decide +kernel
theorem dX12_shares_231 : decode cX12_shares 231 = .ok (.bipush 59, 2) := by decide +kernel
theorem dX12_shares_233 : decode cX12_shares 233 = .ok (.invokevirtual 452, 3) := by decide +kernel
theorem dX12_shares_236 : decode cX12_shares 236 = .ok (.goto (-175), 3) := by decide +kernel
theorem dX12_shares_239 : decode cX12_shares 239 = .ok (.aload_n 0, 1) := by decide +kernel
theorem dX12_shares_240 : decode cX12_shares 240 = .ok (.getfield 384, 3) := by decide +kernel
theorem dX12_shares_243 : decode cX12_shares 243 = .ok (.ifCond .eq 11, 3) := by decide +kernel
theorem dX12_shares_246 : decode cX12_shares 246 = .ok (.bipush (-10), 2) := by decide +kernel
theorem dX12_shares_248 : decode cX12_shares 248 = .ok (.aload_n 0, 1) := by decide +kernel
theorem dX12_shares_249 : decode cX12_shares 249 = .ok (.getfield 387, 3) := by decide +kernel
theorem dX12_shares_252 : decode cX12_shares 252 = .ok (.isub, 1) := by decide +kernel
theorem dX12_shares_253 : decode cX12_shares 253 = .ok (.ireturn, 1) := by decide +kernel
theorem dX12_shares_254 : decode cX12_shares 254 = .ok (.iconst 0, 1) := by decide +kernel
theorem dX12_shares_255 : decode cX12_shares 255 = .ok (.istore_n 2, 1) := by decide +kernel
theorem dX12_shares_256 : decode cX12_shares 256 = .ok (.iload_n 2, 1) := by decide +kernel
theorem dX12_shares_257 : decode cX12_shares 257 = .ok (.iconst 3, 1) := by decide +kernel
theorem dX12_shares_258 : decode cX12_shares 258 = .ok (.if_icmp .ge 33, 3) := by decide +kernel
theorem dX12_shares_261 : decode cX12_shares 261 = .ok (.aload_n 0, 1) := by decide +kernel
theorem dX12_shares_262 : decode cX12_shares 262 = .ok (.getfield 280, 3) := by decide +kernel
theorem dX12_shares_265 : decode cX12_shares 265 = .ok (.iload_n 2, 1) := by decide +kernel
theorem dX12_shares_266 : decode cX12_shares 266 = .ok (.aload_n 0, 1) := by decide +kernel
theorem dX12_shares_267 : decode cX12_shares 267 = .ok (.getfield 289, 3) := by decide +kernel
theorem dX12_shares_270 : decode cX12_shares 270 = .ok (.iload_n 2, 1) := by decide +kernel
theorem dX12_shares_271 : decode cX12_shares 271 = .ok (.laload, 1) := by decide +kernel
theorem dX12_shares_272 : decode cX12_shares 272 = .ok (.lastore, 1) := by decide +kernel
theorem dX12_shares_273 : decode cX12_shares 273 = .ok (.aload_n 0, 1) := by decide +kernel
theorem dX12_shares_274 : decode cX12_shares 274 = .ok (.getfield 286, 3) := by decide +kernel
theorem dX12_shares_277 : decode cX12_shares 277 = .ok (.iload_n 2, 1) := by decide +kernel
theorem dX12_shares_278 : decode cX12_shares 278 = .ok (.aload_n 0, 1) := by decide +kernel
theorem dX12_shares_279 : decode cX12_shares 279 = .ok (.getfield 295, 3) := by decide +kernel
theorem dX12_shares_282 : decode cX12_shares 282 = .ok (.iload_n 2, 1) := by decide +kernel
theorem dX12_shares_283 : decode cX12_shares 283 = .ok (.laload, 1) := by decide +kernel
theorem dX12_shares_284 : decode cX12_shares 284 = .ok (.lastore, 1) := by decide +kernel
theorem dX12_shares_285 : decode cX12_shares 285 = .ok (.iinc 2 1, 3) := by decide +kernel
theorem dX12_shares_288 : decode cX12_shares 288 = .ok (.goto (-32), 3) := by decide +kernel
theorem dX12_shares_291 : decode cX12_shares 291 = .ok (.iconst 0, 1) := by decide +kernel
theorem dX12_shares_292 : decode cX12_shares 292 = .ok (.istore_n 2, 1) := by decide +kernel
theorem dX12_shares_293 : decode cX12_shares 293 = .ok (.iload_n 2, 1) := by decide +kernel
theorem dX12_shares_294 : decode cX12_shares 294 = .ok (.bipush 9, 2) := by decide +kernel
theorem dX12_shares_296 : decode cX12_shares 296 = .ok (.if_icmp .ge 21, 3) := by decide +kernel
theorem dX12_shares_299 : decode cX12_shares 299 = .ok (.aload_n 0, 1) := by decide +kernel
theorem dX12_shares_300 : decode cX12_shares 300 = .ok (.getfield 283, 3) := by decide +kernel
theorem dX12_shares_303 : decode cX12_shares 303 = .ok (.iload_n 2, 1) := by decide +kernel
theorem dX12_shares_304 : decode cX12_shares 304 = .ok (.aload_n 0, 1) := by decide +kernel
theorem dX12_shares_305 : decode cX12_shares 305 = .ok (.getfield 292, 3) := by decide +kernel
theorem dX12_shares_308 : decode cX12_shares 308 = .ok (.iload_n 2, 1) := by decide +kernel
theorem dX12_shares_309 : decode cX12_shares 309 = .ok (.laload, 1) := by decide +kernel
theorem dX12_shares_310 : decode cX12_shares 310 = .ok (.lastore, 1) := by decide +kernel
theorem dX12_shares_311 : decode cX12_shares 311 = .ok (.iinc 2 1, 3) := by decide +kernel
theorem dX12_shares_314 : decode cX12_shares 314 = .ok (.goto (-21), 3) := by decide +kernel
theorem dX12_shares_317 : decode cX12_shares 317 = .ok (.iload_n 1, 1) := by decide +kernel
theorem dX12_shares_318 : decode cX12_shares 318 = .ok (.ireturn, 1) := by decide +kernel
theorem dX12_term_0 : decode cX12_term 0 = .ok (.aload_n 0, 1) := by decide +kernel
theorem dX12_term_1 : decode cX12_term 1 = .ok (.getfield 21, 3) := by decide +kernel
theorem dX12_term_4 : decode cX12_term 4 = .ok (.aload_n 0, 1) := by decide +kernel
theorem dX12_term_5 : decode cX12_term 5 = .ok (.getfield 381, 3) := by decide +kernel
theorem dX12_term_8 : decode cX12_term 8 = .ok (.iaload, 1) := by decide +kernel
theorem dX12_term_9 : decode cX12_term 9 = .ok (.istore_n 2, 1) := by decide +kernel
theorem dX12_term_10 : decode cX12_term 10 = .ok (.aload_n 0, 1) := by decide +kernel
theorem dX12_term_11 : decode cX12_term 11 = .ok (.iconst 0, 1) := by decide +kernel
theorem dX12_term_12 : decode cX12_term 12 = .ok (.ldc_w 478, 3) := by decide +kernel
theorem dX12_term_15 : decode cX12_term 15 = .ok (.invokevirtual 415, 3) := by decide +kernel
theorem dX12_term_18 : decode cX12_term 18 = .ok (.istore_n 3, 1) := by decide +kernel
theorem dX12_term_19 : decode cX12_term 19 = .ok (.aload_n 0, 1) := by decide +kernel
theorem dX12_term_20 : decode cX12_term 20 = .ok (.bipush 37, 2) := by decide +kernel
theorem dX12_term_22 : decode cX12_term 22 = .ok (.invokevirtual 412, 3) := by decide +kernel
theorem dX12_term_25 : decode cX12_term 25 = .ok (.ifCond .eq 88, 3) := by decide +kernel
theorem dX12_term_28 : decode cX12_term 28 = .ok (.iload_n 3, 1) := by decide +kernel
theorem dX12_term_29 : decode cX12_term 29 = .ok (.bipush 100, 2) := by decide +kernel
theorem dX12_term_31 : decode cX12_term 31 = .ok (.if_icmp .le 9, 3) := by decide +kernel
theorem dX12_term_34 : decode cX12_term 34 = .ok (.aload_n 0, 1) := by decide +kernel
theorem dX12_term_35 : decode cX12_term 35 = .ok (.iconst 2, 1) := by decide +kernel
theorem dX12_term_36 : decode cX12_term 36 = .ok (.iload_n 2, 1) := by decide +kernel
theorem dX12_term_37 : decode cX12_term 37 = .ok (.invokevirtual 394, 3) := by decide +kernel
theorem dX12_term_40 : decode cX12_term 40 = .ok (.aload_n 0, 1) := by decide +kernel
theorem dX12_term_41 : decode cX12_term 41 = .ok (.ldc_w 639, 3) := by decide +kernel
theorem dX12_term_44 : decode cX12_term 44 = .ok (.invokevirtual 437, 3) := by decide +kernel
theorem dX12_term_47 : decode cX12_term 47 = .ok (.aload_n 0, 1) := by decide +kernel
theorem dX12_term_48 : decode cX12_term 48 = .ok (.ldc_w 641, 3) := by decide +kernel
theorem dX12_term_51 : decode cX12_term 51 = .ok (.invokevirtual 406, 3) := by decide +kernel
theorem dX12_term_54 : decode cX12_term 54 = .ok (.ifCond .eq 17, 3) := by decide +kernel
theorem dX12_term_57 : decode cX12_term 57 = .ok (.aload_n 0, 1) := by decide +kernel
theorem dX12_term_58 : decode cX12_term 58 = .ok (.getfield 289, 3) := by decide +kernel
theorem dX12_term_61 : decode cX12_term 61 = .ok (.iload_n 1, 1) := by decide +kernel
theorem dX12_term_62 : decode cX12_term 62 = .ok (.dup2, 1) := by decide +kernel
theorem dX12_term_63 : decode cX12_term 63 = .ok (.laload, 1) := by decide +kernel
theorem dX12_term_64 : decode cX12_term 64 = .ok (.iload_n 3, 1) := by decide +kernel
theorem dX12_term_65 : decode cX12_term 65 = .ok (.i2l, 1) := by decide +kernel
theorem dX12_term_66 : decode cX12_term 66 = .ok (.ladd, 1) := by decide +kernel
theorem dX12_term_67 : decode cX12_term 67 = .ok (.lastore, 1) := by decide +kernel
theorem dX12_term_68 : decode cX12_term 68 = .ok (.goto 56, 3) := by decide +kernel
theorem dX12_term_71 : decode cX12_term 71 = .ok (.aload_n 0, 1) := by decide +kernel
theorem dX12_term_72 : decode cX12_term 72 = .ok (.iconst 0, 1) := by decide +kernel
theorem dX12_term_73 : decode cX12_term 73 = .ok (.iconst 2, 1) := by decide +kernel
theorem dX12_term_74 : decode cX12_term 74 = .ok (.invokevirtual 415, 3) := by decide +kernel
theorem dX12_term_77 : decode cX12_term 77 = .ok (.istore 4, 2) := by decide +kernel
theorem dX12_term_79 : decode cX12_term 79 = .ok (.aload_n 0, 1) := by decide +kernel
theorem dX12_term_80 : decode cX12_term 80 = .ok (.getfield 292, 3) := by decide +kernel
theorem dX12_term_83 : decode cX12_term 83 = .ok (.iconst 3, 1) := by decide +kernel
theorem dX12_term_84 : decode cX12_term 84 = .ok (.iload_n 1, 1) := by decide +kernel
theorem dX12_term_85 : decode cX12_term 85 = .ok (.imul, 1) := by decide +kernel
theorem dX12_term_86 : decode cX12_term 86 = .ok (.iload 4, 2) := by decide +kernel
theorem dX12_term_88 : decode cX12_term 88 = .ok (.ifCond .lt 14, 3) := by decide +kernel
theorem dX12_term_91 : decode cX12_term 91 = .ok (.iload 4, 2) := by decide +kernel
theorem dX12_term_93 : decode cX12_term 93 = .ok (.iconst 2, 1) := by decide +kernel
theorem dX12_term_94 : decode cX12_term 94 = .ok (.if_icmp .gt 8, 3) := by decide +kernel
theorem dX12_term_97 : decode cX12_term 97 = .ok (.iload 4, 2) := by decide +kernel
theorem dX12_term_99 : decode cX12_term 99 = .ok (.goto 4, 3) := by decide +kernel
theorem dX12_term_102 : decode cX12_term 102 = .ok (.iconst 0, 1) := by decide +kernel
theorem dX12_term_103 : decode cX12_term 103 = .ok (.iadd, 1) := by decide +kernel
theorem dX12_term_104 : decode cX12_term 104 = .ok (.dup2, 1) := by decide +kernel
theorem dX12_term_105 : decode cX12_term 105 = .ok (.laload, 1) := by decide +kernel
theorem dX12_term_106 : decode cX12_term 106 = .ok (.iload_n 3, 1) := by decide +kernel
theorem dX12_term_107 : decode cX12_term 107 = .ok (.i2l, 1) := by decide +kernel
theorem dX12_term_108 : decode cX12_term 108 = .ok (.ladd, 1) := by decide +kernel
theorem dX12_term_109 : decode cX12_term 109 = .ok (.lastore, 1) := by decide +kernel
theorem dX12_term_110 : decode cX12_term 110 = .ok (.goto 14, 3) := by decide +kernel
theorem dX12_term_113 : decode cX12_term 113 = .ok (.aload_n 0, 1) := by decide +kernel
theorem dX12_term_114 : decode cX12_term 114 = .ok (.getfield 295, 3) := by decide +kernel
theorem dX12_term_117 : decode cX12_term 117 = .ok (.iload_n 1, 1) := by decide +kernel
theorem dX12_term_118 : decode cX12_term 118 = .ok (.dup2, 1) := by decide +kernel
theorem dX12_term_119 : decode cX12_term 119 = .ok (.laload, 1) := by decide +kernel
theorem dX12_term_120 : decode cX12_term 120 = .ok (.iload_n 3, 1) := by decide +kernel
theorem dX12_term_121 : decode cX12_term 121 = .ok (.i2l, 1) := by decide +kernel
theorem dX12_term_122 : decode cX12_term 122 = .ok (.ladd, 1) := by decide +kernel
theorem dX12_term_123 : decode cX12_term 123 = .ok (.lastore, 1) := by decide +kernel
theorem dX12_term_124 : decode cX12_term 124 = .ok (.return_, 1) := by decide +kernel
theorem dX12_three_0 : decode cX12_three 0 = .ok (.lload_n 0, 1) := by decide +kernel
theorem dX12_three_1 : decode cX12_three 1 = .ok (.lload 8, 2) := by decide +kernel
theorem dX12_three_3 : decode cX12_three 3 = .ok (.lload 16, 2) := by decide +kernel
theorem dX12_three_5 : decode cX12_three 5 = .ok (.lmul, 1) := by decide +kernel
theorem dX12_three_6 : decode cX12_three 6 = .ok (.lload 10, 2) := by decide +kernel
theorem dX12_three_8 : decode cX12_three 8 = .ok (.lload 14, 2) := by decide +kernel
theorem dX12_three_10 : decode cX12_three 10 = .ok (.lmul, 1) := by decide +kernel
theorem dX12_three_11 : decode cX12_three 11 = .ok (.lsub, 1) := by decide +kernel
theorem dX12_three_12 : decode cX12_three 12 = .ok (.lmul, 1) := by decide +kernel
theorem dX12_three_13 : decode cX12_three 13 = .ok (.lload_n 2, 1) := by decide +kernel
theorem dX12_three_14 : decode cX12_three 14 = .ok (.lload 6, 2) := by decide +kernel
theorem dX12_three_16 : decode cX12_three 16 = .ok (.lload 16, 2) := by decide +kernel
theorem dX12_three_18 : decode cX12_three 18 = .ok (.lmul, 1) := by decide +kernel
theorem dX12_three_19 : decode cX12_three 19 = .ok (.lload 10, 2) := by decide +kernel
theorem dX12_three_21 : decode cX12_three 21 = .ok (.lload 12, 2) := by decide +kernel
theorem dX12_three_23 : decode cX12_three 23 = .ok (.lmul, 1) := by decide +kernel
theorem dX12_three_24 : decode cX12_three 24 = .ok (.lsub, 1) := by decide +kernel
theorem dX12_three_25 : decode cX12_three 25 = .ok (.lmul, 1) := by decide +kernel
theorem dX12_three_26 : decode cX12_three 26 = .ok (.lsub, 1) := by decide +kernel
theorem dX12_three_27 : decode cX12_three 27 = .ok (.lload 4, 2) := by decide +kernel
theorem dX12_three_29 : decode cX12_three 29 = .ok (.lload 6, 2) := by decide +kernel
theorem dX12_three_31 : decode cX12_three 31 = .ok (.lload 14, 2) := by decide +kernel
theorem dX12_three_33 : decode cX12_three 33 = .ok (.lmul, 1) := by decide +kernel
theorem dX12_three_34 : decode cX12_three 34 = .ok (.lload 8, 2) := by decide +kernel
theorem dX12_three_36 : decode cX12_three 36 = .ok (.lload 12, 2) := by decide +kernel
theorem dX12_three_38 : decode cX12_three 38 = .ok (.lmul, 1) := by decide +kernel
theorem dX12_three_39 : decode cX12_three 39 = .ok (.lsub, 1) := by decide +kernel
theorem dX12_three_40 : decode cX12_three 40 = .ok (.lmul, 1) := by decide +kernel
theorem dX12_three_41 : decode cX12_three 41 = .ok (.ladd, 1) := by decide +kernel
theorem dX12_three_42 : decode cX12_three 42 = .ok (.lreturn, 1) := by decide +kernel
theorem dX12_common_0 : decode cX12_common 0 = .ok (.lload_n 0, 1) := by decide +kernel
theorem dX12_common_1 : decode cX12_common 1 = .ok (.lstore 4, 2) := by decide +kernel
theorem dX12_common_3 : decode cX12_common 3 = .ok (.lload_n 2, 1) := by decide +kernel
theorem dX12_common_4 : decode cX12_common 4 = .ok (.lstore 6, 2) := by decide +kernel
theorem dX12_common_6 : decode cX12_common 6 = .ok (.lload 6, 2) := by decide +kernel
theorem dX12_common_8 : decode cX12_common 8 = .ok (.lconst 0, 1) := by decide +kernel
theorem dX12_common_9 : decode cX12_common 9 = .ok (.lcmp, 1) := by decide +kernel
theorem dX12_common_10 : decode cX12_common 10 = .ok (.ifCond .eq 21, 3) := by decide +kernel
theorem dX12_common_13 : decode cX12_common 13 = .ok (.lload 4, 2) := by decide +kernel
theorem dX12_common_15 : decode cX12_common 15 = .ok (.lload 6, 2) := by decide +kernel
theorem dX12_common_17 : decode cX12_common 17 = .ok (.lrem, 1) := by decide +kernel
theorem dX12_common_18 : decode cX12_common 18 = .ok (.lstore 8, 2) := by decide +kernel
theorem dX12_common_20 : decode cX12_common 20 = .ok (.lload 6, 2) := by decide +kernel
theorem dX12_common_22 : decode cX12_common 22 = .ok (.lstore 4, 2) := by decide +kernel
theorem dX12_common_24 : decode cX12_common 24 = .ok (.lload 8, 2) := by decide +kernel
theorem dX12_common_26 : decode cX12_common 26 = .ok (.lstore 6, 2) := by decide +kernel
theorem dX12_common_28 : decode cX12_common 28 = .ok (.goto (-22), 3) := by decide +kernel
theorem dX12_common_31 : decode cX12_common 31 = .ok (.lload 4, 2) := by decide +kernel
theorem dX12_common_33 : decode cX12_common 33 = .ok (.lreturn, 1) := by decide +kernel
theorem dX12_share_0 : decode cX12_share 0 = .ok (.iload_n 1, 1) := by decide +kernel
theorem dX12_share_1 : decode cX12_share 1 = .ok (.ifCond .lt 17, 3) := by decide +kernel
theorem dX12_share_4 : decode cX12_share 4 = .ok (.iload_n 1, 1) := by decide +kernel
theorem dX12_share_5 : decode cX12_share 5 = .ok (.iconst 2, 1) := by decide +kernel
theorem dX12_share_6 : decode cX12_share 6 = .ok (.if_icmp .gt 12, 3) := by decide +kernel
theorem dX12_share_9 : decode cX12_share 9 = .ok (.iload_n 2, 1) := by decide +kernel
theorem dX12_share_10 : decode cX12_share 10 = .ok (.ifCond .lt 8, 3) := by decide +kernel
theorem dX12_share_13 : decode cX12_share 13 = .ok (.iload_n 2, 1) := by decide +kernel
theorem dX12_share_14 : decode cX12_share 14 = .ok (.iconst 3, 1) := by decide +kernel
theorem dX12_share_15 : decode cX12_share 15 = .ok (.if_icmp .le 7, 3) := by decide +kernel
theorem dX12_share_18 : decode cX12_share 18 = .ok (.ldc2_w 642, 3) := by decide +kernel
theorem dX12_share_21 : decode cX12_share 21 = .ok (.lreturn, 1) := by decide +kernel
theorem dX12_share_22 : decode cX12_share 22 = .ok (.ldc2_w 603, 3) := by decide +kernel
theorem dX12_share_25 : decode cX12_share 25 = .ok (.aload_n 0, 1) := by decide +kernel
theorem dX12_share_26 : decode cX12_share 26 = .ok (.getfield 283, 3) := by decide +kernel
theorem dX12_share_29 : decode cX12_share 29 = .ok (.iconst 0, 1) := by decide +kernel
theorem dX12_share_30 : decode cX12_share 30 = .ok (.laload, 1) := by decide +kernel
theorem dX12_share_31 : decode cX12_share 31 = .ok (.lsub, 1) := by decide +kernel
theorem dX12_share_32 : decode cX12_share 32 = .ok (.lstore_n 3, 1) := by decide +kernel
theorem dX12_share_33 : decode cX12_share 33 = .ok (.aload_n 0, 1) := by decide +kernel
theorem dX12_share_34 : decode cX12_share 34 = .ok (.getfield 283, 3) := by decide +kernel
theorem dX12_share_37 : decode cX12_share 37 = .ok (.iconst 1, 1) := by decide +kernel
theorem dX12_share_38 : decode cX12_share 38 = .ok (.laload, 1) := by decide +kernel
theorem dX12_share_39 : decode cX12_share 39 = .ok (.lneg, 1) := by decide +kernel
theorem dX12_share_40 : decode cX12_share 40 = .ok (.lstore 5, 2) := by decide +kernel
theorem dX12_share_42 : decode cX12_share 42 = .ok (.aload_n 0, 1) := by decide +kernel
theorem dX12_share_43 : decode cX12_share 43 = .ok (.getfield 283, 3) := by decide +kernel
theorem dX12_share_46 : decode cX12_share 46 = .ok (.iconst 2, 1) := by decide +kernel
theorem dX12_share_47 : decode cX12_share 47 = .ok (.laload, 1) := by decide +kernel
theorem dX12_share_48 : decode cX12_share 48 = .ok (.lneg, 1) := by decide +kernel
theorem dX12_share_49 : decode cX12_share 49 = .ok (.lstore 7, 2) := by decide +kernel
theorem dX12_share_51 : decode cX12_share 51 = .ok (.aload_n 0, 1) := by decide +kernel
theorem dX12_share_52 : decode cX12_share 52 = .ok (.getfield 283, 3) := by decide +kernel
theorem dX12_share_55 : decode cX12_share 55 = .ok (.iconst 3, 1) := by decide +kernel
theorem dX12_share_56 : decode cX12_share 56 = .ok (.laload, 1) := by decide +kernel
theorem dX12_share_57 : decode cX12_share 57 = .ok (.lneg, 1) := by decide +kernel
theorem dX12_share_58 : decode cX12_share 58 = .ok (.lstore 9, 2) := by decide +kernel
theorem dX12_share_60 : decode cX12_share 60 = .ok (.ldc2_w 603, 3) := by decide +kernel
theorem dX12_share_63 : decode cX12_share 63 = .ok (.aload_n 0, 1) := by decide +kernel
theorem dX12_share_64 : decode cX12_share 64 = .ok (.getfield 283, 3) := by decide +kernel
theorem dX12_share_67 : decode cX12_share 67 = .ok (.iconst 4, 1) := by decide +kernel
theorem dX12_share_68 : decode cX12_share 68 = .ok (.laload, 1) := by decide +kernel
theorem dX12_share_69 : decode cX12_share 69 = .ok (.lsub, 1) := by decide +kernel
theorem dX12_share_70 : decode cX12_share 70 = .ok (.lstore 11, 2) := by decide +kernel
theorem dX12_share_72 : decode cX12_share 72 = .ok (.aload_n 0, 1) := by decide +kernel
theorem dX12_share_73 : decode cX12_share 73 = .ok (.getfield 283, 3) := by decide +kernel
theorem dX12_share_76 : decode cX12_share 76 = .ok (.iconst 5, 1) := by decide +kernel
theorem dX12_share_77 : decode cX12_share 77 = .ok (.laload, 1) := by decide +kernel
theorem dX12_share_78 : decode cX12_share 78 = .ok (.lneg, 1) := by decide +kernel
theorem dX12_share_79 : decode cX12_share 79 = .ok (.lstore 13, 2) := by decide +kernel
theorem dX12_share_81 : decode cX12_share 81 = .ok (.aload_n 0, 1) := by decide +kernel
theorem dX12_share_82 : decode cX12_share 82 = .ok (.getfield 283, 3) := by decide +kernel
theorem dX12_share_85 : decode cX12_share 85 = .ok (.bipush 6, 2) := by decide +kernel
theorem dX12_share_87 : decode cX12_share 87 = .ok (.laload, 1) := by decide +kernel
theorem dX12_share_88 : decode cX12_share 88 = .ok (.lneg, 1) := by decide +kernel
theorem dX12_share_89 : decode cX12_share 89 = .ok (.lstore 15, 2) := by decide +kernel
theorem dX12_share_91 : decode cX12_share 91 = .ok (.aload_n 0, 1) := by decide +kernel
theorem dX12_share_92 : decode cX12_share 92 = .ok (.getfield 283, 3) := by decide +kernel
theorem dX12_share_95 : decode cX12_share 95 = .ok (.bipush 7, 2) := by decide +kernel
theorem dX12_share_97 : decode cX12_share 97 = .ok (.laload, 1) := by decide +kernel
theorem dX12_share_98 : decode cX12_share 98 = .ok (.lneg, 1) := by decide +kernel
theorem dX12_share_99 : decode cX12_share 99 = .ok (.lstore 17, 2) := by decide +kernel
theorem dX12_share_101 : decode cX12_share 101 = .ok (.ldc2_w 603, 3) := by decide +kernel
theorem dX12_share_104 : decode cX12_share 104 = .ok (.aload_n 0, 1) := by decide +kernel
theorem dX12_share_105 : decode cX12_share 105 = .ok (.getfield 283, 3) := by decide +kernel
theorem dX12_share_108 : decode cX12_share 108 = .ok (.bipush 8, 2) := by decide +kernel
theorem dX12_share_110 : decode cX12_share 110 = .ok (.laload, 1) := by decide +kernel
theorem dX12_share_111 : decode cX12_share 111 = .ok (.lsub, 1) := by decide +kernel
theorem dX12_share_112 : decode cX12_share 112 = .ok (.lstore 19, 2) := by decide +kernel
theorem dX12_share_114 : decode cX12_share 114 = .ok (.aload_n 0, 1) := by decide +kernel
theorem dX12_share_115 : decode cX12_share 115 = .ok (.getfield 280, 3) := by decide +kernel
theorem dX12_share_118 : decode cX12_share 118 = .ok (.iconst 0, 1) := by decide +kernel
theorem dX12_share_119 : decode cX12_share 119 = .ok (.laload, 1) := by decide +kernel
theorem dX12_share_120 : decode cX12_share 120 = .ok (.aload_n 0, 1) := by decide +kernel
theorem dX12_share_121 : decode cX12_share 121 = .ok (.getfield 629, 3) := by decide +kernel
theorem dX12_share_124 : decode cX12_share 124 = .ok (.lmul, 1) := by decide +kernel
theorem dX12_share_125 : decode cX12_share 125 = .ok (.ldc2_w 603, 3) := by decide +kernel
theorem dX12_share_128 : decode cX12_share 128 = .ok (.aload_n 0, 1) := by decide +kernel
theorem dX12_share_129 : decode cX12_share 129 = .ok (.getfield 286, 3) := by decide +kernel
theorem dX12_share_132 : decode cX12_share 132 = .ok (.iconst 0, 1) := by decide +kernel
theorem dX12_share_133 : decode cX12_share 133 = .ok (.laload, 1) := by decide +kernel
theorem dX12_share_134 : decode cX12_share 134 = .ok (.lmul, 1) := by decide +kernel
theorem dX12_share_135 : decode cX12_share 135 = .ok (.ladd, 1) := by decide +kernel
theorem dX12_share_136 : decode cX12_share 136 = .ok (.lstore 21, 2) := by decide +kernel
theorem dX12_share_138 : decode cX12_share 138 = .ok (.aload_n 0, 1) := by decide +kernel
theorem dX12_share_139 : decode cX12_share 139 = .ok (.getfield 280, 3) := by decide +kernel
theorem dX12_share_142 : decode cX12_share 142 = .ok (.iconst 1, 1) := by decide +kernel
theorem dX12_share_143 : decode cX12_share 143 = .ok (.laload, 1) := by decide +kernel
theorem dX12_share_144 : decode cX12_share 144 = .ok (.aload_n 0, 1) := by decide +kernel
theorem dX12_share_145 : decode cX12_share 145 = .ok (.getfield 629, 3) := by decide +kernel
theorem dX12_share_148 : decode cX12_share 148 = .ok (.lmul, 1) := by decide +kernel
theorem dX12_share_149 : decode cX12_share 149 = .ok (.ldc2_w 603, 3) := by decide +kernel
theorem dX12_share_152 : decode cX12_share 152 = .ok (.aload_n 0, 1) := by decide +kernel
theorem dX12_share_153 : decode cX12_share 153 = .ok (.getfield 286, 3) := by decide +kernel
theorem dX12_share_156 : decode cX12_share 156 = .ok (.iconst 1, 1) := by decide +kernel
theorem dX12_share_157 : decode cX12_share 157 = .ok (.laload, 1) := by decide +kernel
theorem dX12_share_158 : decode cX12_share 158 = .ok (.lmul, 1) := by decide +kernel
theorem dX12_share_159 : decode cX12_share 159 = .ok (.ladd, 1) := by decide +kernel
theorem dX12_share_160 : decode cX12_share 160 = .ok (.lstore 23, 2) := by decide +kernel
theorem dX12_share_162 : decode cX12_share 162 = .ok (.aload_n 0, 1) := by decide +kernel
theorem dX12_share_163 : decode cX12_share 163 = .ok (.getfield 280, 3) := by decide +kernel
theorem dX12_share_166 : decode cX12_share 166 = .ok (.iconst 2, 1) := by decide +kernel
theorem dX12_share_167 : decode cX12_share 167 = .ok (.laload, 1) := by decide +kernel
theorem dX12_share_168 : decode cX12_share 168 = .ok (.aload_n 0, 1) := by decide +kernel
theorem dX12_share_169 : decode cX12_share 169 = .ok (.getfield 629, 3) := by decide +kernel
theorem dX12_share_172 : decode cX12_share 172 = .ok (.lmul, 1) := by decide +kernel
theorem dX12_share_173 : decode cX12_share 173 = .ok (.ldc2_w 603, 3) := by decide +kernel
theorem dX12_share_176 : decode cX12_share 176 = .ok (.aload_n 0, 1) := by decide +kernel
theorem dX12_share_177 : decode cX12_share 177 = .ok (.getfield 286, 3) := by decide +kernel
theorem dX12_share_180 : decode cX12_share 180 = .ok (.iconst 2, 1) := by decide +kernel
theorem dX12_share_181 : decode cX12_share 181 = .ok (.laload, 1) := by decide +kernel
theorem dX12_share_182 : decode cX12_share 182 = .ok (.lmul, 1) := by decide +kernel
theorem dX12_share_183 : decode cX12_share 183 = .ok (.ladd, 1) := by decide +kernel
theorem dX12_share_184 : decode cX12_share 184 = .ok (.lstore 25, 2) := by decide +kernel
theorem dX12_share_186 : decode cX12_share 186 = .ok (.lload_n 3, 1) := by decide +kernel
theorem dX12_share_187 : decode cX12_share 187 = .ok (.lload 5, 2) := by decide +kernel
theorem dX12_share_189 : decode cX12_share 189 = .ok (.lload 7, 2) := by decide +kernel
theorem dX12_share_191 : decode cX12_share 191 = .ok (.lload 9, 2) := by decide +kernel
theorem dX12_share_193 : decode cX12_share 193 = .ok (.lload 11, 2) := by decide +kernel
theorem dX12_share_195 : decode cX12_share 195 = .ok (.lload 13, 2) := by decide +kernel
theorem dX12_share_197 : decode cX12_share 197 = .ok (.lload 15, 2) := by decide +kernel
theorem dX12_share_199 : decode cX12_share 199 = .ok (.lload 17, 2) := by decide +kernel
theorem dX12_share_201 : decode cX12_share 201 = .ok (.lload 19, 2) := by decide +kernel
theorem dX12_share_203 : decode cX12_share 203 = .ok (.invokestatic 644, 3) := by decide +kernel
theorem dX12_share_206 : decode cX12_share 206 = .ok (.lstore 27, 2) := by decide +kernel
theorem dX12_share_208 : decode cX12_share 208 = .ok (.lload 27, 2) := by decide +kernel
theorem dX12_share_210 : decode cX12_share 210 = .ok (.lconst 0, 1) := by decide +kernel
theorem dX12_share_211 : decode cX12_share 211 = .ok (.lcmp, 1) := by decide +kernel
theorem dX12_share_212 : decode cX12_share 212 = .ok (.ifCond .ne 5, 3) := by decide +kernel
theorem dX12_share_215 : decode cX12_share 215 = .ok (.lconst 0, 1) := by decide +kernel
theorem dX12_share_216 : decode cX12_share 216 = .ok (.lreturn, 1) := by decide +kernel
theorem dX12_share_217 : decode cX12_share 217 = .ok (.iload_n 2, 1) := by decide +kernel
theorem dX12_share_218 : decode cX12_share 218 = .ok (.iconst 3, 1) := by decide +kernel
theorem dX12_share_219 : decode cX12_share 219 = .ok (.if_icmp .ne 5, 3) := by decide +kernel
theorem dX12_share_222 : decode cX12_share 222 = .ok (.lconst 1, 1) := by decide +kernel
theorem dX12_share_223 : decode cX12_share 223 = .ok (.lreturn, 1) := by decide +kernel
theorem dX12_share_224 : decode cX12_share 224 = .ok (.iload_n 1, 1) := by decide +kernel
theorem dX12_share_225 : decode cX12_share 225 = .ok (.ifCond .ne 27, 3) := by decide +kernel
theorem dX12_share_228 : decode cX12_share 228 = .ok (.lload 21, 2) := by decide +kernel
theorem dX12_share_230 : decode cX12_share 230 = .ok (.lload 5, 2) := by decide +kernel
theorem dX12_share_232 : decode cX12_share 232 = .ok (.lload 7, 2) := by decide +kernel
theorem dX12_share_234 : decode cX12_share 234 = .ok (.lload 23, 2) := by decide +kernel
theorem dX12_share_236 : decode cX12_share 236 = .ok (.lload 11, 2) := by decide +kernel
theorem dX12_share_238 : decode cX12_share 238 = .ok (.lload 13, 2) := by decide +kernel
theorem dX12_share_240 : decode cX12_share 240 = .ok (.lload 25, 2) := by decide +kernel
theorem dX12_share_242 : decode cX12_share 242 = .ok (.lload 17, 2) := by decide +kernel
theorem dX12_share_244 : decode cX12_share 244 = .ok (.lload 19, 2) := by decide +kernel
theorem dX12_share_246 : decode cX12_share 246 = .ok (.invokestatic 644, 3) := by decide +kernel
theorem dX12_share_249 : decode cX12_share 249 = .ok (.goto 51, 3) := by decide +kernel
theorem dX12_share_252 : decode cX12_share 252 = .ok (.iload_n 1, 1) := by decide +kernel
theorem dX12_share_253 : decode cX12_share 253 = .ok (.iconst 1, 1) := by decide +kernel
theorem dX12_share_254 : decode cX12_share 254 = .ok (.if_icmp .ne 26, 3) := by decide +kernel
theorem dX12_share_257 : decode cX12_share 257 = .ok (.lload_n 3, 1) := by decide +kernel
theorem dX12_share_258 : decode cX12_share 258 = .ok (.lload 21, 2) := by decide +kernel
theorem dX12_share_260 : decode cX12_share 260 = .ok (.lload 7, 2) := by decide +kernel
theorem dX12_share_262 : decode cX12_share 262 = .ok (.lload 9, 2) := by decide +kernel
theorem dX12_share_264 : decode cX12_share 264 = .ok (.lload 23, 2) := by decide +kernel
theorem dX12_share_266 : decode cX12_share 266 = .ok (.lload 13, 2) := by decide +kernel
theorem dX12_share_268 : decode cX12_share 268 = .ok (.lload 15, 2) := by decide +kernel
theorem dX12_share_270 : decode cX12_share 270 = .ok (.lload 25, 2) := by decide +kernel
theorem dX12_share_272 : decode cX12_share 272 = .ok (.lload 19, 2) := by decide +kernel
theorem dX12_share_274 : decode cX12_share 274 = .ok (.invokestatic 644, 3) := by decide +kernel
theorem dX12_share_277 : decode cX12_share 277 = .ok (.goto 23, 3) := by decide +kernel
theorem dX12_share_280 : decode cX12_share 280 = .ok (.lload_n 3, 1) := by decide +kernel
theorem dX12_share_281 : decode cX12_share 281 = .ok (.lload 5, 2) := by decide +kernel
theorem dX12_share_283 : decode cX12_share 283 = .ok (.lload 21, 2) := by decide +kernel
theorem dX12_share_285 : decode cX12_share 285 = .ok (.lload 9, 2) := by decide +kernel
theorem dX12_share_287 : decode cX12_share 287 = .ok (.lload 11, 2) := by decide +kernel
theorem dX12_share_289 : decode cX12_share 289 = .ok (.lload 23, 2) := by decide +kernel
theorem dX12_share_291 : decode cX12_share 291 = .ok (.lload 15, 2) := by decide +kernel
theorem dX12_share_293 : decode cX12_share 293 = .ok (.lload 17, 2) := by decide +kernel
theorem dX12_share_295 : decode cX12_share 295 = .ok (.lload 25, 2) := by decide +kernel
theorem dX12_share_297 : decode cX12_share 297 = .ok (.invokestatic 644, 3) := by decide +kernel
theorem dX12_share_300 : decode cX12_share 300 = .ok (.lstore 29, 2) := by decide +kernel
theorem dX12_share_302 : decode cX12_share 302 = .ok (.lload 27, 2) := by decide +kernel
theorem dX12_share_304 : decode cX12_share 304 = .ok (.lconst 0, 1) := by decide +kernel
theorem dX12_share_305 : decode cX12_share 305 = .ok (.lcmp, 1) := by decide +kernel
theorem dX12_share_306 : decode cX12_share 306 = .ok (.ifCond .ge 13, 3) := by decide +kernel
theorem dX12_share_309 : decode cX12_share 309 = .ok (.lload 27, 2) := by decide +kernel
theorem dX12_share_311 : decode cX12_share 311 = .ok (.lneg, 1) := by decide +kernel
theorem dX12_share_312 : decode cX12_share 312 = .ok (.lstore 27, 2) := by decide +kernel
theorem dX12_share_314 : decode cX12_share 314 = .ok (.lload 29, 2) := by decide +kernel
theorem dX12_share_316 : decode cX12_share 316 = .ok (.lneg, 1) := by decide +kernel
theorem dX12_share_317 : decode cX12_share 317 = .ok (.lstore 29, 2) := by decide +kernel
theorem dX12_share_319 : decode cX12_share 319 = .ok (.lload 29, 2) := by decide +kernel
theorem dX12_share_321 : decode cX12_share 321 = .ok (.lload 27, 2) := by decide +kernel
theorem dX12_share_323 : decode cX12_share 323 = .ok (.ldiv, 1) := by decide +kernel
theorem dX12_share_324 : decode cX12_share 324 = .ok (.lstore 31, 2) := by decide +kernel
theorem dX12_share_326 : decode cX12_share 326 = .ok (.lload 29, 2) := by decide +kernel
theorem dX12_share_328 : decode cX12_share 328 = .ok (.lload 27, 2) := by decide +kernel
theorem dX12_share_330 : decode cX12_share 330 = .ok (.lrem, 1) := by decide +kernel
theorem dX12_share_331 : decode cX12_share 331 = .ok (.lstore 33, 2) := by decide +kernel
theorem dX12_share_333 : decode cX12_share 333 = .ok (.lload 33, 2) := by decide +kernel
theorem dX12_share_335 : decode cX12_share 335 = .ok (.lconst 0, 1) := by decide +kernel
theorem dX12_share_336 : decode cX12_share 336 = .ok (.lcmp, 1) := by decide +kernel
theorem dX12_share_337 : decode cX12_share 337 = .ok (.ifCond .ge 16, 3) := by decide +kernel
theorem dX12_share_340 : decode cX12_share 340 = .ok (.lload 31, 2) := by decide +kernel
theorem dX12_share_342 : decode cX12_share 342 = .ok (.lconst 1, 1) := by decide +kernel
theorem dX12_share_343 : decode cX12_share 343 = .ok (.lsub, 1) := by decide +kernel
theorem dX12_share_344 : decode cX12_share 344 = .ok (.lstore 31, 2) := by decide +kernel
theorem dX12_share_346 : decode cX12_share 346 = .ok (.lload 33, 2) := by decide +kernel
theorem dX12_share_348 : decode cX12_share 348 = .ok (.lload 27, 2) := by decide +kernel
theorem dX12_share_350 : decode cX12_share 350 = .ok (.ladd, 1) := by decide +kernel
theorem dX12_share_351 : decode cX12_share 351 = .ok (.lstore 33, 2) := by decide +kernel
theorem dX12_share_353 : decode cX12_share 353 = .ok (.iload_n 2, 1) := by decide +kernel
theorem dX12_share_354 : decode cX12_share 354 = .ok (.ifCond .ne 6, 3) := by decide +kernel
theorem dX12_share_357 : decode cX12_share 357 = .ok (.lload 31, 2) := by decide +kernel
theorem dX12_share_359 : decode cX12_share 359 = .ok (.lreturn, 1) := by decide +kernel
theorem dX12_share_360 : decode cX12_share 360 = .ok (.lload 33, 2) := by decide +kernel
theorem dX12_share_362 : decode cX12_share 362 = .ok (.lload 27, 2) := by decide +kernel
theorem dX12_share_364 : decode cX12_share 364 = .ok (.invokestatic 648, 3) := by decide +kernel
theorem dX12_share_367 : decode cX12_share 367 = .ok (.lstore 35, 2) := by decide +kernel
theorem dX12_share_369 : decode cX12_share 369 = .ok (.iload_n 2, 1) := by decide +kernel
theorem dX12_share_370 : decode cX12_share 370 = .ok (.iconst 1, 1) := by decide +kernel
theorem dX12_share_371 : decode cX12_share 371 = .ok (.if_icmp .ne 11, 3) := by decide +kernel
theorem dX12_share_374 : decode cX12_share 374 = .ok (.lload 33, 2) := by decide +kernel
theorem dX12_share_376 : decode cX12_share 376 = .ok (.lload 35, 2) := by decide +kernel
theorem dX12_share_378 : decode cX12_share 378 = .ok (.ldiv, 1) := by decide +kernel
theorem dX12_share_379 : decode cX12_share 379 = .ok (.goto 8, 3) := by decide +kernel
theorem dX12_share_382 : decode cX12_share 382 = .ok (.lload 27, 2) := by decide +kernel
theorem dX12_share_384 : decode cX12_share 384 = .ok (.lload 35, 2) := by decide +kernel
theorem dX12_share_386 : decode cX12_share 386 = .ok (.ldiv, 1) := by decide +kernel
theorem dX12_share_387 : decode cX12_share 387 = .ok (.lreturn, 1) := by decide +kernel
theorem dX12_way_0 : decode cX12_way 0 = .ok (.iload_n 1, 1) := by decide +kernel
theorem dX12_way_1 : decode cX12_way 1 = .ok (.ifCond .lt 57, 3) := by decide +kernel
theorem dX12_way_4 : decode cX12_way 4 = .ok (.iload_n 1, 1) := by decide +kernel
theorem dX12_way_5 : decode cX12_way 5 = .ok (.bipush 11, 2) := by decide +kernel
theorem dX12_way_7 : decode cX12_way 7 = .ok (.if_icmp .gt 51, 3) := by decide +kernel
theorem dX12_way_10 : decode cX12_way 10 = .ok (.iload_n 2, 1) := by decide +kernel
theorem dX12_way_11 : decode cX12_way 11 = .ok (.ifCond .lt 47, 3) := by decide +kernel
theorem dX12_way_14 : decode cX12_way 14 = .ok (.iload_n 2, 1) := by decide +kernel
theorem dX12_way_15 : decode cX12_way 15 = .ok (.bipush 11, 2) := by decide +kernel
theorem dX12_way_17 : decode cX12_way 17 = .ok (.if_icmp .gt 41, 3) := by decide +kernel
theorem dX12_way_20 : decode cX12_way 20 = .ok (.iload_n 1, 1) := by decide +kernel
theorem dX12_way_21 : decode cX12_way 21 = .ok (.iload_n 2, 1) := by decide +kernel
theorem dX12_way_22 : decode cX12_way 22 = .ok (.if_icmp .eq 36, 3) := by decide +kernel
theorem dX12_way_25 : decode cX12_way 25 = .ok (.iload_n 3, 1) := by decide +kernel
theorem dX12_way_26 : decode cX12_way 26 = .ok (.iconst 1, 1) := by decide +kernel
theorem dX12_way_27 : decode cX12_way 27 = .ok (.if_icmp .lt 31, 3) := by decide +kernel
theorem dX12_way_30 : decode cX12_way 30 = .ok (.iload_n 3, 1) := by decide +kernel
theorem dX12_way_31 : decode cX12_way 31 = .ok (.bipush 50, 2) := by decide +kernel
theorem dX12_way_33 : decode cX12_way 33 = .ok (.if_icmp .gt 25, 3) := by decide +kernel
theorem dX12_way_36 : decode cX12_way 36 = .ok (.iload 4, 2) := by decide +kernel
theorem dX12_way_38 : decode cX12_way 38 = .ok (.iconst 1, 1) := by decide +kernel
theorem dX12_way_39 : decode cX12_way 39 = .ok (.if_icmp .lt 19, 3) := by decide +kernel
theorem dX12_way_42 : decode cX12_way 42 = .ok (.iload 4, 2) := by decide +kernel
theorem dX12_way_44 : decode cX12_way 44 = .ok (.bipush 20, 2) := by decide +kernel
theorem dX12_way_46 : decode cX12_way 46 = .ok (.if_icmp .gt 12, 3) := by decide +kernel
theorem dX12_way_49 : decode cX12_way 49 = .ok (.aload_n 0, 1) := by decide +kernel
theorem dX12_way_50 : decode cX12_way 50 = .ok (.getfield 651, 3) := by decide +kernel
theorem dX12_way_53 : decode cX12_way 53 = .ok (.bipush 20, 2) := by decide +kernel
theorem dX12_way_55 : decode cX12_way 55 = .ok (.if_icmp .ne 5, 3) := by decide +kernel
theorem dX12_way_58 : decode cX12_way 58 = .ok (.iconst (-1), 1) := by decide +kernel
theorem dX12_way_59 : decode cX12_way 59 = .ok (.ireturn, 1) := by decide +kernel
theorem dX12_way_60 : decode cX12_way 60 = .ok (.aload_n 0, 1) := by decide +kernel
theorem dX12_way_61 : decode cX12_way 61 = .ok (.getfield 301, 3) := by decide +kernel
theorem dX12_way_64 : decode cX12_way 64 = .ok (.aload_n 0, 1) := by decide +kernel
theorem dX12_way_65 : decode cX12_way 65 = .ok (.getfield 651, 3) := by decide +kernel
theorem dX12_way_68 : decode cX12_way 68 = .ok (.iload_n 1, 1) := by decide +kernel
theorem dX12_way_69 : decode cX12_way 69 = .ok (.iastore, 1) := by decide +kernel
theorem dX12_way_70 : decode cX12_way 70 = .ok (.aload_n 0, 1) := by decide +kernel
theorem dX12_way_71 : decode cX12_way 71 = .ok (.getfield 304, 3) := by decide +kernel
theorem dX12_way_74 : decode cX12_way 74 = .ok (.aload_n 0, 1) := by decide +kernel
theorem dX12_way_75 : decode cX12_way 75 = .ok (.getfield 651, 3) := by decide +kernel
theorem dX12_way_78 : decode cX12_way 78 = .ok (.iload_n 2, 1) := by decide +kernel
theorem dX12_way_79 : decode cX12_way 79 = .ok (.iastore, 1) := by decide +kernel
theorem dX12_way_80 : decode cX12_way 80 = .ok (.aload_n 0, 1) := by decide +kernel
theorem dX12_way_81 : decode cX12_way 81 = .ok (.getfield 307, 3) := by decide +kernel
theorem dX12_way_84 : decode cX12_way 84 = .ok (.aload_n 0, 1) := by decide +kernel
theorem dX12_way_85 : decode cX12_way 85 = .ok (.getfield 651, 3) := by decide +kernel
theorem dX12_way_88 : decode cX12_way 88 = .ok (.iload_n 3, 1) := by decide +kernel
theorem dX12_way_89 : decode cX12_way 89 = .ok (.iastore, 1) := by decide +kernel
theorem dX12_way_90 : decode cX12_way 90 = .ok (.aload_n 0, 1) := by decide +kernel
theorem dX12_way_91 : decode cX12_way 91 = .ok (.getfield 310, 3) := by decide +kernel
theorem dX12_way_94 : decode cX12_way 94 = .ok (.aload_n 0, 1) := by decide +kernel
theorem dX12_way_95 : decode cX12_way 95 = .ok (.getfield 651, 3) := by decide +kernel
theorem dX12_way_98 : decode cX12_way 98 = .ok (.iload 4, 2) := by decide +kernel
theorem dX12_way_100 : decode cX12_way 100 = .ok (.iastore, 1) := by decide +kernel
theorem dX12_way_101 : decode cX12_way 101 = .ok (.aload_n 0, 1) := by decide +kernel
theorem dX12_way_102 : decode cX12_way 102 = .ok (.dup, 1) := by decide +kernel
theorem dX12_way_103 : decode cX12_way 103 = .ok (.getfield 651, 3) := by decide +kernel
theorem dX12_way_106 : decode cX12_way 106 = .ok (.iconst 1, 1) := by decide +kernel
theorem dX12_way_107 : decode cX12_way 107 = .ok (.iadd, 1) := by decide +kernel
theorem dX12_way_108 : decode cX12_way 108 = .ok (.putfield 651, 3) := by decide +kernel
theorem dX12_way_111 : decode cX12_way 111 = .ok (.aload_n 0, 1) := by decide +kernel
theorem dX12_way_112 : decode cX12_way 112 = .ok (.getfield 651, 3) := by decide +kernel
theorem dX12_way_115 : decode cX12_way 115 = .ok (.iconst 1, 1) := by decide +kernel
theorem dX12_way_116 : decode cX12_way 116 = .ok (.isub, 1) := by decide +kernel
theorem dX12_way_117 : decode cX12_way 117 = .ok (.ireturn, 1) := by decide +kernel
theorem dX12_crowd_0 : decode cX12_crowd 0 = .ok (.iload_n 1, 1) := by decide +kernel
theorem dX12_crowd_1 : decode cX12_crowd 1 = .ok (.ifCond .lt 19, 3) := by decide +kernel
theorem dX12_crowd_4 : decode cX12_crowd 4 = .ok (.iload_n 1, 1) := by decide +kernel
theorem dX12_crowd_5 : decode cX12_crowd 5 = .ok (.bipush 10, 2) := by decide +kernel
theorem dX12_crowd_7 : decode cX12_crowd 7 = .ok (.if_icmp .gt 13, 3) := by decide +kernel
theorem dX12_crowd_10 : decode cX12_crowd 10 = .ok (.iload_n 2, 1) := by decide +kernel
theorem dX12_crowd_11 : decode cX12_crowd 11 = .ok (.ifCond .lt 9, 3) := by decide +kernel
theorem dX12_crowd_14 : decode cX12_crowd 14 = .ok (.iload_n 2, 1) := by decide +kernel
theorem dX12_crowd_15 : decode cX12_crowd 15 = .ok (.bipush 60, 2) := by decide +kernel
theorem dX12_crowd_17 : decode cX12_crowd 17 = .ok (.if_icmp .le 5, 3) := by decide +kernel
theorem dX12_crowd_20 : decode cX12_crowd 20 = .ok (.iconst 0, 1) := by decide +kernel
theorem dX12_crowd_21 : decode cX12_crowd 21 = .ok (.ireturn, 1) := by decide +kernel
theorem dX12_crowd_22 : decode cX12_crowd 22 = .ok (.aload_n 0, 1) := by decide +kernel
theorem dX12_crowd_23 : decode cX12_crowd 23 = .ok (.getfield 313, 3) := by decide +kernel
theorem dX12_crowd_26 : decode cX12_crowd 26 = .ok (.iload_n 1, 1) := by decide +kernel
theorem dX12_crowd_27 : decode cX12_crowd 27 = .ok (.iload_n 2, 1) := by decide +kernel
theorem dX12_crowd_28 : decode cX12_crowd 28 = .ok (.iastore, 1) := by decide +kernel
theorem dX12_crowd_29 : decode cX12_crowd 29 = .ok (.iconst 1, 1) := by decide +kernel
theorem dX12_crowd_30 : decode cX12_crowd 30 = .ok (.ireturn, 1) := by decide +kernel
theorem dX12_clearWays_0 : decode cX12_clearWays 0 = .ok (.aload_n 0, 1) := by decide +kernel
theorem dX12_clearWays_1 : decode cX12_clearWays 1 = .ok (.iconst 0, 1) := by decide +kernel
theorem dX12_clearWays_2 : decode cX12_clearWays 2 = .ok (.putfield 651, 3) := by decide +kernel
theorem dX12_clearWays_5 : decode cX12_clearWays 5 = .ok (.iconst 0, 1) := by decide +kernel
theorem dX12_clearWays_6 : decode cX12_clearWays 6 = .ok (.istore_n 1, 1) := by decide +kernel
theorem dX12_clearWays_7 : decode cX12_clearWays 7 = .ok (.iload_n 1, 1) := by decide +kernel
theorem dX12_clearWays_8 : decode cX12_clearWays 8 = .ok (.bipush 11, 2) := by decide +kernel
theorem dX12_clearWays_10 : decode cX12_clearWays 10 = .ok (.if_icmp .ge 16, 3) := by decide +kernel
theorem dX12_clearWays_13 : decode cX12_clearWays 13 = .ok (.aload_n 0, 1) := by decide +kernel
theorem dX12_clearWays_14 : decode cX12_clearWays 14 = .ok (.getfield 313, 3) := by decide +kernel
theorem dX12_clearWays_17 : decode cX12_clearWays 17 = .ok (.iload_n 1, 1) := by decide +kernel
theorem dX12_clearWays_18 : decode cX12_clearWays 18 = .ok (.iconst 0, 1) := by decide +kernel
theorem dX12_clearWays_19 : decode cX12_clearWays 19 = .ok (.iastore, 1) := by decide +kernel
theorem dX12_clearWays_20 : decode cX12_clearWays 20 = .ok (.iinc 1 1, 3) := by decide +kernel
theorem dX12_clearWays_23 : decode cX12_clearWays 23 = .ok (.goto (-16), 3) := by decide +kernel
theorem dX12_clearWays_26 : decode cX12_clearWays 26 = .ok (.return_, 1) := by decide +kernel
theorem dX12_edge_0 : decode cX12_edge 0 = .ok (.aload_n 0, 1) := by decide +kernel
theorem dX12_edge_1 : decode cX12_edge 1 = .ok (.getfield 322, 3) := by decide +kernel
theorem dX12_edge_4 : decode cX12_edge 4 = .ok (.aload_n 0, 1) := by decide +kernel
theorem dX12_edge_5 : decode cX12_edge 5 = .ok (.getfield 654, 3) := by decide +kernel
theorem dX12_edge_8 : decode cX12_edge 8 = .ok (.iload_n 2, 1) := by decide +kernel
theorem dX12_edge_9 : decode cX12_edge 9 = .ok (.iastore, 1) := by decide +kernel
theorem dX12_edge_10 : decode cX12_edge 10 = .ok (.aload_n 0, 1) := by decide +kernel
theorem dX12_edge_11 : decode cX12_edge 11 = .ok (.getfield 325, 3) := by decide +kernel
theorem dX12_edge_14 : decode cX12_edge 14 = .ok (.aload_n 0, 1) := by decide +kernel
theorem dX12_edge_15 : decode cX12_edge 15 = .ok (.getfield 654, 3) := by decide +kernel
theorem dX12_edge_18 : decode cX12_edge 18 = .ok (.iload_n 3, 1) := by decide +kernel
theorem dX12_edge_19 : decode cX12_edge 19 = .ok (.iastore, 1) := by decide +kernel
theorem dX12_edge_20 : decode cX12_edge 20 = .ok (.aload_n 0, 1) := by decide +kernel
theorem dX12_edge_21 : decode cX12_edge 21 = .ok (.getfield 319, 3) := by decide +kernel
theorem dX12_edge_24 : decode cX12_edge 24 = .ok (.aload_n 0, 1) := by decide +kernel
theorem dX12_edge_25 : decode cX12_edge 25 = .ok (.getfield 654, 3) := by decide +kernel
theorem dX12_edge_28 : decode cX12_edge 28 = .ok (.aload_n 0, 1) := by decide +kernel
theorem dX12_edge_29 : decode cX12_edge 29 = .ok (.getfield 316, 3) := by decide +kernel
theorem dX12_edge_32 : decode cX12_edge 32 = .ok (.iload_n 1, 1) := by decide +kernel
theorem dX12_edge_33 : decode cX12_edge 33 = .ok (.iaload, 1) := by decide +kernel
theorem dX12_edge_34 : decode cX12_edge 34 = .ok (.iastore, 1) := by decide +kernel
theorem dX12_edge_35 : decode cX12_edge 35 = .ok (.aload_n 0, 1) := by decide +kernel
theorem dX12_edge_36 : decode cX12_edge 36 = .ok (.getfield 316, 3) := by decide +kernel
theorem dX12_edge_39 : decode cX12_edge 39 = .ok (.iload_n 1, 1) := by decide +kernel
theorem dX12_edge_40 : decode cX12_edge 40 = .ok (.aload_n 0, 1) := by decide +kernel
theorem dX12_edge_41 : decode cX12_edge 41 = .ok (.getfield 654, 3) := by decide +kernel
theorem dX12_edge_44 : decode cX12_edge 44 = .ok (.iastore, 1) := by decide +kernel
theorem dX12_edge_45 : decode cX12_edge 45 = .ok (.aload_n 0, 1) := by decide +kernel
theorem dX12_edge_46 : decode cX12_edge 46 = .ok (.dup, 1) := by decide +kernel
theorem dX12_edge_47 : decode cX12_edge 47 = .ok (.getfield 654, 3) := by decide +kernel
theorem dX12_edge_50 : decode cX12_edge 50 = .ok (.iconst 1, 1) := by decide +kernel
theorem dX12_edge_51 : decode cX12_edge 51 = .ok (.iadd, 1) := by decide +kernel
theorem dX12_edge_52 : decode cX12_edge 52 = .ok (.putfield 654, 3) := by decide +kernel
theorem dX12_edge_55 : decode cX12_edge 55 = .ok (.aload_n 0, 1) := by decide +kernel
theorem dX12_edge_56 : decode cX12_edge 56 = .ok (.getfield 322, 3) := by decide +kernel
theorem dX12_edge_59 : decode cX12_edge 59 = .ok (.aload_n 0, 1) := by decide +kernel
theorem dX12_edge_60 : decode cX12_edge 60 = .ok (.getfield 654, 3) := by decide +kernel
theorem dX12_edge_63 : decode cX12_edge 63 = .ok (.iload_n 1, 1) := by decide +kernel
theorem dX12_edge_64 : decode cX12_edge 64 = .ok (.iastore, 1) := by decide +kernel
theorem dX12_edge_65 : decode cX12_edge 65 = .ok (.aload_n 0, 1) := by decide +kernel
theorem dX12_edge_66 : decode cX12_edge 66 = .ok (.getfield 325, 3) := by decide +kernel
theorem dX12_edge_69 : decode cX12_edge 69 = .ok (.aload_n 0, 1) := by decide +kernel
theorem dX12_edge_70 : decode cX12_edge 70 = .ok (.getfield 654, 3) := by decide +kernel
theorem dX12_edge_73 : decode cX12_edge 73 = .ok (.iconst 0, 1) := by decide +kernel
theorem dX12_edge_74 : decode cX12_edge 74 = .ok (.iastore, 1) := by decide +kernel
theorem dX12_edge_75 : decode cX12_edge 75 = .ok (.aload_n 0, 1) := by decide +kernel
theorem dX12_edge_76 : decode cX12_edge 76 = .ok (.getfield 319, 3) := by decide +kernel
theorem dX12_edge_79 : decode cX12_edge 79 = .ok (.aload_n 0, 1) := by decide +kernel
theorem dX12_edge_80 : decode cX12_edge 80 = .ok (.getfield 654, 3) := by decide +kernel
theorem dX12_edge_83 : decode cX12_edge 83 = .ok (.aload_n 0, 1) := by decide +kernel
theorem dX12_edge_84 : decode cX12_edge 84 = .ok (.getfield 316, 3) := by decide +kernel
theorem dX12_edge_87 : decode cX12_edge 87 = .ok (.iload_n 2, 1) := by decide +kernel
theorem dX12_edge_88 : decode cX12_edge 88 = .ok (.iaload, 1) := by decide +kernel
theorem dX12_edge_89 : decode cX12_edge 89 = .ok (.iastore, 1) := by decide +kernel
theorem dX12_edge_90 : decode cX12_edge 90 = .ok (.aload_n 0, 1) := by decide +kernel
theorem dX12_edge_91 : decode cX12_edge 91 = .ok (.getfield 316, 3) := by decide +kernel
theorem dX12_edge_94 : decode cX12_edge 94 = .ok (.iload_n 2, 1) := by decide +kernel
theorem dX12_edge_95 : decode cX12_edge 95 = .ok (.aload_n 0, 1) := by decide +kernel
theorem dX12_edge_96 : decode cX12_edge 96 = .ok (.getfield 654, 3) := by decide +kernel
theorem dX12_edge_99 : decode cX12_edge 99 = .ok (.iastore, 1) := by decide +kernel
theorem dX12_edge_100 : decode cX12_edge 100 = .ok (.aload_n 0, 1) := by decide +kernel
theorem dX12_edge_101 : decode cX12_edge 101 = .ok (.dup, 1) := by decide +kernel
theorem dX12_edge_102 : decode cX12_edge 102 = .ok (.getfield 654, 3) := by decide +kernel
theorem dX12_edge_105 : decode cX12_edge 105 = .ok (.iconst 1, 1) := by decide +kernel
theorem dX12_edge_106 : decode cX12_edge 106 = .ok (.iadd, 1) := by decide +kernel
theorem dX12_edge_107 : decode cX12_edge 107 = .ok (.putfield 654, 3) := by decide +kernel
theorem dX12_edge_110 : decode cX12_edge 110 = .ok (.return_, 1) := by decide +kernel
theorem dX12_empty_0 : decode cX12_empty 0 = .ok (.aload_n 0, 1) := by decide +kernel
theorem dX12_empty_1 : decode cX12_empty 1 = .ok (.iconst 0, 1) := by decide +kernel
theorem dX12_empty_2 : decode cX12_empty 2 = .ok (.putfield 654, 3) := by decide +kernel
theorem dX12_empty_5 : decode cX12_empty 5 = .ok (.iconst 0, 1) := by decide +kernel
theorem dX12_empty_6 : decode cX12_empty 6 = .ok (.istore_n 1, 1) := by decide +kernel
theorem dX12_empty_7 : decode cX12_empty 7 = .ok (.iload_n 1, 1) := by decide +kernel
theorem dX12_empty_8 : decode cX12_empty 8 = .ok (.sipush 612, 3) := by decide +kernel
theorem dX12_empty_11 : decode cX12_empty 11 = .ok (.if_icmp .ge 16, 3) := by decide +kernel
theorem dX12_empty_14 : decode cX12_empty 14 = .ok (.aload_n 0, 1) := by decide +kernel
theorem dX12_empty_15 : decode cX12_empty 15 = .ok (.getfield 316, 3) := by decide +kernel
theorem dX12_empty_18 : decode cX12_empty 18 = .ok (.iload_n 1, 1) := by decide +kernel
theorem dX12_empty_19 : decode cX12_empty 19 = .ok (.iconst (-1), 1) := by decide +kernel
theorem dX12_empty_20 : decode cX12_empty 20 = .ok (.iastore, 1) := by decide +kernel
theorem dX12_empty_21 : decode cX12_empty 21 = .ok (.iinc 1 1, 3) := by decide +kernel
theorem dX12_empty_24 : decode cX12_empty 24 = .ok (.goto (-17), 3) := by decide +kernel
theorem dX12_empty_27 : decode cX12_empty 27 = .ok (.iconst 0, 1) := by decide +kernel
theorem dX12_empty_28 : decode cX12_empty 28 = .ok (.istore_n 1, 1) := by decide +kernel
theorem dX12_empty_29 : decode cX12_empty 29 = .ok (.iconst 0, 1) := by decide +kernel
theorem dX12_empty_30 : decode cX12_empty 30 = .ok (.istore_n 2, 1) := by decide +kernel
theorem dX12_empty_31 : decode cX12_empty 31 = .ok (.iload_n 2, 1) := by decide +kernel
theorem dX12_empty_32 : decode cX12_empty 32 = .ok (.bipush 11, 2) := by decide +kernel
theorem dX12_empty_34 : decode cX12_empty 34 = .ok (.if_icmp .ge 30, 3) := by decide +kernel
theorem dX12_empty_37 : decode cX12_empty 37 = .ok (.aload_n 0, 1) := by decide +kernel
theorem dX12_empty_38 : decode cX12_empty 38 = .ok (.getfield 334, 3) := by decide +kernel
theorem dX12_empty_41 : decode cX12_empty 41 = .ok (.iload_n 2, 1) := by decide +kernel
theorem dX12_empty_42 : decode cX12_empty 42 = .ok (.aload_n 0, 1) := by decide +kernel
theorem dX12_empty_43 : decode cX12_empty 43 = .ok (.getfield 313, 3) := by decide +kernel
theorem dX12_empty_46 : decode cX12_empty 46 = .ok (.iload_n 2, 1) := by decide +kernel
theorem dX12_empty_47 : decode cX12_empty 47 = .ok (.iaload, 1) := by decide +kernel
theorem dX12_empty_48 : decode cX12_empty 48 = .ok (.iastore, 1) := by decide +kernel
theorem dX12_empty_49 : decode cX12_empty 49 = .ok (.iload_n 1, 1) := by decide +kernel
theorem dX12_empty_50 : decode cX12_empty 50 = .ok (.aload_n 0, 1) := by decide +kernel
theorem dX12_empty_51 : decode cX12_empty 51 = .ok (.getfield 313, 3) := by decide +kernel
theorem dX12_empty_54 : decode cX12_empty 54 = .ok (.iload_n 2, 1) := by decide +kernel
theorem dX12_empty_55 : decode cX12_empty 55 = .ok (.iaload, 1) := by decide +kernel
theorem dX12_empty_56 : decode cX12_empty 56 = .ok (.iadd, 1) := by decide +kernel
theorem dX12_empty_57 : decode cX12_empty 57 = .ok (.istore_n 1, 1) := by decide +kernel
theorem dX12_empty_58 : decode cX12_empty 58 = .ok (.iinc 2 1, 3) := by decide +kernel
theorem dX12_empty_61 : decode cX12_empty 61 = .ok (.goto (-30), 3) := by decide +kernel
theorem dX12_empty_64 : decode cX12_empty 64 = .ok (.iconst 0, 1) := by decide +kernel
theorem dX12_empty_65 : decode cX12_empty 65 = .ok (.istore_n 2, 1) := by decide +kernel
theorem dX12_empty_66 : decode cX12_empty 66 = .ok (.iload_n 2, 1) := by decide +kernel
theorem dX12_empty_67 : decode cX12_empty 67 = .ok (.bipush 50, 2) := by decide +kernel
theorem dX12_empty_69 : decode cX12_empty 69 = .ok (.if_icmp .gt 138, 3) := by decide +kernel
theorem dX12_empty_72 : decode cX12_empty 72 = .ok (.iconst 0, 1) := by decide +kernel
theorem dX12_empty_73 : decode cX12_empty 73 = .ok (.istore_n 3, 1) := by decide +kernel
theorem dX12_empty_74 : decode cX12_empty 74 = .ok (.iload_n 3, 1) := by decide +kernel
theorem dX12_empty_75 : decode cX12_empty 75 = .ok (.aload_n 0, 1) := by decide +kernel
theorem dX12_empty_76 : decode cX12_empty 76 = .ok (.getfield 651, 3) := by decide +kernel
theorem dX12_empty_79 : decode cX12_empty 79 = .ok (.if_icmp .ge 58, 3) := by decide +kernel
theorem dX12_empty_82 : decode cX12_empty 82 = .ok (.iload_n 2, 1) := by decide +kernel
theorem dX12_empty_83 : decode cX12_empty 83 = .ok (.aload_n 0, 1) := by decide +kernel
theorem dX12_empty_84 : decode cX12_empty 84 = .ok (.getfield 310, 3) := by decide +kernel
theorem dX12_empty_87 : decode cX12_empty 87 = .ok (.iload_n 3, 1) := by decide +kernel
theorem dX12_empty_88 : decode cX12_empty 88 = .ok (.iaload, 1) := by decide +kernel
theorem dX12_empty_89 : decode cX12_empty 89 = .ok (.if_icmp .lt 42, 3) := by decide +kernel
theorem dX12_empty_92 : decode cX12_empty 92 = .ok (.aload_n 0, 1) := by decide +kernel
theorem dX12_empty_93 : decode cX12_empty 93 = .ok (.bipush 51, 2) := by decide +kernel
theorem dX12_empty_95 : decode cX12_empty 95 = .ok (.aload_n 0, 1) := by decide +kernel
theorem dX12_empty_96 : decode cX12_empty 96 = .ok (.getfield 301, 3) := by decide +kernel
theorem dX12_empty_99 : decode cX12_empty 99 = .ok (.iload_n 3, 1) := by decide +kernel
theorem dX12_empty_100 : decode cX12_empty 100 = .ok (.iaload, 1) := by decide +kernel
theorem dX12_empty_101 : decode cX12_empty 101 = .ok (.imul, 1) := by decide +kernel
theorem dX12_empty_102 : decode cX12_empty 102 = .ok (.iload_n 2, 1) := by decide +kernel
theorem dX12_empty_103 : decode cX12_empty 103 = .ok (.iadd, 1) := by decide +kernel
theorem dX12_empty_104 : decode cX12_empty 104 = .ok (.aload_n 0, 1) := by decide +kernel
theorem dX12_empty_105 : decode cX12_empty 105 = .ok (.getfield 310, 3) := by decide +kernel
theorem dX12_empty_108 : decode cX12_empty 108 = .ok (.iload_n 3, 1) := by decide +kernel
theorem dX12_empty_109 : decode cX12_empty 109 = .ok (.iaload, 1) := by decide +kernel
theorem dX12_empty_110 : decode cX12_empty 110 = .ok (.isub, 1) := by decide +kernel
theorem dX12_empty_111 : decode cX12_empty 111 = .ok (.bipush 51, 2) := by decide +kernel
theorem dX12_empty_113 : decode cX12_empty 113 = .ok (.aload_n 0, 1) := by decide +kernel
theorem dX12_empty_114 : decode cX12_empty 114 = .ok (.getfield 304, 3) := by decide +kernel
theorem dX12_empty_117 : decode cX12_empty 117 = .ok (.iload_n 3, 1) := by decide +kernel
theorem dX12_empty_118 : decode cX12_empty 118 = .ok (.iaload, 1) := by decide +kernel
theorem dX12_empty_119 : decode cX12_empty 119 = .ok (.imul, 1) := by decide +kernel
theorem dX12_empty_120 : decode cX12_empty 120 = .ok (.iload_n 2, 1) := by decide +kernel
theorem dX12_empty_121 : decode cX12_empty 121 = .ok (.iadd, 1) := by decide +kernel
theorem dX12_empty_122 : decode cX12_empty 122 = .ok (.aload_n 0, 1) := by decide +kernel
theorem dX12_empty_123 : decode cX12_empty 123 = .ok (.getfield 307, 3) := by decide +kernel
theorem dX12_empty_126 : decode cX12_empty 126 = .ok (.iload_n 3, 1) := by decide +kernel
theorem dX12_empty_127 : decode cX12_empty 127 = .ok (.iaload, 1) := by decide +kernel
theorem dX12_empty_128 : decode cX12_empty 128 = .ok (.invokevirtual 657, 3) := by decide +kernel
theorem dX12_empty_131 : decode cX12_empty 131 = .ok (.iinc 3 1, 3) := by decide +kernel
theorem dX12_empty_134 : decode cX12_empty 134 = .ok (.goto (-60), 3) := by decide +kernel
theorem dX12_empty_137 : decode cX12_empty 137 = .ok (.iconst 0, 1) := by decide +kernel
theorem dX12_empty_138 : decode cX12_empty 138 = .ok (.istore_n 3, 1) := by decide +kernel
theorem dX12_empty_139 : decode cX12_empty 139 = .ok (.iload_n 3, 1) := by decide +kernel
theorem dX12_empty_140 : decode cX12_empty 140 = .ok (.bipush 12, 2) := by decide +kernel
theorem dX12_empty_142 : decode cX12_empty 142 = .ok (.if_icmp .ge 34, 3) := by decide +kernel
theorem dX12_empty_145 : decode cX12_empty 145 = .ok (.iload_n 2, 1) := by decide +kernel
theorem dX12_empty_146 : decode cX12_empty 146 = .ok (.ifCond .le 30, 3) := by decide +kernel
theorem dX12_empty_149 : decode cX12_empty 149 = .ok (.aload_n 0, 1) := by decide +kernel
theorem dX12_empty_150 : decode cX12_empty 150 = .ok (.bipush 51, 2) := by decide +kernel
theorem dX12_empty_152 : decode cX12_empty 152 = .ok (.iload_n 3, 1) := by decide +kernel
theorem dX12_empty_153 : decode cX12_empty 153 = .ok (.imul, 1) := by decide +kernel
theorem dX12_empty_154 : decode cX12_empty 154 = .ok (.iload_n 2, 1) := by decide +kernel
theorem dX12_empty_155 : decode cX12_empty 155 = .ok (.iadd, 1) := by decide +kernel
theorem dX12_empty_156 : decode cX12_empty 156 = .ok (.iconst 1, 1) := by decide +kernel
theorem dX12_empty_157 : decode cX12_empty 157 = .ok (.isub, 1) := by decide +kernel
theorem dX12_empty_158 : decode cX12_empty 158 = .ok (.bipush 51, 2) := by decide +kernel
theorem dX12_empty_160 : decode cX12_empty 160 = .ok (.iload_n 3, 1) := by decide +kernel
theorem dX12_empty_161 : decode cX12_empty 161 = .ok (.imul, 1) := by decide +kernel
theorem dX12_empty_162 : decode cX12_empty 162 = .ok (.iload_n 2, 1) := by decide +kernel
theorem dX12_empty_163 : decode cX12_empty 163 = .ok (.iadd, 1) := by decide +kernel
theorem dX12_empty_164 : decode cX12_empty 164 = .ok (.sipush 6000, 3) := by decide +kernel
theorem dX12_empty_167 : decode cX12_empty 167 = .ok (.invokevirtual 657, 3) := by decide +kernel
theorem dX12_empty_170 : decode cX12_empty 170 = .ok (.iinc 3 1, 3) := by decide +kernel
theorem dX12_empty_173 : decode cX12_empty 173 = .ok (.goto (-34), 3) := by decide +kernel
theorem dX12_empty_176 : decode cX12_empty 176 = .ok (.iconst 1, 1) := by decide +kernel
theorem dX12_empty_177 : decode cX12_empty 177 = .ok (.istore_n 3, 1) := by decide +kernel
theorem dX12_empty_178 : decode cX12_empty 178 = .ok (.iload_n 3, 1) := by decide +kernel
theorem dX12_empty_179 : decode cX12_empty 179 = .ok (.ifCond .le 16, 3) := by decide +kernel
theorem dX12_empty_182 : decode cX12_empty 182 = .ok (.aload_n 0, 1) := by decide +kernel
theorem dX12_empty_183 : decode cX12_empty 183 = .ok (.iload_n 2, 1) := by decide +kernel
theorem dX12_empty_184 : decode cX12_empty 184 = .ok (.invokevirtual 660, 3) := by decide +kernel
theorem dX12_empty_187 : decode cX12_empty 187 = .ok (.istore_n 3, 1) := by decide +kernel
theorem dX12_empty_188 : decode cX12_empty 188 = .ok (.iload_n 1, 1) := by decide +kernel
theorem dX12_empty_189 : decode cX12_empty 189 = .ok (.iload_n 3, 1) := by decide +kernel
theorem dX12_empty_190 : decode cX12_empty 190 = .ok (.isub, 1) := by decide +kernel
theorem dX12_empty_191 : decode cX12_empty 191 = .ok (.istore_n 1, 1) := by decide +kernel
theorem dX12_empty_192 : decode cX12_empty 192 = .ok (.goto (-14), 3) := by decide +kernel
theorem dX12_empty_195 : decode cX12_empty 195 = .ok (.iload_n 1, 1) := by decide +kernel
theorem dX12_empty_196 : decode cX12_empty 196 = .ok (.ifCond .ne 5, 3) := by decide +kernel
theorem dX12_empty_199 : decode cX12_empty 199 = .ok (.iload_n 2, 1) := by decide +kernel
theorem dX12_empty_200 : decode cX12_empty 200 = .ok (.ireturn, 1) := by decide +kernel
theorem dX12_empty_201 : decode cX12_empty 201 = .ok (.iinc 2 1, 3) := by decide +kernel
theorem dX12_empty_204 : decode cX12_empty 204 = .ok (.goto (-138), 3) := by decide +kernel
theorem dX12_empty_207 : decode cX12_empty 207 = .ok (.iconst (-1), 1) := by decide +kernel
theorem dX12_empty_208 : decode cX12_empty 208 = .ok (.ireturn, 1) := by decide +kernel
theorem dX12_out2_0 : decode cX12_out2 0 = .ok (.iconst 0, 1) := by decide +kernel
theorem dX12_out2_1 : decode cX12_out2 1 = .ok (.istore_n 2, 1) := by decide +kernel
theorem dX12_out2_2 : decode cX12_out2 2 = .ok (.iload_n 2, 1) := by decide +kernel
theorem dX12_out2_3 : decode cX12_out2 3 = .ok (.sipush 612, 3) := by decide +kernel
theorem dX12_out2_6 : decode cX12_out2 6 = .ok (.if_icmp .ge 17, 3) := by decide +kernel
theorem dX12_out2_9 : decode cX12_out2 9 = .ok (.aload_n 0, 1) := by decide +kernel
theorem dX12_out2_10 : decode cX12_out2 10 = .ok (.getfield 328, 3) := by decide +kernel
theorem dX12_out2_13 : decode cX12_out2 13 = .ok (.iload_n 2, 1) := by decide +kernel
theorem dX12_out2_14 : decode cX12_out2 14 = .ok (.bipush (-2), 2) := by decide +kernel
theorem dX12_out2_16 : decode cX12_out2 16 = .ok (.iastore, 1) := by decide +kernel
theorem dX12_out2_17 : decode cX12_out2 17 = .ok (.iinc 2 1, 3) := by decide +kernel
theorem dX12_out2_20 : decode cX12_out2 20 = .ok (.goto (-18), 3) := by decide +kernel
theorem dX12_out2_23 : decode cX12_out2 23 = .ok (.iconst 0, 1) := by decide +kernel
theorem dX12_out2_24 : decode cX12_out2 24 = .ok (.istore_n 2, 1) := by decide +kernel
theorem dX12_out2_25 : decode cX12_out2 25 = .ok (.iconst 0, 1) := by decide +kernel
theorem dX12_out2_26 : decode cX12_out2 26 = .ok (.istore_n 3, 1) := by decide +kernel
theorem dX12_out2_27 : decode cX12_out2 27 = .ok (.iconst 0, 1) := by decide +kernel
theorem dX12_out2_28 : decode cX12_out2 28 = .ok (.istore 4, 2) := by decide +kernel
theorem dX12_out2_30 : decode cX12_out2 30 = .ok (.iload 4, 2) := by decide +kernel
theorem dX12_out2_32 : decode cX12_out2 32 = .ok (.bipush 11, 2) := by decide +kernel
theorem dX12_out2_34 : decode cX12_out2 34 = .ok (.if_icmp .ge 44, 3) := by decide +kernel
theorem dX12_out2_37 : decode cX12_out2 37 = .ok (.aload_n 0, 1) := by decide +kernel
theorem dX12_out2_38 : decode cX12_out2 38 = .ok (.getfield 334, 3) := by decide +kernel
theorem dX12_out2_41 : decode cX12_out2 41 = .ok (.iload 4, 2) := by decide +kernel
theorem dX12_out2_43 : decode cX12_out2 43 = .ok (.iaload, 1) := by decide +kernel
theorem dX12_out2_44 : decode cX12_out2 44 = .ok (.ifCond .le 28, 3) := by decide +kernel
theorem dX12_out2_47 : decode cX12_out2 47 = .ok (.aload_n 0, 1) := by decide +kernel
theorem dX12_out2_48 : decode cX12_out2 48 = .ok (.getfield 328, 3) := by decide +kernel
theorem dX12_out2_51 : decode cX12_out2 51 = .ok (.bipush 51, 2) := by decide +kernel
theorem dX12_out2_53 : decode cX12_out2 53 = .ok (.iload 4, 2) := by decide +kernel
theorem dX12_out2_55 : decode cX12_out2 55 = .ok (.imul, 1) := by decide +kernel
theorem dX12_out2_56 : decode cX12_out2 56 = .ok (.iconst (-1), 1) := by decide +kernel
theorem dX12_out2_57 : decode cX12_out2 57 = .ok (.iastore, 1) := by decide +kernel
theorem dX12_out2_58 : decode cX12_out2 58 = .ok (.aload_n 0, 1) := by decide +kernel
theorem dX12_out2_59 : decode cX12_out2 59 = .ok (.getfield 331, 3) := by decide +kernel
theorem dX12_out2_62 : decode cX12_out2 62 = .ok (.iload_n 3, 1) := by decide +kernel
theorem dX12_out2_63 : decode cX12_out2 63 = .ok (.bipush 51, 2) := by decide +kernel
theorem dX12_out2_65 : decode cX12_out2 65 = .ok (.iload 4, 2) := by decide +kernel
theorem dX12_out2_67 : decode cX12_out2 67 = .ok (.imul, 1) := by decide +kernel
theorem dX12_out2_68 : decode cX12_out2 68 = .ok (.iastore, 1) := by decide +kernel
theorem dX12_out2_69 : decode cX12_out2 69 = .ok (.iinc 3 1, 3) := by decide +kernel
theorem dX12_out2_72 : decode cX12_out2 72 = .ok (.iinc 4 1, 3) := by decide +kernel
theorem dX12_out2_75 : decode cX12_out2 75 = .ok (.goto (-45), 3) := by decide +kernel
theorem dX12_out2_78 : decode cX12_out2 78 = .ok (.sipush 561, 3) := by decide +kernel
theorem dX12_out2_81 : decode cX12_out2 81 = .ok (.iload_n 1, 1) := by decide +kernel
theorem dX12_out2_82 : decode cX12_out2 82 = .ok (.iadd, 1) := by decide +kernel
theorem dX12_out2_83 : decode cX12_out2 83 = .ok (.istore 4, 2) := by decide +kernel
theorem dX12_out2_85 : decode cX12_out2 85 = .ok (.iload_n 2, 1) := by decide +kernel
theorem dX12_out2_86 : decode cX12_out2 86 = .ok (.iload_n 3, 1) := by decide +kernel
theorem dX12_out2_87 : decode cX12_out2 87 = .ok (.if_icmp .ge 113, 3) := by decide +kernel
theorem dX12_out2_90 : decode cX12_out2 90 = .ok (.aload_n 0, 1) := by decide +kernel
theorem dX12_out2_91 : decode cX12_out2 91 = .ok (.getfield 328, 3) := by decide +kernel
theorem dX12_out2_94 : decode cX12_out2 94 = .ok (.iload 4, 2) := by decide +kernel
theorem dX12_out2_96 : decode cX12_out2 96 = .ok (.iaload, 1) := by decide +kernel
theorem dX12_out2_97 : decode cX12_out2 97 = .ok (.bipush (-2), 2) := by decide +kernel
theorem dX12_out2_99 : decode cX12_out2 99 = .ok (.if_icmp .ne 101, 3) := by decide +kernel
theorem dX12_out2_102 : decode cX12_out2 102 = .ok (.aload_n 0, 1) := by decide +kernel
theorem dX12_out2_103 : decode cX12_out2 103 = .ok (.getfield 331, 3) := by decide +kernel
theorem dX12_out2_106 : decode cX12_out2 106 = .ok (.iload_n 2, 1) := by decide +kernel
theorem dX12_out2_107 : decode cX12_out2 107 = .ok (.iaload, 1) := by decide +kernel
theorem dX12_out2_108 : decode cX12_out2 108 = .ok (.istore 5, 2) := by decide +kernel
theorem dX12_out2_110 : decode cX12_out2 110 = .ok (.iinc 2 1, 3) := by decide +kernel
theorem dX12_out2_113 : decode cX12_out2 113 = .ok (.aload_n 0, 1) := by decide +kernel
theorem dX12_out2_114 : decode cX12_out2 114 = .ok (.getfield 316, 3) := by decide +kernel
theorem dX12_out2_117 : decode cX12_out2 117 = .ok (.iload 5, 2) := by decide +kernel
theorem dX12_out2_119 : decode cX12_out2 119 = .ok (.iaload, 1) := by decide +kernel
theorem dX12_out2_120 : decode cX12_out2 120 = .ok (.istore 6, 2) := by decide +kernel
theorem dX12_out2_122 : decode cX12_out2 122 = .ok (.iload 6, 2) := by decide +kernel
theorem dX12_out2_124 : decode cX12_out2 124 = .ok (.iconst (-1), 1) := by decide +kernel
theorem dX12_out2_125 : decode cX12_out2 125 = .ok (.if_icmp .eq 72, 3) := by decide +kernel
theorem dX12_out2_128 : decode cX12_out2 128 = .ok (.aload_n 0, 1) := by decide +kernel
theorem dX12_out2_129 : decode cX12_out2 129 = .ok (.getfield 325, 3) := by decide +kernel
theorem dX12_out2_132 : decode cX12_out2 132 = .ok (.iload 6, 2) := by decide +kernel
theorem dX12_out2_134 : decode cX12_out2 134 = .ok (.iaload, 1) := by decide +kernel
theorem dX12_out2_135 : decode cX12_out2 135 = .ok (.ifCond .le 50, 3) := by decide +kernel
theorem dX12_out2_138 : decode cX12_out2 138 = .ok (.aload_n 0, 1) := by decide +kernel
theorem dX12_out2_139 : decode cX12_out2 139 = .ok (.getfield 328, 3) := by decide +kernel
theorem dX12_out2_142 : decode cX12_out2 142 = .ok (.aload_n 0, 1) := by decide +kernel
theorem dX12_out2_143 : decode cX12_out2 143 = .ok (.getfield 322, 3) := by decide +kernel
theorem dX12_out2_146 : decode cX12_out2 146 = .ok (.iload 6, 2) := by decide +kernel
theorem dX12_out2_148 : decode cX12_out2 148 = .ok (.iaload, 1) := by decide +kernel
theorem dX12_out2_149 : decode cX12_out2 149 = .ok (.iaload, 1) := by decide +kernel
theorem dX12_out2_150 : decode cX12_out2 150 = .ok (.bipush (-2), 2) := by decide +kernel
theorem dX12_out2_152 : decode cX12_out2 152 = .ok (.if_icmp .ne 33, 3) := by decide +kernel
theorem dX12_out2_155 : decode cX12_out2 155 = .ok (.aload_n 0, 1) := by decide +kernel
theorem dX12_out2_156 : decode cX12_out2 156 = .ok (.getfield 328, 3) := by decide +kernel
theorem dX12_out2_159 : decode cX12_out2 159 = .ok (.aload_n 0, 1) := by decide +kernel
theorem dX12_out2_160 : decode cX12_out2 160 = .ok (.getfield 322, 3) := by decide +kernel
theorem dX12_out2_163 : decode cX12_out2 163 = .ok (.iload 6, 2) := by decide +kernel
theorem dX12_out2_165 : decode cX12_out2 165 = .ok (.iaload, 1) := by decide +kernel
theorem dX12_out2_166 : decode cX12_out2 166 = .ok (.iload 6, 2) := by decide +kernel
theorem dX12_out2_168 : decode cX12_out2 168 = .ok (.iastore, 1) := by decide +kernel
theorem dX12_out2_169 : decode cX12_out2 169 = .ok (.aload_n 0, 1) := by decide +kernel
theorem dX12_out2_170 : decode cX12_out2 170 = .ok (.getfield 331, 3) := by decide +kernel
theorem dX12_out2_173 : decode cX12_out2 173 = .ok (.iload_n 3, 1) := by decide +kernel
theorem dX12_out2_174 : decode cX12_out2 174 = .ok (.aload_n 0, 1) := by decide +kernel
theorem dX12_out2_175 : decode cX12_out2 175 = .ok (.getfield 322, 3) := by decide +kernel
theorem dX12_out2_178 : decode cX12_out2 178 = .ok (.iload 6, 2) := by decide +kernel
theorem dX12_out2_180 : decode cX12_out2 180 = .ok (.iaload, 1) := by decide +kernel
theorem dX12_out2_181 : decode cX12_out2 181 = .ok (.iastore, 1) := by decide +kernel
theorem dX12_out2_182 : decode cX12_out2 182 = .ok (.iinc 3 1, 3) := by decide +kernel
theorem dX12_out2_185 : decode cX12_out2 185 = .ok (.aload_n 0, 1) := by decide +kernel
theorem dX12_out2_186 : decode cX12_out2 186 = .ok (.getfield 319, 3) := by decide +kernel
theorem dX12_out2_189 : decode cX12_out2 189 = .ok (.iload 6, 2) := by decide +kernel
theorem dX12_out2_191 : decode cX12_out2 191 = .ok (.iaload, 1) := by decide +kernel
theorem dX12_out2_192 : decode cX12_out2 192 = .ok (.istore 6, 2) := by decide +kernel
theorem dX12_out2_194 : decode cX12_out2 194 = .ok (.goto (-72), 3) := by decide +kernel
theorem dX12_out2_197 : decode cX12_out2 197 = .ok (.goto (-112), 3) := by decide +kernel
theorem dX12_out2_200 : decode cX12_out2 200 = .ok (.aload_n 0, 1) := by decide +kernel
theorem dX12_out2_201 : decode cX12_out2 201 = .ok (.getfield 328, 3) := by decide +kernel
theorem dX12_out2_204 : decode cX12_out2 204 = .ok (.iload 4, 2) := by decide +kernel
theorem dX12_out2_206 : decode cX12_out2 206 = .ok (.iaload, 1) := by decide +kernel
theorem dX12_out2_207 : decode cX12_out2 207 = .ok (.bipush (-2), 2) := by decide +kernel
theorem dX12_out2_209 : decode cX12_out2 209 = .ok (.if_icmp .ne 5, 3) := by decide +kernel
theorem dX12_out2_212 : decode cX12_out2 212 = .ok (.iconst 0, 1) := by decide +kernel
theorem dX12_out2_213 : decode cX12_out2 213 = .ok (.ireturn, 1) := by decide +kernel
theorem dX12_out2_214 : decode cX12_out2 214 = .ok (.sipush 6000, 3) := by decide +kernel
theorem dX12_out2_217 : decode cX12_out2 217 = .ok (.istore 5, 2) := by decide +kernel
theorem dX12_out2_219 : decode cX12_out2 219 = .ok (.iload 4, 2) := by decide +kernel
theorem dX12_out2_221 : decode cX12_out2 221 = .ok (.istore 6, 2) := by decide +kernel
theorem dX12_out2_223 : decode cX12_out2 223 = .ok (.aload_n 0, 1) := by decide +kernel
theorem dX12_out2_224 : decode cX12_out2 224 = .ok (.getfield 328, 3) := by decide +kernel
theorem dX12_out2_227 : decode cX12_out2 227 = .ok (.iload 6, 2) := by decide +kernel
theorem dX12_out2_229 : decode cX12_out2 229 = .ok (.iaload, 1) := by decide +kernel
theorem dX12_out2_230 : decode cX12_out2 230 = .ok (.iconst (-1), 1) := by decide +kernel
theorem dX12_out2_231 : decode cX12_out2 231 = .ok (.if_icmp .eq 58, 3) := by decide +kernel
theorem dX12_out2_234 : decode cX12_out2 234 = .ok (.aload_n 0, 1) := by decide +kernel
theorem dX12_out2_235 : decode cX12_out2 235 = .ok (.getfield 325, 3) := by decide +kernel
theorem dX12_out2_238 : decode cX12_out2 238 = .ok (.aload_n 0, 1) := by decide +kernel
theorem dX12_out2_239 : decode cX12_out2 239 = .ok (.getfield 328, 3) := by decide +kernel
theorem dX12_out2_242 : decode cX12_out2 242 = .ok (.iload 6, 2) := by decide +kernel
theorem dX12_out2_244 : decode cX12_out2 244 = .ok (.iaload, 1) := by decide +kernel
theorem dX12_out2_245 : decode cX12_out2 245 = .ok (.iaload, 1) := by decide +kernel
theorem dX12_out2_246 : decode cX12_out2 246 = .ok (.iload 5, 2) := by decide +kernel
theorem dX12_out2_248 : decode cX12_out2 248 = .ok (.if_icmp .ge 18, 3) := by decide +kernel
theorem dX12_out2_251 : decode cX12_out2 251 = .ok (.aload_n 0, 1) := by decide +kernel
theorem dX12_out2_252 : decode cX12_out2 252 = .ok (.getfield 325, 3) := by decide +kernel
theorem dX12_out2_255 : decode cX12_out2 255 = .ok (.aload_n 0, 1) := by decide +kernel
theorem dX12_out2_256 : decode cX12_out2 256 = .ok (.getfield 328, 3) := by decide +kernel
theorem dX12_out2_259 : decode cX12_out2 259 = .ok (.iload 6, 2) := by decide +kernel
theorem dX12_out2_261 : decode cX12_out2 261 = .ok (.iaload, 1) := by decide +kernel
theorem dX12_out2_262 : decode cX12_out2 262 = .ok (.iaload, 1) := by decide +kernel
theorem dX12_out2_263 : decode cX12_out2 263 = .ok (.goto 5, 3) := by decide +kernel
theorem dX12_out2_266 : decode cX12_out2 266 = .ok (.iload 5, 2) := by decide +kernel
theorem dX12_out2_268 : decode cX12_out2 268 = .ok (.istore 5, 2) := by decide +kernel
theorem dX12_out2_270 : decode cX12_out2 270 = .ok (.aload_n 0, 1) := by decide +kernel
theorem dX12_out2_271 : decode cX12_out2 271 = .ok (.getfield 322, 3) := by decide +kernel
theorem dX12_out2_274 : decode cX12_out2 274 = .ok (.aload_n 0, 1) := by decide +kernel
theorem dX12_out2_275 : decode cX12_out2 275 = .ok (.getfield 328, 3) := by decide +kernel
theorem dX12_out2_278 : decode cX12_out2 278 = .ok (.iload 6, 2) := by decide +kernel
theorem dX12_out2_280 : decode cX12_out2 280 = .ok (.iaload, 1) := by decide +kernel
theorem dX12_out2_281 : decode cX12_out2 281 = .ok (.iconst 1, 1) := by decide +kernel
theorem dX12_out2_282 : decode cX12_out2 282 = .ok (.ixor, 1) := by decide +kernel
theorem dX12_out2_283 : decode cX12_out2 283 = .ok (.iaload, 1) := by decide +kernel
theorem dX12_out2_284 : decode cX12_out2 284 = .ok (.istore 6, 2) := by decide +kernel
theorem dX12_out2_286 : decode cX12_out2 286 = .ok (.goto (-63), 3) := by decide +kernel
theorem dX12_out2_289 : decode cX12_out2 289 = .ok (.aload_n 0, 1) := by decide +kernel
theorem dX12_out2_290 : decode cX12_out2 290 = .ok (.getfield 334, 3) := by decide +kernel
theorem dX12_out2_293 : decode cX12_out2 293 = .ok (.iload 6, 2) := by decide +kernel
theorem dX12_out2_295 : decode cX12_out2 295 = .ok (.bipush 51, 2) := by decide +kernel
theorem dX12_out2_297 : decode cX12_out2 297 = .ok (.idiv, 1) := by decide +kernel
theorem dX12_out2_298 : decode cX12_out2 298 = .ok (.iaload, 1) := by decide +kernel
theorem dX12_out2_299 : decode cX12_out2 299 = .ok (.iload 5, 2) := by decide +kernel
theorem dX12_out2_301 : decode cX12_out2 301 = .ok (.if_icmp .ge 16, 3) := by decide +kernel
theorem dX12_out2_304 : decode cX12_out2 304 = .ok (.aload_n 0, 1) := by decide +kernel
theorem dX12_out2_305 : decode cX12_out2 305 = .ok (.getfield 334, 3) := by decide +kernel
theorem dX12_out2_308 : decode cX12_out2 308 = .ok (.iload 6, 2) := by decide +kernel
theorem dX12_out2_310 : decode cX12_out2 310 = .ok (.bipush 51, 2) := by decide +kernel
theorem dX12_out2_312 : decode cX12_out2 312 = .ok (.idiv, 1) := by decide +kernel
theorem dX12_out2_313 : decode cX12_out2 313 = .ok (.iaload, 1) := by decide +kernel
theorem dX12_out2_314 : decode cX12_out2 314 = .ok (.goto 5, 3) := by decide +kernel
theorem dX12_out2_317 : decode cX12_out2 317 = .ok (.iload 5, 2) := by decide +kernel
theorem dX12_out2_319 : decode cX12_out2 319 = .ok (.istore 5, 2) := by decide +kernel
theorem dX12_out2_321 : decode cX12_out2 321 = .ok (.aload_n 0, 1) := by decide +kernel
theorem dX12_out2_322 : decode cX12_out2 322 = .ok (.getfield 334, 3) := by decide +kernel
theorem dX12_out2_325 : decode cX12_out2 325 = .ok (.iload 6, 2) := by decide +kernel
theorem dX12_out2_327 : decode cX12_out2 327 = .ok (.bipush 51, 2) := by decide +kernel
theorem dX12_out2_329 : decode cX12_out2 329 = .ok (.idiv, 1) := by decide +kernel
theorem dX12_out2_330 : decode cX12_out2 330 = .ok (.dup2, 1) := by decide +kernel
theorem dX12_out2_331 : decode cX12_out2 331 = .ok (.iaload, 1) := by decide +kernel
theorem dX12_out2_332 : decode cX12_out2 332 = .ok (.iload 5, 2) := by decide +kernel
theorem dX12_out2_334 : decode cX12_out2 334 = .ok (.isub, 1) := by decide +kernel
theorem dX12_out2_335 : decode cX12_out2 335 = .ok (.iastore, 1) := by decide +kernel
theorem dX12_out2_336 : decode cX12_out2 336 = .ok (.iload 4, 2) := by decide +kernel
theorem dX12_out2_338 : decode cX12_out2 338 = .ok (.istore 6, 2) := by decide +kernel
theorem dX12_out2_340 : decode cX12_out2 340 = .ok (.aload_n 0, 1) := by decide +kernel
theorem dX12_out2_341 : decode cX12_out2 341 = .ok (.getfield 328, 3) := by decide +kernel
theorem dX12_out2_344 : decode cX12_out2 344 = .ok (.iload 6, 2) := by decide +kernel
theorem dX12_out2_346 : decode cX12_out2 346 = .ok (.iaload, 1) := by decide +kernel
theorem dX12_out2_347 : decode cX12_out2 347 = .ok (.iconst (-1), 1) := by decide +kernel
theorem dX12_out2_348 : decode cX12_out2 348 = .ok (.if_icmp .eq 58, 3) := by decide +kernel
theorem dX12_out2_351 : decode cX12_out2 351 = .ok (.aload_n 0, 1) := by decide +kernel
theorem dX12_out2_352 : decode cX12_out2 352 = .ok (.getfield 325, 3) := by decide +kernel
theorem dX12_out2_355 : decode cX12_out2 355 = .ok (.aload_n 0, 1) := by decide +kernel
theorem dX12_out2_356 : decode cX12_out2 356 = .ok (.getfield 328, 3) := by decide +kernel
theorem dX12_out2_359 : decode cX12_out2 359 = .ok (.iload 6, 2) := by decide +kernel
theorem dX12_out2_361 : decode cX12_out2 361 = .ok (.iaload, 1) := by decide +kernel
theorem dX12_out2_362 : decode cX12_out2 362 = .ok (.dup2, 1) := by decide +kernel
theorem dX12_out2_363 : decode cX12_out2 363 = .ok (.iaload, 1) := by decide +kernel
theorem dX12_out2_364 : decode cX12_out2 364 = .ok (.iload 5, 2) := by decide +kernel
theorem dX12_out2_366 : decode cX12_out2 366 = .ok (.isub, 1) := by decide +kernel
theorem dX12_out2_367 : decode cX12_out2 367 = .ok (.iastore, 1) := by decide +kernel
theorem dX12_out2_368 : decode cX12_out2 368 = .ok (.aload_n 0, 1) := by decide +kernel
theorem dX12_out2_369 : decode cX12_out2 369 = .ok (.getfield 325, 3) := by decide +kernel
theorem dX12_out2_372 : decode cX12_out2 372 = .ok (.aload_n 0, 1) := by decide +kernel
theorem dX12_out2_373 : decode cX12_out2 373 = .ok (.getfield 328, 3) := by decide +kernel
theorem dX12_out2_376 : decode cX12_out2 376 = .ok (.iload 6, 2) := by decide +kernel
theorem dX12_out2_378 : decode cX12_out2 378 = .ok (.iaload, 1) := by decide +kernel
theorem dX12_out2_379 : decode cX12_out2 379 = .ok (.iconst 1, 1) := by decide +kernel
theorem dX12_out2_380 : decode cX12_out2 380 = .ok (.ixor, 1) := by decide +kernel
theorem dX12_out2_381 : decode cX12_out2 381 = .ok (.dup2, 1) := by decide +kernel
theorem dX12_out2_382 : decode cX12_out2 382 = .ok (.iaload, 1) := by decide +kernel
theorem dX12_out2_383 : decode cX12_out2 383 = .ok (.iload 5, 2) := by decide +kernel
theorem dX12_out2_385 : decode cX12_out2 385 = .ok (.iadd, 1) := by decide +kernel
theorem dX12_out2_386 : decode cX12_out2 386 = .ok (.iastore, 1) := by decide +kernel
theorem dX12_out2_387 : decode cX12_out2 387 = .ok (.aload_n 0, 1) := by decide +kernel
theorem dX12_out2_388 : decode cX12_out2 388 = .ok (.getfield 322, 3) := by decide +kernel
theorem dX12_out2_391 : decode cX12_out2 391 = .ok (.aload_n 0, 1) := by decide +kernel
theorem dX12_out2_392 : decode cX12_out2 392 = .ok (.getfield 328, 3) := by decide +kernel
theorem dX12_out2_395 : decode cX12_out2 395 = .ok (.iload 6, 2) := by decide +kernel
theorem dX12_out2_397 : decode cX12_out2 397 = .ok (.iaload, 1) := by decide +kernel
theorem dX12_out2_398 : decode cX12_out2 398 = .ok (.iconst 1, 1) := by decide +kernel
theorem dX12_out2_399 : decode cX12_out2 399 = .ok (.ixor, 1) := by decide +kernel
theorem dX12_out2_400 : decode cX12_out2 400 = .ok (.iaload, 1) := by decide +kernel
theorem dX12_out2_401 : decode cX12_out2 401 = .ok (.istore 6, 2) := by decide +kernel
theorem dX12_out2_403 : decode cX12_out2 403 = .ok (.goto (-63), 3) := by decide +kernel
theorem dX12_out2_406 : decode cX12_out2 406 = .ok (.iload 5, 2) := by decide +kernel
theorem dX12_out2_408 : decode cX12_out2 408 = .ok (.ireturn, 1) := by decide +kernel
theorem dJ6_numberOfTrailingZeros_0f7a4_0 : decode cJ6_numberOfTrailingZeros_0f7a4 0 = .ok (.iload_n 0, 1) := by decide +kernel
theorem dJ6_numberOfTrailingZeros_0f7a4_1 : decode cJ6_numberOfTrailingZeros_0f7a4 1 = .ok (.iconst (-1), 1) := by decide +kernel
theorem dJ6_numberOfTrailingZeros_0f7a4_2 : decode cJ6_numberOfTrailingZeros_0f7a4 2 = .ok (.ixor, 1) := by decide +kernel
theorem dJ6_numberOfTrailingZeros_0f7a4_3 : decode cJ6_numberOfTrailingZeros_0f7a4 3 = .ok (.iload_n 0, 1) := by decide +kernel
theorem dJ6_numberOfTrailingZeros_0f7a4_4 : decode cJ6_numberOfTrailingZeros_0f7a4 4 = .ok (.iconst 1, 1) := by decide +kernel
theorem dJ6_numberOfTrailingZeros_0f7a4_5 : decode cJ6_numberOfTrailingZeros_0f7a4 5 = .ok (.isub, 1) := by decide +kernel
theorem dJ6_numberOfTrailingZeros_0f7a4_6 : decode cJ6_numberOfTrailingZeros_0f7a4 6 = .ok (.iand, 1) := by decide +kernel
theorem dJ6_numberOfTrailingZeros_0f7a4_7 : decode cJ6_numberOfTrailingZeros_0f7a4 7 = .ok (.istore_n 0, 1) := by decide +kernel
theorem dJ6_numberOfTrailingZeros_0f7a4_8 : decode cJ6_numberOfTrailingZeros_0f7a4 8 = .ok (.iload_n 0, 1) := by decide +kernel
theorem dJ6_numberOfTrailingZeros_0f7a4_9 : decode cJ6_numberOfTrailingZeros_0f7a4 9 = .ok (.ifCond .gt 8, 3) := by decide +kernel
theorem dJ6_numberOfTrailingZeros_0f7a4_12 : decode cJ6_numberOfTrailingZeros_0f7a4 12 = .ok (.iload_n 0, 1) := by decide +kernel
theorem dJ6_numberOfTrailingZeros_0f7a4_13 : decode cJ6_numberOfTrailingZeros_0f7a4 13 = .ok (.bipush 32, 2) := by decide +kernel
theorem dJ6_numberOfTrailingZeros_0f7a4_15 : decode cJ6_numberOfTrailingZeros_0f7a4 15 = .ok (.iand, 1) := by decide +kernel
theorem dJ6_numberOfTrailingZeros_0f7a4_16 : decode cJ6_numberOfTrailingZeros_0f7a4 16 = .ok (.ireturn, 1) := by decide +kernel
theorem dJ6_numberOfTrailingZeros_0f7a4_17 : decode cJ6_numberOfTrailingZeros_0f7a4 17 = .ok (.iconst 1, 1) := by decide +kernel
theorem dJ6_numberOfTrailingZeros_0f7a4_18 : decode cJ6_numberOfTrailingZeros_0f7a4 18 = .ok (.istore_n 1, 1) := by decide +kernel
theorem dJ6_numberOfTrailingZeros_0f7a4_19 : decode cJ6_numberOfTrailingZeros_0f7a4 19 = .ok (.iload_n 0, 1) := by decide +kernel
theorem dJ6_numberOfTrailingZeros_0f7a4_20 : decode cJ6_numberOfTrailingZeros_0f7a4 20 = .ok (.ldc_w 264, 3) := by decide +kernel
theorem dJ6_numberOfTrailingZeros_0f7a4_23 : decode cJ6_numberOfTrailingZeros_0f7a4 23 = .ok (.if_icmp .le 11, 3) := by decide +kernel
theorem dJ6_numberOfTrailingZeros_0f7a4_26 : decode cJ6_numberOfTrailingZeros_0f7a4 26 = .ok (.iinc 1 16, 3) := by decide +kernel
theorem dJ6_numberOfTrailingZeros_0f7a4_29 : decode cJ6_numberOfTrailingZeros_0f7a4 29 = .ok (.iload_n 0, 1) := by decide +kernel
theorem dJ6_numberOfTrailingZeros_0f7a4_30 : decode cJ6_numberOfTrailingZeros_0f7a4 30 = .ok (.bipush 16, 2) := by decide +kernel
theorem dJ6_numberOfTrailingZeros_0f7a4_32 : decode cJ6_numberOfTrailingZeros_0f7a4 32 = .ok (.iushr, 1) := by decide +kernel
theorem dJ6_numberOfTrailingZeros_0f7a4_33 : decode cJ6_numberOfTrailingZeros_0f7a4 33 = .ok (.istore_n 0, 1) := by decide +kernel
theorem dJ6_numberOfTrailingZeros_0f7a4_34 : decode cJ6_numberOfTrailingZeros_0f7a4 34 = .ok (.iload_n 0, 1) := by decide +kernel
theorem dJ6_numberOfTrailingZeros_0f7a4_35 : decode cJ6_numberOfTrailingZeros_0f7a4 35 = .ok (.sipush 256, 3) := by decide +kernel
theorem dJ6_numberOfTrailingZeros_0f7a4_38 : decode cJ6_numberOfTrailingZeros_0f7a4 38 = .ok (.if_icmp .le 11, 3) := by decide +kernel
theorem dJ6_numberOfTrailingZeros_0f7a4_41 : decode cJ6_numberOfTrailingZeros_0f7a4 41 = .ok (.iinc 1 8, 3) := by decide +kernel
theorem dJ6_numberOfTrailingZeros_0f7a4_44 : decode cJ6_numberOfTrailingZeros_0f7a4 44 = .ok (.iload_n 0, 1) := by decide +kernel
theorem dJ6_numberOfTrailingZeros_0f7a4_45 : decode cJ6_numberOfTrailingZeros_0f7a4 45 = .ok (.bipush 8, 2) := by decide +kernel
theorem dJ6_numberOfTrailingZeros_0f7a4_47 : decode cJ6_numberOfTrailingZeros_0f7a4 47 = .ok (.iushr, 1) := by decide +kernel
theorem dJ6_numberOfTrailingZeros_0f7a4_48 : decode cJ6_numberOfTrailingZeros_0f7a4 48 = .ok (.istore_n 0, 1) := by decide +kernel
theorem dJ6_numberOfTrailingZeros_0f7a4_49 : decode cJ6_numberOfTrailingZeros_0f7a4 49 = .ok (.iload_n 0, 1) := by decide +kernel
theorem dJ6_numberOfTrailingZeros_0f7a4_50 : decode cJ6_numberOfTrailingZeros_0f7a4 50 = .ok (.bipush 16, 2) := by decide +kernel
theorem dJ6_numberOfTrailingZeros_0f7a4_52 : decode cJ6_numberOfTrailingZeros_0f7a4 52 = .ok (.if_icmp .le 10, 3) := by decide +kernel
theorem dJ6_numberOfTrailingZeros_0f7a4_55 : decode cJ6_numberOfTrailingZeros_0f7a4 55 = .ok (.iinc 1 4, 3) := by decide +kernel
theorem dJ6_numberOfTrailingZeros_0f7a4_58 : decode cJ6_numberOfTrailingZeros_0f7a4 58 = .ok (.iload_n 0, 1) := by decide +kernel
theorem dJ6_numberOfTrailingZeros_0f7a4_59 : decode cJ6_numberOfTrailingZeros_0f7a4 59 = .ok (.iconst 4, 1) := by decide +kernel
theorem dJ6_numberOfTrailingZeros_0f7a4_60 : decode cJ6_numberOfTrailingZeros_0f7a4 60 = .ok (.iushr, 1) := by decide +kernel
theorem dJ6_numberOfTrailingZeros_0f7a4_61 : decode cJ6_numberOfTrailingZeros_0f7a4 61 = .ok (.istore_n 0, 1) := by decide +kernel
theorem dJ6_numberOfTrailingZeros_0f7a4_62 : decode cJ6_numberOfTrailingZeros_0f7a4 62 = .ok (.iload_n 0, 1) := by decide +kernel
theorem dJ6_numberOfTrailingZeros_0f7a4_63 : decode cJ6_numberOfTrailingZeros_0f7a4 63 = .ok (.iconst 4, 1) := by decide +kernel
theorem dJ6_numberOfTrailingZeros_0f7a4_64 : decode cJ6_numberOfTrailingZeros_0f7a4 64 = .ok (.if_icmp .le 10, 3) := by decide +kernel
theorem dJ6_numberOfTrailingZeros_0f7a4_67 : decode cJ6_numberOfTrailingZeros_0f7a4 67 = .ok (.iinc 1 2, 3) := by decide +kernel
theorem dJ6_numberOfTrailingZeros_0f7a4_70 : decode cJ6_numberOfTrailingZeros_0f7a4 70 = .ok (.iload_n 0, 1) := by decide +kernel
theorem dJ6_numberOfTrailingZeros_0f7a4_71 : decode cJ6_numberOfTrailingZeros_0f7a4 71 = .ok (.iconst 2, 1) := by decide +kernel
theorem dJ6_numberOfTrailingZeros_0f7a4_72 : decode cJ6_numberOfTrailingZeros_0f7a4 72 = .ok (.iushr, 1) := by decide +kernel
theorem dJ6_numberOfTrailingZeros_0f7a4_73 : decode cJ6_numberOfTrailingZeros_0f7a4 73 = .ok (.istore_n 0, 1) := by decide +kernel
theorem dJ6_numberOfTrailingZeros_0f7a4_74 : decode cJ6_numberOfTrailingZeros_0f7a4 74 = .ok (.iload_n 1, 1) := by decide +kernel
theorem dJ6_numberOfTrailingZeros_0f7a4_75 : decode cJ6_numberOfTrailingZeros_0f7a4 75 = .ok (.iload_n 0, 1) := by decide +kernel
theorem dJ6_numberOfTrailingZeros_0f7a4_76 : decode cJ6_numberOfTrailingZeros_0f7a4 76 = .ok (.iconst 1, 1) := by decide +kernel
theorem dJ6_numberOfTrailingZeros_0f7a4_77 : decode cJ6_numberOfTrailingZeros_0f7a4 77 = .ok (.iushr, 1) := by decide +kernel
theorem dJ6_numberOfTrailingZeros_0f7a4_78 : decode cJ6_numberOfTrailingZeros_0f7a4 78 = .ok (.iadd, 1) := by decide +kernel
theorem dJ6_numberOfTrailingZeros_0f7a4_79 : decode cJ6_numberOfTrailingZeros_0f7a4 79 = .ok (.ireturn, 1) := by decide +kernel
theorem dJ6_bitCount_0f7a4_0 : decode cJ6_bitCount_0f7a4 0 = .ok (.iload_n 0, 1) := by decide +kernel
theorem dJ6_bitCount_0f7a4_1 : decode cJ6_bitCount_0f7a4 1 = .ok (.iload_n 0, 1) := by decide +kernel
theorem dJ6_bitCount_0f7a4_2 : decode cJ6_bitCount_0f7a4 2 = .ok (.iconst 1, 1) := by decide +kernel
theorem dJ6_bitCount_0f7a4_3 : decode cJ6_bitCount_0f7a4 3 = .ok (.iushr, 1) := by decide +kernel
theorem dJ6_bitCount_0f7a4_4 : decode cJ6_bitCount_0f7a4 4 = .ok (.ldc_w 265, 3) := by decide +kernel
theorem dJ6_bitCount_0f7a4_7 : decode cJ6_bitCount_0f7a4 7 = .ok (.iand, 1) := by decide +kernel
theorem dJ6_bitCount_0f7a4_8 : decode cJ6_bitCount_0f7a4 8 = .ok (.isub, 1) := by decide +kernel
theorem dJ6_bitCount_0f7a4_9 : decode cJ6_bitCount_0f7a4 9 = .ok (.istore_n 0, 1) := by decide +kernel
theorem dJ6_bitCount_0f7a4_10 : decode cJ6_bitCount_0f7a4 10 = .ok (.iload_n 0, 1) := by decide +kernel
theorem dJ6_bitCount_0f7a4_11 : decode cJ6_bitCount_0f7a4 11 = .ok (.ldc_w 266, 3) := by decide +kernel
theorem dJ6_bitCount_0f7a4_14 : decode cJ6_bitCount_0f7a4 14 = .ok (.iand, 1) := by decide +kernel
theorem dJ6_bitCount_0f7a4_15 : decode cJ6_bitCount_0f7a4 15 = .ok (.iload_n 0, 1) := by decide +kernel
theorem dJ6_bitCount_0f7a4_16 : decode cJ6_bitCount_0f7a4 16 = .ok (.iconst 2, 1) := by decide +kernel
theorem dJ6_bitCount_0f7a4_17 : decode cJ6_bitCount_0f7a4 17 = .ok (.iushr, 1) := by decide +kernel
theorem dJ6_bitCount_0f7a4_18 : decode cJ6_bitCount_0f7a4 18 = .ok (.ldc_w 266, 3) := by decide +kernel
theorem dJ6_bitCount_0f7a4_21 : decode cJ6_bitCount_0f7a4 21 = .ok (.iand, 1) := by decide +kernel
theorem dJ6_bitCount_0f7a4_22 : decode cJ6_bitCount_0f7a4 22 = .ok (.iadd, 1) := by decide +kernel
theorem dJ6_bitCount_0f7a4_23 : decode cJ6_bitCount_0f7a4 23 = .ok (.istore_n 0, 1) := by decide +kernel
theorem dJ6_bitCount_0f7a4_24 : decode cJ6_bitCount_0f7a4 24 = .ok (.iload_n 0, 1) := by decide +kernel
theorem dJ6_bitCount_0f7a4_25 : decode cJ6_bitCount_0f7a4 25 = .ok (.iload_n 0, 1) := by decide +kernel
theorem dJ6_bitCount_0f7a4_26 : decode cJ6_bitCount_0f7a4 26 = .ok (.iconst 4, 1) := by decide +kernel
theorem dJ6_bitCount_0f7a4_27 : decode cJ6_bitCount_0f7a4 27 = .ok (.iushr, 1) := by decide +kernel
theorem dJ6_bitCount_0f7a4_28 : decode cJ6_bitCount_0f7a4 28 = .ok (.iadd, 1) := by decide +kernel
theorem dJ6_bitCount_0f7a4_29 : decode cJ6_bitCount_0f7a4 29 = .ok (.ldc_w 267, 3) := by decide +kernel
theorem dJ6_bitCount_0f7a4_32 : decode cJ6_bitCount_0f7a4 32 = .ok (.iand, 1) := by decide +kernel
theorem dJ6_bitCount_0f7a4_33 : decode cJ6_bitCount_0f7a4 33 = .ok (.istore_n 0, 1) := by decide +kernel
theorem dJ6_bitCount_0f7a4_34 : decode cJ6_bitCount_0f7a4 34 = .ok (.iload_n 0, 1) := by decide +kernel
theorem dJ6_bitCount_0f7a4_35 : decode cJ6_bitCount_0f7a4 35 = .ok (.iload_n 0, 1) := by decide +kernel
theorem dJ6_bitCount_0f7a4_36 : decode cJ6_bitCount_0f7a4 36 = .ok (.bipush 8, 2) := by decide +kernel
theorem dJ6_bitCount_0f7a4_38 : decode cJ6_bitCount_0f7a4 38 = .ok (.iushr, 1) := by decide +kernel
theorem dJ6_bitCount_0f7a4_39 : decode cJ6_bitCount_0f7a4 39 = .ok (.iadd, 1) := by decide +kernel
theorem dJ6_bitCount_0f7a4_40 : decode cJ6_bitCount_0f7a4 40 = .ok (.istore_n 0, 1) := by decide +kernel
theorem dJ6_bitCount_0f7a4_41 : decode cJ6_bitCount_0f7a4 41 = .ok (.iload_n 0, 1) := by decide +kernel
theorem dJ6_bitCount_0f7a4_42 : decode cJ6_bitCount_0f7a4 42 = .ok (.iload_n 0, 1) := by decide +kernel
theorem dJ6_bitCount_0f7a4_43 : decode cJ6_bitCount_0f7a4 43 = .ok (.bipush 16, 2) := by decide +kernel
theorem dJ6_bitCount_0f7a4_45 : decode cJ6_bitCount_0f7a4 45 = .ok (.iushr, 1) := by decide +kernel
theorem dJ6_bitCount_0f7a4_46 : decode cJ6_bitCount_0f7a4 46 = .ok (.iadd, 1) := by decide +kernel
theorem dJ6_bitCount_0f7a4_47 : decode cJ6_bitCount_0f7a4 47 = .ok (.istore_n 0, 1) := by decide +kernel
theorem dJ6_bitCount_0f7a4_48 : decode cJ6_bitCount_0f7a4 48 = .ok (.iload_n 0, 1) := by decide +kernel
theorem dJ6_bitCount_0f7a4_49 : decode cJ6_bitCount_0f7a4 49 = .ok (.bipush 63, 2) := by decide +kernel
theorem dJ6_bitCount_0f7a4_51 : decode cJ6_bitCount_0f7a4 51 = .ok (.iand, 1) := by decide +kernel
theorem dJ6_bitCount_0f7a4_52 : decode cJ6_bitCount_0f7a4 52 = .ok (.ireturn, 1) := by decide +kernel
theorem dJ13_numberOfTrailingZeros_95d88_0 : decode cJ13_numberOfTrailingZeros_95d88 0 = .ok (.lload_n 0, 1) := by decide +kernel
theorem dJ13_numberOfTrailingZeros_95d88_1 : decode cJ13_numberOfTrailingZeros_95d88 1 = .ok (.l2i, 1) := by decide +kernel
theorem dJ13_numberOfTrailingZeros_95d88_2 : decode cJ13_numberOfTrailingZeros_95d88 2 = .ok (.istore_n 2, 1) := by decide +kernel
theorem dJ13_numberOfTrailingZeros_95d88_3 : decode cJ13_numberOfTrailingZeros_95d88 3 = .ok (.iload_n 2, 1) := by decide +kernel
theorem dJ13_numberOfTrailingZeros_95d88_4 : decode cJ13_numberOfTrailingZeros_95d88 4 = .ok (.ifCond .ne 17, 3) := by decide +kernel
theorem dJ13_numberOfTrailingZeros_95d88_7 : decode cJ13_numberOfTrailingZeros_95d88 7 = .ok (.bipush 32, 2) := by decide +kernel
theorem dJ13_numberOfTrailingZeros_95d88_9 : decode cJ13_numberOfTrailingZeros_95d88 9 = .ok (.lload_n 0, 1) := by decide +kernel
theorem dJ13_numberOfTrailingZeros_95d88_10 : decode cJ13_numberOfTrailingZeros_95d88 10 = .ok (.bipush 32, 2) := by decide +kernel
theorem dJ13_numberOfTrailingZeros_95d88_12 : decode cJ13_numberOfTrailingZeros_95d88 12 = .ok (.lushr, 1) := by decide +kernel
theorem dJ13_numberOfTrailingZeros_95d88_13 : decode cJ13_numberOfTrailingZeros_95d88 13 = .ok (.l2i, 1) := by decide +kernel
theorem dJ13_numberOfTrailingZeros_95d88_14 : decode cJ13_numberOfTrailingZeros_95d88 14 = .ok (.invokestatic 311, 3) := by decide +kernel
theorem dJ13_numberOfTrailingZeros_95d88_17 : decode cJ13_numberOfTrailingZeros_95d88 17 = .ok (.iadd, 1) := by decide +kernel
theorem dJ13_numberOfTrailingZeros_95d88_18 : decode cJ13_numberOfTrailingZeros_95d88 18 = .ok (.goto 7, 3) := by decide +kernel
theorem dJ13_numberOfTrailingZeros_95d88_21 : decode cJ13_numberOfTrailingZeros_95d88 21 = .ok (.iload_n 2, 1) := by decide +kernel
theorem dJ13_numberOfTrailingZeros_95d88_22 : decode cJ13_numberOfTrailingZeros_95d88 22 = .ok (.invokestatic 311, 3) := by decide +kernel
theorem dJ13_numberOfTrailingZeros_95d88_25 : decode cJ13_numberOfTrailingZeros_95d88 25 = .ok (.ireturn, 1) := by decide +kernel
theorem dJ13_bitCount_95d88_0 : decode cJ13_bitCount_95d88 0 = .ok (.lload_n 0, 1) := by decide +kernel
theorem dJ13_bitCount_95d88_1 : decode cJ13_bitCount_95d88 1 = .ok (.lload_n 0, 1) := by decide +kernel
theorem dJ13_bitCount_95d88_2 : decode cJ13_bitCount_95d88 2 = .ok (.iconst 1, 1) := by decide +kernel
theorem dJ13_bitCount_95d88_3 : decode cJ13_bitCount_95d88 3 = .ok (.lushr, 1) := by decide +kernel
theorem dJ13_bitCount_95d88_4 : decode cJ13_bitCount_95d88 4 = .ok (.ldc2_w 314, 3) := by decide +kernel
theorem dJ13_bitCount_95d88_7 : decode cJ13_bitCount_95d88 7 = .ok (.land, 1) := by decide +kernel
theorem dJ13_bitCount_95d88_8 : decode cJ13_bitCount_95d88 8 = .ok (.lsub, 1) := by decide +kernel
theorem dJ13_bitCount_95d88_9 : decode cJ13_bitCount_95d88 9 = .ok (.lstore_n 0, 1) := by decide +kernel
theorem dJ13_bitCount_95d88_10 : decode cJ13_bitCount_95d88 10 = .ok (.lload_n 0, 1) := by decide +kernel
theorem dJ13_bitCount_95d88_11 : decode cJ13_bitCount_95d88 11 = .ok (.ldc2_w 316, 3) := by decide +kernel
theorem dJ13_bitCount_95d88_14 : decode cJ13_bitCount_95d88 14 = .ok (.land, 1) := by decide +kernel
theorem dJ13_bitCount_95d88_15 : decode cJ13_bitCount_95d88 15 = .ok (.lload_n 0, 1) := by decide +kernel
theorem dJ13_bitCount_95d88_16 : decode cJ13_bitCount_95d88 16 = .ok (.iconst 2, 1) := by decide +kernel
theorem dJ13_bitCount_95d88_17 : decode cJ13_bitCount_95d88 17 = .ok (.lushr, 1) := by decide +kernel
theorem dJ13_bitCount_95d88_18 : decode cJ13_bitCount_95d88 18 = .ok (.ldc2_w 316, 3) := by decide +kernel
theorem dJ13_bitCount_95d88_21 : decode cJ13_bitCount_95d88 21 = .ok (.land, 1) := by decide +kernel
theorem dJ13_bitCount_95d88_22 : decode cJ13_bitCount_95d88 22 = .ok (.ladd, 1) := by decide +kernel
theorem dJ13_bitCount_95d88_23 : decode cJ13_bitCount_95d88 23 = .ok (.lstore_n 0, 1) := by decide +kernel
theorem dJ13_bitCount_95d88_24 : decode cJ13_bitCount_95d88 24 = .ok (.lload_n 0, 1) := by decide +kernel
theorem dJ13_bitCount_95d88_25 : decode cJ13_bitCount_95d88 25 = .ok (.lload_n 0, 1) := by decide +kernel
theorem dJ13_bitCount_95d88_26 : decode cJ13_bitCount_95d88 26 = .ok (.iconst 4, 1) := by decide +kernel
theorem dJ13_bitCount_95d88_27 : decode cJ13_bitCount_95d88 27 = .ok (.lushr, 1) := by decide +kernel
theorem dJ13_bitCount_95d88_28 : decode cJ13_bitCount_95d88 28 = .ok (.ladd, 1) := by decide +kernel
theorem dJ13_bitCount_95d88_29 : decode cJ13_bitCount_95d88 29 = .ok (.ldc2_w 318, 3) := by decide +kernel
theorem dJ13_bitCount_95d88_32 : decode cJ13_bitCount_95d88 32 = .ok (.land, 1) := by decide +kernel
theorem dJ13_bitCount_95d88_33 : decode cJ13_bitCount_95d88 33 = .ok (.lstore_n 0, 1) := by decide +kernel
theorem dJ13_bitCount_95d88_34 : decode cJ13_bitCount_95d88 34 = .ok (.lload_n 0, 1) := by decide +kernel
theorem dJ13_bitCount_95d88_35 : decode cJ13_bitCount_95d88 35 = .ok (.lload_n 0, 1) := by decide +kernel
theorem dJ13_bitCount_95d88_36 : decode cJ13_bitCount_95d88 36 = .ok (.bipush 8, 2) := by decide +kernel
theorem dJ13_bitCount_95d88_38 : decode cJ13_bitCount_95d88 38 = .ok (.lushr, 1) := by decide +kernel
theorem dJ13_bitCount_95d88_39 : decode cJ13_bitCount_95d88 39 = .ok (.ladd, 1) := by decide +kernel
theorem dJ13_bitCount_95d88_40 : decode cJ13_bitCount_95d88 40 = .ok (.lstore_n 0, 1) := by decide +kernel
theorem dJ13_bitCount_95d88_41 : decode cJ13_bitCount_95d88 41 = .ok (.lload_n 0, 1) := by decide +kernel
theorem dJ13_bitCount_95d88_42 : decode cJ13_bitCount_95d88 42 = .ok (.lload_n 0, 1) := by decide +kernel
theorem dJ13_bitCount_95d88_43 : decode cJ13_bitCount_95d88 43 = .ok (.bipush 16, 2) := by decide +kernel
theorem dJ13_bitCount_95d88_45 : decode cJ13_bitCount_95d88 45 = .ok (.lushr, 1) := by decide +kernel
theorem dJ13_bitCount_95d88_46 : decode cJ13_bitCount_95d88 46 = .ok (.ladd, 1) := by decide +kernel
theorem dJ13_bitCount_95d88_47 : decode cJ13_bitCount_95d88 47 = .ok (.lstore_n 0, 1) := by decide +kernel
theorem dJ13_bitCount_95d88_48 : decode cJ13_bitCount_95d88 48 = .ok (.lload_n 0, 1) := by decide +kernel
theorem dJ13_bitCount_95d88_49 : decode cJ13_bitCount_95d88 49 = .ok (.lload_n 0, 1) := by decide +kernel
theorem dJ13_bitCount_95d88_50 : decode cJ13_bitCount_95d88 50 = .ok (.bipush 32, 2) := by decide +kernel
theorem dJ13_bitCount_95d88_52 : decode cJ13_bitCount_95d88 52 = .ok (.lushr, 1) := by decide +kernel
theorem dJ13_bitCount_95d88_53 : decode cJ13_bitCount_95d88 53 = .ok (.ladd, 1) := by decide +kernel
theorem dJ13_bitCount_95d88_54 : decode cJ13_bitCount_95d88 54 = .ok (.lstore_n 0, 1) := by decide +kernel
theorem dJ13_bitCount_95d88_55 : decode cJ13_bitCount_95d88 55 = .ok (.lload_n 0, 1) := by decide +kernel
theorem dJ13_bitCount_95d88_56 : decode cJ13_bitCount_95d88 56 = .ok (.l2i, 1) := by decide +kernel
theorem dJ13_bitCount_95d88_57 : decode cJ13_bitCount_95d88 57 = .ok (.bipush 127, 2) := by decide +kernel
theorem dJ13_bitCount_95d88_59 : decode cJ13_bitCount_95d88 59 = .ok (.iand, 1) := by decide +kernel
theorem dJ13_bitCount_95d88_60 : decode cJ13_bitCount_95d88 60 = .ok (.ireturn, 1) := by decide +kernel
theorem dJ9_floorDiv_7cf53_0 : decode cJ9_floorDiv_7cf53 0 = .ok (.iload_n 0, 1) := by decide +kernel
theorem dJ9_floorDiv_7cf53_1 : decode cJ9_floorDiv_7cf53 1 = .ok (.iload_n 1, 1) := by decide +kernel
theorem dJ9_floorDiv_7cf53_2 : decode cJ9_floorDiv_7cf53 2 = .ok (.idiv, 1) := by decide +kernel
theorem dJ9_floorDiv_7cf53_3 : decode cJ9_floorDiv_7cf53 3 = .ok (.istore_n 2, 1) := by decide +kernel
theorem dJ9_floorDiv_7cf53_4 : decode cJ9_floorDiv_7cf53 4 = .ok (.iload_n 0, 1) := by decide +kernel
theorem dJ9_floorDiv_7cf53_5 : decode cJ9_floorDiv_7cf53 5 = .ok (.iload_n 1, 1) := by decide +kernel
theorem dJ9_floorDiv_7cf53_6 : decode cJ9_floorDiv_7cf53 6 = .ok (.ixor, 1) := by decide +kernel
theorem dJ9_floorDiv_7cf53_7 : decode cJ9_floorDiv_7cf53 7 = .ok (.ifCond .ge 14, 3) := by decide +kernel
theorem dJ9_floorDiv_7cf53_10 : decode cJ9_floorDiv_7cf53 10 = .ok (.iload_n 2, 1) := by decide +kernel
theorem dJ9_floorDiv_7cf53_11 : decode cJ9_floorDiv_7cf53 11 = .ok (.iload_n 1, 1) := by decide +kernel
theorem dJ9_floorDiv_7cf53_12 : decode cJ9_floorDiv_7cf53 12 = .ok (.imul, 1) := by decide +kernel
theorem dJ9_floorDiv_7cf53_13 : decode cJ9_floorDiv_7cf53 13 = .ok (.iload_n 0, 1) := by decide +kernel
theorem dJ9_floorDiv_7cf53_14 : decode cJ9_floorDiv_7cf53 14 = .ok (.if_icmp .eq 7, 3) := by decide +kernel
theorem dJ9_floorDiv_7cf53_17 : decode cJ9_floorDiv_7cf53 17 = .ok (.iload_n 2, 1) := by decide +kernel
theorem dJ9_floorDiv_7cf53_18 : decode cJ9_floorDiv_7cf53 18 = .ok (.iconst 1, 1) := by decide +kernel
theorem dJ9_floorDiv_7cf53_19 : decode cJ9_floorDiv_7cf53 19 = .ok (.isub, 1) := by decide +kernel
theorem dJ9_floorDiv_7cf53_20 : decode cJ9_floorDiv_7cf53 20 = .ok (.ireturn, 1) := by decide +kernel
theorem dJ9_floorDiv_7cf53_21 : decode cJ9_floorDiv_7cf53 21 = .ok (.iload_n 2, 1) := by decide +kernel
theorem dJ9_floorDiv_7cf53_22 : decode cJ9_floorDiv_7cf53 22 = .ok (.ireturn, 1) := by decide +kernel
theorem dJ9_floorDiv_f86c9_0 : decode cJ9_floorDiv_f86c9 0 = .ok (.lload_n 0, 1) := by decide +kernel
theorem dJ9_floorDiv_f86c9_1 : decode cJ9_floorDiv_f86c9 1 = .ok (.lload_n 2, 1) := by decide +kernel
theorem dJ9_floorDiv_f86c9_2 : decode cJ9_floorDiv_f86c9 2 = .ok (.ldiv, 1) := by decide +kernel
theorem dJ9_floorDiv_f86c9_3 : decode cJ9_floorDiv_f86c9 3 = .ok (.lstore 4, 2) := by decide +kernel
theorem dJ9_floorDiv_f86c9_5 : decode cJ9_floorDiv_f86c9 5 = .ok (.lload_n 0, 1) := by decide +kernel
theorem dJ9_floorDiv_f86c9_6 : decode cJ9_floorDiv_f86c9 6 = .ok (.lload_n 2, 1) := by decide +kernel
theorem dJ9_floorDiv_f86c9_7 : decode cJ9_floorDiv_f86c9 7 = .ok (.lxor, 1) := by decide +kernel
theorem dJ9_floorDiv_f86c9_8 : decode cJ9_floorDiv_f86c9 8 = .ok (.lconst 0, 1) := by decide +kernel
theorem dJ9_floorDiv_f86c9_9 : decode cJ9_floorDiv_f86c9 9 = .ok (.lcmp, 1) := by decide +kernel
theorem dJ9_floorDiv_f86c9_10 : decode cJ9_floorDiv_f86c9 10 = .ok (.ifCond .ge 17, 3) := by decide +kernel
theorem dJ9_floorDiv_f86c9_13 : decode cJ9_floorDiv_f86c9 13 = .ok (.lload 4, 2) := by decide +kernel
theorem dJ9_floorDiv_f86c9_15 : decode cJ9_floorDiv_f86c9 15 = .ok (.lload_n 2, 1) := by decide +kernel
theorem dJ9_floorDiv_f86c9_16 : decode cJ9_floorDiv_f86c9 16 = .ok (.lmul, 1) := by decide +kernel
theorem dJ9_floorDiv_f86c9_17 : decode cJ9_floorDiv_f86c9 17 = .ok (.lload_n 0, 1) := by decide +kernel
theorem dJ9_floorDiv_f86c9_18 : decode cJ9_floorDiv_f86c9 18 = .ok (.lcmp, 1) := by decide +kernel
theorem dJ9_floorDiv_f86c9_19 : decode cJ9_floorDiv_f86c9 19 = .ok (.ifCond .eq 8, 3) := by decide +kernel
theorem dJ9_floorDiv_f86c9_22 : decode cJ9_floorDiv_f86c9 22 = .ok (.lload 4, 2) := by decide +kernel
theorem dJ9_floorDiv_f86c9_24 : decode cJ9_floorDiv_f86c9 24 = .ok (.lconst 1, 1) := by decide +kernel
theorem dJ9_floorDiv_f86c9_25 : decode cJ9_floorDiv_f86c9 25 = .ok (.lsub, 1) := by decide +kernel
theorem dJ9_floorDiv_f86c9_26 : decode cJ9_floorDiv_f86c9 26 = .ok (.lreturn, 1) := by decide +kernel
theorem dJ9_floorDiv_f86c9_27 : decode cJ9_floorDiv_f86c9 27 = .ok (.lload 4, 2) := by decide +kernel
theorem dJ9_floorDiv_f86c9_29 : decode cJ9_floorDiv_f86c9 29 = .ok (.lreturn, 1) := by decide +kernel
theorem dJ9_floorMod_f86c9_0 : decode cJ9_floorMod_f86c9 0 = .ok (.lload_n 0, 1) := by decide +kernel
theorem dJ9_floorMod_f86c9_1 : decode cJ9_floorMod_f86c9 1 = .ok (.lload_n 2, 1) := by decide +kernel
theorem dJ9_floorMod_f86c9_2 : decode cJ9_floorMod_f86c9 2 = .ok (.lrem, 1) := by decide +kernel
theorem dJ9_floorMod_f86c9_3 : decode cJ9_floorMod_f86c9 3 = .ok (.lstore 4, 2) := by decide +kernel
theorem dJ9_floorMod_f86c9_5 : decode cJ9_floorMod_f86c9 5 = .ok (.lload_n 0, 1) := by decide +kernel
theorem dJ9_floorMod_f86c9_6 : decode cJ9_floorMod_f86c9 6 = .ok (.lload_n 2, 1) := by decide +kernel
theorem dJ9_floorMod_f86c9_7 : decode cJ9_floorMod_f86c9 7 = .ok (.lxor, 1) := by decide +kernel
theorem dJ9_floorMod_f86c9_8 : decode cJ9_floorMod_f86c9 8 = .ok (.lconst 0, 1) := by decide +kernel
theorem dJ9_floorMod_f86c9_9 : decode cJ9_floorMod_f86c9 9 = .ok (.lcmp, 1) := by decide +kernel
theorem dJ9_floorMod_f86c9_10 : decode cJ9_floorMod_f86c9 10 = .ok (.ifCond .ge 15, 3) := by decide +kernel
theorem dJ9_floorMod_f86c9_13 : decode cJ9_floorMod_f86c9 13 = .ok (.lload 4, 2) := by decide +kernel
theorem dJ9_floorMod_f86c9_15 : decode cJ9_floorMod_f86c9 15 = .ok (.lconst 0, 1) := by decide +kernel
theorem dJ9_floorMod_f86c9_16 : decode cJ9_floorMod_f86c9 16 = .ok (.lcmp, 1) := by decide +kernel
theorem dJ9_floorMod_f86c9_17 : decode cJ9_floorMod_f86c9 17 = .ok (.ifCond .eq 8, 3) := by decide +kernel
theorem dJ9_floorMod_f86c9_20 : decode cJ9_floorMod_f86c9 20 = .ok (.lload 4, 2) := by decide +kernel
theorem dJ9_floorMod_f86c9_22 : decode cJ9_floorMod_f86c9 22 = .ok (.lload_n 2, 1) := by decide +kernel
theorem dJ9_floorMod_f86c9_23 : decode cJ9_floorMod_f86c9 23 = .ok (.ladd, 1) := by decide +kernel
theorem dJ9_floorMod_f86c9_24 : decode cJ9_floorMod_f86c9 24 = .ok (.lreturn, 1) := by decide +kernel
theorem dJ9_floorMod_f86c9_25 : decode cJ9_floorMod_f86c9 25 = .ok (.lload 4, 2) := by decide +kernel
theorem dJ9_floorMod_f86c9_27 : decode cJ9_floorMod_f86c9 27 = .ok (.lreturn, 1) := by decide +kernel
theorem dJ9_abs_0f7a4_0 : decode cJ9_abs_0f7a4 0 = .ok (.iload_n 0, 1) := by decide +kernel
theorem dJ9_abs_0f7a4_1 : decode cJ9_abs_0f7a4 1 = .ok (.ifCond .ge 8, 3) := by decide +kernel
theorem dJ9_abs_0f7a4_4 : decode cJ9_abs_0f7a4 4 = .ok (.iload_n 0, 1) := by decide +kernel
theorem dJ9_abs_0f7a4_5 : decode cJ9_abs_0f7a4 5 = .ok (.ineg, 1) := by decide +kernel
theorem dJ9_abs_0f7a4_6 : decode cJ9_abs_0f7a4 6 = .ok (.goto 4, 3) := by decide +kernel
theorem dJ9_abs_0f7a4_9 : decode cJ9_abs_0f7a4 9 = .ok (.iload_n 0, 1) := by decide +kernel
theorem dJ9_abs_0f7a4_10 : decode cJ9_abs_0f7a4 10 = .ok (.ireturn, 1) := by decide +kernel
theorem dJ9_max_7cf53_0 : decode cJ9_max_7cf53 0 = .ok (.iload_n 0, 1) := by decide +kernel
theorem dJ9_max_7cf53_1 : decode cJ9_max_7cf53 1 = .ok (.iload_n 1, 1) := by decide +kernel
theorem dJ9_max_7cf53_2 : decode cJ9_max_7cf53 2 = .ok (.if_icmp .lt 7, 3) := by decide +kernel
theorem dJ9_max_7cf53_5 : decode cJ9_max_7cf53 5 = .ok (.iload_n 0, 1) := by decide +kernel
theorem dJ9_max_7cf53_6 : decode cJ9_max_7cf53 6 = .ok (.goto 4, 3) := by decide +kernel
theorem dJ9_max_7cf53_9 : decode cJ9_max_7cf53 9 = .ok (.iload_n 1, 1) := by decide +kernel
theorem dJ9_max_7cf53_10 : decode cJ9_max_7cf53 10 = .ok (.ireturn, 1) := by decide +kernel
theorem dJ9_min_7cf53_0 : decode cJ9_min_7cf53 0 = .ok (.iload_n 0, 1) := by decide +kernel
theorem dJ9_min_7cf53_1 : decode cJ9_min_7cf53 1 = .ok (.iload_n 1, 1) := by decide +kernel
theorem dJ9_min_7cf53_2 : decode cJ9_min_7cf53 2 = .ok (.if_icmp .gt 7, 3) := by decide +kernel
theorem dJ9_min_7cf53_5 : decode cJ9_min_7cf53 5 = .ok (.iload_n 0, 1) := by decide +kernel
theorem dJ9_min_7cf53_6 : decode cJ9_min_7cf53 6 = .ok (.goto 4, 3) := by decide +kernel
theorem dJ9_min_7cf53_9 : decode cJ9_min_7cf53 9 = .ok (.iload_n 1, 1) := by decide +kernel
theorem dJ9_min_7cf53_10 : decode cJ9_min_7cf53 10 = .ok (.ireturn, 1) := by decide +kernel
theorem dJ0_length_8abf5_0 : decode cJ0_length_8abf5 0 = .ok (.aload_n 0, 1) := by decide +kernel
theorem dJ0_length_8abf5_1 : decode cJ0_length_8abf5 1 = .ok (.getfield 9, 3) := by decide +kernel
theorem dJ0_length_8abf5_4 : decode cJ0_length_8abf5 4 = .ok (.arraylength, 1) := by decide +kernel
theorem dJ0_length_8abf5_5 : decode cJ0_length_8abf5 5 = .ok (.aload_n 0, 1) := by decide +kernel
theorem dJ0_length_8abf5_6 : decode cJ0_length_8abf5 6 = .ok (.invokevirtual 335, 3) := by decide +kernel
theorem dJ0_length_8abf5_9 : decode cJ0_length_8abf5 9 = .ok (.ishr, 1) := by decide +kernel
theorem dJ0_length_8abf5_10 : decode cJ0_length_8abf5 10 = .ok (.ireturn, 1) := by decide +kernel
theorem dJ0_charAt_5068e_0 : decode cJ0_charAt_5068e 0 = .ok (.aload_n 0, 1) := by decide +kernel
theorem dJ0_charAt_5068e_1 : decode cJ0_charAt_5068e 1 = .ok (.invokevirtual 492, 3) := by decide +kernel
theorem dJ0_charAt_5068e_4 : decode cJ0_charAt_5068e 4 = .ok (.ifCond .eq 12, 3) := by decide +kernel
theorem dJ0_charAt_5068e_7 : decode cJ0_charAt_5068e 7 = .ok (.aload_n 0, 1) := by decide +kernel
theorem dJ0_charAt_5068e_8 : decode cJ0_charAt_5068e 8 = .ok (.getfield 9, 3) := by decide +kernel
theorem dJ0_charAt_5068e_11 : decode cJ0_charAt_5068e 11 = .ok (.iload_n 1, 1) := by decide +kernel
theorem dJ0_charAt_5068e_12 : decode cJ0_charAt_5068e 12 = .ok (.invokestatic 495, 3) := by decide +kernel
theorem dJ0_charAt_5068e_15 : decode cJ0_charAt_5068e 15 = .ok (.ireturn, 1) := by decide +kernel
theorem dJ0_charAt_5068e_16 : decode cJ0_charAt_5068e 16 = .ok (.aload_n 0, 1) := by decide +kernel
theorem dJ0_charAt_5068e_17 : decode cJ0_charAt_5068e 17 = .ok (.getfield 9, 3) := by decide +kernel
theorem dJ0_charAt_5068e_20 : decode cJ0_charAt_5068e 20 = .ok (.iload_n 1, 1) := by decide +kernel
theorem dJ0_charAt_5068e_21 : decode cJ0_charAt_5068e 21 = .ok (.invokestatic 498, 3) := by decide +kernel
theorem dJ0_charAt_5068e_24 : decode cJ0_charAt_5068e 24 = .ok (.ireturn, 1) := by decide +kernel
theorem dJ0_indexOf_0f7a4_0 : decode cJ0_indexOf_0f7a4 0 = .ok (.aload_n 0, 1) := by decide +kernel
theorem dJ0_indexOf_0f7a4_1 : decode cJ0_indexOf_0f7a4 1 = .ok (.iload_n 1, 1) := by decide +kernel
theorem dJ0_indexOf_0f7a4_2 : decode cJ0_indexOf_0f7a4 2 = .ok (.iconst 0, 1) := by decide +kernel
theorem dJ0_indexOf_0f7a4_3 : decode cJ0_indexOf_0f7a4 3 = .ok (.invokevirtual 633, 3) := by decide +kernel
theorem dJ0_indexOf_0f7a4_6 : decode cJ0_indexOf_0f7a4 6 = .ok (.ireturn, 1) := by decide +kernel
theorem dJ0_indexOf_7cf53_0 : decode cJ0_indexOf_7cf53 0 = .ok (.aload_n 0, 1) := by decide +kernel
theorem dJ0_indexOf_7cf53_1 : decode cJ0_indexOf_7cf53 1 = .ok (.invokevirtual 492, 3) := by decide +kernel
theorem dJ0_indexOf_7cf53_4 : decode cJ0_indexOf_7cf53 4 = .ok (.ifCond .eq 19, 3) := by decide +kernel
theorem dJ0_indexOf_7cf53_7 : decode cJ0_indexOf_7cf53 7 = .ok (.aload_n 0, 1) := by decide +kernel
theorem dJ0_indexOf_7cf53_8 : decode cJ0_indexOf_7cf53 8 = .ok (.getfield 9, 3) := by decide +kernel
theorem dJ0_indexOf_7cf53_11 : decode cJ0_indexOf_7cf53 11 = .ok (.iload_n 1, 1) := by decide +kernel
theorem dJ0_indexOf_7cf53_12 : decode cJ0_indexOf_7cf53 12 = .ok (.iload_n 2, 1) := by decide +kernel
theorem dJ0_indexOf_7cf53_13 : decode cJ0_indexOf_7cf53 13 = .ok (.aload_n 0, 1) := by decide +kernel
theorem dJ0_indexOf_7cf53_14 : decode cJ0_indexOf_7cf53 14 = .ok (.invokevirtual 505, 3) := by decide +kernel
theorem dJ0_indexOf_7cf53_17 : decode cJ0_indexOf_7cf53 17 = .ok (.invokestatic 637, 3) := by decide +kernel
theorem dJ0_indexOf_7cf53_20 : decode cJ0_indexOf_7cf53 20 = .ok (.goto 16, 3) := by decide +kernel
theorem dJ0_indexOf_7cf53_23 : decode cJ0_indexOf_7cf53 23 = .ok (.aload_n 0, 1) := by decide +kernel
theorem dJ0_indexOf_7cf53_24 : decode cJ0_indexOf_7cf53 24 = .ok (.getfield 9, 3) := by decide +kernel
theorem dJ0_indexOf_7cf53_27 : decode cJ0_indexOf_7cf53 27 = .ok (.iload_n 1, 1) := by decide +kernel
theorem dJ0_indexOf_7cf53_28 : decode cJ0_indexOf_7cf53 28 = .ok (.iload_n 2, 1) := by decide +kernel
theorem dJ0_indexOf_7cf53_29 : decode cJ0_indexOf_7cf53 29 = .ok (.aload_n 0, 1) := by decide +kernel
theorem dJ0_indexOf_7cf53_30 : decode cJ0_indexOf_7cf53 30 = .ok (.invokevirtual 505, 3) := by decide +kernel
theorem dJ0_indexOf_7cf53_33 : decode cJ0_indexOf_7cf53 33 = .ok (.invokestatic 640, 3) := by decide +kernel
theorem dJ0_indexOf_7cf53_36 : decode cJ0_indexOf_7cf53 36 = .ok (.ireturn, 1) := by decide +kernel
theorem dJ0_coder_7d493_0 : decode cJ0_coder_7d493 0 = .ok (.getstatic 38, 3) := by decide +kernel
theorem dJ0_coder_7d493_3 : decode cJ0_coder_7d493 3 = .ok (.ifCond .eq 10, 3) := by decide +kernel
theorem dJ0_coder_7d493_6 : decode cJ0_coder_7d493 6 = .ok (.aload_n 0, 1) := by decide +kernel
theorem dJ0_coder_7d493_7 : decode cJ0_coder_7d493 7 = .ok (.getfield 15, 3) := by decide +kernel
theorem dJ0_coder_7d493_10 : decode cJ0_coder_7d493 10 = .ok (.goto 4, 3) := by decide +kernel
theorem dJ0_coder_7d493_13 : decode cJ0_coder_7d493 13 = .ok (.iconst 1, 1) := by decide +kernel
theorem dJ0_coder_7d493_14 : decode cJ0_coder_7d493 14 = .ok (.ireturn, 1) := by decide +kernel
theorem dJ0_isLatin1_aae02_0 : decode cJ0_isLatin1_aae02 0 = .ok (.getstatic 38, 3) := by decide +kernel
theorem dJ0_isLatin1_aae02_3 : decode cJ0_isLatin1_aae02 3 = .ok (.ifCond .eq 14, 3) := by decide +kernel
theorem dJ0_isLatin1_aae02_6 : decode cJ0_isLatin1_aae02 6 = .ok (.aload_n 0, 1) := by decide +kernel
theorem dJ0_isLatin1_aae02_7 : decode cJ0_isLatin1_aae02 7 = .ok (.getfield 15, 3) := by decide +kernel
theorem dJ0_isLatin1_aae02_10 : decode cJ0_isLatin1_aae02 10 = .ok (.ifCond .ne 7, 3) := by decide +kernel
theorem dJ0_isLatin1_aae02_13 : decode cJ0_isLatin1_aae02 13 = .ok (.iconst 1, 1) := by decide +kernel
theorem dJ0_isLatin1_aae02_14 : decode cJ0_isLatin1_aae02 14 = .ok (.goto 4, 3) := by decide +kernel
theorem dJ0_isLatin1_aae02_17 : decode cJ0_isLatin1_aae02 17 = .ok (.iconst 0, 1) := by decide +kernel
theorem dJ0_isLatin1_aae02_18 : decode cJ0_isLatin1_aae02 18 = .ok (.ireturn, 1) := by decide +kernel
theorem dJ0_checkIndex_df160_0 : decode cJ0_checkIndex_df160 0 = .ok (.iload_n 0, 1) := by decide +kernel
theorem dJ0_checkIndex_df160_1 : decode cJ0_checkIndex_df160 1 = .ok (.iload_n 1, 1) := by decide +kernel
theorem dJ0_checkIndex_df160_2 : decode cJ0_checkIndex_df160 2 = .ok (.getstatic 1053, 3) := by decide +kernel
theorem dJ0_checkIndex_df160_5 : decode cJ0_checkIndex_df160 5 = .ok (.invokestatic 1059, 3) := by decide +kernel
theorem dJ0_checkIndex_df160_8 : decode cJ0_checkIndex_df160 8 = .ok (.pop, 1) := by decide +kernel
theorem dJ0_checkIndex_df160_9 : decode cJ0_checkIndex_df160 9 = .ok (.return_, 1) := by decide +kernel
theorem dJ0_checkBoundsBeginEnd_23922_0 : decode cJ0_checkBoundsBeginEnd_23922 0 = .ok (.iload_n 0, 1) := by decide +kernel
theorem dJ0_checkBoundsBeginEnd_23922_1 : decode cJ0_checkBoundsBeginEnd_23922 1 = .ok (.iload_n 1, 1) := by decide +kernel
theorem dJ0_checkBoundsBeginEnd_23922_2 : decode cJ0_checkBoundsBeginEnd_23922 2 = .ok (.iload_n 2, 1) := by decide +kernel
theorem dJ0_checkBoundsBeginEnd_23922_3 : decode cJ0_checkBoundsBeginEnd_23922 3 = .ok (.getstatic 1053, 3) := by decide +kernel
theorem dJ0_checkBoundsBeginEnd_23922_6 : decode cJ0_checkBoundsBeginEnd_23922 6 = .ok (.invokestatic 1062, 3) := by decide +kernel
theorem dJ0_checkBoundsBeginEnd_23922_9 : decode cJ0_checkBoundsBeginEnd_23922 9 = .ok (.pop, 1) := by decide +kernel
theorem dJ0_checkBoundsBeginEnd_23922_10 : decode cJ0_checkBoundsBeginEnd_23922 10 = .ok (.return_, 1) := by decide +kernel
theorem dJ1_charAt_3b067_0 : decode cJ1_charAt_3b067 0 = .ok (.iload_n 1, 1) := by decide +kernel
theorem dJ1_charAt_3b067_1 : decode cJ1_charAt_3b067 1 = .ok (.aload_n 0, 1) := by decide +kernel
theorem dJ1_charAt_3b067_2 : decode cJ1_charAt_3b067 2 = .ok (.arraylength, 1) := by decide +kernel
theorem dJ1_charAt_3b067_3 : decode cJ1_charAt_3b067 3 = .ok (.invokestatic 9, 3) := by decide +kernel
theorem dJ1_charAt_3b067_6 : decode cJ1_charAt_3b067 6 = .ok (.aload_n 0, 1) := by decide +kernel
theorem dJ1_charAt_3b067_7 : decode cJ1_charAt_3b067 7 = .ok (.iload_n 1, 1) := by decide +kernel
theorem dJ1_charAt_3b067_8 : decode cJ1_charAt_3b067 8 = .ok (.baload, 1) := by decide +kernel
theorem dJ1_charAt_3b067_9 : decode cJ1_charAt_3b067 9 = .ok (.sipush 255, 3) := by decide +kernel
theorem dJ1_charAt_3b067_12 : decode cJ1_charAt_3b067 12 = .ok (.iand, 1) := by decide +kernel
theorem dJ1_charAt_3b067_13 : decode cJ1_charAt_3b067 13 = .ok (.i2c, 1) := by decide +kernel
theorem dJ1_charAt_3b067_14 : decode cJ1_charAt_3b067 14 = .ok (.ireturn, 1) := by decide +kernel
theorem dJ1_canEncode_9a6ad_0 : decode cJ1_canEncode_9a6ad 0 = .ok (.iload_n 0, 1) := by decide +kernel
theorem dJ1_canEncode_9a6ad_1 : decode cJ1_canEncode_9a6ad 1 = .ok (.ifCond .lt 14, 3) := by decide +kernel
theorem dJ1_canEncode_9a6ad_4 : decode cJ1_canEncode_9a6ad 4 = .ok (.iload_n 0, 1) := by decide +kernel
theorem dJ1_canEncode_9a6ad_5 : decode cJ1_canEncode_9a6ad 5 = .ok (.sipush 255, 3) := by decide +kernel
theorem dJ1_canEncode_9a6ad_8 : decode cJ1_canEncode_9a6ad 8 = .ok (.if_icmp .gt 7, 3) := by decide +kernel
theorem dJ1_canEncode_9a6ad_11 : decode cJ1_canEncode_9a6ad 11 = .ok (.iconst 1, 1) := by decide +kernel
theorem dJ1_canEncode_9a6ad_12 : decode cJ1_canEncode_9a6ad 12 = .ok (.goto 4, 3) := by decide +kernel
theorem dJ1_canEncode_9a6ad_15 : decode cJ1_canEncode_9a6ad 15 = .ok (.iconst 0, 1) := by decide +kernel
theorem dJ1_canEncode_9a6ad_16 : decode cJ1_canEncode_9a6ad 16 = .ok (.ireturn, 1) := by decide +kernel
theorem dJ1_indexOf_4cfef_0 : decode cJ1_indexOf_4cfef 0 = .ok (.iload_n 1, 1) := by decide +kernel
theorem dJ1_indexOf_4cfef_1 : decode cJ1_indexOf_4cfef 1 = .ok (.invokestatic 88, 3) := by decide +kernel
theorem dJ1_indexOf_4cfef_4 : decode cJ1_indexOf_4cfef 4 = .ok (.ifCond .ne 5, 3) := by decide +kernel
theorem dJ1_indexOf_4cfef_7 : decode cJ1_indexOf_4cfef 7 = .ok (.iconst (-1), 1) := by decide +kernel
theorem dJ1_indexOf_4cfef_8 : decode cJ1_indexOf_4cfef 8 = .ok (.ireturn, 1) := by decide +kernel
theorem dJ1_indexOf_4cfef_9 : decode cJ1_indexOf_4cfef 9 = .ok (.iload_n 2, 1) := by decide +kernel
theorem dJ1_indexOf_4cfef_10 : decode cJ1_indexOf_4cfef 10 = .ok (.iconst 0, 1) := by decide +kernel
theorem dJ1_indexOf_4cfef_11 : decode cJ1_indexOf_4cfef 11 = .ok (.invokestatic 92, 3) := by decide +kernel
theorem dJ1_indexOf_4cfef_14 : decode cJ1_indexOf_4cfef 14 = .ok (.istore_n 2, 1) := by decide +kernel
theorem dJ1_indexOf_4cfef_15 : decode cJ1_indexOf_4cfef 15 = .ok (.iload_n 3, 1) := by decide +kernel
theorem dJ1_indexOf_4cfef_16 : decode cJ1_indexOf_4cfef 16 = .ok (.aload_n 0, 1) := by decide +kernel
theorem dJ1_indexOf_4cfef_17 : decode cJ1_indexOf_4cfef 17 = .ok (.arraylength, 1) := by decide +kernel
theorem dJ1_indexOf_4cfef_18 : decode cJ1_indexOf_4cfef 18 = .ok (.invokestatic 38, 3) := by decide +kernel
theorem dJ1_indexOf_4cfef_21 : decode cJ1_indexOf_4cfef 21 = .ok (.istore_n 3, 1) := by decide +kernel
theorem dJ1_indexOf_4cfef_22 : decode cJ1_indexOf_4cfef 22 = .ok (.iload_n 2, 1) := by decide +kernel
theorem dJ1_indexOf_4cfef_23 : decode cJ1_indexOf_4cfef 23 = .ok (.iload_n 3, 1) := by decide +kernel
theorem dJ1_indexOf_4cfef_24 : decode cJ1_indexOf_4cfef 24 = .ok (.if_icmp .lt 5, 3) := by decide +kernel
theorem dJ1_indexOf_4cfef_27 : decode cJ1_indexOf_4cfef 27 = .ok (.iconst (-1), 1) := by decide +kernel
theorem dJ1_indexOf_4cfef_28 : decode cJ1_indexOf_4cfef 28 = .ok (.ireturn, 1) := by decide +kernel
theorem dJ1_indexOf_4cfef_29 : decode cJ1_indexOf_4cfef 29 = .ok (.aload_n 0, 1) := by decide +kernel
theorem dJ1_indexOf_4cfef_30 : decode cJ1_indexOf_4cfef 30 = .ok (.iload_n 1, 1) := by decide +kernel
theorem dJ1_indexOf_4cfef_31 : decode cJ1_indexOf_4cfef 31 = .ok (.iload_n 2, 1) := by decide +kernel
theorem dJ1_indexOf_4cfef_32 : decode cJ1_indexOf_4cfef 32 = .ok (.iload_n 3, 1) := by decide +kernel
theorem dJ1_indexOf_4cfef_33 : decode cJ1_indexOf_4cfef 33 = .ok (.invokestatic 95, 3) := by decide +kernel
theorem dJ1_indexOf_4cfef_36 : decode cJ1_indexOf_4cfef 36 = .ok (.ireturn, 1) := by decide +kernel
theorem dJ1_indexOfChar_4cfef_0 : decode cJ1_indexOfChar_4cfef 0 = .ok (.iload_n 1, 1) := by decide +kernel
theorem dJ1_indexOfChar_4cfef_1 : decode cJ1_indexOfChar_4cfef 1 = .ok (.i2b, 1) := by decide +kernel
theorem dJ1_indexOfChar_4cfef_2 : decode cJ1_indexOfChar_4cfef 2 = .ok (.istore 4, 2) := by decide +kernel
theorem dJ1_indexOfChar_4cfef_4 : decode cJ1_indexOfChar_4cfef 4 = .ok (.iload_n 2, 1) := by decide +kernel
theorem dJ1_indexOfChar_4cfef_5 : decode cJ1_indexOfChar_4cfef 5 = .ok (.istore 5, 2) := by decide +kernel
theorem dJ1_indexOfChar_4cfef_7 : decode cJ1_indexOfChar_4cfef 7 = .ok (.iload 5, 2) := by decide +kernel
theorem dJ1_indexOfChar_4cfef_9 : decode cJ1_indexOfChar_4cfef 9 = .ok (.iload_n 3, 1) := by decide +kernel
theorem dJ1_indexOfChar_4cfef_10 : decode cJ1_indexOfChar_4cfef 10 = .ok (.if_icmp .ge 21, 3) := by decide +kernel
theorem dJ1_indexOfChar_4cfef_13 : decode cJ1_indexOfChar_4cfef 13 = .ok (.aload_n 0, 1) := by decide +kernel
theorem dJ1_indexOfChar_4cfef_14 : decode cJ1_indexOfChar_4cfef 14 = .ok (.iload 5, 2) := by decide +kernel
theorem dJ1_indexOfChar_4cfef_16 : decode cJ1_indexOfChar_4cfef 16 = .ok (.baload, 1) := by decide +kernel
theorem dJ1_indexOfChar_4cfef_17 : decode cJ1_indexOfChar_4cfef 17 = .ok (.iload 4, 2) := by decide +kernel
theorem dJ1_indexOfChar_4cfef_19 : decode cJ1_indexOfChar_4cfef 19 = .ok (.if_icmp .ne 6, 3) := by decide +kernel
theorem dJ1_indexOfChar_4cfef_22 : decode cJ1_indexOfChar_4cfef 22 = .ok (.iload 5, 2) := by decide +kernel
theorem dJ1_indexOfChar_4cfef_24 : decode cJ1_indexOfChar_4cfef 24 = .ok (.ireturn, 1) := by decide +kernel
theorem dJ1_indexOfChar_4cfef_25 : decode cJ1_indexOfChar_4cfef 25 = .ok (.iinc 5 1, 3) := by decide +kernel
theorem dJ1_indexOfChar_4cfef_28 : decode cJ1_indexOfChar_4cfef 28 = .ok (.goto (-21), 3) := by decide +kernel
theorem dJ1_indexOfChar_4cfef_31 : decode cJ1_indexOfChar_4cfef 31 = .ok (.iconst (-1), 1) := by decide +kernel
theorem dJ1_indexOfChar_4cfef_32 : decode cJ1_indexOfChar_4cfef 32 = .ok (.ireturn, 1) := by decide +kernel
theorem dJ7_fill_53178_0 : decode cJ7_fill_53178 0 = .ok (.iconst 0, 1) := by decide +kernel
theorem dJ7_fill_53178_1 : decode cJ7_fill_53178 1 = .ok (.istore_n 2, 1) := by decide +kernel
theorem dJ7_fill_53178_2 : decode cJ7_fill_53178 2 = .ok (.aload_n 0, 1) := by decide +kernel
theorem dJ7_fill_53178_3 : decode cJ7_fill_53178 3 = .ok (.arraylength, 1) := by decide +kernel
theorem dJ7_fill_53178_4 : decode cJ7_fill_53178 4 = .ok (.istore_n 3, 1) := by decide +kernel
theorem dJ7_fill_53178_5 : decode cJ7_fill_53178 5 = .ok (.iload_n 2, 1) := by decide +kernel
theorem dJ7_fill_53178_6 : decode cJ7_fill_53178 6 = .ok (.iload_n 3, 1) := by decide +kernel
theorem dJ7_fill_53178_7 : decode cJ7_fill_53178 7 = .ok (.if_icmp .ge 13, 3) := by decide +kernel
theorem dJ7_fill_53178_10 : decode cJ7_fill_53178 10 = .ok (.aload_n 0, 1) := by decide +kernel
theorem dJ7_fill_53178_11 : decode cJ7_fill_53178 11 = .ok (.iload_n 2, 1) := by decide +kernel
theorem dJ7_fill_53178_12 : decode cJ7_fill_53178 12 = .ok (.iload_n 1, 1) := by decide +kernel
theorem dJ7_fill_53178_13 : decode cJ7_fill_53178 13 = .ok (.iastore, 1) := by decide +kernel
theorem dJ7_fill_53178_14 : decode cJ7_fill_53178 14 = .ok (.iinc 2 1, 3) := by decide +kernel
theorem dJ7_fill_53178_17 : decode cJ7_fill_53178 17 = .ok (.goto (-12), 3) := by decide +kernel
theorem dJ7_fill_53178_20 : decode cJ7_fill_53178 20 = .ok (.return_, 1) := by decide +kernel
theorem dJ3_checkIndex_8e157_0 : decode cJ3_checkIndex_8e157 0 = .ok (.iload_n 0, 1) := by decide +kernel
theorem dJ3_checkIndex_8e157_1 : decode cJ3_checkIndex_8e157 1 = .ok (.ifCond .lt 8, 3) := by decide +kernel
theorem dJ3_checkIndex_8e157_4 : decode cJ3_checkIndex_8e157 4 = .ok (.iload_n 0, 1) := by decide +kernel
theorem dJ3_checkIndex_8e157_5 : decode cJ3_checkIndex_8e157 5 = .ok (.iload_n 1, 1) := by decide +kernel
theorem dJ3_checkIndex_8e157_6 : decode cJ3_checkIndex_8e157 6 = .ok (.if_icmp .lt 10, 3) := by decide +kernel
theorem dJ3_checkIndex_8e157_9 : decode cJ3_checkIndex_8e157 9 = .ok (.aload_n 2, 1) := by decide +kernel
theorem dJ3_checkIndex_8e157_10 : decode cJ3_checkIndex_8e157 10 = .ok (.iload_n 0, 1) := by decide +kernel
theorem dJ3_checkIndex_8e157_11 : decode cJ3_checkIndex_8e157 11 = .ok (.iload_n 1, 1) := by decide +kernel
theorem dJ3_checkIndex_8e157_12 : decode cJ3_checkIndex_8e157 12 = .ok (.invokestatic 95, 3) := by decide +kernel
theorem dJ3_checkIndex_8e157_15 : decode cJ3_checkIndex_8e157 15 = .ok (.athrow, 1) := by decide +kernel
theorem dJ3_checkIndex_8e157_16 : decode cJ3_checkIndex_8e157 16 = .ok (.iload_n 0, 1) := by decide +kernel
theorem dJ3_checkIndex_8e157_17 : decode cJ3_checkIndex_8e157 17 = .ok (.ireturn, 1) := by decide +kernel
theorem dJ3_checkFromToIndex_8c36e_0 : decode cJ3_checkFromToIndex_8c36e 0 = .ok (.iload_n 0, 1) := by decide +kernel
theorem dJ3_checkFromToIndex_8c36e_1 : decode cJ3_checkFromToIndex_8c36e 1 = .ok (.ifCond .lt 13, 3) := by decide +kernel
theorem dJ3_checkFromToIndex_8c36e_4 : decode cJ3_checkFromToIndex_8c36e 4 = .ok (.iload_n 0, 1) := by decide +kernel
theorem dJ3_checkFromToIndex_8c36e_5 : decode cJ3_checkFromToIndex_8c36e 5 = .ok (.iload_n 1, 1) := by decide +kernel
theorem dJ3_checkFromToIndex_8c36e_6 : decode cJ3_checkFromToIndex_8c36e 6 = .ok (.if_icmp .gt 8, 3) := by decide +kernel
theorem dJ3_checkFromToIndex_8c36e_9 : decode cJ3_checkFromToIndex_8c36e 9 = .ok (.iload_n 1, 1) := by decide +kernel
theorem dJ3_checkFromToIndex_8c36e_10 : decode cJ3_checkFromToIndex_8c36e 10 = .ok (.iload_n 2, 1) := by decide +kernel
theorem dJ3_checkFromToIndex_8c36e_11 : decode cJ3_checkFromToIndex_8c36e 11 = .ok (.if_icmp .le 11, 3) := by decide +kernel
theorem dJ3_checkFromToIndex_8c36e_14 : decode cJ3_checkFromToIndex_8c36e 14 = .ok (.aload_n 3, 1) := by decide +kernel
theorem dJ3_checkFromToIndex_8c36e_15 : decode cJ3_checkFromToIndex_8c36e 15 = .ok (.iload_n 0, 1) := by decide +kernel
theorem dJ3_checkFromToIndex_8c36e_16 : decode cJ3_checkFromToIndex_8c36e 16 = .ok (.iload_n 1, 1) := by decide +kernel
theorem dJ3_checkFromToIndex_8c36e_17 : decode cJ3_checkFromToIndex_8c36e 17 = .ok (.iload_n 2, 1) := by decide +kernel
theorem dJ3_checkFromToIndex_8c36e_18 : decode cJ3_checkFromToIndex_8c36e 18 = .ok (.invokestatic 99, 3) := by decide +kernel
theorem dJ3_checkFromToIndex_8c36e_21 : decode cJ3_checkFromToIndex_8c36e 21 = .ok (.athrow, 1) := by decide +kernel
theorem dJ3_checkFromToIndex_8c36e_22 : decode cJ3_checkFromToIndex_8c36e 22 = .ok (.iload_n 0, 1) := by decide +kernel
theorem dJ3_checkFromToIndex_8c36e_23 : decode cJ3_checkFromToIndex_8c36e 23 = .ok (.ireturn, 1) := by decide +kernel
theorem dL_law_0 : decode code 0 = .ok (.new 7, 3) := by decide +kernel
theorem dL_law_3 : decode code 3 = .ok (.dup, 1) := by decide +kernel
theorem dL_law_4 : decode code 4 = .ok (.invokespecial 9, 3) := by decide +kernel
theorem dL_law_7 : decode code 7 = .ok (.astore_n 1, 1) := by decide +kernel
theorem dL_law_8 : decode code 8 = .ok (.new 10, 3) := by decide +kernel
theorem dL_law_11 : decode code 11 = .ok (.dup, 1) := by decide +kernel
theorem dL_law_12 : decode code 12 = .ok (.invokespecial 12, 3) := by decide +kernel
theorem dL_law_15 : decode code 15 = .ok (.astore_n 2, 1) := by decide +kernel
theorem dL_law_16 : decode code 16 = .ok (.iconst 0, 1) := by decide +kernel
theorem dL_law_17 : decode code 17 = .ok (.istore_n 3, 1) := by decide +kernel
theorem dL_law_18 : decode code 18 = .ok (.iload_n 3, 1) := by decide +kernel
theorem dL_law_19 : decode code 19 = .ok (.aload_n 0, 1) := by decide +kernel
theorem dL_law_20 : decode code 20 = .ok (.arraylength, 1) := by decide +kernel
theorem dL_law_21 : decode code 21 = .ok (.bipush 7, 2) := by decide +kernel
theorem dL_law_23 : decode code 23 = .ok (.isub, 1) := by decide +kernel
theorem dL_law_24 : decode code 24 = .ok (.if_icmp .gt 1470, 3) := by decide +kernel
theorem dL_law_27 : decode code 27 = .ok (.aload_n 0, 1) := by decide +kernel
theorem dL_law_28 : decode code 28 = .ok (.iload_n 3, 1) := by decide +kernel
theorem dL_law_29 : decode code 29 = .ok (.iaload, 1) := by decide +kernel
theorem dL_law_30 : decode code 30 = .ok (.bipush 63, 2) := by decide +kernel
theorem dL_law_32 : decode code 32 = .ok (.iand, 1) := by decide +kernel
theorem dL_law_33 : decode code 33 = .ok (.tableswitch 1455 0 38 #[171, 234, 257, 280, 303, 316, 329, 342, 395, 418, 461, 494, 527, 550, 593, 616, 639, 702, 735, 768, 801, 838, 887, 910, 943, 986, 1035, 1110, 1143, 1176, 1199, 1232, 1255, 1288, 1311, 1345, 1398, 1431, 1442], 171) := by decide +kernel
theorem dL_law_204 : decode code 204 = .ok (.aload_n 1, 1) := by decide +kernel
theorem dL_law_205 : decode code 205 = .ok (.aload_n 0, 1) := by decide +kernel
theorem dL_law_206 : decode code 206 = .ok (.iload_n 3, 1) := by decide +kernel
theorem dL_law_207 : decode code 207 = .ok (.iconst 1, 1) := by decide +kernel
theorem dL_law_208 : decode code 208 = .ok (.iadd, 1) := by decide +kernel
theorem dL_law_209 : decode code 209 = .ok (.iaload, 1) := by decide +kernel
theorem dL_law_210 : decode code 210 = .ok (.aload_n 0, 1) := by decide +kernel
theorem dL_law_211 : decode code 211 = .ok (.iload_n 3, 1) := by decide +kernel
theorem dL_law_212 : decode code 212 = .ok (.iconst 2, 1) := by decide +kernel
theorem dL_law_213 : decode code 213 = .ok (.iadd, 1) := by decide +kernel
theorem dL_law_214 : decode code 214 = .ok (.iaload, 1) := by decide +kernel
theorem dL_law_215 : decode code 215 = .ok (.aload_n 0, 1) := by decide +kernel
theorem dL_law_216 : decode code 216 = .ok (.iload_n 3, 1) := by decide +kernel
theorem dL_law_217 : decode code 217 = .ok (.iconst 3, 1) := by decide +kernel
theorem dL_law_218 : decode code 218 = .ok (.iadd, 1) := by decide +kernel
theorem dL_law_219 : decode code 219 = .ok (.iaload, 1) := by decide +kernel
theorem dL_law_220 : decode code 220 = .ok (.aload_n 0, 1) := by decide +kernel
theorem dL_law_221 : decode code 221 = .ok (.iload_n 3, 1) := by decide +kernel
theorem dL_law_222 : decode code 222 = .ok (.iconst 4, 1) := by decide +kernel
theorem dL_law_223 : decode code 223 = .ok (.iadd, 1) := by decide +kernel
theorem dL_law_224 : decode code 224 = .ok (.iaload, 1) := by decide +kernel
theorem dL_law_225 : decode code 225 = .ok (.aload_n 0, 1) := by decide +kernel
theorem dL_law_226 : decode code 226 = .ok (.iload_n 3, 1) := by decide +kernel
theorem dL_law_227 : decode code 227 = .ok (.iconst 5, 1) := by decide +kernel
theorem dL_law_228 : decode code 228 = .ok (.iadd, 1) := by decide +kernel
theorem dL_law_229 : decode code 229 = .ok (.iaload, 1) := by decide +kernel
theorem dL_law_230 : decode code 230 = .ok (.invokevirtual 13, 3) := by decide +kernel
theorem dL_law_233 : decode code 233 = .ok (.aload_n 2, 1) := by decide +kernel
theorem dL_law_234 : decode code 234 = .ok (.aload_n 0, 1) := by decide +kernel
theorem dL_law_235 : decode code 235 = .ok (.iload_n 3, 1) := by decide +kernel
theorem dL_law_236 : decode code 236 = .ok (.iconst 1, 1) := by decide +kernel
theorem dL_law_237 : decode code 237 = .ok (.iadd, 1) := by decide +kernel
theorem dL_law_238 : decode code 238 = .ok (.iaload, 1) := by decide +kernel
theorem dL_law_239 : decode code 239 = .ok (.aload_n 0, 1) := by decide +kernel
theorem dL_law_240 : decode code 240 = .ok (.iload_n 3, 1) := by decide +kernel
theorem dL_law_241 : decode code 241 = .ok (.iconst 2, 1) := by decide +kernel
theorem dL_law_242 : decode code 242 = .ok (.iadd, 1) := by decide +kernel
theorem dL_law_243 : decode code 243 = .ok (.iaload, 1) := by decide +kernel
theorem dL_law_244 : decode code 244 = .ok (.aload_n 0, 1) := by decide +kernel
theorem dL_law_245 : decode code 245 = .ok (.iload_n 3, 1) := by decide +kernel
theorem dL_law_246 : decode code 246 = .ok (.iconst 3, 1) := by decide +kernel
theorem dL_law_247 : decode code 247 = .ok (.iadd, 1) := by decide +kernel
theorem dL_law_248 : decode code 248 = .ok (.iaload, 1) := by decide +kernel
theorem dL_law_249 : decode code 249 = .ok (.aload_n 0, 1) := by decide +kernel
theorem dL_law_250 : decode code 250 = .ok (.iload_n 3, 1) := by decide +kernel
theorem dL_law_251 : decode code 251 = .ok (.iconst 4, 1) := by decide +kernel
theorem dL_law_252 : decode code 252 = .ok (.iadd, 1) := by decide +kernel
theorem dL_law_253 : decode code 253 = .ok (.iaload, 1) := by decide +kernel
theorem dL_law_254 : decode code 254 = .ok (.aload_n 0, 1) := by decide +kernel
theorem dL_law_255 : decode code 255 = .ok (.iload_n 3, 1) := by decide +kernel
theorem dL_law_256 : decode code 256 = .ok (.iconst 5, 1) := by decide +kernel
theorem dL_law_257 : decode code 257 = .ok (.iadd, 1) := by decide +kernel
theorem dL_law_258 : decode code 258 = .ok (.iaload, 1) := by decide +kernel
theorem dL_law_259 : decode code 259 = .ok (.invokevirtual 17, 3) := by decide +kernel
theorem dL_law_262 : decode code 262 = .ok (.if_icmp .eq 1226, 3) := by decide +kernel
theorem dL_law_265 : decode code 265 = .ok (.iconst 0, 1) := by decide +kernel
theorem dL_law_266 : decode code 266 = .ok (.ireturn, 1) := by decide +kernel
theorem dL_law_267 : decode code 267 = .ok (.aload_n 1, 1) := by decide +kernel
theorem dL_law_268 : decode code 268 = .ok (.aload_n 0, 1) := by decide +kernel
theorem dL_law_269 : decode code 269 = .ok (.iload_n 3, 1) := by decide +kernel
theorem dL_law_270 : decode code 270 = .ok (.iconst 1, 1) := by decide +kernel
theorem dL_law_271 : decode code 271 = .ok (.iadd, 1) := by decide +kernel
theorem dL_law_272 : decode code 272 = .ok (.iaload, 1) := by decide +kernel
theorem dL_law_273 : decode code 273 = .ok (.invokevirtual 18, 3) := by decide +kernel
theorem dL_law_276 : decode code 276 = .ok (.aload_n 2, 1) := by decide +kernel
theorem dL_law_277 : decode code 277 = .ok (.aload_n 0, 1) := by decide +kernel
theorem dL_law_278 : decode code 278 = .ok (.iload_n 3, 1) := by decide +kernel
theorem dL_law_279 : decode code 279 = .ok (.iconst 1, 1) := by decide +kernel
theorem dL_law_280 : decode code 280 = .ok (.iadd, 1) := by decide +kernel
theorem dL_law_281 : decode code 281 = .ok (.iaload, 1) := by decide +kernel
theorem dL_law_282 : decode code 282 = .ok (.invokevirtual 22, 3) := by decide +kernel
theorem dL_law_285 : decode code 285 = .ok (.if_icmp .eq 1203, 3) := by decide +kernel
theorem dL_law_288 : decode code 288 = .ok (.iconst 0, 1) := by decide +kernel
theorem dL_law_289 : decode code 289 = .ok (.ireturn, 1) := by decide +kernel
theorem dL_law_290 : decode code 290 = .ok (.aload_n 1, 1) := by decide +kernel
theorem dL_law_291 : decode code 291 = .ok (.aload_n 0, 1) := by decide +kernel
theorem dL_law_292 : decode code 292 = .ok (.iload_n 3, 1) := by decide +kernel
theorem dL_law_293 : decode code 293 = .ok (.iconst 1, 1) := by decide +kernel
theorem dL_law_294 : decode code 294 = .ok (.iadd, 1) := by decide +kernel
theorem dL_law_295 : decode code 295 = .ok (.iaload, 1) := by decide +kernel
theorem dL_law_296 : decode code 296 = .ok (.invokevirtual 23, 3) := by decide +kernel
theorem dL_law_299 : decode code 299 = .ok (.aload_n 2, 1) := by decide +kernel
theorem dL_law_300 : decode code 300 = .ok (.aload_n 0, 1) := by decide +kernel
theorem dL_law_301 : decode code 301 = .ok (.iload_n 3, 1) := by decide +kernel
theorem dL_law_302 : decode code 302 = .ok (.iconst 1, 1) := by decide +kernel
theorem dL_law_303 : decode code 303 = .ok (.iadd, 1) := by decide +kernel
theorem dL_law_304 : decode code 304 = .ok (.iaload, 1) := by decide +kernel
theorem dL_law_305 : decode code 305 = .ok (.invokevirtual 26, 3) := by decide +kernel
theorem dL_law_308 : decode code 308 = .ok (.if_icmp .eq 1180, 3) := by decide +kernel
theorem dL_law_311 : decode code 311 = .ok (.iconst 0, 1) := by decide +kernel
theorem dL_law_312 : decode code 312 = .ok (.ireturn, 1) := by decide +kernel
theorem dL_law_313 : decode code 313 = .ok (.aload_n 1, 1) := by decide +kernel
theorem dL_law_314 : decode code 314 = .ok (.aload_n 0, 1) := by decide +kernel
theorem dL_law_315 : decode code 315 = .ok (.iload_n 3, 1) := by decide +kernel
theorem dL_law_316 : decode code 316 = .ok (.iconst 1, 1) := by decide +kernel
theorem dL_law_317 : decode code 317 = .ok (.iadd, 1) := by decide +kernel
theorem dL_law_318 : decode code 318 = .ok (.iaload, 1) := by decide +kernel
theorem dL_law_319 : decode code 319 = .ok (.invokevirtual 27, 3) := by decide +kernel
theorem dL_law_322 : decode code 322 = .ok (.aload_n 2, 1) := by decide +kernel
theorem dL_law_323 : decode code 323 = .ok (.aload_n 0, 1) := by decide +kernel
theorem dL_law_324 : decode code 324 = .ok (.iload_n 3, 1) := by decide +kernel
theorem dL_law_325 : decode code 325 = .ok (.iconst 1, 1) := by decide +kernel
theorem dL_law_326 : decode code 326 = .ok (.iadd, 1) := by decide +kernel
theorem dL_law_327 : decode code 327 = .ok (.iaload, 1) := by decide +kernel
theorem dL_law_328 : decode code 328 = .ok (.invokevirtual 30, 3) := by decide +kernel
theorem dL_law_331 : decode code 331 = .ok (.if_icmp .eq 1157, 3) := by decide +kernel
theorem dL_law_334 : decode code 334 = .ok (.iconst 0, 1) := by decide +kernel
theorem dL_law_335 : decode code 335 = .ok (.ireturn, 1) := by decide +kernel
theorem dL_law_336 : decode code 336 = .ok (.aload_n 1, 1) := by decide +kernel
theorem dL_law_337 : decode code 337 = .ok (.invokevirtual 31, 3) := by decide +kernel
theorem dL_law_340 : decode code 340 = .ok (.aload_n 2, 1) := by decide +kernel
theorem dL_law_341 : decode code 341 = .ok (.invokevirtual 35, 3) := by decide +kernel
theorem dL_law_344 : decode code 344 = .ok (.if_icmp .eq 1144, 3) := by decide +kernel
theorem dL_law_347 : decode code 347 = .ok (.iconst 0, 1) := by decide +kernel
theorem dL_law_348 : decode code 348 = .ok (.ireturn, 1) := by decide +kernel
theorem dL_law_349 : decode code 349 = .ok (.aload_n 1, 1) := by decide +kernel
theorem dL_law_350 : decode code 350 = .ok (.invokevirtual 36, 3) := by decide +kernel
theorem dL_law_353 : decode code 353 = .ok (.aload_n 2, 1) := by decide +kernel
theorem dL_law_354 : decode code 354 = .ok (.invokevirtual 39, 3) := by decide +kernel
theorem dL_law_357 : decode code 357 = .ok (.if_icmp .eq 1131, 3) := by decide +kernel
theorem dL_law_360 : decode code 360 = .ok (.iconst 0, 1) := by decide +kernel
theorem dL_law_361 : decode code 361 = .ok (.ireturn, 1) := by decide +kernel
theorem dL_law_362 : decode code 362 = .ok (.aload_n 1, 1) := by decide +kernel
theorem dL_law_363 : decode code 363 = .ok (.invokevirtual 40, 3) := by decide +kernel
theorem dL_law_366 : decode code 366 = .ok (.aload_n 2, 1) := by decide +kernel
theorem dL_law_367 : decode code 367 = .ok (.invokevirtual 43, 3) := by decide +kernel
theorem dL_law_370 : decode code 370 = .ok (.if_icmp .eq 1118, 3) := by decide +kernel
theorem dL_law_373 : decode code 373 = .ok (.iconst 0, 1) := by decide +kernel
theorem dL_law_374 : decode code 374 = .ok (.ireturn, 1) := by decide +kernel
theorem dL_law_375 : decode code 375 = .ok (.aload_n 1, 1) := by decide +kernel
theorem dL_law_376 : decode code 376 = .ok (.aload_n 0, 1) := by decide +kernel
theorem dL_law_377 : decode code 377 = .ok (.iload_n 3, 1) := by decide +kernel
theorem dL_law_378 : decode code 378 = .ok (.iconst 1, 1) := by decide +kernel
theorem dL_law_379 : decode code 379 = .ok (.iadd, 1) := by decide +kernel
theorem dL_law_380 : decode code 380 = .ok (.iaload, 1) := by decide +kernel
theorem dL_law_381 : decode code 381 = .ok (.aload_n 0, 1) := by decide +kernel
theorem dL_law_382 : decode code 382 = .ok (.iload_n 3, 1) := by decide +kernel
theorem dL_law_383 : decode code 383 = .ok (.iconst 2, 1) := by decide +kernel
theorem dL_law_384 : decode code 384 = .ok (.iadd, 1) := by decide +kernel
theorem dL_law_385 : decode code 385 = .ok (.iaload, 1) := by decide +kernel
theorem dL_law_386 : decode code 386 = .ok (.aload_n 0, 1) := by decide +kernel
theorem dL_law_387 : decode code 387 = .ok (.iload_n 3, 1) := by decide +kernel
theorem dL_law_388 : decode code 388 = .ok (.iconst 3, 1) := by decide +kernel
theorem dL_law_389 : decode code 389 = .ok (.iadd, 1) := by decide +kernel
theorem dL_law_390 : decode code 390 = .ok (.iaload, 1) := by decide +kernel
theorem dL_law_391 : decode code 391 = .ok (.aload_n 0, 1) := by decide +kernel
theorem dL_law_392 : decode code 392 = .ok (.iload_n 3, 1) := by decide +kernel
theorem dL_law_393 : decode code 393 = .ok (.iconst 4, 1) := by decide +kernel
theorem dL_law_394 : decode code 394 = .ok (.iadd, 1) := by decide +kernel
theorem dL_law_395 : decode code 395 = .ok (.iaload, 1) := by decide +kernel
theorem dL_law_396 : decode code 396 = .ok (.invokevirtual 44, 3) := by decide +kernel
theorem dL_law_399 : decode code 399 = .ok (.aload_n 2, 1) := by decide +kernel
theorem dL_law_400 : decode code 400 = .ok (.aload_n 0, 1) := by decide +kernel
theorem dL_law_401 : decode code 401 = .ok (.iload_n 3, 1) := by decide +kernel
theorem dL_law_402 : decode code 402 = .ok (.iconst 1, 1) := by decide +kernel
theorem dL_law_403 : decode code 403 = .ok (.iadd, 1) := by decide +kernel
theorem dL_law_404 : decode code 404 = .ok (.iaload, 1) := by decide +kernel
theorem dL_law_405 : decode code 405 = .ok (.aload_n 0, 1) := by decide +kernel
theorem dL_law_406 : decode code 406 = .ok (.iload_n 3, 1) := by decide +kernel
theorem dL_law_407 : decode code 407 = .ok (.iconst 2, 1) := by decide +kernel
theorem dL_law_408 : decode code 408 = .ok (.iadd, 1) := by decide +kernel
theorem dL_law_409 : decode code 409 = .ok (.iaload, 1) := by decide +kernel
theorem dL_law_410 : decode code 410 = .ok (.aload_n 0, 1) := by decide +kernel
theorem dL_law_411 : decode code 411 = .ok (.iload_n 3, 1) := by decide +kernel
theorem dL_law_412 : decode code 412 = .ok (.iconst 3, 1) := by decide +kernel
theorem dL_law_413 : decode code 413 = .ok (.iadd, 1) := by decide +kernel
theorem dL_law_414 : decode code 414 = .ok (.iaload, 1) := by decide +kernel
theorem dL_law_415 : decode code 415 = .ok (.aload_n 0, 1) := by decide +kernel
theorem dL_law_416 : decode code 416 = .ok (.iload_n 3, 1) := by decide +kernel
theorem dL_law_417 : decode code 417 = .ok (.iconst 4, 1) := by decide +kernel
theorem dL_law_418 : decode code 418 = .ok (.iadd, 1) := by decide +kernel
theorem dL_law_419 : decode code 419 = .ok (.iaload, 1) := by decide +kernel
theorem dL_law_420 : decode code 420 = .ok (.invokevirtual 48, 3) := by decide +kernel
theorem dL_law_423 : decode code 423 = .ok (.if_icmp .eq 1065, 3) := by decide +kernel
theorem dL_law_426 : decode code 426 = .ok (.iconst 0, 1) := by decide +kernel
theorem dL_law_427 : decode code 427 = .ok (.ireturn, 1) := by decide +kernel
theorem dL_law_428 : decode code 428 = .ok (.aload_n 1, 1) := by decide +kernel
theorem dL_law_429 : decode code 429 = .ok (.aload_n 0, 1) := by decide +kernel
theorem dL_law_430 : decode code 430 = .ok (.iload_n 3, 1) := by decide +kernel
theorem dL_law_431 : decode code 431 = .ok (.iconst 1, 1) := by decide +kernel
theorem dL_law_432 : decode code 432 = .ok (.iadd, 1) := by decide +kernel
theorem dL_law_433 : decode code 433 = .ok (.iaload, 1) := by decide +kernel
theorem dL_law_434 : decode code 434 = .ok (.invokevirtual 49, 3) := by decide +kernel
theorem dL_law_437 : decode code 437 = .ok (.aload_n 2, 1) := by decide +kernel
theorem dL_law_438 : decode code 438 = .ok (.aload_n 0, 1) := by decide +kernel
theorem dL_law_439 : decode code 439 = .ok (.iload_n 3, 1) := by decide +kernel
theorem dL_law_440 : decode code 440 = .ok (.iconst 1, 1) := by decide +kernel
theorem dL_law_441 : decode code 441 = .ok (.iadd, 1) := by decide +kernel
theorem dL_law_442 : decode code 442 = .ok (.iaload, 1) := by decide +kernel
theorem dL_law_443 : decode code 443 = .ok (.invokevirtual 53, 3) := by decide +kernel
theorem dL_law_446 : decode code 446 = .ok (.if_icmp .eq 1042, 3) := by decide +kernel
theorem dL_law_449 : decode code 449 = .ok (.iconst 0, 1) := by decide +kernel
theorem dL_law_450 : decode code 450 = .ok (.ireturn, 1) := by decide +kernel
theorem dL_law_451 : decode code 451 = .ok (.aload_n 1, 1) := by decide +kernel
theorem dL_law_452 : decode code 452 = .ok (.aload_n 0, 1) := by decide +kernel
theorem dL_law_453 : decode code 453 = .ok (.iload_n 3, 1) := by decide +kernel
theorem dL_law_454 : decode code 454 = .ok (.iconst 1, 1) := by decide +kernel
theorem dL_law_455 : decode code 455 = .ok (.iadd, 1) := by decide +kernel
theorem dL_law_456 : decode code 456 = .ok (.iaload, 1) := by decide +kernel
theorem dL_law_457 : decode code 457 = .ok (.aload_n 0, 1) := by decide +kernel
theorem dL_law_458 : decode code 458 = .ok (.iload_n 3, 1) := by decide +kernel
theorem dL_law_459 : decode code 459 = .ok (.iconst 2, 1) := by decide +kernel
theorem dL_law_460 : decode code 460 = .ok (.iadd, 1) := by decide +kernel
theorem dL_law_461 : decode code 461 = .ok (.iaload, 1) := by decide +kernel
theorem dL_law_462 : decode code 462 = .ok (.aload_n 0, 1) := by decide +kernel
theorem dL_law_463 : decode code 463 = .ok (.iload_n 3, 1) := by decide +kernel
theorem dL_law_464 : decode code 464 = .ok (.iconst 3, 1) := by decide +kernel
theorem dL_law_465 : decode code 465 = .ok (.iadd, 1) := by decide +kernel
theorem dL_law_466 : decode code 466 = .ok (.iaload, 1) := by decide +kernel
theorem dL_law_467 : decode code 467 = .ok (.invokevirtual 54, 3) := by decide +kernel
theorem dL_law_470 : decode code 470 = .ok (.aload_n 2, 1) := by decide +kernel
theorem dL_law_471 : decode code 471 = .ok (.aload_n 0, 1) := by decide +kernel
theorem dL_law_472 : decode code 472 = .ok (.iload_n 3, 1) := by decide +kernel
theorem dL_law_473 : decode code 473 = .ok (.iconst 1, 1) := by decide +kernel
theorem dL_law_474 : decode code 474 = .ok (.iadd, 1) := by decide +kernel
theorem dL_law_475 : decode code 475 = .ok (.iaload, 1) := by decide +kernel
theorem dL_law_476 : decode code 476 = .ok (.aload_n 0, 1) := by decide +kernel
theorem dL_law_477 : decode code 477 = .ok (.iload_n 3, 1) := by decide +kernel
theorem dL_law_478 : decode code 478 = .ok (.iconst 2, 1) := by decide +kernel
theorem dL_law_479 : decode code 479 = .ok (.iadd, 1) := by decide +kernel
theorem dL_law_480 : decode code 480 = .ok (.iaload, 1) := by decide +kernel
theorem dL_law_481 : decode code 481 = .ok (.aload_n 0, 1) := by decide +kernel
theorem dL_law_482 : decode code 482 = .ok (.iload_n 3, 1) := by decide +kernel
theorem dL_law_483 : decode code 483 = .ok (.iconst 3, 1) := by decide +kernel
theorem dL_law_484 : decode code 484 = .ok (.iadd, 1) := by decide +kernel
theorem dL_law_485 : decode code 485 = .ok (.iaload, 1) := by decide +kernel
theorem dL_law_486 : decode code 486 = .ok (.invokevirtual 58, 3) := by decide +kernel
theorem dL_law_489 : decode code 489 = .ok (.if_icmp .eq 999, 3) := by decide +kernel
theorem dL_law_492 : decode code 492 = .ok (.iconst 0, 1) := by decide +kernel
theorem dL_law_493 : decode code 493 = .ok (.ireturn, 1) := by decide +kernel
theorem dL_law_494 : decode code 494 = .ok (.aload_n 1, 1) := by decide +kernel
theorem dL_law_495 : decode code 495 = .ok (.aload_n 0, 1) := by decide +kernel
theorem dL_law_496 : decode code 496 = .ok (.iload_n 3, 1) := by decide +kernel
theorem dL_law_497 : decode code 497 = .ok (.iconst 1, 1) := by decide +kernel
theorem dL_law_498 : decode code 498 = .ok (.iadd, 1) := by decide +kernel
theorem dL_law_499 : decode code 499 = .ok (.iaload, 1) := by decide +kernel
theorem dL_law_500 : decode code 500 = .ok (.aload_n 0, 1) := by decide +kernel
theorem dL_law_501 : decode code 501 = .ok (.iload_n 3, 1) := by decide +kernel
theorem dL_law_502 : decode code 502 = .ok (.iconst 2, 1) := by decide +kernel
theorem dL_law_503 : decode code 503 = .ok (.iadd, 1) := by decide +kernel
theorem dL_law_504 : decode code 504 = .ok (.iaload, 1) := by decide +kernel
theorem dL_law_505 : decode code 505 = .ok (.invokevirtual 59, 3) := by decide +kernel
theorem dL_law_508 : decode code 508 = .ok (.aload_n 2, 1) := by decide +kernel
theorem dL_law_509 : decode code 509 = .ok (.aload_n 0, 1) := by decide +kernel
theorem dL_law_510 : decode code 510 = .ok (.iload_n 3, 1) := by decide +kernel
theorem dL_law_511 : decode code 511 = .ok (.iconst 1, 1) := by decide +kernel
theorem dL_law_512 : decode code 512 = .ok (.iadd, 1) := by decide +kernel
theorem dL_law_513 : decode code 513 = .ok (.iaload, 1) := by decide +kernel
theorem dL_law_514 : decode code 514 = .ok (.aload_n 0, 1) := by decide +kernel
theorem dL_law_515 : decode code 515 = .ok (.iload_n 3, 1) := by decide +kernel
theorem dL_law_516 : decode code 516 = .ok (.iconst 2, 1) := by decide +kernel
theorem dL_law_517 : decode code 517 = .ok (.iadd, 1) := by decide +kernel
theorem dL_law_518 : decode code 518 = .ok (.iaload, 1) := by decide +kernel
theorem dL_law_519 : decode code 519 = .ok (.invokevirtual 63, 3) := by decide +kernel
theorem dL_law_522 : decode code 522 = .ok (.if_icmp .eq 966, 3) := by decide +kernel
theorem dL_law_525 : decode code 525 = .ok (.iconst 0, 1) := by decide +kernel
theorem dL_law_526 : decode code 526 = .ok (.ireturn, 1) := by decide +kernel
theorem dL_law_527 : decode code 527 = .ok (.aload_n 1, 1) := by decide +kernel
theorem dL_law_528 : decode code 528 = .ok (.aload_n 0, 1) := by decide +kernel
theorem dL_law_529 : decode code 529 = .ok (.iload_n 3, 1) := by decide +kernel
theorem dL_law_530 : decode code 530 = .ok (.iconst 1, 1) := by decide +kernel
theorem dL_law_531 : decode code 531 = .ok (.iadd, 1) := by decide +kernel
theorem dL_law_532 : decode code 532 = .ok (.iaload, 1) := by decide +kernel
theorem dL_law_533 : decode code 533 = .ok (.aload_n 0, 1) := by decide +kernel
theorem dL_law_534 : decode code 534 = .ok (.iload_n 3, 1) := by decide +kernel
theorem dL_law_535 : decode code 535 = .ok (.iconst 2, 1) := by decide +kernel
theorem dL_law_536 : decode code 536 = .ok (.iadd, 1) := by decide +kernel
theorem dL_law_537 : decode code 537 = .ok (.iaload, 1) := by decide +kernel
theorem dL_law_538 : decode code 538 = .ok (.invokevirtual 64, 3) := by decide +kernel
theorem dL_law_541 : decode code 541 = .ok (.aload_n 2, 1) := by decide +kernel
theorem dL_law_542 : decode code 542 = .ok (.aload_n 0, 1) := by decide +kernel
theorem dL_law_543 : decode code 543 = .ok (.iload_n 3, 1) := by decide +kernel
theorem dL_law_544 : decode code 544 = .ok (.iconst 1, 1) := by decide +kernel
theorem dL_law_545 : decode code 545 = .ok (.iadd, 1) := by decide +kernel
theorem dL_law_546 : decode code 546 = .ok (.iaload, 1) := by decide +kernel
theorem dL_law_547 : decode code 547 = .ok (.aload_n 0, 1) := by decide +kernel
theorem dL_law_548 : decode code 548 = .ok (.iload_n 3, 1) := by decide +kernel
theorem dL_law_549 : decode code 549 = .ok (.iconst 2, 1) := by decide +kernel
theorem dL_law_550 : decode code 550 = .ok (.iadd, 1) := by decide +kernel
theorem dL_law_551 : decode code 551 = .ok (.iaload, 1) := by decide +kernel
theorem dL_law_552 : decode code 552 = .ok (.invokevirtual 67, 3) := by decide +kernel
theorem dL_law_555 : decode code 555 = .ok (.if_icmp .eq 933, 3) := by decide +kernel
theorem dL_law_558 : decode code 558 = .ok (.iconst 0, 1) := by decide +kernel
theorem dL_law_559 : decode code 559 = .ok (.ireturn, 1) := by decide +kernel
theorem dL_law_560 : decode code 560 = .ok (.aload_n 1, 1) := by decide +kernel
theorem dL_law_561 : decode code 561 = .ok (.aload_n 0, 1) := by decide +kernel
theorem dL_law_562 : decode code 562 = .ok (.iload_n 3, 1) := by decide +kernel
theorem dL_law_563 : decode code 563 = .ok (.iconst 1, 1) := by decide +kernel
theorem dL_law_564 : decode code 564 = .ok (.iadd, 1) := by decide +kernel
theorem dL_law_565 : decode code 565 = .ok (.iaload, 1) := by decide +kernel
theorem dL_law_566 : decode code 566 = .ok (.invokevirtual 68, 3) := by decide +kernel
theorem dL_law_569 : decode code 569 = .ok (.aload_n 2, 1) := by decide +kernel
theorem dL_law_570 : decode code 570 = .ok (.aload_n 0, 1) := by decide +kernel
theorem dL_law_571 : decode code 571 = .ok (.iload_n 3, 1) := by decide +kernel
theorem dL_law_572 : decode code 572 = .ok (.iconst 1, 1) := by decide +kernel
theorem dL_law_573 : decode code 573 = .ok (.iadd, 1) := by decide +kernel
theorem dL_law_574 : decode code 574 = .ok (.iaload, 1) := by decide +kernel
theorem dL_law_575 : decode code 575 = .ok (.invokevirtual 71, 3) := by decide +kernel
theorem dL_law_578 : decode code 578 = .ok (.if_icmp .eq 910, 3) := by decide +kernel
theorem dL_law_581 : decode code 581 = .ok (.iconst 0, 1) := by decide +kernel
theorem dL_law_582 : decode code 582 = .ok (.ireturn, 1) := by decide +kernel
theorem dL_law_583 : decode code 583 = .ok (.aload_n 1, 1) := by decide +kernel
theorem dL_law_584 : decode code 584 = .ok (.aload_n 0, 1) := by decide +kernel
theorem dL_law_585 : decode code 585 = .ok (.iload_n 3, 1) := by decide +kernel
theorem dL_law_586 : decode code 586 = .ok (.iconst 1, 1) := by decide +kernel
theorem dL_law_587 : decode code 587 = .ok (.iadd, 1) := by decide +kernel
theorem dL_law_588 : decode code 588 = .ok (.iaload, 1) := by decide +kernel
theorem dL_law_589 : decode code 589 = .ok (.aload_n 0, 1) := by decide +kernel
theorem dL_law_590 : decode code 590 = .ok (.iload_n 3, 1) := by decide +kernel
theorem dL_law_591 : decode code 591 = .ok (.iconst 2, 1) := by decide +kernel
theorem dL_law_592 : decode code 592 = .ok (.iadd, 1) := by decide +kernel
theorem dL_law_593 : decode code 593 = .ok (.iaload, 1) := by decide +kernel
theorem dL_law_594 : decode code 594 = .ok (.aload_n 0, 1) := by decide +kernel
theorem dL_law_595 : decode code 595 = .ok (.iload_n 3, 1) := by decide +kernel
theorem dL_law_596 : decode code 596 = .ok (.iconst 3, 1) := by decide +kernel
theorem dL_law_597 : decode code 597 = .ok (.iadd, 1) := by decide +kernel
theorem dL_law_598 : decode code 598 = .ok (.iaload, 1) := by decide +kernel
theorem dL_law_599 : decode code 599 = .ok (.invokevirtual 72, 3) := by decide +kernel
theorem dL_law_602 : decode code 602 = .ok (.aload_n 2, 1) := by decide +kernel
theorem dL_law_603 : decode code 603 = .ok (.aload_n 0, 1) := by decide +kernel
theorem dL_law_604 : decode code 604 = .ok (.iload_n 3, 1) := by decide +kernel
theorem dL_law_605 : decode code 605 = .ok (.iconst 1, 1) := by decide +kernel
theorem dL_law_606 : decode code 606 = .ok (.iadd, 1) := by decide +kernel
theorem dL_law_607 : decode code 607 = .ok (.iaload, 1) := by decide +kernel
theorem dL_law_608 : decode code 608 = .ok (.aload_n 0, 1) := by decide +kernel
theorem dL_law_609 : decode code 609 = .ok (.iload_n 3, 1) := by decide +kernel
theorem dL_law_610 : decode code 610 = .ok (.iconst 2, 1) := by decide +kernel
theorem dL_law_611 : decode code 611 = .ok (.iadd, 1) := by decide +kernel
theorem dL_law_612 : decode code 612 = .ok (.iaload, 1) := by decide +kernel
theorem dL_law_613 : decode code 613 = .ok (.aload_n 0, 1) := by decide +kernel
theorem dL_law_614 : decode code 614 = .ok (.iload_n 3, 1) := by decide +kernel
theorem dL_law_615 : decode code 615 = .ok (.iconst 3, 1) := by decide +kernel
theorem dL_law_616 : decode code 616 = .ok (.iadd, 1) := by decide +kernel
theorem dL_law_617 : decode code 617 = .ok (.iaload, 1) := by decide +kernel
theorem dL_law_618 : decode code 618 = .ok (.invokevirtual 75, 3) := by decide +kernel
theorem dL_law_621 : decode code 621 = .ok (.if_icmp .eq 867, 3) := by decide +kernel
theorem dL_law_624 : decode code 624 = .ok (.iconst 0, 1) := by decide +kernel
theorem dL_law_625 : decode code 625 = .ok (.ireturn, 1) := by decide +kernel
theorem dL_law_626 : decode code 626 = .ok (.aload_n 1, 1) := by decide +kernel
theorem dL_law_627 : decode code 627 = .ok (.aload_n 0, 1) := by decide +kernel
theorem dL_law_628 : decode code 628 = .ok (.iload_n 3, 1) := by decide +kernel
theorem dL_law_629 : decode code 629 = .ok (.iconst 1, 1) := by decide +kernel
theorem dL_law_630 : decode code 630 = .ok (.iadd, 1) := by decide +kernel
theorem dL_law_631 : decode code 631 = .ok (.iaload, 1) := by decide +kernel
theorem dL_law_632 : decode code 632 = .ok (.invokevirtual 76, 3) := by decide +kernel
theorem dL_law_635 : decode code 635 = .ok (.aload_n 2, 1) := by decide +kernel
theorem dL_law_636 : decode code 636 = .ok (.aload_n 0, 1) := by decide +kernel
theorem dL_law_637 : decode code 637 = .ok (.iload_n 3, 1) := by decide +kernel
theorem dL_law_638 : decode code 638 = .ok (.iconst 1, 1) := by decide +kernel
theorem dL_law_639 : decode code 639 = .ok (.iadd, 1) := by decide +kernel
theorem dL_law_640 : decode code 640 = .ok (.iaload, 1) := by decide +kernel
theorem dL_law_641 : decode code 641 = .ok (.invokevirtual 79, 3) := by decide +kernel
theorem dL_law_644 : decode code 644 = .ok (.if_icmp .eq 844, 3) := by decide +kernel
theorem dL_law_647 : decode code 647 = .ok (.iconst 0, 1) := by decide +kernel
theorem dL_law_648 : decode code 648 = .ok (.ireturn, 1) := by decide +kernel
theorem dL_law_649 : decode code 649 = .ok (.aload_n 1, 1) := by decide +kernel
theorem dL_law_650 : decode code 650 = .ok (.aload_n 0, 1) := by decide +kernel
theorem dL_law_651 : decode code 651 = .ok (.iload_n 3, 1) := by decide +kernel
theorem dL_law_652 : decode code 652 = .ok (.iconst 1, 1) := by decide +kernel
theorem dL_law_653 : decode code 653 = .ok (.iadd, 1) := by decide +kernel
theorem dL_law_654 : decode code 654 = .ok (.iaload, 1) := by decide +kernel
theorem dL_law_655 : decode code 655 = .ok (.invokevirtual 80, 3) := by decide +kernel
theorem dL_law_658 : decode code 658 = .ok (.aload_n 2, 1) := by decide +kernel
theorem dL_law_659 : decode code 659 = .ok (.aload_n 0, 1) := by decide +kernel
theorem dL_law_660 : decode code 660 = .ok (.iload_n 3, 1) := by decide +kernel
theorem dL_law_661 : decode code 661 = .ok (.iconst 1, 1) := by decide +kernel
theorem dL_law_662 : decode code 662 = .ok (.iadd, 1) := by decide +kernel
theorem dL_law_663 : decode code 663 = .ok (.iaload, 1) := by decide +kernel
theorem dL_law_664 : decode code 664 = .ok (.invokevirtual 83, 3) := by decide +kernel
theorem dL_law_667 : decode code 667 = .ok (.if_icmp .eq 821, 3) := by decide +kernel
theorem dL_law_670 : decode code 670 = .ok (.iconst 0, 1) := by decide +kernel
theorem dL_law_671 : decode code 671 = .ok (.ireturn, 1) := by decide +kernel
theorem dL_law_672 : decode code 672 = .ok (.aload_n 1, 1) := by decide +kernel
theorem dL_law_673 : decode code 673 = .ok (.aload_n 0, 1) := by decide +kernel
theorem dL_law_674 : decode code 674 = .ok (.iload_n 3, 1) := by decide +kernel
theorem dL_law_675 : decode code 675 = .ok (.iconst 1, 1) := by decide +kernel
theorem dL_law_676 : decode code 676 = .ok (.iadd, 1) := by decide +kernel
theorem dL_law_677 : decode code 677 = .ok (.iaload, 1) := by decide +kernel
theorem dL_law_678 : decode code 678 = .ok (.aload_n 0, 1) := by decide +kernel
theorem dL_law_679 : decode code 679 = .ok (.iload_n 3, 1) := by decide +kernel
theorem dL_law_680 : decode code 680 = .ok (.iconst 2, 1) := by decide +kernel
theorem dL_law_681 : decode code 681 = .ok (.iadd, 1) := by decide +kernel
theorem dL_law_682 : decode code 682 = .ok (.iaload, 1) := by decide +kernel
theorem dL_law_683 : decode code 683 = .ok (.aload_n 0, 1) := by decide +kernel
theorem dL_law_684 : decode code 684 = .ok (.iload_n 3, 1) := by decide +kernel
theorem dL_law_685 : decode code 685 = .ok (.iconst 3, 1) := by decide +kernel
theorem dL_law_686 : decode code 686 = .ok (.iadd, 1) := by decide +kernel
theorem dL_law_687 : decode code 687 = .ok (.iaload, 1) := by decide +kernel
theorem dL_law_688 : decode code 688 = .ok (.aload_n 0, 1) := by decide +kernel
theorem dL_law_689 : decode code 689 = .ok (.iload_n 3, 1) := by decide +kernel
theorem dL_law_690 : decode code 690 = .ok (.iconst 4, 1) := by decide +kernel
theorem dL_law_691 : decode code 691 = .ok (.iadd, 1) := by decide +kernel
theorem dL_law_692 : decode code 692 = .ok (.iaload, 1) := by decide +kernel
theorem dL_law_693 : decode code 693 = .ok (.aload_n 0, 1) := by decide +kernel
theorem dL_law_694 : decode code 694 = .ok (.iload_n 3, 1) := by decide +kernel
theorem dL_law_695 : decode code 695 = .ok (.iconst 5, 1) := by decide +kernel
theorem dL_law_696 : decode code 696 = .ok (.iadd, 1) := by decide +kernel
theorem dL_law_697 : decode code 697 = .ok (.iaload, 1) := by decide +kernel
theorem dL_law_698 : decode code 698 = .ok (.invokevirtual 84, 3) := by decide +kernel
theorem dL_law_701 : decode code 701 = .ok (.aload_n 2, 1) := by decide +kernel
theorem dL_law_702 : decode code 702 = .ok (.aload_n 0, 1) := by decide +kernel
theorem dL_law_703 : decode code 703 = .ok (.iload_n 3, 1) := by decide +kernel
theorem dL_law_704 : decode code 704 = .ok (.iconst 1, 1) := by decide +kernel
theorem dL_law_705 : decode code 705 = .ok (.iadd, 1) := by decide +kernel
theorem dL_law_706 : decode code 706 = .ok (.iaload, 1) := by decide +kernel
theorem dL_law_707 : decode code 707 = .ok (.aload_n 0, 1) := by decide +kernel
theorem dL_law_708 : decode code 708 = .ok (.iload_n 3, 1) := by decide +kernel
theorem dL_law_709 : decode code 709 = .ok (.iconst 2, 1) := by decide +kernel
theorem dL_law_710 : decode code 710 = .ok (.iadd, 1) := by decide +kernel
theorem dL_law_711 : decode code 711 = .ok (.iaload, 1) := by decide +kernel
theorem dL_law_712 : decode code 712 = .ok (.aload_n 0, 1) := by decide +kernel
theorem dL_law_713 : decode code 713 = .ok (.iload_n 3, 1) := by decide +kernel
theorem dL_law_714 : decode code 714 = .ok (.iconst 3, 1) := by decide +kernel
theorem dL_law_715 : decode code 715 = .ok (.iadd, 1) := by decide +kernel
theorem dL_law_716 : decode code 716 = .ok (.iaload, 1) := by decide +kernel
theorem dL_law_717 : decode code 717 = .ok (.aload_n 0, 1) := by decide +kernel
theorem dL_law_718 : decode code 718 = .ok (.iload_n 3, 1) := by decide +kernel
theorem dL_law_719 : decode code 719 = .ok (.iconst 4, 1) := by decide +kernel
theorem dL_law_720 : decode code 720 = .ok (.iadd, 1) := by decide +kernel
theorem dL_law_721 : decode code 721 = .ok (.iaload, 1) := by decide +kernel
theorem dL_law_722 : decode code 722 = .ok (.aload_n 0, 1) := by decide +kernel
theorem dL_law_723 : decode code 723 = .ok (.iload_n 3, 1) := by decide +kernel
theorem dL_law_724 : decode code 724 = .ok (.iconst 5, 1) := by decide +kernel
theorem dL_law_725 : decode code 725 = .ok (.iadd, 1) := by decide +kernel
theorem dL_law_726 : decode code 726 = .ok (.iaload, 1) := by decide +kernel
theorem dL_law_727 : decode code 727 = .ok (.invokevirtual 88, 3) := by decide +kernel
theorem dL_law_730 : decode code 730 = .ok (.if_icmp .eq 758, 3) := by decide +kernel
theorem dL_law_733 : decode code 733 = .ok (.iconst 0, 1) := by decide +kernel
theorem dL_law_734 : decode code 734 = .ok (.ireturn, 1) := by decide +kernel
theorem dL_law_735 : decode code 735 = .ok (.aload_n 1, 1) := by decide +kernel
theorem dL_law_736 : decode code 736 = .ok (.aload_n 0, 1) := by decide +kernel
theorem dL_law_737 : decode code 737 = .ok (.iload_n 3, 1) := by decide +kernel
theorem dL_law_738 : decode code 738 = .ok (.iconst 1, 1) := by decide +kernel
theorem dL_law_739 : decode code 739 = .ok (.iadd, 1) := by decide +kernel
theorem dL_law_740 : decode code 740 = .ok (.iaload, 1) := by decide +kernel
theorem dL_law_741 : decode code 741 = .ok (.aload_n 0, 1) := by decide +kernel
theorem dL_law_742 : decode code 742 = .ok (.iload_n 3, 1) := by decide +kernel
theorem dL_law_743 : decode code 743 = .ok (.iconst 2, 1) := by decide +kernel
theorem dL_law_744 : decode code 744 = .ok (.iadd, 1) := by decide +kernel
theorem dL_law_745 : decode code 745 = .ok (.iaload, 1) := by decide +kernel
theorem dL_law_746 : decode code 746 = .ok (.invokevirtual 89, 3) := by decide +kernel
theorem dL_law_749 : decode code 749 = .ok (.aload_n 2, 1) := by decide +kernel
theorem dL_law_750 : decode code 750 = .ok (.aload_n 0, 1) := by decide +kernel
theorem dL_law_751 : decode code 751 = .ok (.iload_n 3, 1) := by decide +kernel
theorem dL_law_752 : decode code 752 = .ok (.iconst 1, 1) := by decide +kernel
theorem dL_law_753 : decode code 753 = .ok (.iadd, 1) := by decide +kernel
theorem dL_law_754 : decode code 754 = .ok (.iaload, 1) := by decide +kernel
theorem dL_law_755 : decode code 755 = .ok (.aload_n 0, 1) := by decide +kernel
theorem dL_law_756 : decode code 756 = .ok (.iload_n 3, 1) := by decide +kernel
theorem dL_law_757 : decode code 757 = .ok (.iconst 2, 1) := by decide +kernel
theorem dL_law_758 : decode code 758 = .ok (.iadd, 1) := by decide +kernel
theorem dL_law_759 : decode code 759 = .ok (.iaload, 1) := by decide +kernel
theorem dL_law_760 : decode code 760 = .ok (.invokevirtual 93, 3) := by decide +kernel
theorem dL_law_763 : decode code 763 = .ok (.if_icmp .eq 725, 3) := by decide +kernel
theorem dL_law_766 : decode code 766 = .ok (.iconst 0, 1) := by decide +kernel
theorem dL_law_767 : decode code 767 = .ok (.ireturn, 1) := by decide +kernel
theorem dL_law_768 : decode code 768 = .ok (.aload_n 1, 1) := by decide +kernel
theorem dL_law_769 : decode code 769 = .ok (.aload_n 0, 1) := by decide +kernel
theorem dL_law_770 : decode code 770 = .ok (.iload_n 3, 1) := by decide +kernel
theorem dL_law_771 : decode code 771 = .ok (.iconst 1, 1) := by decide +kernel
theorem dL_law_772 : decode code 772 = .ok (.iadd, 1) := by decide +kernel
theorem dL_law_773 : decode code 773 = .ok (.iaload, 1) := by decide +kernel
theorem dL_law_774 : decode code 774 = .ok (.aload_n 0, 1) := by decide +kernel
theorem dL_law_775 : decode code 775 = .ok (.iload_n 3, 1) := by decide +kernel
theorem dL_law_776 : decode code 776 = .ok (.iconst 2, 1) := by decide +kernel
theorem dL_law_777 : decode code 777 = .ok (.iadd, 1) := by decide +kernel
theorem dL_law_778 : decode code 778 = .ok (.iaload, 1) := by decide +kernel
theorem dL_law_779 : decode code 779 = .ok (.invokevirtual 94, 3) := by decide +kernel
theorem dL_law_782 : decode code 782 = .ok (.aload_n 2, 1) := by decide +kernel
theorem dL_law_783 : decode code 783 = .ok (.aload_n 0, 1) := by decide +kernel
theorem dL_law_784 : decode code 784 = .ok (.iload_n 3, 1) := by decide +kernel
theorem dL_law_785 : decode code 785 = .ok (.iconst 1, 1) := by decide +kernel
theorem dL_law_786 : decode code 786 = .ok (.iadd, 1) := by decide +kernel
theorem dL_law_787 : decode code 787 = .ok (.iaload, 1) := by decide +kernel
theorem dL_law_788 : decode code 788 = .ok (.aload_n 0, 1) := by decide +kernel
theorem dL_law_789 : decode code 789 = .ok (.iload_n 3, 1) := by decide +kernel
theorem dL_law_790 : decode code 790 = .ok (.iconst 2, 1) := by decide +kernel
theorem dL_law_791 : decode code 791 = .ok (.iadd, 1) := by decide +kernel
theorem dL_law_792 : decode code 792 = .ok (.iaload, 1) := by decide +kernel
theorem dL_law_793 : decode code 793 = .ok (.invokevirtual 97, 3) := by decide +kernel
theorem dL_law_796 : decode code 796 = .ok (.if_icmp .eq 692, 3) := by decide +kernel
theorem dL_law_799 : decode code 799 = .ok (.iconst 0, 1) := by decide +kernel
theorem dL_law_800 : decode code 800 = .ok (.ireturn, 1) := by decide +kernel
theorem dL_law_801 : decode code 801 = .ok (.aload_n 1, 1) := by decide +kernel
theorem dL_law_802 : decode code 802 = .ok (.aload_n 0, 1) := by decide +kernel
theorem dL_law_803 : decode code 803 = .ok (.iload_n 3, 1) := by decide +kernel
theorem dL_law_804 : decode code 804 = .ok (.iconst 1, 1) := by decide +kernel
theorem dL_law_805 : decode code 805 = .ok (.iadd, 1) := by decide +kernel
theorem dL_law_806 : decode code 806 = .ok (.iaload, 1) := by decide +kernel
theorem dL_law_807 : decode code 807 = .ok (.aload_n 0, 1) := by decide +kernel
theorem dL_law_808 : decode code 808 = .ok (.iload_n 3, 1) := by decide +kernel
theorem dL_law_809 : decode code 809 = .ok (.iconst 2, 1) := by decide +kernel
theorem dL_law_810 : decode code 810 = .ok (.iadd, 1) := by decide +kernel
theorem dL_law_811 : decode code 811 = .ok (.iaload, 1) := by decide +kernel
theorem dL_law_812 : decode code 812 = .ok (.invokevirtual 98, 3) := by decide +kernel
theorem dL_law_815 : decode code 815 = .ok (.aload_n 2, 1) := by decide +kernel
theorem dL_law_816 : decode code 816 = .ok (.aload_n 0, 1) := by decide +kernel
theorem dL_law_817 : decode code 817 = .ok (.iload_n 3, 1) := by decide +kernel
theorem dL_law_818 : decode code 818 = .ok (.iconst 1, 1) := by decide +kernel
theorem dL_law_819 : decode code 819 = .ok (.iadd, 1) := by decide +kernel
theorem dL_law_820 : decode code 820 = .ok (.iaload, 1) := by decide +kernel
theorem dL_law_821 : decode code 821 = .ok (.aload_n 0, 1) := by decide +kernel
theorem dL_law_822 : decode code 822 = .ok (.iload_n 3, 1) := by decide +kernel
theorem dL_law_823 : decode code 823 = .ok (.iconst 2, 1) := by decide +kernel
theorem dL_law_824 : decode code 824 = .ok (.iadd, 1) := by decide +kernel
theorem dL_law_825 : decode code 825 = .ok (.iaload, 1) := by decide +kernel
theorem dL_law_826 : decode code 826 = .ok (.invokevirtual 101, 3) := by decide +kernel
theorem dL_law_829 : decode code 829 = .ok (.if_icmp .eq 659, 3) := by decide +kernel
theorem dL_law_832 : decode code 832 = .ok (.iconst 0, 1) := by decide +kernel
theorem dL_law_833 : decode code 833 = .ok (.ireturn, 1) := by decide +kernel
theorem dL_law_834 : decode code 834 = .ok (.aload_n 1, 1) := by decide +kernel
theorem dL_law_835 : decode code 835 = .ok (.aload_n 0, 1) := by decide +kernel
theorem dL_law_836 : decode code 836 = .ok (.iload_n 3, 1) := by decide +kernel
theorem dL_law_837 : decode code 837 = .ok (.iconst 1, 1) := by decide +kernel
theorem dL_law_838 : decode code 838 = .ok (.iadd, 1) := by decide +kernel
theorem dL_law_839 : decode code 839 = .ok (.iaload, 1) := by decide +kernel
theorem dL_law_840 : decode code 840 = .ok (.ifCond .eq 7, 3) := by decide +kernel
theorem dL_law_843 : decode code 843 = .ok (.iconst 1, 1) := by decide +kernel
theorem dL_law_844 : decode code 844 = .ok (.goto 4, 3) := by decide +kernel
theorem dL_law_847 : decode code 847 = .ok (.iconst 0, 1) := by decide +kernel
theorem dL_law_848 : decode code 848 = .ok (.invokevirtual 102, 3) := by decide +kernel
theorem dL_law_851 : decode code 851 = .ok (.aload_n 2, 1) := by decide +kernel
theorem dL_law_852 : decode code 852 = .ok (.aload_n 0, 1) := by decide +kernel
theorem dL_law_853 : decode code 853 = .ok (.iload_n 3, 1) := by decide +kernel
theorem dL_law_854 : decode code 854 = .ok (.iconst 1, 1) := by decide +kernel
theorem dL_law_855 : decode code 855 = .ok (.iadd, 1) := by decide +kernel
theorem dL_law_856 : decode code 856 = .ok (.iaload, 1) := by decide +kernel
theorem dL_law_857 : decode code 857 = .ok (.ifCond .eq 7, 3) := by decide +kernel
theorem dL_law_860 : decode code 860 = .ok (.iconst 1, 1) := by decide +kernel
theorem dL_law_861 : decode code 861 = .ok (.goto 4, 3) := by decide +kernel
theorem dL_law_864 : decode code 864 = .ok (.iconst 0, 1) := by decide +kernel
theorem dL_law_865 : decode code 865 = .ok (.invokevirtual 106, 3) := by decide +kernel
theorem dL_law_868 : decode code 868 = .ok (.goto 620, 3) := by decide +kernel
theorem dL_law_871 : decode code 871 = .ok (.aload_n 1, 1) := by decide +kernel
theorem dL_law_872 : decode code 872 = .ok (.aload_n 0, 1) := by decide +kernel
theorem dL_law_873 : decode code 873 = .ok (.iload_n 3, 1) := by decide +kernel
theorem dL_law_874 : decode code 874 = .ok (.iconst 1, 1) := by decide +kernel
theorem dL_law_875 : decode code 875 = .ok (.iadd, 1) := by decide +kernel
theorem dL_law_876 : decode code 876 = .ok (.iaload, 1) := by decide +kernel
theorem dL_law_877 : decode code 877 = .ok (.aload_n 0, 1) := by decide +kernel
theorem dL_law_878 : decode code 878 = .ok (.iload_n 3, 1) := by decide +kernel
theorem dL_law_879 : decode code 879 = .ok (.iconst 2, 1) := by decide +kernel
theorem dL_law_880 : decode code 880 = .ok (.iadd, 1) := by decide +kernel
theorem dL_law_881 : decode code 881 = .ok (.iaload, 1) := by decide +kernel
theorem dL_law_882 : decode code 882 = .ok (.ifCond .eq 7, 3) := by decide +kernel
theorem dL_law_885 : decode code 885 = .ok (.iconst 1, 1) := by decide +kernel
theorem dL_law_886 : decode code 886 = .ok (.goto 4, 3) := by decide +kernel
theorem dL_law_889 : decode code 889 = .ok (.iconst 0, 1) := by decide +kernel
theorem dL_law_890 : decode code 890 = .ok (.invokevirtual 107, 3) := by decide +kernel
theorem dL_law_893 : decode code 893 = .ok (.aload_n 2, 1) := by decide +kernel
theorem dL_law_894 : decode code 894 = .ok (.aload_n 0, 1) := by decide +kernel
theorem dL_law_895 : decode code 895 = .ok (.iload_n 3, 1) := by decide +kernel
theorem dL_law_896 : decode code 896 = .ok (.iconst 1, 1) := by decide +kernel
theorem dL_law_897 : decode code 897 = .ok (.iadd, 1) := by decide +kernel
theorem dL_law_898 : decode code 898 = .ok (.iaload, 1) := by decide +kernel
theorem dL_law_899 : decode code 899 = .ok (.aload_n 0, 1) := by decide +kernel
theorem dL_law_900 : decode code 900 = .ok (.iload_n 3, 1) := by decide +kernel
theorem dL_law_901 : decode code 901 = .ok (.iconst 2, 1) := by decide +kernel
theorem dL_law_902 : decode code 902 = .ok (.iadd, 1) := by decide +kernel
theorem dL_law_903 : decode code 903 = .ok (.iaload, 1) := by decide +kernel
theorem dL_law_904 : decode code 904 = .ok (.ifCond .eq 7, 3) := by decide +kernel
theorem dL_law_907 : decode code 907 = .ok (.iconst 1, 1) := by decide +kernel
theorem dL_law_908 : decode code 908 = .ok (.goto 4, 3) := by decide +kernel
theorem dL_law_911 : decode code 911 = .ok (.iconst 0, 1) := by decide +kernel
theorem dL_law_912 : decode code 912 = .ok (.invokevirtual 111, 3) := by decide +kernel
theorem dL_law_915 : decode code 915 = .ok (.if_icmp .eq 573, 3) := by decide +kernel
theorem dL_law_918 : decode code 918 = .ok (.iconst 0, 1) := by decide +kernel
theorem dL_law_919 : decode code 919 = .ok (.ireturn, 1) := by decide +kernel
theorem dL_law_920 : decode code 920 = .ok (.aload_n 1, 1) := by decide +kernel
theorem dL_law_921 : decode code 921 = .ok (.aload_n 0, 1) := by decide +kernel
theorem dL_law_922 : decode code 922 = .ok (.iload_n 3, 1) := by decide +kernel
theorem dL_law_923 : decode code 923 = .ok (.iconst 1, 1) := by decide +kernel
theorem dL_law_924 : decode code 924 = .ok (.iadd, 1) := by decide +kernel
theorem dL_law_925 : decode code 925 = .ok (.iaload, 1) := by decide +kernel
theorem dL_law_926 : decode code 926 = .ok (.invokevirtual 112, 3) := by decide +kernel
theorem dL_law_929 : decode code 929 = .ok (.aload_n 2, 1) := by decide +kernel
theorem dL_law_930 : decode code 930 = .ok (.aload_n 0, 1) := by decide +kernel
theorem dL_law_931 : decode code 931 = .ok (.iload_n 3, 1) := by decide +kernel
theorem dL_law_932 : decode code 932 = .ok (.iconst 1, 1) := by decide +kernel
theorem dL_law_933 : decode code 933 = .ok (.iadd, 1) := by decide +kernel
theorem dL_law_934 : decode code 934 = .ok (.iaload, 1) := by decide +kernel
theorem dL_law_935 : decode code 935 = .ok (.invokevirtual 115, 3) := by decide +kernel
theorem dL_law_938 : decode code 938 = .ok (.if_icmp .eq 550, 3) := by decide +kernel
theorem dL_law_941 : decode code 941 = .ok (.iconst 0, 1) := by decide +kernel
theorem dL_law_942 : decode code 942 = .ok (.ireturn, 1) := by decide +kernel
theorem dL_law_943 : decode code 943 = .ok (.aload_n 1, 1) := by decide +kernel
theorem dL_law_944 : decode code 944 = .ok (.aload_n 0, 1) := by decide +kernel
theorem dL_law_945 : decode code 945 = .ok (.iload_n 3, 1) := by decide +kernel
theorem dL_law_946 : decode code 946 = .ok (.iconst 1, 1) := by decide +kernel
theorem dL_law_947 : decode code 947 = .ok (.iadd, 1) := by decide +kernel
theorem dL_law_948 : decode code 948 = .ok (.iaload, 1) := by decide +kernel
theorem dL_law_949 : decode code 949 = .ok (.aload_n 0, 1) := by decide +kernel
theorem dL_law_950 : decode code 950 = .ok (.iload_n 3, 1) := by decide +kernel
theorem dL_law_951 : decode code 951 = .ok (.iconst 2, 1) := by decide +kernel
theorem dL_law_952 : decode code 952 = .ok (.iadd, 1) := by decide +kernel
theorem dL_law_953 : decode code 953 = .ok (.iaload, 1) := by decide +kernel
theorem dL_law_954 : decode code 954 = .ok (.invokevirtual 116, 3) := by decide +kernel
theorem dL_law_957 : decode code 957 = .ok (.aload_n 2, 1) := by decide +kernel
theorem dL_law_958 : decode code 958 = .ok (.aload_n 0, 1) := by decide +kernel
theorem dL_law_959 : decode code 959 = .ok (.iload_n 3, 1) := by decide +kernel
theorem dL_law_960 : decode code 960 = .ok (.iconst 1, 1) := by decide +kernel
theorem dL_law_961 : decode code 961 = .ok (.iadd, 1) := by decide +kernel
theorem dL_law_962 : decode code 962 = .ok (.iaload, 1) := by decide +kernel
theorem dL_law_963 : decode code 963 = .ok (.aload_n 0, 1) := by decide +kernel
theorem dL_law_964 : decode code 964 = .ok (.iload_n 3, 1) := by decide +kernel
theorem dL_law_965 : decode code 965 = .ok (.iconst 2, 1) := by decide +kernel
theorem dL_law_966 : decode code 966 = .ok (.iadd, 1) := by decide +kernel
theorem dL_law_967 : decode code 967 = .ok (.iaload, 1) := by decide +kernel
theorem dL_law_968 : decode code 968 = .ok (.invokevirtual 119, 3) := by decide +kernel
theorem dL_law_971 : decode code 971 = .ok (.if_icmp .eq 517, 3) := by decide +kernel
theorem dL_law_974 : decode code 974 = .ok (.iconst 0, 1) := by decide +kernel
theorem dL_law_975 : decode code 975 = .ok (.ireturn, 1) := by decide +kernel
theorem dL_law_976 : decode code 976 = .ok (.aload_n 1, 1) := by decide +kernel
theorem dL_law_977 : decode code 977 = .ok (.aload_n 0, 1) := by decide +kernel
theorem dL_law_978 : decode code 978 = .ok (.iload_n 3, 1) := by decide +kernel
theorem dL_law_979 : decode code 979 = .ok (.iconst 1, 1) := by decide +kernel
theorem dL_law_980 : decode code 980 = .ok (.iadd, 1) := by decide +kernel
theorem dL_law_981 : decode code 981 = .ok (.iaload, 1) := by decide +kernel
theorem dL_law_982 : decode code 982 = .ok (.aload_n 0, 1) := by decide +kernel
theorem dL_law_983 : decode code 983 = .ok (.iload_n 3, 1) := by decide +kernel
theorem dL_law_984 : decode code 984 = .ok (.iconst 2, 1) := by decide +kernel
theorem dL_law_985 : decode code 985 = .ok (.iadd, 1) := by decide +kernel
theorem dL_law_986 : decode code 986 = .ok (.iaload, 1) := by decide +kernel
theorem dL_law_987 : decode code 987 = .ok (.aload_n 0, 1) := by decide +kernel
theorem dL_law_988 : decode code 988 = .ok (.iload_n 3, 1) := by decide +kernel
theorem dL_law_989 : decode code 989 = .ok (.iconst 3, 1) := by decide +kernel
theorem dL_law_990 : decode code 990 = .ok (.iadd, 1) := by decide +kernel
theorem dL_law_991 : decode code 991 = .ok (.iaload, 1) := by decide +kernel
theorem dL_law_992 : decode code 992 = .ok (.invokevirtual 120, 3) := by decide +kernel
theorem dL_law_995 : decode code 995 = .ok (.aload_n 2, 1) := by decide +kernel
theorem dL_law_996 : decode code 996 = .ok (.aload_n 0, 1) := by decide +kernel
theorem dL_law_997 : decode code 997 = .ok (.iload_n 3, 1) := by decide +kernel
theorem dL_law_998 : decode code 998 = .ok (.iconst 1, 1) := by decide +kernel
theorem dL_law_999 : decode code 999 = .ok (.iadd, 1) := by decide +kernel
theorem dL_law_1000 : decode code 1000 = .ok (.iaload, 1) := by decide +kernel
theorem dL_law_1001 : decode code 1001 = .ok (.aload_n 0, 1) := by decide +kernel
theorem dL_law_1002 : decode code 1002 = .ok (.iload_n 3, 1) := by decide +kernel
theorem dL_law_1003 : decode code 1003 = .ok (.iconst 2, 1) := by decide +kernel
theorem dL_law_1004 : decode code 1004 = .ok (.iadd, 1) := by decide +kernel
theorem dL_law_1005 : decode code 1005 = .ok (.iaload, 1) := by decide +kernel
theorem dL_law_1006 : decode code 1006 = .ok (.aload_n 0, 1) := by decide +kernel
theorem dL_law_1007 : decode code 1007 = .ok (.iload_n 3, 1) := by decide +kernel
theorem dL_law_1008 : decode code 1008 = .ok (.iconst 3, 1) := by decide +kernel
theorem dL_law_1009 : decode code 1009 = .ok (.iadd, 1) := by decide +kernel
theorem dL_law_1010 : decode code 1010 = .ok (.iaload, 1) := by decide +kernel
theorem dL_law_1011 : decode code 1011 = .ok (.invokevirtual 123, 3) := by decide +kernel
theorem dL_law_1014 : decode code 1014 = .ok (.if_icmp .eq 474, 3) := by decide +kernel
theorem dL_law_1017 : decode code 1017 = .ok (.iconst 0, 1) := by decide +kernel
theorem dL_law_1018 : decode code 1018 = .ok (.ireturn, 1) := by decide +kernel
theorem dL_law_1019 : decode code 1019 = .ok (.aload_n 1, 1) := by decide +kernel
theorem dL_law_1020 : decode code 1020 = .ok (.aload_n 0, 1) := by decide +kernel
theorem dL_law_1021 : decode code 1021 = .ok (.iload_n 3, 1) := by decide +kernel
theorem dL_law_1022 : decode code 1022 = .ok (.iconst 1, 1) := by decide +kernel
theorem dL_law_1023 : decode code 1023 = .ok (.iadd, 1) := by decide +kernel
theorem dL_law_1024 : decode code 1024 = .ok (.iaload, 1) := by decide +kernel
theorem dL_law_1025 : decode code 1025 = .ok (.aload_n 0, 1) := by decide +kernel
theorem dL_law_1026 : decode code 1026 = .ok (.iload_n 3, 1) := by decide +kernel
theorem dL_law_1027 : decode code 1027 = .ok (.iconst 2, 1) := by decide +kernel
theorem dL_law_1028 : decode code 1028 = .ok (.iadd, 1) := by decide +kernel
theorem dL_law_1029 : decode code 1029 = .ok (.iaload, 1) := by decide +kernel
theorem dL_law_1030 : decode code 1030 = .ok (.ifCond .eq 7, 3) := by decide +kernel
theorem dL_law_1033 : decode code 1033 = .ok (.iconst 1, 1) := by decide +kernel
theorem dL_law_1034 : decode code 1034 = .ok (.goto 4, 3) := by decide +kernel
theorem dL_law_1037 : decode code 1037 = .ok (.iconst 0, 1) := by decide +kernel
theorem dL_law_1038 : decode code 1038 = .ok (.invokevirtual 124, 3) := by decide +kernel
theorem dL_law_1041 : decode code 1041 = .ok (.aload_n 2, 1) := by decide +kernel
theorem dL_law_1042 : decode code 1042 = .ok (.aload_n 0, 1) := by decide +kernel
theorem dL_law_1043 : decode code 1043 = .ok (.iload_n 3, 1) := by decide +kernel
theorem dL_law_1044 : decode code 1044 = .ok (.iconst 1, 1) := by decide +kernel
theorem dL_law_1045 : decode code 1045 = .ok (.iadd, 1) := by decide +kernel
theorem dL_law_1046 : decode code 1046 = .ok (.iaload, 1) := by decide +kernel
theorem dL_law_1047 : decode code 1047 = .ok (.aload_n 0, 1) := by decide +kernel
theorem dL_law_1048 : decode code 1048 = .ok (.iload_n 3, 1) := by decide +kernel
theorem dL_law_1049 : decode code 1049 = .ok (.iconst 2, 1) := by decide +kernel
theorem dL_law_1050 : decode code 1050 = .ok (.iadd, 1) := by decide +kernel
theorem dL_law_1051 : decode code 1051 = .ok (.iaload, 1) := by decide +kernel
theorem dL_law_1052 : decode code 1052 = .ok (.ifCond .eq 7, 3) := by decide +kernel
theorem dL_law_1055 : decode code 1055 = .ok (.iconst 1, 1) := by decide +kernel
theorem dL_law_1056 : decode code 1056 = .ok (.goto 4, 3) := by decide +kernel
theorem dL_law_1059 : decode code 1059 = .ok (.iconst 0, 1) := by decide +kernel
theorem dL_law_1060 : decode code 1060 = .ok (.invokevirtual 127, 3) := by decide +kernel
theorem dL_law_1063 : decode code 1063 = .ok (.if_icmp .eq 425, 3) := by decide +kernel
theorem dL_law_1066 : decode code 1066 = .ok (.iconst 0, 1) := by decide +kernel
theorem dL_law_1067 : decode code 1067 = .ok (.ireturn, 1) := by decide +kernel
theorem dL_law_1068 : decode code 1068 = .ok (.aload_n 1, 1) := by decide +kernel
theorem dL_law_1069 : decode code 1069 = .ok (.aload_n 0, 1) := by decide +kernel
theorem dL_law_1070 : decode code 1070 = .ok (.iload_n 3, 1) := by decide +kernel
theorem dL_law_1071 : decode code 1071 = .ok (.iconst 1, 1) := by decide +kernel
theorem dL_law_1072 : decode code 1072 = .ok (.iadd, 1) := by decide +kernel
theorem dL_law_1073 : decode code 1073 = .ok (.iaload, 1) := by decide +kernel
theorem dL_law_1074 : decode code 1074 = .ok (.aload_n 0, 1) := by decide +kernel
theorem dL_law_1075 : decode code 1075 = .ok (.iload_n 3, 1) := by decide +kernel
theorem dL_law_1076 : decode code 1076 = .ok (.iconst 2, 1) := by decide +kernel
theorem dL_law_1077 : decode code 1077 = .ok (.iadd, 1) := by decide +kernel
theorem dL_law_1078 : decode code 1078 = .ok (.iaload, 1) := by decide +kernel
theorem dL_law_1079 : decode code 1079 = .ok (.aload_n 0, 1) := by decide +kernel
theorem dL_law_1080 : decode code 1080 = .ok (.iload_n 3, 1) := by decide +kernel
theorem dL_law_1081 : decode code 1081 = .ok (.iconst 3, 1) := by decide +kernel
theorem dL_law_1082 : decode code 1082 = .ok (.iadd, 1) := by decide +kernel
theorem dL_law_1083 : decode code 1083 = .ok (.iaload, 1) := by decide +kernel
theorem dL_law_1084 : decode code 1084 = .ok (.aload_n 0, 1) := by decide +kernel
theorem dL_law_1085 : decode code 1085 = .ok (.iload_n 3, 1) := by decide +kernel
theorem dL_law_1086 : decode code 1086 = .ok (.iconst 4, 1) := by decide +kernel
theorem dL_law_1087 : decode code 1087 = .ok (.iadd, 1) := by decide +kernel
theorem dL_law_1088 : decode code 1088 = .ok (.iaload, 1) := by decide +kernel
theorem dL_law_1089 : decode code 1089 = .ok (.aload_n 0, 1) := by decide +kernel
theorem dL_law_1090 : decode code 1090 = .ok (.iload_n 3, 1) := by decide +kernel
theorem dL_law_1091 : decode code 1091 = .ok (.iconst 5, 1) := by decide +kernel
theorem dL_law_1092 : decode code 1092 = .ok (.iadd, 1) := by decide +kernel
theorem dL_law_1093 : decode code 1093 = .ok (.iaload, 1) := by decide +kernel
theorem dL_law_1094 : decode code 1094 = .ok (.aload_n 0, 1) := by decide +kernel
theorem dL_law_1095 : decode code 1095 = .ok (.iload_n 3, 1) := by decide +kernel
theorem dL_law_1096 : decode code 1096 = .ok (.bipush 6, 2) := by decide +kernel
theorem dL_law_1098 : decode code 1098 = .ok (.iadd, 1) := by decide +kernel
theorem dL_law_1099 : decode code 1099 = .ok (.iaload, 1) := by decide +kernel
theorem dL_law_1100 : decode code 1100 = .ok (.invokevirtual 128, 3) := by decide +kernel
theorem dL_law_1103 : decode code 1103 = .ok (.aload_n 2, 1) := by decide +kernel
theorem dL_law_1104 : decode code 1104 = .ok (.aload_n 0, 1) := by decide +kernel
theorem dL_law_1105 : decode code 1105 = .ok (.iload_n 3, 1) := by decide +kernel
theorem dL_law_1106 : decode code 1106 = .ok (.iconst 1, 1) := by decide +kernel
theorem dL_law_1107 : decode code 1107 = .ok (.iadd, 1) := by decide +kernel
theorem dL_law_1108 : decode code 1108 = .ok (.iaload, 1) := by decide +kernel
theorem dL_law_1109 : decode code 1109 = .ok (.aload_n 0, 1) := by decide +kernel
theorem dL_law_1110 : decode code 1110 = .ok (.iload_n 3, 1) := by decide +kernel
theorem dL_law_1111 : decode code 1111 = .ok (.iconst 2, 1) := by decide +kernel
theorem dL_law_1112 : decode code 1112 = .ok (.iadd, 1) := by decide +kernel
theorem dL_law_1113 : decode code 1113 = .ok (.iaload, 1) := by decide +kernel
theorem dL_law_1114 : decode code 1114 = .ok (.aload_n 0, 1) := by decide +kernel
theorem dL_law_1115 : decode code 1115 = .ok (.iload_n 3, 1) := by decide +kernel
theorem dL_law_1116 : decode code 1116 = .ok (.iconst 3, 1) := by decide +kernel
theorem dL_law_1117 : decode code 1117 = .ok (.iadd, 1) := by decide +kernel
theorem dL_law_1118 : decode code 1118 = .ok (.iaload, 1) := by decide +kernel
theorem dL_law_1119 : decode code 1119 = .ok (.aload_n 0, 1) := by decide +kernel
theorem dL_law_1120 : decode code 1120 = .ok (.iload_n 3, 1) := by decide +kernel
theorem dL_law_1121 : decode code 1121 = .ok (.iconst 4, 1) := by decide +kernel
theorem dL_law_1122 : decode code 1122 = .ok (.iadd, 1) := by decide +kernel
theorem dL_law_1123 : decode code 1123 = .ok (.iaload, 1) := by decide +kernel
theorem dL_law_1124 : decode code 1124 = .ok (.aload_n 0, 1) := by decide +kernel
theorem dL_law_1125 : decode code 1125 = .ok (.iload_n 3, 1) := by decide +kernel
theorem dL_law_1126 : decode code 1126 = .ok (.iconst 5, 1) := by decide +kernel
theorem dL_law_1127 : decode code 1127 = .ok (.iadd, 1) := by decide +kernel
theorem dL_law_1128 : decode code 1128 = .ok (.iaload, 1) := by decide +kernel
theorem dL_law_1129 : decode code 1129 = .ok (.aload_n 0, 1) := by decide +kernel
theorem dL_law_1130 : decode code 1130 = .ok (.iload_n 3, 1) := by decide +kernel
theorem dL_law_1131 : decode code 1131 = .ok (.bipush 6, 2) := by decide +kernel
theorem dL_law_1133 : decode code 1133 = .ok (.iadd, 1) := by decide +kernel
theorem dL_law_1134 : decode code 1134 = .ok (.iaload, 1) := by decide +kernel
theorem dL_law_1135 : decode code 1135 = .ok (.invokevirtual 132, 3) := by decide +kernel
theorem dL_law_1138 : decode code 1138 = .ok (.if_icmp .eq 350, 3) := by decide +kernel
theorem dL_law_1141 : decode code 1141 = .ok (.iconst 0, 1) := by decide +kernel
theorem dL_law_1142 : decode code 1142 = .ok (.ireturn, 1) := by decide +kernel
theorem dL_law_1143 : decode code 1143 = .ok (.aload_n 1, 1) := by decide +kernel
theorem dL_law_1144 : decode code 1144 = .ok (.aload_n 0, 1) := by decide +kernel
theorem dL_law_1145 : decode code 1145 = .ok (.iload_n 3, 1) := by decide +kernel
theorem dL_law_1146 : decode code 1146 = .ok (.iconst 1, 1) := by decide +kernel
theorem dL_law_1147 : decode code 1147 = .ok (.iadd, 1) := by decide +kernel
theorem dL_law_1148 : decode code 1148 = .ok (.iaload, 1) := by decide +kernel
theorem dL_law_1149 : decode code 1149 = .ok (.aload_n 0, 1) := by decide +kernel
theorem dL_law_1150 : decode code 1150 = .ok (.iload_n 3, 1) := by decide +kernel
theorem dL_law_1151 : decode code 1151 = .ok (.iconst 2, 1) := by decide +kernel
theorem dL_law_1152 : decode code 1152 = .ok (.iadd, 1) := by decide +kernel
theorem dL_law_1153 : decode code 1153 = .ok (.iaload, 1) := by decide +kernel
theorem dL_law_1154 : decode code 1154 = .ok (.invokevirtual 133, 3) := by decide +kernel
theorem dL_law_1157 : decode code 1157 = .ok (.aload_n 2, 1) := by decide +kernel
theorem dL_law_1158 : decode code 1158 = .ok (.aload_n 0, 1) := by decide +kernel
theorem dL_law_1159 : decode code 1159 = .ok (.iload_n 3, 1) := by decide +kernel
theorem dL_law_1160 : decode code 1160 = .ok (.iconst 1, 1) := by decide +kernel
theorem dL_law_1161 : decode code 1161 = .ok (.iadd, 1) := by decide +kernel
theorem dL_law_1162 : decode code 1162 = .ok (.iaload, 1) := by decide +kernel
theorem dL_law_1163 : decode code 1163 = .ok (.aload_n 0, 1) := by decide +kernel
theorem dL_law_1164 : decode code 1164 = .ok (.iload_n 3, 1) := by decide +kernel
theorem dL_law_1165 : decode code 1165 = .ok (.iconst 2, 1) := by decide +kernel
theorem dL_law_1166 : decode code 1166 = .ok (.iadd, 1) := by decide +kernel
theorem dL_law_1167 : decode code 1167 = .ok (.iaload, 1) := by decide +kernel
theorem dL_law_1168 : decode code 1168 = .ok (.invokevirtual 136, 3) := by decide +kernel
theorem dL_law_1171 : decode code 1171 = .ok (.if_icmp .eq 317, 3) := by decide +kernel
theorem dL_law_1174 : decode code 1174 = .ok (.iconst 0, 1) := by decide +kernel
theorem dL_law_1175 : decode code 1175 = .ok (.ireturn, 1) := by decide +kernel
theorem dL_law_1176 : decode code 1176 = .ok (.aload_n 1, 1) := by decide +kernel
theorem dL_law_1177 : decode code 1177 = .ok (.aload_n 0, 1) := by decide +kernel
theorem dL_law_1178 : decode code 1178 = .ok (.iload_n 3, 1) := by decide +kernel
theorem dL_law_1179 : decode code 1179 = .ok (.iconst 1, 1) := by decide +kernel
theorem dL_law_1180 : decode code 1180 = .ok (.iadd, 1) := by decide +kernel
theorem dL_law_1181 : decode code 1181 = .ok (.iaload, 1) := by decide +kernel
theorem dL_law_1182 : decode code 1182 = .ok (.aload_n 0, 1) := by decide +kernel
theorem dL_law_1183 : decode code 1183 = .ok (.iload_n 3, 1) := by decide +kernel
theorem dL_law_1184 : decode code 1184 = .ok (.iconst 2, 1) := by decide +kernel
theorem dL_law_1185 : decode code 1185 = .ok (.iadd, 1) := by decide +kernel
theorem dL_law_1186 : decode code 1186 = .ok (.iaload, 1) := by decide +kernel
theorem dL_law_1187 : decode code 1187 = .ok (.invokevirtual 137, 3) := by decide +kernel
theorem dL_law_1190 : decode code 1190 = .ok (.aload_n 2, 1) := by decide +kernel
theorem dL_law_1191 : decode code 1191 = .ok (.aload_n 0, 1) := by decide +kernel
theorem dL_law_1192 : decode code 1192 = .ok (.iload_n 3, 1) := by decide +kernel
theorem dL_law_1193 : decode code 1193 = .ok (.iconst 1, 1) := by decide +kernel
theorem dL_law_1194 : decode code 1194 = .ok (.iadd, 1) := by decide +kernel
theorem dL_law_1195 : decode code 1195 = .ok (.iaload, 1) := by decide +kernel
theorem dL_law_1196 : decode code 1196 = .ok (.aload_n 0, 1) := by decide +kernel
theorem dL_law_1197 : decode code 1197 = .ok (.iload_n 3, 1) := by decide +kernel
theorem dL_law_1198 : decode code 1198 = .ok (.iconst 2, 1) := by decide +kernel
theorem dL_law_1199 : decode code 1199 = .ok (.iadd, 1) := by decide +kernel
theorem dL_law_1200 : decode code 1200 = .ok (.iaload, 1) := by decide +kernel
theorem dL_law_1201 : decode code 1201 = .ok (.invokevirtual 140, 3) := by decide +kernel
theorem dL_law_1204 : decode code 1204 = .ok (.if_icmp .eq 284, 3) := by decide +kernel
theorem dL_law_1207 : decode code 1207 = .ok (.iconst 0, 1) := by decide +kernel
theorem dL_law_1208 : decode code 1208 = .ok (.ireturn, 1) := by decide +kernel
theorem dL_law_1209 : decode code 1209 = .ok (.aload_n 1, 1) := by decide +kernel
theorem dL_law_1210 : decode code 1210 = .ok (.aload_n 0, 1) := by decide +kernel
theorem dL_law_1211 : decode code 1211 = .ok (.iload_n 3, 1) := by decide +kernel
theorem dL_law_1212 : decode code 1212 = .ok (.iconst 1, 1) := by decide +kernel
theorem dL_law_1213 : decode code 1213 = .ok (.iadd, 1) := by decide +kernel
theorem dL_law_1214 : decode code 1214 = .ok (.iaload, 1) := by decide +kernel
theorem dL_law_1215 : decode code 1215 = .ok (.invokevirtual 141, 3) := by decide +kernel
theorem dL_law_1218 : decode code 1218 = .ok (.aload_n 2, 1) := by decide +kernel
theorem dL_law_1219 : decode code 1219 = .ok (.aload_n 0, 1) := by decide +kernel
theorem dL_law_1220 : decode code 1220 = .ok (.iload_n 3, 1) := by decide +kernel
theorem dL_law_1221 : decode code 1221 = .ok (.iconst 1, 1) := by decide +kernel
theorem dL_law_1222 : decode code 1222 = .ok (.iadd, 1) := by decide +kernel
theorem dL_law_1223 : decode code 1223 = .ok (.iaload, 1) := by decide +kernel
theorem dL_law_1224 : decode code 1224 = .ok (.invokevirtual 144, 3) := by decide +kernel
theorem dL_law_1227 : decode code 1227 = .ok (.if_icmp .eq 261, 3) := by decide +kernel
theorem dL_law_1230 : decode code 1230 = .ok (.iconst 0, 1) := by decide +kernel
theorem dL_law_1231 : decode code 1231 = .ok (.ireturn, 1) := by decide +kernel
theorem dL_law_1232 : decode code 1232 = .ok (.aload_n 1, 1) := by decide +kernel
theorem dL_law_1233 : decode code 1233 = .ok (.aload_n 0, 1) := by decide +kernel
theorem dL_law_1234 : decode code 1234 = .ok (.iload_n 3, 1) := by decide +kernel
theorem dL_law_1235 : decode code 1235 = .ok (.iconst 1, 1) := by decide +kernel
theorem dL_law_1236 : decode code 1236 = .ok (.iadd, 1) := by decide +kernel
theorem dL_law_1237 : decode code 1237 = .ok (.iaload, 1) := by decide +kernel
theorem dL_law_1238 : decode code 1238 = .ok (.aload_n 0, 1) := by decide +kernel
theorem dL_law_1239 : decode code 1239 = .ok (.iload_n 3, 1) := by decide +kernel
theorem dL_law_1240 : decode code 1240 = .ok (.iconst 2, 1) := by decide +kernel
theorem dL_law_1241 : decode code 1241 = .ok (.iadd, 1) := by decide +kernel
theorem dL_law_1242 : decode code 1242 = .ok (.iaload, 1) := by decide +kernel
theorem dL_law_1243 : decode code 1243 = .ok (.invokevirtual 145, 3) := by decide +kernel
theorem dL_law_1246 : decode code 1246 = .ok (.aload_n 2, 1) := by decide +kernel
theorem dL_law_1247 : decode code 1247 = .ok (.aload_n 0, 1) := by decide +kernel
theorem dL_law_1248 : decode code 1248 = .ok (.iload_n 3, 1) := by decide +kernel
theorem dL_law_1249 : decode code 1249 = .ok (.iconst 1, 1) := by decide +kernel
theorem dL_law_1250 : decode code 1250 = .ok (.iadd, 1) := by decide +kernel
theorem dL_law_1251 : decode code 1251 = .ok (.iaload, 1) := by decide +kernel
theorem dL_law_1252 : decode code 1252 = .ok (.aload_n 0, 1) := by decide +kernel
theorem dL_law_1253 : decode code 1253 = .ok (.iload_n 3, 1) := by decide +kernel
theorem dL_law_1254 : decode code 1254 = .ok (.iconst 2, 1) := by decide +kernel
theorem dL_law_1255 : decode code 1255 = .ok (.iadd, 1) := by decide +kernel
theorem dL_law_1256 : decode code 1256 = .ok (.iaload, 1) := by decide +kernel
theorem dL_law_1257 : decode code 1257 = .ok (.invokevirtual 148, 3) := by decide +kernel
theorem dL_law_1260 : decode code 1260 = .ok (.if_icmp .eq 228, 3) := by decide +kernel
theorem dL_law_1263 : decode code 1263 = .ok (.iconst 0, 1) := by decide +kernel
theorem dL_law_1264 : decode code 1264 = .ok (.ireturn, 1) := by decide +kernel
theorem dL_law_1265 : decode code 1265 = .ok (.aload_n 1, 1) := by decide +kernel
theorem dL_law_1266 : decode code 1266 = .ok (.aload_n 0, 1) := by decide +kernel
theorem dL_law_1267 : decode code 1267 = .ok (.iload_n 3, 1) := by decide +kernel
theorem dL_law_1268 : decode code 1268 = .ok (.iconst 1, 1) := by decide +kernel
theorem dL_law_1269 : decode code 1269 = .ok (.iadd, 1) := by decide +kernel
theorem dL_law_1270 : decode code 1270 = .ok (.iaload, 1) := by decide +kernel
theorem dL_law_1271 : decode code 1271 = .ok (.invokevirtual 149, 3) := by decide +kernel
theorem dL_law_1274 : decode code 1274 = .ok (.aload_n 2, 1) := by decide +kernel
theorem dL_law_1275 : decode code 1275 = .ok (.aload_n 0, 1) := by decide +kernel
theorem dL_law_1276 : decode code 1276 = .ok (.iload_n 3, 1) := by decide +kernel
theorem dL_law_1277 : decode code 1277 = .ok (.iconst 1, 1) := by decide +kernel
theorem dL_law_1278 : decode code 1278 = .ok (.iadd, 1) := by decide +kernel
theorem dL_law_1279 : decode code 1279 = .ok (.iaload, 1) := by decide +kernel
theorem dL_law_1280 : decode code 1280 = .ok (.invokevirtual 152, 3) := by decide +kernel
theorem dL_law_1283 : decode code 1283 = .ok (.if_icmp .eq 205, 3) := by decide +kernel
theorem dL_law_1286 : decode code 1286 = .ok (.iconst 0, 1) := by decide +kernel
theorem dL_law_1287 : decode code 1287 = .ok (.ireturn, 1) := by decide +kernel
theorem dL_law_1288 : decode code 1288 = .ok (.aload_n 1, 1) := by decide +kernel
theorem dL_law_1289 : decode code 1289 = .ok (.aload_n 0, 1) := by decide +kernel
theorem dL_law_1290 : decode code 1290 = .ok (.iload_n 3, 1) := by decide +kernel
theorem dL_law_1291 : decode code 1291 = .ok (.iconst 1, 1) := by decide +kernel
theorem dL_law_1292 : decode code 1292 = .ok (.iadd, 1) := by decide +kernel
theorem dL_law_1293 : decode code 1293 = .ok (.iaload, 1) := by decide +kernel
theorem dL_law_1294 : decode code 1294 = .ok (.aload_n 0, 1) := by decide +kernel
theorem dL_law_1295 : decode code 1295 = .ok (.iload_n 3, 1) := by decide +kernel
theorem dL_law_1296 : decode code 1296 = .ok (.iconst 2, 1) := by decide +kernel
theorem dL_law_1297 : decode code 1297 = .ok (.iadd, 1) := by decide +kernel
theorem dL_law_1298 : decode code 1298 = .ok (.iaload, 1) := by decide +kernel
theorem dL_law_1299 : decode code 1299 = .ok (.invokevirtual 153, 3) := by decide +kernel
theorem dL_law_1302 : decode code 1302 = .ok (.aload_n 2, 1) := by decide +kernel
theorem dL_law_1303 : decode code 1303 = .ok (.aload_n 0, 1) := by decide +kernel
theorem dL_law_1304 : decode code 1304 = .ok (.iload_n 3, 1) := by decide +kernel
theorem dL_law_1305 : decode code 1305 = .ok (.iconst 1, 1) := by decide +kernel
theorem dL_law_1306 : decode code 1306 = .ok (.iadd, 1) := by decide +kernel
theorem dL_law_1307 : decode code 1307 = .ok (.iaload, 1) := by decide +kernel
theorem dL_law_1308 : decode code 1308 = .ok (.aload_n 0, 1) := by decide +kernel
theorem dL_law_1309 : decode code 1309 = .ok (.iload_n 3, 1) := by decide +kernel
theorem dL_law_1310 : decode code 1310 = .ok (.iconst 2, 1) := by decide +kernel
theorem dL_law_1311 : decode code 1311 = .ok (.iadd, 1) := by decide +kernel
theorem dL_law_1312 : decode code 1312 = .ok (.iaload, 1) := by decide +kernel
theorem dL_law_1313 : decode code 1313 = .ok (.invokevirtual 156, 3) := by decide +kernel
theorem dL_law_1316 : decode code 1316 = .ok (.if_icmp .eq 172, 3) := by decide +kernel
theorem dL_law_1319 : decode code 1319 = .ok (.iconst 0, 1) := by decide +kernel
theorem dL_law_1320 : decode code 1320 = .ok (.ireturn, 1) := by decide +kernel
theorem dL_law_1321 : decode code 1321 = .ok (.aload_n 1, 1) := by decide +kernel
theorem dL_law_1322 : decode code 1322 = .ok (.aload_n 0, 1) := by decide +kernel
theorem dL_law_1323 : decode code 1323 = .ok (.iload_n 3, 1) := by decide +kernel
theorem dL_law_1324 : decode code 1324 = .ok (.iconst 1, 1) := by decide +kernel
theorem dL_law_1325 : decode code 1325 = .ok (.iadd, 1) := by decide +kernel
theorem dL_law_1326 : decode code 1326 = .ok (.iaload, 1) := by decide +kernel
theorem dL_law_1327 : decode code 1327 = .ok (.invokevirtual 157, 3) := by decide +kernel
theorem dL_law_1330 : decode code 1330 = .ok (.aload_n 2, 1) := by decide +kernel
theorem dL_law_1331 : decode code 1331 = .ok (.aload_n 0, 1) := by decide +kernel
theorem dL_law_1332 : decode code 1332 = .ok (.iload_n 3, 1) := by decide +kernel
theorem dL_law_1333 : decode code 1333 = .ok (.iconst 1, 1) := by decide +kernel
theorem dL_law_1334 : decode code 1334 = .ok (.iadd, 1) := by decide +kernel
theorem dL_law_1335 : decode code 1335 = .ok (.iaload, 1) := by decide +kernel
theorem dL_law_1336 : decode code 1336 = .ok (.invokevirtual 160, 3) := by decide +kernel
theorem dL_law_1339 : decode code 1339 = .ok (.if_icmp .eq 149, 3) := by decide +kernel
theorem dL_law_1342 : decode code 1342 = .ok (.iconst 0, 1) := by decide +kernel
theorem dL_law_1343 : decode code 1343 = .ok (.ireturn, 1) := by decide +kernel
theorem dL_law_1344 : decode code 1344 = .ok (.aload_n 1, 1) := by decide +kernel
theorem dL_law_1345 : decode code 1345 = .ok (.aload_n 0, 1) := by decide +kernel
theorem dL_law_1346 : decode code 1346 = .ok (.iload_n 3, 1) := by decide +kernel
theorem dL_law_1347 : decode code 1347 = .ok (.iconst 1, 1) := by decide +kernel
theorem dL_law_1348 : decode code 1348 = .ok (.iadd, 1) := by decide +kernel
theorem dL_law_1349 : decode code 1349 = .ok (.iaload, 1) := by decide +kernel
theorem dL_law_1350 : decode code 1350 = .ok (.aload_n 0, 1) := by decide +kernel
theorem dL_law_1351 : decode code 1351 = .ok (.iload_n 3, 1) := by decide +kernel
theorem dL_law_1352 : decode code 1352 = .ok (.iconst 2, 1) := by decide +kernel
theorem dL_law_1353 : decode code 1353 = .ok (.iadd, 1) := by decide +kernel
theorem dL_law_1354 : decode code 1354 = .ok (.iaload, 1) := by decide +kernel
theorem dL_law_1355 : decode code 1355 = .ok (.invokevirtual 161, 3) := by decide +kernel
theorem dL_law_1358 : decode code 1358 = .ok (.aload_n 2, 1) := by decide +kernel
theorem dL_law_1359 : decode code 1359 = .ok (.aload_n 0, 1) := by decide +kernel
theorem dL_law_1360 : decode code 1360 = .ok (.iload_n 3, 1) := by decide +kernel
theorem dL_law_1361 : decode code 1361 = .ok (.iconst 1, 1) := by decide +kernel
theorem dL_law_1362 : decode code 1362 = .ok (.iadd, 1) := by decide +kernel
theorem dL_law_1363 : decode code 1363 = .ok (.iaload, 1) := by decide +kernel
theorem dL_law_1364 : decode code 1364 = .ok (.aload_n 0, 1) := by decide +kernel
theorem dL_law_1365 : decode code 1365 = .ok (.iload_n 3, 1) := by decide +kernel
theorem dL_law_1366 : decode code 1366 = .ok (.iconst 2, 1) := by decide +kernel
theorem dL_law_1367 : decode code 1367 = .ok (.iadd, 1) := by decide +kernel
theorem dL_law_1368 : decode code 1368 = .ok (.iaload, 1) := by decide +kernel
theorem dL_law_1369 : decode code 1369 = .ok (.invokevirtual 165, 3) := by decide +kernel
theorem dL_law_1372 : decode code 1372 = .ok (.lcmp, 1) := by decide +kernel
theorem dL_law_1373 : decode code 1373 = .ok (.ifCond .eq 115, 3) := by decide +kernel
theorem dL_law_1376 : decode code 1376 = .ok (.iconst 0, 1) := by decide +kernel
theorem dL_law_1377 : decode code 1377 = .ok (.ireturn, 1) := by decide +kernel
theorem dL_law_1378 : decode code 1378 = .ok (.aload_n 1, 1) := by decide +kernel
theorem dL_law_1379 : decode code 1379 = .ok (.aload_n 0, 1) := by decide +kernel
theorem dL_law_1380 : decode code 1380 = .ok (.iload_n 3, 1) := by decide +kernel
theorem dL_law_1381 : decode code 1381 = .ok (.iconst 1, 1) := by decide +kernel
theorem dL_law_1382 : decode code 1382 = .ok (.iadd, 1) := by decide +kernel
theorem dL_law_1383 : decode code 1383 = .ok (.iaload, 1) := by decide +kernel
theorem dL_law_1384 : decode code 1384 = .ok (.aload_n 0, 1) := by decide +kernel
theorem dL_law_1385 : decode code 1385 = .ok (.iload_n 3, 1) := by decide +kernel
theorem dL_law_1386 : decode code 1386 = .ok (.iconst 2, 1) := by decide +kernel
theorem dL_law_1387 : decode code 1387 = .ok (.iadd, 1) := by decide +kernel
theorem dL_law_1388 : decode code 1388 = .ok (.iaload, 1) := by decide +kernel
theorem dL_law_1389 : decode code 1389 = .ok (.aload_n 0, 1) := by decide +kernel
theorem dL_law_1390 : decode code 1390 = .ok (.iload_n 3, 1) := by decide +kernel
theorem dL_law_1391 : decode code 1391 = .ok (.iconst 3, 1) := by decide +kernel
theorem dL_law_1392 : decode code 1392 = .ok (.iadd, 1) := by decide +kernel
theorem dL_law_1393 : decode code 1393 = .ok (.iaload, 1) := by decide +kernel
theorem dL_law_1394 : decode code 1394 = .ok (.aload_n 0, 1) := by decide +kernel
theorem dL_law_1395 : decode code 1395 = .ok (.iload_n 3, 1) := by decide +kernel
theorem dL_law_1396 : decode code 1396 = .ok (.iconst 4, 1) := by decide +kernel
theorem dL_law_1397 : decode code 1397 = .ok (.iadd, 1) := by decide +kernel
theorem dL_law_1398 : decode code 1398 = .ok (.iaload, 1) := by decide +kernel
theorem dL_law_1399 : decode code 1399 = .ok (.invokevirtual 166, 3) := by decide +kernel
theorem dL_law_1402 : decode code 1402 = .ok (.aload_n 2, 1) := by decide +kernel
theorem dL_law_1403 : decode code 1403 = .ok (.aload_n 0, 1) := by decide +kernel
theorem dL_law_1404 : decode code 1404 = .ok (.iload_n 3, 1) := by decide +kernel
theorem dL_law_1405 : decode code 1405 = .ok (.iconst 1, 1) := by decide +kernel
theorem dL_law_1406 : decode code 1406 = .ok (.iadd, 1) := by decide +kernel
theorem dL_law_1407 : decode code 1407 = .ok (.iaload, 1) := by decide +kernel
theorem dL_law_1408 : decode code 1408 = .ok (.aload_n 0, 1) := by decide +kernel
theorem dL_law_1409 : decode code 1409 = .ok (.iload_n 3, 1) := by decide +kernel
theorem dL_law_1410 : decode code 1410 = .ok (.iconst 2, 1) := by decide +kernel
theorem dL_law_1411 : decode code 1411 = .ok (.iadd, 1) := by decide +kernel
theorem dL_law_1412 : decode code 1412 = .ok (.iaload, 1) := by decide +kernel
theorem dL_law_1413 : decode code 1413 = .ok (.aload_n 0, 1) := by decide +kernel
theorem dL_law_1414 : decode code 1414 = .ok (.iload_n 3, 1) := by decide +kernel
theorem dL_law_1415 : decode code 1415 = .ok (.iconst 3, 1) := by decide +kernel
theorem dL_law_1416 : decode code 1416 = .ok (.iadd, 1) := by decide +kernel
theorem dL_law_1417 : decode code 1417 = .ok (.iaload, 1) := by decide +kernel
theorem dL_law_1418 : decode code 1418 = .ok (.aload_n 0, 1) := by decide +kernel
theorem dL_law_1419 : decode code 1419 = .ok (.iload_n 3, 1) := by decide +kernel
theorem dL_law_1420 : decode code 1420 = .ok (.iconst 4, 1) := by decide +kernel
theorem dL_law_1421 : decode code 1421 = .ok (.iadd, 1) := by decide +kernel
theorem dL_law_1422 : decode code 1422 = .ok (.iaload, 1) := by decide +kernel
theorem dL_law_1423 : decode code 1423 = .ok (.invokevirtual 169, 3) := by decide +kernel
theorem dL_law_1426 : decode code 1426 = .ok (.if_icmp .eq 62, 3) := by decide +kernel
theorem dL_law_1429 : decode code 1429 = .ok (.iconst 0, 1) := by decide +kernel
theorem dL_law_1430 : decode code 1430 = .ok (.ireturn, 1) := by decide +kernel
theorem dL_law_1431 : decode code 1431 = .ok (.aload_n 1, 1) := by decide +kernel
theorem dL_law_1432 : decode code 1432 = .ok (.aload_n 0, 1) := by decide +kernel
theorem dL_law_1433 : decode code 1433 = .ok (.iload_n 3, 1) := by decide +kernel
theorem dL_law_1434 : decode code 1434 = .ok (.iconst 1, 1) := by decide +kernel
theorem dL_law_1435 : decode code 1435 = .ok (.iadd, 1) := by decide +kernel
theorem dL_law_1436 : decode code 1436 = .ok (.iaload, 1) := by decide +kernel
theorem dL_law_1437 : decode code 1437 = .ok (.aload_n 0, 1) := by decide +kernel
theorem dL_law_1438 : decode code 1438 = .ok (.iload_n 3, 1) := by decide +kernel
theorem dL_law_1439 : decode code 1439 = .ok (.iconst 2, 1) := by decide +kernel
theorem dL_law_1440 : decode code 1440 = .ok (.iadd, 1) := by decide +kernel
theorem dL_law_1441 : decode code 1441 = .ok (.iaload, 1) := by decide +kernel
theorem dL_law_1442 : decode code 1442 = .ok (.invokevirtual 170, 3) := by decide +kernel
theorem dL_law_1445 : decode code 1445 = .ok (.aload_n 2, 1) := by decide +kernel
theorem dL_law_1446 : decode code 1446 = .ok (.aload_n 0, 1) := by decide +kernel
theorem dL_law_1447 : decode code 1447 = .ok (.iload_n 3, 1) := by decide +kernel
theorem dL_law_1448 : decode code 1448 = .ok (.iconst 1, 1) := by decide +kernel
theorem dL_law_1449 : decode code 1449 = .ok (.iadd, 1) := by decide +kernel
theorem dL_law_1450 : decode code 1450 = .ok (.iaload, 1) := by decide +kernel
theorem dL_law_1451 : decode code 1451 = .ok (.aload_n 0, 1) := by decide +kernel
theorem dL_law_1452 : decode code 1452 = .ok (.iload_n 3, 1) := by decide +kernel
theorem dL_law_1453 : decode code 1453 = .ok (.iconst 2, 1) := by decide +kernel
theorem dL_law_1454 : decode code 1454 = .ok (.iadd, 1) := by decide +kernel
theorem dL_law_1455 : decode code 1455 = .ok (.iaload, 1) := by decide +kernel
theorem dL_law_1456 : decode code 1456 = .ok (.invokevirtual 173, 3) := by decide +kernel
theorem dL_law_1459 : decode code 1459 = .ok (.if_icmp .eq 29, 3) := by decide +kernel
theorem dL_law_1462 : decode code 1462 = .ok (.iconst 0, 1) := by decide +kernel
theorem dL_law_1463 : decode code 1463 = .ok (.ireturn, 1) := by decide +kernel
theorem dL_law_1464 : decode code 1464 = .ok (.aload_n 1, 1) := by decide +kernel
theorem dL_law_1465 : decode code 1465 = .ok (.invokevirtual 174, 3) := by decide +kernel
theorem dL_law_1468 : decode code 1468 = .ok (.aload_n 2, 1) := by decide +kernel
theorem dL_law_1469 : decode code 1469 = .ok (.invokevirtual 177, 3) := by decide +kernel
theorem dL_law_1472 : decode code 1472 = .ok (.goto 16, 3) := by decide +kernel
theorem dL_law_1475 : decode code 1475 = .ok (.aload_n 1, 1) := by decide +kernel
theorem dL_law_1476 : decode code 1476 = .ok (.invokevirtual 178, 3) := by decide +kernel
theorem dL_law_1479 : decode code 1479 = .ok (.aload_n 2, 1) := by decide +kernel
theorem dL_law_1480 : decode code 1480 = .ok (.invokevirtual 181, 3) := by decide +kernel
theorem dL_law_1483 : decode code 1483 = .ok (.if_icmp .eq 5, 3) := by decide +kernel
theorem dL_law_1486 : decode code 1486 = .ok (.iconst 0, 1) := by decide +kernel
theorem dL_law_1487 : decode code 1487 = .ok (.ireturn, 1) := by decide +kernel
theorem dL_law_1488 : decode code 1488 = .ok (.iinc 3 7, 3) := by decide +kernel
theorem dL_law_1491 : decode code 1491 = .ok (.goto (-1473), 3) := by decide +kernel
theorem dL_law_1494 : decode code 1494 = .ok (.iconst 1, 1) := by decide +kernel
theorem dL_law_1495 : decode code 1495 = .ok (.ireturn, 1) := by decide +kernel
