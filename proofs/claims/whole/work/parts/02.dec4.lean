theorem dX12_orText_0 : decode cX12_orText 0 = .ok (.aload_n 0, 1) := by decide +kernel
theorem dX12_orText_1 : decode cX12_orText 1 = .ok (.iload_n 1, 1) := by decide +kernel
theorem dX12_orText_2 : decode cX12_orText 2 = .ok (.invokevirtual 534, 3) := by decide +kernel
theorem dX12_orText_5 : decode cX12_orText 5 = .ok (.aload_n 0, 1) := by decide +kernel
theorem dX12_orText_6 : decode cX12_orText 6 = .ok (.bipush 124, 2) := by decide +kernel
theorem dX12_orText_8 : decode cX12_orText 8 = .ok (.invokevirtual 412, 3) := by decide +kernel
theorem dX12_orText_11 : decode cX12_orText 11 = .ok (.ifCond .eq 11, 3) := by decide +kernel
theorem dX12_orText_14 : decode cX12_orText 14 = .ok (.aload_n 0, 1) := by decide +kernel
theorem dX12_orText_15 : decode cX12_orText 15 = .ok (.iload_n 1, 1) := by decide +kernel
theorem dX12_orText_16 : decode cX12_orText 16 = .ok (.invokevirtual 534, 3) := by decide +kernel
theorem dX12_orText_19 : decode cX12_orText 19 = .ok (.goto (-14), 3) := by decide +kernel
theorem dX12_orText_22 : decode cX12_orText 22 = .ok (.return_, 1) := by decide +kernel
theorem dX12_andText_0 : decode cX12_andText 0 = .ok (.aload_n 0, 1) := by decide +kernel
theorem dX12_andText_1 : decode cX12_andText 1 = .ok (.iload_n 1, 1) := by decide +kernel
theorem dX12_andText_2 : decode cX12_andText 2 = .ok (.invokevirtual 537, 3) := by decide +kernel
theorem dX12_andText_5 : decode cX12_andText 5 = .ok (.aload_n 0, 1) := by decide +kernel
theorem dX12_andText_6 : decode cX12_andText 6 = .ok (.bipush 38, 2) := by decide +kernel
theorem dX12_andText_8 : decode cX12_andText 8 = .ok (.invokevirtual 412, 3) := by decide +kernel
theorem dX12_andText_11 : decode cX12_andText 11 = .ok (.ifCond .eq 11, 3) := by decide +kernel
theorem dX12_andText_14 : decode cX12_andText 14 = .ok (.aload_n 0, 1) := by decide +kernel
theorem dX12_andText_15 : decode cX12_andText 15 = .ok (.iload_n 1, 1) := by decide +kernel
theorem dX12_andText_16 : decode cX12_andText 16 = .ok (.invokevirtual 537, 3) := by decide +kernel
theorem dX12_andText_19 : decode cX12_andText 19 = .ok (.goto (-14), 3) := by decide +kernel
theorem dX12_andText_22 : decode cX12_andText 22 = .ok (.return_, 1) := by decide +kernel
theorem dX12_notText_0 : decode cX12_notText 0 = .ok (.aload_n 0, 1) := by decide +kernel
theorem dX12_notText_1 : decode cX12_notText 1 = .ok (.getfield 390, 3) := by decide +kernel
theorem dX12_notText_4 : decode cX12_notText 4 = .ok (.ifCond .eq 4, 3) := by decide +kernel
theorem dX12_notText_7 : decode cX12_notText 7 = .ok (.return_, 1) := by decide +kernel
theorem dX12_notText_8 : decode cX12_notText 8 = .ok (.aload_n 0, 1) := by decide +kernel
theorem dX12_notText_9 : decode cX12_notText 9 = .ok (.getfield 21, 3) := by decide +kernel
theorem dX12_notText_12 : decode cX12_notText 12 = .ok (.aload_n 0, 1) := by decide +kernel
theorem dX12_notText_13 : decode cX12_notText 13 = .ok (.getfield 381, 3) := by decide +kernel
theorem dX12_notText_16 : decode cX12_notText 16 = .ok (.iaload, 1) := by decide +kernel
theorem dX12_notText_17 : decode cX12_notText 17 = .ok (.istore_n 2, 1) := by decide +kernel
theorem dX12_notText_18 : decode cX12_notText 18 = .ok (.aload_n 0, 1) := by decide +kernel
theorem dX12_notText_19 : decode cX12_notText 19 = .ok (.getfield 13, 3) := by decide +kernel
theorem dX12_notText_22 : decode cX12_notText 22 = .ok (.aload_n 0, 1) := by decide +kernel
theorem dX12_notText_23 : decode cX12_notText 23 = .ok (.getfield 381, 3) := by decide +kernel
theorem dX12_notText_26 : decode cX12_notText 26 = .ok (.iaload, 1) := by decide +kernel
theorem dX12_notText_27 : decode cX12_notText 27 = .ok (.bipush 33, 2) := by decide +kernel
theorem dX12_notText_29 : decode cX12_notText 29 = .ok (.if_icmp .eq 17, 3) := by decide +kernel
theorem dX12_notText_32 : decode cX12_notText 32 = .ok (.aload_n 0, 1) := by decide +kernel
theorem dX12_notText_33 : decode cX12_notText 33 = .ok (.getfield 13, 3) := by decide +kernel
theorem dX12_notText_36 : decode cX12_notText 36 = .ok (.aload_n 0, 1) := by decide +kernel
theorem dX12_notText_37 : decode cX12_notText 37 = .ok (.getfield 381, 3) := by decide +kernel
theorem dX12_notText_40 : decode cX12_notText 40 = .ok (.iaload, 1) := by decide +kernel
theorem dX12_notText_41 : decode cX12_notText 41 = .ok (.bipush 40, 2) := by decide +kernel
theorem dX12_notText_43 : decode cX12_notText 43 = .ok (.if_icmp .ne 62, 3) := by decide +kernel
theorem dX12_notText_46 : decode cX12_notText 46 = .ok (.iload_n 1, 1) := by decide +kernel
theorem dX12_notText_47 : decode cX12_notText 47 = .ok (.bipush 12, 2) := by decide +kernel
theorem dX12_notText_49 : decode cX12_notText 49 = .ok (.if_icmp .lt 15, 3) := by decide +kernel
theorem dX12_notText_52 : decode cX12_notText 52 = .ok (.aload_n 0, 1) := by decide +kernel
theorem dX12_notText_53 : decode cX12_notText 53 = .ok (.iconst 2, 1) := by decide +kernel
theorem dX12_notText_54 : decode cX12_notText 54 = .ok (.iload_n 2, 1) := by decide +kernel
theorem dX12_notText_55 : decode cX12_notText 55 = .ok (.invokevirtual 394, 3) := by decide +kernel
theorem dX12_notText_58 : decode cX12_notText 58 = .ok (.aload_n 0, 1) := by decide +kernel
theorem dX12_notText_59 : decode cX12_notText 59 = .ok (.iconst 1, 1) := by decide +kernel
theorem dX12_notText_60 : decode cX12_notText 60 = .ok (.putfield 390, 3) := by decide +kernel
theorem dX12_notText_63 : decode cX12_notText 63 = .ok (.return_, 1) := by decide +kernel
theorem dX12_notText_64 : decode cX12_notText 64 = .ok (.aload_n 0, 1) := by decide +kernel
theorem dX12_notText_65 : decode cX12_notText 65 = .ok (.bipush 33, 2) := by decide +kernel
theorem dX12_notText_67 : decode cX12_notText 67 = .ok (.invokevirtual 412, 3) := by decide +kernel
theorem dX12_notText_70 : decode cX12_notText 70 = .ok (.ifCond .eq 13, 3) := by decide +kernel
theorem dX12_notText_73 : decode cX12_notText 73 = .ok (.aload_n 0, 1) := by decide +kernel
theorem dX12_notText_74 : decode cX12_notText 74 = .ok (.iload_n 1, 1) := by decide +kernel
theorem dX12_notText_75 : decode cX12_notText 75 = .ok (.iconst 1, 1) := by decide +kernel
theorem dX12_notText_76 : decode cX12_notText 76 = .ok (.iadd, 1) := by decide +kernel
theorem dX12_notText_77 : decode cX12_notText 77 = .ok (.invokevirtual 537, 3) := by decide +kernel
theorem dX12_notText_80 : decode cX12_notText 80 = .ok (.goto 116, 3) := by decide +kernel
theorem dX12_notText_83 : decode cX12_notText 83 = .ok (.aload_n 0, 1) := by decide +kernel
theorem dX12_notText_84 : decode cX12_notText 84 = .ok (.bipush 40, 2) := by decide +kernel
theorem dX12_notText_86 : decode cX12_notText 86 = .ok (.invokevirtual 452, 3) := by decide +kernel
theorem dX12_notText_89 : decode cX12_notText 89 = .ok (.aload_n 0, 1) := by decide +kernel
theorem dX12_notText_90 : decode cX12_notText 90 = .ok (.iload_n 1, 1) := by decide +kernel
theorem dX12_notText_91 : decode cX12_notText 91 = .ok (.iconst 1, 1) := by decide +kernel
theorem dX12_notText_92 : decode cX12_notText 92 = .ok (.iadd, 1) := by decide +kernel
theorem dX12_notText_93 : decode cX12_notText 93 = .ok (.invokevirtual 531, 3) := by decide +kernel
theorem dX12_notText_96 : decode cX12_notText 96 = .ok (.aload_n 0, 1) := by decide +kernel
theorem dX12_notText_97 : decode cX12_notText 97 = .ok (.bipush 41, 2) := by decide +kernel
theorem dX12_notText_99 : decode cX12_notText 99 = .ok (.invokevirtual 452, 3) := by decide +kernel
theorem dX12_notText_102 : decode cX12_notText 102 = .ok (.goto 94, 3) := by decide +kernel
theorem dX12_notText_105 : decode cX12_notText 105 = .ok (.aload_n 0, 1) := by decide +kernel
theorem dX12_notText_106 : decode cX12_notText 106 = .ok (.ldc_w 474, 3) := by decide +kernel
theorem dX12_notText_109 : decode cX12_notText 109 = .ok (.invokevirtual 406, 3) := by decide +kernel
theorem dX12_notText_112 : decode cX12_notText 112 = .ok (.ifCond .eq 38, 3) := by decide +kernel
theorem dX12_notText_115 : decode cX12_notText 115 = .ok (.aload_n 0, 1) := by decide +kernel
theorem dX12_notText_116 : decode cX12_notText 116 = .ok (.iconst 0, 1) := by decide +kernel
theorem dX12_notText_117 : decode cX12_notText 117 = .ok (.bipush 7, 2) := by decide +kernel
theorem dX12_notText_119 : decode cX12_notText 119 = .ok (.invokevirtual 415, 3) := by decide +kernel
theorem dX12_notText_122 : decode cX12_notText 122 = .ok (.istore_n 3, 1) := by decide +kernel
theorem dX12_notText_123 : decode cX12_notText 123 = .ok (.aload_n 0, 1) := by decide +kernel
theorem dX12_notText_124 : decode cX12_notText 124 = .ok (.bipush 60, 2) := by decide +kernel
theorem dX12_notText_126 : decode cX12_notText 126 = .ok (.invokevirtual 412, 3) := by decide +kernel
theorem dX12_notText_129 : decode cX12_notText 129 = .ok (.ifCond .ne 9, 3) := by decide +kernel
theorem dX12_notText_132 : decode cX12_notText 132 = .ok (.aload_n 0, 1) := by decide +kernel
theorem dX12_notText_133 : decode cX12_notText 133 = .ok (.bipush 62, 2) := by decide +kernel
theorem dX12_notText_135 : decode cX12_notText 135 = .ok (.invokevirtual 452, 3) := by decide +kernel
theorem dX12_notText_138 : decode cX12_notText 138 = .ok (.aload_n 0, 1) := by decide +kernel
theorem dX12_notText_139 : decode cX12_notText 139 = .ok (.iconst 0, 1) := by decide +kernel
theorem dX12_notText_140 : decode cX12_notText 140 = .ok (.ldc_w 478, 3) := by decide +kernel
theorem dX12_notText_143 : decode cX12_notText 143 = .ok (.invokevirtual 415, 3) := by decide +kernel
theorem dX12_notText_146 : decode cX12_notText 146 = .ok (.istore_n 3, 1) := by decide +kernel
theorem dX12_notText_147 : decode cX12_notText 147 = .ok (.goto 49, 3) := by decide +kernel
theorem dX12_notText_150 : decode cX12_notText 150 = .ok (.aload_n 0, 1) := by decide +kernel
theorem dX12_notText_151 : decode cX12_notText 151 = .ok (.ldc_w 540, 3) := by decide +kernel
theorem dX12_notText_154 : decode cX12_notText 154 = .ok (.invokevirtual 406, 3) := by decide +kernel
theorem dX12_notText_157 : decode cX12_notText 157 = .ok (.ifCond .eq 14, 3) := by decide +kernel
theorem dX12_notText_160 : decode cX12_notText 160 = .ok (.aload_n 0, 1) := by decide +kernel
theorem dX12_notText_161 : decode cX12_notText 161 = .ok (.iconst 0, 1) := by decide +kernel
theorem dX12_notText_162 : decode cX12_notText 162 = .ok (.bipush 7, 2) := by decide +kernel
theorem dX12_notText_164 : decode cX12_notText 164 = .ok (.invokevirtual 415, 3) := by decide +kernel
theorem dX12_notText_167 : decode cX12_notText 167 = .ok (.istore_n 3, 1) := by decide +kernel
theorem dX12_notText_168 : decode cX12_notText 168 = .ok (.goto 28, 3) := by decide +kernel
theorem dX12_notText_171 : decode cX12_notText 171 = .ok (.aload_n 0, 1) := by decide +kernel
theorem dX12_notText_172 : decode cX12_notText 172 = .ok (.ldc_w 542, 3) := by decide +kernel
theorem dX12_notText_175 : decode cX12_notText 175 = .ok (.invokevirtual 406, 3) := by decide +kernel
theorem dX12_notText_178 : decode cX12_notText 178 = .ok (.ifCond .eq 14, 3) := by decide +kernel
theorem dX12_notText_181 : decode cX12_notText 181 = .ok (.aload_n 0, 1) := by decide +kernel
theorem dX12_notText_182 : decode cX12_notText 182 = .ok (.iconst 0, 1) := by decide +kernel
theorem dX12_notText_183 : decode cX12_notText 183 = .ok (.bipush 15, 2) := by decide +kernel
theorem dX12_notText_185 : decode cX12_notText 185 = .ok (.invokevirtual 415, 3) := by decide +kernel
theorem dX12_notText_188 : decode cX12_notText 188 = .ok (.istore_n 3, 1) := by decide +kernel
theorem dX12_notText_189 : decode cX12_notText 189 = .ok (.goto 7, 3) := by decide +kernel
theorem dX12_notText_192 : decode cX12_notText 192 = .ok (.aload_n 0, 1) := by decide +kernel
theorem dX12_notText_193 : decode cX12_notText 193 = .ok (.invokevirtual 409, 3) := by decide +kernel
theorem dX12_notText_196 : decode cX12_notText 196 = .ok (.return_, 1) := by decide +kernel
theorem dX12_isTrue_0 : decode cX12_isTrue 0 = .ok (.aload_n 0, 1) := by decide +kernel
theorem dX12_isTrue_1 : decode cX12_isTrue 1 = .ok (.getfield 184, 3) := by decide +kernel
theorem dX12_isTrue_4 : decode cX12_isTrue 4 = .ok (.iload_n 1, 1) := by decide +kernel
theorem dX12_isTrue_5 : decode cX12_isTrue 5 = .ok (.iaload, 1) := by decide +kernel
theorem dX12_isTrue_6 : decode cX12_isTrue 6 = .ok (.ifCond .ne 5, 3) := by decide +kernel
theorem dX12_isTrue_9 : decode cX12_isTrue 9 = .ok (.iconst 1, 1) := by decide +kernel
theorem dX12_isTrue_10 : decode cX12_isTrue 10 = .ok (.ireturn, 1) := by decide +kernel
theorem dX12_isTrue_11 : decode cX12_isTrue 11 = .ok (.aload_n 0, 1) := by decide +kernel
theorem dX12_isTrue_12 : decode cX12_isTrue 12 = .ok (.iload_n 1, 1) := by decide +kernel
theorem dX12_isTrue_13 : decode cX12_isTrue 13 = .ok (.putfield 544, 3) := by decide +kernel
theorem dX12_isTrue_16 : decode cX12_isTrue 16 = .ok (.aload_n 0, 1) := by decide +kernel
theorem dX12_isTrue_17 : decode cX12_isTrue 17 = .ok (.iconst 0, 1) := by decide +kernel
theorem dX12_isTrue_18 : decode cX12_isTrue 18 = .ok (.putfield 547, 3) := by decide +kernel
theorem dX12_isTrue_21 : decode cX12_isTrue 21 = .ok (.aload_n 0, 1) := by decide +kernel
theorem dX12_isTrue_22 : decode cX12_isTrue 22 = .ok (.invokevirtual 550, 3) := by decide +kernel
theorem dX12_isTrue_25 : decode cX12_isTrue 25 = .ok (.ireturn, 1) := by decide +kernel
theorem dX12_lockNext_0 : decode cX12_lockNext 0 = .ok (.aload_n 0, 1) := by decide +kernel
theorem dX12_lockNext_1 : decode cX12_lockNext 1 = .ok (.getfield 547, 3) := by decide +kernel
theorem dX12_lockNext_4 : decode cX12_lockNext 4 = .ok (.aload_n 0, 1) := by decide +kernel
theorem dX12_lockNext_5 : decode cX12_lockNext 5 = .ok (.getfield 184, 3) := by decide +kernel
theorem dX12_lockNext_8 : decode cX12_lockNext 8 = .ok (.aload_n 0, 1) := by decide +kernel
theorem dX12_lockNext_9 : decode cX12_lockNext 9 = .ok (.getfield 544, 3) := by decide +kernel
theorem dX12_lockNext_12 : decode cX12_lockNext 12 = .ok (.iaload, 1) := by decide +kernel
theorem dX12_lockNext_13 : decode cX12_lockNext 13 = .ok (.if_icmp .ge 23, 3) := by decide +kernel
theorem dX12_lockNext_16 : decode cX12_lockNext 16 = .ok (.aload_n 0, 1) := by decide +kernel
theorem dX12_lockNext_17 : decode cX12_lockNext 17 = .ok (.getfield 187, 3) := by decide +kernel
theorem dX12_lockNext_20 : decode cX12_lockNext 20 = .ok (.bipush 61, 2) := by decide +kernel
theorem dX12_lockNext_22 : decode cX12_lockNext 22 = .ok (.aload_n 0, 1) := by decide +kernel
theorem dX12_lockNext_23 : decode cX12_lockNext 23 = .ok (.getfield 544, 3) := by decide +kernel
theorem dX12_lockNext_26 : decode cX12_lockNext 26 = .ok (.imul, 1) := by decide +kernel
theorem dX12_lockNext_27 : decode cX12_lockNext 27 = .ok (.aload_n 0, 1) := by decide +kernel
theorem dX12_lockNext_28 : decode cX12_lockNext 28 = .ok (.getfield 547, 3) := by decide +kernel
theorem dX12_lockNext_31 : decode cX12_lockNext 31 = .ok (.iadd, 1) := by decide +kernel
theorem dX12_lockNext_32 : decode cX12_lockNext 32 = .ok (.iaload, 1) := by decide +kernel
theorem dX12_lockNext_33 : decode cX12_lockNext 33 = .ok (.goto 4, 3) := by decide +kernel
theorem dX12_lockNext_36 : decode cX12_lockNext 36 = .ok (.iconst 0, 1) := by decide +kernel
theorem dX12_lockNext_37 : decode cX12_lockNext 37 = .ok (.ireturn, 1) := by decide +kernel
theorem dX12_lockNumber_0 : decode cX12_lockNumber 0 = .ok (.aload_n 0, 1) := by decide +kernel
theorem dX12_lockNumber_1 : decode cX12_lockNumber 1 = .ok (.getfield 190, 3) := by decide +kernel
theorem dX12_lockNumber_4 : decode cX12_lockNumber 4 = .ok (.bipush 61, 2) := by decide +kernel
theorem dX12_lockNumber_6 : decode cX12_lockNumber 6 = .ok (.aload_n 0, 1) := by decide +kernel
theorem dX12_lockNumber_7 : decode cX12_lockNumber 7 = .ok (.getfield 544, 3) := by decide +kernel
theorem dX12_lockNumber_10 : decode cX12_lockNumber 10 = .ok (.imul, 1) := by decide +kernel
theorem dX12_lockNumber_11 : decode cX12_lockNumber 11 = .ok (.aload_n 0, 1) := by decide +kernel
theorem dX12_lockNumber_12 : decode cX12_lockNumber 12 = .ok (.getfield 547, 3) := by decide +kernel
theorem dX12_lockNumber_15 : decode cX12_lockNumber 15 = .ok (.iadd, 1) := by decide +kernel
theorem dX12_lockNumber_16 : decode cX12_lockNumber 16 = .ok (.laload, 1) := by decide +kernel
theorem dX12_lockNumber_17 : decode cX12_lockNumber 17 = .ok (.l2i, 1) := by decide +kernel
theorem dX12_lockNumber_18 : decode cX12_lockNumber 18 = .ok (.istore_n 1, 1) := by decide +kernel
theorem dX12_lockNumber_19 : decode cX12_lockNumber 19 = .ok (.aload_n 0, 1) := by decide +kernel
theorem dX12_lockNumber_20 : decode cX12_lockNumber 20 = .ok (.dup, 1) := by decide +kernel
theorem dX12_lockNumber_21 : decode cX12_lockNumber 21 = .ok (.getfield 547, 3) := by decide +kernel
theorem dX12_lockNumber_24 : decode cX12_lockNumber 24 = .ok (.iconst 1, 1) := by decide +kernel
theorem dX12_lockNumber_25 : decode cX12_lockNumber 25 = .ok (.iadd, 1) := by decide +kernel
theorem dX12_lockNumber_26 : decode cX12_lockNumber 26 = .ok (.putfield 547, 3) := by decide +kernel
theorem dX12_lockNumber_29 : decode cX12_lockNumber 29 = .ok (.iload_n 1, 1) := by decide +kernel
theorem dX12_lockNumber_30 : decode cX12_lockNumber 30 = .ok (.ireturn, 1) := by decide +kernel
theorem dX12_orOf_0 : decode cX12_orOf 0 = .ok (.aload_n 0, 1) := by decide +kernel
theorem dX12_orOf_1 : decode cX12_orOf 1 = .ok (.invokevirtual 553, 3) := by decide +kernel
theorem dX12_orOf_4 : decode cX12_orOf 4 = .ok (.istore_n 1, 1) := by decide +kernel
theorem dX12_orOf_5 : decode cX12_orOf 5 = .ok (.aload_n 0, 1) := by decide +kernel
theorem dX12_orOf_6 : decode cX12_orOf 6 = .ok (.invokevirtual 556, 3) := by decide +kernel
theorem dX12_orOf_9 : decode cX12_orOf 9 = .ok (.bipush 124, 2) := by decide +kernel
theorem dX12_orOf_11 : decode cX12_orOf 11 = .ok (.if_icmp .ne 35, 3) := by decide +kernel
theorem dX12_orOf_14 : decode cX12_orOf 14 = .ok (.aload_n 0, 1) := by decide +kernel
theorem dX12_orOf_15 : decode cX12_orOf 15 = .ok (.dup, 1) := by decide +kernel
theorem dX12_orOf_16 : decode cX12_orOf 16 = .ok (.getfield 547, 3) := by decide +kernel
theorem dX12_orOf_19 : decode cX12_orOf 19 = .ok (.iconst 1, 1) := by decide +kernel
theorem dX12_orOf_20 : decode cX12_orOf 20 = .ok (.iadd, 1) := by decide +kernel
theorem dX12_orOf_21 : decode cX12_orOf 21 = .ok (.putfield 547, 3) := by decide +kernel
theorem dX12_orOf_24 : decode cX12_orOf 24 = .ok (.aload_n 0, 1) := by decide +kernel
theorem dX12_orOf_25 : decode cX12_orOf 25 = .ok (.invokevirtual 553, 3) := by decide +kernel
theorem dX12_orOf_28 : decode cX12_orOf 28 = .ok (.istore_n 2, 1) := by decide +kernel
theorem dX12_orOf_29 : decode cX12_orOf 29 = .ok (.iload_n 1, 1) := by decide +kernel
theorem dX12_orOf_30 : decode cX12_orOf 30 = .ok (.ifCond .ne 7, 3) := by decide +kernel
theorem dX12_orOf_33 : decode cX12_orOf 33 = .ok (.iload_n 2, 1) := by decide +kernel
theorem dX12_orOf_34 : decode cX12_orOf 34 = .ok (.ifCond .eq 7, 3) := by decide +kernel
theorem dX12_orOf_37 : decode cX12_orOf 37 = .ok (.iconst 1, 1) := by decide +kernel
theorem dX12_orOf_38 : decode cX12_orOf 38 = .ok (.goto 4, 3) := by decide +kernel
theorem dX12_orOf_41 : decode cX12_orOf 41 = .ok (.iconst 0, 1) := by decide +kernel
theorem dX12_orOf_42 : decode cX12_orOf 42 = .ok (.istore_n 1, 1) := by decide +kernel
theorem dX12_orOf_43 : decode cX12_orOf 43 = .ok (.goto (-38), 3) := by decide +kernel
theorem dX12_orOf_46 : decode cX12_orOf 46 = .ok (.iload_n 1, 1) := by decide +kernel
theorem dX12_orOf_47 : decode cX12_orOf 47 = .ok (.ireturn, 1) := by decide +kernel
theorem dX12_andOf_0 : decode cX12_andOf 0 = .ok (.aload_n 0, 1) := by decide +kernel
theorem dX12_andOf_1 : decode cX12_andOf 1 = .ok (.invokevirtual 559, 3) := by decide +kernel
theorem dX12_andOf_4 : decode cX12_andOf 4 = .ok (.istore_n 1, 1) := by decide +kernel
theorem dX12_andOf_5 : decode cX12_andOf 5 = .ok (.aload_n 0, 1) := by decide +kernel
theorem dX12_andOf_6 : decode cX12_andOf 6 = .ok (.invokevirtual 556, 3) := by decide +kernel
theorem dX12_andOf_9 : decode cX12_andOf 9 = .ok (.bipush 38, 2) := by decide +kernel
theorem dX12_andOf_11 : decode cX12_andOf 11 = .ok (.if_icmp .ne 35, 3) := by decide +kernel
theorem dX12_andOf_14 : decode cX12_andOf 14 = .ok (.aload_n 0, 1) := by decide +kernel
theorem dX12_andOf_15 : decode cX12_andOf 15 = .ok (.dup, 1) := by decide +kernel
theorem dX12_andOf_16 : decode cX12_andOf 16 = .ok (.getfield 547, 3) := by decide +kernel
theorem dX12_andOf_19 : decode cX12_andOf 19 = .ok (.iconst 1, 1) := by decide +kernel
theorem dX12_andOf_20 : decode cX12_andOf 20 = .ok (.iadd, 1) := by decide +kernel
theorem dX12_andOf_21 : decode cX12_andOf 21 = .ok (.putfield 547, 3) := by decide +kernel
theorem dX12_andOf_24 : decode cX12_andOf 24 = .ok (.aload_n 0, 1) := by decide +kernel
theorem dX12_andOf_25 : decode cX12_andOf 25 = .ok (.invokevirtual 559, 3) := by decide +kernel
theorem dX12_andOf_28 : decode cX12_andOf 28 = .ok (.istore_n 2, 1) := by decide +kernel
theorem dX12_andOf_29 : decode cX12_andOf 29 = .ok (.iload_n 1, 1) := by decide +kernel
theorem dX12_andOf_30 : decode cX12_andOf 30 = .ok (.ifCond .eq 11, 3) := by decide +kernel
theorem dX12_andOf_33 : decode cX12_andOf 33 = .ok (.iload_n 2, 1) := by decide +kernel
theorem dX12_andOf_34 : decode cX12_andOf 34 = .ok (.ifCond .eq 7, 3) := by decide +kernel
theorem dX12_andOf_37 : decode cX12_andOf 37 = .ok (.iconst 1, 1) := by decide +kernel
theorem dX12_andOf_38 : decode cX12_andOf 38 = .ok (.goto 4, 3) := by decide +kernel
theorem dX12_andOf_41 : decode cX12_andOf 41 = .ok (.iconst 0, 1) := by decide +kernel
theorem dX12_andOf_42 : decode cX12_andOf 42 = .ok (.istore_n 1, 1) := by decide +kernel
theorem dX12_andOf_43 : decode cX12_andOf 43 = .ok (.goto (-38), 3) := by decide +kernel
theorem dX12_andOf_46 : decode cX12_andOf 46 = .ok (.iload_n 1, 1) := by decide +kernel
theorem dX12_andOf_47 : decode cX12_andOf 47 = .ok (.ireturn, 1) := by decide +kernel
theorem dX12_notOf_0 : decode cX12_notOf 0 = .ok (.aload_n 0, 1) := by decide +kernel
theorem dX12_notOf_1 : decode cX12_notOf 1 = .ok (.invokevirtual 556, 3) := by decide +kernel
theorem dX12_notOf_4 : decode cX12_notOf 4 = .ok (.istore_n 1, 1) := by decide +kernel
theorem dX12_notOf_5 : decode cX12_notOf 5 = .ok (.aload_n 0, 1) := by decide +kernel
theorem dX12_notOf_6 : decode cX12_notOf 6 = .ok (.getfield 190, 3) := by decide +kernel
theorem dX12_notOf_9 : decode cX12_notOf 9 = .ok (.bipush 61, 2) := by decide +kernel
theorem dX12_notOf_11 : decode cX12_notOf 11 = .ok (.aload_n 0, 1) := by decide +kernel
theorem dX12_notOf_12 : decode cX12_notOf 12 = .ok (.getfield 544, 3) := by decide +kernel
theorem dX12_notOf_15 : decode cX12_notOf 15 = .ok (.imul, 1) := by decide +kernel
theorem dX12_notOf_16 : decode cX12_notOf 16 = .ok (.aload_n 0, 1) := by decide +kernel
theorem dX12_notOf_17 : decode cX12_notOf 17 = .ok (.getfield 547, 3) := by decide +kernel
theorem dX12_notOf_20 : decode cX12_notOf 20 = .ok (.iadd, 1) := by decide +kernel
theorem dX12_notOf_21 : decode cX12_notOf 21 = .ok (.laload, 1) := by decide +kernel
theorem dX12_notOf_22 : decode cX12_notOf 22 = .ok (.lstore_n 2, 1) := by decide +kernel
theorem dX12_notOf_23 : decode cX12_notOf 23 = .ok (.aload_n 0, 1) := by decide +kernel
theorem dX12_notOf_24 : decode cX12_notOf 24 = .ok (.dup, 1) := by decide +kernel
theorem dX12_notOf_25 : decode cX12_notOf 25 = .ok (.getfield 547, 3) := by decide +kernel
theorem dX12_notOf_28 : decode cX12_notOf 28 = .ok (.iconst 1, 1) := by decide +kernel
theorem dX12_notOf_29 : decode cX12_notOf 29 = .ok (.iadd, 1) := by decide +kernel
theorem dX12_notOf_30 : decode cX12_notOf 30 = .ok (.putfield 547, 3) := by decide +kernel
theorem dX12_notOf_33 : decode cX12_notOf 33 = .ok (.iload_n 1, 1) := by decide +kernel
theorem dX12_notOf_34 : decode cX12_notOf 34 = .ok (.bipush 33, 2) := by decide +kernel
theorem dX12_notOf_36 : decode cX12_notOf 36 = .ok (.if_icmp .ne 16, 3) := by decide +kernel
theorem dX12_notOf_39 : decode cX12_notOf 39 = .ok (.aload_n 0, 1) := by decide +kernel
theorem dX12_notOf_40 : decode cX12_notOf 40 = .ok (.invokevirtual 559, 3) := by decide +kernel
theorem dX12_notOf_43 : decode cX12_notOf 43 = .ok (.ifCond .ne 7, 3) := by decide +kernel
theorem dX12_notOf_46 : decode cX12_notOf 46 = .ok (.iconst 1, 1) := by decide +kernel
theorem dX12_notOf_47 : decode cX12_notOf 47 = .ok (.goto 4, 3) := by decide +kernel
theorem dX12_notOf_50 : decode cX12_notOf 50 = .ok (.iconst 0, 1) := by decide +kernel
theorem dX12_notOf_51 : decode cX12_notOf 51 = .ok (.ireturn, 1) := by decide +kernel
theorem dX12_notOf_52 : decode cX12_notOf 52 = .ok (.iload_n 1, 1) := by decide +kernel
theorem dX12_notOf_53 : decode cX12_notOf 53 = .ok (.bipush 40, 2) := by decide +kernel
theorem dX12_notOf_55 : decode cX12_notOf 55 = .ok (.if_icmp .ne 22, 3) := by decide +kernel
theorem dX12_notOf_58 : decode cX12_notOf 58 = .ok (.aload_n 0, 1) := by decide +kernel
theorem dX12_notOf_59 : decode cX12_notOf 59 = .ok (.invokevirtual 550, 3) := by decide +kernel
theorem dX12_notOf_62 : decode cX12_notOf 62 = .ok (.istore 4, 2) := by decide +kernel
theorem dX12_notOf_64 : decode cX12_notOf 64 = .ok (.aload_n 0, 1) := by decide +kernel
theorem dX12_notOf_65 : decode cX12_notOf 65 = .ok (.dup, 1) := by decide +kernel
theorem dX12_notOf_66 : decode cX12_notOf 66 = .ok (.getfield 547, 3) := by decide +kernel
theorem dX12_notOf_69 : decode cX12_notOf 69 = .ok (.iconst 1, 1) := by decide +kernel
theorem dX12_notOf_70 : decode cX12_notOf 70 = .ok (.iadd, 1) := by decide +kernel
theorem dX12_notOf_71 : decode cX12_notOf 71 = .ok (.putfield 547, 3) := by decide +kernel
theorem dX12_notOf_74 : decode cX12_notOf 74 = .ok (.iload 4, 2) := by decide +kernel
theorem dX12_notOf_76 : decode cX12_notOf 76 = .ok (.ireturn, 1) := by decide +kernel
theorem dX12_notOf_77 : decode cX12_notOf 77 = .ok (.aload_n 0, 1) := by decide +kernel
theorem dX12_notOf_78 : decode cX12_notOf 78 = .ok (.invokevirtual 562, 3) := by decide +kernel
theorem dX12_notOf_81 : decode cX12_notOf 81 = .ok (.istore 4, 2) := by decide +kernel
theorem dX12_notOf_83 : decode cX12_notOf 83 = .ok (.lload_n 2, 1) := by decide +kernel
theorem dX12_notOf_84 : decode cX12_notOf 84 = .ok (.ldc_w 540, 3) := by decide +kernel
theorem dX12_notOf_87 : decode cX12_notOf 87 = .ok (.invokestatic 398, 3) := by decide +kernel
theorem dX12_notOf_90 : decode cX12_notOf 90 = .ok (.lcmp, 1) := by decide +kernel
theorem dX12_notOf_91 : decode cX12_notOf 91 = .ok (.ifCond .ne 36, 3) := by decide +kernel
theorem dX12_notOf_94 : decode cX12_notOf 94 = .ok (.aload_n 0, 1) := by decide +kernel
theorem dX12_notOf_95 : decode cX12_notOf 95 = .ok (.getfield 145, 3) := by decide +kernel
theorem dX12_notOf_98 : decode cX12_notOf 98 = .ok (.iload 4, 2) := by decide +kernel
theorem dX12_notOf_100 : decode cX12_notOf 100 = .ok (.baload, 1) := by decide +kernel
theorem dX12_notOf_101 : decode cX12_notOf 101 = .ok (.ifCond .eq 20, 3) := by decide +kernel
theorem dX12_notOf_104 : decode cX12_notOf 104 = .ok (.aload_n 0, 1) := by decide +kernel
theorem dX12_notOf_105 : decode cX12_notOf 105 = .ok (.getfield 169, 3) := by decide +kernel
theorem dX12_notOf_108 : decode cX12_notOf 108 = .ok (.iload 4, 2) := by decide +kernel
theorem dX12_notOf_110 : decode cX12_notOf 110 = .ok (.iaload, 1) := by decide +kernel
theorem dX12_notOf_111 : decode cX12_notOf 111 = .ok (.aload_n 0, 1) := by decide +kernel
theorem dX12_notOf_112 : decode cX12_notOf 112 = .ok (.getfield 172, 3) := by decide +kernel
theorem dX12_notOf_115 : decode cX12_notOf 115 = .ok (.iload 4, 2) := by decide +kernel
theorem dX12_notOf_117 : decode cX12_notOf 117 = .ok (.iaload, 1) := by decide +kernel
theorem dX12_notOf_118 : decode cX12_notOf 118 = .ok (.if_icmp .ne 7, 3) := by decide +kernel
theorem dX12_notOf_121 : decode cX12_notOf 121 = .ok (.iconst 1, 1) := by decide +kernel
theorem dX12_notOf_122 : decode cX12_notOf 122 = .ok (.goto 4, 3) := by decide +kernel
theorem dX12_notOf_125 : decode cX12_notOf 125 = .ok (.iconst 0, 1) := by decide +kernel
theorem dX12_notOf_126 : decode cX12_notOf 126 = .ok (.ireturn, 1) := by decide +kernel
theorem dX12_notOf_127 : decode cX12_notOf 127 = .ok (.lload_n 2, 1) := by decide +kernel
theorem dX12_notOf_128 : decode cX12_notOf 128 = .ok (.ldc_w 542, 3) := by decide +kernel
theorem dX12_notOf_131 : decode cX12_notOf 131 = .ok (.invokestatic 398, 3) := by decide +kernel
theorem dX12_notOf_134 : decode cX12_notOf 134 = .ok (.lcmp, 1) := by decide +kernel
theorem dX12_notOf_135 : decode cX12_notOf 135 = .ok (.ifCond .ne 11, 3) := by decide +kernel
theorem dX12_notOf_138 : decode cX12_notOf 138 = .ok (.aload_n 0, 1) := by decide +kernel
theorem dX12_notOf_139 : decode cX12_notOf 139 = .ok (.getfield 181, 3) := by decide +kernel
theorem dX12_notOf_142 : decode cX12_notOf 142 = .ok (.iload 4, 2) := by decide +kernel
theorem dX12_notOf_144 : decode cX12_notOf 144 = .ok (.baload, 1) := by decide +kernel
theorem dX12_notOf_145 : decode cX12_notOf 145 = .ok (.ireturn, 1) := by decide +kernel
theorem dX12_notOf_146 : decode cX12_notOf 146 = .ok (.aload_n 0, 1) := by decide +kernel
theorem dX12_notOf_147 : decode cX12_notOf 147 = .ok (.invokevirtual 556, 3) := by decide +kernel
theorem dX12_notOf_150 : decode cX12_notOf 150 = .ok (.bipush 60, 2) := by decide +kernel
theorem dX12_notOf_152 : decode cX12_notOf 152 = .ok (.if_icmp .ne 7, 3) := by decide +kernel
theorem dX12_notOf_155 : decode cX12_notOf 155 = .ok (.iconst 1, 1) := by decide +kernel
theorem dX12_notOf_156 : decode cX12_notOf 156 = .ok (.goto 4, 3) := by decide +kernel
theorem dX12_notOf_159 : decode cX12_notOf 159 = .ok (.iconst 0, 1) := by decide +kernel
theorem dX12_notOf_160 : decode cX12_notOf 160 = .ok (.istore 5, 2) := by decide +kernel
theorem dX12_notOf_162 : decode cX12_notOf 162 = .ok (.aload_n 0, 1) := by decide +kernel
theorem dX12_notOf_163 : decode cX12_notOf 163 = .ok (.dup, 1) := by decide +kernel
theorem dX12_notOf_164 : decode cX12_notOf 164 = .ok (.getfield 547, 3) := by decide +kernel
theorem dX12_notOf_167 : decode cX12_notOf 167 = .ok (.iconst 1, 1) := by decide +kernel
theorem dX12_notOf_168 : decode cX12_notOf 168 = .ok (.iadd, 1) := by decide +kernel
theorem dX12_notOf_169 : decode cX12_notOf 169 = .ok (.putfield 547, 3) := by decide +kernel
theorem dX12_notOf_172 : decode cX12_notOf 172 = .ok (.aload_n 0, 1) := by decide +kernel
theorem dX12_notOf_173 : decode cX12_notOf 173 = .ok (.invokevirtual 562, 3) := by decide +kernel
theorem dX12_notOf_176 : decode cX12_notOf 176 = .ok (.istore 6, 2) := by decide +kernel
theorem dX12_notOf_178 : decode cX12_notOf 178 = .ok (.aload_n 0, 1) := by decide +kernel
theorem dX12_notOf_179 : decode cX12_notOf 179 = .ok (.getfield 145, 3) := by decide +kernel
theorem dX12_notOf_182 : decode cX12_notOf 182 = .ok (.iload 4, 2) := by decide +kernel
theorem dX12_notOf_184 : decode cX12_notOf 184 = .ok (.baload, 1) := by decide +kernel
theorem dX12_notOf_185 : decode cX12_notOf 185 = .ok (.ifCond .eq 39, 3) := by decide +kernel
theorem dX12_notOf_188 : decode cX12_notOf 188 = .ok (.iload 5, 2) := by decide +kernel
theorem dX12_notOf_190 : decode cX12_notOf 190 = .ok (.ifCond .eq 18, 3) := by decide +kernel
theorem dX12_notOf_193 : decode cX12_notOf 193 = .ok (.aload_n 0, 1) := by decide +kernel
theorem dX12_notOf_194 : decode cX12_notOf 194 = .ok (.getfield 169, 3) := by decide +kernel
theorem dX12_notOf_197 : decode cX12_notOf 197 = .ok (.iload 4, 2) := by decide +kernel
theorem dX12_notOf_199 : decode cX12_notOf 199 = .ok (.iaload, 1) := by decide +kernel
theorem dX12_notOf_200 : decode cX12_notOf 200 = .ok (.iload 6, 2) := by decide +kernel
theorem dX12_notOf_202 : decode cX12_notOf 202 = .ok (.if_icmp .ge 22, 3) := by decide +kernel
theorem dX12_notOf_205 : decode cX12_notOf 205 = .ok (.goto 15, 3) := by decide +kernel
theorem dX12_notOf_208 : decode cX12_notOf 208 = .ok (.aload_n 0, 1) := by decide +kernel
theorem dX12_notOf_209 : decode cX12_notOf 209 = .ok (.getfield 169, 3) := by decide +kernel
theorem dX12_notOf_212 : decode cX12_notOf 212 = .ok (.iload 4, 2) := by decide +kernel
theorem dX12_notOf_214 : decode cX12_notOf 214 = .ok (.iaload, 1) := by decide +kernel
theorem dX12_notOf_215 : decode cX12_notOf 215 = .ok (.iload 6, 2) := by decide +kernel
theorem dX12_notOf_217 : decode cX12_notOf 217 = .ok (.if_icmp .le 7, 3) := by decide +kernel
theorem dX12_notOf_220 : decode cX12_notOf 220 = .ok (.iconst 1, 1) := by decide +kernel
theorem dX12_notOf_221 : decode cX12_notOf 221 = .ok (.goto 4, 3) := by decide +kernel
theorem dX12_notOf_224 : decode cX12_notOf 224 = .ok (.iconst 0, 1) := by decide +kernel
theorem dX12_notOf_225 : decode cX12_notOf 225 = .ok (.ireturn, 1) := by decide +kernel
theorem dX12_goesTo_0 : decode cX12_goesTo 0 = .ok (.aload_n 0, 1) := by decide +kernel
theorem dX12_goesTo_1 : decode cX12_goesTo 1 = .ok (.getfield 145, 3) := by decide +kernel
theorem dX12_goesTo_4 : decode cX12_goesTo 4 = .ok (.iload_n 1, 1) := by decide +kernel
theorem dX12_goesTo_5 : decode cX12_goesTo 5 = .ok (.baload, 1) := by decide +kernel
theorem dX12_goesTo_6 : decode cX12_goesTo 6 = .ok (.ifCond .eq 53, 3) := by decide +kernel
theorem dX12_goesTo_9 : decode cX12_goesTo 9 = .ok (.iload_n 2, 1) := by decide +kernel
theorem dX12_goesTo_10 : decode cX12_goesTo 10 = .ok (.aload_n 0, 1) := by decide +kernel
theorem dX12_goesTo_11 : decode cX12_goesTo 11 = .ok (.getfield 148, 3) := by decide +kernel
theorem dX12_goesTo_14 : decode cX12_goesTo 14 = .ok (.iload_n 1, 1) := by decide +kernel
theorem dX12_goesTo_15 : decode cX12_goesTo 15 = .ok (.iaload, 1) := by decide +kernel
theorem dX12_goesTo_16 : decode cX12_goesTo 16 = .ok (.if_icmp .lt 43, 3) := by decide +kernel
theorem dX12_goesTo_19 : decode cX12_goesTo 19 = .ok (.iload_n 2, 1) := by decide +kernel
theorem dX12_goesTo_20 : decode cX12_goesTo 20 = .ok (.aload_n 0, 1) := by decide +kernel
theorem dX12_goesTo_21 : decode cX12_goesTo 21 = .ok (.getfield 151, 3) := by decide +kernel
theorem dX12_goesTo_24 : decode cX12_goesTo 24 = .ok (.iload_n 1, 1) := by decide +kernel
theorem dX12_goesTo_25 : decode cX12_goesTo 25 = .ok (.iaload, 1) := by decide +kernel
theorem dX12_goesTo_26 : decode cX12_goesTo 26 = .ok (.if_icmp .gt 33, 3) := by decide +kernel
theorem dX12_goesTo_29 : decode cX12_goesTo 29 = .ok (.aload_n 0, 1) := by decide +kernel
theorem dX12_goesTo_30 : decode cX12_goesTo 30 = .ok (.getfield 175, 3) := by decide +kernel
theorem dX12_goesTo_33 : decode cX12_goesTo 33 = .ok (.iload_n 1, 1) := by decide +kernel
theorem dX12_goesTo_34 : decode cX12_goesTo 34 = .ok (.iaload, 1) := by decide +kernel
theorem dX12_goesTo_35 : decode cX12_goesTo 35 = .ok (.iconst 2, 1) := by decide +kernel
theorem dX12_goesTo_36 : decode cX12_goesTo 36 = .ok (.irem, 1) := by decide +kernel
theorem dX12_goesTo_37 : decode cX12_goesTo 37 = .ok (.ifCond .ne 22, 3) := by decide +kernel
theorem dX12_goesTo_40 : decode cX12_goesTo 40 = .ok (.aload_n 0, 1) := by decide +kernel
theorem dX12_goesTo_41 : decode cX12_goesTo 41 = .ok (.getfield 565, 3) := by decide +kernel
theorem dX12_goesTo_44 : decode cX12_goesTo 44 = .ok (.ifCond .ne 15, 3) := by decide +kernel
theorem dX12_goesTo_47 : decode cX12_goesTo 47 = .ok (.aload_n 0, 1) := by decide +kernel
theorem dX12_goesTo_48 : decode cX12_goesTo 48 = .ok (.iload_n 1, 1) := by decide +kernel
theorem dX12_goesTo_49 : decode cX12_goesTo 49 = .ok (.invokevirtual 568, 3) := by decide +kernel
theorem dX12_goesTo_52 : decode cX12_goesTo 52 = .ok (.ifCond .eq 7, 3) := by decide +kernel
theorem dX12_goesTo_55 : decode cX12_goesTo 55 = .ok (.iconst 1, 1) := by decide +kernel
theorem dX12_goesTo_56 : decode cX12_goesTo 56 = .ok (.goto 4, 3) := by decide +kernel
theorem dX12_goesTo_59 : decode cX12_goesTo 59 = .ok (.iconst 0, 1) := by decide +kernel
theorem dX12_goesTo_60 : decode cX12_goesTo 60 = .ok (.istore_n 3, 1) := by decide +kernel
theorem dX12_goesTo_61 : decode cX12_goesTo 61 = .ok (.iload_n 3, 1) := by decide +kernel
theorem dX12_goesTo_62 : decode cX12_goesTo 62 = .ok (.ifCond .eq 13, 3) := by decide +kernel
theorem dX12_goesTo_65 : decode cX12_goesTo 65 = .ok (.aload_n 0, 1) := by decide +kernel
theorem dX12_goesTo_66 : decode cX12_goesTo 66 = .ok (.getfield 166, 3) := by decide +kernel
theorem dX12_goesTo_69 : decode cX12_goesTo 69 = .ok (.iload_n 1, 1) := by decide +kernel
theorem dX12_goesTo_70 : decode cX12_goesTo 70 = .ok (.iload_n 2, 1) := by decide +kernel
theorem dX12_goesTo_71 : decode cX12_goesTo 71 = .ok (.iastore, 1) := by decide +kernel
theorem dX12_goesTo_72 : decode cX12_goesTo 72 = .ok (.goto 13, 3) := by decide +kernel
theorem dX12_goesTo_75 : decode cX12_goesTo 75 = .ok (.aload_n 0, 1) := by decide +kernel
theorem dX12_goesTo_76 : decode cX12_goesTo 76 = .ok (.getfield 178, 3) := by decide +kernel
theorem dX12_goesTo_79 : decode cX12_goesTo 79 = .ok (.iload_n 1, 1) := by decide +kernel
theorem dX12_goesTo_80 : decode cX12_goesTo 80 = .ok (.dup2, 1) := by decide +kernel
theorem dX12_goesTo_81 : decode cX12_goesTo 81 = .ok (.iaload, 1) := by decide +kernel
theorem dX12_goesTo_82 : decode cX12_goesTo 82 = .ok (.iconst 1, 1) := by decide +kernel
theorem dX12_goesTo_83 : decode cX12_goesTo 83 = .ok (.iadd, 1) := by decide +kernel
theorem dX12_goesTo_84 : decode cX12_goesTo 84 = .ok (.iastore, 1) := by decide +kernel
theorem dX12_goesTo_85 : decode cX12_goesTo 85 = .ok (.iload_n 3, 1) := by decide +kernel
theorem dX12_goesTo_86 : decode cX12_goesTo 86 = .ok (.ireturn, 1) := by decide +kernel
theorem dX12_isAxis_0 : decode cX12_isAxis 0 = .ok (.iload_n 0, 1) := by decide +kernel
theorem dX12_isAxis_1 : decode cX12_isAxis 1 = .ok (.ifCond .lt 13, 3) := by decide +kernel
theorem dX12_isAxis_4 : decode cX12_isAxis 4 = .ok (.iload_n 0, 1) := by decide +kernel
theorem dX12_isAxis_5 : decode cX12_isAxis 5 = .ok (.bipush 8, 2) := by decide +kernel
theorem dX12_isAxis_7 : decode cX12_isAxis 7 = .ok (.if_icmp .ge 7, 3) := by decide +kernel
theorem dX12_isAxis_10 : decode cX12_isAxis 10 = .ok (.iconst 1, 1) := by decide +kernel
theorem dX12_isAxis_11 : decode cX12_isAxis 11 = .ok (.goto 4, 3) := by decide +kernel
theorem dX12_isAxis_14 : decode cX12_isAxis 14 = .ok (.iconst 0, 1) := by decide +kernel
theorem dX12_isAxis_15 : decode cX12_isAxis 15 = .ok (.ireturn, 1) := by decide +kernel
theorem dX12_axis_0 : decode cX12_axis 0 = .ok (.iload_n 1, 1) := by decide +kernel
theorem dX12_axis_1 : decode cX12_axis 1 = .ok (.invokestatic 571, 3) := by decide +kernel
theorem dX12_axis_4 : decode cX12_axis 4 = .ok (.ifCond .eq 47, 3) := by decide +kernel
theorem dX12_axis_7 : decode cX12_axis 7 = .ok (.iload_n 2, 1) := by decide +kernel
theorem dX12_axis_8 : decode cX12_axis 8 = .ok (.ifCond .lt 43, 3) := by decide +kernel
theorem dX12_axis_11 : decode cX12_axis 11 = .ok (.iload_n 2, 1) := by decide +kernel
theorem dX12_axis_12 : decode cX12_axis 12 = .ok (.iload_n 3, 1) := by decide +kernel
theorem dX12_axis_13 : decode cX12_axis 13 = .ok (.if_icmp .ge 38, 3) := by decide +kernel
theorem dX12_axis_16 : decode cX12_axis 16 = .ok (.iload_n 3, 1) := by decide +kernel
theorem dX12_axis_17 : decode cX12_axis 17 = .ok (.ldc_w 478, 3) := by decide +kernel
theorem dX12_axis_20 : decode cX12_axis 20 = .ok (.if_icmp .gt 31, 3) := by decide +kernel
theorem dX12_axis_23 : decode cX12_axis 23 = .ok (.iload 4, 2) := by decide +kernel
theorem dX12_axis_25 : decode cX12_axis 25 = .ok (.iconst 1, 1) := by decide +kernel
theorem dX12_axis_26 : decode cX12_axis 26 = .ok (.if_icmp .lt 25, 3) := by decide +kernel
theorem dX12_axis_29 : decode cX12_axis 29 = .ok (.iload 4, 2) := by decide +kernel
theorem dX12_axis_31 : decode cX12_axis 31 = .ok (.sipush 999, 3) := by decide +kernel
theorem dX12_axis_34 : decode cX12_axis 34 = .ok (.if_icmp .gt 17, 3) := by decide +kernel
theorem dX12_axis_37 : decode cX12_axis 37 = .ok (.iload 5, 2) := by decide +kernel
theorem dX12_axis_39 : decode cX12_axis 39 = .ok (.iconst 1, 1) := by decide +kernel
theorem dX12_axis_40 : decode cX12_axis 40 = .ok (.if_icmp .lt 11, 3) := by decide +kernel
theorem dX12_axis_43 : decode cX12_axis 43 = .ok (.iload 5, 2) := by decide +kernel
theorem dX12_axis_45 : decode cX12_axis 45 = .ok (.sipush 999, 3) := by decide +kernel
theorem dX12_axis_48 : decode cX12_axis 48 = .ok (.if_icmp .le 5, 3) := by decide +kernel
theorem dX12_axis_51 : decode cX12_axis 51 = .ok (.iconst 0, 1) := by decide +kernel
theorem dX12_axis_52 : decode cX12_axis 52 = .ok (.ireturn, 1) := by decide +kernel
theorem dX12_axis_53 : decode cX12_axis 53 = .ok (.aload_n 0, 1) := by decide +kernel
theorem dX12_axis_54 : decode cX12_axis 54 = .ok (.getfield 145, 3) := by decide +kernel
theorem dX12_axis_57 : decode cX12_axis 57 = .ok (.iload_n 1, 1) := by decide +kernel
theorem dX12_axis_58 : decode cX12_axis 58 = .ok (.iconst 1, 1) := by decide +kernel
theorem dX12_axis_59 : decode cX12_axis 59 = .ok (.bastore, 1) := by decide +kernel
theorem dX12_axis_60 : decode cX12_axis 60 = .ok (.aload_n 0, 1) := by decide +kernel
theorem dX12_axis_61 : decode cX12_axis 61 = .ok (.getfield 148, 3) := by decide +kernel
theorem dX12_axis_64 : decode cX12_axis 64 = .ok (.iload_n 1, 1) := by decide +kernel
theorem dX12_axis_65 : decode cX12_axis 65 = .ok (.iload_n 2, 1) := by decide +kernel
theorem dX12_axis_66 : decode cX12_axis 66 = .ok (.iastore, 1) := by decide +kernel
theorem dX12_axis_67 : decode cX12_axis 67 = .ok (.aload_n 0, 1) := by decide +kernel
theorem dX12_axis_68 : decode cX12_axis 68 = .ok (.getfield 151, 3) := by decide +kernel
theorem dX12_axis_71 : decode cX12_axis 71 = .ok (.iload_n 1, 1) := by decide +kernel
theorem dX12_axis_72 : decode cX12_axis 72 = .ok (.iload_n 3, 1) := by decide +kernel
theorem dX12_axis_73 : decode cX12_axis 73 = .ok (.iastore, 1) := by decide +kernel
theorem dX12_axis_74 : decode cX12_axis 74 = .ok (.aload_n 0, 1) := by decide +kernel
theorem dX12_axis_75 : decode cX12_axis 75 = .ok (.getfield 154, 3) := by decide +kernel
theorem dX12_axis_78 : decode cX12_axis 78 = .ok (.iload_n 1, 1) := by decide +kernel
theorem dX12_axis_79 : decode cX12_axis 79 = .ok (.iload 4, 2) := by decide +kernel
theorem dX12_axis_81 : decode cX12_axis 81 = .ok (.iastore, 1) := by decide +kernel
theorem dX12_axis_82 : decode cX12_axis 82 = .ok (.aload_n 0, 1) := by decide +kernel
theorem dX12_axis_83 : decode cX12_axis 83 = .ok (.getfield 157, 3) := by decide +kernel
theorem dX12_axis_86 : decode cX12_axis 86 = .ok (.iload_n 1, 1) := by decide +kernel
theorem dX12_axis_87 : decode cX12_axis 87 = .ok (.iload 5, 2) := by decide +kernel
theorem dX12_axis_89 : decode cX12_axis 89 = .ok (.iastore, 1) := by decide +kernel
theorem dX12_axis_90 : decode cX12_axis 90 = .ok (.aload_n 0, 1) := by decide +kernel
theorem dX12_axis_91 : decode cX12_axis 91 = .ok (.getfield 160, 3) := by decide +kernel
theorem dX12_axis_94 : decode cX12_axis 94 = .ok (.iload_n 1, 1) := by decide +kernel
theorem dX12_axis_95 : decode cX12_axis 95 = .ok (.iload_n 2, 1) := by decide +kernel
theorem dX12_axis_96 : decode cX12_axis 96 = .ok (.iastore, 1) := by decide +kernel
theorem dX12_axis_97 : decode cX12_axis 97 = .ok (.aload_n 0, 1) := by decide +kernel
theorem dX12_axis_98 : decode cX12_axis 98 = .ok (.getfield 163, 3) := by decide +kernel
theorem dX12_axis_101 : decode cX12_axis 101 = .ok (.iload_n 1, 1) := by decide +kernel
theorem dX12_axis_102 : decode cX12_axis 102 = .ok (.iconst 0, 1) := by decide +kernel
theorem dX12_axis_103 : decode cX12_axis 103 = .ok (.iastore, 1) := by decide +kernel
theorem dX12_axis_104 : decode cX12_axis 104 = .ok (.aload_n 0, 1) := by decide +kernel
theorem dX12_axis_105 : decode cX12_axis 105 = .ok (.getfield 166, 3) := by decide +kernel
theorem dX12_axis_108 : decode cX12_axis 108 = .ok (.iload_n 1, 1) := by decide +kernel
theorem dX12_axis_109 : decode cX12_axis 109 = .ok (.iconst (-1), 1) := by decide +kernel
theorem dX12_axis_110 : decode cX12_axis 110 = .ok (.iastore, 1) := by decide +kernel
theorem dX12_axis_111 : decode cX12_axis 111 = .ok (.aload_n 0, 1) := by decide +kernel
theorem dX12_axis_112 : decode cX12_axis 112 = .ok (.getfield 169, 3) := by decide +kernel
theorem dX12_axis_115 : decode cX12_axis 115 = .ok (.iload_n 1, 1) := by decide +kernel
theorem dX12_axis_116 : decode cX12_axis 116 = .ok (.iload_n 2, 1) := by decide +kernel
theorem dX12_axis_117 : decode cX12_axis 117 = .ok (.iastore, 1) := by decide +kernel
theorem dX12_axis_118 : decode cX12_axis 118 = .ok (.aload_n 0, 1) := by decide +kernel
theorem dX12_axis_119 : decode cX12_axis 119 = .ok (.getfield 172, 3) := by decide +kernel
theorem dX12_axis_122 : decode cX12_axis 122 = .ok (.iload_n 1, 1) := by decide +kernel
theorem dX12_axis_123 : decode cX12_axis 123 = .ok (.iload_n 2, 1) := by decide +kernel
theorem dX12_axis_124 : decode cX12_axis 124 = .ok (.iastore, 1) := by decide +kernel
theorem dX12_axis_125 : decode cX12_axis 125 = .ok (.aload_n 0, 1) := by decide +kernel
theorem dX12_axis_126 : decode cX12_axis 126 = .ok (.getfield 175, 3) := by decide +kernel
theorem dX12_axis_129 : decode cX12_axis 129 = .ok (.iload_n 1, 1) := by decide +kernel
theorem dX12_axis_130 : decode cX12_axis 130 = .ok (.iconst 0, 1) := by decide +kernel
theorem dX12_axis_131 : decode cX12_axis 131 = .ok (.iastore, 1) := by decide +kernel
theorem dX12_axis_132 : decode cX12_axis 132 = .ok (.iconst 1, 1) := by decide +kernel
theorem dX12_axis_133 : decode cX12_axis 133 = .ok (.ireturn, 1) := by decide +kernel
theorem dX12_to_0 : decode cX12_to 0 = .ok (.iload_n 1, 1) := by decide +kernel
theorem dX12_to_1 : decode cX12_to 1 = .ok (.invokestatic 571, 3) := by decide +kernel
theorem dX12_to_4 : decode cX12_to 4 = .ok (.ifCond .eq 16, 3) := by decide +kernel
theorem dX12_to_7 : decode cX12_to 7 = .ok (.aload_n 0, 1) := by decide +kernel
theorem dX12_to_8 : decode cX12_to 8 = .ok (.iload_n 1, 1) := by decide +kernel
theorem dX12_to_9 : decode cX12_to 9 = .ok (.iload_n 2, 1) := by decide +kernel
theorem dX12_to_10 : decode cX12_to 10 = .ok (.invokevirtual 493, 3) := by decide +kernel
theorem dX12_to_13 : decode cX12_to 13 = .ok (.ifCond .eq 7, 3) := by decide +kernel
theorem dX12_to_16 : decode cX12_to 16 = .ok (.iconst 1, 1) := by decide +kernel
theorem dX12_to_17 : decode cX12_to 17 = .ok (.goto 4, 3) := by decide +kernel
theorem dX12_to_20 : decode cX12_to 20 = .ok (.iconst 0, 1) := by decide +kernel
theorem dX12_to_21 : decode cX12_to 21 = .ok (.ireturn, 1) := by decide +kernel
theorem dX12_axisAt_0 : decode cX12_axisAt 0 = .ok (.iload_n 1, 1) := by decide +kernel
theorem dX12_axisAt_1 : decode cX12_axisAt 1 = .ok (.invokestatic 571, 3) := by decide +kernel
theorem dX12_axisAt_4 : decode cX12_axisAt 4 = .ok (.ifCond .ne 5, 3) := by decide +kernel
theorem dX12_axisAt_7 : decode cX12_axisAt 7 = .ok (.iconst (-1), 1) := by decide +kernel
theorem dX12_axisAt_8 : decode cX12_axisAt 8 = .ok (.ireturn, 1) := by decide +kernel
theorem dX12_axisAt_9 : decode cX12_axisAt 9 = .ok (.iload_n 2, 1) := by decide +kernel
theorem dX12_axisAt_10 : decode cX12_axisAt 10 = .ok (.ifCond .ne 18, 3) := by decide +kernel
theorem dX12_axisAt_13 : decode cX12_axisAt 13 = .ok (.aload_n 0, 1) := by decide +kernel
theorem dX12_axisAt_14 : decode cX12_axisAt 14 = .ok (.getfield 145, 3) := by decide +kernel
theorem dX12_axisAt_17 : decode cX12_axisAt 17 = .ok (.iload_n 1, 1) := by decide +kernel
theorem dX12_axisAt_18 : decode cX12_axisAt 18 = .ok (.baload, 1) := by decide +kernel
theorem dX12_axisAt_19 : decode cX12_axisAt 19 = .ok (.ifCond .eq 7, 3) := by decide +kernel
theorem dX12_axisAt_22 : decode cX12_axisAt 22 = .ok (.iconst 1, 1) := by decide +kernel
theorem dX12_axisAt_23 : decode cX12_axisAt 23 = .ok (.goto 4, 3) := by decide +kernel
theorem dX12_axisAt_26 : decode cX12_axisAt 26 = .ok (.iconst 0, 1) := by decide +kernel
theorem dX12_axisAt_27 : decode cX12_axisAt 27 = .ok (.ireturn, 1) := by decide +kernel
theorem dX12_axisAt_28 : decode cX12_axisAt 28 = .ok (.iload_n 2, 1) := by decide +kernel
theorem dX12_axisAt_29 : decode cX12_axisAt 29 = .ok (.bipush 6, 2) := by decide +kernel
theorem dX12_axisAt_31 : decode cX12_axisAt 31 = .ok (.if_icmp .ne 17, 3) := by decide +kernel
theorem dX12_axisAt_34 : decode cX12_axisAt 34 = .ok (.aload_n 0, 1) := by decide +kernel
theorem dX12_axisAt_35 : decode cX12_axisAt 35 = .ok (.iload_n 1, 1) := by decide +kernel
theorem dX12_axisAt_36 : decode cX12_axisAt 36 = .ok (.invokevirtual 568, 3) := by decide +kernel
theorem dX12_axisAt_39 : decode cX12_axisAt 39 = .ok (.ifCond .eq 7, 3) := by decide +kernel
theorem dX12_axisAt_42 : decode cX12_axisAt 42 = .ok (.iconst 1, 1) := by decide +kernel
theorem dX12_axisAt_43 : decode cX12_axisAt 43 = .ok (.goto 4, 3) := by decide +kernel
theorem dX12_axisAt_46 : decode cX12_axisAt 46 = .ok (.iconst 0, 1) := by decide +kernel
theorem dX12_axisAt_47 : decode cX12_axisAt 47 = .ok (.ireturn, 1) := by decide +kernel
theorem dX12_axisAt_48 : decode cX12_axisAt 48 = .ok (.iload_n 2, 1) := by decide +kernel
theorem dX12_axisAt_49 : decode cX12_axisAt 49 = .ok (.bipush 7, 2) := by decide +kernel
theorem dX12_axisAt_51 : decode cX12_axisAt 51 = .ok (.if_icmp .ne 10, 3) := by decide +kernel
theorem dX12_axisAt_54 : decode cX12_axisAt 54 = .ok (.aload_n 0, 1) := by decide +kernel
theorem dX12_axisAt_55 : decode cX12_axisAt 55 = .ok (.getfield 178, 3) := by decide +kernel
theorem dX12_axisAt_58 : decode cX12_axisAt 58 = .ok (.iload_n 1, 1) := by decide +kernel
theorem dX12_axisAt_59 : decode cX12_axisAt 59 = .ok (.iaload, 1) := by decide +kernel
theorem dX12_axisAt_60 : decode cX12_axisAt 60 = .ok (.ireturn, 1) := by decide +kernel
theorem dX12_axisAt_61 : decode cX12_axisAt 61 = .ok (.aload_n 0, 1) := by decide +kernel
theorem dX12_axisAt_62 : decode cX12_axisAt 62 = .ok (.getfield 145, 3) := by decide +kernel
theorem dX12_axisAt_65 : decode cX12_axisAt 65 = .ok (.iload_n 1, 1) := by decide +kernel
theorem dX12_axisAt_66 : decode cX12_axisAt 66 = .ok (.baload, 1) := by decide +kernel
theorem dX12_axisAt_67 : decode cX12_axisAt 67 = .ok (.ifCond .ne 5, 3) := by decide +kernel
theorem dX12_axisAt_70 : decode cX12_axisAt 70 = .ok (.iconst (-1), 1) := by decide +kernel
theorem dX12_axisAt_71 : decode cX12_axisAt 71 = .ok (.ireturn, 1) := by decide +kernel
theorem dX12_axisAt_72 : decode cX12_axisAt 72 = .ok (.iload_n 2, 1) := by decide +kernel
theorem dX12_axisAt_73 : decode cX12_axisAt 73 = .ok (.iconst 1, 1) := by decide +kernel
theorem dX12_axisAt_74 : decode cX12_axisAt 74 = .ok (.if_icmp .ne 12, 3) := by decide +kernel
theorem dX12_axisAt_77 : decode cX12_axisAt 77 = .ok (.aload_n 0, 1) := by decide +kernel
theorem dX12_axisAt_78 : decode cX12_axisAt 78 = .ok (.getfield 160, 3) := by decide +kernel
theorem dX12_axisAt_81 : decode cX12_axisAt 81 = .ok (.iload_n 1, 1) := by decide +kernel
theorem dX12_axisAt_82 : decode cX12_axisAt 82 = .ok (.iaload, 1) := by decide +kernel
theorem dX12_axisAt_83 : decode cX12_axisAt 83 = .ok (.goto 60, 3) := by decide +kernel
theorem dX12_axisAt_86 : decode cX12_axisAt 86 = .ok (.iload_n 2, 1) := by decide +kernel
theorem dX12_axisAt_87 : decode cX12_axisAt 87 = .ok (.iconst 2, 1) := by decide +kernel
theorem dX12_axisAt_88 : decode cX12_axisAt 88 = .ok (.if_icmp .ne 12, 3) := by decide +kernel
theorem dX12_axisAt_91 : decode cX12_axisAt 91 = .ok (.aload_n 0, 1) := by decide +kernel
theorem dX12_axisAt_92 : decode cX12_axisAt 92 = .ok (.getfield 163, 3) := by decide +kernel
theorem dX12_axisAt_95 : decode cX12_axisAt 95 = .ok (.iload_n 1, 1) := by decide +kernel
theorem dX12_axisAt_96 : decode cX12_axisAt 96 = .ok (.iaload, 1) := by decide +kernel
theorem dX12_axisAt_97 : decode cX12_axisAt 97 = .ok (.goto 46, 3) := by decide +kernel
theorem dX12_axisAt_100 : decode cX12_axisAt 100 = .ok (.iload_n 2, 1) := by decide +kernel
theorem dX12_axisAt_101 : decode cX12_axisAt 101 = .ok (.iconst 3, 1) := by decide +kernel
theorem dX12_axisAt_102 : decode cX12_axisAt 102 = .ok (.if_icmp .ne 12, 3) := by decide +kernel
theorem dX12_axisAt_105 : decode cX12_axisAt 105 = .ok (.aload_n 0, 1) := by decide +kernel
theorem dX12_axisAt_106 : decode cX12_axisAt 106 = .ok (.getfield 166, 3) := by decide +kernel
theorem dX12_axisAt_109 : decode cX12_axisAt 109 = .ok (.iload_n 1, 1) := by decide +kernel
theorem dX12_axisAt_110 : decode cX12_axisAt 110 = .ok (.iaload, 1) := by decide +kernel
theorem dX12_axisAt_111 : decode cX12_axisAt 111 = .ok (.goto 32, 3) := by decide +kernel
theorem dX12_axisAt_114 : decode cX12_axisAt 114 = .ok (.iload_n 2, 1) := by decide +kernel
theorem dX12_axisAt_115 : decode cX12_axisAt 115 = .ok (.iconst 4, 1) := by decide +kernel
theorem dX12_axisAt_116 : decode cX12_axisAt 116 = .ok (.if_icmp .ne 12, 3) := by decide +kernel
theorem dX12_axisAt_119 : decode cX12_axisAt 119 = .ok (.aload_n 0, 1) := by decide +kernel
theorem dX12_axisAt_120 : decode cX12_axisAt 120 = .ok (.getfield 169, 3) := by decide +kernel
theorem dX12_axisAt_123 : decode cX12_axisAt 123 = .ok (.iload_n 1, 1) := by decide +kernel
theorem dX12_axisAt_124 : decode cX12_axisAt 124 = .ok (.iaload, 1) := by decide +kernel
theorem dX12_axisAt_125 : decode cX12_axisAt 125 = .ok (.goto 18, 3) := by decide +kernel
theorem dX12_axisAt_128 : decode cX12_axisAt 128 = .ok (.iload_n 2, 1) := by decide +kernel
theorem dX12_axisAt_129 : decode cX12_axisAt 129 = .ok (.iconst 5, 1) := by decide +kernel
theorem dX12_axisAt_130 : decode cX12_axisAt 130 = .ok (.if_icmp .ne 12, 3) := by decide +kernel
theorem dX12_axisAt_133 : decode cX12_axisAt 133 = .ok (.aload_n 0, 1) := by decide +kernel
theorem dX12_axisAt_134 : decode cX12_axisAt 134 = .ok (.getfield 175, 3) := by decide +kernel
theorem dX12_axisAt_137 : decode cX12_axisAt 137 = .ok (.iload_n 1, 1) := by decide +kernel
theorem dX12_axisAt_138 : decode cX12_axisAt 138 = .ok (.iaload, 1) := by decide +kernel
theorem dX12_axisAt_139 : decode cX12_axisAt 139 = .ok (.goto 4, 3) := by decide +kernel
theorem dX12_axisAt_142 : decode cX12_axisAt 142 = .ok (.iconst (-1), 1) := by decide +kernel
theorem dX12_axisAt_143 : decode cX12_axisAt 143 = .ok (.ireturn, 1) := by decide +kernel
theorem dX12_faults_0 : decode cX12_faults 0 = .ok (.iload_n 1, 1) := by decide +kernel
theorem dX12_faults_1 : decode cX12_faults 1 = .ok (.invokestatic 571, 3) := by decide +kernel
theorem dX12_faults_4 : decode cX12_faults 4 = .ok (.ifCond .eq 22, 3) := by decide +kernel
theorem dX12_faults_7 : decode cX12_faults 7 = .ok (.aload_n 0, 1) := by decide +kernel
theorem dX12_faults_8 : decode cX12_faults 8 = .ok (.getfield 145, 3) := by decide +kernel
theorem dX12_faults_11 : decode cX12_faults 11 = .ok (.iload_n 1, 1) := by decide +kernel
theorem dX12_faults_12 : decode cX12_faults 12 = .ok (.baload, 1) := by decide +kernel
theorem dX12_faults_13 : decode cX12_faults 13 = .ok (.ifCond .eq 13, 3) := by decide +kernel
theorem dX12_faults_16 : decode cX12_faults 16 = .ok (.iload_n 2, 1) := by decide +kernel
theorem dX12_faults_17 : decode cX12_faults 17 = .ok (.ifCond .lt 9, 3) := by decide +kernel
theorem dX12_faults_20 : decode cX12_faults 20 = .ok (.iload_n 2, 1) := by decide +kernel
theorem dX12_faults_21 : decode cX12_faults 21 = .ok (.bipush 7, 2) := by decide +kernel
theorem dX12_faults_23 : decode cX12_faults 23 = .ok (.if_icmp .le 5, 3) := by decide +kernel
theorem dX12_faults_26 : decode cX12_faults 26 = .ok (.iconst 0, 1) := by decide +kernel
theorem dX12_faults_27 : decode cX12_faults 27 = .ok (.ireturn, 1) := by decide +kernel
theorem dX12_faults_28 : decode cX12_faults 28 = .ok (.aload_n 0, 1) := by decide +kernel
theorem dX12_faults_29 : decode cX12_faults 29 = .ok (.getfield 175, 3) := by decide +kernel
theorem dX12_faults_32 : decode cX12_faults 32 = .ok (.iload_n 1, 1) := by decide +kernel
theorem dX12_faults_33 : decode cX12_faults 33 = .ok (.iload_n 2, 1) := by decide +kernel
theorem dX12_faults_34 : decode cX12_faults 34 = .ok (.iastore, 1) := by decide +kernel
theorem dX12_faults_35 : decode cX12_faults 35 = .ok (.iload_n 2, 1) := by decide +kernel
theorem dX12_faults_36 : decode cX12_faults 36 = .ok (.iconst 2, 1) := by decide +kernel
theorem dX12_faults_37 : decode cX12_faults 37 = .ok (.irem, 1) := by decide +kernel
theorem dX12_faults_38 : decode cX12_faults 38 = .ok (.iconst 1, 1) := by decide +kernel
theorem dX12_faults_39 : decode cX12_faults 39 = .ok (.if_icmp .ne 10, 3) := by decide +kernel
theorem dX12_faults_42 : decode cX12_faults 42 = .ok (.aload_n 0, 1) := by decide +kernel
theorem dX12_faults_43 : decode cX12_faults 43 = .ok (.getfield 166, 3) := by decide +kernel
theorem dX12_faults_46 : decode cX12_faults 46 = .ok (.iload_n 1, 1) := by decide +kernel
theorem dX12_faults_47 : decode cX12_faults 47 = .ok (.iconst (-1), 1) := by decide +kernel
theorem dX12_faults_48 : decode cX12_faults 48 = .ok (.iastore, 1) := by decide +kernel
theorem dX12_faults_49 : decode cX12_faults 49 = .ok (.iconst 1, 1) := by decide +kernel
theorem dX12_faults_50 : decode cX12_faults 50 = .ok (.ireturn, 1) := by decide +kernel
theorem dX12_stop_0 : decode cX12_stop 0 = .ok (.aload_n 0, 1) := by decide +kernel
theorem dX12_stop_1 : decode cX12_stop 1 = .ok (.iload_n 1, 1) := by decide +kernel
theorem dX12_stop_2 : decode cX12_stop 2 = .ok (.putfield 565, 3) := by decide +kernel
theorem dX12_stop_5 : decode cX12_stop 5 = .ok (.iconst 0, 1) := by decide +kernel
theorem dX12_stop_6 : decode cX12_stop 6 = .ok (.istore_n 2, 1) := by decide +kernel
theorem dX12_stop_7 : decode cX12_stop 7 = .ok (.iload_n 2, 1) := by decide +kernel
theorem dX12_stop_8 : decode cX12_stop 8 = .ok (.bipush 8, 2) := by decide +kernel
theorem dX12_stop_10 : decode cX12_stop 10 = .ok (.if_icmp .ge 20, 3) := by decide +kernel
theorem dX12_stop_13 : decode cX12_stop 13 = .ok (.iload_n 1, 1) := by decide +kernel
theorem dX12_stop_14 : decode cX12_stop 14 = .ok (.ifCond .eq 16, 3) := by decide +kernel
theorem dX12_stop_17 : decode cX12_stop 17 = .ok (.aload_n 0, 1) := by decide +kernel
theorem dX12_stop_18 : decode cX12_stop 18 = .ok (.getfield 166, 3) := by decide +kernel
theorem dX12_stop_21 : decode cX12_stop 21 = .ok (.iload_n 2, 1) := by decide +kernel
theorem dX12_stop_22 : decode cX12_stop 22 = .ok (.iconst (-1), 1) := by decide +kernel
theorem dX12_stop_23 : decode cX12_stop 23 = .ok (.iastore, 1) := by decide +kernel
theorem dX12_stop_24 : decode cX12_stop 24 = .ok (.iinc 2 1, 3) := by decide +kernel
theorem dX12_stop_27 : decode cX12_stop 27 = .ok (.goto (-20), 3) := by decide +kernel
theorem dX12_stop_30 : decode cX12_stop 30 = .ok (.return_, 1) := by decide +kernel
theorem dX12_event_0 : decode cX12_event 0 = .ok (.iload_n 1, 1) := by decide +kernel
theorem dX12_event_1 : decode cX12_event 1 = .ok (.ifCond .lt 9, 3) := by decide +kernel
theorem dX12_event_4 : decode cX12_event 4 = .ok (.iload_n 1, 1) := by decide +kernel
theorem dX12_event_5 : decode cX12_event 5 = .ok (.bipush 15, 2) := by decide +kernel
theorem dX12_event_7 : decode cX12_event 7 = .ok (.if_icmp .le 5, 3) := by decide +kernel
theorem dX12_event_10 : decode cX12_event 10 = .ok (.iconst 0, 1) := by decide +kernel
theorem dX12_event_11 : decode cX12_event 11 = .ok (.ireturn, 1) := by decide +kernel
theorem dX12_event_12 : decode cX12_event 12 = .ok (.aload_n 0, 1) := by decide +kernel
theorem dX12_event_13 : decode cX12_event 13 = .ok (.getfield 181, 3) := by decide +kernel
theorem dX12_event_16 : decode cX12_event 16 = .ok (.iload_n 1, 1) := by decide +kernel
theorem dX12_event_17 : decode cX12_event 17 = .ok (.iload_n 2, 1) := by decide +kernel
theorem dX12_event_18 : decode cX12_event 18 = .ok (.bastore, 1) := by decide +kernel
theorem dX12_event_19 : decode cX12_event 19 = .ok (.iconst 1, 1) := by decide +kernel
theorem dX12_event_20 : decode cX12_event 20 = .ok (.ireturn, 1) := by decide +kernel
theorem dX12_brake_0 : decode cX12_brake 0 = .ok (.lload_n 0, 1) := by decide +kernel
theorem dX12_brake_1 : decode cX12_brake 1 = .ok (.lload_n 2, 1) := by decide +kernel
theorem dX12_brake_2 : decode cX12_brake 2 = .ok (.lcmp, 1) := by decide +kernel
theorem dX12_brake_3 : decode cX12_brake 3 = .ok (.ifCond .gt 5, 3) := by decide +kernel
theorem dX12_brake_6 : decode cX12_brake 6 = .ok (.lconst 0, 1) := by decide +kernel
theorem dX12_brake_7 : decode cX12_brake 7 = .ok (.lreturn, 1) := by decide +kernel
theorem dX12_brake_8 : decode cX12_brake 8 = .ok (.lload_n 0, 1) := by decide +kernel
theorem dX12_brake_9 : decode cX12_brake 9 = .ok (.lconst 1, 1) := by decide +kernel
theorem dX12_brake_10 : decode cX12_brake 10 = .ok (.lsub, 1) := by decide +kernel
theorem dX12_brake_11 : decode cX12_brake 11 = .ok (.lload_n 2, 1) := by decide +kernel
theorem dX12_brake_12 : decode cX12_brake 12 = .ok (.ldiv, 1) := by decide +kernel
theorem dX12_brake_13 : decode cX12_brake 13 = .ok (.lstore 4, 2) := by decide +kernel
theorem dX12_brake_15 : decode cX12_brake 15 = .ok (.lload 4, 2) := by decide +kernel
theorem dX12_brake_17 : decode cX12_brake 17 = .ok (.lload_n 0, 1) := by decide +kernel
theorem dX12_brake_18 : decode cX12_brake 18 = .ok (.lmul, 1) := by decide +kernel
theorem dX12_brake_19 : decode cX12_brake 19 = .ok (.lload_n 2, 1) := by decide +kernel
theorem dX12_brake_20 : decode cX12_brake 20 = .ok (.lload 4, 2) := by decide +kernel
theorem dX12_brake_22 : decode cX12_brake 22 = .ok (.lmul, 1) := by decide +kernel
theorem dX12_brake_23 : decode cX12_brake 23 = .ok (.lload 4, 2) := by decide +kernel
theorem dX12_brake_25 : decode cX12_brake 25 = .ok (.lconst 1, 1) := by decide +kernel
theorem dX12_brake_26 : decode cX12_brake 26 = .ok (.ladd, 1) := by decide +kernel
theorem dX12_brake_27 : decode cX12_brake 27 = .ok (.lmul, 1) := by decide +kernel
theorem dX12_brake_28 : decode cX12_brake 28 = .ok (.ldc2_w 351, 3) := by decide +kernel
theorem dX12_brake_31 : decode cX12_brake 31 = .ok (.ldiv, 1) := by decide +kernel
theorem dX12_brake_32 : decode cX12_brake 32 = .ok (.lsub, 1) := by decide +kernel
theorem dX12_brake_33 : decode cX12_brake 33 = .ok (.lreturn, 1) := by decide +kernel
theorem dX12_moveAxis_0 : decode cX12_moveAxis 0 = .ok (.aload_n 0, 1) := by decide +kernel
theorem dX12_moveAxis_1 : decode cX12_moveAxis 1 = .ok (.getfield 157, 3) := by decide +kernel
theorem dX12_moveAxis_4 : decode cX12_moveAxis 4 = .ok (.iload_n 1, 1) := by decide +kernel
theorem dX12_moveAxis_5 : decode cX12_moveAxis 5 = .ok (.iaload, 1) := by decide +kernel
theorem dX12_moveAxis_6 : decode cX12_moveAxis 6 = .ok (.istore_n 2, 1) := by decide +kernel
theorem dX12_moveAxis_7 : decode cX12_moveAxis 7 = .ok (.aload_n 0, 1) := by decide +kernel
theorem dX12_moveAxis_8 : decode cX12_moveAxis 8 = .ok (.getfield 163, 3) := by decide +kernel
theorem dX12_moveAxis_11 : decode cX12_moveAxis 11 = .ok (.iload_n 1, 1) := by decide +kernel
theorem dX12_moveAxis_12 : decode cX12_moveAxis 12 = .ok (.iaload, 1) := by decide +kernel
theorem dX12_moveAxis_13 : decode cX12_moveAxis 13 = .ok (.istore_n 3, 1) := by decide +kernel
theorem dX12_moveAxis_14 : decode cX12_moveAxis 14 = .ok (.aload_n 0, 1) := by decide +kernel
theorem dX12_moveAxis_15 : decode cX12_moveAxis 15 = .ok (.getfield 166, 3) := by decide +kernel
theorem dX12_moveAxis_18 : decode cX12_moveAxis 18 = .ok (.iload_n 1, 1) := by decide +kernel
theorem dX12_moveAxis_19 : decode cX12_moveAxis 19 = .ok (.iaload, 1) := by decide +kernel
theorem dX12_moveAxis_20 : decode cX12_moveAxis 20 = .ok (.iconst (-1), 1) := by decide +kernel
theorem dX12_moveAxis_21 : decode cX12_moveAxis 21 = .ok (.if_icmp .ne 44, 3) := by decide +kernel
theorem dX12_moveAxis_24 : decode cX12_moveAxis 24 = .ok (.aload_n 0, 1) := by decide +kernel
theorem dX12_moveAxis_25 : decode cX12_moveAxis 25 = .ok (.getfield 163, 3) := by decide +kernel
theorem dX12_moveAxis_28 : decode cX12_moveAxis 28 = .ok (.iload_n 1, 1) := by decide +kernel
theorem dX12_moveAxis_29 : decode cX12_moveAxis 29 = .ok (.iload_n 3, 1) := by decide +kernel
theorem dX12_moveAxis_30 : decode cX12_moveAxis 30 = .ok (.ifCond .le 18, 3) := by decide +kernel
theorem dX12_moveAxis_33 : decode cX12_moveAxis 33 = .ok (.iload_n 3, 1) := by decide +kernel
theorem dX12_moveAxis_34 : decode cX12_moveAxis 34 = .ok (.iload_n 2, 1) := by decide +kernel
theorem dX12_moveAxis_35 : decode cX12_moveAxis 35 = .ok (.if_icmp .le 9, 3) := by decide +kernel
theorem dX12_moveAxis_38 : decode cX12_moveAxis 38 = .ok (.iload_n 3, 1) := by decide +kernel
theorem dX12_moveAxis_39 : decode cX12_moveAxis 39 = .ok (.iload_n 2, 1) := by decide +kernel
theorem dX12_moveAxis_40 : decode cX12_moveAxis 40 = .ok (.isub, 1) := by decide +kernel
theorem dX12_moveAxis_41 : decode cX12_moveAxis 41 = .ok (.goto 20, 3) := by decide +kernel
theorem dX12_moveAxis_44 : decode cX12_moveAxis 44 = .ok (.iconst 0, 1) := by decide +kernel
theorem dX12_moveAxis_45 : decode cX12_moveAxis 45 = .ok (.goto 16, 3) := by decide +kernel
theorem dX12_moveAxis_48 : decode cX12_moveAxis 48 = .ok (.iload_n 3, 1) := by decide +kernel
theorem dX12_moveAxis_49 : decode cX12_moveAxis 49 = .ok (.iload_n 2, 1) := by decide +kernel
theorem dX12_moveAxis_50 : decode cX12_moveAxis 50 = .ok (.ineg, 1) := by decide +kernel
theorem dX12_moveAxis_51 : decode cX12_moveAxis 51 = .ok (.if_icmp .ge 9, 3) := by decide +kernel
theorem dX12_moveAxis_54 : decode cX12_moveAxis 54 = .ok (.iload_n 3, 1) := by decide +kernel
theorem dX12_moveAxis_55 : decode cX12_moveAxis 55 = .ok (.iload_n 2, 1) := by decide +kernel
theorem dX12_moveAxis_56 : decode cX12_moveAxis 56 = .ok (.iadd, 1) := by decide +kernel
theorem dX12_moveAxis_57 : decode cX12_moveAxis 57 = .ok (.goto 4, 3) := by decide +kernel
theorem dX12_moveAxis_60 : decode cX12_moveAxis 60 = .ok (.iconst 0, 1) := by decide +kernel
theorem dX12_moveAxis_61 : decode cX12_moveAxis 61 = .ok (.iastore, 1) := by decide +kernel
theorem dX12_moveAxis_62 : decode cX12_moveAxis 62 = .ok (.goto 213, 3) := by decide +kernel
theorem dX12_moveAxis_65 : decode cX12_moveAxis 65 = .ok (.aload_n 0, 1) := by decide +kernel
theorem dX12_moveAxis_66 : decode cX12_moveAxis 66 = .ok (.getfield 166, 3) := by decide +kernel
theorem dX12_moveAxis_69 : decode cX12_moveAxis 69 = .ok (.iload_n 1, 1) := by decide +kernel
theorem dX12_moveAxis_70 : decode cX12_moveAxis 70 = .ok (.iaload, 1) := by decide +kernel
theorem dX12_moveAxis_71 : decode cX12_moveAxis 71 = .ok (.aload_n 0, 1) := by decide +kernel
theorem dX12_moveAxis_72 : decode cX12_moveAxis 72 = .ok (.getfield 160, 3) := by decide +kernel
theorem dX12_moveAxis_75 : decode cX12_moveAxis 75 = .ok (.iload_n 1, 1) := by decide +kernel
theorem dX12_moveAxis_76 : decode cX12_moveAxis 76 = .ok (.iaload, 1) := by decide +kernel
theorem dX12_moveAxis_77 : decode cX12_moveAxis 77 = .ok (.if_icmp .lt 7, 3) := by decide +kernel
theorem dX12_moveAxis_80 : decode cX12_moveAxis 80 = .ok (.iconst 1, 1) := by decide +kernel
theorem dX12_moveAxis_81 : decode cX12_moveAxis 81 = .ok (.goto 4, 3) := by decide +kernel
theorem dX12_moveAxis_84 : decode cX12_moveAxis 84 = .ok (.iconst (-1), 1) := by decide +kernel
theorem dX12_moveAxis_85 : decode cX12_moveAxis 85 = .ok (.istore 4, 2) := by decide +kernel
theorem dX12_moveAxis_87 : decode cX12_moveAxis 87 = .ok (.aload_n 0, 1) := by decide +kernel
theorem dX12_moveAxis_88 : decode cX12_moveAxis 88 = .ok (.getfield 166, 3) := by decide +kernel
theorem dX12_moveAxis_91 : decode cX12_moveAxis 91 = .ok (.iload_n 1, 1) := by decide +kernel
theorem dX12_moveAxis_92 : decode cX12_moveAxis 92 = .ok (.iaload, 1) := by decide +kernel
theorem dX12_moveAxis_93 : decode cX12_moveAxis 93 = .ok (.aload_n 0, 1) := by decide +kernel
theorem dX12_moveAxis_94 : decode cX12_moveAxis 94 = .ok (.getfield 160, 3) := by decide +kernel
theorem dX12_moveAxis_97 : decode cX12_moveAxis 97 = .ok (.iload_n 1, 1) := by decide +kernel
theorem dX12_moveAxis_98 : decode cX12_moveAxis 98 = .ok (.iaload, 1) := by decide +kernel
theorem dX12_moveAxis_99 : decode cX12_moveAxis 99 = .ok (.isub, 1) := by decide +kernel
theorem dX12_moveAxis_100 : decode cX12_moveAxis 100 = .ok (.iload 4, 2) := by decide +kernel
theorem dX12_moveAxis_102 : decode cX12_moveAxis 102 = .ok (.imul, 1) := by decide +kernel
theorem dX12_moveAxis_103 : decode cX12_moveAxis 103 = .ok (.istore 5, 2) := by decide +kernel
theorem dX12_moveAxis_105 : decode cX12_moveAxis 105 = .ok (.iload_n 3, 1) := by decide +kernel
theorem dX12_moveAxis_106 : decode cX12_moveAxis 106 = .ok (.iload 4, 2) := by decide +kernel
theorem dX12_moveAxis_108 : decode cX12_moveAxis 108 = .ok (.imul, 1) := by decide +kernel
theorem dX12_moveAxis_109 : decode cX12_moveAxis 109 = .ok (.istore_n 3, 1) := by decide +kernel
theorem dX12_moveAxis_110 : decode cX12_moveAxis 110 = .ok (.aload_n 0, 1) := by decide +kernel
theorem dX12_moveAxis_111 : decode cX12_moveAxis 111 = .ok (.getfield 175, 3) := by decide +kernel
theorem dX12_moveAxis_114 : decode cX12_moveAxis 114 = .ok (.iload_n 1, 1) := by decide +kernel
theorem dX12_moveAxis_115 : decode cX12_moveAxis 115 = .ok (.iaload, 1) := by decide +kernel
theorem dX12_moveAxis_116 : decode cX12_moveAxis 116 = .ok (.iconst 4, 1) := by decide +kernel
theorem dX12_moveAxis_117 : decode cX12_moveAxis 117 = .ok (.idiv, 1) := by decide +kernel
theorem dX12_moveAxis_118 : decode cX12_moveAxis 118 = .ok (.iconst 2, 1) := by decide +kernel
theorem dX12_moveAxis_119 : decode cX12_moveAxis 119 = .ok (.irem, 1) := by decide +kernel
theorem dX12_moveAxis_120 : decode cX12_moveAxis 120 = .ok (.iconst 1, 1) := by decide +kernel
theorem dX12_moveAxis_121 : decode cX12_moveAxis 121 = .ok (.if_icmp .ne 14, 3) := by decide +kernel
theorem dX12_moveAxis_124 : decode cX12_moveAxis 124 = .ok (.aload_n 0, 1) := by decide +kernel
theorem dX12_moveAxis_125 : decode cX12_moveAxis 125 = .ok (.getfield 154, 3) := by decide +kernel
theorem dX12_moveAxis_128 : decode cX12_moveAxis 128 = .ok (.iload_n 1, 1) := by decide +kernel
theorem dX12_moveAxis_129 : decode cX12_moveAxis 129 = .ok (.iaload, 1) := by decide +kernel
theorem dX12_moveAxis_130 : decode cX12_moveAxis 130 = .ok (.iconst 2, 1) := by decide +kernel
theorem dX12_moveAxis_131 : decode cX12_moveAxis 131 = .ok (.idiv, 1) := by decide +kernel
theorem dX12_moveAxis_132 : decode cX12_moveAxis 132 = .ok (.goto 9, 3) := by decide +kernel
theorem dX12_moveAxis_135 : decode cX12_moveAxis 135 = .ok (.aload_n 0, 1) := by decide +kernel
theorem dX12_moveAxis_136 : decode cX12_moveAxis 136 = .ok (.getfield 154, 3) := by decide +kernel
theorem dX12_moveAxis_139 : decode cX12_moveAxis 139 = .ok (.iload_n 1, 1) := by decide +kernel
theorem dX12_moveAxis_140 : decode cX12_moveAxis 140 = .ok (.iaload, 1) := by decide +kernel
theorem dX12_moveAxis_141 : decode cX12_moveAxis 141 = .ok (.istore 6, 2) := by decide +kernel
theorem dX12_moveAxis_143 : decode cX12_moveAxis 143 = .ok (.iload 6, 2) := by decide +kernel
theorem dX12_moveAxis_145 : decode cX12_moveAxis 145 = .ok (.iconst 1, 1) := by decide +kernel
theorem dX12_moveAxis_146 : decode cX12_moveAxis 146 = .ok (.if_icmp .ge 7, 3) := by decide +kernel
theorem dX12_moveAxis_149 : decode cX12_moveAxis 149 = .ok (.iconst 1, 1) := by decide +kernel
theorem dX12_moveAxis_150 : decode cX12_moveAxis 150 = .ok (.goto 5, 3) := by decide +kernel
theorem dX12_moveAxis_153 : decode cX12_moveAxis 153 = .ok (.iload 6, 2) := by decide +kernel
theorem dX12_moveAxis_155 : decode cX12_moveAxis 155 = .ok (.istore 6, 2) := by decide +kernel
theorem dX12_moveAxis_157 : decode cX12_moveAxis 157 = .ok (.iload_n 3, 1) := by decide +kernel
theorem dX12_moveAxis_158 : decode cX12_moveAxis 158 = .ok (.ifCond .ge 21, 3) := by decide +kernel
theorem dX12_moveAxis_161 : decode cX12_moveAxis 161 = .ok (.iload_n 3, 1) := by decide +kernel
theorem dX12_moveAxis_162 : decode cX12_moveAxis 162 = .ok (.iload_n 2, 1) := by decide +kernel
theorem dX12_moveAxis_163 : decode cX12_moveAxis 163 = .ok (.iadd, 1) := by decide +kernel
theorem dX12_moveAxis_164 : decode cX12_moveAxis 164 = .ok (.ifCond .le 7, 3) := by decide +kernel
theorem dX12_moveAxis_167 : decode cX12_moveAxis 167 = .ok (.iconst 0, 1) := by decide +kernel
theorem dX12_moveAxis_168 : decode cX12_moveAxis 168 = .ok (.goto 6, 3) := by decide +kernel
theorem dX12_moveAxis_171 : decode cX12_moveAxis 171 = .ok (.iload_n 3, 1) := by decide +kernel
theorem dX12_moveAxis_172 : decode cX12_moveAxis 172 = .ok (.iload_n 2, 1) := by decide +kernel
theorem dX12_moveAxis_173 : decode cX12_moveAxis 173 = .ok (.iadd, 1) := by decide +kernel
theorem dX12_moveAxis_174 : decode cX12_moveAxis 174 = .ok (.istore 7, 2) := by decide +kernel
theorem dX12_moveAxis_176 : decode cX12_moveAxis 176 = .ok (.goto 88, 3) := by decide +kernel
theorem dX12_moveAxis_179 : decode cX12_moveAxis 179 = .ok (.iload_n 3, 1) := by decide +kernel
theorem dX12_moveAxis_180 : decode cX12_moveAxis 180 = .ok (.iload_n 2, 1) := by decide +kernel
theorem dX12_moveAxis_181 : decode cX12_moveAxis 181 = .ok (.iadd, 1) := by decide +kernel
theorem dX12_moveAxis_182 : decode cX12_moveAxis 182 = .ok (.iload 6, 2) := by decide +kernel
theorem dX12_moveAxis_184 : decode cX12_moveAxis 184 = .ok (.if_icmp .ge 9, 3) := by decide +kernel
theorem dX12_moveAxis_187 : decode cX12_moveAxis 187 = .ok (.iload_n 3, 1) := by decide +kernel
theorem dX12_moveAxis_188 : decode cX12_moveAxis 188 = .ok (.iload_n 2, 1) := by decide +kernel
theorem dX12_moveAxis_189 : decode cX12_moveAxis 189 = .ok (.iadd, 1) := by decide +kernel
theorem dX12_moveAxis_190 : decode cX12_moveAxis 190 = .ok (.goto 5, 3) := by decide +kernel
theorem dX12_moveAxis_193 : decode cX12_moveAxis 193 = .ok (.iload 6, 2) := by decide +kernel
theorem dX12_moveAxis_195 : decode cX12_moveAxis 195 = .ok (.istore 8, 2) := by decide +kernel
theorem dX12_moveAxis_197 : decode cX12_moveAxis 197 = .ok (.iload_n 3, 1) := by decide +kernel
theorem dX12_moveAxis_198 : decode cX12_moveAxis 198 = .ok (.iload_n 2, 1) := by decide +kernel
theorem dX12_moveAxis_199 : decode cX12_moveAxis 199 = .ok (.isub, 1) := by decide +kernel
theorem dX12_moveAxis_200 : decode cX12_moveAxis 200 = .ok (.ifCond .le 9, 3) := by decide +kernel
theorem dX12_moveAxis_203 : decode cX12_moveAxis 203 = .ok (.iload_n 3, 1) := by decide +kernel
theorem dX12_moveAxis_204 : decode cX12_moveAxis 204 = .ok (.iload_n 2, 1) := by decide +kernel
theorem dX12_moveAxis_205 : decode cX12_moveAxis 205 = .ok (.isub, 1) := by decide +kernel
theorem dX12_moveAxis_206 : decode cX12_moveAxis 206 = .ok (.goto 4, 3) := by decide +kernel
theorem dX12_moveAxis_209 : decode cX12_moveAxis 209 = .ok (.iconst 0, 1) := by decide +kernel
theorem dX12_moveAxis_210 : decode cX12_moveAxis 210 = .ok (.istore 9, 2) := by decide +kernel
theorem dX12_moveAxis_212 : decode cX12_moveAxis 212 = .ok (.iload 8, 2) := by decide +kernel
theorem dX12_moveAxis_214 : decode cX12_moveAxis 214 = .ok (.istore 7, 2) := by decide +kernel
theorem dX12_moveAxis_216 : decode cX12_moveAxis 216 = .ok (.iload 7, 2) := by decide +kernel
theorem dX12_moveAxis_218 : decode cX12_moveAxis 218 = .ok (.iload 9, 2) := by decide +kernel
theorem dX12_moveAxis_220 : decode cX12_moveAxis 220 = .ok (.if_icmp .lt 28, 3) := by decide +kernel
theorem dX12_moveAxis_223 : decode cX12_moveAxis 223 = .ok (.iload 7, 2) := by decide +kernel
theorem dX12_moveAxis_225 : decode cX12_moveAxis 225 = .ok (.i2l, 1) := by decide +kernel
theorem dX12_moveAxis_226 : decode cX12_moveAxis 226 = .ok (.iload 7, 2) := by decide +kernel
theorem dX12_moveAxis_228 : decode cX12_moveAxis 228 = .ok (.i2l, 1) := by decide +kernel
theorem dX12_moveAxis_229 : decode cX12_moveAxis 229 = .ok (.iload_n 2, 1) := by decide +kernel
theorem dX12_moveAxis_230 : decode cX12_moveAxis 230 = .ok (.i2l, 1) := by decide +kernel
theorem dX12_moveAxis_231 : decode cX12_moveAxis 231 = .ok (.invokestatic 574, 3) := by decide +kernel
theorem dX12_moveAxis_234 : decode cX12_moveAxis 234 = .ok (.ladd, 1) := by decide +kernel
theorem dX12_moveAxis_235 : decode cX12_moveAxis 235 = .ok (.iload 5, 2) := by decide +kernel
theorem dX12_moveAxis_237 : decode cX12_moveAxis 237 = .ok (.i2l, 1) := by decide +kernel
theorem dX12_moveAxis_238 : decode cX12_moveAxis 238 = .ok (.lcmp, 1) := by decide +kernel
theorem dX12_moveAxis_239 : decode cX12_moveAxis 239 = .ok (.ifCond .le 9, 3) := by decide +kernel
theorem dX12_moveAxis_242 : decode cX12_moveAxis 242 = .ok (.iinc 7 (-1), 3) := by decide +kernel
theorem dX12_moveAxis_245 : decode cX12_moveAxis 245 = .ok (.goto (-29), 3) := by decide +kernel
theorem dX12_moveAxis_248 : decode cX12_moveAxis 248 = .ok (.iload 7, 2) := by decide +kernel
theorem dX12_moveAxis_250 : decode cX12_moveAxis 250 = .ok (.iload 9, 2) := by decide +kernel
theorem dX12_moveAxis_252 : decode cX12_moveAxis 252 = .ok (.if_icmp .ge 8, 3) := by decide +kernel
theorem dX12_moveAxis_255 : decode cX12_moveAxis 255 = .ok (.iload 9, 2) := by decide +kernel
theorem dX12_moveAxis_257 : decode cX12_moveAxis 257 = .ok (.goto 5, 3) := by decide +kernel
theorem dX12_moveAxis_260 : decode cX12_moveAxis 260 = .ok (.iload 7, 2) := by decide +kernel
theorem dX12_moveAxis_262 : decode cX12_moveAxis 262 = .ok (.istore 7, 2) := by decide +kernel
theorem dX12_moveAxis_264 : decode cX12_moveAxis 264 = .ok (.aload_n 0, 1) := by decide +kernel
theorem dX12_moveAxis_265 : decode cX12_moveAxis 265 = .ok (.getfield 163, 3) := by decide +kernel
theorem dX12_moveAxis_268 : decode cX12_moveAxis 268 = .ok (.iload_n 1, 1) := by decide +kernel
theorem dX12_moveAxis_269 : decode cX12_moveAxis 269 = .ok (.iload 7, 2) := by decide +kernel
theorem dX12_moveAxis_271 : decode cX12_moveAxis 271 = .ok (.iload 4, 2) := by decide +kernel
theorem dX12_moveAxis_273 : decode cX12_moveAxis 273 = .ok (.imul, 1) := by decide +kernel
theorem dX12_moveAxis_274 : decode cX12_moveAxis 274 = .ok (.iastore, 1) := by decide +kernel
theorem dX12_moveAxis_275 : decode cX12_moveAxis 275 = .ok (.aload_n 0, 1) := by decide +kernel
theorem dX12_moveAxis_276 : decode cX12_moveAxis 276 = .ok (.getfield 160, 3) := by decide +kernel
theorem dX12_moveAxis_279 : decode cX12_moveAxis 279 = .ok (.iload_n 1, 1) := by decide +kernel
theorem dX12_moveAxis_280 : decode cX12_moveAxis 280 = .ok (.dup2, 1) := by decide +kernel
theorem dX12_moveAxis_281 : decode cX12_moveAxis 281 = .ok (.iaload, 1) := by decide +kernel
theorem dX12_moveAxis_282 : decode cX12_moveAxis 282 = .ok (.aload_n 0, 1) := by decide +kernel
theorem dX12_moveAxis_283 : decode cX12_moveAxis 283 = .ok (.getfield 163, 3) := by decide +kernel
theorem dX12_moveAxis_286 : decode cX12_moveAxis 286 = .ok (.iload_n 1, 1) := by decide +kernel
theorem dX12_moveAxis_287 : decode cX12_moveAxis 287 = .ok (.iaload, 1) := by decide +kernel
theorem dX12_moveAxis_288 : decode cX12_moveAxis 288 = .ok (.iadd, 1) := by decide +kernel
theorem dX12_moveAxis_289 : decode cX12_moveAxis 289 = .ok (.iastore, 1) := by decide +kernel
theorem dX12_moveAxis_290 : decode cX12_moveAxis 290 = .ok (.aload_n 0, 1) := by decide +kernel
theorem dX12_moveAxis_291 : decode cX12_moveAxis 291 = .ok (.getfield 166, 3) := by decide +kernel
theorem dX12_moveAxis_294 : decode cX12_moveAxis 294 = .ok (.iload_n 1, 1) := by decide +kernel
theorem dX12_moveAxis_295 : decode cX12_moveAxis 295 = .ok (.iaload, 1) := by decide +kernel
theorem dX12_moveAxis_296 : decode cX12_moveAxis 296 = .ok (.iconst (-1), 1) := by decide +kernel
theorem dX12_moveAxis_297 : decode cX12_moveAxis 297 = .ok (.if_icmp .eq 34, 3) := by decide +kernel
theorem dX12_moveAxis_300 : decode cX12_moveAxis 300 = .ok (.aload_n 0, 1) := by decide +kernel
theorem dX12_moveAxis_301 : decode cX12_moveAxis 301 = .ok (.getfield 160, 3) := by decide +kernel
theorem dX12_moveAxis_304 : decode cX12_moveAxis 304 = .ok (.iload_n 1, 1) := by decide +kernel
theorem dX12_moveAxis_305 : decode cX12_moveAxis 305 = .ok (.iaload, 1) := by decide +kernel
theorem dX12_moveAxis_306 : decode cX12_moveAxis 306 = .ok (.aload_n 0, 1) := by decide +kernel
theorem dX12_moveAxis_307 : decode cX12_moveAxis 307 = .ok (.getfield 166, 3) := by decide +kernel
theorem dX12_moveAxis_310 : decode cX12_moveAxis 310 = .ok (.iload_n 1, 1) := by decide +kernel
theorem dX12_moveAxis_311 : decode cX12_moveAxis 311 = .ok (.iaload, 1) := by decide +kernel
theorem dX12_moveAxis_312 : decode cX12_moveAxis 312 = .ok (.if_icmp .ne 19, 3) := by decide +kernel
theorem dX12_moveAxis_315 : decode cX12_moveAxis 315 = .ok (.aload_n 0, 1) := by decide +kernel
theorem dX12_moveAxis_316 : decode cX12_moveAxis 316 = .ok (.getfield 163, 3) := by decide +kernel
theorem dX12_moveAxis_319 : decode cX12_moveAxis 319 = .ok (.iload_n 1, 1) := by decide +kernel
theorem dX12_moveAxis_320 : decode cX12_moveAxis 320 = .ok (.iaload, 1) := by decide +kernel
theorem dX12_moveAxis_321 : decode cX12_moveAxis 321 = .ok (.ifCond .ne 10, 3) := by decide +kernel
theorem dX12_moveAxis_324 : decode cX12_moveAxis 324 = .ok (.aload_n 0, 1) := by decide +kernel
theorem dX12_moveAxis_325 : decode cX12_moveAxis 325 = .ok (.getfield 166, 3) := by decide +kernel
theorem dX12_moveAxis_328 : decode cX12_moveAxis 328 = .ok (.iload_n 1, 1) := by decide +kernel
theorem dX12_moveAxis_329 : decode cX12_moveAxis 329 = .ok (.iconst (-1), 1) := by decide +kernel
theorem dX12_moveAxis_330 : decode cX12_moveAxis 330 = .ok (.iastore, 1) := by decide +kernel
theorem dX12_moveAxis_331 : decode cX12_moveAxis 331 = .ok (.return_, 1) := by decide +kernel
theorem dX12_tick_0 : decode cX12_tick 0 = .ok (.iload_n 1, 1) := by decide +kernel
theorem dX12_tick_1 : decode cX12_tick 1 = .ok (.ifCond .lt 10, 3) := by decide +kernel
theorem dX12_tick_4 : decode cX12_tick 4 = .ok (.iload_n 1, 1) := by decide +kernel
theorem dX12_tick_5 : decode cX12_tick 5 = .ok (.sipush 500, 3) := by decide +kernel
theorem dX12_tick_8 : decode cX12_tick 8 = .ok (.if_icmp .le 5, 3) := by decide +kernel
theorem dX12_tick_11 : decode cX12_tick 11 = .ok (.iconst (-1), 1) := by decide +kernel
theorem dX12_tick_12 : decode cX12_tick 12 = .ok (.ireturn, 1) := by decide +kernel
theorem dX12_tick_13 : decode cX12_tick 13 = .ok (.iconst 0, 1) := by decide +kernel
theorem dX12_tick_14 : decode cX12_tick 14 = .ok (.istore_n 2, 1) := by decide +kernel
theorem dX12_tick_15 : decode cX12_tick 15 = .ok (.iload_n 2, 1) := by decide +kernel
theorem dX12_tick_16 : decode cX12_tick 16 = .ok (.iload_n 1, 1) := by decide +kernel
theorem dX12_tick_17 : decode cX12_tick 17 = .ok (.if_icmp .ge 13, 3) := by decide +kernel
theorem dX12_tick_20 : decode cX12_tick 20 = .ok (.aload_n 0, 1) := by decide +kernel
theorem dX12_tick_21 : decode cX12_tick 21 = .ok (.invokevirtual 577, 3) := by decide +kernel
theorem dX12_tick_24 : decode cX12_tick 24 = .ok (.iinc 2 1, 3) := by decide +kernel
theorem dX12_tick_27 : decode cX12_tick 27 = .ok (.goto (-12), 3) := by decide +kernel
theorem dX12_tick_30 : decode cX12_tick 30 = .ok (.aload_n 0, 1) := by decide +kernel
theorem dX12_tick_31 : decode cX12_tick 31 = .ok (.getfield 490, 3) := by decide +kernel
theorem dX12_tick_34 : decode cX12_tick 34 = .ok (.ireturn, 1) := by decide +kernel
theorem dX12_oneTick_0 : decode cX12_oneTick 0 = .ok (.aload_n 0, 1) := by decide +kernel
theorem dX12_oneTick_1 : decode cX12_oneTick 1 = .ok (.dup, 1) := by decide +kernel
theorem dX12_oneTick_2 : decode cX12_oneTick 2 = .ok (.getfield 490, 3) := by decide +kernel
theorem dX12_oneTick_5 : decode cX12_oneTick 5 = .ok (.iconst 1, 1) := by decide +kernel
theorem dX12_oneTick_6 : decode cX12_oneTick 6 = .ok (.iadd, 1) := by decide +kernel
theorem dX12_oneTick_7 : decode cX12_oneTick 7 = .ok (.putfield 490, 3) := by decide +kernel
theorem dX12_oneTick_10 : decode cX12_oneTick 10 = .ok (.iconst 0, 1) := by decide +kernel
theorem dX12_oneTick_11 : decode cX12_oneTick 11 = .ok (.istore_n 1, 1) := by decide +kernel
theorem dX12_oneTick_12 : decode cX12_oneTick 12 = .ok (.iload_n 1, 1) := by decide +kernel
theorem dX12_oneTick_13 : decode cX12_oneTick 13 = .ok (.sipush 260, 3) := by decide +kernel
theorem dX12_oneTick_16 : decode cX12_oneTick 16 = .ok (.if_icmp .ge 103, 3) := by decide +kernel
theorem dX12_oneTick_19 : decode cX12_oneTick 19 = .ok (.aload_n 0, 1) := by decide +kernel
theorem dX12_oneTick_20 : decode cX12_oneTick 20 = .ok (.getfield 133, 3) := by decide +kernel
theorem dX12_oneTick_23 : decode cX12_oneTick 23 = .ok (.iload_n 1, 1) := by decide +kernel
theorem dX12_oneTick_24 : decode cX12_oneTick 24 = .ok (.iaload, 1) := by decide +kernel
theorem dX12_oneTick_25 : decode cX12_oneTick 25 = .ok (.ifCond .le 88, 3) := by decide +kernel
theorem dX12_oneTick_28 : decode cX12_oneTick 28 = .ok (.aload_n 0, 1) := by decide +kernel
theorem dX12_oneTick_29 : decode cX12_oneTick 29 = .ok (.getfield 490, 3) := by decide +kernel
theorem dX12_oneTick_32 : decode cX12_oneTick 32 = .ok (.aload_n 0, 1) := by decide +kernel
theorem dX12_oneTick_33 : decode cX12_oneTick 33 = .ok (.getfield 130, 3) := by decide +kernel
theorem dX12_oneTick_36 : decode cX12_oneTick 36 = .ok (.iload_n 1, 1) := by decide +kernel
theorem dX12_oneTick_37 : decode cX12_oneTick 37 = .ok (.iaload, 1) := by decide +kernel
theorem dX12_oneTick_38 : decode cX12_oneTick 38 = .ok (.isub, 1) := by decide +kernel
theorem dX12_oneTick_39 : decode cX12_oneTick 39 = .ok (.istore_n 2, 1) := by decide +kernel
theorem dX12_oneTick_40 : decode cX12_oneTick 40 = .ok (.iload_n 2, 1) := by decide +kernel
theorem dX12_oneTick_41 : decode cX12_oneTick 41 = .ok (.aload_n 0, 1) := by decide +kernel
theorem dX12_oneTick_42 : decode cX12_oneTick 42 = .ok (.getfield 133, 3) := by decide +kernel
theorem dX12_oneTick_45 : decode cX12_oneTick 45 = .ok (.iload_n 1, 1) := by decide +kernel
theorem dX12_oneTick_46 : decode cX12_oneTick 46 = .ok (.iaload, 1) := by decide +kernel
theorem dX12_oneTick_47 : decode cX12_oneTick 47 = .ok (.if_icmp .lt 25, 3) := by decide +kernel
theorem dX12_oneTick_50 : decode cX12_oneTick 50 = .ok (.aload_n 0, 1) := by decide +kernel
theorem dX12_oneTick_51 : decode cX12_oneTick 51 = .ok (.getfield 121, 3) := by decide +kernel
theorem dX12_oneTick_54 : decode cX12_oneTick 54 = .ok (.iload_n 1, 1) := by decide +kernel
theorem dX12_oneTick_55 : decode cX12_oneTick 55 = .ok (.aload_n 0, 1) := by decide +kernel
theorem dX12_oneTick_56 : decode cX12_oneTick 56 = .ok (.getfield 124, 3) := by decide +kernel
theorem dX12_oneTick_59 : decode cX12_oneTick 59 = .ok (.iload_n 1, 1) := by decide +kernel
theorem dX12_oneTick_60 : decode cX12_oneTick 60 = .ok (.iaload, 1) := by decide +kernel
theorem dX12_oneTick_61 : decode cX12_oneTick 61 = .ok (.iastore, 1) := by decide +kernel
theorem dX12_oneTick_62 : decode cX12_oneTick 62 = .ok (.aload_n 0, 1) := by decide +kernel
theorem dX12_oneTick_63 : decode cX12_oneTick 63 = .ok (.getfield 133, 3) := by decide +kernel
theorem dX12_oneTick_66 : decode cX12_oneTick 66 = .ok (.iload_n 1, 1) := by decide +kernel
theorem dX12_oneTick_67 : decode cX12_oneTick 67 = .ok (.iconst 0, 1) := by decide +kernel
theorem dX12_oneTick_68 : decode cX12_oneTick 68 = .ok (.iastore, 1) := by decide +kernel
theorem dX12_oneTick_69 : decode cX12_oneTick 69 = .ok (.goto 44, 3) := by decide +kernel
theorem dX12_oneTick_72 : decode cX12_oneTick 72 = .ok (.aload_n 0, 1) := by decide +kernel
theorem dX12_oneTick_73 : decode cX12_oneTick 73 = .ok (.getfield 121, 3) := by decide +kernel
theorem dX12_oneTick_76 : decode cX12_oneTick 76 = .ok (.iload_n 1, 1) := by decide +kernel
theorem dX12_oneTick_77 : decode cX12_oneTick 77 = .ok (.aload_n 0, 1) := by decide +kernel
theorem dX12_oneTick_78 : decode cX12_oneTick 78 = .ok (.getfield 127, 3) := by decide +kernel
theorem dX12_oneTick_81 : decode cX12_oneTick 81 = .ok (.iload_n 1, 1) := by decide +kernel
theorem dX12_oneTick_82 : decode cX12_oneTick 82 = .ok (.iaload, 1) := by decide +kernel
theorem dX12_oneTick_83 : decode cX12_oneTick 83 = .ok (.aload_n 0, 1) := by decide +kernel
theorem dX12_oneTick_84 : decode cX12_oneTick 84 = .ok (.getfield 124, 3) := by decide +kernel
theorem dX12_oneTick_87 : decode cX12_oneTick 87 = .ok (.iload_n 1, 1) := by decide +kernel
theorem dX12_oneTick_88 : decode cX12_oneTick 88 = .ok (.iaload, 1) := by decide +kernel
theorem dX12_oneTick_89 : decode cX12_oneTick 89 = .ok (.aload_n 0, 1) := by decide +kernel
theorem dX12_oneTick_90 : decode cX12_oneTick 90 = .ok (.getfield 127, 3) := by decide +kernel
theorem dX12_oneTick_93 : decode cX12_oneTick 93 = .ok (.iload_n 1, 1) := by decide +kernel
theorem dX12_oneTick_94 : decode cX12_oneTick 94 = .ok (.iaload, 1) := by decide +kernel
theorem dX12_oneTick_95 : decode cX12_oneTick 95 = .ok (.isub, 1) := by decide +kernel
theorem dX12_oneTick_96 : decode cX12_oneTick 96 = .ok (.i2l, 1) := by decide +kernel
theorem dX12_oneTick_97 : decode cX12_oneTick 97 = .ok (.iload_n 2, 1) := by decide +kernel
theorem dX12_oneTick_98 : decode cX12_oneTick 98 = .ok (.i2l, 1) := by decide +kernel
theorem dX12_oneTick_99 : decode cX12_oneTick 99 = .ok (.lmul, 1) := by decide +kernel
theorem dX12_oneTick_100 : decode cX12_oneTick 100 = .ok (.aload_n 0, 1) := by decide +kernel
theorem dX12_oneTick_101 : decode cX12_oneTick 101 = .ok (.getfield 133, 3) := by decide +kernel
theorem dX12_oneTick_104 : decode cX12_oneTick 104 = .ok (.iload_n 1, 1) := by decide +kernel
theorem dX12_oneTick_105 : decode cX12_oneTick 105 = .ok (.iaload, 1) := by decide +kernel
theorem dX12_oneTick_106 : decode cX12_oneTick 106 = .ok (.i2l, 1) := by decide +kernel
theorem dX12_oneTick_107 : decode cX12_oneTick 107 = .ok (.invokestatic 521, 3) := by decide +kernel
theorem dX12_oneTick_110 : decode cX12_oneTick 110 = .ok (.l2i, 1) := by decide +kernel
theorem dX12_oneTick_111 : decode cX12_oneTick 111 = .ok (.iadd, 1) := by decide +kernel
theorem dX12_oneTick_112 : decode cX12_oneTick 112 = .ok (.iastore, 1) := by decide +kernel
theorem dX12_oneTick_113 : decode cX12_oneTick 113 = .ok (.iinc 1 1, 3) := by decide +kernel
theorem dX12_oneTick_116 : decode cX12_oneTick 116 = .ok (.goto (-104), 3) := by decide +kernel
theorem dX12_oneTick_119 : decode cX12_oneTick 119 = .ok (.iconst 0, 1) := by decide +kernel
theorem dX12_oneTick_120 : decode cX12_oneTick 120 = .ok (.istore_n 1, 1) := by decide +kernel
theorem dX12_oneTick_121 : decode cX12_oneTick 121 = .ok (.iload_n 1, 1) := by decide +kernel
theorem dX12_oneTick_122 : decode cX12_oneTick 122 = .ok (.iconst 4, 1) := by decide +kernel
theorem dX12_oneTick_123 : decode cX12_oneTick 123 = .ok (.if_icmp .ge 49, 3) := by decide +kernel
theorem dX12_oneTick_126 : decode cX12_oneTick 126 = .ok (.aload_n 0, 1) := by decide +kernel
theorem dX12_oneTick_127 : decode cX12_oneTick 127 = .ok (.getfield 112, 3) := by decide +kernel
theorem dX12_oneTick_130 : decode cX12_oneTick 130 = .ok (.iload_n 1, 1) := by decide +kernel
theorem dX12_oneTick_131 : decode cX12_oneTick 131 = .ok (.iaload, 1) := by decide +kernel
theorem dX12_oneTick_132 : decode cX12_oneTick 132 = .ok (.aload_n 0, 1) := by decide +kernel
theorem dX12_oneTick_133 : decode cX12_oneTick 133 = .ok (.getfield 490, 3) := by decide +kernel
theorem dX12_oneTick_136 : decode cX12_oneTick 136 = .ok (.if_icmp .ne 11, 3) := by decide +kernel
theorem dX12_oneTick_139 : decode cX12_oneTick 139 = .ok (.aload_n 0, 1) := by decide +kernel
theorem dX12_oneTick_140 : decode cX12_oneTick 140 = .ok (.iload_n 1, 1) := by decide +kernel
theorem dX12_oneTick_141 : decode cX12_oneTick 141 = .ok (.invokevirtual 487, 3) := by decide +kernel
theorem dX12_oneTick_144 : decode cX12_oneTick 144 = .ok (.goto 22, 3) := by decide +kernel
theorem dX12_oneTick_147 : decode cX12_oneTick 147 = .ok (.aload_n 0, 1) := by decide +kernel
theorem dX12_oneTick_148 : decode cX12_oneTick 148 = .ok (.getfield 115, 3) := by decide +kernel
theorem dX12_oneTick_151 : decode cX12_oneTick 151 = .ok (.iload_n 1, 1) := by decide +kernel
theorem dX12_oneTick_152 : decode cX12_oneTick 152 = .ok (.iaload, 1) := by decide +kernel
theorem dX12_oneTick_153 : decode cX12_oneTick 153 = .ok (.aload_n 0, 1) := by decide +kernel
theorem dX12_oneTick_154 : decode cX12_oneTick 154 = .ok (.getfield 490, 3) := by decide +kernel
theorem dX12_oneTick_157 : decode cX12_oneTick 157 = .ok (.if_icmp .ne 9, 3) := by decide +kernel
theorem dX12_oneTick_160 : decode cX12_oneTick 160 = .ok (.aload_n 0, 1) := by decide +kernel
theorem dX12_oneTick_161 : decode cX12_oneTick 161 = .ok (.iload_n 1, 1) := by decide +kernel
theorem dX12_oneTick_162 : decode cX12_oneTick 162 = .ok (.invokevirtual 513, 3) := by decide +kernel
theorem dX12_oneTick_165 : decode cX12_oneTick 165 = .ok (.istore_n 2, 1) := by decide +kernel
theorem dX12_oneTick_166 : decode cX12_oneTick 166 = .ok (.iinc 1 1, 3) := by decide +kernel
theorem dX12_oneTick_169 : decode cX12_oneTick 169 = .ok (.goto (-48), 3) := by decide +kernel
theorem dX12_oneTick_172 : decode cX12_oneTick 172 = .ok (.iconst 0, 1) := by decide +kernel
theorem dX12_oneTick_173 : decode cX12_oneTick 173 = .ok (.istore_n 1, 1) := by decide +kernel
theorem dX12_oneTick_174 : decode cX12_oneTick 174 = .ok (.iload_n 1, 1) := by decide +kernel
theorem dX12_oneTick_175 : decode cX12_oneTick 175 = .ok (.bipush 8, 2) := by decide +kernel
theorem dX12_oneTick_177 : decode cX12_oneTick 177 = .ok (.if_icmp .ge 43, 3) := by decide +kernel
theorem dX12_oneTick_180 : decode cX12_oneTick 180 = .ok (.aload_n 0, 1) := by decide +kernel
theorem dX12_oneTick_181 : decode cX12_oneTick 181 = .ok (.getfield 145, 3) := by decide +kernel
theorem dX12_oneTick_184 : decode cX12_oneTick 184 = .ok (.iload_n 1, 1) := by decide +kernel
theorem dX12_oneTick_185 : decode cX12_oneTick 185 = .ok (.baload, 1) := by decide +kernel
theorem dX12_oneTick_186 : decode cX12_oneTick 186 = .ok (.ifCond .eq 28, 3) := by decide +kernel
theorem dX12_oneTick_189 : decode cX12_oneTick 189 = .ok (.aload_n 0, 1) := by decide +kernel
theorem dX12_oneTick_190 : decode cX12_oneTick 190 = .ok (.getfield 166, 3) := by decide +kernel
theorem dX12_oneTick_193 : decode cX12_oneTick 193 = .ok (.iload_n 1, 1) := by decide +kernel
theorem dX12_oneTick_194 : decode cX12_oneTick 194 = .ok (.iaload, 1) := by decide +kernel
theorem dX12_oneTick_195 : decode cX12_oneTick 195 = .ok (.iconst (-1), 1) := by decide +kernel
theorem dX12_oneTick_196 : decode cX12_oneTick 196 = .ok (.if_icmp .eq 18, 3) := by decide +kernel
theorem dX12_oneTick_199 : decode cX12_oneTick 199 = .ok (.aload_n 0, 1) := by decide +kernel
theorem dX12_oneTick_200 : decode cX12_oneTick 200 = .ok (.iload_n 1, 1) := by decide +kernel
theorem dX12_oneTick_201 : decode cX12_oneTick 201 = .ok (.invokevirtual 568, 3) := by decide +kernel
theorem dX12_oneTick_204 : decode cX12_oneTick 204 = .ok (.ifCond .ne 10, 3) := by decide +kernel
theorem dX12_oneTick_207 : decode cX12_oneTick 207 = .ok (.aload_n 0, 1) := by decide +kernel
theorem dX12_oneTick_208 : decode cX12_oneTick 208 = .ok (.getfield 166, 3) := by decide +kernel
theorem dX12_oneTick_211 : decode cX12_oneTick 211 = .ok (.iload_n 1, 1) := by decide +kernel
theorem dX12_oneTick_212 : decode cX12_oneTick 212 = .ok (.iconst (-1), 1) := by decide +kernel
theorem dX12_oneTick_213 : decode cX12_oneTick 213 = .ok (.iastore, 1) := by decide +kernel
theorem dX12_oneTick_214 : decode cX12_oneTick 214 = .ok (.iinc 1 1, 3) := by decide +kernel
theorem dX12_oneTick_217 : decode cX12_oneTick 217 = .ok (.goto (-43), 3) := by decide +kernel
theorem dX12_oneTick_220 : decode cX12_oneTick 220 = .ok (.iconst 0, 1) := by decide +kernel
theorem dX12_oneTick_221 : decode cX12_oneTick 221 = .ok (.istore_n 1, 1) := by decide +kernel
theorem dX12_oneTick_222 : decode cX12_oneTick 222 = .ok (.iload_n 1, 1) := by decide +kernel
theorem dX12_oneTick_223 : decode cX12_oneTick 223 = .ok (.bipush 8, 2) := by decide +kernel
theorem dX12_oneTick_225 : decode cX12_oneTick 225 = .ok (.if_icmp .ge 23, 3) := by decide +kernel
theorem dX12_oneTick_228 : decode cX12_oneTick 228 = .ok (.aload_n 0, 1) := by decide +kernel
theorem dX12_oneTick_229 : decode cX12_oneTick 229 = .ok (.getfield 145, 3) := by decide +kernel
theorem dX12_oneTick_232 : decode cX12_oneTick 232 = .ok (.iload_n 1, 1) := by decide +kernel
theorem dX12_oneTick_233 : decode cX12_oneTick 233 = .ok (.baload, 1) := by decide +kernel
theorem dX12_oneTick_234 : decode cX12_oneTick 234 = .ok (.ifCond .eq 8, 3) := by decide +kernel
theorem dX12_oneTick_237 : decode cX12_oneTick 237 = .ok (.aload_n 0, 1) := by decide +kernel
theorem dX12_oneTick_238 : decode cX12_oneTick 238 = .ok (.iload_n 1, 1) := by decide +kernel
theorem dX12_oneTick_239 : decode cX12_oneTick 239 = .ok (.invokevirtual 580, 3) := by decide +kernel
theorem dX12_oneTick_242 : decode cX12_oneTick 242 = .ok (.iinc 1 1, 3) := by decide +kernel
theorem dX12_oneTick_245 : decode cX12_oneTick 245 = .ok (.goto (-23), 3) := by decide +kernel
theorem dX12_oneTick_248 : decode cX12_oneTick 248 = .ok (.iconst 0, 1) := by decide +kernel
theorem dX12_oneTick_249 : decode cX12_oneTick 249 = .ok (.istore_n 1, 1) := by decide +kernel
theorem dX12_oneTick_250 : decode cX12_oneTick 250 = .ok (.iload_n 1, 1) := by decide +kernel
theorem dX12_oneTick_251 : decode cX12_oneTick 251 = .ok (.bipush 8, 2) := by decide +kernel
theorem dX12_oneTick_253 : decode cX12_oneTick 253 = .ok (.if_icmp .ge 65, 3) := by decide +kernel
theorem dX12_oneTick_256 : decode cX12_oneTick 256 = .ok (.aload_n 0, 1) := by decide +kernel
theorem dX12_oneTick_257 : decode cX12_oneTick 257 = .ok (.getfield 145, 3) := by decide +kernel
theorem dX12_oneTick_260 : decode cX12_oneTick 260 = .ok (.iload_n 1, 1) := by decide +kernel
theorem dX12_oneTick_261 : decode cX12_oneTick 261 = .ok (.baload, 1) := by decide +kernel
theorem dX12_oneTick_262 : decode cX12_oneTick 262 = .ok (.ifCond .eq 50, 3) := by decide +kernel
theorem dX12_oneTick_265 : decode cX12_oneTick 265 = .ok (.aload_n 0, 1) := by decide +kernel
theorem dX12_oneTick_266 : decode cX12_oneTick 266 = .ok (.getfield 172, 3) := by decide +kernel
theorem dX12_oneTick_269 : decode cX12_oneTick 269 = .ok (.iload_n 1, 1) := by decide +kernel
theorem dX12_oneTick_270 : decode cX12_oneTick 270 = .ok (.aload_n 0, 1) := by decide +kernel
theorem dX12_oneTick_271 : decode cX12_oneTick 271 = .ok (.getfield 169, 3) := by decide +kernel
theorem dX12_oneTick_274 : decode cX12_oneTick 274 = .ok (.iload_n 1, 1) := by decide +kernel
theorem dX12_oneTick_275 : decode cX12_oneTick 275 = .ok (.iaload, 1) := by decide +kernel
theorem dX12_oneTick_276 : decode cX12_oneTick 276 = .ok (.iastore, 1) := by decide +kernel
theorem dX12_oneTick_277 : decode cX12_oneTick 277 = .ok (.aload_n 0, 1) := by decide +kernel
theorem dX12_oneTick_278 : decode cX12_oneTick 278 = .ok (.getfield 169, 3) := by decide +kernel
theorem dX12_oneTick_281 : decode cX12_oneTick 281 = .ok (.iload_n 1, 1) := by decide +kernel
theorem dX12_oneTick_282 : decode cX12_oneTick 282 = .ok (.aload_n 0, 1) := by decide +kernel
theorem dX12_oneTick_283 : decode cX12_oneTick 283 = .ok (.getfield 175, 3) := by decide +kernel
theorem dX12_oneTick_286 : decode cX12_oneTick 286 = .ok (.iload_n 1, 1) := by decide +kernel
theorem dX12_oneTick_287 : decode cX12_oneTick 287 = .ok (.iaload, 1) := by decide +kernel
theorem dX12_oneTick_288 : decode cX12_oneTick 288 = .ok (.iconst 2, 1) := by decide +kernel
theorem dX12_oneTick_289 : decode cX12_oneTick 289 = .ok (.idiv, 1) := by decide +kernel
theorem dX12_oneTick_290 : decode cX12_oneTick 290 = .ok (.iconst 2, 1) := by decide +kernel
theorem dX12_oneTick_291 : decode cX12_oneTick 291 = .ok (.irem, 1) := by decide +kernel
theorem dX12_oneTick_292 : decode cX12_oneTick 292 = .ok (.iconst 1, 1) := by decide +kernel
theorem dX12_oneTick_293 : decode cX12_oneTick 293 = .ok (.if_icmp .ne 12, 3) := by decide +kernel
theorem dX12_oneTick_296 : decode cX12_oneTick 296 = .ok (.aload_n 0, 1) := by decide +kernel
theorem dX12_oneTick_297 : decode cX12_oneTick 297 = .ok (.getfield 169, 3) := by decide +kernel
theorem dX12_oneTick_300 : decode cX12_oneTick 300 = .ok (.iload_n 1, 1) := by decide +kernel
theorem dX12_oneTick_301 : decode cX12_oneTick 301 = .ok (.iaload, 1) := by decide +kernel
theorem dX12_oneTick_302 : decode cX12_oneTick 302 = .ok (.goto 9, 3) := by decide +kernel
theorem dX12_oneTick_305 : decode cX12_oneTick 305 = .ok (.aload_n 0, 1) := by decide +kernel
theorem dX12_oneTick_306 : decode cX12_oneTick 306 = .ok (.getfield 160, 3) := by decide +kernel
theorem dX12_oneTick_309 : decode cX12_oneTick 309 = .ok (.iload_n 1, 1) := by decide +kernel
theorem dX12_oneTick_310 : decode cX12_oneTick 310 = .ok (.iaload, 1) := by decide +kernel
theorem dX12_oneTick_311 : decode cX12_oneTick 311 = .ok (.iastore, 1) := by decide +kernel
theorem dX12_oneTick_312 : decode cX12_oneTick 312 = .ok (.iinc 1 1, 3) := by decide +kernel
theorem dX12_oneTick_315 : decode cX12_oneTick 315 = .ok (.goto (-65), 3) := by decide +kernel
theorem dX12_oneTick_318 : decode cX12_oneTick 318 = .ok (.iconst 0, 1) := by decide +kernel
theorem dX12_oneTick_319 : decode cX12_oneTick 319 = .ok (.istore_n 1, 1) := by decide +kernel
theorem dX12_oneTick_320 : decode cX12_oneTick 320 = .ok (.iload_n 1, 1) := by decide +kernel
theorem dX12_oneTick_321 : decode cX12_oneTick 321 = .ok (.bipush 60, 2) := by decide +kernel
theorem dX12_oneTick_323 : decode cX12_oneTick 323 = .ok (.if_icmp .ge 36, 3) := by decide +kernel
theorem dX12_oneTick_326 : decode cX12_oneTick 326 = .ok (.aload_n 0, 1) := by decide +kernel
theorem dX12_oneTick_327 : decode cX12_oneTick 327 = .ok (.getfield 208, 3) := by decide +kernel
theorem dX12_oneTick_330 : decode cX12_oneTick 330 = .ok (.iload_n 1, 1) := by decide +kernel
theorem dX12_oneTick_331 : decode cX12_oneTick 331 = .ok (.baload, 1) := by decide +kernel
theorem dX12_oneTick_332 : decode cX12_oneTick 332 = .ok (.ifCond .eq 21, 3) := by decide +kernel
theorem dX12_oneTick_335 : decode cX12_oneTick 335 = .ok (.aload_n 0, 1) := by decide +kernel
theorem dX12_oneTick_336 : decode cX12_oneTick 336 = .ok (.getfield 490, 3) := by decide +kernel
theorem dX12_oneTick_339 : decode cX12_oneTick 339 = .ok (.aload_n 0, 1) := by decide +kernel
theorem dX12_oneTick_340 : decode cX12_oneTick 340 = .ok (.getfield 220, 3) := by decide +kernel
theorem dX12_oneTick_343 : decode cX12_oneTick 343 = .ok (.iload_n 1, 1) := by decide +kernel
theorem dX12_oneTick_344 : decode cX12_oneTick 344 = .ok (.iaload, 1) := by decide +kernel
theorem dX12_oneTick_345 : decode cX12_oneTick 345 = .ok (.if_icmp .lt 8, 3) := by decide +kernel
theorem dX12_oneTick_348 : decode cX12_oneTick 348 = .ok (.aload_n 0, 1) := by decide +kernel
theorem dX12_oneTick_349 : decode cX12_oneTick 349 = .ok (.iload_n 1, 1) := by decide +kernel
theorem dX12_oneTick_350 : decode cX12_oneTick 350 = .ok (.invokevirtual 583, 3) := by decide +kernel
theorem dX12_oneTick_353 : decode cX12_oneTick 353 = .ok (.iinc 1 1, 3) := by decide +kernel
theorem dX12_oneTick_356 : decode cX12_oneTick 356 = .ok (.goto (-36), 3) := by decide +kernel
theorem dX12_oneTick_359 : decode cX12_oneTick 359 = .ok (.return_, 1) := by decide +kernel
theorem dX12_rules_0 : decode cX12_rules 0 = .ok (.aload_n 0, 1) := by decide +kernel
theorem dX12_rules_1 : decode cX12_rules 1 = .ok (.invokevirtual 426, 3) := by decide +kernel
theorem dX12_rules_4 : decode cX12_rules 4 = .ok (.iconst 0, 1) := by decide +kernel
theorem dX12_rules_5 : decode cX12_rules 5 = .ok (.istore_n 1, 1) := by decide +kernel
theorem dX12_rules_6 : decode cX12_rules 6 = .ok (.iconst 0, 1) := by decide +kernel
theorem dX12_rules_7 : decode cX12_rules 7 = .ok (.istore_n 2, 1) := by decide +kernel
theorem dX12_rules_8 : decode cX12_rules 8 = .ok (.aload_n 0, 1) := by decide +kernel
theorem dX12_rules_9 : decode cX12_rules 9 = .ok (.getfield 390, 3) := by decide +kernel
theorem dX12_rules_12 : decode cX12_rules 12 = .ok (.ifCond .ne 367, 3) := by decide +kernel
theorem dX12_rules_15 : decode cX12_rules 15 = .ok (.aload_n 0, 1) := by decide +kernel
theorem dX12_rules_16 : decode cX12_rules 16 = .ok (.getfield 13, 3) := by decide +kernel
theorem dX12_rules_19 : decode cX12_rules 19 = .ok (.aload_n 0, 1) := by decide +kernel
theorem dX12_rules_20 : decode cX12_rules 20 = .ok (.getfield 381, 3) := by decide +kernel
theorem dX12_rules_23 : decode cX12_rules 23 = .ok (.iaload, 1) := by decide +kernel
theorem dX12_rules_24 : decode cX12_rules 24 = .ok (.ifCond .eq 355, 3) := by decide +kernel
theorem dX12_rules_27 : decode cX12_rules 27 = .ok (.aload_n 0, 1) := by decide +kernel
theorem dX12_rules_28 : decode cX12_rules 28 = .ok (.getfield 21, 3) := by decide +kernel
theorem dX12_rules_31 : decode cX12_rules 31 = .ok (.aload_n 0, 1) := by decide +kernel
theorem dX12_rules_32 : decode cX12_rules 32 = .ok (.getfield 381, 3) := by decide +kernel
theorem dX12_rules_35 : decode cX12_rules 35 = .ok (.iaload, 1) := by decide +kernel
theorem dX12_rules_36 : decode cX12_rules 36 = .ok (.istore_n 3, 1) := by decide +kernel
theorem dX12_rules_37 : decode cX12_rules 37 = .ok (.iload_n 1, 1) := by decide +kernel
theorem dX12_rules_38 : decode cX12_rules 38 = .ok (.bipush 20, 2) := by decide +kernel
theorem dX12_rules_40 : decode cX12_rules 40 = .ok (.if_icmp .ge 7, 3) := by decide +kernel
theorem dX12_rules_43 : decode cX12_rules 43 = .ok (.iload_n 1, 1) := by decide +kernel
theorem dX12_rules_44 : decode cX12_rules 44 = .ok (.goto 5, 3) := by decide +kernel
theorem dX12_rules_47 : decode cX12_rules 47 = .ok (.bipush 19, 2) := by decide +kernel
theorem dX12_rules_49 : decode cX12_rules 49 = .ok (.istore 4, 2) := by decide +kernel
theorem dX12_rules_51 : decode cX12_rules 51 = .ok (.aload_n 0, 1) := by decide +kernel
theorem dX12_rules_52 : decode cX12_rules 52 = .ok (.getfield 265, 3) := by decide +kernel
theorem dX12_rules_55 : decode cX12_rules 55 = .ok (.iload 4, 2) := by decide +kernel
theorem dX12_rules_57 : decode cX12_rules 57 = .ok (.iload_n 2, 1) := by decide +kernel
theorem dX12_rules_58 : decode cX12_rules 58 = .ok (.iastore, 1) := by decide +kernel
theorem dX12_rules_59 : decode cX12_rules 59 = .ok (.iconst 1, 1) := by decide +kernel
theorem dX12_rules_60 : decode cX12_rules 60 = .ok (.istore 5, 2) := by decide +kernel
theorem dX12_rules_62 : decode cX12_rules 62 = .ok (.iload 5, 2) := by decide +kernel
theorem dX12_rules_64 : decode cX12_rules 64 = .ok (.ifCond .eq 160, 3) := by decide +kernel
theorem dX12_rules_67 : decode cX12_rules 67 = .ok (.aload_n 0, 1) := by decide +kernel
theorem dX12_rules_68 : decode cX12_rules 68 = .ok (.getfield 390, 3) := by decide +kernel
theorem dX12_rules_71 : decode cX12_rules 71 = .ok (.ifCond .ne 153, 3) := by decide +kernel
theorem dX12_rules_74 : decode cX12_rules 74 = .ok (.aload_n 0, 1) := by decide +kernel
theorem dX12_rules_75 : decode cX12_rules 75 = .ok (.ldc_w 586, 3) := by decide +kernel
theorem dX12_rules_78 : decode cX12_rules 78 = .ok (.invokevirtual 406, 3) := by decide +kernel
theorem dX12_rules_81 : decode cX12_rules 81 = .ok (.ifCond .eq 7, 3) := by decide +kernel
theorem dX12_rules_84 : decode cX12_rules 84 = .ok (.iconst 1, 1) := by decide +kernel
theorem dX12_rules_85 : decode cX12_rules 85 = .ok (.goto 46, 3) := by decide +kernel
theorem dX12_rules_88 : decode cX12_rules 88 = .ok (.aload_n 0, 1) := by decide +kernel
theorem dX12_rules_89 : decode cX12_rules 89 = .ok (.ldc_w 588, 3) := by decide +kernel
theorem dX12_rules_92 : decode cX12_rules 92 = .ok (.invokevirtual 406, 3) := by decide +kernel
theorem dX12_rules_95 : decode cX12_rules 95 = .ok (.ifCond .eq 7, 3) := by decide +kernel
theorem dX12_rules_98 : decode cX12_rules 98 = .ok (.iconst 2, 1) := by decide +kernel
theorem dX12_rules_99 : decode cX12_rules 99 = .ok (.goto 32, 3) := by decide +kernel
theorem dX12_rules_102 : decode cX12_rules 102 = .ok (.aload_n 0, 1) := by decide +kernel
theorem dX12_rules_103 : decode cX12_rules 103 = .ok (.ldc_w 590, 3) := by decide +kernel
theorem dX12_rules_106 : decode cX12_rules 106 = .ok (.invokevirtual 406, 3) := by decide +kernel
theorem dX12_rules_109 : decode cX12_rules 109 = .ok (.ifCond .eq 7, 3) := by decide +kernel
theorem dX12_rules_112 : decode cX12_rules 112 = .ok (.iconst 3, 1) := by decide +kernel
theorem dX12_rules_113 : decode cX12_rules 113 = .ok (.goto 18, 3) := by decide +kernel
theorem dX12_rules_116 : decode cX12_rules 116 = .ok (.aload_n 0, 1) := by decide +kernel
theorem dX12_rules_117 : decode cX12_rules 117 = .ok (.ldc_w 592, 3) := by decide +kernel
theorem dX12_rules_120 : decode cX12_rules 120 = .ok (.invokevirtual 406, 3) := by decide +kernel
theorem dX12_rules_123 : decode cX12_rules 123 = .ok (.ifCond .eq 7, 3) := by decide +kernel
theorem dX12_rules_126 : decode cX12_rules 126 = .ok (.iconst 4, 1) := by decide +kernel
theorem dX12_rules_127 : decode cX12_rules 127 = .ok (.goto 4, 3) := by decide +kernel
theorem dX12_rules_130 : decode cX12_rules 130 = .ok (.iconst 0, 1) := by decide +kernel
theorem dX12_rules_131 : decode cX12_rules 131 = .ok (.istore 6, 2) := by decide +kernel
theorem dX12_rules_133 : decode cX12_rules 133 = .ok (.iload 6, 2) := by decide +kernel
theorem dX12_rules_135 : decode cX12_rules 135 = .ok (.ifCond .ne 7, 3) := by decide +kernel
theorem dX12_rules_138 : decode cX12_rules 138 = .ok (.aload_n 0, 1) := by decide +kernel
theorem dX12_rules_139 : decode cX12_rules 139 = .ok (.invokevirtual 409, 3) := by decide +kernel
theorem dX12_rules_142 : decode cX12_rules 142 = .ok (.aload_n 0, 1) := by decide +kernel
theorem dX12_rules_143 : decode cX12_rules 143 = .ok (.getfield 274, 3) := by decide +kernel
theorem dX12_rules_146 : decode cX12_rules 146 = .ok (.iload_n 2, 1) := by decide +kernel
theorem dX12_rules_147 : decode cX12_rules 147 = .ok (.iload 6, 2) := by decide +kernel
theorem dX12_rules_149 : decode cX12_rules 149 = .ok (.iastore, 1) := by decide +kernel
theorem dX12_rules_150 : decode cX12_rules 150 = .ok (.aload_n 0, 1) := by decide +kernel
theorem dX12_rules_151 : decode cX12_rules 151 = .ok (.getfield 277, 3) := by decide +kernel
theorem dX12_rules_154 : decode cX12_rules 154 = .ok (.iload_n 2, 1) := by decide +kernel
theorem dX12_rules_155 : decode cX12_rules 155 = .ok (.iload 6, 2) := by decide +kernel
theorem dX12_rules_157 : decode cX12_rules 157 = .ok (.iconst 1, 1) := by decide +kernel
theorem dX12_rules_158 : decode cX12_rules 158 = .ok (.if_icmp .ne 13, 3) := by decide +kernel
theorem dX12_rules_161 : decode cX12_rules 161 = .ok (.aload_n 0, 1) := by decide +kernel
theorem dX12_rules_162 : decode cX12_rules 162 = .ok (.iconst 1, 1) := by decide +kernel
theorem dX12_rules_163 : decode cX12_rules 163 = .ok (.bipush 10, 2) := by decide +kernel
theorem dX12_rules_165 : decode cX12_rules 165 = .ok (.invokevirtual 415, 3) := by decide +kernel
theorem dX12_rules_168 : decode cX12_rules 168 = .ok (.goto 41, 3) := by decide +kernel
theorem dX12_rules_171 : decode cX12_rules 171 = .ok (.iload 6, 2) := by decide +kernel
theorem dX12_rules_173 : decode cX12_rules 173 = .ok (.iconst 2, 1) := by decide +kernel
theorem dX12_rules_174 : decode cX12_rules 174 = .ok (.if_icmp .ne 12, 3) := by decide +kernel
theorem dX12_rules_177 : decode cX12_rules 177 = .ok (.aload_n 0, 1) := by decide +kernel
theorem dX12_rules_178 : decode cX12_rules 178 = .ok (.iconst 0, 1) := by decide +kernel
theorem dX12_rules_179 : decode cX12_rules 179 = .ok (.iconst 3, 1) := by decide +kernel
theorem dX12_rules_180 : decode cX12_rules 180 = .ok (.invokevirtual 415, 3) := by decide +kernel
theorem dX12_rules_183 : decode cX12_rules 183 = .ok (.goto 26, 3) := by decide +kernel
theorem dX12_rules_186 : decode cX12_rules 186 = .ok (.iload 6, 2) := by decide +kernel
theorem dX12_rules_188 : decode cX12_rules 188 = .ok (.iconst 3, 1) := by decide +kernel
theorem dX12_rules_189 : decode cX12_rules 189 = .ok (.if_icmp .ne 13, 3) := by decide +kernel
theorem dX12_rules_192 : decode cX12_rules 192 = .ok (.aload_n 0, 1) := by decide +kernel
theorem dX12_rules_193 : decode cX12_rules 193 = .ok (.iconst 0, 1) := by decide +kernel
theorem dX12_rules_194 : decode cX12_rules 194 = .ok (.bipush 6, 2) := by decide +kernel
theorem dX12_rules_196 : decode cX12_rules 196 = .ok (.invokevirtual 415, 3) := by decide +kernel
theorem dX12_rules_199 : decode cX12_rules 199 = .ok (.goto 10, 3) := by decide +kernel
theorem dX12_rules_202 : decode cX12_rules 202 = .ok (.aload_n 0, 1) := by decide +kernel
theorem dX12_rules_203 : decode cX12_rules 203 = .ok (.iconst 0, 1) := by decide +kernel
theorem dX12_rules_204 : decode cX12_rules 204 = .ok (.bipush 7, 2) := by decide +kernel
theorem dX12_rules_206 : decode cX12_rules 206 = .ok (.invokevirtual 415, 3) := by decide +kernel
theorem dX12_rules_209 : decode cX12_rules 209 = .ok (.iastore, 1) := by decide +kernel
theorem dX12_rules_210 : decode cX12_rules 210 = .ok (.iinc 2 1, 3) := by decide +kernel
theorem dX12_rules_213 : decode cX12_rules 213 = .ok (.aload_n 0, 1) := by decide +kernel
theorem dX12_rules_214 : decode cX12_rules 214 = .ok (.bipush 44, 2) := by decide +kernel
theorem dX12_rules_216 : decode cX12_rules 216 = .ok (.invokevirtual 412, 3) := by decide +kernel
theorem dX12_rules_219 : decode cX12_rules 219 = .ok (.istore 5, 2) := by decide +kernel
theorem dX12_rules_221 : decode cX12_rules 221 = .ok (.goto (-159), 3) := by decide +kernel
theorem dX12_rules_224 : decode cX12_rules 224 = .ok (.aload_n 0, 1) := by decide +kernel
theorem dX12_rules_225 : decode cX12_rules 225 = .ok (.bipush 58, 2) := by decide +kernel
theorem dX12_rules_227 : decode cX12_rules 227 = .ok (.invokevirtual 452, 3) := by decide +kernel
theorem dX12_rules_230 : decode cX12_rules 230 = .ok (.aload_n 0, 1) := by decide +kernel
theorem dX12_rules_231 : decode cX12_rules 231 = .ok (.bipush 37, 2) := by decide +kernel
theorem dX12_rules_233 : decode cX12_rules 233 = .ok (.invokevirtual 412, 3) := by decide +kernel
theorem dX12_rules_236 : decode cX12_rules 236 = .ok (.ifCond .eq 30, 3) := by decide +kernel
theorem dX12_rules_239 : decode cX12_rules 239 = .ok (.aload_n 0, 1) := by decide +kernel
theorem dX12_rules_240 : decode cX12_rules 240 = .ok (.getfield 268, 3) := by decide +kernel
theorem dX12_rules_243 : decode cX12_rules 243 = .ok (.iload 4, 2) := by decide +kernel
theorem dX12_rules_245 : decode cX12_rules 245 = .ok (.bipush 37, 2) := by decide +kernel
theorem dX12_rules_247 : decode cX12_rules 247 = .ok (.iastore, 1) := by decide +kernel
theorem dX12_rules_248 : decode cX12_rules 248 = .ok (.aload_n 0, 1) := by decide +kernel
theorem dX12_rules_249 : decode cX12_rules 249 = .ok (.getfield 271, 3) := by decide +kernel
theorem dX12_rules_252 : decode cX12_rules 252 = .ok (.iload 4, 2) := by decide +kernel
theorem dX12_rules_254 : decode cX12_rules 254 = .ok (.aload_n 0, 1) := by decide +kernel
theorem dX12_rules_255 : decode cX12_rules 255 = .ok (.iconst 0, 1) := by decide +kernel
theorem dX12_rules_256 : decode cX12_rules 256 = .ok (.sipush 200, 3) := by decide +kernel
theorem dX12_rules_259 : decode cX12_rules 259 = .ok (.invokevirtual 415, 3) := by decide +kernel
theorem dX12_rules_262 : decode cX12_rules 262 = .ok (.iastore, 1) := by decide +kernel
theorem dX12_rules_263 : decode cX12_rules 263 = .ok (.goto 82, 3) := by decide +kernel
theorem dX12_rules_266 : decode cX12_rules 266 = .ok (.aload_n 0, 1) := by decide +kernel
theorem dX12_rules_267 : decode cX12_rules 267 = .ok (.getfield 268, 3) := by decide +kernel
theorem dX12_rules_270 : decode cX12_rules 270 = .ok (.iload 4, 2) := by decide +kernel
theorem dX12_rules_272 : decode cX12_rules 272 = .ok (.aload_n 0, 1) := by decide +kernel
theorem dX12_rules_273 : decode cX12_rules 273 = .ok (.bipush 45, 2) := by decide +kernel
theorem dX12_rules_275 : decode cX12_rules 275 = .ok (.invokevirtual 412, 3) := by decide +kernel
theorem dX12_rules_278 : decode cX12_rules 278 = .ok (.ifCond .eq 8, 3) := by decide +kernel
theorem dX12_rules_281 : decode cX12_rules 281 = .ok (.bipush 45, 2) := by decide +kernel
theorem dX12_rules_283 : decode cX12_rules 283 = .ok (.goto 32, 3) := by decide +kernel
theorem dX12_rules_286 : decode cX12_rules 286 = .ok (.aload_n 0, 1) := by decide +kernel
theorem dX12_rules_287 : decode cX12_rules 287 = .ok (.bipush 43, 2) := by decide +kernel
theorem dX12_rules_289 : decode cX12_rules 289 = .ok (.invokevirtual 412, 3) := by decide +kernel
theorem dX12_rules_292 : decode cX12_rules 292 = .ok (.ifCond .eq 8, 3) := by decide +kernel
theorem dX12_rules_295 : decode cX12_rules 295 = .ok (.bipush 43, 2) := by decide +kernel
theorem dX12_rules_297 : decode cX12_rules 297 = .ok (.goto 18, 3) := by decide +kernel
theorem dX12_rules_300 : decode cX12_rules 300 = .ok (.aload_n 0, 1) := by decide +kernel
theorem dX12_rules_301 : decode cX12_rules 301 = .ok (.bipush 64, 2) := by decide +kernel
theorem dX12_rules_303 : decode cX12_rules 303 = .ok (.invokevirtual 412, 3) := by decide +kernel
theorem dX12_rules_306 : decode cX12_rules 306 = .ok (.ifCond .eq 8, 3) := by decide +kernel
theorem dX12_rules_309 : decode cX12_rules 309 = .ok (.bipush 64, 2) := by decide +kernel
theorem dX12_rules_311 : decode cX12_rules 311 = .ok (.goto 4, 3) := by decide +kernel
theorem dX12_rules_314 : decode cX12_rules 314 = .ok (.iconst 0, 1) := by decide +kernel
theorem dX12_rules_315 : decode cX12_rules 315 = .ok (.iastore, 1) := by decide +kernel
theorem dX12_rules_316 : decode cX12_rules 316 = .ok (.aload_n 0, 1) := by decide +kernel
theorem dX12_rules_317 : decode cX12_rules 317 = .ok (.getfield 268, 3) := by decide +kernel
theorem dX12_rules_320 : decode cX12_rules 320 = .ok (.iload 4, 2) := by decide +kernel
theorem dX12_rules_322 : decode cX12_rules 322 = .ok (.iaload, 1) := by decide +kernel
theorem dX12_rules_323 : decode cX12_rules 323 = .ok (.ifCond .ne 7, 3) := by decide +kernel
theorem dX12_rules_326 : decode cX12_rules 326 = .ok (.aload_n 0, 1) := by decide +kernel
theorem dX12_rules_327 : decode cX12_rules 327 = .ok (.invokevirtual 409, 3) := by decide +kernel
theorem dX12_rules_330 : decode cX12_rules 330 = .ok (.aload_n 0, 1) := by decide +kernel
theorem dX12_rules_331 : decode cX12_rules 331 = .ok (.getfield 271, 3) := by decide +kernel
theorem dX12_rules_334 : decode cX12_rules 334 = .ok (.iload 4, 2) := by decide +kernel
theorem dX12_rules_336 : decode cX12_rules 336 = .ok (.aload_n 0, 1) := by decide +kernel
theorem dX12_rules_337 : decode cX12_rules 337 = .ok (.iconst 0, 1) := by decide +kernel
theorem dX12_rules_338 : decode cX12_rules 338 = .ok (.ldc_w 478, 3) := by decide +kernel
theorem dX12_rules_341 : decode cX12_rules 341 = .ok (.invokevirtual 415, 3) := by decide +kernel
theorem dX12_rules_344 : decode cX12_rules 344 = .ok (.iastore, 1) := by decide +kernel
theorem dX12_rules_345 : decode cX12_rules 345 = .ok (.aload_n 0, 1) := by decide +kernel
theorem dX12_rules_346 : decode cX12_rules 346 = .ok (.bipush 59, 2) := by decide +kernel
theorem dX12_rules_348 : decode cX12_rules 348 = .ok (.invokevirtual 452, 3) := by decide +kernel
theorem dX12_rules_351 : decode cX12_rules 351 = .ok (.iinc 1 1, 3) := by decide +kernel
theorem dX12_rules_354 : decode cX12_rules 354 = .ok (.iload_n 1, 1) := by decide +kernel
theorem dX12_rules_355 : decode cX12_rules 355 = .ok (.bipush 21, 2) := by decide +kernel
theorem dX12_rules_357 : decode cX12_rules 357 = .ok (.if_icmp .ne 9, 3) := by decide +kernel
theorem dX12_rules_360 : decode cX12_rules 360 = .ok (.aload_n 0, 1) := by decide +kernel
theorem dX12_rules_361 : decode cX12_rules 361 = .ok (.iconst 2, 1) := by decide +kernel
theorem dX12_rules_362 : decode cX12_rules 362 = .ok (.iload_n 3, 1) := by decide +kernel
theorem dX12_rules_363 : decode cX12_rules 363 = .ok (.invokevirtual 394, 3) := by decide +kernel
theorem dX12_rules_366 : decode cX12_rules 366 = .ok (.aload_n 0, 1) := by decide +kernel
theorem dX12_rules_367 : decode cX12_rules 367 = .ok (.getfield 265, 3) := by decide +kernel
theorem dX12_rules_370 : decode cX12_rules 370 = .ok (.iload 4, 2) := by decide +kernel
theorem dX12_rules_372 : decode cX12_rules 372 = .ok (.iconst 1, 1) := by decide +kernel
theorem dX12_rules_373 : decode cX12_rules 373 = .ok (.iadd, 1) := by decide +kernel
theorem dX12_rules_374 : decode cX12_rules 374 = .ok (.iload_n 2, 1) := by decide +kernel
theorem dX12_rules_375 : decode cX12_rules 375 = .ok (.iastore, 1) := by decide +kernel
theorem dX12_rules_376 : decode cX12_rules 376 = .ok (.goto (-368), 3) := by decide +kernel
theorem dX12_rules_379 : decode cX12_rules 379 = .ok (.aload_n 0, 1) := by decide +kernel
theorem dX12_rules_380 : decode cX12_rules 380 = .ok (.getfield 384, 3) := by decide +kernel
theorem dX12_rules_383 : decode cX12_rules 383 = .ok (.ifCond .eq 11, 3) := by decide +kernel
theorem dX12_rules_386 : decode cX12_rules 386 = .ok (.bipush (-10), 2) := by decide +kernel
theorem dX12_rules_388 : decode cX12_rules 388 = .ok (.aload_n 0, 1) := by decide +kernel
theorem dX12_rules_389 : decode cX12_rules 389 = .ok (.getfield 387, 3) := by decide +kernel
theorem dX12_rules_392 : decode cX12_rules 392 = .ok (.isub, 1) := by decide +kernel
theorem dX12_rules_393 : decode cX12_rules 393 = .ok (.ireturn, 1) := by decide +kernel
theorem dX12_rules_394 : decode cX12_rules 394 = .ok (.aload_n 0, 1) := by decide +kernel
theorem dX12_rules_395 : decode cX12_rules 395 = .ok (.iload_n 1, 1) := by decide +kernel
theorem dX12_rules_396 : decode cX12_rules 396 = .ok (.putfield 594, 3) := by decide +kernel
theorem dX12_rules_399 : decode cX12_rules 399 = .ok (.iconst 0, 1) := by decide +kernel
theorem dX12_rules_400 : decode cX12_rules 400 = .ok (.istore_n 3, 1) := by decide +kernel
theorem dX12_rules_401 : decode cX12_rules 401 = .ok (.iload_n 3, 1) := by decide +kernel
theorem dX12_rules_402 : decode cX12_rules 402 = .ok (.iload_n 1, 1) := by decide +kernel
theorem dX12_rules_403 : decode cX12_rules 403 = .ok (.if_icmp .ge 61, 3) := by decide +kernel
theorem dX12_rules_406 : decode cX12_rules 406 = .ok (.aload_n 0, 1) := by decide +kernel
theorem dX12_rules_407 : decode cX12_rules 407 = .ok (.getfield 250, 3) := by decide +kernel
theorem dX12_rules_410 : decode cX12_rules 410 = .ok (.iload_n 3, 1) := by decide +kernel
theorem dX12_rules_411 : decode cX12_rules 411 = .ok (.aload_n 0, 1) := by decide +kernel
theorem dX12_rules_412 : decode cX12_rules 412 = .ok (.getfield 265, 3) := by decide +kernel
theorem dX12_rules_415 : decode cX12_rules 415 = .ok (.iload_n 3, 1) := by decide +kernel
theorem dX12_rules_416 : decode cX12_rules 416 = .ok (.iaload, 1) := by decide +kernel
theorem dX12_rules_417 : decode cX12_rules 417 = .ok (.iastore, 1) := by decide +kernel
theorem dX12_rules_418 : decode cX12_rules 418 = .ok (.aload_n 0, 1) := by decide +kernel
theorem dX12_rules_419 : decode cX12_rules 419 = .ok (.getfield 250, 3) := by decide +kernel
theorem dX12_rules_422 : decode cX12_rules 422 = .ok (.iload_n 3, 1) := by decide +kernel
theorem dX12_rules_423 : decode cX12_rules 423 = .ok (.iconst 1, 1) := by decide +kernel
theorem dX12_rules_424 : decode cX12_rules 424 = .ok (.iadd, 1) := by decide +kernel
theorem dX12_rules_425 : decode cX12_rules 425 = .ok (.aload_n 0, 1) := by decide +kernel
theorem dX12_rules_426 : decode cX12_rules 426 = .ok (.getfield 265, 3) := by decide +kernel
theorem dX12_rules_429 : decode cX12_rules 429 = .ok (.iload_n 3, 1) := by decide +kernel
theorem dX12_rules_430 : decode cX12_rules 430 = .ok (.iconst 1, 1) := by decide +kernel
theorem dX12_rules_431 : decode cX12_rules 431 = .ok (.iadd, 1) := by decide +kernel
theorem dX12_rules_432 : decode cX12_rules 432 = .ok (.iaload, 1) := by decide +kernel
theorem dX12_rules_433 : decode cX12_rules 433 = .ok (.iastore, 1) := by decide +kernel
theorem dX12_rules_434 : decode cX12_rules 434 = .ok (.aload_n 0, 1) := by decide +kernel
theorem dX12_rules_435 : decode cX12_rules 435 = .ok (.getfield 253, 3) := by decide +kernel
theorem dX12_rules_438 : decode cX12_rules 438 = .ok (.iload_n 3, 1) := by decide +kernel
theorem dX12_rules_439 : decode cX12_rules 439 = .ok (.aload_n 0, 1) := by decide +kernel
theorem dX12_rules_440 : decode cX12_rules 440 = .ok (.getfield 268, 3) := by decide +kernel
theorem dX12_rules_443 : decode cX12_rules 443 = .ok (.iload_n 3, 1) := by decide +kernel
theorem dX12_rules_444 : decode cX12_rules 444 = .ok (.iaload, 1) := by decide +kernel
theorem dX12_rules_445 : decode cX12_rules 445 = .ok (.iastore, 1) := by decide +kernel
theorem dX12_rules_446 : decode cX12_rules 446 = .ok (.aload_n 0, 1) := by decide +kernel
theorem dX12_rules_447 : decode cX12_rules 447 = .ok (.getfield 256, 3) := by decide +kernel
theorem dX12_rules_450 : decode cX12_rules 450 = .ok (.iload_n 3, 1) := by decide +kernel
theorem dX12_rules_451 : decode cX12_rules 451 = .ok (.aload_n 0, 1) := by decide +kernel
theorem dX12_rules_452 : decode cX12_rules 452 = .ok (.getfield 271, 3) := by decide +kernel
theorem dX12_rules_455 : decode cX12_rules 455 = .ok (.iload_n 3, 1) := by decide +kernel
theorem dX12_rules_456 : decode cX12_rules 456 = .ok (.iaload, 1) := by decide +kernel
theorem dX12_rules_457 : decode cX12_rules 457 = .ok (.iastore, 1) := by decide +kernel
theorem dX12_rules_458 : decode cX12_rules 458 = .ok (.iinc 3 1, 3) := by decide +kernel
theorem dX12_rules_461 : decode cX12_rules 461 = .ok (.goto (-60), 3) := by decide +kernel
theorem dX12_rules_464 : decode cX12_rules 464 = .ok (.iconst 0, 1) := by decide +kernel
theorem dX12_rules_465 : decode cX12_rules 465 = .ok (.istore_n 3, 1) := by decide +kernel
theorem dX12_rules_466 : decode cX12_rules 466 = .ok (.iload_n 3, 1) := by decide +kernel
theorem dX12_rules_467 : decode cX12_rules 467 = .ok (.iload_n 2, 1) := by decide +kernel
theorem dX12_rules_468 : decode cX12_rules 468 = .ok (.if_icmp .ge 33, 3) := by decide +kernel
theorem dX12_rules_471 : decode cX12_rules 471 = .ok (.aload_n 0, 1) := by decide +kernel
theorem dX12_rules_472 : decode cX12_rules 472 = .ok (.getfield 259, 3) := by decide +kernel
theorem dX12_rules_475 : decode cX12_rules 475 = .ok (.iload_n 3, 1) := by decide +kernel
theorem dX12_rules_476 : decode cX12_rules 476 = .ok (.aload_n 0, 1) := by decide +kernel
theorem dX12_rules_477 : decode cX12_rules 477 = .ok (.getfield 274, 3) := by decide +kernel
theorem dX12_rules_480 : decode cX12_rules 480 = .ok (.iload_n 3, 1) := by decide +kernel
theorem dX12_rules_481 : decode cX12_rules 481 = .ok (.iaload, 1) := by decide +kernel
theorem dX12_rules_482 : decode cX12_rules 482 = .ok (.iastore, 1) := by decide +kernel
theorem dX12_rules_483 : decode cX12_rules 483 = .ok (.aload_n 0, 1) := by decide +kernel
theorem dX12_rules_484 : decode cX12_rules 484 = .ok (.getfield 262, 3) := by decide +kernel
theorem dX12_rules_487 : decode cX12_rules 487 = .ok (.iload_n 3, 1) := by decide +kernel
theorem dX12_rules_488 : decode cX12_rules 488 = .ok (.aload_n 0, 1) := by decide +kernel
theorem dX12_rules_489 : decode cX12_rules 489 = .ok (.getfield 277, 3) := by decide +kernel
theorem dX12_rules_492 : decode cX12_rules 492 = .ok (.iload_n 3, 1) := by decide +kernel
theorem dX12_rules_493 : decode cX12_rules 493 = .ok (.iaload, 1) := by decide +kernel
theorem dX12_rules_494 : decode cX12_rules 494 = .ok (.iastore, 1) := by decide +kernel
theorem dX12_rules_495 : decode cX12_rules 495 = .ok (.iinc 3 1, 3) := by decide +kernel
theorem dX12_rules_498 : decode cX12_rules 498 = .ok (.goto (-32), 3) := by decide +kernel
theorem dX12_rules_501 : decode cX12_rules 501 = .ok (.iload_n 1, 1) := by decide +kernel
theorem dX12_rules_502 : decode cX12_rules 502 = .ok (.ireturn, 1) := by decide +kernel
theorem dX12_capped_0 : decode cX12_capped 0 = .ok (.lload_n 0, 1) := by decide +kernel
theorem dX12_capped_1 : decode cX12_capped 1 = .ok (.ldc2_w 597, 3) := by decide +kernel
theorem dX12_capped_4 : decode cX12_capped 4 = .ok (.lcmp, 1) := by decide +kernel
theorem dX12_capped_5 : decode cX12_capped 5 = .ok (.ifCond .le 9, 3) := by decide +kernel
theorem dX12_capped_8 : decode cX12_capped 8 = .ok (.ldc2_w 597, 3) := by decide +kernel
theorem dX12_capped_11 : decode cX12_capped 11 = .ok (.goto 4, 3) := by decide +kernel
theorem dX12_capped_14 : decode cX12_capped 14 = .ok (.lload_n 0, 1) := by decide +kernel
theorem dX12_capped_15 : decode cX12_capped 15 = .ok (.lreturn, 1) := by decide +kernel
theorem dX12_priceOf_0 : decode cX12_priceOf 0 = .ok (.iload_n 2, 1) := by decide +kernel
theorem dX12_priceOf_1 : decode cX12_priceOf 1 = .ok (.i2l, 1) := by decide +kernel
theorem dX12_priceOf_2 : decode cX12_priceOf 2 = .ok (.aload_n 0, 1) := by decide +kernel
theorem dX12_priceOf_3 : decode cX12_priceOf 3 = .ok (.getfield 193, 3) := by decide +kernel
theorem dX12_priceOf_6 : decode cX12_priceOf 6 = .ok (.iload_n 1, 1) := by decide +kernel
theorem dX12_priceOf_7 : decode cX12_priceOf 7 = .ok (.iaload, 1) := by decide +kernel
theorem dX12_priceOf_8 : decode cX12_priceOf 8 = .ok (.i2l, 1) := by decide +kernel
theorem dX12_priceOf_9 : decode cX12_priceOf 9 = .ok (.lmul, 1) := by decide +kernel
theorem dX12_priceOf_10 : decode cX12_priceOf 10 = .ok (.invokestatic 599, 3) := by decide +kernel
theorem dX12_priceOf_13 : decode cX12_priceOf 13 = .ok (.lstore 5, 2) := by decide +kernel
theorem dX12_priceOf_15 : decode cX12_priceOf 15 = .ok (.iconst 0, 1) := by decide +kernel
theorem dX12_priceOf_16 : decode cX12_priceOf 16 = .ok (.istore 7, 2) := by decide +kernel
theorem dX12_priceOf_18 : decode cX12_priceOf 18 = .ok (.iload 7, 2) := by decide +kernel
theorem dX12_priceOf_20 : decode cX12_priceOf 20 = .ok (.aload_n 0, 1) := by decide +kernel
theorem dX12_priceOf_21 : decode cX12_priceOf 21 = .ok (.getfield 594, 3) := by decide +kernel
theorem dX12_priceOf_24 : decode cX12_priceOf 24 = .ok (.if_icmp .ge 232, 3) := by decide +kernel
theorem dX12_priceOf_27 : decode cX12_priceOf 27 = .ok (.iconst 1, 1) := by decide +kernel
theorem dX12_priceOf_28 : decode cX12_priceOf 28 = .ok (.istore 8, 2) := by decide +kernel
theorem dX12_priceOf_30 : decode cX12_priceOf 30 = .ok (.aload_n 0, 1) := by decide +kernel
theorem dX12_priceOf_31 : decode cX12_priceOf 31 = .ok (.getfield 250, 3) := by decide +kernel
theorem dX12_priceOf_34 : decode cX12_priceOf 34 = .ok (.iload 7, 2) := by decide +kernel
theorem dX12_priceOf_36 : decode cX12_priceOf 36 = .ok (.iaload, 1) := by decide +kernel
theorem dX12_priceOf_37 : decode cX12_priceOf 37 = .ok (.istore 9, 2) := by decide +kernel
theorem dX12_priceOf_39 : decode cX12_priceOf 39 = .ok (.iload 9, 2) := by decide +kernel
theorem dX12_priceOf_41 : decode cX12_priceOf 41 = .ok (.aload_n 0, 1) := by decide +kernel
theorem dX12_priceOf_42 : decode cX12_priceOf 42 = .ok (.getfield 250, 3) := by decide +kernel
theorem dX12_priceOf_45 : decode cX12_priceOf 45 = .ok (.iload 7, 2) := by decide +kernel
theorem dX12_priceOf_47 : decode cX12_priceOf 47 = .ok (.iconst 1, 1) := by decide +kernel
theorem dX12_priceOf_48 : decode cX12_priceOf 48 = .ok (.iadd, 1) := by decide +kernel
theorem dX12_priceOf_49 : decode cX12_priceOf 49 = .ok (.iaload, 1) := by decide +kernel
theorem dX12_priceOf_50 : decode cX12_priceOf 50 = .ok (.if_icmp .ge 91, 3) := by decide +kernel
theorem dX12_priceOf_53 : decode cX12_priceOf 53 = .ok (.aload_n 0, 1) := by decide +kernel
theorem dX12_priceOf_54 : decode cX12_priceOf 54 = .ok (.getfield 262, 3) := by decide +kernel
theorem dX12_priceOf_57 : decode cX12_priceOf 57 = .ok (.iload 9, 2) := by decide +kernel
theorem dX12_priceOf_59 : decode cX12_priceOf 59 = .ok (.iaload, 1) := by decide +kernel
theorem dX12_priceOf_60 : decode cX12_priceOf 60 = .ok (.istore 10, 2) := by decide +kernel
theorem dX12_priceOf_62 : decode cX12_priceOf 62 = .ok (.aload_n 0, 1) := by decide +kernel
theorem dX12_priceOf_63 : decode cX12_priceOf 63 = .ok (.getfield 259, 3) := by decide +kernel
theorem dX12_priceOf_66 : decode cX12_priceOf 66 = .ok (.iload 9, 2) := by decide +kernel
theorem dX12_priceOf_68 : decode cX12_priceOf 68 = .ok (.iaload, 1) := by decide +kernel
theorem dX12_priceOf_69 : decode cX12_priceOf 69 = .ok (.istore 11, 2) := by decide +kernel
theorem dX12_priceOf_71 : decode cX12_priceOf 71 = .ok (.iload 8, 2) := by decide +kernel
theorem dX12_priceOf_73 : decode cX12_priceOf 73 = .ok (.ifCond .eq 59, 3) := by decide +kernel
theorem dX12_priceOf_76 : decode cX12_priceOf 76 = .ok (.iload 11, 2) := by decide +kernel
theorem dX12_priceOf_78 : decode cX12_priceOf 78 = .ok (.iconst 1, 1) := by decide +kernel
theorem dX12_priceOf_79 : decode cX12_priceOf 79 = .ok (.if_icmp .ne 12, 3) := by decide +kernel
theorem dX12_priceOf_82 : decode cX12_priceOf 82 = .ok (.iload_n 2, 1) := by decide +kernel
theorem dX12_priceOf_83 : decode cX12_priceOf 83 = .ok (.iload 10, 2) := by decide +kernel
theorem dX12_priceOf_85 : decode cX12_priceOf 85 = .ok (.if_icmp .lt 47, 3) := by decide +kernel
theorem dX12_priceOf_88 : decode cX12_priceOf 88 = .ok (.goto 40, 3) := by decide +kernel
theorem dX12_priceOf_91 : decode cX12_priceOf 91 = .ok (.iload 11, 2) := by decide +kernel
theorem dX12_priceOf_93 : decode cX12_priceOf 93 = .ok (.iconst 2, 1) := by decide +kernel
theorem dX12_priceOf_94 : decode cX12_priceOf 94 = .ok (.if_icmp .ne 12, 3) := by decide +kernel
theorem dX12_priceOf_97 : decode cX12_priceOf 97 = .ok (.iload_n 3, 1) := by decide +kernel
theorem dX12_priceOf_98 : decode cX12_priceOf 98 = .ok (.iload 10, 2) := by decide +kernel
theorem dX12_priceOf_100 : decode cX12_priceOf 100 = .ok (.if_icmp .ne 32, 3) := by decide +kernel
theorem dX12_priceOf_103 : decode cX12_priceOf 103 = .ok (.goto 25, 3) := by decide +kernel
theorem dX12_priceOf_106 : decode cX12_priceOf 106 = .ok (.iload 11, 2) := by decide +kernel
theorem dX12_priceOf_108 : decode cX12_priceOf 108 = .ok (.iconst 3, 1) := by decide +kernel
theorem dX12_priceOf_109 : decode cX12_priceOf 109 = .ok (.if_icmp .ne 13, 3) := by decide +kernel
theorem dX12_priceOf_112 : decode cX12_priceOf 112 = .ok (.iload 4, 2) := by decide +kernel
theorem dX12_priceOf_114 : decode cX12_priceOf 114 = .ok (.iload 10, 2) := by decide +kernel
theorem dX12_priceOf_116 : decode cX12_priceOf 116 = .ok (.if_icmp .ne 16, 3) := by decide +kernel
theorem dX12_priceOf_119 : decode cX12_priceOf 119 = .ok (.goto 9, 3) := by decide +kernel
theorem dX12_priceOf_122 : decode cX12_priceOf 122 = .ok (.iload_n 1, 1) := by decide +kernel
theorem dX12_priceOf_123 : decode cX12_priceOf 123 = .ok (.iload 10, 2) := by decide +kernel
theorem dX12_priceOf_125 : decode cX12_priceOf 125 = .ok (.if_icmp .ne 7, 3) := by decide +kernel
theorem dX12_priceOf_128 : decode cX12_priceOf 128 = .ok (.iconst 1, 1) := by decide +kernel
theorem dX12_priceOf_129 : decode cX12_priceOf 129 = .ok (.goto 4, 3) := by decide +kernel
theorem dX12_priceOf_132 : decode cX12_priceOf 132 = .ok (.iconst 0, 1) := by decide +kernel
theorem dX12_priceOf_133 : decode cX12_priceOf 133 = .ok (.istore 8, 2) := by decide +kernel
theorem dX12_priceOf_135 : decode cX12_priceOf 135 = .ok (.iinc 9 1, 3) := by decide +kernel
theorem dX12_priceOf_138 : decode cX12_priceOf 138 = .ok (.goto (-99), 3) := by decide +kernel
theorem dX12_priceOf_141 : decode cX12_priceOf 141 = .ok (.iload 8, 2) := by decide +kernel
theorem dX12_priceOf_143 : decode cX12_priceOf 143 = .ok (.ifCond .eq 107, 3) := by decide +kernel
theorem dX12_priceOf_146 : decode cX12_priceOf 146 = .ok (.aload_n 0, 1) := by decide +kernel
theorem dX12_priceOf_147 : decode cX12_priceOf 147 = .ok (.getfield 256, 3) := by decide +kernel
theorem dX12_priceOf_150 : decode cX12_priceOf 150 = .ok (.iload 7, 2) := by decide +kernel
theorem dX12_priceOf_152 : decode cX12_priceOf 152 = .ok (.iaload, 1) := by decide +kernel
theorem dX12_priceOf_153 : decode cX12_priceOf 153 = .ok (.istore 9, 2) := by decide +kernel
theorem dX12_priceOf_155 : decode cX12_priceOf 155 = .ok (.aload_n 0, 1) := by decide +kernel
theorem dX12_priceOf_156 : decode cX12_priceOf 156 = .ok (.getfield 253, 3) := by decide +kernel
theorem dX12_priceOf_159 : decode cX12_priceOf 159 = .ok (.iload 7, 2) := by decide +kernel
theorem dX12_priceOf_161 : decode cX12_priceOf 161 = .ok (.iaload, 1) := by decide +kernel
theorem dX12_priceOf_162 : decode cX12_priceOf 162 = .ok (.bipush 37, 2) := by decide +kernel
theorem dX12_priceOf_164 : decode cX12_priceOf 164 = .ok (.if_icmp .ne 18, 3) := by decide +kernel
theorem dX12_priceOf_167 : decode cX12_priceOf 167 = .ok (.lload 5, 2) := by decide +kernel
theorem dX12_priceOf_169 : decode cX12_priceOf 169 = .ok (.iload 9, 2) := by decide +kernel
theorem dX12_priceOf_171 : decode cX12_priceOf 171 = .ok (.i2l, 1) := by decide +kernel
theorem dX12_priceOf_172 : decode cX12_priceOf 172 = .ok (.lmul, 1) := by decide +kernel
theorem dX12_priceOf_173 : decode cX12_priceOf 173 = .ok (.ldc2_w 603, 3) := by decide +kernel
theorem dX12_priceOf_176 : decode cX12_priceOf 176 = .ok (.invokestatic 521, 3) := by decide +kernel
theorem dX12_priceOf_179 : decode cX12_priceOf 179 = .ok (.goto 51, 3) := by decide +kernel
theorem dX12_priceOf_182 : decode cX12_priceOf 182 = .ok (.aload_n 0, 1) := by decide +kernel
theorem dX12_priceOf_183 : decode cX12_priceOf 183 = .ok (.getfield 253, 3) := by decide +kernel
theorem dX12_priceOf_186 : decode cX12_priceOf 186 = .ok (.iload 7, 2) := by decide +kernel
theorem dX12_priceOf_188 : decode cX12_priceOf 188 = .ok (.iaload, 1) := by decide +kernel
theorem dX12_priceOf_189 : decode cX12_priceOf 189 = .ok (.bipush 45, 2) := by decide +kernel
theorem dX12_priceOf_191 : decode cX12_priceOf 191 = .ok (.if_icmp .ne 12, 3) := by decide +kernel
theorem dX12_priceOf_194 : decode cX12_priceOf 194 = .ok (.lload 5, 2) := by decide +kernel
theorem dX12_priceOf_196 : decode cX12_priceOf 196 = .ok (.iload 9, 2) := by decide +kernel
theorem dX12_priceOf_198 : decode cX12_priceOf 198 = .ok (.i2l, 1) := by decide +kernel
theorem dX12_priceOf_199 : decode cX12_priceOf 199 = .ok (.lsub, 1) := by decide +kernel
theorem dX12_priceOf_200 : decode cX12_priceOf 200 = .ok (.goto 30, 3) := by decide +kernel
theorem dX12_priceOf_203 : decode cX12_priceOf 203 = .ok (.aload_n 0, 1) := by decide +kernel
theorem dX12_priceOf_204 : decode cX12_priceOf 204 = .ok (.getfield 253, 3) := by decide +kernel
theorem dX12_priceOf_207 : decode cX12_priceOf 207 = .ok (.iload 7, 2) := by decide +kernel
theorem dX12_priceOf_209 : decode cX12_priceOf 209 = .ok (.iaload, 1) := by decide +kernel
theorem dX12_priceOf_210 : decode cX12_priceOf 210 = .ok (.bipush 43, 2) := by decide +kernel
theorem dX12_priceOf_212 : decode cX12_priceOf 212 = .ok (.if_icmp .ne 12, 3) := by decide +kernel
theorem dX12_priceOf_215 : decode cX12_priceOf 215 = .ok (.lload 5, 2) := by decide +kernel
theorem dX12_priceOf_217 : decode cX12_priceOf 217 = .ok (.iload 9, 2) := by decide +kernel
theorem dX12_priceOf_219 : decode cX12_priceOf 219 = .ok (.i2l, 1) := by decide +kernel
theorem dX12_priceOf_220 : decode cX12_priceOf 220 = .ok (.ladd, 1) := by decide +kernel
theorem dX12_priceOf_221 : decode cX12_priceOf 221 = .ok (.goto 9, 3) := by decide +kernel
theorem dX12_priceOf_224 : decode cX12_priceOf 224 = .ok (.iload 9, 2) := by decide +kernel
theorem dX12_priceOf_226 : decode cX12_priceOf 226 = .ok (.i2l, 1) := by decide +kernel
theorem dX12_priceOf_227 : decode cX12_priceOf 227 = .ok (.iload_n 2, 1) := by decide +kernel
theorem dX12_priceOf_228 : decode cX12_priceOf 228 = .ok (.i2l, 1) := by decide +kernel
theorem dX12_priceOf_229 : decode cX12_priceOf 229 = .ok (.lmul, 1) := by decide +kernel
theorem dX12_priceOf_230 : decode cX12_priceOf 230 = .ok (.lstore 5, 2) := by decide +kernel
theorem dX12_priceOf_232 : decode cX12_priceOf 232 = .ok (.lload 5, 2) := by decide +kernel
theorem dX12_priceOf_234 : decode cX12_priceOf 234 = .ok (.lconst 0, 1) := by decide +kernel
theorem dX12_priceOf_235 : decode cX12_priceOf 235 = .ok (.lcmp, 1) := by decide +kernel
theorem dX12_priceOf_236 : decode cX12_priceOf 236 = .ok (.ifCond .ge 7, 3) := by decide +kernel
theorem dX12_priceOf_239 : decode cX12_priceOf 239 = .ok (.lconst 0, 1) := by decide +kernel
theorem dX12_priceOf_240 : decode cX12_priceOf 240 = .ok (.goto 5, 3) := by decide +kernel
theorem dX12_priceOf_243 : decode cX12_priceOf 243 = .ok (.lload 5, 2) := by decide +kernel
theorem dX12_priceOf_245 : decode cX12_priceOf 245 = .ok (.invokestatic 599, 3) := by decide +kernel
theorem dX12_priceOf_248 : decode cX12_priceOf 248 = .ok (.lstore 5, 2) := by decide +kernel
theorem dX12_priceOf_250 : decode cX12_priceOf 250 = .ok (.iinc 7 1, 3) := by decide +kernel
theorem dX12_priceOf_253 : decode cX12_priceOf 253 = .ok (.goto (-235), 3) := by decide +kernel
theorem dX12_priceOf_256 : decode cX12_priceOf 256 = .ok (.lload 5, 2) := by decide +kernel
theorem dX12_priceOf_258 : decode cX12_priceOf 258 = .ok (.lreturn, 1) := by decide +kernel
theorem dX12_section_0 : decode cX12_section 0 = .ok (.iload_n 1, 1) := by decide +kernel
theorem dX12_section_1 : decode cX12_section 1 = .ok (.ifCond .lt 20, 3) := by decide +kernel
theorem dX12_section_4 : decode cX12_section 4 = .ok (.iload_n 1, 1) := by decide +kernel
theorem dX12_section_5 : decode cX12_section 5 = .ok (.bipush 7, 2) := by decide +kernel
theorem dX12_section_7 : decode cX12_section 7 = .ok (.if_icmp .gt 14, 3) := by decide +kernel
theorem dX12_section_10 : decode cX12_section 10 = .ok (.iload_n 2, 1) := by decide +kernel
theorem dX12_section_11 : decode cX12_section 11 = .ok (.ifCond .lt 10, 3) := by decide +kernel
theorem dX12_section_14 : decode cX12_section 14 = .ok (.iload_n 2, 1) := by decide +kernel
theorem dX12_section_15 : decode cX12_section 15 = .ok (.ldc_w 478, 3) := by decide +kernel
theorem dX12_section_18 : decode cX12_section 18 = .ok (.if_icmp .le 5, 3) := by decide +kernel
theorem dX12_section_21 : decode cX12_section 21 = .ok (.iconst 0, 1) := by decide +kernel
theorem dX12_section_22 : decode cX12_section 22 = .ok (.ireturn, 1) := by decide +kernel
theorem dX12_section_23 : decode cX12_section 23 = .ok (.aload_n 0, 1) := by decide +kernel
theorem dX12_section_24 : decode cX12_section 24 = .ok (.getfield 193, 3) := by decide +kernel
theorem dX12_section_27 : decode cX12_section 27 = .ok (.iload_n 1, 1) := by decide +kernel
theorem dX12_section_28 : decode cX12_section 28 = .ok (.iload_n 2, 1) := by decide +kernel
theorem dX12_section_29 : decode cX12_section 29 = .ok (.iastore, 1) := by decide +kernel
theorem dX12_section_30 : decode cX12_section 30 = .ok (.iconst 1, 1) := by decide +kernel
theorem dX12_section_31 : decode cX12_section 31 = .ok (.ireturn, 1) := by decide +kernel
theorem dX12_row_0 : decode cX12_row 0 = .ok (.iload_n 1, 1) := by decide +kernel
theorem dX12_row_1 : decode cX12_row 1 = .ok (.ifCond .lt 30, 3) := by decide +kernel
theorem dX12_row_4 : decode cX12_row 4 = .ok (.iload_n 1, 1) := by decide +kernel
theorem dX12_row_5 : decode cX12_row 5 = .ok (.bipush 39, 2) := by decide +kernel
theorem dX12_row_7 : decode cX12_row 7 = .ok (.if_icmp .gt 24, 3) := by decide +kernel
theorem dX12_row_10 : decode cX12_row 10 = .ok (.iload_n 2, 1) := by decide +kernel
theorem dX12_row_11 : decode cX12_row 11 = .ok (.ifCond .lt 20, 3) := by decide +kernel
theorem dX12_row_14 : decode cX12_row 14 = .ok (.iload_n 2, 1) := by decide +kernel
theorem dX12_row_15 : decode cX12_row 15 = .ok (.bipush 7, 2) := by decide +kernel
theorem dX12_row_17 : decode cX12_row 17 = .ok (.if_icmp .gt 14, 3) := by decide +kernel
theorem dX12_row_20 : decode cX12_row 20 = .ok (.iload_n 3, 1) := by decide +kernel
theorem dX12_row_21 : decode cX12_row 21 = .ok (.iconst 1, 1) := by decide +kernel
theorem dX12_row_22 : decode cX12_row 22 = .ok (.if_icmp .lt 9, 3) := by decide +kernel
theorem dX12_row_25 : decode cX12_row 25 = .ok (.iload_n 3, 1) := by decide +kernel
theorem dX12_row_26 : decode cX12_row 26 = .ok (.bipush 30, 2) := by decide +kernel
theorem dX12_row_28 : decode cX12_row 28 = .ok (.if_icmp .le 5, 3) := by decide +kernel
theorem dX12_row_31 : decode cX12_row 31 = .ok (.iconst 0, 1) := by decide +kernel
theorem dX12_row_32 : decode cX12_row 32 = .ok (.ireturn, 1) := by decide +kernel
theorem dX12_row_33 : decode cX12_row 33 = .ok (.iconst 0, 1) := by decide +kernel
theorem dX12_row_34 : decode cX12_row 34 = .ok (.istore 4, 2) := by decide +kernel
theorem dX12_row_36 : decode cX12_row 36 = .ok (.iload 4, 2) := by decide +kernel
theorem dX12_row_38 : decode cX12_row 38 = .ok (.bipush 30, 2) := by decide +kernel
theorem dX12_row_40 : decode cX12_row 40 = .ok (.if_icmp .ge 26, 3) := by decide +kernel
theorem dX12_row_43 : decode cX12_row 43 = .ok (.aload_n 0, 1) := by decide +kernel
theorem dX12_row_44 : decode cX12_row 44 = .ok (.getfield 202, 3) := by decide +kernel
theorem dX12_row_47 : decode cX12_row 47 = .ok (.bipush 30, 2) := by decide +kernel
theorem dX12_row_49 : decode cX12_row 49 = .ok (.iload_n 1, 1) := by decide +kernel
theorem dX12_row_50 : decode cX12_row 50 = .ok (.imul, 1) := by decide +kernel
theorem dX12_row_51 : decode cX12_row 51 = .ok (.iload 4, 2) := by decide +kernel
theorem dX12_row_53 : decode cX12_row 53 = .ok (.iadd, 1) := by decide +kernel
theorem dX12_row_54 : decode cX12_row 54 = .ok (.iaload, 1) := by decide +kernel
theorem dX12_row_55 : decode cX12_row 55 = .ok (.ifCond .eq 5, 3) := by decide +kernel
theorem dX12_row_58 : decode cX12_row 58 = .ok (.iconst 0, 1) := by decide +kernel
theorem dX12_row_59 : decode cX12_row 59 = .ok (.ireturn, 1) := by decide +kernel
theorem dX12_row_60 : decode cX12_row 60 = .ok (.iinc 4 1, 3) := by decide +kernel
theorem dX12_row_63 : decode cX12_row 63 = .ok (.goto (-27), 3) := by decide +kernel
theorem dX12_row_66 : decode cX12_row 66 = .ok (.aload_n 0, 1) := by decide +kernel
theorem dX12_row_67 : decode cX12_row 67 = .ok (.getfield 196, 3) := by decide +kernel
theorem dX12_row_70 : decode cX12_row 70 = .ok (.iload_n 1, 1) := by decide +kernel
theorem dX12_row_71 : decode cX12_row 71 = .ok (.iload_n 2, 1) := by decide +kernel
theorem dX12_row_72 : decode cX12_row 72 = .ok (.iastore, 1) := by decide +kernel
theorem dX12_row_73 : decode cX12_row 73 = .ok (.aload_n 0, 1) := by decide +kernel
theorem dX12_row_74 : decode cX12_row 74 = .ok (.getfield 199, 3) := by decide +kernel
theorem dX12_row_77 : decode cX12_row 77 = .ok (.iload_n 1, 1) := by decide +kernel
theorem dX12_row_78 : decode cX12_row 78 = .ok (.iload_n 3, 1) := by decide +kernel
theorem dX12_row_79 : decode cX12_row 79 = .ok (.iastore, 1) := by decide +kernel
theorem dX12_row_80 : decode cX12_row 80 = .ok (.iconst 1, 1) := by decide +kernel
theorem dX12_row_81 : decode cX12_row 81 = .ok (.ireturn, 1) := by decide +kernel
theorem dX12_line_0 : decode cX12_line 0 = .ok (.iload_n 1, 1) := by decide +kernel
theorem dX12_line_1 : decode cX12_line 1 = .ok (.ifCond .lt 8, 3) := by decide +kernel
theorem dX12_line_4 : decode cX12_line 4 = .ok (.iload_n 1, 1) := by decide +kernel
theorem dX12_line_5 : decode cX12_line 5 = .ok (.iconst 3, 1) := by decide +kernel
theorem dX12_line_6 : decode cX12_line 6 = .ok (.if_icmp .le 5, 3) := by decide +kernel
theorem dX12_line_9 : decode cX12_line 9 = .ok (.iconst 0, 1) := by decide +kernel
theorem dX12_line_10 : decode cX12_line 10 = .ok (.ireturn, 1) := by decide +kernel
theorem dX12_line_11 : decode cX12_line 11 = .ok (.aload_n 0, 1) := by decide +kernel
theorem dX12_line_12 : decode cX12_line 12 = .ok (.getfield 205, 3) := by decide +kernel
theorem dX12_line_15 : decode cX12_line 15 = .ok (.iload_n 1, 1) := by decide +kernel
theorem dX12_line_16 : decode cX12_line 16 = .ok (.iload_n 2, 1) := by decide +kernel
theorem dX12_line_17 : decode cX12_line 17 = .ok (.bastore, 1) := by decide +kernel
theorem dX12_line_18 : decode cX12_line 18 = .ok (.iconst 1, 1) := by decide +kernel
theorem dX12_line_19 : decode cX12_line 19 = .ok (.ireturn, 1) := by decide +kernel
theorem dX12_isFree_0 : decode cX12_isFree 0 = .ok (.iload_n 2, 1) := by decide +kernel
theorem dX12_isFree_1 : decode cX12_isFree 1 = .ok (.ifCond .lt 31, 3) := by decide +kernel
theorem dX12_isFree_4 : decode cX12_isFree 4 = .ok (.iload_n 2, 1) := by decide +kernel
theorem dX12_isFree_5 : decode cX12_isFree 5 = .ok (.aload_n 0, 1) := by decide +kernel
theorem dX12_isFree_6 : decode cX12_isFree 6 = .ok (.getfield 199, 3) := by decide +kernel
theorem dX12_isFree_9 : decode cX12_isFree 9 = .ok (.iload_n 1, 1) := by decide +kernel
theorem dX12_isFree_10 : decode cX12_isFree 10 = .ok (.iaload, 1) := by decide +kernel
theorem dX12_isFree_11 : decode cX12_isFree 11 = .ok (.if_icmp .ge 21, 3) := by decide +kernel
theorem dX12_isFree_14 : decode cX12_isFree 14 = .ok (.aload_n 0, 1) := by decide +kernel
theorem dX12_isFree_15 : decode cX12_isFree 15 = .ok (.getfield 202, 3) := by decide +kernel
theorem dX12_isFree_18 : decode cX12_isFree 18 = .ok (.bipush 30, 2) := by decide +kernel
theorem dX12_isFree_20 : decode cX12_isFree 20 = .ok (.iload_n 1, 1) := by decide +kernel
theorem dX12_isFree_21 : decode cX12_isFree 21 = .ok (.imul, 1) := by decide +kernel
theorem dX12_isFree_22 : decode cX12_isFree 22 = .ok (.iload_n 2, 1) := by decide +kernel
theorem dX12_isFree_23 : decode cX12_isFree 23 = .ok (.iadd, 1) := by decide +kernel
theorem dX12_isFree_24 : decode cX12_isFree 24 = .ok (.iaload, 1) := by decide +kernel
theorem dX12_isFree_25 : decode cX12_isFree 25 = .ok (.ifCond .ne 7, 3) := by decide +kernel
theorem dX12_isFree_28 : decode cX12_isFree 28 = .ok (.iconst 1, 1) := by decide +kernel
theorem dX12_isFree_29 : decode cX12_isFree 29 = .ok (.goto 4, 3) := by decide +kernel
theorem dX12_isFree_32 : decode cX12_isFree 32 = .ok (.iconst 0, 1) := by decide +kernel
theorem dX12_isFree_33 : decode cX12_isFree 33 = .ok (.ireturn, 1) := by decide +kernel
theorem dX12_mayTake_0 : decode cX12_mayTake 0 = .ok (.iload_n 2, 1) := by decide +kernel
theorem dX12_mayTake_1 : decode cX12_mayTake 1 = .ok (.iload_n 3, 1) := by decide +kernel
theorem dX12_mayTake_2 : decode cX12_mayTake 2 = .ok (.iadd, 1) := by decide +kernel
theorem dX12_mayTake_3 : decode cX12_mayTake 3 = .ok (.iconst 4, 1) := by decide +kernel
theorem dX12_mayTake_4 : decode cX12_mayTake 4 = .ok (.irem, 1) := by decide +kernel
theorem dX12_mayTake_5 : decode cX12_mayTake 5 = .ok (.istore 4, 2) := by decide +kernel
theorem dX12_mayTake_7 : decode cX12_mayTake 7 = .ok (.iload 4, 2) := by decide +kernel
theorem dX12_mayTake_9 : decode cX12_mayTake 9 = .ok (.iload_n 1, 1) := by decide +kernel
theorem dX12_mayTake_10 : decode cX12_mayTake 10 = .ok (.if_icmp .eq 22, 3) := by decide +kernel
theorem dX12_mayTake_13 : decode cX12_mayTake 13 = .ok (.aload_n 0, 1) := by decide +kernel
theorem dX12_mayTake_14 : decode cX12_mayTake 14 = .ok (.getfield 205, 3) := by decide +kernel
theorem dX12_mayTake_17 : decode cX12_mayTake 17 = .ok (.iload_n 1, 1) := by decide +kernel
theorem dX12_mayTake_18 : decode cX12_mayTake 18 = .ok (.baload, 1) := by decide +kernel
theorem dX12_mayTake_19 : decode cX12_mayTake 19 = .ok (.ifCond .eq 17, 3) := by decide +kernel
theorem dX12_mayTake_22 : decode cX12_mayTake 22 = .ok (.aload_n 0, 1) := by decide +kernel
theorem dX12_mayTake_23 : decode cX12_mayTake 23 = .ok (.getfield 205, 3) := by decide +kernel
theorem dX12_mayTake_26 : decode cX12_mayTake 26 = .ok (.iload 4, 2) := by decide +kernel
theorem dX12_mayTake_28 : decode cX12_mayTake 28 = .ok (.baload, 1) := by decide +kernel
theorem dX12_mayTake_29 : decode cX12_mayTake 29 = .ok (.ifCond .eq 7, 3) := by decide +kernel
theorem dX12_mayTake_32 : decode cX12_mayTake 32 = .ok (.iconst 1, 1) := by decide +kernel
theorem dX12_mayTake_33 : decode cX12_mayTake 33 = .ok (.goto 4, 3) := by decide +kernel
theorem dX12_mayTake_36 : decode cX12_mayTake 36 = .ok (.iconst 0, 1) := by decide +kernel
theorem dX12_mayTake_37 : decode cX12_mayTake 37 = .ok (.ireturn, 1) := by decide +kernel
theorem dX12_ask_0 : decode cX12_ask 0 = .ok (.iload_n 1, 1) := by decide +kernel
theorem dX12_ask_1 : decode cX12_ask 1 = .ok (.ifCond .lt 52, 3) := by decide +kernel
theorem dX12_ask_4 : decode cX12_ask 4 = .ok (.iload_n 1, 1) := by decide +kernel
theorem dX12_ask_5 : decode cX12_ask 5 = .ok (.iconst 3, 1) := by decide +kernel
theorem dX12_ask_6 : decode cX12_ask 6 = .ok (.if_icmp .gt 47, 3) := by decide +kernel
theorem dX12_ask_9 : decode cX12_ask 9 = .ok (.iload_n 2, 1) := by decide +kernel
theorem dX12_ask_10 : decode cX12_ask 10 = .ok (.ifCond .lt 43, 3) := by decide +kernel
theorem dX12_ask_13 : decode cX12_ask 13 = .ok (.iload_n 2, 1) := by decide +kernel
theorem dX12_ask_14 : decode cX12_ask 14 = .ok (.bipush 7, 2) := by decide +kernel
theorem dX12_ask_16 : decode cX12_ask 16 = .ok (.if_icmp .gt 37, 3) := by decide +kernel
theorem dX12_ask_19 : decode cX12_ask 19 = .ok (.iload_n 3, 1) := by decide +kernel
theorem dX12_ask_20 : decode cX12_ask 20 = .ok (.iconst 1, 1) := by decide +kernel
theorem dX12_ask_21 : decode cX12_ask 21 = .ok (.if_icmp .lt 32, 3) := by decide +kernel
theorem dX12_ask_24 : decode cX12_ask 24 = .ok (.iload_n 3, 1) := by decide +kernel
theorem dX12_ask_25 : decode cX12_ask 25 = .ok (.bipush 10, 2) := by decide +kernel
theorem dX12_ask_27 : decode cX12_ask 27 = .ok (.if_icmp .gt 26, 3) := by decide +kernel
theorem dX12_ask_30 : decode cX12_ask 30 = .ok (.iload 4, 2) := by decide +kernel
theorem dX12_ask_32 : decode cX12_ask 32 = .ok (.ifCond .lt 21, 3) := by decide +kernel
theorem dX12_ask_35 : decode cX12_ask 35 = .ok (.iload 4, 2) := by decide +kernel
theorem dX12_ask_37 : decode cX12_ask 37 = .ok (.iconst 3, 1) := by decide +kernel
theorem dX12_ask_38 : decode cX12_ask 38 = .ok (.if_icmp .gt 15, 3) := by decide +kernel
theorem dX12_ask_41 : decode cX12_ask 41 = .ok (.iload 5, 2) := by decide +kernel
theorem dX12_ask_43 : decode cX12_ask 43 = .ok (.ifCond .lt 10, 3) := by decide +kernel
theorem dX12_ask_46 : decode cX12_ask 46 = .ok (.iload 5, 2) := by decide +kernel
theorem dX12_ask_48 : decode cX12_ask 48 = .ok (.bipush 6, 2) := by decide +kernel
theorem dX12_ask_50 : decode cX12_ask 50 = .ok (.if_icmp .le 5, 3) := by decide +kernel
theorem dX12_ask_53 : decode cX12_ask 53 = .ok (.iconst (-1), 1) := by decide +kernel
theorem dX12_ask_54 : decode cX12_ask 54 = .ok (.ireturn, 1) := by decide +kernel
theorem dX12_ask_55 : decode cX12_ask 55 = .ok (.iconst 0, 1) := by decide +kernel
theorem dX12_ask_56 : decode cX12_ask 56 = .ok (.istore 7, 2) := by decide +kernel
theorem dX12_ask_58 : decode cX12_ask 58 = .ok (.iload 7, 2) := by decide +kernel
theorem dX12_ask_60 : decode cX12_ask 60 = .ok (.bipush 60, 2) := by decide +kernel
theorem dX12_ask_62 : decode cX12_ask 62 = .ok (.if_icmp .ge 19, 3) := by decide +kernel
theorem dX12_ask_65 : decode cX12_ask 65 = .ok (.aload_n 0, 1) := by decide +kernel
theorem dX12_ask_66 : decode cX12_ask 66 = .ok (.getfield 208, 3) := by decide +kernel
theorem dX12_ask_69 : decode cX12_ask 69 = .ok (.iload 7, 2) := by decide +kernel
theorem dX12_ask_71 : decode cX12_ask 71 = .ok (.baload, 1) := by decide +kernel
theorem dX12_ask_72 : decode cX12_ask 72 = .ok (.ifCond .eq 9, 3) := by decide +kernel
theorem dX12_ask_75 : decode cX12_ask 75 = .ok (.iinc 7 1, 3) := by decide +kernel
theorem dX12_ask_78 : decode cX12_ask 78 = .ok (.goto (-20), 3) := by decide +kernel
theorem dX12_ask_81 : decode cX12_ask 81 = .ok (.iload 6, 2) := by decide +kernel
theorem dX12_ask_83 : decode cX12_ask 83 = .ok (.aload_n 0, 1) := by decide +kernel
theorem dX12_ask_84 : decode cX12_ask 84 = .ok (.getfield 490, 3) := by decide +kernel
theorem dX12_ask_87 : decode cX12_ask 87 = .ok (.if_icmp .le 10, 3) := by decide +kernel
theorem dX12_ask_90 : decode cX12_ask 90 = .ok (.iload 7, 2) := by decide +kernel
theorem dX12_ask_92 : decode cX12_ask 92 = .ok (.bipush 60, 2) := by decide +kernel
theorem dX12_ask_94 : decode cX12_ask 94 = .ok (.if_icmp .ne 5, 3) := by decide +kernel
theorem dX12_ask_97 : decode cX12_ask 97 = .ok (.iconst (-1), 1) := by decide +kernel
theorem dX12_ask_98 : decode cX12_ask 98 = .ok (.ireturn, 1) := by decide +kernel
theorem dX12_ask_99 : decode cX12_ask 99 = .ok (.iconst (-1), 1) := by decide +kernel
theorem dX12_ask_100 : decode cX12_ask 100 = .ok (.istore 8, 2) := by decide +kernel
theorem dX12_ask_102 : decode cX12_ask 102 = .ok (.iconst (-1), 1) := by decide +kernel
theorem dX12_ask_103 : decode cX12_ask 103 = .ok (.istore 9, 2) := by decide +kernel
theorem dX12_ask_105 : decode cX12_ask 105 = .ok (.iconst 0, 1) := by decide +kernel
theorem dX12_ask_106 : decode cX12_ask 106 = .ok (.istore 10, 2) := by decide +kernel
theorem dX12_ask_108 : decode cX12_ask 108 = .ok (.iconst 0, 1) := by decide +kernel
theorem dX12_ask_109 : decode cX12_ask 109 = .ok (.istore 11, 2) := by decide +kernel
theorem dX12_ask_111 : decode cX12_ask 111 = .ok (.iconst 0, 1) := by decide +kernel
theorem dX12_ask_112 : decode cX12_ask 112 = .ok (.istore 12, 2) := by decide +kernel
theorem dX12_ask_114 : decode cX12_ask 114 = .ok (.iload 12, 2) := by decide +kernel
theorem dX12_ask_116 : decode cX12_ask 116 = .ok (.bipush 40, 2) := by decide +kernel
theorem dX12_ask_118 : decode cX12_ask 118 = .ok (.if_icmp .ge 255, 3) := by decide +kernel
theorem dX12_ask_121 : decode cX12_ask 121 = .ok (.iconst 0, 1) := by decide +kernel
theorem dX12_ask_122 : decode cX12_ask 122 = .ok (.istore 13, 2) := by decide +kernel
theorem dX12_ask_124 : decode cX12_ask 124 = .ok (.aload_n 0, 1) := by decide +kernel
theorem dX12_ask_125 : decode cX12_ask 125 = .ok (.getfield 196, 3) := by decide +kernel
theorem dX12_ask_128 : decode cX12_ask 128 = .ok (.iload 12, 2) := by decide +kernel
theorem dX12_ask_130 : decode cX12_ask 130 = .ok (.iaload, 1) := by decide +kernel
theorem dX12_ask_131 : decode cX12_ask 131 = .ok (.iload_n 2, 1) := by decide +kernel
theorem dX12_ask_132 : decode cX12_ask 132 = .ok (.if_icmp .ne 235, 3) := by decide +kernel
theorem dX12_ask_135 : decode cX12_ask 135 = .ok (.iload 13, 2) := by decide +kernel
theorem dX12_ask_137 : decode cX12_ask 137 = .ok (.iload_n 3, 1) := by decide +kernel
theorem dX12_ask_138 : decode cX12_ask 138 = .ok (.iadd, 1) := by decide +kernel
theorem dX12_ask_139 : decode cX12_ask 139 = .ok (.aload_n 0, 1) := by decide +kernel
theorem dX12_ask_140 : decode cX12_ask 140 = .ok (.getfield 199, 3) := by decide +kernel
theorem dX12_ask_143 : decode cX12_ask 143 = .ok (.iload 12, 2) := by decide +kernel
theorem dX12_ask_145 : decode cX12_ask 145 = .ok (.iaload, 1) := by decide +kernel
theorem dX12_ask_146 : decode cX12_ask 146 = .ok (.if_icmp .gt 221, 3) := by decide +kernel
theorem dX12_ask_149 : decode cX12_ask 149 = .ok (.iconst 1, 1) := by decide +kernel
theorem dX12_ask_150 : decode cX12_ask 150 = .ok (.istore 14, 2) := by decide +kernel
theorem dX12_ask_152 : decode cX12_ask 152 = .ok (.iload 13, 2) := by decide +kernel
theorem dX12_ask_154 : decode cX12_ask 154 = .ok (.istore 15, 2) := by decide +kernel
theorem dX12_ask_156 : decode cX12_ask 156 = .ok (.iload 15, 2) := by decide +kernel
theorem dX12_ask_158 : decode cX12_ask 158 = .ok (.iload 13, 2) := by decide +kernel
theorem dX12_ask_160 : decode cX12_ask 160 = .ok (.iload_n 3, 1) := by decide +kernel
theorem dX12_ask_161 : decode cX12_ask 161 = .ok (.iadd, 1) := by decide +kernel
theorem dX12_ask_162 : decode cX12_ask 162 = .ok (.if_icmp .ge 44, 3) := by decide +kernel
theorem dX12_ask_165 : decode cX12_ask 165 = .ok (.iload 14, 2) := by decide +kernel
theorem dX12_ask_167 : decode cX12_ask 167 = .ok (.ifCond .eq 30, 3) := by decide +kernel
theorem dX12_ask_170 : decode cX12_ask 170 = .ok (.aload_n 0, 1) := by decide +kernel
theorem dX12_ask_171 : decode cX12_ask 171 = .ok (.iload 12, 2) := by decide +kernel
theorem dX12_ask_173 : decode cX12_ask 173 = .ok (.iload 15, 2) := by decide +kernel
theorem dX12_ask_175 : decode cX12_ask 175 = .ok (.invokevirtual 605, 3) := by decide +kernel
theorem dX12_ask_178 : decode cX12_ask 178 = .ok (.ifCond .eq 19, 3) := by decide +kernel
theorem dX12_ask_181 : decode cX12_ask 181 = .ok (.aload_n 0, 1) := by decide +kernel
theorem dX12_ask_182 : decode cX12_ask 182 = .ok (.iload_n 1, 1) := by decide +kernel
theorem dX12_ask_183 : decode cX12_ask 183 = .ok (.iload 12, 2) := by decide +kernel
theorem dX12_ask_185 : decode cX12_ask 185 = .ok (.iload 15, 2) := by decide +kernel
theorem dX12_ask_187 : decode cX12_ask 187 = .ok (.invokevirtual 608, 3) := by decide +kernel
theorem dX12_ask_190 : decode cX12_ask 190 = .ok (.ifCond .eq 7, 3) := by decide +kernel
theorem dX12_ask_193 : decode cX12_ask 193 = .ok (.iconst 1, 1) := by decide +kernel
theorem dX12_ask_194 : decode cX12_ask 194 = .ok (.goto 4, 3) := by decide +kernel
theorem dX12_ask_197 : decode cX12_ask 197 = .ok (.iconst 0, 1) := by decide +kernel
theorem dX12_ask_198 : decode cX12_ask 198 = .ok (.istore 14, 2) := by decide +kernel
theorem dX12_ask_200 : decode cX12_ask 200 = .ok (.iinc 15 1, 3) := by decide +kernel
theorem dX12_ask_203 : decode cX12_ask 203 = .ok (.goto (-47), 3) := by decide +kernel
theorem dX12_ask_206 : decode cX12_ask 206 = .ok (.iload 14, 2) := by decide +kernel
theorem dX12_ask_208 : decode cX12_ask 208 = .ok (.ifCond .eq 153, 3) := by decide +kernel
theorem dX12_ask_211 : decode cX12_ask 211 = .ok (.aload_n 0, 1) := by decide +kernel
theorem dX12_ask_212 : decode cX12_ask 212 = .ok (.iload 12, 2) := by decide +kernel
theorem dX12_ask_214 : decode cX12_ask 214 = .ok (.iload 13, 2) := by decide +kernel
theorem dX12_ask_216 : decode cX12_ask 216 = .ok (.iconst 1, 1) := by decide +kernel
theorem dX12_ask_217 : decode cX12_ask 217 = .ok (.isub, 1) := by decide +kernel
theorem dX12_ask_218 : decode cX12_ask 218 = .ok (.invokevirtual 605, 3) := by decide +kernel
theorem dX12_ask_221 : decode cX12_ask 221 = .ok (.ifCond .eq 20, 3) := by decide +kernel
theorem dX12_ask_224 : decode cX12_ask 224 = .ok (.aload_n 0, 1) := by decide +kernel
theorem dX12_ask_225 : decode cX12_ask 225 = .ok (.iload 12, 2) := by decide +kernel
theorem dX12_ask_227 : decode cX12_ask 227 = .ok (.iload 13, 2) := by decide +kernel
theorem dX12_ask_229 : decode cX12_ask 229 = .ok (.iconst 2, 1) := by decide +kernel
theorem dX12_ask_230 : decode cX12_ask 230 = .ok (.isub, 1) := by decide +kernel
theorem dX12_ask_231 : decode cX12_ask 231 = .ok (.invokevirtual 605, 3) := by decide +kernel
theorem dX12_ask_234 : decode cX12_ask 234 = .ok (.ifCond .ne 7, 3) := by decide +kernel
theorem dX12_ask_237 : decode cX12_ask 237 = .ok (.iconst 1, 1) := by decide +kernel
theorem dX12_ask_238 : decode cX12_ask 238 = .ok (.goto 4, 3) := by decide +kernel
theorem dX12_ask_241 : decode cX12_ask 241 = .ok (.iconst 0, 1) := by decide +kernel
theorem dX12_ask_242 : decode cX12_ask 242 = .ok (.aload_n 0, 1) := by decide +kernel
theorem dX12_ask_243 : decode cX12_ask 243 = .ok (.iload 12, 2) := by decide +kernel
theorem dX12_ask_245 : decode cX12_ask 245 = .ok (.iload 13, 2) := by decide +kernel
theorem dX12_ask_247 : decode cX12_ask 247 = .ok (.iload_n 3, 1) := by decide +kernel
theorem dX12_ask_248 : decode cX12_ask 248 = .ok (.iadd, 1) := by decide +kernel
theorem dX12_ask_249 : decode cX12_ask 249 = .ok (.invokevirtual 605, 3) := by decide +kernel
theorem dX12_ask_252 : decode cX12_ask 252 = .ok (.ifCond .eq 22, 3) := by decide +kernel
theorem dX12_ask_255 : decode cX12_ask 255 = .ok (.aload_n 0, 1) := by decide +kernel
theorem dX12_ask_256 : decode cX12_ask 256 = .ok (.iload 12, 2) := by decide +kernel
theorem dX12_ask_258 : decode cX12_ask 258 = .ok (.iload 13, 2) := by decide +kernel
theorem dX12_ask_260 : decode cX12_ask 260 = .ok (.iload_n 3, 1) := by decide +kernel
theorem dX12_ask_261 : decode cX12_ask 261 = .ok (.iadd, 1) := by decide +kernel
theorem dX12_ask_262 : decode cX12_ask 262 = .ok (.iconst 1, 1) := by decide +kernel
theorem dX12_ask_263 : decode cX12_ask 263 = .ok (.iadd, 1) := by decide +kernel
theorem dX12_ask_264 : decode cX12_ask 264 = .ok (.invokevirtual 605, 3) := by decide +kernel
theorem dX12_ask_267 : decode cX12_ask 267 = .ok (.ifCond .ne 7, 3) := by decide +kernel
theorem dX12_ask_270 : decode cX12_ask 270 = .ok (.iconst 1, 1) := by decide +kernel
theorem dX12_ask_271 : decode cX12_ask 271 = .ok (.goto 4, 3) := by decide +kernel
theorem dX12_ask_274 : decode cX12_ask 274 = .ok (.iconst 0, 1) := by decide +kernel
theorem dX12_ask_275 : decode cX12_ask 275 = .ok (.iadd, 1) := by decide +kernel
theorem dX12_ask_276 : decode cX12_ask 276 = .ok (.istore 15, 2) := by decide +kernel
theorem dX12_ask_278 : decode cX12_ask 278 = .ok (.iconst 2, 1) := by decide +kernel
theorem dX12_ask_279 : decode cX12_ask 279 = .ok (.iload 13, 2) := by decide +kernel
theorem dX12_ask_281 : decode cX12_ask 281 = .ok (.imul, 1) := by decide +kernel
theorem dX12_ask_282 : decode cX12_ask 282 = .ok (.iload_n 3, 1) := by decide +kernel
theorem dX12_ask_283 : decode cX12_ask 283 = .ok (.iadd, 1) := by decide +kernel
theorem dX12_ask_284 : decode cX12_ask 284 = .ok (.iconst 1, 1) := by decide +kernel
theorem dX12_ask_285 : decode cX12_ask 285 = .ok (.isub, 1) := by decide +kernel
theorem dX12_ask_286 : decode cX12_ask 286 = .ok (.aload_n 0, 1) := by decide +kernel
theorem dX12_ask_287 : decode cX12_ask 287 = .ok (.getfield 199, 3) := by decide +kernel
theorem dX12_ask_290 : decode cX12_ask 290 = .ok (.iload 12, 2) := by decide +kernel
theorem dX12_ask_292 : decode cX12_ask 292 = .ok (.iaload, 1) := by decide +kernel
theorem dX12_ask_293 : decode cX12_ask 293 = .ok (.iconst 1, 1) := by decide +kernel
theorem dX12_ask_294 : decode cX12_ask 294 = .ok (.isub, 1) := by decide +kernel
theorem dX12_ask_295 : decode cX12_ask 295 = .ok (.isub, 1) := by decide +kernel
theorem dX12_ask_296 : decode cX12_ask 296 = .ok (.istore 16, 2) := by decide +kernel
theorem dX12_ask_298 : decode cX12_ask 298 = .ok (.iconst 3, 1) := by decide +kernel
theorem dX12_ask_299 : decode cX12_ask 299 = .ok (.iload 12, 2) := by decide +kernel
theorem dX12_ask_301 : decode cX12_ask 301 = .ok (.imul, 1) := by decide +kernel
theorem dX12_ask_302 : decode cX12_ask 302 = .ok (.iload 16, 2) := by decide +kernel
theorem dX12_ask_304 : decode cX12_ask 304 = .ok (.ifCond .ge 9, 3) := by decide +kernel
theorem dX12_ask_307 : decode cX12_ask 307 = .ok (.iload 16, 2) := by decide +kernel
theorem dX12_ask_309 : decode cX12_ask 309 = .ok (.ineg, 1) := by decide +kernel
theorem dX12_ask_310 : decode cX12_ask 310 = .ok (.goto 5, 3) := by decide +kernel
theorem dX12_ask_313 : decode cX12_ask 313 = .ok (.iload 16, 2) := by decide +kernel
theorem dX12_ask_315 : decode cX12_ask 315 = .ok (.iadd, 1) := by decide +kernel
theorem dX12_ask_316 : decode cX12_ask 316 = .ok (.istore 17, 2) := by decide +kernel
theorem dX12_ask_318 : decode cX12_ask 318 = .ok (.iload 8, 2) := by decide +kernel
theorem dX12_ask_320 : decode cX12_ask 320 = .ok (.iconst (-1), 1) := by decide +kernel
theorem dX12_ask_321 : decode cX12_ask 321 = .ok (.if_icmp .eq 24, 3) := by decide +kernel
theorem dX12_ask_324 : decode cX12_ask 324 = .ok (.iload 15, 2) := by decide +kernel
theorem dX12_ask_326 : decode cX12_ask 326 = .ok (.iload 10, 2) := by decide +kernel
theorem dX12_ask_328 : decode cX12_ask 328 = .ok (.if_icmp .lt 17, 3) := by decide +kernel
theorem dX12_ask_331 : decode cX12_ask 331 = .ok (.iload 15, 2) := by decide +kernel
theorem dX12_ask_333 : decode cX12_ask 333 = .ok (.iload 10, 2) := by decide +kernel
theorem dX12_ask_335 : decode cX12_ask 335 = .ok (.if_icmp .ne 26, 3) := by decide +kernel
theorem dX12_ask_338 : decode cX12_ask 338 = .ok (.iload 17, 2) := by decide +kernel
theorem dX12_ask_340 : decode cX12_ask 340 = .ok (.iload 11, 2) := by decide +kernel
theorem dX12_ask_342 : decode cX12_ask 342 = .ok (.if_icmp .ge 19, 3) := by decide +kernel
theorem dX12_ask_345 : decode cX12_ask 345 = .ok (.iload 12, 2) := by decide +kernel
theorem dX12_ask_347 : decode cX12_ask 347 = .ok (.istore 8, 2) := by decide +kernel
theorem dX12_ask_349 : decode cX12_ask 349 = .ok (.iload 13, 2) := by decide +kernel
theorem dX12_ask_351 : decode cX12_ask 351 = .ok (.istore 9, 2) := by decide +kernel
theorem dX12_ask_353 : decode cX12_ask 353 = .ok (.iload 15, 2) := by decide +kernel
theorem dX12_ask_355 : decode cX12_ask 355 = .ok (.istore 10, 2) := by decide +kernel
theorem dX12_ask_357 : decode cX12_ask 357 = .ok (.iload 17, 2) := by decide +kernel
theorem dX12_ask_359 : decode cX12_ask 359 = .ok (.istore 11, 2) := by decide +kernel
theorem dX12_ask_361 : decode cX12_ask 361 = .ok (.iinc 13 1, 3) := by decide +kernel
theorem dX12_ask_364 : decode cX12_ask 364 = .ok (.goto (-240), 3) := by decide +kernel
theorem dX12_ask_367 : decode cX12_ask 367 = .ok (.iinc 12 1, 3) := by decide +kernel
theorem dX12_ask_370 : decode cX12_ask 370 = .ok (.goto (-256), 3) := by decide +kernel
theorem dX12_ask_373 : decode cX12_ask 373 = .ok (.iload 8, 2) := by decide +kernel
theorem dX12_ask_375 : decode cX12_ask 375 = .ok (.iconst (-1), 1) := by decide +kernel
theorem dX12_ask_376 : decode cX12_ask 376 = .ok (.if_icmp .ne 5, 3) := by decide +kernel
theorem dX12_ask_379 : decode cX12_ask 379 = .ok (.iconst (-1), 1) := by decide +kernel
theorem dX12_ask_380 : decode cX12_ask 380 = .ok (.ireturn, 1) := by decide +kernel
theorem dX12_ask_381 : decode cX12_ask 381 = .ok (.aload_n 0, 1) := by decide +kernel
theorem dX12_ask_382 : decode cX12_ask 382 = .ok (.getfield 208, 3) := by decide +kernel
theorem dX12_ask_385 : decode cX12_ask 385 = .ok (.iload 7, 2) := by decide +kernel
theorem dX12_ask_387 : decode cX12_ask 387 = .ok (.iconst 1, 1) := by decide +kernel
theorem dX12_ask_388 : decode cX12_ask 388 = .ok (.bastore, 1) := by decide +kernel
theorem dX12_ask_389 : decode cX12_ask 389 = .ok (.aload_n 0, 1) := by decide +kernel
theorem dX12_ask_390 : decode cX12_ask 390 = .ok (.getfield 211, 3) := by decide +kernel
theorem dX12_ask_393 : decode cX12_ask 393 = .ok (.iload 7, 2) := by decide +kernel
theorem dX12_ask_395 : decode cX12_ask 395 = .ok (.iload 8, 2) := by decide +kernel
theorem dX12_ask_397 : decode cX12_ask 397 = .ok (.iastore, 1) := by decide +kernel
theorem dX12_ask_398 : decode cX12_ask 398 = .ok (.aload_n 0, 1) := by decide +kernel
theorem dX12_ask_399 : decode cX12_ask 399 = .ok (.getfield 214, 3) := by decide +kernel
theorem dX12_ask_402 : decode cX12_ask 402 = .ok (.iload 7, 2) := by decide +kernel
theorem dX12_ask_404 : decode cX12_ask 404 = .ok (.iload 9, 2) := by decide +kernel
theorem dX12_ask_406 : decode cX12_ask 406 = .ok (.iastore, 1) := by decide +kernel
theorem dX12_ask_407 : decode cX12_ask 407 = .ok (.aload_n 0, 1) := by decide +kernel
theorem dX12_ask_408 : decode cX12_ask 408 = .ok (.getfield 217, 3) := by decide +kernel
theorem dX12_ask_411 : decode cX12_ask 411 = .ok (.iload 7, 2) := by decide +kernel
theorem dX12_ask_413 : decode cX12_ask 413 = .ok (.iload_n 3, 1) := by decide +kernel
theorem dX12_ask_414 : decode cX12_ask 414 = .ok (.iastore, 1) := by decide +kernel
theorem dX12_ask_415 : decode cX12_ask 415 = .ok (.aload_n 0, 1) := by decide +kernel
theorem dX12_ask_416 : decode cX12_ask 416 = .ok (.getfield 220, 3) := by decide +kernel
theorem dX12_ask_419 : decode cX12_ask 419 = .ok (.iload 7, 2) := by decide +kernel
theorem dX12_ask_421 : decode cX12_ask 421 = .ok (.iload 6, 2) := by decide +kernel
theorem dX12_ask_423 : decode cX12_ask 423 = .ok (.iastore, 1) := by decide +kernel
theorem dX12_ask_424 : decode cX12_ask 424 = .ok (.aload_n 0, 1) := by decide +kernel
theorem dX12_ask_425 : decode cX12_ask 425 = .ok (.getfield 223, 3) := by decide +kernel
theorem dX12_ask_428 : decode cX12_ask 428 = .ok (.iload 7, 2) := by decide +kernel
theorem dX12_ask_430 : decode cX12_ask 430 = .ok (.iload_n 2, 1) := by decide +kernel
theorem dX12_ask_431 : decode cX12_ask 431 = .ok (.iastore, 1) := by decide +kernel
theorem dX12_ask_432 : decode cX12_ask 432 = .ok (.aload_n 0, 1) := by decide +kernel
theorem dX12_ask_433 : decode cX12_ask 433 = .ok (.getfield 226, 3) := by decide +kernel
theorem dX12_ask_436 : decode cX12_ask 436 = .ok (.iload 7, 2) := by decide +kernel
theorem dX12_ask_438 : decode cX12_ask 438 = .ok (.iload 4, 2) := by decide +kernel
theorem dX12_ask_440 : decode cX12_ask 440 = .ok (.iastore, 1) := by decide +kernel
theorem dX12_ask_441 : decode cX12_ask 441 = .ok (.aload_n 0, 1) := by decide +kernel
theorem dX12_ask_442 : decode cX12_ask 442 = .ok (.getfield 229, 3) := by decide +kernel
theorem dX12_ask_445 : decode cX12_ask 445 = .ok (.iload 7, 2) := by decide +kernel
theorem dX12_ask_447 : decode cX12_ask 447 = .ok (.iload 5, 2) := by decide +kernel
theorem dX12_ask_449 : decode cX12_ask 449 = .ok (.iastore, 1) := by decide +kernel
theorem dX12_ask_450 : decode cX12_ask 450 = .ok (.aload_n 0, 1) := by decide +kernel
theorem dX12_ask_451 : decode cX12_ask 451 = .ok (.iload 8, 2) := by decide +kernel
theorem dX12_ask_453 : decode cX12_ask 453 = .ok (.iload 9, 2) := by decide +kernel
theorem dX12_ask_455 : decode cX12_ask 455 = .ok (.iload_n 3, 1) := by decide +kernel
theorem dX12_ask_456 : decode cX12_ask 456 = .ok (.iconst 1, 1) := by decide +kernel
theorem dX12_ask_457 : decode cX12_ask 457 = .ok (.invokevirtual 612, 3) := by decide +kernel
theorem dX12_ask_460 : decode cX12_ask 460 = .ok (.iload 7, 2) := by decide +kernel
theorem dX12_ask_462 : decode cX12_ask 462 = .ok (.ireturn, 1) := by decide +kernel
theorem dX12_mark_0 : decode cX12_mark 0 = .ok (.iload_n 2, 1) := by decide +kernel
theorem dX12_mark_1 : decode cX12_mark 1 = .ok (.istore 5, 2) := by decide +kernel
theorem dX12_mark_3 : decode cX12_mark 3 = .ok (.iload 5, 2) := by decide +kernel
theorem dX12_mark_5 : decode cX12_mark 5 = .ok (.iload_n 2, 1) := by decide +kernel
theorem dX12_mark_6 : decode cX12_mark 6 = .ok (.iload_n 3, 1) := by decide +kernel
theorem dX12_mark_7 : decode cX12_mark 7 = .ok (.iadd, 1) := by decide +kernel
theorem dX12_mark_8 : decode cX12_mark 8 = .ok (.if_icmp .ge 23, 3) := by decide +kernel
theorem dX12_mark_11 : decode cX12_mark 11 = .ok (.aload_n 0, 1) := by decide +kernel
theorem dX12_mark_12 : decode cX12_mark 12 = .ok (.getfield 202, 3) := by decide +kernel
theorem dX12_mark_15 : decode cX12_mark 15 = .ok (.bipush 30, 2) := by decide +kernel
theorem dX12_mark_17 : decode cX12_mark 17 = .ok (.iload_n 1, 1) := by decide +kernel
theorem dX12_mark_18 : decode cX12_mark 18 = .ok (.imul, 1) := by decide +kernel
theorem dX12_mark_19 : decode cX12_mark 19 = .ok (.iload 5, 2) := by decide +kernel
theorem dX12_mark_21 : decode cX12_mark 21 = .ok (.iadd, 1) := by decide +kernel
theorem dX12_mark_22 : decode cX12_mark 22 = .ok (.iload 4, 2) := by decide +kernel
theorem dX12_mark_24 : decode cX12_mark 24 = .ok (.iastore, 1) := by decide +kernel
theorem dX12_mark_25 : decode cX12_mark 25 = .ok (.iinc 5 1, 3) := by decide +kernel
theorem dX12_mark_28 : decode cX12_mark 28 = .ok (.goto (-25), 3) := by decide +kernel
theorem dX12_mark_31 : decode cX12_mark 31 = .ok (.return_, 1) := by decide +kernel
theorem dX12_frees_0 : decode cX12_frees 0 = .ok (.aload_n 0, 1) := by decide +kernel
theorem dX12_frees_1 : decode cX12_frees 1 = .ok (.getfield 208, 3) := by decide +kernel
theorem dX12_frees_4 : decode cX12_frees 4 = .ok (.iload_n 1, 1) := by decide +kernel
theorem dX12_frees_5 : decode cX12_frees 5 = .ok (.iconst 0, 1) := by decide +kernel
theorem dX12_frees_6 : decode cX12_frees 6 = .ok (.bastore, 1) := by decide +kernel
theorem dX12_frees_7 : decode cX12_frees 7 = .ok (.aload_n 0, 1) := by decide +kernel
theorem dX12_frees_8 : decode cX12_frees 8 = .ok (.aload_n 0, 1) := by decide +kernel
theorem dX12_frees_9 : decode cX12_frees 9 = .ok (.getfield 211, 3) := by decide +kernel
theorem dX12_frees_12 : decode cX12_frees 12 = .ok (.iload_n 1, 1) := by decide +kernel
theorem dX12_frees_13 : decode cX12_frees 13 = .ok (.iaload, 1) := by decide +kernel
theorem dX12_frees_14 : decode cX12_frees 14 = .ok (.aload_n 0, 1) := by decide +kernel
theorem dX12_frees_15 : decode cX12_frees 15 = .ok (.getfield 214, 3) := by decide +kernel
theorem dX12_frees_18 : decode cX12_frees 18 = .ok (.iload_n 1, 1) := by decide +kernel
theorem dX12_frees_19 : decode cX12_frees 19 = .ok (.iaload, 1) := by decide +kernel
theorem dX12_frees_20 : decode cX12_frees 20 = .ok (.aload_n 0, 1) := by decide +kernel
theorem dX12_frees_21 : decode cX12_frees 21 = .ok (.getfield 217, 3) := by decide +kernel
theorem dX12_frees_24 : decode cX12_frees 24 = .ok (.iload_n 1, 1) := by decide +kernel
theorem dX12_frees_25 : decode cX12_frees 25 = .ok (.iaload, 1) := by decide +kernel
theorem dX12_frees_26 : decode cX12_frees 26 = .ok (.iconst 0, 1) := by decide +kernel
theorem dX12_frees_27 : decode cX12_frees 27 = .ok (.invokevirtual 612, 3) := by decide +kernel
theorem dX12_frees_30 : decode cX12_frees 30 = .ok (.return_, 1) := by decide +kernel
theorem dX12_isHold_0 : decode cX12_isHold 0 = .ok (.iload_n 1, 1) := by decide +kernel
theorem dX12_isHold_1 : decode cX12_isHold 1 = .ok (.ifCond .lt 22, 3) := by decide +kernel
theorem dX12_isHold_4 : decode cX12_isHold 4 = .ok (.iload_n 1, 1) := by decide +kernel
theorem dX12_isHold_5 : decode cX12_isHold 5 = .ok (.bipush 60, 2) := by decide +kernel
theorem dX12_isHold_7 : decode cX12_isHold 7 = .ok (.if_icmp .ge 16, 3) := by decide +kernel
theorem dX12_isHold_10 : decode cX12_isHold 10 = .ok (.aload_n 0, 1) := by decide +kernel
theorem dX12_isHold_11 : decode cX12_isHold 11 = .ok (.getfield 208, 3) := by decide +kernel
theorem dX12_isHold_14 : decode cX12_isHold 14 = .ok (.iload_n 1, 1) := by decide +kernel
theorem dX12_isHold_15 : decode cX12_isHold 15 = .ok (.baload, 1) := by decide +kernel
theorem dX12_isHold_16 : decode cX12_isHold 16 = .ok (.ifCond .eq 7, 3) := by decide +kernel
theorem dX12_isHold_19 : decode cX12_isHold 19 = .ok (.iconst 1, 1) := by decide +kernel
theorem dX12_isHold_20 : decode cX12_isHold 20 = .ok (.goto 4, 3) := by decide +kernel
theorem dX12_isHold_23 : decode cX12_isHold 23 = .ok (.iconst 0, 1) := by decide +kernel
theorem dX12_isHold_24 : decode cX12_isHold 24 = .ok (.ireturn, 1) := by decide +kernel
theorem dX12_priceOfHold_0 : decode cX12_priceOfHold 0 = .ok (.aload_n 0, 1) := by decide +kernel
theorem dX12_priceOfHold_1 : decode cX12_priceOfHold 1 = .ok (.aload_n 0, 1) := by decide +kernel
theorem dX12_priceOfHold_2 : decode cX12_priceOfHold 2 = .ok (.getfield 223, 3) := by decide +kernel
theorem dX12_priceOfHold_5 : decode cX12_priceOfHold 5 = .ok (.iload_n 1, 1) := by decide +kernel
theorem dX12_priceOfHold_6 : decode cX12_priceOfHold 6 = .ok (.iaload, 1) := by decide +kernel
theorem dX12_priceOfHold_7 : decode cX12_priceOfHold 7 = .ok (.aload_n 0, 1) := by decide +kernel
theorem dX12_priceOfHold_8 : decode cX12_priceOfHold 8 = .ok (.getfield 217, 3) := by decide +kernel
theorem dX12_priceOfHold_11 : decode cX12_priceOfHold 11 = .ok (.iload_n 1, 1) := by decide +kernel
theorem dX12_priceOfHold_12 : decode cX12_priceOfHold 12 = .ok (.iaload, 1) := by decide +kernel
theorem dX12_priceOfHold_13 : decode cX12_priceOfHold 13 = .ok (.aload_n 0, 1) := by decide +kernel
theorem dX12_priceOfHold_14 : decode cX12_priceOfHold 14 = .ok (.getfield 226, 3) := by decide +kernel
theorem dX12_priceOfHold_17 : decode cX12_priceOfHold 17 = .ok (.iload_n 1, 1) := by decide +kernel
theorem dX12_priceOfHold_18 : decode cX12_priceOfHold 18 = .ok (.iaload, 1) := by decide +kernel
theorem dX12_priceOfHold_19 : decode cX12_priceOfHold 19 = .ok (.aload_n 0, 1) := by decide +kernel
theorem dX12_priceOfHold_20 : decode cX12_priceOfHold 20 = .ok (.getfield 229, 3) := by decide +kernel
theorem dX12_priceOfHold_23 : decode cX12_priceOfHold 23 = .ok (.iload_n 1, 1) := by decide +kernel
theorem dX12_priceOfHold_24 : decode cX12_priceOfHold 24 = .ok (.iaload, 1) := by decide +kernel
theorem dX12_priceOfHold_25 : decode cX12_priceOfHold 25 = .ok (.invokevirtual 616, 3) := by decide +kernel
theorem dX12_priceOfHold_28 : decode cX12_priceOfHold 28 = .ok (.l2i, 1) := by decide +kernel
theorem dX12_priceOfHold_29 : decode cX12_priceOfHold 29 = .ok (.ireturn, 1) := by decide +kernel
theorem dX12_hold_0 : decode cX12_hold 0 = .ok (.aload_n 0, 1) := by decide +kernel
theorem dX12_hold_1 : decode cX12_hold 1 = .ok (.iload_n 1, 1) := by decide +kernel
theorem dX12_hold_2 : decode cX12_hold 2 = .ok (.invokevirtual 620, 3) := by decide +kernel
theorem dX12_hold_5 : decode cX12_hold 5 = .ok (.ifCond .ne 5, 3) := by decide +kernel
theorem dX12_hold_8 : decode cX12_hold 8 = .ok (.iconst (-1), 1) := by decide +kernel
theorem dX12_hold_9 : decode cX12_hold 9 = .ok (.ireturn, 1) := by decide +kernel
theorem dX12_hold_10 : decode cX12_hold 10 = .ok (.iload_n 2, 1) := by decide +kernel
theorem dX12_hold_11 : decode cX12_hold 11 = .ok (.ifCond .ne 12, 3) := by decide +kernel
theorem dX12_hold_14 : decode cX12_hold 14 = .ok (.aload_n 0, 1) := by decide +kernel
theorem dX12_hold_15 : decode cX12_hold 15 = .ok (.getfield 211, 3) := by decide +kernel
theorem dX12_hold_18 : decode cX12_hold 18 = .ok (.iload_n 1, 1) := by decide +kernel
theorem dX12_hold_19 : decode cX12_hold 19 = .ok (.iaload, 1) := by decide +kernel
theorem dX12_hold_20 : decode cX12_hold 20 = .ok (.goto 59, 3) := by decide +kernel
theorem dX12_hold_23 : decode cX12_hold 23 = .ok (.iload_n 2, 1) := by decide +kernel
theorem dX12_hold_24 : decode cX12_hold 24 = .ok (.iconst 1, 1) := by decide +kernel
theorem dX12_hold_25 : decode cX12_hold 25 = .ok (.if_icmp .ne 12, 3) := by decide +kernel
theorem dX12_hold_28 : decode cX12_hold 28 = .ok (.aload_n 0, 1) := by decide +kernel
theorem dX12_hold_29 : decode cX12_hold 29 = .ok (.getfield 214, 3) := by decide +kernel
theorem dX12_hold_32 : decode cX12_hold 32 = .ok (.iload_n 1, 1) := by decide +kernel
theorem dX12_hold_33 : decode cX12_hold 33 = .ok (.iaload, 1) := by decide +kernel
theorem dX12_hold_34 : decode cX12_hold 34 = .ok (.goto 45, 3) := by decide +kernel
theorem dX12_hold_37 : decode cX12_hold 37 = .ok (.iload_n 2, 1) := by decide +kernel
theorem dX12_hold_38 : decode cX12_hold 38 = .ok (.iconst 2, 1) := by decide +kernel
theorem dX12_hold_39 : decode cX12_hold 39 = .ok (.if_icmp .ne 12, 3) := by decide +kernel
theorem dX12_hold_42 : decode cX12_hold 42 = .ok (.aload_n 0, 1) := by decide +kernel
theorem dX12_hold_43 : decode cX12_hold 43 = .ok (.getfield 217, 3) := by decide +kernel
theorem dX12_hold_46 : decode cX12_hold 46 = .ok (.iload_n 1, 1) := by decide +kernel
theorem dX12_hold_47 : decode cX12_hold 47 = .ok (.iaload, 1) := by decide +kernel
theorem dX12_hold_48 : decode cX12_hold 48 = .ok (.goto 31, 3) := by decide +kernel
theorem dX12_hold_51 : decode cX12_hold 51 = .ok (.iload_n 2, 1) := by decide +kernel
theorem dX12_hold_52 : decode cX12_hold 52 = .ok (.iconst 3, 1) := by decide +kernel
theorem dX12_hold_53 : decode cX12_hold 53 = .ok (.if_icmp .ne 11, 3) := by decide +kernel
theorem dX12_hold_56 : decode cX12_hold 56 = .ok (.aload_n 0, 1) := by decide +kernel
theorem dX12_hold_57 : decode cX12_hold 57 = .ok (.iload_n 1, 1) := by decide +kernel
theorem dX12_hold_58 : decode cX12_hold 58 = .ok (.invokevirtual 623, 3) := by decide +kernel
theorem dX12_hold_61 : decode cX12_hold 61 = .ok (.goto 18, 3) := by decide +kernel
theorem dX12_hold_64 : decode cX12_hold 64 = .ok (.iload_n 2, 1) := by decide +kernel
theorem dX12_hold_65 : decode cX12_hold 65 = .ok (.iconst 4, 1) := by decide +kernel
theorem dX12_hold_66 : decode cX12_hold 66 = .ok (.if_icmp .ne 12, 3) := by decide +kernel
theorem dX12_hold_69 : decode cX12_hold 69 = .ok (.aload_n 0, 1) := by decide +kernel
theorem dX12_hold_70 : decode cX12_hold 70 = .ok (.getfield 220, 3) := by decide +kernel
theorem dX12_hold_73 : decode cX12_hold 73 = .ok (.iload_n 1, 1) := by decide +kernel
theorem dX12_hold_74 : decode cX12_hold 74 = .ok (.iaload, 1) := by decide +kernel
theorem dX12_hold_75 : decode cX12_hold 75 = .ok (.goto 4, 3) := by decide +kernel
theorem dX12_hold_78 : decode cX12_hold 78 = .ok (.iconst (-1), 1) := by decide +kernel
theorem dX12_hold_79 : decode cX12_hold 79 = .ok (.ireturn, 1) := by decide +kernel
theorem dX12_pay_0 : decode cX12_pay 0 = .ok (.aload_n 0, 1) := by decide +kernel
theorem dX12_pay_1 : decode cX12_pay 1 = .ok (.iload_n 1, 1) := by decide +kernel
theorem dX12_pay_2 : decode cX12_pay 2 = .ok (.invokevirtual 620, 3) := by decide +kernel
theorem dX12_pay_5 : decode cX12_pay 5 = .ok (.ifCond .eq 22, 3) := by decide +kernel
theorem dX12_pay_8 : decode cX12_pay 8 = .ok (.iload_n 2, 1) := by decide +kernel
theorem dX12_pay_9 : decode cX12_pay 9 = .ok (.aload_n 0, 1) := by decide +kernel
theorem dX12_pay_10 : decode cX12_pay 10 = .ok (.iload_n 1, 1) := by decide +kernel
theorem dX12_pay_11 : decode cX12_pay 11 = .ok (.invokevirtual 623, 3) := by decide +kernel
theorem dX12_pay_14 : decode cX12_pay 14 = .ok (.if_icmp .ne 13, 3) := by decide +kernel
theorem dX12_pay_17 : decode cX12_pay 17 = .ok (.aload_n 0, 1) := by decide +kernel
theorem dX12_pay_18 : decode cX12_pay 18 = .ok (.getfield 626, 3) := by decide +kernel
theorem dX12_pay_21 : decode cX12_pay 21 = .ok (.sipush 300, 3) := by decide +kernel
theorem dX12_pay_24 : decode cX12_pay 24 = .ok (.if_icmp .ne 5, 3) := by decide +kernel
theorem dX12_pay_27 : decode cX12_pay 27 = .ok (.iconst (-1), 1) := by decide +kernel
theorem dX12_pay_28 : decode cX12_pay 28 = .ok (.ireturn, 1) := by decide +kernel
theorem dX12_pay_29 : decode cX12_pay 29 = .ok (.aload_n 0, 1) := by decide +kernel
theorem dX12_pay_30 : decode cX12_pay 30 = .ok (.getfield 626, 3) := by decide +kernel
theorem dX12_pay_33 : decode cX12_pay 33 = .ok (.istore_n 3, 1) := by decide +kernel
theorem dX12_pay_34 : decode cX12_pay 34 = .ok (.aload_n 0, 1) := by decide +kernel
theorem dX12_pay_35 : decode cX12_pay 35 = .ok (.dup, 1) := by decide +kernel
theorem dX12_pay_36 : decode cX12_pay 36 = .ok (.getfield 626, 3) := by decide +kernel
theorem dX12_pay_39 : decode cX12_pay 39 = .ok (.iconst 1, 1) := by decide +kernel
theorem dX12_pay_40 : decode cX12_pay 40 = .ok (.iadd, 1) := by decide +kernel
theorem dX12_pay_41 : decode cX12_pay 41 = .ok (.putfield 626, 3) := by decide +kernel
theorem dX12_pay_44 : decode cX12_pay 44 = .ok (.aload_n 0, 1) := by decide +kernel
theorem dX12_pay_45 : decode cX12_pay 45 = .ok (.getfield 232, 3) := by decide +kernel
theorem dX12_pay_48 : decode cX12_pay 48 = .ok (.iload_n 3, 1) := by decide +kernel
theorem dX12_pay_49 : decode cX12_pay 49 = .ok (.aload_n 0, 1) := by decide +kernel
theorem dX12_pay_50 : decode cX12_pay 50 = .ok (.getfield 211, 3) := by decide +kernel
theorem dX12_pay_53 : decode cX12_pay 53 = .ok (.iload_n 1, 1) := by decide +kernel
theorem dX12_pay_54 : decode cX12_pay 54 = .ok (.iaload, 1) := by decide +kernel
theorem dX12_pay_55 : decode cX12_pay 55 = .ok (.iastore, 1) := by decide +kernel
theorem dX12_pay_56 : decode cX12_pay 56 = .ok (.aload_n 0, 1) := by decide +kernel
theorem dX12_pay_57 : decode cX12_pay 57 = .ok (.getfield 235, 3) := by decide +kernel
theorem dX12_pay_60 : decode cX12_pay 60 = .ok (.iload_n 3, 1) := by decide +kernel
theorem dX12_pay_61 : decode cX12_pay 61 = .ok (.aload_n 0, 1) := by decide +kernel
theorem dX12_pay_62 : decode cX12_pay 62 = .ok (.getfield 214, 3) := by decide +kernel
theorem dX12_pay_65 : decode cX12_pay 65 = .ok (.iload_n 1, 1) := by decide +kernel
theorem dX12_pay_66 : decode cX12_pay 66 = .ok (.iaload, 1) := by decide +kernel
theorem dX12_pay_67 : decode cX12_pay 67 = .ok (.iastore, 1) := by decide +kernel
theorem dX12_pay_68 : decode cX12_pay 68 = .ok (.aload_n 0, 1) := by decide +kernel
theorem dX12_pay_69 : decode cX12_pay 69 = .ok (.getfield 238, 3) := by decide +kernel
theorem dX12_pay_72 : decode cX12_pay 72 = .ok (.iload_n 3, 1) := by decide +kernel
theorem dX12_pay_73 : decode cX12_pay 73 = .ok (.aload_n 0, 1) := by decide +kernel
theorem dX12_pay_74 : decode cX12_pay 74 = .ok (.getfield 217, 3) := by decide +kernel
theorem dX12_pay_77 : decode cX12_pay 77 = .ok (.iload_n 1, 1) := by decide +kernel
theorem dX12_pay_78 : decode cX12_pay 78 = .ok (.iaload, 1) := by decide +kernel
theorem dX12_pay_79 : decode cX12_pay 79 = .ok (.iastore, 1) := by decide +kernel
theorem dX12_pay_80 : decode cX12_pay 80 = .ok (.aload_n 0, 1) := by decide +kernel
theorem dX12_pay_81 : decode cX12_pay 81 = .ok (.getfield 241, 3) := by decide +kernel
theorem dX12_pay_84 : decode cX12_pay 84 = .ok (.iload_n 3, 1) := by decide +kernel
theorem dX12_pay_85 : decode cX12_pay 85 = .ok (.iload_n 2, 1) := by decide +kernel
theorem dX12_pay_86 : decode cX12_pay 86 = .ok (.iastore, 1) := by decide +kernel
theorem dX12_pay_87 : decode cX12_pay 87 = .ok (.aload_n 0, 1) := by decide +kernel
theorem dX12_pay_88 : decode cX12_pay 88 = .ok (.getfield 208, 3) := by decide +kernel
theorem dX12_pay_91 : decode cX12_pay 91 = .ok (.iload_n 1, 1) := by decide +kernel
theorem dX12_pay_92 : decode cX12_pay 92 = .ok (.iconst 0, 1) := by decide +kernel
theorem dX12_pay_93 : decode cX12_pay 93 = .ok (.bastore, 1) := by decide +kernel
theorem dX12_pay_94 : decode cX12_pay 94 = .ok (.aload_n 0, 1) := by decide +kernel
theorem dX12_pay_95 : decode cX12_pay 95 = .ok (.aload_n 0, 1) := by decide +kernel
theorem dX12_pay_96 : decode cX12_pay 96 = .ok (.getfield 211, 3) := by decide +kernel
theorem dX12_pay_99 : decode cX12_pay 99 = .ok (.iload_n 1, 1) := by decide +kernel
theorem dX12_pay_100 : decode cX12_pay 100 = .ok (.iaload, 1) := by decide +kernel
theorem dX12_pay_101 : decode cX12_pay 101 = .ok (.aload_n 0, 1) := by decide +kernel
theorem dX12_pay_102 : decode cX12_pay 102 = .ok (.getfield 214, 3) := by decide +kernel
theorem dX12_pay_105 : decode cX12_pay 105 = .ok (.iload_n 1, 1) := by decide +kernel
theorem dX12_pay_106 : decode cX12_pay 106 = .ok (.iaload, 1) := by decide +kernel
theorem dX12_pay_107 : decode cX12_pay 107 = .ok (.aload_n 0, 1) := by decide +kernel
theorem dX12_pay_108 : decode cX12_pay 108 = .ok (.getfield 217, 3) := by decide +kernel
theorem dX12_pay_111 : decode cX12_pay 111 = .ok (.iload_n 1, 1) := by decide +kernel
theorem dX12_pay_112 : decode cX12_pay 112 = .ok (.iaload, 1) := by decide +kernel
theorem dX12_pay_113 : decode cX12_pay 113 = .ok (.iconst 2, 1) := by decide +kernel
theorem dX12_pay_114 : decode cX12_pay 114 = .ok (.invokevirtual 612, 3) := by decide +kernel
theorem dX12_pay_117 : decode cX12_pay 117 = .ok (.aload_n 0, 1) := by decide +kernel
theorem dX12_pay_118 : decode cX12_pay 118 = .ok (.dup, 1) := by decide +kernel
theorem dX12_pay_119 : decode cX12_pay 119 = .ok (.getfield 629, 3) := by decide +kernel
theorem dX12_pay_122 : decode cX12_pay 122 = .ok (.iload_n 2, 1) := by decide +kernel
theorem dX12_pay_123 : decode cX12_pay 123 = .ok (.i2l, 1) := by decide +kernel
theorem dX12_pay_124 : decode cX12_pay 124 = .ok (.ladd, 1) := by decide +kernel
theorem dX12_pay_125 : decode cX12_pay 125 = .ok (.putfield 629, 3) := by decide +kernel
theorem dX12_pay_128 : decode cX12_pay 128 = .ok (.iload_n 3, 1) := by decide +kernel
theorem dX12_pay_129 : decode cX12_pay 129 = .ok (.ireturn, 1) := by decide +kernel
theorem dX12_give_0 : decode cX12_give 0 = .ok (.aload_n 0, 1) := by decide +kernel
theorem dX12_give_1 : decode cX12_give 1 = .ok (.iload_n 1, 1) := by decide +kernel
theorem dX12_give_2 : decode cX12_give 2 = .ok (.invokevirtual 620, 3) := by decide +kernel
theorem dX12_give_5 : decode cX12_give 5 = .ok (.ifCond .ne 5, 3) := by decide +kernel
theorem dX12_give_8 : decode cX12_give 8 = .ok (.iconst 0, 1) := by decide +kernel
theorem dX12_give_9 : decode cX12_give 9 = .ok (.ireturn, 1) := by decide +kernel
theorem dX12_give_10 : decode cX12_give 10 = .ok (.aload_n 0, 1) := by decide +kernel
theorem dX12_give_11 : decode cX12_give 11 = .ok (.iload_n 1, 1) := by decide +kernel
theorem dX12_give_12 : decode cX12_give 12 = .ok (.invokevirtual 583, 3) := by decide +kernel
theorem dX12_give_15 : decode cX12_give 15 = .ok (.iconst 1, 1) := by decide +kernel
theorem dX12_give_16 : decode cX12_give 16 = .ok (.ireturn, 1) := by decide +kernel
theorem dX12_isTicket_0 : decode cX12_isTicket 0 = .ok (.iload_n 1, 1) := by decide +kernel
theorem dX12_isTicket_1 : decode cX12_isTicket 1 = .ok (.ifCond .lt 33, 3) := by decide +kernel
theorem dX12_isTicket_4 : decode cX12_isTicket 4 = .ok (.iload_n 1, 1) := by decide +kernel
theorem dX12_isTicket_5 : decode cX12_isTicket 5 = .ok (.aload_n 0, 1) := by decide +kernel
theorem dX12_isTicket_6 : decode cX12_isTicket 6 = .ok (.getfield 626, 3) := by decide +kernel
theorem dX12_isTicket_9 : decode cX12_isTicket 9 = .ok (.if_icmp .ge 25, 3) := by decide +kernel
theorem dX12_isTicket_12 : decode cX12_isTicket 12 = .ok (.aload_n 0, 1) := by decide +kernel
theorem dX12_isTicket_13 : decode cX12_isTicket 13 = .ok (.getfield 244, 3) := by decide +kernel
theorem dX12_isTicket_16 : decode cX12_isTicket 16 = .ok (.iload_n 1, 1) := by decide +kernel
theorem dX12_isTicket_17 : decode cX12_isTicket 17 = .ok (.baload, 1) := by decide +kernel
theorem dX12_isTicket_18 : decode cX12_isTicket 18 = .ok (.ifCond .ne 16, 3) := by decide +kernel
theorem dX12_isTicket_21 : decode cX12_isTicket 21 = .ok (.aload_n 0, 1) := by decide +kernel
theorem dX12_isTicket_22 : decode cX12_isTicket 22 = .ok (.getfield 247, 3) := by decide +kernel
theorem dX12_isTicket_25 : decode cX12_isTicket 25 = .ok (.iload_n 1, 1) := by decide +kernel
theorem dX12_isTicket_26 : decode cX12_isTicket 26 = .ok (.baload, 1) := by decide +kernel
theorem dX12_isTicket_27 : decode cX12_isTicket 27 = .ok (.ifCond .ne 7, 3) := by decide +kernel
theorem dX12_isTicket_30 : decode cX12_isTicket 30 = .ok (.iconst 1, 1) := by decide +kernel
theorem dX12_isTicket_31 : decode cX12_isTicket 31 = .ok (.goto 4, 3) := by decide +kernel
theorem dX12_isTicket_34 : decode cX12_isTicket 34 = .ok (.iconst 0, 1) := by decide +kernel
theorem dX12_isTicket_35 : decode cX12_isTicket 35 = .ok (.ireturn, 1) := by decide +kernel
theorem dX12_back_0 : decode cX12_back 0 = .ok (.aload_n 0, 1) := by decide +kernel
theorem dX12_back_1 : decode cX12_back 1 = .ok (.iload_n 2, 1) := by decide +kernel
theorem dX12_back_2 : decode cX12_back 2 = .ok (.invokevirtual 633, 3) := by decide +kernel
theorem dX12_back_5 : decode cX12_back 5 = .ok (.ifCond .eq 21, 3) := by decide +kernel
theorem dX12_back_8 : decode cX12_back 8 = .ok (.iload_n 1, 1) := by decide +kernel
theorem dX12_back_9 : decode cX12_back 9 = .ok (.ifCond .lt 17, 3) := by decide +kernel
theorem dX12_back_12 : decode cX12_back 12 = .ok (.iload_n 1, 1) := by decide +kernel
theorem dX12_back_13 : decode cX12_back 13 = .ok (.iconst 3, 1) := by decide +kernel
theorem dX12_back_14 : decode cX12_back 14 = .ok (.if_icmp .gt 12, 3) := by decide +kernel
theorem dX12_back_17 : decode cX12_back 17 = .ok (.aload_n 0, 1) := by decide +kernel
theorem dX12_back_18 : decode cX12_back 18 = .ok (.getfield 205, 3) := by decide +kernel
theorem dX12_back_21 : decode cX12_back 21 = .ok (.iload_n 1, 1) := by decide +kernel
theorem dX12_back_22 : decode cX12_back 22 = .ok (.baload, 1) := by decide +kernel
theorem dX12_back_23 : decode cX12_back 23 = .ok (.ifCond .ne 5, 3) := by decide +kernel
theorem dX12_back_26 : decode cX12_back 26 = .ok (.iconst (-1), 1) := by decide +kernel
theorem dX12_back_27 : decode cX12_back 27 = .ok (.ireturn, 1) := by decide +kernel
theorem dX12_back_28 : decode cX12_back 28 = .ok (.aload_n 0, 1) := by decide +kernel
theorem dX12_back_29 : decode cX12_back 29 = .ok (.getfield 244, 3) := by decide +kernel
theorem dX12_back_32 : decode cX12_back 32 = .ok (.iload_n 2, 1) := by decide +kernel
theorem dX12_back_33 : decode cX12_back 33 = .ok (.iconst 1, 1) := by decide +kernel
theorem dX12_back_34 : decode cX12_back 34 = .ok (.bastore, 1) := by decide +kernel
theorem dX12_back_35 : decode cX12_back 35 = .ok (.aload_n 0, 1) := by decide +kernel
theorem dX12_back_36 : decode cX12_back 36 = .ok (.aload_n 0, 1) := by decide +kernel
theorem dX12_back_37 : decode cX12_back 37 = .ok (.getfield 232, 3) := by decide +kernel
theorem dX12_back_40 : decode cX12_back 40 = .ok (.iload_n 2, 1) := by decide +kernel
theorem dX12_back_41 : decode cX12_back 41 = .ok (.iaload, 1) := by decide +kernel
theorem dX12_back_42 : decode cX12_back 42 = .ok (.aload_n 0, 1) := by decide +kernel
theorem dX12_back_43 : decode cX12_back 43 = .ok (.getfield 235, 3) := by decide +kernel
theorem dX12_back_46 : decode cX12_back 46 = .ok (.iload_n 2, 1) := by decide +kernel
theorem dX12_back_47 : decode cX12_back 47 = .ok (.iaload, 1) := by decide +kernel
theorem dX12_back_48 : decode cX12_back 48 = .ok (.aload_n 0, 1) := by decide +kernel
theorem dX12_back_49 : decode cX12_back 49 = .ok (.getfield 238, 3) := by decide +kernel
theorem dX12_back_52 : decode cX12_back 52 = .ok (.iload_n 2, 1) := by decide +kernel
theorem dX12_back_53 : decode cX12_back 53 = .ok (.iaload, 1) := by decide +kernel
theorem dX12_back_54 : decode cX12_back 54 = .ok (.iconst 0, 1) := by decide +kernel
theorem dX12_back_55 : decode cX12_back 55 = .ok (.invokevirtual 612, 3) := by decide +kernel
theorem dX12_back_58 : decode cX12_back 58 = .ok (.aload_n 0, 1) := by decide +kernel
theorem dX12_back_59 : decode cX12_back 59 = .ok (.dup, 1) := by decide +kernel
theorem dX12_back_60 : decode cX12_back 60 = .ok (.getfield 629, 3) := by decide +kernel
theorem dX12_back_63 : decode cX12_back 63 = .ok (.aload_n 0, 1) := by decide +kernel
theorem dX12_back_64 : decode cX12_back 64 = .ok (.getfield 241, 3) := by decide +kernel
theorem dX12_back_67 : decode cX12_back 67 = .ok (.iload_n 2, 1) := by decide +kernel
theorem dX12_back_68 : decode cX12_back 68 = .ok (.iaload, 1) := by decide +kernel
theorem dX12_back_69 : decode cX12_back 69 = .ok (.i2l, 1) := by decide +kernel
theorem dX12_back_70 : decode cX12_back 70 = .ok (.lsub, 1) := by decide +kernel
theorem dX12_back_71 : decode cX12_back 71 = .ok (.putfield 629, 3) := by decide +kernel
theorem dX12_back_74 : decode cX12_back 74 = .ok (.aload_n 0, 1) := by decide +kernel
theorem dX12_back_75 : decode cX12_back 75 = .ok (.getfield 241, 3) := by decide +kernel
theorem dX12_back_78 : decode cX12_back 78 = .ok (.iload_n 2, 1) := by decide +kernel
theorem dX12_back_79 : decode cX12_back 79 = .ok (.iaload, 1) := by decide +kernel
theorem dX12_back_80 : decode cX12_back 80 = .ok (.ireturn, 1) := by decide +kernel
theorem dX12_enter_0 : decode cX12_enter 0 = .ok (.aload_n 0, 1) := by decide +kernel
theorem dX12_enter_1 : decode cX12_enter 1 = .ok (.iload_n 1, 1) := by decide +kernel
theorem dX12_enter_2 : decode cX12_enter 2 = .ok (.invokevirtual 633, 3) := by decide +kernel
theorem dX12_enter_5 : decode cX12_enter 5 = .ok (.ifCond .ne 5, 3) := by decide +kernel
theorem dX12_enter_8 : decode cX12_enter 8 = .ok (.iconst (-1), 1) := by decide +kernel
theorem dX12_enter_9 : decode cX12_enter 9 = .ok (.ireturn, 1) := by decide +kernel
theorem dX12_enter_10 : decode cX12_enter 10 = .ok (.aload_n 0, 1) := by decide +kernel
theorem dX12_enter_11 : decode cX12_enter 11 = .ok (.getfield 247, 3) := by decide +kernel
theorem dX12_enter_14 : decode cX12_enter 14 = .ok (.iload_n 1, 1) := by decide +kernel
theorem dX12_enter_15 : decode cX12_enter 15 = .ok (.iconst 1, 1) := by decide +kernel
theorem dX12_enter_16 : decode cX12_enter 16 = .ok (.bastore, 1) := by decide +kernel
theorem dX12_enter_17 : decode cX12_enter 17 = .ok (.aload_n 0, 1) := by decide +kernel
theorem dX12_enter_18 : decode cX12_enter 18 = .ok (.getfield 238, 3) := by decide +kernel
theorem dX12_enter_21 : decode cX12_enter 21 = .ok (.iload_n 1, 1) := by decide +kernel
theorem dX12_enter_22 : decode cX12_enter 22 = .ok (.iaload, 1) := by decide +kernel
theorem dX12_enter_23 : decode cX12_enter 23 = .ok (.ireturn, 1) := by decide +kernel
